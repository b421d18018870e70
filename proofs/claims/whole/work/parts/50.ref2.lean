/-! the reference: what it picks -/
theorem enc_neg {v : Nat} (hv : v < 2 ^ 31) : enc v < 0 ↔ v = 0 := by
  constructor
  · intro h
    rcases Nat.eq_zero_or_pos v with q | q
    · exact q
    · rw [enc, if_neg (by omega)] at h
      exact absurd h (nn (by omega))
  · rintro rfl; decide
theorem enc_pos {v : Nat} (h : ¬ v = 0) : enc v = nI (v - 1) := by rw [enc, if_neg h]
def sbl (σ : q_S) (p R : Nat) : Nat → Nat → Nat
  | 0, _ => 0
  | d + 1, k => if k < R then (if sfr σ (sP σ p (1 + k)) then sP σ p (1 + k) else sbl σ p R d (k + 1)) else 0
theorem sbl_bet {σ : q_S} (hw : WFc σ) {p : Nat} (hp : p < sN σ 2) : sbl σ p (if sP σ p 0 = 0 then 0 else srank σ p) 3 0 = sbet σ p := by
  obtain ⟨x0, x1, x2, x3, x4, x5, x6, x7, x8, x9⟩ := hw.pr p
  have x9 := x9 hp
  unfold sbet
  by_cases h0 : sP σ p 0 = 0
  · rw [if_pos h0, if_pos h0]; rfl
  rw [if_neg h0, if_neg h0]
  show (if 0 < srank σ p then (if sfr σ (sP σ p 1) then sP σ p 1 else if 1 < srank σ p then (if sfr σ (sP σ p 2) then sP σ p 2 else if 2 < srank σ p then (if sfr σ (sP σ p 3) then sP σ p 3 else 0) else 0) else 0) else 0) = _
  by_cases h4 : sP σ p 4 = 0
  · rw [show srank σ p = 4 by rw [srank, if_pos h4], h4]
    rw [if_pos (show (0 : Nat) < 4 by omega), if_pos (show (1 : Nat) < 4 by omega), if_pos (show (2 : Nat) < 4 by omega), if_neg x9]
    by_cases f1 : sfr σ (sP σ p 1)
    · rw [if_pos f1, if_pos f1]
    rw [if_neg f1, if_neg f1]
    by_cases h2 : sP σ p 2 = 0
    · rw [if_pos h2, if_neg (show ¬ sfr σ (sP σ p 2) from fun z => z.1 h2), if_neg (show ¬ sfr σ (sP σ p 3) from fun z => z.1 (x8 h2))]
    rw [if_neg h2]
    by_cases f2 : sfr σ (sP σ p 2)
    · rw [if_pos f2, if_pos f2]
    rw [if_neg f2, if_neg f2]
    by_cases h3 : sP σ p 3 = 0
    · rw [if_pos h3, if_neg (show ¬ sfr σ (sP σ p 3) from fun z => z.1 h3)]
    rw [if_neg h3]
  · by_cases e1 : sP σ p 1 = sP σ p 4
    · rw [show srank σ p = 0 by rw [srank, if_neg h4, if_pos e1.symm], if_pos e1, if_neg (show ¬ (0 : Nat) < 0 by omega)]
    rw [if_neg e1]
    by_cases e2 : sP σ p 2 = sP σ p 4
    · rw [show srank σ p = 1 by rw [srank, if_neg h4, if_neg (fun z => e1 z.symm), if_pos e2.symm], if_pos e2, if_pos (show (0 : Nat) < 1 by omega), if_neg (show ¬ (1 : Nat) < 1 by omega)]
    rw [if_neg e2]
    by_cases e3 : sP σ p 3 = sP σ p 4
    · rw [show srank σ p = 2 by rw [srank, if_neg h4, if_neg (fun z => e1 z.symm), if_neg (fun z => e2 z.symm), if_pos e3.symm], if_pos e3, if_pos (show (0 : Nat) < 2 by omega), if_pos (show (1 : Nat) < 2 by omega), if_neg (show ¬ (2 : Nat) < 2 by omega)]
    rw [if_neg e3, show srank σ p = 3 by rw [srank, if_neg h4, if_neg (fun z => e1 z.symm), if_neg (fun z => e2 z.symm), if_neg (fun z => e3 z.symm)], if_pos (show (0 : Nat) < 3 by omega), if_pos (show (1 : Nat) < 3 by omega), if_pos (show (2 : Nat) < 3 by omega)]
theorem r_better {p : Nat} {I : q_Mem} {σ : q_S} (h : RS I σ) (hw : WFc σ) (hp : p < sN σ 2) : q_M kX7_better [.ref 356, .int (nI p)] I (fun v J => v = some (.int (enc (sbet σ p))) ∧ I = J) := by
  have h30 := hw.B.2.2.1
  have h8 := hw.B.1
  obtain ⟨x0, x1, x2, x3, x4, -⟩ := hw.pr p
  have key : ∀ (R d k : Nat) (o4 : Option Value), R ≤ 4 → k + d = 3 → sbl σ p R d k = sbet σ p → q_X kX7_better 20 [some (.ref 356), some (.int (nI p)), some (.int (nI R)), some (.int (nI k)), o4] [] I (fun v J => v = some (.int (enc (sbet σ p))) ∧ I = J) := by
    intro R d
    induction d with
    | zero =>
      intro k o4 hR hd he
      have he : 0 = sbet σ p := he
      refine q_iload_n dX7_better_20 rfl ?_
      refine q_iload_n dX7_better_21 rfl ?_
      refine q_icmp_geN (tgt := 67) (by omega) (by omega) dX7_better_22 (by decide) (fun q => ?_) (fun q => ?_)
      · refine q_iconst (v := -1) dX7_better_67 (by decide) ?_
        exact q_iret rfl rfl dX7_better_68 ⟨by rw [← he]; rfl, rfl⟩
      refine q_iload_n dX7_better_25 rfl ?_
      refine q_iconst (v := nI 3) dX7_better_26 (by decide) ?_
      refine q_icmp_geN (tgt := 67) (by omega) (by omega) dX7_better_27 (by decide) (fun q2 => ?_) (fun q2 => ?_)
      · refine q_iconst (v := -1) dX7_better_67 (by decide) ?_
        exact q_iret rfl rfl dX7_better_68 ⟨by rw [← he]; rfl, rfl⟩
      · omega
    | succ d ih =>
      intro k o4 hR hd he
      rw [sbl] at he
      refine q_iload_n dX7_better_20 rfl ?_
      refine q_iload_n dX7_better_21 rfl ?_
      refine q_icmp_geN (tgt := 67) (by omega) (by omega) dX7_better_22 (by decide) (fun q => ?_) (fun q => ?_)
      · rw [if_neg (by omega)] at he
        refine q_iconst (v := -1) dX7_better_67 (by decide) ?_
        exact q_iret rfl rfl dX7_better_68 ⟨by rw [← he]; rfl, rfl⟩
      rw [if_pos q] at he
      refine q_iload_n dX7_better_25 rfl ?_
      refine q_iconst (v := nI 3) dX7_better_26 (by decide) ?_
      refine q_icmp_geN (tgt := 67) (by omega) (by omega) dX7_better_27 (by decide) (fun q2 => ?_) (fun q2 => ?_)
      · omega
      refine q_aload_n dX7_better_30 rfl ?_
      refine q_getR2 (b := 357) fl_RX7_7 rfl k356 rfl dX7_better_31 ?_
      refine q_iload_n dX7_better_34 rfl ?_
      refine q_iconst (v := nI 1) dX7_better_35 (by decide) ?_
      refine q_iload_n dX7_better_36 rfl ?_
      refine q_iadd dX7_better_37 ?_
      rw [nI_add]
      refine q_cS (as := [_, _]) lk_RX7_36 r_of rfl (by decide) (Nat.le_of_ble_eq_true rfl) dX7_better_38 ?_
      rintro v J ⟨rfl, rfl⟩
      have hb : sP σ p (1 + k) ≤ sN σ 0 := by
        have hk3 : k = 0 ∨ k = 1 ∨ k = 2 := by omega
        rcases hk3 with rfl | rfl | rfl
        · exact x1
        · exact x2
        · exact x3
      have hpe : penc (1 + k) (sP σ p (1 + k)) = enc (sP σ p (1 + k)) := if_pos (by omega)
      refine q_iald k357 rfl (lt357 (by omega)) (by decide) ((h.p hp (j := 1 + k) (by omega)).trans hpe) dX7_better_41 ?_
      refine q_istore (ls' := [_, _, _, _, _]) dX7_better_42 (Nat.le_of_ble_eq_true rfl) rfl ?_
      refine q_iload dX7_better_44 rfl ?_
      have hneg := enc_neg (v := sP σ p (1 + k)) (by omega)
      by_cases e : sP σ p (1 + k) = 0
      · rw [if_neg (fun z => z.1 e)] at he
        refine q_if_lt (tgt := 61) dX7_better_46 (by decide) (fun q3 => ?_) (fun q3 => ?_)
        · refine q_iinc (ls' := [_, _, _, _, _]) dX7_better_61 rfl (nI_add _ 1) rfl ?_
          refine q_goto (tgt := 20) dX7_better_64 (by decide) ?_
          exact ih (k + 1) _ hR (by omega) he
        · exact absurd (hneg.mpr e) q3
      · refine q_if_lt (tgt := 61) dX7_better_46 (by decide) (fun q3 => ?_) (fun q3 => ?_)
        · exact absurd (hneg.mp q3) e
        rw [enc_pos e]
        refine q_aload_n dX7_better_49 rfl ?_
        refine q_iload dX7_better_50 rfl ?_
        refine q_cV (as := [_]) lk_RX7_60 (r_hasFree h hw (c := sP σ p (1 + k) - 1) (by omega)) (Or.inl ⟨6, by decide, k356, rfl⟩) rfl (by decide) (Nat.le_of_ble_eq_true rfl) dX7_better_52 ?_
        rintro v J ⟨rfl, rfl⟩
        by_cases f : sC σ (sP σ p (1 + k) - 1) 6 = 1 ∧ sLen σ (sP σ p (1 + k) - 1) < sC σ (sP σ p (1 + k) - 1) 4
        · rw [if_pos (show sfr σ (sP σ p (1 + k)) from ⟨e, f⟩)] at he
          rw [if_pos f]
          refine q_if_eq (tgt := 61) dX7_better_55 (by decide) (fun q4 => ?_) (fun q4 => ?_)
          · exact absurd q4 (by decide)
          · refine q_iload dX7_better_58 rfl ?_
            exact q_iret rfl rfl dX7_better_60 ⟨by rw [← he, enc_pos e], rfl⟩
        · rw [if_neg (show ¬ sfr σ (sP σ p (1 + k)) from fun z => f z.2)] at he
          rw [if_neg f]
          refine q_if_eq (tgt := 61) dX7_better_55 (by decide) (fun q4 => ?_) (fun q4 => ?_)
          · refine q_iinc (ls' := [_, _, _, _, _]) dX7_better_61 rfl (nI_add _ 1) rfl ?_
            refine q_goto (tgt := 20) dX7_better_64 (by decide) ?_
            exact ih (k + 1) _ hR (by omega) he
          · exact absurd rfl q4
  have hsb := sbl_bet hw hp
  refine q_M.of pnX7_better (by simp [Value.category]) (Nat.le_of_ble_eq_true rfl) ?_
  refine q_aload_n dX7_better_0 rfl ?_
  refine q_iload_n dX7_better_1 rfl ?_
  refine q_cV (as := [_]) lk_RX7_54 (r_isHere h hw hp) (Or.inl ⟨6, by decide, k356, rfl⟩) rfl (by decide) (Nat.le_of_ble_eq_true rfl) dX7_better_2 ?_
  rintro v J ⟨rfl, rfl⟩
  by_cases e : sP σ p 0 = 0
  · rw [if_pos e] at hsb ⊢
    refine q_if_eq (tgt := 16) dX7_better_5 (by decide) (fun q => ?_) (fun q => ?_)
    · refine q_iconst (v := nI 0) dX7_better_16 (by decide) ?_
      refine q_istore_n (ls' := [_, _, _, _, _]) dX7_better_17 (Nat.le_of_ble_eq_true rfl) rfl ?_
      refine q_iconst (v := nI 0) dX7_better_18 (by decide) ?_
      refine q_istore_n (ls' := [_, _, _, _, _]) dX7_better_19 (Nat.le_of_ble_eq_true rfl) rfl ?_
      exact key 0 3 0 _ (by omega) rfl hsb
    · exact absurd rfl q
  · rw [if_neg e] at hsb ⊢
    refine q_if_eq (tgt := 16) dX7_better_5 (by decide) (fun q => ?_) (fun q => ?_)
    · exact absurd q (by decide)
    refine q_aload_n dX7_better_8 rfl ?_
    refine q_iload_n dX7_better_9 rfl ?_
    refine q_cV (as := [_]) lk_RX7_57 (r_rank h hw hp) (Or.inl ⟨6, by decide, k356, rfl⟩) rfl (by decide) (Nat.le_of_ble_eq_true rfl) dX7_better_10 ?_
    rintro v J ⟨rfl, rfl⟩
    refine q_goto (tgt := 17) dX7_better_13 (by decide) ?_
    refine q_istore_n (ls' := [_, _, _, _, _]) dX7_better_17 (Nat.le_of_ble_eq_true rfl) rfl ?_
    refine q_iconst (v := nI 0) dX7_better_18 (by decide) ?_
    refine q_istore_n (ls' := [_, _, _, _, _]) dX7_better_19 (Nat.le_of_ble_eq_true rfl) rfl ?_
    exact key (srank σ p) 3 0 _ (srank_le σ p) rfl hsb
theorem r_levels {c d : Nat} {I : q_Mem} {σ : q_S} (h : RS I σ) (hw : WFc σ) (hc : c < sN σ 0) (hd : d < sN σ 0) : q_M kX7_levelsApart [.ref 356, .int (nI c), .int (nI d)] I (fun v J => v = some (.int (nI (slv σ c d))) ∧ I = J) := by
  have h8 := hw.B.1
  have hc1 := (hw.cr (show c < 8 by omega)).2.1
  have hd1 := (hw.cr (show d < 8 by omega)).2.1
  refine q_M.of pnX7_levelsApart (by simp [Value.category]) (Nat.le_of_ble_eq_true rfl) ?_
  refine q_aload_n dX7_levelsApart_0 rfl ?_
  refine q_getR2 (b := 357) fl_RX7_7 rfl k356 rfl dX7_levelsApart_1 ?_
  refine q_iload_n dX7_levelsApart_4 rfl ?_
  refine q_iconst (v := nI 1) dX7_levelsApart_5 (by decide) ?_
  refine q_cS (as := [_, _]) lk_RX7_40 r_at rfl (by decide) (Nat.le_of_ble_eq_true rfl) dX7_levelsApart_6 ?_
  rintro v J ⟨rfl, rfl⟩
  refine q_iald k357 rfl (lt357 (by omega)) (by decide) (h.c hc (j := 1) (by omega)) dX7_levelsApart_9 ?_
  refine q_aload_n dX7_levelsApart_10 rfl ?_
  refine q_getR2 (b := 357) fl_RX7_7 rfl k356 rfl dX7_levelsApart_11 ?_
  refine q_iload_n dX7_levelsApart_14 rfl ?_
  refine q_iconst (v := nI 1) dX7_levelsApart_15 (by decide) ?_
  refine q_cS (as := [_, _]) lk_RX7_40 r_at rfl (by decide) (Nat.le_of_ble_eq_true rfl) dX7_levelsApart_16 ?_
  rintro v J ⟨rfl, rfl⟩
  refine q_iald k357 rfl (lt357 (by omega)) (by decide) (h.c hd (j := 1) (by omega)) dX7_levelsApart_19 ?_
  refine q_isub dX7_levelsApart_20 ?_
  refine q_istore_n (ls' := [_, _, _, _]) dX7_levelsApart_21 (Nat.le_of_ble_eq_true rfl) rfl ?_
  refine q_iload_n dX7_levelsApart_22 rfl ?_
  rw [show cenc 1 (sC σ c 1) = nI (sC σ c 1) from rfl, show cenc 1 (sC σ d 1) = nI (sC σ d 1) from rfl]
  have hz : ∀ a, a < 4 → ∀ b, b < 4 → (0 ≤ nI a - nI b → nI a - nI b = nI (if a > b then a - b else b - a)) ∧ (¬ 0 ≤ nI a - nI b → -(nI a - nI b) = nI (if a > b then a - b else b - a)) := by decide
  obtain ⟨z1, z2⟩ := hz _ hc1 _ hd1
  refine q_if_ge (tgt := 31) dX7_levelsApart_23 (by decide) (fun q => ?_) (fun q => ?_)
  · refine q_iload_n dX7_levelsApart_31 rfl ?_
    exact q_iret rfl rfl dX7_levelsApart_32 ⟨by rw [slv, z1 q], rfl⟩
  · refine q_iload_n dX7_levelsApart_26 rfl ?_
    refine q_ineg dX7_levelsApart_27 ?_
    refine q_goto (tgt := 32) dX7_levelsApart_28 (by decide) ?_
    exact q_iret rfl rfl dX7_levelsApart_32 ⟨by rw [slv, z2 q], rfl⟩
theorem ssm_pad {σ : q_S} (h : WFc σ) : ssm σ (sN σ 0) = ssm σ 8 := by
  have : ∀ d, ssm σ (sN σ 0 + d) = ssm σ (sN σ 0) := by
    intro d
    induction d with
    | zero => rfl
    | succ d ih =>
      have := (h.2.2.1 (sN σ 0 + d) (by omega)).1
      rw [show sN σ 0 + (d + 1) = sN σ 0 + d + 1 by omega, ssm, if_neg (fun z => by omega), ih]
  have h8 := h.B.1
  rw [← this (8 - sN σ 0), show sN σ 0 + (8 - sN σ 0) = 8 by omega]
theorem sgr_pad {σ : q_S} (h : WFc σ) : sgr σ (sN σ 0) = sgr σ 8 := by
  have : ∀ d, sgr σ (sN σ 0 + d) = sgr σ (sN σ 0) := by
    intro d
    induction d with
    | zero => rfl
    | succ d ih =>
      have := (h.2.2.1 (sN σ 0 + d) (by omega)).1
      rw [show sN σ 0 + (d + 1) = sN σ 0 + d + 1 by omega, sgr, if_neg (fun z => by omega), ih]
  have h8 := h.B.1
  rw [← this (8 - sN σ 0), show sN σ 0 + (8 - sN σ 0) = 8 by omega]
theorem sgb_pad {σ : q_S} (h : WFc σ) (r e : Nat) : sgb σ r e (sN σ 0) = sgb σ r e 8 := by
  have : ∀ d, sgb σ r e (sN σ 0 + d) = sgb σ r e (sN σ 0) := by
    intro d
    induction d with
    | zero => rfl
    | succ d ih =>
      have := (h.2.2.1 (sN σ 0 + d) (by omega)).2.1
      have e0 : decide (sC σ (sN σ 0 + d) 7 = r + 1) = false := decide_eq_false (by omega)
      rw [show sN σ 0 + (d + 1) = sN σ 0 + d + 1 by omega, sgb, ih, e0]; simp
  have h8 := h.B.1
  rw [← this (8 - sN σ 0), show sN σ 0 + (8 - sN σ 0) = 8 by omega]
theorem r_smallest {I : q_Mem} {σ : q_S} (h : RS I σ) (hw : WFc σ) : q_M kX7_smallest [.ref 356] I (fun v J => v = some (.int (enc (ssm σ 8))) ∧ I = J) := by
  have h8 := hw.B.1
  have key : ∀ (d k : Nat) (o3 : Option Value), k + d = sN σ 0 → q_X kX7_smallest 4 [some (.ref 356), some (.int (enc (ssm σ k))), some (.int (nI k)), o3] [] I (fun v J => v = some (.int (enc (ssm σ 8))) ∧ I = J) := by
    intro d
    induction d with
    | zero =>
      intro k o3 hd
      obtain rfl : k = sN σ 0 := by omega
      refine q_iload_n dX7_smallest_4 rfl ?_
      refine q_aload_n dX7_smallest_5 rfl ?_
      refine q_getR2 (b := 357) fl_RX7_7 rfl k356 rfl dX7_smallest_6 ?_
      refine q_iconst (v := nI 0) dX7_smallest_9 (by decide) ?_
      refine q_iald k357 rfl (lt357 (by omega)) (by decide) h.n0 dX7_smallest_10 ?_
      refine q_icmp_geN (tgt := 79) (by omega) (by omega) dX7_smallest_11 (by decide) (fun q => ?_) (fun q => ?_)
      · refine q_iload_n dX7_smallest_79 rfl ?_
        exact q_iret rfl rfl dX7_smallest_80 ⟨by rw [ssm_pad hw], rfl⟩
      · omega
    | succ d ih =>
      intro k o3 hd
      have hk : k < sN σ 0 := by omega
      have h3 := (hw.cr (show k < 8 by omega)).2.2.2.1
      have hl := hw.len k
      have hle := ssm_le σ k
      have fin : ∀ (x : Int32) (o3 : Option Value), x = enc (ssm σ (k + 1)) → q_X kX7_smallest 72 [some (.ref 356), some (.int (enc (ssm σ k))), some (.int (nI k)), o3] [.int x] I (fun v J => v = some (.int (enc (ssm σ 8))) ∧ I = J) := by
        intro x o3 hx
        subst hx
        refine q_istore_n (ls' := [_, _, _, _]) dX7_smallest_72 (Nat.le_of_ble_eq_true rfl) rfl ?_
        refine q_iinc (ls' := [_, _, _, _]) dX7_smallest_73 rfl (nI_add _ 1) rfl ?_
        refine q_goto (tgt := 4) dX7_smallest_76 (by decide) ?_
        exact ih (k + 1) _ (by omega)
      have no : ¬ (sC σ k 6 = 1 ∧ sLen σ k < sC σ k 3) → ∀ o3, q_X kX7_smallest 44 [some (.ref 356), some (.int (enc (ssm σ k))), some (.int (nI k)), o3] [] I (fun v J => v = some (.int (enc (ssm σ 8))) ∧ I = J) := by
        intro hn o3
        refine q_iconst (v := nI 0) dX7_smallest_44 (by decide) ?_
        refine q_istore_n (ls' := [_, _, _, _]) dX7_smallest_45 (Nat.le_of_ble_eq_true rfl) rfl ?_
        refine q_iload_n dX7_smallest_46 rfl ?_
        refine q_if_eq (tgt := 71) dX7_smallest_47 (by decide) (fun q => ?_) (fun q => ?_)
        · refine q_iload_n dX7_smallest_71 rfl ?_
          exact fin _ _ (by rw [ssm, if_neg (fun z => hn ⟨z.1, z.2.1⟩)])
        · exact absurd rfl q
      refine q_iload_n dX7_smallest_4 rfl ?_
      refine q_aload_n dX7_smallest_5 rfl ?_
      refine q_getR2 (b := 357) fl_RX7_7 rfl k356 rfl dX7_smallest_6 ?_
      refine q_iconst (v := nI 0) dX7_smallest_9 (by decide) ?_
      refine q_iald k357 rfl (lt357 (by omega)) (by decide) h.n0 dX7_smallest_10 ?_
      refine q_icmp_geN (tgt := 79) (by omega) (by omega) dX7_smallest_11 (by decide) (fun q => ?_) (fun q => ?_)
      · omega
      refine q_aload_n dX7_smallest_14 rfl ?_
      refine q_iload_n dX7_smallest_15 rfl ?_
      refine q_cV (as := [_]) lk_RX7_43 (r_isOpen h hw hk) (Or.inl ⟨6, by decide, k356, rfl⟩) rfl (by decide) (Nat.le_of_ble_eq_true rfl) dX7_smallest_16 ?_
      rintro v J ⟨rfl, rfl⟩
      by_cases e : sC σ k 6 = 1
      case neg =>
        rw [if_neg e]
        refine q_if_eq (tgt := 44) dX7_smallest_19 (by decide) (fun q2 => ?_) (fun q2 => ?_)
        · exact no (fun z => e z.1) _
        · exact absurd rfl q2
      rw [if_pos e]
      refine q_if_eq (tgt := 44) dX7_smallest_19 (by decide) (fun q2 => ?_) (fun q2 => ?_)
      · exact absurd q2 (by decide)
      refine q_aload_n dX7_smallest_22 rfl ?_
      refine q_iload_n dX7_smallest_23 rfl ?_
      refine q_cV (as := [_]) lk_RX7_47 (r_people h hw.B hk) (Or.inl ⟨6, by decide, k356, rfl⟩) rfl (by decide) (Nat.le_of_ble_eq_true rfl) dX7_smallest_24 ?_
      rintro v J ⟨rfl, rfl⟩
      refine q_aload_n dX7_smallest_27 rfl ?_
      refine q_getR2 (b := 357) fl_RX7_7 rfl k356 rfl dX7_smallest_28 ?_
      refine q_iload_n dX7_smallest_31 rfl ?_
      refine q_iconst (v := nI 3) dX7_smallest_32 (by decide) ?_
      refine q_cS (as := [_, _]) lk_RX7_40 r_at rfl (by decide) (Nat.le_of_ble_eq_true rfl) dX7_smallest_33 ?_
      rintro v J ⟨rfl, rfl⟩
      refine q_iald k357 rfl (lt357 (by omega)) (by decide) (h.c hk (j := 3) (by omega)) dX7_smallest_36 ?_
      rw [show cenc 3 (sC σ k 3) = nI (sC σ k 3) from rfl]
      refine q_icmp_geN (tgt := 44) (by omega) (by omega) dX7_smallest_37 (by decide) (fun q3 => ?_) (fun q3 => ?_)
      · exact no (fun z => by omega) _
      refine q_iconst (v := nI 1) dX7_smallest_40 (by decide) ?_
      refine q_goto (tgt := 45) dX7_smallest_41 (by decide) ?_
      refine q_istore_n (ls' := [_, _, _, _]) dX7_smallest_45 (Nat.le_of_ble_eq_true rfl) rfl ?_
      refine q_iload_n dX7_smallest_46 rfl ?_
      refine q_if_eq (tgt := 71) dX7_smallest_47 (by decide) (fun q4 => ?_) (fun q4 => ?_)
      · exact absurd q4 (by decide)
      refine q_iload_n dX7_smallest_50 rfl ?_
      have hneg := enc_neg (v := ssm σ k) (by omega)
      by_cases f : ssm σ k = 0
      · refine q_if_lt (tgt := 67) dX7_smallest_51 (by decide) (fun q5 => ?_) (fun q5 => ?_)
        · refine q_iload_n dX7_smallest_67 rfl ?_
          refine q_goto (tgt := 72) dX7_smallest_68 (by decide) ?_
          exact fin _ _ (by rw [ssm, if_pos ⟨e, q3, Or.inl f⟩]; rfl)
        · exact absurd (hneg.mpr f) q5
      · refine q_if_lt (tgt := 67) dX7_smallest_51 (by decide) (fun q5 => ?_) (fun q5 => ?_)
        · exact absurd (hneg.mp q5) f
        refine q_aload_n dX7_smallest_54 rfl ?_
        refine q_iload_n dX7_smallest_55 rfl ?_
        refine q_cV (as := [_]) lk_RX7_47 (r_people h hw.B hk) (Or.inl ⟨6, by decide, k356, rfl⟩) rfl (by decide) (Nat.le_of_ble_eq_true rfl) dX7_smallest_56 ?_
        rintro v J ⟨rfl, rfl⟩
        rw [enc_pos f]
        refine q_aload_n dX7_smallest_59 rfl ?_
        refine q_iload_n dX7_smallest_60 rfl ?_
        have hl2 := hw.len (ssm σ k - 1)
        refine q_cV (as := [_]) lk_RX7_47 (r_people h hw.B (c := ssm σ k - 1) (by omega)) (Or.inl ⟨6, by decide, k356, rfl⟩) rfl (by decide) (Nat.le_of_ble_eq_true rfl) dX7_smallest_61 ?_
        rintro v J ⟨rfl, rfl⟩
        rw [← enc_pos f]
        refine q_icmp_geN (tgt := 71) (by omega) (by omega) dX7_smallest_64 (by decide) (fun q6 => ?_) (fun q6 => ?_)
        · refine q_iload_n dX7_smallest_71 rfl ?_
          exact fin _ _ (by rw [ssm, if_neg (fun z => by rcases z.2.2 with z | z <;> omega)])
        · refine q_iload_n dX7_smallest_67 rfl ?_
          refine q_goto (tgt := 72) dX7_smallest_68 (by decide) ?_
          exact fin _ _ (by rw [ssm, if_pos ⟨e, q3, Or.inr q6⟩]; rfl)
  refine q_M.of pnX7_smallest (by simp [Value.category]) (Nat.le_of_ble_eq_true rfl) ?_
  refine q_iconst (v := -1) dX7_smallest_0 (by decide) ?_
  refine q_istore_n (ls' := [_, _, _, _]) dX7_smallest_1 (Nat.le_of_ble_eq_true rfl) rfl ?_
  refine q_iconst (v := nI 0) dX7_smallest_2 (by decide) ?_
  refine q_istore_n (ls' := [_, _, _, _]) dX7_smallest_3 (Nat.le_of_ble_eq_true rfl) rfl ?_
  exact key (sN σ 0) 0 _ (by omega)
theorem r_greatest {I : q_Mem} {σ : q_S} (h : RS I σ) (hw : WFc σ) : q_M kX7_greatest [.ref 356] I (fun v J => v = some (.int (enc (sgr σ 8))) ∧ I = J) := by
  have h8 := hw.B.1
  have key : ∀ (d k : Nat), k + d = sN σ 0 → q_X kX7_greatest 4 [some (.ref 356), some (.int (enc (sgr σ k))), some (.int (nI k))] [] I (fun v J => v = some (.int (enc (sgr σ 8))) ∧ I = J) := by
    intro d
    induction d with
    | zero =>
      intro k hd
      obtain rfl : k = sN σ 0 := by omega
      refine q_iload_n dX7_greatest_4 rfl ?_
      refine q_aload_n dX7_greatest_5 rfl ?_
      refine q_getR2 (b := 357) fl_RX7_7 rfl k356 rfl dX7_greatest_6 ?_
      refine q_iconst (v := nI 0) dX7_greatest_9 (by decide) ?_
      refine q_iald k357 rfl (lt357 (by omega)) (by decide) h.n0 dX7_greatest_10 ?_
      refine q_icmp_geN (tgt := 51) (by omega) (by omega) dX7_greatest_11 (by decide) (fun q => ?_) (fun q => ?_)
      · refine q_iload_n dX7_greatest_51 rfl ?_
        exact q_iret rfl rfl dX7_greatest_52 ⟨by rw [sgr_pad hw], rfl⟩
      · omega
    | succ d ih =>
      intro k hd
      have hk : k < sN σ 0 := by omega
      have hl := hw.len k
      have hle := sgr_le σ k
      have fin : ∀ (x : Int32), x = enc (sgr σ (k + 1)) → q_X kX7_greatest 44 [some (.ref 356), some (.int (enc (sgr σ k))), some (.int (nI k))] [.int x] I (fun v J => v = some (.int (enc (sgr σ 8))) ∧ I = J) := by
        intro x hx
        subst hx
        refine q_istore_n (ls' := [_, _, _]) dX7_greatest_44 (Nat.le_of_ble_eq_true rfl) rfl ?_
        refine q_iinc (ls' := [_, _, _]) dX7_greatest_45 rfl (nI_add _ 1) rfl ?_
        refine q_goto (tgt := 4) dX7_greatest_48 (by decide) ?_
        exact ih (k + 1) (by omega)
      refine q_iload_n dX7_greatest_4 rfl ?_
      refine q_aload_n dX7_greatest_5 rfl ?_
      refine q_getR2 (b := 357) fl_RX7_7 rfl k356 rfl dX7_greatest_6 ?_
      refine q_iconst (v := nI 0) dX7_greatest_9 (by decide) ?_
      refine q_iald k357 rfl (lt357 (by omega)) (by decide) h.n0 dX7_greatest_10 ?_
      refine q_icmp_geN (tgt := 51) (by omega) (by omega) dX7_greatest_11 (by decide) (fun q => ?_) (fun q => ?_)
      · omega
      refine q_aload_n dX7_greatest_14 rfl ?_
      refine q_iload_n dX7_greatest_15 rfl ?_
      refine q_cV (as := [_]) lk_RX7_43 (r_isOpen h hw hk) (Or.inl ⟨6, by decide, k356, rfl⟩) rfl (by decide) (Nat.le_of_ble_eq_true rfl) dX7_greatest_16 ?_
      rintro v J ⟨rfl, rfl⟩
      by_cases e : sC σ k 6 = 1
      case neg =>
        rw [if_neg e]
        refine q_if_eq (tgt := 43) dX7_greatest_19 (by decide) (fun q2 => ?_) (fun q2 => ?_)
        · refine q_iload_n dX7_greatest_43 rfl ?_
          exact fin _ (by rw [sgr, if_neg (fun z => e z.1)])
        · exact absurd rfl q2
      rw [if_pos e]
      refine q_if_eq (tgt := 43) dX7_greatest_19 (by decide) (fun q2 => ?_) (fun q2 => ?_)
      · exact absurd q2 (by decide)
      refine q_iload_n dX7_greatest_22 rfl ?_
      have hneg := enc_neg (v := sgr σ k) (by omega)
      by_cases f : sgr σ k = 0
      · refine q_if_lt (tgt := 39) dX7_greatest_23 (by decide) (fun q5 => ?_) (fun q5 => ?_)
        · refine q_iload_n dX7_greatest_39 rfl ?_
          refine q_goto (tgt := 44) dX7_greatest_40 (by decide) ?_
          exact fin _ (by rw [sgr, if_pos ⟨e, Or.inl f⟩]; rfl)
        · exact absurd (hneg.mpr f) q5
      · refine q_if_lt (tgt := 39) dX7_greatest_23 (by decide) (fun q5 => ?_) (fun q5 => ?_)
        · exact absurd (hneg.mp q5) f
        refine q_aload_n dX7_greatest_26 rfl ?_
        refine q_iload_n dX7_greatest_27 rfl ?_
        refine q_cV (as := [_]) lk_RX7_47 (r_people h hw.B hk) (Or.inl ⟨6, by decide, k356, rfl⟩) rfl (by decide) (Nat.le_of_ble_eq_true rfl) dX7_greatest_28 ?_
        rintro v J ⟨rfl, rfl⟩
        rw [enc_pos f]
        refine q_aload_n dX7_greatest_31 rfl ?_
        refine q_iload_n dX7_greatest_32 rfl ?_
        have hl2 := hw.len (sgr σ k - 1)
        refine q_cV (as := [_]) lk_RX7_47 (r_people h hw.B (c := sgr σ k - 1) (by omega)) (Or.inl ⟨6, by decide, k356, rfl⟩) rfl (by decide) (Nat.le_of_ble_eq_true rfl) dX7_greatest_33 ?_
        rintro v J ⟨rfl, rfl⟩
        rw [← enc_pos f]
        refine q_icmp_leN (tgt := 43) (by omega) (by omega) dX7_greatest_36 (by decide) (fun q6 => ?_) (fun q6 => ?_)
        · refine q_iload_n dX7_greatest_43 rfl ?_
          exact fin _ (by rw [sgr, if_neg (fun z => by rcases z.2 with z | z <;> omega)])
        · refine q_iload_n dX7_greatest_39 rfl ?_
          refine q_goto (tgt := 44) dX7_greatest_40 (by decide) ?_
          exact fin _ (by rw [sgr, if_pos ⟨e, Or.inr q6⟩]; rfl)
  refine q_M.of pnX7_greatest (by simp [Value.category]) (Nat.le_of_ble_eq_true rfl) ?_
  refine q_iconst (v := -1) dX7_greatest_0 (by decide) ?_
  refine q_istore_n (ls' := [_, _, _]) dX7_greatest_1 (Nat.le_of_ble_eq_true rfl) rfl ?_
  refine q_iconst (v := nI 0) dX7_greatest_2 (by decide) ?_
  refine q_istore_n (ls' := [_, _, _]) dX7_greatest_3 (Nat.le_of_ble_eq_true rfl) rfl ?_
  exact key (sN σ 0) 0 (by omega)
theorem r_isTaken {r e : Nat} {I : q_Mem} {σ : q_S} (h : RS I σ) (hw : WFc σ) (hr : r < 2 ^ 30) (he : e < 2 ^ 30) : q_M kX7_isTaken [.ref 356, .int (nI r), .int (nI e)] I (fun v J => v = some (.int (if sgb σ r e 8 = true then 1 else 0)) ∧ I = J) := by
  have h8 := hw.B.1
  have key : ∀ (d k : Nat), k + d = sN σ 0 → q_X kX7_isTaken 5 [some (.ref 356), some (.int (nI r)), some (.int (nI e)), some (.int (if sgb σ r e k = true then 1 else 0)), some (.int (nI k))] [] I (fun v J => v = some (.int (if sgb σ r e 8 = true then 1 else 0)) ∧ I = J) := by
    intro d
    induction d with
    | zero =>
      intro k hd
      obtain rfl : k = sN σ 0 := by omega
      refine q_iload dX7_isTaken_5 rfl ?_
      refine q_aload_n dX7_isTaken_7 rfl ?_
      refine q_getR2 (b := 357) fl_RX7_7 rfl k356 rfl dX7_isTaken_8 ?_
      refine q_iconst (v := nI 0) dX7_isTaken_11 (by decide) ?_
      refine q_iald k357 rfl (lt357 (by omega)) (by decide) h.n0 dX7_isTaken_12 ?_
      refine q_icmp_geN (tgt := 63) (by omega) (by omega) dX7_isTaken_13 (by decide) (fun q => ?_) (fun q => ?_)
      · refine q_iload_n dX7_isTaken_63 rfl ?_
        exact q_iret rfl bool_if dX7_isTaken_64 ⟨by rw [sgb_pad hw], rfl⟩
      · omega
    | succ d ih =>
      intro k hd
      have hk : k < sN σ 0 := by omega
      obtain ⟨x0, x1, x2, x3, x4, x5, x6, x7, x8, x9, x10⟩ := hw.cr (show k < 8 by omega)
      have fin : ∀ (x : Int32) (o3 : Option Value), x = (if sgb σ r e (k + 1) = true then 1 else 0) → q_X kX7_isTaken 56 [some (.ref 356), some (.int (nI r)), some (.int (nI e)), o3, some (.int (nI k))] [.int x] I (fun v J => v = some (.int (if sgb σ r e 8 = true then 1 else 0)) ∧ I = J) := by
        intro x o3 hx
        subst hx
        refine q_istore_n (ls' := [_, _, _, _, _]) dX7_isTaken_56 (Nat.le_of_ble_eq_true rfl) rfl ?_
        refine q_iinc (ls' := [_, _, _, _, _]) dX7_isTaken_57 rfl (nI_add _ 1) rfl ?_
        refine q_goto (tgt := 5) dX7_isTaken_60 (by decide) ?_
        exact ih (k + 1) (by omega)
      refine q_iload dX7_isTaken_5 rfl ?_
      refine q_aload_n dX7_isTaken_7 rfl ?_
      refine q_getR2 (b := 357) fl_RX7_7 rfl k356 rfl dX7_isTaken_8 ?_
      refine q_iconst (v := nI 0) dX7_isTaken_11 (by decide) ?_
      refine q_iald k357 rfl (lt357 (by omega)) (by decide) h.n0 dX7_isTaken_12 ?_
      refine q_icmp_geN (tgt := 63) (by omega) (by omega) dX7_isTaken_13 (by decide) (fun q => ?_) (fun q => ?_)
      · omega
      refine q_iload_n dX7_isTaken_16 rfl ?_
      cases g : sgb σ r e k with
      | true =>
        refine q_if_ne (tgt := 51) dX7_isTaken_17 (by decide) (fun q2 => ?_) (fun q2 => ?_)
        · refine q_iconst (v := nI 1) dX7_isTaken_51 (by decide) ?_
          refine q_goto (tgt := 56) dX7_isTaken_52 (by decide) ?_
          exact fin _ _ (by rw [sgb, g]; rfl)
        · exact absurd q2 (by decide)
      | false =>
        refine q_if_ne (tgt := 51) dX7_isTaken_17 (by decide) (fun q2 => ?_) (fun q2 => ?_)
        · exact absurd rfl q2
        refine q_aload_n dX7_isTaken_20 rfl ?_
        refine q_getR2 (b := 357) fl_RX7_7 rfl k356 rfl dX7_isTaken_21 ?_
        refine q_iload dX7_isTaken_24 rfl ?_
        refine q_bipush (v := nI 7) dX7_isTaken_26 (by decide) ?_
        refine q_cS (as := [_, _]) lk_RX7_40 r_at rfl (by decide) (Nat.le_of_ble_eq_true rfl) dX7_isTaken_28 ?_
        rintro v J ⟨rfl, rfl⟩
        refine q_iald k357 rfl (lt357 (by omega)) (by decide) (h.c hk (j := 7) (by omega)) dX7_isTaken_31 ?_
        refine q_iload_n dX7_isTaken_32 rfl ?_
        have hz : cenc 7 (sC σ k 7) = nI r ↔ sC σ k 7 = r + 1 := enc_nI (by omega) (by omega)
        refine q_icmp_ne (tgt := 55) dX7_isTaken_33 (by decide) (fun q3 => ?_) (fun q3 => ?_)
        · refine q_iconst (v := nI 0) dX7_isTaken_55 (by decide) ?_
          exact fin _ _ (by rw [sgb, g, show decide (sC σ k 7 = r + 1) = false from decide_eq_false (fun z => q3 (hz.mpr z))]; rfl)
        refine q_aload_n dX7_isTaken_36 rfl ?_
        refine q_getR2 (b := 357) fl_RX7_7 rfl k356 rfl dX7_isTaken_37 ?_
        refine q_iload dX7_isTaken_40 rfl ?_
        refine q_iconst (v := nI 2) dX7_isTaken_42 (by decide) ?_
        refine q_cS (as := [_, _]) lk_RX7_40 r_at rfl (by decide) (Nat.le_of_ble_eq_true rfl) dX7_isTaken_43 ?_
        rintro v J ⟨rfl, rfl⟩
        refine q_iald k357 rfl (lt357 (by omega)) (by decide) (h.c hk (j := 2) (by omega)) dX7_isTaken_46 ?_
        refine q_iload_n dX7_isTaken_47 rfl ?_
        rw [show cenc 2 (sC σ k 2) = nI (sC σ k 2) from rfl]
        have e1 : decide (sC σ k 7 = r + 1) = true := decide_eq_true (hz.mp q3)
        refine q_icmp_neN (tgt := 55) (by omega) (by omega) dX7_isTaken_48 (by decide) (fun q4 => ?_) (fun q4 => ?_)
        · refine q_iconst (v := nI 0) dX7_isTaken_55 (by decide) ?_
          exact fin _ _ (by rw [sgb, g, e1, show decide (sC σ k 2 = e) = false from decide_eq_false q4]; rfl)
        · refine q_iconst (v := nI 1) dX7_isTaken_51 (by decide) ?_
          refine q_goto (tgt := 56) dX7_isTaken_52 (by decide) ?_
          exact fin _ _ (by rw [sgb, g, e1, show decide (sC σ k 2 = e) = true from decide_eq_true q4]; rfl)
  refine q_M.of pnX7_isTaken (by simp [Value.category]) (Nat.le_of_ble_eq_true rfl) ?_
  refine q_iconst (v := nI 0) dX7_isTaken_0 (by decide) ?_
  refine q_istore_n (ls' := [_, _, _, _, _]) dX7_isTaken_1 (Nat.le_of_ble_eq_true rfl) rfl ?_
  refine q_iconst (v := nI 0) dX7_isTaken_2 (by decide) ?_
  refine q_istore (ls' := [_, _, _, _, _]) dX7_isTaken_3 (Nat.le_of_ble_eq_true rfl) rfl ?_
  exact key (sN σ 0) 0 (by omega)
theorem r_roomFor {c : Nat} {I : q_Mem} {σ : q_S} (h : RS I σ) (hw : WFc σ) (hc : c < sN σ 0) : q_M kX7_roomFor [.ref 356, .int (nI c)] I (fun v J => v = some (.int (enc (srm σ c (sN σ 1)))) ∧ I = J) := by
  have h8 := hw.B.1
  have h5 := hw.B.2.1
  have hev := (hw.cr (show c < 8 by omega)).2.2.1
  have hlc := hw.len c
  have hR := hw.2.2.2.2.2.2.2
  have key : ∀ (d k : Nat) (o4 : Option Value), k + d = sN σ 1 → q_X kX7_roomFor 4 [some (.ref 356), some (.int (nI c)), some (.int (enc (srm σ c k))), some (.int (nI k)), o4] [] I (fun v J => v = some (.int (enc (srm σ c (sN σ 1)))) ∧ I = J) := by
    intro d
    induction d with
    | zero =>
      intro k o4 hd
      obtain rfl : k = sN σ 1 := by omega
      refine q_iload_n dX7_roomFor_4 rfl ?_
      refine q_aload_n dX7_roomFor_5 rfl ?_
      refine q_getR2 (b := 357) fl_RX7_7 rfl k356 rfl dX7_roomFor_6 ?_
      refine q_sipush (v := nI 329) dX7_roomFor_9 (by decide) ?_
      refine q_iald k357 rfl (lt357 (by omega)) (by decide) h.n1 dX7_roomFor_12 ?_
      refine q_icmp_geN (tgt := 103) (by omega) (by omega) dX7_roomFor_13 (by decide) (fun q => ?_) (fun q => ?_)
      · refine q_iload_n dX7_roomFor_103 rfl ?_
        exact q_iret rfl rfl dX7_roomFor_104 ⟨rfl, rfl⟩
      · omega
    | succ d ih =>
      intro k o4 hd
      have hk : k < sN σ 1 := by omega
      have hle := srm_le σ c k
      have hRk := hR k (by omega)
      have fin : ∀ (x : Int32) (o4 : Option Value), x = enc (srm σ c (k + 1)) → q_X kX7_roomFor 96 [some (.ref 356), some (.int (nI c)), some (.int (enc (srm σ c k))), some (.int (nI k)), o4] [.int x] I (fun v J => v = some (.int (enc (srm σ c (sN σ 1)))) ∧ I = J) := by
        intro x o4 hx
        subst hx
        refine q_istore_n (ls' := [_, _, _, _, _]) dX7_roomFor_96 (Nat.le_of_ble_eq_true rfl) rfl ?_
        refine q_iinc (ls' := [_, _, _, _, _]) dX7_roomFor_97 rfl (nI_add _ 1) rfl ?_
        refine q_goto (tgt := 4) dX7_roomFor_100 (by decide) ?_
        exact ih (k + 1) _ (by omega)
      have no : ¬ (sLen σ c ≤ sR σ k ∧ sgb σ k (sC σ c 2) 8 = false) → ∀ o4, q_X kX7_roomFor 56 [some (.ref 356), some (.int (nI c)), some (.int (enc (srm σ c k))), some (.int (nI k)), o4] [] I (fun v J => v = some (.int (enc (srm σ c (sN σ 1)))) ∧ I = J) := by
        intro hn o4
        refine q_iconst (v := nI 0) dX7_roomFor_56 (by decide) ?_
        refine q_istore (ls' := [_, _, _, _, _]) dX7_roomFor_57 (Nat.le_of_ble_eq_true rfl) rfl ?_
        refine q_iload dX7_roomFor_59 rfl ?_
        refine q_if_eq (tgt := 95) dX7_roomFor_61 (by decide) (fun q => ?_) (fun q => ?_)
        · refine q_iload_n dX7_roomFor_95 rfl ?_
          exact fin _ _ (by rw [srm, if_neg (fun z => hn ⟨z.1, z.2.1⟩)])
        · exact absurd rfl q
      refine q_iload_n dX7_roomFor_4 rfl ?_
      refine q_aload_n dX7_roomFor_5 rfl ?_
      refine q_getR2 (b := 357) fl_RX7_7 rfl k356 rfl dX7_roomFor_6 ?_
      refine q_sipush (v := nI 329) dX7_roomFor_9 (by decide) ?_
      refine q_iald k357 rfl (lt357 (by omega)) (by decide) h.n1 dX7_roomFor_12 ?_
      refine q_icmp_geN (tgt := 103) (by omega) (by omega) dX7_roomFor_13 (by decide) (fun q => ?_) (fun q => ?_)
      · omega
      refine q_aload_n dX7_roomFor_16 rfl ?_
      refine q_getR2 (b := 357) fl_RX7_7 rfl k356 rfl dX7_roomFor_17 ?_
      refine q_sipush (v := nI 330) dX7_roomFor_20 (by decide) ?_
      refine q_iload_n dX7_roomFor_23 rfl ?_
      refine q_iadd dX7_roomFor_24 ?_
      rw [nI_add]
      refine q_iald k357 rfl (lt357 (by omega)) (by decide) (h.r hk) dX7_roomFor_25 ?_
      refine q_aload_n dX7_roomFor_26 rfl ?_
      refine q_iload_n dX7_roomFor_27 rfl ?_
      refine q_cV (as := [_]) lk_RX7_47 (r_people h hw.B hc) (Or.inl ⟨6, by decide, k356, rfl⟩) rfl (by decide) (Nat.le_of_ble_eq_true rfl) dX7_roomFor_28 ?_
      rintro v J ⟨rfl, rfl⟩
      refine q_icmp_ltN (tgt := 56) (by omega) (by omega) dX7_roomFor_31 (by decide) (fun q2 => ?_) (fun q2 => ?_)
      · exact no (fun z => by omega) _
      refine q_aload_n dX7_roomFor_34 rfl ?_
      refine q_iload_n dX7_roomFor_35 rfl ?_
      refine q_aload_n dX7_roomFor_36 rfl ?_
      refine q_getR2 (b := 357) fl_RX7_7 rfl k356 rfl dX7_roomFor_37 ?_
      refine q_iload_n dX7_roomFor_40 rfl ?_
      refine q_iconst (v := nI 2) dX7_roomFor_41 (by decide) ?_
      refine q_cS (as := [_, _]) lk_RX7_40 r_at rfl (by decide) (Nat.le_of_ble_eq_true rfl) dX7_roomFor_42 ?_
      rintro v J ⟨rfl, rfl⟩
      refine q_iald k357 rfl (lt357 (by omega)) (by decide) (h.c hc (j := 2) (by omega)) dX7_roomFor_45 ?_
      rw [show cenc 2 (sC σ c 2) = nI (sC σ c 2) from rfl]
      refine q_cV (as := [_, _]) lk_RX7_77 (r_isTaken h hw (r := k) (e := sC σ c 2) (by omega) (by omega)) (Or.inl ⟨6, by decide, k356, rfl⟩) rfl (by decide) (Nat.le_of_ble_eq_true rfl) dX7_roomFor_46 ?_
      rintro v J ⟨rfl, rfl⟩
      cases g : sgb σ k (sC σ c 2) 8 with
      | true =>
        refine q_if_ne (tgt := 56) dX7_roomFor_49 (by decide) (fun q3 => ?_) (fun q3 => ?_)
        · exact no (fun z => by rw [g] at z; cases z.2) _
        · exact absurd q3 (by decide)
      | false =>
        refine q_if_ne (tgt := 56) dX7_roomFor_49 (by decide) (fun q3 => ?_) (fun q3 => ?_)
        · exact absurd rfl q3
        refine q_iconst (v := nI 1) dX7_roomFor_52 (by decide) ?_
        refine q_goto (tgt := 57) dX7_roomFor_53 (by decide) ?_
        refine q_istore (ls' := [_, _, _, _, _]) dX7_roomFor_57 (Nat.le_of_ble_eq_true rfl) rfl ?_
        refine q_iload dX7_roomFor_59 rfl ?_
        refine q_if_eq (tgt := 95) dX7_roomFor_61 (by decide) (fun q4 => ?_) (fun q4 => ?_)
        · exact absurd q4 (by decide)
        refine q_iload_n dX7_roomFor_64 rfl ?_
        have hneg := enc_neg (v := srm σ c k) (by omega)
        by_cases f : srm σ c k = 0
        · refine q_if_lt (tgt := 91) dX7_roomFor_65 (by decide) (fun q5 => ?_) (fun q5 => ?_)
          · refine q_iload_n dX7_roomFor_91 rfl ?_
            refine q_goto (tgt := 96) dX7_roomFor_92 (by decide) ?_
            exact fin _ _ (by rw [srm, if_pos ⟨q2, g, Or.inl f⟩]; rfl)
          · exact absurd (hneg.mpr f) q5
        · refine q_if_lt (tgt := 91) dX7_roomFor_65 (by decide) (fun q5 => ?_) (fun q5 => ?_)
          · exact absurd (hneg.mp q5) f
          refine q_aload_n dX7_roomFor_68 rfl ?_
          refine q_getR2 (b := 357) fl_RX7_7 rfl k356 rfl dX7_roomFor_69 ?_
          refine q_sipush (v := nI 330) dX7_roomFor_72 (by decide) ?_
          refine q_iload_n dX7_roomFor_75 rfl ?_
          refine q_iadd dX7_roomFor_76 ?_
          rw [nI_add]
          refine q_iald k357 rfl (lt357 (by omega)) (by decide) (h.r hk) dX7_roomFor_77 ?_
          refine q_aload_n dX7_roomFor_78 rfl ?_
          refine q_getR2 (b := 357) fl_RX7_7 rfl k356 rfl dX7_roomFor_79 ?_
          refine q_sipush (v := nI 330) dX7_roomFor_82 (by decide) ?_
          rw [enc_pos f]
          refine q_iload_n dX7_roomFor_85 rfl ?_
          refine q_iadd dX7_roomFor_86 ?_
          rw [nI_add]
          have hR2 := hR (srm σ c k - 1) (by omega)
          refine q_iald k357 rfl (lt357 (by omega)) (by decide) (h.r (r := srm σ c k - 1) (by omega)) dX7_roomFor_87 ?_
          rw [← enc_pos f]
          refine q_icmp_geN (tgt := 95) (by omega) (by omega) dX7_roomFor_88 (by decide) (fun q6 => ?_) (fun q6 => ?_)
          · refine q_iload_n dX7_roomFor_95 rfl ?_
            exact fin _ _ (by rw [srm, if_neg (fun z => by rcases z.2.2 with z | z <;> omega)])
          · refine q_iload_n dX7_roomFor_91 rfl ?_
            refine q_goto (tgt := 96) dX7_roomFor_92 (by decide) ?_
            exact fin _ _ (by rw [srm, if_pos ⟨q2, g, Or.inr q6⟩]; rfl)
  refine q_M.of pnX7_roomFor (by simp [Value.category]) (Nat.le_of_ble_eq_true rfl) ?_
  refine q_iconst (v := -1) dX7_roomFor_0 (by decide) ?_
  refine q_istore_n (ls' := [_, _, _, _, _]) dX7_roomFor_1 (Nat.le_of_ble_eq_true rfl) rfl ?_
  refine q_iconst (v := nI 0) dX7_roomFor_2 (by decide) ?_
  refine q_istore_n (ls' := [_, _, _, _, _]) dX7_roomFor_3 (Nat.le_of_ble_eq_true rfl) rfl ?_
  exact key (sN σ 1) 0 _ (by omega)
