/-! the class's season: choosing, merging, cancelling -/
theorem RC.st {b c s : Nat} {I : q_Mem} {σ : q_S} (h : RC b I σ) (hw : WFc σ) (hc : c < 8) (hs : s < 2 ^ 31 - 1) : I (b + 4 + 2 * c) 8 = nI s ↔ sC σ c 6 = s + 1 := by
  rw [show I (b + 4 + 2 * c) 8 = enc (sC σ c 6) from h.c hc (j := 6) (by omega)]
  exact enc_nI (by have := (hw.cr hc).2.2.2.2.2.2.1; omega) hs
theorem c_tooSmallS {b c : Nat} {I : q_Mem} {σ : q_S} (hk : q_kd b = 3) (h : RC b I σ) (hw : WFc σ) (hc : c < 8) : q_M kX0_isTooSmall [.ref (b + 4 + 2 * c)] I (fun v J => v = some (.int (if sC σ c 6 = 1 ∧ sLen σ c < sC σ c 3 then 1 else 0)) ∧ I = J) := by
  have hcr := hw.cr hc
  refine (c_tooSmall (kSC hk hc) (h.len hc) (h.c hc (j := 3) (by omega)) (Nat.lt_of_le_of_lt (hw.len _) (by omega)) (Nat.lt_of_le_of_lt hcr.2.2.2.1 (by omega))).mono ?_
  rintro v J ⟨rfl, rfl⟩
  have hst : I (b + 4 + 2 * c) 8 = 0 ↔ sC σ c 6 = 1 := h.st hw hc (s := 0) (by omega)
  refine ⟨?_, rfl⟩
  by_cases q : sC σ c 6 = 1 ∧ sLen σ c < sC σ c 3
  · rw [if_pos q, if_pos ⟨hst.mpr q.1, q.2⟩]
  · rw [if_neg q, if_neg (fun z => q ⟨hst.mp z.1, z.2⟩)]
theorem c_levelsS {b c d : Nat} {I : q_Mem} {σ : q_S} (hk : q_kd b = 3) (h : RC b I σ) (hw : WFc σ) (hc : c < 8) (hd : d < 8) : q_M kX0_levelsFrom [.ref (b + 4 + 2 * c), .ref (b + 4 + 2 * d)] I (fun v J => v = some (.int (nI (slv σ c d))) ∧ I = J) :=
  c_levels (kSC hk hc) (kSC hk hd) (h.c hc (j := 1) (by omega)) (h.c hd (j := 1) (by omega)) (by have := (hw.cr hc).2.1; omega) (by have := (hw.cr hd).2.1; omega)
theorem slv_lt {σ : q_S} (hw : WFc σ) {c d : Nat} (hc : c < 8) (hd : d < 8) : slv σ c d < 4 := by
  have := (hw.cr hc).2.1
  have := (hw.cr hd).2.1
  unfold slv
  split <;> omega
theorem c_canTakeS {b c d : Nat} {I : q_Mem} {σ : q_S} (hk : q_kd b = 3) (h : RC b I σ) (hw : WFc σ) (hc : c < 8) (hd : d < 8) : q_M kX0_canTake [.ref (b + 4 + 2 * c), .ref (b + 4 + 2 * d)] I (fun v J => v = some (.int (if sC σ c 6 = 1 ∧ ¬ c = d ∧ sC σ c 0 = sC σ d 0 ∧ slv σ c d ≤ 1 ∧ sLen σ c + sLen σ d ≤ sC σ c 4 then 1 else 0)) ∧ I = J) := by
  obtain ⟨x0, x1, x2, x3, x4, x5, x6, x7, x8, x9, x10⟩ := hw.cr hc
  obtain ⟨y0, y1, y2, y3, y4, y5, y6, y7, y8, y9, y10⟩ := hw.cr hd
  have hlc := hw.len c
  have hld := hw.len d
  refine (c_canTake (kSC hk hc) (kSC hk hd) (h.cn hc) (h.cn hd) (h.c hc (j := 0) (by omega)) (h.c hd (j := 0) (by omega)) (h.c hc (j := 1) (by omega)) (h.c hd (j := 1) (by omega)) (h.len hc) (h.len hd) (h.c hc (j := 4) (by omega)) (by omega) (by omega) (by omega) (by omega) (by omega) (by omega) (by omega) (by omega) (by omega)).mono ?_
  rintro v J ⟨rfl, rfl⟩
  have hst : I (b + 4 + 2 * c) 8 = 0 ↔ sC σ c 6 = 1 := h.st hw hc (s := 0) (by omega)
  refine ⟨?_, rfl⟩
  by_cases q : sC σ c 6 = 1 ∧ ¬ c = d ∧ sC σ c 0 = sC σ d 0 ∧ slv σ c d ≤ 1 ∧ sLen σ c + sLen σ d ≤ sC σ c 4
  · rw [if_pos q, if_pos ⟨hst.mpr q.1, q.2⟩]
  · rw [if_neg q, if_neg (fun z => q ⟨hst.mp z.1, z.2⟩)]
theorem c_smallest {b : Nat} {I : q_Mem} {σ : q_S} (hk : q_kd b = 3) (h : RC b I σ) (hw : WFc σ) : q_M kX3_smallestTooSmall [.ref b] I (fun v J => v = some (crf b (ssm σ 8)) ∧ I = J) := by
  have key : ∀ (d k : Nat) (o5 : Option Value), k + d = 8 → q_X kX3_smallestTooSmall 13 [some (.ref b), some (crf b (ssm σ k)), some (.ref (b + 1)), some (.int (nI 8)), some (.int (nI k)), o5] [] I (fun v J => v = some (crf b (ssm σ 8)) ∧ I = J) := by
    intro d
    induction d with
    | zero =>
      intro k o5 hd
      obtain rfl : k = 8 := by omega
      refine q_iload dX3_smallestTooSmall_13 rfl ?_
      refine q_iload_n dX3_smallestTooSmall_15 rfl ?_
      refine q_icmp_geN (tgt := 63) (by omega) (by omega) dX3_smallestTooSmall_16 (by decide) (fun h1 => ?_) (fun h1 => ?_)
      · by_cases e : ssm σ 8 = 0
        · rw [crf, if_pos e]
          refine q_aload_nN dX3_smallestTooSmall_63 rfl ?_
          exact q_aretN rfl dX3_smallestTooSmall_64 ⟨rfl, rfl⟩
        · rw [crf, if_neg e]
          refine q_aload_n dX3_smallestTooSmall_63 rfl ?_
          exact q_aret rfl dX3_smallestTooSmall_64 ⟨rfl, rfl⟩
      · omega
    | succ d ih =>
      intro k o5 hd
      have hk8 : k < 8 := by omega
      refine q_iload dX3_smallestTooSmall_13 rfl ?_
      refine q_iload_n dX3_smallestTooSmall_15 rfl ?_
      refine q_icmp_geN (tgt := 63) (by omega) (by omega) dX3_smallestTooSmall_16 (by decide) (fun h1 => ?_) (fun h1 => ?_)
      · omega
      refine q_aload_n dX3_smallestTooSmall_19 rfl ?_
      refine q_iload dX3_smallestTooSmall_20 rfl ?_
      refine q_aaldC hk rfl hk8 dX3_smallestTooSmall_22 ?_
      refine q_astore (ls' := [_, _, _, _, _, _]) dX3_smallestTooSmall_23 (Nat.le_of_ble_eq_true rfl) rfl ?_
      refine q_aload dX3_smallestTooSmall_25 rfl ?_
      refine q_ifnull dX3_smallestTooSmall_27 ?_
      refine q_aload dX3_smallestTooSmall_30 rfl ?_
      refine q_cV (as := []) lk_RX3_201 (c_tooSmallS hk h hw hk8) ⟨0, by decide, kSC hk hk8, rfl⟩ rfl (by decide) (Nat.le_of_ble_eq_true rfl) dX3_smallestTooSmall_32 ?_
      rintro v J ⟨rfl, rfl⟩
      by_cases e : sC σ k 6 = 1 ∧ sLen σ k < sC σ k 3
      · rw [if_pos e]
        refine q_if_eq (tgt := 57) dX3_smallestTooSmall_35 (by decide) (fun h2 => ?_) (fun h2 => ?_)
        · exact absurd h2 (by decide)
        have tail1 : ssm σ (k + 1) = k + 1 → ∀ o1, q_X kX3_smallestTooSmall 54 [some (.ref b), o1, some (.ref (b + 1)), some (.int (nI 8)), some (.int (nI k)), some (.ref (b + 4 + 2 * k))] [] I (fun v J => v = some (crf b (ssm σ 8)) ∧ I = J) := by
          intro hs o1
          refine q_aload dX3_smallestTooSmall_54 rfl ?_
          refine q_astore_n (ls' := [_, _, _, _, _, _]) dX3_smallestTooSmall_56 (Nat.le_of_ble_eq_true rfl) rfl ?_
          refine q_iinc (ls' := [_, _, _, _, _, _]) dX3_smallestTooSmall_57 rfl (nI_add _ 1) rfl ?_
          refine q_goto (tgt := 13) dX3_smallestTooSmall_60 (by decide) ?_
          have := ih (k + 1) (some (.ref (b + 4 + 2 * k))) (by omega)
          rw [hs] at this
          exact this
        by_cases f : ssm σ k = 0
        · have hs : ssm σ (k + 1) = k + 1 := by rw [ssm, if_pos ⟨e.1, e.2, Or.inl f⟩]
          rw [crf, if_pos f]
          refine q_aload_nN dX3_smallestTooSmall_38 rfl ?_
          refine q_ifnullN (tgt := 54) dX3_smallestTooSmall_39 (by decide) ?_
          exact tail1 hs _
        · have hl := ssm_le σ k
          have hm8 : ssm σ k - 1 < 8 := by omega
          have hkm := kSC hk hm8
          have hkk := kSC hk hk8
          rw [crf, if_neg f]
          refine q_aload_n dX3_smallestTooSmall_38 rfl ?_
          refine q_ifnull dX3_smallestTooSmall_39 ?_
          refine q_aload dX3_smallestTooSmall_42 rfl ?_
          refine q_getI fl_RX3_204 rfl hkk (h.len hk8) dX3_smallestTooSmall_44 ?_
          refine q_aload_n dX3_smallestTooSmall_47 rfl ?_
          refine q_getI fl_RX3_204 rfl hkm (h.len hm8) dX3_smallestTooSmall_48 ?_
          refine q_icmp_geN (tgt := 57) (by have := hw.len k; omega) (by have := hw.len (ssm σ k - 1); omega) dX3_smallestTooSmall_51 (by decide) (fun h3 => ?_) (fun h3 => ?_)
          · refine q_iinc (ls' := [_, _, _, _, _, _]) dX3_smallestTooSmall_57 rfl (nI_add _ 1) rfl ?_
            refine q_goto (tgt := 13) dX3_smallestTooSmall_60 (by decide) ?_
            have hs : ssm σ (k + 1) = ssm σ k := by rw [ssm, if_neg (fun z => z.2.2.elim f (fun y => by omega))]
            have := ih (k + 1) (some (.ref (b + 4 + 2 * k))) (by omega)
            rw [hs, crf, if_neg f] at this
            exact this
          · exact tail1 (by rw [ssm, if_pos ⟨e.1, e.2, Or.inr h3⟩]) _
      · rw [if_neg e]
        have hs : ssm σ (k + 1) = ssm σ k := by rw [ssm, if_neg (fun z => e ⟨z.1, z.2.1⟩)]
        refine q_if_eq (tgt := 57) dX3_smallestTooSmall_35 (by decide) (fun h2 => ?_) (fun h2 => ?_)
        · refine q_iinc (ls' := [_, _, _, _, _, _]) dX3_smallestTooSmall_57 rfl (nI_add _ 1) rfl ?_
          refine q_goto (tgt := 13) dX3_smallestTooSmall_60 (by decide) ?_
          have := ih (k + 1) (some (.ref (b + 4 + 2 * k))) (by omega)
          rw [hs] at this
          exact this
        · exact absurd rfl h2
  refine q_M.of pnX3_smallestTooSmall (by simp [Value.category]) (Nat.le_of_ble_eq_true rfl) ?_
  refine q_null dX3_smallestTooSmall_0 ?_
  refine q_astore_nN (ls' := [_, _, _, _, _, _]) dX3_smallestTooSmall_1 (Nat.le_of_ble_eq_true rfl) rfl ?_
  refine q_aload_n dX3_smallestTooSmall_2 rfl ?_
  refine q_getR fl_RX3_11 rfl (by assumption) dX3_smallestTooSmall_3 ?_
  refine q_astore_n (ls' := [_, _, _, _, _, _]) dX3_smallestTooSmall_6 (Nat.le_of_ble_eq_true rfl) rfl ?_
  refine q_aload_n dX3_smallestTooSmall_7 rfl ?_
  refine q_lenC hk rfl dX3_smallestTooSmall_8 ?_
  refine q_istore_n (ls' := [_, _, _, _, _, _]) dX3_smallestTooSmall_9 (Nat.le_of_ble_eq_true rfl) rfl ?_
  refine q_iconst (v := nI 0) dX3_smallestTooSmall_10 (by decide) ?_
  refine q_istore (ls' := [_, _, _, _, _, _]) dX3_smallestTooSmall_11 (Nat.le_of_ble_eq_true rfl) rfl ?_
  exact key 8 0 _ rfl
theorem c_greatest {b : Nat} {I : q_Mem} {σ : q_S} (hk : q_kd b = 3) (h : RC b I σ) (hw : WFc σ) : q_M kX3_greatestOpen [.ref b] I (fun v J => v = some (crf b (sgr σ 8)) ∧ I = J) := by
  have key : ∀ (d k : Nat) (o5 : Option Value), k + d = 8 → q_X kX3_greatestOpen 13 [some (.ref b), some (crf b (sgr σ k)), some (.ref (b + 1)), some (.int (nI 8)), some (.int (nI k)), o5] [] I (fun v J => v = some (crf b (sgr σ 8)) ∧ I = J) := by
    intro d
    induction d with
    | zero =>
      intro k o5 hd
      obtain rfl : k = 8 := by omega
      refine q_iload dX3_greatestOpen_13 rfl ?_
      refine q_iload_n dX3_greatestOpen_15 rfl ?_
      refine q_icmp_geN (tgt := 63) (by omega) (by omega) dX3_greatestOpen_16 (by decide) (fun h1 => ?_) (fun h1 => ?_)
      · by_cases e : sgr σ 8 = 0
        · rw [crf, if_pos e]
          refine q_aload_nN dX3_greatestOpen_63 rfl ?_
          exact q_aretN rfl dX3_greatestOpen_64 ⟨rfl, rfl⟩
        · rw [crf, if_neg e]
          refine q_aload_n dX3_greatestOpen_63 rfl ?_
          exact q_aret rfl dX3_greatestOpen_64 ⟨rfl, rfl⟩
      · omega
    | succ d ih =>
      intro k o5 hd
      have hk8 : k < 8 := by omega
      have hkk := kSC hk hk8
      have hst : I (b + 4 + 2 * k) 8 = 0 ↔ sC σ k 6 = 1 := h.st hw hk8 (s := 0) (by omega)
      refine q_iload dX3_greatestOpen_13 rfl ?_
      refine q_iload_n dX3_greatestOpen_15 rfl ?_
      refine q_icmp_geN (tgt := 63) (by omega) (by omega) dX3_greatestOpen_16 (by decide) (fun h1 => ?_) (fun h1 => ?_)
      · omega
      refine q_aload_n dX3_greatestOpen_19 rfl ?_
      refine q_iload dX3_greatestOpen_20 rfl ?_
      refine q_aaldC hk rfl hk8 dX3_greatestOpen_22 ?_
      refine q_astore (ls' := [_, _, _, _, _, _]) dX3_greatestOpen_23 (Nat.le_of_ble_eq_true rfl) rfl ?_
      refine q_aload dX3_greatestOpen_25 rfl ?_
      refine q_ifnull dX3_greatestOpen_27 ?_
      refine q_aload dX3_greatestOpen_30 rfl ?_
      refine q_getI fl_RX3_162 rfl (by assumption) rfl dX3_greatestOpen_32 ?_
      refine q_if_ne (tgt := 57) dX3_greatestOpen_35 (by decide) (fun h2 => ?_) (fun h2 => ?_)
      · have hs : sgr σ (k + 1) = sgr σ k := by rw [sgr, if_neg (fun z => h2 (hst.mpr z.1))]
        refine q_iinc (ls' := [_, _, _, _, _, _]) dX3_greatestOpen_57 rfl (nI_add _ 1) rfl ?_
        refine q_goto (tgt := 13) dX3_greatestOpen_60 (by decide) ?_
        have := ih (k + 1) (some (.ref (b + 4 + 2 * k))) (by omega)
        rw [hs] at this
        exact this
      · have e := hst.mp h2
        have tail1 : sgr σ (k + 1) = k + 1 → ∀ o1, q_X kX3_greatestOpen 54 [some (.ref b), o1, some (.ref (b + 1)), some (.int (nI 8)), some (.int (nI k)), some (.ref (b + 4 + 2 * k))] [] I (fun v J => v = some (crf b (sgr σ 8)) ∧ I = J) := by
          intro hs o1
          refine q_aload dX3_greatestOpen_54 rfl ?_
          refine q_astore_n (ls' := [_, _, _, _, _, _]) dX3_greatestOpen_56 (Nat.le_of_ble_eq_true rfl) rfl ?_
          refine q_iinc (ls' := [_, _, _, _, _, _]) dX3_greatestOpen_57 rfl (nI_add _ 1) rfl ?_
          refine q_goto (tgt := 13) dX3_greatestOpen_60 (by decide) ?_
          have := ih (k + 1) (some (.ref (b + 4 + 2 * k))) (by omega)
          rw [hs] at this
          exact this
        by_cases f : sgr σ k = 0
        · have hs : sgr σ (k + 1) = k + 1 := by rw [sgr, if_pos ⟨e, Or.inl f⟩]
          rw [crf, if_pos f]
          refine q_aload_nN dX3_greatestOpen_38 rfl ?_
          refine q_ifnullN (tgt := 54) dX3_greatestOpen_39 (by decide) ?_
          exact tail1 hs _
        · have hl := sgr_le σ k
          have hm8 : sgr σ k - 1 < 8 := by omega
          have hkm := kSC hk hm8
          rw [crf, if_neg f]
          refine q_aload_n dX3_greatestOpen_38 rfl ?_
          refine q_ifnull dX3_greatestOpen_39 ?_
          refine q_aload dX3_greatestOpen_42 rfl ?_
          refine q_getI fl_RX3_204 rfl hkk (h.len hk8) dX3_greatestOpen_44 ?_
          refine q_aload_n dX3_greatestOpen_47 rfl ?_
          refine q_getI fl_RX3_204 rfl hkm (h.len hm8) dX3_greatestOpen_48 ?_
          refine q_icmp_leN (tgt := 57) (by have := hw.len k; omega) (by have := hw.len (sgr σ k - 1); omega) dX3_greatestOpen_51 (by decide) (fun h3 => ?_) (fun h3 => ?_)
          · refine q_iinc (ls' := [_, _, _, _, _, _]) dX3_greatestOpen_57 rfl (nI_add _ 1) rfl ?_
            refine q_goto (tgt := 13) dX3_greatestOpen_60 (by decide) ?_
            have hs : sgr σ (k + 1) = sgr σ k := by rw [sgr, if_neg (fun z => z.2.elim f (fun y => by omega))]
            have := ih (k + 1) (some (.ref (b + 4 + 2 * k))) (by omega)
            rw [hs, crf, if_neg f] at this
            exact this
          · exact tail1 (by rw [sgr, if_pos ⟨e, Or.inr h3⟩]) _
  refine q_M.of pnX3_greatestOpen (by simp [Value.category]) (Nat.le_of_ble_eq_true rfl) ?_
  refine q_null dX3_greatestOpen_0 ?_
  refine q_astore_nN (ls' := [_, _, _, _, _, _]) dX3_greatestOpen_1 (Nat.le_of_ble_eq_true rfl) rfl ?_
  refine q_aload_n dX3_greatestOpen_2 rfl ?_
  refine q_getR fl_RX3_11 rfl (by assumption) dX3_greatestOpen_3 ?_
  refine q_astore_n (ls' := [_, _, _, _, _, _]) dX3_greatestOpen_6 (Nat.le_of_ble_eq_true rfl) rfl ?_
  refine q_aload_n dX3_greatestOpen_7 rfl ?_
  refine q_lenC hk rfl dX3_greatestOpen_8 ?_
  refine q_istore_n (ls' := [_, _, _, _, _, _]) dX3_greatestOpen_9 (Nat.le_of_ble_eq_true rfl) rfl ?_
  refine q_iconst (v := nI 0) dX3_greatestOpen_10 (by decide) ?_
  refine q_istore (ls' := [_, _, _, _, _, _]) dX3_greatestOpen_11 (Nat.le_of_ble_eq_true rfl) rfl ?_
  exact key 8 0 _ rfl
theorem c_betterMerging {b k m c : Nat} {I : q_Mem} {σ : q_S} (hk : q_kd b = 3) (h : RC b I σ) (hw : WFc σ) (hk8 : k < 8) (hm8 : m < 8) (hc8 : c < 8) : q_M kX3_isBetterMerging [.ref (b + 4 + 2 * k), .ref (b + 4 + 2 * m), .ref (b + 4 + 2 * c)] I (fun v J => v = some (.int (if slv σ k c < slv σ m c ∨ (slv σ k c = slv σ m c ∧ sLen σ m < sLen σ k) then 1 else 0)) ∧ I = J) := by
  have hkk := kSC hk hk8
  have hkm := kSC hk hm8
  have l1 := slv_lt hw hk8 hc8
  have l2 := slv_lt hw hm8 hc8
  have n1 := hw.len k
  have n2 := hw.len m
  refine q_M.of pnX3_isBetterMerging (by simp [Value.category]) (Nat.le_of_ble_eq_true rfl) ?_
  refine q_aload_n dX3_isBetterMerging_0 rfl ?_
  refine q_aload_n dX3_isBetterMerging_1 rfl ?_
  refine q_cV (as := [_]) lk_RX3_214 (c_levelsS hk h hw hm8 hc8) ⟨0, by decide, kSC hk hm8, rfl⟩ rfl (by decide) (Nat.le_of_ble_eq_true rfl) dX3_isBetterMerging_2 ?_
  rintro v J ⟨rfl, rfl⟩
  refine q_aload_n dX3_isBetterMerging_5 rfl ?_
  refine q_aload_n dX3_isBetterMerging_6 rfl ?_
  refine q_cV (as := [_]) lk_RX3_214 (c_levelsS hk h hw hk8 hc8) ⟨0, by decide, kSC hk hk8, rfl⟩ rfl (by decide) (Nat.le_of_ble_eq_true rfl) dX3_isBetterMerging_7 ?_
  rintro v J ⟨rfl, rfl⟩
  refine q_isub dX3_isBetterMerging_10 ?_
  refine q_istore_n (ls' := [_, _, _, _]) dX3_isBetterMerging_11 (Nat.le_of_ble_eq_true rfl) rfl ?_
  refine q_iload_n dX3_isBetterMerging_12 rfl ?_
  rcases Nat.lt_trichotomy (slv σ k c) (slv σ m c) with q | q | q
  · rw [pk_sub (Nat.le_of_lt q)]
    refine q_if_gtN (tgt := 31) (by omega) dX3_isBetterMerging_13 (by decide) (fun h1 => ?_) (fun h1 => ?_)
    · refine q_iconst (v := nI 1) dX3_isBetterMerging_31 (by decide) ?_
      refine q_goto (tgt := 36) dX3_isBetterMerging_32 (by decide) ?_
      exact q_iret rfl rfl dX3_isBetterMerging_36 ⟨by rw [if_pos (Or.inl q)]; rfl, rfl⟩
    · omega
  · rw [pk_sub (Nat.le_of_eq q)]
    refine q_if_gtN (tgt := 31) (by omega) dX3_isBetterMerging_13 (by decide) (fun h1 => ?_) (fun h1 => ?_)
    · omega
    refine q_iload_n dX3_isBetterMerging_16 rfl ?_
    refine q_if_neN (tgt := 35) (by omega) dX3_isBetterMerging_17 (by decide) (fun h2 => ?_) (fun h2 => ?_)
    · omega
    refine q_aload_n dX3_isBetterMerging_20 rfl ?_
    refine q_getI fl_RX3_204 rfl hkk (h.len hk8) dX3_isBetterMerging_21 ?_
    refine q_aload_n dX3_isBetterMerging_24 rfl ?_
    refine q_getI fl_RX3_204 rfl hkm (h.len hm8) dX3_isBetterMerging_25 ?_
    refine q_icmp_leN (tgt := 35) (by omega) (by omega) dX3_isBetterMerging_28 (by decide) (fun h3 => ?_) (fun h3 => ?_)
    · refine q_iconst (v := nI 0) dX3_isBetterMerging_35 (by decide) ?_
      exact q_iret rfl rfl dX3_isBetterMerging_36 ⟨by rw [if_neg (fun z => by omega)]; rfl, rfl⟩
    · refine q_iconst (v := nI 1) dX3_isBetterMerging_31 (by decide) ?_
      refine q_goto (tgt := 36) dX3_isBetterMerging_32 (by decide) ?_
      exact q_iret rfl rfl dX3_isBetterMerging_36 ⟨by rw [if_pos (Or.inr ⟨q, h3⟩)]; rfl, rfl⟩
  · have hneg : nI (slv σ m c) - nI (slv σ k c) < 0 := pk_sneg (by omega) q
    refine q_if_gt (tgt := 31) dX3_isBetterMerging_13 (by decide) (fun h1 => ?_) (fun h1 => ?_)
    · exact absurd hneg (Int32.not_lt.mpr (Int32.le_of_lt h1))
    refine q_iload_n dX3_isBetterMerging_16 rfl ?_
    refine q_if_ne (tgt := 35) dX3_isBetterMerging_17 (by decide) (fun h2 => ?_) (fun h2 => ?_)
    · refine q_iconst (v := nI 0) dX3_isBetterMerging_35 (by decide) ?_
      exact q_iret rfl rfl dX3_isBetterMerging_36 ⟨by rw [if_neg (fun z => by omega)]; rfl, rfl⟩
    · rw [h2] at hneg
      exact absurd hneg (by decide)
theorem c_merging {b c : Nat} {I : q_Mem} {σ : q_S} (hk : q_kd b = 3) (h : RC b I σ) (hw : WFc σ) (hc : c < 8) : q_M kX3_mergingOf [.ref b, .ref (b + 4 + 2 * c)] I (fun v J => v = some (crf b (sft σ c 8)) ∧ I = J) := by
  have hkc := kSC hk hc
  have key : ∀ (d k : Nat) (o6 : Option Value), k + d = 8 → q_X kX3_mergingOf 14 [some (.ref b), some (.ref (b + 4 + 2 * c)), some (crf b (sft σ c k)), some (.ref (b + 1)), some (.int (nI 8)), some (.int (nI k)), o6] [] I (fun v J => v = some (crf b (sft σ c 8)) ∧ I = J) := by
    intro d
    induction d with
    | zero =>
      intro k o5 hd
      obtain rfl : k = 8 := by omega
      refine q_iload dX3_mergingOf_14 rfl ?_
      refine q_iload dX3_mergingOf_16 rfl ?_
      refine q_icmp_geN (tgt := 71) (by omega) (by omega) dX3_mergingOf_18 (by decide) (fun h1 => ?_) (fun h1 => ?_)
      · by_cases e : sft σ c 8 = 0
        · rw [crf, if_pos e]
          refine q_aload_nN dX3_mergingOf_71 rfl ?_
          exact q_aretN rfl dX3_mergingOf_72 ⟨rfl, rfl⟩
        · rw [crf, if_neg e]
          refine q_aload_n dX3_mergingOf_71 rfl ?_
          exact q_aret rfl dX3_mergingOf_72 ⟨rfl, rfl⟩
      · omega
    | succ d ih =>
      intro k o5 hd
      have hk8 : k < 8 := by omega
      have hkk := kSC hk hk8
      have no : sft σ c (k + 1) = sft σ c k → q_X kX3_mergingOf 65 [some (.ref b), some (.ref (b + 4 + 2 * c)), some (crf b (sft σ c k)), some (.ref (b + 1)), some (.int (nI 8)), some (.int (nI k)), some (.ref (b + 4 + 2 * k))] [] I (fun v J => v = some (crf b (sft σ c 8)) ∧ I = J) := by
        intro hs
        refine q_iinc (ls' := [_, _, _, _, _, _, _]) dX3_mergingOf_65 rfl (nI_add _ 1) rfl ?_
        refine q_goto (tgt := 14) dX3_mergingOf_68 (by decide) ?_
        have := ih (k + 1) (some (.ref (b + 4 + 2 * k))) (by omega)
        rw [hs] at this
        exact this
      have yes : sft σ c (k + 1) = k + 1 → ∀ o2, q_X kX3_mergingOf 62 [some (.ref b), some (.ref (b + 4 + 2 * c)), o2, some (.ref (b + 1)), some (.int (nI 8)), some (.int (nI k)), some (.ref (b + 4 + 2 * k))] [] I (fun v J => v = some (crf b (sft σ c 8)) ∧ I = J) := by
        intro hs o2
        refine q_aload dX3_mergingOf_62 rfl ?_
        refine q_astore_n (ls' := [_, _, _, _, _, _, _]) dX3_mergingOf_64 (Nat.le_of_ble_eq_true rfl) rfl ?_
        refine q_iinc (ls' := [_, _, _, _, _, _, _]) dX3_mergingOf_65 rfl (nI_add _ 1) rfl ?_
        refine q_goto (tgt := 14) dX3_mergingOf_68 (by decide) ?_
        have := ih (k + 1) (some (.ref (b + 4 + 2 * k))) (by omega)
        rw [hs] at this
        exact this
      refine q_iload dX3_mergingOf_14 rfl ?_
      refine q_iload dX3_mergingOf_16 rfl ?_
      refine q_icmp_geN (tgt := 71) (by omega) (by omega) dX3_mergingOf_18 (by decide) (fun h1 => ?_) (fun h1 => ?_)
      · omega
      refine q_aload_n dX3_mergingOf_21 rfl ?_
      refine q_iload dX3_mergingOf_22 rfl ?_
      refine q_aaldC hk rfl hk8 dX3_mergingOf_24 ?_
      refine q_astore (ls' := [_, _, _, _, _, _, _]) dX3_mergingOf_25 (Nat.le_of_ble_eq_true rfl) rfl ?_
      refine q_aload dX3_mergingOf_27 rfl ?_
      refine q_ifnull dX3_mergingOf_29 ?_
      refine q_aload_n dX3_mergingOf_32 rfl ?_
      refine q_getI fl_RX3_204 rfl hkc (h.len hc) dX3_mergingOf_33 ?_
      refine q_if_leN (tgt := 65) (by have := hw.len c; omega) dX3_mergingOf_36 (by decide) (fun h2 => ?_) (fun h2 => ?_)
      · exact no (by rw [sft, if_neg (fun z => by omega)])
      refine q_aload dX3_mergingOf_39 rfl ?_
      refine q_aload_n dX3_mergingOf_41 rfl ?_
      refine q_cV (as := [_]) lk_RX3_207 (c_canTakeS hk h hw hk8 hc) ⟨0, by decide, kSC hk hk8, rfl⟩ rfl (by decide) (Nat.le_of_ble_eq_true rfl) dX3_mergingOf_42 ?_
      rintro v J ⟨rfl, rfl⟩
      by_cases e : sC σ k 6 = 1 ∧ ¬ k = c ∧ sC σ k 0 = sC σ c 0 ∧ slv σ k c ≤ 1 ∧ sLen σ k + sLen σ c ≤ sC σ k 4
      · rw [if_pos e]
        refine q_if_eq (tgt := 65) dX3_mergingOf_45 (by decide) (fun h3 => ?_) (fun h3 => ?_)
        · exact absurd h3 (by decide)
        by_cases f : sft σ c k = 0
        · have hs : sft σ c (k + 1) = k + 1 := by rw [sft, if_pos ⟨h2, e, Or.inl f⟩]
          rw [crf, if_pos f]
          refine q_aload_nN dX3_mergingOf_48 rfl ?_
          refine q_ifnullN (tgt := 62) dX3_mergingOf_49 (by decide) ?_
          exact yes hs _
        · have hl := sft_le σ c k
          have hm8 : sft σ c k - 1 < 8 := by omega
          rw [crf, if_neg f] at no ⊢
          refine q_aload_n dX3_mergingOf_48 rfl ?_
          refine q_ifnull dX3_mergingOf_49 ?_
          refine q_aload dX3_mergingOf_52 rfl ?_
          refine q_aload_n dX3_mergingOf_54 rfl ?_
          refine q_aload_n dX3_mergingOf_55 rfl ?_
          refine q_cS (as := [_, _, _]) lk_RX3_210 (c_betterMerging hk h hw hk8 hm8 hc) rfl (by decide) (Nat.le_of_ble_eq_true rfl) dX3_mergingOf_56 ?_
          rintro v J ⟨rfl, rfl⟩
          by_cases g : slv σ k c < slv σ (sft σ c k - 1) c ∨ (slv σ k c = slv σ (sft σ c k - 1) c ∧ sLen σ (sft σ c k - 1) < sLen σ k)
          · rw [if_pos g]
            refine q_if_eq (tgt := 65) dX3_mergingOf_59 (by decide) (fun h4 => ?_) (fun h4 => ?_)
            · exact absurd h4 (by decide)
            exact yes (by rw [sft, if_pos ⟨h2, e, Or.inr g⟩]) _
          · rw [if_neg g]
            refine q_if_eq (tgt := 65) dX3_mergingOf_59 (by decide) (fun h4 => ?_) (fun h4 => ?_)
            · exact no (by rw [sft, if_neg (fun z => z.2.2.elim f g)])
            · exact absurd rfl h4
      · rw [if_neg e]
        refine q_if_eq (tgt := 65) dX3_mergingOf_45 (by decide) (fun h3 => ?_) (fun h3 => ?_)
        · exact no (by rw [sft, if_neg (fun z => e z.2.1)])
        · exact absurd rfl h3
  refine q_M.of pnX3_mergingOf (by simp [Value.category]) (Nat.le_of_ble_eq_true rfl) ?_
  refine q_null dX3_mergingOf_0 ?_
  refine q_astore_nN (ls' := [_, _, _, _, _, _, _]) dX3_mergingOf_1 (Nat.le_of_ble_eq_true rfl) rfl ?_
  refine q_aload_n dX3_mergingOf_2 rfl ?_
  refine q_getR fl_RX3_11 rfl (by assumption) dX3_mergingOf_3 ?_
  refine q_astore_n (ls' := [_, _, _, _, _, _, _]) dX3_mergingOf_6 (Nat.le_of_ble_eq_true rfl) rfl ?_
  refine q_aload_n dX3_mergingOf_7 rfl ?_
  refine q_lenC hk rfl dX3_mergingOf_8 ?_
  refine q_istore (ls' := [_, _, _, _, _, _, _]) dX3_mergingOf_9 (Nat.le_of_ble_eq_true rfl) rfl ?_
  refine q_iconst (v := nI 0) dX3_mergingOf_11 (by decide) ?_
  refine q_istore (ls' := [_, _, _, _, _, _, _]) dX3_mergingOf_12 (Nat.le_of_ble_eq_true rfl) rfl ?_
  exact key 8 0 _ rfl
