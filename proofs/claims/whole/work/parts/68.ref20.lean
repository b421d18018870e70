/-! the reference: who waits; what is asked of a class and of a person -/
theorem srkw_le (σ : q_S) (p w : Nat) : srkw σ p w ≤ 3 := by
  unfold srkw
  split
  · omega
  · split
    · omega
    · split <;> omega
theorem swt_iff {σ : q_S} {p w : Nat} : swt σ p w = true ↔ ¬ sP σ p 0 = 0 ∧ srkw σ p w < 3 ∧ srkw σ p w < srank σ p := by
  unfold swt
  rw [Bool.and_eq_true, Bool.and_eq_true, decide_eq_true_iff, decide_eq_true_iff, decide_eq_true_iff, and_assoc]
theorem r_waitsFor {p w : Nat} {I : q_Mem} {σ : q_S} (h : RS I σ) (hw : WFc σ) (hp : p < sN σ 2) (hw2 : w < 2 ^ 31) : q_M kX7_waitsFor [.ref 356, .int (nI p), .int (enc w)] I (fun v J => v = some (.int (if swt σ p w = true then 1 else 0)) ∧ I = J) := by
  have hr := srank_le σ p
  have hk := srkw_le σ p w
  have hs : swt σ p w = true ↔ _ := swt_iff
  refine q_M.of pnX7_waitsFor (by simp [Value.category]) (Nat.le_of_ble_eq_true rfl) ?_
  refine q_aload_n dX7_waitsFor_0 rfl ?_
  refine q_iload_n dX7_waitsFor_1 rfl ?_
  refine q_cV (as := [_]) lk_RX7_54 (r_isHere h hw hp) (Or.inl ⟨6, by decide, k356, rfl⟩) rfl (by decide) (Nat.le_of_ble_eq_true rfl) dX7_waitsFor_2 ?_
  rintro v J ⟨rfl, rfl⟩
  by_cases e : sP σ p 0 = 0
  · rw [if_pos e, if_neg (show ¬ swt σ p w = true from fun z => (hs.mp z).1 e)]
    refine q_if_eq (tgt := 36) dX7_waitsFor_5 (by decide) (fun q => ?_) (fun q => ?_)
    · refine q_iconst (v := nI 0) dX7_waitsFor_36 (by decide) ?_
      exact q_iret rfl rfl dX7_waitsFor_37 ⟨rfl, rfl⟩
    · exact absurd rfl q
  rw [if_neg e]
  refine q_if_eq (tgt := 36) dX7_waitsFor_5 (by decide) (fun q => ?_) (fun q => ?_)
  · exact absurd q (by decide)
  refine q_aload_n dX7_waitsFor_8 rfl ?_
  refine q_iload_n dX7_waitsFor_9 rfl ?_
  refine q_iload_n dX7_waitsFor_10 rfl ?_
  refine q_cV (as := [_, _]) lk_RX7_51 (r_rankOf h hw hp hw2) (Or.inl ⟨6, by decide, k356, rfl⟩) rfl (by decide) (Nat.le_of_ble_eq_true rfl) dX7_waitsFor_11 ?_
  rintro v J ⟨rfl, rfl⟩
  refine q_iconst (v := nI 3) dX7_waitsFor_14 (by decide) ?_
  refine q_icmp_geN (tgt := 36) (by omega) (by omega) dX7_waitsFor_15 (by decide) (fun q2 => ?_) (fun q2 => ?_)
  · refine q_iconst (v := nI 0) dX7_waitsFor_36 (by decide) ?_
    exact q_iret rfl rfl dX7_waitsFor_37 ⟨by rw [if_neg (show ¬ swt σ p w = true from fun z => by have := (hs.mp z).2.1; omega)]; rfl, rfl⟩
  refine q_aload_n dX7_waitsFor_18 rfl ?_
  refine q_iload_n dX7_waitsFor_19 rfl ?_
  refine q_iload_n dX7_waitsFor_20 rfl ?_
  refine q_cV (as := [_, _]) lk_RX7_51 (r_rankOf h hw hp hw2) (Or.inl ⟨6, by decide, k356, rfl⟩) rfl (by decide) (Nat.le_of_ble_eq_true rfl) dX7_waitsFor_21 ?_
  rintro v J ⟨rfl, rfl⟩
  refine q_aload_n dX7_waitsFor_24 rfl ?_
  refine q_iload_n dX7_waitsFor_25 rfl ?_
  refine q_cV (as := [_]) lk_RX7_57 (r_rank h hw hp) (Or.inl ⟨6, by decide, k356, rfl⟩) rfl (by decide) (Nat.le_of_ble_eq_true rfl) dX7_waitsFor_26 ?_
  rintro v J ⟨rfl, rfl⟩
  refine q_icmp_geN (tgt := 36) (by omega) (by omega) dX7_waitsFor_29 (by decide) (fun q3 => ?_) (fun q3 => ?_)
  · refine q_iconst (v := nI 0) dX7_waitsFor_36 (by decide) ?_
    exact q_iret rfl rfl dX7_waitsFor_37 ⟨by rw [if_neg (show ¬ swt σ p w = true from fun z => by have := (hs.mp z).2.2; omega)]; rfl, rfl⟩
  · refine q_iconst (v := nI 1) dX7_waitsFor_32 (by decide) ?_
    refine q_goto (tgt := 37) dX7_waitsFor_33 (by decide) ?_
    exact q_iret rfl rfl dX7_waitsFor_37 ⟨by rw [if_pos (hs.mpr ⟨e, q2, q3⟩)]; rfl, rfl⟩
theorem r_waits1 {p c : Nat} {I : q_Mem} {σ : q_S} (h : RS I σ) (hw : WFc σ) (hp : p < sN σ 2) (hc : c < 8) : q_M kX7_waitsFor [.ref 356, .int (nI p), .int (nI c)] I (fun v J => v = some (.int (if swt σ p (c + 1) = true then 1 else 0)) ∧ I = J) := by
  have := r_waitsFor (w := c + 1) h hw hp (by omega)
  rwa [enc_s] at this
theorem swt_none {σ : q_S} (hw : WFc σ) {k w : Nat} (hk : sN σ 2 ≤ k) : ¬ swt σ k w = true := fun z => (swt_iff.mp z).1 (hw.zero hk 0)
theorem r_waiting {c : Nat} {I : q_Mem} {σ : q_S} (h : RS I σ) (hw : WFc σ) (hc : c < 8) : q_M kX7_waiting [.ref 356, .int (nI c)] I (fun v J => v = some (.int (nI (ssum (fun p => if swt σ p (c + 1) = true then 1 else 0) 30))) ∧ I = J) := by
  have h30 := hw.B.2.2.1
  have hpad : ssum (fun p => if swt σ p (c + 1) = true then 1 else 0) (sN σ 2) = ssum (fun p => if swt σ p (c + 1) = true then 1 else 0) 30 := ssum_30 h30 (fun k hk => if_neg (swt_none hw hk))
  have key : ∀ (d k : Nat), k + d = sN σ 2 → q_X kX7_waiting 4 [some (.ref 356), some (.int (nI c)), some (.int (nI (ssum (fun p => if swt σ p (c + 1) = true then 1 else 0) k))), some (.int (nI k))] [] I (fun v J => v = some (.int (nI (ssum (fun p => if swt σ p (c + 1) = true then 1 else 0) 30))) ∧ I = J) := by
    intro d
    induction d with
    | zero =>
      intro k hd
      obtain rfl : k = sN σ 2 := by omega
      refine q_iload_n dX7_waiting_4 rfl ?_
      refine q_aload_n dX7_waiting_5 rfl ?_
      refine q_getR2 (b := 357) fl_RX7_7 rfl k356 rfl dX7_waiting_6 ?_
      refine q_sipush (v := nI 335) dX7_waiting_9 (by decide) ?_
      refine q_iald k357 rfl (lt357 (by omega)) (by decide) h.n2 dX7_waiting_12 ?_
      refine q_icmp_geN (tgt := 39) (by omega) (by omega) dX7_waiting_13 (by decide) (fun q => ?_) (fun q => ?_)
      · refine q_iload_n dX7_waiting_39 rfl ?_
        exact q_iret rfl rfl dX7_waiting_40 ⟨by rw [hpad], rfl⟩
      · omega
    | succ d ih =>
      intro k hd
      have hk : k < sN σ 2 := by omega
      refine q_iload_n dX7_waiting_4 rfl ?_
      refine q_aload_n dX7_waiting_5 rfl ?_
      refine q_getR2 (b := 357) fl_RX7_7 rfl k356 rfl dX7_waiting_6 ?_
      refine q_sipush (v := nI 335) dX7_waiting_9 (by decide) ?_
      refine q_iald k357 rfl (lt357 (by omega)) (by decide) h.n2 dX7_waiting_12 ?_
      refine q_icmp_geN (tgt := 39) (by omega) (by omega) dX7_waiting_13 (by decide) (fun q => ?_) (fun q => ?_)
      · omega
      refine q_iload_n dX7_waiting_16 rfl ?_
      refine q_aload_n dX7_waiting_17 rfl ?_
      refine q_iload_n dX7_waiting_18 rfl ?_
      refine q_iload_n dX7_waiting_19 rfl ?_
      refine q_cV (as := [_, _]) lk_RX7_154 (r_waits1 h hw hk hc) (Or.inl ⟨6, by decide, k356, rfl⟩) rfl (by decide) (Nat.le_of_ble_eq_true rfl) dX7_waiting_20 ?_
      rintro v J ⟨rfl, rfl⟩
      have nx := ih (k + 1) (by omega)
      rw [ssum] at nx
      by_cases e : swt σ k (c + 1) = true
      · rw [if_pos e] at nx
        rw [if_pos e]
        refine q_if_eq (tgt := 30) dX7_waiting_23 (by decide) (fun q2 => ?_) (fun q2 => ?_)
        · exact absurd q2 (by decide)
        refine q_iconst (v := nI 1) dX7_waiting_26 (by decide) ?_
        refine q_goto (tgt := 31) dX7_waiting_27 (by decide) ?_
        refine q_iadd dX7_waiting_31 ?_
        rw [nI_add]
        refine q_istore_n (ls' := [_, _, _, _]) dX7_waiting_32 (Nat.le_of_ble_eq_true rfl) rfl ?_
        refine q_iinc (ls' := [_, _, _, _]) dX7_waiting_33 rfl (nI_add _ 1) rfl ?_
        refine q_goto (tgt := 4) dX7_waiting_36 (by decide) ?_
        exact nx
      · rw [if_neg e] at nx
        rw [if_neg e]
        refine q_if_eq (tgt := 30) dX7_waiting_23 (by decide) (fun q2 => ?_) (fun q2 => ?_)
        rotate_left
        · exact absurd rfl q2
        refine q_iconst (v := nI 0) dX7_waiting_30 (by decide) ?_
        refine q_iadd dX7_waiting_31 ?_
        rw [nI_add]
        refine q_istore_n (ls' := [_, _, _, _]) dX7_waiting_32 (Nat.le_of_ble_eq_true rfl) rfl ?_
        refine q_iinc (ls' := [_, _, _, _]) dX7_waiting_33 rfl (nI_add _ 1) rfl ?_
        refine q_goto (tgt := 4) dX7_waiting_36 (by decide) ?_
        exact nx
  refine q_M.of pnX7_waiting (by simp [Value.category]) (Nat.le_of_ble_eq_true rfl) ?_
  refine q_iconst (v := nI 0) dX7_waiting_0 (by decide) ?_
  refine q_istore_n (ls' := [_, _, _, _]) dX7_waiting_1 (Nat.le_of_ble_eq_true rfl) rfl ?_
  refine q_iconst (v := nI 0) dX7_waiting_2 (by decide) ?_
  refine q_istore_n (ls' := [_, _, _, _]) dX7_waiting_3 (Nat.le_of_ble_eq_true rfl) rfl ?_
  exact key (sN σ 2) 0 (by omega)
theorem r_member {c r : Int32} {I : q_Mem} {σ : q_S} (h : RS I σ) (hw : WFc σ) : q_M kX7_member [.ref 356, .int c, .int r] I (fun v J => v = some (.int (qMember σ c r)) ∧ I = J) := by
  have h8 := hw.B.1
  have bad : ¬ (isC (sN σ 0) c ∧ ¬ r < 0) → q_X kX7_member 12 [some (.ref 356), some (.int c), some (.int r)] [] I (fun v J => v = some (.int (qMember σ c r)) ∧ I = J) := by
    intro hb
    rw [qMember, if_neg hb]
    refine q_ldc (v := -1000001) ct_RX7_109 dX7_member_12 ?_
    exact q_iret rfl rfl dX7_member_14 ⟨rfl, rfl⟩
  refine q_M.of pnX7_member (by simp [Value.category]) (Nat.le_of_ble_eq_true rfl) ?_
  refine q_aload_n dX7_member_0 rfl ?_
  refine q_iload_n dX7_member_1 rfl ?_
  refine q_cV (as := [_]) lk_RX7_103 (r_isCourse h hw.B) (Or.inl ⟨6, by decide, k356, rfl⟩) rfl (by decide) (Nat.le_of_ble_eq_true rfl) dX7_member_2 ?_
  rintro v J ⟨rfl, rfl⟩
  by_cases c1 : isC (sN σ 0) c
  case neg =>
    rw [if_neg c1]
    refine q_if_eq (tgt := 12) dX7_member_5 (by decide) (fun q => ?_) (fun q => ?_)
    · exact bad (fun z => c1 z.1)
    · exact absurd rfl q
  rw [if_pos c1]
  refine q_if_eq (tgt := 12) dX7_member_5 (by decide) (fun q => ?_) (fun q => ?_)
  · exact absurd q (by decide)
  refine q_iload_n dX7_member_8 rfl ?_
  refine q_if_ge (tgt := 15) dX7_member_9 (by decide) (fun q2 => ?_) (fun q2 => ?_)
  rotate_left
  · exact bad (fun z => z.2 (Int32.not_le.mp q2))
  have q0 : ¬ r < 0 := Int32.not_lt.mpr q2
  obtain ⟨i, hi, rfl⟩ := nI_of q0
  obtain ⟨d, hd, rfl⟩ := (isC_iff (by omega)).mp c1
  have hsl : (sL σ d).length = sLen σ d := rfl
  have hld := hw.len d
  have hv : qMember σ (nI d) (nI i) = (match (sL σ d)[i]? with
    | some p => nI p
    | none => -1000004) := by rw [qMember, if_pos ⟨c1, q0⟩, nI_clamp (by omega), nI_clamp (by omega)]; rfl
  rw [hv]
  refine q_iload_n dX7_member_15 rfl ?_
  refine q_aload_n dX7_member_16 rfl ?_
  refine q_iload_n dX7_member_17 rfl ?_
  refine q_cV (as := [_]) lk_RX7_47 (r_people h hw.B hd) (Or.inl ⟨6, by decide, k356, rfl⟩) rfl (by decide) (Nat.le_of_ble_eq_true rfl) dX7_member_18 ?_
  rintro v J ⟨rfl, rfl⟩
  refine q_icmp_geN (tgt := 40) (by omega) (by omega) dX7_member_21 (by decide) (fun q3 => ?_) (fun q3 => ?_)
  · rw [List.getElem?_eq_none (by omega)]
    refine q_ldc (v := -1000004) ct_RX7_157 dX7_member_40 ?_
    exact q_iret rfl rfl dX7_member_42 ⟨rfl, rfl⟩
  · obtain ⟨p, hp⟩ : ∃ p, (sL σ d)[i]? = some p := ⟨_, List.getElem?_eq_getElem (by omega)⟩
    rw [hp]
    have hm := h.m hd hp
    rw [show 1 + 41 * d + 11 + i = 1 + 41 * d + (11 + i) by omega] at hm
    refine q_aload_n dX7_member_24 rfl ?_
    refine q_getR2 (b := 357) fl_RX7_7 rfl k356 rfl dX7_member_25 ?_
    refine q_iload_n dX7_member_28 rfl ?_
    refine q_bipush (v := nI 11) dX7_member_29 (by decide) ?_
    refine q_iload_n dX7_member_31 rfl ?_
    refine q_iadd dX7_member_32 ?_
    rw [nI_add]
    refine q_cS (as := [_, _]) lk_RX7_40 r_at rfl (by decide) (Nat.le_of_ble_eq_true rfl) dX7_member_33 ?_
    rintro v J ⟨rfl, rfl⟩
    refine q_iald k357 rfl (lt357 (by omega)) (by decide) hm dX7_member_36 ?_
    refine q_goto (tgt := 42) dX7_member_37 (by decide) ?_
    exact q_iret rfl rfl dX7_member_42 ⟨rfl, rfl⟩
theorem swn_0 {σ : q_S} {w n : Nat} (h : ∀ i, n ≤ i → ¬ swt σ i w = true) : ∀ e k r, n ≤ k → swn σ w e k r = 0 := by
  intro e
  induction e with
  | zero => intro k r hk; rfl
  | succ e ih => intro k r hk; rw [swn, if_neg (h k hk)]; exact ih _ _ (by omega)
theorem swn_pad {σ : q_S} {w n : Nat} (h : ∀ i, n ≤ i → ¬ swt σ i w = true) (e : Nat) : ∀ d k r, k + d = n → swn σ w (d + e) k r = swn σ w d k r := by
  intro d
  induction d with
  | zero => intro k r hk; rw [swn_0 h _ _ _ (by omega)]; rfl
  | succ d ih => intro k r hk; rw [show d + 1 + e = d + e + 1 by omega, swn, swn, ih _ _ (by omega), ih _ _ (by omega)]
theorem nI_dec {a : Nat} (h : ¬ a = 0) : nI a + Int32.ofInt (-1) = nI (a - 1) := by
  rw [← pk_sub (show 1 ≤ a by omega), Int32.sub_eq_add_neg]
  rfl
theorem r_waits {c r : Int32} {I : q_Mem} {σ : q_S} (h : RS I σ) (hw : WFc σ) : q_M kX7_waits [.ref 356, .int c, .int r] I (fun v J => v = some (.int (qWaits σ c r)) ∧ I = J) := by
  have h8 := hw.B.1
  have h30 := hw.B.2.2.1
  have bad : ¬ (isC (sN σ 0) c ∧ ¬ r < 0) → ∀ o3 o4, q_X kX7_waits 12 [some (.ref 356), some (.int c), some (.int r), o3, o4] [] I (fun v J => v = some (.int (qWaits σ c r)) ∧ I = J) := by
    intro hb o3 o4
    rw [qWaits, if_neg hb]
    refine q_ldc (v := -1000001) ct_RX7_109 dX7_waits_12 ?_
    exact q_iret rfl rfl dX7_waits_14 ⟨rfl, rfl⟩
  refine q_M.of pnX7_waits (by simp [Value.category]) (Nat.le_of_ble_eq_true rfl) ?_
  refine q_aload_n dX7_waits_0 rfl ?_
  refine q_iload_n dX7_waits_1 rfl ?_
  refine q_cV (as := [_]) lk_RX7_103 (r_isCourse h hw.B) (Or.inl ⟨6, by decide, k356, rfl⟩) rfl (by decide) (Nat.le_of_ble_eq_true rfl) dX7_waits_2 ?_
  rintro v J ⟨rfl, rfl⟩
  by_cases c1 : isC (sN σ 0) c
  case neg =>
    rw [if_neg c1]
    refine q_if_eq (tgt := 12) dX7_waits_5 (by decide) (fun q => ?_) (fun q => ?_)
    · exact bad (fun z => c1 z.1) _ _
    · exact absurd rfl q
  rw [if_pos c1]
  refine q_if_eq (tgt := 12) dX7_waits_5 (by decide) (fun q => ?_) (fun q => ?_)
  · exact absurd q (by decide)
  refine q_iload_n dX7_waits_8 rfl ?_
  refine q_if_ge (tgt := 15) dX7_waits_9 (by decide) (fun q2 => ?_) (fun q2 => ?_)
  rotate_left
  · exact bad (fun z => z.2 (Int32.not_le.mp q2)) _ _
  have q0 : ¬ r < 0 := Int32.not_lt.mpr q2
  obtain ⟨i, hi, rfl⟩ := nI_of q0
  obtain ⟨c, hc, rfl⟩ := (isC_iff (by omega)).mp c1
  have hv : qWaits σ (nI c) (nI i) = told (swn σ (c + 1) 30 0 i) := by rw [qWaits, if_pos ⟨c1, q0⟩, nI_clamp (by omega), nI_clamp (by omega)]
  rw [hv]
  have hpad : swn σ (c + 1) 30 0 i = swn σ (c + 1) (sN σ 2) 0 i := by
    have := swn_pad (σ := σ) (w := c + 1) (fun i hi => swt_none hw hi) (30 - sN σ 2) (sN σ 2) 0 i (by omega)
    rwa [show sN σ 2 + (30 - sN σ 2) = 30 by omega] at this
  rw [hpad]
  have key : ∀ (d k a : Nat), k + d = sN σ 2 → a < 2 ^ 31 → swn σ (c + 1) d k a = swn σ (c + 1) (sN σ 2) 0 i → q_X kX7_waits 20 [some (.ref 356), some (.int (nI c)), some (.int (nI i)), some (.int (nI a)), some (.int (nI k))] [] I (fun v J => v = some (.int (told (swn σ (c + 1) (sN σ 2) 0 i))) ∧ I = J) := by
    intro d
    induction d with
    | zero =>
      intro k a hd ha hs
      refine q_iload dX7_waits_20 rfl ?_
      refine q_aload_n dX7_waits_22 rfl ?_
      refine q_getR2 (b := 357) fl_RX7_7 rfl k356 rfl dX7_waits_23 ?_
      refine q_sipush (v := nI 335) dX7_waits_26 (by decide) ?_
      refine q_iald k357 rfl (lt357 (by omega)) (by decide) h.n2 dX7_waits_29 ?_
      refine q_icmp_geN (tgt := 59) (by omega) (by omega) dX7_waits_30 (by decide) (fun q => ?_) (fun q => ?_)
      · rw [← hs]
        refine q_ldc (v := -1000004) ct_RX7_157 dX7_waits_59 ?_
        exact q_iret rfl rfl dX7_waits_61 ⟨rfl, rfl⟩
      · omega
    | succ d ih =>
      intro k a hd ha hs
      have hk : k < sN σ 2 := by omega
      refine q_iload dX7_waits_20 rfl ?_
      refine q_aload_n dX7_waits_22 rfl ?_
      refine q_getR2 (b := 357) fl_RX7_7 rfl k356 rfl dX7_waits_23 ?_
      refine q_sipush (v := nI 335) dX7_waits_26 (by decide) ?_
      refine q_iald k357 rfl (lt357 (by omega)) (by decide) h.n2 dX7_waits_29 ?_
      refine q_icmp_geN (tgt := 59) (by omega) (by omega) dX7_waits_30 (by decide) (fun q => ?_) (fun q => ?_)
      · omega
      refine q_aload_n dX7_waits_33 rfl ?_
      refine q_iload dX7_waits_34 rfl ?_
      refine q_iload_n dX7_waits_36 rfl ?_
      refine q_cV (as := [_, _]) lk_RX7_154 (r_waits1 h hw hk (by omega)) (Or.inl ⟨6, by decide, k356, rfl⟩) rfl (by decide) (Nat.le_of_ble_eq_true rfl) dX7_waits_37 ?_
      rintro v J ⟨rfl, rfl⟩
      rw [swn] at hs
      by_cases e : swt σ k (c + 1) = true
      · rw [if_pos e] at hs
        rw [if_pos e]
        refine q_if_eq (tgt := 53) dX7_waits_40 (by decide) (fun q4 => ?_) (fun q4 => ?_)
        · exact absurd q4 (by decide)
        refine q_iload_n dX7_waits_43 rfl ?_
        refine q_if_neN (tgt := 50) (by omega) dX7_waits_44 (by decide) (fun q5 => ?_) (fun q5 => ?_)
        · rw [if_neg (by omega)] at hs
          refine q_iinc (ls' := [_, _, _, _, _]) dX7_waits_50 rfl (nI_dec (by omega)) rfl ?_
          refine q_iinc (ls' := [_, _, _, _, _]) dX7_waits_53 rfl (nI_add _ 1) rfl ?_
          refine q_goto (tgt := 20) dX7_waits_56 (by decide) ?_
          exact ih (k + 1) (a - 1) (by omega) (by omega) hs
        · rw [if_pos (by omega)] at hs
          refine q_iload dX7_waits_47 rfl ?_
          exact q_iret rfl rfl dX7_waits_49 ⟨by rw [← hs]; rfl, rfl⟩
      · rw [if_neg e] at hs
        rw [if_neg e]
        refine q_if_eq (tgt := 53) dX7_waits_40 (by decide) (fun q4 => ?_) (fun q4 => ?_)
        rotate_left
        · exact absurd rfl q4
        refine q_iinc (ls' := [_, _, _, _, _]) dX7_waits_53 rfl (nI_add _ 1) rfl ?_
        refine q_goto (tgt := 20) dX7_waits_56 (by decide) ?_
        exact ih (k + 1) a (by omega) ha hs
  refine q_iload_n dX7_waits_15 rfl ?_
  refine q_istore_n (ls' := [_, _, _, _, _]) dX7_waits_16 (Nat.le_of_ble_eq_true rfl) rfl ?_
  refine q_iconst (v := nI 0) dX7_waits_17 (by decide) ?_
  refine q_istore (ls' := [_, _, _, _, _]) dX7_waits_18 (Nat.le_of_ble_eq_true rfl) rfl ?_
  exact key (sN σ 2) 0 i (by omega) hi rfl
theorem r_courseOf {c w : Int32} {I : q_Mem} {σ : q_S} (h : RS I σ) (hw : WFc σ) : q_M kX7_courseOf [.ref 356, .int c, .int w] I (fun v J => v = some (.int (qCourseOf σ c w)) ∧ I = J) := by
  have h8 := hw.B.1
  have bad : ¬ (isC (sN σ 0) c ∧ isC 13 w) → ∀ o3, q_X kX7_courseOf 18 [some (.ref 356), some (.int c), some (.int w), o3] [] I (fun v J => v = some (.int (qCourseOf σ c w)) ∧ I = J) := by
    intro hb o3
    rw [qCourseOf, if_neg hb]
    refine q_ldc (v := -1000001) ct_RX7_109 dX7_courseOf_18 ?_
    exact q_iret rfl rfl dX7_courseOf_20 ⟨rfl, rfl⟩
  refine q_M.of pnX7_courseOf (by simp [Value.category]) (Nat.le_of_ble_eq_true rfl) ?_
  refine q_aload_n dX7_courseOf_0 rfl ?_
  refine q_iload_n dX7_courseOf_1 rfl ?_
  refine q_cV (as := [_]) lk_RX7_103 (r_isCourse h hw.B) (Or.inl ⟨6, by decide, k356, rfl⟩) rfl (by decide) (Nat.le_of_ble_eq_true rfl) dX7_courseOf_2 ?_
  rintro v J ⟨rfl, rfl⟩
  by_cases c1 : isC (sN σ 0) c
  case neg =>
    rw [if_neg c1]
    refine q_if_eq (tgt := 18) dX7_courseOf_5 (by decide) (fun q => ?_) (fun q => ?_)
    · exact bad (fun z => c1 z.1) _
    · exact absurd rfl q
  rw [if_pos c1]
  refine q_if_eq (tgt := 18) dX7_courseOf_5 (by decide) (fun q => ?_) (fun q => ?_)
  · exact absurd q (by decide)
  refine q_iload_n dX7_courseOf_8 rfl ?_
  refine q_iconst (v := nI 0) dX7_courseOf_9 (by decide) ?_
  refine q_bipush (v := nI 12) dX7_courseOf_10 (by decide) ?_
  refine q_cS (as := [_, _, _]) lk_RX7_32 r_in rfl (by decide) (Nat.le_of_ble_eq_true rfl) dX7_courseOf_12 ?_
  rintro v J ⟨rfl, rfl⟩
  by_cases hwc : isC 13 w
  case neg =>
    rw [if_neg (show ¬ (nI 0 ≤ w ∧ w ≤ nI 12) from fun z => hwc ((isC_le (by omega)).mpr z))]
    refine q_if_ne (tgt := 21) dX7_courseOf_15 (by decide) (fun q => ?_) (fun q => ?_)
    · exact absurd rfl q
    · exact bad (fun z => hwc z.2) _
  rw [if_pos (show nI 0 ≤ w ∧ w ≤ nI 12 from (isC_le (by omega)).mp hwc)]
  refine q_if_ne (tgt := 21) dX7_courseOf_15 (by decide) (fun q2 => ?_) (fun q2 => ?_)
  rotate_left
  · exact absurd q2 (by decide)
  obtain ⟨d, hd, rfl⟩ := (isC_iff (by omega)).mp c1
  obtain ⟨j, hj, rfl⟩ := (isC_iff (by omega)).mp hwc
  have hv : qCourseOf σ (nI d) (nI j) = cof σ d j := by rw [qCourseOf, if_pos ⟨c1, hwc⟩, nI_clamp (by omega), nI_clamp (by omega)]
  rw [hv]
  have hd8 : d < 8 := by omega
  obtain ⟨x0, x1, x2, x3, x4, x5, x6, x7, x8, x9, x10⟩ := hw.cr hd8
  have hld := hw.len d
  refine q_aload_n dX7_courseOf_21 rfl ?_
  refine q_getR2 (b := 357) fl_RX7_7 rfl k356 rfl dX7_courseOf_22 ?_
  refine q_iload_n dX7_courseOf_25 rfl ?_
  refine q_iconst (v := nI 3) dX7_courseOf_26 (by decide) ?_
  refine q_cS (as := [_, _]) lk_RX7_40 r_at rfl (by decide) (Nat.le_of_ble_eq_true rfl) dX7_courseOf_27 ?_
  rintro v J ⟨rfl, rfl⟩
  refine q_iald k357 rfl (lt357 (by omega)) (by decide) (h.c hd (j := 3) (by omega)) dX7_courseOf_30 ?_
  refine q_aload_n dX7_courseOf_31 rfl ?_
  refine q_iload_n dX7_courseOf_32 rfl ?_
  rw [show cenc 3 (sC σ d 3) = nI (sC σ d 3) from rfl]
  refine q_cV (as := [_]) lk_RX7_47 (r_people h hw.B hd) (Or.inl ⟨6, by decide, k356, rfl⟩) rfl (by decide) (Nat.le_of_ble_eq_true rfl) dX7_courseOf_33 ?_
  rintro v J ⟨rfl, rfl⟩
  refine q_isub dX7_courseOf_36 ?_
  refine q_istore_n (ls' := [_, _, _, _]) dX7_courseOf_37 (Nat.le_of_ble_eq_true rfl) rfl ?_
  refine q_iload_n dX7_courseOf_38 rfl ?_
  have plain : ∀ j, j < 7 → q_X kX7_courseOf 39 [some (.ref 356), some (.int (nI d)), some (.int (nI j)), some (.int (nI (sC σ d 3) - nI (sLen σ d)))] [.int (nI j)] I (fun v J => v = some (.int (cenc j (sC σ d j))) ∧ I = J) := by
    intro j hj
    refine q_tabOut (tgt := 140) dX7_courseOf_39 (by rw [nI_toInt (by omega)]; omega) (by decide) ?_
    refine q_aload_n dX7_courseOf_140 rfl ?_
    refine q_getR2 (b := 357) fl_RX7_7 rfl k356 rfl dX7_courseOf_141 ?_
    refine q_iload_n dX7_courseOf_144 rfl ?_
    refine q_iload_n dX7_courseOf_145 rfl ?_
    refine q_cS (as := [_, _]) lk_RX7_40 r_at rfl (by decide) (Nat.le_of_ble_eq_true rfl) dX7_courseOf_146 ?_
    rintro v J ⟨rfl, rfl⟩
    refine q_iald k357 rfl (lt357 (by omega)) (by decide) (h.c hd (j := j) (by omega)) dX7_courseOf_149 ?_
    exact q_iret rfl rfl dX7_courseOf_150 ⟨rfl, rfl⟩
  have hjc : j = 0 ∨ j = 1 ∨ j = 2 ∨ j = 3 ∨ j = 4 ∨ j = 5 ∨ j = 6 ∨ j = 7 ∨ j = 8 ∨ j = 9 ∨ j = 10 ∨ j = 11 ∨ j = 12 := by omega
  rcases hjc with rfl | rfl | rfl | rfl | rfl | rfl | rfl | rfl | rfl | rfl | rfl | rfl | rfl
  · exact plain 0 (by omega)
  · exact plain 1 (by omega)
  · exact plain 2 (by omega)
  · exact plain 3 (by omega)
  · exact plain 4 (by omega)
  · exact plain 5 (by omega)
  · exact plain 6 (by omega)
  · refine q_tabIn (off := 37) (tgt := 76) dX7_courseOf_39 (by decide) (by decide) (by decide) (by decide) ?_
    refine q_aload_n dX7_courseOf_76 rfl ?_
    refine q_iload_n dX7_courseOf_77 rfl ?_
    refine q_cV (as := [_]) lk_RX7_47 (r_people h hw.B hd) (Or.inl ⟨6, by decide, k356, rfl⟩) rfl (by decide) (Nat.le_of_ble_eq_true rfl) dX7_courseOf_78 ?_
    rintro v J ⟨rfl, rfl⟩
    exact q_iret rfl rfl dX7_courseOf_81 ⟨rfl, rfl⟩
  · refine q_tabIn (off := 43) (tgt := 82) dX7_courseOf_39 (by decide) (by decide) (by decide) (by decide) ?_
    refine q_aload_n dX7_courseOf_82 rfl ?_
    refine q_iload_n dX7_courseOf_83 rfl ?_
    refine q_cV (as := [_]) lk_RX7_158 (r_waiting h hw hd8) (Or.inl ⟨6, by decide, k356, rfl⟩) rfl (by decide) (Nat.le_of_ble_eq_true rfl) dX7_courseOf_84 ?_
    rintro v J ⟨rfl, rfl⟩
    exact q_iret rfl rfl dX7_courseOf_87 ⟨rfl, rfl⟩
  · refine q_tabIn (off := 49) (tgt := 88) dX7_courseOf_39 (by decide) (by decide) (by decide) (by decide) ?_
    refine q_aload_n dX7_courseOf_88 rfl ?_
    refine q_getR2 (b := 357) fl_RX7_7 rfl k356 rfl dX7_courseOf_89 ?_
    refine q_iload_n dX7_courseOf_92 rfl ?_
    refine q_bipush (v := nI 7) dX7_courseOf_93 (by decide) ?_
    refine q_cS (as := [_, _]) lk_RX7_40 r_at rfl (by decide) (Nat.le_of_ble_eq_true rfl) dX7_courseOf_95 ?_
    rintro v J ⟨rfl, rfl⟩
    refine q_iald k357 rfl (lt357 (by omega)) (by decide) (h.c hd (j := 7) (by omega)) dX7_courseOf_98 ?_
    rw [show cenc 7 (sC σ d 7) = enc (sC σ d 7) from rfl]
    refine q_cS (as := [_]) lk_RX7_161 (r_told (w := sC σ d 7) (by omega)) rfl (by decide) (Nat.le_of_ble_eq_true rfl) dX7_courseOf_99 ?_
    rintro v J ⟨rfl, rfl⟩
    exact q_iret rfl rfl dX7_courseOf_102 ⟨rfl, rfl⟩
  · refine q_tabIn (off := 64) (tgt := 103) dX7_courseOf_39 (by decide) (by decide) (by decide) (by decide) ?_
    refine q_aload_n dX7_courseOf_103 rfl ?_
    refine q_getR2 (b := 357) fl_RX7_7 rfl k356 rfl dX7_courseOf_104 ?_
    refine q_iload_n dX7_courseOf_107 rfl ?_
    refine q_bipush (v := nI 8) dX7_courseOf_108 (by decide) ?_
    refine q_cS (as := [_, _]) lk_RX7_40 r_at rfl (by decide) (Nat.le_of_ble_eq_true rfl) dX7_courseOf_110 ?_
    rintro v J ⟨rfl, rfl⟩
    refine q_iald k357 rfl (lt357 (by omega)) (by decide) (h.c hd (j := 8) (by omega)) dX7_courseOf_113 ?_
    rw [show cenc 8 (sC σ d 8) = enc (sC σ d 8) from rfl]
    refine q_cS (as := [_]) lk_RX7_161 (r_told (w := sC σ d 8) (by omega)) rfl (by decide) (Nat.le_of_ble_eq_true rfl) dX7_courseOf_114 ?_
    rintro v J ⟨rfl, rfl⟩
    exact q_iret rfl rfl dX7_courseOf_117 ⟨rfl, rfl⟩
  · refine q_tabIn (off := 79) (tgt := 118) dX7_courseOf_39 (by decide) (by decide) (by decide) (by decide) ?_
    rw [show cof σ d 11 = nI (sC σ d 3 - sLen σ d) from rfl]
    refine q_iload_n dX7_courseOf_118 rfl ?_
    rcases Nat.lt_or_ge (sC σ d 3) (sLen σ d) with z | z
    · have hneg := pk_sneg (by omega) z
      refine q_if_ge (tgt := 126) dX7_courseOf_119 (by decide) (fun q => ?_) (fun q => ?_)
      · exact absurd hneg (Int32.not_lt.mpr q)
      · refine q_iconst (v := nI 0) dX7_courseOf_122 (by decide) ?_
        refine q_goto (tgt := 127) dX7_courseOf_123 (by decide) ?_
        exact q_iret rfl rfl dX7_courseOf_127 ⟨by rw [Nat.sub_eq_zero_of_le (Nat.le_of_lt z)], rfl⟩
    · have hpos : nI (sC σ d 3) - nI (sLen σ d) = nI (sC σ d 3 - sLen σ d) := pk_sub z
      rw [hpos]
      refine q_if_ge (tgt := 126) dX7_courseOf_119 (by decide) (fun q => ?_) (fun q => ?_)
      · refine q_iload_n dX7_courseOf_126 rfl ?_
        exact q_iret rfl rfl dX7_courseOf_127 ⟨rfl, rfl⟩
      · exact absurd (nI_pos' (by omega)) q
  · refine q_tabIn (off := 89) (tgt := 128) dX7_courseOf_39 (by decide) (by decide) (by decide) (by decide) ?_
    refine q_aload_n dX7_courseOf_128 rfl ?_
    refine q_getR2 (b := 357) fl_RX7_7 rfl k356 rfl dX7_courseOf_129 ?_
    refine q_iload_n dX7_courseOf_132 rfl ?_
    refine q_bipush (v := nI 9) dX7_courseOf_133 (by decide) ?_
    refine q_cS (as := [_, _]) lk_RX7_40 r_at rfl (by decide) (Nat.le_of_ble_eq_true rfl) dX7_courseOf_135 ?_
    rintro v J ⟨rfl, rfl⟩
    refine q_iald k357 rfl (lt357 (by omega)) (by decide) (h.c hd (j := 9) (by omega)) dX7_courseOf_138 ?_
    exact q_iret rfl rfl dX7_courseOf_139 ⟨rfl, rfl⟩
theorem r_personOf {p w : Int32} {I : q_Mem} {σ : q_S} (h : RS I σ) (hw : WFc σ) : q_M kX7_personOf [.ref 356, .int p, .int w] I (fun v J => v = some (.int (qPersonOf σ p w)) ∧ I = J) := by
  have h8 := hw.B.1
  have h30 := hw.B.2.2.1
  have bad : ¬ (isC (sN σ 2) p ∧ isC 8 w) → q_X kX7_personOf 18 [some (.ref 356), some (.int p), some (.int w)] [] I (fun v J => v = some (.int (qPersonOf σ p w)) ∧ I = J) := by
    intro hb
    rw [qPersonOf, if_neg hb]
    refine q_ldc (v := -1000001) ct_RX7_109 dX7_personOf_18 ?_
    exact q_iret rfl rfl dX7_personOf_20 ⟨rfl, rfl⟩
  refine q_M.of pnX7_personOf (by simp [Value.category]) (Nat.le_of_ble_eq_true rfl) ?_
  refine q_aload_n dX7_personOf_0 rfl ?_
  refine q_iload_n dX7_personOf_1 rfl ?_
  refine q_cV (as := [_]) lk_RX7_116 (r_isPerson h hw.B) (Or.inl ⟨6, by decide, k356, rfl⟩) rfl (by decide) (Nat.le_of_ble_eq_true rfl) dX7_personOf_2 ?_
  rintro v J ⟨rfl, rfl⟩
  by_cases c1 : isC (sN σ 2) p
  case neg =>
    rw [if_neg c1]
    refine q_if_eq (tgt := 18) dX7_personOf_5 (by decide) (fun q => ?_) (fun q => ?_)
    · exact bad (fun z => c1 z.1)
    · exact absurd rfl q
  rw [if_pos c1]
  refine q_if_eq (tgt := 18) dX7_personOf_5 (by decide) (fun q => ?_) (fun q => ?_)
  · exact absurd q (by decide)
  refine q_iload_n dX7_personOf_8 rfl ?_
  refine q_iconst (v := nI 0) dX7_personOf_9 (by decide) ?_
  refine q_bipush (v := nI 7) dX7_personOf_10 (by decide) ?_
  refine q_cS (as := [_, _, _]) lk_RX7_32 r_in rfl (by decide) (Nat.le_of_ble_eq_true rfl) dX7_personOf_12 ?_
  rintro v J ⟨rfl, rfl⟩
  by_cases hwc : isC 8 w
  case neg =>
    rw [if_neg (show ¬ (nI 0 ≤ w ∧ w ≤ nI 7) from fun z => hwc ((isC_le (by omega)).mpr z))]
    refine q_if_ne (tgt := 21) dX7_personOf_15 (by decide) (fun q => ?_) (fun q => ?_)
    · exact absurd rfl q
    · exact bad (fun z => hwc z.2)
  rw [if_pos (show nI 0 ≤ w ∧ w ≤ nI 7 from (isC_le (by omega)).mp hwc)]
  refine q_if_ne (tgt := 21) dX7_personOf_15 (by decide) (fun q2 => ?_) (fun q2 => ?_)
  rotate_left
  · exact absurd q2 (by decide)
  obtain ⟨d, hd, rfl⟩ := (isC_iff (by omega)).mp c1
  obtain ⟨j, hj, rfl⟩ := (isC_iff (by omega)).mp hwc
  have hv : qPersonOf σ (nI d) (nI j) = pof σ d j := by rw [qPersonOf, if_pos ⟨c1, hwc⟩, nI_clamp (by omega), nI_clamp (by omega)]
  rw [hv]
  obtain ⟨x0, x1, x2, x3, x4, x5, -⟩ := hw.pr d
  refine q_iload_n dX7_personOf_21 rfl ?_
  have hjc : j = 0 ∨ j = 1 ∨ j = 2 ∨ j = 3 ∨ j = 4 ∨ j = 5 ∨ j = 6 ∨ j = 7 := by omega
  rcases hjc with rfl | rfl | rfl | rfl | rfl | rfl | rfl | rfl
  · refine q_tabIn (off := 34) (tgt := 56) dX7_personOf_22 (by decide) (by decide) (by decide) (by decide) ?_
    refine q_aload_n dX7_personOf_56 rfl ?_
    refine q_getR2 (b := 357) fl_RX7_7 rfl k356 rfl dX7_personOf_57 ?_
    refine q_iload_n dX7_personOf_60 rfl ?_
    refine q_iconst (v := nI 0) dX7_personOf_61 (by decide) ?_
    refine q_cS (as := [_, _]) lk_RX7_36 r_of rfl (by decide) (Nat.le_of_ble_eq_true rfl) dX7_personOf_62 ?_
    rintro v J ⟨rfl, rfl⟩
    refine q_iald k357 rfl (lt357 (by omega)) (by decide) (h.p hd (j := 0) (by omega)) dX7_personOf_65 ?_
    exact q_iret rfl rfl dX7_personOf_66 ⟨rfl, rfl⟩
  · refine q_tabIn (off := 45) (tgt := 67) dX7_personOf_22 (by decide) (by decide) (by decide) (by decide) ?_
    refine q_aload_n dX7_personOf_67 rfl ?_
    refine q_getR2 (b := 357) fl_RX7_7 rfl k356 rfl dX7_personOf_68 ?_
    refine q_iload_n dX7_personOf_71 rfl ?_
    refine q_iconst (v := nI 4) dX7_personOf_72 (by decide) ?_
    refine q_cS (as := [_, _]) lk_RX7_36 r_of rfl (by decide) (Nat.le_of_ble_eq_true rfl) dX7_personOf_73 ?_
    rintro v J ⟨rfl, rfl⟩
    refine q_iald k357 rfl (lt357 (by omega)) (by decide) (h.p hd (j := 4) (by omega)) dX7_personOf_76 ?_
    rw [show penc 4 (sP σ d 4) = enc (sP σ d 4) from rfl]
    refine q_cS (as := [_]) lk_RX7_161 (r_told (w := sP σ d 4) (by omega)) rfl (by decide) (Nat.le_of_ble_eq_true rfl) dX7_personOf_77 ?_
    rintro v J ⟨rfl, rfl⟩
    exact q_iret rfl rfl dX7_personOf_80 ⟨rfl, rfl⟩
  · refine q_tabIn (off := 59) (tgt := 81) dX7_personOf_22 (by decide) (by decide) (by decide) (by decide) ?_
    refine q_aload_n dX7_personOf_81 rfl ?_
    refine q_iload_n dX7_personOf_82 rfl ?_
    refine q_cV (as := [_]) lk_RX7_57 (r_rank h hw hd) (Or.inl ⟨6, by decide, k356, rfl⟩) rfl (by decide) (Nat.le_of_ble_eq_true rfl) dX7_personOf_83 ?_
    rintro v J ⟨rfl, rfl⟩
    exact q_iret rfl rfl dX7_personOf_86 ⟨rfl, rfl⟩
  · refine q_tabIn (off := 65) (tgt := 87) dX7_personOf_22 (by decide) (by decide) (by decide) (by decide) ?_
    refine q_aload_n dX7_personOf_87 rfl ?_
    refine q_getR2 (b := 357) fl_RX7_7 rfl k356 rfl dX7_personOf_88 ?_
    refine q_iload_n dX7_personOf_91 rfl ?_
    refine q_iconst (v := nI 5) dX7_personOf_92 (by decide) ?_
    refine q_cS (as := [_, _]) lk_RX7_36 r_of rfl (by decide) (Nat.le_of_ble_eq_true rfl) dX7_personOf_93 ?_
    rintro v J ⟨rfl, rfl⟩
    refine q_iald k357 rfl (lt357 (by omega)) (by decide) (h.p hd (j := 5) (by omega)) dX7_personOf_96 ?_
    exact q_iret rfl rfl dX7_personOf_97 ⟨rfl, rfl⟩
  · refine q_tabIn (off := 76) (tgt := 98) dX7_personOf_22 (by decide) (by decide) (by decide) (by decide) ?_
    refine q_aload_n dX7_personOf_98 rfl ?_
    refine q_getR2 (b := 357) fl_RX7_7 rfl k356 rfl dX7_personOf_99 ?_
    refine q_iload_n dX7_personOf_102 rfl ?_
    refine q_bipush (v := nI 6) dX7_personOf_103 (by decide) ?_
    refine q_cS (as := [_, _]) lk_RX7_36 r_of rfl (by decide) (Nat.le_of_ble_eq_true rfl) dX7_personOf_105 ?_
    rintro v J ⟨rfl, rfl⟩
    refine q_iald k357 rfl (lt357 (by omega)) (by decide) (h.p hd (j := 6) (by omega)) dX7_personOf_108 ?_
    exact q_iret rfl rfl dX7_personOf_109 ⟨rfl, rfl⟩
  · refine q_tabOut (tgt := 110) dX7_personOf_22 (by rw [nI_toInt (by omega)]; omega) (by decide) ?_
    refine q_aload_n dX7_personOf_110 rfl ?_
    refine q_getR2 (b := 357) fl_RX7_7 rfl k356 rfl dX7_personOf_111 ?_
    refine q_iload_n dX7_personOf_114 rfl ?_
    refine q_iconst (v := nI 1) dX7_personOf_115 (by decide) ?_
    refine q_iload_n dX7_personOf_116 rfl ?_
    refine q_iadd dX7_personOf_117 ?_
    refine q_iconst (v := nI 5) dX7_personOf_118 (by decide) ?_
    refine q_isub dX7_personOf_119 ?_
    rw [show nI 1 + nI 5 - nI 5 = nI 1 from rfl]
    refine q_cS (as := [_, _]) lk_RX7_36 r_of rfl (by decide) (Nat.le_of_ble_eq_true rfl) dX7_personOf_120 ?_
    rintro v J ⟨rfl, rfl⟩
    refine q_iald k357 rfl (lt357 (by omega)) (by decide) (h.p hd (j := 1) (by omega)) dX7_personOf_123 ?_
    rw [show penc 1 (sP σ d 1) = enc (sP σ d 1) from rfl]
    refine q_cS (as := [_]) lk_RX7_161 (r_told (w := sP σ d 1) (by omega)) rfl (by decide) (Nat.le_of_ble_eq_true rfl) dX7_personOf_124 ?_
    rintro v J ⟨rfl, rfl⟩
    exact q_iret rfl rfl dX7_personOf_127 ⟨rfl, rfl⟩
  · refine q_tabOut (tgt := 110) dX7_personOf_22 (by rw [nI_toInt (by omega)]; omega) (by decide) ?_
    refine q_aload_n dX7_personOf_110 rfl ?_
    refine q_getR2 (b := 357) fl_RX7_7 rfl k356 rfl dX7_personOf_111 ?_
    refine q_iload_n dX7_personOf_114 rfl ?_
    refine q_iconst (v := nI 1) dX7_personOf_115 (by decide) ?_
    refine q_iload_n dX7_personOf_116 rfl ?_
    refine q_iadd dX7_personOf_117 ?_
    refine q_iconst (v := nI 5) dX7_personOf_118 (by decide) ?_
    refine q_isub dX7_personOf_119 ?_
    rw [show nI 1 + nI 6 - nI 5 = nI 2 from rfl]
    refine q_cS (as := [_, _]) lk_RX7_36 r_of rfl (by decide) (Nat.le_of_ble_eq_true rfl) dX7_personOf_120 ?_
    rintro v J ⟨rfl, rfl⟩
    refine q_iald k357 rfl (lt357 (by omega)) (by decide) (h.p hd (j := 2) (by omega)) dX7_personOf_123 ?_
    rw [show penc 2 (sP σ d 2) = enc (sP σ d 2) from rfl]
    refine q_cS (as := [_]) lk_RX7_161 (r_told (w := sP σ d 2) (by omega)) rfl (by decide) (Nat.le_of_ble_eq_true rfl) dX7_personOf_124 ?_
    rintro v J ⟨rfl, rfl⟩
    exact q_iret rfl rfl dX7_personOf_127 ⟨rfl, rfl⟩
  · refine q_tabOut (tgt := 110) dX7_personOf_22 (by rw [nI_toInt (by omega)]; omega) (by decide) ?_
    refine q_aload_n dX7_personOf_110 rfl ?_
    refine q_getR2 (b := 357) fl_RX7_7 rfl k356 rfl dX7_personOf_111 ?_
    refine q_iload_n dX7_personOf_114 rfl ?_
    refine q_iconst (v := nI 1) dX7_personOf_115 (by decide) ?_
    refine q_iload_n dX7_personOf_116 rfl ?_
    refine q_iadd dX7_personOf_117 ?_
    refine q_iconst (v := nI 5) dX7_personOf_118 (by decide) ?_
    refine q_isub dX7_personOf_119 ?_
    rw [show nI 1 + nI 7 - nI 5 = nI 3 from rfl]
    refine q_cS (as := [_, _]) lk_RX7_36 r_of rfl (by decide) (Nat.le_of_ble_eq_true rfl) dX7_personOf_120 ?_
    rintro v J ⟨rfl, rfl⟩
    refine q_iald k357 rfl (lt357 (by omega)) (by decide) (h.p hd (j := 3) (by omega)) dX7_personOf_123 ?_
    rw [show penc 3 (sP σ d 3) = enc (sP σ d 3) from rfl]
    refine q_cS (as := [_]) lk_RX7_161 (r_told (w := sP σ d 3) (by omega)) rfl (by decide) (Nat.le_of_ble_eq_true rfl) dX7_personOf_124 ?_
    rintro v J ⟨rfl, rfl⟩
    exact q_iret rfl rfl dX7_personOf_127 ⟨rfl, rfl⟩
