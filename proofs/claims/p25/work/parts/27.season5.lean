/-! the class's season: rooms, sets, the closing -/
theorem c_isGiven {b r e : Nat} {I : q_Mem} {σ : q_S} (hk : q_kd b = 3) (h : RC b I σ) (hw : WFc σ) (hr : r < 5) (he : e < 5) : q_M kX3_isGiven [.ref b, .int (nI r), .int (nI e)] I (fun v J => v = some (.int (if sgb σ r e 8 = true then 1 else 0)) ∧ I = J) := by
  have key : ∀ (d k : Nat) (o6 : Option Value), k + d = 8 → sgb σ r e k = false → q_X kX3_isGiven 12 [some (.ref b), some (.int (nI r)), some (.int (nI e)), some (.ref (b + 1)), some (.int (nI 8)), some (.int (nI k)), o6] [] I (fun v J => v = some (.int (if sgb σ r e 8 = true then 1 else 0)) ∧ I = J) := by
    intro d
    induction d with
    | zero =>
      intro k o6 hd hf
      obtain rfl : k = 8 := by omega
      refine q_iload dX3_isGiven_12 rfl ?_
      refine q_iload dX3_isGiven_14 rfl ?_
      refine q_icmp_geN (tgt := 56) (by omega) (by omega) dX3_isGiven_16 (by decide) (fun h1 => ?_) (fun h1 => ?_)
      · refine q_iconst (v := nI 0) dX3_isGiven_56 (by decide) ?_
        exact q_iret rfl rfl dX3_isGiven_57 ⟨by rw [hf]; rfl, rfl⟩
      · omega
    | succ d ih =>
      intro k o6 hd hf
      have hk8 : k < 8 := by omega
      have hkk := kSC hk hk8
      have hcr := hw.cr hk8
      obtain ⟨x0, x1, x2, x3, x4, x5, x6, x7, x8, x9, x10⟩ := hcr
      have hgt : ∀ m, k < m → sC σ k 7 = r + 1 → sC σ k 2 = e → sgb σ r e m = true := by
        intro m
        induction m with
        | zero => intro q; omega
        | succ m ihm =>
          intro q q1 q2
          rw [sgb]
          by_cases z : k = m
          · subst z; simp [q1, q2]
          · rw [ihm (by omega) q1 q2]; rfl
      refine q_iload dX3_isGiven_12 rfl ?_
      refine q_iload dX3_isGiven_14 rfl ?_
      refine q_icmp_geN (tgt := 56) (by omega) (by omega) dX3_isGiven_16 (by decide) (fun h1 => ?_) (fun h1 => ?_)
      · omega
      refine q_aload_n dX3_isGiven_19 rfl ?_
      refine q_iload dX3_isGiven_20 rfl ?_
      refine q_aaldC hk rfl hk8 dX3_isGiven_22 ?_
      refine q_astore (ls' := [_, _, _, _, _, _, _]) dX3_isGiven_23 (Nat.le_of_ble_eq_true rfl) rfl ?_
      refine q_aload dX3_isGiven_25 rfl ?_
      refine q_ifnull dX3_isGiven_27 ?_
      refine q_aload dX3_isGiven_30 rfl ?_
      refine q_getI fl_RX3_233 rfl (by assumption) (h.c hk8 (j := 7) (by omega)) dX3_isGiven_32 ?_
      refine q_iload_n dX3_isGiven_35 rfl ?_
      have hiff : cenc 7 (sC σ k 7) = nI r ↔ sC σ k 7 = r + 1 := enc_nI (by omega) (by omega)
      refine q_icmp_ne (tgt := 50) dX3_isGiven_36 (by decide) (fun h2 => ?_) (fun h2 => ?_)
      · have hs : sgb σ r e (k + 1) = false := by
          have hn : ¬ sC σ k 7 = r + 1 := fun z => h2 (hiff.mpr z)
          rw [sgb, hf]
          simp [hn]
        refine q_iinc (ls' := [_, _, _, _, _, _, _]) dX3_isGiven_50 rfl (nI_add _ 1) rfl ?_
        refine q_goto (tgt := 12) dX3_isGiven_53 (by decide) ?_
        exact ih (k + 1) _ (by omega) hs
      · refine q_aload dX3_isGiven_39 rfl ?_
        refine q_getI fl_RX3_239 rfl (by assumption) (h.c hk8 (j := 2) (by omega)) dX3_isGiven_41 ?_
        refine q_iload_n dX3_isGiven_44 rfl ?_
        rw [show cenc 2 (sC σ k 2) = nI (sC σ k 2) from rfl]
        refine q_icmp_neN (tgt := 50) (by omega) (by omega) dX3_isGiven_45 (by decide) (fun h3 => ?_) (fun h3 => ?_)
        · have hs : sgb σ r e (k + 1) = false := by
            rw [sgb, hf]
            simp [h3]
          refine q_iinc (ls' := [_, _, _, _, _, _, _]) dX3_isGiven_50 rfl (nI_add _ 1) rfl ?_
          refine q_goto (tgt := 12) dX3_isGiven_53 (by decide) ?_
          exact ih (k + 1) _ (by omega) hs
        · refine q_iconst (v := nI 1) dX3_isGiven_48 (by decide) ?_
          exact q_iret rfl rfl dX3_isGiven_49 ⟨by rw [if_pos (hgt 8 hk8 (hiff.mp h2) h3)]; rfl, rfl⟩
  refine q_M.of pnX3_isGiven (by simp [Value.category]) (Nat.le_of_ble_eq_true rfl) ?_
  refine q_aload_n dX3_isGiven_0 rfl ?_
  refine q_getR fl_RX3_11 rfl (by assumption) dX3_isGiven_1 ?_
  refine q_astore_n (ls' := [_, _, _, _, _, _, _]) dX3_isGiven_4 (Nat.le_of_ble_eq_true rfl) rfl ?_
  refine q_aload_n dX3_isGiven_5 rfl ?_
  refine q_lenC hk rfl dX3_isGiven_6 ?_
  refine q_istore (ls' := [_, _, _, _, _, _, _]) dX3_isGiven_7 (Nat.le_of_ble_eq_true rfl) rfl ?_
  refine q_iconst (v := nI 0) dX3_isGiven_9 (by decide) ?_
  refine q_istore (ls' := [_, _, _, _, _, _, _]) dX3_isGiven_10 (Nat.le_of_ble_eq_true rfl) rfl ?_
  exact key 8 0 _ rfl rfl
theorem c_roomFor {b c : Nat} {I : q_Mem} {σ : q_S} (hk : q_kd b = 3) (h : RC b I σ) (hw : WFc σ) (hc : c < 8) : q_M kX3_roomFor [.ref b, .ref (b + 4 + 2 * c)] I (fun v J => v = some (.int (enc (srm σ c (sN σ 1)))) ∧ I = J) := by
  have hkc := kSC hk hc
  have hN5 := hw.B.2.1
  have hlc := hw.len c
  obtain ⟨x0, x1, x2, x3, x4, x5, x6, x7, x8, x9, x10⟩ := hw.cr hc
  have key : ∀ (d k : Nat) (o4 : Option Value), k + d = sN σ 1 → q_X kX3_roomFor 4 [some (.ref b), some (.ref (b + 4 + 2 * c)), some (.int (enc (srm σ c k))), some (.int (nI k)), o4] [] I (fun v J => v = some (.int (enc (srm σ c (sN σ 1)))) ∧ I = J) := by
    intro d
    induction d with
    | zero =>
      intro k o4 hd
      obtain rfl : k = sN σ 1 := by omega
      refine q_iload_n dX3_roomFor_4 rfl ?_
      refine q_aload_n dX3_roomFor_5 rfl ?_
      refine q_getI fl_RX3_57 rfl (by assumption) (h.n (j := 1) (by omega)) dX3_roomFor_6 ?_
      refine q_icmp_geN (tgt := 74) (by omega) (by omega) dX3_roomFor_9 (by decide) (fun h1 => ?_) (fun h1 => ?_)
      · refine q_iload_n dX3_roomFor_74 rfl ?_
        exact q_iret rfl rfl dX3_roomFor_75 ⟨rfl, rfl⟩
      · omega
    | succ d ih =>
      intro k o4 hd
      have hk5 : k < 5 := by omega
      have hRk := hw.2.2.2.2.2.2.2 k hk5
      refine q_iload_n dX3_roomFor_4 rfl ?_
      refine q_aload_n dX3_roomFor_5 rfl ?_
      refine q_getI fl_RX3_57 rfl (by assumption) (h.n (j := 1) (by omega)) dX3_roomFor_6 ?_
      refine q_icmp_geN (tgt := 74) (by omega) (by omega) dX3_roomFor_9 (by decide) (fun h1 => ?_) (fun h1 => ?_)
      · omega
      refine q_aload_n dX3_roomFor_12 rfl ?_
      refine q_iload_n dX3_roomFor_13 rfl ?_
      refine q_cV (as := [_]) lk_RX3_236 (c_chairsOf hk h hk5) ⟨3, by decide, by assumption, rfl⟩ rfl (by decide) (Nat.le_of_ble_eq_true rfl) dX3_roomFor_14 ?_
      rintro v J ⟨rfl, rfl⟩
      refine q_aload_n dX3_roomFor_17 rfl ?_
      refine q_getI fl_RX3_204 rfl hkc (h.len hc) dX3_roomFor_18 ?_
      have no : srm σ c (k + 1) = srm σ c k → ∀ o4, q_X kX3_roomFor 68 [some (.ref b), some (.ref (b + 4 + 2 * c)), some (.int (enc (srm σ c k))), some (.int (nI k)), o4] [] I (fun v J => v = some (.int (enc (srm σ c (sN σ 1)))) ∧ I = J) := by
        intro hs o4
        refine q_iinc (ls' := [_, _, _, _, _]) dX3_roomFor_68 rfl (nI_add _ 1) rfl ?_
        refine q_goto (tgt := 4) dX3_roomFor_71 (by decide) ?_
        have := ih (k + 1) o4 (by omega)
        rw [hs] at this
        exact this
      refine q_icmp_ltN (tgt := 40) (by omega) (by omega) dX3_roomFor_21 (by decide) (fun h2 => ?_) (fun h2 => ?_)
      · refine q_iconst (v := nI 0) dX3_roomFor_40 (by decide) ?_
        refine q_istore (ls' := [_, _, _, _, _]) dX3_roomFor_41 (Nat.le_of_ble_eq_true rfl) rfl ?_
        refine q_iload dX3_roomFor_43 rfl ?_
        refine q_if_eqN (tgt := 68) (by omega) dX3_roomFor_45 (by decide) (fun h3 => ?_) (fun h3 => ?_)
        · exact no (by rw [srm, if_neg (fun z => by omega)]) _
        · omega
      refine q_aload_n dX3_roomFor_24 rfl ?_
      refine q_iload_n dX3_roomFor_25 rfl ?_
      refine q_aload_n dX3_roomFor_26 rfl ?_
      refine q_getI fl_RX3_239 rfl hkc (h.c hc (j := 2) (by omega)) dX3_roomFor_27 ?_
      refine q_cV (as := [_, _]) lk_RX3_242 (c_isGiven hk h hw hk5 (e := sC σ c 2) (by omega)) ⟨3, by decide, by assumption, rfl⟩ rfl (by decide) (Nat.le_of_ble_eq_true rfl) dX3_roomFor_30 ?_
      rintro v J ⟨rfl, rfl⟩
      by_cases g : sgb σ k (sC σ c 2) 8 = true
      · rw [if_pos g]
        refine q_if_ne (tgt := 40) dX3_roomFor_33 (by decide) (fun h3 => ?_) (fun h3 => ?_)
        · refine q_iconst (v := nI 0) dX3_roomFor_40 (by decide) ?_
          refine q_istore (ls' := [_, _, _, _, _]) dX3_roomFor_41 (Nat.le_of_ble_eq_true rfl) rfl ?_
          refine q_iload dX3_roomFor_43 rfl ?_
          refine q_if_eqN (tgt := 68) (by omega) dX3_roomFor_45 (by decide) (fun h4 => ?_) (fun h4 => ?_)
          · exact no (by rw [srm, if_neg (fun z => by rw [g] at z; exact absurd z.2.1 (by decide))]) _
          · omega
        · exact absurd h3 (by decide)
      · rw [if_neg g]
        have g : sgb σ k (sC σ c 2) 8 = false := by simpa using g
        refine q_if_ne (tgt := 40) dX3_roomFor_33 (by decide) (fun h3 => ?_) (fun h3 => ?_)
        · exact absurd rfl h3
        refine q_iconst (v := nI 1) dX3_roomFor_36 (by decide) ?_
        refine q_goto (tgt := 41) dX3_roomFor_37 (by decide) ?_
        refine q_istore (ls' := [_, _, _, _, _]) dX3_roomFor_41 (Nat.le_of_ble_eq_true rfl) rfl ?_
        refine q_iload dX3_roomFor_43 rfl ?_
        refine q_if_eqN (tgt := 68) (by omega) dX3_roomFor_45 (by decide) (fun h4 => ?_) (fun h4 => ?_)
        · omega
        have hsl := srm_le σ c k
        refine q_iload_n dX3_roomFor_48 rfl ?_
        refine q_iconst (v := -1) dX3_roomFor_49 (by decide) ?_
        have hiff : enc (srm σ c k) = -1 ↔ srm σ c k = 0 := enc_m1 (by omega)
        have yes : srm σ c (k + 1) = k + 1 → ∀ o2 o4, q_X kX3_roomFor 66 [some (.ref b), some (.ref (b + 4 + 2 * c)), o2, some (.int (nI k)), o4] [] I (fun v J => v = some (.int (enc (srm σ c (sN σ 1)))) ∧ I = J) := by
          intro hs o2 o4
          refine q_iload_n dX3_roomFor_66 rfl ?_
          refine q_istore_n (ls' := [_, _, _, _, _]) dX3_roomFor_67 (Nat.le_of_ble_eq_true rfl) rfl ?_
          refine q_iinc (ls' := [_, _, _, _, _]) dX3_roomFor_68 rfl (nI_add _ 1) rfl ?_
          refine q_goto (tgt := 4) dX3_roomFor_71 (by decide) ?_
          have := ih (k + 1) o4 (by omega)
          rw [hs] at this
          exact this
        refine q_icmp_eq (tgt := 66) dX3_roomFor_50 (by decide) (fun h5 => ?_) (fun h5 => ?_)
        · exact yes (by rw [srm, if_pos ⟨h2, g, Or.inl (hiff.mp h5)⟩]) _ _
        have hne : ¬ srm σ c k = 0 := fun z => h5 (hiff.mpr z)
        have hm5 : srm σ c k - 1 < 5 := by omega
        refine q_aload_n dX3_roomFor_53 rfl ?_
        refine q_iload_n dX3_roomFor_54 rfl ?_
        refine q_cV (as := [_]) lk_RX3_236 (c_chairsOf hk h hk5) ⟨3, by decide, by assumption, rfl⟩ rfl (by decide) (Nat.le_of_ble_eq_true rfl) dX3_roomFor_55 ?_
        rintro v J ⟨rfl, rfl⟩
        refine q_aload_n dX3_roomFor_58 rfl ?_
        refine q_iload_n dX3_roomFor_59 rfl ?_
        rw [show enc (srm σ c k) = nI (srm σ c k - 1) by rw [enc, if_neg hne]]
        refine q_cV (as := [_]) lk_RX3_236 (c_chairsOf hk h hm5) ⟨3, by decide, by assumption, rfl⟩ rfl (by decide) (Nat.le_of_ble_eq_true rfl) dX3_roomFor_60 ?_
        rintro v J ⟨rfl, rfl⟩
        have hRm := hw.2.2.2.2.2.2.2 _ hm5
        refine q_icmp_geN (tgt := 68) (by omega) (by omega) dX3_roomFor_63 (by decide) (fun h6 => ?_) (fun h6 => ?_)
        · have := no (by rw [srm, if_neg (fun z => z.2.2.elim hne (fun y => by omega))])
          rw [show enc (srm σ c k) = nI (srm σ c k - 1) by rw [enc, if_neg hne]] at this
          exact this _
        · exact yes (by rw [srm, if_pos ⟨h2, g, Or.inr h6⟩]) _ _
  refine q_M.of pnX3_roomFor (by simp [Value.category]) (Nat.le_of_ble_eq_true rfl) ?_
  refine q_iconst (v := -1) dX3_roomFor_0 (by decide) ?_
  refine q_istore_n (ls' := [_, _, _, _, _]) dX3_roomFor_1 (Nat.le_of_ble_eq_true rfl) rfl ?_
  refine q_iconst (v := nI 0) dX3_roomFor_2 (by decide) ?_
  refine q_istore_n (ls' := [_, _, _, _, _]) dX3_roomFor_3 (Nat.le_of_ble_eq_true rfl) rfl ?_
  exact key (sN σ 1) 0 _ (by omega)
theorem c_findsRoom {b c : Nat} {I : q_Mem} {σ : q_S} (hk : q_kd b = 3) (h : RC b I σ) (hw : WFc σ) (hc : c < 8) : q_M kX3_findsRoom [.ref b, .ref (b + 4 + 2 * c)] I (fun v J => v = some (.int (if srm σ c (sN σ 1) = 0 then 0 else 1)) ∧ RC b J (if srm σ c (sN σ 1) = 0 then σ else sgiv σ c (srm σ c (sN σ 1))) ∧ FC b I J) := by
  have hkc := kSC hk hc
  have hN5 := hw.B.2.1
  have hsl := srm_le σ c (sN σ 1)
  refine q_M.of pnX3_findsRoom (by simp [Value.category]) (Nat.le_of_ble_eq_true rfl) ?_
  refine q_aload_n dX3_findsRoom_0 rfl ?_
  refine q_aload_n dX3_findsRoom_1 rfl ?_
  refine q_cV (as := [_]) lk_RX3_230 (c_roomFor hk h hw hc) ⟨3, by decide, by assumption, rfl⟩ rfl (by decide) (Nat.le_of_ble_eq_true rfl) dX3_findsRoom_2 ?_
  rintro v J ⟨rfl, rfl⟩
  refine q_istore_n (ls' := [_, _, _]) dX3_findsRoom_5 (Nat.le_of_ble_eq_true rfl) rfl ?_
  refine q_iload_n dX3_findsRoom_6 rfl ?_
  refine q_iconst (v := -1) dX3_findsRoom_7 (by decide) ?_
  have hiff : enc (srm σ c (sN σ 1)) = -1 ↔ srm σ c (sN σ 1) = 0 := enc_m1 (by omega)
  refine q_icmp_ne (tgt := 13) dX3_findsRoom_8 (by decide) (fun h1 => ?_) (fun h1 => ?_)
  · have hne : ¬ srm σ c (sN σ 1) = 0 := fun z => h1 (hiff.mpr z)
    refine q_aload_n dX3_findsRoom_13 rfl ?_
    refine q_iload_n dX3_findsRoom_14 rfl ?_
    refine q_putI ⟨fl_RX3_233, rfl, rfl⟩ hkc ⟨rfl, rfl⟩ dX3_findsRoom_15 ?_
    have h : RC b (q_up I (b + 4 + 2 * c) 11 (enc (srm σ c (sN σ 1)))) (uC σ c 7 (srm σ c (sN σ 1))) := h.C (j := 7) hc (by omega) rfl
    have hF : FC b I (q_up I (b + 4 + 2 * c) 11 (enc (srm σ c (sN σ 1)))) := FC.rf.up (by omega) (by omega)
    generalize q_up I (b + 4 + 2 * c) 11 (enc (srm σ c (sN σ 1))) = J1 at h hF ⊢
    refine q_aload_n dX3_findsRoom_18 rfl ?_
    refine q_iconst (v := nI 1) dX3_findsRoom_19 (by decide) ?_
    refine q_putI ⟨fl_RX3_162, rfl, rfl⟩ hkc ⟨rfl, rfl⟩ dX3_findsRoom_20 ?_
    refine q_iconst (v := nI 1) dX3_findsRoom_23 (by decide) ?_
    have h : RC b (q_up J1 (b + 4 + 2 * c) 8 (nI 1)) (uC (uC σ c 7 (srm σ c (sN σ 1))) c 6 2) := h.C (j := 6) hc (by omega) rfl
    have hF := hF.up (a := b + 4 + 2 * c) (j := 8) (x := nI 1) (by omega) (by omega)
    exact q_iret rfl rfl dX3_findsRoom_24 ⟨by rw [if_neg hne]; rfl, by rw [if_neg hne]; exact h, hF⟩
  · have hz := hiff.mp h1
    refine q_iconst (v := nI 0) dX3_findsRoom_11 (by decide) ?_
    exact q_iret rfl rfl dX3_findsRoom_12 ⟨by rw [if_pos hz]; rfl, by rw [if_pos hz]; exact h, FC.rf⟩
theorem c_thatAre {b s : Nat} {I : q_Mem} {σ : q_S} (hk : q_kd b = 3) (h : RC b I σ) (hw : WFc σ) (hs : s < 8) : q_M kX3_coursesThatAre [.ref b, .int (nI s)] I (fun v J => v = some (.int (nI (sbits (fun c => decide (sC σ c 6 = s + 1)) 8))) ∧ I = J) := by
  have key : ∀ (d k : Nat) (o6 : Option Value), k + d = 8 → q_X kX3_coursesThatAre 14 [some (.ref b), some (.int (nI s)), some (.int (nI (sbits (fun c => decide (sC σ c 6 = s + 1)) k))), some (.ref (b + 1)), some (.int (nI 8)), some (.int (nI k)), o6] [] I (fun v J => v = some (.int (nI (sbits (fun c => decide (sC σ c 6 = s + 1)) 8))) ∧ I = J) := by
    intro d
    induction d with
    | zero =>
      intro k o6 hd
      obtain rfl : k = 8 := by omega
      refine q_iload dX3_coursesThatAre_14 rfl ?_
      refine q_iload dX3_coursesThatAre_16 rfl ?_
      refine q_icmp_geN (tgt := 57) (by omega) (by omega) dX3_coursesThatAre_18 (by decide) (fun h1 => ?_) (fun h1 => ?_)
      · refine q_iload_n dX3_coursesThatAre_57 rfl ?_
        exact q_iret rfl rfl dX3_coursesThatAre_58 ⟨rfl, rfl⟩
      · omega
    | succ d ih =>
      intro k o6 hd
      have hk8 : k < 8 := by omega
      have hkk := kSC hk hk8
      have hst := h.st hw hk8 (s := s) (by omega)
      have hsl := sbits_lt (fun c => decide (sC σ c 6 = s + 1)) k
      refine q_iload dX3_coursesThatAre_14 rfl ?_
      refine q_iload dX3_coursesThatAre_16 rfl ?_
      refine q_icmp_geN (tgt := 57) (by omega) (by omega) dX3_coursesThatAre_18 (by decide) (fun h1 => ?_) (fun h1 => ?_)
      · omega
      refine q_aload_n dX3_coursesThatAre_21 rfl ?_
      refine q_iload dX3_coursesThatAre_22 rfl ?_
      refine q_aaldC hk rfl hk8 dX3_coursesThatAre_24 ?_
      refine q_astore (ls' := [_, _, _, _, _, _, _]) dX3_coursesThatAre_25 (Nat.le_of_ble_eq_true rfl) rfl ?_
      refine q_aload dX3_coursesThatAre_27 rfl ?_
      refine q_ifnull dX3_coursesThatAre_29 ?_
      refine q_aload dX3_coursesThatAre_32 rfl ?_
      refine q_getI fl_RX3_162 rfl (by assumption) rfl dX3_coursesThatAre_34 ?_
      refine q_iload_n dX3_coursesThatAre_37 rfl ?_
      refine q_icmp_ne (tgt := 51) dX3_coursesThatAre_38 (by decide) (fun h2 => ?_) (fun h2 => ?_)
      · have hs : sbits (fun c => decide (sC σ c 6 = s + 1)) (k + 1) = sbits (fun c => decide (sC σ c 6 = s + 1)) k := by
          have hn : ¬ sC σ k 6 = s + 1 := fun z => h2 (hst.mpr z)
          rw [sbits]; simp [hn]
        refine q_iinc (ls' := [_, _, _, _, _, _, _]) dX3_coursesThatAre_51 rfl (nI_add _ 1) rfl ?_
        refine q_goto (tgt := 14) dX3_coursesThatAre_54 (by decide) ?_
        have := ih (k + 1) (some (.ref (b + 4 + 2 * k))) (by omega)
        rw [hs] at this
        exact this
      · have hs : sbits (fun c => decide (sC σ c 6 = s + 1)) (k + 1) = sbits (fun c => decide (sC σ c 6 = s + 1)) k + 2 ^ k := by
          rw [sbits]; simp [hst.mp h2]
        refine q_iload_n dX3_coursesThatAre_41 rfl ?_
        refine q_iconst (v := nI 1) dX3_coursesThatAre_42 (by decide) ?_
        refine q_aload dX3_coursesThatAre_43 rfl ?_
        refine q_getI fl_RX3_96 rfl (by assumption) (h.cn hk8) dX3_coursesThatAre_45 ?_
        refine q_ishl dX3_coursesThatAre_48 ?_
        refine q_ior dX3_coursesThatAre_49 ?_
        rw [bit_or k hk8 _ hsl, ← hs]
        refine q_istore_n (ls' := [_, _, _, _, _, _, _]) dX3_coursesThatAre_50 (Nat.le_of_ble_eq_true rfl) rfl ?_
        refine q_iinc (ls' := [_, _, _, _, _, _, _]) dX3_coursesThatAre_51 rfl (nI_add _ 1) rfl ?_
        refine q_goto (tgt := 14) dX3_coursesThatAre_54 (by decide) ?_
        exact ih (k + 1) _ (by omega)
  refine q_M.of pnX3_coursesThatAre (by simp [Value.category]) (Nat.le_of_ble_eq_true rfl) ?_
  refine q_iconst (v := nI 0) dX3_coursesThatAre_0 (by decide) ?_
  refine q_istore_n (ls' := [_, _, _, _, _, _, _]) dX3_coursesThatAre_1 (Nat.le_of_ble_eq_true rfl) rfl ?_
  refine q_aload_n dX3_coursesThatAre_2 rfl ?_
  refine q_getR fl_RX3_11 rfl (by assumption) dX3_coursesThatAre_3 ?_
  refine q_astore_n (ls' := [_, _, _, _, _, _, _]) dX3_coursesThatAre_6 (Nat.le_of_ble_eq_true rfl) rfl ?_
  refine q_aload_n dX3_coursesThatAre_7 rfl ?_
  refine q_lenC hk rfl dX3_coursesThatAre_8 ?_
  refine q_istore (ls' := [_, _, _, _, _, _, _]) dX3_coursesThatAre_9 (Nat.le_of_ble_eq_true rfl) rfl ?_
  refine q_iconst (v := nI 0) dX3_coursesThatAre_11 (by decide) ?_
  refine q_istore (ls' := [_, _, _, _, _, _, _]) dX3_coursesThatAre_12 (Nat.le_of_ble_eq_true rfl) rfl ?_
  exact key 8 0 _ rfl
/-- bits that are set -/
def bcnt : Nat → Nat → Nat
  | 0, _ => 0
  | d + 1, s => s % 2 + bcnt d (s / 2)
def bc1 (a : Int32) : Int32 := a - ((a.toUInt32 >>> ((nI 1).toUInt32 &&& 31)).toInt32 &&& 1431655765)
def bc2 (a : Int32) : Int32 := (a &&& 858993459) + ((a.toUInt32 >>> ((nI 2).toUInt32 &&& 31)).toInt32 &&& 858993459)
def bc3 (a : Int32) : Int32 := (a + (a.toUInt32 >>> ((nI 4).toUInt32 &&& 31)).toInt32) &&& 252645135
def bc4 (a : Int32) : Int32 := a + (a.toUInt32 >>> ((nI 8).toUInt32 &&& 31)).toInt32
def bc5 (a : Int32) : Int32 := a + (a.toUInt32 >>> ((nI 16).toUInt32 &&& 31)).toInt32
theorem bc_all : ∀ s, s < 256 → bc5 (bc4 (bc3 (bc2 (bc1 (nI s))))) &&& nI 63 = nI (bcnt 8 s) := by decide +kernel
theorem c_bitCount {s : Nat} {I : q_Mem} (hs : s < 256) : q_M kJ6_bitCount_0f7a4 [.int (nI s)] I (fun v J => v = some (.int (nI (bcnt 8 s))) ∧ I = J) := by
  refine q_M.of pnJ6_bitCount_0f7a4 (by simp [Value.category]) (Nat.le_of_ble_eq_true rfl) ?_
  refine q_iload_n dJ6_bitCount_0f7a4_0 rfl ?_
  refine q_iload_n dJ6_bitCount_0f7a4_1 rfl ?_
  refine q_iconst (v := nI 1) dJ6_bitCount_0f7a4_2 (by decide) ?_
  refine q_iushr dJ6_bitCount_0f7a4_3 rfl ?_
  refine q_ldcw (v := 1431655765) ct_RJ6_265 dJ6_bitCount_0f7a4_4 ?_
  refine q_iand dJ6_bitCount_0f7a4_7 ?_
  refine q_isub dJ6_bitCount_0f7a4_8 ?_
  refine q_istore_n (ls' := [_]) dJ6_bitCount_0f7a4_9 (Nat.le_of_ble_eq_true rfl) rfl ?_
  refine q_iload_n dJ6_bitCount_0f7a4_10 rfl ?_
  refine q_ldcw (v := 858993459) ct_RJ6_266 dJ6_bitCount_0f7a4_11 ?_
  refine q_iand dJ6_bitCount_0f7a4_14 ?_
  refine q_iload_n dJ6_bitCount_0f7a4_15 rfl ?_
  refine q_iconst (v := nI 2) dJ6_bitCount_0f7a4_16 (by decide) ?_
  refine q_iushr dJ6_bitCount_0f7a4_17 rfl ?_
  refine q_ldcw (v := 858993459) ct_RJ6_266 dJ6_bitCount_0f7a4_18 ?_
  refine q_iand dJ6_bitCount_0f7a4_21 ?_
  refine q_iadd dJ6_bitCount_0f7a4_22 ?_
  refine q_istore_n (ls' := [_]) dJ6_bitCount_0f7a4_23 (Nat.le_of_ble_eq_true rfl) rfl ?_
  refine q_iload_n dJ6_bitCount_0f7a4_24 rfl ?_
  refine q_iload_n dJ6_bitCount_0f7a4_25 rfl ?_
  refine q_iconst (v := nI 4) dJ6_bitCount_0f7a4_26 (by decide) ?_
  refine q_iushr dJ6_bitCount_0f7a4_27 rfl ?_
  refine q_iadd dJ6_bitCount_0f7a4_28 ?_
  refine q_ldcw (v := 252645135) ct_RJ6_267 dJ6_bitCount_0f7a4_29 ?_
  refine q_iand dJ6_bitCount_0f7a4_32 ?_
  refine q_istore_n (ls' := [_]) dJ6_bitCount_0f7a4_33 (Nat.le_of_ble_eq_true rfl) rfl ?_
  refine q_iload_n dJ6_bitCount_0f7a4_34 rfl ?_
  refine q_iload_n dJ6_bitCount_0f7a4_35 rfl ?_
  refine q_bipush (v := nI 8) dJ6_bitCount_0f7a4_36 (by decide) ?_
  refine q_iushr dJ6_bitCount_0f7a4_38 rfl ?_
  refine q_iadd dJ6_bitCount_0f7a4_39 ?_
  refine q_istore_n (ls' := [_]) dJ6_bitCount_0f7a4_40 (Nat.le_of_ble_eq_true rfl) rfl ?_
  refine q_iload_n dJ6_bitCount_0f7a4_41 rfl ?_
  refine q_iload_n dJ6_bitCount_0f7a4_42 rfl ?_
  refine q_bipush (v := nI 16) dJ6_bitCount_0f7a4_43 (by decide) ?_
  refine q_iushr dJ6_bitCount_0f7a4_45 rfl ?_
  refine q_iadd dJ6_bitCount_0f7a4_46 ?_
  refine q_istore_n (ls' := [_]) dJ6_bitCount_0f7a4_47 (Nat.le_of_ble_eq_true rfl) rfl ?_
  refine q_iload_n dJ6_bitCount_0f7a4_48 rfl ?_
  refine q_bipush (v := nI 63) dJ6_bitCount_0f7a4_49 (by decide) ?_
  refine q_iand dJ6_bitCount_0f7a4_51 ?_
  exact q_iret rfl rfl dJ6_bitCount_0f7a4_52 ⟨congrArg (fun x => some (Value.int x)) (bc_all s hs), rfl⟩
/-- the closing, in a term that is not closed -/
theorem c_closeTerm {b : Nat} {I : q_Mem} {σ : q_S} (hk : q_kd b = 3) (h : RC b I σ) (hw : WFc σ) (h0 : sG σ 1 = 0) : q_M kX3_closeTerm [.ref b] I (fun v J => v = some (.int (nI (bcnt 8 (sbits (fun c => decide (sC (sclose σ) c 6 = 2)) 8)))) ∧ RC b J (sclose σ) ∧ FC b I J) := by
  have second : ∀ (n k : Nat) (J : q_Mem) (τ : q_S) (o2 o3 : Option Value), k + n = 8 → RC b J τ → WFc τ → FC b I J → scls2 n τ = scls2 8 (scls1 8 σ) → q_X kX3_closeTerm 70 [some (.ref b), some (.int (nI k)), o2, o3] [] J (fun v J => v = some (.int (nI (bcnt 8 (sbits (fun c => decide (sC (sclose σ) c 6 = 2)) 8)))) ∧ RC b J (sclose σ) ∧ FC b I J) := by
    intro n
    have fin : ∀ (J : q_Mem) (τ : q_S) (o1 o2 o3 : Option Value), RC b J τ → WFc τ → FC b I J → τ = scls2 8 (scls1 8 σ) → q_X kX3_closeTerm 111 [some (.ref b), o1, o2, o3] [] J (fun v J => v = some (.int (nI (bcnt 8 (sbits (fun c => decide (sC (sclose σ) c 6 = 2)) 8)))) ∧ RC b J (sclose σ) ∧ FC b I J) := by
      intro J τ o1 o2 o3 h hw hF he
      have hcl : sclose σ = uG τ 1 1 := by rw [he]; rfl
      refine q_aload_n dX3_closeTerm_111 rfl ?_
      refine q_iconst (v := nI 1) dX3_closeTerm_112 (by decide) ?_
      refine q_putI ⟨fl_RX3_63, rfl, rfl⟩ (by assumption) ((by decide)) dX3_closeTerm_113 ?_
      have h : RC b (q_up J b 7 (nI 1)) (uG τ 1 1) := h.G (j := 1) (by omega) rfl
      have hF := hF.up (a := b) (j := 7) (x := nI 1) (by omega) (by omega)
      generalize q_up J b 7 (nI 1) = J1 at h hF ⊢
      rw [← hcl] at h
      have hwc : WFc (sclose σ) := by rw [hcl]; exact hw.G 1 1
      generalize sclose σ = υ at h hwc ⊢
      refine q_aload_n dX3_closeTerm_116 rfl ?_
      refine q_iconst (v := nI 1) dX3_closeTerm_117 (by decide) ?_
      refine q_cV (as := [_]) lk_RX3_150 (c_thatAre hk h hwc (s := 1) (by omega)) ⟨3, by decide, by assumption, rfl⟩ rfl (by decide) (Nat.le_of_ble_eq_true rfl) dX3_closeTerm_118 ?_
      rintro v J2 ⟨rfl, rfl⟩
      refine q_cS (as := [_]) lk_RX3_154 (c_bitCount (sbits_lt _ 8)) rfl (by decide) (Nat.le_of_ble_eq_true rfl) dX3_closeTerm_121 ?_
      rintro v J2 ⟨rfl, rfl⟩
      exact q_iret rfl rfl dX3_closeTerm_124 ⟨rfl, h, hF⟩
    induction n with
    | zero =>
      intro k J τ o2 o3 hn h hw hF he
      refine q_iload_n dX3_closeTerm_70 rfl ?_
      refine q_aload_n dX3_closeTerm_71 rfl ?_
      refine q_getR fl_RX3_11 rfl (by assumption) dX3_closeTerm_72 ?_
      refine q_lenC hk rfl dX3_closeTerm_75 ?_
      refine q_icmp_geN (tgt := 111) (by omega) (by omega) dX3_closeTerm_76 (by decide) (fun h1 => ?_) (fun h1 => ?_)
      · exact fin J τ _ _ _ h hw hF he
      · omega
    | succ n ih =>
      intro k J τ o2 o3 hn h hw hF he
      refine q_iload_n dX3_closeTerm_70 rfl ?_
      refine q_aload_n dX3_closeTerm_71 rfl ?_
      refine q_getR fl_RX3_11 rfl (by assumption) dX3_closeTerm_72 ?_
      refine q_lenC hk rfl dX3_closeTerm_75 ?_
      refine q_icmp_geN (tgt := 111) (by omega) (by omega) dX3_closeTerm_76 (by decide) (fun h1 => ?_) (fun h1 => ?_)
      · omega
      refine q_aload_n dX3_closeTerm_79 rfl ?_
      refine q_cV (as := []) lk_RX3_143 (c_greatest hk h hw) ⟨3, by decide, by assumption, rfl⟩ rfl (by decide) (Nat.le_of_ble_eq_true rfl) dX3_closeTerm_80 ?_
      rintro v J' ⟨rfl, rfl⟩
      rw [scls2] at he
      have hgl := sgr_le τ 8
      have hgs := sgr_spec τ 8
      by_cases e : sgr τ 8 = 0
      · rw [if_pos e] at he
        rw [crf, if_pos e]
        refine q_astore_nN (ls' := [_, _, _, _]) dX3_closeTerm_83 (Nat.le_of_ble_eq_true rfl) rfl ?_
        refine q_aload_nN dX3_closeTerm_84 rfl ?_
        refine q_ifnonnullN dX3_closeTerm_85 ?_
        refine q_goto (tgt := 111) dX3_closeTerm_88 (by decide) ?_
        exact fin J τ _ _ _ h hw hF he
      · rw [if_neg e] at he
        rw [crf, if_neg e]
        generalize sgr τ 8 = g at e he hgl hgs
        have hc8 : g - 1 < 8 := by omega
        refine q_astore_n (ls' := [_, _, _, _]) dX3_closeTerm_83 (Nat.le_of_ble_eq_true rfl) rfl ?_
        refine q_aload_n dX3_closeTerm_84 rfl ?_
        refine q_ifnonnull (tgt := 91) dX3_closeTerm_85 (by decide) ?_
        refine q_aload_n dX3_closeTerm_91 rfl ?_
        refine q_aload_n dX3_closeTerm_92 rfl ?_
        refine q_cV (as := [_]) lk_RX3_146 (c_findsRoom hk h hw hc8) ⟨3, by decide, by assumption, rfl⟩ rfl (by decide) (Nat.le_of_ble_eq_true rfl) dX3_closeTerm_93 ?_
        rintro v J2 ⟨rfl, h2, hF2⟩
        have hw2 := hw.cl2 (hgs e)
        by_cases f : srm τ (g - 1) (sN τ 1) = 0
        · rw [if_pos f] at h2
          rw [if_pos f]
          refine q_if_ne (tgt := 105) dX3_closeTerm_96 (by decide) (fun h3 => ?_) (fun h3 => ?_)
          · exact absurd rfl h3
          refine q_aload_n dX3_closeTerm_99 rfl ?_
          refine q_aload_n dX3_closeTerm_100 rfl ?_
          refine q_iconst (v := nI 3) dX3_closeTerm_101 (by decide) ?_
          refine q_cV (as := [_, _]) lk_RX3_135 (c_cancel hk h2 hw hc8 (w := 3)) ⟨3, by decide, by assumption, rfl⟩ rfl (by decide) (Nat.le_of_ble_eq_true rfl) dX3_closeTerm_102 ?_
          rintro v J3 ⟨rfl, h3, hF3⟩
          refine q_iinc (ls' := [_, _, _, _]) dX3_closeTerm_105 rfl (nI_add _ 1) rfl ?_
          refine q_goto (tgt := 70) dX3_closeTerm_108 (by decide) ?_
          rw [scl2, if_pos f] at he hw2
          exact ih (k + 1) J3 _ _ _ (by omega) h3 hw2 ((hF.tr hF2).tr hF3) he
        · rw [if_neg f] at h2
          rw [if_neg f]
          refine q_if_ne (tgt := 105) dX3_closeTerm_96 (by decide) (fun h3 => ?_) (fun h3 => ?_)
          · refine q_iinc (ls' := [_, _, _, _]) dX3_closeTerm_105 rfl (nI_add _ 1) rfl ?_
            refine q_goto (tgt := 70) dX3_closeTerm_108 (by decide) ?_
            rw [scl2, if_neg f] at he hw2
            exact ih (k + 1) J2 _ _ _ (by omega) h2 hw2 (hF.tr hF2) he
          · exact absurd h3 (by decide)
  have first : ∀ (n k : Nat) (J : q_Mem) (τ : q_S) (o2 o3 : Option Value), k + n = 8 → RC b J τ → WFc τ → FC b I J → scls1 n τ = scls1 8 σ → q_X kX3_closeTerm 12 [some (.ref b), some (.int (nI k)), o2, o3] [] J (fun v J => v = some (.int (nI (bcnt 8 (sbits (fun c => decide (sC (sclose σ) c 6 = 2)) 8)))) ∧ RC b J (sclose σ) ∧ FC b I J) := by
    intro n
    induction n with
    | zero =>
      intro k J τ o2 o3 hn h hw hF he
      refine q_iload_n dX3_closeTerm_12 rfl ?_
      refine q_aload_n dX3_closeTerm_13 rfl ?_
      refine q_getR fl_RX3_11 rfl (by assumption) dX3_closeTerm_14 ?_
      refine q_lenC hk rfl dX3_closeTerm_17 ?_
      refine q_icmp_geN (tgt := 68) (by omega) (by omega) dX3_closeTerm_18 (by decide) (fun h1 => ?_) (fun h1 => ?_)
      · refine q_iconst (v := nI 0) dX3_closeTerm_68 (by decide) ?_
        refine q_istore_n (ls' := [_, _, _, _]) dX3_closeTerm_69 (Nat.le_of_ble_eq_true rfl) rfl ?_
        exact second 8 0 J τ _ _ (by omega) h hw hF (by rw [← he]; rfl)
      · omega
    | succ n ih =>
      intro k J τ o2 o3 hn h hw hF he
      refine q_iload_n dX3_closeTerm_12 rfl ?_
      refine q_aload_n dX3_closeTerm_13 rfl ?_
      refine q_getR fl_RX3_11 rfl (by assumption) dX3_closeTerm_14 ?_
      refine q_lenC hk rfl dX3_closeTerm_17 ?_
      refine q_icmp_geN (tgt := 68) (by omega) (by omega) dX3_closeTerm_18 (by decide) (fun h1 => ?_) (fun h1 => ?_)
      · omega
      refine q_aload_n dX3_closeTerm_21 rfl ?_
      refine q_cV (as := []) lk_RX3_127 (c_smallest hk h hw) ⟨3, by decide, by assumption, rfl⟩ rfl (by decide) (Nat.le_of_ble_eq_true rfl) dX3_closeTerm_22 ?_
      rintro v J' ⟨rfl, rfl⟩
      rw [scls1] at he
      have hgl := ssm_le τ 8
      have hgs := ssm_spec τ 8
      by_cases e : ssm τ 8 = 0
      · rw [if_pos e] at he
        rw [crf, if_pos e]
        refine q_astore_nN (ls' := [_, _, _, _]) dX3_closeTerm_25 (Nat.le_of_ble_eq_true rfl) rfl ?_
        refine q_aload_nN dX3_closeTerm_26 rfl ?_
        refine q_ifnonnullN dX3_closeTerm_27 ?_
        refine q_goto (tgt := 68) dX3_closeTerm_30 (by decide) ?_
        refine q_iconst (v := nI 0) dX3_closeTerm_68 (by decide) ?_
        refine q_istore_n (ls' := [_, _, _, _]) dX3_closeTerm_69 (Nat.le_of_ble_eq_true rfl) rfl ?_
        exact second 8 0 J τ _ _ (by omega) h hw hF (by rw [← he])
      · rw [if_neg e] at he
        rw [crf, if_neg e]
        generalize ssm τ 8 = g at e he hgl hgs
        have hc8 : g - 1 < 8 := by omega
        refine q_astore_n (ls' := [_, _, _, _]) dX3_closeTerm_25 (Nat.le_of_ble_eq_true rfl) rfl ?_
        refine q_aload_n dX3_closeTerm_26 rfl ?_
        refine q_ifnonnull (tgt := 33) dX3_closeTerm_27 (by decide) ?_
        refine q_aload_n dX3_closeTerm_33 rfl ?_
        refine q_aload_n dX3_closeTerm_34 rfl ?_
        refine q_cV (as := [_]) lk_RX3_131 (c_merging hk h hw hc8) ⟨3, by decide, by assumption, rfl⟩ rfl (by decide) (Nat.le_of_ble_eq_true rfl) dX3_closeTerm_35 ?_
        rintro v J2 ⟨rfl, rfl⟩
        have hw2 := hw.cl1 (hgs e).1
        have hcN := c_lt_of_st hw (hgs e).1
        have hfl := sft_le τ (g - 1) 8
        have hfs := sft_spec τ (g - 1) 8
        rw [scl1] at he hw2
        have settle : ∀ (J : q_Mem) (υ : q_S) (o3 : Option Value), RC b J υ → WFc υ → FC b I J → scls1 n (sset 1000 υ) = scls1 8 σ → q_X kX3_closeTerm 58 [some (.ref b), some (.int (nI k)), some (.ref (b + 4 + 2 * (g - 1))), o3] [] J (fun v J => v = some (.int (nI (bcnt 8 (sbits (fun c => decide (sC (sclose σ) c 6 = 2)) 8)))) ∧ RC b J (sclose σ) ∧ FC b I J) := by
          intro J υ o3 h hw hF he
          refine q_aload_n dX3_closeTerm_58 rfl ?_
          refine q_cV (as := []) lk_RX3_107 (c_settle hk h hw) ⟨3, by decide, by assumption, rfl⟩ rfl (by decide) (Nat.le_of_ble_eq_true rfl) dX3_closeTerm_59 ?_
          rintro v J3 ⟨rfl, h3, hF3⟩
          refine q_iinc (ls' := [_, _, _, _]) dX3_closeTerm_62 rfl (nI_add _ 1) rfl ?_
          refine q_goto (tgt := 12) dX3_closeTerm_65 (by decide) ?_
          exact ih (k + 1) J3 _ _ _ (by omega) h3 (hw.set 1000) (hF.tr hF3) he
        by_cases f : sft τ (g - 1) 8 = 0
        · rw [if_pos f] at he
          rw [crf, if_pos f]
          refine q_astore_nN (ls' := [_, _, _, _]) dX3_closeTerm_38 (Nat.le_of_ble_eq_true rfl) rfl ?_
          refine q_aload_nN dX3_closeTerm_39 rfl ?_
          refine q_ifnonnullN dX3_closeTerm_40 ?_
          refine q_aload_n dX3_closeTerm_43 rfl ?_
          refine q_aload_n dX3_closeTerm_44 rfl ?_
          refine q_iconst (v := nI 2) dX3_closeTerm_45 (by decide) ?_
          refine q_cV (as := [_, _]) lk_RX3_135 (c_cancel hk h hw hc8 (w := 2)) ⟨3, by decide, by assumption, rfl⟩ rfl (by decide) (Nat.le_of_ble_eq_true rfl) dX3_closeTerm_46 ?_
          rintro v J3 ⟨rfl, h3, hF3⟩
          refine q_goto (tgt := 58) dX3_closeTerm_49 (by decide) ?_
          exact settle J3 _ _ h3 (hw.can hcN (by omega)) (hF.tr hF3) he
        · rw [if_neg f] at he
          rw [crf, if_neg f]
          obtain ⟨f1, f2, f3⟩ := hfs f
          generalize sft τ (g - 1) 8 = m at f he hfl f1 f2 f3
          have hm8 : m - 1 < 8 := by omega
          have hmN := c_lt_of_st hw f1
          refine q_astore_n (ls' := [_, _, _, _]) dX3_closeTerm_38 (Nat.le_of_ble_eq_true rfl) rfl ?_
          refine q_aload_n dX3_closeTerm_39 rfl ?_
          refine q_ifnonnull (tgt := 52) dX3_closeTerm_40 (by decide) ?_
          refine q_aload_n dX3_closeTerm_52 rfl ?_
          refine q_aload_n dX3_closeTerm_53 rfl ?_
          refine q_aload_n dX3_closeTerm_54 rfl ?_
          refine q_cV (as := [_, _]) lk_RX3_139 (c_merge hk h hw hc8 hm8 f2 (Nat.le_trans f3 (hw.cr hm8).2.2.2.2.1)) ⟨3, by decide, by assumption, rfl⟩ rfl (by decide) (Nat.le_of_ble_eq_true rfl) dX3_closeTerm_55 ?_
          rintro v J3 ⟨rfl, h3, hF3⟩
          exact settle J3 _ _ h3 (hw.merge hcN hmN f2 f3) (hF.tr hF3) he
  refine q_M.of pnX3_closeTerm (by simp [Value.category]) (Nat.le_of_ble_eq_true rfl) ?_
  refine q_aload_n dX3_closeTerm_0 rfl ?_
  refine q_getI fl_RX3_63 rfl (by assumption) (h.g (j := 1) (by omega)) dX3_closeTerm_1 ?_
  rw [h0]
  refine q_if_eqN (tgt := 10) (by omega) dX3_closeTerm_4 (by decide) (fun h1 => ?_) (fun h1 => ?_)
  · refine q_iconst (v := nI 0) dX3_closeTerm_10 (by decide) ?_
    refine q_istore_n (ls' := [_, _, _, _]) dX3_closeTerm_11 (Nat.le_of_ble_eq_true rfl) rfl ?_
    exact first 8 0 I σ _ _ (by omega) h hw FC.rf rfl
  · omega
theorem c_closeTermC {b : Nat} {I : q_Mem} {σ : q_S} (hk : q_kd b = 3) (h : RC b I σ) (h0 : sG σ 1 = 1) : q_M kX3_closeTerm [.ref b] I (fun v J => v = some (.int (-1000002)) ∧ I = J) := by
  refine q_M.of pnX3_closeTerm (by simp [Value.category]) (Nat.le_of_ble_eq_true rfl) ?_
  refine q_aload_n dX3_closeTerm_0 rfl ?_
  refine q_getI fl_RX3_63 rfl (by assumption) (h.g (j := 1) (by omega)) dX3_closeTerm_1 ?_
  rw [h0]
  refine q_if_eqN (tgt := 10) (by omega) dX3_closeTerm_4 (by decide) (fun h1 => ?_) (fun h1 => ?_)
  · omega
  · refine q_ldc (v := -1000002) ct_RX3_90 dX3_closeTerm_7 ?_
    exact q_iret rfl rfl dX3_closeTerm_9 ⟨rfl, rfl⟩
