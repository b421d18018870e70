/-! more of the class's questions -/
/-- what holds of every season, between the calls -/
def sok (σ : q_S) : Prop := WFc σ ∧ sG σ 1 ≤ 1 ∧ (sG σ 1 = 0 → ∀ c, sC σ c 7 = 0) ∧ ∀ c, ¬ sC σ c 7 = 0 → sC σ c 6 = 2 ∧ sC σ c 7 ≤ sN σ 1 ∧ sLen σ c ≤ sR σ (sC σ c 7 - 1)
def rof (σ : q_S) (r j : Nat) : Int32 := if j = 0 then nI (sR σ r) else if j = 1 then nI (sbits (fun c => decide (sC σ c 7 = r + 1)) 8) else told (scf σ r 8)
def qRoomOf (σ : q_S) (r w : Int32) : Int32 := if isC (sN σ 1) r ∧ isC 3 w then rof σ r.toNatClampNeg w.toNatClampNeg else -1000001
theorem scf_lt {σ : q_S} (h : WFc σ) {r : Nat} (hr : r < 5) : ∀ k, scf σ r k ≤ 31 := by
  have h30 := h.2.2.2.2.2.2.2 r hr
  intro k
  induction k with
  | zero => exact Nat.zero_le _
  | succ k ih => rw [scf]; repeat' split
                 all_goals omega
theorem c_roomOf {c w : Int32} {I : q_Mem} {σ : q_S} (h : RC 1 I σ) (hs : sok σ) : q_M kX6_roomOf [.ref 0, .int c, .int w] I (fun v J => v = some (.int (qRoomOf σ c w)) ∧ I = J) := by
  have k0 := k0
  have hw := hs.1
  have h5 : sN σ 1 ≤ 5 := hw.B.2.1
  refine q_M.of pnX6_roomOf (by simp [Value.category]) (Nat.le_of_ble_eq_true rfl) ?_
  refine q_aload_n dX6_roomOf_0 rfl ?_
  refine q_getR fl_RX6_10 rfl (by assumption) dX6_roomOf_1 ?_
  refine q_iload_n dX6_roomOf_4 rfl ?_
  refine q_cV (as := [_]) lk_RX6_155 (c_isRoom k1 h hw.B) ⟨3, by decide, k1, rfl⟩ rfl (by decide) (Nat.le_of_ble_eq_true rfl) dX6_roomOf_5 ?_
  rintro v J ⟨rfl, ⟨d, hd, rfl, rfl⟩ | ⟨hno, rfl⟩⟩
  case inr =>
    refine q_if_ne (tgt := 14) dX6_roomOf_8 (by decide) (fun q => ?_) (fun q => ?_)
    · exact absurd rfl q
    · refine q_ldc (v := -1000001) ct_RX6_69 dX6_roomOf_11 ?_
      exact q_iret rfl rfl dX6_roomOf_13 ⟨by rw [qRoomOf, if_neg (fun z => by obtain ⟨e, he, q⟩ := (isC_iff (by omega)).mp z.1; exact hno e he q)], rfl⟩
  have hd5 : d < 5 := by omega
  refine q_if_ne (tgt := 14) dX6_roomOf_8 (by decide) (fun q => ?_) (fun q => ?_)
  rotate_left
  · exact absurd q (by decide)
  refine q_iload_n dX6_roomOf_14 rfl ?_
  have hdc : isC (sN σ 1) (nI d) := (isC_iff (by omega)).mpr ⟨d, hd, rfl⟩
  by_cases hwc : isC 3 w
  case neg =>
    refine q_tabOut (tgt := 70) dX6_roomOf_15 (by have := tab_out (by omega) hwc; omega) (by decide) ?_
    refine q_ldc (v := -1000001) ct_RX6_69 dX6_roomOf_70 ?_
    exact q_iret rfl rfl dX6_roomOf_72 ⟨by rw [qRoomOf, if_neg (fun z => hwc z.2)], rfl⟩
  obtain ⟨j, hj, rfl⟩ := (isC_iff (by omega)).mp hwc
  have hv : qRoomOf σ (nI d) (nI j) = rof σ d j := by rw [qRoomOf, if_pos ⟨hdc, hwc⟩, nI_clamp (by omega), nI_clamp (by omega)]
  rw [hv]
  have hjc : j = 0 ∨ j = 1 ∨ j = 2 := by omega
  rcases hjc with rfl | rfl | rfl
  · refine q_tabIn (off := 25) (tgt := 40) dX6_roomOf_15 (by decide) (by decide) (by decide) (by decide) ?_
    refine q_aload_n dX6_roomOf_40 rfl ?_
    refine q_getR fl_RX6_10 rfl (by assumption) dX6_roomOf_41 ?_
    refine q_iload_n dX6_roomOf_44 rfl ?_
    refine q_cV (as := [_]) lk_RX6_159 (c_chairsOf k1 h hd5) ⟨3, by decide, k1, rfl⟩ rfl (by decide) (Nat.le_of_ble_eq_true rfl) dX6_roomOf_45 ?_
    rintro v J ⟨rfl, rfl⟩
    exact q_iret rfl rfl dX6_roomOf_48 ⟨rfl, rfl⟩
  · refine q_tabIn (off := 34) (tgt := 49) dX6_roomOf_15 (by decide) (by decide) (by decide) (by decide) ?_
    refine q_aload_n dX6_roomOf_49 rfl ?_
    refine q_getR fl_RX6_10 rfl (by assumption) dX6_roomOf_50 ?_
    refine q_iload_n dX6_roomOf_53 rfl ?_
    refine q_cV (as := [_]) lk_RX6_162 (c_coursesIn k1 h hw hd5) ⟨3, by decide, k1, rfl⟩ rfl (by decide) (Nat.le_of_ble_eq_true rfl) dX6_roomOf_54 ?_
    rintro v J ⟨rfl, rfl⟩
    exact q_iret rfl rfl dX6_roomOf_57 ⟨rfl, rfl⟩
  · refine q_tabIn (off := 43) (tgt := 58) dX6_roomOf_15 (by decide) (by decide) (by decide) (by decide) ?_
    refine q_aload_n dX6_roomOf_58 rfl ?_
    refine q_getR fl_RX6_10 rfl (by assumption) dX6_roomOf_59 ?_
    refine q_iload_n dX6_roomOf_62 rfl ?_
    refine q_cV (as := [_]) lk_RX6_165 (c_chairsLeft k1 h hw hd5 (fun i hi e => by have := (hs.2.2.2 i (by omega)).2.2; rw [e] at this; exact this)) ⟨3, by decide, k1, rfl⟩ rfl (by decide) (Nat.le_of_ble_eq_true rfl) dX6_roomOf_63 ?_
    rintro v J ⟨rfl, rfl⟩
    refine q_cS (as := [_]) lk_RX6_103 (c_told (w := scf σ d 8) (by have := scf_lt hw hd5 8; omega)) rfl (by decide) (Nat.le_of_ble_eq_true rfl) dX6_roomOf_66 ?_
    rintro v J ⟨rfl, rfl⟩
    exact q_iret rfl rfl dX6_roomOf_69 ⟨rfl, rfl⟩
def qBeside (σ : q_S) (c : Int32) : Int32 := if isC (sN σ 0) c then (if sC σ c.toNatClampNeg 6 = 1 then told (sft σ c.toNatClampNeg 8) else -1000002) else -1000001
theorem c_beside {c : Int32} {I : q_Mem} {σ : q_S} (h : RC 1 I σ) (hw : WFc σ) : q_M kX6_beside [.ref 0, .int c] I (fun v J => v = some (.int (qBeside σ c)) ∧ I = J) := by
  have k0 := k0
  have h8 := hw.B.1
  refine q_M.of pnX6_beside (by simp [Value.category]) (Nat.le_of_ble_eq_true rfl) ?_
  refine q_aload_n dX6_beside_0 rfl ?_
  refine q_getR fl_RX6_10 rfl (by assumption) dX6_beside_1 ?_
  refine q_iload_n dX6_beside_4 rfl ?_
  refine q_cV (as := [_]) lk_RX6_65 (c_courseAt k1 h h8) ⟨3, by decide, k1, rfl⟩ rfl (by decide) (Nat.le_of_ble_eq_true rfl) dX6_beside_5 ?_
  rintro v J ⟨rfl, ⟨d, hd, rfl, rfl⟩ | ⟨hno, rfl⟩⟩
  case inr =>
    refine q_astore_nN (ls' := [_, _, _, _]) dX6_beside_8 (Nat.le_of_ble_eq_true rfl) rfl ?_
    refine q_aload_nN dX6_beside_9 rfl ?_
    refine q_ifnonnullN dX6_beside_10 ?_
    refine q_ldc (v := -1000001) ct_RX6_69 dX6_beside_13 ?_
    exact q_iret rfl rfl dX6_beside_15 ⟨by rw [qBeside, if_neg (fun z => by obtain ⟨e, he, q⟩ := (isC_iff (by omega)).mp z; exact hno e he q)], rfl⟩
  have hd8 : d < 8 := by omega
  have hkd := kSC k1 hd8
  have hdc : isC (sN σ 0) (nI d) := (isC_iff (by omega)).mpr ⟨d, hd, rfl⟩
  have h6 := (hw.cr hd8).2.2.2.2.2.2.1
  have hv : qBeside σ (nI d) = if sC σ d 6 = 1 then told (sft σ d 8) else -1000002 := by rw [qBeside, if_pos hdc, nI_clamp (by omega)]
  rw [hv]
  refine q_astore_n (ls' := [_, _, _, _]) dX6_beside_8 (Nat.le_of_ble_eq_true rfl) rfl ?_
  refine q_aload_n dX6_beside_9 rfl ?_
  refine q_ifnonnull (tgt := 16) dX6_beside_10 (by decide) ?_
  refine q_aload_n dX6_beside_16 rfl ?_
  refine q_getI fl_RX6_91 rfl (by assumption) (h.c hd8 (j := 6) (by omega)) dX6_beside_17 ?_
  have hz : cenc 6 (sC σ d 6) = 0 ↔ sC σ d 6 = 1 := enc_z (by omega)
  refine q_if_eq (tgt := 26) dX6_beside_20 (by decide) (fun q => ?_) (fun q => ?_)
  · rw [if_pos (hz.mp q)]
    refine q_aload_n dX6_beside_26 rfl ?_
    refine q_getR fl_RX6_10 rfl (by assumption) dX6_beside_27 ?_
    refine q_aload_n dX6_beside_30 rfl ?_
    refine q_cV (as := [_]) lk_RX6_189 (c_merging k1 h hw hd8) ⟨3, by decide, k1, rfl⟩ rfl (by decide) (Nat.le_of_ble_eq_true rfl) dX6_beside_31 ?_
    rintro v J ⟨rfl, rfl⟩
    by_cases e : sft σ d 8 = 0
    · rw [e]
      rw [show crf 1 0 = Value.null from rfl]
      refine q_astore_nN (ls' := [_, _, _, _]) dX6_beside_34 (Nat.le_of_ble_eq_true rfl) rfl ?_
      refine q_aload_nN dX6_beside_35 rfl ?_
      refine q_ifnonnullN dX6_beside_36 ?_
      refine q_ldc (v := -1000004) ct_RX6_193 dX6_beside_39 ?_
      refine q_goto (tgt := 48) dX6_beside_41 (by decide) ?_
      exact q_iret rfl rfl dX6_beside_48 ⟨by rw [told, if_pos rfl], rfl⟩
    · have hle := sft_le σ d 8
      obtain ⟨f, hf⟩ : ∃ f, sft σ d 8 = f + 1 := ⟨sft σ d 8 - 1, by omega⟩
      rw [hf]
      rw [show crf 1 (f + 1) = Value.ref (1 + 4 + 2 * f) from rfl]
      have hkf := kSC k1 (show f < 8 by omega)
      refine q_astore_n (ls' := [_, _, _, _]) dX6_beside_34 (Nat.le_of_ble_eq_true rfl) rfl ?_
      refine q_aload_n dX6_beside_35 rfl ?_
      refine q_ifnonnull (tgt := 44) dX6_beside_36 (by decide) ?_
      refine q_aload_n dX6_beside_44 rfl ?_
      refine q_getI fl_RX6_194 rfl (by assumption) (h.cn (c := f) (by omega)) dX6_beside_45 ?_
      exact q_iret rfl rfl dX6_beside_48 ⟨by rw [told, if_neg (by omega)]; rfl, rfl⟩
  · rw [if_neg (fun z => q (hz.mpr z))]
    refine q_ldc (v := -1000002) ct_RX6_175 dX6_beside_23 ?_
    exact q_iret rfl rfl dX6_beside_25 ⟨rfl, rfl⟩
def qIfJoin (σ : q_S) (c : Int32) : Int32 := if isC (sN σ 0) c then (if sG σ 1 = 1 then -1000002 else if sN σ 2 = 30 then -1000003 else if sC σ c.toNatClampNeg 6 = 1 ∧ sLen σ c.toNatClampNeg < sC σ c.toNatClampNeg 4 then 0 else 4) else -1000001
theorem c_ifJoin {c : Int32} {I : q_Mem} {σ : q_S} (h : RC 1 I σ) (hw : WFc σ) (hG : sG σ 1 ≤ 1) : q_M kX6_ifJoin [.ref 0, .int c] I (fun v J => v = some (.int (qIfJoin σ c)) ∧ I = J) := by
  have k0 := k0
  have k1 := k1
  have h8 := hw.B.1
  have h30 : sN σ 2 ≤ 30 := hw.B.2.2.1
  refine q_M.of pnX6_ifJoin (by simp [Value.category]) (Nat.le_of_ble_eq_true rfl) ?_
  refine q_aload_n dX6_ifJoin_0 rfl ?_
  refine q_getR fl_RX6_10 rfl (by assumption) dX6_ifJoin_1 ?_
  refine q_iload_n dX6_ifJoin_4 rfl ?_
  refine q_cV (as := [_]) lk_RX6_65 (c_courseAt k1 h h8) ⟨3, by decide, k1, rfl⟩ rfl (by decide) (Nat.le_of_ble_eq_true rfl) dX6_ifJoin_5 ?_
  rintro v J ⟨rfl, ⟨d, hd, rfl, rfl⟩ | ⟨hno, rfl⟩⟩
  case inr =>
    refine q_astore_nN (ls' := [_, _, _]) dX6_ifJoin_8 (Nat.le_of_ble_eq_true rfl) rfl ?_
    refine q_aload_nN dX6_ifJoin_9 rfl ?_
    refine q_ifnonnullN dX6_ifJoin_10 ?_
    refine q_ldc (v := -1000001) ct_RX6_69 dX6_ifJoin_13 ?_
    exact q_iret rfl rfl dX6_ifJoin_15 ⟨by rw [qIfJoin, if_neg (fun z => by obtain ⟨e, he, q⟩ := (isC_iff (by omega)).mp z; exact hno e he q)], rfl⟩
  have hd8 : d < 8 := by omega
  have hkd := kSC k1 hd8
  have hdc : isC (sN σ 0) (nI d) := (isC_iff (by omega)).mpr ⟨d, hd, rfl⟩
  have hv : qIfJoin σ (nI d) = if sG σ 1 = 1 then -1000002 else if sN σ 2 = 30 then -1000003 else if sC σ d 6 = 1 ∧ sLen σ d < sC σ d 4 then 0 else 4 := by rw [qIfJoin, if_pos hdc, nI_clamp (by omega)]
  rw [hv]
  refine q_astore_n (ls' := [_, _, _]) dX6_ifJoin_8 (Nat.le_of_ble_eq_true rfl) rfl ?_
  refine q_aload_n dX6_ifJoin_9 rfl ?_
  refine q_ifnonnull (tgt := 16) dX6_ifJoin_10 (by decide) ?_
  refine q_aload_n dX6_ifJoin_16 rfl ?_
  refine q_getR fl_RX6_10 rfl (by assumption) dX6_ifJoin_17 ?_
  refine q_getI fl_RX6_172 rfl (by assumption) (h.g (j := 1) (by omega)) dX6_ifJoin_20 ?_
  refine q_if_eqN (tgt := 29) (by omega) dX6_ifJoin_23 (by decide) (fun q => ?_) (fun q => ?_)
  · rw [if_neg (by omega)]
    refine q_aload_n dX6_ifJoin_29 rfl ?_
    refine q_getR fl_RX6_10 rfl (by assumption) dX6_ifJoin_30 ?_
    refine q_getI fl_RX6_197 rfl (by assumption) (h.n (j := 2) (by omega)) dX6_ifJoin_33 ?_
    refine q_bipush (v := nI 30) dX6_ifJoin_36 (by decide) ?_
    refine q_icmp_ltN (tgt := 44) (by omega) (by omega) dX6_ifJoin_38 (by decide) (fun q2 => ?_) (fun q2 => ?_)
    · rw [if_neg (by omega)]
      refine q_aload_n dX6_ifJoin_44 rfl ?_
      refine q_cV (as := []) lk_RX6_201 (c_hasFreeS k1 h hw hd8) ⟨0, by decide, by assumption, rfl⟩ rfl (by decide) (Nat.le_of_ble_eq_true rfl) dX6_ifJoin_45 ?_
      rintro v J ⟨rfl, rfl⟩
      by_cases e : sC σ d 6 = 1 ∧ sLen σ d < sC σ d 4
      · rw [if_pos e, if_pos e]
        refine q_if_eq (tgt := 55) dX6_ifJoin_48 (by decide) (fun q3 => ?_) (fun q3 => ?_)
        · exact absurd q3 (by decide)
        · refine q_iconst (v := nI 0) dX6_ifJoin_51 (by decide) ?_
          refine q_goto (tgt := 56) dX6_ifJoin_52 (by decide) ?_
          exact q_iret rfl rfl dX6_ifJoin_56 ⟨rfl, rfl⟩
      · rw [if_neg e, if_neg e]
        refine q_if_eq (tgt := 55) dX6_ifJoin_48 (by decide) (fun q3 => ?_) (fun q3 => ?_)
        · refine q_iconst (v := nI 4) dX6_ifJoin_55 (by decide) ?_
          exact q_iret rfl rfl dX6_ifJoin_56 ⟨rfl, rfl⟩
        · exact absurd rfl q3
    · rw [if_pos (by omega)]
      refine q_ldc (v := -1000003) ct_RX6_200 dX6_ifJoin_41 ?_
      exact q_iret rfl rfl dX6_ifJoin_43 ⟨rfl, rfl⟩
  · rw [if_pos (by omega)]
    refine q_ldc (v := -1000002) ct_RX6_175 dX6_ifJoin_26 ?_
    exact q_iret rfl rfl dX6_ifJoin_28 ⟨rfl, rfl⟩
