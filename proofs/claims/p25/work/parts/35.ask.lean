/-! the class's questions -/
def told (w : Nat) : Int32 := if w = 0 then -1000004 else nI (w - 1)
theorem c_found {x : Int32} {I : q_Mem} : q_M kX6_foundOrNot [.int x] I (fun v J => v = some (.int (if x = -1 then -1000004 else x)) ∧ I = J) := by
  refine q_M.of pnX6_foundOrNot (by simp [Value.category]) (Nat.le_of_ble_eq_true rfl) ?_
  refine q_iload_n dX6_foundOrNot_0 rfl ?_
  refine q_iconst (v := -1) dX6_foundOrNot_1 (by decide) ?_
  refine q_icmp_ne (tgt := 10) dX6_foundOrNot_2 (by decide) (fun q => ?_) (fun q => ?_)
  · refine q_iload_n dX6_foundOrNot_10 rfl ?_
    exact q_iret rfl rfl dX6_foundOrNot_11 ⟨by rw [if_neg q], rfl⟩
  · refine q_ldc (v := -1000004) ct_RX6_193 dX6_foundOrNot_5 ?_
    refine q_goto (tgt := 11) dX6_foundOrNot_7 (by decide) ?_
    exact q_iret rfl rfl dX6_foundOrNot_11 ⟨by rw [if_pos q], rfl⟩
theorem c_told {w : Nat} {I : q_Mem} (hw : w < 2 ^ 31) : q_M kX6_foundOrNot [.int (enc w)] I (fun v J => v = some (.int (told w)) ∧ I = J) := by
  refine c_found.mono ?_
  rintro v J ⟨rfl, rfl⟩
  refine ⟨?_, rfl⟩
  by_cases e : w = 0
  · rw [if_pos ((enc_m1 hw).mpr e), told, if_pos e]
  · rw [if_neg (fun z => e ((enc_m1 hw).mp z)), told, if_neg e, enc, if_neg e]
theorem tab_out {n : Nat} {x : Int32} (hn : n < 2 ^ 31) (h : ¬ isC n x) : x.toInt < 0 ∨ (n : Int) - 1 < x.toInt := by
  by_cases q : x < 0
  · exact Or.inl (by have := Int32.lt_iff_toInt_lt.mp q; simpa using this)
  · obtain ⟨j, hj, rfl⟩ := nI_of q
    right
    rw [nI_toInt hj]
    rcases Nat.lt_or_ge j n with z | z
    · exact absurd ((isC_iff hn).mpr ⟨j, z, rfl⟩) h
    · omega
def cof (σ : q_S) (c j : Nat) : Int32 :=
  if j < 6 then nI (sC σ c j) else if j = 6 then enc (sC σ c 6) else if j = 7 then nI (sLen σ c) else if j = 8 then nI (ssum (fun p => if swt σ p (c + 1) = true then 1 else 0) 30) else if j = 9 then told (sC σ c 7) else if j = 10 then told (sC σ c 8) else if j = 11 then nI (sC σ c 3 - sLen σ c) else nI (sC σ c 9)
def qCourseOf (σ : q_S) (c w : Int32) : Int32 := if isC (sN σ 0) c ∧ isC 13 w then cof σ c.toNatClampNeg w.toNatClampNeg else -1000001
theorem c_courseOf {c w : Int32} {I : q_Mem} {σ : q_S} (h : RC 1 I σ) (hw : WFc σ) : q_M kX6_courseOf [.ref 0, .int c, .int w] I (fun v J => v = some (.int (qCourseOf σ c w)) ∧ I = J) := by
  have k0 := k0
  have h8 := hw.B.1
  refine q_M.of pnX6_courseOf (by simp [Value.category]) (Nat.le_of_ble_eq_true rfl) ?_
  refine q_aload_n dX6_courseOf_0 rfl ?_
  refine q_getR fl_RX6_10 rfl (by assumption) dX6_courseOf_1 ?_
  refine q_iload_n dX6_courseOf_4 rfl ?_
  refine q_cV (as := [_]) lk_RX6_65 (c_courseAt k1 h h8) ⟨3, by decide, k1, rfl⟩ rfl (by decide) (Nat.le_of_ble_eq_true rfl) dX6_courseOf_5 ?_
  rintro v J ⟨rfl, ⟨d, hd, rfl, rfl⟩ | ⟨hno, rfl⟩⟩
  case inr =>
    refine q_astore_nN (ls' := [_, _, _, _]) dX6_courseOf_8 (Nat.le_of_ble_eq_true rfl) rfl ?_
    refine q_aload_nN dX6_courseOf_9 rfl ?_
    refine q_ifnonnullN dX6_courseOf_10 ?_
    refine q_ldc (v := -1000001) ct_RX6_69 dX6_courseOf_13 ?_
    exact q_iret rfl rfl dX6_courseOf_15 ⟨by rw [qCourseOf, if_neg (fun z => by obtain ⟨e, he, q⟩ := (isC_iff (by omega)).mp z.1; exact hno e he q)], rfl⟩
  have hd8 : d < 8 := by omega
  have hkd := kSC k1 hd8
  obtain ⟨x0, x1, x2, x3, x4, x5, x6, x7, x8, x9, x10⟩ := hw.cr hd8
  have hld := hw.len d
  refine q_astore_n (ls' := [_, _, _, _]) dX6_courseOf_8 (Nat.le_of_ble_eq_true rfl) rfl ?_
  refine q_aload_n dX6_courseOf_9 rfl ?_
  refine q_ifnonnull (tgt := 16) dX6_courseOf_10 (by decide) ?_
  refine q_iload_n dX6_courseOf_16 rfl ?_
  have hdc : isC (sN σ 0) (nI d) := (isC_iff (by omega)).mpr ⟨d, hd, rfl⟩
  by_cases hwc : isC 13 w
  case neg =>
    refine q_tabOut (tgt := 168) dX6_courseOf_17 (by have := tab_out (by omega) hwc; omega) (by decide) ?_
    refine q_ldc (v := -1000001) ct_RX6_69 dX6_courseOf_168 ?_
    exact q_iret rfl rfl dX6_courseOf_170 ⟨by rw [qCourseOf, if_neg (fun z => hwc z.2)], rfl⟩
  obtain ⟨j, hj, rfl⟩ := (isC_iff (by omega)).mp hwc
  have hv : qCourseOf σ (nI d) (nI j) = cof σ d j := by rw [qCourseOf, if_pos ⟨hdc, hwc⟩, nI_clamp (by omega), nI_clamp (by omega)]
  rw [hv]
  have hjc : j = 0 ∨ j = 1 ∨ j = 2 ∨ j = 3 ∨ j = 4 ∨ j = 5 ∨ j = 6 ∨ j = 7 ∨ j = 8 ∨ j = 9 ∨ j = 10 ∨ j = 11 ∨ j = 12 := by omega
  rcases hjc with rfl | rfl | rfl | rfl | rfl | rfl | rfl | rfl | rfl | rfl | rfl | rfl | rfl
  · refine q_tabIn (off := 67) (tgt := 84) dX6_courseOf_17 (by decide) (by decide) (by decide) (by decide) ?_
    refine q_aload_n dX6_courseOf_84 rfl ?_
    refine q_getI fl_RX6_70 rfl (by assumption) (h.c hd8 (j := 0) (by omega)) dX6_courseOf_85 ?_
    exact q_iret rfl rfl dX6_courseOf_88 ⟨rfl, rfl⟩
  · refine q_tabIn (off := 72) (tgt := 89) dX6_courseOf_17 (by decide) (by decide) (by decide) (by decide) ?_
    refine q_aload_n dX6_courseOf_89 rfl ?_
    refine q_getI fl_RX6_76 rfl (by assumption) (h.c hd8 (j := 1) (by omega)) dX6_courseOf_90 ?_
    exact q_iret rfl rfl dX6_courseOf_93 ⟨rfl, rfl⟩
  · refine q_tabIn (off := 77) (tgt := 94) dX6_courseOf_17 (by decide) (by decide) (by decide) (by decide) ?_
    refine q_aload_n dX6_courseOf_94 rfl ?_
    refine q_getI fl_RX6_79 rfl (by assumption) (h.c hd8 (j := 2) (by omega)) dX6_courseOf_95 ?_
    exact q_iret rfl rfl dX6_courseOf_98 ⟨rfl, rfl⟩
  · refine q_tabIn (off := 82) (tgt := 99) dX6_courseOf_17 (by decide) (by decide) (by decide) (by decide) ?_
    refine q_aload_n dX6_courseOf_99 rfl ?_
    refine q_getI fl_RX6_82 rfl (by assumption) (h.c hd8 (j := 3) (by omega)) dX6_courseOf_100 ?_
    exact q_iret rfl rfl dX6_courseOf_103 ⟨rfl, rfl⟩
  · refine q_tabIn (off := 87) (tgt := 104) dX6_courseOf_17 (by decide) (by decide) (by decide) (by decide) ?_
    refine q_aload_n dX6_courseOf_104 rfl ?_
    refine q_getI fl_RX6_85 rfl (by assumption) (h.c hd8 (j := 4) (by omega)) dX6_courseOf_105 ?_
    exact q_iret rfl rfl dX6_courseOf_108 ⟨rfl, rfl⟩
  · refine q_tabIn (off := 92) (tgt := 109) dX6_courseOf_17 (by decide) (by decide) (by decide) (by decide) ?_
    refine q_aload_n dX6_courseOf_109 rfl ?_
    refine q_getI fl_RX6_88 rfl (by assumption) (h.c hd8 (j := 5) (by omega)) dX6_courseOf_110 ?_
    exact q_iret rfl rfl dX6_courseOf_113 ⟨rfl, rfl⟩
  · refine q_tabIn (off := 97) (tgt := 114) dX6_courseOf_17 (by decide) (by decide) (by decide) (by decide) ?_
    refine q_aload_n dX6_courseOf_114 rfl ?_
    refine q_getI fl_RX6_91 rfl (by assumption) (h.c hd8 (j := 6) (by omega)) dX6_courseOf_115 ?_
    exact q_iret rfl rfl dX6_courseOf_118 ⟨rfl, rfl⟩
  · refine q_tabIn (off := 102) (tgt := 119) dX6_courseOf_17 (by decide) (by decide) (by decide) (by decide) ?_
    refine q_aload_n dX6_courseOf_119 rfl ?_
    refine q_getI fl_RX6_94 rfl (by assumption) (h.len hd8) dX6_courseOf_120 ?_
    exact q_iret rfl rfl dX6_courseOf_123 ⟨rfl, rfl⟩
  · refine q_tabIn (off := 107) (tgt := 124) dX6_courseOf_17 (by decide) (by decide) (by decide) (by decide) ?_
    refine q_aload_n dX6_courseOf_124 rfl ?_
    refine q_getR fl_RX6_10 rfl (by assumption) dX6_courseOf_125 ?_
    refine q_iload_n dX6_courseOf_128 rfl ?_
    refine q_cV (as := [_]) lk_RX6_97 (c_howMany k1 h hw hd8) ⟨3, by decide, k1, rfl⟩ rfl (by decide) (Nat.le_of_ble_eq_true rfl) dX6_courseOf_129 ?_
    rintro v J ⟨rfl, rfl⟩
    exact q_iret rfl rfl dX6_courseOf_132 ⟨rfl, rfl⟩
  · refine q_tabIn (off := 116) (tgt := 133) dX6_courseOf_17 (by decide) (by decide) (by decide) (by decide) ?_
    refine q_aload_n dX6_courseOf_133 rfl ?_
    refine q_getI fl_RX6_100 rfl (by assumption) (h.c hd8 (j := 7) (by omega)) dX6_courseOf_134 ?_
    refine q_cS (as := [_]) lk_RX6_103 (c_told (w := sC σ d 7) (by omega)) rfl (by decide) (Nat.le_of_ble_eq_true rfl) dX6_courseOf_137 ?_
    rintro v J ⟨rfl, rfl⟩
    exact q_iret rfl rfl dX6_courseOf_140 ⟨rfl, rfl⟩
  · refine q_tabIn (off := 124) (tgt := 141) dX6_courseOf_17 (by decide) (by decide) (by decide) (by decide) ?_
    refine q_aload_n dX6_courseOf_141 rfl ?_
    refine q_getI fl_RX6_106 rfl (by assumption) (h.c hd8 (j := 8) (by omega)) dX6_courseOf_142 ?_
    refine q_cS (as := [_]) lk_RX6_103 (c_told (w := sC σ d 8) (by omega)) rfl (by decide) (Nat.le_of_ble_eq_true rfl) dX6_courseOf_145 ?_
    rintro v J ⟨rfl, rfl⟩
    exact q_iret rfl rfl dX6_courseOf_148 ⟨rfl, rfl⟩
  · refine q_tabIn (off := 132) (tgt := 149) dX6_courseOf_17 (by decide) (by decide) (by decide) (by decide) ?_
    refine q_iconst (v := nI 0) dX6_courseOf_149 (by decide) ?_
    refine q_aload_n dX6_courseOf_150 rfl ?_
    refine q_getI fl_RX6_82 rfl (by assumption) (h.c hd8 (j := 3) (by omega)) dX6_courseOf_151 ?_
    refine q_aload_n dX6_courseOf_154 rfl ?_
    refine q_getI fl_RX6_94 rfl (by assumption) (h.len hd8) dX6_courseOf_155 ?_
    refine q_isub dX6_courseOf_158 ?_
    refine q_mmax lk_RX6_109 (by decide) (Nat.le_of_ble_eq_true rfl) dX6_courseOf_159 ?_
    rw [show cenc 3 (sC σ d 3) = nI (sC σ d 3) from rfl, max_sub (by omega) (by omega)]
    exact q_iret rfl rfl dX6_courseOf_162 ⟨rfl, rfl⟩
  · refine q_tabIn (off := 146) (tgt := 163) dX6_courseOf_17 (by decide) (by decide) (by decide) (by decide) ?_
    refine q_aload_n dX6_courseOf_163 rfl ?_
    refine q_getI fl_RX6_115 rfl (by assumption) (h.c hd8 (j := 9) (by omega)) dX6_courseOf_164 ?_
    exact q_iret rfl rfl dX6_courseOf_167 ⟨rfl, rfl⟩
def qMember (σ : q_S) (c r : Int32) : Int32 := if isC (sN σ 0) c ∧ ¬ r < 0 then (match (sL σ c.toNatClampNeg)[r.toNatClampNeg]? with
  | some p => nI p
  | none => -1000004) else -1000001
theorem c_member {c r : Int32} {I : q_Mem} {σ : q_S} (h : RC 1 I σ) (hw : WFc σ) : q_M kX6_member [.ref 0, .int c, .int r] I (fun v J => v = some (.int (qMember σ c r)) ∧ I = J) := by
  have k0 := k0
  have h8 := hw.B.1
  have bad : ¬ (isC (sN σ 0) c ∧ ¬ r < 0) → ∀ o3, q_X kX6_member 17 [some (.ref 0), some (.int c), some (.int r), o3] [] I (fun v J => v = some (.int (qMember σ c r)) ∧ I = J) := by
    intro hb o3
    refine q_ldc (v := -1000001) ct_RX6_69 dX6_member_17 ?_
    exact q_iret rfl rfl dX6_member_19 ⟨by rw [qMember, if_neg hb], rfl⟩
  refine q_M.of pnX6_member (by simp [Value.category]) (Nat.le_of_ble_eq_true rfl) ?_
  refine q_aload_n dX6_member_0 rfl ?_
  refine q_getR fl_RX6_10 rfl (by assumption) dX6_member_1 ?_
  refine q_iload_n dX6_member_4 rfl ?_
  refine q_cV (as := [_]) lk_RX6_65 (c_courseAt k1 h h8) ⟨3, by decide, k1, rfl⟩ rfl (by decide) (Nat.le_of_ble_eq_true rfl) dX6_member_5 ?_
  rintro v J ⟨rfl, ⟨d, hd, rfl, rfl⟩ | ⟨hno, rfl⟩⟩
  case inr =>
    refine q_astore_nN (ls' := [_, _, _, _]) dX6_member_8 (Nat.le_of_ble_eq_true rfl) rfl ?_
    refine q_aload_nN dX6_member_9 rfl ?_
    refine q_ifnullN (tgt := 17) dX6_member_10 (by decide) ?_
    exact bad (fun z => by obtain ⟨e, he, q⟩ := (isC_iff (by omega)).mp z.1; exact hno e he q) _
  have hd8 : d < 8 := by omega
  have hkd := kSC k1 hd8
  have hdc : isC (sN σ 0) (nI d) := (isC_iff (by omega)).mpr ⟨d, hd, rfl⟩
  have hsl : (sL σ d).length = sLen σ d := rfl
  have hld := hw.len d
  refine q_astore_n (ls' := [_, _, _, _]) dX6_member_8 (Nat.le_of_ble_eq_true rfl) rfl ?_
  refine q_aload_n dX6_member_9 rfl ?_
  refine q_ifnull dX6_member_10 ?_
  refine q_iload_n dX6_member_13 rfl ?_
  refine q_if_ge (tgt := 20) dX6_member_14 (by decide) (fun q => ?_) (fun q => ?_)
  · refine q_aload_n dX6_member_20 rfl ?_
    refine q_iload_n dX6_member_21 rfl ?_
    refine q_cV (as := [_]) lk_RX6_118 (c_memberAt hkd (h.len hd8) (r := r) (hw.len d)) ⟨0, by decide, hkd, rfl⟩ rfl (by decide) (Nat.le_of_ble_eq_true rfl) dX6_member_22 ?_
    rintro v J hq
    have q0 : ¬ r < 0 := Int32.not_lt.mpr q
    have hv : qMember σ (nI d) r = (match (sL σ d)[r.toNatClampNeg]? with
      | some p => nI p
      | none => -1000004) := by rw [qMember, if_pos ⟨hdc, q0⟩, nI_clamp (by omega)]
    rw [hv]
    rcases hq with ⟨i, hi, rfl, rfl, rfl⟩ | ⟨hno, rfl, rfl⟩
    · obtain ⟨p, hp⟩ : ∃ p, (sL σ d)[i]? = some p := ⟨_, List.getElem?_eq_getElem (by omega)⟩
      have hm := h.m hd8 hp
      have hp30 := hw.mlt30 (List.mem_of_getElem? hp)
      rw [show 1 + 4 + 2 * d + 1 = 1 + 5 + 2 * d by omega, hm, nI_clamp (by omega), hp]
      refine q_cS (as := [_]) lk_RX6_103 (c_found (x := nI p)) rfl (by decide) (Nat.le_of_ble_eq_true rfl) dX6_member_25 ?_
      rintro v J ⟨rfl, rfl⟩
      exact q_iret rfl rfl dX6_member_28 ⟨by rw [if_neg (fun z => by have := (enc_m1 (u := p + 1) (by omega)).mp z; omega)], rfl⟩
    · obtain ⟨i, hi, rfl⟩ := nI_of q0
      have hn : (sL σ d)[i]? = none := List.getElem?_eq_none (by
        rcases Nat.lt_or_ge i (sLen σ d) with z | z
        · exact absurd rfl (hno i z)
        · omega)
      rw [nI_clamp hi, hn]
      refine q_cS (as := [_]) lk_RX6_103 (c_found (x := -1)) rfl (by decide) (Nat.le_of_ble_eq_true rfl) dX6_member_25 ?_
      rintro v J ⟨rfl, rfl⟩
      exact q_iret rfl rfl dX6_member_28 ⟨rfl, rfl⟩
  · exact bad (fun z => z.2 (Int32.not_le.mp q)) _
def qWaits (σ : q_S) (c r : Int32) : Int32 := if isC (sN σ 0) c ∧ ¬ r < 0 then told (swn σ (c.toNatClampNeg + 1) 30 0 r.toNatClampNeg) else -1000001
theorem swn_le (σ : q_S) (w : Nat) : ∀ d k r, swn σ w d k r ≤ k + d := by
  intro d
  induction d with
  | zero => intro k r; exact Nat.zero_le _
  | succ d ih =>
    intro k r
    rw [swn]
    split
    · split
      · omega
      · exact Nat.le_trans (ih _ _) (by omega)
    · exact Nat.le_trans (ih _ _) (by omega)
theorem c_waits {c r : Int32} {I : q_Mem} {σ : q_S} (h : RC 1 I σ) (hw : WFc σ) : q_M kX6_waits [.ref 0, .int c, .int r] I (fun v J => v = some (.int (qWaits σ c r)) ∧ I = J) := by
  have k0 := k0
  have h8 := hw.B.1
  have bad : ¬ (isC (sN σ 0) c ∧ ¬ r < 0) → q_X kX6_waits 15 [some (.ref 0), some (.int c), some (.int r)] [] I (fun v J => v = some (.int (qWaits σ c r)) ∧ I = J) := by
    intro hb
    refine q_ldc (v := -1000001) ct_RX6_69 dX6_waits_15 ?_
    exact q_iret rfl rfl dX6_waits_17 ⟨by rw [qWaits, if_neg hb], rfl⟩
  refine q_M.of pnX6_waits (by simp [Value.category]) (Nat.le_of_ble_eq_true rfl) ?_
  refine q_aload_n dX6_waits_0 rfl ?_
  refine q_getR fl_RX6_10 rfl (by assumption) dX6_waits_1 ?_
  refine q_iload_n dX6_waits_4 rfl ?_
  refine q_cV (as := [_]) lk_RX6_65 (c_courseAt k1 h h8) ⟨3, by decide, k1, rfl⟩ rfl (by decide) (Nat.le_of_ble_eq_true rfl) dX6_waits_5 ?_
  rintro v J ⟨rfl, ⟨d, hd, rfl, rfl⟩ | ⟨hno, rfl⟩⟩
  case inr =>
    refine q_ifnullN (tgt := 15) dX6_waits_8 (by decide) ?_
    exact bad (fun z => by obtain ⟨e, he, q⟩ := (isC_iff (by omega)).mp z.1; exact hno e he q)
  have hd8 : d < 8 := by omega
  have hdc : isC (sN σ 0) (nI d) := (isC_iff (by omega)).mpr ⟨d, hd, rfl⟩
  refine q_ifnull dX6_waits_8 ?_
  refine q_iload_n dX6_waits_11 rfl ?_
  refine q_if_ge (tgt := 18) dX6_waits_12 (by decide) (fun q => ?_) (fun q => ?_)
  · have q0 : ¬ r < 0 := Int32.not_lt.mpr q
    obtain ⟨i, hi, rfl⟩ := nI_of q0
    refine q_aload_n dX6_waits_18 rfl ?_
    refine q_getR fl_RX6_10 rfl (by assumption) dX6_waits_19 ?_
    refine q_iload_n dX6_waits_22 rfl ?_
    refine q_iload_n dX6_waits_23 rfl ?_
    refine q_cV (as := [_, _]) lk_RX6_121 (c_waiterAt k1 h hw hd8 hi) ⟨3, by decide, k1, rfl⟩ rfl (by decide) (Nat.le_of_ble_eq_true rfl) dX6_waits_24 ?_
    rintro v J ⟨rfl, rfl⟩
    refine q_cS (as := [_]) lk_RX6_103 (c_told (w := swn σ (d + 1) 30 0 i) (by have := swn_le σ (d + 1) 30 0 i; omega)) rfl (by decide) (Nat.le_of_ble_eq_true rfl) dX6_waits_27 ?_
    rintro v J ⟨rfl, rfl⟩
    exact q_iret rfl rfl dX6_waits_30 ⟨by rw [qWaits, if_pos ⟨hdc, q0⟩, nI_clamp (by omega), nI_clamp hi], rfl⟩
  · exact bad (fun z => z.2 (Int32.not_le.mp q))
def pof (σ : q_S) (p j : Nat) : Int32 :=
  if j = 0 then nI (sP σ p 0) else if j = 1 then told (sP σ p 4) else if j = 2 then nI (srank σ p) else if j = 3 then nI (sP σ p 5) else if j = 4 then nI (sP σ p 6) else told (sP σ p (j - 4))
def qPersonOf (σ : q_S) (p w : Int32) : Int32 := if isC (sN σ 2) p ∧ isC 8 w then pof σ p.toNatClampNeg w.toNatClampNeg else -1000001
theorem c_personOf {c w : Int32} {I : q_Mem} {σ : q_S} (h : RC 1 I σ) (hw : WFc σ) : q_M kX6_personOf [.ref 0, .int c, .int w] I (fun v J => v = some (.int (qPersonOf σ c w)) ∧ I = J) := by
  have k0 := k0
  have h8 := hw.B.1
  have h30 : sN σ 2 ≤ 30 := hw.B.2.2.1
  refine q_M.of pnX6_personOf (by simp [Value.category]) (Nat.le_of_ble_eq_true rfl) ?_
  refine q_aload_n dX6_personOf_0 rfl ?_
  refine q_getR fl_RX6_10 rfl (by assumption) dX6_personOf_1 ?_
  refine q_iload_n dX6_personOf_4 rfl ?_
  refine q_cV (as := [_]) lk_RX6_124 (c_personAt k1 h h30) ⟨3, by decide, k1, rfl⟩ rfl (by decide) (Nat.le_of_ble_eq_true rfl) dX6_personOf_5 ?_
  rintro v J ⟨rfl, ⟨d, hd, rfl, rfl⟩ | ⟨hno, rfl⟩⟩
  case inr =>
    refine q_astore_nN (ls' := [_, _, _, _]) dX6_personOf_8 (Nat.le_of_ble_eq_true rfl) rfl ?_
    refine q_aload_nN dX6_personOf_9 rfl ?_
    refine q_ifnonnullN dX6_personOf_10 ?_
    refine q_ldc (v := -1000001) ct_RX6_69 dX6_personOf_13 ?_
    exact q_iret rfl rfl dX6_personOf_15 ⟨by rw [qPersonOf, if_neg (fun z => by obtain ⟨e, he, q⟩ := (isC_iff (by omega)).mp z.1; exact hno e he q)], rfl⟩
  have hd8 : d < 30 := by omega
  have hkd := kSP k1 hd8
  obtain ⟨x0, x1, x2, x3, x4, x5, x6, x7, x8, x9⟩ := hw.pr d
  refine q_astore_n (ls' := [_, _, _, _]) dX6_personOf_8 (Nat.le_of_ble_eq_true rfl) rfl ?_
  refine q_aload_n dX6_personOf_9 rfl ?_
  refine q_ifnonnull (tgt := 16) dX6_personOf_10 (by decide) ?_
  refine q_iload_n dX6_personOf_16 rfl ?_
  have hdc : isC (sN σ 2) (nI d) := (isC_iff (by omega)).mpr ⟨d, hd, rfl⟩
  by_cases hwc : isC 8 w
  case neg =>
    refine q_tabOut (tgt := 124) dX6_personOf_17 (by have := tab_out (by omega) hwc; omega) (by decide) ?_
    refine q_ldc (v := -1000001) ct_RX6_69 dX6_personOf_124 ?_
    exact q_iret rfl rfl dX6_personOf_126 ⟨by rw [qPersonOf, if_neg (fun z => hwc z.2)], rfl⟩
  obtain ⟨j, hj, rfl⟩ := (isC_iff (by omega)).mp hwc
  have hv : qPersonOf σ (nI d) (nI j) = pof σ d j := by rw [qPersonOf, if_pos ⟨hdc, hwc⟩, nI_clamp (by omega), nI_clamp (by omega)]
  rw [hv]
  have hjc : j = 0 ∨ j = 1 ∨ j = 2 ∨ j = 3 ∨ j = 4 ∨ j = 5 ∨ j = 6 ∨ j = 7 := by omega
  rcases hjc with rfl | rfl | rfl | rfl | rfl | rfl | rfl | rfl
  · refine q_tabIn (off := 47) (tgt := 64) dX6_personOf_17 (by decide) (by decide) (by decide) (by decide) ?_
    refine q_aload_n dX6_personOf_64 rfl ?_
    refine q_getI fl_RX6_128 rfl (by assumption) (h.p hd8 (j := 0) (by omega)) dX6_personOf_65 ?_
    rw [show penc 0 (sP σ d 0) = nI (sP σ d 0) from rfl]
    refine q_if_eqN (tgt := 75) (by omega) dX6_personOf_68 (by decide) (fun q => ?_) (fun q => ?_)
    · refine q_iconst (v := nI 0) dX6_personOf_75 (by decide) ?_
      exact q_iret rfl rfl dX6_personOf_76 ⟨by rw [pof, if_pos rfl, q], rfl⟩
    · refine q_iconst (v := nI 1) dX6_personOf_71 (by decide) ?_
      refine q_goto (tgt := 76) dX6_personOf_72 (by decide) ?_
      exact q_iret rfl rfl dX6_personOf_76 ⟨by rw [pof, if_pos rfl, show sP σ d 0 = 1 by omega], rfl⟩
  · refine q_tabIn (off := 60) (tgt := 77) dX6_personOf_17 (by decide) (by decide) (by decide) (by decide) ?_
    refine q_aload_n dX6_personOf_77 rfl ?_
    refine q_getI fl_RX6_134 rfl (by assumption) (h.p hd8 (j := 4) (by omega)) dX6_personOf_78 ?_
    refine q_cS (as := [_]) lk_RX6_103 (c_told (w := sP σ d 4) (by omega)) rfl (by decide) (Nat.le_of_ble_eq_true rfl) dX6_personOf_81 ?_
    rintro v J ⟨rfl, rfl⟩
    exact q_iret rfl rfl dX6_personOf_84 ⟨rfl, rfl⟩
  · refine q_tabIn (off := 68) (tgt := 85) dX6_personOf_17 (by decide) (by decide) (by decide) (by decide) ?_
    refine q_aload_n dX6_personOf_85 rfl ?_
    refine q_cV (as := []) lk_RX6_137 (c_rankHeldS k1 h hw hd8) ⟨2, by decide, by assumption, rfl⟩ rfl (by decide) (Nat.le_of_ble_eq_true rfl) dX6_personOf_86 ?_
    rintro v J ⟨rfl, rfl⟩
    exact q_iret rfl rfl dX6_personOf_89 ⟨rfl, rfl⟩
  · refine q_tabIn (off := 73) (tgt := 90) dX6_personOf_17 (by decide) (by decide) (by decide) (by decide) ?_
    refine q_aload_n dX6_personOf_90 rfl ?_
    refine q_getI fl_RX6_140 rfl (by assumption) (h.p hd8 (j := 5) (by omega)) dX6_personOf_91 ?_
    exact q_iret rfl rfl dX6_personOf_94 ⟨rfl, rfl⟩
  · refine q_tabIn (off := 78) (tgt := 95) dX6_personOf_17 (by decide) (by decide) (by decide) (by decide) ?_
    refine q_aload_n dX6_personOf_95 rfl ?_
    refine q_getI fl_RX6_143 rfl (by assumption) (h.p hd8 (j := 6) (by omega)) dX6_personOf_96 ?_
    exact q_iret rfl rfl dX6_personOf_99 ⟨rfl, rfl⟩
  · refine q_tabIn (off := 83) (tgt := 100) dX6_personOf_17 (by decide) (by decide) (by decide) (by decide) ?_
    refine q_aload_n dX6_personOf_100 rfl ?_
    refine q_getI fl_RX6_146 rfl (by assumption) (h.p hd8 (j := 1) (by omega)) dX6_personOf_101 ?_
    refine q_cS (as := [_]) lk_RX6_103 (c_told (w := sP σ d 1) (by omega)) rfl (by decide) (Nat.le_of_ble_eq_true rfl) dX6_personOf_104 ?_
    rintro v J ⟨rfl, rfl⟩
    exact q_iret rfl rfl dX6_personOf_107 ⟨rfl, rfl⟩
  · refine q_tabIn (off := 91) (tgt := 108) dX6_personOf_17 (by decide) (by decide) (by decide) (by decide) ?_
    refine q_aload_n dX6_personOf_108 rfl ?_
    refine q_getI fl_RX6_149 rfl (by assumption) (h.p hd8 (j := 2) (by omega)) dX6_personOf_109 ?_
    refine q_cS (as := [_]) lk_RX6_103 (c_told (w := sP σ d 2) (by omega)) rfl (by decide) (Nat.le_of_ble_eq_true rfl) dX6_personOf_112 ?_
    rintro v J ⟨rfl, rfl⟩
    exact q_iret rfl rfl dX6_personOf_115 ⟨rfl, rfl⟩
  · refine q_tabIn (off := 99) (tgt := 116) dX6_personOf_17 (by decide) (by decide) (by decide) (by decide) ?_
    refine q_aload_n dX6_personOf_116 rfl ?_
    refine q_getI fl_RX6_152 rfl (by assumption) (h.p hd8 (j := 3) (by omega)) dX6_personOf_117 ?_
    refine q_cS (as := [_]) lk_RX6_103 (c_told (w := sP σ d 3) (by omega)) rfl (by decide) (Nat.le_of_ble_eq_true rfl) dX6_personOf_120 ?_
    rintro v J ⟨rfl, rfl⟩
    exact q_iret rfl rfl dX6_personOf_123 ⟨rfl, rfl⟩
