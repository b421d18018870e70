/-! counts, and what would be -/
def cnt (σ : q_S) (s t j : Nat) : Int32 :=
  if j < 3 then nI (sN σ j) else if j = 3 then nI (ssum (fun p => sP σ p 0) 30) else if j = 4 then nI (ssum (fun p => if sP σ p 4 = 0 then 0 else 1) 30) else if j = 5 then nI (sbits (fun c => decide (sC σ c 6 = 1)) 8) else if j = 6 then nI (sbits (fun c => decide (sC σ c 6 = 1 ∧ sLen σ c < sC σ c 4)) 8) else if j = 7 then nI (sG σ 0) else if j = 8 then nI (sG σ 1) else if j = 9 then nI (sG σ 2) else if j = 10 then nI (sG σ 3) else if j = 11 then nI (ssum (fun p => sP σ p 5) 30) else if j = 12 then nI (sG σ 4) else if j = 13 then nI (sG σ 5) else if j = 14 then nI (sG σ 6) else if j = 15 then nI (sG σ 7) else if j = 16 then nI s else nI t
def qCount (σ : q_S) (s t : Nat) (w : Int32) : Int32 := if isC 18 w then cnt σ s t w.toNatClampNeg else -1000001
theorem c_count {w : Int32} {s t : Nat} {I : q_Mem} {σ : q_S} (h : RC 1 I σ) (hs : sok σ) (hH : I 101 2 = nI s) (hT : I 353 2 = nI t) : q_M kX6_count [.ref 0, .int w] I (fun v J => v = some (.int (qCount σ s t w)) ∧ I = J) := by
  have k0 := k0
  have k1 := k1
  have k101 := k101
  have k353 := k353
  have hw := hs.1
  refine q_M.of pnX6_count (by simp [Value.category]) (Nat.le_of_ble_eq_true rfl) ?_
  refine q_iload_n dX6_count_0 rfl ?_
  by_cases hwc : isC 18 w
  case neg =>
    refine q_tabOut (tgt := 241) dX6_count_1 (by have := tab_out (by omega) hwc; omega) (by decide) ?_
    refine q_ldc (v := -1000001) ct_RX6_69 dX6_count_241 ?_
    exact q_iret rfl rfl dX6_count_243 ⟨by rw [qCount, if_neg hwc], rfl⟩
  obtain ⟨j, hj, rfl⟩ := (isC_iff (by omega)).mp hwc
  have hv : qCount σ s t (nI j) = cnt σ s t j := by rw [qCount, if_pos hwc, nI_clamp (by omega)]
  rw [hv]
  have hjc : j = 0 ∨ j = 1 ∨ j = 2 ∨ j = 3 ∨ j = 4 ∨ j = 5 ∨ j = 6 ∨ j = 7 ∨ j = 8 ∨ j = 9 ∨ j = 10 ∨ j = 11 ∨ j = 12 ∨ j = 13 ∨ j = 14 ∨ j = 15 ∨ j = 16 ∨ j = 17 := by omega
  rcases hjc with rfl | rfl | rfl | rfl | rfl | rfl | rfl | rfl | rfl | rfl | rfl | rfl | rfl | rfl | rfl | rfl | rfl | rfl
  · refine q_tabIn (off := 87) (tgt := 88) dX6_count_1 (by decide) (by decide) (by decide) (by decide) ?_
    refine q_aload_n dX6_count_88 rfl ?_
    refine q_getR fl_RX6_10 rfl (by assumption) dX6_count_89 ?_
    refine q_getI fl_RX6_215 rfl (by assumption) (h.n (j := 0) (by omega)) dX6_count_92 ?_
    exact q_iret rfl rfl dX6_count_95 ⟨rfl, rfl⟩
  · refine q_tabIn (off := 95) (tgt := 96) dX6_count_1 (by decide) (by decide) (by decide) (by decide) ?_
    refine q_aload_n dX6_count_96 rfl ?_
    refine q_getR fl_RX6_10 rfl (by assumption) dX6_count_97 ?_
    refine q_getI fl_RX6_218 rfl (by assumption) (h.n (j := 1) (by omega)) dX6_count_100 ?_
    exact q_iret rfl rfl dX6_count_103 ⟨rfl, rfl⟩
  · refine q_tabIn (off := 103) (tgt := 104) dX6_count_1 (by decide) (by decide) (by decide) (by decide) ?_
    refine q_aload_n dX6_count_104 rfl ?_
    refine q_getR fl_RX6_10 rfl (by assumption) dX6_count_105 ?_
    refine q_getI fl_RX6_197 rfl (by assumption) (h.n (j := 2) (by omega)) dX6_count_108 ?_
    exact q_iret rfl rfl dX6_count_111 ⟨rfl, rfl⟩
  · refine q_tabIn (off := 111) (tgt := 112) dX6_count_1 (by decide) (by decide) (by decide) (by decide) ?_
    refine q_aload_n dX6_count_112 rfl ?_
    refine q_getR fl_RX6_10 rfl (by assumption) dX6_count_113 ?_
    refine q_cV (as := []) lk_RX6_205 (c_peopleHere k1 h hw) ⟨3, by decide, k1, rfl⟩ rfl (by decide) (Nat.le_of_ble_eq_true rfl) dX6_count_116 ?_
    rintro v J ⟨rfl, rfl⟩
    exact q_iret rfl rfl dX6_count_119 ⟨rfl, rfl⟩
  · refine q_tabIn (off := 119) (tgt := 120) dX6_count_1 (by decide) (by decide) (by decide) (by decide) ?_
    refine q_aload_n dX6_count_120 rfl ?_
    refine q_getR fl_RX6_10 rfl (by assumption) dX6_count_121 ?_
    refine q_cV (as := []) lk_RX6_182 (c_peopleIn k1 h hw) ⟨3, by decide, k1, rfl⟩ rfl (by decide) (Nat.le_of_ble_eq_true rfl) dX6_count_124 ?_
    rintro v J ⟨rfl, rfl⟩
    exact q_iret rfl rfl dX6_count_127 ⟨rfl, rfl⟩
  · refine q_tabIn (off := 127) (tgt := 128) dX6_count_1 (by decide) (by decide) (by decide) (by decide) ?_
    refine q_aload_n dX6_count_128 rfl ?_
    refine q_getR fl_RX6_10 rfl (by assumption) dX6_count_129 ?_
    refine q_iconst (v := nI 0) dX6_count_132 (by decide) ?_
    refine q_cV (as := [_]) lk_RX6_179 (c_thatAre (s := 0) k1 h hw (by omega)) ⟨3, by decide, k1, rfl⟩ rfl (by decide) (Nat.le_of_ble_eq_true rfl) dX6_count_133 ?_
    rintro v J ⟨rfl, rfl⟩
    exact q_iret rfl rfl dX6_count_136 ⟨rfl, rfl⟩
  · refine q_tabIn (off := 136) (tgt := 137) dX6_count_1 (by decide) (by decide) (by decide) (by decide) ?_
    refine q_aload_n dX6_count_137 rfl ?_
    refine q_getR fl_RX6_10 rfl (by assumption) dX6_count_138 ?_
    refine q_cV (as := []) lk_RX6_221 (c_withPlace k1 h hw) ⟨3, by decide, k1, rfl⟩ rfl (by decide) (Nat.le_of_ble_eq_true rfl) dX6_count_141 ?_
    rintro v J ⟨rfl, rfl⟩
    exact q_iret rfl rfl dX6_count_144 ⟨rfl, rfl⟩
  · refine q_tabIn (off := 144) (tgt := 145) dX6_count_1 (by decide) (by decide) (by decide) (by decide) ?_
    refine q_aload_n dX6_count_145 rfl ?_
    refine q_getR fl_RX6_10 rfl (by assumption) dX6_count_146 ?_
    refine q_getI fl_RX6_224 rfl (by assumption) (h.g (j := 0) (by omega)) dX6_count_149 ?_
    exact q_iret rfl rfl dX6_count_152 ⟨rfl, rfl⟩
  · refine q_tabIn (off := 152) (tgt := 153) dX6_count_1 (by decide) (by decide) (by decide) (by decide) ?_
    refine q_aload_n dX6_count_153 rfl ?_
    refine q_getR fl_RX6_10 rfl (by assumption) dX6_count_154 ?_
    refine q_getI fl_RX6_172 rfl (by assumption) (h.g (j := 1) (by omega)) dX6_count_157 ?_
    have h1 := hs.2.1
    refine q_if_eqN (tgt := 167) (by omega) dX6_count_160 (by decide) (fun q => ?_) (fun q => ?_)
    · refine q_iconst (v := nI 0) dX6_count_167 (by decide) ?_
      exact q_iret rfl rfl dX6_count_168 ⟨by rw [show cnt σ s t 8 = nI (sG σ 1) from rfl, show sG σ 1 = 0 by omega], rfl⟩
    · refine q_iconst (v := nI 1) dX6_count_163 (by decide) ?_
      refine q_goto (tgt := 168) dX6_count_164 (by decide) ?_
      exact q_iret rfl rfl dX6_count_168 ⟨by rw [show cnt σ s t 8 = nI (sG σ 1) from rfl, show sG σ 1 = 1 by omega], rfl⟩
  · refine q_tabIn (off := 168) (tgt := 169) dX6_count_1 (by decide) (by decide) (by decide) (by decide) ?_
    refine q_aload_n dX6_count_169 rfl ?_
    refine q_getR fl_RX6_10 rfl (by assumption) dX6_count_170 ?_
    refine q_getI fl_RX6_188 rfl (by assumption) (h.g (j := 2) (by omega)) dX6_count_173 ?_
    exact q_iret rfl rfl dX6_count_176 ⟨rfl, rfl⟩
  · refine q_tabIn (off := 176) (tgt := 177) dX6_count_1 (by decide) (by decide) (by decide) (by decide) ?_
    refine q_aload_n dX6_count_177 rfl ?_
    refine q_getR fl_RX6_10 rfl (by assumption) dX6_count_178 ?_
    refine q_getI fl_RX6_185 rfl (by assumption) (h.g (j := 3) (by omega)) dX6_count_181 ?_
    exact q_iret rfl rfl dX6_count_184 ⟨rfl, rfl⟩
  · refine q_tabIn (off := 184) (tgt := 185) dX6_count_1 (by decide) (by decide) (by decide) (by decide) ?_
    refine q_aload_n dX6_count_185 rfl ?_
    refine q_getR fl_RX6_10 rfl (by assumption) dX6_count_186 ?_
    refine q_cV (as := []) lk_RX6_225 (c_paidFor k1 h) ⟨3, by decide, k1, rfl⟩ rfl (by decide) (Nat.le_of_ble_eq_true rfl) dX6_count_189 ?_
    rintro v J ⟨rfl, rfl⟩
    exact q_iret rfl rfl dX6_count_192 ⟨rfl, rfl⟩
  · refine q_tabIn (off := 192) (tgt := 193) dX6_count_1 (by decide) (by decide) (by decide) (by decide) ?_
    refine q_aload_n dX6_count_193 rfl ?_
    refine q_getR fl_RX6_10 rfl (by assumption) dX6_count_194 ?_
    refine q_getI fl_RX6_228 rfl (by assumption) (h.g (j := 4) (by omega)) dX6_count_197 ?_
    exact q_iret rfl rfl dX6_count_200 ⟨rfl, rfl⟩
  · refine q_tabIn (off := 200) (tgt := 201) dX6_count_1 (by decide) (by decide) (by decide) (by decide) ?_
    refine q_aload_n dX6_count_201 rfl ?_
    refine q_getR fl_RX6_10 rfl (by assumption) dX6_count_202 ?_
    refine q_getI fl_RX6_231 rfl (by assumption) (h.g (j := 5) (by omega)) dX6_count_205 ?_
    exact q_iret rfl rfl dX6_count_208 ⟨rfl, rfl⟩
  · refine q_tabIn (off := 208) (tgt := 209) dX6_count_1 (by decide) (by decide) (by decide) (by decide) ?_
    refine q_aload_n dX6_count_209 rfl ?_
    refine q_getR fl_RX6_10 rfl (by assumption) dX6_count_210 ?_
    refine q_getI fl_RX6_234 rfl (by assumption) (h.g (j := 6) (by omega)) dX6_count_213 ?_
    exact q_iret rfl rfl dX6_count_216 ⟨rfl, rfl⟩
  · refine q_tabIn (off := 216) (tgt := 217) dX6_count_1 (by decide) (by decide) (by decide) (by decide) ?_
    refine q_aload_n dX6_count_217 rfl ?_
    refine q_getR fl_RX6_10 rfl (by assumption) dX6_count_218 ?_
    refine q_getI fl_RX6_237 rfl (by assumption) (h.g (j := 7) (by omega)) dX6_count_221 ?_
    exact q_iret rfl rfl dX6_count_224 ⟨rfl, rfl⟩
  · refine q_tabIn (off := 224) (tgt := 225) dX6_count_1 (by decide) (by decide) (by decide) (by decide) ?_
    refine q_aload_n dX6_count_225 rfl ?_
    refine q_getR fl_RX6_22 rfl (by assumption) dX6_count_226 ?_
    refine q_getI fl_RX6_240 rfl (by assumption) hH dX6_count_229 ?_
    exact q_iret rfl rfl dX6_count_232 ⟨rfl, rfl⟩
  · refine q_tabIn (off := 232) (tgt := 233) dX6_count_1 (by decide) (by decide) (by decide) (by decide) ?_
    refine q_aload_n dX6_count_233 rfl ?_
    refine q_getR fl_RX6_29 rfl (by assumption) dX6_count_234 ?_
    refine q_getI fl_RX6_241 rfl (by assumption) hT dX6_count_237 ?_
    exact q_iret rfl rfl dX6_count_240 ⟨rfl, rfl⟩
/-- what a closing would do -/
def icl (σ τ : q_S) (j : Nat) : Int32 :=
  if j = 0 then nI (sbits (fun c => decide (sC τ c 6 = 2)) 8) else if j = 1 then nI (sbits (fun c => decide (sC τ c 6 = 3)) 8) else if j = 2 then nI (sbits (fun c => decide (sC τ c 6 = 4)) 8) else if j = 3 then nI (ssum (fun p => if sP τ p 4 = 0 then 0 else 1) 30) else if j = 4 then nI (sG τ 3) - nI (sG σ 3) else nI (sG τ 2) - nI (sG σ 2)
def qIfClose (σ : q_S) (w : Int32) : Int32 := if isC 6 w then (if sG σ 1 = 1 then -1000002 else icl σ (sclose σ) w.toNatClampNeg) else -1000001
theorem isC_le {n : Nat} {x : Int32} (hn : n < 2 ^ 30) : isC (n + 1) x ↔ (nI 0 ≤ x ∧ x ≤ nI n) := by
  constructor
  · rintro h
    obtain ⟨c, hc, rfl⟩ := (isC_iff (by omega)).mp h
    exact ⟨h.1, Int32.not_lt.mp (fun z => by have := (nI_ltI (by omega) (by omega)).mp z; omega)⟩
  · rintro ⟨h1, h2⟩
    obtain ⟨c, hc, rfl⟩ := nI_of (x := x) (Int32.not_lt.mpr h1)
    exact ⟨h1, (nI_ltI (by omega) (by omega)).mpr (by
      rcases Nat.lt_or_ge n c with z | z
      · exact absurd ((nI_ltI (by omega) (by omega)).mpr z) (Int32.not_lt.mpr h2)
      · omega)⟩
theorem c_ifClose {w : Int32} {I : q_Mem} {σ τ : q_S} (h : RC 1 I σ) (hs : sok σ) (ht : RC 51 I τ) : q_M kX6_ifClose [.ref 0, .int w] I (fun v J => v = some (.int (qIfClose σ w)) ∧ (∃ τ', RC 51 J τ') ∧ FC 51 I J) := by
  have k0 := k0
  have k1 := k1
  have k51 := k51
  have hw := hs.1
  refine q_M.of pnX6_ifClose (by simp [Value.category]) (Nat.le_of_ble_eq_true rfl) ?_
  refine q_iload_n dX6_ifClose_0 rfl ?_
  refine q_iconst (v := nI 0) dX6_ifClose_1 (by decide) ?_
  refine q_iconst (v := nI 5) dX6_ifClose_2 (by decide) ?_
  refine q_cS (as := [_, _, _]) lk_RX6_168 (c_isOutside (x := w) (l := nI 0) (u := nI 5)) rfl (by decide) (Nat.le_of_ble_eq_true rfl) dX6_ifClose_3 ?_
  rintro v J ⟨rfl, rfl⟩
  by_cases hwc : isC 6 w
  case neg =>
    rw [if_neg (fun z => hwc ((isC_le (by omega)).mpr z))]
    refine q_if_eq (tgt := 12) dX6_ifClose_6 (by decide) (fun q => ?_) (fun q => ?_)
    · exact absurd q (by decide)
    · refine q_ldc (v := -1000001) ct_RX6_69 dX6_ifClose_9 ?_
      exact q_iret rfl rfl dX6_ifClose_11 ⟨by rw [qIfClose, if_neg hwc], ⟨τ, ht⟩, FC.rf⟩
  rw [if_pos ((isC_le (by omega)).mp hwc)]
  refine q_if_eq (tgt := 12) dX6_ifClose_6 (by decide) (fun q => ?_) (fun q => ?_)
  rotate_left
  · exact absurd rfl q
  obtain ⟨j, hj, rfl⟩ := (isC_iff (by omega)).mp hwc
  have hv : qIfClose σ (nI j) = if sG σ 1 = 1 then -1000002 else icl σ (sclose σ) j := by rw [qIfClose, if_pos hwc, nI_clamp (by omega)]
  rw [hv]
  have h1 := hs.2.1
  refine q_aload_n dX6_ifClose_12 rfl ?_
  refine q_getR fl_RX6_10 rfl (by assumption) dX6_ifClose_13 ?_
  refine q_getI fl_RX6_172 rfl (by assumption) (h.g (j := 1) (by omega)) dX6_ifClose_16 ?_
  refine q_if_eqN (tgt := 25) (by omega) dX6_ifClose_19 (by decide) (fun q2 => ?_) (fun q2 => ?_)
  rotate_left
  · rw [if_pos (by omega)]
    refine q_ldc (v := -1000002) ct_RX6_175 dX6_ifClose_22 ?_
    exact q_iret rfl rfl dX6_ifClose_24 ⟨rfl, ⟨τ, ht⟩, FC.rf⟩
  rw [if_neg (by omega)]
  refine q_aload_n dX6_ifClose_25 rfl ?_
  refine q_getR fl_RX6_16 rfl (by assumption) dX6_ifClose_26 ?_
  refine q_aload_n dX6_ifClose_29 rfl ?_
  refine q_getR fl_RX6_10 rfl (by assumption) dX6_ifClose_30 ?_
  refine q_cV (as := [_]) lk_RX6_176 (c_copyS k51 k1 (by omega) ht h h1 (fun p _ => (hw.pr p).1) hw.len) ⟨3, by decide, k51, rfl⟩ rfl (by decide) (Nat.le_of_ble_eq_true rfl) dX6_ifClose_33 ?_
  rintro v J ⟨rfl, g1, g2⟩
  refine q_aload_n dX6_ifClose_36 rfl ?_
  refine q_getR fl_RX6_16 rfl (by assumption) dX6_ifClose_37 ?_
  refine q_cV (as := []) lk_RX6_58 (c_closeTerm k51 g1 hw (by omega)) ⟨3, by decide, k51, rfl⟩ rfl (by decide) (Nat.le_of_ble_eq_true rfl) dX6_ifClose_40 ?_
  rintro v K ⟨rfl, e1, e2⟩
  have hF := FC.tr g2 e2
  have hK1 : RC 1 K σ := h.fr (fun a a1 a2 => hF a (by omega))
  have hwc2 := hw.close
  refine q_pop dX6_ifClose_43 rfl ?_
  refine q_iload_n dX6_ifClose_44 rfl ?_
  have hjc : j = 0 ∨ j = 1 ∨ j = 2 ∨ j = 3 ∨ j = 4 ∨ j = 5 := by omega
  rcases hjc with rfl | rfl | rfl | rfl | rfl | rfl
  · refine q_tabIn (off := 35) (tgt := 80) dX6_ifClose_45 (by decide) (by decide) (by decide) (by decide) ?_
    refine q_aload_n dX6_ifClose_80 rfl ?_
    refine q_getR fl_RX6_16 rfl (by assumption) dX6_ifClose_81 ?_
    refine q_iconst (v := nI 1) dX6_ifClose_84 (by decide) ?_
    refine q_cV (as := [_]) lk_RX6_179 (c_thatAre (s := 1) k51 e1 hwc2 (by omega)) ⟨3, by decide, k51, rfl⟩ rfl (by decide) (Nat.le_of_ble_eq_true rfl) dX6_ifClose_85 ?_
    rintro v J' ⟨rfl, rfl⟩
    exact q_iret rfl rfl dX6_ifClose_88 ⟨rfl, ⟨_, e1⟩, hF⟩
  · refine q_tabIn (off := 44) (tgt := 89) dX6_ifClose_45 (by decide) (by decide) (by decide) (by decide) ?_
    refine q_aload_n dX6_ifClose_89 rfl ?_
    refine q_getR fl_RX6_16 rfl (by assumption) dX6_ifClose_90 ?_
    refine q_iconst (v := nI 2) dX6_ifClose_93 (by decide) ?_
    refine q_cV (as := [_]) lk_RX6_179 (c_thatAre (s := 2) k51 e1 hwc2 (by omega)) ⟨3, by decide, k51, rfl⟩ rfl (by decide) (Nat.le_of_ble_eq_true rfl) dX6_ifClose_94 ?_
    rintro v J' ⟨rfl, rfl⟩
    exact q_iret rfl rfl dX6_ifClose_97 ⟨rfl, ⟨_, e1⟩, hF⟩
  · refine q_tabIn (off := 53) (tgt := 98) dX6_ifClose_45 (by decide) (by decide) (by decide) (by decide) ?_
    refine q_aload_n dX6_ifClose_98 rfl ?_
    refine q_getR fl_RX6_16 rfl (by assumption) dX6_ifClose_99 ?_
    refine q_iconst (v := nI 3) dX6_ifClose_102 (by decide) ?_
    refine q_cV (as := [_]) lk_RX6_179 (c_thatAre (s := 3) k51 e1 hwc2 (by omega)) ⟨3, by decide, k51, rfl⟩ rfl (by decide) (Nat.le_of_ble_eq_true rfl) dX6_ifClose_103 ?_
    rintro v J' ⟨rfl, rfl⟩
    exact q_iret rfl rfl dX6_ifClose_106 ⟨rfl, ⟨_, e1⟩, hF⟩
  · refine q_tabIn (off := 62) (tgt := 107) dX6_ifClose_45 (by decide) (by decide) (by decide) (by decide) ?_
    refine q_aload_n dX6_ifClose_107 rfl ?_
    refine q_getR fl_RX6_16 rfl (by assumption) dX6_ifClose_108 ?_
    refine q_cV (as := []) lk_RX6_182 (c_peopleIn k51 e1 hwc2) ⟨3, by decide, k51, rfl⟩ rfl (by decide) (Nat.le_of_ble_eq_true rfl) dX6_ifClose_111 ?_
    rintro v J' ⟨rfl, rfl⟩
    exact q_iret rfl rfl dX6_ifClose_114 ⟨rfl, ⟨_, e1⟩, hF⟩
  · refine q_tabIn (off := 70) (tgt := 115) dX6_ifClose_45 (by decide) (by decide) (by decide) (by decide) ?_
    refine q_aload_n dX6_ifClose_115 rfl ?_
    refine q_getR fl_RX6_16 rfl (by assumption) dX6_ifClose_116 ?_
    refine q_getI fl_RX6_185 rfl (by assumption) (e1.g (j := 3) (by omega)) dX6_ifClose_119 ?_
    refine q_aload_n dX6_ifClose_122 rfl ?_
    refine q_getR fl_RX6_10 rfl (by assumption) dX6_ifClose_123 ?_
    refine q_getI fl_RX6_185 rfl (by assumption) (hK1.g (j := 3) (by omega)) dX6_ifClose_126 ?_
    refine q_isub dX6_ifClose_129 ?_
    exact q_iret rfl rfl dX6_ifClose_130 ⟨rfl, ⟨_, e1⟩, hF⟩
  · refine q_tabOut (tgt := 131) dX6_ifClose_45 (by rw [nI_toInt (by omega)]; omega) (by decide) ?_
    refine q_aload_n dX6_ifClose_131 rfl ?_
    refine q_getR fl_RX6_16 rfl (by assumption) dX6_ifClose_132 ?_
    refine q_getI fl_RX6_188 rfl (by assumption) (e1.g (j := 2) (by omega)) dX6_ifClose_135 ?_
    refine q_aload_n dX6_ifClose_138 rfl ?_
    refine q_getR fl_RX6_10 rfl (by assumption) dX6_ifClose_139 ?_
    refine q_getI fl_RX6_188 rfl (by assumption) (hK1.g (j := 2) (by omega)) dX6_ifClose_142 ?_
    refine q_isub dX6_ifClose_145 ?_
    exact q_iret rfl rfl dX6_ifClose_146 ⟨rfl, ⟨_, e1⟩, hF⟩
