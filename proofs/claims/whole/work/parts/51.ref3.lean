/-! the reference: the class for a merging; out and in -/
theorem sft_pad {σ : q_S} (h : WFc σ) (c : Nat) : sft σ c (sN σ 0) = sft σ c 8 := by
  have : ∀ d, sft σ c (sN σ 0 + d) = sft σ c (sN σ 0) := by
    intro d
    induction d with
    | zero => rfl
    | succ d ih =>
      have := (h.2.2.1 (sN σ 0 + d) (by omega)).1
      rw [show sN σ 0 + (d + 1) = sN σ 0 + d + 1 by omega, sft, if_neg (fun z => by have := z.2.1.1; omega), ih]
  have h8 := h.B.1
  rw [← this (8 - sN σ 0), show sN σ 0 + (8 - sN σ 0) = 8 by omega]
theorem sft_0 {σ : q_S} {c : Nat} (h : sLen σ c = 0) : ∀ k, sft σ c k = 0 := by
  intro k
  induction k with
  | zero => rfl
  | succ k ih => rw [sft, if_neg (fun z => by have := z.1; omega), ih]
theorem slv_le {σ : q_S} (h : WFc σ) {c d : Nat} (hc : c < 8) (hd : d < 8) : slv σ c d < 4 := by
  have := (h.cr hc).2.1
  have := (h.cr hd).2.1
  unfold slv
  split <;> omega
theorem r_fitting {c : Nat} {I : q_Mem} {σ : q_S} (h : RS I σ) (hw : WFc σ) (hc : c < sN σ 0) : q_M kX7_fitting [.ref 356, .int (nI c)] I (fun v J => v = some (.int (enc (sft σ c 8))) ∧ I = J) := by
  have h8 := hw.B.1
  have hlc := hw.len c
  have key : ∀ (d k : Nat) (o4 o5 o6 : Option Value), k + d = sN σ 0 → q_X kX7_fitting 4 [some (.ref 356), some (.int (nI c)), some (.int (enc (sft σ c k))), some (.int (nI k)), o4, o5, o6] [] I (fun v J => v = some (.int (enc (sft σ c 8))) ∧ I = J) := by
    intro d
    induction d with
    | zero =>
      intro k o4 o5 o6 hd
      obtain rfl : k = sN σ 0 := by omega
      refine q_iload_n dX7_fitting_4 rfl ?_
      refine q_aload_n dX7_fitting_5 rfl ?_
      refine q_getR2 (b := 357) fl_RX7_7 rfl k356 rfl dX7_fitting_6 ?_
      refine q_iconst (v := nI 0) dX7_fitting_9 (by decide) ?_
      refine q_iald k357 rfl (lt357 (by omega)) (by decide) h.n0 dX7_fitting_10 ?_
      refine q_icmp_geN (tgt := 174) (by omega) (by omega) dX7_fitting_11 (by decide) (fun q => ?_) (fun q => ?_)
      · refine q_iload_n dX7_fitting_174 rfl ?_
        exact q_iret rfl rfl dX7_fitting_175 ⟨by rw [sft_pad hw], rfl⟩
      · omega
    | succ d ih =>
      intro k o4 o5 o6 hd
      have hk : k < sN σ 0 := by omega
      have hle := sft_le σ c k
      have hl := hw.len k
      obtain ⟨x0, x1, x2, x3, x4, x5, x6, x7, x8, x9, x10⟩ := hw.cr (show k < 8 by omega)
      obtain ⟨y0, y1, y2, y3, y4, y5, y6, y7, y8, y9, y10⟩ := hw.cr (show c < 8 by omega)
      refine q_iload_n dX7_fitting_4 rfl ?_
      refine q_aload_n dX7_fitting_5 rfl ?_
      refine q_getR2 (b := 357) fl_RX7_7 rfl k356 rfl dX7_fitting_6 ?_
      refine q_iconst (v := nI 0) dX7_fitting_9 (by decide) ?_
      refine q_iald k357 rfl (lt357 (by omega)) (by decide) h.n0 dX7_fitting_10 ?_
      refine q_icmp_geN (tgt := 174) (by omega) (by omega) dX7_fitting_11 (by decide) (fun q => ?_) (fun q => ?_)
      · omega
      refine q_aload_n dX7_fitting_14 rfl ?_
      refine q_iload_n dX7_fitting_15 rfl ?_
      refine q_cV (as := [_]) lk_RX7_47 (r_people h hw.B hc) (Or.inl ⟨6, by decide, k356, rfl⟩) rfl (by decide) (Nat.le_of_ble_eq_true rfl) dX7_fitting_16 ?_
      rintro v J ⟨rfl, rfl⟩
      refine q_if_leN (tgt := 174) (by omega) dX7_fitting_19 (by decide) (fun q2 => ?_) (fun q2 => ?_)
      · refine q_iload_n dX7_fitting_174 rfl ?_
        exact q_iret rfl rfl dX7_fitting_175 ⟨by rw [sft_0 (by omega), sft_0 (by omega)], rfl⟩
      have fin : ∀ (x : Int32) (o4 o5 o6 : Option Value), x = enc (sft σ c (k + 1)) → q_X kX7_fitting 167 [some (.ref 356), some (.int (nI c)), some (.int (enc (sft σ c k))), some (.int (nI k)), o4, o5, o6] [.int x] I (fun v J => v = some (.int (enc (sft σ c 8))) ∧ I = J) := by
        intro x o4 o5 o6 hx
        subst hx
        refine q_istore_n (ls' := [_, _, _, _, _, _, _]) dX7_fitting_167 (Nat.le_of_ble_eq_true rfl) rfl ?_
        refine q_iinc (ls' := [_, _, _, _, _, _, _]) dX7_fitting_168 rfl (nI_add _ 1) rfl ?_
        refine q_goto (tgt := 4) dX7_fitting_171 (by decide) ?_
        exact ih (k + 1) _ _ _ (by omega)
      have hneg := enc_neg (v := sft σ c k) (by omega)
      have mid : ∀ (b : Nat) (o5 o6 : Option Value), (b = 1 ∧ (sC σ k 6 = 1 ∧ ¬ k = c ∧ sC σ k 0 = sC σ c 0 ∧ slv σ k c ≤ 1 ∧ sLen σ k + sLen σ c ≤ sC σ k 4)) ∨ (b = 0 ∧ ¬ (sC σ k 6 = 1 ∧ ¬ k = c ∧ sC σ k 0 = sC σ c 0 ∧ slv σ k c ≤ 1 ∧ sLen σ k + sLen σ c ≤ sC σ k 4)) → q_X kX7_fitting 99 [some (.ref 356), some (.int (nI c)), some (.int (enc (sft σ c k))), some (.int (nI k)), some (.int (nI b)), o5, o6] [] I (fun v J => v = some (.int (enc (sft σ c 8))) ∧ I = J) := by
        intro b o5 o6 hb
        have good : (sft σ c k = 0 ∨ slv σ k c < slv σ (sft σ c k - 1) c ∨ (slv σ k c = slv σ (sft σ c k - 1) c ∧ sLen σ (sft σ c k - 1) < sLen σ k)) → ∀ o5 o6, q_X kX7_fitting 145 [some (.ref 356), some (.int (nI c)), some (.int (enc (sft σ c k))), some (.int (nI k)), some (.int (nI b)), o5, o6] [] I (fun v J => v = some (.int (enc (sft σ c 8))) ∧ I = J) := by
          intro hg o5 o6
          refine q_iconst (v := nI 1) dX7_fitting_145 (by decide) ?_
          refine q_goto (tgt := 150) dX7_fitting_146 (by decide) ?_
          refine q_istore (ls' := [_, _, _, _, _, _, _]) dX7_fitting_150 (Nat.le_of_ble_eq_true rfl) rfl ?_
          refine q_iload dX7_fitting_152 rfl ?_
          rcases hb with ⟨rfl, hP⟩ | ⟨rfl, hP⟩
          · refine q_if_eq (tgt := 166) dX7_fitting_154 (by decide) (fun q3 => ?_) (fun q3 => ?_)
            · exact absurd q3 (by decide)
            refine q_iload dX7_fitting_157 rfl ?_
            refine q_if_eq (tgt := 166) dX7_fitting_159 (by decide) (fun q4 => ?_) (fun q4 => ?_)
            · exact absurd q4 (by decide)
            refine q_iload_n dX7_fitting_162 rfl ?_
            refine q_goto (tgt := 167) dX7_fitting_163 (by decide) ?_
            exact fin _ _ _ _ (by rw [sft, if_pos ⟨q2, hP, hg⟩]; rfl)
          · refine q_if_eq (tgt := 166) dX7_fitting_154 (by decide) (fun q3 => ?_) (fun q3 => ?_)
            · refine q_iload_n dX7_fitting_166 rfl ?_
              exact fin _ _ _ _ (by rw [sft, if_neg (fun z => hP z.2.1)])
            · exact absurd rfl q3
        have bad : ¬ (sft σ c k = 0 ∨ slv σ k c < slv σ (sft σ c k - 1) c ∨ (slv σ k c = slv σ (sft σ c k - 1) c ∧ sLen σ (sft σ c k - 1) < sLen σ k)) → ∀ o5 o6, q_X kX7_fitting 149 [some (.ref 356), some (.int (nI c)), some (.int (enc (sft σ c k))), some (.int (nI k)), some (.int (nI b)), o5, o6] [] I (fun v J => v = some (.int (enc (sft σ c 8))) ∧ I = J) := by
          intro hg o5 o6
          refine q_iconst (v := nI 0) dX7_fitting_149 (by decide) ?_
          refine q_istore (ls' := [_, _, _, _, _, _, _]) dX7_fitting_150 (Nat.le_of_ble_eq_true rfl) rfl ?_
          refine q_iload dX7_fitting_152 rfl ?_
          rcases hb with ⟨rfl, hP⟩ | ⟨rfl, hP⟩
          · refine q_if_eq (tgt := 166) dX7_fitting_154 (by decide) (fun q3 => ?_) (fun q3 => ?_)
            · exact absurd q3 (by decide)
            refine q_iload dX7_fitting_157 rfl ?_
            refine q_if_eq (tgt := 166) dX7_fitting_159 (by decide) (fun q4 => ?_) (fun q4 => ?_)
            · refine q_iload_n dX7_fitting_166 rfl ?_
              exact fin _ _ _ _ (by rw [sft, if_neg (fun z => hg z.2.2)])
            · exact absurd rfl q4
          · refine q_if_eq (tgt := 166) dX7_fitting_154 (by decide) (fun q3 => ?_) (fun q3 => ?_)
            · refine q_iload_n dX7_fitting_166 rfl ?_
              exact fin _ _ _ _ (by rw [sft, if_neg (fun z => hP z.2.1)])
            · exact absurd rfl q3
        refine q_iload_n dX7_fitting_99 rfl ?_
        by_cases f : sft σ c k = 0
        · refine q_if_ge (tgt := 107) dX7_fitting_100 (by decide) (fun q3 => ?_) (fun q3 => ?_)
          · exact absurd (hneg.mpr f) (Int32.not_lt.mpr q3)
          refine q_iconst (v := nI 1) dX7_fitting_103 (by decide) ?_
          refine q_goto (tgt := 120) dX7_fitting_104 (by decide) ?_
          refine q_istore (ls' := [_, _, _, _, _, _, _]) dX7_fitting_120 (Nat.le_of_ble_eq_true rfl) rfl ?_
          refine q_iload dX7_fitting_122 rfl ?_
          refine q_if_gt (tgt := 145) dX7_fitting_124 (by decide) (fun q4 => ?_) (fun q4 => ?_)
          · exact good (Or.inl f) _ _
          · exact absurd (by decide) q4
        · refine q_if_ge (tgt := 107) dX7_fitting_100 (by decide) (fun q3 => ?_) (fun q3 => ?_)
          rotate_left
          · exact absurd (by rw [enc_pos f]; exact nI_pos' (by omega)) q3
          have hf8 : sft σ c k - 1 < sN σ 0 := by omega
          have hl2 := hw.len (sft σ c k - 1)
          have b1 := slv_le hw (c := sft σ c k - 1) (d := c) (by omega) (by omega)
          have b2 := slv_le hw (c := k) (d := c) (by omega) (by omega)
          have ee := enc_pos f
          generalize hE : enc (sft σ c k) = E at fin good bad ee ⊢
          subst ee
          refine q_aload_n dX7_fitting_107 rfl ?_
          refine q_iload_n dX7_fitting_108 rfl ?_
          refine q_iload_n dX7_fitting_109 rfl ?_
          refine q_cV (as := [_, _]) lk_RX7_74 (r_levels h hw hf8 hc) (Or.inl ⟨6, by decide, k356, rfl⟩) rfl (by decide) (Nat.le_of_ble_eq_true rfl) dX7_fitting_110 ?_
          rintro v J ⟨rfl, rfl⟩
          refine q_aload_n dX7_fitting_113 rfl ?_
          refine q_iload_n dX7_fitting_114 rfl ?_
          refine q_iload_n dX7_fitting_115 rfl ?_
          refine q_cV (as := [_, _]) lk_RX7_74 (r_levels h hw hk hc) (Or.inl ⟨6, by decide, k356, rfl⟩) rfl (by decide) (Nat.le_of_ble_eq_true rfl) dX7_fitting_116 ?_
          rintro v J ⟨rfl, rfl⟩
          refine q_isub dX7_fitting_119 ?_
          refine q_istore (ls' := [_, _, _, _, _, _, _]) dX7_fitting_120 (Nat.le_of_ble_eq_true rfl) rfl ?_
          refine q_iload dX7_fitting_122 rfl ?_
          have hz : ∀ a, a < 4 → ∀ b, b < 4 → ((0 < nI a - nI b) ↔ b < a) ∧ ((nI a - nI b = 0) ↔ a = b) := by decide
          obtain ⟨z1, z2⟩ := hz _ b1 _ b2
          refine q_if_gt (tgt := 145) dX7_fitting_124 (by decide) (fun q4 => ?_) (fun q4 => ?_)
          · exact good (Or.inr (Or.inl (z1.mp q4))) _ _
          refine q_iload dX7_fitting_127 rfl ?_
          refine q_if_ne (tgt := 149) dX7_fitting_129 (by decide) (fun q5 => ?_) (fun q5 => ?_)
          · exact bad (fun z => by
              have n1 : ¬ slv σ k c < slv σ (sft σ c k - 1) c := fun y => q4 (z1.mpr y)
              have n2 : ¬ slv σ (sft σ c k - 1) c = slv σ k c := fun y => q5 (z2.mpr y)
              rcases z with z | z | z <;> omega) _ _
          have e5 := z2.mp q5
          refine q_aload_n dX7_fitting_132 rfl ?_
          refine q_iload_n dX7_fitting_133 rfl ?_
          refine q_cV (as := [_]) lk_RX7_47 (r_people h hw.B hk) (Or.inl ⟨6, by decide, k356, rfl⟩) rfl (by decide) (Nat.le_of_ble_eq_true rfl) dX7_fitting_134 ?_
          rintro v J ⟨rfl, rfl⟩
          refine q_aload_n dX7_fitting_137 rfl ?_
          refine q_iload_n dX7_fitting_138 rfl ?_
          refine q_cV (as := [_]) lk_RX7_47 (r_people h hw.B hf8) (Or.inl ⟨6, by decide, k356, rfl⟩) rfl (by decide) (Nat.le_of_ble_eq_true rfl) dX7_fitting_139 ?_
          rintro v J ⟨rfl, rfl⟩
          refine q_icmp_leN (tgt := 149) (by omega) (by omega) dX7_fitting_142 (by decide) (fun q6 => ?_) (fun q6 => ?_)
          · exact bad (fun z => by rcases z with z | z | z <;> omega) _ _
          · exact good (Or.inr (Or.inr ⟨e5.symm, q6⟩)) _ _
      have no : ¬ (sC σ k 6 = 1 ∧ ¬ k = c ∧ sC σ k 0 = sC σ c 0 ∧ slv σ k c ≤ 1 ∧ sLen σ k + sLen σ c ≤ sC σ k 4) → ∀ o4 o5 o6, q_X kX7_fitting 96 [some (.ref 356), some (.int (nI c)), some (.int (enc (sft σ c k))), some (.int (nI k)), o4, o5, o6] [] I (fun v J => v = some (.int (enc (sft σ c 8))) ∧ I = J) := by
        intro hn o4 o5 o6
        refine q_iconst (v := nI 0) dX7_fitting_96 (by decide) ?_
        refine q_istore (ls' := [_, _, _, _, _, _, _]) dX7_fitting_97 (Nat.le_of_ble_eq_true rfl) rfl ?_
        exact mid 0 _ _ (Or.inr ⟨rfl, hn⟩)
      refine q_iload_n dX7_fitting_22 rfl ?_
      refine q_iload_n dX7_fitting_23 rfl ?_
      refine q_icmp_eqN (tgt := 96) (by omega) (by omega) dX7_fitting_24 (by decide) (fun q3 => ?_) (fun q3 => ?_)
      · exact no (fun z => z.2.1 q3) _ _ _
      refine q_aload_n dX7_fitting_27 rfl ?_
      refine q_iload_n dX7_fitting_28 rfl ?_
      refine q_cV (as := [_]) lk_RX7_43 (r_isOpen h hw hk) (Or.inl ⟨6, by decide, k356, rfl⟩) rfl (by decide) (Nat.le_of_ble_eq_true rfl) dX7_fitting_29 ?_
      rintro v J ⟨rfl, rfl⟩
      by_cases e : sC σ k 6 = 1
      case neg =>
        rw [if_neg e]
        refine q_if_eq (tgt := 96) dX7_fitting_32 (by decide) (fun q4 => ?_) (fun q4 => ?_)
        · exact no (fun z => e z.1) _ _ _
        · exact absurd rfl q4
      rw [if_pos e]
      refine q_if_eq (tgt := 96) dX7_fitting_32 (by decide) (fun q4 => ?_) (fun q4 => ?_)
      · exact absurd q4 (by decide)
      refine q_aload_n dX7_fitting_35 rfl ?_
      refine q_getR2 (b := 357) fl_RX7_7 rfl k356 rfl dX7_fitting_36 ?_
      refine q_iload_n dX7_fitting_39 rfl ?_
      refine q_iconst (v := nI 0) dX7_fitting_40 (by decide) ?_
      refine q_cS (as := [_, _]) lk_RX7_40 r_at rfl (by decide) (Nat.le_of_ble_eq_true rfl) dX7_fitting_41 ?_
      rintro v J ⟨rfl, rfl⟩
      refine q_iald k357 rfl (lt357 (by omega)) (by decide) (h.c hk (j := 0) (by omega)) dX7_fitting_44 ?_
      refine q_aload_n dX7_fitting_45 rfl ?_
      refine q_getR2 (b := 357) fl_RX7_7 rfl k356 rfl dX7_fitting_46 ?_
      refine q_iload_n dX7_fitting_49 rfl ?_
      refine q_iconst (v := nI 0) dX7_fitting_50 (by decide) ?_
      refine q_cS (as := [_, _]) lk_RX7_40 r_at rfl (by decide) (Nat.le_of_ble_eq_true rfl) dX7_fitting_51 ?_
      rintro v J ⟨rfl, rfl⟩
      refine q_iald k357 rfl (lt357 (by omega)) (by decide) (h.c hc (j := 0) (by omega)) dX7_fitting_54 ?_
      rw [show cenc 0 (sC σ k 0) = nI (sC σ k 0) from rfl, show cenc 0 (sC σ c 0) = nI (sC σ c 0) from rfl]
      refine q_icmp_neN (tgt := 96) (by omega) (by omega) dX7_fitting_55 (by decide) (fun q5 => ?_) (fun q5 => ?_)
      · exact no (fun z => q5 z.2.2.1) _ _ _
      refine q_aload_n dX7_fitting_58 rfl ?_
      refine q_iload_n dX7_fitting_59 rfl ?_
      refine q_iload_n dX7_fitting_60 rfl ?_
      refine q_cV (as := [_, _]) lk_RX7_74 (r_levels h hw hk hc) (Or.inl ⟨6, by decide, k356, rfl⟩) rfl (by decide) (Nat.le_of_ble_eq_true rfl) dX7_fitting_61 ?_
      rintro v J ⟨rfl, rfl⟩
      have b2 := slv_le hw (c := k) (d := c) (by omega) (by omega)
      refine q_iconst (v := nI 2) dX7_fitting_64 (by decide) ?_
      refine q_icmp_geN (tgt := 96) (by omega) (by omega) dX7_fitting_65 (by decide) (fun q6 => ?_) (fun q6 => ?_)
      · exact no (fun z => by have := z.2.2.2.1; omega) _ _ _
      refine q_aload_n dX7_fitting_68 rfl ?_
      refine q_iload_n dX7_fitting_69 rfl ?_
      refine q_cV (as := [_]) lk_RX7_47 (r_people h hw.B hk) (Or.inl ⟨6, by decide, k356, rfl⟩) rfl (by decide) (Nat.le_of_ble_eq_true rfl) dX7_fitting_70 ?_
      rintro v J ⟨rfl, rfl⟩
      refine q_aload_n dX7_fitting_73 rfl ?_
      refine q_iload_n dX7_fitting_74 rfl ?_
      refine q_cV (as := [_]) lk_RX7_47 (r_people h hw.B hc) (Or.inl ⟨6, by decide, k356, rfl⟩) rfl (by decide) (Nat.le_of_ble_eq_true rfl) dX7_fitting_75 ?_
      rintro v J ⟨rfl, rfl⟩
      refine q_iadd dX7_fitting_78 ?_
      rw [nI_add]
      refine q_aload_n dX7_fitting_79 rfl ?_
      refine q_getR2 (b := 357) fl_RX7_7 rfl k356 rfl dX7_fitting_80 ?_
      refine q_iload_n dX7_fitting_83 rfl ?_
      refine q_iconst (v := nI 4) dX7_fitting_84 (by decide) ?_
      refine q_cS (as := [_, _]) lk_RX7_40 r_at rfl (by decide) (Nat.le_of_ble_eq_true rfl) dX7_fitting_85 ?_
      rintro v J ⟨rfl, rfl⟩
      refine q_iald k357 rfl (lt357 (by omega)) (by decide) (h.c hk (j := 4) (by omega)) dX7_fitting_88 ?_
      rw [show cenc 4 (sC σ k 4) = nI (sC σ k 4) from rfl]
      refine q_icmp_gtN (tgt := 96) (by omega) (by omega) dX7_fitting_89 (by decide) (fun q7 => ?_) (fun q7 => ?_)
      · exact no (fun z => by have := z.2.2.2.2; omega) _ _ _
      refine q_iconst (v := nI 1) dX7_fitting_92 (by decide) ?_
      refine q_goto (tgt := 97) dX7_fitting_93 (by decide) ?_
      refine q_istore (ls' := [_, _, _, _, _, _, _]) dX7_fitting_97 (Nat.le_of_ble_eq_true rfl) rfl ?_
      exact mid 1 _ _ (Or.inl ⟨rfl, e, q3, q5, by omega, q7⟩)
  refine q_M.of pnX7_fitting (by simp [Value.category]) (Nat.le_of_ble_eq_true rfl) ?_
  refine q_iconst (v := -1) dX7_fitting_0 (by decide) ?_
  refine q_istore_n (ls' := [_, _, _, _, _, _, _]) dX7_fitting_1 (Nat.le_of_ble_eq_true rfl) rfl ?_
  refine q_iconst (v := nI 0) dX7_fitting_2 (by decide) ?_
  refine q_istore_n (ls' := [_, _, _, _, _, _, _]) dX7_fitting_3 (Nat.le_of_ble_eq_true rfl) rfl ?_
  exact key (sN σ 0) 0 _ _ _ (by omega)
