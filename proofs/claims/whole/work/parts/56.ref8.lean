/-! the reference merges -/
theorem smgs_B {σ : q_S} (hB : sB σ) {d : Nat} {l : List Nat} (h : sLen σ d + l.length ≤ 20) : sB (smgs d l σ) := by
  obtain ⟨k1, k2, k3, k4, k5, -⟩ := smgs_keep d l σ
  refine ⟨by rw [k1]; exact hB.1, by rw [k1]; exact hB.2.1, by rw [k1]; exact hB.2.2.1, fun i => ?_⟩
  by_cases e : i = d
  · subst e
    rw [k5, List.length_append]
    exact h
  · rw [k4 i e]; exact hB.2.2.2 i
theorem sub_le0 : ∀ {a b : Nat}, a < 2 ^ 30 → b < 2 ^ 30 → (a ≤ b → nI a - nI b ≤ 0) ∧ (b < a → ¬ nI a - nI b ≤ 0 ∧ nI a - nI b = nI (a - b)) := by
  intro a b ha hb
  refine ⟨fun h => ?_, fun h => ?_⟩
  · by_cases e : a = b
    · subst e
      rw [pk_sub (Nat.le_refl _), Nat.sub_self]; decide
    · exact Int32.le_of_lt (pk_sneg (by omega) (by omega))
  · rw [pk_sub (by omega)]
    exact ⟨Int32.not_le.mpr ((nI_ltI (a := 0) (by omega) (by omega)).mpr (by omega)), rfl⟩
theorem r_merges {c d : Nat} {I : q_Mem} {σ : q_S} (h : RS I σ) (hw : WFc σ) (hc : c < sN σ 0) (hd : d < sN σ 0) (hne : ¬ d = c) (hl : sLen σ d + sLen σ c ≤ sC σ d 4) : q_M kX7_merges [.ref 356, .int (nI c), .int (nI d)] I (fun v J => v = none ∧ RS J (smerge σ c d) ∧ FM 357 I J) := by
  have h8 := hw.B.1
  have h30 := hw.B.2.2.1
  have hcr := hw.cr (show d < 8 by omega)
  have hd4 := hcr.2.2.2.2.1
  have hd5 := hcr.2.2.2.2.2.1
  have hll : (sL σ c).length = sLen σ c := rfl
  have hlc := hw.len c
  have keep : ∀ k, _ := fun k => smgs_keep d ((sL σ c).take k) σ
  have hBk : ∀ k, sB (smgs d ((sL σ c).take k) σ) := fun k => smgs_B hw.B (by rw [List.length_take]; omega)
  have fin : ∀ (J : q_Mem) (o3 o4 o5 o6 : Option Value), RS J (smgs d (sL σ c) σ) → FM 357 I J → q_X kX7_merges 115 [some (.ref 356), some (.int (nI c)), some (.int (nI d)), o3, o4, o5, o6] [] J (fun v J => v = none ∧ RS J (smerge σ c d) ∧ FM 357 I J) := by
    intro J o3 o4 o5 o6 h hF
    obtain ⟨k1, k2, k3, k4, k5, -⟩ := smgs_keep d (sL σ c) σ
    have hB : sB (smgs d (sL σ c) σ) := smgs_B hw.B (by omega)
    rw [smerge]
    generalize smgs d (sL σ c) σ = τ at h k1 k2 k3 k4 k5 hB ⊢
    have hcN : c < sN τ 0 := by rw [k1]; exact hc
    refine q_aload_n dX7_merges_115 rfl ?_
    refine q_getR2 (b := 357) fl_RX7_7 rfl k356 rfl dX7_merges_116 ?_
    refine q_iload_n dX7_merges_119 rfl ?_
    refine q_bipush (v := nI 10) dX7_merges_120 (by decide) ?_
    refine q_cS (as := [_, _]) lk_RX7_40 r_at rfl (by decide) (Nat.le_of_ble_eq_true rfl) dX7_merges_122 ?_
    rintro v J' ⟨rfl, rfl⟩
    refine q_iconst (v := nI 0) dX7_merges_125 (by decide) ?_
    refine q_iast k357 rfl (lt357 (by omega)) (by decide) dX7_merges_126 ?_
    have h1 : RS (q_up J 357 (1 + 41 * c + 10) (nI 0)) (uL τ c []) := h.L hB hcN q_up_s (fun r v hr => by cases hr) (fun i hi => q_up_n (by omega))
    have hB1 : sB (uL τ c []) := ⟨hB.1, hB.2.1, hB.2.2.1, fun i => by
      show (f1 (sL τ) c [] i).length ≤ 20
      rw [f1_or]
      split
      · exact Nat.zero_le _
      · exact hB.2.2.2 i⟩
    have hF1 : FM 357 I (q_up J 357 (1 + 41 * c + 10) (nI 0)) := hF.up
    generalize q_up J 357 (1 + 41 * c + 10) (nI 0) = K1 at h1 hF1 ⊢
    refine q_aload_n dX7_merges_127 rfl ?_
    refine q_getR2 (b := 357) fl_RX7_7 rfl k356 rfl dX7_merges_128 ?_
    refine q_iload_n dX7_merges_131 rfl ?_
    refine q_bipush (v := nI 6) dX7_merges_132 (by decide) ?_
    refine q_cS (as := [_, _]) lk_RX7_40 r_at rfl (by decide) (Nat.le_of_ble_eq_true rfl) dX7_merges_134 ?_
    rintro v J' ⟨rfl, rfl⟩
    refine q_iconst (v := nI 3) dX7_merges_137 (by decide) ?_
    refine q_iast k357 rfl (lt357 (by omega)) (by decide) dX7_merges_138 ?_
    have h2 := h1.C (c := c) (j := 6) (v := 4) (x := nI 3) hB1 hcN (by omega) rfl
    have hF2 : FM 357 I (q_up K1 357 (1 + 41 * c + 6) (nI 3)) := hF1.up
    generalize q_up K1 357 (1 + 41 * c + 6) (nI 3) = K2 at h2 hF2 ⊢
    refine q_aload_n dX7_merges_139 rfl ?_
    refine q_getR2 (b := 357) fl_RX7_7 rfl k356 rfl dX7_merges_140 ?_
    refine q_iload_n dX7_merges_143 rfl ?_
    refine q_bipush (v := nI 8) dX7_merges_144 (by decide) ?_
    refine q_cS (as := [_, _]) lk_RX7_40 r_at rfl (by decide) (Nat.le_of_ble_eq_true rfl) dX7_merges_146 ?_
    rintro v J' ⟨rfl, rfl⟩
    refine q_iload_n dX7_merges_149 rfl ?_
    refine q_iast k357 rfl (lt357 (by omega)) (by decide) dX7_merges_150 ?_
    have h3 := h2.C (c := c) (j := 8) (v := d + 1) (x := nI d) hB1 hcN (by omega) rfl
    have hF3 : FM 357 I (q_up K2 357 (1 + 41 * c + 8) (nI d)) := hF2.up
    generalize q_up K2 357 (1 + 41 * c + 8) (nI d) = K3 at h3 hF3 ⊢
    refine q_aload_n dX7_merges_151 rfl ?_
    refine q_getR2 (b := 357) fl_RX7_7 rfl k356 rfl dX7_merges_152 ?_
    refine q_iload_n dX7_merges_155 rfl ?_
    refine q_bipush (v := nI 9) dX7_merges_156 (by decide) ?_
    refine q_cS (as := [_, _]) lk_RX7_40 r_at rfl (by decide) (Nat.le_of_ble_eq_true rfl) dX7_merges_158 ?_
    rintro v J' ⟨rfl, rfl⟩
    refine q_iconst (v := nI 1) dX7_merges_161 (by decide) ?_
    refine q_iast k357 rfl (lt357 (by omega)) (by decide) dX7_merges_162 ?_
    have h4 := h3.C (c := c) (j := 9) (v := 1) (x := nI 1) hB1 hcN (by omega) rfl
    have hF4 : FM 357 I (q_up K3 357 (1 + 41 * c + 9) (nI 1)) := hF3.up
    generalize q_up K3 357 (1 + 41 * c + 9) (nI 1) = K4 at h4 hF4 ⊢
    have v6 : K4 357 552 = nI (sG τ 6) := h4.g (j := 6) (by omega)
    refine q_aload_n dX7_merges_163 rfl ?_
    refine q_getR2 (b := 357) fl_RX7_7 rfl k356 rfl dX7_merges_164 ?_
    refine q_sipush (v := nI 552) dX7_merges_167 (by decide) ?_
    refine q_dup2 dX7_merges_170 rfl rfl ?_
    refine q_iald k357 rfl (lt357 (by omega)) (by decide) v6 dX7_merges_171 ?_
    refine q_iconst (v := nI 1) dX7_merges_172 (by decide) ?_
    refine q_iadd dX7_merges_173 ?_
    rw [nI_add]
    refine q_iast k357 rfl (lt357 (by omega)) (by decide) dX7_merges_174 ?_
    have h5 : RS (q_up K4 357 552 (nI (sG τ 6 + 1))) _ := h4.G (j := 6) (v := sG τ 6 + 1) hB1 (by omega) rfl
    refine q_vret rfl dX7_merges_175 ⟨rfl, ?_, hF4.up⟩
    rw [smerge0, f2_comm (c := c) (i := 9) (d := c) (j := 8) (by omega)]
    exact h5
  have key : ∀ (n k : Nat) (J : q_Mem) (o5 o6 : Option Value), k + n = sLen σ c → RS J (smgs d ((sL σ c).take k) σ) → FM 357 I J → q_X kX7_merges 9 [some (.ref 356), some (.int (nI c)), some (.int (nI d)), some (.int (nI (sLen σ c))), some (.int (nI k)), o5, o6] [] J (fun v J => v = none ∧ RS J (smerge σ c d) ∧ FM 357 I J) := by
    intro n
    induction n with
    | zero =>
      intro k J o5 o6 hn h hF
      obtain rfl : k = sLen σ c := by omega
      refine q_iload dX7_merges_9 rfl ?_
      refine q_iload_n dX7_merges_11 rfl ?_
      refine q_icmp_geN (tgt := 115) (by omega) (by omega) dX7_merges_12 (by decide) (fun q => ?_) (fun q => ?_)
      · refine fin J _ _ _ _ ?_ hF
        rw [← hll, List.take_length] at h
        exact h
      · omega
    | succ n ih =>
      intro k J o5 o6 hn h hF
      have hk : k < (sL σ c).length := by omega
      obtain ⟨k1, k2, k3, k4, k5, k6⟩ := keep k
      have hB := hBk k
      obtain ⟨p, hp⟩ : ∃ p, (sL σ c)[k]? = some p := ⟨_, List.getElem?_eq_getElem hk⟩
      have hm := List.mem_of_getElem? hp
      have hp2 : p < sN σ 2 := hw.mlt hm
      have htk : (sL σ c).take (k + 1) = (sL σ c).take k ++ [p] := by rw [List.take_add_one, hp]; rfl
      have hnot : p ∉ (sL σ c).take k := by
        have hnd := hw.nd c
        rw [← List.take_append_drop (k + 1) (sL σ c), htk, List.append_assoc] at hnd
        have := (List.nodup_append.mp hnd).2.2
        exact fun z => this p z p (by simp) rfl
      have e5 : sP (smgs d ((sL σ c).take k) σ) p 5 = sP σ p 5 := congrFun (k6 p hnot) 5
      have hp5 := (hw.pr p).2.2.2.2.2.1
      have hsn : smgs d ((sL σ c).take (k + 1)) σ = smg1 (smgs d ((sL σ c).take k) σ) d p := by rw [htk, smgs_snoc]
      have hld : sLen (smgs d ((sL σ c).take k) σ) d < 20 := by
        show (sL (smgs d ((sL σ c).take k) σ) d).length < 20
        rw [k5, List.length_append, List.length_take]
        have : (sL σ d).length = sLen σ d := rfl
        omega
      have hmem : (sL (smgs d ((sL σ c).take k) σ) c)[k]? = some p := by rw [k4 c (fun z => hne z.symm)]; exact hp
      have eC5 : sC (smgs d ((sL σ c).take k) σ) d 5 = sC σ d 5 := by rw [k2]
      have ih2 := ih (k + 1)
      rw [hsn] at ih2
      have ha : sP (smgs d ((sL σ c).take k) σ) p 5 ≤ 99 := by rw [e5]; exact hp5
      have hb : sC (smgs d ((sL σ c).take k) σ) d 5 ≤ 99 := by rw [eC5]; exact hd5
      clear ih hsn fin keep hBk k3 k4 k5 k6 e5 eC5
      generalize smgs d ((sL σ c).take k) σ = τ at h k1 k2 hB hld hmem ih2 ha hb
      have hcT : c < sN τ 0 := by rw [k1]; exact hc
      have hdT : d < sN τ 0 := by rw [k1]; exact hd
      have hpT : p < sN τ 2 := by rw [k1]; exact hp2
      have hv : J 357 (1 + 41 * c + (11 + k)) = nI p := by
        rw [show 1 + 41 * c + (11 + k) = 1 + 41 * c + 11 + k by omega]
        exact h.m hcT hmem
      have sB2 := sjn_B hB (p := p) hld
      have e5 : sP (sjn τ p d) p 5 = sP τ p 5 := by
        show f2 (f2 (sP τ) p 4 (d + 1)) p 6 (sP τ p 6 + 1) p 5 = _
        rw [f2_n (by omega), f2_n (by omega)]
      obtain ⟨le1, le2⟩ := sub_le0 (a := sP τ p 5) (b := sC τ d 5) (by omega) (by omega)
      have tail : ∀ (M : q_Mem), RS M (uG (sjn τ p d) 3 (sG τ 3 + (sP τ p 5 - sC τ d 5))) → FM 357 I M → q_X kX7_merges 84 [some (.ref 356), some (.int (nI c)), some (.int (nI d)), some (.int (nI (sLen σ c))), some (.int (nI k)), some (.int (nI p)), some (.int (nI (sP τ p 5) - nI (sC τ d 5)))] [] M (fun v J => v = none ∧ RS J (smerge σ c d) ∧ FM 357 I J) := by
        intro M hM hFM
        have v5 : M 357 (336 + 7 * p + 5) = nI (sP τ p 5) := (hM.p hpT (j := 5) (by omega)).trans (congrArg nI e5)
        have out : q_X kX7_merges 108 [some (.ref 356), some (.int (nI c)), some (.int (nI d)), some (.int (nI (sLen σ c))), some (.int (nI k)), some (.int (nI p)), some (.int (nI (sP τ p 5) - nI (sC τ d 5)))] [.int (nI (sP τ p 5 - (sP τ p 5 - sC τ d 5))), .int (nI (336 + 7 * p + 5)), .ref 357] M (fun v J => v = none ∧ RS J (smerge σ c d) ∧ FM 357 I J) := by
          refine q_iast k357 rfl (lt357 (by omega)) (by decide) dX7_merges_108 ?_
          refine q_iinc (ls' := [_, _, _, _, _, _, _]) dX7_merges_109 rfl (nI_add _ 1) rfl ?_
          refine q_goto (tgt := 9) dX7_merges_112 (by decide) ?_
          have h9 := hM.P (p := p) (j := 5) (v := sP τ p 5 - (sP τ p 5 - sC τ d 5)) (x := nI (sP τ p 5 - (sP τ p 5 - sC τ d 5))) sB2 hpT (by omega) rfl
          exact ih2 _ _ _ (by omega) h9 hFM.up
        refine q_aload_n dX7_merges_84 rfl ?_
        refine q_getR2 (b := 357) fl_RX7_7 rfl k356 rfl dX7_merges_85 ?_
        refine q_iload dX7_merges_88 rfl ?_
        refine q_iconst (v := nI 5) dX7_merges_90 (by decide) ?_
        refine q_cS (as := [_, _]) lk_RX7_36 r_of rfl (by decide) (Nat.le_of_ble_eq_true rfl) dX7_merges_91 ?_
        rintro v J' ⟨rfl, rfl⟩
        refine q_dup2 dX7_merges_94 rfl rfl ?_
        refine q_iald k357 rfl (lt357 (by omega)) (by decide) v5 dX7_merges_95 ?_
        refine q_iload dX7_merges_96 rfl ?_
        by_cases hab : sP τ p 5 ≤ sC τ d 5
        · refine q_if_le (tgt := 106) dX7_merges_98 (by decide) (fun q => ?_) (fun q => ?_)
          · refine q_iconst (v := nI 0) dX7_merges_106 (by decide) ?_
            refine q_isub dX7_merges_107 ?_
            rw [show nI (sP τ p 5) - nI 0 = nI (sP τ p 5 - 0) from pk_sub (Nat.zero_le _)]
            rw [show sP τ p 5 - (sP τ p 5 - sC τ d 5) = sP τ p 5 - 0 by omega] at out
            exact out
          · exact absurd (le1 hab) q
        · obtain ⟨l1, l2⟩ := le2 (by omega)
          refine q_if_le (tgt := 106) dX7_merges_98 (by decide) (fun q => ?_) (fun q => ?_)
          · exact absurd q l1
          · refine q_iload dX7_merges_101 rfl ?_
            refine q_goto (tgt := 107) dX7_merges_103 (by decide) ?_
            refine q_isub dX7_merges_107 ?_
            have hx : nI (sP τ p 5) - (nI (sP τ p 5) - nI (sC τ d 5)) = nI (sP τ p 5 - (sP τ p 5 - sC τ d 5)) := by rw [l2, pk_sub (by omega)]
            rw [hx]
            exact out
      refine q_iload dX7_merges_9 rfl ?_
      refine q_iload_n dX7_merges_11 rfl ?_
      refine q_icmp_geN (tgt := 115) (by omega) (by omega) dX7_merges_12 (by decide) (fun q => ?_) (fun q => ?_)
      · omega
      refine q_aload_n dX7_merges_15 rfl ?_
      refine q_getR2 (b := 357) fl_RX7_7 rfl k356 rfl dX7_merges_16 ?_
      refine q_iload_n dX7_merges_19 rfl ?_
      refine q_bipush (v := nI 11) dX7_merges_20 (by decide) ?_
      refine q_iload dX7_merges_22 rfl ?_
      refine q_iadd dX7_merges_24 ?_
      rw [nI_add]
      refine q_cS (as := [_, _]) lk_RX7_40 r_at rfl (by decide) (Nat.le_of_ble_eq_true rfl) dX7_merges_25 ?_
      rintro v J' ⟨rfl, rfl⟩
      refine q_iald k357 rfl (lt357 (by omega)) (by decide) hv dX7_merges_28 ?_
      refine q_istore (ls' := [_, _, _, _, _, _, _]) dX7_merges_29 (Nat.le_of_ble_eq_true rfl) rfl ?_
      refine q_aload_n dX7_merges_31 rfl ?_
      refine q_iload dX7_merges_32 rfl ?_
      refine q_iload_n dX7_merges_34 rfl ?_
      refine q_cV (as := [_, _]) lk_RX7_70 (r_joins h hB hpT hdT hld) (Or.inl ⟨6, by decide, k356, rfl⟩) rfl (by decide) (Nat.le_of_ble_eq_true rfl) dX7_merges_35 ?_
      rintro v K ⟨rfl, l1, l2⟩
      have v48 : K 357 (336 + 7 * p + 5) = nI (sP τ p 5) := (l1.p hpT (j := 5) (by omega)).trans (congrArg nI e5)
      have v58 : K 357 (1 + 41 * d + 5) = nI (sC τ d 5) := l1.c hdT (j := 5) (by omega)
      have w3 : K 357 549 = nI (sG τ 3) := l1.g (j := 3) (by omega)
      refine q_aload_n dX7_merges_38 rfl ?_
      refine q_getR2 (b := 357) fl_RX7_7 rfl k356 rfl dX7_merges_39 ?_
      refine q_iload dX7_merges_42 rfl ?_
      refine q_iconst (v := nI 5) dX7_merges_44 (by decide) ?_
      refine q_cS (as := [_, _]) lk_RX7_36 r_of rfl (by decide) (Nat.le_of_ble_eq_true rfl) dX7_merges_45 ?_
      rintro v J' ⟨rfl, rfl⟩
      refine q_iald k357 rfl (lt357 (by omega)) (by decide) v48 dX7_merges_48 ?_
      refine q_aload_n dX7_merges_49 rfl ?_
      refine q_getR2 (b := 357) fl_RX7_7 rfl k356 rfl dX7_merges_50 ?_
      refine q_iload_n dX7_merges_53 rfl ?_
      refine q_iconst (v := nI 5) dX7_merges_54 (by decide) ?_
      refine q_cS (as := [_, _]) lk_RX7_40 r_at rfl (by decide) (Nat.le_of_ble_eq_true rfl) dX7_merges_55 ?_
      rintro v J' ⟨rfl, rfl⟩
      refine q_iald k357 rfl (lt357 (by omega)) (by decide) v58 dX7_merges_58 ?_
      refine q_isub dX7_merges_59 ?_
      refine q_istore (ls' := [_, _, _, _, _, _, _]) dX7_merges_60 (Nat.le_of_ble_eq_true rfl) rfl ?_
      refine q_aload_n dX7_merges_62 rfl ?_
      refine q_getR2 (b := 357) fl_RX7_7 rfl k356 rfl dX7_merges_63 ?_
      refine q_sipush (v := nI 549) dX7_merges_66 (by decide) ?_
      refine q_dup2 dX7_merges_69 rfl rfl ?_
      refine q_iald k357 rfl (lt357 (by omega)) (by decide) w3 dX7_merges_70 ?_
      refine q_iload dX7_merges_71 rfl ?_
      have hG : RS (q_up K 357 549 (nI (sG τ 3 + (sP τ p 5 - sC τ d 5)))) (uG (sjn τ p d) 3 (sG τ 3 + (sP τ p 5 - sC τ d 5))) := l1.G (j := 3) sB2 (by omega) rfl
      have hFG : FM 357 I (q_up K 357 549 (nI (sG τ 3 + (sP τ p 5 - sC τ d 5)))) := (hF.tr l2).up
      have tl := tail _ hG hFG
      by_cases hab : sP τ p 5 ≤ sC τ d 5
      · refine q_if_le (tgt := 81) dX7_merges_73 (by decide) (fun q2 => ?_) (fun q2 => ?_)
        · refine q_iconst (v := nI 0) dX7_merges_81 (by decide) ?_
          refine q_iadd dX7_merges_82 ?_
          rw [nI_add]
          rw [show sG τ 3 + (sP τ p 5 - sC τ d 5) = sG τ 3 + 0 by omega] at tl
          refine q_iast k357 rfl (lt357 (by omega)) (by decide) dX7_merges_83 ?_
          exact tl
        · exact absurd (le1 hab) q2
      · obtain ⟨z1, z2⟩ := le2 (by omega)
        refine q_if_le (tgt := 81) dX7_merges_73 (by decide) (fun q2 => ?_) (fun q2 => ?_)
        · exact absurd q2 z1
        · refine q_iload dX7_merges_76 rfl ?_
          refine q_goto (tgt := 82) dX7_merges_78 (by decide) ?_
          refine q_iadd dX7_merges_82 ?_
          have hx : nI (sG τ 3) + (nI (sP τ p 5) - nI (sC τ d 5)) = nI (sG τ 3 + (sP τ p 5 - sC τ d 5)) := by rw [z2, nI_add]
          rw [hx]
          refine q_iast k357 rfl (lt357 (by omega)) (by decide) dX7_merges_83 ?_
          exact tl
  refine q_M.of pnX7_merges (by simp [Value.category]) (Nat.le_of_ble_eq_true rfl) ?_
  refine q_aload_n dX7_merges_0 rfl ?_
  refine q_iload_n dX7_merges_1 rfl ?_
  refine q_cV (as := [_]) lk_RX7_47 (r_people h hw.B hc) (Or.inl ⟨6, by decide, k356, rfl⟩) rfl (by decide) (Nat.le_of_ble_eq_true rfl) dX7_merges_2 ?_
  rintro v J ⟨rfl, rfl⟩
  refine q_istore_n (ls' := [_, _, _, _, _, _, _]) dX7_merges_5 (Nat.le_of_ble_eq_true rfl) rfl ?_
  refine q_iconst (v := nI 0) dX7_merges_6 (by decide) ?_
  refine q_istore (ls' := [_, _, _, _, _, _, _]) dX7_merges_7 (Nat.le_of_ble_eq_true rfl) rfl ?_
  exact key (sLen σ c) 0 I _ _ (by omega) h FM.rf
