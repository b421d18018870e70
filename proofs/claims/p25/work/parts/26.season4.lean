/-! the class's season: merging, cancelling, rooms, the closing -/
theorem c_merge {b c d : Nat} {I : q_Mem} {σ : q_S} (hk : q_kd b = 3) (h : RC b I σ) (hw : WFc σ) (hc : c < 8) (hd : d < 8) (hne : ¬ d = c) (hl : sLen σ d + sLen σ c ≤ 20) : q_M kX3_merge [.ref b, .ref (b + 4 + 2 * c), .ref (b + 4 + 2 * d)] I (fun v J => v = none ∧ RC b J (smerge σ c d) ∧ FC b I J) := by
  have hkc := kSC hk hc
  have hkd := kSC hk hd
  have hlc := hw.len c
  have hsl : (sL σ c).length = sLen σ c := rfl
  have hsd : (sL σ d).length = sLen σ d := rfl
  have key : ∀ (m r : Nat) (J : q_Mem) (o4 o5 : Option Value), r + m = sLen σ c → RC b J (smgs d ((sL σ c).take r) σ) → FC b I J → q_X kX3_merge 2 [some (.ref b), some (.ref (b + 4 + 2 * c)), some (.ref (b + 4 + 2 * d)), some (.int (nI r)), o4, o5] [] J (fun v J => v = none ∧ RC b J (smerge σ c d) ∧ FC b I J) := by
    intro m
    induction m with
    | zero =>
      intro r J o4 o5 hm h hF
      obtain rfl : r = sLen σ c := by omega
      rw [List.take_length] at h
      obtain ⟨k1, k2, k3, k4, k5, k6⟩ := smgs_keep d (sL σ c) σ
      have hz : J (b + 4 + 2 * c) 12 = nI (sLen σ c) := by rw [h.len hc, sLen, k4 c (fun e => hne e.symm)]
      refine q_iload_n dX3_merge_2 rfl ?_
      refine q_aload_n dX3_merge_3 rfl ?_
      refine q_getI fl_RX3_204 rfl hkc hz dX3_merge_4 ?_
      refine q_icmp_geN (tgt := 100) (by omega) (by omega) dX3_merge_7 (by decide) (fun h1 => ?_) (fun h1 => ?_)
      · rw [smerge]
        generalize smgs d (sL σ c) σ = τ at h ⊢
        refine q_aload_n dX3_merge_100 rfl ?_
        refine q_iconst (v := nI 0) dX3_merge_101 (by decide) ?_
        refine q_putI ⟨fl_RX3_204, rfl, rfl⟩ hkc ⟨rfl, rfl⟩ dX3_merge_102 ?_
        have h : RC b (q_up J (b + 4 + 2 * c) 12 (nI 0)) (uL τ c []) := h.L hc q_up_s (fun r v hr => by cases hr) (fun i j q1 q2 => q_up_n q2)
        have hF := hF.up (a := b + 4 + 2 * c) (j := 12) (x := nI 0) (by omega) (by omega)
        generalize q_up J (b + 4 + 2 * c) 12 (nI 0) = J1 at h hF ⊢
        refine q_aload_n dX3_merge_105 rfl ?_
        refine q_iconst (v := nI 3) dX3_merge_106 (by decide) ?_
        refine q_putI ⟨fl_RX3_162, rfl, rfl⟩ hkc ⟨rfl, rfl⟩ dX3_merge_107 ?_
        have h : RC b (q_up J1 (b + 4 + 2 * c) 8 (nI 3)) (uC (uL τ c []) c 6 4) := h.C (j := 6) hc (by omega) rfl
        have hF := hF.up (a := b + 4 + 2 * c) (j := 8) (x := nI 3) (by omega) (by omega)
        generalize q_up J1 (b + 4 + 2 * c) 8 (nI 3) = J2 at h hF ⊢
        refine q_aload_n dX3_merge_110 rfl ?_
        refine q_iconst (v := nI 1) dX3_merge_111 (by decide) ?_
        refine q_putI ⟨fl_RX3_224, rfl, rfl⟩ hkc ⟨rfl, rfl⟩ dX3_merge_112 ?_
        have h : RC b (q_up J2 (b + 4 + 2 * c) 9 (nI 1)) (uC (uC (uL τ c []) c 6 4) c 9 1) := h.C (j := 9) hc (by omega) rfl
        have hF := hF.up (a := b + 4 + 2 * c) (j := 9) (x := nI 1) (by omega) (by omega)
        generalize q_up J2 (b + 4 + 2 * c) 9 (nI 1) = J3 at h hF ⊢
        refine q_aload_n dX3_merge_115 rfl ?_
        refine q_aload_n dX3_merge_116 rfl ?_
        refine q_getI fl_RX3_96 rfl hkd (h.cn hd) dX3_merge_117 ?_
        refine q_putI ⟨fl_RX3_227, rfl, rfl⟩ hkc ⟨rfl, rfl⟩ dX3_merge_120 ?_
        have h : RC b (q_up J3 (b + 4 + 2 * c) 10 (nI d)) (uC (uC (uC (uL τ c []) c 6 4) c 9 1) c 8 (d + 1)) := h.C (j := 8) hc (by omega) rfl
        have hF := hF.up (a := b + 4 + 2 * c) (j := 10) (x := nI d) (by omega) (by omega)
        generalize q_up J3 (b + 4 + 2 * c) 10 (nI d) = J4 at h hF ⊢
        refine q_aload_n dX3_merge_123 rfl ?_
        refine q_dup dX3_merge_124 rfl ?_
        refine q_getI fl_RX3_79 rfl (by assumption) (h.g (j := 6) (by omega)) dX3_merge_125 ?_
        refine q_iconst (v := nI 1) dX3_merge_128 (by decide) ?_
        refine q_iadd dX3_merge_129 ?_
        rw [sG_mk, nI_add]
        refine q_putI ⟨fl_RX3_79, rfl, rfl⟩ (by assumption) ⟨rfl, rfl⟩ dX3_merge_130 ?_
        have h : RC b (q_up J4 b 12 (nI (sG τ 6 + 1))) (uG (uC (uC (uC (uL τ c []) c 6 4) c 9 1) c 8 (d + 1)) 6 (sG τ 6 + 1)) := h.G (j := 6) (by omega) rfl
        have hF := hF.up (a := b) (j := 12) (x := nI (sG τ 6 + 1)) (by omega) (by omega)
        exact q_vret rfl dX3_merge_133 ⟨rfl, h, hF⟩
      · omega
    | succ m ih =>
      intro r J o4 o5 hm h hF
      have hrc : r < (sL σ c).length := by omega
      obtain ⟨p, hp⟩ : ∃ p, (sL σ c)[r]? = some p := ⟨_, List.getElem?_eq_getElem hrc⟩
      have hpm : p ∈ sL σ c := List.mem_of_getElem? hp
      have hp2 := hw.mlt hpm
      have hp30 := hw.mlt30 hpm
      have hpt : p ∉ (sL σ c).take r := by
        intro q
        obtain ⟨i, hi⟩ := List.getElem?_of_mem q
        rw [List.getElem?_take] at hi
        have hir : i < r := by
          rcases Nat.lt_or_ge i r with z | z
          · exact z
          · rw [if_neg (by omega)] at hi; cases hi
        rw [if_pos hir] at hi
        have := (List.getElem?_inj (j := r) (by omega) (hw.nd c)).mp (hi.trans hp.symm)
        omega
      have htk : (sL σ c).take (r + 1) = (sL σ c).take r ++ [p] := by rw [List.take_add_one, hp]; rfl
      obtain ⟨k1, k2, k3, k4, k5, k6⟩ := smgs_keep d ((sL σ c).take r) σ
      have hsm := smgs_snoc d p ((sL σ c).take r) σ
      rw [← htk] at hsm
      have hld : sLen (smgs d ((sL σ c).take r) σ) d < 20 := by
        rw [sLen, k5, List.length_append, List.length_take]; omega
      have hp5 : sP (smgs d ((sL σ c).take r) σ) p 5 ≤ 99 := by rw [k6 p hpt]; exact (hw.pr p).2.2.2.2.2.1
      have hd5 : sC (smgs d ((sL σ c).take r) σ) d 5 ≤ 99 := by rw [k2]; exact (hw.cr hd).2.2.2.2.2.1
      have hBt : sN (smgs d ((sL σ c).take r) σ) = sN σ := k1
      have hLc : sL (smgs d ((sL σ c).take r) σ) c = sL σ c := k4 c (fun e => hne e.symm)
      generalize smgs d ((sL σ c).take r) σ = τ at h hsm hld hp5 hd5 hBt hLc
      have hz : J (b + 4 + 2 * c) 12 = nI (sLen σ c) := by rw [h.len hc, sLen, hLc]
      have hkp := kSP hk hp30
      refine q_iload_n dX3_merge_2 rfl ?_
      refine q_aload_n dX3_merge_3 rfl ?_
      refine q_getI fl_RX3_204 rfl hkc hz dX3_merge_4 ?_
      refine q_icmp_geN (tgt := 100) (by omega) (by omega) dX3_merge_7 (by decide) (fun h1 => ?_) (fun h1 => ?_)
      · omega
      refine q_aload_n dX3_merge_10 rfl ?_
      refine q_aload_n dX3_merge_11 rfl ?_
      refine q_iload_n dX3_merge_12 rfl ?_
      refine q_cV (as := [_]) lk_RX3_218 (c_memberAt hkc hz (r := nI r) hlc) ⟨0, by decide, hkc, rfl⟩ rfl (by decide) (Nat.le_of_ble_eq_true rfl) dX3_merge_13 ?_
      rintro v J' (⟨i, hi, he, rfl, rfl⟩ | ⟨hno, -, -⟩)
      case inr => exact absurd rfl (hno r hrc)
      obtain rfl : r = i := (nI_eq (by omega) (by omega)).mp he
      have hmr : J (b + 4 + 2 * c + 1) r = nI p := by
        rw [show b + 4 + 2 * c + 1 = b + 5 + 2 * c by omega]
        exact h.m hc (by rw [hLc]; exact hp)
      rw [hmr]
      refine q_cV (as := [_]) lk_RX3_111 (c_personAtN hk h (p := p) (by rw [hBt]; exact hw.B.2.2.1) (by rw [hBt]; exact hp2)) ⟨3, by decide, by assumption, rfl⟩ rfl (by decide) (Nat.le_of_ble_eq_true rfl) dX3_merge_16 ?_
      rintro v J' ⟨rfl, rfl⟩
      refine q_astore (ls' := [_, _, _, _, _, _]) dX3_merge_19 (Nat.le_of_ble_eq_true rfl) rfl ?_
      refine q_aload dX3_merge_21 rfl ?_
      refine q_ifnull dX3_merge_23 ?_
      refine q_aload_n dX3_merge_26 rfl ?_
      refine q_aload dX3_merge_27 rfl ?_
      refine q_getI fl_RX3_110 rfl hkp (h.pn hp30) dX3_merge_29 ?_
      refine q_cV (as := [_]) lk_RX3_189 (c_addS hk h hd hld) ⟨0, by decide, hkd, rfl⟩ rfl (by decide) (Nat.le_of_ble_eq_true rfl) dX3_merge_32 ?_
      rintro v J1 ⟨rfl, h, hF1⟩
      have hF := hF.tr hF1
      refine q_aload dX3_merge_35 rfl ?_
      refine q_aload_n dX3_merge_37 rfl ?_
      refine q_getI fl_RX3_96 rfl hkd (h.cn hd) dX3_merge_38 ?_
      refine q_putI ⟨fl_RX3_182, rfl, rfl⟩ hkp ⟨rfl, rfl⟩ dX3_merge_41 ?_
      have h : RC b (q_up J1 (b + 20 + p) 2 (nI d)) (uP (uL τ d (sL τ d ++ [p])) p 4 (d + 1)) := h.P (j := 4) hp30 (by omega) rfl
      have hF := hF.up (a := b + 20 + p) (j := 2) (x := nI d) (by omega) (by omega)
      generalize q_up J1 (b + 20 + p) 2 (nI d) = J2 at h hF ⊢
      refine q_aload dX3_merge_44 rfl ?_
      refine q_dup dX3_merge_46 rfl ?_
      refine q_getI fl_RX3_195 rfl hkp (h.p hp30 (j := 6) (by omega)) dX3_merge_47 ?_
      refine q_iconst (v := nI 1) dX3_merge_50 (by decide) ?_
      refine q_iadd dX3_merge_51 ?_
      rw [show penc 6 (sP (uP (uL τ d (sL τ d ++ [p])) p 4 (d + 1)) p 6) = nI (sP τ p 6) by rw [sP_mk, f2_n (by omega)]; rfl, nI_add]
      refine q_putI ⟨fl_RX3_195, rfl, rfl⟩ hkp ⟨rfl, rfl⟩ dX3_merge_52 ?_
      have h : RC b (q_up J2 (b + 20 + p) 4 (nI (sP τ p 6 + 1))) (uP (uP (uL τ d (sL τ d ++ [p])) p 4 (d + 1)) p 6 (sP τ p 6 + 1)) := h.P (j := 6) hp30 (by omega) rfl
      have hF := hF.up (a := b + 20 + p) (j := 4) (x := nI (sP τ p 6 + 1)) (by omega) (by omega)
      generalize q_up J2 (b + 20 + p) 4 (nI (sP τ p 6 + 1)) = J3 at h hF ⊢
      have e5 : J3 (b + 20 + p) 3 = nI (sP τ p 5) := by
        refine (h.p hp30 (j := 5) (by omega)).trans ?_
        rw [sP_mk, f2_n (by omega), sP_mk, f2_n (by omega)]; rfl
      refine q_iconst (v := nI 0) dX3_merge_55 (by decide) ?_
      refine q_aload dX3_merge_56 rfl ?_
      refine q_getI fl_RX3_119 rfl hkp e5 dX3_merge_58 ?_
      refine q_aload_n dX3_merge_61 rfl ?_
      refine q_getI fl_RX3_192 rfl hkd (h.c hd (j := 5) (by omega)) dX3_merge_62 ?_
      refine q_isub dX3_merge_65 ?_
      refine q_mmax lk_RX3_221 (by decide) (Nat.le_of_ble_eq_true rfl) dX3_merge_66 ?_
      rw [show cenc 5 (sC (uP (uP (uL τ d (sL τ d ++ [p])) p 4 (d + 1)) p 6 (sP τ p 6 + 1)) d 5) = nI (sC τ d 5) from rfl, max_sub (by omega) (by omega)]
      refine q_istore (ls' := [_, _, _, _, _, _]) dX3_merge_69 (Nat.le_of_ble_eq_true rfl) rfl ?_
      refine q_aload dX3_merge_71 rfl ?_
      refine q_dup dX3_merge_73 rfl ?_
      refine q_getI fl_RX3_119 rfl hkp e5 dX3_merge_74 ?_
      refine q_iload dX3_merge_77 rfl ?_
      refine q_isub dX3_merge_79 ?_
      rw [pk_sub (Nat.sub_le _ _)]
      refine q_putI ⟨fl_RX3_119, rfl, rfl⟩ hkp ⟨rfl, rfl⟩ dX3_merge_80 ?_
      have h : RC b (q_up J3 (b + 20 + p) 3 (nI (sP τ p 5 - (sP τ p 5 - sC τ d 5)))) (uP (uP (uP (uL τ d (sL τ d ++ [p])) p 4 (d + 1)) p 6 (sP τ p 6 + 1)) p 5 (sP τ p 5 - (sP τ p 5 - sC τ d 5))) := h.P (j := 5) hp30 (by omega) rfl
      have hF := hF.up (a := b + 20 + p) (j := 3) (x := nI (sP τ p 5 - (sP τ p 5 - sC τ d 5))) (by omega) (by omega)
      generalize q_up J3 (b + 20 + p) 3 (nI (sP τ p 5 - (sP τ p 5 - sC τ d 5))) = J4 at h hF ⊢
      refine q_aload_n dX3_merge_83 rfl ?_
      refine q_dup dX3_merge_84 rfl ?_
      refine q_getI fl_RX3_70 rfl (by assumption) (h.g (j := 3) (by omega)) dX3_merge_85 ?_
      refine q_iload dX3_merge_88 rfl ?_
      refine q_iadd dX3_merge_90 ?_
      rw [sG_mk, nI_add]
      refine q_putI ⟨fl_RX3_70, rfl, rfl⟩ (by assumption) ⟨rfl, rfl⟩ dX3_merge_91 ?_
      have h : RC b (q_up J4 b 9 (nI (sG τ 3 + (sP τ p 5 - sC τ d 5)))) (uG (uP (uP (uP (uL τ d (sL τ d ++ [p])) p 4 (d + 1)) p 6 (sP τ p 6 + 1)) p 5 (sP τ p 5 - (sP τ p 5 - sC τ d 5))) 3 (sG τ 3 + (sP τ p 5 - sC τ d 5))) := h.G (j := 3) (by omega) rfl
      have hF := hF.up (a := b) (j := 9) (x := nI (sG τ 3 + (sP τ p 5 - sC τ d 5))) (by omega) (by omega)
      refine q_iinc (ls' := [_, _, _, _, _, _]) dX3_merge_94 rfl (nI_add _ 1) rfl ?_
      refine q_goto (tgt := 2) dX3_merge_97 (by decide) ?_
      exact ih (r + 1) _ _ _ (by omega) (h.eq hsm.symm) hF
  refine q_M.of pnX3_merge (by simp [Value.category]) (Nat.le_of_ble_eq_true rfl) ?_
  refine q_iconst (v := nI 0) dX3_merge_0 (by decide) ?_
  refine q_istore_n (ls' := [_, _, _, _, _, _]) dX3_merge_1 (Nat.le_of_ble_eq_true rfl) rfl ?_
  exact key (sLen σ c) 0 I _ _ (by omega) h FC.rf
theorem c_cancel {b c w : Nat} {I : q_Mem} {σ : q_S} (hk : q_kd b = 3) (h : RC b I σ) (hw : WFc σ) (hc : c < 8) : q_M kX3_cancel [.ref b, .ref (b + 4 + 2 * c), .int (nI w)] I (fun v J => v = none ∧ RC b J (scan σ c w) ∧ FC b I J) := by
  have hkc := kSC hk hc
  have key : ∀ (m k : Nat) (J : q_Mem) (o6 : Option Value), k + m = 30 → RC b J (scl σ c k) → FC b I J → q_X kX3_cancel 12 [some (.ref b), some (.ref (b + 4 + 2 * c)), some (.int (nI w)), some (.ref (b + 2)), some (.int (nI 30)), some (.int (nI k)), o6] [] J (fun v J => v = none ∧ RC b J (scan σ c w) ∧ FC b I J) := by
    intro m
    induction m with
    | zero =>
      intro k J o6 hm h hF
      obtain rfl : k = 30 := by omega
      have hsc := scl_scan hw c w hc
      generalize scl σ c 30 = τ at h hsc
      refine q_iload dX3_cancel_12 rfl ?_
      refine q_iload dX3_cancel_14 rfl ?_
      refine q_icmp_geN (tgt := 54) (by omega) (by omega) dX3_cancel_16 (by decide) (fun h1 => ?_) (fun h1 => ?_)
      · refine q_aload_n dX3_cancel_54 rfl ?_
        refine q_iconst (v := nI 2) dX3_cancel_55 (by decide) ?_
        refine q_putI ⟨fl_RX3_162, rfl, rfl⟩ hkc ⟨rfl, rfl⟩ dX3_cancel_56 ?_
        have h : RC b (q_up J (b + 4 + 2 * c) 8 (nI 2)) (uC τ c 6 3) := h.C (j := 6) hc (by omega) rfl
        have hF := hF.up (a := b + 4 + 2 * c) (j := 8) (x := nI 2) (by omega) (by omega)
        generalize q_up J (b + 4 + 2 * c) 8 (nI 2) = J1 at h hF ⊢
        refine q_aload_n dX3_cancel_59 rfl ?_
        refine q_iload_n dX3_cancel_60 rfl ?_
        refine q_putI ⟨fl_RX3_224, rfl, rfl⟩ hkc ⟨rfl, rfl⟩ dX3_cancel_61 ?_
        have h : RC b (q_up J1 (b + 4 + 2 * c) 9 (nI w)) (uC (uC τ c 6 3) c 9 w) := h.C (j := 9) hc (by omega) rfl
        have hF := hF.up (a := b + 4 + 2 * c) (j := 9) (x := nI w) (by omega) (by omega)
        generalize q_up J1 (b + 4 + 2 * c) 9 (nI w) = J2 at h hF ⊢
        refine q_aload_n dX3_cancel_64 rfl ?_
        refine q_dup dX3_cancel_65 rfl ?_
        refine q_getI fl_RX3_82 rfl (by assumption) (h.g (j := 7) (by omega)) dX3_cancel_66 ?_
        refine q_iconst (v := nI 1) dX3_cancel_69 (by decide) ?_
        refine q_iadd dX3_cancel_70 ?_
        rw [sG_mk, nI_add]
        refine q_putI ⟨fl_RX3_82, rfl, rfl⟩ (by assumption) ⟨rfl, rfl⟩ dX3_cancel_71 ?_
        have h : RC b (q_up J2 b 13 (nI (sG τ 7 + 1))) (uG (uC (uC τ c 6 3) c 9 w) 7 (sG τ 7 + 1)) := h.G (j := 7) (by omega) rfl
        have hF := hF.up (a := b) (j := 13) (x := nI (sG τ 7 + 1)) (by omega) (by omega)
        exact q_vret rfl dX3_cancel_74 ⟨rfl, h.eq hsc, hF⟩
      · omega
    | succ m ih =>
      intro k J o6 hm h hF
      have hk30 : k < 30 := by omega
      have hkp := kSP hk hk30
      have hwk := (scl_spec hw c k).1
      have hp4 := (hwk.pr k).2.2.2.2.1
      have hN8 := hwk.B.1
      refine q_iload dX3_cancel_12 rfl ?_
      refine q_iload dX3_cancel_14 rfl ?_
      refine q_icmp_geN (tgt := 54) (by omega) (by omega) dX3_cancel_16 (by decide) (fun h1 => ?_) (fun h1 => ?_)
      · omega
      refine q_aload_n dX3_cancel_19 rfl ?_
      refine q_iload dX3_cancel_20 rfl ?_
      refine q_aaldP hk rfl hk30 dX3_cancel_22 ?_
      refine q_astore (ls' := [_, _, _, _, _, _, _]) dX3_cancel_23 (Nat.le_of_ble_eq_true rfl) rfl ?_
      refine q_aload dX3_cancel_25 rfl ?_
      refine q_ifnull dX3_cancel_27 ?_
      refine q_aload dX3_cancel_30 rfl ?_
      refine q_getI fl_RX3_182 rfl hkp (h.p hk30 (j := 4) (by omega)) dX3_cancel_32 ?_
      refine q_aload_n dX3_cancel_35 rfl ?_
      refine q_getI fl_RX3_96 rfl hkc (h.cn hc) dX3_cancel_36 ?_
      have hiff : penc 4 (sP (scl σ c k) k 4) = nI c ↔ sP (scl σ c k) k 4 = c + 1 := enc_nI (by omega) (by omega)
      refine q_icmp_ne (tgt := 48) dX3_cancel_39 (by decide) (fun h2 => ?_) (fun h2 => ?_)
      · refine q_iinc (ls' := [_, _, _, _, _, _, _]) dX3_cancel_48 rfl (nI_add _ 1) rfl ?_
        refine q_goto (tgt := 12) dX3_cancel_51 (by decide) ?_
        have hs : scl σ c (k + 1) = scl σ c k := by rw [scl, if_neg (fun z => h2 (hiff.mpr z))]
        exact ih (k + 1) J _ (by omega) (h.eq hs.symm) hF
      · refine q_aload_n dX3_cancel_42 rfl ?_
        refine q_aload dX3_cancel_43 rfl ?_
        refine q_cV (as := [_]) lk_RX3_120 (c_goOut hk h hwk hk30) ⟨3, by decide, by assumption, rfl⟩ rfl (by decide) (Nat.le_of_ble_eq_true rfl) dX3_cancel_45 ?_
        rintro v J2 ⟨rfl, h2', hF2⟩
        refine q_iinc (ls' := [_, _, _, _, _, _, _]) dX3_cancel_48 rfl (nI_add _ 1) rfl ?_
        refine q_goto (tgt := 12) dX3_cancel_51 (by decide) ?_
        have hs : scl σ c (k + 1) = sout (scl σ c k) k := by rw [scl, if_pos (hiff.mp h2)]
        exact ih (k + 1) J2 _ (by omega) (h2'.eq hs.symm) (hF.tr hF2)
  refine q_M.of pnX3_cancel (by simp [Value.category]) (Nat.le_of_ble_eq_true rfl) ?_
  refine q_aload_n dX3_cancel_0 rfl ?_
  refine q_getR fl_RX3_19 rfl (by assumption) dX3_cancel_1 ?_
  refine q_astore_n (ls' := [_, _, _, _, _, _, _]) dX3_cancel_4 (Nat.le_of_ble_eq_true rfl) rfl ?_
  refine q_aload_n dX3_cancel_5 rfl ?_
  refine q_lenP hk rfl dX3_cancel_6 ?_
  refine q_istore (ls' := [_, _, _, _, _, _, _]) dX3_cancel_7 (Nat.le_of_ble_eq_true rfl) rfl ?_
  refine q_iconst (v := nI 0) dX3_cancel_9 (by decide) ?_
  refine q_istore (ls' := [_, _, _, _, _, _, _]) dX3_cancel_10 (Nat.le_of_ble_eq_true rfl) rfl ?_
  exact key 30 0 I _ rfl h FC.rf
