/-! the reference: out of a class -/
theorem f2_comm {α : Type} {f : Nat → Nat → α} {c i d j : Nat} {v w : α} (h : ¬ (c = d ∧ i = j)) : f2 (f2 f c i v) d j w = f2 (f2 f d j w) c i v := by
  funext a b
  simp only [f2_or]
  by_cases e1 : a = d ∧ b = j
  · rw [if_pos e1]
    by_cases e2 : a = c ∧ b = i
    · exact absurd ⟨by omega, by omega⟩ h
    · rw [if_neg e2, if_pos e1]
  · rw [if_neg e1, if_neg e1]
def rmv (p c n : Nat) (l : List Nat) (I J : q_Mem) (k left : Nat) : Prop :=
  FM 357 I J ∧ (∀ i, (i < 1 + 41 * c + 11 ∨ 1 + 41 * c + 31 ≤ i) → J 357 i = I 357 i) ∧ ((l.take k).filter (· != p)).length = left ∧ (∀ r v, ((l.take k).filter (· != p))[r]? = some v → J 357 (1 + 41 * c + 11 + r) = nI v) ∧ ∀ r, k ≤ r → J 357 (1 + 41 * c + 11 + r) = I 357 (1 + 41 * c + 11 + r)
theorem r_goesOut {p : Nat} {I : q_Mem} {σ : q_S} (h : RS I σ) (hw : WFc σ) (hp : p < sN σ 2) : q_M kX7_goesOut [.ref 356, .int (nI p)] I (fun v J => v = none ∧ RS J (sout σ p) ∧ FM 357 I J) := by
  have h30 := hw.B.2.2.1
  have h8 := hw.B.1
  obtain ⟨x0, x1, x2, x3, x4, x5, -⟩ := hw.pr p
  refine q_M.of pnX7_goesOut (by simp [Value.category]) (Nat.le_of_ble_eq_true rfl) ?_
  refine q_aload_n dX7_goesOut_0 rfl ?_
  refine q_getR2 (b := 357) fl_RX7_7 rfl k356 rfl dX7_goesOut_1 ?_
  refine q_iload_n dX7_goesOut_4 rfl ?_
  refine q_iconst (v := nI 4) dX7_goesOut_5 (by decide) ?_
  refine q_cS (as := [_, _]) lk_RX7_36 r_of rfl (by decide) (Nat.le_of_ble_eq_true rfl) dX7_goesOut_6 ?_
  rintro v J ⟨rfl, rfl⟩
  refine q_iald k357 rfl (lt357 (by omega)) (by decide) (h.p hp (j := 4) (by omega)) dX7_goesOut_9 ?_
  refine q_istore_n (ls' := [_, _, _, _, _, _]) dX7_goesOut_10 (Nat.le_of_ble_eq_true rfl) rfl ?_
  refine q_iload_n dX7_goesOut_11 rfl ?_
  rw [show penc 4 (sP σ p 4) = enc (sP σ p 4) from rfl]
  have hneg := enc_neg (v := sP σ p 4) (by omega)
  by_cases e : sP σ p 4 = 0
  · refine q_if_ge (tgt := 16) dX7_goesOut_12 (by decide) (fun q => ?_) (fun q => ?_)
    · exact absurd (hneg.mpr e) (Int32.not_lt.mpr q)
    · exact q_vret rfl dX7_goesOut_15 ⟨rfl, by rw [sout, if_pos e]; exact h, FM.rf⟩
  refine q_if_ge (tgt := 16) dX7_goesOut_12 (by decide) (fun q => ?_) (fun q => ?_)
  rotate_left
  · exact absurd (by rw [enc_pos e]; exact nI_pos' (by omega)) q
  rw [enc_pos e]
  obtain ⟨c, hc4⟩ : ∃ c, sP σ p 4 = c + 1 := ⟨sP σ p 4 - 1, by omega⟩
  rw [hc4, show c + 1 - 1 = c by omega]
  have hc : c < sN σ 0 := by omega
  have hlc := hw.len c
  have hll : (sL σ c).length ≤ 20 := hlc
  generalize hL : sL σ c = l at hll
  have hm : ∀ r v, l[r]? = some v → I 357 (1 + 41 * c + 11 + r) = nI v := fun r v hr => h.m hc (by rw [hL]; exact hr)
  have hb : ∀ v ∈ l, v < 30 := fun v hv => hw.mlt30 (c := c) (by rw [hL]; exact hv)
  have hlen : I 357 (1 + 41 * c + 10) = nI l.length := by rw [← hL]; exact h.len hc
  have rest : ∀ (J : q_Mem) (left : Nat) (o4 o5 : Option Value), rmv p c l.length l I J l.length left → q_X kX7_goesOut 82 [some (.ref 356), some (.int (nI p)), some (.int (nI c)), some (.int (nI left)), o4, o5] [] J (fun v J => v = none ∧ RS J (sout σ p) ∧ FM 357 I J) := by
    intro J left o4 o5 hr
    obtain ⟨r1, r2, r3, r4, r5⟩ := hr
    rw [List.take_length] at r3 r4
    refine q_aload_n dX7_goesOut_82 rfl ?_
    refine q_getR2 (b := 357) fl_RX7_7 rfl k356 rfl dX7_goesOut_83 ?_
    refine q_iload_n dX7_goesOut_86 rfl ?_
    refine q_bipush (v := nI 10) dX7_goesOut_87 (by decide) ?_
    refine q_cS (as := [_, _]) lk_RX7_40 r_at rfl (by decide) (Nat.le_of_ble_eq_true rfl) dX7_goesOut_89 ?_
    rintro v J' ⟨rfl, rfl⟩
    refine q_iload_n dX7_goesOut_92 rfl ?_
    refine q_iast k357 rfl (lt357 (by omega)) (by decide) dX7_goesOut_93 ?_
    have hl2 : (l.filter (· != p)).length ≤ 20 := Nat.le_trans (List.length_filter_le _ _) hll
    have h1 : RS (q_up J 357 (1 + 41 * c + 10) (nI left)) (uL σ c (l.filter (· != p))) := by
      refine h.L hw.B hc ?_ (fun r v hr => ?_) (fun i hi => ?_)
      · rw [q_up_s, r3]
      · have := g_lt hr hl2
        rw [q_up_n (by omega)]
        exact r4 r v hr
      · rw [q_up_n (by omega)]
        exact r2 i (by omega)
    have hF : FM 357 I (q_up J 357 (1 + 41 * c + 10) (nI left)) := r1.up
    generalize q_up J 357 (1 + 41 * c + 10) (nI left) = K at h1 hF ⊢
    have hB1 : sB (uL σ c (l.filter (· != p))) := ⟨hw.B.1, hw.B.2.1, hw.B.2.2.1, fun i => by
      show (f1 (sL σ) c (l.filter (· != p)) i).length ≤ 20
      rw [f1_or]
      split
      · exact hl2
      · exact hw.B.2.2.2 i⟩
    refine q_aload_n dX7_goesOut_94 rfl ?_
    refine q_getR2 (b := 357) fl_RX7_7 rfl k356 rfl dX7_goesOut_95 ?_
    refine q_sipush (v := nI 549) dX7_goesOut_98 (by decide) ?_
    refine q_dup2 dX7_goesOut_101 rfl rfl ?_
    refine q_iald k357 rfl (lt357 (by omega)) (by decide) (h1.g (j := 3) (by omega)) dX7_goesOut_102 ?_
    refine q_aload_n dX7_goesOut_103 rfl ?_
    refine q_getR2 (b := 357) fl_RX7_7 rfl k356 rfl dX7_goesOut_104 ?_
    refine q_iload_n dX7_goesOut_107 rfl ?_
    refine q_iconst (v := nI 5) dX7_goesOut_108 (by decide) ?_
    refine q_cS (as := [_, _]) lk_RX7_36 r_of rfl (by decide) (Nat.le_of_ble_eq_true rfl) dX7_goesOut_109 ?_
    rintro v J' ⟨rfl, rfl⟩
    refine q_iald k357 rfl (lt357 (by omega)) (by decide) (h1.p hp (j := 5) (by omega)) dX7_goesOut_112 ?_
    rw [show penc 5 (sP σ p 5) = nI (sP σ p 5) from rfl]
    refine q_iadd dX7_goesOut_113 ?_
    rw [nI_add]
    refine q_iast k357 rfl (lt357 (by omega)) (by decide) dX7_goesOut_114 ?_
    have h2 : RS (q_up K 357 549 (nI (sG σ 3 + sP σ p 5))) (uG (uL σ c (l.filter (· != p))) 3 (sG σ 3 + sP σ p 5)) := h1.G (j := 3) hB1 (by omega) rfl
    have hF2 : FM 357 I (q_up K 357 549 (nI (sG σ 3 + sP σ p 5))) := hF.up
    generalize q_up K 357 549 (nI (sG σ 3 + sP σ p 5)) = K2 at h2 hF2 ⊢
    refine q_aload_n dX7_goesOut_115 rfl ?_
    refine q_getR2 (b := 357) fl_RX7_7 rfl k356 rfl dX7_goesOut_116 ?_
    refine q_iload_n dX7_goesOut_119 rfl ?_
    refine q_iconst (v := nI 5) dX7_goesOut_120 (by decide) ?_
    refine q_cS (as := [_, _]) lk_RX7_36 r_of rfl (by decide) (Nat.le_of_ble_eq_true rfl) dX7_goesOut_121 ?_
    rintro v J' ⟨rfl, rfl⟩
    refine q_iconst (v := nI 0) dX7_goesOut_124 (by decide) ?_
    refine q_iast k357 rfl (lt357 (by omega)) (by decide) dX7_goesOut_125 ?_
    have h3 := h2.P (p := p) (j := 5) (v := 0) (x := nI 0) hB1 hp (by omega) rfl
    have hF3 : FM 357 I (q_up K2 357 (336 + 7 * p + 5) (nI 0)) := hF2.up
    generalize q_up K2 357 (336 + 7 * p + 5) (nI 0) = K3 at h3 hF3 ⊢
    refine q_aload_n dX7_goesOut_126 rfl ?_
    refine q_getR2 (b := 357) fl_RX7_7 rfl k356 rfl dX7_goesOut_127 ?_
    refine q_iload_n dX7_goesOut_130 rfl ?_
    refine q_iconst (v := nI 4) dX7_goesOut_131 (by decide) ?_
    refine q_cS (as := [_, _]) lk_RX7_36 r_of rfl (by decide) (Nat.le_of_ble_eq_true rfl) dX7_goesOut_132 ?_
    rintro v J' ⟨rfl, rfl⟩
    refine q_iconst (v := -1) dX7_goesOut_135 (by decide) ?_
    refine q_iast k357 rfl (lt357 (by omega)) (by decide) dX7_goesOut_136 ?_
    have h4 := h3.P (p := p) (j := 4) (v := 0) (x := -1) hB1 hp (by omega) rfl
    refine q_vret rfl dX7_goesOut_137 ⟨rfl, ?_, hF3.up⟩
    rw [sout, if_neg (by omega), hc4, show c + 1 - 1 = c by omega, hL]
    rw [f2_comm (c := p) (i := 4) (d := p) (j := 5) (by omega)]
    exact h4
  have key : ∀ (d k left : Nat) (J : q_Mem) (o5 : Option Value), k + d = l.length → rmv p c l.length l I J k left → q_X kX7_goesOut 21 [some (.ref 356), some (.int (nI p)), some (.int (nI c)), some (.int (nI left)), some (.int (nI k)), o5] [] J (fun v J => v = none ∧ RS J (sout σ p) ∧ FM 357 I J) := by
    intro d
    induction d with
    | zero =>
      intro k left J o5 hd hr
      obtain rfl : k = l.length := by omega
      refine q_iload dX7_goesOut_21 rfl ?_
      refine q_aload_n dX7_goesOut_23 rfl ?_
      refine q_iload_n dX7_goesOut_24 rfl ?_
      refine q_cV (as := [_]) lk_RX7_47 (r_people0 ((hr.2.1 _ (by omega)).trans hlen) (by omega)) (Or.inl ⟨6, by decide, k356, rfl⟩) rfl (by decide) (Nat.le_of_ble_eq_true rfl) dX7_goesOut_25 ?_
      rintro v J' ⟨rfl, rfl⟩
      refine q_icmp_geN (tgt := 82) (by omega) (by omega) dX7_goesOut_28 (by decide) (fun q => ?_) (fun q => ?_)
      · exact rest _ _ _ _ hr
      · omega
    | succ d ih =>
      intro k left J o5 hd hr
      have hkl : k < l.length := by omega
      refine q_iload dX7_goesOut_21 rfl ?_
      refine q_aload_n dX7_goesOut_23 rfl ?_
      refine q_iload_n dX7_goesOut_24 rfl ?_
      refine q_cV (as := [_]) lk_RX7_47 (r_people0 ((hr.2.1 _ (by omega)).trans hlen) (by omega)) (Or.inl ⟨6, by decide, k356, rfl⟩) rfl (by decide) (Nat.le_of_ble_eq_true rfl) dX7_goesOut_25 ?_
      rintro v J' ⟨rfl, rfl⟩
      obtain ⟨r1, r2, r3, r4, r5⟩ := hr
      refine q_icmp_geN (tgt := 82) (by omega) (by omega) dX7_goesOut_28 (by decide) (fun q => ?_) (fun q => ?_)
      · omega
      have hki : left ≤ k := by
        rw [← r3]
        exact Nat.le_trans (List.length_filter_le _ _) (by rw [List.length_take]; omega)
      obtain ⟨w, hw1⟩ : ∃ w, l[k]? = some w := ⟨_, List.getElem?_eq_getElem hkl⟩
      have hwv : J 357 (1 + 41 * c + (11 + k)) = nI w := by
        rw [show 1 + 41 * c + (11 + k) = 1 + 41 * c + 11 + k by omega]
        exact (r5 k (Nat.le_refl k)).trans (hm k w hw1)
      have hwb : w < 30 := hb w (List.mem_of_getElem? hw1)
      have htk : (l.take (k + 1)).filter (· != p) = (l.take k).filter (· != p) ++ (if w = p then [] else [w]) := by
        rw [List.take_add_one, hw1, Option.toList_some, List.filter_append]
        by_cases e : w = p
        · subst e; simp
        · simp [e]
      refine q_aload_n dX7_goesOut_31 rfl ?_
      refine q_getR2 (b := 357) fl_RX7_7 rfl k356 rfl dX7_goesOut_32 ?_
      refine q_iload_n dX7_goesOut_35 rfl ?_
      refine q_bipush (v := nI 11) dX7_goesOut_36 (by decide) ?_
      refine q_iload dX7_goesOut_38 rfl ?_
      refine q_iadd dX7_goesOut_40 ?_
      rw [nI_add]
      refine q_cS (as := [_, _]) lk_RX7_40 r_at rfl (by decide) (Nat.le_of_ble_eq_true rfl) dX7_goesOut_41 ?_
      rintro v J' ⟨rfl, rfl⟩
      refine q_iald k357 rfl (lt357 (by omega)) (by decide) hwv dX7_goesOut_44 ?_
      refine q_istore (ls' := [_, _, _, _, _, _]) dX7_goesOut_45 (Nat.le_of_ble_eq_true rfl) rfl ?_
      refine q_aload_n dX7_goesOut_47 rfl ?_
      refine q_getR2 (b := 357) fl_RX7_7 rfl k356 rfl dX7_goesOut_48 ?_
      refine q_iload_n dX7_goesOut_51 rfl ?_
      refine q_bipush (v := nI 11) dX7_goesOut_52 (by decide) ?_
      refine q_iload_n dX7_goesOut_54 rfl ?_
      refine q_iadd dX7_goesOut_55 ?_
      rw [nI_add]
      refine q_cS (as := [_, _]) lk_RX7_40 r_at rfl (by decide) (Nat.le_of_ble_eq_true rfl) dX7_goesOut_56 ?_
      rintro v J' ⟨rfl, rfl⟩
      refine q_iload dX7_goesOut_59 rfl ?_
      refine q_iast k357 rfl (lt357 (by omega)) (by decide) dX7_goesOut_61 ?_
      refine q_iload_n dX7_goesOut_62 rfl ?_
      refine q_iload dX7_goesOut_63 rfl ?_
      refine q_iload_n dX7_goesOut_65 rfl ?_
      have s1 : q_up J 357 (1 + 41 * c + (11 + left)) (nI w) 357 (1 + 41 * c + 11 + left) = nI w := by rw [show 1 + 41 * c + (11 + left) = 1 + 41 * c + 11 + left by omega]; exact q_up_s
      have s2 : ∀ i, ¬ i = 1 + 41 * c + 11 + left → q_up J 357 (1 + 41 * c + (11 + left)) (nI w) 357 i = J 357 i := fun i hi => q_up_n (by omega)
      have s3 : FM 357 I (q_up J 357 (1 + 41 * c + (11 + left)) (nI w)) := r1.up
      generalize q_up J 357 (1 + 41 * c + (11 + left)) (nI w) = K at s1 s2 s3 ⊢
      refine q_icmp_neN (tgt := 73) (by omega) (by omega) dX7_goesOut_66 (by decide) (fun q3 => ?_) (fun q3 => ?_)
      · refine q_iconst (v := nI 1) dX7_goesOut_73 (by decide) ?_
        refine q_iadd dX7_goesOut_74 ?_
        rw [nI_add]
        refine q_istore_n (ls' := [_, _, _, _, _, _]) dX7_goesOut_75 (Nat.le_of_ble_eq_true rfl) rfl ?_
        refine q_iinc (ls' := [_, _, _, _, _, _]) dX7_goesOut_76 rfl (nI_add _ 1) rfl ?_
        refine q_goto (tgt := 21) dX7_goesOut_79 (by decide) ?_
        refine ih (k + 1) (left + 1) K _ (by omega) ⟨s3, fun i hi => (s2 i (by omega)).trans (r2 i hi), by rw [htk, if_neg q3, List.length_append, r3]; rfl, fun r v hv => ?_, fun r hr => (s2 _ (by omega)).trans (r5 r (by omega))⟩
        rw [htk, if_neg q3] at hv
        by_cases e : r = left
        · subst e
          rw [← r3, List.getElem?_append_right (Nat.le_refl _), Nat.sub_self] at hv
          cases hv
          exact s1
        · rw [s2 _ (by omega)]
          refine r4 r v ?_
          rcases Nat.lt_or_ge r left with q | q
          · rwa [List.getElem?_append_left (by rw [r3]; exact q)] at hv
          · rw [List.getElem?_append_right (by rw [r3]; exact q), r3, List.getElem?_eq_none (by simp; omega)] at hv
            cases hv
      · refine q_iconst (v := nI 0) dX7_goesOut_69 (by decide) ?_
        refine q_goto (tgt := 74) dX7_goesOut_70 (by decide) ?_
        refine q_iadd dX7_goesOut_74 ?_
        rw [nI_add]
        refine q_istore_n (ls' := [_, _, _, _, _, _]) dX7_goesOut_75 (Nat.le_of_ble_eq_true rfl) rfl ?_
        refine q_iinc (ls' := [_, _, _, _, _, _]) dX7_goesOut_76 rfl (nI_add _ 1) rfl ?_
        refine q_goto (tgt := 21) dX7_goesOut_79 (by decide) ?_
        refine ih (k + 1) left K _ (by omega) ⟨s3, fun i hi => (s2 i (by omega)).trans (r2 i hi), by rw [htk, if_pos q3, List.append_nil]; exact r3, fun r v hv => ?_, fun r hr => (s2 _ (by omega)).trans (r5 r (by omega))⟩
        rw [htk, if_pos q3, List.append_nil] at hv
        have hrl : r < left := by rw [← r3]; exact g_lt hv (Nat.le_refl _)
        rw [s2 _ (by omega)]
        exact r4 r v hv
  refine q_iconst (v := nI 0) dX7_goesOut_16 (by decide) ?_
  refine q_istore_n (ls' := [_, _, _, _, _, _]) dX7_goesOut_17 (Nat.le_of_ble_eq_true rfl) rfl ?_
  refine q_iconst (v := nI 0) dX7_goesOut_18 (by decide) ?_
  refine q_istore (ls' := [_, _, _, _, _, _]) dX7_goesOut_19 (Nat.le_of_ble_eq_true rfl) rfl ?_
  exact key l.length 0 0 I _ (by omega) ⟨FM.rf, fun _ _ => rfl, rfl, fun r v hv => by simp at hv, fun _ _ => rfl⟩
