/-! the class's text: an order's numbers -/
/-- what stays while an order is read -/
def FT (I J : q_Mem) : Prop := ∀ a j, ¬ a = 355 → ¬ (a = 353 ∧ j = 6) → J a j = I a j
theorem FT.rf {I : q_Mem} : FT I I := fun _ _ _ _ => rfl
theorem FT.tr {I J K : q_Mem} (h : FT I J) (h2 : FT J K) : FT I K := fun a j h3 h4 => (h2 a j h3 h4).trans (h a j h3 h4)
theorem FT.up {I J : q_Mem} (h : FT I J) {a j : Nat} {x : Int32} (ha : a = 355 ∨ (a = 353 ∧ j = 6)) : FT I (q_up J a j x) := fun b i h1 h2 => (q_up_n (by omega)).trans (h b i h1 h2)
theorem FT.rt {I J : q_Mem} (h : FT I J) {t : List Nat} (hr : RT I t) : RT J t := ⟨(h 353 2 (by omega) (by omega)).trans hr.1, fun i c hc => (h 354 i (by omega) (by omega)).trans (hr.2 i c hc)⟩
def rdQ (I : q_Mem) (s : Nat) (r : Bool × Nat × List Nat) (v : Option Value) (J : q_Mem) : Prop :=
  v = some (.int (if r.1 = true then nI r.2.1 else -1)) ∧ FT I J ∧ (r.1 = false → J 353 6 = nI (r.2.1 - s)) ∧ (r.1 = true → ∀ i, i < 4 → J 355 i = nmb r.2.2 i)
theorem nmb_app {l : List Nat} {v i : Nat} : nmb (l ++ [v]) i = if i = l.length then nI v else nmb l i := by
  unfold nmb
  by_cases e : i = l.length
  · subst e
    rw [if_pos rfl, List.getElem?_append_right (Nat.le_refl _)]
    simp
  · rw [if_neg e]
    rcases Nat.lt_or_ge i l.length with q | q
    · rw [List.getElem?_append_left q]
    · rw [List.getElem?_eq_none (by simp; omega), List.getElem?_eq_none q]
theorem wmo_le : ∀ w, w < 5 → wmo w ≤ 4 ∧ wle w ≤ wmo w := by decide
theorem wmo_nI : ∀ w, w < 5 → [(3 : Int32), 4, 1, 0, 0].getD w 0 = nI (wmo w) := by decide
theorem wle_nI : ∀ w, w < 5 → [(1 : Int32), 2, 1, 0, 0].getD w 0 = nI (wle w) := by decide
theorem ten_nI : ∀ a, a < 10 → ∀ b, b < 58 → 48 ≤ b → nI 10 * nI a + nI b - nI 48 = nI (10 * a + b - 48) := by decide
theorem c_readNumbers {t : List Nat} {s b w : Nat} {I : q_Mem} (ht : tok t) (h : RT I t) (hw : w < 5) (hs : s ≤ b) (hb : b ≤ t.length) (hz : ∀ i, i < 4 → I 355 i = nmb [] i) : q_M kX4_readNumbers [.ref 353, .ref (363 + w), .int (nI s), .int (nI b)] I (rdQ I s (rns t w (wmo w) b [])) := by
  have k353 := k353
  have k355 := k355
  have h60 := ht.1
  obtain ⟨hm4, hlm⟩ := wmo_le w hw
  have bad : ∀ (J : q_Mem) (i : Nat) (l : List Nat) (o3 o5 o6 : Option Value), s ≤ i → FT I J → q_X kX4_readNumbers 149 [some (.ref 353), some (.ref (363 + w)), some (.int (nI s)), o3, some (.int (nI i)), o5, o6] [] J (rdQ I s (false, i, l)) := by
    intro J i l o3 o5 o6 hsi hF
    refine q_aload_n dX4_readNumbers_149 rfl ?_
    refine q_iload_n dX4_readNumbers_150 rfl ?_
    refine q_iload dX4_readNumbers_151 rfl ?_
    refine q_cV (as := [_, _]) lk_RX4_121 (c_notFitting hsi) (Or.inl ⟨4, by decide, by assumption, rfl⟩) rfl (by decide) (Nat.le_of_ble_eq_true rfl) dX4_readNumbers_153 ?_
    rintro v J' ⟨rfl, rfl⟩
    exact q_iret rfl rfl dX4_readNumbers_156 ⟨by rw [if_neg (fun z => by cases z)], hF.up (by omega), fun _ => q_up_s, fun z => by cases z⟩
  have tail : ∀ (d : Nat), (∀ (i : Nat) (l : List Nat) (J : q_Mem) (o3 o6 : Option Value), s ≤ i → i ≤ t.length → l.length + d = wmo w → FT I J → (∀ i, i < 4 → J 355 i = nmb l i) → q_X kX4_readNumbers 6 [some (.ref 353), some (.ref (363 + w)), some (.int (nI s)), o3, some (.int (nI i)), some (.int (nI l.length)), o6] [] J (rdQ I s (rns t w d i l))) →
      ∀ (i p : Nat) (l : List Nat) (J : q_Mem) (o3 o6 : Option Value), s ≤ i → i ≤ t.length → l.length = p + 1 → l.length + d = wmo w → FT I J → (∀ i, i < 4 → J 355 i = nmb l i) → q_X kX4_readNumbers 100 [some (.ref 353), some (.ref (363 + w)), some (.int (nI s)), o3, some (.int (nI i)), some (.int (nI p)), o6] [] J (rdQ I s (rtl t w (rns t w d) i l)) := by
    intro d ih i p l J o3 o6 hsi hit hlp hld hF hN
    have hg := gt_lt ht i
    refine q_aload_n dX4_readNumbers_100 rfl ?_
    refine q_iload dX4_readNumbers_101 rfl ?_
    refine q_cV (as := [_]) lk_RX4_115 (c_character ht (hF.rt h) (i := i) (by omega)) (Or.inl ⟨4, by decide, by assumption, rfl⟩) rfl (by decide) (Nat.le_of_ble_eq_true rfl) dX4_readNumbers_103 ?_
    rintro v J' ⟨rfl, rfl⟩
    refine q_istore (ls' := [_, _, _, _, _, _, _]) dX4_readNumbers_106 (Nat.le_of_ble_eq_true rfl) rfl ?_
    refine q_iload dX4_readNumbers_108 rfl ?_
    refine q_bipush (v := nI 59) dX4_readNumbers_110 (by decide) ?_
    have comma : ¬ (gt t i = 59 ∧ wle w ≤ l.length) → q_X kX4_readNumbers 131 [some (.ref 353), some (.ref (363 + w)), some (.int (nI s)), o3, some (.int (nI i)), some (.int (nI p)), some (.int (nI (gt t i)))] [] J (rdQ I s (rtl t w (rns t w d) i l)) := by
      intro hno
      refine q_iload dX4_readNumbers_131 rfl ?_
      refine q_bipush (v := nI 44) dX4_readNumbers_133 (by decide) ?_
      refine q_icmp_neN (tgt := 149) (by omega) (by omega) dX4_readNumbers_135 (by decide) (fun q => ?_) (fun q => ?_)
      · rw [rtl, if_neg hno, if_neg (fun z => q z.1)]
        exact bad J i l _ _ _ hsi hF
      · refine q_iload dX4_readNumbers_138 rfl ?_
        refine q_iconst (v := nI 1) dX4_readNumbers_140 (by decide) ?_
        refine q_iadd dX4_readNumbers_141 ?_
        rw [nI_add]
        refine q_aload_n dX4_readNumbers_142 rfl ?_
        refine q_wint hw (fn := "mostNumbers") (vs := [3, 4, 1, 0, 0]) (by decide) (wmo_nI w hw) fj_RX4_118 dX4_readNumbers_143 ?_
        refine q_icmp_ltN (tgt := 157) (by omega) (by omega) dX4_readNumbers_146 (by decide) (fun q2 => ?_) (fun q2 => ?_)
        · rw [rtl, if_neg hno, if_pos ⟨q, by omega⟩]
          refine q_iinc (ls' := [_, _, _, _, _, _, _]) dX4_readNumbers_157 rfl (nI_add _ 1) rfl ?_
          refine q_iinc (ls' := [_, _, _, _, _, _, _]) dX4_readNumbers_160 rfl (nI_add _ 1) rfl ?_
          refine q_goto (tgt := 6) dX4_readNumbers_163 (by decide) ?_
          have hi : i < t.length := gt_in (by omega)
          rw [show nI (p + 1) = nI l.length by rw [hlp]]
          exact ih (i + 1) l J _ _ (by omega) (by omega) hld hF hN
        · rw [rtl, if_neg hno, if_neg (fun z => by omega)]
          exact bad J i l _ _ _ hsi hF
    refine q_icmp_neN (tgt := 131) (by omega) (by omega) dX4_readNumbers_112 (by decide) (fun q => ?_) (fun q => ?_)
    · exact comma (fun z => q z.1)
    · refine q_iload dX4_readNumbers_115 rfl ?_
      refine q_iconst (v := nI 1) dX4_readNumbers_117 (by decide) ?_
      refine q_iadd dX4_readNumbers_118 ?_
      rw [nI_add]
      refine q_aload_n dX4_readNumbers_119 rfl ?_
      refine q_wint hw (fn := "leastNumbers") (vs := [1, 2, 1, 0, 0]) (by decide) (wle_nI w hw) fj_RX4_132 dX4_readNumbers_120 ?_
      refine q_icmp_ltN (tgt := 131) (by omega) (by omega) dX4_readNumbers_123 (by decide) (fun q2 => ?_) (fun q2 => ?_)
      · exact comma (fun z => by omega)
      · refine q_iload dX4_readNumbers_126 rfl ?_
        refine q_iconst (v := nI 1) dX4_readNumbers_128 (by decide) ?_
        refine q_iadd dX4_readNumbers_129 ?_
        rw [nI_add]
        rw [rtl, if_pos ⟨q, by omega⟩]
        exact q_iret rfl rfl dX4_readNumbers_130 ⟨by rw [if_pos rfl], hF, (fun z => by cases z), fun _ => hN⟩
  have key : ∀ (d : Nat) (i : Nat) (l : List Nat) (J : q_Mem) (o3 o6 : Option Value), s ≤ i → i ≤ t.length → l.length + d = wmo w → FT I J → (∀ i, i < 4 → J 355 i = nmb l i) → q_X kX4_readNumbers 6 [some (.ref 353), some (.ref (363 + w)), some (.int (nI s)), o3, some (.int (nI i)), some (.int (nI l.length)), o6] [] J (rdQ I s (rns t w d i l)) := by
    intro d
    induction d with
    | zero =>
      intro i l J o3 o6 hsi hit hld hF hN
      refine q_iload dX4_readNumbers_6 rfl ?_
      refine q_aload_n dX4_readNumbers_8 rfl ?_
      refine q_wint hw (fn := "mostNumbers") (vs := [3, 4, 1, 0, 0]) (by decide) (wmo_nI w hw) fj_RX4_118 dX4_readNumbers_9 ?_
      refine q_icmp_geN (tgt := 166) (by omega) (by omega) dX4_readNumbers_12 (by decide) (fun q => ?_) (fun q => ?_)
      · refine q_aload_n dX4_readNumbers_166 rfl ?_
        refine q_iload_n dX4_readNumbers_167 rfl ?_
        refine q_iload dX4_readNumbers_168 rfl ?_
        refine q_cV (as := [_, _]) lk_RX4_121 (c_notFitting hsi) (Or.inl ⟨4, by decide, by assumption, rfl⟩) rfl (by decide) (Nat.le_of_ble_eq_true rfl) dX4_readNumbers_170 ?_
        rintro v J' ⟨rfl, rfl⟩
        exact q_iret rfl rfl dX4_readNumbers_173 ⟨by rw [if_neg (by simp [rns])], hF.up (by omega), fun _ => q_up_s, fun z => by cases z⟩
      · omega
    | succ d ih =>
      intro i l J o3 o6 hsi hit hld hF hN
      have hg := gt_lt ht i
      refine q_iload dX4_readNumbers_6 rfl ?_
      refine q_aload_n dX4_readNumbers_8 rfl ?_
      refine q_wint hw (fn := "mostNumbers") (vs := [3, 4, 1, 0, 0]) (by decide) (wmo_nI w hw) fj_RX4_118 dX4_readNumbers_9 ?_
      refine q_icmp_geN (tgt := 166) (by omega) (by omega) dX4_readNumbers_12 (by decide) (fun q => ?_) (fun q => ?_)
      · omega
      refine q_iload dX4_readNumbers_15 rfl ?_
      refine q_aload_n dX4_readNumbers_17 rfl ?_
      refine q_getR fl_RX4_15 rfl (by assumption) dX4_readNumbers_18 ?_
      refine q_alen (by assumption) (by decide) (by decide) ((show nI (q_ln (353 + 2)) = nI 4 from rfl)) dX4_readNumbers_21 ?_
      refine q_icmp_geN (tgt := 166) (by omega) (by omega) dX4_readNumbers_22 (by decide) (fun q2 => ?_) (fun q2 => ?_)
      · omega
      refine q_aload_n dX4_readNumbers_25 rfl ?_
      refine q_iload dX4_readNumbers_26 rfl ?_
      refine q_cV (as := [_]) lk_RX4_129 (c_isDigit ht (hF.rt h) (i := i) (by omega)) (Or.inl ⟨4, by decide, by assumption, rfl⟩) rfl (by decide) (Nat.le_of_ble_eq_true rfl) dX4_readNumbers_28 ?_
      rintro v J' ⟨rfl, rfl⟩
      rw [rns]
      by_cases e : isd (gt t i)
      · rw [if_pos e, if_neg (fun z : ¬ isd (gt t i) => z e)]
        have hi : i < t.length := gt_in (by omega)
        have hl4 : l.length < q_ln (353 + 2) := Nat.lt_of_lt_of_le q2 (by decide)
        refine q_if_ne (tgt := 42) dX4_readNumbers_31 (by decide) (fun q3 => ?_) (fun q3 => ?_)
        rotate_left
        · exact absurd q3 (by decide)
        refine q_aload_n dX4_readNumbers_42 rfl ?_
        refine q_getR fl_RX4_15 rfl (by assumption) dX4_readNumbers_43 ?_
        refine q_iload dX4_readNumbers_46 rfl ?_
        refine q_aload_n dX4_readNumbers_48 rfl ?_
        refine q_iload dX4_readNumbers_49 rfl ?_
        refine q_cV (as := [_]) lk_RX4_115 (c_character ht (hF.rt h) (i := i) (by omega)) (Or.inl ⟨4, by decide, by assumption, rfl⟩) rfl (by decide) (Nat.le_of_ble_eq_true rfl) dX4_readNumbers_51 ?_
        rintro v J' ⟨rfl, rfl⟩
        refine q_bipush (v := nI 48) dX4_readNumbers_54 (by decide) ?_
        refine q_isub dX4_readNumbers_56 ?_
        rw [pk_sub (show 48 ≤ gt t i by omega)]
        refine q_iast (by assumption) rfl (by assumption) (by decide) dX4_readNumbers_57 ?_
        refine q_iinc (ls' := [_, _, _, _, _, _, _]) dX4_readNumbers_58 rfl (nI_add _ 1) rfl ?_
        refine q_aload_n dX4_readNumbers_61 rfl ?_
        refine q_iload dX4_readNumbers_62 rfl ?_
        have hF1 := hF.up (a := 355) (j := l.length) (x := nI (gt t i - 48)) (Or.inl rfl)
        have hN1 : ∀ i', i' < 4 → q_up J 355 l.length (nI (gt t i - 48)) 355 i' = nmb (l ++ [gt t i - 48]) i' := by
          intro i' hi'
          rw [nmb_app]
          by_cases e : i' = l.length
          · subst e; rw [if_pos rfl, q_up_s]
          · rw [if_neg e, q_up_n (by omega)]; exact hN i' hi'
        have hs1 : q_up J 355 l.length (nI (gt t i - 48)) 355 l.length = nI (gt t i - 48) := q_up_s
        generalize q_up J 355 l.length (nI (gt t i - 48)) = K at hF1 hN1 hs1
        refine q_cV (as := [_]) lk_RX4_129 (c_isDigit ht (hF1.rt h) (i := i + 1) (by omega)) (Or.inl ⟨4, by decide, by assumption, rfl⟩) rfl (by decide) (Nat.le_of_ble_eq_true rfl) dX4_readNumbers_64 ?_
        rintro v J' ⟨rfl, rfl⟩
        have hg1 := gt_lt ht (i + 1)
        by_cases e1 : isd (gt t (i + 1))
        · rw [if_pos e1, if_pos e1]
          have hi1 : i + 1 < t.length := gt_in (by omega)
          refine q_if_eq (tgt := 100) dX4_readNumbers_67 (by decide) (fun q4 => ?_) (fun q4 => ?_)
          · exact absurd q4 (by decide)
          refine q_aload_n dX4_readNumbers_70 rfl ?_
          refine q_getR fl_RX4_15 rfl (by assumption) dX4_readNumbers_71 ?_
          refine q_iload dX4_readNumbers_74 rfl ?_
          refine q_bipush (v := nI 10) dX4_readNumbers_76 (by decide) ?_
          refine q_aload_n dX4_readNumbers_78 rfl ?_
          refine q_getR fl_RX4_15 rfl (by assumption) dX4_readNumbers_79 ?_
          refine q_iload dX4_readNumbers_82 rfl ?_
          refine q_iald (by assumption) rfl hl4 (by decide) hs1 dX4_readNumbers_84 ?_
          refine q_imul dX4_readNumbers_85 ?_
          refine q_aload_n dX4_readNumbers_86 rfl ?_
          refine q_iload dX4_readNumbers_87 rfl ?_
          refine q_cV (as := [_]) lk_RX4_115 (c_character ht (hF1.rt h) (i := i + 1) (by omega)) (Or.inl ⟨4, by decide, by assumption, rfl⟩) rfl (by decide) (Nat.le_of_ble_eq_true rfl) dX4_readNumbers_89 ?_
          rintro v J' ⟨rfl, rfl⟩
          refine q_iadd dX4_readNumbers_92 ?_
          refine q_bipush (v := nI 48) dX4_readNumbers_93 (by decide) ?_
          refine q_isub dX4_readNumbers_95 ?_
          rw [ten_nI _ (by omega) _ (by omega) (by omega)]
          refine q_iast (by assumption) rfl (by assumption) (by decide) dX4_readNumbers_96 ?_
          refine q_iinc (ls' := [_, _, _, _, _, _, _]) dX4_readNumbers_97 rfl (nI_add _ 1) rfl ?_
          refine tail d ih (i + 2) l.length (l ++ [10 * (gt t i - 48) + gt t (i + 1) - 48]) _ _ _ (by omega) (by omega) (by simp) (by simp; omega) (hF1.up (Or.inl rfl)) (fun i' hi' => ?_)
          rw [nmb_app]
          by_cases e : i' = l.length
          · subst e; rw [if_pos rfl]; exact q_up_s
          · rw [if_neg e]
            refine (q_up_n (by omega)).trans ((hN1 i' hi').trans ?_)
            rw [nmb_app, if_neg e]
        · rw [if_neg e1, if_neg e1]
          refine q_if_eq (tgt := 100) dX4_readNumbers_67 (by decide) (fun q4 => ?_) (fun q4 => ?_)
          rotate_left
          · exact absurd rfl q4
          exact tail d ih (i + 1) l.length (l ++ [gt t i - 48]) _ _ _ (by omega) (by omega) (by simp) (by simp; omega) hF1 hN1
      · rw [if_neg e, if_pos e]
        refine q_if_ne (tgt := 42) dX4_readNumbers_31 (by decide) (fun q3 => ?_) (fun q3 => ?_)
        · exact absurd rfl q3
        refine q_aload_n dX4_readNumbers_34 rfl ?_
        refine q_iload_n dX4_readNumbers_35 rfl ?_
        refine q_iload dX4_readNumbers_36 rfl ?_
        refine q_cV (as := [_, _]) lk_RX4_121 (c_notFitting hsi) (Or.inl ⟨4, by decide, by assumption, rfl⟩) rfl (by decide) (Nat.le_of_ble_eq_true rfl) dX4_readNumbers_38 ?_
        rintro v J' ⟨rfl, rfl⟩
        exact q_iret rfl rfl dX4_readNumbers_41 ⟨by rw [if_neg (fun z => by cases z)], hF.up (by omega), fun _ => q_up_s, fun z => by cases z⟩
  refine q_M.of pnX4_readNumbers (by simp [Value.category]) (Nat.le_of_ble_eq_true rfl) ?_
  refine q_iload_n dX4_readNumbers_0 rfl ?_
  refine q_istore (ls' := [_, _, _, _, _, _, _]) dX4_readNumbers_1 (Nat.le_of_ble_eq_true rfl) rfl ?_
  refine q_iconst (v := nI 0) dX4_readNumbers_3 (by decide) ?_
  refine q_istore (ls' := [_, _, _, _, _, _, _]) dX4_readNumbers_4 (Nat.le_of_ble_eq_true rfl) rfl ?_
  exact key (wmo w) b [] I _ _ hs hb (by simp) FT.rf hz
theorem c_readOrder {t : List Nat} {s w : Nat} {I : q_Mem} (ht : tok t) (h : RT I t) (hw : w < 5) (hb : s + wll w ≤ t.length) : q_M kX4_readOrder [.ref 353, .ref (363 + w), .int (nI s)] I (rdQ I s (rdb t w (s + wll w))) := by
  have k353 := k353
  have k355 := k355
  have h60 := ht.1
  have h5 := wll_le w hw
  have hg := gt_lt ht (s + wll w)
  have bad : ∀ (J : q_Mem) (o4 : Option Value), FT I J → q_X kX4_readOrder 60 [some (.ref 353), some (.ref (363 + w)), some (.int (nI s)), some (.int (nI (s + wll w))), o4] [] J (rdQ I s (false, s + wll w, [])) := by
    intro J o4 hF
    refine q_aload_n dX4_readOrder_60 rfl ?_
    refine q_iload_n dX4_readOrder_61 rfl ?_
    refine q_iload_n dX4_readOrder_62 rfl ?_
    refine q_cV (as := [_, _]) lk_RX4_121 (c_notFitting (s := s) (i := s + wll w) (by omega)) (Or.inl ⟨4, by decide, by assumption, rfl⟩) rfl (by decide) (Nat.le_of_ble_eq_true rfl) dX4_readOrder_63 ?_
    rintro v J' ⟨rfl, rfl⟩
    exact q_iret rfl rfl dX4_readOrder_66 ⟨by rw [if_neg (fun z => by cases z)], hF.up (by omega), fun _ => q_up_s, fun z => by cases z⟩
  have main : ∀ (J : q_Mem) (o3 o4 : Option Value), FT I J → (∀ i, i < 4 → J 355 i = nmb [] i) → q_X kX4_readOrder 24 [some (.ref 353), some (.ref (363 + w)), some (.int (nI s)), o3, o4] [] J (rdQ I s (rdb t w (s + wll w))) := by
    intro J o3 o4 hF hN
    refine q_iload_n dX4_readOrder_24 rfl ?_
    refine q_aload_n dX4_readOrder_25 rfl ?_
    refine q_wletters hw fj_RX4_99 dX4_readOrder_26 ?_
    refine q_cV (as := []) lk_RX4_107 (c_length hw) (Or.inr ⟨rfl, w, hw, rfl⟩) rfl (by decide) (Nat.le_of_ble_eq_true rfl) dX4_readOrder_29 ?_
    rintro v J' ⟨rfl, rfl⟩
    refine q_iadd dX4_readOrder_32 ?_
    rw [nI_add]
    refine q_istore_n (ls' := [_, _, _, _, _]) dX4_readOrder_33 (Nat.le_of_ble_eq_true rfl) rfl ?_
    refine q_aload_n dX4_readOrder_34 rfl ?_
    refine q_wint hw (fn := "mostNumbers") (vs := [3, 4, 1, 0, 0]) (by decide) (wmo_nI w hw) fj_RX4_118 dX4_readOrder_35 ?_
    have hm4 := wmo_le w hw
    refine q_if_neN (tgt := 46) (by omega) dX4_readOrder_38 (by decide) (fun q => ?_) (fun q => ?_)
    · refine q_bipush (v := nI 32) dX4_readOrder_46 (by decide) ?_
      refine q_istore (ls' := [_, _, _, _, _]) dX4_readOrder_48 (Nat.le_of_ble_eq_true rfl) rfl ?_
      refine q_aload_n dX4_readOrder_50 rfl ?_
      refine q_iload_n dX4_readOrder_51 rfl ?_
      refine q_cV (as := [_]) lk_RX4_115 (c_character ht (hF.rt h) (i := s + wll w) (by omega)) (Or.inl ⟨4, by decide, by assumption, rfl⟩) rfl (by decide) (Nat.le_of_ble_eq_true rfl) dX4_readOrder_52 ?_
      rintro v J' ⟨rfl, rfl⟩
      refine q_iload dX4_readOrder_55 rfl ?_
      rw [rdb, if_neg q]
      refine q_icmp_eqN (tgt := 67) (by omega) (by omega) dX4_readOrder_57 (by decide) (fun q2 => ?_) (fun q2 => ?_)
      · refine q_aload_n dX4_readOrder_67 rfl ?_
        refine q_wint hw (fn := "mostNumbers") (vs := [3, 4, 1, 0, 0]) (by decide) (wmo_nI w hw) fj_RX4_118 dX4_readOrder_68 ?_
        refine q_if_neN (tgt := 80) (by omega) dX4_readOrder_71 (by decide) (fun q3 => ?_) (fun q3 => ?_)
        · refine q_aload_n dX4_readOrder_80 rfl ?_
          refine q_aload_n dX4_readOrder_81 rfl ?_
          refine q_iload_n dX4_readOrder_82 rfl ?_
          refine q_iload_n dX4_readOrder_83 rfl ?_
          refine q_iconst (v := nI 1) dX4_readOrder_84 (by decide) ?_
          refine q_iadd dX4_readOrder_85 ?_
          rw [nI_add, if_pos q2]
          have hi : s + wll w < t.length := gt_in (by omega)
          refine q_cV (as := [_, _, _]) lk_RX4_125 (c_readNumbers (s := s) (b := s + wll w + 1) ht (hF.rt h) hw (by omega) (by omega) hN) (Or.inl ⟨4, by decide, by assumption, rfl⟩) rfl (by decide) (Nat.le_of_ble_eq_true rfl) dX4_readOrder_86 ?_
          rintro v J' ⟨rfl, e2, e3, e4⟩
          exact q_iret rfl rfl dX4_readOrder_89 ⟨rfl, hF.tr e2, e3, e4⟩
        · exact absurd q3 q
      · rw [if_neg q2]
        exact bad J _ hF
    · refine q_bipush (v := nI 59) dX4_readOrder_41 (by decide) ?_
      refine q_goto (tgt := 48) dX4_readOrder_43 (by decide) ?_
      refine q_istore (ls' := [_, _, _, _, _]) dX4_readOrder_48 (Nat.le_of_ble_eq_true rfl) rfl ?_
      refine q_aload_n dX4_readOrder_50 rfl ?_
      refine q_iload_n dX4_readOrder_51 rfl ?_
      refine q_cV (as := [_]) lk_RX4_115 (c_character ht (hF.rt h) (i := s + wll w) (by omega)) (Or.inl ⟨4, by decide, by assumption, rfl⟩) rfl (by decide) (Nat.le_of_ble_eq_true rfl) dX4_readOrder_52 ?_
      rintro v J' ⟨rfl, rfl⟩
      refine q_iload dX4_readOrder_55 rfl ?_
      rw [rdb, if_pos q]
      refine q_icmp_eqN (tgt := 67) (by omega) (by omega) dX4_readOrder_57 (by decide) (fun q2 => ?_) (fun q2 => ?_)
      · refine q_aload_n dX4_readOrder_67 rfl ?_
        refine q_wint hw (fn := "mostNumbers") (vs := [3, 4, 1, 0, 0]) (by decide) (wmo_nI w hw) fj_RX4_118 dX4_readOrder_68 ?_
        refine q_if_neN (tgt := 80) (by omega) dX4_readOrder_71 (by decide) (fun q3 => ?_) (fun q3 => ?_)
        · exact absurd q q3
        · refine q_iload_n dX4_readOrder_74 rfl ?_
          refine q_iconst (v := nI 1) dX4_readOrder_75 (by decide) ?_
          refine q_iadd dX4_readOrder_76 ?_
          rw [nI_add]
          refine q_goto (tgt := 89) dX4_readOrder_77 (by decide) ?_
          rw [if_pos q2]
          exact q_iret rfl rfl dX4_readOrder_89 ⟨by rw [if_pos rfl], hF, (fun z => by cases z), fun _ => hN⟩
      · rw [if_neg q2]
        exact bad J _ hF
  have key : ∀ (d k : Nat) (J : q_Mem) (o4 : Option Value), k + d = 4 → FT I J → (∀ i, i < k → J 355 i = nmb [] i) → q_X kX4_readOrder 2 [some (.ref 353), some (.ref (363 + w)), some (.int (nI s)), some (.int (nI k)), o4] [] J (rdQ I s (rdb t w (s + wll w))) := by
    intro d
    induction d with
    | zero =>
      intro k J o4 hd hF hN
      refine q_iload_n dX4_readOrder_2 rfl ?_
      refine q_aload_n dX4_readOrder_3 rfl ?_
      refine q_getR fl_RX4_15 rfl (by assumption) dX4_readOrder_4 ?_
      refine q_alen (by assumption) (by decide) (by decide) ((show nI (q_ln (353 + 2)) = nI 4 from rfl)) dX4_readOrder_7 ?_
      refine q_icmp_geN (tgt := 24) (by omega) (by omega) dX4_readOrder_8 (by decide) (fun q => ?_) (fun q => ?_)
      · exact main J _ _ hF (fun i hi => hN i (by omega))
      · omega
    | succ d ih =>
      intro k J o4 hd hF hN
      have hk : k < q_ln (353 + 2) := Nat.lt_of_lt_of_le (show k < 4 by omega) (by decide)
      refine q_iload_n dX4_readOrder_2 rfl ?_
      refine q_aload_n dX4_readOrder_3 rfl ?_
      refine q_getR fl_RX4_15 rfl (by assumption) dX4_readOrder_4 ?_
      refine q_alen (by assumption) (by decide) (by decide) ((show nI (q_ln (353 + 2)) = nI 4 from rfl)) dX4_readOrder_7 ?_
      refine q_icmp_geN (tgt := 24) (by omega) (by omega) dX4_readOrder_8 (by decide) (fun q => ?_) (fun q => ?_)
      · omega
      refine q_aload_n dX4_readOrder_11 rfl ?_
      refine q_getR fl_RX4_15 rfl (by assumption) dX4_readOrder_12 ?_
      refine q_iload_n dX4_readOrder_15 rfl ?_
      refine q_iconst (v := -1) dX4_readOrder_16 (by decide) ?_
      refine q_iast (by assumption) rfl hk (by decide) dX4_readOrder_17 ?_
      refine q_iinc (ls' := [_, _, _, _, _]) dX4_readOrder_18 rfl (nI_add _ 1) rfl ?_
      refine q_goto (tgt := 2) dX4_readOrder_21 (by decide) ?_
      refine ih (k + 1) _ _ (by omega) (hF.up (Or.inl rfl)) (fun i hi => ?_)
      by_cases e : i = k
      · subst e; exact q_up_s
      · exact (q_up_n (by omega)).trans (hN i (by omega))
  refine q_M.of pnX4_readOrder (by simp [Value.category]) (Nat.le_of_ble_eq_true rfl) ?_
  refine q_iconst (v := nI 0) dX4_readOrder_0 (by decide) ?_
  refine q_istore_n (ls' := [_, _, _, _, _]) dX4_readOrder_1 (Nat.le_of_ble_eq_true rfl) rfl ?_
  exact key 4 0 I _ rfl FT.rf (fun i hi => by omega)
