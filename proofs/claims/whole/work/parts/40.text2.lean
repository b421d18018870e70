/-! the class's text: words and orders -/
theorem RT.up {I : q_Mem} {t : List Nat} (h : RT I t) {a j : Nat} {x : Int32} (ha : ¬ a = 354) (hj : ¬ (a = 353 ∧ j = 2)) : RT (q_up I a j x) t :=
  ⟨(q_up_n (fun z => hj ⟨z.1.symm, z.2.symm⟩)).trans h.1, fun i c hc => (q_up_n (fun z => ha z.1.symm)).trans (h.2 i c hc)⟩
theorem skl_le (t : List Nat) : ∀ d i, i ≤ skl t d i ∧ skl t d i ≤ i + d := by
  intro d
  induction d with
  | zero => intro i; exact ⟨Nat.le_refl _, Nat.le_refl _⟩
  | succ d ih =>
    intro i
    rw [skl]
    have := ih (i + 1)
    split <;> omega
theorem wll_le : ∀ w, w < 5 → 4 ≤ wll w ∧ wll w ≤ 5 := by decide
theorem wlc_lt : ∀ w, w < 5 → ∀ j, j < wll w → wlc w j < 127 := by decide
theorem c_isBetween {t : List Nat} {s b w : Nat} {I : q_Mem} (ht : tok t) (h : RT I t) (hw : w < 5) (hs : s ≤ b) (hb : b < 2 ^ 30) : q_M kX4_isBetween [.ref 353, .ref (368 + w), .int (nI s), .int (nI b)] I (fun v J => v = some (.int (if wmt t s (b - s) w then 1 else 0)) ∧ I = J) := by
  have k353 := k353
  have h5 := wll_le w hw
  have key : ∀ (d j : Nat), j + d = wll w → b - s = wll w → (∀ i, i < j → gt t (s + i) = wlc w i) → q_X kX4_isBetween 15 [some (.ref 353), some (.ref (368 + w)), some (.int (nI s)), some (.int (nI b)), some (.int (nI j))] [] I (fun v J => v = some (.int (if wmt t s (b - s) w then 1 else 0)) ∧ I = J) := by
    intro d
    induction d with
    | zero =>
      intro j hd hbs hj
      refine q_iload dX4_isBetween_15 rfl ?_
      refine q_aload_n dX4_isBetween_17 rfl ?_
      refine q_cV (as := []) lk_RX4_107 (c_length hw) (Or.inr ⟨rfl, w, hw, rfl⟩) rfl (by decide) (Nat.le_of_ble_eq_true rfl) dX4_isBetween_18 ?_
      rintro v J ⟨rfl, rfl⟩
      refine q_icmp_geN (tgt := 49) (by omega) (by omega) dX4_isBetween_21 (by decide) (fun q => ?_) (fun q => ?_)
      · refine q_iconst (v := nI 1) dX4_isBetween_49 (by decide) ?_
        exact q_iret rfl rfl dX4_isBetween_50 ⟨by rw [if_pos ⟨hbs, fun i hi => hj i (by omega)⟩]; rfl, rfl⟩
      · omega
    | succ d ih =>
      intro j hd hbs hj
      have hjw : j < wll w := by omega
      refine q_iload dX4_isBetween_15 rfl ?_
      refine q_aload_n dX4_isBetween_17 rfl ?_
      refine q_cV (as := []) lk_RX4_107 (c_length hw) (Or.inr ⟨rfl, w, hw, rfl⟩) rfl (by decide) (Nat.le_of_ble_eq_true rfl) dX4_isBetween_18 ?_
      rintro v J ⟨rfl, rfl⟩
      refine q_icmp_geN (tgt := 49) (by omega) (by omega) dX4_isBetween_21 (by decide) (fun q => ?_) (fun q => ?_)
      · omega
      refine q_aload_n dX4_isBetween_24 rfl ?_
      refine q_iload dX4_isBetween_25 rfl ?_
      refine q_cV (as := [_]) lk_RX4_111 (c_charAt hw hjw) (Or.inr ⟨rfl, w, hw, rfl⟩) rfl (by decide) (Nat.le_of_ble_eq_true rfl) dX4_isBetween_27 ?_
      rintro v J ⟨rfl, rfl⟩
      refine q_aload_n dX4_isBetween_30 rfl ?_
      refine q_iload_n dX4_isBetween_31 rfl ?_
      refine q_iload dX4_isBetween_32 rfl ?_
      refine q_iadd dX4_isBetween_34 ?_
      rw [nI_add]
      refine q_cV (as := [_]) lk_RX4_115 (c_character ht h (i := s + j) (by omega)) (Or.inl ⟨4, by decide, by assumption, rfl⟩) rfl (by decide) (Nat.le_of_ble_eq_true rfl) dX4_isBetween_35 ?_
      rintro v J ⟨rfl, rfl⟩
      have e1 := gt_lt ht (s + j)
      have e2 := wlc_lt w hw j hjw
      refine q_icmp_eqN (tgt := 43) (by omega) (by omega) dX4_isBetween_38 (by decide) (fun q2 => ?_) (fun q2 => ?_)
      · refine q_iinc (ls' := [_, _, _, _, _]) dX4_isBetween_43 rfl (nI_add _ 1) rfl ?_
        refine q_goto (tgt := 15) dX4_isBetween_46 (by decide) ?_
        exact ih (j + 1) (by omega) hbs (fun i hi => by
          by_cases e : i = j
          · subst e; exact q2.symm
          · exact hj i (by omega))
      · refine q_iconst (v := nI 0) dX4_isBetween_41 (by decide) ?_
        exact q_iret rfl rfl dX4_isBetween_42 ⟨by rw [if_neg (fun z => q2 (z.2 j hjw).symm)]; rfl, rfl⟩
  refine q_M.of pnX4_isBetween (by simp [Value.category]) (Nat.le_of_ble_eq_true rfl) ?_
  refine q_aload_n dX4_isBetween_0 rfl ?_
  refine q_cV (as := []) lk_RX4_107 (c_length hw) (Or.inr ⟨rfl, w, hw, rfl⟩) rfl (by decide) (Nat.le_of_ble_eq_true rfl) dX4_isBetween_1 ?_
  rintro v J ⟨rfl, rfl⟩
  refine q_iload_n dX4_isBetween_4 rfl ?_
  refine q_iload_n dX4_isBetween_5 rfl ?_
  refine q_isub dX4_isBetween_6 ?_
  rw [pk_sub hs]
  refine q_icmp_eqN (tgt := 12) (by omega) (by omega) dX4_isBetween_7 (by decide) (fun q => ?_) (fun q => ?_)
  · refine q_iconst (v := nI 0) dX4_isBetween_12 (by decide) ?_
    refine q_istore (ls' := [_, _, _, _, _]) dX4_isBetween_13 (Nat.le_of_ble_eq_true rfl) rfl ?_
    exact key _ 0 (Nat.zero_add _) q.symm (fun i hi => by omega)
  · refine q_iconst (v := nI 0) dX4_isBetween_10 (by decide) ?_
    exact q_iret rfl rfl dX4_isBetween_11 ⟨by rw [if_neg (fun z => q z.1.symm)]; rfl, rfl⟩
/-- where the letters end -/
abbrev sbh (t : List Nat) (s : Nat) : Nat := skl t (t.length - s) s
/-- the word at s: its number + 1, or 0 -/
def swd (t : List Nat) (s : Nat) : Nat := if sbh t s < t.length then wdr t s (sbh t s - s) 5 0 else 0
def wrf (w : Nat) : Value := if w = 0 then .null else .ref (363 + (w - 1))
theorem c_wordAt {t : List Nat} {s : Nat} {I : q_Mem} (ht : tok t) (h : RT I t) (hs : s ≤ t.length) : q_M kX4_wordAt [.ref 353, .int (nI s)] I (fun v J => v = some (wrf (swd t s)) ∧ J = q_up I 353 6 (nI (if sbh t s < t.length then 0 else t.length - s))) := by
  have k353 := k353
  have hn := ht.1
  have words : ∀ (J : q_Mem) (b : Nat), b = sbh t s → b < t.length → RT J t → J = q_up I 353 6 (nI (if sbh t s < t.length then 0 else t.length - s)) → ∀ (d k : Nat) (o6 : Option Value), k + d = 5 → wdr t s (b - s) d k = swd t s → q_X kX4_wordAt 64 [some (.ref 353), some (.int (nI s)), some (.int (nI b)), some (.ref 362), some (.int (nI 5)), some (.int (nI k)), o6] [] J (fun v J => v = some (wrf (swd t s)) ∧ J = q_up I 353 6 (nI (if sbh t s < t.length then 0 else t.length - s))) := by
    intro J b hb hbl hJ hJe d
    have hsb : s ≤ b := by have : s ≤ sbh t s := (skl_le t (t.length - s) s).1; omega
    induction d with
    | zero =>
      intro k o6 hd he
      refine q_iload dX4_wordAt_64 rfl ?_
      refine q_iload dX4_wordAt_66 rfl ?_
      refine q_icmp_geN (tgt := 105) (by omega) (by omega) dX4_wordAt_68 (by decide) (fun q => ?_) (fun q => ?_)
      · rw [← he]
        refine q_null dX4_wordAt_105 ?_
        exact q_aretN rfl dX4_wordAt_106 ⟨rfl, hJe⟩
      · omega
    | succ d ih =>
      intro k o6 hd he
      have hk : k < 5 := by omega
      refine q_iload dX4_wordAt_64 rfl ?_
      refine q_iload dX4_wordAt_66 rfl ?_
      refine q_icmp_geN (tgt := 105) (by omega) (by omega) dX4_wordAt_68 (by decide) (fun q => ?_) (fun q => ?_)
      · omega
      refine q_aload_n dX4_wordAt_71 rfl ?_
      refine q_iload dX4_wordAt_72 rfl ?_
      refine q_wald rfl hk dX4_wordAt_74 ?_
      refine q_astore (ls' := [_, _, _, _, _, _, _]) dX4_wordAt_75 (Nat.le_of_ble_eq_true rfl) rfl ?_
      refine q_aload dX4_wordAt_77 rfl ?_
      refine q_ifnull dX4_wordAt_79 ?_
      refine q_aload_n dX4_wordAt_82 rfl ?_
      refine q_aload dX4_wordAt_83 rfl ?_
      refine q_wletters hk fj_RX4_99 dX4_wordAt_85 ?_
      refine q_iload_n dX4_wordAt_88 rfl ?_
      refine q_iload_n dX4_wordAt_89 rfl ?_
      refine q_cV (as := [_, _, _]) lk_RX4_103 (c_isBetween ht hJ hk hsb (by omega)) (Or.inl ⟨4, by decide, by assumption, rfl⟩) rfl (by decide) (Nat.le_of_ble_eq_true rfl) dX4_wordAt_90 ?_
      rintro v J' ⟨rfl, rfl⟩
      by_cases e : wmt t s (b - s) k
      · rw [if_pos e]
        refine q_if_eq (tgt := 99) dX4_wordAt_93 (by decide) (fun q2 => ?_) (fun q2 => ?_)
        · exact absurd q2 (by decide)
        · refine q_aload dX4_wordAt_96 rfl ?_
          rw [wdr, if_pos e] at he
          exact q_aret rfl dX4_wordAt_98 ⟨by rw [← he, wrf, if_neg (by omega)]; rfl, hJe⟩
      · rw [if_neg e]
        refine q_if_eq (tgt := 99) dX4_wordAt_93 (by decide) (fun q2 => ?_) (fun q2 => ?_)
        · refine q_iinc (ls' := [_, _, _, _, _, _, _]) dX4_wordAt_99 rfl (nI_add _ 1) rfl ?_
          refine q_goto (tgt := 64) dX4_wordAt_102 (by decide) ?_
          rw [wdr, if_neg e] at he
          exact ih (k + 1) _ (by omega) he
        · exact absurd rfl q2
  have behind : ∀ (o3 o4 o5 o6 : Option Value), q_X kX4_wordAt 24 [some (.ref 353), some (.int (nI s)), some (.int (nI (sbh t s))), o3, o4, o5, o6] [] I (fun v J => v = some (wrf (swd t s)) ∧ J = q_up I 353 6 (nI (if sbh t s < t.length then 0 else t.length - s))) := by
    intro o3 o4 o5 o6
    obtain ⟨b1, b2⟩ := skl_le t (t.length - s) s
    by_cases e : sbh t s < t.length
    · refine q_aload_n dX4_wordAt_24 rfl ?_
      refine q_iload_n dX4_wordAt_25 rfl ?_
      refine q_aload_n dX4_wordAt_26 rfl ?_
      refine q_getI fl_RX4_19 rfl (by assumption) h.1 dX4_wordAt_27 ?_
      refine q_icmp_geN (tgt := 37) (by omega) (by omega) dX4_wordAt_30 (by decide) (fun q => ?_) (fun q => ?_)
      · omega
      refine q_iconst (v := nI 0) dX4_wordAt_33 (by decide) ?_
      refine q_goto (tgt := 40) dX4_wordAt_34 (by decide) ?_
      refine q_putI ⟨fl_RX4_49, rfl, rfl⟩ (by assumption) ⟨rfl, rfl⟩ dX4_wordAt_40 ?_
      have hJ : RT (q_up I 353 6 (nI 0)) t := h.up (by omega) (by omega)
      refine q_iload_n dX4_wordAt_43 rfl ?_
      refine q_aload_n dX4_wordAt_44 rfl ?_
      refine q_getI fl_RX4_19 rfl (by assumption) hJ.1 dX4_wordAt_45 ?_
      refine q_icmp_ltN (tgt := 53) (by omega) (by omega) dX4_wordAt_48 (by decide) (fun q2 => ?_) (fun q2 => ?_)
      · refine q_words (fun _ h => h.2.2) dX4_wordAt_53 ?_
        refine q_astore_n (ls' := [_, _, _, _, _, _, _]) dX4_wordAt_56 (Nat.le_of_ble_eq_true rfl) rfl ?_
        refine q_aload_n dX4_wordAt_57 rfl ?_
        refine q_wlen rfl dX4_wordAt_58 ?_
        refine q_istore (ls' := [_, _, _, _, _, _, _]) dX4_wordAt_59 (Nat.le_of_ble_eq_true rfl) rfl ?_
        refine q_iconst (v := nI 0) dX4_wordAt_61 (by decide) ?_
        refine q_istore (ls' := [_, _, _, _, _, _, _]) dX4_wordAt_62 (Nat.le_of_ble_eq_true rfl) rfl ?_
        exact words _ _ rfl e hJ (by rw [if_pos e]) 5 0 _ rfl (by rw [swd, if_pos e])
      · omega
    · have hb : sbh t s = t.length := by
        have b2 : sbh t s ≤ s + (t.length - s) := b2
        omega
      rw [if_neg e, show swd t s = 0 by rw [swd, if_neg e], hb]
      refine q_aload_n dX4_wordAt_24 rfl ?_
      refine q_iload_n dX4_wordAt_25 rfl ?_
      refine q_aload_n dX4_wordAt_26 rfl ?_
      refine q_getI fl_RX4_19 rfl (by assumption) h.1 dX4_wordAt_27 ?_
      refine q_icmp_geN (tgt := 37) (by omega) (by omega) dX4_wordAt_30 (by decide) (fun q => ?_) (fun q => ?_)
      · refine q_iload_n dX4_wordAt_37 rfl ?_
        refine q_iload_n dX4_wordAt_38 rfl ?_
        refine q_isub dX4_wordAt_39 ?_
        rw [pk_sub hs]
        refine q_putI ⟨fl_RX4_49, rfl, rfl⟩ (by assumption) ⟨rfl, rfl⟩ dX4_wordAt_40 ?_
        have hJ : RT (q_up I 353 6 (nI (t.length - s))) t := h.up (by omega) (by omega)
        refine q_iload_n dX4_wordAt_43 rfl ?_
        refine q_aload_n dX4_wordAt_44 rfl ?_
        refine q_getI fl_RX4_19 rfl (by assumption) hJ.1 dX4_wordAt_45 ?_
        refine q_icmp_ltN (tgt := 53) (by omega) (by omega) dX4_wordAt_48 (by decide) (fun q2 => ?_) (fun q2 => ?_)
        · omega
        · refine q_null dX4_wordAt_51 ?_
          exact q_aretN rfl dX4_wordAt_52 ⟨rfl, rfl⟩
      · omega
  have letters : ∀ (d i : Nat) (o3 o4 o5 o6 : Option Value), i + d = t.length → skl t d i = sbh t s → q_X kX4_wordAt 2 [some (.ref 353), some (.int (nI s)), some (.int (nI i)), o3, o4, o5, o6] [] I (fun v J => v = some (wrf (swd t s)) ∧ J = q_up I 353 6 (nI (if sbh t s < t.length then 0 else t.length - s))) := by
    intro d
    induction d with
    | zero =>
      intro i o3 o4 o5 o6 hd he
      refine q_iload_n dX4_wordAt_2 rfl ?_
      refine q_aload_n dX4_wordAt_3 rfl ?_
      refine q_getI fl_RX4_19 rfl (by assumption) h.1 dX4_wordAt_4 ?_
      refine q_icmp_geN (tgt := 24) (by omega) (by omega) dX4_wordAt_7 (by decide) (fun q => ?_) (fun q => ?_)
      · rw [show i = sbh t s from he]
        exact behind _ _ _ _
      · omega
    | succ d ih =>
      intro i o3 o4 o5 o6 hd he
      refine q_iload_n dX4_wordAt_2 rfl ?_
      refine q_aload_n dX4_wordAt_3 rfl ?_
      refine q_getI fl_RX4_19 rfl (by assumption) h.1 dX4_wordAt_4 ?_
      refine q_icmp_geN (tgt := 24) (by omega) (by omega) dX4_wordAt_7 (by decide) (fun q => ?_) (fun q => ?_)
      · omega
      refine q_aload_n dX4_wordAt_10 rfl ?_
      refine q_iload_n dX4_wordAt_11 rfl ?_
      refine q_cV (as := [_]) lk_RX4_91 (c_isLetter ht h (i := i) (by omega)) (Or.inl ⟨4, by decide, by assumption, rfl⟩) rfl (by decide) (Nat.le_of_ble_eq_true rfl) dX4_wordAt_12 ?_
      rintro v J ⟨rfl, rfl⟩
      by_cases e : isl (gt t i)
      · rw [if_pos e]
        refine q_if_eq (tgt := 24) dX4_wordAt_15 (by decide) (fun q2 => ?_) (fun q2 => ?_)
        · exact absurd q2 (by decide)
        · refine q_iinc (ls' := [_, _, _, _, _, _, _]) dX4_wordAt_18 rfl (nI_add _ 1) rfl ?_
          refine q_goto (tgt := 2) dX4_wordAt_21 (by decide) ?_
          rw [skl, if_pos e] at he
          exact ih (i + 1) _ _ _ _ (by omega) he
      · rw [if_neg e]
        refine q_if_eq (tgt := 24) dX4_wordAt_15 (by decide) (fun q2 => ?_) (fun q2 => ?_)
        · rw [skl, if_neg e] at he
          rw [he]
          exact behind _ _ _ _
        · exact absurd rfl q2
  refine q_M.of pnX4_wordAt (by simp [Value.category]) (Nat.le_of_ble_eq_true rfl) ?_
  refine q_iload_n dX4_wordAt_0 rfl ?_
  refine q_istore_n (ls' := [_, _, _, _, _, _, _]) dX4_wordAt_1 (Nat.le_of_ble_eq_true rfl) rfl ?_
  exact letters (t.length - s) s _ _ _ _ (by omega) rfl
