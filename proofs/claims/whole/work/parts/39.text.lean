/-! the class's text: what is read -/
def gt (t : List Nat) (i : Nat) : Nat := (t[i]?).getD 0
def tok (t : List Nat) : Prop := t.length ≤ 60 ∧ ∀ c, c ∈ t → 32 ≤ c ∧ c ≤ 126
def RT (I : q_Mem) (t : List Nat) : Prop := I 353 2 = nI t.length ∧ ∀ i c, t[i]? = some c → I 354 i = nI c
abbrev isl (c : Nat) : Prop := 97 ≤ c ∧ c ≤ 122
abbrev isd (c : Nat) : Prop := 48 ≤ c ∧ c ≤ 57
/-- the first place from i on, d of them, that is no letter -/
def skl (t : List Nat) : Nat → Nat → Nat
  | 0, i => i
  | d + 1, i => if isl (gt t i) then skl t d (i + 1) else i
/-- n letters from s on are the word w -/
abbrev wmt (t : List Nat) (s n w : Nat) : Prop := n = wll w ∧ ∀ j, j < wll w → gt t (s + j) = wlc w j
def wdr (t : List Nat) (s n : Nat) : Nat → Nat → Nat
  | 0, _ => 0
  | d + 1, k => if wmt t s n k then k + 1 else wdr t s n d (k + 1)
/-- how many numbers a word wants, at most and at least -/
def wmo (w : Nat) : Nat := [3, 4, 1, 0, 0].getD w 0
def wle (w : Nat) : Nat := [1, 2, 1, 0, 0].getD w 0
/-- behind a number -/
def rtl (t : List Nat) (w : Nat) (k : Nat → List Nat → Bool × Nat × List Nat) (i : Nat) (l : List Nat) : Bool × Nat × List Nat :=
  if gt t i = 59 ∧ wle w ≤ l.length then (true, i + 1, l) else if gt t i = 44 ∧ l.length < wmo w then k (i + 1) l else (false, i, l)
/-- the numbers from i on: whether they are well, the place behind or the place of the fault, the numbers -/
def rns (t : List Nat) (w : Nat) : Nat → Nat → List Nat → Bool × Nat × List Nat
  | 0, i, l => (false, i, l)
  | d + 1, i, l => if ¬ isd (gt t i) then (false, i, l) else if isd (gt t (i + 1)) then rtl t w (rns t w d) (i + 2) (l ++ [10 * (gt t i - 48) + gt t (i + 1) - 48]) else rtl t w (rns t w d) (i + 1) (l ++ [gt t i - 48])
/-- an order: what follows its word at b -/
def rdb (t : List Nat) (w b : Nat) : Bool × Nat × List Nat :=
  if wmo w = 0 then (if gt t b = 59 then (true, b + 1, []) else (false, b, [])) else if gt t b = 32 then rns t w (wmo w) (b + 1) [] else (false, b, [])
def nmb (l : List Nat) (i : Nat) : Int32 := match l[i]? with
  | some v => nI v
  | none => -1
theorem nar_c : ∀ c, c < 127 → narrow FieldType.char (.int (nI c)) = .int (nI c) ∧ ((nI c).toUInt32 % 65536).toInt32 = nI c ∧ vp_nar .char (nI c) = nI c := by decide
theorem gt_lt {t : List Nat} (ht : tok t) (i : Nat) : gt t i < 127 := by
  unfold gt
  cases h : t[i]? with
  | none => simp
  | some c =>
    have := (ht.2 c (List.mem_of_getElem? h)).2
    simp; omega
theorem gt_0 {t : List Nat} {i : Nat} (h : t.length ≤ i) : gt t i = 0 := by
  rw [gt, List.getElem?_eq_none h]; rfl
theorem gt_in {t : List Nat} {i : Nat} (h : ¬ gt t i = 0) : i < t.length := by
  rcases Nat.lt_or_ge i t.length with q | q
  · exact q
  · exact absurd (gt_0 q) h
theorem k354 : q_kd (353 + 1) = 11 := by decide
theorem k355 : q_kd (353 + 2) = 10 := by decide
theorem c_character {t : List Nat} {i : Nat} {I : q_Mem} (ht : tok t) (h : RT I t) (hi : i < 2 ^ 30) : q_M kX4_characterAt [.ref 353, .int (nI i)] I (fun v J => v = some (.int (nI (gt t i))) ∧ I = J) := by
  have k353 := k353
  have k354 := k354
  have hn := ht.1
  refine q_M.of pnX4_characterAt (by simp [Value.category]) (Nat.le_of_ble_eq_true rfl) ?_
  refine q_iload_n dX4_characterAt_0 rfl ?_
  refine q_if_ltN (tgt := 30) (by omega) dX4_characterAt_1 (by decide) (fun q => ?_) (fun q => ?_)
  · omega
  refine q_iload_n dX4_characterAt_4 rfl ?_
  refine q_aload_n dX4_characterAt_5 rfl ?_
  refine q_getI fl_RX4_19 rfl (by assumption) h.1 dX4_characterAt_6 ?_
  refine q_icmp_geN (tgt := 30) (by omega) (by omega) dX4_characterAt_9 (by decide) (fun q2 => ?_) (fun q2 => ?_)
  · refine q_iconst (v := nI 0) dX4_characterAt_30 (by decide) ?_
    exact q_iret rfl rfl dX4_characterAt_31 ⟨by rw [gt_0 q2], rfl⟩
  · refine q_iload_n dX4_characterAt_12 rfl ?_
    refine q_aload_n dX4_characterAt_13 rfl ?_
    refine q_getR fl_RX4_9 rfl (by assumption) dX4_characterAt_14 ?_
    refine q_alen (by assumption) (by decide) (by decide) ((show nI (q_ln (353 + 1)) = nI 60 from rfl)) dX4_characterAt_17 ?_
    refine q_icmp_geN (tgt := 30) (by omega) (by omega) dX4_characterAt_18 (by decide) (fun q3 => ?_) (fun q3 => ?_)
    · omega
    · obtain ⟨c, hc⟩ : ∃ c, t[i]? = some c := ⟨_, List.getElem?_eq_getElem q2⟩
      have hg : gt t i = c := by rw [gt, hc]; rfl
      have hc2 := gt_lt ht i
      refine q_aload_n dX4_characterAt_21 rfl ?_
      refine q_getR fl_RX4_9 rfl (by assumption) dX4_characterAt_22 ?_
      refine q_iload_n dX4_characterAt_25 rfl ?_
      refine q_cald (by assumption) rfl ((show i < q_ln (353 + 1) from Nat.lt_of_lt_of_le q3 (by decide))) (by decide) (h.2 i c hc) dX4_characterAt_26 ?_
      refine q_goto (tgt := 31) dX4_characterAt_27 (by decide) ?_
      exact q_iret rfl (nar_c c (by omega)).1 dX4_characterAt_31 ⟨by rw [hg], rfl⟩
theorem c_isLetter {t : List Nat} {i : Nat} {I : q_Mem} (ht : tok t) (h : RT I t) (hi : i < 2 ^ 30) : q_M kX4_isLetter [.ref 353, .int (nI i)] I (fun v J => v = some (.int (if isl (gt t i) then 1 else 0)) ∧ I = J) := by
  have k353 := k353
  have hl := gt_lt ht i
  refine q_M.of pnX4_isLetter (by simp [Value.category]) (Nat.le_of_ble_eq_true rfl) ?_
  refine q_aload_n dX4_isLetter_0 rfl ?_
  refine q_iload_n dX4_isLetter_1 rfl ?_
  refine q_cV (as := [_]) lk_RX4_115 (c_character ht h hi) (Or.inl ⟨4, by decide, by assumption, rfl⟩) rfl (by decide) (Nat.le_of_ble_eq_true rfl) dX4_isLetter_2 ?_
  rintro v J ⟨rfl, rfl⟩
  refine q_bipush (v := nI 97) dX4_isLetter_5 (by decide) ?_
  refine q_icmp_ltN (tgt := 24) (by omega) (by omega) dX4_isLetter_7 (by decide) (fun q => ?_) (fun q => ?_)
  · refine q_iconst (v := nI 0) dX4_isLetter_24 (by decide) ?_
    exact q_iret rfl rfl dX4_isLetter_25 ⟨by rw [if_neg (by omega)]; rfl, rfl⟩
  · refine q_aload_n dX4_isLetter_10 rfl ?_
    refine q_iload_n dX4_isLetter_11 rfl ?_
    refine q_cV (as := [_]) lk_RX4_115 (c_character ht h hi) (Or.inl ⟨4, by decide, by assumption, rfl⟩) rfl (by decide) (Nat.le_of_ble_eq_true rfl) dX4_isLetter_12 ?_
    rintro v J ⟨rfl, rfl⟩
    refine q_bipush (v := nI 122) dX4_isLetter_15 (by decide) ?_
    refine q_icmp_gtN (tgt := 24) (by omega) (by omega) dX4_isLetter_17 (by decide) (fun q2 => ?_) (fun q2 => ?_)
    · refine q_iconst (v := nI 0) dX4_isLetter_24 (by decide) ?_
      exact q_iret rfl rfl dX4_isLetter_25 ⟨by rw [if_neg (by omega)]; rfl, rfl⟩
    · refine q_iconst (v := nI 1) dX4_isLetter_20 (by decide) ?_
      refine q_goto (tgt := 25) dX4_isLetter_21 (by decide) ?_
      exact q_iret rfl rfl dX4_isLetter_25 ⟨by rw [if_pos (by omega)]; rfl, rfl⟩
theorem c_isDigit {t : List Nat} {i : Nat} {I : q_Mem} (ht : tok t) (h : RT I t) (hi : i < 2 ^ 30) : q_M kX4_isDigit [.ref 353, .int (nI i)] I (fun v J => v = some (.int (if isd (gt t i) then 1 else 0)) ∧ I = J) := by
  have k353 := k353
  have hl := gt_lt ht i
  refine q_M.of pnX4_isDigit (by simp [Value.category]) (Nat.le_of_ble_eq_true rfl) ?_
  refine q_aload_n dX4_isDigit_0 rfl ?_
  refine q_iload_n dX4_isDigit_1 rfl ?_
  refine q_cV (as := [_]) lk_RX4_115 (c_character ht h hi) (Or.inl ⟨4, by decide, by assumption, rfl⟩) rfl (by decide) (Nat.le_of_ble_eq_true rfl) dX4_isDigit_2 ?_
  rintro v J ⟨rfl, rfl⟩
  refine q_bipush (v := nI 48) dX4_isDigit_5 (by decide) ?_
  refine q_icmp_ltN (tgt := 24) (by omega) (by omega) dX4_isDigit_7 (by decide) (fun q => ?_) (fun q => ?_)
  · refine q_iconst (v := nI 0) dX4_isDigit_24 (by decide) ?_
    exact q_iret rfl rfl dX4_isDigit_25 ⟨by rw [if_neg (by omega)]; rfl, rfl⟩
  · refine q_aload_n dX4_isDigit_10 rfl ?_
    refine q_iload_n dX4_isDigit_11 rfl ?_
    refine q_cV (as := [_]) lk_RX4_115 (c_character ht h hi) (Or.inl ⟨4, by decide, by assumption, rfl⟩) rfl (by decide) (Nat.le_of_ble_eq_true rfl) dX4_isDigit_12 ?_
    rintro v J ⟨rfl, rfl⟩
    refine q_bipush (v := nI 57) dX4_isDigit_15 (by decide) ?_
    refine q_icmp_gtN (tgt := 24) (by omega) (by omega) dX4_isDigit_17 (by decide) (fun q2 => ?_) (fun q2 => ?_)
    · refine q_iconst (v := nI 0) dX4_isDigit_24 (by decide) ?_
      exact q_iret rfl rfl dX4_isDigit_25 ⟨by rw [if_neg (by omega)]; rfl, rfl⟩
    · refine q_iconst (v := nI 1) dX4_isDigit_20 (by decide) ?_
      refine q_goto (tgt := 25) dX4_isDigit_21 (by decide) ?_
      exact q_iret rfl rfl dX4_isDigit_25 ⟨by rw [if_pos (by omega)]; rfl, rfl⟩
theorem c_numberAt {l : List Nat} {i : Nat} {I : q_Mem} (h : ∀ i, i < 4 → I 355 i = nmb l i) (hi : i < 4) : q_M kX4_numberAt [.ref 353, .int (nI i)] I (fun v J => v = some (.int (nmb l i)) ∧ I = J) := by
  have k353 := k353
  have k355 := k355
  refine q_M.of pnX4_numberAt (by simp [Value.category]) (Nat.le_of_ble_eq_true rfl) ?_
  refine q_iload_n dX4_numberAt_0 rfl ?_
  refine q_if_ltN (tgt := 22) (by omega) dX4_numberAt_1 (by decide) (fun q => ?_) (fun q => ?_)
  · omega
  refine q_iload_n dX4_numberAt_4 rfl ?_
  refine q_aload_n dX4_numberAt_5 rfl ?_
  refine q_getR fl_RX4_15 rfl (by assumption) dX4_numberAt_6 ?_
  refine q_alen (by assumption) (by decide) (by decide) ((show nI (q_ln (353 + 2)) = nI 4 from rfl)) dX4_numberAt_9 ?_
  refine q_icmp_geN (tgt := 22) (by omega) (by omega) dX4_numberAt_10 (by decide) (fun q2 => ?_) (fun q2 => ?_)
  · omega
  refine q_aload_n dX4_numberAt_13 rfl ?_
  refine q_getR fl_RX4_15 rfl (by assumption) dX4_numberAt_14 ?_
  refine q_iload_n dX4_numberAt_17 rfl ?_
  refine q_iald (by assumption) rfl ((show i < q_ln (353 + 2) from Nat.lt_of_lt_of_le hi (by decide))) (by decide) (h i hi) dX4_numberAt_18 ?_
  refine q_goto (tgt := 23) dX4_numberAt_19 (by decide) ?_
  exact q_iret rfl rfl dX4_numberAt_23 ⟨rfl, rfl⟩
theorem c_notFitting {s i : Nat} {I : q_Mem} (hs : s ≤ i) : q_M kX4_notFitting [.ref 353, .int (nI s), .int (nI i)] I (fun v J => v = some (.int (-1)) ∧ J = q_up I 353 6 (nI (i - s))) := by
  have k353 := k353
  refine q_M.of pnX4_notFitting (by simp [Value.category]) (Nat.le_of_ble_eq_true rfl) ?_
  refine q_aload_n dX4_notFitting_0 rfl ?_
  refine q_iload_n dX4_notFitting_1 rfl ?_
  refine q_iload_n dX4_notFitting_2 rfl ?_
  refine q_isub dX4_notFitting_3 ?_
  rw [pk_sub hs]
  refine q_putI ⟨fl_RX4_49, rfl, rfl⟩ (by assumption) ⟨rfl, rfl⟩ dX4_notFitting_4 ?_
  refine q_iconst (v := -1) dX4_notFitting_7 (by decide) ?_
  exact q_iret rfl rfl dX4_notFitting_8 ⟨rfl, rfl⟩
theorem c_append {t : List Nat} {c : Nat} {I : q_Mem} (ht : tok t) (h : RT I t) (hc : c < 127) : q_M kX4_append [.ref 353, .int (nI c)] I (fun v J => (t.length = 60 ∧ v = some (.int (-1000003)) ∧ I = J) ∨ (t.length < 60 ∧ v = some (.int (nI (t.length + 1))) ∧ RT J (t ++ [c]) ∧ ∀ a, ¬ a = 353 → ¬ a = 354 → J a = I a)) := by
  have k353 := k353
  have k354 := k354
  have hn := ht.1
  refine q_M.of pnX4_append (by simp [Value.category]) (Nat.le_of_ble_eq_true rfl) ?_
  refine q_aload_n dX4_append_0 rfl ?_
  refine q_getI fl_RX4_19 rfl (by assumption) h.1 dX4_append_1 ?_
  refine q_iconst (v := nI 0) dX4_append_4 (by decide) ?_
  refine q_aload_n dX4_append_5 rfl ?_
  refine q_getR fl_RX4_9 rfl (by assumption) dX4_append_6 ?_
  refine q_alen (by assumption) (by decide) (by decide) ((show nI (q_ln (353 + 1)) = nI 60 from rfl)) dX4_append_9 ?_
  refine q_iconst (v := nI 1) dX4_append_10 (by decide) ?_
  refine q_isub dX4_append_11 ?_
  rw [show nI 60 - nI 1 = nI 59 from rfl]
  refine q_cN (as := [_, _, _]) (host := RX6) lk_RX4_23 (fun _ h => h.2.1) (c_isOutside (x := nI t.length) (l := nI 0) (u := nI 59)) rfl (by decide) (Nat.le_of_ble_eq_true rfl) dX4_append_12 ?_
  rintro v J ⟨rfl, rfl⟩
  by_cases e : t.length = 60
  · rw [if_neg (fun z => Int32.not_lt.mpr z.2 ((nI_ltI (by omega) (by omega)).mpr (by omega)))]
    refine q_if_eq (tgt := 21) dX4_append_15 (by decide) (fun q => ?_) (fun q => ?_)
    · exact absurd q (by decide)
    · refine q_ldc (v := -1000003) ct_RX4_27 dX4_append_18 ?_
      exact q_iret rfl rfl dX4_append_20 (Or.inl ⟨e, rfl, rfl⟩)
  · rw [if_pos ⟨nI_pos' (by omega), Int32.not_lt.mp (fun z => by have := (nI_ltI (by omega) (by omega)).mp z; omega)⟩]
    refine q_if_eq (tgt := 21) dX4_append_15 (by decide) (fun q => ?_) (fun q => ?_)
    rotate_left
    · exact absurd rfl q
    have hlt : t.length < 60 := by omega
    refine q_aload_n dX4_append_21 rfl ?_
    refine q_getR fl_RX4_9 rfl (by assumption) dX4_append_22 ?_
    refine q_aload_n dX4_append_25 rfl ?_
    refine q_getI fl_RX4_19 rfl (by assumption) h.1 dX4_append_26 ?_
    refine q_iload_n dX4_append_29 rfl ?_
    refine q_cast k354 rfl (show t.length < q_ln (353 + 1) from Nat.lt_of_lt_of_le hlt (by decide)) (by decide) (nar_c c hc).2.2 dX4_append_30 ?_
    refine q_aload_n dX4_append_31 rfl ?_
    refine q_dup dX4_append_32 rfl ?_
    refine q_getI fl_RX4_19 rfl (by assumption) ((q_up_n (by omega)).trans h.1) dX4_append_33 ?_
    refine q_iconst (v := nI 1) dX4_append_36 (by decide) ?_
    refine q_iadd dX4_append_37 ?_
    rw [nI_add]
    refine q_putI ⟨fl_RX4_19, rfl, rfl⟩ (by assumption) ⟨rfl, rfl⟩ dX4_append_38 ?_
    refine q_aload_n dX4_append_41 rfl ?_
    refine q_getI fl_RX4_19 rfl (by assumption) q_up_s dX4_append_42 ?_
    refine q_iret rfl rfl dX4_append_45 (Or.inr ⟨hlt, rfl, ⟨?_, ?_⟩, ?_⟩)
    · rw [q_up_s]; simp
    · intro i d hd
      rw [q_up_n (by omega)]
      by_cases e2 : i = t.length
      · subst e2
        rw [List.getElem?_append_right (Nat.le_refl _)] at hd
        simp at hd
        rw [q_up_s, hd]
      · rw [q_up_n (by omega)]
        have hi : i < t.length := by
          have := g_lt hd (show (t ++ [c]).length ≤ t.length + 1 by simp)
          omega
        rw [List.getElem?_append_left hi] at hd
        exact h.2 i d hd
    · intro a a1 a2
      funext j
      rw [q_up_n (fun z => a1 z.1), q_up_n (fun z => a2 z.1)]
