/-! the class plays its text -/
theorem c_answerTo {w : Nat} {l : List Nat} {I : q_Mem} {σ : q_S} (hw5 : w < 5) (hN : ∀ i, i < 4 → I 355 i = nmb l i) (h : RC 51 I σ) (hs : sok σ) : q_M kX4_answerTo [.ref 353, .ref (363 + w), .ref 51] I (fun v J => v = some (.int (opo σ w l).1) ∧ RC 51 J (opo σ w l).2 ∧ FC 51 I J) := by
  have k353 := k353
  have k51 := k51
  have hw := hs.1
  have h1 := hs.2.1
  refine q_M.of pnX4_answerTo (by simp [Value.category]) (Nat.le_of_ble_eq_true rfl) ?_
  refine q_aload_n dX4_answerTo_0 rfl ?_
  refine q_word (i := 0) (by decide) fj_RX4_52 dX4_answerTo_1 ?_
  refine q_acmp_ne (tgt := 27) (by omega) (by omega) dX4_answerTo_4 (by decide) (fun q0 => ?_) (fun q0 => ?_)
  rotate_left
  · subst q0
    refine q_aload_n dX4_answerTo_7 rfl ?_
    refine q_aload_n dX4_answerTo_8 rfl ?_
    refine q_iconst (v := nI 0) dX4_answerTo_9 (by decide) ?_
    refine q_cV (as := [_]) lk_RX4_58 (c_numberAt (i := 0) hN (by omega)) (Or.inl ⟨4, by decide, by assumption, rfl⟩) rfl (by decide) (Nat.le_of_ble_eq_true rfl) dX4_answerTo_10 ?_
    rintro v J ⟨rfl, rfl⟩
    refine q_aload_n dX4_answerTo_13 rfl ?_
    refine q_iconst (v := nI 1) dX4_answerTo_14 (by decide) ?_
    refine q_cV (as := [_]) lk_RX4_58 (c_numberAt (i := 1) hN (by omega)) (Or.inl ⟨4, by decide, by assumption, rfl⟩) rfl (by decide) (Nat.le_of_ble_eq_true rfl) dX4_answerTo_15 ?_
    rintro v J ⟨rfl, rfl⟩
    refine q_aload_n dX4_answerTo_18 rfl ?_
    refine q_iconst (v := nI 2) dX4_answerTo_19 (by decide) ?_
    refine q_cV (as := [_]) lk_RX4_58 (c_numberAt (i := 2) hN (by omega)) (Or.inl ⟨4, by decide, by assumption, rfl⟩) rfl (by decide) (Nat.le_of_ble_eq_true rfl) dX4_answerTo_20 ?_
    rintro v J ⟨rfl, rfl⟩
    refine q_cV (as := [_, _, _]) lk_RX4_62 (c_addPerson k51 h hw h1) (Or.inl ⟨3, by decide, by assumption, rfl⟩) rfl (by decide) (Nat.le_of_ble_eq_true rfl) dX4_answerTo_23 ?_
    rintro v J ⟨rfl, e1, e2⟩
    exact q_iret rfl rfl dX4_answerTo_26 ⟨rfl, e1, e2⟩
  refine q_aload_n dX4_answerTo_27 rfl ?_
  refine q_word (i := 1) (by decide) fj_RX4_68 dX4_answerTo_28 ?_
  refine q_acmp_ne (tgt := 59) (by omega) (by omega) dX4_answerTo_31 (by decide) (fun q1 => ?_) (fun q1 => ?_)
  rotate_left
  · subst q1
    refine q_aload_n dX4_answerTo_34 rfl ?_
    refine q_aload_n dX4_answerTo_35 rfl ?_
    refine q_iconst (v := nI 0) dX4_answerTo_36 (by decide) ?_
    refine q_cV (as := [_]) lk_RX4_58 (c_numberAt (i := 0) hN (by omega)) (Or.inl ⟨4, by decide, by assumption, rfl⟩) rfl (by decide) (Nat.le_of_ble_eq_true rfl) dX4_answerTo_37 ?_
    rintro v J ⟨rfl, rfl⟩
    refine q_aload_n dX4_answerTo_40 rfl ?_
    refine q_iconst (v := nI 1) dX4_answerTo_41 (by decide) ?_
    refine q_cV (as := [_]) lk_RX4_58 (c_numberAt (i := 1) hN (by omega)) (Or.inl ⟨4, by decide, by assumption, rfl⟩) rfl (by decide) (Nat.le_of_ble_eq_true rfl) dX4_answerTo_42 ?_
    rintro v J ⟨rfl, rfl⟩
    refine q_aload_n dX4_answerTo_45 rfl ?_
    refine q_iconst (v := nI 2) dX4_answerTo_46 (by decide) ?_
    refine q_cV (as := [_]) lk_RX4_58 (c_numberAt (i := 2) hN (by omega)) (Or.inl ⟨4, by decide, by assumption, rfl⟩) rfl (by decide) (Nat.le_of_ble_eq_true rfl) dX4_answerTo_47 ?_
    rintro v J ⟨rfl, rfl⟩
    refine q_aload_n dX4_answerTo_50 rfl ?_
    refine q_iconst (v := nI 3) dX4_answerTo_51 (by decide) ?_
    refine q_cV (as := [_]) lk_RX4_58 (c_numberAt (i := 3) hN (by omega)) (Or.inl ⟨4, by decide, by assumption, rfl⟩) rfl (by decide) (Nat.le_of_ble_eq_true rfl) dX4_answerTo_52 ?_
    rintro v J ⟨rfl, rfl⟩
    refine q_cV (as := [_, _, _, _]) lk_RX4_71 (c_changeWishes k51 h hw h1) (Or.inl ⟨3, by decide, by assumption, rfl⟩) rfl (by decide) (Nat.le_of_ble_eq_true rfl) dX4_answerTo_55 ?_
    rintro v J ⟨rfl, e1, e2⟩
    exact q_iret rfl rfl dX4_answerTo_58 ⟨rfl, e1, e2⟩
  refine q_aload_n dX4_answerTo_59 rfl ?_
  refine q_word (i := 2) (by decide) fj_RX4_75 dX4_answerTo_60 ?_
  refine q_acmp_ne (tgt := 76) (by omega) (by omega) dX4_answerTo_63 (by decide) (fun q2 => ?_) (fun q2 => ?_)
  rotate_left
  · subst q2
    refine q_aload_n dX4_answerTo_66 rfl ?_
    refine q_aload_n dX4_answerTo_67 rfl ?_
    refine q_iconst (v := nI 0) dX4_answerTo_68 (by decide) ?_
    refine q_cV (as := [_]) lk_RX4_58 (c_numberAt (i := 0) hN (by omega)) (Or.inl ⟨4, by decide, by assumption, rfl⟩) rfl (by decide) (Nat.le_of_ble_eq_true rfl) dX4_answerTo_69 ?_
    rintro v J ⟨rfl, rfl⟩
    refine q_cV (as := [_]) lk_RX4_78 (c_sendAway k51 h hw h1) (Or.inl ⟨3, by decide, by assumption, rfl⟩) rfl (by decide) (Nat.le_of_ble_eq_true rfl) dX4_answerTo_72 ?_
    rintro v J ⟨rfl, e1, e2⟩
    exact q_iret rfl rfl dX4_answerTo_75 ⟨rfl, e1, e2⟩
  refine q_aload_n dX4_answerTo_76 rfl ?_
  refine q_word (i := 3) (by decide) fj_RX4_81 dX4_answerTo_77 ?_
  refine q_acmp_ne (tgt := 90) (by omega) (by omega) dX4_answerTo_80 (by decide) (fun q3 => ?_) (fun q3 => ?_)
  rotate_left
  · subst q3
    refine q_aload_n dX4_answerTo_83 rfl ?_
    have ho : opo σ 3 l = opClose σ := rfl
    rw [ho]
    by_cases e : sG σ 1 = 1
    · have hc : opClose σ = (-1000002, σ) := by rw [opClose, if_pos e]
      rw [hc]
      refine q_cV (as := []) lk_RX4_84 (c_closeTermC k51 h e) (Or.inl ⟨3, by decide, by assumption, rfl⟩) rfl (by decide) (Nat.le_of_ble_eq_true rfl) dX4_answerTo_84 ?_
      rintro v J ⟨rfl, rfl⟩
      refine q_goto (tgt := 94) dX4_answerTo_87 (by decide) ?_
      exact q_iret rfl rfl dX4_answerTo_94 ⟨rfl, h, FC.rf⟩
    · have hc : opClose σ = (nI (bcnt 8 (sbits (fun c => decide (sC (sclose σ) c 6 = 2)) 8)), sclose σ) := by rw [opClose, if_neg e]
      rw [hc]
      refine q_cV (as := []) lk_RX4_84 (c_closeTerm k51 h hw (op0 hs e)) (Or.inl ⟨3, by decide, by assumption, rfl⟩) rfl (by decide) (Nat.le_of_ble_eq_true rfl) dX4_answerTo_84 ?_
      rintro v J ⟨rfl, e1, e2⟩
      refine q_goto (tgt := 94) dX4_answerTo_87 (by decide) ?_
      exact q_iret rfl rfl dX4_answerTo_94 ⟨rfl, e1, e2⟩
  have ho : opo σ w l = opTerm σ := by rw [opo, if_neg q0, if_neg q1, if_neg q2, if_neg q3]
  rw [ho]
  refine q_aload_n dX4_answerTo_90 rfl ?_
  refine q_cV (as := []) lk_RX4_88 (c_nextTerm k51 h hw h1) (Or.inl ⟨3, by decide, by assumption, rfl⟩) rfl (by decide) (Nat.le_of_ble_eq_true rfl) dX4_answerTo_91 ?_
  rintro v J ⟨rfl, e1, e2⟩
  exact q_iret rfl rfl dX4_answerTo_94 ⟨rfl, e1, e2⟩
/-- what stays while a text is played in the season at 51 -/
def FP (I J : q_Mem) : Prop := ∀ a, ¬ a = 353 → ¬ a = 355 → (a < 51 ∨ 101 ≤ a) → J a = I a
def plQ (t : List Nat) (I : q_Mem) (r : q_S × Nat × Nat × Nat × Int32) (v : Option Value) (J : q_Mem) : Prop :=
  v = none ∧ RC 51 J r.1 ∧ J 353 3 = nI r.2.1 ∧ J 353 5 = nI r.2.2.1 ∧ (¬ r.2.2.1 = 0 → J 353 4 = nI r.2.2.2.1 ∧ J 353 6 = r.2.2.2.2) ∧ RT J t ∧ FP I J
theorem wdr_le (t : List Nat) (s n : Nat) : ∀ d k, wdr t s n d k ≤ k + d ∧ (¬ wdr t s n d k = 0 → wmt t s n (wdr t s n d k - 1)) := by
  intro d
  induction d with
  | zero => intro k; exact ⟨Nat.zero_le _, fun z => absurd rfl z⟩
  | succ d ih =>
    intro k
    rw [wdr]
    split
    · next e => exact ⟨by omega, fun _ => e⟩
    · have := ih (k + 1); exact ⟨by omega, this.2⟩
theorem swd_le (t : List Nat) (s : Nat) : swd t s ≤ 5 ∧ (¬ swd t s = 0 → s + wll (swd t s - 1) = sbh t s ∧ sbh t s < t.length) := by
  unfold swd
  split
  · next e =>
    have h := wdr_le t s (sbh t s - s) 5 0
    have hle := (skl_le t (t.length - s) s).1
    have hle : s ≤ sbh t s := hle
    refine ⟨by omega, fun z => ⟨?_, e⟩⟩
    have := (h.2 z).1
    omega
  · exact ⟨Nat.zero_le _, fun z => absurd rfl z⟩
theorem rns_end {t : List Nat} {w : Nat} : ∀ d i l, (rns t w d i l).1 = true → i < (rns t w d i l).2.1 ∧ (rns t w d i l).2.1 ≤ t.length := by
  intro d
  induction d with
  | zero => intro i l h; cases h
  | succ d ih =>
    intro i l h
    have tl : ∀ i l, (rtl t w (rns t w d) i l).1 = true → i < (rtl t w (rns t w d) i l).2.1 ∧ (rtl t w (rns t w d) i l).2.1 ≤ t.length := by
      intro i l h
      unfold rtl at h ⊢
      by_cases e : gt t i = 59 ∧ wle w ≤ l.length
      · rw [if_pos e]
        have := gt_in (t := t) (i := i) (by omega)
        exact ⟨Nat.lt_succ_self _, this⟩
      · rw [if_neg e] at h ⊢
        by_cases e2 : gt t i = 44 ∧ l.length < wmo w
        · rw [if_pos e2] at h ⊢
          have := ih (i + 1) l h
          exact ⟨by omega, this.2⟩
        · rw [if_neg e2] at h; cases h
    unfold rns at h ⊢
    by_cases e : ¬ isd (gt t i)
    · rw [if_pos e] at h; cases h
    rw [if_neg e] at h ⊢
    by_cases e2 : isd (gt t (i + 1))
    · rw [if_pos e2] at h ⊢
      have := tl _ _ h
      exact ⟨by omega, this.2⟩
    · rw [if_neg e2] at h ⊢
      have := tl _ _ h
      exact ⟨by omega, this.2⟩
theorem rdb_end {t : List Nat} {w b : Nat} (h : (rdb t w b).1 = true) : b < (rdb t w b).2.1 ∧ (rdb t w b).2.1 ≤ t.length := by
  unfold rdb at h ⊢
  by_cases e : wmo w = 0
  · rw [if_pos e] at h ⊢
    by_cases e2 : gt t b = 59
    · rw [if_pos e2]
      have := gt_in (t := t) (i := b) (by omega)
      exact ⟨Nat.lt_succ_self _, this⟩
    · rw [if_neg e2] at h; cases h
  · rw [if_neg e] at h ⊢
    by_cases e2 : gt t b = 32
    · rw [if_pos e2] at h ⊢
      have := rns_end _ _ _ h
      exact ⟨by omega, this.2⟩
    · rw [if_neg e2] at h; cases h
theorem c_playOn {t : List Nat} {I : q_Mem} {σ : q_S} (ht : tok t) (hT : RT I t) (h : RC 51 I σ) (hs : sok σ) (hn : sG σ 0 < 2 ^ 29) : q_M kX4_playOn [.ref 353, .ref 51] I (plQ t I (ply t 60 0 0 σ)) := by
  have k353 := k353
  have k51 := k51
  have h60 := ht.1
  have key : ∀ (d k s n : Nat) (J : q_Mem) (τ : q_S) (o4 o5 o6 : Option Value), k + d = 60 → s ≤ t.length → RT J t → RC 51 J τ → sok τ → sG τ 0 ≤ sG σ 0 + k → J 353 3 = nI n → J 353 5 = nI 0 → FP I J → q_X kX4_playOn 14 [some (.ref 353), some (.ref 51), some (.int (nI s)), some (.int (nI k)), o4, o5, o6] [] J (plQ t I (ply t d s n τ)) := by
    intro d
    induction d with
    | zero =>
      intro k s n J τ o4 o5 o6 hd hsl hT h hs hG h3 h5 hF
      refine q_iload_n dX4_playOn_14 rfl ?_
      refine q_bipush (v := nI 60) dX4_playOn_15 (by decide) ?_
      refine q_icmp_geN (tgt := 126) (by omega) (by omega) dX4_playOn_17 (by decide) (fun q => ?_) (fun q => ?_)
      · exact q_vret rfl dX4_playOn_126 ⟨rfl, h, h3, h5, fun z => absurd rfl z, hT, hF⟩
      · omega
    | succ d ih =>
      intro k s n J τ o4 o5 o6 hd hsl hT h hs hG h3 h5 hF
      refine q_iload_n dX4_playOn_14 rfl ?_
      refine q_bipush (v := nI 60) dX4_playOn_15 (by decide) ?_
      refine q_icmp_geN (tgt := 126) (by omega) (by omega) dX4_playOn_17 (by decide) (fun q => ?_) (fun q => ?_)
      · omega
      refine q_iload_n dX4_playOn_20 rfl ?_
      refine q_aload_n dX4_playOn_21 rfl ?_
      refine q_getI fl_RX4_19 rfl (by assumption) hT.1 dX4_playOn_22 ?_
      rw [ply]
      refine q_icmp_geN (tgt := 126) (by omega) (by omega) dX4_playOn_25 (by decide) (fun q2 => ?_) (fun q2 => ?_)
      · rw [if_neg (by omega)]
        exact q_vret rfl dX4_playOn_126 ⟨rfl, h, h3, h5, fun z => absurd rfl z, hT, hF⟩
      rw [if_pos q2]
      refine q_aload_n dX4_playOn_28 rfl ?_
      refine q_getI fl_RX4_31 rfl (by assumption) h5 dX4_playOn_29 ?_
      refine q_if_neN (tgt := 126) (by omega) dX4_playOn_32 (by decide) (fun q3 => ?_) (fun q3 => ?_)
      · omega
      refine q_aload_n dX4_playOn_35 rfl ?_
      refine q_iload_n dX4_playOn_36 rfl ?_
      refine q_putI ⟨fl_RX4_34, rfl, rfl⟩ (by assumption) ⟨rfl, rfl⟩ dX4_playOn_37 ?_
      refine q_aload_n dX4_playOn_40 rfl ?_
      refine q_iload_n dX4_playOn_41 rfl ?_
      have hT1 := hT.up (a := 353) (j := 4) (x := nI s) (by omega) (by omega)
      have h1 : RC 51 (q_up J 353 4 (nI s)) τ := h.fr (fun a a1 a2 => funext fun j => q_up_n (fun z => by omega))
      have e3 : q_up J 353 4 (nI s) 353 3 = nI n := (q_up_n (by omega)).trans h3
      have e4 : q_up J 353 4 (nI s) 353 4 = nI s := q_up_s
      have e5 : q_up J 353 4 (nI s) 353 5 = nI 0 := (q_up_n (by omega)).trans h5
      have hF1 : FP I (q_up J 353 4 (nI s)) := fun a a1 a2 a3 => (funext fun j => q_up_n (fun z => a1 z.1)).trans (hF a a1 a2 a3)
      generalize q_up J 353 4 (nI s) = K at hT1 h1 e3 e4 e5 hF1
      refine q_cV (as := [_]) lk_RX4_37 (c_wordAt ht hT1 hsl) (Or.inl ⟨4, by decide, by assumption, rfl⟩) rfl (by decide) (Nat.le_of_ble_eq_true rfl) dX4_playOn_42 ?_
      rintro v J' ⟨rfl, rfl⟩
      have hT2 := hT1.up (a := 353) (j := 6) (x := nI (if sbh t s < t.length then 0 else t.length - s)) (by omega) (by omega)
      have e6 : q_up K 353 6 (nI (if sbh t s < t.length then 0 else t.length - s)) 353 6 = nI (if sbh t s < t.length then 0 else t.length - s) := q_up_s
      have e7 : FT K (q_up K 353 6 (nI (if sbh t s < t.length then 0 else t.length - s))) := FT.rf.up (by omega)
      generalize q_up K 353 6 (nI (if sbh t s < t.length then 0 else t.length - s)) = L at hT2 e6 e7
      have FTx : ∀ {M : q_Mem}, FT K M → RC 51 M τ ∧ M 353 3 = nI n ∧ M 353 4 = nI s ∧ M 353 5 = nI 0 ∧ FP I M := by
        intro M hM
        refine ⟨h1.fr (fun a a1 a2 => funext fun j => hM a j (by omega) (by omega)), (hM 353 3 (by omega) (by omega)).trans e3, (hM 353 4 (by omega) (by omega)).trans e4, (hM 353 5 (by omega) (by omega)).trans e5, fun a a1 a2 a3 => (funext fun j => hM a j a2 (by omega)).trans (hF1 a a1 a2 a3)⟩
      -- a fault of the form
      have form : ∀ (M : q_Mem) (c : Int32) (o4 o6 : Option Value), FT K M → RT M t → M 353 6 = c → q_X kX4_playOn 71 [some (.ref 353), some (.ref 51), some (.int (nI s)), some (.int (nI k)), o4, some (.int (-1)), o6] [] M (plQ t I (τ, n, 1, s, c)) := by
        intro M c o4 o6 hM hMt hc
        obtain ⟨m1, m3, m4, m5, mF⟩ := FTx hM
        refine q_aload_n dX4_playOn_71 rfl ?_
        refine q_iconst (v := nI 1) dX4_playOn_72 (by decide) ?_
        refine q_putI ⟨fl_RX4_31, rfl, rfl⟩ (by assumption) ⟨rfl, rfl⟩ dX4_playOn_73 ?_
        refine q_goto (tgt := 120) dX4_playOn_76 (by decide) ?_
        have hT3 := hMt.up (a := 353) (j := 5) (x := nI 1) (by omega) (by omega)
        refine q_iinc (ls' := [_, _, _, _, _, _, _]) dX4_playOn_120 rfl (nI_add _ 1) rfl ?_
        refine q_goto (tgt := 14) dX4_playOn_123 (by decide) ?_
        refine q_iload_n dX4_playOn_14 rfl ?_
        refine q_bipush (v := nI 60) dX4_playOn_15 (by decide) ?_
        refine q_icmp_geN (tgt := 126) (by omega) (by omega) dX4_playOn_17 (by decide) (fun q => ?_) (fun q => ?_)
        · exact q_vret rfl dX4_playOn_126 ⟨rfl, m1.fr (fun a a1 a2 => funext fun j => q_up_n (fun z => by omega)), (q_up_n (by omega)).trans m3, q_up_s, fun _ => ⟨(q_up_n (by omega)).trans m4, (q_up_n (by omega)).trans hc⟩, hT3, fun a a1 a2 a3 => (funext fun j => q_up_n (fun z => a1 z.1)).trans (mF a a1 a2 a3)⟩
        refine q_iload_n dX4_playOn_20 rfl ?_
        refine q_aload_n dX4_playOn_21 rfl ?_
        refine q_getI fl_RX4_19 rfl (by assumption) hT3.1 dX4_playOn_22 ?_
        refine q_icmp_geN (tgt := 126) (by omega) (by omega) dX4_playOn_25 (by decide) (fun q2 => ?_) (fun q2 => ?_)
        · omega
        refine q_aload_n dX4_playOn_28 rfl ?_
        refine q_getI fl_RX4_31 rfl (by assumption) q_up_s dX4_playOn_29 ?_
        refine q_if_neN (tgt := 126) (by omega) dX4_playOn_32 (by decide) (fun q3 => ?_) (fun q3 => ?_)
        · exact q_vret rfl dX4_playOn_126 ⟨rfl, m1.fr (fun a a1 a2 => funext fun j => q_up_n (fun z => by omega)), (q_up_n (by omega)).trans m3, q_up_s, fun _ => ⟨(q_up_n (by omega)).trans m4, (q_up_n (by omega)).trans hc⟩, hT3, fun a a1 a2 a3 => (funext fun j => q_up_n (fun z => a1 z.1)).trans (mF a a1 a2 a3)⟩
        · omega
      obtain ⟨s1, s2⟩ := swd_le t s
      by_cases ew : swd t s = 0
      · rw [if_pos ew, ew]
        rw [show wrf 0 = Value.null from rfl]
        refine q_astoreN (ls' := [_, _, _, _, _, _, _]) dX4_playOn_45 (Nat.le_of_ble_eq_true rfl) rfl ?_
        refine q_aloadN dX4_playOn_47 rfl ?_
        refine q_ifnonnullN dX4_playOn_49 ?_
        refine q_iconst (v := -1) dX4_playOn_52 (by decide) ?_
        refine q_goto (tgt := 63) dX4_playOn_53 (by decide) ?_
        refine q_istore (ls' := [_, _, _, _, _, _, _]) dX4_playOn_63 (Nat.le_of_ble_eq_true rfl) rfl ?_
        refine q_iload dX4_playOn_65 rfl ?_
        refine q_iconst (v := -1) dX4_playOn_67 (by decide) ?_
        refine q_icmp_ne (tgt := 79) dX4_playOn_68 (by decide) (fun q4 => ?_) (fun q4 => ?_)
        · exact absurd rfl q4
        exact form L _ _ _ e7 hT2 e6
      rw [if_neg ew]
      obtain ⟨s3, s4⟩ := s2 ew
      have ho : ord t s = rdb t (swd t s - 1) (s + wll (swd t s - 1)) := rfl
      have hw5 : swd t s - 1 < 5 := by omega
      rw [show wrf (swd t s) = Value.ref (363 + (swd t s - 1)) by rw [wrf, if_neg ew]]
      generalize swd t s - 1 = w at s3 s4 ho hw5 ⊢
      refine q_astore (ls' := [_, _, _, _, _, _, _]) dX4_playOn_45 (Nat.le_of_ble_eq_true rfl) rfl ?_
      refine q_aload dX4_playOn_47 rfl ?_
      refine q_ifnonnull (tgt := 56) dX4_playOn_49 (by decide) ?_
      refine q_aload_n dX4_playOn_56 rfl ?_
      refine q_aload dX4_playOn_57 rfl ?_
      refine q_iload_n dX4_playOn_59 rfl ?_
      refine q_cV (as := [_, _]) lk_RX4_41 (c_readOrder ht hT2 hw5 (by omega)) (Or.inl ⟨4, by decide, by assumption, rfl⟩) rfl (by decide) (Nat.le_of_ble_eq_true rfl) dX4_playOn_60 ?_
      rw [← ho]
      rintro v M ⟨rfl, r2, r3, r4⟩
      have hM := e7.tr r2
      have hMt := r2.rt hT2
      obtain ⟨m1, m3, m4, m5, mF⟩ := FTx hM
      by_cases eo : (ord t s).1 = false
      · rw [if_pos eo, if_neg (fun z => by rw [eo] at z; cases z)]
        refine q_istore (ls' := [_, _, _, _, _, _, _]) dX4_playOn_63 (Nat.le_of_ble_eq_true rfl) rfl ?_
        refine q_iload dX4_playOn_65 rfl ?_
        refine q_iconst (v := -1) dX4_playOn_67 (by decide) ?_
        refine q_icmp_ne (tgt := 79) dX4_playOn_68 (by decide) (fun q4 => ?_) (fun q4 => ?_)
        · exact absurd rfl q4
        exact form M _ _ _ hM hMt (r3 eo)
      rw [if_neg eo]
      have eo : (ord t s).1 = true := by
        cases z : (ord t s).1 with
        | false => exact absurd z eo
        | true => rfl
      have hend := rdb_end (t := t) (w := w) (b := s + wll w) (by rw [← ho]; exact eo)
      rw [← ho] at hend
      rw [if_pos eo]
      have r4 := r4 eo
      generalize (ord t s).2.1 = e at hend ⊢
      generalize (ord t s).2.2 = l at r4 ⊢
      refine q_istore (ls' := [_, _, _, _, _, _, _]) dX4_playOn_63 (Nat.le_of_ble_eq_true rfl) rfl ?_
      refine q_iload dX4_playOn_65 rfl ?_
      refine q_iconst (v := -1) dX4_playOn_67 (by decide) ?_
      refine q_icmp_ne (tgt := 79) dX4_playOn_68 (by decide) (fun q4 => ?_) (fun q4 => ?_)
      rotate_left
      · exact absurd q4 (fun z => by have := (enc_m1 (u := e + 1) (by omega)).mp z; omega)
      refine q_aload_n dX4_playOn_79 rfl ?_
      refine q_aload dX4_playOn_80 rfl ?_
      refine q_aload_n dX4_playOn_82 rfl ?_
      refine q_cV (as := [_, _]) lk_RX4_45 (c_answerTo hw5 r4 m1 hs) (Or.inl ⟨4, by decide, by assumption, rfl⟩) rfl (by decide) (Nat.le_of_ble_eq_true rfl) dX4_playOn_83 ?_
      obtain ⟨g1, g2, g3⟩ := good_opo hs (by omega) w l
      rintro v N ⟨rfl, n1, n2⟩
      have hNt : RT N t := ⟨(congrFun (n2 353 (by omega)) 2).trans hMt.1, fun i c hc => (congrFun (n2 354 (by omega)) i).trans (hMt.2 i c hc)⟩
      have n3 : N 353 3 = nI n := (congrFun (n2 353 (by omega)) 3).trans m3
      have n4 : N 353 4 = nI s := (congrFun (n2 353 (by omega)) 4).trans m4
      have n5 : N 353 5 = nI 0 := (congrFun (n2 353 (by omega)) 5).trans m5
      have nF : FP I N := fun a a1 a2 a3 => (n2 a (by omega)).trans (mF a a1 a2 a3)
      generalize (opo τ w l).1 = x at n1 g3 ⊢
      generalize (opo τ w l).2 = τ' at n1 g1 g2 g3 ⊢
      refine q_istore (ls' := [_, _, _, _, _, _, _]) dX4_playOn_86 (Nat.le_of_ble_eq_true rfl) rfl ?_
      refine q_iload dX4_playOn_88 rfl ?_
      refine q_if_ge (tgt := 107) dX4_playOn_90 (by decide) (fun q5 => ?_) (fun q5 => ?_)
      · rw [if_neg (Int32.not_lt.mpr q5)]
        refine q_aload_n dX4_playOn_107 rfl ?_
        refine q_dup dX4_playOn_108 rfl ?_
        refine q_getI fl_RX4_28 rfl (by assumption) n3 dX4_playOn_109 ?_
        refine q_iconst (v := nI 1) dX4_playOn_112 (by decide) ?_
        refine q_iadd dX4_playOn_113 ?_
        rw [nI_add]
        refine q_putI ⟨fl_RX4_28, rfl, rfl⟩ (by assumption) ⟨rfl, rfl⟩ dX4_playOn_114 ?_
        refine q_iload dX4_playOn_117 rfl ?_
        refine q_istore_n (ls' := [_, _, _, _, _, _, _]) dX4_playOn_119 (Nat.le_of_ble_eq_true rfl) rfl ?_
        refine q_iinc (ls' := [_, _, _, _, _, _, _]) dX4_playOn_120 rfl (nI_add _ 1) rfl ?_
        refine q_goto (tgt := 14) dX4_playOn_123 (by decide) ?_
        refine ih (k + 1) e (n + 1) _ τ' _ _ _ (by omega) hend.2 (hNt.up (by omega) (by omega)) (n1.fr (fun a a1 a2 => funext fun j => q_up_n (fun z => by omega))) g1 (by omega) q_up_s ((q_up_n (by omega)).trans n5) (fun a a1 a2 a3 => (funext fun j => q_up_n (fun z => a1 z.1)).trans (nF a a1 a2 a3))
      · rw [if_pos (Int32.not_le.mp q5)]
        refine q_aload_n dX4_playOn_93 rfl ?_
        refine q_iconst (v := nI 2) dX4_playOn_94 (by decide) ?_
        refine q_putI ⟨fl_RX4_31, rfl, rfl⟩ (by assumption) ⟨rfl, rfl⟩ dX4_playOn_95 ?_
        refine q_aload_n dX4_playOn_98 rfl ?_
        refine q_iload dX4_playOn_99 rfl ?_
        refine q_putI ⟨fl_RX4_49, rfl, rfl⟩ (by assumption) ⟨rfl, rfl⟩ dX4_playOn_101 ?_
        refine q_goto (tgt := 120) dX4_playOn_104 (by decide) ?_
        refine q_iinc (ls' := [_, _, _, _, _, _, _]) dX4_playOn_120 rfl (nI_add _ 1) rfl ?_
        refine q_goto (tgt := 14) dX4_playOn_123 (by decide) ?_
        refine q_iload_n dX4_playOn_14 rfl ?_
        refine q_bipush (v := nI 60) dX4_playOn_15 (by decide) ?_
        have hT3 : RT (q_up (q_up N 353 5 (nI 2)) 353 6 x) t := (hNt.up (a := 353) (j := 5) (by omega) (by omega)).up (by omega) (by omega)
        have fin : plQ t I (τ', n, 2, s, x) none (q_up (q_up N 353 5 (nI 2)) 353 6 x) := ⟨rfl, n1.fr (fun a a1 a2 => funext fun j => (q_up_n (fun z => by omega)).trans (q_up_n (fun z => by omega))), (q_up_n (by omega)).trans ((q_up_n (by omega)).trans n3), (q_up_n (by omega)).trans q_up_s, fun _ => ⟨(q_up_n (by omega)).trans ((q_up_n (by omega)).trans n4), q_up_s⟩, hT3, fun a a1 a2 a3 => (funext fun j => (q_up_n (fun z => a1 z.1)).trans (q_up_n (fun z => a1 z.1))).trans (nF a a1 a2 a3)⟩
        refine q_icmp_geN (tgt := 126) (by omega) (by omega) dX4_playOn_17 (by decide) (fun q => ?_) (fun q => ?_)
        · exact q_vret rfl dX4_playOn_126 fin
        refine q_iload_n dX4_playOn_20 rfl ?_
        refine q_aload_n dX4_playOn_21 rfl ?_
        refine q_getI fl_RX4_19 rfl (by assumption) hT3.1 dX4_playOn_22 ?_
        refine q_icmp_geN (tgt := 126) (by omega) (by omega) dX4_playOn_25 (by decide) (fun q2 => ?_) (fun q2 => ?_)
        · omega
        refine q_aload_n dX4_playOn_28 rfl ?_
        refine q_getI fl_RX4_31 rfl (by assumption) ((q_up_n (by omega)).trans q_up_s) dX4_playOn_29 ?_
        refine q_if_neN (tgt := 126) (by omega) dX4_playOn_32 (by decide) (fun q3 => ?_) (fun q3 => ?_)
        · exact q_vret rfl dX4_playOn_126 fin
        · omega
  refine q_M.of pnX4_playOn (by simp [Value.category]) (Nat.le_of_ble_eq_true rfl) ?_
  refine q_aload_n dX4_playOn_0 rfl ?_
  refine q_iconst (v := nI 0) dX4_playOn_1 (by decide) ?_
  refine q_putI ⟨fl_RX4_28, rfl, rfl⟩ (by assumption) ⟨rfl, rfl⟩ dX4_playOn_2 ?_
  refine q_aload_n dX4_playOn_5 rfl ?_
  refine q_iconst (v := nI 0) dX4_playOn_6 (by decide) ?_
  refine q_putI ⟨fl_RX4_31, rfl, rfl⟩ (by assumption) ⟨rfl, rfl⟩ dX4_playOn_7 ?_
  refine q_iconst (v := nI 0) dX4_playOn_10 (by decide) ?_
  refine q_istore_n (ls' := [_, _, _, _, _, _, _]) dX4_playOn_11 (Nat.le_of_ble_eq_true rfl) rfl ?_
  refine q_iconst (v := nI 0) dX4_playOn_12 (by decide) ?_
  refine q_istore_n (ls' := [_, _, _, _, _, _, _]) dX4_playOn_13 (Nat.le_of_ble_eq_true rfl) rfl ?_
  exact key 60 0 0 0 _ σ _ _ _ rfl (Nat.zero_le _) ((hT.up (by omega) (by omega)).up (by omega) (by omega)) (h.fr (fun a a1 a2 => funext fun j => (q_up_n (fun z => by omega)).trans (q_up_n (fun z => by omega)))) hs (Nat.le_refl _) ((q_up_n (by omega)).trans q_up_s) q_up_s (fun a a1 a2 a3 => funext fun j => (q_up_n (fun z => a1 z.1)).trans (q_up_n (fun z => a1 z.1)))
