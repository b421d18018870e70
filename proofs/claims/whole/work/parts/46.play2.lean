/-! what would be, and playing -/
theorem RG.side {I J : q_Mem} {σ : q_S} {hs : List q_S} {t : List Nat} (h : RG I σ hs t) (hF : FP I J) (h51 : ∃ τ, RC 51 J τ) (hT : RT J t) : RG J σ hs t ∧ FO I J := by
  obtain ⟨h0, -, h2, n, hn, h3, h4, h5, h6, h7⟩ := h
  have e : ∀ a, ¬ a = 353 → ¬ a = 355 → (a < 51 ∨ 101 ≤ a) → J a = I a := hF
  exact ⟨⟨h0.fr (fun a a1 a2 => e a (by omega) (by omega) (by omega)), h51, hT, n, hn, by rw [e 101 (by omega) (by omega) (by omega)]; exact h3, by rw [e 101 (by omega) (by omega) (by omega)]; exact h4, h5, fun m hm => (h6 m hm).imp (fun τ hτ => hτ.fr (fun a a1 a2 => e a (by omega) (by omega) (by omega))), fun i τ hi => (h7 i τ hi).fr (fun a a1 a2 => e a (by omega) (by omega) (by omega))⟩, fun a ha => e a (by omega) (by omega) (by omega)⟩
theorem FP.of {I J : q_Mem} (h : FC 51 I J) : FP I J := fun a _ _ a3 => h a (by omega)
theorem g_ifClose {w : Int32} {I : q_Mem} {σ : q_S} {hs : List q_S} {t : List Nat} (h : RG I σ hs t) (hs1 : sok σ) : q_M kX6_ifClose [.ref 0, .int w] I (fun v J => v = some (.int (qIfClose σ w)) ∧ RG J σ hs t ∧ FO I J) := by
  obtain ⟨τ, hτ⟩ := h.2.1
  refine (c_ifClose h.1 hs1 hτ).mono ?_
  rintro v J ⟨rfl, e1, e2⟩
  exact ⟨rfl, h.side (FP.of e2) e1 (h.2.2.1.fr (e2 353 (by omega)) (e2 354 (by omega)))⟩
theorem ply_ok (t : List Nat) : ∀ d s n σ, sok σ → sG σ 0 + d < 2 ^ 30 → sok (ply t d s n σ).1 ∧ sG (ply t d s n σ).1 0 ≤ sG σ 0 + d ∧ (ply t d s n σ).2.1 ≤ n + d ∧ (ply t d s n σ).2.2.1 ≤ 2 ∧ (s ≤ 60 → tok t → (ply t d s n σ).2.2.2.1 ≤ 60) := by
  intro d
  induction d with
  | zero => intro s n σ h hn; exact ⟨h, Nat.le_refl _, Nat.le_refl _, Nat.zero_le _, fun z _ => z⟩
  | succ d ih =>
    intro s n σ h hn
    have hg := good_opo h (by omega) (swd t s - 1) (ord t s).2.2
    rw [ply]
    split
    · split
      · exact ⟨h, Nat.le_add_right _ _, Nat.le_add_right _ _, by show (1 : Nat) ≤ 2; omega, fun z _ => z⟩
      · split
        · exact ⟨h, Nat.le_add_right _ _, Nat.le_add_right _ _, by show (1 : Nat) ≤ 2; omega, fun z _ => z⟩
        · split
          · exact ⟨hg.1, Nat.le_trans hg.2.1 (by omega), Nat.le_add_right _ _, Nat.le_refl _, fun z _ => z⟩
          · next e1 e2 e3 e4 =>
            have := ih (ord t s).2.1 (n + 1) _ hg.1 (by have := hg.2.1; omega)
            refine ⟨this.1, by have := hg.2.1; omega, by omega, this.2.2.2.1, fun z zt => this.2.2.2.2 ?_ zt⟩
            have he : (ord t s).1 = true := by
              cases q : (ord t s).1 with
              | false => exact absurd q e3
              | true => rfl
            have := rdb_end (t := t) (w := swd t s - 1) (b := s + wll (swd t s - 1)) he
            exact Nat.le_trans this.2 zt.1
    · exact ⟨h, Nat.le_add_right _ _, Nat.le_add_right _ _, Nat.zero_le _, fun z _ => z⟩
def qFault (σ : q_S) (t : List Nat) (w : Int32) : Int32 :=
  if isC 3 w then (if (ply t 60 0 0 σ).2.2.1 = 0 then -1000004 else if w = 0 then nI (ply t 60 0 0 σ).2.2.2.1 else if w = 1 then nI (ply t 60 0 0 σ).2.2.1 else (ply t 60 0 0 σ).2.2.2.2) else -1000001
theorem c_fault {w : Int32} {I : q_Mem} {σ : q_S} {hs : List q_S} {t : List Nat} (h : RG I σ hs t) (hs1 : sok σ) (ht : tok t) (hn : sG σ 0 < 2 ^ 29) : q_M kX6_fault [.ref 0, .int w] I (fun v J => v = some (.int (qFault σ t w)) ∧ RG J σ hs t ∧ FO I J) := by
  have k0 := k0
  have k353 := k353
  have hw := hs1.1
  obtain ⟨h0, ⟨τ, hτ⟩, hT, -⟩ := id h
  refine q_M.of pnX6_fault (by simp [Value.category]) (Nat.le_of_ble_eq_true rfl) ?_
  refine q_iload_n dX6_fault_0 rfl ?_
  refine q_iconst (v := nI 0) dX6_fault_1 (by decide) ?_
  refine q_iconst (v := nI 2) dX6_fault_2 (by decide) ?_
  refine q_cS (as := [_, _, _]) lk_RX6_168 (c_isOutside (x := w) (l := nI 0) (u := nI 2)) rfl (by decide) (Nat.le_of_ble_eq_true rfl) dX6_fault_3 ?_
  rintro v J ⟨rfl, rfl⟩
  by_cases hwc : isC 3 w
  case neg =>
    rw [if_neg (fun z => hwc ((isC_le (by omega)).mpr z))]
    refine q_if_eq (tgt := 12) dX6_fault_6 (by decide) (fun q => ?_) (fun q => ?_)
    · exact absurd q (by decide)
    · refine q_ldc (v := -1000001) ct_RX6_69 dX6_fault_9 ?_
      exact q_iret rfl rfl dX6_fault_11 ⟨by rw [qFault, if_neg hwc], h, FO.rf⟩
  rw [if_pos ((isC_le (by omega)).mp hwc)]
  have hq : qFault σ t w = if (ply t 60 0 0 σ).2.2.1 = 0 then -1000004 else if w = 0 then nI (ply t 60 0 0 σ).2.2.2.1 else if w = 1 then nI (ply t 60 0 0 σ).2.2.1 else (ply t 60 0 0 σ).2.2.2.2 := by rw [qFault, if_pos hwc]
  rw [hq]
  refine q_if_eq (tgt := 12) dX6_fault_6 (by decide) (fun q => ?_) (fun q => ?_)
  rotate_left
  · exact absurd rfl q
  refine q_aload_n dX6_fault_12 rfl ?_
  refine q_getR fl_RX6_16 rfl (by assumption) dX6_fault_13 ?_
  refine q_aload_n dX6_fault_16 rfl ?_
  refine q_getR fl_RX6_10 rfl (by assumption) dX6_fault_17 ?_
  refine q_cV (as := [_]) lk_RX6_176 (c_copyS k51 k1 (by omega) hτ h0 hs1.2.1 (fun p _ => (hw.pr p).1) hw.len) (Or.inl ⟨3, by decide, k51, rfl⟩) rfl (by decide) (Nat.le_of_ble_eq_true rfl) dX6_fault_20 ?_
  rintro v J ⟨rfl, g1, g2⟩
  refine q_aload_n dX6_fault_23 rfl ?_
  refine q_getR fl_RX6_29 rfl (by assumption) dX6_fault_24 ?_
  refine q_aload_n dX6_fault_27 rfl ?_
  refine q_getR fl_RX6_16 rfl (by assumption) dX6_fault_28 ?_
  refine q_cV (as := [_]) lk_RX6_252 (c_playOn ht (hT.fr (g2 353 (by omega)) (g2 354 (by omega))) g1 hs1 hn) (Or.inl ⟨4, by decide, k353, rfl⟩) rfl (by decide) (Nat.le_of_ble_eq_true rfl) dX6_fault_31 ?_
  obtain ⟨-, -, -, p4, -⟩ := ply_ok t 60 0 0 σ hs1 (by omega)
  generalize ply t 60 0 0 σ = r at p4 ⊢
  rintro v K ⟨rfl, e1, e2, e3, e4, e5, e6⟩
  have hS := h.side (J := K) (fun a a1 a2 a3 => (e6 a a1 a2 a3).trans (FP.of g2 a a1 a2 a3)) ⟨_, e1⟩ e5
  refine q_aload_n dX6_fault_34 rfl ?_
  refine q_getR fl_RX6_29 rfl (by assumption) dX6_fault_35 ?_
  refine q_getI fl_RX6_255 rfl (by assumption) e3 dX6_fault_38 ?_
  refine q_if_neN (tgt := 47) (by omega) dX6_fault_41 (by decide) (fun q2 => ?_) (fun q2 => ?_)
  rotate_left
  · rw [if_pos (by omega)]
    refine q_ldc (v := -1000004) ct_RX6_193 dX6_fault_44 ?_
    exact q_iret rfl rfl dX6_fault_46 ⟨rfl, hS⟩
  have hz : ¬ r.2.2.1 = 0 := by omega
  obtain ⟨e7, e8⟩ := e4 hz
  rw [if_neg hz]
  refine q_iload_n dX6_fault_47 rfl ?_
  obtain ⟨j, hj, rfl⟩ := (isC_iff (by omega)).mp hwc
  have hjc : j = 0 ∨ j = 1 ∨ j = 2 := by omega
  rcases hjc with rfl | rfl | rfl
  · refine q_lookup (off := 28) (tgt := 76) dX6_fault_48 (by decide) (by decide) (by decide) ?_
    refine q_aload_n dX6_fault_76 rfl ?_
    refine q_getR fl_RX6_29 rfl (by assumption) dX6_fault_77 ?_
    refine q_getI fl_RX6_258 rfl (by assumption) e7 dX6_fault_80 ?_
    exact q_iret rfl rfl dX6_fault_83 ⟨by rw [if_pos (show nI 0 = 0 from rfl)], hS⟩
  · refine q_lookup (off := 36) (tgt := 84) dX6_fault_48 (by decide) (by decide) (by decide) ?_
    refine q_aload_n dX6_fault_84 rfl ?_
    refine q_getR fl_RX6_29 rfl (by assumption) dX6_fault_85 ?_
    refine q_getI fl_RX6_255 rfl (by assumption) e3 dX6_fault_88 ?_
    exact q_iret rfl rfl dX6_fault_91 ⟨by rw [if_neg (show ¬ nI 1 = 0 by decide), if_pos (show nI 1 = 1 from rfl)], hS⟩
  · refine q_lookup (off := 44) (tgt := 92) dX6_fault_48 (by decide) (by decide) (by decide) ?_
    refine q_aload_n dX6_fault_92 rfl ?_
    refine q_getR fl_RX6_29 rfl (by assumption) dX6_fault_93 ?_
    refine q_getI fl_RX6_261 rfl (by assumption) e8 dX6_fault_96 ?_
    exact q_iret rfl rfl dX6_fault_99 ⟨by rw [if_neg (show ¬ nI 2 = 0 by decide), if_neg (show ¬ nI 2 = 1 by decide)], hS⟩
def qPlay (σ : q_S) (t : List Nat) : Int32 × q_S := if (ply t 60 0 0 σ).2.2.1 = 0 then (nI (ply t 60 0 0 σ).2.1, (ply t 60 0 0 σ).1) else (-1000002, σ)
theorem c_play {I : q_Mem} {σ : q_S} {hs : List q_S} {t : List Nat} (h : RG I σ hs t) (hs1 : sok σ) (ht : tok t) (hn : sG σ 0 < 2 ^ 29) : q_M kX6_play [.ref 0] I (fun v J => v = some (.int (qPlay σ t).1) ∧ RG J (qPlay σ t).2 (hst (qPlay σ t).1 σ hs) t ∧ FO I J) := by
  have k0 := k0
  have k353 := k353
  have hw := hs1.1
  obtain ⟨h0, ⟨τ, hτ⟩, hT, -⟩ := id h
  refine q_M.of pnX6_play (by simp [Value.category]) (Nat.le_of_ble_eq_true rfl) ?_
  refine q_aload_n dX6_play_0 rfl ?_
  refine q_getR fl_RX6_16 rfl (by assumption) dX6_play_1 ?_
  refine q_aload_n dX6_play_4 rfl ?_
  refine q_getR fl_RX6_10 rfl (by assumption) dX6_play_5 ?_
  refine q_cV (as := [_]) lk_RX6_176 (c_copyS k51 k1 (by omega) hτ h0 hs1.2.1 (fun p _ => (hw.pr p).1) hw.len) (Or.inl ⟨3, by decide, k51, rfl⟩) rfl (by decide) (Nat.le_of_ble_eq_true rfl) dX6_play_8 ?_
  rintro v J ⟨rfl, g1, g2⟩
  refine q_aload_n dX6_play_11 rfl ?_
  refine q_getR fl_RX6_29 rfl (by assumption) dX6_play_12 ?_
  refine q_aload_n dX6_play_15 rfl ?_
  refine q_getR fl_RX6_16 rfl (by assumption) dX6_play_16 ?_
  refine q_cV (as := [_]) lk_RX6_252 (c_playOn ht (hT.fr (g2 353 (by omega)) (g2 354 (by omega))) g1 hs1 hn) (Or.inl ⟨4, by decide, k353, rfl⟩) rfl (by decide) (Nat.le_of_ble_eq_true rfl) dX6_play_19 ?_
  obtain ⟨p1, -, -, p4, -⟩ := ply_ok t 60 0 0 σ hs1 (by omega)
  unfold qPlay
  generalize ply t 60 0 0 σ = r at p1 p4 ⊢
  rintro v K ⟨rfl, e1, e2, e3, e4, e5, e6⟩
  obtain ⟨hS, hF⟩ := h.side (J := K) (fun a a1 a2 a3 => (e6 a a1 a2 a3).trans (FP.of g2 a a1 a2 a3)) ⟨_, e1⟩ e5
  refine q_aload_n dX6_play_22 rfl ?_
  refine q_getR fl_RX6_29 rfl (by assumption) dX6_play_23 ?_
  refine q_getI fl_RX6_255 rfl (by assumption) e3 dX6_play_26 ?_
  refine q_if_eqN (tgt := 35) (by omega) dX6_play_29 (by decide) (fun q2 => ?_) (fun q2 => ?_)
  rotate_left
  · rw [if_neg (show ¬ r.2.2.1 = 0 by omega)]
    refine q_ldc (v := -1000002) ct_RX6_175 dX6_play_32 ?_
    exact q_iret rfl rfl dX6_play_34 ⟨rfl, hS, hF⟩
  rw [if_pos (show r.2.2.1 = 0 by omega)]
  obtain ⟨h0, h1, h2, n, hn, h3, h4, h5, h6, h7⟩ := hS
  obtain ⟨τ0, hτ0⟩ := h6 n hn
  refine q_aload_n dX6_play_35 rfl ?_
  refine q_getR fl_RX6_22 rfl (by assumption) dX6_play_36 ?_
  refine q_aload_n dX6_play_39 rfl ?_
  refine q_getR fl_RX6_10 rfl (by assumption) dX6_play_40 ?_
  refine q_cV (as := [_]) lk_RX6_33 (c_note hn h3 h0 hτ0 hw hs1.2.1) (Or.inl ⟨1, by decide, k101, rfl⟩) rfl (by decide) (Nat.le_of_ble_eq_true rfl) dX6_play_43 ?_
  rintro v L ⟨rfl, l1, l2⟩
  obtain ⟨hN, hF2⟩ := RG.note h0 h1 h2 hn h3 h4 h5 h6 h7 l1 l2
  have n51 : RC 51 L r.1 := e1.fr (fun a a1 a2 => l2 a (by omega))
  have nt : L 353 3 = nI r.2.1 := (congrFun (l2 353 (by omega)) 3).trans e2
  refine q_aload_n dX6_play_46 rfl ?_
  refine q_getR fl_RX6_10 rfl (by assumption) dX6_play_47 ?_
  refine q_aload_n dX6_play_50 rfl ?_
  refine q_getR fl_RX6_16 rfl (by assumption) dX6_play_51 ?_
  refine q_cV (as := [_]) lk_RX6_176 (c_copyS k1 k51 (by omega) hN.1 n51 p1.2.1 (fun p _ => (p1.1.pr p).1) p1.1.len) (Or.inl ⟨3, by decide, k1, rfl⟩) rfl (by decide) (Nat.le_of_ble_eq_true rfl) dX6_play_54 ?_
  rintro v M ⟨rfl, m1, m2⟩
  obtain ⟨hN2, hF3⟩ := hN.op m1 m2
  have nt2 : M 353 3 = nI r.2.1 := (congrFun (m2 353 (by omega)) 3).trans nt
  refine q_aload_n dX6_play_57 rfl ?_
  refine q_getR fl_RX6_22 rfl (by assumption) dX6_play_58 ?_
  refine q_aload_n dX6_play_61 rfl ?_
  refine q_getR fl_RX6_29 rfl (by assumption) dX6_play_62 ?_
  refine q_getI fl_RX6_264 rfl (by assumption) nt2 dX6_play_65 ?_
  refine q_cV (as := [_]) lk_RX6_41 (c_keep hn h5 hN2.2.2.2.1 hN2.2.2.2.2.1) (Or.inl ⟨1, by decide, k101, rfl⟩) rfl (by decide) (Nat.le_of_ble_eq_true rfl) dX6_play_68 ?_
  rintro v N ⟨rfl, x3⟩
  obtain ⟨hR, hF4⟩ := RN.keep hn hN2 x3
  exact q_iret rfl rfl dX6_play_71 ⟨rfl, hR, ((hF.tr hF2).tr hF3).tr hF4⟩
