/-! the reference: wishes -/
theorem r_areWishes {x y z : Int32} {I : q_Mem} {σ : q_S} (h : RS I σ) (hB : sB σ) : q_M kX7_areWishes [.ref 356, .int x, .int y, .int z] I (fun v J => v = some (.int (if wokI (sN σ 0) x y z then 1 else 0)) ∧ I = J) := by
  have no : ¬ wokI (sN σ 0) x y z → ∀ o4, q_X kX7_areWishes 53 [some (.ref 356), some (.int x), some (.int y), some (.int z), o4] [] I (fun v J => v = some (.int (if wokI (sN σ 0) x y z then 1 else 0)) ∧ I = J) := by
    intro hn o4
    rw [if_neg hn]
    refine q_iconst (v := nI 0) dX7_areWishes_53 (by decide) ?_
    refine q_istore (ls' := [_, _, _, _, _]) dX7_areWishes_54 (Nat.le_of_ble_eq_true rfl) rfl ?_
    refine q_iload dX7_areWishes_56 rfl ?_
    refine q_if_eq (tgt := 75) dX7_areWishes_58 (by decide) (fun q => ?_) (fun q => ?_)
    · refine q_iconst (v := nI 0) dX7_areWishes_75 (by decide) ?_
      exact q_iret rfl rfl dX7_areWishes_76 ⟨rfl, rfl⟩
    · exact absurd rfl q
  have yes : isC (sN σ 0) x → (y = -1 ∨ (isC (sN σ 0) y ∧ ¬ y = x)) → (z = -1 ∨ (isC (sN σ 0) z ∧ ¬ z = x ∧ ¬ z = y)) → ∀ o4, q_X kX7_areWishes 49 [some (.ref 356), some (.int x), some (.int y), some (.int z), o4] [] I (fun v J => v = some (.int (if wokI (sN σ 0) x y z then 1 else 0)) ∧ I = J) := by
    intro hx hy hz o4
    refine q_iconst (v := nI 1) dX7_areWishes_49 (by decide) ?_
    refine q_goto (tgt := 54) dX7_areWishes_50 (by decide) ?_
    refine q_istore (ls' := [_, _, _, _, _]) dX7_areWishes_54 (Nat.le_of_ble_eq_true rfl) rfl ?_
    refine q_iload dX7_areWishes_56 rfl ?_
    refine q_if_eq (tgt := 75) dX7_areWishes_58 (by decide) (fun q => ?_) (fun q => ?_)
    · exact absurd q (by decide)
    refine q_iload_n dX7_areWishes_61 rfl ?_
    refine q_iconst (v := -1) dX7_areWishes_62 (by decide) ?_
    refine q_icmp_eq (tgt := 71) dX7_areWishes_63 (by decide) (fun q2 => ?_) (fun q2 => ?_)
    · have hw : wokI (sN σ 0) x y z := by
        refine ⟨hx, ?_⟩
        by_cases e : y = -1
        · exact Or.inl ⟨e, q2⟩
        · rcases hy with hy | hy
          · exact absurd hy e
          · exact Or.inr ⟨e, hy.1, hy.2, hz⟩
      refine q_iconst (v := nI 1) dX7_areWishes_71 (by decide) ?_
      refine q_goto (tgt := 76) dX7_areWishes_72 (by decide) ?_
      exact q_iret rfl rfl dX7_areWishes_76 ⟨by rw [if_pos hw]; rfl, rfl⟩
    refine q_iload_n dX7_areWishes_66 rfl ?_
    refine q_iconst (v := -1) dX7_areWishes_67 (by decide) ?_
    refine q_icmp_eq (tgt := 75) dX7_areWishes_68 (by decide) (fun q3 => ?_) (fun q3 => ?_)
    · have hw : ¬ wokI (sN σ 0) x y z := by
        rintro ⟨-, w | w⟩
        · exact q2 w.2
        · exact w.1 q3
      refine q_iconst (v := nI 0) dX7_areWishes_75 (by decide) ?_
      exact q_iret rfl rfl dX7_areWishes_76 ⟨by rw [if_neg hw]; rfl, rfl⟩
    · have hw : wokI (sN σ 0) x y z := by
        refine ⟨hx, Or.inr ⟨q3, ?_, ?_, hz⟩⟩
        · rcases hy with hy | hy
          · exact absurd hy q3
          · exact hy.1
        · rcases hy with hy | hy
          · exact absurd hy q3
          · exact hy.2
      refine q_iconst (v := nI 1) dX7_areWishes_71 (by decide) ?_
      refine q_goto (tgt := 76) dX7_areWishes_72 (by decide) ?_
      exact q_iret rfl rfl dX7_areWishes_76 ⟨by rw [if_pos hw]; rfl, rfl⟩
  have third : isC (sN σ 0) x → (y = -1 ∨ (isC (sN σ 0) y ∧ ¬ y = x)) → ∀ o4, q_X kX7_areWishes 26 [some (.ref 356), some (.int x), some (.int y), some (.int z), o4] [] I (fun v J => v = some (.int (if wokI (sN σ 0) x y z then 1 else 0)) ∧ I = J) := by
    intro hx hy o4
    refine q_iload_n dX7_areWishes_26 rfl ?_
    refine q_iconst (v := -1) dX7_areWishes_27 (by decide) ?_
    refine q_icmp_eq (tgt := 49) dX7_areWishes_28 (by decide) (fun q => ?_) (fun q => ?_)
    · exact yes hx hy (Or.inl q) _
    refine q_aload_n dX7_areWishes_31 rfl ?_
    refine q_iload_n dX7_areWishes_32 rfl ?_
    refine q_cV (as := [_]) lk_RX7_103 (r_isCourse h hB) (Or.inl ⟨6, by decide, k356, rfl⟩) rfl (by decide) (Nat.le_of_ble_eq_true rfl) dX7_areWishes_33 ?_
    rintro v J ⟨rfl, rfl⟩
    by_cases e : isC (sN σ 0) z
    case neg =>
      rw [if_neg e]
      refine q_if_eq (tgt := 53) dX7_areWishes_36 (by decide) (fun q2 => ?_) (fun q2 => ?_)
      · refine no ?_ _
        rintro ⟨-, w | w⟩
        · exact q w.2
        · rcases w.2.2.2 with w | w
          · exact q w
          · exact e w.1
      · exact absurd rfl q2
    rw [if_pos e]
    refine q_if_eq (tgt := 53) dX7_areWishes_36 (by decide) (fun q2 => ?_) (fun q2 => ?_)
    · exact absurd q2 (by decide)
    refine q_iload_n dX7_areWishes_39 rfl ?_
    refine q_iload_n dX7_areWishes_40 rfl ?_
    refine q_icmp_eq (tgt := 53) dX7_areWishes_41 (by decide) (fun q3 => ?_) (fun q3 => ?_)
    · refine no ?_ _
      rintro ⟨-, w | w⟩
      · exact q w.2
      · rcases w.2.2.2 with w | w
        · exact q w
        · exact w.2.1 q3
    refine q_iload_n dX7_areWishes_44 rfl ?_
    refine q_iload_n dX7_areWishes_45 rfl ?_
    refine q_icmp_eq (tgt := 53) dX7_areWishes_46 (by decide) (fun q4 => ?_) (fun q4 => ?_)
    · refine no ?_ _
      rintro ⟨-, w | w⟩
      · exact q w.2
      · rcases w.2.2.2 with w | w
        · exact q w
        · exact w.2.2 q4
    exact yes hx hy (Or.inr ⟨e, q3, q4⟩) _
  refine q_M.of pnX7_areWishes (by simp [Value.category]) (Nat.le_of_ble_eq_true rfl) ?_
  refine q_aload_n dX7_areWishes_0 rfl ?_
  refine q_iload_n dX7_areWishes_1 rfl ?_
  refine q_cV (as := [_]) lk_RX7_103 (r_isCourse h hB) (Or.inl ⟨6, by decide, k356, rfl⟩) rfl (by decide) (Nat.le_of_ble_eq_true rfl) dX7_areWishes_2 ?_
  rintro v J ⟨rfl, rfl⟩
  by_cases e : isC (sN σ 0) x
  case neg =>
    rw [if_neg e]
    refine q_if_eq (tgt := 53) dX7_areWishes_5 (by decide) (fun q => ?_) (fun q => ?_)
    · exact no (fun w => e w.1) _
    · exact absurd rfl q
  rw [if_pos e]
  refine q_if_eq (tgt := 53) dX7_areWishes_5 (by decide) (fun q => ?_) (fun q => ?_)
  · exact absurd q (by decide)
  refine q_iload_n dX7_areWishes_8 rfl ?_
  refine q_iconst (v := -1) dX7_areWishes_9 (by decide) ?_
  refine q_icmp_eq (tgt := 26) dX7_areWishes_10 (by decide) (fun q1 => ?_) (fun q1 => ?_)
  · exact third e (Or.inl q1) _
  refine q_aload_n dX7_areWishes_13 rfl ?_
  refine q_iload_n dX7_areWishes_14 rfl ?_
  refine q_cV (as := [_]) lk_RX7_103 (r_isCourse h hB) (Or.inl ⟨6, by decide, k356, rfl⟩) rfl (by decide) (Nat.le_of_ble_eq_true rfl) dX7_areWishes_15 ?_
  rintro v J ⟨rfl, rfl⟩
  by_cases e2 : isC (sN σ 0) y
  case neg =>
    rw [if_neg e2]
    refine q_if_eq (tgt := 53) dX7_areWishes_18 (by decide) (fun q2 => ?_) (fun q2 => ?_)
    · refine no ?_ _
      rintro ⟨-, w | w⟩
      · exact q1 w.1
      · exact e2 w.2.1
    · exact absurd rfl q2
  rw [if_pos e2]
  refine q_if_eq (tgt := 53) dX7_areWishes_18 (by decide) (fun q2 => ?_) (fun q2 => ?_)
  · exact absurd q2 (by decide)
  refine q_iload_n dX7_areWishes_21 rfl ?_
  refine q_iload_n dX7_areWishes_22 rfl ?_
  refine q_icmp_eq (tgt := 53) dX7_areWishes_23 (by decide) (fun q3 => ?_) (fun q3 => ?_)
  · refine no ?_ _
    rintro ⟨-, w | w⟩
    · exact q1 w.1
    · exact w.2.2.1 q3
  exact third e (Or.inr ⟨e2, q3⟩) _
theorem r_wishes {p a b c : Nat} {I : q_Mem} {σ : q_S} (h : RS I σ) (hB : sB σ) (hp : p < sN σ 2) : q_M kX7_wishes [.ref 356, .int (nI p), .int (enc a), .int (enc b), .int (enc c)] I (fun v J => v = none ∧ RS J (sSetW σ p a b c) ∧ FM 357 I J) := by
  have h30 := hB.2.2.1
  refine q_M.of pnX7_wishes (by simp [Value.category]) (Nat.le_of_ble_eq_true rfl) ?_
  refine q_aload_n dX7_wishes_0 rfl ?_
  refine q_getR2 (b := 357) fl_RX7_7 rfl k356 rfl dX7_wishes_1 ?_
  refine q_iload_n dX7_wishes_4 rfl ?_
  refine q_iconst (v := nI 1) dX7_wishes_5 (by decide) ?_
  refine q_cS (as := [_, _]) lk_RX7_36 r_of rfl (by decide) (Nat.le_of_ble_eq_true rfl) dX7_wishes_6 ?_
  rintro v J ⟨rfl, rfl⟩
  refine q_iload_n dX7_wishes_9 rfl ?_
  refine q_iast k357 rfl (lt357 (by omega)) (by decide) dX7_wishes_10 ?_
  have h1 := h.P (p := p) (j := 1) (v := a) (x := enc a) hB hp (by omega) rfl
  have hF1 : FM 357 I (q_up I 357 (336 + 7 * p + 1) (enc a)) := FM.rf.up
  generalize q_up I 357 (336 + 7 * p + 1) (enc a) = K1 at h1 hF1 ⊢
  refine q_aload_n dX7_wishes_11 rfl ?_
  refine q_getR2 (b := 357) fl_RX7_7 rfl k356 rfl dX7_wishes_12 ?_
  refine q_iload_n dX7_wishes_15 rfl ?_
  refine q_iconst (v := nI 2) dX7_wishes_16 (by decide) ?_
  refine q_cS (as := [_, _]) lk_RX7_36 r_of rfl (by decide) (Nat.le_of_ble_eq_true rfl) dX7_wishes_17 ?_
  rintro v J ⟨rfl, rfl⟩
  refine q_iload_n dX7_wishes_20 rfl ?_
  refine q_iast k357 rfl (lt357 (by omega)) (by decide) dX7_wishes_21 ?_
  have h2 := h1.P (p := p) (j := 2) (v := b) (x := enc b) hB hp (by omega) rfl
  have hF2 : FM 357 I (q_up K1 357 (336 + 7 * p + 2) (enc b)) := hF1.up
  generalize q_up K1 357 (336 + 7 * p + 2) (enc b) = K2 at h2 hF2 ⊢
  refine q_aload_n dX7_wishes_22 rfl ?_
  refine q_getR2 (b := 357) fl_RX7_7 rfl k356 rfl dX7_wishes_23 ?_
  refine q_iload_n dX7_wishes_26 rfl ?_
  refine q_iconst (v := nI 3) dX7_wishes_27 (by decide) ?_
  refine q_cS (as := [_, _]) lk_RX7_36 r_of rfl (by decide) (Nat.le_of_ble_eq_true rfl) dX7_wishes_28 ?_
  rintro v J ⟨rfl, rfl⟩
  refine q_iload dX7_wishes_31 rfl ?_
  refine q_iast k357 rfl (lt357 (by omega)) (by decide) dX7_wishes_33 ?_
  have h3 := h2.P (p := p) (j := 3) (v := c) (x := enc c) hB hp (by omega) rfl
  exact q_vret rfl dX7_wishes_34 ⟨rfl, h3, hF2.up⟩
