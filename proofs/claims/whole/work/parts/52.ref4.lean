/-! the reference: into a class -/
theorem r_people0 {c n : Nat} {I : q_Mem} (hv : I 357 (1 + 41 * c + 10) = nI n) (hc : c < 8) : q_M kX7_people [.ref 356, .int (nI c)] I (fun v J => v = some (.int (nI n)) ∧ I = J) := by
  refine q_M.of pnX7_people (by simp [Value.category]) (Nat.le_of_ble_eq_true rfl) ?_
  refine q_aload_n dX7_people_0 rfl ?_
  refine q_getR2 (b := 357) fl_RX7_7 rfl k356 rfl dX7_people_1 ?_
  refine q_iload_n dX7_people_4 rfl ?_
  refine q_bipush (v := nI 10) dX7_people_5 (by decide) ?_
  refine q_cS (as := [_, _]) lk_RX7_40 r_at rfl (by decide) (Nat.le_of_ble_eq_true rfl) dX7_people_7 ?_
  rintro v J ⟨rfl, rfl⟩
  refine q_iald k357 rfl (lt357 (by omega)) (by decide) hv dX7_people_10 ?_
  exact q_iret rfl rfl dX7_people_11 ⟨rfl, rfl⟩
theorem FM.upd {I J : q_Mem} (h : FM 357 I J) {i : Nat} {x : Int32} : FM 357 I (q_up J 357 i x) := h.up
/-- one more in a class -/
def sjn (σ : q_S) (p c : Nat) : q_S := (sN σ, sG σ, sC σ, f1 (sL σ) c (sL σ c ++ [p]), f2 (f2 (sP σ) p 4 (c + 1)) p 6 (sP σ p 6 + 1), sR σ)
theorem r_joins {p c : Nat} {I : q_Mem} {σ : q_S} (h : RS I σ) (hB : sB σ) (hp : p < sN σ 2) (hc : c < sN σ 0) (hl : sLen σ c < 20) : q_M kX7_joins [.ref 356, .int (nI p), .int (nI c)] I (fun v J => v = none ∧ RS J (sjn σ p c) ∧ FM 357 I J) := by
  have h8 := hB.1
  have h30 := hB.2.2.1
  have hsl : (sL σ c).length = sLen σ c := rfl
  refine q_M.of pnX7_joins (by simp [Value.category]) (Nat.le_of_ble_eq_true rfl) ?_
  refine q_aload_n dX7_joins_0 rfl ?_
  refine q_getR2 (b := 357) fl_RX7_7 rfl k356 rfl dX7_joins_1 ?_
  refine q_iload_n dX7_joins_4 rfl ?_
  refine q_bipush (v := nI 11) dX7_joins_5 (by decide) ?_
  refine q_aload_n dX7_joins_7 rfl ?_
  refine q_iload_n dX7_joins_8 rfl ?_
  refine q_cV (as := [_]) lk_RX7_47 (r_people h hB hc) (Or.inl ⟨6, by decide, k356, rfl⟩) rfl (by decide) (Nat.le_of_ble_eq_true rfl) dX7_joins_9 ?_
  rintro v J ⟨rfl, rfl⟩
  refine q_iadd dX7_joins_12 ?_
  rw [nI_add]
  refine q_cS (as := [_, _]) lk_RX7_40 r_at rfl (by decide) (Nat.le_of_ble_eq_true rfl) dX7_joins_13 ?_
  rintro v J ⟨rfl, rfl⟩
  refine q_iload_n dX7_joins_16 rfl ?_
  refine q_iast k357 rfl (lt357 (by omega)) (by decide) dX7_joins_17 ?_
  refine q_aload_n dX7_joins_18 rfl ?_
  refine q_getR2 (b := 357) fl_RX7_7 rfl k356 rfl dX7_joins_19 ?_
  refine q_iload_n dX7_joins_22 rfl ?_
  refine q_bipush (v := nI 10) dX7_joins_23 (by decide) ?_
  have e1 : q_up I 357 (1 + 41 * c + (11 + sLen σ c)) (nI p) 357 (1 + 41 * c + 10) = nI (sLen σ c) := (q_up_n (by omega)).trans (h.len hc)
  refine q_cS (as := [_, _]) lk_RX7_40 r_at rfl (by decide) (Nat.le_of_ble_eq_true rfl) dX7_joins_25 ?_
  rintro v J ⟨rfl, rfl⟩
  refine q_dup2 dX7_joins_28 rfl rfl ?_
  refine q_iald k357 rfl (lt357 (by omega)) (by decide) e1 dX7_joins_29 ?_
  refine q_iconst (v := nI 1) dX7_joins_30 (by decide) ?_
  refine q_iadd dX7_joins_31 ?_
  rw [nI_add]
  refine q_iast k357 rfl (lt357 (by omega)) (by decide) dX7_joins_32 ?_
  have h1 : RS (q_up (q_up I 357 (1 + 41 * c + (11 + sLen σ c)) (nI p)) 357 (1 + 41 * c + 10) (nI (sLen σ c + 1))) (uL σ c (sL σ c ++ [p])) := by
    refine h.L hB hc ?_ (fun r v hr => ?_) (fun i hi => ?_)
    · rw [q_up_s]; simp
    · have hr20 := g_lt hr (show (sL σ c ++ [p]).length ≤ sLen σ c + 1 by simp)
      rw [q_up_n (by omega)]
      by_cases e : r = sLen σ c
      · subst e
        rw [List.getElem?_append_right (Nat.le_refl _)] at hr
        simp at hr
        rw [show 1 + 41 * c + 11 + sLen σ c = 1 + 41 * c + (11 + sLen σ c) by omega, q_up_s, hr]
      · rw [List.getElem?_append_left (by omega)] at hr
        rw [q_up_n (by omega)]
        exact h.m hc hr
    · rw [q_up_n (by omega), q_up_n (by omega)]
  have hF1 : FM 357 I (q_up (q_up I 357 (1 + 41 * c + (11 + sLen σ c)) (nI p)) 357 (1 + 41 * c + 10) (nI (sLen σ c + 1))) := (FM.rf.up).up
  have hB1 : sB (uL σ c (sL σ c ++ [p])) := ⟨hB.1, hB.2.1, hB.2.2.1, fun i => by
    show (f1 (sL σ) c (sL σ c ++ [p]) i).length ≤ 20
    rw [f1_or]
    split
    · simp; omega
    · exact hB.2.2.2 i⟩
  generalize q_up (q_up I 357 (1 + 41 * c + (11 + sLen σ c)) (nI p)) 357 (1 + 41 * c + 10) (nI (sLen σ c + 1)) = K at h1 hF1 ⊢
  refine q_aload_n dX7_joins_33 rfl ?_
  refine q_getR2 (b := 357) fl_RX7_7 rfl k356 rfl dX7_joins_34 ?_
  refine q_iload_n dX7_joins_37 rfl ?_
  refine q_iconst (v := nI 4) dX7_joins_38 (by decide) ?_
  refine q_cS (as := [_, _]) lk_RX7_36 r_of rfl (by decide) (Nat.le_of_ble_eq_true rfl) dX7_joins_39 ?_
  rintro v J ⟨rfl, rfl⟩
  refine q_iload_n dX7_joins_42 rfl ?_
  refine q_iast k357 rfl (lt357 (by omega)) (by decide) dX7_joins_43 ?_
  refine q_aload_n dX7_joins_44 rfl ?_
  refine q_getR2 (b := 357) fl_RX7_7 rfl k356 rfl dX7_joins_45 ?_
  refine q_iload_n dX7_joins_48 rfl ?_
  refine q_bipush (v := nI 6) dX7_joins_49 (by decide) ?_
  have h2 := h1.P (p := p) (j := 4) (v := c + 1) (x := nI c) hB1 hp (by omega) rfl
  have hF2 : FM 357 I (q_up K 357 (336 + 7 * p + 4) (nI c)) := hF1.up
  have e6 : q_up K 357 (336 + 7 * p + 4) (nI c) 357 (336 + 7 * p + 6) = nI (sP σ p 6) := (q_up_n (by omega)).trans (h1.p hp (j := 6) (by omega))
  generalize q_up K 357 (336 + 7 * p + 4) (nI c) = L at h2 hF2 e6 ⊢
  refine q_cS (as := [_, _]) lk_RX7_36 r_of rfl (by decide) (Nat.le_of_ble_eq_true rfl) dX7_joins_51 ?_
  rintro v J ⟨rfl, rfl⟩
  refine q_dup2 dX7_joins_54 rfl rfl ?_
  refine q_iald k357 rfl (lt357 (by omega)) (by decide) e6 dX7_joins_55 ?_
  refine q_iconst (v := nI 1) dX7_joins_56 (by decide) ?_
  refine q_iadd dX7_joins_57 ?_
  rw [nI_add]
  refine q_iast k357 rfl (lt357 (by omega)) (by decide) dX7_joins_58 ?_
  have h3 := h2.P (p := p) (j := 6) (v := sP σ p 6 + 1) (x := nI (sP σ p 6 + 1)) hB1 hp (by omega) rfl
  exact q_vret rfl dX7_joins_59 ⟨rfl, h3, hF2.up⟩
theorem sjn_B {σ : q_S} (hB : sB σ) {p c : Nat} (hl : sLen σ c < 20) : sB (sjn σ p c) := ⟨hB.1, hB.2.1, hB.2.2.1, fun i => by
    show (f1 (sL σ) c (sL σ c ++ [p]) i).length ≤ 20
    have hsl : (sL σ c).length = sLen σ c := rfl
    rw [f1_or]
    split
    · simp; omega
    · exact hB.2.2.2 i⟩
