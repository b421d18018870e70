/-! the class's season: the next term, copies -/
theorem RC.congr {b : Nat} {I : q_Mem} {σ τ : q_S} (h : RC b I σ) (hN : ∀ j, j < 3 → sN σ j = sN τ j) (hG : ∀ j, j < 8 → sG σ j = sG τ j) (hC : ∀ c, c < 8 → ∀ j, j < 10 → sC σ c j = sC τ c j) (hL : ∀ c, c < 8 → sL σ c = sL τ c) (hP : ∀ p, p < 30 → ∀ j, j < 7 → sP σ p j = sP τ p j) (hR : ∀ r, r < 5 → sR σ r = sR τ r) : RC b I τ := by
  obtain ⟨h1, h2, h3, h4, h5, h6, h7, h8, h9⟩ := h
  exact ⟨fun i hi => by rw [← hN i hi]; exact h1 i hi, fun i hi => by rw [← hG i hi]; exact h2 i hi, fun d hd i hi => by rw [← hC d hd i hi]; exact h3 d hd i hi, fun d hd => by rw [← hL d hd]; exact h4 d hd, fun d hd r v hr => h5 d hd r v (by rw [hL d hd]; exact hr), fun d hd i hi => by rw [← hP d hd i hi]; exact h6 d hd i hi, fun i hi => by rw [← hR i hi]; exact h7 i hi, h8, h9⟩
/-- the next term, as far as k classes and m people are gone through -/
def stk (σ : q_S) (k m : Nat) : q_S := (sN σ, f1 (sG σ) 4 (sG σ 4 + ssum (fun p => sP σ p 5) 30), fun c j => if c < k ∧ ¬ sC σ c 6 = 0 then (if j = 6 then 1 else if j = 7 ∨ j = 8 ∨ j = 9 then 0 else sC σ c j) else sC σ c j, fun c => if c < k ∧ ¬ sC σ c 6 = 0 then [] else sL σ c, fun p j => if p < m then 0 else sP σ p j, sR σ)
theorem c_nextTerm {b : Nat} {I : q_Mem} {σ : q_S} (hk : q_kd b = 3) (h : RC b I σ) (hw : WFc σ) (hG : sG σ 1 ≤ 1) : q_M kX3_beginNextTerm [.ref b] I (fun v J => v = some (.int (opTerm σ).1) ∧ RC b J (opTerm σ).2 ∧ FC b I J) := by
  have fin : ¬ sG σ 1 = 0 → ∀ (J : q_Mem) (o1 o2 o3 o4 : Option Value), RC b J (stk σ 8 30) → FC b I J → q_X kX3_beginNextTerm 104 [some (.ref b), o1, o2, o3, o4] [] J (fun v J => v = some (.int (opTerm σ).1) ∧ RC b J (opTerm σ).2 ∧ FC b I J) := by
    intro h1 J o1 o2 o3 o4 h hF
    have ho : opTerm σ = (nI (sG σ 0 + 1), sterm σ) := by rw [opTerm, if_neg h1]
    rw [ho]
    refine q_aload_n dX3_beginNextTerm_104 rfl ?_
    refine q_iconst (v := nI 0) dX3_beginNextTerm_105 (by decide) ?_
    refine q_putI ⟨fl_RX3_54, rfl, rfl⟩ (by assumption) ⟨rfl, rfl⟩ dX3_beginNextTerm_106 ?_
    have h : RC b (q_up J b 4 (nI 0)) (uN (stk σ 8 30) 2 0) := h.N (j := 2) (by omega) rfl
    have hF := hF.up (a := b) (j := 4) (x := nI 0) (by omega) (by omega)
    generalize q_up J b 4 (nI 0) = J1 at h hF ⊢
    refine q_aload_n dX3_beginNextTerm_109 rfl ?_
    refine q_iconst (v := nI 0) dX3_beginNextTerm_110 (by decide) ?_
    refine q_putI ⟨fl_RX3_63, rfl, rfl⟩ (by assumption) ((by decide)) dX3_beginNextTerm_111 ?_
    have h : RC b (q_up J1 b 7 (nI 0)) (uG (uN (stk σ 8 30) 2 0) 1 0) := h.G (j := 1) (by omega) rfl
    have hF := hF.up (a := b) (j := 7) (x := nI 0) (by omega) (by omega)
    generalize q_up J1 b 7 (nI 0) = J2 at h hF ⊢
    have e0 : J2 b 6 = nI (sG σ 0) := h.g (j := 0) (by omega)
    refine q_aload_n dX3_beginNextTerm_114 rfl ?_
    refine q_dup dX3_beginNextTerm_115 rfl ?_
    refine q_getI fl_RX3_60 rfl (by assumption) e0 dX3_beginNextTerm_116 ?_
    refine q_iconst (v := nI 1) dX3_beginNextTerm_119 (by decide) ?_
    refine q_iadd dX3_beginNextTerm_120 ?_
    rw [nI_add]
    refine q_putI ⟨fl_RX3_60, rfl, rfl⟩ (by assumption) ⟨rfl, rfl⟩ dX3_beginNextTerm_121 ?_
    have h : RC b (q_up J2 b 6 (nI (sG σ 0 + 1))) (uG (uG (uN (stk σ 8 30) 2 0) 1 0) 0 (sG σ 0 + 1)) := h.G (j := 0) (by omega) rfl
    have hF := hF.up (a := b) (j := 6) (x := nI (sG σ 0 + 1)) (by omega) (by omega)
    refine q_aload_n dX3_beginNextTerm_124 rfl ?_
    refine q_getI fl_RX3_60 rfl (by assumption) q_up_s dX3_beginNextTerm_125 ?_
    refine q_iret rfl rfl dX3_beginNextTerm_128 ⟨rfl, h.congr (fun j hj => rfl) (fun j hj => rfl) (fun c hc j hj => ?_) (fun c hc => ?_) (fun p hp j hj => if_pos hp) (fun r hr => rfl), hF⟩
    · show (if c < 8 ∧ ¬ sC σ c 6 = 0 then _ else _) = (if sC σ c 6 = 0 then _ else _)
      by_cases e : sC σ c 6 = 0
      · rw [if_neg (fun z => z.2 e), if_pos e]
      · rw [if_pos ⟨hc, e⟩, if_neg e]
    · show (if c < 8 ∧ ¬ sC σ c 6 = 0 then _ else _) = (if sC σ c 6 = 0 then _ else _)
      by_cases e : sC σ c 6 = 0
      · rw [if_neg (fun z => z.2 e), if_pos e]
      · rw [if_pos ⟨hc, e⟩, if_neg e]
  have people : ¬ sG σ 1 = 0 → ∀ (d m : Nat) (J : q_Mem) (o4 : Option Value), m + d = 30 → RC b J (stk σ 8 m) → FC b I J → q_X kX3_beginNextTerm 78 [some (.ref b), some (.ref (b + 2)), some (.int (nI 30)), some (.int (nI m)), o4] [] J (fun v J => v = some (.int (opTerm σ).1) ∧ RC b J (opTerm σ).2 ∧ FC b I J) := by
    intro h1 d
    induction d with
    | zero =>
      intro m J o4 hd h hF
      obtain rfl : m = 30 := by omega
      refine q_iload_n dX3_beginNextTerm_78 rfl ?_
      refine q_iload_n dX3_beginNextTerm_79 rfl ?_
      refine q_icmp_geN (tgt := 104) (by omega) (by omega) dX3_beginNextTerm_80 (by decide) (fun q => ?_) (fun q => ?_)
      · exact fin h1 J _ _ _ _ h hF
      · omega
    | succ d ih =>
      intro m J o4 hd h hF
      have hm : m < 30 := by omega
      have hkp := kSP hk hm
      refine q_iload_n dX3_beginNextTerm_78 rfl ?_
      refine q_iload_n dX3_beginNextTerm_79 rfl ?_
      refine q_icmp_geN (tgt := 104) (by omega) (by omega) dX3_beginNextTerm_80 (by decide) (fun q => ?_) (fun q => ?_)
      · omega
      refine q_aload_n dX3_beginNextTerm_83 rfl ?_
      refine q_iload_n dX3_beginNextTerm_84 rfl ?_
      refine q_aaldP hk rfl hm dX3_beginNextTerm_85 ?_
      refine q_astore (ls' := [_, _, _, _, _]) dX3_beginNextTerm_86 (Nat.le_of_ble_eq_true rfl) rfl ?_
      refine q_aload dX3_beginNextTerm_88 rfl ?_
      refine q_ifnull dX3_beginNextTerm_90 ?_
      refine q_aload dX3_beginNextTerm_93 rfl ?_
      refine q_cV (as := []) lk_RX3_168 (c_forget hkp) ⟨2, by decide, by assumption, rfl⟩ rfl (by decide) (Nat.le_of_ble_eq_true rfl) dX3_beginNextTerm_95 ?_
      rintro v J' ⟨rfl, rfl⟩
      refine q_iinc (ls' := [_, _, _, _, _]) dX3_beginNextTerm_98 rfl (nI_add _ 1) rfl ?_
      refine q_goto (tgt := 78) dX3_beginNextTerm_101 (by decide) ?_
      have h0 : RC b (q_up (q_up (q_up (q_up (q_up (q_up (q_up J (b + 20 + m) 1 0) (b + 20 + m) 2 (-1)) (b + 20 + m) 3 0) (b + 20 + m) 4 0) (b + 20 + m) 5 (-1)) (b + 20 + m) 6 (-1)) (b + 20 + m) 7 (-1)) (uP (uP (uP (uP (uP (uP (uP (stk σ 8 m) m 0 0) m 4 0) m 5 0) m 6 0) m 1 0) m 2 0) m 3 0) :=
        ((((((h.P (j := 0) (v := 0) hm (by omega) rfl).P (j := 4) (v := 0) hm (by omega) rfl).P (j := 5) (v := 0) hm (by omega) rfl).P (j := 6) (v := 0) hm (by omega) rfl).P (j := 1) (v := 0) hm (by omega) rfl).P (j := 2) (v := 0) hm (by omega) rfl).P (j := 3) (v := 0) hm (by omega) rfl
      refine ih (m + 1) _ _ (by omega) (h0.congr (fun j hj => rfl) (fun j hj => rfl) (fun c hc j hj => rfl) (fun c hc => rfl) (fun p hp j hj => ?_) (fun r hr => rfl)) (((((((hF.up (by omega) (by omega)).up (by omega) (by omega)).up (by omega) (by omega)).up (by omega) (by omega)).up (by omega) (by omega)).up (by omega) (by omega)).up (by omega) (by omega))
      show f2 (f2 (f2 (f2 (f2 (f2 (f2 (fun p j => if p < m then 0 else sP σ p j) m 0 0) m 4 0) m 5 0) m 6 0) m 1 0) m 2 0) m 3 0 p j = if p < m + 1 then 0 else sP σ p j
      simp only [f2_or]
      by_cases e : p = m
      · subst e
        rw [if_pos (show p < p + 1 by omega)]
        have hj7 : j = 0 ∨ j = 1 ∨ j = 2 ∨ j = 3 ∨ j = 4 ∨ j = 5 ∨ j = 6 := by omega
        rcases hj7 with rfl | rfl | rfl | rfl | rfl | rfl | rfl <;> simp
      · have : (p < m + 1) = (p < m) := propext (by omega)
        simp [e, this]
  have classes : ¬ sG σ 1 = 0 → ∀ (d k : Nat) (J : q_Mem) (o4 : Option Value), k + d = 8 → RC b J (stk σ k 0) → FC b I J → q_X kX3_beginNextTerm 33 [some (.ref b), some (.ref (b + 1)), some (.int (nI 8)), some (.int (nI k)), o4] [] J (fun v J => v = some (.int (opTerm σ).1) ∧ RC b J (opTerm σ).2 ∧ FC b I J) := by
    intro h1 d
    induction d with
    | zero =>
      intro k J o4 hd h hF
      obtain rfl : k = 8 := by omega
      refine q_iload_n dX3_beginNextTerm_33 rfl ?_
      refine q_iload_n dX3_beginNextTerm_34 rfl ?_
      refine q_icmp_geN (tgt := 68) (by omega) (by omega) dX3_beginNextTerm_35 (by decide) (fun q => ?_) (fun q => ?_)
      · refine q_aload_n dX3_beginNextTerm_68 rfl ?_
        refine q_getR fl_RX3_19 rfl (by assumption) dX3_beginNextTerm_69 ?_
        refine q_astore_n (ls' := [_, _, _, _, _]) dX3_beginNextTerm_72 (Nat.le_of_ble_eq_true rfl) rfl ?_
        refine q_aload_n dX3_beginNextTerm_73 rfl ?_
        refine q_lenP hk rfl dX3_beginNextTerm_74 ?_
        refine q_istore_n (ls' := [_, _, _, _, _]) dX3_beginNextTerm_75 (Nat.le_of_ble_eq_true rfl) rfl ?_
        refine q_iconst (v := nI 0) dX3_beginNextTerm_76 (by decide) ?_
        refine q_istore_n (ls' := [_, _, _, _, _]) dX3_beginNextTerm_77 (Nat.le_of_ble_eq_true rfl) rfl ?_
        exact people h1 30 0 J _ rfl h hF
      · omega
    | succ d ih =>
      intro k J o4 hd h hF
      have hk8 : k < 8 := by omega
      have hkk := kSC hk hk8
      refine q_iload_n dX3_beginNextTerm_33 rfl ?_
      refine q_iload_n dX3_beginNextTerm_34 rfl ?_
      refine q_icmp_geN (tgt := 68) (by omega) (by omega) dX3_beginNextTerm_35 (by decide) (fun q => ?_) (fun q => ?_)
      · omega
      refine q_aload_n dX3_beginNextTerm_38 rfl ?_
      refine q_iload_n dX3_beginNextTerm_39 rfl ?_
      refine q_aaldC hk rfl hk8 dX3_beginNextTerm_40 ?_
      refine q_astore (ls' := [_, _, _, _, _]) dX3_beginNextTerm_41 (Nat.le_of_ble_eq_true rfl) rfl ?_
      refine q_aload dX3_beginNextTerm_43 rfl ?_
      refine q_ifnull dX3_beginNextTerm_45 ?_
      have est : sC (stk σ k 0) k 6 = sC σ k 6 := if_neg (fun z => by omega)
      have est2 : J (b + 4 + 2 * k) 8 = enc (sC σ k 6) := (h.c hk8 (j := 6) (by omega)).trans (congrArg enc est)
      have hiff : enc (sC σ k 6) = -1 ↔ sC σ k 6 = 0 := enc_m1 (by have := (hw.cr hk8).2.2.2.2.2.2.1; omega)
      refine q_aload dX3_beginNextTerm_48 rfl ?_
      refine q_getI fl_RX3_162 rfl (by assumption) est2 dX3_beginNextTerm_50 ?_
      refine q_iconst (v := -1) dX3_beginNextTerm_53 (by decide) ?_
      refine q_icmp_eq (tgt := 62) dX3_beginNextTerm_54 (by decide) (fun h2 => ?_) (fun h2 => ?_)
      · have e := hiff.mp h2
        refine q_iinc (ls' := [_, _, _, _, _]) dX3_beginNextTerm_62 rfl (nI_add _ 1) rfl ?_
        refine q_goto (tgt := 33) dX3_beginNextTerm_65 (by decide) ?_
        refine ih (k + 1) _ _ (by omega) (h.congr (fun j hj => rfl) (fun j hj => rfl) (fun c hc j hj => ?_) (fun c hc => ?_) (fun p hp j hj => rfl) (fun r hr => rfl)) hF
        · show (if c < k ∧ ¬ sC σ c 6 = 0 then _ else _) = (if c < k + 1 ∧ ¬ sC σ c 6 = 0 then _ else _)
          by_cases q1 : c < k ∧ ¬ sC σ c 6 = 0
          · rw [if_pos q1, if_pos (show c < k + 1 ∧ ¬ sC σ c 6 = 0 from ⟨by omega, q1.2⟩)]
          · rw [if_neg q1, if_neg (fun z : c < k + 1 ∧ ¬ sC σ c 6 = 0 => q1 ⟨by have : ¬ c = k := fun y => z.2 (by rw [y]; exact e); omega, z.2⟩)]
        · show (if c < k ∧ ¬ sC σ c 6 = 0 then _ else _) = (if c < k + 1 ∧ ¬ sC σ c 6 = 0 then _ else _)
          by_cases q1 : c < k ∧ ¬ sC σ c 6 = 0
          · rw [if_pos q1, if_pos (show c < k + 1 ∧ ¬ sC σ c 6 = 0 from ⟨by omega, q1.2⟩)]
          · rw [if_neg q1, if_neg (fun z : c < k + 1 ∧ ¬ sC σ c 6 = 0 => q1 ⟨by have : ¬ c = k := fun y => z.2 (by rw [y]; exact e); omega, z.2⟩)]
      · have e : ¬ sC σ k 6 = 0 := fun z => h2 (hiff.mpr z)
        refine q_aload dX3_beginNextTerm_57 rfl ?_
        refine q_cV (as := []) lk_RX3_165 (c_reopen hkk) ⟨0, by decide, by assumption, rfl⟩ rfl (by decide) (Nat.le_of_ble_eq_true rfl) dX3_beginNextTerm_59 ?_
        rintro v J' ⟨rfl, rfl⟩
        refine q_iinc (ls' := [_, _, _, _, _]) dX3_beginNextTerm_62 rfl (nI_add _ 1) rfl ?_
        refine q_goto (tgt := 33) dX3_beginNextTerm_65 (by decide) ?_
        have h0 : RC b (q_up (q_up (q_up (q_up J (b + 4 + 2 * k) 8 0) (b + 4 + 2 * k) 9 0) (b + 4 + 2 * k) 10 (-1)) (b + 4 + 2 * k) 11 (-1)) (uC (uC (uC (uC (stk σ k 0) k 6 1) k 9 0) k 8 0) k 7 0) :=
          (((h.C (j := 6) (v := 1) hk8 (by omega) rfl).C (j := 9) (v := 0) hk8 (by omega) rfl).C (j := 8) (v := 0) hk8 (by omega) rfl).C (j := 7) (v := 0) hk8 (by omega) rfl
        have h0 : RC b (q_up (q_up (q_up (q_up (q_up J (b + 4 + 2 * k) 8 0) (b + 4 + 2 * k) 9 0) (b + 4 + 2 * k) 10 (-1)) (b + 4 + 2 * k) 11 (-1)) (b + 4 + 2 * k) 12 0) (uL (uC (uC (uC (uC (stk σ k 0) k 6 1) k 9 0) k 8 0) k 7 0) k []) := h0.L hk8 q_up_s (fun r v hr => by cases hr) (fun i j q1 q2 => q_up_n q2)
        refine ih (k + 1) _ _ (by omega) (h0.congr (fun j hj => rfl) (fun j hj => rfl) (fun c hc j hj => ?_) (fun c hc => ?_) (fun p hp j hj => rfl) (fun r hr => rfl)) (((((hF.up (by omega) (by omega)).up (by omega) (by omega)).up (by omega) (by omega)).up (by omega) (by omega)).up (by omega) (by omega))
        · show f2 (f2 (f2 (f2 (sC (stk σ k 0)) k 6 1) k 9 0) k 8 0) k 7 0 c j = if c < k + 1 ∧ ¬ sC σ c 6 = 0 then (if j = 6 then 1 else if j = 7 ∨ j = 8 ∨ j = 9 then 0 else sC σ c j) else sC σ c j
          have estk : sC (stk σ k 0) c j = if c < k ∧ ¬ sC σ c 6 = 0 then (if j = 6 then 1 else if j = 7 ∨ j = 8 ∨ j = 9 then 0 else sC σ c j) else sC σ c j := rfl
          simp only [f2_or, estk]
          by_cases q1 : c = k
          · subst q1
            rw [if_pos (show c < c + 1 ∧ ¬ sC σ c 6 = 0 from ⟨by omega, e⟩)]
            by_cases j6 : j = 6
            · subst j6; simp
            · by_cases j7 : j = 7
              · subst j7; simp
              · by_cases j8 : j = 8
                · subst j8; simp
                · by_cases j9 : j = 9
                  · subst j9; simp
                  · simp [j6, j7, j8, j9]
          · have : (c < k + 1) = (c < k) := propext (by omega)
            simp [q1, this]
        · show f1 (sL (stk σ k 0)) k [] c = if c < k + 1 ∧ ¬ sC σ c 6 = 0 then [] else sL σ c
          have estk : sL (stk σ k 0) c = if c < k ∧ ¬ sC σ c 6 = 0 then [] else sL σ c := rfl
          simp only [f1_or, estk]
          by_cases q1 : c = k
          · subst q1
            rw [if_pos rfl, if_pos ⟨by omega, e⟩]
          · have : (c < k + 1) = (c < k) := propext (by omega)
            simp [q1, this]
  refine q_M.of pnX3_beginNextTerm (by simp [Value.category]) (Nat.le_of_ble_eq_true rfl) ?_
  refine q_aload_n dX3_beginNextTerm_0 rfl ?_
  refine q_getI fl_RX3_63 rfl (by assumption) (h.g (j := 1) (by omega)) dX3_beginNextTerm_1 ?_
  refine q_if_neN (tgt := 10) (by omega) dX3_beginNextTerm_4 (by decide) (fun h1 => ?_) (fun h1 => ?_)
  · refine q_aload_n dX3_beginNextTerm_10 rfl ?_
    refine q_dup dX3_beginNextTerm_11 rfl ?_
    refine q_getI fl_RX3_73 rfl (by assumption) (h.g (j := 4) (by omega)) dX3_beginNextTerm_12 ?_
    refine q_aload_n dX3_beginNextTerm_15 rfl ?_
    refine q_cV (as := []) lk_RX3_159 (c_paidFor hk h) ⟨3, by decide, by assumption, rfl⟩ rfl (by decide) (Nat.le_of_ble_eq_true rfl) dX3_beginNextTerm_16 ?_
    rintro v J ⟨rfl, rfl⟩
    refine q_iadd dX3_beginNextTerm_19 ?_
    rw [nI_add]
    refine q_putI ⟨fl_RX3_73, rfl, rfl⟩ (by assumption) ⟨rfl, rfl⟩ dX3_beginNextTerm_20 ?_
    have h : RC b (q_up I b 10 (nI (sG σ 4 + ssum (fun p => sP σ p 5) 30))) (uG σ 4 (sG σ 4 + ssum (fun p => sP σ p 5) 30)) := h.G (j := 4) (by omega) rfl
    have hF : FC b I (q_up I b 10 (nI (sG σ 4 + ssum (fun p => sP σ p 5) 30))) := FC.rf.up (by omega) (by omega)
    generalize q_up I b 10 (nI (sG σ 4 + ssum (fun p => sP σ p 5) 30)) = J1 at h hF ⊢
    refine q_aload_n dX3_beginNextTerm_23 rfl ?_
    refine q_getR fl_RX3_11 rfl (by assumption) dX3_beginNextTerm_24 ?_
    refine q_astore_n (ls' := [_, _, _, _, _]) dX3_beginNextTerm_27 (Nat.le_of_ble_eq_true rfl) rfl ?_
    refine q_aload_n dX3_beginNextTerm_28 rfl ?_
    refine q_lenC hk rfl dX3_beginNextTerm_29 ?_
    refine q_istore_n (ls' := [_, _, _, _, _]) dX3_beginNextTerm_30 (Nat.le_of_ble_eq_true rfl) rfl ?_
    refine q_iconst (v := nI 0) dX3_beginNextTerm_31 (by decide) ?_
    refine q_istore_n (ls' := [_, _, _, _, _]) dX3_beginNextTerm_32 (Nat.le_of_ble_eq_true rfl) rfl ?_
    refine classes h1 8 0 J1 _ rfl (h.congr (fun j hj => rfl) (fun j hj => rfl) (fun c hc j hj => ?_) (fun c hc => ?_) (fun p hp j hj => rfl) (fun r hr => rfl)) hF
    · show sC σ c j = if c < 0 ∧ ¬ sC σ c 6 = 0 then (if j = 6 then 1 else if j = 7 ∨ j = 8 ∨ j = 9 then 0 else sC σ c j) else sC σ c j
      rw [if_neg (show ¬ (c < 0 ∧ ¬ sC σ c 6 = 0) from fun z => by omega)]
    · show sL σ c = if c < 0 ∧ ¬ sC σ c 6 = 0 then [] else sL σ c
      rw [if_neg (show ¬ (c < 0 ∧ ¬ sC σ c 6 = 0) from fun z => by omega)]
  · have ho : opTerm σ = (-1000002, σ) := by rw [opTerm, if_pos h1]
    refine q_ldc (v := -1000002) ct_RX3_90 dX3_beginNextTerm_7 ?_
    exact q_iret rfl rfl dX3_beginNextTerm_9 ⟨by rw [ho], by rw [ho]; exact h, FC.rf⟩
theorem kS_apart {b d : Nat} (hb : q_kd b = 3) (hd : q_kd d = 3) (h : ¬ b = d) : d + 50 ≤ b ∨ b + 50 ≤ d := by
  have := kS hb
  have := kS hd
  omega
/-- a copy of a season: as far as k classes and m people -/
def cps (b d k m : Nat) (I J : q_Mem) : Prop := FC b I J ∧ (∀ c, c < k → (∀ j, 2 ≤ j → j < 13 → J (b + 4 + 2 * c) j = I (d + 4 + 2 * c) j) ∧ ∀ j, j < 20 → J (b + 5 + 2 * c) j = I (d + 5 + 2 * c) j) ∧ (∀ p, p < m → ∀ j, 1 ≤ j → j < 8 → J (b + 20 + p) j = I (d + 20 + p) j) ∧ (∀ c, c < 8 → J (b + 4 + 2 * c) 0 = I (b + 4 + 2 * c) 0) ∧ ∀ p, p < 30 → J (b + 20 + p) 0 = I (b + 20 + p) 0
theorem c_copyS {b d : Nat} {I : q_Mem} {σ0 σ : q_S} (hk : q_kd b = 3) (hkd : q_kd d = 3) (hne : ¬ b = d) (h0 : RC b I σ0) (h : RC d I σ) (hG : sG σ 1 ≤ 1) (hP : ∀ p, p < 30 → sP σ p 0 ≤ 1) (hlen : ∀ c, sLen σ c ≤ 20) : q_M kX3_copyFrom [.ref b, .ref d] I (fun v J => v = none ∧ RC b J σ ∧ FC b I J) := by
  have hap := kS_apart hk hkd hne
  have scalars : ∀ (J : q_Mem) (o2 : Option Value), cps b d 8 30 I J → q_X kX3_copyFrom 118 [some (.ref b), some (.ref d), o2] [] J (fun v J => v = none ∧ RC b J σ ∧ FC b I J) := by
    intro J o2 hc
    refine q_aload_n dX3_copyFrom_118 rfl ?_
    refine q_getR fl_RX3_23 rfl (by assumption) dX3_copyFrom_119 ?_
    refine q_iconst (v := nI 0) dX3_copyFrom_122 (by decide) ?_
    refine q_aload_n dX3_copyFrom_123 rfl ?_
    refine q_getR fl_RX3_23 rfl (by assumption) dX3_copyFrom_124 ?_
    refine q_iconst (v := nI 0) dX3_copyFrom_127 (by decide) ?_
    refine q_aload_n dX3_copyFrom_128 rfl ?_
    refine q_getR fl_RX3_23 rfl (by assumption) dX3_copyFrom_129 ?_
    refine q_lenR hkd rfl dX3_copyFrom_132 ?_
    refine q_aload_n dX3_copyFrom_133 rfl ?_
    refine q_getR fl_RX3_23 rfl (by assumption) dX3_copyFrom_134 ?_
    refine q_lenR hk rfl dX3_copyFrom_137 ?_
    refine q_mmin lk_RX3_38 (by decide) (Nat.le_of_ble_eq_true rfl) dX3_copyFrom_138 ?_
    rw [ite_self]
    refine q_copy (n := 5) lk_RX3_44 (kS3 hkd) (kS3 hk) (by rw [lS3 hkd]; exact Nat.le_refl _) (by rw [lS3 hk]; exact Nat.le_refl _) (by decide) (by decide) (Nat.le_of_ble_eq_true rfl) dX3_copyFrom_141 (fun K hK => ?_)
    have hrow : ∀ i, ¬ i = b + 3 → K i = J i := fun i hi => funext fun j => by rw [hK, if_neg (fun z => hi z.1)]
    have hc : cps b d 8 30 I K := by
      obtain ⟨c1, c2, c3, c4, c5⟩ := hc
      refine ⟨fun a ha => by rw [hrow a (by omega)]; exact c1 a ha, fun c hc => ⟨fun j j1 j2 => by rw [hrow _ (by omega)]; exact (c2 c hc).1 j j1 j2, fun j j1 => by rw [hrow _ (by omega)]; exact (c2 c hc).2 j j1⟩, fun p hp j j1 j2 => by rw [hrow _ (by omega)]; exact c3 p hp j j1 j2, fun c hc => by rw [hrow _ (by omega)]; exact c4 c hc, fun p hp => by rw [hrow _ (by omega)]; exact c5 p hp⟩
    have hR : ∀ r, r < 5 → K (b + 3) r = I (d + 3) r := by
      intro r hr
      rw [hK, if_pos ⟨rfl, hr⟩]
      have := ‹cps b d 8 30 I J›.1 (d + 3) (by omega)
      rw [this]
    clear hK hrow
    have hz : cpd b d K K [] := cpd.nil
    have hKd : ∀ j, K d j = I d j := fun j => congrFun (hc.1 d (by omega)) j
    refine q_aload_n dX3_copyFrom_144 rfl ?_
    refine q_aload_n dX3_copyFrom_145 rfl ?_
    refine q_getI fl_RX3_50 rfl (by assumption) (congrFun (hz.1 d (fun q => hne q.symm)) 3) dX3_copyFrom_146 ?_
    refine q_putI ⟨fl_RX3_50, rfl, rfl⟩ (by assumption) ⟨rfl, rfl⟩ dX3_copyFrom_149 ?_
    have hz := hz.up (j := 3)
    generalize q_up _ b 3 (K d 3) = K0 at hz ⊢
    refine q_aload_n dX3_copyFrom_152 rfl ?_
    refine q_aload_n dX3_copyFrom_153 rfl ?_
    refine q_getI fl_RX3_54 rfl (by assumption) (congrFun (hz.1 d (fun q => hne q.symm)) 4) dX3_copyFrom_154 ?_
    refine q_putI ⟨fl_RX3_54, rfl, rfl⟩ (by assumption) ⟨rfl, rfl⟩ dX3_copyFrom_157 ?_
    have hz := hz.up (j := 4)
    generalize q_up _ b 4 (K d 4) = K1 at hz ⊢
    refine q_aload_n dX3_copyFrom_160 rfl ?_
    refine q_aload_n dX3_copyFrom_161 rfl ?_
    refine q_getI fl_RX3_57 rfl (by assumption) (congrFun (hz.1 d (fun q => hne q.symm)) 5) dX3_copyFrom_162 ?_
    refine q_putI ⟨fl_RX3_57, rfl, rfl⟩ (by assumption) ⟨rfl, rfl⟩ dX3_copyFrom_165 ?_
    have hz := hz.up (j := 5)
    generalize q_up _ b 5 (K d 5) = K2 at hz ⊢
    refine q_aload_n dX3_copyFrom_168 rfl ?_
    refine q_aload_n dX3_copyFrom_169 rfl ?_
    refine q_getI fl_RX3_60 rfl (by assumption) (congrFun (hz.1 d (fun q => hne q.symm)) 6) dX3_copyFrom_170 ?_
    refine q_putI ⟨fl_RX3_60, rfl, rfl⟩ (by assumption) ⟨rfl, rfl⟩ dX3_copyFrom_173 ?_
    have hz := hz.up (j := 6)
    generalize q_up _ b 6 (K d 6) = K3 at hz ⊢
    have hbz : K d 7 = 0 ∨ K d 7 = 1 := by
      rw [hKd]
      have hg : I d 7 = nI (sG σ 1) := h.g (j := 1) (by omega)
      rw [hg]
      have hc2 : sG σ 1 = 0 ∨ sG σ 1 = 1 := by omega
      rcases hc2 with e | e
      · rw [e]; exact Or.inl rfl
      · rw [e]; exact Or.inr rfl
    refine q_aload_n dX3_copyFrom_176 rfl ?_
    refine q_aload_n dX3_copyFrom_177 rfl ?_
    refine q_getI fl_RX3_63 rfl (by assumption) (congrFun (hz.1 d (fun q => hne q.symm)) 7) dX3_copyFrom_178 ?_
    refine q_putI ⟨fl_RX3_63, rfl, rfl⟩ (by assumption) (bool_ok hbz) dX3_copyFrom_181 ?_
    have hz := hz.up (j := 7)
    generalize q_up _ b 7 (K d 7) = K4 at hz ⊢
    refine q_aload_n dX3_copyFrom_184 rfl ?_
    refine q_aload_n dX3_copyFrom_185 rfl ?_
    refine q_getI fl_RX3_67 rfl (by assumption) (congrFun (hz.1 d (fun q => hne q.symm)) 8) dX3_copyFrom_186 ?_
    refine q_putI ⟨fl_RX3_67, rfl, rfl⟩ (by assumption) ⟨rfl, rfl⟩ dX3_copyFrom_189 ?_
    have hz := hz.up (j := 8)
    generalize q_up _ b 8 (K d 8) = K5 at hz ⊢
    refine q_aload_n dX3_copyFrom_192 rfl ?_
    refine q_aload_n dX3_copyFrom_193 rfl ?_
    refine q_getI fl_RX3_70 rfl (by assumption) (congrFun (hz.1 d (fun q => hne q.symm)) 9) dX3_copyFrom_194 ?_
    refine q_putI ⟨fl_RX3_70, rfl, rfl⟩ (by assumption) ⟨rfl, rfl⟩ dX3_copyFrom_197 ?_
    have hz := hz.up (j := 9)
    generalize q_up _ b 9 (K d 9) = K6 at hz ⊢
    refine q_aload_n dX3_copyFrom_200 rfl ?_
    refine q_aload_n dX3_copyFrom_201 rfl ?_
    refine q_getI fl_RX3_73 rfl (by assumption) (congrFun (hz.1 d (fun q => hne q.symm)) 10) dX3_copyFrom_202 ?_
    refine q_putI ⟨fl_RX3_73, rfl, rfl⟩ (by assumption) ⟨rfl, rfl⟩ dX3_copyFrom_205 ?_
    have hz := hz.up (j := 10)
    generalize q_up _ b 10 (K d 10) = K7 at hz ⊢
    refine q_aload_n dX3_copyFrom_208 rfl ?_
    refine q_aload_n dX3_copyFrom_209 rfl ?_
    refine q_getI fl_RX3_76 rfl (by assumption) (congrFun (hz.1 d (fun q => hne q.symm)) 11) dX3_copyFrom_210 ?_
    refine q_putI ⟨fl_RX3_76, rfl, rfl⟩ (by assumption) ⟨rfl, rfl⟩ dX3_copyFrom_213 ?_
    have hz := hz.up (j := 11)
    generalize q_up _ b 11 (K d 11) = K8 at hz ⊢
    refine q_aload_n dX3_copyFrom_216 rfl ?_
    refine q_aload_n dX3_copyFrom_217 rfl ?_
    refine q_getI fl_RX3_79 rfl (by assumption) (congrFun (hz.1 d (fun q => hne q.symm)) 12) dX3_copyFrom_218 ?_
    refine q_putI ⟨fl_RX3_79, rfl, rfl⟩ (by assumption) ⟨rfl, rfl⟩ dX3_copyFrom_221 ?_
    have hz := hz.up (j := 12)
    generalize q_up _ b 12 (K d 12) = K9 at hz ⊢
    refine q_aload_n dX3_copyFrom_224 rfl ?_
    refine q_aload_n dX3_copyFrom_225 rfl ?_
    refine q_getI fl_RX3_82 rfl (by assumption) (congrFun (hz.1 d (fun q => hne q.symm)) 13) dX3_copyFrom_226 ?_
    refine q_putI ⟨fl_RX3_82, rfl, rfl⟩ (by assumption) ⟨rfl, rfl⟩ dX3_copyFrom_229 ?_
    have hz := hz.up (j := 13)
    generalize q_up _ b 13 (K d 13) = K10 at hz ⊢
    refine q_vret rfl dX3_copyFrom_232 ⟨rfl, ?_, ?_⟩
    · obtain ⟨c1, c2, c3, c4, c5⟩ := hc
      obtain ⟨z1, z2, z3⟩ := hz
      have sc : ∀ j, 3 ≤ j → j < 14 → K10 b j = I d j := fun j j1 j2 => by
        rw [z2 j (by simp only [List.mem_cons]; omega)]; exact hKd j
      obtain ⟨h1, h2, h3, h4, h5, h6, h7, h8, h9⟩ := h
      obtain ⟨-, -, -, -, -, -, -, n8, n9⟩ := h0
      refine ⟨fun j hj => ?_, fun j hj => ?_, fun c hc j hj => ?_, fun c hc => ?_, fun c hc r v hr => ?_, fun p hp j hj => ?_, fun r hr => ?_, fun c hc => ?_, fun p hp => ?_⟩
      · have := nslot_lt j hj
        rw [sc _ (by omega) (by omega)]; exact h1 j hj
      · rw [sc _ (by omega) (by omega)]; exact h2 j hj
      · have := cslot_lt j hj
        rw [z1 _ (by omega), (c2 c hc).1 _ (by omega) (by omega)]; exact h3 c hc j hj
      · rw [z1 _ (by omega), (c2 c hc).1 _ (by omega) (by omega)]; exact h4 c hc
      · have := g_lt hr (hlen c)
        rw [z1 _ (by omega), (c2 c hc).2 r this]; exact h5 c hc r v hr
      · have := pslot_lt j hj
        rw [z1 _ (by omega), c3 p hp _ (by omega) (by omega)]; exact h6 p hp j hj
      · rw [z1 _ (by omega), hR r hr]; exact h7 r hr
      · rw [z1 _ (by omega), c4 c hc]; exact n8 c hc
      · rw [z1 _ (by omega), c5 p hp]; exact n9 p hp
    · intro a ha
      rw [hz.1 a (by omega)]; exact hc.1 a ha
  have people : ∀ (n m : Nat) (J : q_Mem), m + n = 30 → cps b d 8 m I J → q_X kX3_copyFrom 61 [some (.ref b), some (.ref d), some (.int (nI m))] [] J (fun v J => v = none ∧ RC b J σ ∧ FC b I J) := by
    intro n
    induction n with
    | zero =>
      intro m J hn hc
      obtain rfl : m = 30 := by omega
      refine q_iload_n dX3_copyFrom_61 rfl ?_
      refine q_aload_n dX3_copyFrom_62 rfl ?_
      refine q_getR fl_RX3_19 rfl (by assumption) dX3_copyFrom_63 ?_
      refine q_lenP hk rfl dX3_copyFrom_66 ?_
      refine q_icmp_geN (tgt := 118) (by omega) (by omega) dX3_copyFrom_67 (by decide) (fun q => ?_) (fun q => ?_)
      · exact scalars J _ hc
      · omega
    | succ n ih =>
      intro m J hn hc
      have hm : m < 30 := by omega
      have hkp := kSP hk hm
      have hkq := kSP hkd hm
      refine q_iload_n dX3_copyFrom_61 rfl ?_
      refine q_aload_n dX3_copyFrom_62 rfl ?_
      refine q_getR fl_RX3_19 rfl (by assumption) dX3_copyFrom_63 ?_
      refine q_lenP hk rfl dX3_copyFrom_66 ?_
      refine q_icmp_geN (tgt := 118) (by omega) (by omega) dX3_copyFrom_67 (by decide) (fun q => ?_) (fun q => ?_)
      · omega
      refine q_iload_n dX3_copyFrom_70 rfl ?_
      refine q_aload_n dX3_copyFrom_71 rfl ?_
      refine q_getR fl_RX3_19 rfl (by assumption) dX3_copyFrom_72 ?_
      refine q_lenP hkd rfl dX3_copyFrom_75 ?_
      refine q_icmp_geN (tgt := 118) (by omega) (by omega) dX3_copyFrom_76 (by decide) (fun q => ?_) (fun q => ?_)
      · omega
      refine q_aload_n dX3_copyFrom_79 rfl ?_
      refine q_getR fl_RX3_19 rfl (by assumption) dX3_copyFrom_80 ?_
      refine q_iload_n dX3_copyFrom_83 rfl ?_
      refine q_aaldP hk rfl hm dX3_copyFrom_84 ?_
      refine q_ifnull dX3_copyFrom_85 ?_
      refine q_aload_n dX3_copyFrom_88 rfl ?_
      refine q_getR fl_RX3_19 rfl (by assumption) dX3_copyFrom_89 ?_
      refine q_iload_n dX3_copyFrom_92 rfl ?_
      refine q_aaldP hkd rfl hm dX3_copyFrom_93 ?_
      refine q_ifnull dX3_copyFrom_94 ?_
      refine q_aload_n dX3_copyFrom_97 rfl ?_
      refine q_getR fl_RX3_19 rfl (by assumption) dX3_copyFrom_98 ?_
      refine q_iload_n dX3_copyFrom_101 rfl ?_
      refine q_aaldP hk rfl hm dX3_copyFrom_102 ?_
      refine q_aload_n dX3_copyFrom_103 rfl ?_
      refine q_getR fl_RX3_19 rfl (by assumption) dX3_copyFrom_104 ?_
      refine q_iload_n dX3_copyFrom_107 rfl ?_
      refine q_aaldP hkd rfl hm dX3_copyFrom_108 ?_
      obtain ⟨c1, c2, c3, c4, c5⟩ := hc
      have hJd : J (d + 20 + m) = I (d + 20 + m) := c1 _ (by omega)
      have hb1 : J (d + 20 + m) 1 = 0 ∨ J (d + 20 + m) 1 = 1 := by
        rw [hJd]
        have hg : I (d + 20 + m) 1 = nI (sP σ m 0) := h.p hm (j := 0) (by omega)
        rw [hg]
        have := hP m hm
        have hc2 : sP σ m 0 = 0 ∨ sP σ m 0 = 1 := by omega
        rcases hc2 with e | e
        · rw [e]; exact Or.inl rfl
        · rw [e]; exact Or.inr rfl
      refine q_cV (as := [_]) lk_RX3_35 (c_copyP hkp hkq (by omega) hb1) ⟨2, by decide, by assumption, rfl⟩ rfl (by decide) (Nat.le_of_ble_eq_true rfl) dX3_copyFrom_109 ?_
      rintro v K ⟨rfl, k1, k2, k3⟩
      refine q_iinc (ls' := [_, _, _]) dX3_copyFrom_112 rfl (nI_add _ 1) rfl ?_
      refine q_goto (tgt := 61) dX3_copyFrom_115 (by decide) ?_
      refine ih (m + 1) K (by omega) ⟨fun a ha => by rw [k3 a (by omega)]; exact c1 a ha, fun c hc => ⟨fun j j1 j2 => by rw [k3 _ (by omega)]; exact (c2 c hc).1 j j1 j2, fun j j1 => by rw [k3 _ (by omega)]; exact (c2 c hc).2 j j1⟩, fun p hp j j1 j2 => ?_, fun c hc => by rw [k3 _ (by omega)]; exact c4 c hc, fun p hp => ?_⟩
      · by_cases e : p = m
        · subst e; rw [k1 j j1 j2, hJd]
        · rw [k3 _ (by omega)]; exact c3 p (by omega) j j1 j2
      · by_cases e : p = m
        · subst e; rw [k2]; exact c5 p hp
        · rw [k3 _ (by omega)]; exact c5 p hp
  have classes : ∀ (n k : Nat) (J : q_Mem), k + n = 8 → cps b d k 0 I J → q_X kX3_copyFrom 2 [some (.ref b), some (.ref d), some (.int (nI k))] [] J (fun v J => v = none ∧ RC b J σ ∧ FC b I J) := by
    intro n
    induction n with
    | zero =>
      intro k J hn hc
      obtain rfl : k = 8 := by omega
      refine q_iload_n dX3_copyFrom_2 rfl ?_
      refine q_aload_n dX3_copyFrom_3 rfl ?_
      refine q_getR fl_RX3_11 rfl (by assumption) dX3_copyFrom_4 ?_
      refine q_lenC hk rfl dX3_copyFrom_7 ?_
      refine q_icmp_geN (tgt := 59) (by omega) (by omega) dX3_copyFrom_8 (by decide) (fun q => ?_) (fun q => ?_)
      · refine q_iconst (v := nI 0) dX3_copyFrom_59 (by decide) ?_
        refine q_istore_n (ls' := [_, _, _]) dX3_copyFrom_60 (Nat.le_of_ble_eq_true rfl) rfl ?_
        exact people 30 0 J rfl hc
      · omega
    | succ n ih =>
      intro k J hn hc
      have hm : k < 8 := by omega
      have hkp := kSC hk hm
      have hkq := kSC hkd hm
      refine q_iload_n dX3_copyFrom_2 rfl ?_
      refine q_aload_n dX3_copyFrom_3 rfl ?_
      refine q_getR fl_RX3_11 rfl (by assumption) dX3_copyFrom_4 ?_
      refine q_lenC hk rfl dX3_copyFrom_7 ?_
      refine q_icmp_geN (tgt := 59) (by omega) (by omega) dX3_copyFrom_8 (by decide) (fun q => ?_) (fun q => ?_)
      · omega
      refine q_iload_n dX3_copyFrom_11 rfl ?_
      refine q_aload_n dX3_copyFrom_12 rfl ?_
      refine q_getR fl_RX3_11 rfl (by assumption) dX3_copyFrom_13 ?_
      refine q_lenC hkd rfl dX3_copyFrom_16 ?_
      refine q_icmp_geN (tgt := 59) (by omega) (by omega) dX3_copyFrom_17 (by decide) (fun q => ?_) (fun q => ?_)
      · omega
      refine q_aload_n dX3_copyFrom_20 rfl ?_
      refine q_getR fl_RX3_11 rfl (by assumption) dX3_copyFrom_21 ?_
      refine q_iload_n dX3_copyFrom_24 rfl ?_
      refine q_aaldC hk rfl hm dX3_copyFrom_25 ?_
      refine q_ifnull dX3_copyFrom_26 ?_
      refine q_aload_n dX3_copyFrom_29 rfl ?_
      refine q_getR fl_RX3_11 rfl (by assumption) dX3_copyFrom_30 ?_
      refine q_iload_n dX3_copyFrom_33 rfl ?_
      refine q_aaldC hkd rfl hm dX3_copyFrom_34 ?_
      refine q_ifnull dX3_copyFrom_35 ?_
      refine q_aload_n dX3_copyFrom_38 rfl ?_
      refine q_getR fl_RX3_11 rfl (by assumption) dX3_copyFrom_39 ?_
      refine q_iload_n dX3_copyFrom_42 rfl ?_
      refine q_aaldC hk rfl hm dX3_copyFrom_43 ?_
      refine q_aload_n dX3_copyFrom_44 rfl ?_
      refine q_getR fl_RX3_11 rfl (by assumption) dX3_copyFrom_45 ?_
      refine q_iload_n dX3_copyFrom_48 rfl ?_
      refine q_aaldC hkd rfl hm dX3_copyFrom_49 ?_
      obtain ⟨c1, c2, c3, c4, c5⟩ := hc
      have hJd : J (d + 4 + 2 * k) = I (d + 4 + 2 * k) := c1 _ (by omega)
      have hJe : J (d + 5 + 2 * k) = I (d + 5 + 2 * k) := c1 _ (by omega)
      refine q_cV (as := [_]) lk_RX3_31 (c_copyC hkp hkq (by omega)) ⟨0, by decide, by assumption, rfl⟩ rfl (by decide) (Nat.le_of_ble_eq_true rfl) dX3_copyFrom_50 ?_
      rintro v K ⟨rfl, k1, k2, k4, k3⟩
      have e1 : b + 4 + 2 * k + 1 = b + 5 + 2 * k := by omega
      have e2 : d + 4 + 2 * k + 1 = d + 5 + 2 * k := by omega
      rw [e1, e2] at k4
      rw [e1] at k3
      refine q_iinc (ls' := [_, _, _]) dX3_copyFrom_53 rfl (nI_add _ 1) rfl ?_
      refine q_goto (tgt := 2) dX3_copyFrom_56 (by decide) ?_
      refine ih (k + 1) K (by omega) ⟨fun a ha => by rw [k3 a (by omega) (by omega)]; exact c1 a ha, fun c hc => ⟨fun j j1 j2 => ?_, fun j j1 => ?_⟩, fun p hp => by omega, fun c hc => ?_, fun p hp => by rw [k3 _ (by omega) (by omega)]; exact c5 p hp⟩
      · by_cases e : c = k
        · subst e; rw [k1 j j1 j2, hJd]
        · rw [k3 _ (by omega) (by omega)]; exact (c2 c (by omega)).1 j j1 j2
      · by_cases e : c = k
        · subst e; rw [k4 j j1, hJe]
        · rw [k3 _ (by omega) (by omega)]; exact (c2 c (by omega)).2 j j1
      · by_cases e : c = k
        · subst e; rw [k2]; exact c4 c hc
        · rw [k3 _ (by omega) (by omega)]; exact c4 c hc
  refine q_M.of pnX3_copyFrom (by simp [Value.category]) (Nat.le_of_ble_eq_true rfl) ?_
  refine q_iconst (v := nI 0) dX3_copyFrom_0 (by decide) ?_
  refine q_istore_n (ls' := [_, _, _]) dX3_copyFrom_1 (Nat.le_of_ble_eq_true rfl) rfl ?_
  exact classes 8 0 I rfl ⟨FC.rf, fun c hc => by omega, fun p hp => by omega, fun _ _ => rfl, fun _ _ => rfl⟩
