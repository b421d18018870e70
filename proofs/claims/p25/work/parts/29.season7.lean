/-! the class's season: what is asked of many, second part -/
/-- who is the r-th that waits, from k on: number + 1, or 0 -/
def swn (σ : q_S) (w : Nat) : Nat → Nat → Nat → Nat
  | 0, _, _ => 0
  | d + 1, k, r => if swt σ k w = true then (if r = 0 then k + 1 else swn σ w d (k + 1) (r - 1)) else swn σ w d (k + 1) r
theorem c_waiterAt {b c r : Nat} {I : q_Mem} {σ : q_S} (hk : q_kd b = 3) (h : RC b I σ) (hw : WFc σ) (hc : c < 8) (hr : r < 2 ^ 31) : q_M kX3_waiterAt [.ref b, .int (nI c), .int (nI r)] I (fun v J => v = some (.int (enc (swn σ (c + 1) 30 0 r))) ∧ I = J) := by
  have key : ∀ (d k a : Nat) (o7 : Option Value), k + d = 30 → a ≤ k → a ≤ r → swn σ (c + 1) d k (r - a) = swn σ (c + 1) 30 0 r → q_X kX3_waiterAt 16 [some (.ref b), some (.int (nI c)), some (.int (nI r)), some (.int (nI a)), some (.ref (b + 2)), some (.int (nI 30)), some (.int (nI k)), o7] [] I (fun v J => v = some (.int (enc (swn σ (c + 1) 30 0 r))) ∧ I = J) := by
    intro d
    induction d with
    | zero =>
      intro k a o7 hd ha har hs
      refine q_iload dX3_waiterAt_16 rfl ?_
      refine q_iload dX3_waiterAt_18 rfl ?_
      refine q_icmp_geN (tgt := 64) (by omega) (by omega) dX3_waiterAt_20 (by decide) (fun h1 => ?_) (fun h1 => ?_)
      · refine q_iconst (v := -1) dX3_waiterAt_64 (by decide) ?_
        exact q_iret rfl rfl dX3_waiterAt_65 ⟨by rw [← hs]; rfl, rfl⟩
      · omega
    | succ d ih =>
      intro k a o7 hd ha har hs
      have hk30 : k < 30 := by omega
      have hkp := kSP hk hk30
      refine q_iload dX3_waiterAt_16 rfl ?_
      refine q_iload dX3_waiterAt_18 rfl ?_
      refine q_icmp_geN (tgt := 64) (by omega) (by omega) dX3_waiterAt_20 (by decide) (fun h1 => ?_) (fun h1 => ?_)
      · omega
      refine q_aload dX3_waiterAt_23 rfl ?_
      refine q_iload dX3_waiterAt_25 rfl ?_
      refine q_aaldP hk rfl hk30 dX3_waiterAt_27 ?_
      refine q_astore (ls' := [_, _, _, _, _, _, _, _]) dX3_waiterAt_28 (Nat.le_of_ble_eq_true rfl) rfl ?_
      refine q_aload dX3_waiterAt_30 rfl ?_
      refine q_ifnull dX3_waiterAt_32 ?_
      refine q_aload dX3_waiterAt_35 rfl ?_
      refine q_iload_n dX3_waiterAt_37 rfl ?_
      refine q_cV (as := [_]) lk_RX3_246 (c_waitsForS hk h hw hk30 hc) ⟨2, by decide, by assumption, rfl⟩ rfl (by decide) (Nat.le_of_ble_eq_true rfl) dX3_waiterAt_38 ?_
      rintro v J ⟨rfl, rfl⟩
      rw [swn] at hs
      by_cases e : swt σ k (c + 1) = true
      · rw [if_pos e] at hs ⊢
        refine q_if_eq (tgt := 58) dX3_waiterAt_41 (by decide) (fun h2 => ?_) (fun h2 => ?_)
        · exact absurd h2 (by decide)
        refine q_iload_n dX3_waiterAt_44 rfl ?_
        refine q_iload_n dX3_waiterAt_45 rfl ?_
        refine q_icmp_neN (tgt := 55) (by omega) (by omega) dX3_waiterAt_46 (by decide) (fun h3 => ?_) (fun h3 => ?_)
        · rw [if_neg (by omega)] at hs
          refine q_iinc (ls' := [_, _, _, _, _, _, _, _]) dX3_waiterAt_55 rfl (nI_add _ 1) rfl ?_
          refine q_iinc (ls' := [_, _, _, _, _, _, _, _]) dX3_waiterAt_58 rfl (nI_add _ 1) rfl ?_
          refine q_goto (tgt := 16) dX3_waiterAt_61 (by decide) ?_
          exact ih (k + 1) (a + 1) _ (by omega) (by omega) (by omega) (by rw [show r - (a + 1) = r - a - 1 by omega]; exact hs)
        · rw [if_pos (by omega)] at hs
          refine q_aload dX3_waiterAt_49 rfl ?_
          refine q_getI fl_RX3_110 rfl (by assumption) (h.pn hk30) dX3_waiterAt_51 ?_
          exact q_iret rfl rfl dX3_waiterAt_54 ⟨by rw [← hs]; rfl, rfl⟩
      · rw [if_neg e] at hs ⊢
        refine q_if_eq (tgt := 58) dX3_waiterAt_41 (by decide) (fun h2 => ?_) (fun h2 => ?_)
        · refine q_iinc (ls' := [_, _, _, _, _, _, _, _]) dX3_waiterAt_58 rfl (nI_add _ 1) rfl ?_
          refine q_goto (tgt := 16) dX3_waiterAt_61 (by decide) ?_
          exact ih (k + 1) a _ (by omega) (by omega) har hs
        · exact absurd rfl h2
  refine q_M.of pnX3_waiterAt (by simp [Value.category]) (Nat.le_of_ble_eq_true rfl) ?_
  refine q_iconst (v := nI 0) dX3_waiterAt_0 (by decide) ?_
  refine q_istore_n (ls' := [_, _, _, _, _, _, _, _]) dX3_waiterAt_1 (Nat.le_of_ble_eq_true rfl) rfl ?_
  refine q_aload_n dX3_waiterAt_2 rfl ?_
  refine q_getR fl_RX3_19 rfl (by assumption) dX3_waiterAt_3 ?_
  refine q_astore (ls' := [_, _, _, _, _, _, _, _]) dX3_waiterAt_6 (Nat.le_of_ble_eq_true rfl) rfl ?_
  refine q_aload dX3_waiterAt_8 rfl ?_
  refine q_lenP hk rfl dX3_waiterAt_10 ?_
  refine q_istore (ls' := [_, _, _, _, _, _, _, _]) dX3_waiterAt_11 (Nat.le_of_ble_eq_true rfl) rfl ?_
  refine q_iconst (v := nI 0) dX3_waiterAt_13 (by decide) ?_
  refine q_istore (ls' := [_, _, _, _, _, _, _, _]) dX3_waiterAt_14 (Nat.le_of_ble_eq_true rfl) rfl ?_
  exact key 30 0 0 _ rfl (by omega) (by omega) rfl
theorem c_coursesIn {b r : Nat} {I : q_Mem} {σ : q_S} (hk : q_kd b = 3) (h : RC b I σ) (hw : WFc σ) (hr : r < 5) : q_M kX3_coursesIn [.ref b, .int (nI r)] I (fun v J => v = some (.int (nI (sbits (fun c => decide (sC σ c 7 = r + 1)) 8))) ∧ I = J) := by
  have key : ∀ (d k : Nat) (o6 : Option Value), k + d = 8 → q_X kX3_coursesIn 14 [some (.ref b), some (.int (nI r)), some (.int (nI (sbits (fun c => decide (sC σ c 7 = r + 1)) k))), some (.ref (b + 1)), some (.int (nI 8)), some (.int (nI k)), o6] [] I (fun v J => v = some (.int (nI (sbits (fun c => decide (sC σ c 7 = r + 1)) 8))) ∧ I = J) := by
    intro d
    induction d with
    | zero =>
      intro k o6 hd
      obtain rfl : k = 8 := by omega
      refine q_iload dX3_coursesIn_14 rfl ?_
      refine q_iload dX3_coursesIn_16 rfl ?_
      refine q_icmp_geN (tgt := 57) (by omega) (by omega) dX3_coursesIn_18 (by decide) (fun h1 => ?_) (fun h1 => ?_)
      · refine q_iload_n dX3_coursesIn_57 rfl ?_
        exact q_iret rfl rfl dX3_coursesIn_58 ⟨rfl, rfl⟩
      · omega
    | succ d ih =>
      intro k o6 hd
      have hk8 : k < 8 := by omega
      have hkk := kSC hk hk8
      have hst : cenc 7 (sC σ k 7) = nI r ↔ sC σ k 7 = r + 1 := enc_nI (by have := (hw.cr hk8).2.2.2.2.2.2.2.1; omega) (by omega)
      have hsl := sbits_lt (fun c => decide (sC σ c 7 = r + 1)) k
      refine q_iload dX3_coursesIn_14 rfl ?_
      refine q_iload dX3_coursesIn_16 rfl ?_
      refine q_icmp_geN (tgt := 57) (by omega) (by omega) dX3_coursesIn_18 (by decide) (fun h1 => ?_) (fun h1 => ?_)
      · omega
      refine q_aload_n dX3_coursesIn_21 rfl ?_
      refine q_iload dX3_coursesIn_22 rfl ?_
      refine q_aaldC hk rfl hk8 dX3_coursesIn_24 ?_
      refine q_astore (ls' := [_, _, _, _, _, _, _]) dX3_coursesIn_25 (Nat.le_of_ble_eq_true rfl) rfl ?_
      refine q_aload dX3_coursesIn_27 rfl ?_
      refine q_ifnull dX3_coursesIn_29 ?_
      refine q_aload dX3_coursesIn_32 rfl ?_
      refine q_getI fl_RX3_233 rfl (by assumption) (h.c hk8 (j := 7) (by omega)) dX3_coursesIn_34 ?_
      refine q_iload_n dX3_coursesIn_37 rfl ?_
      refine q_icmp_ne (tgt := 51) dX3_coursesIn_38 (by decide) (fun h2 => ?_) (fun h2 => ?_)
      · have hs : sbits (fun c => decide (sC σ c 7 = r + 1)) (k + 1) = sbits (fun c => decide (sC σ c 7 = r + 1)) k := by
          have hn : ¬ sC σ k 7 = r + 1 := fun z => h2 (hst.mpr z)
          rw [sbits]; simp [hn]
        refine q_iinc (ls' := [_, _, _, _, _, _, _]) dX3_coursesIn_51 rfl (nI_add _ 1) rfl ?_
        refine q_goto (tgt := 14) dX3_coursesIn_54 (by decide) ?_
        have := ih (k + 1) (some (.ref (b + 4 + 2 * k))) (by omega)
        rw [hs] at this
        exact this
      · have hs : sbits (fun c => decide (sC σ c 7 = r + 1)) (k + 1) = sbits (fun c => decide (sC σ c 7 = r + 1)) k + 2 ^ k := by
          rw [sbits]; simp [hst.mp h2]
        refine q_iload_n dX3_coursesIn_41 rfl ?_
        refine q_iconst (v := nI 1) dX3_coursesIn_42 (by decide) ?_
        refine q_aload dX3_coursesIn_43 rfl ?_
        refine q_getI fl_RX3_96 rfl (by assumption) (h.cn hk8) dX3_coursesIn_45 ?_
        refine q_ishl dX3_coursesIn_48 ?_
        refine q_ior dX3_coursesIn_49 ?_
        rw [bit_or k hk8 _ hsl, ← hs]
        refine q_istore_n (ls' := [_, _, _, _, _, _, _]) dX3_coursesIn_50 (Nat.le_of_ble_eq_true rfl) rfl ?_
        refine q_iinc (ls' := [_, _, _, _, _, _, _]) dX3_coursesIn_51 rfl (nI_add _ 1) rfl ?_
        refine q_goto (tgt := 14) dX3_coursesIn_54 (by decide) ?_
        exact ih (k + 1) _ (by omega)
  refine q_M.of pnX3_coursesIn (by simp [Value.category]) (Nat.le_of_ble_eq_true rfl) ?_
  refine q_iconst (v := nI 0) dX3_coursesIn_0 (by decide) ?_
  refine q_istore_n (ls' := [_, _, _, _, _, _, _]) dX3_coursesIn_1 (Nat.le_of_ble_eq_true rfl) rfl ?_
  refine q_aload_n dX3_coursesIn_2 rfl ?_
  refine q_getR fl_RX3_11 rfl (by assumption) dX3_coursesIn_3 ?_
  refine q_astore_n (ls' := [_, _, _, _, _, _, _]) dX3_coursesIn_6 (Nat.le_of_ble_eq_true rfl) rfl ?_
  refine q_aload_n dX3_coursesIn_7 rfl ?_
  refine q_lenC hk rfl dX3_coursesIn_8 ?_
  refine q_istore (ls' := [_, _, _, _, _, _, _]) dX3_coursesIn_9 (Nat.le_of_ble_eq_true rfl) rfl ?_
  refine q_iconst (v := nI 0) dX3_coursesIn_11 (by decide) ?_
  refine q_istore (ls' := [_, _, _, _, _, _, _]) dX3_coursesIn_12 (Nat.le_of_ble_eq_true rfl) rfl ?_
  exact key 8 0 _ rfl
theorem c_withPlace {b : Nat} {I : q_Mem} {σ : q_S} (hk : q_kd b = 3) (h : RC b I σ) (hw : WFc σ) : q_M kX3_coursesWithPlace [.ref b] I (fun v J => v = some (.int (nI (sbits (fun c => decide (sC σ c 6 = 1 ∧ sLen σ c < sC σ c 4)) 8))) ∧ I = J) := by
  have key : ∀ (d k : Nat) (o6 : Option Value), k + d = 8 → q_X kX3_coursesWithPlace 13 [some (.ref b), some (.int (nI (sbits (fun c => decide (sC σ c 6 = 1 ∧ sLen σ c < sC σ c 4)) k))), some (.ref (b + 1)), some (.int (nI 8)), some (.int (nI k)), o6] [] I (fun v J => v = some (.int (nI (sbits (fun c => decide (sC σ c 6 = 1 ∧ sLen σ c < sC σ c 4)) 8))) ∧ I = J) := by
    intro d
    induction d with
    | zero =>
      intro k o6 hd
      obtain rfl : k = 8 := by omega
      refine q_iload dX3_coursesWithPlace_13 rfl ?_
      refine q_iload_n dX3_coursesWithPlace_15 rfl ?_
      refine q_icmp_geN (tgt := 54) (by omega) (by omega) dX3_coursesWithPlace_16 (by decide) (fun h1 => ?_) (fun h1 => ?_)
      · refine q_iload_n dX3_coursesWithPlace_54 rfl ?_
        exact q_iret rfl rfl dX3_coursesWithPlace_55 ⟨rfl, rfl⟩
      · omega
    | succ d ih =>
      intro k o6 hd
      have hk8 : k < 8 := by omega
      have hkk := kSC hk hk8
      have hsl := sbits_lt (fun c => decide (sC σ c 6 = 1 ∧ sLen σ c < sC σ c 4)) k
      refine q_iload dX3_coursesWithPlace_13 rfl ?_
      refine q_iload_n dX3_coursesWithPlace_15 rfl ?_
      refine q_icmp_geN (tgt := 54) (by omega) (by omega) dX3_coursesWithPlace_16 (by decide) (fun h1 => ?_) (fun h1 => ?_)
      · omega
      refine q_aload_n dX3_coursesWithPlace_19 rfl ?_
      refine q_iload dX3_coursesWithPlace_20 rfl ?_
      refine q_aaldC hk rfl hk8 dX3_coursesWithPlace_22 ?_
      refine q_astore (ls' := [_, _, _, _, _, _]) dX3_coursesWithPlace_23 (Nat.le_of_ble_eq_true rfl) rfl ?_
      refine q_aload dX3_coursesWithPlace_25 rfl ?_
      refine q_ifnull dX3_coursesWithPlace_27 ?_
      refine q_aload dX3_coursesWithPlace_30 rfl ?_
      refine q_cV (as := []) lk_RX3_185 (c_hasFreeS hk h hw hk8) ⟨0, by decide, by assumption, rfl⟩ rfl (by decide) (Nat.le_of_ble_eq_true rfl) dX3_coursesWithPlace_32 ?_
      rintro v J ⟨rfl, rfl⟩
      by_cases e : sC σ k 6 = 1 ∧ sLen σ k < sC σ k 4
      · rw [if_pos e]
        refine q_if_eq (tgt := 48) dX3_coursesWithPlace_35 (by decide) (fun h2 => ?_) (fun h2 => ?_)
        · exact absurd h2 (by decide)
        have hs : sbits (fun c => decide (sC σ c 6 = 1 ∧ sLen σ c < sC σ c 4)) (k + 1) = sbits (fun c => decide (sC σ c 6 = 1 ∧ sLen σ c < sC σ c 4)) k + 2 ^ k := by
          rw [sbits]; simp [e]
        refine q_iload_n dX3_coursesWithPlace_38 rfl ?_
        refine q_iconst (v := nI 1) dX3_coursesWithPlace_39 (by decide) ?_
        refine q_aload dX3_coursesWithPlace_40 rfl ?_
        refine q_getI fl_RX3_96 rfl (by assumption) (h.cn hk8) dX3_coursesWithPlace_42 ?_
        refine q_ishl dX3_coursesWithPlace_45 ?_
        refine q_ior dX3_coursesWithPlace_46 ?_
        rw [bit_or k hk8 _ hsl, ← hs]
        refine q_istore_n (ls' := [_, _, _, _, _, _]) dX3_coursesWithPlace_47 (Nat.le_of_ble_eq_true rfl) rfl ?_
        refine q_iinc (ls' := [_, _, _, _, _, _]) dX3_coursesWithPlace_48 rfl (nI_add _ 1) rfl ?_
        refine q_goto (tgt := 13) dX3_coursesWithPlace_51 (by decide) ?_
        exact ih (k + 1) _ (by omega)
      · rw [if_neg e]
        refine q_if_eq (tgt := 48) dX3_coursesWithPlace_35 (by decide) (fun h2 => ?_) (fun h2 => ?_)
        · have hs : sbits (fun c => decide (sC σ c 6 = 1 ∧ sLen σ c < sC σ c 4)) (k + 1) = sbits (fun c => decide (sC σ c 6 = 1 ∧ sLen σ c < sC σ c 4)) k := by
            rw [sbits, if_neg (by rw [decide_eq_true_iff]; exact e)]; rfl
          refine q_iinc (ls' := [_, _, _, _, _, _]) dX3_coursesWithPlace_48 rfl (nI_add _ 1) rfl ?_
          refine q_goto (tgt := 13) dX3_coursesWithPlace_51 (by decide) ?_
          have := ih (k + 1) (some (.ref (b + 4 + 2 * k))) (by omega)
          rw [hs] at this
          exact this
        · exact absurd rfl h2
  refine q_M.of pnX3_coursesWithPlace (by simp [Value.category]) (Nat.le_of_ble_eq_true rfl) ?_
  refine q_iconst (v := nI 0) dX3_coursesWithPlace_0 (by decide) ?_
  refine q_istore_n (ls' := [_, _, _, _, _, _]) dX3_coursesWithPlace_1 (Nat.le_of_ble_eq_true rfl) rfl ?_
  refine q_aload_n dX3_coursesWithPlace_2 rfl ?_
  refine q_getR fl_RX3_11 rfl (by assumption) dX3_coursesWithPlace_3 ?_
  refine q_astore_n (ls' := [_, _, _, _, _, _]) dX3_coursesWithPlace_6 (Nat.le_of_ble_eq_true rfl) rfl ?_
  refine q_aload_n dX3_coursesWithPlace_7 rfl ?_
  refine q_lenC hk rfl dX3_coursesWithPlace_8 ?_
  refine q_istore_n (ls' := [_, _, _, _, _, _]) dX3_coursesWithPlace_9 (Nat.le_of_ble_eq_true rfl) rfl ?_
  refine q_iconst (v := nI 0) dX3_coursesWithPlace_10 (by decide) ?_
  refine q_istore (ls' := [_, _, _, _, _, _]) dX3_coursesWithPlace_11 (Nat.le_of_ble_eq_true rfl) rfl ?_
  exact key 8 0 _ rfl
/-- the fewest chairs left of a room, of the first k classes: + 1, or 0 -/
def scf (σ : q_S) (r : Nat) : Nat → Nat
  | 0 => 0
  | k + 1 => if sC σ k 7 = r + 1 then (if scf σ r k = 0 ∨ sR σ r - sLen σ k + 1 < scf σ r k then sR σ r - sLen σ k + 1 else scf σ r k) else scf σ r k
theorem scf_le (σ : q_S) (r : Nat) : ∀ k, scf σ r k ≤ sR σ r + 1 := by
  intro k
  induction k with
  | zero => exact Nat.zero_le _
  | succ k ih =>
    rw [scf]
    split
    · split <;> omega
    · exact ih
theorem c_chairsLeft {b r : Nat} {I : q_Mem} {σ : q_S} (hk : q_kd b = 3) (h : RC b I σ) (hw : WFc σ) (hr : r < 5) (hfit : ∀ c, c < 8 → sC σ c 7 = r + 1 → sLen σ c ≤ sR σ r) : q_M kX3_chairsLeft [.ref b, .int (nI r)] I (fun v J => v = some (.int (enc (scf σ r 8))) ∧ I = J) := by
  have hRr := hw.2.2.2.2.2.2.2 r hr
  have key : ∀ (d k : Nat) (o6 o7 : Option Value), k + d = 8 → q_X kX3_chairsLeft 14 [some (.ref b), some (.int (nI r)), some (.int (enc (scf σ r k))), some (.ref (b + 1)), some (.int (nI 8)), some (.int (nI k)), o6, o7] [] I (fun v J => v = some (.int (enc (scf σ r 8))) ∧ I = J) := by
    intro d
    induction d with
    | zero =>
      intro k o6 o7 hd
      obtain rfl : k = 8 := by omega
      refine q_iload dX3_chairsLeft_14 rfl ?_
      refine q_iload dX3_chairsLeft_16 rfl ?_
      refine q_icmp_geN (tgt := 77) (by omega) (by omega) dX3_chairsLeft_18 (by decide) (fun h1 => ?_) (fun h1 => ?_)
      · refine q_iload_n dX3_chairsLeft_77 rfl ?_
        exact q_iret rfl rfl dX3_chairsLeft_78 ⟨rfl, rfl⟩
      · omega
    | succ d ih =>
      intro k o6 o7 hd
      have hk8 : k < 8 := by omega
      have hkk := kSC hk hk8
      have hlk := hw.len k
      have hsl := scf_le σ r k
      have hst : cenc 7 (sC σ k 7) = nI r ↔ sC σ k 7 = r + 1 := enc_nI (by have := (hw.cr hk8).2.2.2.2.2.2.2.1; omega) (by omega)
      refine q_iload dX3_chairsLeft_14 rfl ?_
      refine q_iload dX3_chairsLeft_16 rfl ?_
      refine q_icmp_geN (tgt := 77) (by omega) (by omega) dX3_chairsLeft_18 (by decide) (fun h1 => ?_) (fun h1 => ?_)
      · omega
      refine q_aload_n dX3_chairsLeft_21 rfl ?_
      refine q_iload dX3_chairsLeft_22 rfl ?_
      refine q_aaldC hk rfl hk8 dX3_chairsLeft_24 ?_
      refine q_astore (ls' := [_, _, _, _, _, _, _, _]) dX3_chairsLeft_25 (Nat.le_of_ble_eq_true rfl) rfl ?_
      refine q_aload dX3_chairsLeft_27 rfl ?_
      refine q_ifnull dX3_chairsLeft_29 ?_
      refine q_aload dX3_chairsLeft_32 rfl ?_
      refine q_getI fl_RX3_233 rfl (by assumption) (h.c hk8 (j := 7) (by omega)) dX3_chairsLeft_34 ?_
      refine q_iload_n dX3_chairsLeft_37 rfl ?_
      refine q_icmp_ne (tgt := 71) dX3_chairsLeft_38 (by decide) (fun h2 => ?_) (fun h2 => ?_)
      · have hs : scf σ r (k + 1) = scf σ r k := by rw [scf, if_neg (fun z => h2 (hst.mpr z))]
        refine q_iinc (ls' := [_, _, _, _, _, _, _, _]) dX3_chairsLeft_71 rfl (nI_add _ 1) rfl ?_
        refine q_goto (tgt := 14) dX3_chairsLeft_74 (by decide) ?_
        have := ih (k + 1) (some (.ref (b + 4 + 2 * k))) o7 (by omega)
        rw [hs] at this
        exact this
      have e := hst.mp h2
      have hf := hfit k hk8 e
      refine q_aload_n dX3_chairsLeft_41 rfl ?_
      refine q_iload_n dX3_chairsLeft_42 rfl ?_
      refine q_cV (as := [_]) lk_RX3_236 (c_chairsOf hk h hr) ⟨3, by decide, by assumption, rfl⟩ rfl (by decide) (Nat.le_of_ble_eq_true rfl) dX3_chairsLeft_43 ?_
      rintro v J ⟨rfl, rfl⟩
      refine q_aload dX3_chairsLeft_46 rfl ?_
      refine q_getI fl_RX3_204 rfl (by assumption) (h.len hk8) dX3_chairsLeft_48 ?_
      refine q_isub dX3_chairsLeft_51 ?_
      rw [pk_sub hf]
      refine q_istore (ls' := [_, _, _, _, _, _, _, _]) dX3_chairsLeft_52 (Nat.le_of_ble_eq_true rfl) rfl ?_
      refine q_iload_n dX3_chairsLeft_54 rfl ?_
      refine q_iconst (v := -1) dX3_chairsLeft_55 (by decide) ?_
      have hiff : enc (scf σ r k) = -1 ↔ scf σ r k = 0 := enc_m1 (by omega)
      refine q_icmp_ne (tgt := 64) dX3_chairsLeft_56 (by decide) (fun h3 => ?_) (fun h3 => ?_)
      · have hne : ¬ scf σ r k = 0 := fun z => h3 (hiff.mpr z)
        have hen : enc (scf σ r k) = nI (scf σ r k - 1) := by rw [enc, if_neg hne]
        refine q_iload_n dX3_chairsLeft_64 rfl ?_
        refine q_iload dX3_chairsLeft_65 rfl ?_
        rw [hen]
        refine q_mmin lk_RX3_38 (by decide) (Nat.le_of_ble_eq_true rfl) dX3_chairsLeft_67 ?_
        have hmin : (if nI (sR σ r - sLen σ k) < nI (scf σ r k - 1) then nI (sR σ r - sLen σ k) else nI (scf σ r k - 1)) = enc (scf σ r (k + 1)) := by
          rw [scf, if_pos e]
          by_cases q : sR σ r - sLen σ k + 1 < scf σ r k
          · rw [if_pos ((nI_ltI (by omega) (by omega)).mpr (by omega)), if_pos (Or.inr q)]; rfl
          · rw [if_neg (fun z => q (by have := (nI_ltI (by omega) (by omega)).mp z; omega)), if_neg (fun z => z.elim hne q), hen]
        rw [hmin]
        refine q_istore_n (ls' := [_, _, _, _, _, _, _, _]) dX3_chairsLeft_70 (Nat.le_of_ble_eq_true rfl) rfl ?_
        refine q_iinc (ls' := [_, _, _, _, _, _, _, _]) dX3_chairsLeft_71 rfl (nI_add _ 1) rfl ?_
        refine q_goto (tgt := 14) dX3_chairsLeft_74 (by decide) ?_
        exact ih (k + 1) _ _ (by omega)
      · have hz := hiff.mp h3
        have hs : scf σ r (k + 1) = sR σ r - sLen σ k + 1 := by rw [scf, if_pos e, if_pos (Or.inl hz)]
        refine q_iload dX3_chairsLeft_59 rfl ?_
        refine q_goto (tgt := 70) dX3_chairsLeft_61 (by decide) ?_
        refine q_istore_n (ls' := [_, _, _, _, _, _, _, _]) dX3_chairsLeft_70 (Nat.le_of_ble_eq_true rfl) rfl ?_
        refine q_iinc (ls' := [_, _, _, _, _, _, _, _]) dX3_chairsLeft_71 rfl (nI_add _ 1) rfl ?_
        refine q_goto (tgt := 14) dX3_chairsLeft_74 (by decide) ?_
        have := ih (k + 1) (some (.ref (b + 4 + 2 * k))) (some (.int (nI (sR σ r - sLen σ k)))) (by omega)
        rw [hs] at this
        exact this
  refine q_M.of pnX3_chairsLeft (by simp [Value.category]) (Nat.le_of_ble_eq_true rfl) ?_
  refine q_iconst (v := -1) dX3_chairsLeft_0 (by decide) ?_
  refine q_istore_n (ls' := [_, _, _, _, _, _, _, _]) dX3_chairsLeft_1 (Nat.le_of_ble_eq_true rfl) rfl ?_
  refine q_aload_n dX3_chairsLeft_2 rfl ?_
  refine q_getR fl_RX3_11 rfl (by assumption) dX3_chairsLeft_3 ?_
  refine q_astore_n (ls' := [_, _, _, _, _, _, _, _]) dX3_chairsLeft_6 (Nat.le_of_ble_eq_true rfl) rfl ?_
  refine q_aload_n dX3_chairsLeft_7 rfl ?_
  refine q_lenC hk rfl dX3_chairsLeft_8 ?_
  refine q_istore (ls' := [_, _, _, _, _, _, _, _]) dX3_chairsLeft_9 (Nat.le_of_ble_eq_true rfl) rfl ?_
  refine q_iconst (v := nI 0) dX3_chairsLeft_11 (by decide) ?_
  refine q_istore (ls' := [_, _, _, _, _, _, _, _]) dX3_chairsLeft_12 (Nat.le_of_ble_eq_true rfl) rfl ?_
  exact key 8 0 _ _ rfl
