/-! the class's season: sums and what is asked of many -/
/-- the sum of the first k -/
def ssum (f : Nat → Nat) : Nat → Nat
  | 0 => 0
  | k + 1 => ssum f k + f k
def srank (σ : q_S) (p : Nat) : Nat := if sP σ p 4 = 0 then 4 else if sP σ p 4 = sP σ p 1 then 0 else if sP σ p 4 = sP σ p 2 then 1 else if sP σ p 4 = sP σ p 3 then 2 else 3
def srkw (σ : q_S) (p w : Nat) : Nat := if w = sP σ p 1 then 0 else if w = sP σ p 2 then 1 else if w = sP σ p 3 then 2 else 3
theorem srank_le (σ : q_S) (p : Nat) : srank σ p ≤ 4 := by
  unfold srank
  split
  · omega
  · split
    · omega
    · split
      · omega
      · split <;> omega
/-- who waits for the class c (c + 1 = w) -/
def swt (σ : q_S) (p w : Nat) : Bool := decide (¬ sP σ p 0 = 0) && decide (srkw σ p w < 3) && decide (srkw σ p w < srank σ p)
theorem rkI_enc {σ : q_S} (hw : WFc σ) {p w : Nat} (hp : p < 30) (hwn : w < 2 ^ 31) : rkI (enc w) (penc 1 (sP σ p 1)) (penc 2 (sP σ p 2)) (penc 3 (sP σ p 3)) = srkw σ p w := by
  have h8 := hw.B.1
  obtain ⟨a1, a2, a3, a4, a5, a6, a7, a8, a9, a10⟩ := hw.pr p
  have e1 : (enc w = penc 1 (sP σ p 1)) = (w = sP σ p 1) := propext (enc_eq hwn (by omega))
  have e2 : (enc w = penc 2 (sP σ p 2)) = (w = sP σ p 2) := propext (enc_eq hwn (by omega))
  have e3 : (enc w = penc 3 (sP σ p 3)) = (w = sP σ p 3) := propext (enc_eq hwn (by omega))
  unfold rkI srkw
  by_cases q1 : w = sP σ p 1
  · rw [if_pos q1, if_pos (e1.mpr q1)]
  · rw [if_neg q1, if_neg (fun z => q1 (e1.mp z))]
    by_cases q2 : w = sP σ p 2
    · rw [if_pos q2, if_pos (e2.mpr q2)]
    · rw [if_neg q2, if_neg (fun z => q2 (e2.mp z))]
      by_cases q3 : w = sP σ p 3
      · rw [if_pos q3, if_pos (e3.mpr q3)]
      · rw [if_neg q3, if_neg (fun z => q3 (e3.mp z))]
theorem rhI_enc {σ : q_S} (hw : WFc σ) {p : Nat} (hp : p < 30) : rhI (penc 4 (sP σ p 4)) (penc 1 (sP σ p 1)) (penc 2 (sP σ p 2)) (penc 3 (sP σ p 3)) = srank σ p := by
  have h8 := hw.B.1
  have a5 := (hw.pr p).2.2.2.2.1
  unfold rhI
  rw [show penc 4 (sP σ p 4) = enc (sP σ p 4) from rfl]
  by_cases q : sP σ p 4 = 0
  · rw [if_pos ((enc_m1 (by omega)).mpr q), srank, if_pos q]
  · rw [if_neg (fun z => q ((enc_m1 (by omega)).mp z)), srank, if_neg q]
    exact rkI_enc hw hp (by omega)
theorem c_rankHeldS {b p : Nat} {I : q_Mem} {σ : q_S} (hk : q_kd b = 3) (h : RC b I σ) (hw : WFc σ) (hp : p < 30) : q_M kX2_rankHeld [.ref (b + 20 + p)] I (fun v J => v = some (.int (nI (srank σ p))) ∧ I = J) := by
  refine (c_rankHeld (kSP hk hp)).mono ?_
  rintro v J ⟨rfl, rfl⟩
  refine ⟨?_, rfl⟩
  have e := rhI_enc hw hp
  rw [← h.p hp (j := 4) (by omega), ← h.p hp (j := 1) (by omega), ← h.p hp (j := 2) (by omega), ← h.p hp (j := 3) (by omega)] at e
  rw [← e]; rfl
theorem c_waitsForS {b p c : Nat} {I : q_Mem} {σ : q_S} (hk : q_kd b = 3) (h : RC b I σ) (hw : WFc σ) (hp : p < 30) (hc : c < 8) : q_M kX2_waitsFor [.ref (b + 20 + p), .int (nI c)] I (fun v J => v = some (.int (if swt σ p (c + 1) = true then 1 else 0)) ∧ I = J) := by
  refine (c_waitsFor (w := nI c) (kSP hk hp)).mono ?_
  rintro v J ⟨rfl, rfl⟩
  refine ⟨?_, rfl⟩
  have e := rhI_enc hw hp
  have e2 := rkI_enc hw hp (w := c + 1) (by omega)
  have e0 : I (b + 20 + p) 1 = nI (sP σ p 0) := h.p hp (j := 0) (by omega)
  rw [← h.p hp (j := 4) (by omega), ← h.p hp (j := 1) (by omega), ← h.p hp (j := 2) (by omega), ← h.p hp (j := 3) (by omega)] at e
  rw [← h.p hp (j := 1) (by omega), ← h.p hp (j := 2) (by omega), ← h.p hp (j := 3) (by omega)] at e2
  have e3 : rkI (nI c) (I (b + 20 + p) 5) (I (b + 20 + p) 6) (I (b + 20 + p) 7) = srkw σ p (c + 1) := e2
  have e4 : rhI (I (b + 20 + p) 2) (I (b + 20 + p) 5) (I (b + 20 + p) 6) (I (b + 20 + p) 7) = srank σ p := e
  have e5 : I (b + 20 + p) 1 = 0 ↔ sP σ p 0 = 0 := by
    rw [e0]
    exact nI_eq (by have := (hw.pr p).1; omega) (b := 0) (by omega)
  rw [e3, e4]
  unfold swt
  by_cases q : sP σ p 0 = 0
  · rw [if_neg (fun z => z.1 (e5.mpr q))]; simp [q]
  · by_cases q2 : srkw σ p (c + 1) < 3 ∧ srkw σ p (c + 1) < srank σ p
    · rw [if_pos ⟨fun z => q (e5.mp z), q2⟩]; simp [q, q2]
    · rw [if_neg (fun z => q2 z.2)]
      have : ¬ ((¬ sP σ p 0 = 0 ∧ srkw σ p (c + 1) < 3) ∧ srkw σ p (c + 1) < srank σ p) := fun z => q2 ⟨z.1.2, z.2⟩
      simp
      intro z1 z2
      omega
theorem c_peopleHere {b : Nat} {I : q_Mem} {σ : q_S} (hk : q_kd b = 3) (h : RC b I σ) (hw : WFc σ) : q_M kX3_peopleHere [.ref b] I (fun v J => v = some (.int (nI (ssum (fun p => sP σ p 0) 30))) ∧ I = J) := by
  have key : ∀ (d k : Nat) (o5 : Option Value), k + d = 30 → q_X kX3_peopleHere 13 [some (.ref b), some (.int (nI (ssum (fun p => sP σ p 0) k))), some (.ref (b + 2)), some (.int (nI 30)), some (.int (nI k)), o5] [] I (fun v J => v = some (.int (nI (ssum (fun p => sP σ p 0) 30))) ∧ I = J) := by
    intro d
    induction d with
    | zero =>
      intro k o5 hd
      obtain rfl : k = 30 := by omega
      refine q_iload dX3_peopleHere_13 rfl ?_
      refine q_iload_n dX3_peopleHere_15 rfl ?_
      refine q_icmp_geN (tgt := 47) (by omega) (by omega) dX3_peopleHere_16 (by decide) (fun h1 => ?_) (fun h1 => ?_)
      · refine q_iload_n dX3_peopleHere_47 rfl ?_
        exact q_iret rfl rfl dX3_peopleHere_48 ⟨rfl, rfl⟩
      · omega
    | succ d ih =>
      intro k o5 hd
      have hk30 : k < 30 := by omega
      have hkp := kSP hk hk30
      have h01 := (hw.pr k).1
      refine q_iload dX3_peopleHere_13 rfl ?_
      refine q_iload_n dX3_peopleHere_15 rfl ?_
      refine q_icmp_geN (tgt := 47) (by omega) (by omega) dX3_peopleHere_16 (by decide) (fun h1 => ?_) (fun h1 => ?_)
      · omega
      refine q_aload_n dX3_peopleHere_19 rfl ?_
      refine q_iload dX3_peopleHere_20 rfl ?_
      refine q_aaldP hk rfl hk30 dX3_peopleHere_22 ?_
      refine q_astore (ls' := [_, _, _, _, _, _]) dX3_peopleHere_23 (Nat.le_of_ble_eq_true rfl) rfl ?_
      refine q_aload dX3_peopleHere_25 rfl ?_
      refine q_ifnull dX3_peopleHere_27 ?_
      refine q_aload dX3_peopleHere_30 rfl ?_
      refine q_getI fl_RX3_104 rfl (by assumption) (h.p hk30 (j := 0) (by omega)) dX3_peopleHere_32 ?_
      rw [show penc 0 (sP σ k 0) = nI (sP σ k 0) from rfl]
      refine q_if_eqN (tgt := 41) (by omega) dX3_peopleHere_35 (by decide) (fun h2 => ?_) (fun h2 => ?_)
      · have hs : ssum (fun p => sP σ p 0) (k + 1) = ssum (fun p => sP σ p 0) k := by rw [ssum]; omega
        refine q_iinc (ls' := [_, _, _, _, _, _]) dX3_peopleHere_41 rfl (nI_add _ 1) rfl ?_
        refine q_goto (tgt := 13) dX3_peopleHere_44 (by decide) ?_
        have := ih (k + 1) (some (.ref (b + 20 + k))) (by omega)
        rw [hs] at this
        exact this
      · have hs : ssum (fun p => sP σ p 0) (k + 1) = ssum (fun p => sP σ p 0) k + 1 := by rw [ssum]; omega
        refine q_iinc (ls' := [_, _, _, _, _, _]) dX3_peopleHere_38 rfl (nI_add _ 1) rfl ?_
        refine q_iinc (ls' := [_, _, _, _, _, _]) dX3_peopleHere_41 rfl (nI_add _ 1) rfl ?_
        refine q_goto (tgt := 13) dX3_peopleHere_44 (by decide) ?_
        have := ih (k + 1) (some (.ref (b + 20 + k))) (by omega)
        rw [hs] at this
        exact this
  refine q_M.of pnX3_peopleHere (by simp [Value.category]) (Nat.le_of_ble_eq_true rfl) ?_
  refine q_iconst (v := nI 0) dX3_peopleHere_0 (by decide) ?_
  refine q_istore_n (ls' := [_, _, _, _, _, _]) dX3_peopleHere_1 (Nat.le_of_ble_eq_true rfl) rfl ?_
  refine q_aload_n dX3_peopleHere_2 rfl ?_
  refine q_getR fl_RX3_19 rfl (by assumption) dX3_peopleHere_3 ?_
  refine q_astore_n (ls' := [_, _, _, _, _, _]) dX3_peopleHere_6 (Nat.le_of_ble_eq_true rfl) rfl ?_
  refine q_aload_n dX3_peopleHere_7 rfl ?_
  refine q_lenP hk rfl dX3_peopleHere_8 ?_
  refine q_istore_n (ls' := [_, _, _, _, _, _]) dX3_peopleHere_9 (Nat.le_of_ble_eq_true rfl) rfl ?_
  refine q_iconst (v := nI 0) dX3_peopleHere_10 (by decide) ?_
  refine q_istore (ls' := [_, _, _, _, _, _]) dX3_peopleHere_11 (Nat.le_of_ble_eq_true rfl) rfl ?_
  exact key 30 0 _ rfl
theorem c_peopleIn {b : Nat} {I : q_Mem} {σ : q_S} (hk : q_kd b = 3) (h : RC b I σ) (hw : WFc σ) : q_M kX3_peopleInClasses [.ref b] I (fun v J => v = some (.int (nI (ssum (fun p => if sP σ p 4 = 0 then 0 else 1) 30))) ∧ I = J) := by
  have key : ∀ (d k : Nat) (o5 : Option Value), k + d = 30 → q_X kX3_peopleInClasses 13 [some (.ref b), some (.int (nI (ssum (fun p => if sP σ p 4 = 0 then 0 else 1) k))), some (.ref (b + 2)), some (.int (nI 30)), some (.int (nI k)), o5] [] I (fun v J => v = some (.int (nI (ssum (fun p => if sP σ p 4 = 0 then 0 else 1) 30))) ∧ I = J) := by
    intro d
    induction d with
    | zero =>
      intro k o5 hd
      obtain rfl : k = 30 := by omega
      refine q_iload dX3_peopleInClasses_13 rfl ?_
      refine q_iload_n dX3_peopleInClasses_15 rfl ?_
      refine q_icmp_geN (tgt := 48) (by omega) (by omega) dX3_peopleInClasses_16 (by decide) (fun h1 => ?_) (fun h1 => ?_)
      · refine q_iload_n dX3_peopleInClasses_48 rfl ?_
        exact q_iret rfl rfl dX3_peopleInClasses_49 ⟨rfl, rfl⟩
      · omega
    | succ d ih =>
      intro k o5 hd
      have hk30 : k < 30 := by omega
      have hkp := kSP hk hk30
      have h4 := (hw.pr k).2.2.2.2.1
      have h8 := hw.B.1
      have hiff : penc 4 (sP σ k 4) = -1 ↔ sP σ k 4 = 0 := enc_m1 (by omega)
      refine q_iload dX3_peopleInClasses_13 rfl ?_
      refine q_iload_n dX3_peopleInClasses_15 rfl ?_
      refine q_icmp_geN (tgt := 48) (by omega) (by omega) dX3_peopleInClasses_16 (by decide) (fun h1 => ?_) (fun h1 => ?_)
      · omega
      refine q_aload_n dX3_peopleInClasses_19 rfl ?_
      refine q_iload dX3_peopleInClasses_20 rfl ?_
      refine q_aaldP hk rfl hk30 dX3_peopleInClasses_22 ?_
      refine q_astore (ls' := [_, _, _, _, _, _]) dX3_peopleInClasses_23 (Nat.le_of_ble_eq_true rfl) rfl ?_
      refine q_aload dX3_peopleInClasses_25 rfl ?_
      refine q_ifnull dX3_peopleInClasses_27 ?_
      refine q_aload dX3_peopleInClasses_30 rfl ?_
      refine q_getI fl_RX3_182 rfl (by assumption) (h.p hk30 (j := 4) (by omega)) dX3_peopleInClasses_32 ?_
      refine q_iconst (v := -1) dX3_peopleInClasses_35 (by decide) ?_
      refine q_icmp_eq (tgt := 42) dX3_peopleInClasses_36 (by decide) (fun h2 => ?_) (fun h2 => ?_)
      · have hs : ssum (fun p => if sP σ p 4 = 0 then 0 else 1) (k + 1) = ssum (fun p => if sP σ p 4 = 0 then 0 else 1) k := by rw [ssum, if_pos (hiff.mp h2)]; rfl
        refine q_iinc (ls' := [_, _, _, _, _, _]) dX3_peopleInClasses_42 rfl (nI_add _ 1) rfl ?_
        refine q_goto (tgt := 13) dX3_peopleInClasses_45 (by decide) ?_
        have := ih (k + 1) (some (.ref (b + 20 + k))) (by omega)
        rw [hs] at this
        exact this
      · have hs : ssum (fun p => if sP σ p 4 = 0 then 0 else 1) (k + 1) = ssum (fun p => if sP σ p 4 = 0 then 0 else 1) k + 1 := by rw [ssum, if_neg (fun z => h2 (hiff.mpr z))]
        refine q_iinc (ls' := [_, _, _, _, _, _]) dX3_peopleInClasses_39 rfl (nI_add _ 1) rfl ?_
        refine q_iinc (ls' := [_, _, _, _, _, _]) dX3_peopleInClasses_42 rfl (nI_add _ 1) rfl ?_
        refine q_goto (tgt := 13) dX3_peopleInClasses_45 (by decide) ?_
        have := ih (k + 1) (some (.ref (b + 20 + k))) (by omega)
        rw [hs] at this
        exact this
  refine q_M.of pnX3_peopleInClasses (by simp [Value.category]) (Nat.le_of_ble_eq_true rfl) ?_
  refine q_iconst (v := nI 0) dX3_peopleInClasses_0 (by decide) ?_
  refine q_istore_n (ls' := [_, _, _, _, _, _]) dX3_peopleInClasses_1 (Nat.le_of_ble_eq_true rfl) rfl ?_
  refine q_aload_n dX3_peopleInClasses_2 rfl ?_
  refine q_getR fl_RX3_19 rfl (by assumption) dX3_peopleInClasses_3 ?_
  refine q_astore_n (ls' := [_, _, _, _, _, _]) dX3_peopleInClasses_6 (Nat.le_of_ble_eq_true rfl) rfl ?_
  refine q_aload_n dX3_peopleInClasses_7 rfl ?_
  refine q_lenP hk rfl dX3_peopleInClasses_8 ?_
  refine q_istore_n (ls' := [_, _, _, _, _, _]) dX3_peopleInClasses_9 (Nat.le_of_ble_eq_true rfl) rfl ?_
  refine q_iconst (v := nI 0) dX3_peopleInClasses_10 (by decide) ?_
  refine q_istore (ls' := [_, _, _, _, _, _]) dX3_peopleInClasses_11 (Nat.le_of_ble_eq_true rfl) rfl ?_
  exact key 30 0 _ rfl
theorem c_ranks {b : Nat} {I : q_Mem} {σ : q_S} (hk : q_kd b = 3) (h : RC b I σ) (hw : WFc σ) : q_M kX3_ranksTogether [.ref b] I (fun v J => v = some (.int (nI (ssum (fun p => if sP σ p 0 = 0 then 0 else srank σ p) 30))) ∧ I = J) := by
  have key : ∀ (d k : Nat) (o5 : Option Value), k + d = 30 → q_X kX3_ranksTogether 13 [some (.ref b), some (.int (nI (ssum (fun p => if sP σ p 0 = 0 then 0 else srank σ p) k))), some (.ref (b + 2)), some (.int (nI 30)), some (.int (nI k)), o5] [] I (fun v J => v = some (.int (nI (ssum (fun p => if sP σ p 0 = 0 then 0 else srank σ p) 30))) ∧ I = J) := by
    intro d
    induction d with
    | zero =>
      intro k o5 hd
      obtain rfl : k = 30 := by omega
      refine q_iload dX3_ranksTogether_13 rfl ?_
      refine q_iload_n dX3_ranksTogether_15 rfl ?_
      refine q_icmp_geN (tgt := 52) (by omega) (by omega) dX3_ranksTogether_16 (by decide) (fun h1 => ?_) (fun h1 => ?_)
      · refine q_iload_n dX3_ranksTogether_52 rfl ?_
        exact q_iret rfl rfl dX3_ranksTogether_53 ⟨rfl, rfl⟩
      · omega
    | succ d ih =>
      intro k o5 hd
      have hk30 : k < 30 := by omega
      have hkp := kSP hk hk30
      have h01 := (hw.pr k).1
      refine q_iload dX3_ranksTogether_13 rfl ?_
      refine q_iload_n dX3_ranksTogether_15 rfl ?_
      refine q_icmp_geN (tgt := 52) (by omega) (by omega) dX3_ranksTogether_16 (by decide) (fun h1 => ?_) (fun h1 => ?_)
      · omega
      refine q_aload_n dX3_ranksTogether_19 rfl ?_
      refine q_iload dX3_ranksTogether_20 rfl ?_
      refine q_aaldP hk rfl hk30 dX3_ranksTogether_22 ?_
      refine q_astore (ls' := [_, _, _, _, _, _]) dX3_ranksTogether_23 (Nat.le_of_ble_eq_true rfl) rfl ?_
      refine q_aload dX3_ranksTogether_25 rfl ?_
      refine q_ifnull dX3_ranksTogether_27 ?_
      refine q_aload dX3_ranksTogether_30 rfl ?_
      refine q_getI fl_RX3_104 rfl (by assumption) (h.p hk30 (j := 0) (by omega)) dX3_ranksTogether_32 ?_
      rw [show penc 0 (sP σ k 0) = nI (sP σ k 0) from rfl]
      refine q_if_eqN (tgt := 46) (by omega) dX3_ranksTogether_35 (by decide) (fun h2 => ?_) (fun h2 => ?_)
      · have hs : ssum (fun p => if sP σ p 0 = 0 then 0 else srank σ p) (k + 1) = ssum (fun p => if sP σ p 0 = 0 then 0 else srank σ p) k := by rw [ssum, if_pos h2]; rfl
        refine q_iinc (ls' := [_, _, _, _, _, _]) dX3_ranksTogether_46 rfl (nI_add _ 1) rfl ?_
        refine q_goto (tgt := 13) dX3_ranksTogether_49 (by decide) ?_
        have := ih (k + 1) (some (.ref (b + 20 + k))) (by omega)
        rw [hs] at this
        exact this
      · have hs : ssum (fun p => if sP σ p 0 = 0 then 0 else srank σ p) (k + 1) = ssum (fun p => if sP σ p 0 = 0 then 0 else srank σ p) k + srank σ k := by rw [ssum, if_neg h2]
        refine q_iload_n dX3_ranksTogether_38 rfl ?_
        refine q_aload dX3_ranksTogether_39 rfl ?_
        refine q_cV (as := []) lk_RX3_115 (c_rankHeldS hk h hw hk30) ⟨2, by decide, by assumption, rfl⟩ rfl (by decide) (Nat.le_of_ble_eq_true rfl) dX3_ranksTogether_41 ?_
        rintro v J ⟨rfl, rfl⟩
        refine q_iadd dX3_ranksTogether_44 ?_
        rw [nI_add, ← hs]
        refine q_istore_n (ls' := [_, _, _, _, _, _]) dX3_ranksTogether_45 (Nat.le_of_ble_eq_true rfl) rfl ?_
        refine q_iinc (ls' := [_, _, _, _, _, _]) dX3_ranksTogether_46 rfl (nI_add _ 1) rfl ?_
        refine q_goto (tgt := 13) dX3_ranksTogether_49 (by decide) ?_
        exact ih (k + 1) _ (by omega)
  refine q_M.of pnX3_ranksTogether (by simp [Value.category]) (Nat.le_of_ble_eq_true rfl) ?_
  refine q_iconst (v := nI 0) dX3_ranksTogether_0 (by decide) ?_
  refine q_istore_n (ls' := [_, _, _, _, _, _]) dX3_ranksTogether_1 (Nat.le_of_ble_eq_true rfl) rfl ?_
  refine q_aload_n dX3_ranksTogether_2 rfl ?_
  refine q_getR fl_RX3_19 rfl (by assumption) dX3_ranksTogether_3 ?_
  refine q_astore_n (ls' := [_, _, _, _, _, _]) dX3_ranksTogether_6 (Nat.le_of_ble_eq_true rfl) rfl ?_
  refine q_aload_n dX3_ranksTogether_7 rfl ?_
  refine q_lenP hk rfl dX3_ranksTogether_8 ?_
  refine q_istore_n (ls' := [_, _, _, _, _, _]) dX3_ranksTogether_9 (Nat.le_of_ble_eq_true rfl) rfl ?_
  refine q_iconst (v := nI 0) dX3_ranksTogether_10 (by decide) ?_
  refine q_istore (ls' := [_, _, _, _, _, _]) dX3_ranksTogether_11 (Nat.le_of_ble_eq_true rfl) rfl ?_
  exact key 30 0 _ rfl
theorem c_paidFor {b : Nat} {I : q_Mem} {σ : q_S} (hk : q_kd b = 3) (h : RC b I σ) : q_M kX3_paidForClasses [.ref b] I (fun v J => v = some (.int (nI (ssum (fun p => sP σ p 5) 30))) ∧ I = J) := by
  have key : ∀ (d k : Nat) (o5 : Option Value), k + d = 30 → q_X kX3_paidForClasses 13 [some (.ref b), some (.int (nI (ssum (fun p => sP σ p 5) k))), some (.ref (b + 2)), some (.int (nI 30)), some (.int (nI k)), o5] [] I (fun v J => v = some (.int (nI (ssum (fun p => sP σ p 5) 30))) ∧ I = J) := by
    intro d
    induction d with
    | zero =>
      intro k o5 hd
      obtain rfl : k = 30 := by omega
      refine q_iload dX3_paidForClasses_13 rfl ?_
      refine q_iload_n dX3_paidForClasses_15 rfl ?_
      refine q_icmp_geN (tgt := 44) (by omega) (by omega) dX3_paidForClasses_16 (by decide) (fun h1 => ?_) (fun h1 => ?_)
      · refine q_iload_n dX3_paidForClasses_44 rfl ?_
        exact q_iret rfl rfl dX3_paidForClasses_45 ⟨rfl, rfl⟩
      · omega
    | succ d ih =>
      intro k o5 hd
      have hk30 : k < 30 := by omega
      have hkp := kSP hk hk30
      refine q_iload dX3_paidForClasses_13 rfl ?_
      refine q_iload_n dX3_paidForClasses_15 rfl ?_
      refine q_icmp_geN (tgt := 44) (by omega) (by omega) dX3_paidForClasses_16 (by decide) (fun h1 => ?_) (fun h1 => ?_)
      · omega
      refine q_aload_n dX3_paidForClasses_19 rfl ?_
      refine q_iload dX3_paidForClasses_20 rfl ?_
      refine q_aaldP hk rfl hk30 dX3_paidForClasses_22 ?_
      refine q_astore (ls' := [_, _, _, _, _, _]) dX3_paidForClasses_23 (Nat.le_of_ble_eq_true rfl) rfl ?_
      refine q_aload dX3_paidForClasses_25 rfl ?_
      refine q_ifnull dX3_paidForClasses_27 ?_
      refine q_iload_n dX3_paidForClasses_30 rfl ?_
      refine q_aload dX3_paidForClasses_31 rfl ?_
      refine q_getI fl_RX3_119 rfl (by assumption) (h.p hk30 (j := 5) (by omega)) dX3_paidForClasses_33 ?_
      rw [show penc 5 (sP σ k 5) = nI (sP σ k 5) from rfl]
      refine q_iadd dX3_paidForClasses_36 ?_
      rw [nI_add, show ssum (fun p => sP σ p 5) k + sP σ k 5 = ssum (fun p => sP σ p 5) (k + 1) from rfl]
      refine q_istore_n (ls' := [_, _, _, _, _, _]) dX3_paidForClasses_37 (Nat.le_of_ble_eq_true rfl) rfl ?_
      refine q_iinc (ls' := [_, _, _, _, _, _]) dX3_paidForClasses_38 rfl (nI_add _ 1) rfl ?_
      refine q_goto (tgt := 13) dX3_paidForClasses_41 (by decide) ?_
      exact ih (k + 1) _ (by omega)
  refine q_M.of pnX3_paidForClasses (by simp [Value.category]) (Nat.le_of_ble_eq_true rfl) ?_
  refine q_iconst (v := nI 0) dX3_paidForClasses_0 (by decide) ?_
  refine q_istore_n (ls' := [_, _, _, _, _, _]) dX3_paidForClasses_1 (Nat.le_of_ble_eq_true rfl) rfl ?_
  refine q_aload_n dX3_paidForClasses_2 rfl ?_
  refine q_getR fl_RX3_19 rfl (by assumption) dX3_paidForClasses_3 ?_
  refine q_astore_n (ls' := [_, _, _, _, _, _]) dX3_paidForClasses_6 (Nat.le_of_ble_eq_true rfl) rfl ?_
  refine q_aload_n dX3_paidForClasses_7 rfl ?_
  refine q_lenP hk rfl dX3_paidForClasses_8 ?_
  refine q_istore_n (ls' := [_, _, _, _, _, _]) dX3_paidForClasses_9 (Nat.le_of_ble_eq_true rfl) rfl ?_
  refine q_iconst (v := nI 0) dX3_paidForClasses_10 (by decide) ?_
  refine q_istore (ls' := [_, _, _, _, _, _]) dX3_paidForClasses_11 (Nat.le_of_ble_eq_true rfl) rfl ?_
  exact key 30 0 _ rfl
theorem c_howMany {b c : Nat} {I : q_Mem} {σ : q_S} (hk : q_kd b = 3) (h : RC b I σ) (hw : WFc σ) (hc : c < 8) : q_M kX3_howManyWait [.ref b, .int (nI c)] I (fun v J => v = some (.int (nI (ssum (fun p => if swt σ p (c + 1) = true then 1 else 0) 30))) ∧ I = J) := by
  have key : ∀ (d k : Nat) (o5 : Option Value), k + d = 30 → q_X kX3_howManyWait 14 [some (.ref b), some (.int (nI c)), some (.int (nI (ssum (fun p => if swt σ p (c + 1) = true then 1 else 0) k))), some (.ref (b + 2)), some (.int (nI 30)), some (.int (nI k)), o5] [] I (fun v J => v = some (.int (nI (ssum (fun p => if swt σ p (c + 1) = true then 1 else 0) 30))) ∧ I = J) := by
    intro d
    induction d with
    | zero =>
      intro k o5 hd
      obtain rfl : k = 30 := by omega
      refine q_iload dX3_howManyWait_14 rfl ?_
      refine q_iload dX3_howManyWait_16 rfl ?_
      refine q_icmp_geN (tgt := 50) (by omega) (by omega) dX3_howManyWait_18 (by decide) (fun h1 => ?_) (fun h1 => ?_)
      · refine q_iload_n dX3_howManyWait_50 rfl ?_
        exact q_iret rfl rfl dX3_howManyWait_51 ⟨rfl, rfl⟩
      · omega
    | succ d ih =>
      intro k o5 hd
      have hk30 : k < 30 := by omega
      have hkp := kSP hk hk30
      refine q_iload dX3_howManyWait_14 rfl ?_
      refine q_iload dX3_howManyWait_16 rfl ?_
      refine q_icmp_geN (tgt := 50) (by omega) (by omega) dX3_howManyWait_18 (by decide) (fun h1 => ?_) (fun h1 => ?_)
      · omega
      refine q_aload_n dX3_howManyWait_21 rfl ?_
      refine q_iload dX3_howManyWait_22 rfl ?_
      refine q_aaldP hk rfl hk30 dX3_howManyWait_24 ?_
      refine q_astore (ls' := [_, _, _, _, _, _, _]) dX3_howManyWait_25 (Nat.le_of_ble_eq_true rfl) rfl ?_
      refine q_aload dX3_howManyWait_27 rfl ?_
      refine q_ifnull dX3_howManyWait_29 ?_
      refine q_aload dX3_howManyWait_32 rfl ?_
      refine q_iload_n dX3_howManyWait_34 rfl ?_
      refine q_cV (as := [_]) lk_RX3_246 (c_waitsForS hk h hw hk30 hc) ⟨2, by decide, by assumption, rfl⟩ rfl (by decide) (Nat.le_of_ble_eq_true rfl) dX3_howManyWait_35 ?_
      rintro v J ⟨rfl, rfl⟩
      by_cases e : swt σ k (c + 1) = true
      · rw [if_pos e]
        have hs : ssum (fun p => if swt σ p (c + 1) = true then 1 else 0) (k + 1) = ssum (fun p => if swt σ p (c + 1) = true then 1 else 0) k + 1 := by rw [ssum, if_pos e]
        refine q_if_eq (tgt := 44) dX3_howManyWait_38 (by decide) (fun h2 => ?_) (fun h2 => ?_)
        · exact absurd h2 (by decide)
        refine q_iinc (ls' := [_, _, _, _, _, _, _]) dX3_howManyWait_41 rfl (nI_add _ 1) rfl ?_
        refine q_iinc (ls' := [_, _, _, _, _, _, _]) dX3_howManyWait_44 rfl (nI_add _ 1) rfl ?_
        refine q_goto (tgt := 14) dX3_howManyWait_47 (by decide) ?_
        have := ih (k + 1) (some (.ref (b + 20 + k))) (by omega)
        rw [hs] at this
        exact this
      · rw [if_neg e]
        have hs : ssum (fun p => if swt σ p (c + 1) = true then 1 else 0) (k + 1) = ssum (fun p => if swt σ p (c + 1) = true then 1 else 0) k := by rw [ssum, if_neg e]; rfl
        refine q_if_eq (tgt := 44) dX3_howManyWait_38 (by decide) (fun h2 => ?_) (fun h2 => ?_)
        · refine q_iinc (ls' := [_, _, _, _, _, _, _]) dX3_howManyWait_44 rfl (nI_add _ 1) rfl ?_
          refine q_goto (tgt := 14) dX3_howManyWait_47 (by decide) ?_
          have := ih (k + 1) (some (.ref (b + 20 + k))) (by omega)
          rw [hs] at this
          exact this
        · exact absurd rfl h2
  refine q_M.of pnX3_howManyWait (by simp [Value.category]) (Nat.le_of_ble_eq_true rfl) ?_
  refine q_iconst (v := nI 0) dX3_howManyWait_0 (by decide) ?_
  refine q_istore_n (ls' := [_, _, _, _, _, _, _]) dX3_howManyWait_1 (Nat.le_of_ble_eq_true rfl) rfl ?_
  refine q_aload_n dX3_howManyWait_2 rfl ?_
  refine q_getR fl_RX3_19 rfl (by assumption) dX3_howManyWait_3 ?_
  refine q_astore_n (ls' := [_, _, _, _, _, _, _]) dX3_howManyWait_6 (Nat.le_of_ble_eq_true rfl) rfl ?_
  refine q_aload_n dX3_howManyWait_7 rfl ?_
  refine q_lenP hk rfl dX3_howManyWait_8 ?_
  refine q_istore (ls' := [_, _, _, _, _, _, _]) dX3_howManyWait_9 (Nat.le_of_ble_eq_true rfl) rfl ?_
  refine q_iconst (v := nI 0) dX3_howManyWait_11 (by decide) ?_
  refine q_istore (ls' := [_, _, _, _, _, _, _]) dX3_howManyWait_12 (Nat.le_of_ble_eq_true rfl) rfl ?_
  exact key 30 0 _ rfl
