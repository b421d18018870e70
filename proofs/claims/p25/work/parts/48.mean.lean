/-! the class's mean -/
theorem c_bitsOf {v : UInt32} {x : Int32} {I : q_Mem} (h : cbits v = some x) : q_M kX6_bitsOf [.float v] I (fun w J => w = some (.int x) ∧ I = J) := by
  have fin : ∀ (e : Int32) (r : UInt32) (o3 : Option Value), cend e r = some x → q_X kX6_bitsOf 67 [some (.float v), some (.float r), some (.int e), o3] [] I (fun w J => w = some (.int x) ∧ I = J) := by
    intro e r o3 he
    unfold cend at he
    by_cases c : n32 (FP.fsub r FP.fconst1) = true ∧ n32 (FP.fmul (FP.fsub r FP.fconst1) 1258291200) = true
    case neg => rw [if_neg c] at he; cases he
    rw [if_pos c] at he
    injection he with he
    have c1 := n32_of c.1
    have c2 := n32_of c.2
    refine q_iload_n dX6_bitsOf_67 rfl ?_
    refine q_bipush (v := nI 23) dX6_bitsOf_68 (by decide) ?_
    refine q_ishl dX6_bitsOf_70 ?_
    refine q_fload_n dX6_bitsOf_71 rfl ?_
    refine q_fconst1 dX6_bitsOf_72 ?_
    refine q_fsub dX6_bitsOf_73 (by assumption) ?_
    refine q_ldcwf (v := 1258291200) ct_RX6_267 dX6_bitsOf_74 ?_
    refine q_fmul dX6_bitsOf_77 (by assumption) ?_
    refine q_f2i dX6_bitsOf_78 ?_
    refine q_ior dX6_bitsOf_79 ?_
    exact q_iret rfl rfl dX6_bitsOf_80 ⟨by rw [he], rfl⟩
  have up : ∀ (d k : Nat) (e : Int32) (r : UInt32) (y : Int32 × UInt32), cup d e r = some y → cend y.1 y.2 = some x → k + d ≤ 126 → q_X kX6_bitsOf 42 [some (.float v), some (.float r), some (.int e), some (.int (nI k))] [] I (fun w J => w = some (.int x) ∧ I = J) := by
    intro d
    induction d with
    | zero => intro k e r y hc; cases hc
    | succ d ih =>
      intro k e r y hc hy hk
      rw [cup] at hc
      refine q_iload_n dX6_bitsOf_42 rfl ?_
      refine q_bipush (v := nI 126) dX6_bitsOf_43 (by decide) ?_
      refine q_icmp_geN (tgt := 67) (by omega) (by omega) dX6_bitsOf_45 (by decide) (fun q => ?_) (fun q => ?_)
      · omega
      refine q_fload_n dX6_bitsOf_48 rfl ?_
      refine q_fconst1 dX6_bitsOf_49 ?_
      refine q_fcmp dX6_bitsOf_50 ?_
      refine q_if_ge (tgt := 67) dX6_bitsOf_51 (by decide) (fun q2 => ?_) (fun q2 => ?_)
      · rw [if_pos q2] at hc
        injection hc with hc
        subst hc
        exact fin e r _ hy
      · rw [if_neg q2] at hc
        by_cases c : n32 (FP.fmul r FP.fconst2) = true
        case neg => rw [if_neg c] at hc; cases hc
        rw [if_pos c] at hc
        have c1 := n32_of c
        refine q_fload_n dX6_bitsOf_54 rfl ?_
        refine q_fconst2 dX6_bitsOf_55 ?_
        refine q_fmul dX6_bitsOf_56 (by assumption) ?_
        refine q_fstore_n (ls' := [_, _, _, _]) dX6_bitsOf_57 (Nat.le_of_ble_eq_true rfl) rfl ?_
        refine q_iinc (ls' := [_, _, _, _]) dX6_bitsOf_58 rfl ((show e + Int32.ofInt (-1) = e - 1 from (Int32.sub_eq_add_neg e 1).symm)) rfl ?_
        refine q_iinc (ls' := [_, _, _, _]) dX6_bitsOf_61 rfl (nI_add _ 1) rfl ?_
        refine q_goto (tgt := 42) dX6_bitsOf_64 (by decide) ?_
        exact ih (k + 1) (e - 1) _ y hc hy (by omega)
  have dn : ∀ (d k : Nat) (e : Int32) (r : UInt32) (y : Int32 × UInt32), cdn d e r = some y → ((cup 8 y.1 y.2).bind fun r => cend r.1 r.2) = some x → k + d ≤ 127 → q_X kX6_bitsOf 15 [some (.float v), some (.float r), some (.int e), some (.int (nI k))] [] I (fun w J => w = some (.int x) ∧ I = J) := by
    intro d
    induction d with
    | zero => intro k e r y hc; cases hc
    | succ d ih =>
      intro k e r y hc hy hk
      rw [cdn] at hc
      refine q_iload_n dX6_bitsOf_15 rfl ?_
      refine q_bipush (v := nI 127) dX6_bitsOf_16 (by decide) ?_
      refine q_icmp_geN (tgt := 40) (by omega) (by omega) dX6_bitsOf_18 (by decide) (fun q => ?_) (fun q => ?_)
      · omega
      refine q_fload_n dX6_bitsOf_21 rfl ?_
      refine q_fconst2 dX6_bitsOf_22 ?_
      refine q_fcmp dX6_bitsOf_23 ?_
      refine q_if_lt (tgt := 40) dX6_bitsOf_24 (by decide) (fun q2 => ?_) (fun q2 => ?_)
      · rw [if_pos q2] at hc
        injection hc with hc
        subst hc
        refine q_iconst (v := nI 0) dX6_bitsOf_40 (by decide) ?_
        refine q_istore_n (ls' := [_, _, _, _]) dX6_bitsOf_41 (Nat.le_of_ble_eq_true rfl) rfl ?_
        cases hz : cup 8 e r with
        | none => simp only [hz] at hy; cases hy
        | some z =>
          simp only [hz] at hy
          exact up 8 0 e r z hz hy (by omega)
      · rw [if_neg q2] at hc
        by_cases c : n32 (FP.fdiv r FP.fconst2) = true
        case neg => rw [if_neg c] at hc; cases hc
        rw [if_pos c] at hc
        have c1 := n32_of c
        refine q_fload_n dX6_bitsOf_27 rfl ?_
        refine q_fconst2 dX6_bitsOf_28 ?_
        refine q_fdiv dX6_bitsOf_29 (by assumption) ?_
        refine q_fstore_n (ls' := [_, _, _, _]) dX6_bitsOf_30 (Nat.le_of_ble_eq_true rfl) rfl ?_
        refine q_iinc (ls' := [_, _, _, _]) dX6_bitsOf_31 rfl ((show e + Int32.ofInt 1 = e + 1 from rfl)) rfl ?_
        refine q_iinc (ls' := [_, _, _, _]) dX6_bitsOf_34 rfl (nI_add _ 1) rfl ?_
        refine q_goto (tgt := 15) dX6_bitsOf_37 (by decide) ?_
        exact ih (k + 1) (e + 1) _ y hc hy (by omega)
  unfold cbits at h
  refine q_M.of pnX6_bitsOf (by simp [Value.category]) (Nat.le_of_ble_eq_true rfl) ?_
  refine q_fload_n dX6_bitsOf_0 rfl ?_
  refine q_fconst0 dX6_bitsOf_1 ?_
  refine q_fcmp dX6_bitsOf_2 ?_
  refine q_if_gt (tgt := 8) dX6_bitsOf_3 (by decide) (fun q => ?_) (fun q => ?_)
  · rw [if_neg (fun z => z q)] at h
    cases hz : cdn 8 127 v with
    | none => rw [hz] at h; cases h
    | some z =>
      rw [hz] at h
      refine q_fload_n dX6_bitsOf_8 rfl ?_
      refine q_fstore_n (ls' := [_, _, _, _]) dX6_bitsOf_9 (Nat.le_of_ble_eq_true rfl) rfl ?_
      refine q_bipush (v := nI 127) dX6_bitsOf_10 (by decide) ?_
      refine q_istore_n (ls' := [_, _, _, _]) dX6_bitsOf_12 (Nat.le_of_ble_eq_true rfl) rfl ?_
      refine q_iconst (v := nI 0) dX6_bitsOf_13 (by decide) ?_
      refine q_istore_n (ls' := [_, _, _, _]) dX6_bitsOf_14 (Nat.le_of_ble_eq_true rfl) rfl ?_
      exact dn 8 0 127 v z hz h (by omega)
  · rw [if_pos q] at h
    injection h with h
    refine q_iconst (v := nI 0) dX6_bitsOf_6 (by decide) ?_
    exact q_iret rfl rfl dX6_bitsOf_7 ⟨by rw [← h]; rfl, rfl⟩
theorem ssum_le {f g : Nat → Nat} (h : ∀ p, f p ≤ g p) : ∀ k, ssum f k ≤ ssum g k := by
  intro k
  induction k with
  | zero => exact Nat.le_refl _
  | succ k ih => rw [ssum, ssum]; have := h k; omega
theorem ssum_mul (c : Nat) (f : Nat → Nat) : ∀ k, ssum (fun p => c * f p) k = c * ssum f k := by
  intro k
  induction k with
  | zero => rfl
  | succ k ih => rw [ssum, ssum, ih, Nat.mul_add]
theorem ssum_one : ∀ k, ssum (fun _ => 1) k = k := by
  intro k
  induction k with
  | zero => rfl
  | succ k ih => rw [ssum, ih]
/-- how many people are here, their ranks together, the mean -/
def nHere (σ : q_S) : Nat := ssum (fun p => sP σ p 0) 30
def nRanks (σ : q_S) : Nat := ssum (fun p => if sP σ p 0 = 0 then 0 else srank σ p) 30
theorem nHere_le {σ : q_S} (h : WFc σ) : nHere σ ≤ 30 := by
  have := ssum_le (f := fun p => sP σ p 0) (g := fun _ => 1) (fun p => (h.pr p).1) 30
  rw [ssum_one] at this
  exact this
theorem nRanks_le {σ : q_S} : nRanks σ ≤ 4 * nHere σ := by
  rw [nHere, ← ssum_mul]
  refine ssum_le (fun p => ?_) 30
  split
  · exact Nat.zero_le _
  · have := srank_le σ p; omega
def qMean (σ : q_S) : Int32 := if nHere σ = 0 then -1000004 else mbits (nRanks σ) (nHere σ)
theorem c_mean {I : q_Mem} {σ : q_S} (h : RC 1 I σ) (hw : WFc σ) : q_M kX6_mean [.ref 0] I (fun v J => v = some (.int (qMean σ)) ∧ I = J) := by
  have k0 := k0
  have h30 := nHere_le hw
  refine q_M.of pnX6_mean (by simp [Value.category]) (Nat.le_of_ble_eq_true rfl) ?_
  refine q_aload_n dX6_mean_0 rfl ?_
  refine q_getR fl_RX6_10 rfl (by assumption) dX6_mean_1 ?_
  refine q_cV (as := []) lk_RX6_205 (c_peopleHere k1 h hw) ⟨3, by decide, k1, rfl⟩ rfl (by decide) (Nat.le_of_ble_eq_true rfl) dX6_mean_4 ?_
  rintro v J ⟨rfl, rfl⟩
  refine q_istore_n (ls' := [_, _]) dX6_mean_7 (Nat.le_of_ble_eq_true rfl) rfl ?_
  refine q_iload_n dX6_mean_8 rfl ?_
  rw [show ssum (fun p => sP σ p 0) 30 = nHere σ from rfl]
  refine q_if_gtN (tgt := 15) (by omega) dX6_mean_9 (by decide) (fun q => ?_) (fun q => ?_)
  · obtain ⟨m1, m2, m3⟩ := mtab_c q h30 (nRanks_le (σ := σ))
    refine q_aload_n dX6_mean_15 rfl ?_
    refine q_getR fl_RX6_10 rfl (by assumption) dX6_mean_16 ?_
    refine q_cV (as := []) lk_RX6_208 (c_ranks k1 h hw) ⟨3, by decide, k1, rfl⟩ rfl (by decide) (Nat.le_of_ble_eq_true rfl) dX6_mean_19 ?_
    rintro v J ⟨rfl, rfl⟩
    rw [show ssum (fun p => if sP σ p 0 = 0 then 0 else srank σ p) 30 = nRanks σ from rfl]
    refine q_i2f dX6_mean_22 ?_
    refine q_iload_n dX6_mean_23 rfl ?_
    refine q_i2f dX6_mean_24 ?_
    refine q_fdiv dX6_mean_25 m1 ?_
    refine q_cS (as := [_]) lk_RX6_211 (c_bitsOf m2) rfl (by decide) (Nat.le_of_ble_eq_true rfl) dX6_mean_26 ?_
    rintro v J ⟨rfl, rfl⟩
    exact q_iret rfl rfl dX6_mean_29 ⟨by rw [qMean, if_neg (by omega)], rfl⟩
  · refine q_ldc (v := -1000004) ct_RX6_193 dX6_mean_12 ?_
    exact q_iret rfl rfl dX6_mean_14 ⟨by rw [qMean, if_pos (by omega)], rfl⟩
