/-! THE LAW's own small methods, and what it asks the class -/
theorem nI_nz {n : Nat} (h0 : 0 < n) (hn : n < 2 ^ 31) : ¬ nI n = 0 := fun z => by
  have := (nI_eq (b := 0) hn (by decide)).mp z
  omega
theorem m1_ne {k : Nat} (hk : k < 2 ^ 31) : ¬ (-1 : Int32) = nI k := fun z => nn hk (z ▸ (by decide : (-1 : Int32) < 0))
theorem c_low {v : Int32} {n : Nat} {I : q_Mem} (h0 : 0 < n) (hn : n < 2 ^ 31) : q_M kL_low [.int v, .int (nI n)] I (fun w J => (∃ j, j < n ∧ w = some (.int (nI j))) ∧ I = J) := by
  refine q_M.of pnL_low (by simp [Value.category]) (Nat.le_of_ble_eq_true rfl) ?_
  obtain ⟨k, hk, e⟩ := pk_andE v (m := 2147483647) 31 (by decide)
  refine q_iload_n dL_low_0 rfl ?_
  refine q_ldc (v := 2147483647) ct_RL_7 dL_low_1 ?_
  refine q_iand dL_low_3 ?_
  rw [e]
  refine q_iload_n dL_low_4 rfl ?_
  refine q_irem dL_low_5 (nI_nz h0 hn) ?_
  rw [pk_rem hk h0 hn]
  exact q_iret rfl rfl dL_low_6 ⟨⟨_, Nat.mod_lt _ h0, rfl⟩, rfl⟩
theorem c_mild {x : Int32} {I : q_Mem} : q_M kL_mild [.int x] I (fun w J => w = some (.int (if x = -1000002 ∨ x = -1000003 then nI 0 else x)) ∧ I = J) := by
  refine q_M.of pnL_mild (by simp [Value.category]) (Nat.le_of_ble_eq_true rfl) ?_
  refine q_iload_n dL_mild_0 rfl ?_
  refine q_ldc (v := -1000002) ct_RL_10 dL_mild_1 ?_
  refine q_icmp_eq (tgt := 12) dL_mild_3 (by decide) (fun q1 => ?_) (fun q1 => ?_)
  · refine q_iconst (v := nI 0) dL_mild_12 (by decide) ?_
    refine q_goto (tgt := 17) dL_mild_13 (by decide) ?_
    exact q_iret rfl rfl dL_mild_17 ⟨by rw [if_pos (Or.inl q1)], rfl⟩
  refine q_iload_n dL_mild_6 rfl ?_
  refine q_ldc (v := -1000003) ct_RL_11 dL_mild_7 ?_
  refine q_icmp_ne (tgt := 16) dL_mild_9 (by decide) (fun q2 => ?_) (fun q2 => ?_)
  · refine q_iload_n dL_mild_16 rfl ?_
    exact q_iret rfl rfl dL_mild_17 ⟨by rw [if_neg (fun z => z.elim q1 q2)], rfl⟩
  · refine q_iconst (v := nI 0) dL_mild_12 (by decide) ?_
    refine q_goto (tgt := 17) dL_mild_13 (by decide) ?_
    exact q_iret rfl rfl dL_mild_17 ⟨by rw [if_pos (Or.inr q2)], rfl⟩
/-- one less than a number: none, or a number -/
theorem less1 {n j : Nat} (hj : j < n + 1) (hn : n < 2 ^ 30) : nI j - nI 1 = -1 ∨ ∃ i, i < n ∧ nI j - nI 1 = nI i := by
  cases j with
  | zero => exact Or.inl (by decide)
  | succ i => exact Or.inr ⟨i, by omega, pk_sub (by omega)⟩
def sec (n f : Nat) (x : Int32) : Prop := x = -1 ∨ ∃ j, j < n ∧ ¬ j = f ∧ x = nI j
theorem c_second {v : Int32} {n f : Nat} {I : q_Mem} (hn : n ≤ 8) (hf : f < n) : q_M kL_second [.int v, .int (nI n), .int (nI f)] I (fun w J => (∃ x, w = some (.int x) ∧ sec n f x) ∧ I = J) := by
  refine q_M.of pnL_second (by simp [Value.category]) (Nat.le_of_ble_eq_true rfl) ?_
  refine q_iload_n dL_second_0 rfl ?_
  refine q_iconst (v := nI 3) dL_second_1 (by decide) ?_
  refine q_ishr dL_second_2 ?_
  refine q_iload_n dL_second_3 rfl ?_
  refine q_iconst (v := nI 1) dL_second_4 (by decide) ?_
  refine q_iadd dL_second_5 ?_
  rw [nI_add]
  refine q_cS (as := [_, _]) lk_RL_12 (c_low (by omega) (by omega)) rfl (by decide) (Nat.le_of_ble_eq_true rfl) dL_second_6 ?_
  rintro w J ⟨⟨j, hj, rfl⟩, rfl⟩
  refine q_iconst (v := nI 1) dL_second_9 (by decide) ?_
  refine q_isub dL_second_10 ?_
  rcases less1 hj (by omega) with e | ⟨i, hi, e⟩
  · rw [e]
    refine q_istore_n (ls' := [_, _, _, _]) dL_second_11 (Nat.le_of_ble_eq_true rfl) rfl ?_
    refine q_iload_n dL_second_12 rfl ?_
    refine q_iload_n dL_second_13 rfl ?_
    refine q_icmp_ne (tgt := 21) dL_second_14 (by decide) (fun q => ?_) (fun q => ?_)
    · refine q_iload_n dL_second_21 rfl ?_
      exact q_iret rfl rfl dL_second_22 ⟨⟨_, rfl, Or.inl rfl⟩, rfl⟩
    · exact absurd q (m1_ne (by omega))
  · rw [e]
    refine q_istore_n (ls' := [_, _, _, _]) dL_second_11 (Nat.le_of_ble_eq_true rfl) rfl ?_
    refine q_iload_n dL_second_12 rfl ?_
    refine q_iload_n dL_second_13 rfl ?_
    refine q_icmp_neN (tgt := 21) (by omega) (by omega) dL_second_14 (by decide) (fun q => ?_) (fun q => ?_)
    · refine q_iload_n dL_second_21 rfl ?_
      exact q_iret rfl rfl dL_second_22 ⟨⟨_, rfl, Or.inr ⟨i, hi, q, rfl⟩⟩, rfl⟩
    · refine q_iconst (v := -1) dL_second_17 (by decide) ?_
      refine q_goto (tgt := 22) dL_second_18 (by decide) ?_
      exact q_iret rfl rfl dL_second_22 ⟨⟨_, rfl, Or.inl rfl⟩, rfl⟩
theorem isC_nI {n j : Nat} (hn : n < 2 ^ 31) (hj : j < n) : isC n (nI j) := (isC_iff hn).mpr ⟨j, hj, rfl⟩
theorem c_third {v x : Int32} {n f : Nat} {I : q_Mem} (hn : n ≤ 8) (hf : f < n) (hx : sec n f x) : q_M kL_third [.int v, .int (nI n), .int (nI f), .int x] I (fun w J => (∃ y, w = some (.int y) ∧ wokI n (nI f) x y) ∧ I = J) := by
  refine q_M.of pnL_third (by simp [Value.category]) (Nat.le_of_ble_eq_true rfl) ?_
  have h1 : isC n (nI f) := isC_nI (by omega) hf
  refine q_iload_n dL_third_0 rfl ?_
  refine q_bipush (v := nI 6) dL_third_1 (by decide) ?_
  refine q_ishr dL_third_3 ?_
  refine q_iload_n dL_third_4 rfl ?_
  refine q_iconst (v := nI 1) dL_third_5 (by decide) ?_
  refine q_iadd dL_third_6 ?_
  rw [nI_add]
  refine q_cS (as := [_, _]) lk_RL_12 (c_low (by omega) (by omega)) rfl (by decide) (Nat.le_of_ble_eq_true rfl) dL_third_7 ?_
  rintro w J ⟨⟨j, hj, rfl⟩, rfl⟩
  refine q_iconst (v := nI 1) dL_third_10 (by decide) ?_
  refine q_isub dL_third_11 ?_
  have ht := less1 hj (by omega)
  generalize nI j - nI 1 = t at ht
  refine q_istore (ls' := [_, _, _, _, _]) dL_third_12 (Nat.le_of_ble_eq_true rfl) rfl ?_
  refine q_iload_n dL_third_14 rfl ?_
  refine q_if_lt (tgt := 30) dL_third_15 (by decide) (fun q => ?_) (fun q => ?_)
  · refine q_iconst (v := -1) dL_third_30 (by decide) ?_
    refine q_goto (tgt := 36) dL_third_31 (by decide) ?_
    have ex : x = -1 := by
      rcases hx with h | ⟨i, hi, hne, h⟩
      · exact h
      · rw [h] at q; exact absurd q (nn (by omega))
    exact q_iret rfl rfl dL_third_36 ⟨⟨_, rfl, h1, Or.inl ⟨ex, rfl⟩⟩, rfl⟩
  obtain ⟨i, hi, hne, ex⟩ : ∃ i, i < n ∧ ¬ i = f ∧ x = nI i := by
    rcases hx with h | h
    · rw [h] at q; exact absurd (by decide) q
    · exact h
  have h2 : ¬ x = -1 := fun z => m1_ne (k := i) (by omega) (by rw [← z, ex])
  have h3 : isC n x := by rw [ex]; exact isC_nI (by omega) hi
  have h4 : ¬ x = nI f := fun z => hne ((nI_eq (by omega) (by omega)).mp (ex.symm.trans z))
  refine q_iload dL_third_18 rfl ?_
  refine q_iload_n dL_third_20 rfl ?_
  refine q_icmp_eq (tgt := 30) dL_third_21 (by decide) (fun q2 => ?_) (fun q2 => ?_)
  · refine q_iconst (v := -1) dL_third_30 (by decide) ?_
    refine q_goto (tgt := 36) dL_third_31 (by decide) ?_
    exact q_iret rfl rfl dL_third_36 ⟨⟨_, rfl, h1, Or.inr ⟨h2, h3, h4, Or.inl rfl⟩⟩, rfl⟩
  refine q_iload dL_third_24 rfl ?_
  refine q_iload_n dL_third_26 rfl ?_
  refine q_icmp_ne (tgt := 34) dL_third_27 (by decide) (fun q3 => ?_) (fun q3 => ?_)
  · refine q_iload dL_third_34 rfl ?_
    refine q_iret rfl rfl dL_third_36 ⟨⟨_, rfl, h1, Or.inr ⟨h2, h3, h4, ?_⟩⟩, rfl⟩
    rcases ht with h | ⟨k, hk, h⟩
    · exact Or.inl h
    · exact Or.inr ⟨by rw [h]; exact isC_nI (by omega) hk, q2, q3⟩
  · refine q_iconst (v := -1) dL_third_30 (by decide) ?_
    refine q_goto (tgt := 36) dL_third_31 (by decide) ?_
    exact q_iret rfl rfl dL_third_36 ⟨⟨_, rfl, h1, Or.inr ⟨h2, h3, h4, Or.inl rfl⟩⟩, rfl⟩
theorem c_bits {s : Nat} {I : q_Mem} (hs : s < 256) : q_M kL_bits [.int (nI s)] I (fun w J => w = some (.int (nI (bcnt 8 s))) ∧ I = J) := by
  refine q_M.of pnL_bits (by simp [Value.category]) (Nat.le_of_ble_eq_true rfl) ?_
  refine q_iconst (v := nI 0) dL_bits_0 (by decide) ?_
  refine q_istore_n (ls' := [_, _, _]) dL_bits_1 (Nat.le_of_ble_eq_true rfl) rfl ?_
  refine q_iconst (v := nI 0) dL_bits_2 (by decide) ?_
  refine q_istore_n (ls' := [_, _, _]) dL_bits_3 (Nat.le_of_ble_eq_true rfl) rfl ?_
  have loop : ∀ d k, k + d = 8 → q_X kL_bits 4 [some (.int (nI s)), some (.int (nI (bcnt k s))), some (.int (nI k))] [] I (fun w J => w = some (.int (nI (bcnt 8 s))) ∧ I = J) := by
    intro d
    induction d with
    | zero =>
      intro k hk
      obtain rfl : k = 8 := by omega
      refine q_iload_n dL_bits_4 rfl ?_
      refine q_bipush (v := nI 8) dL_bits_5 (by decide) ?_
      refine q_icmp_geN (tgt := 24) (by omega) (by omega) dL_bits_7 (by decide) (fun q => ?_) (fun q => ?_)
      · refine q_iload_n dL_bits_24 rfl ?_
        exact q_iret rfl rfl dL_bits_25 ⟨rfl, rfl⟩
      · omega
    | succ d ih =>
      intro k hk
      refine q_iload_n dL_bits_4 rfl ?_
      refine q_bipush (v := nI 8) dL_bits_5 (by decide) ?_
      refine q_icmp_geN (tgt := 24) (by omega) (by omega) dL_bits_7 (by decide) (fun q => ?_) (fun q => ?_)
      · omega
      refine q_iload_n dL_bits_10 rfl ?_
      refine q_iload_n dL_bits_11 rfl ?_
      refine q_iload_n dL_bits_12 rfl ?_
      refine q_ishr dL_bits_13 ?_
      refine q_iconst (v := nI 1) dL_bits_14 (by decide) ?_
      refine q_iand dL_bits_15 ?_
      rw [shr_bit s hs k q]
      refine q_iadd dL_bits_16 ?_
      rw [nI_add, ← bcnt_s]
      refine q_istore_n (ls' := [_, _, _]) dL_bits_17 (Nat.le_of_ble_eq_true rfl) rfl ?_
      refine q_iinc (ls' := [_, _, _]) dL_bits_18 rfl (nI_add _ 1) rfl ?_
      refine q_goto (tgt := 4) dL_bits_21 (by decide) ?_
      exact ih (k + 1) (by omega)
  exact loop 8 0 rfl
/-! what is asked -/
theorem a_count {j : Nat} {x : Int32} {I : q_Mem} {σ : q_S} {hs : List q_S} (hG : RG I σ hs []) (hs1 : sok σ) (hj : j < 18) (e : cnt σ hs.length 0 j = x) : q_M kX6_count [.ref 0, .int (nI j)] I (fun v J => v = some (.int x) ∧ I = J) := by
  have hT : I 353 2 = nI 0 := hG.2.2.1.1
  obtain ⟨-, -, -, n, hn, h3, h4, -⟩ := id hG
  refine (c_count hG.1 hs1 h4 hT).mono ?_
  rintro v J ⟨rfl, rfl⟩
  exact ⟨by rw [qCount, if_pos (isC_nI (by omega) hj), nI_clamp (by omega), e], rfl⟩
theorem a_course {c j : Nat} {x : Int32} {I : q_Mem} {σ : q_S} {hs : List q_S} (hG : RG I σ hs []) (hs1 : sok σ) (hc : c < sN σ 0) (hj : j < 13) (e : cof σ c j = x) : q_M kX6_courseOf [.ref 0, .int (nI c), .int (nI j)] I (fun v J => v = some (.int x) ∧ I = J) := by
  have h8 := hs1.1.B.1
  refine (c_courseOf hG.1 hs1.1).mono ?_
  rintro v J ⟨rfl, rfl⟩
  exact ⟨by rw [qCourseOf, if_pos ⟨isC_nI (by omega) hc, isC_nI (by omega) hj⟩, nI_clamp (by omega), nI_clamp (by omega), e], rfl⟩
theorem a_person {p j : Nat} {x : Int32} {I : q_Mem} {σ : q_S} {hs : List q_S} (hG : RG I σ hs []) (hs1 : sok σ) (hp : p < sN σ 2) (hj : j < 8) (e : pof σ p j = x) : q_M kX6_personOf [.ref 0, .int (nI p), .int (nI j)] I (fun v J => v = some (.int x) ∧ I = J) := by
  have h8 := hs1.1.B.2.2.1
  refine (c_personOf hG.1 hs1.1).mono ?_
  rintro v J ⟨rfl, rfl⟩
  exact ⟨by rw [qPersonOf, if_pos ⟨isC_nI (by omega) hp, isC_nI (by omega) hj⟩, nI_clamp (by omega), nI_clamp (by omega), e], rfl⟩
theorem a_waits {c r : Nat} {I : q_Mem} {σ : q_S} {hs : List q_S} (hG : RG I σ hs []) (hs1 : sok σ) (hc : c < sN σ 0) (hr : r < 2 ^ 31) : q_M kX6_waits [.ref 0, .int (nI c), .int (nI r)] I (fun v J => v = some (.int (told (swn σ (c + 1) 30 0 r))) ∧ I = J) := by
  have h8 := hs1.1.B.1
  refine (c_waits hG.1 hs1.1).mono ?_
  rintro v J ⟨rfl, rfl⟩
  exact ⟨by rw [qWaits, if_pos ⟨isC_nI (by omega) hc, nn hr⟩, nI_clamp (by omega), nI_clamp hr], rfl⟩
def mof (o : Option Nat) : Int32 := match o with
  | some p => nI p
  | none => -1000004
theorem a_member {c r : Nat} {I : q_Mem} {σ : q_S} {hs : List q_S} (hG : RG I σ hs []) (hs1 : sok σ) (hc : c < sN σ 0) (hr : r < 2 ^ 31) : q_M kX6_member [.ref 0, .int (nI c), .int (nI r)] I (fun v J => v = some (.int (mof ((sL σ c)[r]?))) ∧ I = J) := by
  have h8 := hs1.1.B.1
  refine (c_member hG.1 hs1.1).mono ?_
  rintro v J ⟨rfl, rfl⟩
  exact ⟨by rw [qMember, if_pos ⟨isC_nI (by omega) hc, nn hr⟩, nI_clamp (by omega), nI_clamp hr]; rfl, rfl⟩
theorem a_room {r j : Nat} {x : Int32} {I : q_Mem} {σ : q_S} {hs : List q_S} (hG : RG I σ hs []) (hs1 : sok σ) (hr : r < sN σ 1) (hj : j < 3) (e : rof σ r j = x) : q_M kX6_roomOf [.ref 0, .int (nI r), .int (nI j)] I (fun v J => v = some (.int x) ∧ I = J) := by
  have h8 := hs1.1.B.2.1
  refine (c_roomOf hG.1 hs1).mono ?_
  rintro v J ⟨rfl, rfl⟩
  exact ⟨by rw [qRoomOf, if_pos ⟨isC_nI (by omega) hr, isC_nI (by omega) hj⟩, nI_clamp (by omega), nI_clamp (by omega), e], rfl⟩
/-- a class's state as it is told -/
theorem st_enc {σ : q_S} {c : Nat} (hw : WFc σ) (hc : c < sN σ 0) : cof σ c 6 = nI (sC σ c 6 - 1) := by
  have := hw.2.2.2.1 c hc
  show enc (sC σ c 6) = _
  rw [enc, if_neg (by omega)]
