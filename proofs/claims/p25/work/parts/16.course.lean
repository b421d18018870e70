/-! the class's classes (Course): leaves -/
theorem c_hasFree {a : Nat} {I : q_Mem} (ha : q_kd a = 0) {n m : Nat} (hn : I a 12 = nI n) (hm : I a 6 = nI m) (hn2 : n < 2 ^ 31) (hm2 : m < 2 ^ 31) : q_M kX0_hasFreePlace [.ref a] I (fun v J => v = some (.int (if I a 8 = 0 ∧ n < m then 1 else 0)) ∧ I = J) := by
  refine q_M.of pnX0_hasFreePlace (by simp [Value.category]) (Nat.le_of_ble_eq_true rfl) ?_
  refine q_aload_n dX0_hasFreePlace_0 rfl ?_
  refine q_getI fl_RX0_15 rfl (by assumption) rfl dX0_hasFreePlace_1 ?_
  refine q_if_ne (tgt := 22) dX0_hasFreePlace_4 (by decide) (fun h => ?_) (fun h => ?_)
  · refine q_iconst (v := nI 0) dX0_hasFreePlace_22 (by decide) ?_
    exact q_iret rfl rfl dX0_hasFreePlace_23 ⟨by rw [if_neg (fun q => h q.1)]; rfl, rfl⟩
  · refine q_aload_n dX0_hasFreePlace_7 rfl ?_
    refine q_getI fl_RX0_49 rfl (by assumption) hn dX0_hasFreePlace_8 ?_
    refine q_aload_n dX0_hasFreePlace_11 rfl ?_
    refine q_getI fl_RX0_40 rfl (by assumption) hm dX0_hasFreePlace_12 ?_
    refine q_icmp_geN (tgt := 22) hn2 hm2 dX0_hasFreePlace_15 (by decide) (fun h2 => ?_) (fun h2 => ?_)
    · refine q_iconst (v := nI 0) dX0_hasFreePlace_22 (by decide) ?_
      exact q_iret rfl rfl dX0_hasFreePlace_23 ⟨by rw [if_neg (fun q => by omega)]; rfl, rfl⟩
    · refine q_iconst (v := nI 1) dX0_hasFreePlace_18 (by decide) ?_
      refine q_goto (tgt := 23) dX0_hasFreePlace_19 (by decide) ?_
      exact q_iret rfl rfl dX0_hasFreePlace_23 ⟨by rw [if_pos ⟨h, h2⟩]; rfl, rfl⟩
theorem c_tooSmall {a : Nat} {I : q_Mem} (ha : q_kd a = 0) {n m : Nat} (hn : I a 12 = nI n) (hm : I a 5 = nI m) (hn2 : n < 2 ^ 31) (hm2 : m < 2 ^ 31) : q_M kX0_isTooSmall [.ref a] I (fun v J => v = some (.int (if I a 8 = 0 ∧ n < m then 1 else 0)) ∧ I = J) := by
  refine q_M.of pnX0_isTooSmall (by simp [Value.category]) (Nat.le_of_ble_eq_true rfl) ?_
  refine q_aload_n dX0_isTooSmall_0 rfl ?_
  refine q_getI fl_RX0_15 rfl (by assumption) rfl dX0_isTooSmall_1 ?_
  refine q_if_ne (tgt := 22) dX0_isTooSmall_4 (by decide) (fun h => ?_) (fun h => ?_)
  · refine q_iconst (v := nI 0) dX0_isTooSmall_22 (by decide) ?_
    exact q_iret rfl rfl dX0_isTooSmall_23 ⟨by rw [if_neg (fun q => h q.1)]; rfl, rfl⟩
  · refine q_aload_n dX0_isTooSmall_7 rfl ?_
    refine q_getI fl_RX0_49 rfl (by assumption) hn dX0_isTooSmall_8 ?_
    refine q_aload_n dX0_isTooSmall_11 rfl ?_
    refine q_getI fl_RX0_37 rfl (by assumption) hm dX0_isTooSmall_12 ?_
    refine q_icmp_geN (tgt := 22) hn2 hm2 dX0_isTooSmall_15 (by decide) (fun h2 => ?_) (fun h2 => ?_)
    · refine q_iconst (v := nI 0) dX0_isTooSmall_22 (by decide) ?_
      exact q_iret rfl rfl dX0_isTooSmall_23 ⟨by rw [if_neg (fun q => by omega)]; rfl, rfl⟩
    · refine q_iconst (v := nI 1) dX0_isTooSmall_18 (by decide) ?_
      refine q_goto (tgt := 23) dX0_isTooSmall_19 (by decide) ?_
      exact q_iret rfl rfl dX0_isTooSmall_23 ⟨by rw [if_pos ⟨h, h2⟩]; rfl, rfl⟩
theorem c_add {a n x : Nat} {I : q_Mem} (ha : q_kd a = 0) (hn : I a 12 = nI n) (hn2 : n < 20) : q_M kX0_add [.ref a, .int (nI x)] I (fun v J => v = none ∧ J = q_up (q_up I (a + 1) n (nI x)) a 12 (nI (n + 1))) := by
  refine q_M.of pnX0_add (by simp [Value.category]) (Nat.le_of_ble_eq_true rfl) ?_
  refine q_aload_n dX0_add_0 rfl ?_
  refine q_getI fl_RX0_49 rfl (by assumption) hn dX0_add_1 ?_
  refine q_if_ltN (tgt := 39) (by omega) dX0_add_4 (by decide) (fun h => ?_) (fun h => ?_)
  · omega
  refine q_aload_n dX0_add_7 rfl ?_
  refine q_getI fl_RX0_49 rfl (by assumption) hn dX0_add_8 ?_
  refine q_aload_n dX0_add_11 rfl ?_
  refine q_getR fl_RX0_9 rfl (by assumption) dX0_add_12 ?_
  refine q_lenM ha rfl dX0_add_15 ?_
  refine q_icmp_geN (tgt := 39) (by omega) (by omega) dX0_add_16 (by decide) (fun h2 => ?_) (fun h2 => ?_)
  · omega
  refine q_aload_n dX0_add_19 rfl ?_
  refine q_getR fl_RX0_9 rfl (by assumption) dX0_add_20 ?_
  refine q_aload_n dX0_add_23 rfl ?_
  refine q_getI fl_RX0_49 rfl (by assumption) hn dX0_add_24 ?_
  refine q_iload_n dX0_add_27 rfl ?_
  refine q_iastM ha rfl hn2 dX0_add_28 ?_
  refine q_aload_n dX0_add_29 rfl ?_
  refine q_dup dX0_add_30 rfl ?_
  refine q_getI fl_RX0_49 rfl (by assumption) ((q_up_n (by omega)).trans hn) dX0_add_31 ?_
  refine q_iconst (v := nI 1) dX0_add_34 (by decide) ?_
  refine q_iadd dX0_add_35 ?_
  rw [nI_add]
  refine q_putI ⟨fl_RX0_49, rfl, rfl⟩ (by assumption) ⟨rfl, rfl⟩ dX0_add_36 ?_
  exact q_vret rfl dX0_add_39 ⟨rfl, rfl⟩
theorem c_levels {a d x y : Nat} {I : q_Mem} (ha : q_kd a = 0) (hd : q_kd d = 0) (hx : I a 3 = nI x) (hy : I d 3 = nI y) (hx2 : x < 2 ^ 30) (hy2 : y < 2 ^ 30) : q_M kX0_levelsFrom [.ref a, .ref d] I (fun v J => v = some (.int (nI (if x > y then x - y else y - x))) ∧ I = J) := by
  refine q_M.of pnX0_levelsFrom (by simp [Value.category]) (Nat.le_of_ble_eq_true rfl) ?_
  refine q_aload_n dX0_levelsFrom_0 rfl ?_
  refine q_getI fl_RX0_31 rfl (by assumption) hx dX0_levelsFrom_1 ?_
  refine q_aload_n dX0_levelsFrom_4 rfl ?_
  refine q_getI fl_RX0_31 rfl (by assumption) hy dX0_levelsFrom_5 ?_
  refine q_icmp_leN (tgt := 23) (by omega) (by omega) dX0_levelsFrom_8 (by decide) (fun h => ?_) (fun h => ?_)
  · refine q_aload_n dX0_levelsFrom_23 rfl ?_
    refine q_getI fl_RX0_31 rfl (by assumption) hy dX0_levelsFrom_24 ?_
    refine q_aload_n dX0_levelsFrom_27 rfl ?_
    refine q_getI fl_RX0_31 rfl (by assumption) hx dX0_levelsFrom_28 ?_
    refine q_isub dX0_levelsFrom_31 ?_
    rw [pk_sub h]
    exact q_iret rfl rfl dX0_levelsFrom_32 ⟨by rw [if_neg (by omega)], rfl⟩
  · refine q_aload_n dX0_levelsFrom_11 rfl ?_
    refine q_getI fl_RX0_31 rfl (by assumption) hx dX0_levelsFrom_12 ?_
    refine q_aload_n dX0_levelsFrom_15 rfl ?_
    refine q_getI fl_RX0_31 rfl (by assumption) hy dX0_levelsFrom_16 ?_
    refine q_isub dX0_levelsFrom_19 ?_
    rw [pk_sub (Nat.le_of_lt h)]
    refine q_goto (tgt := 32) dX0_levelsFrom_20 (by decide) ?_
    exact q_iret rfl rfl dX0_levelsFrom_32 ⟨by rw [if_pos h], rfl⟩
/-- memberAt: for a rank of any kind -/
theorem c_memberAt {a n : Nat} {r : Int32} {I : q_Mem} (ha : q_kd a = 0) (hn : I a 12 = nI n) (hn2 : n ≤ 20) : q_M kX0_memberAt [.ref a, .int r] I (fun v J => (∃ i, i < n ∧ r = nI i ∧ v = some (.int (I (a + 1) i)) ∧ I = J) ∨ ((∀ i, i < n → ¬ r = nI i) ∧ v = some (.int (-1)) ∧ I = J)) := by
  refine q_M.of pnX0_memberAt (by simp [Value.category]) (Nat.le_of_ble_eq_true rfl) ?_
  refine q_iload_n dX0_memberAt_0 rfl ?_
  refine q_if_lt (tgt := 30) dX0_memberAt_1 (by decide) (fun h => ?_) (fun h => ?_)
  · refine q_iconst (v := -1) dX0_memberAt_30 (by decide) ?_
    exact q_iret rfl rfl dX0_memberAt_31 (Or.inr ⟨fun i hi q => by rw [q] at h; exact nI_pos (by omega) h, rfl, rfl⟩)
  · obtain ⟨i, hi, rfl⟩ := nI_of h
    refine q_iload_n dX0_memberAt_4 rfl ?_
    refine q_aload_n dX0_memberAt_5 rfl ?_
    refine q_getI fl_RX0_49 rfl (by assumption) hn dX0_memberAt_6 ?_
    refine q_icmp_geN (tgt := 30) (by omega) (by omega) dX0_memberAt_9 (by decide) (fun h2 => ?_) (fun h2 => ?_)
    · refine q_iconst (v := -1) dX0_memberAt_30 (by decide) ?_
      exact q_iret rfl rfl dX0_memberAt_31 (Or.inr ⟨fun j hj q => by have := (nI_eq (by omega) (by omega)).mp q; omega, rfl, rfl⟩)
    · refine q_iload_n dX0_memberAt_12 rfl ?_
      refine q_aload_n dX0_memberAt_13 rfl ?_
      refine q_getR fl_RX0_9 rfl (by assumption) dX0_memberAt_14 ?_
      refine q_lenM ha rfl dX0_memberAt_17 ?_
      refine q_icmp_geN (tgt := 30) (by omega) (by omega) dX0_memberAt_18 (by decide) (fun h3 => ?_) (fun h3 => ?_)
      · omega
      refine q_aload_n dX0_memberAt_21 rfl ?_
      refine q_getR fl_RX0_9 rfl (by assumption) dX0_memberAt_22 ?_
      refine q_iload_n dX0_memberAt_25 rfl ?_
      refine q_ialdM ha rfl (i := i) (by omega) rfl dX0_memberAt_26 ?_
      refine q_goto (tgt := 31) dX0_memberAt_27 (by decide) ?_
      exact q_iret rfl rfl dX0_memberAt_31 (Or.inl ⟨i, h2, rfl, rfl, rfl⟩)
theorem c_reopen {a : Nat} {I : q_Mem} (ha : q_kd a = 0) : q_M kX0_reopen [.ref a] I (fun v J => v = none ∧ J = q_up (q_up (q_up (q_up (q_up I a 8 0) a 9 0) a 10 (-1)) a 11 (-1)) a 12 0) := by
  refine q_M.of pnX0_reopen (by simp [Value.category]) (Nat.le_of_ble_eq_true rfl) ?_
  refine q_aload_n dX0_reopen_0 rfl ?_
  refine q_iconst (v := nI 0) dX0_reopen_1 (by decide) ?_
  refine q_putI ⟨fl_RX0_15, rfl, rfl⟩ (by assumption) ⟨rfl, rfl⟩ dX0_reopen_2 ?_
  refine q_aload_n dX0_reopen_5 rfl ?_
  refine q_iconst (v := nI 0) dX0_reopen_6 (by decide) ?_
  refine q_putI ⟨fl_RX0_46, rfl, rfl⟩ (by assumption) ⟨rfl, rfl⟩ dX0_reopen_7 ?_
  refine q_aload_n dX0_reopen_10 rfl ?_
  refine q_iconst (v := -1) dX0_reopen_11 (by decide) ?_
  refine q_putI ⟨fl_RX0_19, rfl, rfl⟩ (by assumption) ⟨rfl, rfl⟩ dX0_reopen_12 ?_
  refine q_aload_n dX0_reopen_15 rfl ?_
  refine q_iconst (v := -1) dX0_reopen_16 (by decide) ?_
  refine q_putI ⟨fl_RX0_22, rfl, rfl⟩ (by assumption) ⟨rfl, rfl⟩ dX0_reopen_17 ?_
  refine q_aload_n dX0_reopen_20 rfl ?_
  refine q_iconst (v := nI 0) dX0_reopen_21 (by decide) ?_
  refine q_putI ⟨fl_RX0_49, rfl, rfl⟩ (by assumption) ⟨rfl, rfl⟩ dX0_reopen_22 ?_
  exact q_vret rfl dX0_reopen_25 ⟨rfl, rfl⟩
theorem c_begin {a : Nat} {x l m f : Int32} {I : q_Mem} (ha : q_kd a = 0) : q_M kX0_begin [.ref a, .int x, .int l, .int m, .int f] I (fun v J => v = none ∧ J = q_up (q_up (q_up (q_up (q_up (q_up (q_up (q_up (q_up (q_up (q_up I a 2 (x &&& 3)) a 3 ((x >>> (2 &&& 31)) &&& 3)) a 4 (x >>> (4 &&& 31))) a 5 l) a 6 m) a 7 f) a 8 0) a 9 0) a 10 (-1)) a 11 (-1)) a 12 0) := by
  refine q_M.of pnX0_begin (by simp [Value.category]) (Nat.le_of_ble_eq_true rfl) ?_
  refine q_aload_n dX0_begin_0 rfl ?_
  refine q_iload_n dX0_begin_1 rfl ?_
  refine q_iconst (v := nI 3) dX0_begin_2 (by decide) ?_
  refine q_iand dX0_begin_3 ?_
  refine q_putI ⟨fl_RX0_28, rfl, rfl⟩ (by assumption) ⟨rfl, rfl⟩ dX0_begin_4 ?_
  refine q_aload_n dX0_begin_7 rfl ?_
  refine q_iload_n dX0_begin_8 rfl ?_
  refine q_iconst (v := nI 2) dX0_begin_9 (by decide) ?_
  refine q_ishr dX0_begin_10 ?_
  refine q_iconst (v := nI 3) dX0_begin_11 (by decide) ?_
  refine q_iand dX0_begin_12 ?_
  refine q_putI ⟨fl_RX0_31, rfl, rfl⟩ (by assumption) ⟨rfl, rfl⟩ dX0_begin_13 ?_
  refine q_aload_n dX0_begin_16 rfl ?_
  refine q_iload_n dX0_begin_17 rfl ?_
  refine q_iconst (v := nI 4) dX0_begin_18 (by decide) ?_
  refine q_ishr dX0_begin_19 ?_
  refine q_putI ⟨fl_RX0_34, rfl, rfl⟩ (by assumption) ⟨rfl, rfl⟩ dX0_begin_20 ?_
  refine q_aload_n dX0_begin_23 rfl ?_
  refine q_iload_n dX0_begin_24 rfl ?_
  refine q_putI ⟨fl_RX0_37, rfl, rfl⟩ (by assumption) ⟨rfl, rfl⟩ dX0_begin_25 ?_
  refine q_aload_n dX0_begin_28 rfl ?_
  refine q_iload_n dX0_begin_29 rfl ?_
  refine q_putI ⟨fl_RX0_40, rfl, rfl⟩ (by assumption) ⟨rfl, rfl⟩ dX0_begin_30 ?_
  refine q_aload_n dX0_begin_33 rfl ?_
  refine q_iload dX0_begin_34 rfl ?_
  refine q_putI ⟨fl_RX0_43, rfl, rfl⟩ (by assumption) ⟨rfl, rfl⟩ dX0_begin_36 ?_
  refine q_aload_n dX0_begin_39 rfl ?_
  refine q_cV (as := []) lk_RX0_64 (c_reopen ha) ⟨0, by decide, by assumption, rfl⟩ rfl (by decide) (Nat.le_of_ble_eq_true rfl) dX0_begin_40 ?_
  rintro v J ⟨rfl, rfl⟩
  exact q_vret rfl dX0_begin_43 ⟨rfl, rfl⟩
/-- what a copy has laid so far: the slots s of a are those of o -/
def cpd (a o : Nat) (I J : q_Mem) (s : List Nat) : Prop := (∀ i, ¬ i = a → J i = I i) ∧ (∀ j ∈ s, J a j = I o j) ∧ ∀ j, j ∉ s → J a j = I a j
theorem cpd.nil {a o : Nat} {I : q_Mem} : cpd a o I I [] := ⟨fun _ _ => rfl, fun _ h => absurd h List.not_mem_nil, fun _ _ => rfl⟩
theorem cpd.up {a o j : Nat} {I J : q_Mem} {s : List Nat} (h : cpd a o I J s) : cpd a o I (q_up J a j (I o j)) (j :: s) := by
  obtain ⟨h1, h2, h3⟩ := h
  refine ⟨fun i hi => ?_, fun i hi => ?_, fun i hi => ?_⟩
  · rw [← h1 i hi]
    funext z
    exact if_neg (fun q => hi q.1)
  · by_cases e : i = j
    · subst e; exact q_up_s
    · rw [q_up_n (fun q => e q.2)]
      rcases List.mem_cons.mp hi with q | q
      · exact absurd q e
      · exact h2 i q
  · rw [q_up_n (fun q => hi (by rw [q.2]; exact List.mem_cons_self))]
    exact h3 i (fun q => hi (List.mem_cons_of_mem _ q))
theorem c_copyC {a o : Nat} {I : q_Mem} (ha : q_kd a = 0) (ho : q_kd o = 0) (hne : ¬ o = a) : q_M kX0_copyFrom [.ref a, .ref o] I (fun v J => v = none ∧ (∀ j, 2 ≤ j → j < 13 → J a j = I o j) ∧ J a 0 = I a 0 ∧ (∀ j, j < 20 → J (a + 1) j = I (o + 1) j) ∧ ∀ i, ¬ i = a → ¬ i = a + 1 → J i = I i) := by
  have ha1 : ¬ a + 1 = a := by omega
  have hoa : ¬ o + 1 = a := fun q => by have := (kC ho).1; rw [q, ha] at this; cases this
  refine q_M.of pnX0_copyFrom (by simp [Value.category]) (Nat.le_of_ble_eq_true rfl) ?_
  have hc : cpd a o I I [] := cpd.nil
  refine q_aload_n dX0_copyFrom_0 rfl ?_
  refine q_aload_n dX0_copyFrom_1 rfl ?_
  refine q_getI fl_RX0_28 rfl (by assumption) (congrFun (hc.1 o hne) 2) dX0_copyFrom_2 ?_
  refine q_putI ⟨fl_RX0_28, rfl, rfl⟩ (by assumption) ⟨rfl, rfl⟩ dX0_copyFrom_5 ?_
  have hc := hc.up (j := 2)
  generalize q_up _ a 2 (I o 2) = J0 at hc ⊢
  refine q_aload_n dX0_copyFrom_8 rfl ?_
  refine q_aload_n dX0_copyFrom_9 rfl ?_
  refine q_getI fl_RX0_31 rfl (by assumption) (congrFun (hc.1 o hne) 3) dX0_copyFrom_10 ?_
  refine q_putI ⟨fl_RX0_31, rfl, rfl⟩ (by assumption) ⟨rfl, rfl⟩ dX0_copyFrom_13 ?_
  have hc := hc.up (j := 3)
  generalize q_up _ a 3 (I o 3) = J1 at hc ⊢
  refine q_aload_n dX0_copyFrom_16 rfl ?_
  refine q_aload_n dX0_copyFrom_17 rfl ?_
  refine q_getI fl_RX0_34 rfl (by assumption) (congrFun (hc.1 o hne) 4) dX0_copyFrom_18 ?_
  refine q_putI ⟨fl_RX0_34, rfl, rfl⟩ (by assumption) ⟨rfl, rfl⟩ dX0_copyFrom_21 ?_
  have hc := hc.up (j := 4)
  generalize q_up _ a 4 (I o 4) = J2 at hc ⊢
  refine q_aload_n dX0_copyFrom_24 rfl ?_
  refine q_aload_n dX0_copyFrom_25 rfl ?_
  refine q_getI fl_RX0_37 rfl (by assumption) (congrFun (hc.1 o hne) 5) dX0_copyFrom_26 ?_
  refine q_putI ⟨fl_RX0_37, rfl, rfl⟩ (by assumption) ⟨rfl, rfl⟩ dX0_copyFrom_29 ?_
  have hc := hc.up (j := 5)
  generalize q_up _ a 5 (I o 5) = J3 at hc ⊢
  refine q_aload_n dX0_copyFrom_32 rfl ?_
  refine q_aload_n dX0_copyFrom_33 rfl ?_
  refine q_getI fl_RX0_40 rfl (by assumption) (congrFun (hc.1 o hne) 6) dX0_copyFrom_34 ?_
  refine q_putI ⟨fl_RX0_40, rfl, rfl⟩ (by assumption) ⟨rfl, rfl⟩ dX0_copyFrom_37 ?_
  have hc := hc.up (j := 6)
  generalize q_up _ a 6 (I o 6) = J4 at hc ⊢
  refine q_aload_n dX0_copyFrom_40 rfl ?_
  refine q_aload_n dX0_copyFrom_41 rfl ?_
  refine q_getI fl_RX0_43 rfl (by assumption) (congrFun (hc.1 o hne) 7) dX0_copyFrom_42 ?_
  refine q_putI ⟨fl_RX0_43, rfl, rfl⟩ (by assumption) ⟨rfl, rfl⟩ dX0_copyFrom_45 ?_
  have hc := hc.up (j := 7)
  generalize q_up _ a 7 (I o 7) = J5 at hc ⊢
  refine q_aload_n dX0_copyFrom_48 rfl ?_
  refine q_aload_n dX0_copyFrom_49 rfl ?_
  refine q_getI fl_RX0_15 rfl (by assumption) (congrFun (hc.1 o hne) 8) dX0_copyFrom_50 ?_
  refine q_putI ⟨fl_RX0_15, rfl, rfl⟩ (by assumption) ⟨rfl, rfl⟩ dX0_copyFrom_53 ?_
  have hc := hc.up (j := 8)
  generalize q_up _ a 8 (I o 8) = J6 at hc ⊢
  refine q_aload_n dX0_copyFrom_56 rfl ?_
  refine q_aload_n dX0_copyFrom_57 rfl ?_
  refine q_getI fl_RX0_46 rfl (by assumption) (congrFun (hc.1 o hne) 9) dX0_copyFrom_58 ?_
  refine q_putI ⟨fl_RX0_46, rfl, rfl⟩ (by assumption) ⟨rfl, rfl⟩ dX0_copyFrom_61 ?_
  have hc := hc.up (j := 9)
  generalize q_up _ a 9 (I o 9) = J7 at hc ⊢
  refine q_aload_n dX0_copyFrom_64 rfl ?_
  refine q_aload_n dX0_copyFrom_65 rfl ?_
  refine q_getI fl_RX0_19 rfl (by assumption) (congrFun (hc.1 o hne) 10) dX0_copyFrom_66 ?_
  refine q_putI ⟨fl_RX0_19, rfl, rfl⟩ (by assumption) ⟨rfl, rfl⟩ dX0_copyFrom_69 ?_
  have hc := hc.up (j := 10)
  generalize q_up _ a 10 (I o 10) = J8 at hc ⊢
  refine q_aload_n dX0_copyFrom_72 rfl ?_
  refine q_aload_n dX0_copyFrom_73 rfl ?_
  refine q_getI fl_RX0_22 rfl (by assumption) (congrFun (hc.1 o hne) 11) dX0_copyFrom_74 ?_
  refine q_putI ⟨fl_RX0_22, rfl, rfl⟩ (by assumption) ⟨rfl, rfl⟩ dX0_copyFrom_77 ?_
  have hc := hc.up (j := 11)
  generalize q_up _ a 11 (I o 11) = J9 at hc ⊢
  refine q_aload_n dX0_copyFrom_80 rfl ?_
  refine q_aload_n dX0_copyFrom_81 rfl ?_
  refine q_getI fl_RX0_49 rfl (by assumption) (congrFun (hc.1 o hne) 12) dX0_copyFrom_82 ?_
  refine q_putI ⟨fl_RX0_49, rfl, rfl⟩ (by assumption) ⟨rfl, rfl⟩ dX0_copyFrom_85 ?_
  have hc := hc.up (j := 12)
  generalize q_up _ a 12 (I o 12) = J10 at hc ⊢
  refine q_aload_n dX0_copyFrom_88 rfl ?_
  refine q_getR fl_RX0_9 rfl (by assumption) dX0_copyFrom_89 ?_
  refine q_iconst (v := nI 0) dX0_copyFrom_92 (by decide) ?_
  refine q_aload_n dX0_copyFrom_93 rfl ?_
  refine q_getR fl_RX0_9 rfl (by assumption) dX0_copyFrom_94 ?_
  refine q_iconst (v := nI 0) dX0_copyFrom_97 (by decide) ?_
  refine q_aload_n dX0_copyFrom_98 rfl ?_
  refine q_getR fl_RX0_9 rfl (by assumption) dX0_copyFrom_99 ?_
  refine q_lenM ho rfl dX0_copyFrom_102 ?_
  refine q_aload_n dX0_copyFrom_103 rfl ?_
  refine q_getR fl_RX0_9 rfl (by assumption) dX0_copyFrom_104 ?_
  refine q_lenM ha rfl dX0_copyFrom_107 ?_
  refine q_mmin lk_RX0_52 (by decide) (Nat.le_of_ble_eq_true rfl) dX0_copyFrom_108 ?_
  rw [ite_self]
  refine q_copy (n := 20) lk_RX0_58 (kC ho).1 (kC ha).1 (by rw [(kC ho).2]; exact Nat.le_refl _) (by rw [(kC ha).2]; exact Nat.le_refl _) (by decide) (by decide) (Nat.le_of_ble_eq_true rfl) dX0_copyFrom_111 (fun J hJ => ?_)
  refine q_vret rfl dX0_copyFrom_114 ⟨rfl, fun j h2 h13 => ?_, ?_, fun j hj => ?_, fun i h1 h2 => ?_⟩
  · rw [hJ, if_neg (fun q => by omega)]
    exact hc.2.1 j (by simp only [List.mem_cons]; omega)
  · rw [hJ, if_neg (fun q => by omega)]
    exact hc.2.2 0 (by simp)
  · rw [hJ, if_pos ⟨rfl, hj⟩]
    exact congrFun (hc.1 (o + 1) hoa) j
  · funext j
    rw [hJ, if_neg (fun q => h2 q.1)]
    exact congrFun (hc.1 i h1) j
