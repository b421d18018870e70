/-! the class's people (Person) -/
theorem c_setWishes {a : Nat} {x y z : Int32} {I : q_Mem} (ha : q_kd a = 2) : q_M kX2_setWishes [.ref a, .int x, .int y, .int z] I (fun v J => v = none ∧ J = q_up (q_up (q_up I a 5 x) a 6 y) a 7 z) := by
  refine q_M.of pnX2_setWishes (by simp [Value.category]) (Nat.le_of_ble_eq_true rfl) ?_
  refine q_aload_n dX2_setWishes_0 rfl ?_
  refine q_iload_n dX2_setWishes_1 rfl ?_
  refine q_putI ⟨fl_RX2_15, rfl, rfl⟩ (by assumption) ⟨rfl, rfl⟩ dX2_setWishes_2 ?_
  refine q_aload_n dX2_setWishes_5 rfl ?_
  refine q_iload_n dX2_setWishes_6 rfl ?_
  refine q_putI ⟨fl_RX2_18, rfl, rfl⟩ (by assumption) ⟨rfl, rfl⟩ dX2_setWishes_7 ?_
  refine q_aload_n dX2_setWishes_10 rfl ?_
  refine q_iload_n dX2_setWishes_11 rfl ?_
  refine q_putI ⟨fl_RX2_21, rfl, rfl⟩ (by assumption) ⟨rfl, rfl⟩ dX2_setWishes_12 ?_
  exact q_vret rfl dX2_setWishes_15 ⟨rfl, rfl⟩
theorem c_forget {a : Nat} {I : q_Mem} (ha : q_kd a = 2) : q_M kX2_forget [.ref a] I (fun v J => v = none ∧ J = q_up (q_up (q_up (q_up (q_up (q_up (q_up I a 1 0) a 2 (-1)) a 3 0) a 4 0) a 5 (-1)) a 6 (-1)) a 7 (-1)) := by
  refine q_M.of pnX2_forget (by simp [Value.category]) (Nat.le_of_ble_eq_true rfl) ?_
  refine q_aload_n dX2_forget_0 rfl ?_
  refine q_iconst (v := nI 0) dX2_forget_1 (by decide) ?_
  refine q_putI ⟨fl_RX2_27, rfl, rfl⟩ (by assumption) ((by decide)) dX2_forget_2 ?_
  refine q_aload_n dX2_forget_5 rfl ?_
  refine q_iconst (v := -1) dX2_forget_6 (by decide) ?_
  refine q_putI ⟨fl_RX2_9, rfl, rfl⟩ (by assumption) ⟨rfl, rfl⟩ dX2_forget_7 ?_
  refine q_aload_n dX2_forget_10 rfl ?_
  refine q_iconst (v := nI 0) dX2_forget_11 (by decide) ?_
  refine q_putI ⟨fl_RX2_31, rfl, rfl⟩ (by assumption) ⟨rfl, rfl⟩ dX2_forget_12 ?_
  refine q_aload_n dX2_forget_15 rfl ?_
  refine q_iconst (v := nI 0) dX2_forget_16 (by decide) ?_
  refine q_putI ⟨fl_RX2_34, rfl, rfl⟩ (by assumption) ⟨rfl, rfl⟩ dX2_forget_17 ?_
  refine q_aload_n dX2_forget_20 rfl ?_
  refine q_iconst (v := -1) dX2_forget_21 (by decide) ?_
  refine q_iconst (v := -1) dX2_forget_22 (by decide) ?_
  refine q_iconst (v := -1) dX2_forget_23 (by decide) ?_
  refine q_cV (as := [_, _, _]) lk_RX2_37 (c_setWishes ha) ⟨2, by decide, by assumption, rfl⟩ rfl (by decide) (Nat.le_of_ble_eq_true rfl) dX2_forget_24 ?_
  rintro v J ⟨rfl, rfl⟩
  exact q_vret rfl dX2_forget_27 ⟨rfl, rfl⟩
theorem c_wishAt {a r : Nat} {I : q_Mem} (ha : q_kd a = 2) (hr : r < 3) : q_M kX2_wishAt [.ref a, .int (nI r)] I (fun v J => v = some (.int (I a (5 + r))) ∧ I = J) := by
  refine q_M.of pnX2_wishAt (by simp [Value.category]) (Nat.le_of_ble_eq_true rfl) ?_
  refine q_iload_n dX2_wishAt_0 rfl ?_
  have hc : r = 0 ∨ r = 1 ∨ r = 2 := by omega
  rcases hc with rfl | rfl | rfl
  · refine q_tabIn (off := 27) (tgt := 28) dX2_wishAt_1 (by decide) (by decide) (by decide) (by decide) ?_
    refine q_aload_n dX2_wishAt_28 rfl ?_
    refine q_getI fl_RX2_15 rfl (by assumption) rfl dX2_wishAt_29 ?_
    exact q_iret rfl rfl dX2_wishAt_32 ⟨rfl, rfl⟩
  · refine q_tabIn (off := 32) (tgt := 33) dX2_wishAt_1 (by decide) (by decide) (by decide) (by decide) ?_
    refine q_aload_n dX2_wishAt_33 rfl ?_
    refine q_getI fl_RX2_18 rfl (by assumption) rfl dX2_wishAt_34 ?_
    exact q_iret rfl rfl dX2_wishAt_37 ⟨rfl, rfl⟩
  · refine q_tabIn (off := 37) (tgt := 38) dX2_wishAt_1 (by decide) (by decide) (by decide) (by decide) ?_
    refine q_aload_n dX2_wishAt_38 rfl ?_
    refine q_getI fl_RX2_21 rfl (by assumption) rfl dX2_wishAt_39 ?_
    exact q_iret rfl rfl dX2_wishAt_42 ⟨rfl, rfl⟩
/-- the rank of a class among three wishes -/
def rkI (w x y z : Int32) : Nat := if w = x then 0 else if w = y then 1 else if w = z then 2 else 3
theorem rkI_lt {w x y z : Int32} : rkI w x y z < 4 := by unfold rkI; split <;> (try split) <;> (try split) <;> omega
theorem c_rankOf {a : Nat} {w : Int32} {I : q_Mem} (ha : q_kd a = 2) : q_M kX2_rankOf [.ref a, .int w] I (fun v J => v = some (.int (nI (rkI w (I a 5) (I a 6) (I a 7)))) ∧ I = J) := by
  refine q_M.of pnX2_rankOf (by simp [Value.category]) (Nat.le_of_ble_eq_true rfl) ?_
  refine q_iload_n dX2_rankOf_0 rfl ?_
  refine q_aload_n dX2_rankOf_1 rfl ?_
  refine q_getI fl_RX2_15 rfl (by assumption) rfl dX2_rankOf_2 ?_
  refine q_icmp_ne (tgt := 10) dX2_rankOf_5 (by decide) (fun h => ?_) (fun h => ?_)
  · refine q_iload_n dX2_rankOf_10 rfl ?_
    refine q_aload_n dX2_rankOf_11 rfl ?_
    refine q_getI fl_RX2_18 rfl (by assumption) rfl dX2_rankOf_12 ?_
    refine q_icmp_ne (tgt := 20) dX2_rankOf_15 (by decide) (fun h2 => ?_) (fun h2 => ?_)
    · refine q_iload_n dX2_rankOf_20 rfl ?_
      refine q_aload_n dX2_rankOf_21 rfl ?_
      refine q_getI fl_RX2_21 rfl (by assumption) rfl dX2_rankOf_22 ?_
      refine q_icmp_ne (tgt := 32) dX2_rankOf_25 (by decide) (fun h3 => ?_) (fun h3 => ?_)
      · refine q_iconst (v := nI 3) dX2_rankOf_32 (by decide) ?_
        exact q_iret rfl rfl dX2_rankOf_33 ⟨by rw [rkI, if_neg h, if_neg h2, if_neg h3], rfl⟩
      · refine q_iconst (v := nI 2) dX2_rankOf_28 (by decide) ?_
        refine q_goto (tgt := 33) dX2_rankOf_29 (by decide) ?_
        exact q_iret rfl rfl dX2_rankOf_33 ⟨by rw [rkI, if_neg h, if_neg h2, if_pos h3], rfl⟩
    · refine q_iconst (v := nI 1) dX2_rankOf_18 (by decide) ?_
      exact q_iret rfl rfl dX2_rankOf_19 ⟨by rw [rkI, if_neg h, if_pos h2], rfl⟩
  · refine q_iconst (v := nI 0) dX2_rankOf_8 (by decide) ?_
    exact q_iret rfl rfl dX2_rankOf_9 ⟨by rw [rkI, if_pos h], rfl⟩
/-- the rank of what a person has -/
def rhI (w x y z : Int32) : Nat := if w = -1 then 4 else rkI w x y z
theorem rhI_lt {w x y z : Int32} : rhI w x y z < 5 := by
  unfold rhI
  have := @rkI_lt w x y z
  split <;> omega
theorem c_rankHeld {a : Nat} {I : q_Mem} (ha : q_kd a = 2) : q_M kX2_rankHeld [.ref a] I (fun v J => v = some (.int (nI (rhI (I a 2) (I a 5) (I a 6) (I a 7)))) ∧ I = J) := by
  refine q_M.of pnX2_rankHeld (by simp [Value.category]) (Nat.le_of_ble_eq_true rfl) ?_
  refine q_aload_n dX2_rankHeld_0 rfl ?_
  refine q_getI fl_RX2_9 rfl (by assumption) rfl dX2_rankHeld_1 ?_
  refine q_iconst (v := -1) dX2_rankHeld_4 (by decide) ?_
  refine q_icmp_ne (tgt := 12) dX2_rankHeld_5 (by decide) (fun h => ?_) (fun h => ?_)
  · refine q_aload_n dX2_rankHeld_12 rfl ?_
    refine q_aload_n dX2_rankHeld_13 rfl ?_
    refine q_getI fl_RX2_9 rfl (by assumption) rfl dX2_rankHeld_14 ?_
    refine q_cV (as := [_]) lk_RX2_41 (c_rankOf ha) ⟨2, by decide, by assumption, rfl⟩ rfl (by decide) (Nat.le_of_ble_eq_true rfl) dX2_rankHeld_17 ?_
    rintro v J ⟨rfl, rfl⟩
    exact q_iret rfl rfl dX2_rankHeld_20 ⟨by rw [rhI, if_neg h], rfl⟩
  · refine q_iconst (v := nI 4) dX2_rankHeld_8 (by decide) ?_
    refine q_goto (tgt := 20) dX2_rankHeld_9 (by decide) ?_
    exact q_iret rfl rfl dX2_rankHeld_20 ⟨by rw [rhI, if_pos h], rfl⟩
theorem c_waitsFor {a : Nat} {w : Int32} {I : q_Mem} (ha : q_kd a = 2) : q_M kX2_waitsFor [.ref a, .int w] I (fun v J => v = some (.int (if ¬ I a 1 = 0 ∧ rkI w (I a 5) (I a 6) (I a 7) < 3 ∧ rkI w (I a 5) (I a 6) (I a 7) < rhI (I a 2) (I a 5) (I a 6) (I a 7) then 1 else 0)) ∧ I = J) := by
  have h1 := @rkI_lt w (I a 5) (I a 6) (I a 7)
  have h2 := @rhI_lt (I a 2) (I a 5) (I a 6) (I a 7)
  refine q_M.of pnX2_waitsFor (by simp [Value.category]) (Nat.le_of_ble_eq_true rfl) ?_
  refine q_aload_n dX2_waitsFor_0 rfl ?_
  refine q_iload_n dX2_waitsFor_1 rfl ?_
  refine q_cV (as := [_]) lk_RX2_41 (c_rankOf ha) ⟨2, by decide, by assumption, rfl⟩ rfl (by decide) (Nat.le_of_ble_eq_true rfl) dX2_waitsFor_2 ?_
  rintro v J ⟨rfl, rfl⟩
  refine q_istore_n (ls' := [_, _, _]) dX2_waitsFor_5 (Nat.le_of_ble_eq_true rfl) rfl ?_
  refine q_aload_n dX2_waitsFor_6 rfl ?_
  refine q_getI fl_RX2_27 rfl (by assumption) rfl dX2_waitsFor_7 ?_
  refine q_if_eq (tgt := 30) dX2_waitsFor_10 (by decide) (fun h => ?_) (fun h => ?_)
  · refine q_iconst (v := nI 0) dX2_waitsFor_30 (by decide) ?_
    exact q_iret rfl rfl dX2_waitsFor_31 ⟨by rw [if_neg (fun q => q.1 h)]; rfl, rfl⟩
  refine q_iload_n dX2_waitsFor_13 rfl ?_
  refine q_iconst (v := nI 3) dX2_waitsFor_14 (by decide) ?_
  refine q_icmp_geN (tgt := 30) (by omega) (by omega) dX2_waitsFor_15 (by decide) (fun h3 => ?_) (fun h3 => ?_)
  · refine q_iconst (v := nI 0) dX2_waitsFor_30 (by decide) ?_
    exact q_iret rfl rfl dX2_waitsFor_31 ⟨by rw [if_neg (fun q => by omega)]; rfl, rfl⟩
  refine q_iload_n dX2_waitsFor_18 rfl ?_
  refine q_aload_n dX2_waitsFor_19 rfl ?_
  refine q_cV (as := []) lk_RX2_45 (c_rankHeld ha) ⟨2, by decide, by assumption, rfl⟩ rfl (by decide) (Nat.le_of_ble_eq_true rfl) dX2_waitsFor_20 ?_
  rintro v J ⟨rfl, rfl⟩
  refine q_icmp_geN (tgt := 30) (by omega) (by omega) dX2_waitsFor_23 (by decide) (fun h4 => ?_) (fun h4 => ?_)
  · refine q_iconst (v := nI 0) dX2_waitsFor_30 (by decide) ?_
    exact q_iret rfl rfl dX2_waitsFor_31 ⟨by rw [if_neg (fun q => by omega)]; rfl, rfl⟩
  · refine q_iconst (v := nI 1) dX2_waitsFor_26 (by decide) ?_
    refine q_goto (tgt := 31) dX2_waitsFor_27 (by decide) ?_
    exact q_iret rfl rfl dX2_waitsFor_31 ⟨by rw [if_pos ⟨h, h3, h4⟩]; rfl, rfl⟩
theorem bool_ok {x : Int32} (h : x = 0 ∨ x = 1) : narrow .boolean (.int x) = .int x ∧ fits .boolean (.int x) = true := by
  rcases h with rfl | rfl <;> decide
theorem c_copyP {a o : Nat} {I : q_Mem} (ha : q_kd a = 2) (ho : q_kd o = 2) (hne : ¬ o = a) (hb : I o 1 = 0 ∨ I o 1 = 1) : q_M kX2_copyFrom [.ref a, .ref o] I (fun v J => v = none ∧ (∀ j, 1 ≤ j → j < 8 → J a j = I o j) ∧ J a 0 = I a 0 ∧ ∀ i, ¬ i = a → J i = I i) := by
  refine q_M.of pnX2_copyFrom (by simp [Value.category]) (Nat.le_of_ble_eq_true rfl) ?_
  have hc : cpd a o I I [] := cpd.nil
  refine q_aload_n dX2_copyFrom_0 rfl ?_
  refine q_aload_n dX2_copyFrom_1 rfl ?_
  refine q_getI fl_RX2_27 rfl (by assumption) (congrFun (hc.1 o hne) 1) dX2_copyFrom_2 ?_
  refine q_putI ⟨fl_RX2_27, rfl, rfl⟩ (by assumption) (bool_ok hb) dX2_copyFrom_5 ?_
  have hc := hc.up (j := 1)
  generalize q_up _ a 1 (I o 1) = J0 at hc ⊢
  refine q_aload_n dX2_copyFrom_8 rfl ?_
  refine q_aload_n dX2_copyFrom_9 rfl ?_
  refine q_getI fl_RX2_9 rfl (by assumption) (congrFun (hc.1 o hne) 2) dX2_copyFrom_10 ?_
  refine q_putI ⟨fl_RX2_9, rfl, rfl⟩ (by assumption) ⟨rfl, rfl⟩ dX2_copyFrom_13 ?_
  have hc := hc.up (j := 2)
  generalize q_up _ a 2 (I o 2) = J1 at hc ⊢
  refine q_aload_n dX2_copyFrom_16 rfl ?_
  refine q_aload_n dX2_copyFrom_17 rfl ?_
  refine q_getI fl_RX2_31 rfl (by assumption) (congrFun (hc.1 o hne) 3) dX2_copyFrom_18 ?_
  refine q_putI ⟨fl_RX2_31, rfl, rfl⟩ (by assumption) ⟨rfl, rfl⟩ dX2_copyFrom_21 ?_
  have hc := hc.up (j := 3)
  generalize q_up _ a 3 (I o 3) = J2 at hc ⊢
  refine q_aload_n dX2_copyFrom_24 rfl ?_
  refine q_aload_n dX2_copyFrom_25 rfl ?_
  refine q_getI fl_RX2_34 rfl (by assumption) (congrFun (hc.1 o hne) 4) dX2_copyFrom_26 ?_
  refine q_putI ⟨fl_RX2_34, rfl, rfl⟩ (by assumption) ⟨rfl, rfl⟩ dX2_copyFrom_29 ?_
  have hc := hc.up (j := 4)
  generalize q_up _ a 4 (I o 4) = J3 at hc ⊢
  refine q_aload_n dX2_copyFrom_32 rfl ?_
  refine q_aload_n dX2_copyFrom_33 rfl ?_
  refine q_getI fl_RX2_15 rfl (by assumption) (congrFun (hc.1 o hne) 5) dX2_copyFrom_34 ?_
  refine q_putI ⟨fl_RX2_15, rfl, rfl⟩ (by assumption) ⟨rfl, rfl⟩ dX2_copyFrom_37 ?_
  have hc := hc.up (j := 5)
  generalize q_up _ a 5 (I o 5) = J4 at hc ⊢
  refine q_aload_n dX2_copyFrom_40 rfl ?_
  refine q_aload_n dX2_copyFrom_41 rfl ?_
  refine q_getI fl_RX2_18 rfl (by assumption) (congrFun (hc.1 o hne) 6) dX2_copyFrom_42 ?_
  refine q_putI ⟨fl_RX2_18, rfl, rfl⟩ (by assumption) ⟨rfl, rfl⟩ dX2_copyFrom_45 ?_
  have hc := hc.up (j := 6)
  generalize q_up _ a 6 (I o 6) = J5 at hc ⊢
  refine q_aload_n dX2_copyFrom_48 rfl ?_
  refine q_aload_n dX2_copyFrom_49 rfl ?_
  refine q_getI fl_RX2_21 rfl (by assumption) (congrFun (hc.1 o hne) 7) dX2_copyFrom_50 ?_
  refine q_putI ⟨fl_RX2_21, rfl, rfl⟩ (by assumption) ⟨rfl, rfl⟩ dX2_copyFrom_53 ?_
  have hc := hc.up (j := 7)
  generalize q_up _ a 7 (I o 7) = J6 at hc ⊢
  refine q_vret rfl dX2_copyFrom_56 ⟨rfl, fun j h2 h13 => hc.2.1 j (by simp only [List.mem_cons]; omega), hc.2.2 0 (by simp), fun i h1 => hc.1 i h1⟩
