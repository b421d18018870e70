/-! the class's classes (Course): what takes loops and calls -/
theorem c_canTake {a d na nd lx ly sa sd na2 nd2 m : Nat} {I : q_Mem} (ha : q_kd a = 0) (hd : q_kd d = 0) (h0 : I a 0 = nI na) (h1 : I d 0 = nI nd) (hs0 : I a 2 = nI sa) (hs1 : I d 2 = nI sd) (hx : I a 3 = nI lx) (hy : I d 3 = nI ly) (hm0 : I a 12 = nI na2) (hm1 : I d 12 = nI nd2) (hm : I a 6 = nI m)
    (b0 : na < 2 ^ 30) (b1 : nd < 2 ^ 30) (b2 : sa < 2 ^ 30) (b3 : sd < 2 ^ 30) (b4 : lx < 2 ^ 30) (b5 : ly < 2 ^ 30) (b6 : na2 < 2 ^ 30) (b7 : nd2 < 2 ^ 30) (b8 : m < 2 ^ 30) :
    q_M kX0_canTake [.ref a, .ref d] I (fun v J => v = some (.int (if I a 8 = 0 ∧ ¬ na = nd ∧ sa = sd ∧ (if lx > ly then lx - ly else ly - lx) ≤ 1 ∧ na2 + nd2 ≤ m then 1 else 0)) ∧ I = J) := by
  refine q_M.of pnX0_canTake (by simp [Value.category]) (Nat.le_of_ble_eq_true rfl) ?_
  refine q_aload_n dX0_canTake_0 rfl ?_
  refine q_getI fl_RX0_15 rfl (by assumption) rfl dX0_canTake_1 ?_
  refine q_if_ne (tgt := 58) dX0_canTake_4 (by decide) (fun h => ?_) (fun h => ?_)
  · refine q_iconst (v := nI 0) dX0_canTake_58 (by decide) ?_
    exact q_iret rfl rfl dX0_canTake_59 ⟨by rw [if_neg (fun q => h q.1)]; rfl, rfl⟩
  refine q_aload_n dX0_canTake_7 rfl ?_
  refine q_getI fl_RX0_25 rfl (by assumption) h0 dX0_canTake_8 ?_
  refine q_aload_n dX0_canTake_11 rfl ?_
  refine q_getI fl_RX0_25 rfl (by assumption) h1 dX0_canTake_12 ?_
  refine q_icmp_eqN (tgt := 58) (by omega) (by omega) dX0_canTake_15 (by decide) (fun h2 => ?_) (fun h2 => ?_)
  · refine q_iconst (v := nI 0) dX0_canTake_58 (by decide) ?_
    exact q_iret rfl rfl dX0_canTake_59 ⟨by rw [if_neg (fun q => q.2.1 h2)]; rfl, rfl⟩
  refine q_aload_n dX0_canTake_18 rfl ?_
  refine q_getI fl_RX0_28 rfl (by assumption) hs0 dX0_canTake_19 ?_
  refine q_aload_n dX0_canTake_22 rfl ?_
  refine q_getI fl_RX0_28 rfl (by assumption) hs1 dX0_canTake_23 ?_
  refine q_icmp_neN (tgt := 58) (by omega) (by omega) dX0_canTake_26 (by decide) (fun h3 => ?_) (fun h3 => ?_)
  · refine q_iconst (v := nI 0) dX0_canTake_58 (by decide) ?_
    exact q_iret rfl rfl dX0_canTake_59 ⟨by rw [if_neg (fun q => h3 q.2.2.1)]; rfl, rfl⟩
  refine q_aload_n dX0_canTake_29 rfl ?_
  refine q_aload_n dX0_canTake_30 rfl ?_
  refine q_cV (as := [_]) lk_RX0_67 (c_levels ha hd hx hy b4 b5) ⟨0, by decide, by assumption, rfl⟩ rfl (by decide) (Nat.le_of_ble_eq_true rfl) dX0_canTake_31 ?_
  rintro v J ⟨rfl, rfl⟩
  refine q_iconst (v := nI 1) dX0_canTake_34 (by decide) ?_
  have hb : (if lx > ly then lx - ly else ly - lx) < 2 ^ 31 := by split <;> omega
  refine q_icmp_gtN (tgt := 58) hb (by omega) dX0_canTake_35 (by decide) (fun h4 => ?_) (fun h4 => ?_)
  · refine q_iconst (v := nI 0) dX0_canTake_58 (by decide) ?_
    exact q_iret rfl rfl dX0_canTake_59 ⟨by rw [if_neg (fun q => absurd q.2.2.2.1 (by omega))]; rfl, rfl⟩
  refine q_aload_n dX0_canTake_38 rfl ?_
  refine q_getI fl_RX0_49 rfl (by assumption) hm0 dX0_canTake_39 ?_
  refine q_aload_n dX0_canTake_42 rfl ?_
  refine q_getI fl_RX0_49 rfl (by assumption) hm1 dX0_canTake_43 ?_
  refine q_iadd dX0_canTake_46 ?_
  rw [nI_add]
  refine q_aload_n dX0_canTake_47 rfl ?_
  refine q_getI fl_RX0_40 rfl (by assumption) hm dX0_canTake_48 ?_
  refine q_icmp_gtN (tgt := 58) (by omega) (by omega) dX0_canTake_51 (by decide) (fun h5 => ?_) (fun h5 => ?_)
  · refine q_iconst (v := nI 0) dX0_canTake_58 (by decide) ?_
    exact q_iret rfl rfl dX0_canTake_59 ⟨by rw [if_neg (fun q => by omega)]; rfl, rfl⟩
  refine q_iconst (v := nI 1) dX0_canTake_54 (by decide) ?_
  refine q_goto (tgt := 59) dX0_canTake_55 (by decide) ?_
  exact q_iret rfl rfl dX0_canTake_59 ⟨by rw [if_pos ⟨h, h2, h3, h4, h5⟩]; rfl, rfl⟩
/-- the members without one: how far the loop is -/
def rmd (a x n : Nat) (l : List Nat) (I J : q_Mem) (i k : Nat) : Prop := (∀ i j, ¬ i = a + 1 → J i j = I i j) ∧ ((l.take i).filter (· != x)).length = k ∧ (∀ r v, ((l.take i).filter (· != x))[r]? = some v → J (a + 1) r = nI v) ∧ ∀ r, i ≤ r → J (a + 1) r = I (a + 1) r
theorem q_pc {k : q_MI} {pc pc' : Nat} {ls : List (Option Value)} {st : List Value} {I : q_Mem} {Q : Option Value → q_Mem → Prop} (h : pc = pc') (hx : q_X k pc' ls st I Q) : q_X k pc ls st I Q := h ▸ hx
theorem c_remove {a x : Nat} {l : List Nat} {I : q_Mem} (ha : q_kd a = 0) (hs : I a 12 = nI l.length) (hm : ∀ r v, l[r]? = some v → I (a + 1) r = nI v) (hl : l.length ≤ 20) (hb : ∀ v ∈ l, v < 2 ^ 31) (hx : x < 2 ^ 31) :
    q_M kX0_remove [.ref a, .int (nI x)] I (fun v J => v = none ∧ J a 12 = nI (l.filter (· != x)).length ∧ (∀ r v, (l.filter (· != x))[r]? = some v → J (a + 1) r = nI v) ∧ ∀ i j, ¬ i = a + 1 → ¬ (i = a ∧ j = 12) → J i j = I i j) := by
  have key : ∀ (d i k : Nat) (J : q_Mem), i + d = l.length → rmd a x l.length l I J i k → q_X kX0_remove 4 [some (.ref a), some (.int (nI x)), some (.int (nI k)), some (.int (nI i))] [] J (fun v J => v = none ∧ J a 12 = nI (l.filter (· != x)).length ∧ (∀ r v, (l.filter (· != x))[r]? = some v → J (a + 1) r = nI v) ∧ ∀ i j, ¬ i = a + 1 → ¬ (i = a ∧ j = 12) → J i j = I i j) := by
    intro d
    induction d with
    | zero =>
      intro i k J hd hr
      obtain ⟨r1, r2, r3, r4⟩ := hr
      have hz : J a 12 = nI l.length := (r1 a 12 (by omega)).trans hs
      refine q_iload_n dX0_remove_4 rfl ?_
      refine q_aload_n dX0_remove_5 rfl ?_
      refine q_getI fl_RX0_49 rfl (by assumption) hz dX0_remove_6 ?_
      refine q_icmp_geN (tgt := 61) (by omega) (by omega) dX0_remove_9 (by decide) (fun h => ?_) (fun h => ?_)
      · rw [show i = l.length by omega, List.take_length] at r2 r3
        refine q_aload_n dX0_remove_61 rfl ?_
        refine q_iload_n dX0_remove_62 rfl ?_
        refine q_putI ⟨fl_RX0_49, rfl, rfl⟩ (by assumption) ⟨rfl, rfl⟩ dX0_remove_63 ?_
        refine q_vret rfl dX0_remove_66 ⟨rfl, by rw [q_up_s, r2], fun r v h => ?_, fun i j h1 h2 => ?_⟩
        · rw [q_up_n (by omega)]; exact r3 r v h
        · rw [q_up_n h2]; exact r1 i j h1
      · omega
    | succ d ih =>
      intro i k J hd hr
      obtain ⟨r1, r2, r3, r4⟩ := hr
      have hz : J a 12 = nI l.length := (r1 a 12 (by omega)).trans hs
      have hil : i < l.length := by omega
      have hki : k ≤ i := by
        rw [← r2]
        exact Nat.le_trans (List.length_filter_le _ _) (by rw [List.length_take]; omega)
      obtain ⟨w, hw⟩ : ∃ w, l[i]? = some w := ⟨_, List.getElem?_eq_getElem hil⟩
      have hwv : J (a + 1) i = nI w := (r4 i (Nat.le_refl i)).trans (hm i w hw)
      have hwb : w < 2 ^ 31 := hb w (List.mem_of_getElem? hw)
      have htk : (l.take (i + 1)).filter (· != x) = (l.take i).filter (· != x) ++ (if w = x then [] else [w]) := by
        rw [List.take_add_one, hw, Option.toList_some, List.filter_append]
        by_cases e : w = x
        · subst e; simp
        · simp [e]
      refine q_iload_n dX0_remove_4 rfl ?_
      refine q_aload_n dX0_remove_5 rfl ?_
      refine q_getI fl_RX0_49 rfl (by assumption) hz dX0_remove_6 ?_
      refine q_icmp_geN (tgt := 61) (by omega) (by omega) dX0_remove_9 (by decide) (fun h => ?_) (fun h => ?_)
      · omega
      refine q_iload_n dX0_remove_12 rfl ?_
      refine q_aload_n dX0_remove_13 rfl ?_
      refine q_getR fl_RX0_9 rfl (by assumption) dX0_remove_14 ?_
      refine q_lenM ha rfl dX0_remove_17 ?_
      refine q_icmp_geN (tgt := 61) (by omega) (by omega) dX0_remove_18 (by decide) (fun h => ?_) (fun h => ?_)
      · omega
      refine q_aload_n dX0_remove_21 rfl ?_
      refine q_getR fl_RX0_9 rfl (by assumption) dX0_remove_22 ?_
      refine q_iload_n dX0_remove_25 rfl ?_
      refine q_ialdM ha rfl (i := i) (by omega) hwv dX0_remove_26 ?_
      refine q_iload_n dX0_remove_27 rfl ?_
      refine q_icmp_eqN (tgt := 55) hwb hx dX0_remove_28 (by decide) (fun h => ?_) (fun h => ?_)
      · refine q_iinc (ls' := [_, _, _, _]) dX0_remove_55 rfl (nI_add _ 1) rfl ?_
        refine q_goto (tgt := 4) dX0_remove_58 (by decide) ?_
        refine ih (i + 1) k J (by omega) ⟨r1, by rw [htk, if_pos h, List.append_nil]; exact r2, by rw [htk, if_pos h, List.append_nil]; exact r3, fun r hr => r4 r (by omega)⟩
      · refine q_iload_n dX0_remove_31 rfl ?_
        refine q_aload_n dX0_remove_32 rfl ?_
        refine q_getR fl_RX0_9 rfl (by assumption) dX0_remove_33 ?_
        refine q_lenM ha rfl dX0_remove_36 ?_
        refine q_icmp_geN (tgt := 55) (by omega) (by omega) dX0_remove_37 (by decide) (fun h5 => ?_) (fun h5 => ?_)
        · omega
        refine q_aload_n dX0_remove_40 rfl ?_
        refine q_getR fl_RX0_9 rfl (by assumption) dX0_remove_41 ?_
        refine q_iload_n dX0_remove_44 rfl ?_
        refine q_aload_n dX0_remove_45 rfl ?_
        refine q_getR fl_RX0_9 rfl (by assumption) dX0_remove_46 ?_
        refine q_iload_n dX0_remove_49 rfl ?_
        refine q_ialdM ha rfl (i := i) (by omega) hwv dX0_remove_50 ?_
        refine q_iastM ha rfl (i := k) (by omega) dX0_remove_51 ?_
        refine q_iinc (ls' := [_, _, _, _]) dX0_remove_52 rfl (nI_add _ 1) rfl ?_
        refine q_iinc (ls' := [_, _, _, _]) dX0_remove_55 rfl (nI_add _ 1) rfl ?_
        refine q_goto (tgt := 4) dX0_remove_58 (by decide) ?_
        refine ih (i + 1) (k + 1) _ (by omega) ⟨fun i j h1 => by rw [q_up_n (by omega)]; exact r1 i j h1, by rw [htk, if_neg h, List.length_append, r2]; rfl, fun r v hv => ?_, fun r hr => by rw [q_up_n (by omega)]; exact r4 r (by omega)⟩
        rw [htk, if_neg h] at hv
        by_cases e : r = k
        · subst e
          rw [← r2, List.getElem?_append_right (Nat.le_refl _), Nat.sub_self] at hv
          cases hv
          exact q_up_s
        · rw [q_up_n (fun q => e q.2)]
          refine r3 r v ?_
          rcases Nat.lt_or_ge r k with q | q
          · rwa [List.getElem?_append_left (by rw [r2]; exact q)] at hv
          · rw [List.getElem?_append_right (by rw [r2]; exact q), r2, List.getElem?_eq_none (by simp; omega)] at hv
            cases hv
  refine q_M.of pnX0_remove (by simp [Value.category]) (Nat.le_of_ble_eq_true rfl) ?_
  refine q_iconst (v := nI 0) dX0_remove_0 (by decide) ?_
  refine q_istore_n (ls' := [_, _, _, _]) dX0_remove_1 (Nat.le_of_ble_eq_true rfl) rfl ?_
  refine q_iconst (v := nI 0) dX0_remove_2 (by decide) ?_
  refine q_istore_n (ls' := [_, _, _, _]) dX0_remove_3 (Nat.le_of_ble_eq_true rfl) rfl ?_
  exact key l.length 0 0 I (by omega) ⟨fun _ _ _ => rfl, rfl, fun r v h => by simp at h, fun _ _ => rfl⟩
