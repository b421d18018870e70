/-! the class's history -/
theorem k0 : q_kd 0 = 5 := by decide
theorem k1 : q_kd 1 = 3 := by decide
theorem k51 : q_kd 51 = 3 := by decide
theorem k101 : q_kd 101 = 1 := by decide
theorem k102 : q_kd 102 = 14 := by decide
theorem k353 : q_kd 353 = 4 := by decide
theorem kring : ∀ n, n < 5 → q_kd (103 + 50 * n) = 3 := by decide
theorem q_lenS {k : q_MI} {pc : Nat} {ls : List (Option Value)} {st : List Value} {I : q_Mem} {Q : Option Value → q_Mem → Prop} {v : Int32} (hv : nI 5 = v) (hd : decode k.2.1 pc = .ok (.arraylength, 1)) (kk : q_X k (pc + 1) ls (.int v :: st) I Q) : q_X k pc ls (.ref 102 :: st) I Q :=
  q_alen k102 (by omega) (by omega) hv hd kk
theorem c_note {n : Nat} {I : q_Mem} {σ τ : q_S} (hn : n < 5) (hI : I 101 1 = nI n) (h : RC 1 I σ) (h0 : RC (103 + 50 * n) I τ) (hw : WFc σ) (hG : sG σ 1 ≤ 1) : q_M kX1_note [.ref 101, .ref 1] I (fun v J => v = none ∧ RC (103 + 50 * n) J σ ∧ FC (103 + 50 * n) I J) := by
  have k101 := k101
  refine q_M.of pnX1_note (by simp [Value.category]) (Nat.le_of_ble_eq_true rfl) ?_
  refine q_aload_n dX1_note_0 rfl ?_
  refine q_getI fl_RX1_18 rfl (by assumption) hI dX1_note_1 ?_
  refine q_if_ltN (tgt := 44) (by omega) dX1_note_4 (by decide) (fun q => ?_) (fun q => ?_)
  · omega
  refine q_aload_n dX1_note_7 rfl ?_
  refine q_getI fl_RX1_18 rfl (by assumption) hI dX1_note_8 ?_
  refine q_aload_n dX1_note_11 rfl ?_
  refine q_getR fl_RX1_11 rfl (by assumption) dX1_note_12 ?_
  refine q_lenS rfl dX1_note_15 ?_
  refine q_icmp_geN (tgt := 44) (by omega) (by omega) dX1_note_16 (by decide) (fun q => ?_) (fun q => ?_)
  · omega
  refine q_aload_n dX1_note_19 rfl ?_
  refine q_getR fl_RX1_11 rfl (by assumption) dX1_note_20 ?_
  refine q_aload_n dX1_note_23 rfl ?_
  refine q_getI fl_RX1_18 rfl (by assumption) hI dX1_note_24 ?_
  refine q_aaldS rfl hn dX1_note_27 ?_
  refine q_ifnull dX1_note_28 ?_
  refine q_aload_n dX1_note_31 rfl ?_
  refine q_getR fl_RX1_11 rfl (by assumption) dX1_note_32 ?_
  refine q_aload_n dX1_note_35 rfl ?_
  refine q_getI fl_RX1_18 rfl (by assumption) hI dX1_note_36 ?_
  refine q_aaldS rfl hn dX1_note_39 ?_
  refine q_aload_n dX1_note_40 rfl ?_
  refine q_cV (as := [_]) lk_RX1_22 (c_copyS (kring n hn) k1 (by omega) h0 h hG (fun p _ => (hw.pr p).1) hw.len) ⟨3, by decide, kring n hn, rfl⟩ rfl (by decide) (Nat.le_of_ble_eq_true rfl) dX1_note_41 ?_
  rintro v J ⟨rfl, h1, h2⟩
  exact q_vret rfl dX1_note_44 ⟨rfl, h1, h2⟩
theorem c_keep {n s : Nat} {x : Int32} {I : q_Mem} (hn : n < 5) (hs : s ≤ 4) (hI : I 101 1 = nI n) (hS : I 101 2 = nI s) : q_M kX1_keep [.ref 101, .int x] I (fun v J => v = some (.int x) ∧ J = if x < 0 then I else q_up (q_up I 101 1 (nI ((n + 1) % 5))) 101 2 (nI (min (s + 1) 4))) := by
  have k101 := k101
  refine q_M.of pnX1_keep (by simp [Value.category]) (Nat.le_of_ble_eq_true rfl) ?_
  refine q_iload_n dX1_keep_0 rfl ?_
  refine q_if_lt (tgt := 46) dX1_keep_1 (by decide) (fun q => ?_) (fun q => ?_)
  · refine q_iload_n dX1_keep_46 rfl ?_
    exact q_iret rfl rfl dX1_keep_47 ⟨rfl, (if_pos q).symm⟩
  refine q_aload_n dX1_keep_4 rfl ?_
  refine q_aload_n dX1_keep_5 rfl ?_
  refine q_getI fl_RX1_18 rfl (by assumption) hI dX1_keep_6 ?_
  refine q_iconst (v := nI 1) dX1_keep_9 (by decide) ?_
  refine q_iadd dX1_keep_10 ?_
  rw [nI_add]
  refine q_aload_n dX1_keep_11 rfl ?_
  refine q_getR fl_RX1_11 rfl (by assumption) dX1_keep_12 ?_
  refine q_lenS rfl dX1_keep_15 ?_
  have e : ∀ o, q_X kX1_keep 29 o [.int (nI ((n + 1) % 5)), .ref 101] I (fun v J => v = some (.int x) ∧ J = if x < 0 then I else q_up (q_up I 101 1 (nI ((n + 1) % 5))) 101 2 (nI (min (s + 1) 4))) → True := fun _ _ => trivial
  have fin : q_X kX1_keep 29 [some (.ref 101), some (.int x)] [.int (nI ((n + 1) % 5)), .ref 101] I (fun v J => v = some (.int x) ∧ J = if x < 0 then I else q_up (q_up I 101 1 (nI ((n + 1) % 5))) 101 2 (nI (min (s + 1) 4))) := by
    refine q_putI ⟨fl_RX1_18, rfl, rfl⟩ (by assumption) ⟨rfl, rfl⟩ dX1_keep_29 ?_
    refine q_aload_n dX1_keep_32 rfl ?_
    refine q_aload_n dX1_keep_33 rfl ?_
    refine q_getI fl_RX1_26 rfl (by assumption) ((q_up_n (by omega)).trans hS) dX1_keep_34 ?_
    refine q_iconst (v := nI 1) dX1_keep_37 (by decide) ?_
    refine q_iadd dX1_keep_38 ?_
    rw [nI_add]
    refine q_iconst (v := nI 4) dX1_keep_39 (by decide) ?_
    refine q_mmin lk_RX1_29 (by decide) (Nat.le_of_ble_eq_true rfl) dX1_keep_40 ?_
    have hm : (if nI 4 < nI (s + 1) then nI 4 else nI (s + 1)) = nI (min (s + 1) 4) := by
      by_cases z : s = 4
      · subst z; rfl
      · rw [if_neg (fun y => by have := (nI_ltI (by omega) (by omega)).mp y; omega)]
        congr 1; omega
    rw [hm]
    refine q_putI ⟨fl_RX1_26, rfl, rfl⟩ (by assumption) ⟨rfl, rfl⟩ dX1_keep_43 ?_
    refine q_iload_n dX1_keep_46 rfl ?_
    exact q_iret rfl rfl dX1_keep_47 ⟨rfl, (if_neg q).symm⟩
  refine q_icmp_geN (tgt := 28) (by omega) (by omega) dX1_keep_16 (by decide) (fun q2 => ?_) (fun q2 => ?_)
  · refine q_iconst (v := nI 0) dX1_keep_28 (by decide) ?_
    rw [show nI 0 = nI ((n + 1) % 5) by congr 1; omega]
    exact fin
  · refine q_aload_n dX1_keep_19 rfl ?_
    refine q_getI fl_RX1_18 rfl (by assumption) hI dX1_keep_20 ?_
    refine q_iconst (v := nI 1) dX1_keep_23 (by decide) ?_
    refine q_iadd dX1_keep_24 ?_
    rw [nI_add]
    refine q_goto (tgt := 29) dX1_keep_25 (by decide) ?_
    rw [show nI (n + 1) = nI ((n + 1) % 5) by congr 1; omega]
    exact fin
theorem c_restore {n s : Nat} {I : q_Mem} {σ τ : q_S} (hn : n < 5) (hs : s ≤ 4) (hI : I 101 1 = nI n) (hS : I 101 2 = nI s) (h0 : RC 1 I τ) (h : 0 < s → RC (103 + 50 * ((n + 4) % 5)) I σ) (hw : 0 < s → WFc σ ∧ sG σ 1 ≤ 1) :
    q_M kX1_restoreInto [.ref 101, .ref 1] I (fun v J => (s = 0 ∧ v = some (.int (-1000002)) ∧ I = J) ∨ (0 < s ∧ v = some (.int (nI (s - 1))) ∧ RC 1 J σ ∧ J 101 1 = nI ((n + 4) % 5) ∧ J 101 2 = nI (s - 1) ∧ ∀ a, ¬ a = 101 → (a < 1 ∨ 51 ≤ a) → J a = I a)) := by
  have k101 := k101
  refine q_M.of pnX1_restoreInto (by simp [Value.category]) (Nat.le_of_ble_eq_true rfl) ?_
  refine q_aload_n dX1_restoreInto_0 rfl ?_
  refine q_getI fl_RX1_26 rfl (by assumption) hS dX1_restoreInto_1 ?_
  refine q_if_gtN (tgt := 10) (by omega) dX1_restoreInto_4 (by decide) (fun q => ?_) (fun q => ?_)
  · have hw := hw q
    have h := h q
    have fin : q_X kX1_restoreInto 34 [some (.ref 101), some (.ref 1)] [.int (nI ((n + 4) % 5)), .ref 101] I (fun v J => (s = 0 ∧ v = some (.int (-1000002)) ∧ I = J) ∨ (0 < s ∧ v = some (.int (nI (s - 1))) ∧ RC 1 J σ ∧ J 101 1 = nI ((n + 4) % 5) ∧ J 101 2 = nI (s - 1) ∧ ∀ a, ¬ a = 101 → (a < 1 ∨ 51 ≤ a) → J a = I a)) := by
      refine q_putI ⟨fl_RX1_18, rfl, rfl⟩ (by assumption) ⟨rfl, rfl⟩ dX1_restoreInto_34 ?_
      refine q_aload_n dX1_restoreInto_37 rfl ?_
      refine q_dup dX1_restoreInto_38 rfl ?_
      refine q_getI fl_RX1_26 rfl (by assumption) ((q_up_n (by omega)).trans hS) dX1_restoreInto_39 ?_
      refine q_iconst (v := nI 1) dX1_restoreInto_42 (by decide) ?_
      refine q_isub dX1_restoreInto_43 ?_
      rw [pk_sub (by omega)]
      refine q_putI ⟨fl_RX1_26, rfl, rfl⟩ (by assumption) ⟨rfl, rfl⟩ dX1_restoreInto_44 ?_
      have e1 : ∀ a, ¬ a = 101 → q_up (q_up I 101 1 (nI ((n + 4) % 5))) 101 2 (nI (s - 1)) a = I a := fun a ha => funext fun j => by rw [q_up_n (fun z => ha z.1), q_up_n (fun z => ha z.1)]
      have e2 : q_up (q_up I 101 1 (nI ((n + 4) % 5))) 101 2 (nI (s - 1)) 101 1 = nI ((n + 4) % 5) := by rw [q_up_n (by omega), q_up_s]
      have e3 : q_up (q_up I 101 1 (nI ((n + 4) % 5))) 101 2 (nI (s - 1)) 101 2 = nI (s - 1) := q_up_s
      generalize q_up (q_up I 101 1 (nI ((n + 4) % 5))) 101 2 (nI (s - 1)) = K at e1 e2 e3 ⊢
      have hm5 : (n + 4) % 5 < 5 := Nat.mod_lt _ (by omega)
      have hK0 : RC 1 K τ := h0.fr (fun a a1 a2 => e1 a (by omega))
      have hK : RC (103 + 50 * ((n + 4) % 5)) K σ := h.fr (fun a a1 a2 => e1 a (by omega))
      generalize hmm : (n + 4) % 5 = m at hm5 e2 hK ⊢
      refine q_aload_n dX1_restoreInto_47 rfl ?_
      refine q_getI fl_RX1_18 rfl (by assumption) e2 dX1_restoreInto_48 ?_
      refine q_if_ltN (tgt := 91) (by omega) dX1_restoreInto_51 (by decide) (fun q2 => ?_) (fun q2 => ?_)
      · omega
      refine q_aload_n dX1_restoreInto_54 rfl ?_
      refine q_getI fl_RX1_18 rfl (by assumption) e2 dX1_restoreInto_55 ?_
      refine q_aload_n dX1_restoreInto_58 rfl ?_
      refine q_getR fl_RX1_11 rfl (by assumption) dX1_restoreInto_59 ?_
      refine q_lenS rfl dX1_restoreInto_62 ?_
      refine q_icmp_geN (tgt := 91) (by omega) (by omega) dX1_restoreInto_63 (by decide) (fun q3 => ?_) (fun q3 => ?_)
      · omega
      refine q_aload_n dX1_restoreInto_66 rfl ?_
      refine q_getR fl_RX1_11 rfl (by assumption) dX1_restoreInto_67 ?_
      refine q_aload_n dX1_restoreInto_70 rfl ?_
      refine q_getI fl_RX1_18 rfl (by assumption) e2 dX1_restoreInto_71 ?_
      refine q_aaldS rfl hm5 dX1_restoreInto_74 ?_
      refine q_ifnull dX1_restoreInto_75 ?_
      refine q_aload_n dX1_restoreInto_78 rfl ?_
      refine q_aload_n dX1_restoreInto_79 rfl ?_
      refine q_getR fl_RX1_11 rfl (by assumption) dX1_restoreInto_80 ?_
      refine q_aload_n dX1_restoreInto_83 rfl ?_
      refine q_getI fl_RX1_18 rfl (by assumption) e2 dX1_restoreInto_84 ?_
      refine q_aaldS rfl hm5 dX1_restoreInto_87 ?_
      refine q_cV (as := [_]) lk_RX1_22 (c_copyS k1 (kring m hm5) (by omega) hK0 hK hw.2 (fun p _ => (hw.1.pr p).1) hw.1.len) ⟨3, by decide, k1, rfl⟩ rfl (by decide) (Nat.le_of_ble_eq_true rfl) dX1_restoreInto_88 ?_
      rintro v J ⟨rfl, g1, g2⟩
      have g101 : J 101 = K 101 := g2 101 (by omega)
      refine q_aload_n dX1_restoreInto_91 rfl ?_
      refine q_getI fl_RX1_26 rfl (by assumption) ((congrFun g101 2).trans e3) dX1_restoreInto_92 ?_
      exact q_iret rfl rfl dX1_restoreInto_95 (Or.inr ⟨q, rfl, g1, (congrFun g101 1).trans e2, (congrFun g101 2).trans e3, fun a a1 a2 => (g2 a (by omega)).trans (e1 a a1)⟩)
    refine q_aload_n dX1_restoreInto_10 rfl ?_
    refine q_aload_n dX1_restoreInto_11 rfl ?_
    refine q_getI fl_RX1_18 rfl (by assumption) hI dX1_restoreInto_12 ?_
    refine q_if_leN (tgt := 27) (by omega) dX1_restoreInto_15 (by decide) (fun q2 => ?_) (fun q2 => ?_)
    · refine q_aload_n dX1_restoreInto_27 rfl ?_
      refine q_getR fl_RX1_11 rfl (by assumption) dX1_restoreInto_28 ?_
      refine q_lenS rfl dX1_restoreInto_31 ?_
      refine q_iconst (v := nI 1) dX1_restoreInto_32 (by decide) ?_
      refine q_isub dX1_restoreInto_33 ?_
      rw [show nI 5 - nI 1 = nI ((n + 4) % 5) by rw [pk_sub (by omega)]; congr 1; omega]
      exact fin
    · refine q_aload_n dX1_restoreInto_18 rfl ?_
      refine q_getI fl_RX1_18 rfl (by assumption) hI dX1_restoreInto_19 ?_
      refine q_iconst (v := nI 1) dX1_restoreInto_22 (by decide) ?_
      refine q_isub dX1_restoreInto_23 ?_
      rw [pk_sub (by omega)]
      refine q_goto (tgt := 34) dX1_restoreInto_24 (by decide) ?_
      rw [show nI (n - 1) = nI ((n + 4) % 5) by congr 1; omega]
      exact fin
  · refine q_ldc (v := -1000002) ct_RX1_35 dX1_restoreInto_7 ?_
    exact q_iret rfl rfl dX1_restoreInto_9 (Or.inl ⟨by omega, rfl, rfl⟩)
