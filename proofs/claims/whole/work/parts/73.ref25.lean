/-! the reference: an order is done, a text is played -/
theorem rns_len (t : List Nat) (w : Nat) : ∀ d i l, (rns t w d i l).1 = true → wle w ≤ (rns t w d i l).2.2.length ∧ (rns t w d i l).2.2.length ≤ l.length + d := by
  intro d
  induction d with
  | zero => intro i l h; cases h
  | succ d ih =>
    intro i l h
    rw [rns_s] at h ⊢
    by_cases e : isd (gt t i)
    case neg => rw [if_neg e] at h; cases h
    rw [if_pos e] at h ⊢
    have hll : (l ++ [num t i]).length = l.length + 1 := by rw [List.length_append]; rfl
    generalize l ++ [num t i] = l' at h hll ⊢
    unfold rtl at h ⊢
    by_cases e1 : gt t (nxt t i) = 59 ∧ wle w ≤ l'.length
    · rw [if_pos e1]
      exact ⟨e1.2, by show l'.length ≤ _; omega⟩
    · rw [if_neg e1] at h ⊢
      by_cases e2 : gt t (nxt t i) = 44 ∧ l'.length < wmo w
      · rw [if_pos e2] at h ⊢
        have := ih _ _ h
        exact ⟨this.1, by omega⟩
      · rw [if_neg e2] at h; cases h
theorem rdb_len {t : List Nat} {w b : Nat} (hw : w < 5) (h : (rdb t w b).1 = true) : wle w ≤ (rdb t w b).2.2.length ∧ (rdb t w b).2.2.length ≤ 4 := by
  have hm := wmo_le w hw
  unfold rdb at h ⊢
  by_cases e : wmo w = 0
  · rw [if_pos e] at h ⊢
    by_cases e1 : gt t b = 59
    · rw [if_pos e1]
      exact ⟨by show wle w ≤ 0; omega, Nat.zero_le _⟩
    · rw [if_neg e1] at h; cases h
  · rw [if_neg e] at h ⊢
    by_cases e1 : gt t b = 32
    · rw [if_pos e1] at h ⊢
      have := rns_len t w _ _ _ h
      have h0 : ([] : List Nat).length = 0 := rfl
      exact ⟨this.1, by omega⟩
    · rw [if_neg e1] at h; cases h
theorem r_doOrder {w : Nat} {l : List Nat} {I : q_Mem} {σ : q_S} (hw5 : w < 5) (h : RS I σ) (hs : sok σ) (h8 : I 356 8 = nI w) (h10 : I 356 10 = nI l.length) (hN : ∀ k v, l[k]? = some v → I 361 k = nI v) (hl1 : wle w ≤ l.length) (hl2 : l.length ≤ 4) : q_M kX7_doOrder [.ref 356] I (fun v J => v = some (.int (opo σ w l).1) ∧ RS J (opo σ w l).2 ∧ FM 357 I J) := by
  have nat : ∀ i, i < l.length → I 361 i = nmb l i := by
    intro i hi
    rw [nmb, List.getElem?_eq_getElem hi]
    exact hN i _ (List.getElem?_eq_getElem hi)
  have non : ∀ i, l.length ≤ i → nmb l i = -1 := by
    intro i hi
    rw [nmb, List.getElem?_eq_none hi]
  have s57 : q_X kX7_doOrder 57 [some (.ref 356), some (.int (nmb l 1)), some (.int (nmb l 2)), some (.int (nmb l 3))] [] I (fun v J => v = some (.int (opo σ w l).1) ∧ RS J (opo σ w l).2 ∧ FM 357 I J) := by
    have hw : w = 0 ∨ w = 1 ∨ w = 2 ∨ w = 3 ∨ w = 4 := by omega
    rcases hw with rfl | rfl | rfl | rfl | rfl
    · have hl1 : 1 ≤ l.length := hl1
      refine q_aload_n dX7_doOrder_57 rfl ?_
      refine q_getI fl_RX7_213 rfl k356 h8 dX7_doOrder_58 ?_
      refine q_if_neN (tgt := 79) (by omega) dX7_doOrder_61 (by decide) (fun q => ?_) (fun q => ?_)
      · omega
      refine q_aload_n dX7_doOrder_64 rfl ?_
      refine q_aload_n dX7_doOrder_65 rfl ?_
      refine q_getR2 (b := 361) fl_RX7_22 rfl k356 rfl dX7_doOrder_66 ?_
      refine q_iconst (v := nI 0) dX7_doOrder_69 (by decide) ?_
      refine q_iald k361 rfl (lt361 (by omega)) (by decide) (nat 0 (by omega)) dX7_doOrder_70 ?_
      refine q_iload_n dX7_doOrder_71 rfl ?_
      refine q_iload_n dX7_doOrder_72 rfl ?_
      refine q_cV (as := [_, _, _]) lk_RX7_137 (r_comes h hs) (Or.inl ⟨6, by decide, k356, rfl⟩) rfl (by decide) (Nat.le_of_ble_eq_true rfl) dX7_doOrder_73 ?_
      rintro v J ⟨rfl, e1, e2⟩
      refine q_goto (tgt := 143) dX7_doOrder_76 (by decide) ?_
      exact q_iret rfl rfl dX7_doOrder_143 ⟨rfl, e1, e2⟩
    · have hl1 : 2 ≤ l.length := hl1
      refine q_aload_n dX7_doOrder_57 rfl ?_
      refine q_getI fl_RX7_213 rfl k356 h8 dX7_doOrder_58 ?_
      refine q_if_neN (tgt := 79) (by omega) dX7_doOrder_61 (by decide) (fun q => ?_) (fun q => ?_)
      rotate_left
      · omega
      refine q_aload_n dX7_doOrder_79 rfl ?_
      refine q_getI fl_RX7_213 rfl k356 h8 dX7_doOrder_80 ?_
      refine q_iconst (v := nI 1) dX7_doOrder_83 (by decide) ?_
      refine q_icmp_neN (tgt := 103) (by omega) (by omega) dX7_doOrder_84 (by decide) (fun q1 => ?_) (fun q1 => ?_)
      · omega
      refine q_aload_n dX7_doOrder_87 rfl ?_
      refine q_aload_n dX7_doOrder_88 rfl ?_
      refine q_getR2 (b := 361) fl_RX7_22 rfl k356 rfl dX7_doOrder_89 ?_
      refine q_iconst (v := nI 0) dX7_doOrder_92 (by decide) ?_
      refine q_iald k361 rfl (lt361 (by omega)) (by decide) (nat 0 (by omega)) dX7_doOrder_93 ?_
      refine q_iload_n dX7_doOrder_94 rfl ?_
      refine q_iload_n dX7_doOrder_95 rfl ?_
      refine q_iload_n dX7_doOrder_96 rfl ?_
      refine q_cV (as := [_, _, _, _]) lk_RX7_141 (r_changesWishes h hs) (Or.inl ⟨6, by decide, k356, rfl⟩) rfl (by decide) (Nat.le_of_ble_eq_true rfl) dX7_doOrder_97 ?_
      rintro v J ⟨rfl, e1, e2⟩
      refine q_goto (tgt := 143) dX7_doOrder_100 (by decide) ?_
      exact q_iret rfl rfl dX7_doOrder_143 ⟨rfl, e1, e2⟩
    · have hl1 : 1 ≤ l.length := hl1
      refine q_aload_n dX7_doOrder_57 rfl ?_
      refine q_getI fl_RX7_213 rfl k356 h8 dX7_doOrder_58 ?_
      refine q_if_neN (tgt := 79) (by omega) dX7_doOrder_61 (by decide) (fun q => ?_) (fun q => ?_)
      rotate_left
      · omega
      refine q_aload_n dX7_doOrder_79 rfl ?_
      refine q_getI fl_RX7_213 rfl k356 h8 dX7_doOrder_80 ?_
      refine q_iconst (v := nI 1) dX7_doOrder_83 (by decide) ?_
      refine q_icmp_neN (tgt := 103) (by omega) (by omega) dX7_doOrder_84 (by decide) (fun q1 => ?_) (fun q1 => ?_)
      rotate_left
      · omega
      refine q_aload_n dX7_doOrder_103 rfl ?_
      refine q_getI fl_RX7_213 rfl k356 h8 dX7_doOrder_104 ?_
      refine q_iconst (v := nI 2) dX7_doOrder_107 (by decide) ?_
      refine q_icmp_neN (tgt := 124) (by omega) (by omega) dX7_doOrder_108 (by decide) (fun q2 => ?_) (fun q2 => ?_)
      · omega
      refine q_aload_n dX7_doOrder_111 rfl ?_
      refine q_aload_n dX7_doOrder_112 rfl ?_
      refine q_getR2 (b := 361) fl_RX7_22 rfl k356 rfl dX7_doOrder_113 ?_
      refine q_iconst (v := nI 0) dX7_doOrder_116 (by decide) ?_
      refine q_iald k361 rfl (lt361 (by omega)) (by decide) (nat 0 (by omega)) dX7_doOrder_117 ?_
      refine q_cV (as := [_]) lk_RX7_145 (r_leaves h hs) (Or.inl ⟨6, by decide, k356, rfl⟩) rfl (by decide) (Nat.le_of_ble_eq_true rfl) dX7_doOrder_118 ?_
      rintro v J ⟨rfl, e1, e2⟩
      refine q_goto (tgt := 143) dX7_doOrder_121 (by decide) ?_
      exact q_iret rfl rfl dX7_doOrder_143 ⟨rfl, e1, e2⟩
    · refine q_aload_n dX7_doOrder_57 rfl ?_
      refine q_getI fl_RX7_213 rfl k356 h8 dX7_doOrder_58 ?_
      refine q_if_neN (tgt := 79) (by omega) dX7_doOrder_61 (by decide) (fun q => ?_) (fun q => ?_)
      rotate_left
      · omega
      refine q_aload_n dX7_doOrder_79 rfl ?_
      refine q_getI fl_RX7_213 rfl k356 h8 dX7_doOrder_80 ?_
      refine q_iconst (v := nI 1) dX7_doOrder_83 (by decide) ?_
      refine q_icmp_neN (tgt := 103) (by omega) (by omega) dX7_doOrder_84 (by decide) (fun q1 => ?_) (fun q1 => ?_)
      rotate_left
      · omega
      refine q_aload_n dX7_doOrder_103 rfl ?_
      refine q_getI fl_RX7_213 rfl k356 h8 dX7_doOrder_104 ?_
      refine q_iconst (v := nI 2) dX7_doOrder_107 (by decide) ?_
      refine q_icmp_neN (tgt := 124) (by omega) (by omega) dX7_doOrder_108 (by decide) (fun q2 => ?_) (fun q2 => ?_)
      rotate_left
      · omega
      refine q_aload_n dX7_doOrder_124 rfl ?_
      refine q_getI fl_RX7_213 rfl k356 h8 dX7_doOrder_125 ?_
      refine q_iconst (v := nI 3) dX7_doOrder_128 (by decide) ?_
      refine q_icmp_neN (tgt := 139) (by omega) (by omega) dX7_doOrder_129 (by decide) (fun q3 => ?_) (fun q3 => ?_)
      · omega
      refine q_aload_n dX7_doOrder_132 rfl ?_
      refine q_cV (as := []) lk_RX7_148 (r_closesTerm h hs) (Or.inl ⟨6, by decide, k356, rfl⟩) rfl (by decide) (Nat.le_of_ble_eq_true rfl) dX7_doOrder_133 ?_
      rintro v J ⟨rfl, e1, e2⟩
      refine q_goto (tgt := 143) dX7_doOrder_136 (by decide) ?_
      exact q_iret rfl rfl dX7_doOrder_143 ⟨rfl, e1, e2⟩
    · refine q_aload_n dX7_doOrder_57 rfl ?_
      refine q_getI fl_RX7_213 rfl k356 h8 dX7_doOrder_58 ?_
      refine q_if_neN (tgt := 79) (by omega) dX7_doOrder_61 (by decide) (fun q => ?_) (fun q => ?_)
      rotate_left
      · omega
      refine q_aload_n dX7_doOrder_79 rfl ?_
      refine q_getI fl_RX7_213 rfl k356 h8 dX7_doOrder_80 ?_
      refine q_iconst (v := nI 1) dX7_doOrder_83 (by decide) ?_
      refine q_icmp_neN (tgt := 103) (by omega) (by omega) dX7_doOrder_84 (by decide) (fun q1 => ?_) (fun q1 => ?_)
      rotate_left
      · omega
      refine q_aload_n dX7_doOrder_103 rfl ?_
      refine q_getI fl_RX7_213 rfl k356 h8 dX7_doOrder_104 ?_
      refine q_iconst (v := nI 2) dX7_doOrder_107 (by decide) ?_
      refine q_icmp_neN (tgt := 124) (by omega) (by omega) dX7_doOrder_108 (by decide) (fun q2 => ?_) (fun q2 => ?_)
      rotate_left
      · omega
      refine q_aload_n dX7_doOrder_124 rfl ?_
      refine q_getI fl_RX7_213 rfl k356 h8 dX7_doOrder_125 ?_
      refine q_iconst (v := nI 3) dX7_doOrder_128 (by decide) ?_
      refine q_icmp_neN (tgt := 139) (by omega) (by omega) dX7_doOrder_129 (by decide) (fun q3 => ?_) (fun q3 => ?_)
      rotate_left
      · omega
      refine q_aload_n dX7_doOrder_139 rfl ?_
      refine q_cV (as := []) lk_RX7_151 (r_beginsTerm h hs) (Or.inl ⟨6, by decide, k356, rfl⟩) rfl (by decide) (Nat.le_of_ble_eq_true rfl) dX7_doOrder_140 ?_
      rintro v J ⟨rfl, e1, e2⟩
      exact q_iret rfl rfl dX7_doOrder_143 ⟨rfl, e1, e2⟩
  have s38 : ∀ (o3 : Option Value), q_X kX7_doOrder 38 [some (.ref 356), some (.int (nmb l 1)), some (.int (nmb l 2)), o3] [] I (fun v J => v = some (.int (opo σ w l).1) ∧ RS J (opo σ w l).2 ∧ FM 357 I J) := by
    intro o3
    refine q_aload_n dX7_doOrder_38 rfl ?_
    refine q_getI fl_RX7_207 rfl k356 h10 dX7_doOrder_39 ?_
    refine q_iconst (v := nI 3) dX7_doOrder_42 (by decide) ?_
    refine q_icmp_leN (tgt := 55) (by omega) (by omega) dX7_doOrder_43 (by decide) (fun q => ?_) (fun q => ?_)
    · have := s57
      rw [non 3 q] at this
      refine q_iconst (v := -1) dX7_doOrder_55 (by decide) ?_
      refine q_istore_n (ls' := [_, _, _, _]) dX7_doOrder_56 (Nat.le_of_ble_eq_true rfl) rfl ?_
      exact this
    · refine q_aload_n dX7_doOrder_46 rfl ?_
      refine q_getR2 (b := 361) fl_RX7_22 rfl k356 rfl dX7_doOrder_47 ?_
      refine q_iconst (v := nI 3) dX7_doOrder_50 (by decide) ?_
      refine q_iald k361 rfl (lt361 (by omega)) (by decide) (nat 3 q) dX7_doOrder_51 ?_
      refine q_goto (tgt := 56) dX7_doOrder_52 (by decide) ?_
      refine q_istore_n (ls' := [_, _, _, _]) dX7_doOrder_56 (Nat.le_of_ble_eq_true rfl) rfl ?_
      exact s57
  have s19 : ∀ (o2 o3 : Option Value), q_X kX7_doOrder 19 [some (.ref 356), some (.int (nmb l 1)), o2, o3] [] I (fun v J => v = some (.int (opo σ w l).1) ∧ RS J (opo σ w l).2 ∧ FM 357 I J) := by
    intro o2 o3
    refine q_aload_n dX7_doOrder_19 rfl ?_
    refine q_getI fl_RX7_207 rfl k356 h10 dX7_doOrder_20 ?_
    refine q_iconst (v := nI 2) dX7_doOrder_23 (by decide) ?_
    refine q_icmp_leN (tgt := 36) (by omega) (by omega) dX7_doOrder_24 (by decide) (fun q => ?_) (fun q => ?_)
    · have := s38 o3
      rw [non 2 q] at this
      refine q_iconst (v := -1) dX7_doOrder_36 (by decide) ?_
      refine q_istore_n (ls' := [_, _, _, _]) dX7_doOrder_37 (Nat.le_of_ble_eq_true rfl) rfl ?_
      exact this
    · refine q_aload_n dX7_doOrder_27 rfl ?_
      refine q_getR2 (b := 361) fl_RX7_22 rfl k356 rfl dX7_doOrder_28 ?_
      refine q_iconst (v := nI 2) dX7_doOrder_31 (by decide) ?_
      refine q_iald k361 rfl (lt361 (by omega)) (by decide) (nat 2 q) dX7_doOrder_32 ?_
      refine q_goto (tgt := 37) dX7_doOrder_33 (by decide) ?_
      refine q_istore_n (ls' := [_, _, _, _]) dX7_doOrder_37 (Nat.le_of_ble_eq_true rfl) rfl ?_
      exact s38 _
  refine q_M.of pnX7_doOrder (by simp [Value.category]) (Nat.le_of_ble_eq_true rfl) ?_
  refine q_aload_n dX7_doOrder_0 rfl ?_
  refine q_getI fl_RX7_207 rfl k356 h10 dX7_doOrder_1 ?_
  refine q_iconst (v := nI 1) dX7_doOrder_4 (by decide) ?_
  refine q_icmp_leN (tgt := 17) (by omega) (by omega) dX7_doOrder_5 (by decide) (fun q => ?_) (fun q => ?_)
  · have := s19 none none
    rw [non 1 q] at this
    refine q_iconst (v := -1) dX7_doOrder_17 (by decide) ?_
    refine q_istore_n (ls' := [_, _, _, _]) dX7_doOrder_18 (Nat.le_of_ble_eq_true rfl) rfl ?_
    exact this
  · refine q_aload_n dX7_doOrder_8 rfl ?_
    refine q_getR2 (b := 361) fl_RX7_22 rfl k356 rfl dX7_doOrder_9 ?_
    refine q_iconst (v := nI 1) dX7_doOrder_12 (by decide) ?_
    refine q_iald k361 rfl (lt361 (by omega)) (by decide) (nat 1 q) dX7_doOrder_13 ?_
    refine q_goto (tgt := 18) dX7_doOrder_14 (by decide) ?_
    refine q_istore_n (ls' := [_, _, _, _]) dX7_doOrder_18 (Nat.le_of_ble_eq_true rfl) rfl ?_
    exact s19 _ _
/-- what stays while a text is played -/
def FGo (I J : q_Mem) : Prop := ∀ a j, ¬ a = 357 → ¬ a = 361 → ¬ (a = 356 ∧ 6 ≤ j) → J a j = I a j
theorem FGo.rf {I : q_Mem} : FGo I I := fun _ _ _ _ _ => rfl
theorem FGo.tr {I J K : q_Mem} (h : FGo I J) (h2 : FGo J K) : FGo I K := fun a j h3 h4 h5 => (h2 a j h3 h4 h5).trans (h a j h3 h4 h5)
theorem FGo.up {I J : q_Mem} (h : FGo I J) {j : Nat} {x : Int32} (hj : 6 ≤ j) : FGo I (q_up J 356 j x) := fun b i h1 h2 h3 => (q_up_n (by omega)).trans (h b i h1 h2 h3)
theorem FGo.of {I J : q_Mem} (h : FG I J) : FGo I J := fun a j _ h2 h3 => h a j h2 h3
theorem FGo.of2 {I J : q_Mem} (h : FM 357 I J) : FGo I J := fun a j h1 _ _ => congrFun (h a h1) j
theorem FGo.mt {I J : q_Mem} (h : FGo I J) {t : List Nat} (hr : MT I t) : MT J t := ⟨(h 356 5 (by omega) (by omega) (by omega)).trans hr.1, fun i c hc => (h 360 i (by omega) (by omega) (by omega)).trans (hr.2 i c hc)⟩
theorem RS.up {I : q_Mem} {σ : q_S} (h : RS I σ) {j : Nat} {x : Int32} : RS (q_up I 356 j x) σ := h.fr (funext fun i => q_up_n (by omega))
def goQ (I : q_Mem) (r : q_S × Nat × Nat × Nat × Int32) (v : Option Value) (J : q_Mem) : Prop :=
  (∃ n, v = some (.int (nI n)) ∧ (r.2.2.1 = 0 → n = r.2.1)) ∧ RS J r.1 ∧ J 356 11 = nI r.2.2.1 ∧ (¬ r.2.2.1 = 0 → J 356 6 = nI r.2.2.2.1 ∧ J 356 12 = r.2.2.2.2) ∧ FGo I J
theorem r_go {t : List Nat} {I : q_Mem} {σ : q_S} (h : RS I σ) (hs : sok σ) (ht : tok t) (hT : MT I t) (hn : sG σ 0 < 2 ^ 29) : q_M kX7_go [.ref 356] I (goQ I (ply t 60 0 0 σ)) := by
  have h60 := ht.1
  have key : ∀ (d s n : Nat) (J : q_Mem) (τ : q_S) (o2 : Option Value), 60 ≤ s + d → s ≤ t.length → RS J τ → sok τ → sG τ 0 + d < 2 ^ 30 → J 356 6 = nI s → J 356 11 = nI 0 → FGo I J → q_X kX7_go 17 [some (.ref 356), some (.int (nI n)), o2] [] J (goQ I (ply t d s n τ)) := by
    intro d
    induction d with
    | zero =>
      intro s n J τ o2 hd hsl h hs hG h6 h11 hF
      have hTJ := hF.mt hT
      refine q_aload_n dX7_go_17 rfl ?_
      refine q_getI fl_RX7_188 rfl k356 h6 dX7_go_18 ?_
      refine q_aload_n dX7_go_21 rfl ?_
      refine q_getI fl_RX7_182 rfl k356 hTJ.1 dX7_go_22 ?_
      refine q_icmp_geN (tgt := 105) (by omega) (by omega) dX7_go_25 (by decide) (fun q => ?_) (fun q => ?_)
      · refine q_iload_n dX7_go_105 rfl ?_
        exact q_iret rfl rfl dX7_go_106 ⟨⟨n, rfl, fun _ => rfl⟩, h, h11, fun z => absurd rfl z, hF⟩
      · omega
    | succ d ih =>
      intro s n J τ o2 hd hsl h hs hG h6 h11 hF
      have hTJ := hF.mt hT
      rw [ply]
      refine q_aload_n dX7_go_17 rfl ?_
      refine q_getI fl_RX7_188 rfl k356 h6 dX7_go_18 ?_
      refine q_aload_n dX7_go_21 rfl ?_
      refine q_getI fl_RX7_182 rfl k356 hTJ.1 dX7_go_22 ?_
      refine q_icmp_geN (tgt := 105) (by omega) (by omega) dX7_go_25 (by decide) (fun q => ?_) (fun q => ?_)
      · rw [if_neg (by omega)]
        refine q_iload_n dX7_go_105 rfl ?_
        exact q_iret rfl rfl dX7_go_106 ⟨⟨n, rfl, fun _ => rfl⟩, h, h11, fun z => absurd rfl z, hF⟩
      rw [if_pos q]
      -- behind a fault
      have stop : ∀ (K : q_Mem) (ρ : q_S) (m r : Nat) (c : Int32) (o2 : Option Value), ¬ r = 0 → r < 3 → K 356 11 = nI r → K 356 6 = nI s → K 356 12 = c → RS K ρ → FGo I K → q_X kX7_go 77 [some (.ref 356), some (.int (nI n)), o2] [] K (goQ I (ρ, m, r, s, c)) := by
        intro K ρ m r c o2 hr hr3 k11 k6 k12 kR kF
        have kT := kF.mt hT
        refine q_aload_n dX7_go_77 rfl ?_
        refine q_aload_n dX7_go_78 rfl ?_
        refine q_getI fl_RX7_185 rfl k356 k11 dX7_go_79 ?_
        refine q_if_neN (tgt := 92) (by omega) dX7_go_82 (by decide) (fun q1 => ?_) (fun q1 => ?_)
        rotate_left
        · omega
        refine q_aload_n dX7_go_92 rfl ?_
        refine q_getI fl_RX7_188 rfl k356 k6 dX7_go_93 ?_
        refine q_putI ⟨fl_RX7_188, rfl, rfl⟩ k356 ⟨rfl, rfl⟩ dX7_go_96 ?_
        refine q_iinc (ls' := [_, _, _]) dX7_go_99 rfl (nI_add _ 1) rfl ?_
        refine q_goto (tgt := 17) dX7_go_102 (by decide) ?_
        have e6 : q_up K 356 6 (nI s) 356 6 = nI s := q_up_s
        have e11 : q_up K 356 6 (nI s) 356 11 = nI r := (q_up_n (by omega)).trans k11
        have e12 : q_up K 356 6 (nI s) 356 12 = c := (q_up_n (by omega)).trans k12
        have e5 : q_up K 356 6 (nI s) 356 5 = nI t.length := (q_up_n (by omega)).trans kT.1
        have eR : RS (q_up K 356 6 (nI s)) ρ := kR.up
        have eF : FGo I (q_up K 356 6 (nI s)) := kF.up (by omega)
        generalize q_up K 356 6 (nI s) = L at e6 e11 e12 e5 eR eF ⊢
        refine q_aload_n dX7_go_17 rfl ?_
        refine q_getI fl_RX7_188 rfl k356 e6 dX7_go_18 ?_
        refine q_aload_n dX7_go_21 rfl ?_
        refine q_getI fl_RX7_182 rfl k356 e5 dX7_go_22 ?_
        refine q_icmp_geN (tgt := 105) (by omega) (by omega) dX7_go_25 (by decide) (fun q2 => ?_) (fun q2 => ?_)
        · omega
        refine q_aload_n dX7_go_28 rfl ?_
        refine q_getI fl_RX7_185 rfl k356 e11 dX7_go_29 ?_
        refine q_if_neN (tgt := 105) (by omega) dX7_go_32 (by decide) (fun q3 => ?_) (fun q3 => ?_)
        rotate_left
        · omega
        refine q_iload_n dX7_go_105 rfl ?_
        exact q_iret rfl rfl dX7_go_106 ⟨⟨n + 1, rfl, fun z => absurd z hr⟩, eR, e11, fun _ => ⟨e6, e12⟩, eF⟩
      refine q_aload_n dX7_go_28 rfl ?_
      refine q_getI fl_RX7_185 rfl k356 h11 dX7_go_29 ?_
      refine q_if_neN (tgt := 105) (by omega) dX7_go_32 (by decide) (fun q2 => ?_) (fun q2 => ?_)
      · omega
      refine q_aload_n dX7_go_35 rfl ?_
      refine q_cV (as := []) lk_RX7_219 (r_readOrder ht hTJ hsl h6 h11) (Or.inl ⟨6, by decide, k356, rfl⟩) rfl (by decide) (Nat.le_of_ble_eq_true rfl) dX7_go_36 ?_
      rintro v K ⟨rfl, hK⟩
      have form : ∀ (c : Nat) (m : Nat), RF J K s c → q_X kX7_go 39 [some (.ref 356), some (.int (nI n)), o2] [] K (goQ I (τ, m, 1, s, nI c)) := by
        intro c m hf
        obtain ⟨f1', f2', f3', f4'⟩ := hf
        refine q_aload_n dX7_go_39 rfl ?_
        refine q_getI fl_RX7_185 rfl k356 f3' dX7_go_40 ?_
        refine q_if_neN (tgt := 77) (by omega) dX7_go_43 (by decide) (fun q3 => ?_) (fun q3 => ?_)
        rotate_left
        · omega
        exact stop K τ m 1 _ _ (by omega) (by omega) f3' f2' f4' (h.fr (funext fun j => f1' 357 j (by omega) (by omega))) (hF.tr (FGo.of f1'))
      obtain ⟨s1, s2⟩ := swd_le t s
      by_cases ew : swd t s = 0
      · rw [if_pos ew] at hK ⊢
        exact form _ n hK
      rw [if_neg ew] at hK ⊢
      obtain ⟨s3, s4⟩ := s2 ew
      have hw5 : swd t s - 1 < 5 := by omega
      have ho : ord t s = rdb t (swd t s - 1) (s + wll (swd t s - 1)) := rfl
      by_cases eo : (ord t s).1 = false
      · rw [if_pos eo]
        rw [if_neg (fun z => by rw [eo] at z; cases z)] at hK
        exact form _ n hK
      rw [if_neg eo]
      have eo : (ord t s).1 = true := by
        cases z : (ord t s).1 with
        | false => exact absurd z eo
        | true => rfl
      rw [if_pos eo] at hK
      have hend := rdb_end (t := t) (w := swd t s - 1) (b := s + wll (swd t s - 1)) (by rw [← ho]; exact eo)
      have hlen := rdb_len (t := t) (b := s + wll (swd t s - 1)) hw5 (by rw [← ho]; exact eo)
      rw [← ho] at hend hlen
      generalize swd t s - 1 = w at s3 ho hw5 hK hend hlen ⊢
      generalize (ord t s).2.1 = e at hK hend ⊢
      generalize (ord t s).2.2 = l at hK hlen ⊢
      obtain ⟨k1, k2, k3, k4, k5, k6, k7⟩ := hK
      have kR : RS K τ := h.fr (funext fun j => k1 357 j (by omega) (by omega))
      have kF : FGo I K := hF.tr (FGo.of k1)
      refine q_aload_n dX7_go_39 rfl ?_
      refine q_getI fl_RX7_185 rfl k356 k7 dX7_go_40 ?_
      refine q_if_neN (tgt := 77) (by omega) dX7_go_43 (by decide) (fun q3 => ?_) (fun q3 => ?_)
      · omega
      refine q_aload_n dX7_go_46 rfl ?_
      refine q_cV (as := []) lk_RX7_222 (r_doOrder hw5 kR hs k4 k5 k6 hlen.1 hlen.2) (Or.inl ⟨6, by decide, k356, rfl⟩) rfl (by decide) (Nat.le_of_ble_eq_true rfl) dX7_go_47 ?_
      obtain ⟨g1, g2, g3⟩ := good_opo hs (by omega) w l
      rintro v N ⟨rfl, n1, n2⟩
      have nF : FGo I N := kF.tr (FGo.of2 n2)
      have n6 : N 356 6 = nI s := (congrFun (n2 356 (by omega)) 6).trans k2
      have n7 : N 356 7 = nI e := (congrFun (n2 356 (by omega)) 7).trans k3
      generalize (opo τ w l).1 = x at n1 g3 ⊢
      generalize (opo τ w l).2 = τ' at n1 g1 g2 g3 ⊢
      refine q_istore_n (ls' := [_, _, _]) dX7_go_50 (Nat.le_of_ble_eq_true rfl) rfl ?_
      refine q_aload_n dX7_go_51 rfl ?_
      refine q_iload_n dX7_go_52 rfl ?_
      refine q_if_ge (tgt := 60) dX7_go_53 (by decide) (fun q4 => ?_) (fun q4 => ?_)
      · rw [if_neg (Int32.not_lt.mpr q4)]
        refine q_iconst (v := nI 0) dX7_go_60 (by decide) ?_
        refine q_putI ⟨fl_RX7_185, rfl, rfl⟩ k356 ⟨rfl, rfl⟩ dX7_go_61 ?_
        refine q_aload_n dX7_go_64 rfl ?_
        refine q_iload_n dX7_go_65 rfl ?_
        refine q_if_ge (tgt := 73) dX7_go_66 (by decide) (fun q5 => ?_) (fun q5 => ?_)
        rotate_left
        · exact absurd q4 q5
        refine q_iconst (v := nI 0) dX7_go_73 (by decide) ?_
        refine q_putI ⟨fl_RX7_191, rfl, rfl⟩ k356 ⟨rfl, rfl⟩ dX7_go_74 ?_
        have m6 : q_up (q_up N 356 11 (nI 0)) 356 12 (nI 0) 356 7 = nI e := (q_up_n (by omega)).trans ((q_up_n (by omega)).trans n7)
        have m11 : q_up (q_up N 356 11 (nI 0)) 356 12 (nI 0) 356 11 = nI 0 := (q_up_n (by omega)).trans q_up_s
        have mR : RS (q_up (q_up N 356 11 (nI 0)) 356 12 (nI 0)) τ' := n1.up.up
        have mF : FGo I (q_up (q_up N 356 11 (nI 0)) 356 12 (nI 0)) := (nF.up (by omega)).up (by omega)
        generalize q_up (q_up N 356 11 (nI 0)) 356 12 (nI 0) = L at m6 m11 mR mF ⊢
        refine q_aload_n dX7_go_77 rfl ?_
        refine q_aload_n dX7_go_78 rfl ?_
        refine q_getI fl_RX7_185 rfl k356 m11 dX7_go_79 ?_
        refine q_if_neN (tgt := 92) (by omega) dX7_go_82 (by decide) (fun q6 => ?_) (fun q6 => ?_)
        · omega
        refine q_aload_n dX7_go_85 rfl ?_
        refine q_getI fl_RX7_194 rfl k356 m6 dX7_go_86 ?_
        refine q_goto (tgt := 96) dX7_go_89 (by decide) ?_
        refine q_putI ⟨fl_RX7_188, rfl, rfl⟩ k356 ⟨rfl, rfl⟩ dX7_go_96 ?_
        refine q_iinc (ls' := [_, _, _]) dX7_go_99 rfl (nI_add _ 1) rfl ?_
        refine q_goto (tgt := 17) dX7_go_102 (by decide) ?_
        exact ih e (n + 1) _ τ' _ (by omega) hend.2 mR.up g1 (by omega) q_up_s ((q_up_n (by omega)).trans m11) (mF.up (by omega))
      · rw [if_pos (Int32.not_le.mp q4)]
        refine q_iconst (v := nI 2) dX7_go_56 (by decide) ?_
        refine q_goto (tgt := 61) dX7_go_57 (by decide) ?_
        refine q_putI ⟨fl_RX7_185, rfl, rfl⟩ k356 ⟨rfl, rfl⟩ dX7_go_61 ?_
        refine q_aload_n dX7_go_64 rfl ?_
        refine q_iload_n dX7_go_65 rfl ?_
        refine q_if_ge (tgt := 73) dX7_go_66 (by decide) (fun q5 => ?_) (fun q5 => ?_)
        · exact absurd q5 q4
        refine q_iload_n dX7_go_69 rfl ?_
        refine q_goto (tgt := 74) dX7_go_70 (by decide) ?_
        refine q_putI ⟨fl_RX7_191, rfl, rfl⟩ k356 ⟨rfl, rfl⟩ dX7_go_74 ?_
        exact stop _ τ' n 2 x _ (by omega) (by omega) ((q_up_n (by omega)).trans q_up_s) ((q_up_n (by omega)).trans ((q_up_n (by omega)).trans n6)) q_up_s n1.up.up ((nF.up (by omega)).up (by omega))
  refine q_M.of pnX7_go (by simp [Value.category]) (Nat.le_of_ble_eq_true rfl) ?_
  refine q_aload_n dX7_go_0 rfl ?_
  refine q_iconst (v := nI 0) dX7_go_1 (by decide) ?_
  refine q_putI ⟨fl_RX7_188, rfl, rfl⟩ k356 ⟨rfl, rfl⟩ dX7_go_2 ?_
  refine q_aload_n dX7_go_5 rfl ?_
  refine q_iconst (v := nI 0) dX7_go_6 (by decide) ?_
  refine q_putI ⟨fl_RX7_185, rfl, rfl⟩ k356 ⟨rfl, rfl⟩ dX7_go_7 ?_
  refine q_aload_n dX7_go_10 rfl ?_
  refine q_iconst (v := nI 0) dX7_go_11 (by decide) ?_
  refine q_putI ⟨fl_RX7_191, rfl, rfl⟩ k356 ⟨rfl, rfl⟩ dX7_go_12 ?_
  refine q_iconst (v := nI 0) dX7_go_15 (by decide) ?_
  refine q_istore_n (ls' := [_, _, _]) dX7_go_16 (Nat.le_of_ble_eq_true rfl) rfl ?_
  exact key 60 0 0 _ σ _ (by omega) (Nat.zero_le _) h.up.up.up hs (by omega) ((q_up_n (by omega)).trans ((q_up_n (by omega)).trans q_up_s)) ((q_up_n (by omega)).trans q_up_s) (((FGo.rf.up (by omega)).up (by omega)).up (by omega))
/-- behind the playing of a text -/
theorem MG.go {I J K : q_Mem} {σ : q_S} {hs : List q_S} {t : List Nat} (h : MG I σ hs t) (hB : sB σ) (p1 : ∀ i, i < 554 → J 358 i = I 357 i) (p2 : FM 358 I J) (g : FGo J K) : RM 358 0 K σ ∧ MH K hs ∧ MT K t ∧ FR I K := by
  have hs1 := h.side p2
  have e : ∀ a, ¬ a = 356 → ¬ a = 357 → ¬ a = 361 → K a = J a := fun a a1 a2 a3 => funext fun j => g a j a2 a3 (by omega)
  refine ⟨RM.fr (RM.cp (a := 357) (o := 0) (b := 358) (u := 0) h.1 hB (fun i hi => by rw [Nat.zero_add]; exact p1 i hi)) (e 358 (by omega) (by omega) (by omega)), hs1.2.1.fr (g 356 3 (by omega) (by omega) (by omega)) (e 359 (by omega) (by omega) (by omega)), g.mt hs1.2.2, (FR.of p2 (by omega) (by omega)).tr (fun a ha => e a (by omega) (by omega) (by omega))⟩
theorem r_fault {w : Int32} {I : q_Mem} {σ : q_S} {hs : List q_S} {t : List Nat} (h : MG I σ hs t) (hs1 : sok σ) (ht : tok t) (hn : sG σ 0 < 2 ^ 29) : q_M kX7_fault [.ref 356, .int w] I (fun v J => v = some (.int (qFault σ t w)) ∧ MG J σ hs t ∧ FR I J) := by
  have hw := hs1.1
  refine q_M.of pnX7_fault (by simp [Value.category]) (Nat.le_of_ble_eq_true rfl) ?_
  refine q_iload_n dX7_fault_0 rfl ?_
  refine q_iconst (v := nI 0) dX7_fault_1 (by decide) ?_
  refine q_iconst (v := nI 2) dX7_fault_2 (by decide) ?_
  refine q_cS (as := [_, _, _]) lk_RX7_32 r_in rfl (by decide) (Nat.le_of_ble_eq_true rfl) dX7_fault_3 ?_
  rintro v J ⟨rfl, rfl⟩
  by_cases hwc : isC 3 w
  case neg =>
    rw [if_neg (show ¬ (nI 0 ≤ w ∧ w ≤ nI 2) from fun z => hwc ((isC_le (by omega)).mpr z)), qFault, if_neg hwc]
    refine q_if_ne (tgt := 12) dX7_fault_6 (by decide) (fun q => ?_) (fun q => ?_)
    · exact absurd rfl q
    · refine q_ldc (v := -1000001) ct_RX7_109 dX7_fault_9 ?_
      exact q_iret rfl rfl dX7_fault_11 ⟨rfl, h, FR.rf⟩
  rw [if_pos (show nI 0 ≤ w ∧ w ≤ nI 2 from (isC_le (by omega)).mp hwc), qFault, if_pos hwc]
  refine q_if_ne (tgt := 12) dX7_fault_6 (by decide) (fun q => ?_) (fun q => ?_)
  rotate_left
  · exact absurd q (by decide)
  refine q_aload_n dX7_fault_12 rfl ?_
  refine q_cV (as := []) lk_RX7_131 r_putAside (Or.inl ⟨6, by decide, k356, rfl⟩) rfl (by decide) (Nat.le_of_ble_eq_true rfl) dX7_fault_13 ?_
  rintro v J ⟨rfl, p1, p2⟩
  have g0 := h.side p2
  refine q_aload_n dX7_fault_16 rfl ?_
  refine q_cV (as := []) lk_RX7_225 (r_go g0.1 hs1 ht g0.2.2 hn) (Or.inl ⟨6, by decide, k356, rfl⟩) rfl (by decide) (Nat.le_of_ble_eq_true rfl) dX7_fault_17 ?_
  obtain ⟨-, -, -, p4, -⟩ := ply_ok t 60 0 0 σ hs1 (by omega)
  generalize ply t 60 0 0 σ = r at p4 ⊢
  rintro v K ⟨⟨n, rfl, -⟩, k1, k2, k3, k4⟩
  obtain ⟨a1, a2, a3, a4⟩ := h.go hw.B p1 p2 k4
  refine q_istore_n (ls' := [_, _, _]) dX7_fault_20 (Nat.le_of_ble_eq_true rfl) rfl ?_
  refine q_aload_n dX7_fault_21 rfl ?_
  refine q_cV (as := []) lk_RX7_25 r_putBack (Or.inl ⟨6, by decide, k356, rfl⟩) rfl (by decide) (Nat.le_of_ble_eq_true rfl) dX7_fault_22 ?_
  rintro v L ⟨rfl, b1, b2⟩
  have hG : MG L σ hs t := ⟨a1.cp hw.B (fun i hi => by rw [Nat.zero_add]; exact b1 i hi), a2.fr (congrFun (b2 356 (by omega)) 3) (b2 359 (by omega)), a3.fr (congrFun (b2 356 (by omega)) 5) (b2 360 (by omega))⟩
  have hF : FR I L := a4.tr (FR.of b2 (by omega) (by omega))
  have l11 : L 356 11 = nI r.2.2.1 := (congrFun (b2 356 (by omega)) 11).trans k2
  refine q_aload_n dX7_fault_25 rfl ?_
  refine q_getI fl_RX7_185 rfl k356 l11 dX7_fault_26 ?_
  refine q_if_neN (tgt := 37) (by omega) dX7_fault_29 (by decide) (fun q2 => ?_) (fun q2 => ?_)
  rotate_left
  · rw [if_pos q2]
    refine q_ldc (v := -1000004) ct_RX7_157 dX7_fault_32 ?_
    refine q_goto (tgt := 64) dX7_fault_34 (by decide) ?_
    exact q_iret rfl rfl dX7_fault_64 ⟨rfl, hG, hF⟩
  rw [if_neg q2]
  obtain ⟨k6, k12⟩ := k3 q2
  have l6 : L 356 6 = nI r.2.2.2.1 := (congrFun (b2 356 (by omega)) 6).trans k6
  have l12 : L 356 12 = r.2.2.2.2 := (congrFun (b2 356 (by omega)) 12).trans k12
  obtain ⟨j, hj, rfl⟩ := (isC_iff (by omega)).mp hwc
  have hjc : j = 0 ∨ j = 1 ∨ j = 2 := by omega
  refine q_iload_n dX7_fault_37 rfl ?_
  rcases hjc with rfl | rfl | rfl
  · refine q_if_neN (tgt := 48) (by omega) dX7_fault_38 (by decide) (fun q3 => ?_) (fun q3 => ?_)
    · omega
    refine q_aload_n dX7_fault_41 rfl ?_
    refine q_getI fl_RX7_188 rfl k356 l6 dX7_fault_42 ?_
    refine q_goto (tgt := 64) dX7_fault_45 (by decide) ?_
    exact q_iret rfl rfl dX7_fault_64 ⟨rfl, hG, hF⟩
  · refine q_if_neN (tgt := 48) (by omega) dX7_fault_38 (by decide) (fun q3 => ?_) (fun q3 => ?_)
    rotate_left
    · omega
    refine q_iload_n dX7_fault_48 rfl ?_
    refine q_iconst (v := nI 1) dX7_fault_49 (by decide) ?_
    refine q_icmp_neN (tgt := 60) (by omega) (by omega) dX7_fault_50 (by decide) (fun q4 => ?_) (fun q4 => ?_)
    · omega
    refine q_aload_n dX7_fault_53 rfl ?_
    refine q_getI fl_RX7_185 rfl k356 l11 dX7_fault_54 ?_
    refine q_goto (tgt := 64) dX7_fault_57 (by decide) ?_
    exact q_iret rfl rfl dX7_fault_64 ⟨rfl, hG, hF⟩
  · refine q_if_neN (tgt := 48) (by omega) dX7_fault_38 (by decide) (fun q3 => ?_) (fun q3 => ?_)
    rotate_left
    · omega
    refine q_iload_n dX7_fault_48 rfl ?_
    refine q_iconst (v := nI 1) dX7_fault_49 (by decide) ?_
    refine q_icmp_neN (tgt := 60) (by omega) (by omega) dX7_fault_50 (by decide) (fun q4 => ?_) (fun q4 => ?_)
    rotate_left
    · omega
    refine q_aload_n dX7_fault_60 rfl ?_
    refine q_getI fl_RX7_191 rfl k356 l12 dX7_fault_61 ?_
    exact q_iret rfl rfl dX7_fault_64 ⟨rfl, hG, hF⟩
theorem r_play {I : q_Mem} {σ : q_S} {hs : List q_S} {t : List Nat} (h : MG I σ hs t) (hs1 : sok σ) (hss : ∀ τ, τ ∈ hs → sok τ) (ht : tok t) (hn : sG σ 0 < 2 ^ 29) : q_M kX7_play [.ref 356] I (fun v J => v = some (.int (qPlay σ t).1) ∧ MG J (qPlay σ t).2 (hst (qPlay σ t).1 σ hs) t ∧ FR I J) := by
  have hw := hs1.1
  refine q_M.of pnX7_play (by simp [Value.category]) (Nat.le_of_ble_eq_true rfl) ?_
  refine q_aload_n dX7_play_0 rfl ?_
  refine q_cV (as := []) lk_RX7_131 r_putAside (Or.inl ⟨6, by decide, k356, rfl⟩) rfl (by decide) (Nat.le_of_ble_eq_true rfl) dX7_play_1 ?_
  rintro v J ⟨rfl, p1, p2⟩
  have g0 := h.side p2
  refine q_aload_n dX7_play_4 rfl ?_
  refine q_cV (as := []) lk_RX7_225 (r_go g0.1 hs1 ht g0.2.2 hn) (Or.inl ⟨6, by decide, k356, rfl⟩) rfl (by decide) (Nat.le_of_ble_eq_true rfl) dX7_play_5 ?_
  obtain ⟨p3, -, pn, p4, -⟩ := ply_ok t 60 0 0 σ hs1 (by omega)
  unfold qPlay
  generalize ply t 60 0 0 σ = r at p3 pn p4 ⊢
  rintro v K ⟨⟨n, rfl, hnr⟩, k1, k2, k3, k4⟩
  obtain ⟨a1, a2, a3, a4⟩ := h.go hw.B p1 p2 k4
  refine q_istore_n (ls' := [_, _]) dX7_play_8 (Nat.le_of_ble_eq_true rfl) rfl ?_
  refine q_aload_n dX7_play_9 rfl ?_
  refine q_aload_n dX7_play_10 rfl ?_
  refine q_getI fl_RX7_185 rfl k356 k2 dX7_play_11 ?_
  refine q_if_neN (tgt := 21) (by omega) dX7_play_14 (by decide) (fun q => ?_) (fun q => ?_)
  · rw [if_neg q]
    refine q_ldc (v := -1000002) ct_RX7_110 dX7_play_21 ?_
    refine q_cV (as := [_]) lk_RX7_134 (r_change k1 a1 p3.1.B hw.B a2 a3 (fun τ hτ => (hss τ hτ).1.B)) (Or.inl ⟨6, by decide, k356, rfl⟩) rfl (by decide) (Nat.le_of_ble_eq_true rfl) dX7_play_23 ?_
    rintro v L ⟨rfl, b1, b2⟩
    refine q_iret rfl rfl dX7_play_26 ⟨rfl, ?_, a4.tr b2⟩
    rw [if_pos (by decide)] at b1
    exact b1
  · rw [if_pos q]
    have e := hnr q
    subst e
    refine q_iload_n dX7_play_17 rfl ?_
    refine q_goto (tgt := 23) dX7_play_18 (by decide) ?_
    refine q_cV (as := [_]) lk_RX7_134 (r_change k1 a1 p3.1.B hw.B a2 a3 (fun τ hτ => (hss τ hτ).1.B)) (Or.inl ⟨6, by decide, k356, rfl⟩) rfl (by decide) (Nat.le_of_ble_eq_true rfl) dX7_play_23 ?_
    rintro v L ⟨rfl, b1, b2⟩
    refine q_iret rfl rfl dX7_play_26 ⟨rfl, ?_, a4.tr b2⟩
    rw [if_neg (nn (by omega))] at b1
    exact b1
