/-! the class's season: its people's changes, the next term, copies -/
theorem c_setWishesS {b p w1 w2 w3 : Nat} {I : q_Mem} {σ : q_S} (hk : q_kd b = 3) (h : RC b I σ) (hp : p < 30) : q_M kX2_setWishes [.ref (b + 20 + p), .int (enc w1), .int (enc w2), .int (enc w3)] I (fun v J => v = none ∧ RC b J (sSetW σ p w1 w2 w3) ∧ FC b I J) := by
  refine (c_setWishes (kSP hk hp)).mono ?_
  rintro v J ⟨rfl, rfl⟩
  have hF : FC b I I := FC.rf
  exact ⟨rfl, ((h.P (j := 1) (x := enc w1) (v := w1) hp (by omega) rfl).P (j := 2) (x := enc w2) (v := w2) hp (by omega) rfl).P (j := 3) (x := enc w3) (v := w3) hp (by omega) rfl, ((hF.up (by omega) (by omega)).up (by omega) (by omega)).up (by omega) (by omega)⟩
theorem c_addPerson {b : Nat} {x y z : Int32} {I : q_Mem} {σ : q_S} (hk : q_kd b = 3) (h : RC b I σ) (hw : WFc σ) (hG : sG σ 1 ≤ 1) : q_M kX3_addPerson [.ref b, .int x, .int y, .int z] I (fun v J => v = some (.int (opJoin σ x y z).1) ∧ RC b J (opJoin σ x y z).2 ∧ FC b I J) := by
  have h8 := hw.B.1
  have hP30 : sN σ 2 ≤ 30 := hw.B.2.2.1
  refine q_M.of pnX3_addPerson (by simp [Value.category]) (Nat.le_of_ble_eq_true rfl) ?_
  refine q_aload_n dX3_addPerson_0 rfl ?_
  refine q_iload_n dX3_addPerson_1 rfl ?_
  refine q_iload_n dX3_addPerson_2 rfl ?_
  refine q_iload_n dX3_addPerson_3 rfl ?_
  refine q_cV (as := [_, _, _]) lk_RX3_97 (c_areWishes hk h hw.B.1) ⟨3, by decide, by assumption, rfl⟩ rfl (by decide) (Nat.le_of_ble_eq_true rfl) dX3_addPerson_4 ?_
  rintro v J ⟨rfl, rfl⟩
  by_cases hwok : wokI (sN σ 0) x y z
  case neg =>
    have ho : opJoin σ x y z = (-1000001, σ) := by rw [opJoin, if_pos hwok]
    rw [if_neg hwok]
    refine q_if_ne (tgt := 13) dX3_addPerson_7 (by decide) (fun q => ?_) (fun q => ?_)
    · exact absurd rfl q
    refine q_ldc (v := -1000001) ct_RX3_89 dX3_addPerson_10 ?_
    exact q_iret rfl rfl dX3_addPerson_12 ⟨by rw [ho], by rw [ho]; exact h, FC.rf⟩
  rw [if_pos hwok]
  refine q_if_ne (tgt := 13) dX3_addPerson_7 (by decide) (fun q => ?_) (fun q => ?_)
  · refine q_aload_n dX3_addPerson_13 rfl ?_
    refine q_getI fl_RX3_63 rfl (by assumption) (h.g (j := 1) (by omega)) dX3_addPerson_14 ?_
    refine q_if_eqN (tgt := 23) (by omega) dX3_addPerson_17 (by decide) (fun h5 => ?_) (fun h5 => ?_)
    · refine q_aload_n dX3_addPerson_23 rfl ?_
      refine q_getI fl_RX3_54 rfl (by assumption) (h.n (j := 2) (by omega)) dX3_addPerson_24 ?_
      refine q_iconst (v := nI 0) dX3_addPerson_27 (by decide) ?_
      refine q_aload_n dX3_addPerson_28 rfl ?_
      refine q_getR fl_RX3_19 rfl (by assumption) dX3_addPerson_29 ?_
      refine q_lenP hk rfl dX3_addPerson_32 ?_
      refine q_iconst (v := nI 1) dX3_addPerson_33 (by decide) ?_
      refine q_isub dX3_addPerson_34 ?_
      rw [show nI 30 - nI 1 = nI 29 from rfl]
      refine q_cN (as := [_, _, _]) (host := RX6) lk_RX3_85 (fun _ h => h) c_isOutside rfl (by decide) (Nat.le_of_ble_eq_true rfl) dX3_addPerson_35 ?_
      rintro v J ⟨rfl, rfl⟩
      by_cases hn : sN σ 2 = 30
      · have ho : opJoin σ x y z = (-1000003, σ) := by rw [opJoin, if_neg (fun q => q hwok), if_neg (by omega), if_pos hn]
        rw [if_neg (fun q => by have := (nI_leI (by omega) (by omega)).mp q.2; omega)]
        refine q_if_eq (tgt := 45) dX3_addPerson_38 (by decide) (fun h6 => ?_) (fun h6 => ?_)
        · exact absurd h6 (by decide)
        refine q_null dX3_addPerson_41 ?_
        refine q_goto (tgt := 54) dX3_addPerson_42 (by decide) ?_
        refine q_astoreN (ls' := [_, _, _, _, _]) dX3_addPerson_54 (Nat.le_of_ble_eq_true rfl) rfl ?_
        refine q_aloadN dX3_addPerson_56 rfl ?_
        refine q_ifnonnullN dX3_addPerson_58 ?_
        refine q_ldc (v := -1000003) ct_RX3_91 dX3_addPerson_61 ?_
        exact q_iret rfl rfl dX3_addPerson_63 ⟨by rw [ho], by rw [ho]; exact h, FC.rf⟩
      · have ho : opJoin σ x y z = (nI (sN σ 2), sset 1000 (sAddP σ (dcd x) (dcd y) (dcd z))) := by
          rw [opJoin, if_neg (fun q => q hwok), if_neg (by omega), if_neg hn]
        obtain ⟨⟨ex, wx1, wx2⟩, ⟨ey, wy⟩, ⟨ez, wz⟩, wyz⟩ := wok_dcd (by omega) hwok
        have hlt : sN σ 2 < 30 := by omega
        have hwa := hw.addP hlt ⟨wx1, wx2⟩ wy wz wyz
        rw [if_pos ⟨nI_le (Nat.zero_le _) (by omega), nI_le (by omega) (by omega)⟩, ho]
        unfold sAddP at hwa ⊢
        generalize dcd x = a at ex hwa ⊢
        generalize dcd y = a2 at ey hwa ⊢
        generalize dcd z = a3 at ez hwa ⊢
        subst ex ey ez
        have hkp := kSP hk hlt
        have hnp := h.n (j := 2) (by omega)
        generalize hpp : sN σ 2 = p at hlt hkp hwa hnp ⊢
        refine q_if_eq (tgt := 45) dX3_addPerson_38 (by decide) (fun h6 => ?_) (fun h6 => ?_)
        · refine q_aload_n dX3_addPerson_45 rfl ?_
          refine q_getR fl_RX3_19 rfl (by assumption) dX3_addPerson_46 ?_
          refine q_aload_n dX3_addPerson_49 rfl ?_
          refine q_getI fl_RX3_54 rfl (by assumption) hnp dX3_addPerson_50 ?_
          refine q_aaldP hk rfl hlt dX3_addPerson_53 ?_
          refine q_astore (ls' := [_, _, _, _, _]) dX3_addPerson_54 (Nat.le_of_ble_eq_true rfl) rfl ?_
          refine q_aload dX3_addPerson_56 rfl ?_
          refine q_ifnonnull (tgt := 64) dX3_addPerson_58 (by decide) ?_
          refine q_aload dX3_addPerson_64 rfl ?_
          refine q_iload_n dX3_addPerson_66 rfl ?_
          refine q_iload_n dX3_addPerson_67 rfl ?_
          refine q_iload_n dX3_addPerson_68 rfl ?_
          refine q_cV (as := [_, _, _]) lk_RX3_100 (c_setWishesS hk h hlt) ⟨2, by decide, by assumption, rfl⟩ rfl (by decide) (Nat.le_of_ble_eq_true rfl) dX3_addPerson_69 ?_
          rintro v J ⟨rfl, h, hF⟩
          refine q_aload dX3_addPerson_72 rfl ?_
          refine q_iconst (v := nI 1) dX3_addPerson_74 (by decide) ?_
          refine q_putI ⟨fl_RX3_104, rfl, rfl⟩ (by assumption) ((by decide)) dX3_addPerson_75 ?_
          have h : RC b (q_up J (b + 20 + p) 1 (nI 1)) (uP (sSetW σ p a a2 a3) p 0 1) := h.P (j := 0) hlt (by omega) rfl
          have hF := hF.up (a := b + 20 + p) (j := 1) (x := nI 1) (by omega) (by omega)
          generalize q_up J (b + 20 + p) 1 (nI 1) = J1 at h hF ⊢
          refine q_aload_n dX3_addPerson_78 rfl ?_
          refine q_dup dX3_addPerson_79 rfl ?_
          refine q_getI fl_RX3_54 rfl (by assumption) ((h.n (j := 2) (by omega)).trans (congrArg nI hpp)) dX3_addPerson_80 ?_
          refine q_iconst (v := nI 1) dX3_addPerson_83 (by decide) ?_
          refine q_iadd dX3_addPerson_84 ?_
          rw [nI_add]
          refine q_putI ⟨fl_RX3_54, rfl, rfl⟩ (by assumption) ⟨rfl, rfl⟩ dX3_addPerson_85 ?_
          have h : RC b (q_up J1 b 4 (nI (p + 1))) (uN (uP (sSetW σ p a a2 a3) p 0 1) 2 (p + 1)) := h.N (j := 2) (by omega) rfl
          have hF := hF.up (a := b) (j := 4) (x := nI (p + 1)) (by omega) (by omega)
          generalize q_up J1 b 4 (nI (p + 1)) = J2 at h hF ⊢
          refine q_aload_n dX3_addPerson_88 rfl ?_
          refine q_cV (as := []) lk_RX3_107 (c_settle hk h hwa) ⟨3, by decide, by assumption, rfl⟩ rfl (by decide) (Nat.le_of_ble_eq_true rfl) dX3_addPerson_89 ?_
          rintro v J3 ⟨rfl, h, hF3⟩
          refine q_aload dX3_addPerson_92 rfl ?_
          refine q_getI fl_RX3_110 rfl (by assumption) (h.pn hlt) dX3_addPerson_94 ?_
          exact q_iret rfl rfl dX3_addPerson_97 ⟨rfl, h, hF.tr hF3⟩
        · exact absurd rfl h6
    · have ho : opJoin σ x y z = (-1000002, σ) := by rw [opJoin, if_neg (fun q => q hwok), if_pos (by omega)]
      refine q_ldc (v := -1000002) ct_RX3_90 dX3_addPerson_20 ?_
      exact q_iret rfl rfl dX3_addPerson_22 ⟨by rw [ho], by rw [ho]; exact h, FC.rf⟩
  · exact absurd q (by decide)
theorem c_changeWishes {b : Nat} {p x y z : Int32} {I : q_Mem} {σ : q_S} (hk : q_kd b = 3) (h : RC b I σ) (hw : WFc σ) (hG : sG σ 1 ≤ 1) : q_M kX3_changeWishes [.ref b, .int p, .int x, .int y, .int z] I (fun v J => v = some (.int (opWish σ p x y z).1) ∧ RC b J (opWish σ p x y z).2 ∧ FC b I J) := by
  have h8 := hw.B.1
  have hP30 : sN σ 2 ≤ 30 := hw.B.2.2.1
  have hi : isC (sN σ 2) p ↔ ∃ c, c < sN σ 2 ∧ p = nI c := isC_iff (by omega)
  have bad : (¬ isC (sN σ 2) p ∨ ¬ wokI (sN σ 0) x y z) → ∀ o5, q_X kX3_changeWishes 23 [some (.ref b), some (.int p), some (.int x), some (.int y), some (.int z), o5] [] I (fun v J => v = some (.int (opWish σ p x y z).1) ∧ RC b J (opWish σ p x y z).2 ∧ FC b I J) := by
    intro hb o5
    have ho : opWish σ p x y z = (-1000001, σ) := by rw [opWish, if_pos hb]
    refine q_ldc (v := -1000001) ct_RX3_89 dX3_changeWishes_23 ?_
    exact q_iret rfl rfl dX3_changeWishes_25 ⟨by rw [ho], by rw [ho]; exact h, FC.rf⟩
  refine q_M.of pnX3_changeWishes (by simp [Value.category]) (Nat.le_of_ble_eq_true rfl) ?_
  refine q_aload_n dX3_changeWishes_0 rfl ?_
  refine q_iload_n dX3_changeWishes_1 rfl ?_
  refine q_cV (as := [_]) lk_RX3_111 (c_personAt hk h hP30) ⟨3, by decide, by assumption, rfl⟩ rfl (by decide) (Nat.le_of_ble_eq_true rfl) dX3_changeWishes_2 ?_
  rintro v J ⟨rfl, ⟨c, hc, hx, rfl⟩ | ⟨hx, rfl⟩⟩
  case inr =>
    refine q_astoreN (ls' := [_, _, _, _, _, _]) dX3_changeWishes_5 (Nat.le_of_ble_eq_true rfl) rfl ?_
    refine q_aloadN dX3_changeWishes_7 rfl ?_
    refine q_ifnullN (tgt := 23) dX3_changeWishes_9 (by decide) ?_
    exact bad (Or.inl (fun z => by obtain ⟨c, hc, e⟩ := hi.mp z; exact hx c hc e)) _
  have hpc : isC (sN σ 2) p := hi.mpr ⟨c, hc, hx⟩
  refine q_astore (ls' := [_, _, _, _, _, _]) dX3_changeWishes_5 (Nat.le_of_ble_eq_true rfl) rfl ?_
  refine q_aload dX3_changeWishes_7 rfl ?_
  refine q_ifnull dX3_changeWishes_9 ?_
  refine q_aload_n dX3_changeWishes_12 rfl ?_
  refine q_iload_n dX3_changeWishes_13 rfl ?_
  refine q_iload_n dX3_changeWishes_14 rfl ?_
  refine q_iload dX3_changeWishes_15 rfl ?_
  refine q_cV (as := [_, _, _]) lk_RX3_97 (c_areWishes hk h hw.B.1) ⟨3, by decide, by assumption, rfl⟩ rfl (by decide) (Nat.le_of_ble_eq_true rfl) dX3_changeWishes_17 ?_
  rintro v J ⟨rfl, rfl⟩
  by_cases hwok : wokI (sN σ 0) x y z
  case neg =>
    rw [if_neg hwok]
    refine q_if_ne (tgt := 26) dX3_changeWishes_20 (by decide) (fun q => ?_) (fun q => ?_)
    · exact absurd rfl q
    · exact bad (Or.inr hwok) _
  rw [if_pos hwok]
  subst hx
  have hc30 : c < 30 := by omega
  have hkp := kSP hk hc30
  have h01 := (hw.pr c).1
  refine q_if_ne (tgt := 26) dX3_changeWishes_20 (by decide) (fun q => ?_) (fun q => ?_)
  · have no : (sG σ 1 = 1 ∨ sP σ c 0 = 0) → ∀ o5, q_X kX3_changeWishes 41 [some (.ref b), some (.int (nI c)), some (.int x), some (.int y), some (.int z), o5] [] I (fun v J => v = some (.int (opWish σ (nI c) x y z).1) ∧ RC b J (opWish σ (nI c) x y z).2 ∧ FC b I J) := by
      intro hb o5
      have ho : opWish σ (nI c) x y z = (-1000002, σ) := by rw [opWish, if_neg (fun q => q.elim (fun z => z hpc) (fun z => z hwok)), if_pos (by rw [nI_clamp (by omega)]; exact hb)]
      refine q_ldc (v := -1000002) ct_RX3_90 dX3_changeWishes_41 ?_
      exact q_iret rfl rfl dX3_changeWishes_43 ⟨by rw [ho], by rw [ho]; exact h, FC.rf⟩
    refine q_aload_n dX3_changeWishes_26 rfl ?_
    refine q_getI fl_RX3_63 rfl (by assumption) (h.g (j := 1) (by omega)) dX3_changeWishes_27 ?_
    refine q_if_neN (tgt := 41) (by omega) dX3_changeWishes_30 (by decide) (fun h5 => ?_) (fun h5 => ?_)
    · exact no (Or.inl (by omega)) _
    refine q_aload dX3_changeWishes_33 rfl ?_
    refine q_getI fl_RX3_104 rfl (by assumption) (h.p hc30 (j := 0) (by omega)) dX3_changeWishes_35 ?_
    rw [show penc 0 (sP σ c 0) = nI (sP σ c 0) from rfl]
    refine q_if_neN (tgt := 44) (by omega) dX3_changeWishes_38 (by decide) (fun h6 => ?_) (fun h6 => ?_)
    · have ho : opWish σ (nI c) x y z = (nI (srank (sset 1000 (sSetW σ c (dcd x) (dcd y) (dcd z))) c), sset 1000 (sSetW σ c (dcd x) (dcd y) (dcd z))) := by
        rw [opWish, if_neg (fun q => q.elim (fun z => z hpc) (fun z => z hwok)), nI_clamp (by omega), if_neg (by omega)]
      obtain ⟨⟨ex, wx1, wx2⟩, ⟨ey, wy⟩, ⟨ez, wz⟩, wyz⟩ := wok_dcd (by omega) hwok
      have hwa := hw.setW hc ⟨wx1, wx2⟩ wy wz wyz
      rw [ho]
      clear bad no
      generalize dcd x = a at ex hwa ⊢
      generalize dcd y = a2 at ey hwa ⊢
      generalize dcd z = a3 at ez hwa ⊢
      subst ex ey ez
      refine q_aload dX3_changeWishes_44 rfl ?_
      refine q_iload_n dX3_changeWishes_46 rfl ?_
      refine q_iload_n dX3_changeWishes_47 rfl ?_
      refine q_iload dX3_changeWishes_48 rfl ?_
      refine q_cV (as := [_, _, _]) lk_RX3_100 (c_setWishesS hk h hc30) ⟨2, by decide, by assumption, rfl⟩ rfl (by decide) (Nat.le_of_ble_eq_true rfl) dX3_changeWishes_50 ?_
      rintro v J ⟨rfl, h, hF⟩
      refine q_aload_n dX3_changeWishes_53 rfl ?_
      refine q_cV (as := []) lk_RX3_107 (c_settle hk h hwa) ⟨3, by decide, by assumption, rfl⟩ rfl (by decide) (Nat.le_of_ble_eq_true rfl) dX3_changeWishes_54 ?_
      rintro v J3 ⟨rfl, h, hF3⟩
      refine q_aload dX3_changeWishes_57 rfl ?_
      refine q_cV (as := []) lk_RX3_115 (c_rankHeldS hk h (hwa.set 1000) hc30) ⟨2, by decide, by assumption, rfl⟩ rfl (by decide) (Nat.le_of_ble_eq_true rfl) dX3_changeWishes_59 ?_
      rintro v J4 ⟨rfl, rfl⟩
      exact q_iret rfl rfl dX3_changeWishes_62 ⟨rfl, h, hF.tr hF3⟩
    · exact no (Or.inr h6) _
  · exact absurd q (by decide)
theorem WFc.leave {σ : q_S} (h : WFc σ) (p : Nat) : WFc (uP (sout σ p) p 0 0) := by
  have h4 := sout_P4 h p
  obtain ⟨hB, h2, h3, h5', h5, h6, h7, h8⟩ := h.out p
  generalize sout σ p = τ at h4 hB h2 h3 h5' h5 h6 h7 h8 ⊢
  refine ⟨hB, h2, h3, h5', fun q => ?_, fun q hq j => ?_, fun i => ⟨(h7 i).1, fun q => ?_⟩, h8⟩
  · by_cases e : q = p
    · subst e
      obtain ⟨a1, a2, a3, a4, a5, a6, a7, a8, a9, a10⟩ := h5 q
      refine ⟨?_, ?_, ?_, ?_, ?_, ?_, ?_, ?_, ?_, ?_⟩ <;> simp only [sP_mk, sN_mk, f2] <;> simp <;> first | assumption | omega
    · have e1 : f2 (sP τ) p 0 0 q = sP τ q := by
        funext j
        rw [f2_n (fun z => e z.1)]
      have := h5 q
      unfold prg at this ⊢
      rw [sP_mk, sN_mk, e1]
      exact this
  · show f2 (sP τ) p 0 0 q j = 0
    rw [f2_or]
    split
    · rfl
    · exact h6 q hq j
  · show q ∈ sL τ i ↔ f2 (sP τ) p 0 0 q 4 = i + 1
    rw [f2_n (fun z => by omega)]
    exact (h7 i).2 q
theorem c_sendAway {b : Nat} {p : Int32} {I : q_Mem} {σ : q_S} (hk : q_kd b = 3) (h : RC b I σ) (hw : WFc σ) (hG : sG σ 1 ≤ 1) : q_M kX3_sendAway [.ref b, .int p] I (fun v J => v = some (.int (opLeave σ p).1) ∧ RC b J (opLeave σ p).2 ∧ FC b I J) := by
  have h8 := hw.B.1
  have hP30 : sN σ 2 ≤ 30 := hw.B.2.2.1
  have hi : isC (sN σ 2) p ↔ ∃ c, c < sN σ 2 ∧ p = nI c := isC_iff (by omega)
  refine q_M.of pnX3_sendAway (by simp [Value.category]) (Nat.le_of_ble_eq_true rfl) ?_
  refine q_aload_n dX3_sendAway_0 rfl ?_
  refine q_iload_n dX3_sendAway_1 rfl ?_
  refine q_cV (as := [_]) lk_RX3_111 (c_personAt hk h hP30) ⟨3, by decide, by assumption, rfl⟩ rfl (by decide) (Nat.le_of_ble_eq_true rfl) dX3_sendAway_2 ?_
  rintro v J ⟨rfl, ⟨c, hc, hx, rfl⟩ | ⟨hx, rfl⟩⟩
  case inr =>
    have ho : opLeave σ p = (-1000001, σ) := by rw [opLeave, if_pos (fun z => by obtain ⟨c, hc, e⟩ := hi.mp z; exact hx c hc e)]
    refine q_astore_nN (ls' := [_, _, _, _]) dX3_sendAway_5 (Nat.le_of_ble_eq_true rfl) rfl ?_
    refine q_aload_nN dX3_sendAway_6 rfl ?_
    refine q_ifnonnullN dX3_sendAway_7 ?_
    refine q_ldc (v := -1000001) ct_RX3_89 dX3_sendAway_10 ?_
    exact q_iret rfl rfl dX3_sendAway_12 ⟨by rw [ho], by rw [ho]; exact h, FC.rf⟩
  have hpc : isC (sN σ 2) p := hi.mpr ⟨c, hc, hx⟩
  subst hx
  have hc30 : c < 30 := by omega
  have hkp := kSP hk hc30
  have h01 := (hw.pr c).1
  refine q_astore_n (ls' := [_, _, _, _]) dX3_sendAway_5 (Nat.le_of_ble_eq_true rfl) rfl ?_
  refine q_aload_n dX3_sendAway_6 rfl ?_
  refine q_ifnonnull (tgt := 13) dX3_sendAway_7 (by decide) ?_
  have no : (sG σ 1 = 1 ∨ sP σ c 0 = 0) → ∀ o2 o3, q_X kX3_sendAway 27 [some (.ref b), some (.int (nI c)), o2, o3] [] I (fun v J => v = some (.int (opLeave σ (nI c)).1) ∧ RC b J (opLeave σ (nI c)).2 ∧ FC b I J) := by
    intro hb o2 o3
    have ho : opLeave σ (nI c) = (-1000002, σ) := by rw [opLeave, if_neg (fun q => q hpc), if_pos (by rw [nI_clamp (by omega)]; exact hb)]
    refine q_ldc (v := -1000002) ct_RX3_90 dX3_sendAway_27 ?_
    exact q_iret rfl rfl dX3_sendAway_29 ⟨by rw [ho], by rw [ho]; exact h, FC.rf⟩
  refine q_aload_n dX3_sendAway_13 rfl ?_
  refine q_getI fl_RX3_63 rfl (by assumption) (h.g (j := 1) (by omega)) dX3_sendAway_14 ?_
  refine q_if_neN (tgt := 27) (by omega) dX3_sendAway_17 (by decide) (fun h5 => ?_) (fun h5 => ?_)
  · exact no (Or.inl (by omega)) _ _
  refine q_aload_n dX3_sendAway_20 rfl ?_
  refine q_getI fl_RX3_104 rfl (by assumption) (h.p hc30 (j := 0) (by omega)) dX3_sendAway_21 ?_
  rw [show penc 0 (sP σ c 0) = nI (sP σ c 0) from rfl]
  refine q_if_neN (tgt := 30) (by omega) dX3_sendAway_24 (by decide) (fun h6 => ?_) (fun h6 => ?_)
  · have ho : opLeave σ (nI c) = (nI (sP σ c 5), sset 1000 (uP (sout σ c) c 0 0)) := by
      rw [opLeave, if_neg (fun q => q hpc), nI_clamp (by omega), if_neg (by omega)]
    have hcomm : sout (uP σ c 0 0) c = uP (sout σ c) c 0 0 := by
      unfold sout
      by_cases e : sP σ c 4 = 0
      · rw [if_pos e, if_pos (by show f2 (sP σ) c 0 0 c 4 = 0; rw [f2_n (by omega)]; exact e)]
      · have e4 : f2 (sP σ) c 0 0 c 4 = sP σ c 4 := f2_n (by omega)
        have e5 : f2 (sP σ) c 0 0 c 5 = sP σ c 5 := f2_n (by omega)
        rw [if_neg e, if_neg (by show ¬ f2 (sP σ) c 0 0 c 4 = 0; rw [e4]; exact e), sP_mk, e4, e5]
        have eP : f2 (f2 (f2 (sP σ) c 0 0) c 4 0) c 5 0 = f2 (f2 (f2 (sP σ) c 4 0) c 5 0) c 0 0 := by
          funext q j
          simp only [f2_or]
          by_cases q1 : q = c
          · by_cases j0 : j = 0
            · subst j0; simp
            · by_cases j4 : j = 4
              · subst j4; simp
              · by_cases j5 : j = 5
                · subst j5; simp
                · simp [j0, j4, j5]
          · simp [q1]
        rw [eP]
    have hwl := hw.leave c
    rw [ho, ← hcomm]
    rw [← hcomm] at hwl
    refine q_aload_n dX3_sendAway_30 rfl ?_
    refine q_getI fl_RX3_119 rfl (by assumption) (h.p hc30 (j := 5) (by omega)) dX3_sendAway_31 ?_
    refine q_istore_n (ls' := [_, _, _, _]) dX3_sendAway_34 (Nat.le_of_ble_eq_true rfl) rfl ?_
    refine q_aload_n dX3_sendAway_35 rfl ?_
    refine q_iconst (v := nI 0) dX3_sendAway_36 (by decide) ?_
    refine q_putI ⟨fl_RX3_104, rfl, rfl⟩ (by assumption) ((by decide)) dX3_sendAway_37 ?_
    have h : RC b (q_up I (b + 20 + c) 1 (nI 0)) (uP σ c 0 0) := h.P (j := 0) hc30 (by omega) rfl
    have hF : FC b I (q_up I (b + 20 + c) 1 (nI 0)) := FC.rf.up (by omega) (by omega)
    generalize q_up I (b + 20 + c) 1 (nI 0) = J1 at h hF ⊢
    have e4 : sP (uP σ c 0 0) c 4 = sP σ c 4 := f2_n (by omega)
    have e5 : sP (uP σ c 0 0) c 5 = sP σ c 5 := f2_n (by omega)
    refine q_aload_n dX3_sendAway_40 rfl ?_
    refine q_aload_n dX3_sendAway_41 rfl ?_
    refine q_cV (as := [_]) lk_RX3_120 (c_goOut0 hk h hw.B.1 hw.len (fun d v hv => hw.mlt30 hv) (by rw [e4]; exact (hw.pr c).2.2.2.2.1) (by rw [e4, e5]; exact (hw.pr c).2.2.2.2.2.2.1) hc30) ⟨3, by decide, by assumption, rfl⟩ rfl (by decide) (Nat.le_of_ble_eq_true rfl) dX3_sendAway_42 ?_
    rintro v J2 ⟨rfl, h, hF2⟩
    refine q_aload_n dX3_sendAway_45 rfl ?_
    refine q_cV (as := []) lk_RX3_107 (c_settle hk h hwl) ⟨3, by decide, by assumption, rfl⟩ rfl (by decide) (Nat.le_of_ble_eq_true rfl) dX3_sendAway_46 ?_
    rintro v J3 ⟨rfl, h, hF3⟩
    refine q_iload_n dX3_sendAway_49 rfl ?_
    exact q_iret rfl rfl dX3_sendAway_50 ⟨rfl, h, (hF.tr hF2).tr hF3⟩
  · exact no (Or.inr h6) _ _
