/-! the reference: a new class and a new room -/
theorem hst_neg {x : Int32} (h : x < 0) (σ : q_S) (hs : List q_S) : hst x σ hs = hs := if_pos h
theorem kind_t : ∀ k, k < 80 → nI k - nI k / nI 4 * nI 4 = nI (k % 4) ∧ nI k / nI 4 - nI k / nI 4 / nI 4 * nI 4 = nI (k / 4 % 4) ∧ nI k / nI 16 = nI (k / 16) := by decide +kernel
/-- a new class, as far as c of its numbers stand -/
def AC (J K : q_Mem) (n c : Nat) (v : Nat → Int32) : Prop := (∀ i, ¬ i = 0 → ¬ (1 + 41 * n ≤ i ∧ i < 1 + 41 * n + c) → K 357 i = J 357 i) ∧ K 357 0 = nI (n + 1) ∧ (∀ j, j < c → K 357 (1 + 41 * n + j) = v j) ∧ FM 357 J K
theorem AC.step {J K : q_Mem} {n c : Nat} {v : Nat → Int32} {x : Int32} (h : AC J K n c v) (hx : x = v c) : AC J (q_up K 357 (1 + 41 * n + c) x) n (c + 1) v := by
  obtain ⟨h1, h2, h3, h4⟩ := h
  refine ⟨fun i hi hn => (q_up_n (by omega)).trans (h1 i hi (by omega)), (q_up_n (by omega)).trans h2, fun j hj => ?_, h4.up⟩
  by_cases e : j = c
  · subst e; rw [q_up_s, hx]
  · exact (q_up_n (by omega)).trans (h3 j (by omega))
/-- the numbers of a new class -/
def cnw (k l m f : Nat) (j : Nat) : Int32 := if j = 0 then nI (k % 4) else if j = 1 then nI (k / 4 % 4) else if j = 2 then nI (k / 16) else if j = 3 then nI l else if j = 4 then nI m else if j = 5 then nI f else if j = 6 then nI 0 else if j = 7 then -1 else if j = 8 then -1 else nI 0
theorem RS.addC {J K : q_Mem} {σ : q_S} {k l m f : Nat} (h : RS J σ) (hw : WFc σ) (hC : sN σ 0 < 8) (hK : AC J K (sN σ 0) 11 (cnw k l m f)) : RS K (sAddC σ k l m f) := by
  obtain ⟨b0, b1, b2, b3⟩ := hw.B
  obtain ⟨a1, a2, a3, a4⟩ := hK
  obtain ⟨h1, h2, h3, h4, h5, h6, h7⟩ := h
  have hz := hw.2.2.1 (sN σ 0) (Nat.le_refl _)
  have eN0 : sN (sAddC σ k l m f) 0 = sN σ 0 + 1 := by show f1 (sN σ) 0 (sN σ 0 + 1) 0 = _; exact f1_s
  have eN1 : sN (sAddC σ k l m f) 1 = sN σ 1 := by show f1 (sN σ) 0 (sN σ 0 + 1) 1 = _; exact f1_n (by omega)
  have eN2 : sN (sAddC σ k l m f) 2 = sN σ 2 := by show f1 (sN σ) 0 (sN σ 0 + 1) 2 = _; exact f1_n (by omega)
  have eL : sL (sAddC σ k l m f) = sL σ := f1_id hz.2.2
  have eC : ∀ i j, ¬ i = sN σ 0 → sC (sAddC σ k l m f) i j = sC σ i j := by
    intro i j hi
    show f2 (f2 (f2 (f2 (f2 (f2 (f2 (f2 (f2 (f2 (sC σ) _ 0 _) _ 1 _) _ 2 _) _ 3 _) _ 4 _) _ 5 _) _ 6 _) _ 9 _) _ 8 _) _ 7 _ i j = _
    simp only [f2_or, hi, false_and, if_false]
  have eK : ∀ j, sC (sAddC σ k l m f) (sN σ 0) j = if j = 0 then k % 4 else if j = 1 then k / 4 % 4 else if j = 2 then k / 16 else if j = 3 then l else if j = 4 then m else if j = 5 then f else if j = 6 then 1 else if j = 7 then 0 else if j = 8 then 0 else if j = 9 then 0 else sC σ (sN σ 0) j := by
    intro j
    show f2 (f2 (f2 (f2 (f2 (f2 (f2 (f2 (f2 (f2 (sC σ) _ 0 _) _ 1 _) _ 2 _) _ 3 _) _ 4 _) _ 5 _) _ 6 _) _ 9 _) _ 8 _) _ 7 _ (sN σ 0) j = _
    simp only [f2_or, true_and]
    by_cases j0 : j = 0
    · subst j0; rfl
    by_cases j1 : j = 1
    · subst j1; rfl
    by_cases j2 : j = 2
    · subst j2; rfl
    by_cases j3 : j = 3
    · subst j3; rfl
    by_cases j4 : j = 4
    · subst j4; rfl
    by_cases j5 : j = 5
    · subst j5; rfl
    by_cases j6 : j = 6
    · subst j6; rfl
    by_cases j7 : j = 7
    · subst j7; rfl
    by_cases j8 : j = 8
    · subst j8; rfl
    by_cases j9 : j = 9
    · subst j9; rfl
    simp only [j0, j1, j2, j3, j4, j5, j6, j7, j8, j9, if_false]
  have old : ∀ i, ¬ i = 0 → ¬ (1 + 41 * sN σ 0 ≤ i ∧ i < 1 + 41 * sN σ 0 + 11) → K 357 i = J 357 i := a1
  refine ⟨fun j hj => ?_, fun j hj => ?_, fun d hd j hj => ?_, fun d hd => ?_, fun d hd r v hr => ?_, fun p hp j hj => ?_, fun r hr => ?_⟩
  · have hj3 : j = 0 ∨ j = 1 ∨ j = 2 := by omega
    rcases hj3 with rfl | rfl | rfl
    · rw [eN0]; exact a2
    · rw [eN1]; exact (old 329 (by omega) (by omega)).trans (h1 1 (by omega))
    · rw [eN2]; exact (old 335 (by omega) (by omega)).trans (h1 2 (by omega))
  · exact (old _ (by omega) (by omega)).trans (h2 j hj)
  · rw [eN0] at hd
    by_cases e : d = sN σ 0
    · subst e
      rw [Nat.zero_add, a3 j (by omega), eK]
      have hj10 : j = 0 ∨ j = 1 ∨ j = 2 ∨ j = 3 ∨ j = 4 ∨ j = 5 ∨ j = 6 ∨ j = 7 ∨ j = 8 ∨ j = 9 := by omega
      rcases hj10 with rfl | rfl | rfl | rfl | rfl | rfl | rfl | rfl | rfl | rfl <;> rfl
    · rw [eC _ _ e]
      exact (old _ (by omega) (by omega)).trans (h3 d (by omega) j hj)
  · rw [eN0] at hd
    show K 357 _ = nI (sL (sAddC σ k l m f) d).length
    rw [eL]
    by_cases e : d = sN σ 0
    · subst e
      rw [Nat.zero_add, a3 10 (by omega), hz.2.2]
      rfl
    · exact (old _ (by omega) (by omega)).trans (h4 d (by omega))
  · rw [eN0] at hd
    rw [eL] at hr
    by_cases e : d = sN σ 0
    · subst e
      rw [hz.2.2] at hr
      cases hr
    · have := g_lt hr (b3 d)
      exact (old _ (by omega) (by omega)).trans (h5 d (by omega) r v hr)
  · rw [eN2] at hp
    exact (old _ (by omega) (by omega)).trans (h6 p hp j hj)
  · rw [eN1] at hr
    exact (old _ (by omega) (by omega)).trans (h7 r hr)
theorem r_course {k l m f : Int32} {I : q_Mem} {σ : q_S} {hs : List q_S} {t : List Nat} (h : MG I σ hs t) (hs1 : sok σ) (hss : ∀ τ, τ ∈ hs → sok τ) : q_M kX7_course [.ref 356, .int k, .int l, .int m, .int f] I (fun v J => v = some (.int (opCourse σ k l m f).1) ∧ MG J (opCourse σ k l m f).2 (hst (opCourse σ k l m f).1 σ hs) t ∧ FR I J) := by
  have hw := hs1.1
  have hG1 := hs1.2.1
  have h8 := hw.B.1
  have gd := good_course hs1 k l m f
  have bad : ¬ cokI k l m f → ∀ o5, q_X kX7_course 41 [some (.ref 356), some (.int k), some (.int l), some (.int m), some (.int f), o5] [] I (fun v J => v = some (.int (opCourse σ k l m f).1) ∧ MG J (opCourse σ k l m f).2 (hst (opCourse σ k l m f).1 σ hs) t ∧ FR I J) := by
    intro hb o5
    rw [show opCourse σ k l m f = (-1000001, σ) by rw [opCourse, if_pos hb]]
    refine q_ldc (v := -1000001) ct_RX7_109 dX7_course_41 ?_
    exact q_iret rfl rfl dX7_course_43 ⟨rfl, h, FR.rf⟩
  refine q_M.of pnX7_course (by simp [Value.category]) (Nat.le_of_ble_eq_true rfl) ?_
  refine q_iload_n dX7_course_0 rfl ?_
  refine q_iconst (v := nI 0) dX7_course_1 (by decide) ?_
  refine q_bipush (v := nI 79) dX7_course_2 (by decide) ?_
  refine q_cS (as := [_, _, _]) lk_RX7_32 r_in rfl (by decide) (Nat.le_of_ble_eq_true rfl) dX7_course_4 ?_
  rintro v J ⟨rfl, rfl⟩
  by_cases c1 : nI 0 ≤ k ∧ k ≤ nI 79
  case neg =>
    rw [if_neg c1]
    refine q_if_eq (tgt := 41) dX7_course_7 (by decide) (fun q => ?_) (fun q => ?_)
    · exact bad (fun z => c1 z.1) _
    · exact absurd rfl q
  rw [if_pos c1]
  refine q_if_eq (tgt := 41) dX7_course_7 (by decide) (fun q => ?_) (fun q => ?_)
  · exact absurd q (by decide)
  refine q_iload_n dX7_course_10 rfl ?_
  refine q_iconst (v := nI 1) dX7_course_11 (by decide) ?_
  refine q_bipush (v := nI 20) dX7_course_12 (by decide) ?_
  refine q_cS (as := [_, _, _]) lk_RX7_32 r_in rfl (by decide) (Nat.le_of_ble_eq_true rfl) dX7_course_14 ?_
  rintro v J ⟨rfl, rfl⟩
  by_cases c2 : nI 1 ≤ l ∧ l ≤ nI 20
  case neg =>
    rw [if_neg c2]
    refine q_if_eq (tgt := 41) dX7_course_17 (by decide) (fun q => ?_) (fun q => ?_)
    · exact bad (fun z => c2 z.2.1) _
    · exact absurd rfl q
  rw [if_pos c2]
  refine q_if_eq (tgt := 41) dX7_course_17 (by decide) (fun q => ?_) (fun q => ?_)
  · exact absurd q (by decide)
  refine q_iload_n dX7_course_20 rfl ?_
  refine q_iload_n dX7_course_21 rfl ?_
  refine q_bipush (v := nI 20) dX7_course_22 (by decide) ?_
  refine q_cS (as := [_, _, _]) lk_RX7_32 r_in rfl (by decide) (Nat.le_of_ble_eq_true rfl) dX7_course_24 ?_
  rintro v J ⟨rfl, rfl⟩
  by_cases c3 : l ≤ m ∧ m ≤ nI 20
  case neg =>
    rw [if_neg c3]
    refine q_if_eq (tgt := 41) dX7_course_27 (by decide) (fun q => ?_) (fun q => ?_)
    · exact bad (fun z => c3 z.2.2.1) _
    · exact absurd rfl q
  rw [if_pos c3]
  refine q_if_eq (tgt := 41) dX7_course_27 (by decide) (fun q => ?_) (fun q => ?_)
  · exact absurd q (by decide)
  refine q_iload dX7_course_30 rfl ?_
  refine q_iconst (v := nI 0) dX7_course_32 (by decide) ?_
  refine q_bipush (v := nI 99) dX7_course_33 (by decide) ?_
  refine q_cS (as := [_, _, _]) lk_RX7_32 r_in rfl (by decide) (Nat.le_of_ble_eq_true rfl) dX7_course_35 ?_
  rintro v J ⟨rfl, rfl⟩
  by_cases c4 : nI 0 ≤ f ∧ f ≤ nI 99
  case neg =>
    rw [if_neg c4]
    refine q_if_ne (tgt := 44) dX7_course_38 (by decide) (fun q => ?_) (fun q => ?_)
    · exact absurd rfl q
    · exact bad (fun z => c4 z.2.2.2) _
  rw [if_pos c4]
  refine q_if_ne (tgt := 44) dX7_course_38 (by decide) (fun q => ?_) (fun q => ?_)
  rotate_left
  · exact absurd q (by decide)
  have hok : cokI k l m f := ⟨c1, c2, c3, c4⟩
  have ho : opCourse σ k l m f = if sG σ 1 = 1 then (-1000002, σ) else if sN σ 0 = 8 then (-1000003, σ) else (nI (sN σ 0), sAddC σ k.toNatClampNeg l.toNatClampNeg m.toNatClampNeg f.toNatClampNeg) := by rw [opCourse, if_neg (fun z => z hok)]
  rw [ho]
  rw [ho] at gd
  refine q_aload_n dX7_course_44 rfl ?_
  refine q_getR2 (b := 357) fl_RX7_7 rfl k356 rfl dX7_course_45 ?_
  refine q_sipush (v := nI 547) dX7_course_48 (by decide) ?_
  refine q_iald k357 rfl (lt357 (by omega)) (by decide) (h.1.g (j := 1) (by omega)) dX7_course_51 ?_
  refine q_iconst (v := nI 1) dX7_course_52 (by decide) ?_
  refine q_icmp_neN (tgt := 59) (by omega) (by omega) dX7_course_53 (by decide) (fun q2 => ?_) (fun q2 => ?_)
  rotate_left
  · rw [if_pos q2]
    refine q_ldc (v := -1000002) ct_RX7_110 dX7_course_56 ?_
    exact q_iret rfl rfl dX7_course_58 ⟨rfl, h, FR.rf⟩
  rw [if_neg q2] at gd ⊢
  refine q_aload_n dX7_course_59 rfl ?_
  refine q_getR2 (b := 357) fl_RX7_7 rfl k356 rfl dX7_course_60 ?_
  refine q_iconst (v := nI 0) dX7_course_63 (by decide) ?_
  refine q_iald k357 rfl (lt357 (by omega)) (by decide) h.1.n0 dX7_course_64 ?_
  refine q_bipush (v := nI 8) dX7_course_65 (by decide) ?_
  refine q_icmp_neN (tgt := 73) (by omega) (by omega) dX7_course_67 (by decide) (fun q3 => ?_) (fun q3 => ?_)
  rotate_left
  · rw [if_pos q3]
    refine q_ldc (v := -1000003) ct_RX7_111 dX7_course_70 ?_
    exact q_iret rfl rfl dX7_course_72 ⟨rfl, h, FR.rf⟩
  rw [if_neg q3] at gd ⊢
  obtain ⟨k, hk, rfl⟩ := in_nat (l := nI 0) (by omega) (by decide) c1
  obtain ⟨l, hl, rfl⟩ := in_nat (l := nI 1) (by omega) (by decide) c2
  obtain ⟨m, hm, rfl⟩ := in_nat (l := nI l) (by omega) (nn (by omega)) c3
  obtain ⟨f, hf, rfl⟩ := in_nat (l := nI 0) (by omega) (by decide) c4
  rw [nI_clamp (by omega), nI_clamp (by omega), nI_clamp (by omega), nI_clamp (by omega)] at gd ⊢
  obtain ⟨kt1, kt2, kt3⟩ := kind_t k (by omega)
  have hC : sN σ 0 < 8 := by omega
  refine q_aload_n dX7_course_73 rfl ?_
  refine q_cV (as := []) lk_RX7_131 r_putAside (Or.inl ⟨6, by decide, k356, rfl⟩) rfl (by decide) (Nat.le_of_ble_eq_true rfl) dX7_course_74 ?_
  rintro v J ⟨rfl, p1, p2⟩
  have g0 : RS J σ := (h.side p2).1
  refine q_aload_n dX7_course_77 rfl ?_
  refine q_getR2 (b := 357) fl_RX7_7 rfl k356 rfl dX7_course_78 ?_
  refine q_iconst (v := nI 0) dX7_course_81 (by decide) ?_
  refine q_iald k357 rfl (lt357 (by omega)) (by decide) g0.n0 dX7_course_82 ?_
  refine q_istore (ls' := [_, _, _, _, _, _]) dX7_course_83 (Nat.le_of_ble_eq_true rfl) rfl ?_
  refine q_aload_n dX7_course_85 rfl ?_
  refine q_getR2 (b := 357) fl_RX7_7 rfl k356 rfl dX7_course_86 ?_
  refine q_iconst (v := nI 0) dX7_course_89 (by decide) ?_
  refine q_dup2 dX7_course_90 rfl rfl ?_
  refine q_iald k357 rfl (lt357 (by omega)) (by decide) g0.n0 dX7_course_91 ?_
  refine q_iconst (v := nI 1) dX7_course_92 (by decide) ?_
  refine q_iadd dX7_course_93 ?_
  rw [nI_add]
  refine q_iast k357 rfl (lt357 (by omega)) (by decide) dX7_course_94 ?_
  have g1 : AC J (q_up J 357 0 (nI (sN σ 0 + 1))) (sN σ 0) 0 (cnw k l m f) := ⟨fun i hi _ => q_up_n (by omega), q_up_s, fun j hj => absurd hj (Nat.not_lt_zero _), FM.rf.up⟩
  generalize q_up J 357 0 (nI (sN σ 0 + 1)) = K0 at g1 ⊢
  refine q_aload_n dX7_course_95 rfl ?_
  refine q_getR2 (b := 357) fl_RX7_7 rfl k356 rfl dX7_course_96 ?_
  refine q_iload dX7_course_99 rfl ?_
  refine q_iconst (v := nI 0) dX7_course_101 (by decide) ?_
  refine q_cS (as := [_, _]) lk_RX7_40 r_at rfl (by decide) (Nat.le_of_ble_eq_true rfl) dX7_course_102 ?_
  rintro v J' ⟨rfl, rfl⟩
  refine q_iload_n dX7_course_105 rfl ?_
  refine q_iconst (v := nI 4) dX7_course_106 (by decide) ?_
  refine q_irem dX7_course_107 (by decide) ?_
  rw [kt1]
  refine q_iast k357 rfl (lt357 (by omega)) (by decide) dX7_course_108 ?_
  have g2 := g1.step (x := nI (k % 4)) rfl
  generalize q_up K0 357 (1 + 41 * sN σ 0 + 0) (nI (k % 4)) = K1 at g2 ⊢
  refine q_aload_n dX7_course_109 rfl ?_
  refine q_getR2 (b := 357) fl_RX7_7 rfl k356 rfl dX7_course_110 ?_
  refine q_iload dX7_course_113 rfl ?_
  refine q_iconst (v := nI 1) dX7_course_115 (by decide) ?_
  refine q_cS (as := [_, _]) lk_RX7_40 r_at rfl (by decide) (Nat.le_of_ble_eq_true rfl) dX7_course_116 ?_
  rintro v J' ⟨rfl, rfl⟩
  refine q_iload_n dX7_course_119 rfl ?_
  refine q_iconst (v := nI 4) dX7_course_120 (by decide) ?_
  refine q_idiv dX7_course_121 (by decide) ?_
  refine q_iconst (v := nI 4) dX7_course_122 (by decide) ?_
  refine q_irem dX7_course_123 (by decide) ?_
  rw [kt2]
  refine q_iast k357 rfl (lt357 (by omega)) (by decide) dX7_course_124 ?_
  have g3 := g2.step (x := nI (k / 4 % 4)) rfl
  generalize q_up K1 357 (1 + 41 * sN σ 0 + 1) (nI (k / 4 % 4)) = K2 at g3 ⊢
  refine q_aload_n dX7_course_125 rfl ?_
  refine q_getR2 (b := 357) fl_RX7_7 rfl k356 rfl dX7_course_126 ?_
  refine q_iload dX7_course_129 rfl ?_
  refine q_iconst (v := nI 2) dX7_course_131 (by decide) ?_
  refine q_cS (as := [_, _]) lk_RX7_40 r_at rfl (by decide) (Nat.le_of_ble_eq_true rfl) dX7_course_132 ?_
  rintro v J' ⟨rfl, rfl⟩
  refine q_iload_n dX7_course_135 rfl ?_
  refine q_bipush (v := nI 16) dX7_course_136 (by decide) ?_
  refine q_idiv dX7_course_138 (by decide) ?_
  rw [kt3]
  refine q_iast k357 rfl (lt357 (by omega)) (by decide) dX7_course_139 ?_
  have g4 := g3.step (x := nI (k / 16)) rfl
  generalize q_up K2 357 (1 + 41 * sN σ 0 + 2) (nI (k / 16)) = K3 at g4 ⊢
  refine q_aload_n dX7_course_140 rfl ?_
  refine q_getR2 (b := 357) fl_RX7_7 rfl k356 rfl dX7_course_141 ?_
  refine q_iload dX7_course_144 rfl ?_
  refine q_iconst (v := nI 3) dX7_course_146 (by decide) ?_
  refine q_cS (as := [_, _]) lk_RX7_40 r_at rfl (by decide) (Nat.le_of_ble_eq_true rfl) dX7_course_147 ?_
  rintro v J' ⟨rfl, rfl⟩
  refine q_iload_n dX7_course_150 rfl ?_
  refine q_iast k357 rfl (lt357 (by omega)) (by decide) dX7_course_151 ?_
  have g5 := g4.step (x := nI l) rfl
  generalize q_up K3 357 (1 + 41 * sN σ 0 + 3) (nI l) = K4 at g5 ⊢
  refine q_aload_n dX7_course_152 rfl ?_
  refine q_getR2 (b := 357) fl_RX7_7 rfl k356 rfl dX7_course_153 ?_
  refine q_iload dX7_course_156 rfl ?_
  refine q_iconst (v := nI 4) dX7_course_158 (by decide) ?_
  refine q_cS (as := [_, _]) lk_RX7_40 r_at rfl (by decide) (Nat.le_of_ble_eq_true rfl) dX7_course_159 ?_
  rintro v J' ⟨rfl, rfl⟩
  refine q_iload_n dX7_course_162 rfl ?_
  refine q_iast k357 rfl (lt357 (by omega)) (by decide) dX7_course_163 ?_
  have g6 := g5.step (x := nI m) rfl
  generalize q_up K4 357 (1 + 41 * sN σ 0 + 4) (nI m) = K5 at g6 ⊢
  refine q_aload_n dX7_course_164 rfl ?_
  refine q_getR2 (b := 357) fl_RX7_7 rfl k356 rfl dX7_course_165 ?_
  refine q_iload dX7_course_168 rfl ?_
  refine q_iconst (v := nI 5) dX7_course_170 (by decide) ?_
  refine q_cS (as := [_, _]) lk_RX7_40 r_at rfl (by decide) (Nat.le_of_ble_eq_true rfl) dX7_course_171 ?_
  rintro v J' ⟨rfl, rfl⟩
  refine q_iload dX7_course_174 rfl ?_
  refine q_iast k357 rfl (lt357 (by omega)) (by decide) dX7_course_176 ?_
  have g7 := g6.step (x := nI f) rfl
  generalize q_up K5 357 (1 + 41 * sN σ 0 + 5) (nI f) = K6 at g7 ⊢
  refine q_aload_n dX7_course_177 rfl ?_
  refine q_getR2 (b := 357) fl_RX7_7 rfl k356 rfl dX7_course_178 ?_
  refine q_iload dX7_course_181 rfl ?_
  refine q_bipush (v := nI 6) dX7_course_183 (by decide) ?_
  refine q_cS (as := [_, _]) lk_RX7_40 r_at rfl (by decide) (Nat.le_of_ble_eq_true rfl) dX7_course_185 ?_
  rintro v J' ⟨rfl, rfl⟩
  refine q_iconst (v := nI 0) dX7_course_188 (by decide) ?_
  refine q_iast k357 rfl (lt357 (by omega)) (by decide) dX7_course_189 ?_
  have g8 := g7.step (x := nI 0) rfl
  generalize q_up K6 357 (1 + 41 * sN σ 0 + 6) (nI 0) = K7 at g8 ⊢
  refine q_aload_n dX7_course_190 rfl ?_
  refine q_getR2 (b := 357) fl_RX7_7 rfl k356 rfl dX7_course_191 ?_
  refine q_iload dX7_course_194 rfl ?_
  refine q_bipush (v := nI 7) dX7_course_196 (by decide) ?_
  refine q_cS (as := [_, _]) lk_RX7_40 r_at rfl (by decide) (Nat.le_of_ble_eq_true rfl) dX7_course_198 ?_
  rintro v J' ⟨rfl, rfl⟩
  refine q_iconst (v := -1) dX7_course_201 (by decide) ?_
  refine q_iast k357 rfl (lt357 (by omega)) (by decide) dX7_course_202 ?_
  have g9 := g8.step (x := -1) rfl
  generalize q_up K7 357 (1 + 41 * sN σ 0 + 7) (-1) = K8 at g9 ⊢
  refine q_aload_n dX7_course_203 rfl ?_
  refine q_getR2 (b := 357) fl_RX7_7 rfl k356 rfl dX7_course_204 ?_
  refine q_iload dX7_course_207 rfl ?_
  refine q_bipush (v := nI 8) dX7_course_209 (by decide) ?_
  refine q_cS (as := [_, _]) lk_RX7_40 r_at rfl (by decide) (Nat.le_of_ble_eq_true rfl) dX7_course_211 ?_
  rintro v J' ⟨rfl, rfl⟩
  refine q_iconst (v := -1) dX7_course_214 (by decide) ?_
  refine q_iast k357 rfl (lt357 (by omega)) (by decide) dX7_course_215 ?_
  have g10 := g9.step (x := -1) rfl
  generalize q_up K8 357 (1 + 41 * sN σ 0 + 8) (-1) = K9 at g10 ⊢
  refine q_aload_n dX7_course_216 rfl ?_
  refine q_getR2 (b := 357) fl_RX7_7 rfl k356 rfl dX7_course_217 ?_
  refine q_iload dX7_course_220 rfl ?_
  refine q_bipush (v := nI 9) dX7_course_222 (by decide) ?_
  refine q_cS (as := [_, _]) lk_RX7_40 r_at rfl (by decide) (Nat.le_of_ble_eq_true rfl) dX7_course_224 ?_
  rintro v J' ⟨rfl, rfl⟩
  refine q_iconst (v := nI 0) dX7_course_227 (by decide) ?_
  refine q_iast k357 rfl (lt357 (by omega)) (by decide) dX7_course_228 ?_
  have g11 := g10.step (x := nI 0) rfl
  generalize q_up K9 357 (1 + 41 * sN σ 0 + 9) (nI 0) = K10 at g11 ⊢
  refine q_aload_n dX7_course_229 rfl ?_
  refine q_getR2 (b := 357) fl_RX7_7 rfl k356 rfl dX7_course_230 ?_
  refine q_iload dX7_course_233 rfl ?_
  refine q_bipush (v := nI 10) dX7_course_235 (by decide) ?_
  refine q_cS (as := [_, _]) lk_RX7_40 r_at rfl (by decide) (Nat.le_of_ble_eq_true rfl) dX7_course_237 ?_
  rintro v J' ⟨rfl, rfl⟩
  refine q_iconst (v := nI 0) dX7_course_240 (by decide) ?_
  refine q_iast k357 rfl (lt357 (by omega)) (by decide) dX7_course_241 ?_
  have g12 := g11.step (x := nI 0) rfl
  generalize q_up K10 357 (1 + 41 * sN σ 0 + 10) (nI 0) = K11 at g12 ⊢
  refine q_aload_n dX7_course_242 rfl ?_
  refine q_iload dX7_course_243 rfl ?_
  obtain ⟨a1, a2, a3, a4⟩ := h.op hw.B p1 p2 (g0.addC hw hC g12) g12.2.2.2
  refine q_cV (as := [_]) lk_RX7_134 (r_change (g0.addC hw hC g12) a1 gd.1.1.B hw.B a2 a3 (fun τ hτ => (hss τ hτ).1.B)) (Or.inl ⟨6, by decide, k356, rfl⟩) rfl (by decide) (Nat.le_of_ble_eq_true rfl) dX7_course_245 ?_
  rintro v L ⟨rfl, b1, b2⟩
  refine q_iret rfl rfl dX7_course_248 ⟨rfl, ?_, a4.tr b2⟩
  rw [if_neg (nn (by omega))] at b1
  exact b1
/-- a new room -/
theorem RS.addR {J : q_Mem} {σ : q_S} {c : Nat} (h : RS J σ) (hB : sB σ) (hR : sN σ 1 < 5) : RS (q_up (q_up J 357 (330 + sN σ 1) (nI c)) 357 329 (nI (sN σ 1 + 1))) (sAddR σ c) := by
  obtain ⟨b0, b1, b2, b3⟩ := hB
  obtain ⟨h1, h2, h3, h4, h5, h6, h7⟩ := h
  have eN0 : sN (sAddR σ c) 0 = sN σ 0 := by show f1 (sN σ) 1 (sN σ 1 + 1) 0 = _; exact f1_n (by omega)
  have eN1 : sN (sAddR σ c) 1 = sN σ 1 + 1 := by show f1 (sN σ) 1 (sN σ 1 + 1) 1 = _; exact f1_s
  have eN2 : sN (sAddR σ c) 2 = sN σ 2 := by show f1 (sN σ) 1 (sN σ 1 + 1) 2 = _; exact f1_n (by omega)
  have old : ∀ i, ¬ i = 329 → ¬ i = 330 + sN σ 1 → q_up (q_up J 357 (330 + sN σ 1) (nI c)) 357 329 (nI (sN σ 1 + 1)) 357 i = J 357 i := fun i z1 z2 => (q_up_n (by omega)).trans (q_up_n (by omega))
  refine ⟨fun j hj => ?_, fun j hj => ?_, fun d hd j hj => ?_, fun d hd => ?_, fun d hd r v hr => ?_, fun p hp j hj => ?_, fun r hr => ?_⟩
  · have hj3 : j = 0 ∨ j = 1 ∨ j = 2 := by omega
    rcases hj3 with rfl | rfl | rfl
    · rw [eN0]; exact (old 0 (by omega) (by omega)).trans (h1 0 (by omega))
    · rw [eN1]; exact q_up_s
    · rw [eN2]; exact (old 335 (by omega) (by omega)).trans (h1 2 (by omega))
  · exact (old _ (by omega) (by omega)).trans (h2 j hj)
  · rw [eN0] at hd
    exact (old _ (by omega) (by omega)).trans (h3 d hd j hj)
  · rw [eN0] at hd
    exact (old _ (by omega) (by omega)).trans (h4 d hd)
  · rw [eN0] at hd
    have := g_lt hr (b3 d)
    exact (old _ (by omega) (by omega)).trans (h5 d hd r v hr)
  · rw [eN2] at hp
    exact (old _ (by omega) (by omega)).trans (h6 p hp j hj)
  · rw [eN1] at hr
    show _ = nI (f1 (sR σ) (sN σ 1) c r)
    by_cases e : r = sN σ 1
    · subst e
      rw [f1_s, Nat.zero_add]
      exact (q_up_n (by omega)).trans q_up_s
    · rw [f1_n e]
      exact (old _ (by omega) (by omega)).trans (h7 r (by omega))
theorem r_room {c : Int32} {I : q_Mem} {σ : q_S} {hs : List q_S} {t : List Nat} (h : MG I σ hs t) (hs1 : sok σ) (hss : ∀ τ, τ ∈ hs → sok τ) : q_M kX7_room [.ref 356, .int c] I (fun v J => v = some (.int (opRoom σ c).1) ∧ MG J (opRoom σ c).2 (hst (opRoom σ c).1 σ hs) t ∧ FR I J) := by
  have hw := hs1.1
  have hG1 := hs1.2.1
  have h5 := hw.B.2.1
  have gd := good_room hs1 c
  refine q_M.of pnX7_room (by simp [Value.category]) (Nat.le_of_ble_eq_true rfl) ?_
  refine q_iload_n dX7_room_0 rfl ?_
  refine q_iconst (v := nI 1) dX7_room_1 (by decide) ?_
  refine q_bipush (v := nI 30) dX7_room_2 (by decide) ?_
  refine q_cS (as := [_, _, _]) lk_RX7_32 r_in rfl (by decide) (Nat.le_of_ble_eq_true rfl) dX7_room_4 ?_
  rintro v J ⟨rfl, rfl⟩
  by_cases c1 : nI 1 ≤ c ∧ c ≤ nI 30
  case neg =>
    rw [if_neg c1, show opRoom σ c = (-1000001, σ) by rw [opRoom, if_pos c1]]
    refine q_if_ne (tgt := 13) dX7_room_7 (by decide) (fun q => ?_) (fun q => ?_)
    · exact absurd rfl q
    · refine q_ldc (v := -1000001) ct_RX7_109 dX7_room_10 ?_
      exact q_iret rfl rfl dX7_room_12 ⟨rfl, h, FR.rf⟩
  rw [if_pos c1]
  refine q_if_ne (tgt := 13) dX7_room_7 (by decide) (fun q => ?_) (fun q => ?_)
  rotate_left
  · exact absurd q (by decide)
  have ho : opRoom σ c = if sG σ 1 = 1 then (-1000002, σ) else if sN σ 1 = 5 then (-1000003, σ) else (nI (sN σ 1), sAddR σ c.toNatClampNeg) := by rw [opRoom, if_neg (fun z => z c1)]
  rw [ho]
  rw [ho] at gd
  refine q_aload_n dX7_room_13 rfl ?_
  refine q_getR2 (b := 357) fl_RX7_7 rfl k356 rfl dX7_room_14 ?_
  refine q_sipush (v := nI 547) dX7_room_17 (by decide) ?_
  refine q_iald k357 rfl (lt357 (by omega)) (by decide) (h.1.g (j := 1) (by omega)) dX7_room_20 ?_
  refine q_iconst (v := nI 1) dX7_room_21 (by decide) ?_
  refine q_icmp_neN (tgt := 28) (by omega) (by omega) dX7_room_22 (by decide) (fun q2 => ?_) (fun q2 => ?_)
  rotate_left
  · rw [if_pos q2]
    refine q_ldc (v := -1000002) ct_RX7_110 dX7_room_25 ?_
    exact q_iret rfl rfl dX7_room_27 ⟨rfl, h, FR.rf⟩
  rw [if_neg q2] at gd ⊢
  refine q_aload_n dX7_room_28 rfl ?_
  refine q_getR2 (b := 357) fl_RX7_7 rfl k356 rfl dX7_room_29 ?_
  refine q_sipush (v := nI 329) dX7_room_32 (by decide) ?_
  refine q_iald k357 rfl (lt357 (by omega)) (by decide) h.1.n1 dX7_room_35 ?_
  refine q_iconst (v := nI 5) dX7_room_36 (by decide) ?_
  refine q_icmp_neN (tgt := 43) (by omega) (by omega) dX7_room_37 (by decide) (fun q3 => ?_) (fun q3 => ?_)
  rotate_left
  · rw [if_pos q3]
    refine q_ldc (v := -1000003) ct_RX7_111 dX7_room_40 ?_
    exact q_iret rfl rfl dX7_room_42 ⟨rfl, h, FR.rf⟩
  rw [if_neg q3] at gd ⊢
  obtain ⟨c, hc, rfl⟩ := in_nat (l := nI 1) (by omega) (by decide) c1
  rw [nI_clamp (by omega)] at gd ⊢
  have hR : sN σ 1 < 5 := by omega
  refine q_aload_n dX7_room_43 rfl ?_
  refine q_cV (as := []) lk_RX7_131 r_putAside (Or.inl ⟨6, by decide, k356, rfl⟩) rfl (by decide) (Nat.le_of_ble_eq_true rfl) dX7_room_44 ?_
  rintro v J ⟨rfl, p1, p2⟩
  have g0 : RS J σ := (h.side p2).1
  refine q_aload_n dX7_room_47 rfl ?_
  refine q_getR2 (b := 357) fl_RX7_7 rfl k356 rfl dX7_room_48 ?_
  refine q_sipush (v := nI 330) dX7_room_51 (by decide) ?_
  refine q_aload_n dX7_room_54 rfl ?_
  refine q_getR2 (b := 357) fl_RX7_7 rfl k356 rfl dX7_room_55 ?_
  refine q_sipush (v := nI 329) dX7_room_58 (by decide) ?_
  refine q_iald k357 rfl (lt357 (by omega)) (by decide) g0.n1 dX7_room_61 ?_
  refine q_iadd dX7_room_62 ?_
  rw [nI_add]
  refine q_iload_n dX7_room_63 rfl ?_
  refine q_iast k357 rfl (lt357 (by omega)) (by decide) dX7_room_64 ?_
  have e1 : q_up J 357 (330 + sN σ 1) (nI c) 357 329 = nI (sN σ 1) := (q_up_n (by omega)).trans g0.n1
  refine q_aload_n dX7_room_65 rfl ?_
  refine q_getR2 (b := 357) fl_RX7_7 rfl k356 rfl dX7_room_66 ?_
  refine q_sipush (v := nI 329) dX7_room_69 (by decide) ?_
  refine q_dup2 dX7_room_72 rfl rfl ?_
  refine q_iald k357 rfl (lt357 (by omega)) (by decide) e1 dX7_room_73 ?_
  refine q_iconst (v := nI 1) dX7_room_74 (by decide) ?_
  refine q_iadd dX7_room_75 ?_
  rw [nI_add]
  refine q_iast k357 rfl (lt357 (by omega)) (by decide) dX7_room_76 ?_
  have g1 := g0.addR (c := c) hw.B hR
  have g2 : FM 357 J (q_up (q_up J 357 (330 + sN σ 1) (nI c)) 357 329 (nI (sN σ 1 + 1))) := FM.rf.up.up
  have e2 : q_up (q_up J 357 (330 + sN σ 1) (nI c)) 357 329 (nI (sN σ 1 + 1)) 357 329 = nI (sN σ 1 + 1) := q_up_s
  generalize q_up (q_up J 357 (330 + sN σ 1) (nI c)) 357 329 (nI (sN σ 1 + 1)) = K at g1 g2 e2 ⊢
  obtain ⟨a1, a2, a3, a4⟩ := h.op hw.B p1 p2 g1 g2
  refine q_aload_n dX7_room_77 rfl ?_
  refine q_aload_n dX7_room_78 rfl ?_
  refine q_getR2 (b := 357) fl_RX7_7 rfl k356 rfl dX7_room_79 ?_
  refine q_sipush (v := nI 329) dX7_room_82 (by decide) ?_
  refine q_iald k357 rfl (lt357 (by omega)) (by decide) e2 dX7_room_85 ?_
  refine q_iconst (v := nI 1) dX7_room_86 (by decide) ?_
  refine q_isub dX7_room_87 ?_
  rw [pk_sub (show 1 ≤ sN σ 1 + 1 by omega), Nat.add_sub_cancel]
  refine q_cV (as := [_]) lk_RX7_134 (r_change g1 a1 gd.1.1.B hw.B a2 a3 (fun τ hτ => (hss τ hτ).1.B)) (Or.inl ⟨6, by decide, k356, rfl⟩) rfl (by decide) (Nat.le_of_ble_eq_true rfl) dX7_room_88 ?_
  rintro v L ⟨rfl, b1, b2⟩
  refine q_iret rfl rfl dX7_room_91 ⟨rfl, ?_, a4.tr b2⟩
  rw [if_neg (nn (by omega))] at b1
  exact b1
