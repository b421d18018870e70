/-! the reference settles -/
theorem sbl_ix {σ : q_S} {p R : Nat} : ∀ d k, ¬ sbl σ p R d k = 0 → ∃ j, k ≤ j ∧ j < R ∧ j < k + d ∧ sbl σ p R d k = sP σ p (1 + j) := by
  intro d
  induction d with
  | zero => intro k h; exact absurd rfl h
  | succ d ih =>
    intro k h
    rw [sbl] at h ⊢
    by_cases e : k < R
    · rw [if_pos e] at h ⊢
      by_cases f : sfr σ (sP σ p (1 + k))
      · rw [if_pos f]
        exact ⟨k, Nat.le_refl _, e, by omega, rfl⟩
      · rw [if_neg f] at h ⊢
        obtain ⟨j, a1, a2, a3, a4⟩ := ih (k + 1) h
        exact ⟨j, by omega, a2, by omega, a4⟩
    · rw [if_neg e] at h; exact absurd rfl h
theorem sout_Pn {σ : q_S} {p q j : Nat} (h : ¬ q = p) : sP (sout σ p) q j = sP σ q j := by
  unfold sout
  split
  · rfl
  · show f2 (f2 (sP σ) p 4 0) p 5 0 q j = _
    rw [f2_n (fun z => h z.1), f2_n (fun z => h z.1)]
theorem smove_Pn {σ : q_S} {p q j : Nat} (h : ¬ q = p) : sP (smove σ p) q j = sP σ q j := by
  show f2 (f2 (f2 (sP (sout σ p)) p 4 _) p 5 _) p 6 _ q j = _
  rw [f2_n (fun z => h z.1), f2_n (fun z => h z.1), f2_n (fun z => h z.1), sout_Pn h]
theorem smove_P4 {σ : q_S} {p : Nat} : sP (smove σ p) p 4 = sbet σ p - 1 + 1 := by
  show f2 (f2 (f2 (sP (sout σ p)) p 4 (sbet σ p - 1 + 1)) p 5 _) p 6 _ p 4 = _
  rw [f2_n (by omega), f2_n (by omega), f2_s]
theorem smove_Pj {σ : q_S} {p j : Nat} (h : j < 4) : sP (smove σ p) p j = sP σ p j := by
  show f2 (f2 (f2 (sP (sout σ p)) p 4 _) p 5 _) p 6 _ p j = _
  rw [f2_n (by omega), f2_n (by omega), f2_n (by omega), sout_P p p (by omega) (by omega)]
theorem srank_move {σ : q_S} (hw : WFc σ) {p : Nat} (hp : p < sN σ 2) (hb : ¬ sbet σ p = 0) : srank (smove σ p) p < srank σ p ∧ ¬ sP σ p 0 = 0 := by
  have h0 := (sbet_spec hb).1
  have hs := sbl_bet hw hp
  rw [if_neg h0] at hs
  obtain ⟨j, -, j1, j2, j3⟩ := sbl_ix 3 0 (by rw [hs]; exact hb)
  rw [hs] at j3
  refine ⟨Nat.lt_of_le_of_lt ?_ j1, h0⟩
  unfold srank
  rw [smove_P4, smove_Pj (by omega), smove_Pj (by omega), smove_Pj (by omega), if_neg (by omega), show sbet σ p - 1 + 1 = sbet σ p by omega, j3]
  have hj : j = 0 ∨ j = 1 ∨ j = 2 := by omega
  rcases hj with rfl | rfl | rfl
  · rw [if_pos rfl]; exact Nat.le_refl _
  · split
    · omega
    · rw [if_pos rfl]; exact Nat.le_refl _
  · split
    · omega
    · split
      · omega
      · rw [if_pos rfl]; exact Nat.le_refl _
theorem ssum_lt {f g : Nat → Nat} {p : Nat} (h : ∀ q, ¬ q = p → g q = f q) (hp : g p < f p) : ∀ k, (p < k → ssum g k < ssum f k) ∧ (k ≤ p → ssum g k = ssum f k) := by
  intro k
  induction k with
  | zero => exact ⟨fun z => absurd z (Nat.not_lt_zero _), fun _ => rfl⟩
  | succ k ih =>
    rw [ssum, ssum]
    refine ⟨fun z => ?_, fun z => ?_⟩
    · by_cases e : p = k
      · subst e
        have := ih.2 (Nat.le_refl _)
        omega
      · have := ih.1 (by omega)
        have := h k (fun y => e y.symm)
        omega
    · have := ih.2 (by omega)
      have := h k (by omega)
      omega
theorem nRanks_move {σ : q_S} (hw : WFc σ) {p : Nat} (hp : p < sN σ 2) (hb : ¬ sbet σ p = 0) : nRanks (smove σ p) < nRanks σ := by
  have h30 := hw.B.2.2.1
  obtain ⟨h1, h0⟩ := srank_move hw hp hb
  refine (ssum_lt (p := p) (fun q hq => ?_) ?_ 30).1 (by omega)
  · unfold srank
    simp only [smove_Pn hq]
  · rw [smove_Pj (by omega), if_neg h0, if_neg h0]
    exact h1
theorem spk_at {σ : q_S} : ∀ d k p, k ≤ p → p < k + d → (∀ i, k ≤ i → i < p → sbet σ i = 0) → ¬ sbet σ p = 0 → spk σ d k = p := by
  intro d
  induction d with
  | zero => intro k p h1 h2; omega
  | succ d ih =>
    intro k p h1 h2 h3 h4
    rw [spk]
    by_cases e : k = p
    · subst e; rw [if_neg h4]
    · rw [if_pos (h3 k (Nat.le_refl _) (by omega))]
      exact ih (k + 1) p (by omega) (by omega) (fun i i1 i2 => h3 i (by omega) i2) h4
theorem spk_none {σ : q_S} : ∀ d k, (∀ i, k ≤ i → i < k + d → sbet σ i = 0) → spk σ d k = k + d := by
  intro d
  induction d with
  | zero => intro k _; rfl
  | succ d ih =>
    intro k h
    rw [spk, if_pos (h k (Nat.le_refl _) (by omega)), ih (k + 1) (fun i i1 i2 => h i (by omega) (by omega))]
    omega
theorem r_settle {I : q_Mem} {σ : q_S} (h : RS I σ) (hw : WFc σ) : q_M kX7_settle [.ref 356] I (fun v J => v = none ∧ RS J (sset 1000 σ) ∧ FM 357 I J) := by
  have key : ∀ (n : Nat) (σ : q_S) (J : q_Mem) (o2 : Option Value), nRanks σ < n → RS J σ → WFc σ → FM 357 I J → q_X kX7_settle 2 [some (.ref 356), some (.int (nI 0)), o2] [] J (fun v K => v = none ∧ RS K (sset n σ) ∧ FM 357 I K) := by
    intro n
    induction n with
    | zero => intro σ J o2 hn; omega
    | succ n ih =>
      intro σ J o2 hn h hw hF
      have h30 := hw.B.2.2.1
      have h8 := hw.B.1
      have scan : ∀ (d k : Nat) (o2 : Option Value), k + d = sN σ 2 → (∀ i, i < k → sbet σ i = 0) → q_X kX7_settle 2 [some (.ref 356), some (.int (nI k)), o2] [] J (fun v K => v = none ∧ RS K (sset (n + 1) σ) ∧ FM 357 I K) := by
        intro d
        induction d with
        | zero =>
          intro k o2 hd hk
          refine q_iload_n dX7_settle_2 rfl ?_
          refine q_aload_n dX7_settle_3 rfl ?_
          refine q_getR2 (b := 357) fl_RX7_7 rfl k356 rfl dX7_settle_4 ?_
          refine q_sipush (v := nI 335) dX7_settle_7 (by decide) ?_
          refine q_iald k357 rfl (lt357 (by omega)) (by decide) h.n2 dX7_settle_10 ?_
          refine q_icmp_geN (tgt := 99) (by omega) (by omega) dX7_settle_11 (by decide) (fun q => ?_) (fun q => ?_)
          · have e : spk σ (sN σ 2) 0 = sN σ 2 := by rw [spk_none (sN σ 2) 0 (fun i _ hi => hk i (by omega))]; omega
            exact q_vret rfl dX7_settle_99 ⟨rfl, by rw [sset, e, if_neg (Nat.lt_irrefl _)]; exact h, hF⟩
          · omega
        | succ d ihd =>
          intro k o2 hd hk
          have hk2 : k < sN σ 2 := by omega
          refine q_iload_n dX7_settle_2 rfl ?_
          refine q_aload_n dX7_settle_3 rfl ?_
          refine q_getR2 (b := 357) fl_RX7_7 rfl k356 rfl dX7_settle_4 ?_
          refine q_sipush (v := nI 335) dX7_settle_7 (by decide) ?_
          refine q_iald k357 rfl (lt357 (by omega)) (by decide) h.n2 dX7_settle_10 ?_
          refine q_icmp_geN (tgt := 99) (by omega) (by omega) dX7_settle_11 (by decide) (fun q => ?_) (fun q => ?_)
          · omega
          refine q_aload_n dX7_settle_14 rfl ?_
          refine q_iload_n dX7_settle_15 rfl ?_
          refine q_cV (as := [_]) lk_RX7_63 (r_better h hw hk2) (Or.inl ⟨6, by decide, k356, rfl⟩) rfl (by decide) (Nat.le_of_ble_eq_true rfl) dX7_settle_16 ?_
          rintro v J' ⟨rfl, rfl⟩
          refine q_istore_n (ls' := [_, _, _]) dX7_settle_19 (Nat.le_of_ble_eq_true rfl) rfl ?_
          refine q_iload_n dX7_settle_20 rfl ?_
          by_cases e : sbet σ k = 0
          · rw [e]
            refine q_if_lt (tgt := 93) dX7_settle_21 (by decide) (fun q2 => ?_) (fun q2 => ?_)
            · refine q_iinc (ls' := [_, _, _]) dX7_settle_93 rfl (nI_add _ 1) rfl ?_
              refine q_goto (tgt := 2) dX7_settle_96 (by decide) ?_
              refine ihd (k + 1) _ (by omega) (fun i hi => ?_)
              by_cases e2 : i = k
              · subst e2; exact e
              · exact hk i (by omega)
            · exact absurd (by decide) q2
          · obtain ⟨b0, b1, b2, -⟩ := sbet_spec e
            have bN : sbet σ k - 1 < sN σ 0 := c_lt_of_st hw b1.2.1
            have hpk : spk σ (sN σ 2) 0 = k := spk_at _ _ _ (Nat.zero_le _) (by omega) (fun i _ hi => hk i hi) e
            rw [enc_pos e]
            refine q_if_lt (tgt := 93) dX7_settle_21 (by decide) (fun q2 => ?_) (fun q2 => ?_)
            · exact absurd q2 (nn (by omega))
            refine q_aload_n dX7_settle_24 rfl ?_
            refine q_iload_n dX7_settle_25 rfl ?_
            refine q_cV (as := [_]) lk_RX7_66 (r_goesOut h hw hk2) (Or.inl ⟨6, by decide, k356, rfl⟩) rfl (by decide) (Nat.le_of_ble_eq_true rfl) dX7_settle_26 ?_
            rintro v K ⟨rfl, g1, g2⟩
            have gw := hw.out k
            have g3 : sLen (sout σ k) (sbet σ k - 1) < 20 := by
              have hh : sLen (sout σ k) (sbet σ k - 1) = sLen σ (sbet σ k - 1) := congrArg List.length (sout_L (show ¬ sbet σ k - 1 + 1 = sP σ k 4 by omega))
              have := (hw.cr (show sbet σ k - 1 < 8 by omega)).2.2.2.2.1
              have := b1.2.2
              omega
            have eN := sout_N σ k
            have eC := sout_C σ k
            refine q_aload_n dX7_settle_29 rfl ?_
            refine q_iload_n dX7_settle_30 rfl ?_
            refine q_iload_n dX7_settle_31 rfl ?_
            refine q_cV (as := [_, _]) lk_RX7_70 (r_joins g1 gw.B (p := k) (c := sbet σ k - 1) (by rw [eN]; exact hk2) (by rw [eN]; exact bN) g3) (Or.inl ⟨6, by decide, k356, rfl⟩) rfl (by decide) (Nat.le_of_ble_eq_true rfl) dX7_settle_32 ?_
            rintro v L ⟨rfl, l1, l2⟩
            have hF2 := (hF.tr g2).tr l2
            have lB := sjn_B gw.B (p := k) g3
            refine q_aload_n dX7_settle_35 rfl ?_
            refine q_getR2 (b := 357) fl_RX7_7 rfl k356 rfl dX7_settle_36 ?_
            refine q_iload_n dX7_settle_39 rfl ?_
            refine q_iconst (v := nI 5) dX7_settle_40 (by decide) ?_
            refine q_cS (as := [_, _]) lk_RX7_36 r_of rfl (by decide) (Nat.le_of_ble_eq_true rfl) dX7_settle_41 ?_
            rintro v J' ⟨rfl, rfl⟩
            refine q_aload_n dX7_settle_44 rfl ?_
            refine q_getR2 (b := 357) fl_RX7_7 rfl k356 rfl dX7_settle_45 ?_
            refine q_iload_n dX7_settle_48 rfl ?_
            refine q_iconst (v := nI 5) dX7_settle_49 (by decide) ?_
            refine q_cS (as := [_, _]) lk_RX7_40 r_at rfl (by decide) (Nat.le_of_ble_eq_true rfl) dX7_settle_50 ?_
            rintro v J' ⟨rfl, rfl⟩
            have bN2 : sbet σ k - 1 < sN (sjn (sout σ k) k (sbet σ k - 1)) 0 := by show _ < sN (sout σ k) 0; rw [eN]; exact bN
            have kN2 : k < sN (sjn (sout σ k) k (sbet σ k - 1)) 2 := by show _ < sN (sout σ k) 2; rw [eN]; exact hk2
            have v5 : L 357 (1 + 41 * (sbet σ k - 1) + 5) = nI (sC (sout σ k) (sbet σ k - 1) 5) := l1.c bN2 (j := 5) (by omega)
            refine q_iald k357 rfl (lt357 (by omega)) (by decide) v5 dX7_settle_53 ?_
            refine q_iast k357 rfl (lt357 (by omega)) (by decide) dX7_settle_54 ?_
            have h5 := l1.P (p := k) (j := 5) (v := sC (sout σ k) (sbet σ k - 1) 5) (x := nI (sC (sout σ k) (sbet σ k - 1) 5)) lB kN2 (by omega) rfl
            have hF3 : FM 357 I (q_up L 357 (336 + 7 * k + 5) (nI (sC (sout σ k) (sbet σ k - 1) 5))) := hF2.up
            have v6 : q_up L 357 (336 + 7 * k + 5) (nI (sC (sout σ k) (sbet σ k - 1) 5)) 357 (1 + 41 * (sbet σ k - 1) + 5) = nI (sC (sout σ k) (sbet σ k - 1) 5) := (q_up_n (by omega)).trans v5
            have w2 : q_up L 357 (336 + 7 * k + 5) (nI (sC (sout σ k) (sbet σ k - 1) 5)) 357 548 = nI (sG (sout σ k) 2) := (q_up_n (by omega)).trans (l1.g (j := 2) (by omega))
            generalize q_up L 357 (336 + 7 * k + 5) (nI (sC (sout σ k) (sbet σ k - 1) 5)) = M at h5 hF3 v6 w2 ⊢
            refine q_aload_n dX7_settle_55 rfl ?_
            refine q_getR2 (b := 357) fl_RX7_7 rfl k356 rfl dX7_settle_56 ?_
            refine q_sipush (v := nI 548) dX7_settle_59 (by decide) ?_
            refine q_dup2 dX7_settle_62 rfl rfl ?_
            refine q_iald k357 rfl (lt357 (by omega)) (by decide) w2 dX7_settle_63 ?_
            refine q_aload_n dX7_settle_64 rfl ?_
            refine q_getR2 (b := 357) fl_RX7_7 rfl k356 rfl dX7_settle_65 ?_
            refine q_iload_n dX7_settle_68 rfl ?_
            refine q_iconst (v := nI 5) dX7_settle_69 (by decide) ?_
            refine q_cS (as := [_, _]) lk_RX7_40 r_at rfl (by decide) (Nat.le_of_ble_eq_true rfl) dX7_settle_70 ?_
            rintro v J' ⟨rfl, rfl⟩
            refine q_iald k357 rfl (lt357 (by omega)) (by decide) v6 dX7_settle_73 ?_
            refine q_iadd dX7_settle_74 ?_
            rw [nI_add]
            refine q_iast k357 rfl (lt357 (by omega)) (by decide) dX7_settle_75 ?_
            have h6 : RS (q_up M 357 548 (nI (sG (sout σ k) 2 + sC (sout σ k) (sbet σ k - 1) 5))) _ := h5.G (j := 2) lB (by omega) rfl
            have hF4 : FM 357 I (q_up M 357 548 (nI (sG (sout σ k) 2 + sC (sout σ k) (sbet σ k - 1) 5))) := hF3.up
            have w5 : q_up M 357 548 (nI (sG (sout σ k) 2 + sC (sout σ k) (sbet σ k - 1) 5)) 357 551 = nI (sG (sout σ k) 5) := (q_up_n (by omega)).trans (h5.g (j := 5) (by omega))
            generalize q_up M 357 548 (nI (sG (sout σ k) 2 + sC (sout σ k) (sbet σ k - 1) 5)) = N at h6 hF4 w5 ⊢
            refine q_aload_n dX7_settle_76 rfl ?_
            refine q_getR2 (b := 357) fl_RX7_7 rfl k356 rfl dX7_settle_77 ?_
            refine q_sipush (v := nI 551) dX7_settle_80 (by decide) ?_
            refine q_dup2 dX7_settle_83 rfl rfl ?_
            refine q_iald k357 rfl (lt357 (by omega)) (by decide) w5 dX7_settle_84 ?_
            refine q_iconst (v := nI 1) dX7_settle_85 (by decide) ?_
            refine q_iadd dX7_settle_86 ?_
            rw [nI_add]
            refine q_iast k357 rfl (lt357 (by omega)) (by decide) dX7_settle_87 ?_
            refine q_iconst (v := nI 0) dX7_settle_88 (by decide) ?_
            refine q_istore_n (ls' := [_, _, _]) dX7_settle_89 (Nat.le_of_ble_eq_true rfl) rfl ?_
            refine q_goto (tgt := 96) dX7_settle_90 (by decide) ?_
            refine q_goto (tgt := 2) dX7_settle_96 (by decide) ?_
            have h7 : RS (q_up N 357 551 (nI (sG (sout σ k) 5 + 1))) _ := h6.G (j := 5) lB (by omega) rfl
            have eq : RS (q_up N 357 551 (nI (sG (sout σ k) 5 + 1))) (smove σ k) := by
              have e3 : smove σ k = (sN (sout σ k), f1 (f1 (sG (sout σ k)) 2 (sG (sout σ k) 2 + sC (sout σ k) (sbet σ k - 1) 5)) 5 (sG (sout σ k) 5 + 1), sC (sout σ k), f1 (sL (sout σ k)) (sbet σ k - 1) (sL (sout σ k) (sbet σ k - 1) ++ [k]), f2 (f2 (f2 (sP (sout σ k)) k 4 (sbet σ k - 1 + 1)) k 6 (sP (sout σ k) k 6 + 1)) k 5 (sC (sout σ k) (sbet σ k - 1) 5), sR (sout σ k)) := by
                rw [f2_comm (c := k) (i := 6) (d := k) (j := 5) (by omega)]; rfl
              rw [e3]
              exact h7
            have := ih (smove σ k) _ (some (.int (nI (sbet σ k - 1)))) (by have := nRanks_move hw hk2 e; omega) eq (hw.move hk2 e) hF4.up
            rw [sset, hpk, if_pos hk2]
            exact this
      exact scan (sN σ 2) 0 _ (by omega) (fun i hi => by omega)
  have h120 : nRanks σ < 1000 := by
    have := nRanks_le (σ := σ)
    have := nHere_le hw
    omega
  refine q_M.of pnX7_settle (by simp [Value.category]) (Nat.le_of_ble_eq_true rfl) ?_
  refine q_iconst (v := nI 0) dX7_settle_0 (by decide) ?_
  refine q_istore_n (ls' := [_, _, _]) dX7_settle_1 (Nat.le_of_ble_eq_true rfl) rfl ?_
  exact key 1000 σ I _ h120 h hw FM.rf
