/-! the reference cancels -/
theorem f1_f1 {α : Type} {f : Nat → α} {j : Nat} {v w : α} : f1 (f1 f j v) j w = f1 f j w := by
  funext i
  simp only [f1_or]
  split <;> rfl
/-- a class without its people -/
def sca (σ : q_S) (c : Nat) : q_S := (sN σ, f1 (sG σ) 3 (sG σ 3 + spd σ c 30), sC σ, f1 (sL σ) c [], fun p j => if sP σ p 4 = c + 1 ∧ (j = 4 ∨ j = 5) then 0 else sP σ p j, sR σ)
theorem spd_out {σ : q_S} {c p : Nat} (h4 : sP σ p 4 = c + 1) : ∀ k, spd σ c k = (if p < k then sP σ p 5 else 0) + spd (sout σ p) c k := by
  have hs : sP (sout σ p) p 4 = 0 := by
    rw [sout, if_neg (by omega)]
    show f2 (f2 (sP σ) p 4 0) p 5 0 p 4 = 0
    rw [f2_n (by omega), f2_s]
  intro k
  induction k with
  | zero => rfl
  | succ k ih =>
    rw [spd, spd, ih]
    by_cases e : k = p
    · subst e
      rw [if_neg (Nat.lt_irrefl _), if_pos (Nat.lt_succ_self _), if_pos h4, hs, if_neg (by omega)]
      omega
    · rw [sout_Pn e, sout_Pn e]
      by_cases q : p < k
      · rw [if_pos q, if_pos (show p < k + 1 by omega)]; omega
      · rw [if_neg q, if_neg (show ¬ p < k + 1 by omega)]; omega
theorem sca_out {σ : q_S} {c p : Nat} (h4 : sP σ p 4 = c + 1) (hp : p < 30) : sca (sout σ p) c = sca σ c := by
  have hd := spd_out h4 30
  rw [if_pos hp] at hd
  have hs : sout σ p = (sN σ, f1 (sG σ) 3 (sG σ 3 + sP σ p 5), sC σ, f1 (sL σ) c ((sL σ c).filter (· != p)), f2 (f2 (sP σ) p 4 0) p 5 0, sR σ) := by
    rw [sout, if_neg (by omega), h4]; rfl
  have eG : f1 (sG (sout σ p)) 3 (sG (sout σ p) 3 + spd (sout σ p) c 30) = f1 (sG σ) 3 (sG σ 3 + spd σ c 30) := by
    rw [hd, hs]
    show f1 (f1 (sG σ) 3 _) 3 (f1 (sG σ) 3 (sG σ 3 + sP σ p 5) 3 + _) = _
    rw [f1_f1, f1_s, Nat.add_assoc]
  have eL : f1 (sL (sout σ p)) c [] = f1 (sL σ) c [] := by
    rw [hs]
    show f1 (f1 (sL σ) c _) c [] = _
    rw [f1_f1]
  have eP : (fun q j => if sP (sout σ p) q 4 = c + 1 ∧ (j = 4 ∨ j = 5) then 0 else sP (sout σ p) q j) = fun q j => if sP σ q 4 = c + 1 ∧ (j = 4 ∨ j = 5) then 0 else sP σ q j := by
    funext q j
    by_cases e : q = p
    · subst e
      rw [hs]
      show (if f2 (f2 (sP σ) q 4 0) q 5 0 q 4 = c + 1 ∧ _ then 0 else f2 (f2 (sP σ) q 4 0) q 5 0 q j) = _
      have e0 : f2 (f2 (sP σ) q 4 0) q 5 0 q 4 = 0 := by rw [f2_n (by omega), f2_s]
      rw [if_neg (fun z => by have := z.1; rw [e0] at this; omega)]
      simp only [f2_or, true_and, h4]
      by_cases j5 : j = 5
      · subst j5; simp
      · by_cases j4 : j = 4
        · subst j4; simp
        · simp [j4, j5]
    · rw [sout_Pn e, sout_Pn e]
  rw [sca, sca, eG, eL, eP, sout_N, sout_C, sout_R]
theorem spd_none {σ : q_S} {c : Nat} (h : ∀ p, ¬ sP σ p 4 = c + 1) : ∀ k, spd σ c k = 0 := by
  intro k
  induction k with
  | zero => rfl
  | succ k ih => rw [spd, ih, if_neg (h k)]
theorem sca_nil {σ : q_S} (hw : WFc σ) {c : Nat} (h : sL σ c = []) : sca σ c = σ := by
  have hn : ∀ p, ¬ sP σ p 4 = c + 1 := fun p z => by
    have := (hw.mem (c := c) (p := p)).mpr z
    rw [h] at this
    cases this
  have eP : (fun q j => if sP σ q 4 = c + 1 ∧ (j = 4 ∨ j = 5) then 0 else sP σ q j) = sP σ := by
    funext q j
    rw [if_neg (fun z => hn q z.1)]
  rw [sca, spd_none hn, eP, f1_id h, f1_id (show sG σ 3 = sG σ 3 + 0 from rfl)]
theorem r_cancels {c w : Nat} {I : q_Mem} {σ : q_S} (h : RS I σ) (hw : WFc σ) (hc : c < sN σ 0) (hwb : w ≤ 3) : q_M kX7_cancels [.ref 356, .int (nI c), .int (nI w)] I (fun v J => v = none ∧ RS J (scan σ c w) ∧ FM 357 I J) := by
  have h8 := hw.B.1
  have h30 := hw.B.2.2.1
  have key : ∀ (n : Nat) (τ : q_S) (J : q_Mem), sLen τ c = n → RS J τ → WFc τ → FM 357 I J → sca τ c = sca σ c → sN τ = sN σ → q_X kX7_cancels 0 [some (.ref 356), some (.int (nI c)), some (.int (nI w))] [] J (fun v J => v = none ∧ RS J (scan σ c w) ∧ FM 357 I J) := by
    intro n
    induction n with
    | zero =>
      intro τ J hn h hw hF hs hN
      have hcN : c < sN τ 0 := by rw [hN]; exact hc
      refine q_aload_n dX7_cancels_0 rfl ?_
      refine q_iload_n dX7_cancels_1 rfl ?_
      refine q_cV (as := [_]) lk_RX7_47 (r_people h hw.B hcN) (Or.inl ⟨6, by decide, k356, rfl⟩) rfl (by decide) (Nat.le_of_ble_eq_true rfl) dX7_cancels_2 ?_
      rintro v J' ⟨rfl, rfl⟩
      rw [hn]
      refine q_if_leN (tgt := 26) (by omega) dX7_cancels_5 (by decide) (fun q => ?_) (fun q => ?_)
      rotate_left
      · omega
      rw [sca_nil hw (List.eq_nil_of_length_eq_zero hn)] at hs
      subst hs
      have hB := hw.B
      refine q_aload_n dX7_cancels_26 rfl ?_
      refine q_getR2 (b := 357) fl_RX7_7 rfl k356 rfl dX7_cancels_27 ?_
      refine q_iload_n dX7_cancels_30 rfl ?_
      refine q_bipush (v := nI 6) dX7_cancels_31 (by decide) ?_
      refine q_cS (as := [_, _]) lk_RX7_40 r_at rfl (by decide) (Nat.le_of_ble_eq_true rfl) dX7_cancels_33 ?_
      rintro v J' ⟨rfl, rfl⟩
      refine q_iconst (v := nI 2) dX7_cancels_36 (by decide) ?_
      refine q_iast k357 rfl (lt357 (by omega)) (by decide) dX7_cancels_37 ?_
      have h1 := h.C (c := c) (j := 6) (v := 3) (x := nI 2) hB hc (by omega) rfl
      have hF1 : FM 357 I (q_up J 357 (1 + 41 * c + 6) (nI 2)) := hF.up
      generalize q_up J 357 (1 + 41 * c + 6) (nI 2) = K at h1 hF1 ⊢
      refine q_aload_n dX7_cancels_38 rfl ?_
      refine q_getR2 (b := 357) fl_RX7_7 rfl k356 rfl dX7_cancels_39 ?_
      refine q_iload_n dX7_cancels_42 rfl ?_
      refine q_bipush (v := nI 9) dX7_cancels_43 (by decide) ?_
      refine q_cS (as := [_, _]) lk_RX7_40 r_at rfl (by decide) (Nat.le_of_ble_eq_true rfl) dX7_cancels_45 ?_
      rintro v J' ⟨rfl, rfl⟩
      refine q_iload_n dX7_cancels_48 rfl ?_
      refine q_iast k357 rfl (lt357 (by omega)) (by decide) dX7_cancels_49 ?_
      have h2 := h1.C (c := c) (j := 9) (v := w) (x := nI w) hB hc (by omega) rfl
      have hF2 : FM 357 I (q_up K 357 (1 + 41 * c + 9) (nI w)) := hF1.up
      generalize q_up K 357 (1 + 41 * c + 9) (nI w) = L at h2 hF2 ⊢
      have e7 : sG (sca σ c) 7 = sG σ 7 := by show f1 (sG σ) 3 (sG σ 3 + spd σ c 30) 7 = _; exact f1_n (by omega)
      have v7 : L 357 553 = nI (sG σ 7) := (h2.g (j := 7) (by omega)).trans (congrArg nI e7)
      refine q_aload_n dX7_cancels_50 rfl ?_
      refine q_getR2 (b := 357) fl_RX7_7 rfl k356 rfl dX7_cancels_51 ?_
      refine q_sipush (v := nI 553) dX7_cancels_54 (by decide) ?_
      refine q_dup2 dX7_cancels_57 rfl rfl ?_
      refine q_iald k357 rfl (lt357 (by omega)) (by decide) v7 dX7_cancels_58 ?_
      refine q_iconst (v := nI 1) dX7_cancels_59 (by decide) ?_
      refine q_iadd dX7_cancels_60 ?_
      rw [nI_add]
      refine q_iast k357 rfl (lt357 (by omega)) (by decide) dX7_cancels_61 ?_
      have h3 : RS (q_up L 357 553 (nI (sG σ 7 + 1))) _ := h2.G (j := 7) (v := sG σ 7 + 1) hB (by omega) rfl
      exact q_vret rfl dX7_cancels_62 ⟨rfl, h3, hF2.up⟩
    | succ n ih =>
      intro τ J hn h hw hF hs hN
      have hcN : c < sN τ 0 := by rw [hN]; exact hc
      have hl := hw.len c
      refine q_aload_n dX7_cancels_0 rfl ?_
      refine q_iload_n dX7_cancels_1 rfl ?_
      refine q_cV (as := [_]) lk_RX7_47 (r_people h hw.B hcN) (Or.inl ⟨6, by decide, k356, rfl⟩) rfl (by decide) (Nat.le_of_ble_eq_true rfl) dX7_cancels_2 ?_
      rintro v J' ⟨rfl, rfl⟩
      refine q_if_leN (tgt := 26) (by omega) dX7_cancels_5 (by decide) (fun q => ?_) (fun q => ?_)
      · omega
      obtain ⟨p, hp⟩ : ∃ p, (sL τ c)[0]? = some p := ⟨_, List.getElem?_eq_getElem (by show 0 < sLen τ c; omega)⟩
      have hm := List.mem_of_getElem? hp
      have hp2 : p < sN τ 2 := hw.mlt hm
      have hp4 : sP τ p 4 = c + 1 := hw.mem.mp hm
      refine q_aload_n dX7_cancels_8 rfl ?_
      refine q_aload_n dX7_cancels_9 rfl ?_
      refine q_getR2 (b := 357) fl_RX7_7 rfl k356 rfl dX7_cancels_10 ?_
      refine q_iload_n dX7_cancels_13 rfl ?_
      refine q_bipush (v := nI 11) dX7_cancels_14 (by decide) ?_
      refine q_cS (as := [_, _]) lk_RX7_40 r_at rfl (by decide) (Nat.le_of_ble_eq_true rfl) dX7_cancels_16 ?_
      rintro v J' ⟨rfl, rfl⟩
      refine q_iald k357 rfl (lt357 (by omega)) (by decide) (h.m hcN hp) dX7_cancels_19 ?_
      refine q_cV (as := [_]) lk_RX7_66 (r_goesOut h hw hp2) (Or.inl ⟨6, by decide, k356, rfl⟩) rfl (by decide) (Nat.le_of_ble_eq_true rfl) dX7_cancels_20 ?_
      rintro v K ⟨rfl, g1, g2⟩
      refine q_goto (tgt := 0) dX7_cancels_23 (by decide) ?_
      refine ih (sout τ p) K ?_ g1 (hw.out p) (hF.tr g2) ((sca_out hp4 (by rw [hN] at hp2; omega)).trans hs) ((sout_N τ p).trans hN)
      have eL : sL (sout τ p) c = (sL τ c).filter (· != p) := by
        rw [sout, if_neg (by omega), hp4]
        exact f1_s
      show (sL (sout τ p) c).length = n
      rw [eL]
      have hnd := hw.nd c
      have hh : (sL τ c).length = n + 1 := hn
      cases hl2 : sL τ c with
      | nil => rw [hl2] at hp; cases hp
      | cons a l =>
        rw [hl2] at hp hnd hh
        have hp : some a = some p := hp
        injection hp with hp
        subst hp
        obtain ⟨n1, n2⟩ := List.nodup_cons.mp hnd
        have : (a :: l).filter (· != a) = l := by
          rw [List.filter_cons_of_neg (by simp), List.filter_eq_self]
          intro b hb
          simp only [bne_iff_ne, ne_eq]
          rintro rfl
          exact n1 hb
        rw [this]
        simpa using hh
  refine q_M.of pnX7_cancels (by simp [Value.category]) (Nat.le_of_ble_eq_true rfl) ?_
  exact key (sLen σ c) σ I rfl h hw FM.rf rfl rfl
