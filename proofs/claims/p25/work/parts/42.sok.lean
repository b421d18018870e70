/-! what holds of every season, kept by the calls -/
theorem sout_G {σ : q_S} {p j : Nat} (h : ¬ j = 3) : sG (sout σ p) j = sG σ j := by
  unfold sout
  split
  · rfl
  · exact f1_n h
theorem smove_G {σ : q_S} {p j : Nat} (h : ¬ j = 3) (h2 : ¬ j = 2) (h5 : ¬ j = 5) : sG (smove σ p) j = sG σ j := by
  show f1 (f1 (sG (sout σ p)) 2 _) 5 _ j = sG σ j
  rw [f1_n h5, f1_n h2]
  exact sout_G h
theorem sset_G {j : Nat} (h : ¬ j = 3) (h2 : ¬ j = 2) (h5 : ¬ j = 5) : ∀ (n : Nat) (σ : q_S), sG (sset n σ) j = sG σ j := by
  intro n
  induction n with
  | zero => intro σ; rfl
  | succ n ih =>
    intro σ
    rw [sset]
    split
    · rw [ih, smove_G h h2 h5]
    · rfl
theorem smgs_G {j : Nat} (h : ¬ j = 3) (d : Nat) : ∀ (l : List Nat) (σ : q_S), sG (smgs d l σ) j = sG σ j := by
  intro l
  induction l with
  | nil => intro σ; rfl
  | cons p l ih =>
    intro σ
    rw [smgs, ih]
    exact f1_n h
/-- what a closing's first part leaves as it is -/
theorem scl1_keep (σ : q_S) (c : Nat) : sN (scl1 σ c) = sN σ ∧ sR (scl1 σ c) = sR σ ∧ (∀ i, sC (scl1 σ c) i 7 = sC σ i 7) ∧ ∀ j, (j = 0 ∨ j = 1 ∨ j = 4) → sG (scl1 σ c) j = sG σ j := by
  unfold scl1
  obtain ⟨h1, h2, h3⟩ := sset_NCR 1000 (if sft σ c 8 = 0 then scan σ c 2 else smerge σ c (sft σ c 8 - 1))
  rw [h1, h2, h3]
  have hG : ∀ j, (j = 0 ∨ j = 1 ∨ j = 4) → sG (sset 1000 (if sft σ c 8 = 0 then scan σ c 2 else smerge σ c (sft σ c 8 - 1))) j = sG (if sft σ c 8 = 0 then scan σ c 2 else smerge σ c (sft σ c 8 - 1)) j := fun j hj => sset_G (by omega) (by omega) (by omega) _ _
  by_cases e : sft σ c 8 = 0
  · rw [if_pos e] at hG ⊢
    refine ⟨rfl, rfl, fun i => ?_, fun j hj => ?_⟩
    · show f2 (f2 (sC σ) c 6 3) c 9 2 i 7 = sC σ i 7
      rw [f2_n (by omega), f2_n (by omega)]
    · rw [hG j hj]
      show f1 (f1 (sG σ) 3 _) 7 _ j = sG σ j
      rw [f1_n (by omega), f1_n (by omega)]
  · rw [if_neg e] at hG ⊢
    obtain ⟨k1, k2, k3, -⟩ := smgs_keep (sft σ c 8 - 1) (sL σ c) σ
    refine ⟨k1, k3, fun i => ?_, fun j hj => ?_⟩
    · show f2 (f2 (f2 (sC (smgs (sft σ c 8 - 1) (sL σ c) σ)) c 6 4) c 9 1) c 8 _ i 7 = sC σ i 7
      rw [f2_n (by omega), f2_n (by omega), f2_n (by omega), k2]
    · rw [hG j hj]
      show f1 (sG (smgs (sft σ c 8 - 1) (sL σ c) σ)) 6 _ j = sG σ j
      rw [f1_n (by omega), smgs_G (by omega)]
theorem scls1_keep : ∀ (n : Nat) (σ : q_S), sN (scls1 n σ) = sN σ ∧ sR (scls1 n σ) = sR σ ∧ (∀ i, sC (scls1 n σ) i 7 = sC σ i 7) ∧ ∀ j, (j = 0 ∨ j = 1 ∨ j = 4) → sG (scls1 n σ) j = sG σ j := by
  intro n
  induction n with
  | zero => intro σ; exact ⟨rfl, rfl, fun _ => rfl, fun _ _ => rfl⟩
  | succ n ih =>
    intro σ
    rw [scls1]
    split
    · exact ⟨rfl, rfl, fun _ => rfl, fun _ _ => rfl⟩
    · obtain ⟨a1, a2, a3, a4⟩ := ih (scl1 σ (ssm σ 8 - 1))
      obtain ⟨b1, b2, b3, b4⟩ := scl1_keep σ (ssm σ 8 - 1)
      exact ⟨a1.trans b1, a2.trans b2, fun i => (a3 i).trans (b3 i), fun j hj => (a4 j hj).trans (b4 j hj)⟩
/-- every room that is given fits -/
def fit (σ : q_S) : Prop := ∀ c, ¬ sC σ c 7 = 0 → sC σ c 6 = 2 ∧ sC σ c 7 ≤ sN σ 1 ∧ sLen σ c ≤ sR σ (sC σ c 7 - 1)
theorem srm_spec (σ : q_S) (c : Nat) : ∀ k, ¬ srm σ c k = 0 → sLen σ c ≤ sR σ (srm σ c k - 1) := by
  intro k
  induction k with
  | zero => intro h; exact absurd rfl h
  | succ k ih =>
    intro h
    rw [srm] at h ⊢
    split
    · next e => exact e.1
    · next e => rw [if_neg e] at h; exact ih h
theorem fit_cl2 {σ : q_S} (h : fit σ) {c : Nat} (hs : sC σ c 6 = 1) : fit (scl2 σ c) := by
  have hc7 : sC σ c 7 = 0 := by
    rcases Nat.eq_zero_or_pos (sC σ c 7) with q | q
    · exact q
    · have := (h c (by omega)).1; omega
  unfold scl2
  split
  · intro i
    have e7 : sC (scan σ c 3) i 7 = sC σ i 7 := by
      show f2 (f2 (sC σ) c 6 3) c 9 3 i 7 = sC σ i 7
      rw [f2_n (by omega), f2_n (by omega)]
    rw [e7]
    intro hi
    have hne : ¬ i = c := fun z => by rw [z, hc7] at hi; exact hi rfl
    have e6 : sC (scan σ c 3) i 6 = sC σ i 6 := by
      show f2 (f2 (sC σ) c 6 3) c 9 3 i 6 = sC σ i 6
      rw [f2_n (by omega), f2_n (by omega)]
    have eL : sL (scan σ c 3) i = sL σ i := f1_n hne
    have := h i hi
    refine ⟨by rw [e6]; exact this.1, this.2.1, ?_⟩
    show (sL (scan σ c 3) i).length ≤ _
    rw [eL]; exact this.2.2
  · next e =>
    intro i
    by_cases hne : i = c
    · subst hne
      intro _
      have e7 : sC (sgiv σ i (srm σ i (sN σ 1))) i 7 = srm σ i (sN σ 1) := by
        show f2 (f2 (sC σ) i 7 _) i 6 2 i 7 = _
        rw [f2_n (by omega), f2_s]
      rw [e7]
      exact ⟨f2_s, srm_le _ _ _, srm_spec σ i _ e⟩
    · have e7 : ∀ j, sC (sgiv σ c (srm σ c (sN σ 1))) i j = sC σ i j := by
        intro j
        show f2 (f2 (sC σ) c 7 _) c 6 2 i j = _
        rw [f2_n (fun z => hne z.1), f2_n (fun z => hne z.1)]
      rw [e7, e7]
      exact h i
theorem scl2_keep (σ : q_S) (c : Nat) : sN (scl2 σ c) = sN σ ∧ sR (scl2 σ c) = sR σ ∧ ∀ j, (j = 0 ∨ j = 1 ∨ j = 4) → sG (scl2 σ c) j = sG σ j := by
  unfold scl2
  split
  · refine ⟨rfl, rfl, fun j hj => ?_⟩
    show f1 (f1 (sG σ) 3 _) 7 _ j = sG σ j
    rw [f1_n (by omega), f1_n (by omega)]
  · exact ⟨rfl, rfl, fun _ _ => rfl⟩
theorem scls2_keep : ∀ (n : Nat) (σ : q_S), sN (scls2 n σ) = sN σ ∧ sR (scls2 n σ) = sR σ ∧ ∀ j, (j = 0 ∨ j = 1 ∨ j = 4) → sG (scls2 n σ) j = sG σ j := by
  intro n
  induction n with
  | zero => intro σ; exact ⟨rfl, rfl, fun _ _ => rfl⟩
  | succ n ih =>
    intro σ
    rw [scls2]
    split
    · exact ⟨rfl, rfl, fun _ _ => rfl⟩
    · obtain ⟨a1, a2, a4⟩ := ih (scl2 σ (sgr σ 8 - 1))
      obtain ⟨b1, b2, b4⟩ := scl2_keep σ (sgr σ 8 - 1)
      exact ⟨a1.trans b1, a2.trans b2, fun j hj => (a4 j hj).trans (b4 j hj)⟩
theorem fit_cls2 : ∀ (n : Nat) {σ : q_S}, fit σ → fit (scls2 n σ) := by
  intro n
  induction n with
  | zero => intro σ h; exact h
  | succ n ih =>
    intro σ h
    rw [scls2]
    split
    · exact h
    · next e => exact ih (fit_cl2 h (sgr_spec σ 8 e))
theorem sok_close {σ : q_S} (h : sok σ) (h0 : sG σ 1 = 0) : sok (sclose σ) ∧ sG (sclose σ) 0 = sG σ 0 := by
  obtain ⟨hw, h1, h2, h3⟩ := h
  obtain ⟨a1, a2, a3, a4⟩ := scls1_keep 8 σ
  obtain ⟨b1, b2, b4⟩ := scls2_keep 8 (scls1 8 σ)
  have hf : fit (scls2 8 (scls1 8 σ)) := fit_cls2 8 (fun c hc => absurd ((a3 c).trans (h2 h0 c)) hc)
  refine ⟨⟨hw.close, ?_, fun z => ?_, hf⟩, ?_⟩
  · show f1 (sG (scls2 8 (scls1 8 σ))) 1 1 1 ≤ 1
    rw [f1_s]; exact Nat.le_refl _
  · have : f1 (sG (scls2 8 (scls1 8 σ))) 1 1 1 = 0 := z
    rw [f1_s] at this; omega
  · show f1 (sG (scls2 8 (scls1 8 σ))) 1 1 0 = sG σ 0
    rw [f1_n (by omega), b4 0 (Or.inl rfl), a4 0 (Or.inl rfl)]
/-- open_ terms -/
theorem sok_open {σ τ : q_S} (h : sok σ) (hw : WFc τ) (h1 : sG τ 1 = sG σ 1) (h0 : sG σ 1 = 0) (hC : ∀ c, sC τ c 7 = sC σ c 7) : sok τ := by
  have z7 : ∀ c, sC τ c 7 = 0 := fun c => (hC c).trans (h.2.2.1 h0 c)
  exact ⟨hw, by omega, fun _ => z7, fun c hc => absurd (z7 c) hc⟩
theorem sset_7 (n : Nat) (σ : q_S) (c : Nat) : sC (sset n σ) c 7 = sC σ c 7 := by rw [(sset_NCR n σ).2.1]
theorem WFc.addR {σ : q_S} (h : WFc σ) {c : Nat} (hR : sN σ 1 < 5) (hc : c ≤ 30) : WFc (sAddR σ c) := by
  obtain ⟨hB, h2, h3, h4, h5, h6, h7, h8⟩ := h
  have eN0 : sN (sAddR σ c) 0 = sN σ 0 := by show f1 (sN σ) 1 (sN σ 1 + 1) 0 = _; exact f1_n (by omega)
  have eN1 : sN (sAddR σ c) 1 = sN σ 1 + 1 := by show f1 (sN σ) 1 (sN σ 1 + 1) 1 = _; exact f1_s
  have eN2 : sN (sAddR σ c) 2 = sN σ 2 := by show f1 (sN σ) 1 (sN σ 1 + 1) 2 = _; exact f1_n (by omega)
  refine ⟨⟨by rw [eN0]; exact hB.1, by rw [eN1]; omega, by rw [eN2]; exact hB.2.2.1, hB.2.2.2⟩, h2, fun i hi => h3 i (by rw [eN0] at hi; exact hi), fun i hi => h4 i (by rw [eN0] at hi; exact hi), fun p => ?_, fun p hp => h6 p (by rw [eN2] at hp; exact hp), h7, fun r hr => ?_⟩
  · have := h5 p
    unfold prg at this ⊢
    rw [eN0, eN2]
    exact this
  · show f1 (sR σ) (sN σ 1) c r ≤ 30
    rw [f1_or]
    split
    · exact hc
    · exact h8 r hr
theorem WFc.addC {σ : q_S} (h : WFc σ) {k l m f : Nat} (hC : sN σ 0 < 8) (hk : k ≤ 79) (hl : l ≤ m) (hm : m ≤ 20) (hf : f ≤ 99) : WFc (sAddC σ k l m f) := by
  obtain ⟨hB, h2, h3, h4, h5, h6, h7, h8⟩ := id h
  have h30 := h3 (sN σ 0) (Nat.le_refl _)
  have eN0 : sN (sAddC σ k l m f) 0 = sN σ 0 + 1 := by show f1 (sN σ) 0 (sN σ 0 + 1) 0 = _; exact f1_s
  have eN1 : sN (sAddC σ k l m f) 1 = sN σ 1 := by show f1 (sN σ) 0 (sN σ 0 + 1) 1 = _; exact f1_n (by omega)
  have eN2 : sN (sAddC σ k l m f) 2 = sN σ 2 := by show f1 (sN σ) 0 (sN σ 0 + 1) 2 = _; exact f1_n (by omega)
  have eL : sL (sAddC σ k l m f) = sL σ := f1_id h30.2.2
  have eC : ∀ i j, ¬ i = sN σ 0 → sC (sAddC σ k l m f) i j = sC σ i j := by
    intro i j hi
    show f2 (f2 (f2 (f2 (f2 (f2 (f2 (f2 (f2 (f2 (sC σ) _ 0 _) _ 1 _) _ 2 _) _ 3 _) _ 4 _) _ 5 _) _ 6 _) _ 9 _) _ 8 _) _ 7 _ i j = _
    simp only [f2_or, hi, false_and, if_false]
  have eK : ∀ j, sC (sAddC σ k l m f) (sN σ 0) j = if j = 0 then k % 4 else if j = 1 then k / 4 % 4 else if j = 2 then k / 16 else if j = 3 then l else if j = 4 then m else if j = 5 then f else if j = 6 then 1 else if j = 7 then 0 else if j = 8 then 0 else if j = 9 then 0 else sC σ (sN σ 0) j := by
    intro j
    show f2 (f2 (f2 (f2 (f2 (f2 (f2 (f2 (f2 (f2 (sC σ) _ 0 _) _ 1 _) _ 2 _) _ 3 _) _ 4 _) _ 5 _) _ 6 _) _ 9 _) _ 8 _) _ 7 _ (sN σ 0) j = _
    simp only [f2_or, true_and]
    by_cases j0 : j = 0
    · subst j0; rfl
    by_cases j1 : j = 1
    · subst j1; rfl
    by_cases j2 : j = 2
    · subst j2; rfl
    by_cases j3 : j = 3
    · subst j3; rfl
    by_cases j4 : j = 4
    · subst j4; rfl
    by_cases j5 : j = 5
    · subst j5; rfl
    by_cases j6 : j = 6
    · subst j6; rfl
    by_cases j7 : j = 7
    · subst j7; rfl
    by_cases j8 : j = 8
    · subst j8; rfl
    by_cases j9 : j = 9
    · subst j9; rfl
    simp only [j0, j1, j2, j3, j4, j5, j6, j7, j8, j9, if_false]
  refine ⟨⟨by rw [eN0]; omega, by rw [eN1]; exact hB.2.1, by rw [eN2]; exact hB.2.2.1, by rw [eL]; exact hB.2.2.2⟩, fun i hi => ?_, fun i hi => ?_, fun i hi => ?_, fun p => ?_, fun p hp => h6 p (by rw [eN2] at hp; exact hp), by rw [eL]; exact h7, h8⟩
  · by_cases e : i = sN σ 0
    · subst e
      have eLl : sLen (sAddC σ k l m f) (sN σ 0) = 0 := by show (sL (sAddC σ k l m f) (sN σ 0)).length = 0; rw [eL, h30.2.2]; rfl
      unfold crg
      simp only [eK]
      refine ⟨?_, ?_, ?_, ?_, ?_, ?_, ?_, ?_, ?_, ?_, ?_⟩ <;> simp <;> omega
    · have := h2 i hi
      unfold crg at this ⊢
      rw [eC i _ e, eC i _ e, eC i _ e, eC i _ e, eC i _ e, eC i _ e, eC i _ e, eC i _ e, eC i _ e, eC i _ e]
      show _ ∧ _ ∧ _ ∧ _ ∧ _ ∧ _ ∧ _ ∧ _ ∧ _ ∧ _ ∧ (sL (sAddC σ k l m f) i).length ≤ _
      rw [eL]
      exact this
  · rw [eN0] at hi
    have e : ¬ i = sN σ 0 := by omega
    rw [eC i _ e, eC i _ e, eL]
    exact h3 i (by omega)
  · rw [eN0] at hi
    by_cases e : i = sN σ 0
    · subst e
      rw [eK]; simp
    · rw [eC i _ e]
      exact h4 i (by omega)
  · have hp := h5 p
    unfold prg at hp ⊢
    rw [eN0, eN2]
    show sP σ p 0 ≤ 1 ∧ sP σ p 1 ≤ _ ∧ sP σ p 2 ≤ _ ∧ sP σ p 3 ≤ _ ∧ sP σ p 4 ≤ _ ∧ _
    obtain ⟨a1, a2, a3, a4, a5, a6, a7, a8, a9, a10⟩ := hp
    exact ⟨a1, by omega, by omega, by omega, by omega, a6, a7, a8, a9, a10⟩
theorem WFc.term {σ : q_S} (h : WFc σ) : WFc (sterm σ) := by
  obtain ⟨hB, h2, h3, h4, h5, h6, h7, h8⟩ := id h
  have eN0 : sN (sterm σ) 0 = sN σ 0 := by show f1 (sN σ) 2 0 0 = _; exact f1_n (by omega)
  have eN1 : sN (sterm σ) 1 = sN σ 1 := by show f1 (sN σ) 2 0 1 = _; exact f1_n (by omega)
  have eN2 : sN (sterm σ) 2 = 0 := by show f1 (sN σ) 2 0 2 = _; exact f1_s
  have eL : ∀ i, sL (sterm σ) i = [] := by
    intro i
    show (if sC σ i 6 = 0 then sL σ i else []) = []
    split
    · next e =>
      rcases Nat.lt_or_ge i (sN σ 0) with q | q
      · have := h4 i q; omega
      · exact (h3 i q).2.2
    · rfl
  have eC : ∀ i j, sC (sterm σ) i j = if sC σ i 6 = 0 then sC σ i j else if j = 6 then 1 else if j = 7 ∨ j = 8 ∨ j = 9 then 0 else sC σ i j := fun _ _ => rfl
  refine ⟨⟨by rw [eN0]; exact hB.1, by rw [eN1]; exact hB.2.1, by rw [eN2]; omega, fun i => by rw [eL]; exact Nat.zero_le _⟩, fun i hi => ?_, fun i hi => ?_, fun i hi => ?_, fun p => ?_, fun p hp j => rfl, fun i => ?_, h8⟩
  · obtain ⟨a1, a2, a3, a4, a5, a6, a7, a8, a9, a10, a11⟩ := h2 i hi
    have eLl : sLen (sterm σ) i = 0 := by show (sL (sterm σ) i).length = 0; rw [eL]; rfl
    unfold crg
    simp only [eC]
    by_cases e : sC σ i 6 = 0
    · simp only [e, if_true]
      refine ⟨?_, ?_, ?_, ?_, ?_, ?_, ?_, ?_, ?_, ?_, ?_⟩ <;> omega
    · simp only [e, if_false]
      refine ⟨?_, ?_, ?_, ?_, ?_, ?_, ?_, ?_, ?_, ?_, ?_⟩ <;> simp <;> omega
  · rw [eN0] at hi
    obtain ⟨a1, a2, a3⟩ := h3 i hi
    exact ⟨by rw [eC, if_pos a1]; exact a1, by rw [eC, if_pos a1]; exact a2, eL i⟩
  · rw [eN0] at hi
    have := h4 i hi
    rw [eC, if_neg (by omega), if_pos rfl]; exact Nat.le_refl _
  · unfold prg
    rw [eN2]
    show (0 : Nat) ≤ 1 ∧ 0 ≤ _ ∧ 0 ≤ _ ∧ 0 ≤ _ ∧ 0 ≤ _ ∧ 0 ≤ 99 ∧ ((0 : Nat) = 0 → (0 : Nat) = 0) ∧ ((0 : Nat) = 0 → (0 : Nat) = 0) ∧ ((0 : Nat) = 0 → (0 : Nat) = 0) ∧ _
    exact ⟨by omega, Nat.zero_le _, Nat.zero_le _, Nat.zero_le _, Nat.zero_le _, by omega, fun _ => rfl, fun _ => rfl, fun _ => rfl, fun z => by omega⟩
  · rw [eL]
    refine ⟨List.nodup_nil, fun p => Iff.intro (fun z => absurd z List.not_mem_nil) (fun z => ?_)⟩
    have z : (0 : Nat) = i + 1 := z
    omega
theorem sok_term {σ : q_S} (h : sok σ) : sok (sterm σ) ∧ sG (sterm σ) 0 = sG σ 0 + 1 := by
  obtain ⟨hw, h1, h2, h3⟩ := h
  have eG1 : sG (sterm σ) 1 = 0 := by
    show f1 (f1 (f1 (sG σ) 4 (sG σ 4 + ssum (fun p => sP σ p 5) 30)) 1 0) 0 (sG σ 0 + 1) 1 = 0
    rw [f1_n (by omega), f1_s]
  have z7 : ∀ c, sC (sterm σ) c 7 = 0 := by
    intro c
    show (if sC σ c 6 = 0 then sC σ c 7 else if (7 : Nat) = 6 then 1 else if (7 : Nat) = 7 ∨ (7 : Nat) = 8 ∨ (7 : Nat) = 9 then 0 else sC σ c 7) = 0
    split
    · next e =>
      rcases Nat.eq_zero_or_pos (sC σ c 7) with q | q
      · exact q
      · have := (h3 c (by omega)).1; omega
    · simp
  exact ⟨⟨hw.term, by omega, fun _ => z7, fun c hc => absurd (z7 c) hc⟩, by show f1 (f1 (f1 (sG σ) 4 (sG σ 4 + ssum (fun p => sP σ p 5) 30)) 1 0) 0 (sG σ 0 + 1) 0 = sG σ 0 + 1; exact f1_s⟩
