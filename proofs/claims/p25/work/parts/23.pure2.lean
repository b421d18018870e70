/-! facts of choosing, merging and cancelling -/
theorem ssm_le (σ : q_S) : ∀ k, ssm σ k ≤ k := by
  intro k
  induction k with
  | zero => exact Nat.le_refl _
  | succ k ih => rw [ssm]; split <;> omega
theorem sft_le (σ : q_S) (c : Nat) : ∀ k, sft σ c k ≤ k := by
  intro k
  induction k with
  | zero => exact Nat.le_refl _
  | succ k ih => rw [sft]; split <;> omega
theorem sgr_le (σ : q_S) : ∀ k, sgr σ k ≤ k := by
  intro k
  induction k with
  | zero => exact Nat.le_refl _
  | succ k ih => rw [sgr]; split <;> omega
theorem ssm_spec (σ : q_S) : ∀ k, ¬ ssm σ k = 0 → sC σ (ssm σ k - 1) 6 = 1 ∧ sLen σ (ssm σ k - 1) < sC σ (ssm σ k - 1) 3 := by
  intro k
  induction k with
  | zero => intro h; exact absurd rfl h
  | succ k ih =>
    intro h
    by_cases e : sC σ k 6 = 1 ∧ sLen σ k < sC σ k 3 ∧ (ssm σ k = 0 ∨ sLen σ k < sLen σ (ssm σ k - 1))
    · rw [ssm, if_pos e]; exact ⟨e.1, e.2.1⟩
    · rw [ssm, if_neg e] at h ⊢; exact ih h
theorem sft_spec (σ : q_S) (c : Nat) : ∀ k, ¬ sft σ c k = 0 → sC σ (sft σ c k - 1) 6 = 1 ∧ ¬ sft σ c k - 1 = c ∧ sLen σ (sft σ c k - 1) + sLen σ c ≤ sC σ (sft σ c k - 1) 4 := by
  intro k
  induction k with
  | zero => intro h; exact absurd rfl h
  | succ k ih =>
    intro h
    by_cases e : 0 < sLen σ c ∧ (sC σ k 6 = 1 ∧ ¬ k = c ∧ sC σ k 0 = sC σ c 0 ∧ slv σ k c ≤ 1 ∧ sLen σ k + sLen σ c ≤ sC σ k 4) ∧ (sft σ c k = 0 ∨ slv σ k c < slv σ (sft σ c k - 1) c ∨ (slv σ k c = slv σ (sft σ c k - 1) c ∧ sLen σ (sft σ c k - 1) < sLen σ k))
    · rw [sft, if_pos e]; exact ⟨e.2.1.1, e.2.1.2.1, e.2.1.2.2.2.2⟩
    · rw [sft, if_neg e] at h ⊢; exact ih h
theorem sgr_spec (σ : q_S) : ∀ k, ¬ sgr σ k = 0 → sC σ (sgr σ k - 1) 6 = 1 := by
  intro k
  induction k with
  | zero => intro h; exact absurd rfl h
  | succ k ih =>
    intro h
    by_cases e : sC σ k 6 = 1 ∧ (sgr σ k = 0 ∨ sLen σ (sgr σ k - 1) < sLen σ k)
    · rw [sgr, if_pos e]; exact e.1
    · rw [sgr, if_neg e] at h ⊢; exact ih h
theorem smgs_snoc (d p : Nat) : ∀ (l : List Nat) (σ : q_S), smgs d (l ++ [p]) σ = smg1 (smgs d l σ) d p := by
  intro l
  induction l with
  | nil => intro σ; rfl
  | cons q l ih => intro σ; exact ih _
/-- what stays while people go into d -/
theorem smgs_keep (d : Nat) : ∀ (l : List Nat) (σ : q_S), sN (smgs d l σ) = sN σ ∧ sC (smgs d l σ) = sC σ ∧ sR (smgs d l σ) = sR σ ∧ (∀ c, ¬ c = d → sL (smgs d l σ) c = sL σ c) ∧ sL (smgs d l σ) d = sL σ d ++ l ∧ (∀ p, p ∉ l → sP (smgs d l σ) p = sP σ p) := by
  intro l
  induction l with
  | nil => intro σ; exact ⟨rfl, rfl, rfl, fun _ _ => rfl, (List.append_nil _).symm, fun _ _ => rfl⟩
  | cons q l ih =>
    intro σ
    obtain ⟨h1, h2, h3, h4, h5, h6⟩ := ih (smg1 σ d q)
    refine ⟨h1, h2, h3, fun c hc => (h4 c hc).trans (f1_n hc), ?_, fun p hp => ?_⟩
    · rw [smgs, h5]
      show f1 (sL σ) d (sL σ d ++ [q]) d ++ l = _
      rw [f1_s, List.append_assoc]; rfl
    · have hq : ¬ p = q := fun e => hp (by rw [e]; exact List.mem_cons_self)
      rw [smgs, h6 p (fun e => hp (List.mem_cons_of_mem _ e))]
      funext j
      show f2 _ q 5 _ p j = _
      rw [f2_n (fun z => hq z.1), f2_n (fun z => hq z.1), f2_n (fun z => hq z.1)]
/-- what each of those who go into d has behind it (a list without one twice) -/
theorem smgs_P (d : Nat) : ∀ (l : List Nat) (σ : q_S), l.Nodup → ∀ p, p ∈ l → ∀ j, sP (smgs d l σ) p j = if j = 4 then d + 1 else if j = 6 then sP σ p 6 + 1 else if j = 5 then sP σ p 5 - (sP σ p 5 - sC σ d 5) else sP σ p j := by
  intro l
  induction l with
  | nil => intro σ _ p hp; cases hp
  | cons q l ih =>
    intro σ hn p hp j
    obtain ⟨hq, hn⟩ := List.nodup_cons.mp hn
    have e1 : ∀ j, sP (smg1 σ d q) q j = if j = 4 then d + 1 else if j = 6 then sP σ q 6 + 1 else if j = 5 then sP σ q 5 - (sP σ q 5 - sC σ d 5) else sP σ q j := by
      intro j
      show f2 (f2 (f2 (sP σ) q 4 (d + 1)) q 6 (sP σ q 6 + 1)) q 5 _ q j = _
      by_cases j5 : j = 5
      · subst j5; rw [f2_s]; simp
      · rw [f2_n (fun z => j5 z.2)]
        by_cases j6 : j = 6
        · subst j6; rw [f2_s]; simp
        · rw [f2_n (fun z => j6 z.2)]
          by_cases j4 : j = 4
          · subst j4; rw [f2_s]; simp
          · rw [f2_n (fun z => j4 z.2), if_neg j4, if_neg j6, if_neg j5]
    rcases List.mem_cons.mp hp with rfl | hp
    · rw [smgs, (smgs_keep d l _).2.2.2.2.2 p hq]
      exact e1 j
    · have hpq : ¬ p = q := fun e => hq (e ▸ hp)
      have e2 : sP (smg1 σ d q) p = sP σ p := by
        funext j
        show f2 _ q 5 _ p j = _
        rw [f2_n (fun z => hpq z.1), f2_n (fun z => hpq z.1), f2_n (fun z => hpq z.1)]
      rw [smgs, ih _ hn p hp j, e2]
      rfl
theorem WFc.merge {σ : q_S} (h : WFc σ) {c d : Nat} (hc : c < sN σ 0) (hd : d < sN σ 0) (hne : ¬ d = c) (hl : sLen σ d + sLen σ c ≤ sC σ d 4) : WFc (smerge σ c d) := by
  obtain ⟨k1, k2, k3, k4, k5, k6⟩ := smgs_keep d (sL σ c) σ
  have kP := smgs_P d (sL σ c) σ (h.nd c)
  obtain ⟨hB, h2, h3, h4, h5, h6, h7, h8⟩ := id h
  have hd8 : d < 8 := Nat.lt_of_lt_of_le hd hB.1
  have hc8 : c < 8 := Nat.lt_of_lt_of_le hc hB.1
  have eN : sN (smerge σ c d) = sN σ := k1
  have eR : sR (smerge σ c d) = sR σ := k3
  have eC : ∀ i j, sC (smerge σ c d) i j = if i = c ∧ j = 8 then d + 1 else if i = c ∧ j = 9 then 1 else if i = c ∧ j = 6 then 4 else sC σ i j := by
    intro i j
    show f2 (f2 (f2 (sC (smgs d (sL σ c) σ)) c 6 4) c 9 1) c 8 (d + 1) i j = _
    rw [k2]; rfl
  have eL : ∀ i, sL (smerge σ c d) i = if i = c then [] else if i = d then sL σ d ++ sL σ c else sL σ i := by
    intro i
    show f1 (sL (smgs d (sL σ c) σ)) c [] i = _
    rw [f1_or]
    by_cases e : i = c
    · rw [if_pos e, if_pos e]
    · rw [if_neg e, if_neg e]
      by_cases e2 : i = d
      · rw [if_pos e2, e2, k5]
      · rw [if_neg e2, k4 i e2]
  have eP : ∀ p j, sP (smerge σ c d) p j = if p ∈ sL σ c then (if j = 4 then d + 1 else if j = 6 then sP σ p 6 + 1 else if j = 5 then sP σ p 5 - (sP σ p 5 - sC σ d 5) else sP σ p j) else sP σ p j := by
    intro p j
    show sP (smgs d (sL σ c) σ) p j = _
    by_cases e : p ∈ sL σ c
    · rw [if_pos e, kP p e j]
    · rw [if_neg e, k6 p e]
  have hlen : ∀ i, (sL (smerge σ c d) i).length ≤ if i = d then sLen σ d + sLen σ c else sLen σ i := by
    intro i
    rw [eL]
    by_cases e : i = c
    · rw [if_pos e]; exact Nat.zero_le _
    · rw [if_neg e]
      by_cases e2 : i = d
      · rw [if_pos e2, if_pos e2, List.length_append]; exact Nat.le_refl _
      · rw [if_neg e2, if_neg e2]; exact Nat.le_refl _
  have hcd := h2 d hd8
  refine ⟨⟨by rw [eN]; exact hB.1, by rw [eN]; exact hB.2.1, by rw [eN]; exact hB.2.2.1, fun i => ?_⟩, fun i hi => ?_, fun i hi => ?_, fun i hi => ?_, fun p => ?_, fun p hp j => ?_, fun i => ⟨?_, fun p => ?_⟩, fun r hr => by rw [eR]; exact h8 r hr⟩
  · have := hlen i
    have h20 : sLen σ i ≤ 20 := hB.2.2.2 i
    have := hcd.2.2.2.2.1
    split at * <;> omega
  · obtain ⟨a1, a2, a3, a4, a5, a6, a7, a8, a9, a10, a11⟩ := h2 i hi
    have hli := hlen i
    refine ⟨?_, ?_, ?_, ?_, ?_, ?_, ?_, ?_, ?_, ?_, ?_⟩
    · rw [eC]; simpa using a1
    · rw [eC]; simpa using a2
    · rw [eC]; simpa using a3
    · rw [eC]; simpa using a4
    · rw [eC]; simpa using a5
    · rw [eC]; simpa using a6
    · rw [eC]; simp; split <;> omega
    · rw [eC]; simpa using a8
    · rw [eC]; simp; split <;> omega
    · rw [eC]; simp; split <;> omega
    · rw [eC]
      simp
      refine Nat.le_trans hli ?_
      split
      · next e => rw [e]; exact hl
      · exact a11
  · rw [eN] at hi
    obtain ⟨a1, a2, a3⟩ := h3 i hi
    refine ⟨by rw [eC, if_neg (by omega), if_neg (by omega), if_neg (fun z => by omega)]; exact a1, by rw [eC]; simpa using a2, ?_⟩
    rw [eL, if_neg (by omega), if_neg (by omega)]; exact a3
  · rw [eN] at hi
    rw [eC]; simp; split
    · omega
    · exact h4 i hi
  · obtain ⟨a1, a2, a3, a4, a5, a6, a7, a8, a9, a10⟩ := h5 p
    by_cases e : p ∈ sL σ c
    · have hp4 := h.mem.mp e
      refine ⟨?_, ?_, ?_, ?_, ?_, ?_, ?_, ?_, ?_, ?_⟩ <;> simp only [eP, eN, if_pos e] <;> simp <;> first | assumption | omega
    · refine ⟨?_, ?_, ?_, ?_, ?_, ?_, ?_, ?_, ?_, ?_⟩ <;> simp only [eP, eN, if_neg e] <;> assumption
  · rw [eN] at hp
    rw [eP, if_neg (fun e => by have := h.mlt e; omega)]
    exact h6 p hp j
  · rw [eL]
    by_cases e : i = c
    · rw [if_pos e]; exact List.nodup_nil
    · rw [if_neg e]
      by_cases e2 : i = d
      · rw [if_pos e2]
        refine List.nodup_append.mpr ⟨h.nd d, h.nd c, fun a ha b hb e3 => ?_⟩
        subst e3
        have := h.mem.mp ha
        have := h.mem.mp hb
        omega
      · rw [if_neg e2]; exact h.nd i
  · rw [eL, eP]
    by_cases e : i = c
    · rw [if_pos e]
      by_cases e3 : p ∈ sL σ c
      · rw [if_pos e3]; simp; omega
      · rw [if_neg e3]
        subst e
        have := h.mem (c := i) (p := p)
        simp
        intro z
        exact e3 (this.mpr z)
    · rw [if_neg e]
      by_cases e3 : p ∈ sL σ c
      · rw [if_pos e3]
        simp
        by_cases e2 : i = d
        · rw [if_pos e2]
          simp [e3, e2]
        · rw [if_neg e2]
          have := h.mem (c := i) (p := p)
          have hp4 := h.mem.mp e3
          rw [this]
          omega
      · rw [if_neg e3]
        by_cases e2 : i = d
        · rw [if_pos e2, List.mem_append, e2]
          have := h.mem (c := d) (p := p)
          rw [← this]
          simp [e3]
        · rw [if_neg e2]
          exact h.mem
/-- the cancelling, person by person -/
def scl (σ : q_S) (c : Nat) : Nat → q_S
  | 0 => σ
  | k + 1 => if sP (scl σ c k) k 4 = c + 1 then sout (scl σ c k) k else scl σ c k
theorem scl_spec {σ : q_S} (h : WFc σ) (c : Nat) : ∀ k, WFc (scl σ c k) ∧ sN (scl σ c k) = sN σ ∧ sC (scl σ c k) = sC σ ∧ sR (scl σ c k) = sR σ ∧ sG (scl σ c k) = f1 (sG σ) 3 (sG σ 3 + spd σ c k) ∧ (∀ i, ¬ i = c → sL (scl σ c k) i = sL σ i) ∧ sL (scl σ c k) c = (sL σ c).filter (fun p => decide (k ≤ p)) ∧ sP (scl σ c k) = fun p j => if p < k ∧ sP σ p 4 = c + 1 ∧ (j = 4 ∨ j = 5) then 0 else sP σ p j := by
  intro k
  induction k with
  | zero =>
    refine ⟨h, rfl, rfl, rfl, (f1_id rfl).symm, fun _ _ => rfl, ?_, ?_⟩
    · symm
      exact List.filter_eq_self.mpr (fun a _ => by simp)
    · funext p j
      rw [if_neg (by omega)]; rfl
  | succ k ih =>
    obtain ⟨h0, h1, h2, h3, h4, h5, h6, h7⟩ := ih
    have hk4 : sP (scl σ c k) k 4 = sP σ k 4 := by rw [h7]; exact if_neg (by omega)
    have hk5 : sP (scl σ c k) k 5 = sP σ k 5 := by rw [h7]; exact if_neg (by omega)
    by_cases e : sP σ k 4 = c + 1
    · have hsc : scl σ c (k + 1) = sout (scl σ c k) k := by rw [scl, if_pos (hk4.trans e)]
      have hne : ¬ sP (scl σ c k) k 4 = 0 := by rw [hk4]; omega
      have hc : sP (scl σ c k) k 4 - 1 = c := by rw [hk4]; omega
      have hso : sout (scl σ c k) k = (sN (scl σ c k), f1 (sG (scl σ c k)) 3 (sG (scl σ c k) 3 + sP (scl σ c k) k 5), sC (scl σ c k), f1 (sL (scl σ c k)) c ((sL (scl σ c k) c).filter (· != k)), f2 (f2 (sP (scl σ c k)) k 4 0) k 5 0, sR (scl σ c k)) := by
        rw [sout, if_neg hne, hc]
      rw [hsc]
      refine ⟨h0.out k, (sout_N _ _).trans h1, (sout_C _ _).trans h2, (sout_R _ _).trans h3, ?_, fun i hi => ?_, ?_, ?_⟩
      · rw [hso, sG_mk, h4, hk5]
        funext i
        by_cases i3 : i = 3
        · subst i3
          rw [f1_s, f1_s, f1_s, spd, if_pos e]; omega
        · rw [f1_n i3, f1_n i3, f1_n i3]
      · rw [hso, sL_mk, f1_n hi]; exact h5 i hi
      · rw [hso, sL_mk, f1_s, h6, List.filter_filter]
        refine List.filter_congr (fun a _ => ?_)
        by_cases q : a = k
        · subst q; simp
        · have : (k ≤ a) = (k + 1 ≤ a) := propext (by omega)
          simp [q, this]
      · rw [hso, sP_mk, h7]
        funext p j
        rw [f2_or, f2_or]
        by_cases q : p = k
        · subst q
          by_cases j5 : j = 5
          · rw [if_pos ⟨rfl, j5⟩, if_pos ⟨by omega, e, Or.inr j5⟩]
          · by_cases j4 : j = 4
            · rw [if_neg (fun z => j5 z.2), if_pos ⟨rfl, j4⟩, if_pos ⟨by omega, e, Or.inl j4⟩]
            · rw [if_neg (fun z => j5 z.2), if_neg (fun z => j4 z.2), if_neg (fun z => by omega), if_neg (fun z => by omega)]
        · rw [if_neg (fun z => q z.1), if_neg (fun z => q z.1)]
          by_cases z : p < k ∧ sP σ p 4 = c + 1 ∧ (j = 4 ∨ j = 5)
          · rw [if_pos z, if_pos ⟨by omega, z.2⟩]
          · rw [if_neg z, if_neg (fun y => z ⟨by omega, y.2⟩)]
    · have hsc : scl σ c (k + 1) = scl σ c k := by rw [scl, if_neg (fun z => e (hk4.symm.trans z))]
      rw [hsc]
      refine ⟨h0, h1, h2, h3, ?_, h5, ?_, ?_⟩
      · rw [h4, spd, if_neg e]; rfl
      · rw [h6]
        refine List.filter_congr (fun a ha => ?_)
        have : ¬ a = k := fun z => e (by rw [← z]; exact h.mem.mp ha)
        have : (k ≤ a) = (k + 1 ≤ a) := propext (by omega)
        simp [this]
      · rw [h7]
        funext p j
        by_cases z : p < k ∧ sP σ p 4 = c + 1 ∧ (j = 4 ∨ j = 5)
        · rw [if_pos z, if_pos ⟨by omega, z.2⟩]
        · rw [if_neg z, if_neg (fun y => ?_)]
          have : ¬ p = k := fun x => e (by rw [← x]; exact y.2.1)
          exact z ⟨by omega, y.2⟩
/-- the class's own end of a cancelling -/
theorem scl_scan {σ : q_S} (h : WFc σ) (c w : Nat) (hc : c < 8) : (sN (scl σ c 30), f1 (sG (scl σ c 30)) 7 (sG (scl σ c 30) 7 + 1), f2 (f2 (sC (scl σ c 30)) c 6 3) c 9 w, sL (scl σ c 30), sP (scl σ c 30), sR (scl σ c 30)) = scan σ c w := by
  obtain ⟨h0, h1, h2, h3, h4, h5, h6, h7⟩ := scl_spec h c 30
  have eL : sL (scl σ c 30) = f1 (sL σ) c [] := by
    funext i
    by_cases e : i = c
    · subst e
      rw [f1_s, h6]
      refine List.filter_eq_nil_iff.mpr (fun a ha => ?_)
      have := h.mlt30 ha
      simp
      omega
    · rw [f1_n e, h5 i e]
  have eP : sP (scl σ c 30) = fun p j => if sP σ p 4 = c + 1 ∧ (j = 4 ∨ j = 5) then 0 else sP σ p j := by
    rw [h7]
    funext p j
    by_cases z : sP σ p 4 = c + 1 ∧ (j = 4 ∨ j = 5)
    · rw [if_pos z, if_pos ⟨h.mlt30 (h.mem.mpr z.1), z⟩]
    · rw [if_neg z, if_neg (fun y => z y.2)]
  rw [h1, h2, h3, h4, eL, eP]
  rfl
theorem WFc.can {σ : q_S} (h : WFc σ) {c w : Nat} (hc : c < sN σ 0) (hw : w ≤ 3) : WFc (scan σ c w) := by
  have h8 : c < 8 := Nat.lt_of_lt_of_le hc h.B.1
  rw [← scl_scan h c w h8]
  obtain ⟨h0, h1, -⟩ := scl_spec h c 30
  generalize scl σ c 30 = τ at h0 h1 ⊢
  obtain ⟨gB, g2, g3, g4, g5, g6, g7, g8⟩ := id h0
  have eC : ∀ i j, (f2 (f2 (sC τ) c 6 3) c 9 w) i j = if i = c ∧ j = 9 then w else if i = c ∧ j = 6 then 3 else sC τ i j := fun i j => rfl
  refine ⟨gB, fun i hi => ?_, fun i hi => ?_, fun i hi => ?_, g5, g6, g7, g8⟩
  · obtain ⟨a1, a2, a3, a4, a5, a6, a7, a8, a9, a10, a11⟩ := g2 i hi
    refine ⟨?_, ?_, ?_, ?_, ?_, ?_, ?_, ?_, ?_, ?_, show (sL τ i).length ≤ f2 (f2 (sC τ) c 6 3) c 9 w i 4 from (by rw [eC, if_neg (by omega), if_neg (by omega)]; exact a11)⟩ <;> rw [sC_mk, eC] <;> simp <;> first | assumption | (split <;> omega)
  · obtain ⟨a1, a2, a3⟩ := g3 i hi
    have hi : sN τ 0 ≤ i := hi
    rw [h1] at hi
    refine ⟨?_, ?_, a3⟩
    · rw [sC_mk, eC, if_neg (by omega), if_neg (by omega)]; exact a1
    · rw [sC_mk, eC, if_neg (by omega), if_neg (by omega)]; exact a2
  · have := g4 i hi
    rw [sC_mk, eC]; simp; split <;> omega
