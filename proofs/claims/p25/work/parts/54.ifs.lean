/-! what joining and leaving bring -/
theorem sbet_same {σ τ : q_S} {p : Nat} (h : sbet σ p = 0) (hP : sP τ p = sP σ p) (hf : ∀ j, 1 ≤ j → j < 4 → sfr τ (sP σ p j) → sfr σ (sP σ p j)) : sbet τ p = 0 := by
  by_cases e : sbet τ p = 0
  · exact e
  exfalso
  obtain ⟨s0, s1, -⟩ := sbet_spec e
  have c := sbet_cases e
  rw [hP] at s0 c
  obtain ⟨z1, z2, z3⟩ := sbet_zero h s0
  rcases c with ⟨c1, c2⟩ | ⟨c1, c2, c3⟩ | ⟨c1, c2, c3, c4⟩
  · rw [c2] at s1; exact z1 c1 (hf 1 (by omega) (by omega) s1)
  · rw [c3] at s1; exact z2 c1 c2 (hf 2 (by omega) (by omega) s1)
  · rw [c4] at s1; exact z3 c1 c2 c3 (hf 3 (by omega) (by omega) s1)
theorem sAddP_Pn {σ : q_S} {a b c q : Nat} (h : ¬ q = sN σ 2) : sP (sAddP σ a b c) q = sP σ q := by
  funext j
  show f2 (f2 (f2 (f2 (sP σ) (sN σ 2) 1 a) (sN σ 2) 2 b) (sN σ 2) 3 c) (sN σ 2) 0 1 q j = _
  rw [f2_n (fun z => h z.1), f2_n (fun z => h z.1), f2_n (fun z => h z.1), f2_n (fun z => h z.1)]
theorem sAddP_new {σ : q_S} (hw : WFc σ) {a b c : Nat} (j : Nat) : sP (sAddP σ a b c) (sN σ 2) j = if j = 0 then 1 else if j = 3 then c else if j = 2 then b else if j = 1 then a else 0 := by
  show f2 (f2 (f2 (f2 (sP σ) (sN σ 2) 1 a) (sN σ 2) 2 b) (sN σ 2) 3 c) (sN σ 2) 0 1 (sN σ 2) j = _
  simp only [f2, true_and]
  rw [hw.zero (Nat.le_refl _) j]
theorem join_fact {b : Nat} {σ : q_S} (hi : Inv b σ) (h0 : sG σ 1 = 0) {c : Nat} (hP : sN σ 2 < 30) (hc : c < sN σ 0) :
    sN (sset 1000 (sAddP σ (c + 1) 0 0)) 2 = sN σ 2 + 1 ∧ sN (sset 1000 (sAddP σ (c + 1) 0 0)) 0 = sN σ 0 ∧ sG (sset 1000 (sAddP σ (c + 1) 0 0)) 1 = 0 ∧ sP (sset 1000 (sAddP σ (c + 1) 0 0)) (sN σ 2) 0 = 1 ∧ sC (sset 1000 (sAddP σ (c + 1) 0 0)) = sC σ ∧
    ((sC σ c 6 = 1 ∧ sLen σ c < sC σ c 4 → srank (sset 1000 (sAddP σ (c + 1) 0 0)) (sN σ 2) = 0 ∧ sP (sset 1000 (sAddP σ (c + 1) 0 0)) (sN σ 2) 5 = sC σ c 5 ∧ sP (sset 1000 (sAddP σ (c + 1) 0 0)) (sN σ 2) 4 = c + 1) ∧
     (¬ (sC σ c 6 = 1 ∧ sLen σ c < sC σ c 4) → srank (sset 1000 (sAddP σ (c + 1) 0 0)) (sN σ 2) = 4 ∧ sP (sset 1000 (sAddP σ (c + 1) 0 0)) (sN σ 2) 4 = 0)) := by
  have hw := hi.wf
  obtain ⟨o1, o7, os⟩ := hi.open0 h0
  have hwt : WFc (sAddP σ (c + 1) 0 0) := hw.addP hP ⟨by omega, by omega⟩ (by omega) (by omega) (fun _ => rfl)
  have pn := sAddP_new hw (a := c + 1) (b := 0) (c := 0)
  have po : ∀ q, ¬ q = sN σ 2 → sP (sAddP σ (c + 1) 0 0) q = sP σ q := fun q h => sAddP_Pn h
  have tC : sC (sAddP σ (c + 1) 0 0) = sC σ := rfl
  have tL : sL (sAddP σ (c + 1) 0 0) = sL σ := rfl
  have tN : sN (sAddP σ (c + 1) 0 0) 2 = sN σ 2 + 1 := by
    show f1 (sN σ) 2 (sN σ 2 + 1) 2 = _
    exact f1_s
  have tN0 : sN (sAddP σ (c + 1) 0 0) 0 = sN σ 0 := rfl
  have tG : sG (sAddP σ (c + 1) 0 0) = sG σ := rfl
  generalize sAddP σ (c + 1) 0 0 = τ at hwt pn po tC tL tN tN0 tG
  generalize hp : sN σ 2 = p at hP pn po tN
  have b0 : ∀ q, ¬ q = p → sbet τ q = 0 := fun q hq => sbet_same (os q) (po q hq) (fun j _ _ z => by
    unfold sfr sLen at z ⊢
    rw [tC, tL] at z
    exact z)
  have n0 := (sset_NCR 1000 τ)
  refine ⟨by rw [n0.1]; exact tN, by rw [n0.1]; exact tN0, ?_, ?_, by rw [n0.2.1]; exact tC, fun hf => ?_, fun hf => ?_⟩
  · rw [sset_G (by omega) (by omega) (by omega), tG]; exact h0
  · -- here
    have key : ∀ n υ, WFc υ → sP υ p 0 = 1 → sP (sset n υ) p 0 = 1 := by
      intro n
      induction n with
      | zero => intro υ _ h; exact h
      | succ n ih =>
        intro υ hυ h
        unfold sset
        by_cases e : spk υ (sN υ 2) 0 < sN υ 2
        · rw [if_pos e]
          obtain ⟨e1, e2⟩ := spk_ok hυ e
          refine ih _ (hυ.move e e2) ?_
          by_cases q : p = spk υ (sN υ 2) 0
          · rw [q, smove_Pw (by omega), ← q]; exact h
          · rw [smove_Pn q]; exact h
        · rw [if_neg e]; exact h
    exact key 1000 τ hwt (by rw [pn]; rfl)
  · have bp : sbet τ p = c + 1 := by
      have f1 : sfr τ (c + 1) := ⟨by omega, by rw [tC]; exact hf.1, by rw [tC, sLen, tL]; exact hf.2⟩
      unfold sbet
      rw [pn, pn, pn]
      simp only [show ¬ (1 : Nat) = 0 by omega, if_true, if_false, show ¬ (1 : Nat) = 3 by omega, show ¬ (1 : Nat) = 2 by omega, show ¬ (4 : Nat) = 0 by omega, show ¬ (4 : Nat) = 3 by omega, show ¬ (4 : Nat) = 2 by omega, show ¬ (4 : Nat) = 1 by omega]
      rw [if_neg (by omega), if_pos f1]
    have sp : spk τ (sN τ 2) 0 = p := by
      obtain ⟨s1, s2, s3, s4⟩ := spk_spec τ (sN τ 2) 0
      rcases Nat.lt_or_ge (spk τ (sN τ 2) 0) (sN τ 2) with q | q
      · have := s3 (by omega)
        by_cases e : spk τ (sN τ 2) 0 = p
        · exact e
        · exact absurd (b0 _ e) this
      · have := s4 p (Nat.zero_le _) (by omega)
        omega
    have t1 : sset 1000 τ = sset 999 (smove τ p) := by
      show (if spk τ (sN τ 2) 0 < sN τ 2 then sset 999 (smove τ (spk τ (sN τ 2) 0)) else τ) = _
      rw [sp, if_pos (by omega)]
    have hwm : WFc (smove τ p) := hwt.move (by omega) (by omega)
    have m4 : sP (smove τ p) p 4 = c + 1 := (smove_P4 (by omega)).trans bp
    have m1 : sP (smove τ p) p 1 = c + 1 := by rw [smove_Pw (by omega), pn]; rfl
    have eo : sout τ p = τ := by
      unfold sout
      rw [if_pos (by rw [pn]; rfl)]
    have ms : Stl (smove τ p) := by
      intro q
      by_cases e : q = p
      · subst e
        unfold sbet
        rw [m4, m1]
        simp
      · refine sbet_same (b0 q e) (smove_Pn e) (fun j _ _ z => ?_)
        unfold sfr at z ⊢
        rw [smove_C] at z
        refine ⟨z.1, z.2.1, Nat.lt_of_le_of_lt ?_ z.2.2⟩
        show (sL τ (sP τ q j - 1)).length ≤ (f1 (sL (sout τ p)) (sbet τ p - 1) (sL (sout τ p) (sbet τ p - 1) ++ [p]) (sP τ q j - 1)).length
        rw [eo, f1_or]
        split
        · next e2 => rw [← e2, List.length_append]; omega
        · exact Nat.le_refl _
    rw [t1, stl_id ms hwm 999]
    refine ⟨?_, ?_, m4⟩
    · unfold srank
      rw [m4, m1, if_neg (by omega), if_pos rfl]
    · unfold smove
      rw [sin_P, bp, sout_C, tC]
      rfl
  · have bp : sbet τ p = 0 := by
      unfold sbet
      rw [pn, pn, pn, pn]
      simp only [show ¬ (1 : Nat) = 0 by omega, if_true, if_false, show ¬ (1 : Nat) = 3 by omega, show ¬ (1 : Nat) = 2 by omega, show ¬ (4 : Nat) = 0 by omega, show ¬ (4 : Nat) = 3 by omega, show ¬ (4 : Nat) = 2 by omega, show ¬ (4 : Nat) = 1 by omega, show ¬ (2 : Nat) = 0 by omega, show ¬ (2 : Nat) = 3 by omega]
      rw [if_neg (by omega), if_neg (fun z => hf ?_)]
      unfold sfr at z
      rw [tC, sLen, tL] at z
      exact z.2
    have st : Stl τ := fun q => by
      by_cases e : q = p
      · rw [e]; exact bp
      · exact b0 q e
    rw [stl_id st hwt 1000]
    have e4 : sP τ p 4 = 0 := by rw [pn]; rfl
    refine ⟨?_, e4⟩
    unfold srank
    rw [if_pos e4]
/-- who isn't here is not moved -/
theorem sset_Pz {p : Nat} : ∀ (n : Nat) (σ : q_S), WFc σ → sP σ p 0 = 0 → sP (sset n σ) p = sP σ p := by
  intro n
  induction n with
  | zero => intro σ _ _; rfl
  | succ n ih =>
    intro σ hw h
    unfold sset
    by_cases e : spk σ (sN σ 2) 0 < sN σ 2
    · rw [if_pos e]
      obtain ⟨e1, e2⟩ := spk_ok hw e
      have hne : ¬ p = spk σ (sN σ 2) 0 := fun z => (sbet_spec e2).1 (by rw [← z]; exact h)
      rw [ih _ (hw.move e e2) (by rw [smove_Pn hne]; exact h), smove_Pn hne]
    · rw [if_neg e]
theorem leave_fact {τ : q_S} (hw : WFc τ) (p : Nat) : sN (sset 1000 (uP (sout τ p) p 0 0)) = sN τ ∧ srank (sset 1000 (uP (sout τ p) p 0 0)) p = 4 ∧ sP (sset 1000 (uP (sout τ p) p 0 0)) p 0 = 0 := by
  have e0 : sP (uP (sout τ p) p 0 0) p 0 = 0 := by
    show f2 (sP (sout τ p)) p 0 0 p 0 = 0
    exact f2_s
  have e := sset_Pz 1000 _ (hw.leave p) e0
  refine ⟨((sset_NCR 1000 _).1).trans (sout_N τ p), ?_, by rw [e]; exact e0⟩
  unfold srank
  rw [e, if_pos]
  rw [uP0 p 4 (by omega)]
  exact sout_P4 hw p
theorem sft_spec2 (σ : q_S) (c : Nat) : ∀ k, ¬ sft σ c k = 0 → sC σ (sft σ c k - 1) 0 = sC σ c 0 ∧ slv σ (sft σ c k - 1) c ≤ 1 := by
  intro k
  induction k with
  | zero => intro h; exact absurd rfl h
  | succ k ih =>
    intro h
    rw [sft] at h ⊢
    split
    · next e => exact ⟨e.2.1.2.2.1, e.2.1.2.2.2.1⟩
    · next e => rw [if_neg e] at h; exact ih h
theorem lev_ok : ∀ a, a < 4 → ∀ b, b < 4 → (if a > b then a - b else b - a) ≤ 1 → ¬ nI 2 ≤ nI a - nI b ∧ ¬ nI a - nI b ≤ -2 := by decide
