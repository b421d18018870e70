/-! WHAT HOLDS BETWEEN THE LAW'S CALLS: sums, what is paid, settling -/
theorem ssum_cg {f g : Nat → Nat} : ∀ k, (∀ p, p < k → f p = g p) → ssum f k = ssum g k := by
  intro k
  induction k with
  | zero => intro _; rfl
  | succ k ih => intro h; rw [ssum, ssum, ih (fun p hp => h p (by omega)), h k (by omega)]
theorem ssum_up {f g : Nat → Nat} {p k : Nat} (hp : p < k) (h : ∀ q, ¬ q = p → g q = f q) : ssum g k + f p = ssum f k + g p := by
  induction k with
  | zero => omega
  | succ k ih =>
    by_cases e : p = k
    · subst e
      rw [ssum, ssum, ssum_cg p (fun q hq => h q (by omega))]
      omega
    · have := ih (by omega)
      rw [ssum, ssum, h k (fun z => e z.symm)]
      omega
theorem ssum_zero {f : Nat → Nat} : ∀ k, (∀ p, p < k → f p = 0) → ssum f k = 0 := by
  intro k
  induction k with
  | zero => intro _; rfl
  | succ k ih => intro h; rw [ssum, ih (fun p hp => h p (by omega)), h k (by omega)]
theorem ssum_tail {f : Nat → Nat} {n : Nat} (hz : ∀ p, n ≤ p → f p = 0) : ∀ k, n ≤ k → ssum f k = ssum f n := by
  intro k
  induction k with
  | zero => intro h; obtain rfl : n = 0 := by omega
            rfl
  | succ k ih =>
    intro h
    by_cases e : n = k + 1
    · rw [e]
    · rw [ssum, ih (by omega), hz k (by omega)]; rfl
theorem ssum_ge {f : Nat → Nat} : ∀ k p, p < k → f p ≤ ssum f k := by
  intro k
  induction k with
  | zero => intro p hp; omega
  | succ k ih =>
    intro p hp
    rw [ssum]
    by_cases e : p = k
    · subst e; omega
    · have := ih p (by omega); omega
theorem ssum_mono (f : Nat → Nat) {m : Nat} : ∀ k, m ≤ k → ssum f m ≤ ssum f k := by
  intro k
  induction k with
  | zero => intro h; obtain rfl : m = 0 := by omega
            exact Nat.le_refl _
  | succ k ih =>
    intro h
    by_cases e : m = k + 1
    · rw [e]; exact Nat.le_refl _
    · rw [ssum]; have := ih (by omega); omega
theorem ssum_le4 {f : Nat → Nat} (h : ∀ p, f p ≤ 4) : ∀ k, ssum f k ≤ 4 * k := by
  intro k
  induction k with
  | zero => exact Nat.le_refl _
  | succ k ih => rw [ssum]; have := h k; omega
/-- of who is in a class: what is paid is no more than its fee, and he came in at least once -/
def Pay (σ : q_S) : Prop := ∀ p c, sP σ p 4 = c + 1 → sP σ p 5 ≤ sC σ c 5 ∧ 0 < sP σ p 6
/-- the coins add up -/
def Bal (σ : q_S) : Prop := sG σ 2 = sG σ 3 + ssum (fun p => sP σ p 5) 30 + sG σ 4
def Com (b : Nat) (σ : q_S) : Prop := ∀ p, sP σ p 6 ≤ b
def Stl (σ : q_S) : Prop := ∀ p, sbet σ p = 0
theorem sout_Pn {σ : q_S} {p q : Nat} (h : ¬ q = p) : sP (sout σ p) q = sP σ q := by
  unfold sout
  split
  · rfl
  · funext j
    show f2 (f2 (sP σ) p 4 0) p 5 0 q j = _
    rw [f2_n (fun z => h z.1), f2_n (fun z => h z.1)]
theorem sin_Pn {σ : q_S} {p c q : Nat} (h : ¬ q = p) : sP (sin σ p c) q = sP σ q := by
  funext j
  show f2 (f2 (f2 (sP σ) p 4 (c + 1)) p 5 (sC σ c 5)) p 6 (sP σ p 6 + 1) q j = _
  rw [f2_n (fun z => h z.1), f2_n (fun z => h z.1), f2_n (fun z => h z.1)]
theorem sin_P {σ : q_S} {p c : Nat} (j : Nat) : sP (sin σ p c) p j = if j = 6 then sP σ p 6 + 1 else if j = 5 then sC σ c 5 else if j = 4 then c + 1 else sP σ p j := by
  show f2 (f2 (f2 (sP σ) p 4 (c + 1)) p 5 (sC σ c 5)) p 6 (sP σ p 6 + 1) p j = _
  simp [f2]
theorem smove_Pn {σ : q_S} {p q : Nat} (h : ¬ q = p) : sP (smove σ p) q = sP σ q := (sin_Pn h).trans (sout_Pn h)
theorem sout_P5 {σ : q_S} (h : WFc σ) (p : Nat) : sP (sout σ p) p 5 = 0 := by
  unfold sout
  split
  · next e => exact (h.pr p).2.2.2.2.2.2.1 e
  · show f2 (f2 (sP σ) p 4 0) p 5 0 p 5 = 0
    rw [f2_s]
theorem Pay.out {σ : q_S} (h : Pay σ) (hw : WFc σ) (p : Nat) : Pay (sout σ p) := by
  intro q c hq
  by_cases e : q = p
  · subst e
    rw [sout_P4 hw q] at hq
    omega
  · rw [sout_Pn e] at hq ⊢
    rw [sout_C]
    exact h q c hq
theorem Bal.out {σ : q_S} (h : Bal σ) {p : Nat} (hp : p < 30) : Bal (sout σ p) := by
  unfold sout
  split
  · exact h
  · have h1 := ssum_up (f := fun q => sP σ q 5) (g := fun q => f2 (f2 (sP σ) p 4 0) p 5 0 q 5) hp (fun q hq => by
      show f2 (f2 (sP σ) p 4 0) p 5 0 q 5 = _
      rw [f2_n (fun z => hq z.1), f2_n (fun z => hq z.1)])
    have h2 : f2 (f2 (sP σ) p 4 0) p 5 0 p 5 = 0 := f2_s
    have h3 : sG σ 2 = sG σ 3 + ssum (fun p => sP σ p 5) 30 + sG σ 4 := h
    show sG σ 2 = (sG σ 3 + sP σ p 5) + ssum (fun q => f2 (f2 (sP σ) p 4 0) p 5 0 q 5) 30 + sG σ 4
    simp only [h2] at h1
    omega
theorem Pay.inn {σ : q_S} (h : Pay σ) (p c : Nat) : Pay (sin σ p c) := by
  intro q d hq
  by_cases e : q = p
  · subst e
    rw [sin_P] at hq
    have hd : d = c := by simp at hq; omega
    subst hd
    rw [sin_P, sin_P]
    show sC σ d 5 ≤ sC σ d 5 ∧ 0 < sP σ q 6 + 1
    exact ⟨Nat.le_refl _, Nat.succ_pos _⟩
  · rw [sin_Pn e] at hq ⊢
    exact h q d hq
theorem Bal.inn {σ : q_S} (h : Bal σ) {p c : Nat} (hp : p < 30) (h5 : sP σ p 5 = 0) : Bal (sin σ p c) := by
  have h1 := ssum_up (f := fun q => sP σ q 5) (g := fun q => sP (sin σ p c) q 5) hp (fun q hq => by
    show sP (sin σ p c) q 5 = _
    rw [sin_Pn hq])
  have h2 : sP (sin σ p c) p 5 = sC σ c 5 := by rw [sin_P]; rfl
  have h3 : sG σ 2 = sG σ 3 + ssum (fun p => sP σ p 5) 30 + sG σ 4 := h
  show sG σ 2 + sC σ c 5 = sG σ 3 + ssum (fun q => sP (sin σ p c) q 5) 30 + sG σ 4
  simp only [h2, h5] at h1
  omega
theorem mny_move {σ : q_S} (hw : WFc σ) (h1 : Pay σ) (h2 : Bal σ) {p : Nat} (hp : p < 30) : Pay (smove σ p) ∧ Bal (smove σ p) := ⟨(h1.out hw p).inn p _, (h2.out hp).inn hp (sout_P5 hw p)⟩
theorem spk_ok {σ : q_S} (hw : WFc σ) (e : spk σ (sN σ 2) 0 < sN σ 2) : spk σ (sN σ 2) 0 < 30 ∧ ¬ sbet σ (spk σ (sN σ 2) 0) = 0 :=
  ⟨Nat.lt_of_lt_of_le e hw.B.2.2.1, (spk_spec σ (sN σ 2) 0).2.2.1 (by omega)⟩
theorem mny_set : ∀ (n : Nat) (σ : q_S), WFc σ → Pay σ → Bal σ → Pay (sset n σ) ∧ Bal (sset n σ) := by
  intro n
  induction n with
  | zero => intro σ _ h1 h2; exact ⟨h1, h2⟩
  | succ n ih =>
    intro σ hw h1 h2
    unfold sset
    by_cases e : spk σ (sN σ 2) 0 < sN σ 2
    · rw [if_pos e]
      obtain ⟨e1, e2⟩ := spk_ok hw e
      obtain ⟨m1, m2⟩ := mny_move hw h1 h2 e1
      exact ih _ (hw.move e e2) m1 m2
    · rw [if_neg e]; exact ⟨h1, h2⟩
theorem com_move {σ : q_S} {b : Nat} (h : Com b σ) (p : Nat) : Com (b + 1) (smove σ p) := by
  intro q
  by_cases e : q = p
  · subst e
    unfold smove
    rw [sin_P, sout_P q q (by omega) (by omega)]
    have := h q
    simp
    omega
  · rw [smove_Pn e]
    have := h q
    omega
theorem Com.le {σ : q_S} {a b : Nat} (h : Com a σ) (hab : a ≤ b) : Com b σ := fun p => Nat.le_trans (h p) hab
theorem com_set : ∀ (n : Nat) (σ : q_S) (b : Nat), Com b σ → Com (b + n) (sset n σ) := by
  intro n
  induction n with
  | zero => intro σ b h; exact h
  | succ n ih =>
    intro σ b h
    unfold sset
    split
    · exact (ih _ _ (com_move h _)).le (by omega)
    · exact h.le (by omega)
/-! settling comes to its end -/
theorem sbet_cases {σ : q_S} {p : Nat} (h : ¬ sbet σ p = 0) : (¬ sP σ p 1 = sP σ p 4 ∧ sbet σ p = sP σ p 1) ∨ (¬ sP σ p 1 = sP σ p 4 ∧ ¬ sP σ p 2 = sP σ p 4 ∧ sbet σ p = sP σ p 2) ∨ (¬ sP σ p 1 = sP σ p 4 ∧ ¬ sP σ p 2 = sP σ p 4 ∧ ¬ sP σ p 3 = sP σ p 4 ∧ sbet σ p = sP σ p 3) := by
  unfold sbet at h ⊢
  by_cases c0 : sP σ p 0 = 0
  · rw [if_pos c0] at h; exact absurd rfl h
  rw [if_neg c0] at h ⊢
  by_cases c1 : sP σ p 1 = sP σ p 4
  · rw [if_pos c1] at h; exact absurd rfl h
  rw [if_neg c1] at h ⊢
  by_cases g1 : sfr σ (sP σ p 1)
  · rw [if_pos g1]; exact Or.inl ⟨c1, rfl⟩
  rw [if_neg g1] at h ⊢
  by_cases c2 : sP σ p 2 = sP σ p 4
  · rw [if_pos c2] at h; exact absurd rfl h
  rw [if_neg c2] at h ⊢
  by_cases g2 : sfr σ (sP σ p 2)
  · rw [if_pos g2]; exact Or.inr (Or.inl ⟨c1, c2, rfl⟩)
  rw [if_neg g2] at h ⊢
  by_cases c3 : sP σ p 3 = sP σ p 4
  · rw [if_pos c3] at h; exact absurd rfl h
  rw [if_neg c3] at h ⊢
  by_cases g3 : sfr σ (sP σ p 3)
  · rw [if_pos g3]; exact Or.inr (Or.inr ⟨c1, c2, c3, rfl⟩)
  · rw [if_neg g3] at h; exact absurd rfl h
theorem smove_P4 {σ : q_S} {p : Nat} (h : ¬ sbet σ p = 0) : sP (smove σ p) p 4 = sbet σ p := by
  unfold smove
  rw [sin_P]
  simp
  omega
theorem smove_Pw {σ : q_S} {p j : Nat} (h : j < 4) : sP (smove σ p) p j = sP σ p j := by
  unfold smove
  rw [sin_P, if_neg (by omega), if_neg (by omega), if_neg (by omega), sout_P p p (by omega) (by omega)]
theorem srank_move {σ : q_S} {p : Nat} (h : ¬ sbet σ p = 0) : srank (smove σ p) p + 1 ≤ srank σ p := by
  unfold srank
  rw [smove_P4 h, smove_Pw (by omega), smove_Pw (by omega), smove_Pw (by omega)]
  rcases sbet_cases h with q | q | q <;> (repeat' split) <;> omega
def srk (σ : q_S) : Nat := ssum (fun p => srank σ p) 30
theorem srk_le (σ : q_S) : srk σ ≤ 120 := ssum_le4 (fun p => srank_le σ p) 30
theorem srk_move {σ : q_S} {p : Nat} (hp : p < 30) (h : ¬ sbet σ p = 0) : srk (smove σ p) + 1 ≤ srk σ := by
  have h1 := ssum_up (f := fun q => srank σ q) (g := fun q => srank (smove σ p) q) hp (fun q hq => by
    show srank (smove σ p) q = srank σ q
    unfold srank
    rw [smove_Pn hq])
  have h2 := srank_move h
  unfold srk
  omega
theorem sbet_out {σ : q_S} (hw : WFc σ) {p : Nat} (h : sN σ 2 ≤ p) : sbet σ p = 0 := by
  unfold sbet
  rw [if_pos (hw.zero h 0)]
theorem stl_of {σ : q_S} (hw : WFc σ) (h : ¬ spk σ (sN σ 2) 0 < sN σ 2) : Stl σ := by
  intro p
  rcases Nat.lt_or_ge p (sN σ 2) with q | q
  · exact (spk_spec σ (sN σ 2) 0).2.2.2 p (Nat.zero_le _) (by omega)
  · exact sbet_out hw q
theorem stl_set : ∀ (n : Nat) (σ : q_S), WFc σ → srk σ ≤ n → Stl (sset n σ) := by
  intro n
  induction n with
  | zero =>
    intro σ hw h
    refine stl_of hw (fun e => ?_)
    obtain ⟨e1, e2⟩ := spk_ok hw e
    have := srk_move e1 e2
    omega
  | succ n ih =>
    intro σ hw h
    unfold sset
    by_cases e : spk σ (sN σ 2) 0 < sN σ 2
    · rw [if_pos e]
      obtain ⟨e1, e2⟩ := spk_ok hw e
      have := srk_move e1 e2
      exact ih _ (hw.move e e2) (by omega)
    · rw [if_neg e]; exact stl_of hw e
theorem stl_1000 {σ : q_S} (hw : WFc σ) : Stl (sset 1000 σ) := stl_set 1000 σ hw (Nat.le_trans (srk_le σ) (by omega))
/-- where all is settled, settling does nothing -/
theorem stl_id {σ : q_S} (h : Stl σ) (hw : WFc σ) : ∀ n, sset n σ = σ := by
  intro n
  cases n with
  | zero => rfl
  | succ n =>
    unfold sset
    rw [if_neg]
    intro e
    exact (spk_ok hw e).2 (h _)
