/-! rooms -/
/-- a room given on an evening, to one of the first k -/
def sgb (σ : q_S) (r e : Nat) : Nat → Bool
  | 0 => false
  | k + 1 => sgb σ r e k || (decide (sC σ k 7 = r + 1) && decide (sC σ k 2 = e))
/-- the room for c, of the first k: its number + 1, or 0 -/
def srm (σ : q_S) (c : Nat) : Nat → Nat
  | 0 => 0
  | k + 1 => if sLen σ c ≤ sR σ k ∧ sgb σ k (sC σ c 2) 8 = false ∧ (srm σ c k = 0 ∨ sR σ k < sR σ (srm σ c k - 1)) then k + 1 else srm σ c k
theorem srm_le (σ : q_S) (c : Nat) : ∀ k, srm σ c k ≤ k := by
  intro k
  induction k with
  | zero => exact Nat.le_refl _
  | succ k ih => rw [srm]; split <;> omega
def sgiv (σ : q_S) (c r : Nat) : q_S := (sN σ, sG σ, f2 (f2 (sC σ) c 7 r) c 6 2, sL σ, sP σ, sR σ)
def scl2 (σ : q_S) (c : Nat) : q_S := if srm σ c (sN σ 1) = 0 then scan σ c 3 else sgiv σ c (srm σ c (sN σ 1))
def scls2 : Nat → q_S → q_S
  | 0, σ => σ
  | n + 1, σ => if sgr σ 8 = 0 then σ else scls2 n (scl2 σ (sgr σ 8 - 1))
/-- the whole closing -/
def sclose (σ : q_S) : q_S := uG (scls2 8 (scls1 8 σ)) 1 1
/-- a set as bits, of the first k -/
def sbits (P : Nat → Bool) : Nat → Nat
  | 0 => 0
  | k + 1 => sbits P k + (if P k then 2 ^ k else 0)
theorem sbits_lt (P : Nat → Bool) : ∀ k, sbits P k < 2 ^ k := by
  intro k
  induction k with
  | zero => exact Nat.one_pos
  | succ k ih => rw [sbits, Nat.pow_succ]; split <;> omega
theorem bit_or : ∀ k, k < 8 → ∀ s, s < 2 ^ k → nI s ||| (nI 1 <<< (nI k &&& 31)) = nI (s + 2 ^ k) := by decide +kernel
/-- how many of the first k -/
def scnt (P : Nat → Bool) : Nat → Nat
  | 0 => 0
  | k + 1 => scnt P k + (if P k then 1 else 0)
theorem WFc.giv {σ : q_S} (h : WFc σ) {c r : Nat} (hc : c < sN σ 0) (hr : r ≤ 5) : WFc (sgiv σ c r) := by
  obtain ⟨gB, g2, g3, g4, g5, g6, g7, g8⟩ := id h
  have eC : ∀ i j, (f2 (f2 (sC σ) c 7 r) c 6 2) i j = if i = c ∧ j = 6 then 2 else if i = c ∧ j = 7 then r else sC σ i j := fun i j => rfl
  refine ⟨gB, fun i hi => ?_, fun i hi => ?_, fun i hi => ?_, g5, g6, g7, g8⟩
  · obtain ⟨a1, a2, a3, a4, a5, a6, a7, a8, a9, a10, a11⟩ := g2 i hi
    refine ⟨?_, ?_, ?_, ?_, ?_, ?_, ?_, ?_, ?_, ?_, show (sL σ i).length ≤ f2 (f2 (sC σ) c 7 r) c 6 2 i 4 from (by rw [eC, if_neg (by omega), if_neg (by omega)]; exact a11)⟩ <;> rw [sgiv, sC_mk, eC] <;> simp <;> first | assumption | (split <;> omega)
  · obtain ⟨a1, a2, a3⟩ := g3 i hi
    have hi : sN σ 0 ≤ i := hi
    refine ⟨?_, ?_, a3⟩
    · rw [sgiv, sC_mk, eC, if_neg (by omega), if_neg (by omega)]; exact a1
    · rw [sgiv, sC_mk, eC, if_neg (by omega), if_neg (by omega)]; exact a2
  · have := g4 i hi
    rw [sgiv, sC_mk, eC]; simp; split <;> omega
theorem c_lt_of_st {σ : q_S} (h : WFc σ) {c : Nat} (hs : sC σ c 6 = 1) : c < sN σ 0 := by
  rcases Nat.lt_or_ge c (sN σ 0) with q | q
  · exact q
  · have := (h.2.2.1 c q).1; omega
theorem WFc.cl1 {σ : q_S} (h : WFc σ) {c : Nat} (hs : sC σ c 6 = 1) : WFc (scl1 σ c) := by
  have hc := c_lt_of_st h hs
  unfold scl1
  apply WFc.set
  split
  · exact h.can hc (by omega)
  · next e =>
    obtain ⟨h1, h2, h3⟩ := sft_spec σ c 8 e
    exact h.merge hc (c_lt_of_st h h1) h2 h3
theorem WFc.cls1 {σ : q_S} (n : Nat) (h : WFc σ) : WFc (scls1 n σ) := by
  induction n generalizing σ with
  | zero => exact h
  | succ n ih =>
    unfold scls1
    split
    · exact h
    · next e => exact ih (h.cl1 (ssm_spec σ 8 e).1)
theorem WFc.cl2 {σ : q_S} (h : WFc σ) {c : Nat} (hs : sC σ c 6 = 1) : WFc (scl2 σ c) := by
  have hc := c_lt_of_st h hs
  unfold scl2
  split
  · exact h.can hc (by omega)
  · exact h.giv hc (Nat.le_trans (srm_le _ _ _) h.B.2.1)
theorem WFc.cls2 {σ : q_S} (n : Nat) (h : WFc σ) : WFc (scls2 n σ) := by
  induction n generalizing σ with
  | zero => exact h
  | succ n ih =>
    unfold scls2
    split
    · exact h
    · next e => exact ih (h.cl2 (sgr_spec σ 8 e))
theorem WFc.G {σ : q_S} (h : WFc σ) (j v : Nat) : WFc (uG σ j v) := h
theorem WFc.close {σ : q_S} (h : WFc σ) : WFc (sclose σ) := ((h.cls1 8).cls2 8).G 1 1
/-! max(0, a - b) -/
theorem max_sub {a b : Nat} (ha : a < 2 ^ 30) (hb : b < 2 ^ 30) : (if nI 0 < nI a - nI b then nI a - nI b else nI 0) = nI (a - b) := by
  rcases Nat.lt_or_ge a b with q | q
  · have hneg := pk_sneg (by omega) q
    rw [if_neg, Nat.sub_eq_zero_of_le (Nat.le_of_lt q)]
    exact Int32.not_lt.mpr (Int32.le_of_lt hneg)
  · rw [pk_sub q]
    by_cases e : a - b = 0
    · rw [e]; rfl
    · rw [if_pos ((nI_ltI (by omega) (by omega)).mpr (by omega))]
