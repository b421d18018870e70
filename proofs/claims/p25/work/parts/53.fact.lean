/-! what the law asks, as mathematics -/
theorem told_0 : told 0 < 0 := by decide
theorem told_s {w : Nat} (h : ¬ w = 0) : told w = nI (w - 1) := if_neg h
theorem told_inj {u v : Nat} (hu : u < 2 ^ 30) (hv : v < 2 ^ 30) : told u = told v ↔ u = v := by
  constructor
  · intro h
    by_cases e1 : u = 0
    · by_cases e2 : v = 0
      · omega
      · rw [e1, told_s e2] at h
        exact absurd (h ▸ told_0) (nn (by omega))
    · by_cases e2 : v = 0
      · rw [e2, told_s e1] at h
        exact absurd (h ▸ told_0) (nn (by omega))
      · rw [told_s e1, told_s e2] at h
        have := (nI_eq (by omega) (by omega)).mp h
        omega
  · rintro rfl; rfl
theorem told_neg {w : Nat} (hw : w < 2 ^ 30) : told w < 0 ↔ w = 0 := by
  constructor
  · intro h
    by_cases e : w = 0
    · exact e
    · rw [told_s e] at h; exact absurd h (nn (by omega))
  · rintro rfl; exact told_0
/-! nobody waits for a free place -/
theorem swt_no {σ : q_S} (hw : WFc σ) (h : Stl σ) {c : Nat} (h1 : sC σ c 6 = 1) (h2 : sLen σ c < sC σ c 4) (p : Nat) : swt σ p (c + 1) = false := by
  by_cases e : swt σ p (c + 1) = true
  case neg => exact Bool.eq_false_iff.mpr e
  exfalso
  unfold swt at e
  simp only [Bool.and_eq_true, decide_eq_true_eq] at e
  obtain ⟨⟨e0, e1⟩, e2⟩ := e
  have hp : p < sN σ 2 := by
    rcases Nat.lt_or_ge p (sN σ 2) with q | q
    · exact q
    · exact absurd (hw.zero q 0) e0
  obtain ⟨a1, a2, a3, a4, a5, a6, a7, a8, a9, a10⟩ := hw.pr p
  have b1 := a10 hp
  obtain ⟨z1, z2, z3⟩ := sbet_zero (h p) e0
  have F : ∀ w, c + 1 = w → sfr σ w := fun w hw => by
    subst hw
    exact ⟨by omega, h1, h2⟩
  unfold srkw at e1 e2
  unfold srank at e2
  by_cases w1 : c + 1 = sP σ p 1
  · rw [if_pos w1] at e2
    refine z1 (fun z => ?_) (F _ w1)
    rw [if_neg (by omega), if_pos z.symm] at e2
    omega
  rw [if_neg w1] at e1 e2
  by_cases w2 : c + 1 = sP σ p 2
  · rw [if_pos w2] at e2
    refine z2 (fun z => ?_) (fun z => ?_) (F _ w2)
    · rw [if_neg (by omega), if_pos z.symm] at e2
      omega
    · rw [if_neg (by omega)] at e2
      split at e2
      · omega
      · rw [if_pos z.symm] at e2; omega
  rw [if_neg w2] at e1 e2
  by_cases w3 : c + 1 = sP σ p 3
  · rw [if_pos w3] at e2
    have b2 : ¬ sP σ p 2 = 0 := fun z => by have := a9 z; omega
    refine z3 (fun z => ?_) (fun z => ?_) (fun z => ?_) (F _ w3)
    · rw [if_neg (by omega), if_pos z.symm] at e2
      omega
    · rw [if_neg (by omega)] at e2
      split at e2
      · omega
      · rw [if_pos z.symm] at e2; omega
    · rw [if_neg (by omega)] at e2
      split at e2
      · omega
      · split at e2
        · omega
        · rw [if_pos z.symm] at e2; omega
  rw [if_neg w3] at e1
  omega
def nwt (σ : q_S) (c : Nat) : Nat := ssum (fun p => if swt σ p (c + 1) = true then 1 else 0) 30
theorem nwt_no {σ : q_S} (hw : WFc σ) (h : Stl σ) {c : Nat} (h1 : sC σ c 6 = 1) (h2 : sLen σ c < sC σ c 4) : nwt σ c = 0 :=
  ssum_zero 30 (fun p _ => by
    show (if swt σ p (c + 1) = true then 1 else 0) = 0
    rw [swt_no hw h h1 h2 p]; rfl)
theorem nwt_le (σ : q_S) (c : Nat) : nwt σ c ≤ 30 := by
  have : ∀ k, ssum (fun p => if swt σ p (c + 1) = true then 1 else 0) k ≤ k := by
    intro k
    induction k with
    | zero => exact Nat.le_refl _
    | succ k ih => rw [ssum]; split <;> omega
  exact this 30
/-! who waits, one by one -/
def wct (σ : q_S) (w k : Nat) : Nat := ssum (fun p => if swt σ p w = true then 1 else 0) k
theorem wct_s (σ : q_S) (w k : Nat) : wct σ w (k + 1) = wct σ w k + (if swt σ k w = true then 1 else 0) := rfl
theorem swn_spec (σ : q_S) (w : Nat) : ∀ d k r, (wct σ w (k + d) ≤ wct σ w k + r → swn σ w d k r = 0) ∧ (wct σ w k + r < wct σ w (k + d) → ∃ p, swn σ w d k r = p + 1 ∧ p < k + d ∧ swt σ p w = true ∧ wct σ w p = wct σ w k + r) := by
  intro d
  induction d with
  | zero => intro k r; exact ⟨fun _ => rfl, fun h => by have h : wct σ w k + r < wct σ w k := h; omega⟩
  | succ d ih =>
    intro k r
    have e : k + (d + 1) = (k + 1) + d := by omega
    rw [e, swn]
    have hs := wct_s σ w k
    have hm : wct σ w (k + 1) ≤ wct σ w (k + 1 + d) := ssum_mono _ _ (by omega)
    by_cases q : swt σ k w = true
    · rw [if_pos q] at hs ⊢
      by_cases r0 : r = 0
      · rw [if_pos r0]
        refine ⟨fun h => by omega, fun h => ⟨k, rfl, by omega, q, by omega⟩⟩
      · rw [if_neg r0]
        obtain ⟨i1, i2⟩ := ih (k + 1) (r - 1)
        refine ⟨fun h => i1 (by omega), fun h => ?_⟩
        obtain ⟨p, p1, p2, p3, p4⟩ := i2 (by omega)
        exact ⟨p, p1, p2, p3, by omega⟩
    · rw [if_neg q] at hs ⊢
      obtain ⟨i1, i2⟩ := ih (k + 1) r
      refine ⟨fun h => i1 (by omega), fun h => ?_⟩
      obtain ⟨p, p1, p2, p3, p4⟩ := i2 (by omega)
      exact ⟨p, p1, p2, p3, by omega⟩
theorem swn_in {σ : q_S} {c r : Nat} (h : r < nwt σ c) : ∃ p, swn σ (c + 1) 30 0 r = p + 1 ∧ p < 30 ∧ swt σ p (c + 1) = true ∧ wct σ (c + 1) p = r := by
  obtain ⟨p, p1, p2, p3, p4⟩ := (swn_spec σ (c + 1) 30 0 r).2 (by show 0 + r < nwt σ c; omega)
  exact ⟨p, p1, by omega, p3, by rw [p4]; exact Nat.zero_add r⟩
theorem swn_out {σ : q_S} {c r : Nat} (h : nwt σ c ≤ r) : swn σ (c + 1) 30 0 r = 0 := (swn_spec σ (c + 1) 30 0 r).1 (by show nwt σ c ≤ 0 + r; omega)
theorem wct_lt {σ : q_S} {w p q : Nat} (hq : wct σ w p < wct σ w q) : p < q := by
  rcases Nat.lt_or_ge p q with z | z
  · exact z
  · have := ssum_mono (fun p => if swt σ p w = true then 1 else 0) (m := q) p z
    unfold wct at hq
    omega
/-- who waits has such a wish, and isn't in the class -/
theorem swt_yes {σ : q_S} {p c : Nat} (h : swt σ p (c + 1) = true) : ¬ sP σ p 0 = 0 ∧ (sP σ p 1 = c + 1 ∨ sP σ p 2 = c + 1 ∨ sP σ p 3 = c + 1) ∧ ¬ sP σ p 4 = c + 1 := by
  unfold swt at h
  simp only [Bool.and_eq_true, decide_eq_true_eq] at h
  obtain ⟨⟨e0, e1⟩, e2⟩ := h
  refine ⟨e0, ?_, fun z => ?_⟩
  · unfold srkw at e1
    by_cases w1 : c + 1 = sP σ p 1
    · exact Or.inl w1.symm
    rw [if_neg w1] at e1
    by_cases w2 : c + 1 = sP σ p 2
    · exact Or.inr (Or.inl w2.symm)
    rw [if_neg w2] at e1
    by_cases w3 : c + 1 = sP σ p 3
    · exact Or.inr (Or.inr w3.symm)
    rw [if_neg w3] at e1
    omega
  · have : srank σ p = srkw σ p (c + 1) := by
      unfold srank srkw
      rw [z, if_neg (by omega)]
    omega
/-! bits -/
theorem sbits_cg {P Q : Nat → Bool} : ∀ k, (∀ c, c < k → P c = Q c) → sbits P k = sbits Q k := by
  intro k
  induction k with
  | zero => intro _; rfl
  | succ k ih => intro h; rw [sbits, sbits, ih (fun c hc => h c (by omega)), h k (by omega)]
theorem sbits_tail {P : Nat → Bool} {n : Nat} (hz : ∀ c, n ≤ c → P c = false) : ∀ k, n ≤ k → sbits P k = sbits P n := by
  intro k
  induction k with
  | zero => intro h; obtain rfl : n = 0 := by omega
            rfl
  | succ k ih =>
    intro h
    by_cases e : n = k + 1
    · rw [e]
    · rw [sbits, ih (by omega), hz k (by omega)]; rfl
def sb8 (b0 b1 b2 b3 b4 b5 b6 b7 : Bool) : Nat := 0 + (if b0 then 1 else 0) + (if b1 then 2 else 0) + (if b2 then 4 else 0) + (if b3 then 8 else 0) + (if b4 then 16 else 0) + (if b5 then 32 else 0) + (if b6 then 64 else 0) + (if b7 then 128 else 0)
theorem sb8_c : ∀ b0 b1 b2 b3 b4 b5 b6 b7 : Bool, bcnt 8 (sb8 b0 b1 b2 b3 b4 b5 b6 b7) = 0 + (if b0 then 1 else 0) + (if b1 then 1 else 0) + (if b2 then 1 else 0) + (if b3 then 1 else 0) + (if b4 then 1 else 0) + (if b5 then 1 else 0) + (if b6 then 1 else 0) + (if b7 then 1 else 0) := by decide +kernel
theorem sb8_b : ∀ b0 b1 b2 b3 b4 b5 b6 b7 : Bool, (sb8 b0 b1 b2 b3 b4 b5 b6 b7 / 1 % 2 = if b0 then 1 else 0) ∧ (sb8 b0 b1 b2 b3 b4 b5 b6 b7 / 2 % 2 = if b1 then 1 else 0) ∧ (sb8 b0 b1 b2 b3 b4 b5 b6 b7 / 4 % 2 = if b2 then 1 else 0) ∧ (sb8 b0 b1 b2 b3 b4 b5 b6 b7 / 8 % 2 = if b3 then 1 else 0) ∧ (sb8 b0 b1 b2 b3 b4 b5 b6 b7 / 16 % 2 = if b4 then 1 else 0) ∧ (sb8 b0 b1 b2 b3 b4 b5 b6 b7 / 32 % 2 = if b5 then 1 else 0) ∧ (sb8 b0 b1 b2 b3 b4 b5 b6 b7 / 64 % 2 = if b6 then 1 else 0) ∧ (sb8 b0 b1 b2 b3 b4 b5 b6 b7 / 128 % 2 = if b7 then 1 else 0) := by decide +kernel
theorem sbits_8 (P : Nat → Bool) : sbits P 8 = sb8 (P 0) (P 1) (P 2) (P 3) (P 4) (P 5) (P 6) (P 7) := rfl
theorem bcnt_sbits (P : Nat → Bool) : bcnt 8 (sbits P 8) = ssum (fun c => if P c = true then 1 else 0) 8 := by
  rw [sbits_8, sb8_c]
  rfl
theorem sbits_bit (P : Nat → Bool) {c : Nat} (hc : c < 8) : sbits P 8 / 2 ^ c % 2 = if P c = true then 1 else 0 := by
  rw [sbits_8]
  obtain ⟨h0, h1, h2, h3, h4, h5, h6, h7⟩ := sb8_b (P 0) (P 1) (P 2) (P 3) (P 4) (P 5) (P 6) (P 7)
  have hcc : c = 0 ∨ c = 1 ∨ c = 2 ∨ c = 3 ∨ c = 4 ∨ c = 5 ∨ c = 6 ∨ c = 7 := by omega
  rcases hcc with rfl | rfl | rfl | rfl | rfl | rfl | rfl | rfl
  · exact h0
  · exact h1
  · exact h2
  · exact h3
  · exact h4
  · exact h5
  · exact h6
  · exact h7
theorem shr_bit : ∀ s, s < 256 → ∀ c, c < 8 → (nI s >>> (nI c &&& 31)) &&& nI 1 = nI (s / 2 ^ c % 2) := by decide +kernel
theorem bcnt_s : ∀ d s, bcnt (d + 1) s = bcnt d s + s / 2 ^ d % 2 := by
  intro d
  induction d with
  | zero => intro s; show s % 2 + 0 = 0 + s / 1 % 2; rw [Nat.div_one]; omega
  | succ d ih =>
    intro s
    rw [bcnt, ih (s / 2), bcnt, Nat.div_div_eq_div_mul, Nat.pow_succ, Nat.mul_comm (2 ^ d) 2]
    omega
/-! people in classes -/
theorem ssum_add (f g : Nat → Nat) : ∀ k, ssum (fun p => f p + g p) k = ssum f k + ssum g k := by
  intro k
  induction k with
  | zero => rfl
  | succ k ih => rw [ssum, ssum, ssum, ih]; omega
theorem ssum_swap (F : Nat → Nat → Nat) (m : Nat) : ∀ n, ssum (fun c => ssum (fun p => F c p) m) n = ssum (fun p => ssum (fun c => F c p) n) m := by
  intro n
  induction n with
  | zero => exact (ssum_zero m (fun _ _ => rfl)).symm
  | succ n ih =>
    rw [ssum, ih, ← ssum_add]
    rfl
theorem len_sum : ∀ (l : List Nat), l.Nodup → (∀ p, p ∈ l → p < 30) → l.length = ssum (fun p => if p ∈ l then 1 else 0) 30 := by
  intro l
  induction l with
  | nil => intro _ _; exact (ssum_zero 30 (fun p _ => by simp)).symm
  | cons a l ih =>
    intro hn hl
    obtain ⟨h1, h2⟩ := List.nodup_cons.mp hn
    have e := ssum_up (f := fun p => if p ∈ l then 1 else 0) (g := fun p => if p ∈ a :: l then 1 else 0) (p := a) (hl a List.mem_cons_self) (fun q hq => by
      show (if q ∈ a :: l then 1 else 0) = if q ∈ l then 1 else 0
      have : (q ∈ a :: l) = (q ∈ l) := propext ⟨fun z => (List.mem_cons.mp z).resolve_left hq, fun z => List.mem_cons_of_mem _ z⟩
      simp only [this])
    have i := ih h2 (fun p hp => hl p (List.mem_cons_of_mem _ hp))
    simp only [h1, if_false, List.mem_cons_self, if_true] at e
    rw [List.length_cons, i]
    omega
theorem one_of (v n : Nat) (h : v ≤ n) : ssum (fun c => if v = c + 1 then 1 else 0) n = if v = 0 then 0 else 1 := by
  by_cases e : v = 0
  · rw [if_pos e]
    exact ssum_zero n (fun p _ => if_neg (by omega))
  · rw [if_neg e]
    have := ssum_up (f := fun _ => 0) (g := fun c => if v = c + 1 then 1 else 0) (p := v - 1) (k := n) (by omega) (fun q hq => if_neg (by omega))
    rw [ssum_zero n (fun _ _ => rfl)] at this
    have e1 : (if v = v - 1 + 1 then 1 else 0) = 1 := if_pos (by omega)
    have this : ssum (fun c => if v = c + 1 then 1 else 0) n + 0 = 0 + (if v = v - 1 + 1 then 1 else 0) := this
    omega
theorem len_all {σ : q_S} (hw : WFc σ) : ssum (fun c => sLen σ c) (sN σ 0) = ssum (fun p => if sP σ p 4 = 0 then 0 else 1) 30 := by
  have e1 : ∀ c, sLen σ c = ssum (fun p => if sP σ p 4 = c + 1 then 1 else 0) 30 := fun c => by
    rw [sLen, len_sum (sL σ c) (hw.nd c) (fun p hp => hw.mlt30 hp)]
    refine ssum_cg 30 (fun p _ => ?_)
    have : (p ∈ sL σ c) = (sP σ p 4 = c + 1) := propext hw.mem
    simp only [this]
  rw [ssum_cg (g := fun c => ssum (fun p => if sP σ p 4 = c + 1 then 1 else 0) 30) _ (fun c _ => e1 c), ssum_swap (fun c p => if sP σ p 4 = c + 1 then 1 else 0) 30]
  exact ssum_cg 30 (fun p _ => one_of _ _ (hw.pr p).2.2.2.2.1)
