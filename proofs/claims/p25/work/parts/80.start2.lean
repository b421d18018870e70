/-! what is made is the layout's start -/
theorem lay_S : ∀ b, (b = 1 ∨ b = 51 ∨ b = 103 ∨ b = 153 ∨ b = 203 ∨ b = 253 ∨ b = 303) → ∀ j, j < 50 → q_kd (b + j) = q_sk j ∧ q_ln (b + j) = q_sl j ∧ rel (b + j) = j := by
  intro b h
  rcases h with rfl | rfl | rfl | rfl | rfl | rfl | rfl <;> decide +kernel
theorem sk_c : ∀ j, j < 50 → 4 ≤ j → j < 20 → (j % 2 = 0 → q_sk j = 0) ∧ (¬ j % 2 = 0 → q_sk j = 10 ∧ q_sl j = 20) := by decide
theorem sk_p : ∀ j, j < 50 → 20 ≤ j → q_sk j = 2 := by decide
theorem aW_Sat {ω : q_Om} {b j : Nat} (hb : b = 1 ∨ b = 51 ∨ b = 103 ∨ b = 153 ∨ b = 203 ∨ b = 253 ∨ b = 303) (hj : j < 50) {D : va_G} {H : Heap} (h : va_at D vwCl (q_ad ω (b + j), sE (q_ca ω) (fun x => q_ad ω (b + x)) j) H) : va_at D vwCl (q_ad ω (b + j), q_cell ω I0 (b + j)) H := by
  obtain ⟨l1, l2, l3⟩ := lay_S b hb j hj
  unfold sE at h
  by_cases j0 : j = 0
  · subst j0
    rw [cell_S (k := b + 0) l1]
    exact h
  rw [if_neg j0] at h
  by_cases j1 : j = 1
  · subst j1
    rw [if_pos rfl] at h
    refine cell_Q (k := b + 1) (c := 12) (n := 8) l1 (by omega) l2 (fun i hi => ?_) h
    unfold sRefs q_el
    rw [if_pos hi, if_pos rfl]
    show some (q_ad ω (b + (4 + 2 * i))) = _
    rw [show b + (4 + 2 * i) = b + 1 + 3 + 2 * i by omega]
  rw [if_neg j1] at h
  by_cases j2 : j = 2
  · subst j2
    rw [if_pos rfl] at h
    refine cell_Q (k := b + 2) (c := 13) (n := 30) l1 (by omega) l2 (fun i hi => ?_) h
    unfold sRefs q_el
    rw [if_pos hi, if_neg (by omega), if_pos rfl]
    show some (q_ad ω (b + (20 + 1 * i))) = _
    rw [show b + (20 + 1 * i) = b + 2 + 18 + i by omega]
  rw [if_neg j2] at h
  by_cases j3 : j = 3
  · subst j3
    rw [if_pos rfl] at h
    rw [cell_I (k := b + 3) (n := 5) l1 l2]
    exact h
  rw [if_neg j3] at h
  by_cases j20 : j < 20
  · rw [if_pos j20] at h
    obtain ⟨s1, s2⟩ := sk_c j hj (by omega) j20
    by_cases e : j % 2 = 0
    · rw [if_pos e] at h
      rw [cell_C (l1.trans (s1 e)), l3]
      exact h
    · rw [if_neg e] at h
      rw [cell_I (n := 20) (l1.trans (s2 e).1) (l2.trans (s2 e).2)]
      exact h
  · rw [if_neg j20] at h
    rw [cell_P (l1.trans (sk_p j hj (by omega))), l3]
    exact h
theorem aW_at {ω : q_Om} {k : Nat} (hk : k < 356) : ∃ e, (aW (q_ca ω) (q_ad ω))[k]? = some (q_ad ω k, e) ∧ ∀ (D : va_G) (H : Heap), va_at D vwCl (q_ad ω k, e) H → va_at D vwCl (q_ad ω k, q_cell ω I0 k) H := by
  have sea : ∀ b, (b = 1 ∨ b = 51 ∨ b = 103 ∨ b = 153 ∨ b = 203 ∨ b = 253 ∨ b = 303) → b ≤ k → k < b + 50 → ∃ e, (aW (q_ca ω) (q_ad ω))[k]? = some (q_ad ω k, e) ∧ ∀ (D : va_G) (H : Heap), va_at D vwCl (q_ad ω k, e) H → va_at D vwCl (q_ad ω k, q_cell ω I0 k) H := by
    intro b hb h1 h2
    obtain ⟨j, rfl⟩ : ∃ j, k = b + j := ⟨k - b, by omega⟩
    exact ⟨_, aW_S hb (by omega), fun D H h => aW_Sat hb (by omega) h⟩
  have hc : k = 0 ∨ (1 ≤ k ∧ k < 51) ∨ (51 ≤ k ∧ k < 101) ∨ k = 101 ∨ k = 102 ∨ (103 ≤ k ∧ k < 153) ∨ (153 ≤ k ∧ k < 203) ∨ (203 ≤ k ∧ k < 253) ∨ (253 ≤ k ∧ k < 303) ∨ (303 ≤ k ∧ k < 353) ∨ k = 353 ∨ k = 354 ∨ k = 355 := by omega
  rcases hc with rfl | ⟨h1, h2⟩ | ⟨h1, h2⟩ | rfl | rfl | ⟨h1, h2⟩ | ⟨h1, h2⟩ | ⟨h1, h2⟩ | ⟨h1, h2⟩ | ⟨h1, h2⟩ | rfl | rfl | rfl
  · exact ⟨_, aW_0, fun D H h => by rw [cell_X (k := 0) k0]; exact h⟩
  · exact sea 1 (by omega) h1 h2
  · exact sea 51 (by omega) h1 h2
  · exact ⟨_, aW_h.1, fun D H h => by rw [cell_H (k := 101) k101]; exact h⟩
  · refine ⟨_, aW_h.2, fun D H h => cell_Q (k := 102) (c := 14) (n := 5) k102 (by omega) (by decide) (fun i hi => ?_) h⟩
    unfold sRefs q_el
    rw [if_pos hi, if_neg (by omega), if_neg (by omega)]
    show some (q_ad ω (101 + (2 + 50 * i))) = _
    rw [show 101 + (2 + 50 * i) = 102 + 1 + 50 * i by omega]
  · exact sea 103 (by omega) h1 h2
  · exact sea 153 (by omega) h1 h2
  · exact sea 203 (by omega) h1 h2
  · exact sea 253 (by omega) h1 h2
  · exact sea 303 (by omega) h1 h2
  · exact ⟨_, aW_t.1, fun D H h => by rw [cell_T (k := 353) k353]; exact h⟩
  · exact ⟨_, aW_t.2.1, fun D H h => by rw [cell_Ch (k := 354) (n := 60) (by decide) (by decide)]; exact h⟩
  · exact ⟨_, aW_t.2.2, fun D H h => by rw [cell_I (k := 355) (n := 4) (by decide) (by decide)]; exact h⟩
theorem q_P_len {ω : q_Om} {I : q_Mem} {k : Nat} {q : Nat × va_E} (h : (q_P ω I)[k]? = some q) : k < 356 := by
  have := (List.getElem?_eq_some_iff.mp h).1
  simpa [q_P] using this
theorem aW_P {ω : q_Om} {D : va_G} {H : Heap} (h : va_P D vwCl (aW (q_ca ω) (q_ad ω)) H) : va_P D vwCl (q_P ω I0) H := by
  intro k q hq
  have hk := q_P_len hq
  rw [q_P_get hk] at hq
  cases hq
  obtain ⟨e, h1, h2⟩ := aW_at (ω := ω) hk
  exact h2 D H (h k _ h1)
theorem aW_D {ω : q_Om} {A : Nat → Prop} (h : va_D A (aW (q_ca ω) (q_ad ω))) : va_D A (q_P ω I0) := by
  refine ⟨fun i j p q hi hj e => ?_, fun k q hq => ?_⟩
  · have hi' := q_P_len hi
    have hj' := q_P_len hj
    rw [q_P_get hi'] at hi
    rw [q_P_get hj'] at hj
    cases hi
    cases hj
    obtain ⟨e1, h1, -⟩ := aW_at (ω := ω) hi'
    obtain ⟨e2, h2, -⟩ := aW_at (ω := ω) hj'
    exact h.1 i j _ _ h1 h2 e
  · have hk := q_P_len hq
    rw [q_P_get hk] at hq
    cases hq
    obtain ⟨e, h1, -⟩ := aW_at (ω := ω) hk
    exact h.2 k (q_ad ω k, e) h1
theorem tW_congr {ca : Nat → ClassId} {f g : Nat → Nat} (h : ∀ j, j < 3 → f j = g j) : tW ca f = tW ca g := by
  unfold tW
  rw [h 0 (by omega), h 1 (by omega), h 2 (by omega)]
theorem aW_congr {ca : Nat → ClassId} {f g : Nat → Nat} (h : ∀ j, j < 356 → f j = g j) : aW ca f = aW ca g := by
  unfold aW xW
  rw [sW_congr (fun j hj => h (1 + j) (by omega)), sW_congr (fun j hj => h (51 + j) (by omega)), hW_congr (fun j hj => h (101 + j) (by omega)), tW_congr (fun j hj => h (353 + j) (by omega)), h 0 (by omega), h 1 (by omega), h 51 (by omega), h 101 (by omega), h 353 (by omega)]
/-! the season at the start -/
def σ0 : q_S := (fun _ => 0, fun _ => 0, fun _ _ => 0, fun _ => [], fun _ _ => 0, fun _ => 0)
theorem RC0 : ∀ b, (b = 1 ∨ b = 51 ∨ b = 103 ∨ b = 153 ∨ b = 203 ∨ b = 253 ∨ b = 303) → RC b I0 σ0 := by
  intro b h
  have mem : ∀ c, c < 8 → ∀ r v, (sL σ0 c)[r]? = some v → I0 (b + 5 + 2 * c) r = nI v := fun c _ r v hr => by cases hr
  rcases h with rfl | rfl | rfl | rfl | rfl | rfl | rfl
  · exact ⟨by decide +kernel, by decide +kernel, by decide +kernel, by decide +kernel, mem, by decide +kernel, by decide +kernel, by decide +kernel, by decide +kernel⟩
  · exact ⟨by decide +kernel, by decide +kernel, by decide +kernel, by decide +kernel, mem, by decide +kernel, by decide +kernel, by decide +kernel, by decide +kernel⟩
  · exact ⟨by decide +kernel, by decide +kernel, by decide +kernel, by decide +kernel, mem, by decide +kernel, by decide +kernel, by decide +kernel, by decide +kernel⟩
  · exact ⟨by decide +kernel, by decide +kernel, by decide +kernel, by decide +kernel, mem, by decide +kernel, by decide +kernel, by decide +kernel, by decide +kernel⟩
  · exact ⟨by decide +kernel, by decide +kernel, by decide +kernel, by decide +kernel, mem, by decide +kernel, by decide +kernel, by decide +kernel, by decide +kernel⟩
  · exact ⟨by decide +kernel, by decide +kernel, by decide +kernel, by decide +kernel, mem, by decide +kernel, by decide +kernel, by decide +kernel, by decide +kernel⟩
  · exact ⟨by decide +kernel, by decide +kernel, by decide +kernel, by decide +kernel, mem, by decide +kernel, by decide +kernel, by decide +kernel, by decide +kernel⟩
theorem RG0 : RG I0 σ0 [] [] := by
  refine ⟨RC0 1 (by omega), ⟨σ0, RC0 51 (by omega)⟩, ⟨by decide +kernel, fun i c hc => by cases hc⟩, 0, by omega, by decide +kernel, by decide +kernel, Nat.zero_le _, fun m hm => ⟨σ0, RC0 _ (by omega)⟩, fun i τ hi => by cases hi⟩
theorem sok0 : sok σ0 := by
  refine ⟨⟨⟨Nat.zero_le _, Nat.zero_le _, Nat.zero_le _, fun _ => Nat.zero_le _⟩, fun c _ => ?_, fun _ _ => ⟨rfl, rfl, rfl⟩, fun c hc => absurd hc (Nat.not_lt_zero _), fun p => ?_, fun _ _ _ => rfl, fun c => ⟨List.nodup_nil, fun p => ⟨fun z => absurd z List.not_mem_nil, fun z => ?_⟩⟩, fun _ _ => Nat.zero_le _⟩, Nat.zero_le _, fun _ _ => rfl, fun c hc => absurd rfl hc⟩
  · show (0 : Nat) < 4 ∧ (0 : Nat) < 4 ∧ (0 : Nat) < 5 ∧ (0 : Nat) ≤ 20 ∧ (0 : Nat) ≤ 20 ∧ (0 : Nat) ≤ 99 ∧ (0 : Nat) ≤ 4 ∧ (0 : Nat) ≤ 5 ∧ (0 : Nat) ≤ 8 ∧ (0 : Nat) ≤ 3 ∧ (0 : Nat) ≤ 0
    decide
  · refine ⟨Nat.zero_le _, Nat.zero_le _, Nat.zero_le _, Nat.zero_le _, Nat.zero_le _, Nat.zero_le _, fun _ => rfl, fun _ => rfl, fun _ => rfl, fun z => absurd z (Nat.not_lt_zero _)⟩
  · have z : (0 : Nat) = c + 1 := z
    omega
theorem tok0 : tok [] := ⟨Nat.zero_le _, fun c hc => absurd hc List.not_mem_nil⟩
