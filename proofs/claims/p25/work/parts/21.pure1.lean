/-! facts of moves -/
theorem sN_mk {a b : Nat → Nat} {c : Nat → Nat → Nat} {d : Nat → List Nat} {e : Nat → Nat → Nat} {f : Nat → Nat} : sN (a, b, c, d, e, f) = a := rfl
theorem sG_mk {a b : Nat → Nat} {c : Nat → Nat → Nat} {d : Nat → List Nat} {e : Nat → Nat → Nat} {f : Nat → Nat} : sG (a, b, c, d, e, f) = b := rfl
theorem sC_mk {a b : Nat → Nat} {c : Nat → Nat → Nat} {d : Nat → List Nat} {e : Nat → Nat → Nat} {f : Nat → Nat} : sC (a, b, c, d, e, f) = c := rfl
theorem sL_mk {a b : Nat → Nat} {c : Nat → Nat → Nat} {d : Nat → List Nat} {e : Nat → Nat → Nat} {f : Nat → Nat} : sL (a, b, c, d, e, f) = d := rfl
theorem sP_mk {a b : Nat → Nat} {c : Nat → Nat → Nat} {d : Nat → List Nat} {e : Nat → Nat → Nat} {f : Nat → Nat} : sP (a, b, c, d, e, f) = e := rfl
theorem sR_mk {a b : Nat → Nat} {c : Nat → Nat → Nat} {d : Nat → List Nat} {e : Nat → Nat → Nat} {f : Nat → Nat} : sR (a, b, c, d, e, f) = f := rfl
theorem sbk_spec {σ : q_S} (p : Nat) : ∀ d k, ¬ sbk σ p d k = 0 → sfr σ (sbk σ p d k) ∧ ¬ sbk σ p d k = sP σ p 4 ∧ ∃ j, k ≤ j ∧ j < k + d ∧ sbk σ p d k = sP σ p (1 + j) := by
  intro d
  induction d with
  | zero => intro k h; exact absurd rfl h
  | succ d ih =>
    intro k h
    by_cases e : sP σ p (1 + k) = sP σ p 4
    · rw [sbk, if_pos e] at h; exact absurd rfl h
    · by_cases f : sfr σ (sP σ p (1 + k))
      · rw [sbk, if_neg e, if_pos f]
        exact ⟨f, e, k, Nat.le_refl _, by omega, rfl⟩
      · rw [sbk, if_neg e, if_neg f] at h ⊢
        obtain ⟨h1, h2, j, h3, h4, h5⟩ := ih (k + 1) h
        exact ⟨h1, h2, j, by omega, by omega, h5⟩
theorem sbet_spec {σ : q_S} {p : Nat} (h : ¬ sbet σ p = 0) : ¬ sP σ p 0 = 0 ∧ sfr σ (sbet σ p) ∧ ¬ sbet σ p = sP σ p 4 ∧ ∃ j, j < 3 ∧ sbet σ p = sP σ p (1 + j) := by
  rw [sbet_k] at h ⊢
  by_cases e : sP σ p 0 = 0
  · rw [if_pos e] at h; exact absurd rfl h
  · rw [if_neg e] at h ⊢
    obtain ⟨h1, h2, j, h3, h4, h5⟩ := sbk_spec p 3 0 h
    exact ⟨e, h1, h2, j, by omega, h5⟩
theorem spk_spec (σ : q_S) : ∀ d k, k ≤ spk σ d k ∧ spk σ d k ≤ k + d ∧ (spk σ d k < k + d → ¬ sbet σ (spk σ d k) = 0) ∧ ∀ i, k ≤ i → i < spk σ d k → sbet σ i = 0 := by
  intro d
  induction d with
  | zero => intro k; exact ⟨Nat.le_refl _, Nat.le_refl _, fun h => absurd h (Nat.lt_irrefl _), fun i h1 h2 => absurd h2 (Nat.not_lt.mpr h1)⟩
  | succ d ih =>
    intro k
    by_cases e : sbet σ k = 0
    · rw [spk, if_pos e]
      obtain ⟨h1, h2, h3, h4⟩ := ih (k + 1)
      refine ⟨by omega, by omega, fun h => h3 (by omega), fun i q1 q2 => ?_⟩
      rcases Nat.eq_or_lt_of_le q1 with q | q
      · rw [← q]; exact e
      · exact h4 i q q2
    · rw [spk, if_neg e]
      exact ⟨Nat.le_refl _, by omega, fun _ => e, fun i h1 h2 => absurd h2 (Nat.not_lt.mpr h1)⟩
theorem f1_id {α : Type} {f : Nat → α} {j : Nat} {v : α} (h : f j = v) : f1 f j v = f := by
  funext i
  by_cases e : i = j
  · subst e; rw [f1_s]; exact h.symm
  · exact f1_n e
theorem f2_id {α : Type} {f : Nat → Nat → α} {c j : Nat} {v : α} (h : f c j = v) : f2 f c j v = f := by
  funext d i
  by_cases e : d = c ∧ i = j
  · obtain ⟨rfl, rfl⟩ := e; rw [f2_s]; exact h.symm
  · exact f2_n e
theorem f1_or {α : Type} {f : Nat → α} {j i : Nat} {v : α} : f1 f j v i = if i = j then v else f i := rfl
theorem f2_or {α : Type} {f : Nat → Nat → α} {c j d i : Nat} {v : α} : f2 f c j v d i = if d = c ∧ i = j then v else f d i := rfl
theorem WFc.out {σ : q_S} (h : WFc σ) (p : Nat) : WFc (sout σ p) := by
  unfold sout
  by_cases e0 : sP σ p 4 = 0
  · rw [if_pos e0]; exact h
  rw [if_neg e0]
  obtain ⟨hB, h2, h3, h4, h5, h6, h7, h8⟩ := id h
  have hL : ∀ c, (f1 (sL σ) (sP σ p 4 - 1) ((sL σ (sP σ p 4 - 1)).filter (· != p)) c).length ≤ (sL σ c).length := by
    intro c
    by_cases e : c = sP σ p 4 - 1
    · subst e; rw [f1_s]; exact List.length_filter_le _ _
    · rw [f1_n e]; exact Nat.le_refl _
  refine ⟨⟨hB.1, hB.2.1, hB.2.2.1, fun c => Nat.le_trans (hL c) (hB.2.2.2 c)⟩, fun c hc => ?_, fun c hc => ?_, h4, fun q => ?_, fun q hq j => ?_, fun c => ⟨?_, fun q => ?_⟩, h8⟩
  · obtain ⟨a1, a2, a3, a4, a5, a6, a7, a8, a9, a10, a11⟩ := h2 c hc
    exact ⟨a1, a2, a3, a4, a5, a6, a7, a8, a9, a10, Nat.le_trans (hL c) a11⟩
  · obtain ⟨a1, a2, a3⟩ := h3 c hc
    refine ⟨a1, a2, ?_⟩
    by_cases e : c = sP σ p 4 - 1
    · subst e
      show f1 (sL σ) _ _ _ = _
      rw [f1_s, a3]; rfl
    · show f1 (sL σ) _ _ _ = _
      rw [f1_n e]; exact a3
  · by_cases e : q = p
    · subst e
      obtain ⟨a1, a2, a3, a4, a5, a6, a7, a8, a9, a10⟩ := h5 q
      refine ⟨?_, ?_, ?_, ?_, ?_, ?_, ?_, ?_, ?_, ?_⟩ <;> simp only [sP_mk, sN_mk, f2] <;> simp <;> assumption
    · have e1 : f2 (f2 (sP σ) p 4 0) p 5 0 q = sP σ q := by
        funext j
        rw [f2_n (fun z => e z.1), f2_n (fun z => e z.1)]
      have := h5 q
      unfold prg at this ⊢
      rw [sP_mk, sN_mk, e1]
      exact this
  · show f2 (f2 (sP σ) p 4 0) p 5 0 q j = 0
    have := h6 q hq j
    rw [f2_or, f2_or, this]
    split
    · rfl
    · split <;> rfl
  · by_cases e : c = sP σ p 4 - 1
    · subst e
      show (f1 (sL σ) _ _ _).Nodup
      rw [f1_s]
      exact (h.nd _).filter _
    · show (f1 (sL σ) _ _ _).Nodup
      rw [f1_n e]
      exact h.nd _
  · have hm := h.mem (c := c) (p := q)
    show q ∈ f1 (sL σ) _ _ c ↔ f2 (f2 (sP σ) p 4 0) p 5 0 q 4 = c + 1
    have e4 : f2 (f2 (sP σ) p 4 0) p 5 0 q 4 = if q = p then 0 else sP σ q 4 := by
      rw [f2_n (fun z => by omega), f2_or]
      simp
    rw [e4]
    by_cases e : c = sP σ p 4 - 1
    · subst e
      rw [f1_s, List.mem_filter, hm]
      by_cases e5 : q = p
      · subst e5; simp
      · simp [e5]
    · rw [f1_n e, hm]
      by_cases e5 : q = p
      · subst e5
        simp
        omega
      · rw [if_neg e5]
theorem WFc.inn {σ : q_S} (h : WFc σ) {p c : Nat} (hp : p < sN σ 2) (h0 : ¬ sP σ p 0 = 0) (h40 : sP σ p 4 = 0) (hc : c < sN σ 0) (hs : sC σ c 6 = 1) (hl : sLen σ c < sC σ c 4) : WFc (sin σ p c) := by
  obtain ⟨hB, h2, h3, h4, h5, h6, h7, h8⟩ := id h
  have h8c : c < 8 := Nat.lt_of_lt_of_le hc hB.1
  have hcr := h2 c h8c
  have hL : ∀ d, (f1 (sL σ) c (sL σ c ++ [p]) d).length = if d = c then sLen σ c + 1 else sLen σ d := by
    intro d
    by_cases e : d = c
    · subst e; rw [f1_s, if_pos rfl, List.length_append]; rfl
    · rw [f1_n e, if_neg e]
  have hnot : p ∉ sL σ c := fun q => by have := h.mem.mp q; omega
  refine ⟨⟨hB.1, hB.2.1, hB.2.2.1, fun d => ?_⟩, fun d hd => ?_, fun d hd => ?_, h4, fun q => ?_, fun q hq j => ?_, fun d => ⟨?_, fun q => ?_⟩, h8⟩
  · show (f1 (sL σ) _ _ d).length ≤ 20
    rw [hL d]
    split
    · have := hcr.2.2.2.2.1; omega
    · exact hB.2.2.2 d
  · obtain ⟨a1, a2, a3, a4, a5, a6, a7, a8, a9, a10, a11⟩ := h2 d hd
    refine ⟨a1, a2, a3, a4, a5, a6, a7, a8, a9, a10, ?_⟩
    show (f1 (sL σ) _ _ d).length ≤ sC σ d 4
    rw [hL d]
    split
    · next e => subst e; exact hl
    · exact a11
  · have hd : sN σ 0 ≤ d := hd
    obtain ⟨a1, a2, a3⟩ := h3 d hd
    refine ⟨a1, a2, ?_⟩
    show f1 (sL σ) _ _ d = []
    rw [f1_n (by omega)]; exact a3
  · by_cases e : q = p
    · subst e
      obtain ⟨a1, a2, a3, a4, a5, a6, a7, a8, a9, a10⟩ := h5 q
      have c5 := hcr.2.2.2.2.2.1
      refine ⟨?_, ?_, ?_, ?_, ?_, ?_, ?_, ?_, ?_, ?_⟩ <;> simp only [sin, sP_mk, sN_mk, f2] <;> simp <;> first | assumption | omega
    · have e1 : f2 (f2 (f2 (sP σ) p 4 (c + 1)) p 5 (sC σ c 5)) p 6 (sP σ p 6 + 1) q = sP σ q := by
        funext j
        rw [f2_n (fun z => e z.1), f2_n (fun z => e z.1), f2_n (fun z => e z.1)]
      have := h5 q
      unfold prg at this ⊢
      rw [sin, sP_mk, sN_mk, e1]
      exact this
  · have hq : sN σ 2 ≤ q := hq
    show f2 (f2 (f2 (sP σ) p 4 (c + 1)) p 5 (sC σ c 5)) p 6 (sP σ p 6 + 1) q j = 0
    rw [f2_n (fun z => by omega), f2_n (fun z => by omega), f2_n (fun z => by omega)]
    exact h6 q hq j
  · show (f1 (sL σ) _ _ d).Nodup
    by_cases e : d = c
    · subst e
      rw [f1_s]
      refine List.nodup_append.mpr ⟨h.nd _, by simp, fun a ha b hb => ?_⟩
      rw [List.mem_singleton] at hb
      rw [hb]
      exact fun z => hnot (z ▸ ha)
    · rw [f1_n e]
      exact h.nd _
  · have hm := h.mem (c := d) (p := q)
    show q ∈ f1 (sL σ) _ _ d ↔ f2 (f2 (f2 (sP σ) p 4 (c + 1)) p 5 (sC σ c 5)) p 6 (sP σ p 6 + 1) q 4 = d + 1
    have e4 : f2 (f2 (f2 (sP σ) p 4 (c + 1)) p 5 (sC σ c 5)) p 6 (sP σ p 6 + 1) q 4 = if q = p then c + 1 else sP σ q 4 := by
      rw [f2_n (fun z => by omega), f2_n (fun z => by omega), f2_or]
      simp
    rw [e4]
    by_cases e : d = c
    · subst e
      rw [f1_s, List.mem_append, List.mem_singleton, hm]
      by_cases e5 : q = p
      · subst e5; simp
      · simp [e5]
    · rw [f1_n e, hm]
      by_cases e5 : q = p
      · subst e5
        rw [if_pos rfl]
        omega
      · rw [if_neg e5]
theorem sout_P4 {σ : q_S} (h : WFc σ) (p : Nat) : sP (sout σ p) p 4 = 0 := by
  unfold sout
  by_cases e0 : sP σ p 4 = 0
  · rw [if_pos e0]; exact e0
  · rw [if_neg e0, sP_mk]; simp [f2]
theorem sout_P {σ : q_S} (p q : Nat) {j : Nat} (h4 : ¬ j = 4) (h5 : ¬ j = 5) : sP (sout σ p) q j = sP σ q j := by
  unfold sout
  by_cases e0 : sP σ p 4 = 0
  · rw [if_pos e0]
  · rw [if_neg e0]
    show f2 (f2 (sP σ) p 4 0) p 5 0 q j = _
    rw [f2_n (fun z => h5 z.2), f2_n (fun z => h4 z.2)]
theorem sout_N (σ : q_S) (p : Nat) : sN (sout σ p) = sN σ := by
  unfold sout
  split <;> rfl
theorem sout_C (σ : q_S) (p : Nat) : sC (sout σ p) = sC σ := by
  unfold sout
  split <;> rfl
theorem sout_R (σ : q_S) (p : Nat) : sR (sout σ p) = sR σ := by
  unfold sout
  split <;> rfl
theorem sout_L {σ : q_S} {p c : Nat} (h : ¬ c + 1 = sP σ p 4) : sL (sout σ p) c = sL σ c := by
  unfold sout
  by_cases e0 : sP σ p 4 = 0
  · rw [if_pos e0]
  · rw [if_neg e0]
    show f1 (sL σ) _ _ c = _
    rw [f1_n (by omega)]
theorem WFc.move {σ : q_S} (h : WFc σ) {p : Nat} (hp : p < sN σ 2) (hb : ¬ sbet σ p = 0) : WFc (smove σ p) := by
  obtain ⟨h0, ⟨hw, hs, hl⟩, hne, -⟩ := sbet_spec hb
  have hle := sbet_le h p
  have hL : sL (sout σ p) (sbet σ p - 1) = sL σ (sbet σ p - 1) := sout_L (by omega)
  exact (h.out p).inn (by rw [sout_N]; exact hp) (by rw [sout_P p p (by omega) (by omega)]; exact h0) (sout_P4 h p) (by rw [sout_N]; omega) (by rw [sout_C]; exact hs) (by rw [sout_C, sLen, hL]; exact hl)
theorem WFc.set {σ : q_S} (n : Nat) (h : WFc σ) : WFc (sset n σ) := by
  induction n generalizing σ with
  | zero => exact h
  | succ n ih =>
    unfold sset
    by_cases e : spk σ (sN σ 2) 0 < sN σ 2
    · rw [if_pos e]
      exact ih (h.move e ((spk_spec σ (sN σ 2) 0).2.2.1 (by omega)))
    · rw [if_neg e]; exact h
theorem smove_N (σ : q_S) (p : Nat) : sN (smove σ p) = sN σ := sout_N σ p
theorem smove_C (σ : q_S) (p : Nat) : sC (smove σ p) = sC σ := sout_C σ p
theorem smove_R (σ : q_S) (p : Nat) : sR (smove σ p) = sR σ := sout_R σ p
theorem sset_NCR (n : Nat) (σ : q_S) : sN (sset n σ) = sN σ ∧ sC (sset n σ) = sC σ ∧ sR (sset n σ) = sR σ := by
  induction n generalizing σ with
  | zero => exact ⟨rfl, rfl, rfl⟩
  | succ n ih =>
    unfold sset
    split
    · obtain ⟨h1, h2, h3⟩ := ih (smove σ (spk σ (sN σ 2) 0))
      exact ⟨h1.trans (smove_N _ _), h2.trans (smove_C _ _), h3.trans (smove_R _ _)⟩
    · exact ⟨rfl, rfl, rfl⟩
