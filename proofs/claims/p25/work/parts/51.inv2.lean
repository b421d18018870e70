/-! WHAT HOLDS BETWEEN THE LAW'S CALLS: classes by their states; a closing, step by step -/
def kst (σ : q_S) (c : Nat) : Prop :=
  (sC σ c 6 = 1 ∧ sC σ c 7 = 0 ∧ sC σ c 8 = 0 ∧ sC σ c 9 = 0) ∨
  (sC σ c 6 = 2 ∧ ¬ sC σ c 7 = 0 ∧ sC σ c 8 = 0 ∧ sC σ c 9 = 0 ∧ sC σ c 3 ≤ sLen σ c ∧ sC σ c 7 ≤ sN σ 1 ∧ sLen σ c ≤ sR σ (sC σ c 7 - 1)) ∨
  (sC σ c 6 = 3 ∧ sC σ c 7 = 0 ∧ sC σ c 8 = 0 ∧ (sC σ c 9 = 2 ∨ sC σ c 9 = 3) ∧ sL σ c = []) ∨
  (sC σ c 6 = 4 ∧ sC σ c 7 = 0 ∧ ¬ sC σ c 8 = 0 ∧ sC σ c 9 = 1 ∧ sL σ c = [])
def kal (σ : q_S) : Prop := ∀ c, c < sN σ 0 → kst σ c
def Rds (σ : q_S) : Prop := ∀ c k, ¬ sC σ c 7 = 0 → sC σ k 7 = sC σ c 7 → sC σ k 2 = sC σ c 2 → k = c
theorem kst.one {σ : q_S} {c : Nat} (h : kst σ c) (h1 : sC σ c 6 = 1) : sC σ c 7 = 0 ∧ sC σ c 8 = 0 ∧ sC σ c 9 = 0 := by
  rcases h with h | h | h | h
  · exact h.2
  · omega
  · omega
  · omega
theorem smove_L {σ : q_S} {p c : Nat} (hb : ¬ sbet σ p = 0) (hc : ¬ sC σ c 6 = 1) (hl : sL σ c = []) : sL (smove σ p) c = [] := by
  obtain ⟨-, hf, -⟩ := sbet_spec hb
  have hne : ¬ c = sbet σ p - 1 := fun e => hc (by rw [e]; exact hf.2.1)
  show f1 (sL (sout σ p)) (sbet σ p - 1) (sL (sout σ p) (sbet σ p - 1) ++ [p]) c = []
  rw [f1_n hne]
  unfold sout
  split
  · exact hl
  · show f1 (sL σ) (sP σ p 4 - 1) ((sL σ (sP σ p 4 - 1)).filter (· != p)) c = []
    by_cases e : c = sP σ p 4 - 1
    · rw [e, f1_s, ← e, hl]; rfl
    · rw [f1_n e]; exact hl
theorem sset_L {c : Nat} : ∀ (n : Nat) (σ : q_S), WFc σ → ¬ sC σ c 6 = 1 → sL σ c = [] → sL (sset n σ) c = [] := by
  intro n
  induction n with
  | zero => intro σ _ _ h; exact h
  | succ n ih =>
    intro σ hw hc hl
    unfold sset
    by_cases e : spk σ (sN σ 2) 0 < sN σ 2
    · rw [if_pos e]
      obtain ⟨e1, e2⟩ := spk_ok hw e
      exact ih _ (hw.move e e2) (by rw [smove_C]; exact hc) (smove_L e2 hc hl)
    · rw [if_neg e]; exact hl
theorem kal_set {σ : q_S} (n : Nat) (hw : WFc σ) (h7 : ∀ c, sC σ c 7 = 0) (h : kal σ) : kal (sset n σ) := by
  obtain ⟨eN, eC, eR⟩ := sset_NCR n σ
  intro c hc
  rw [eN] at hc
  have hl : ¬ sC σ c 6 = 1 → sL σ c = [] → sL (sset n σ) c = [] := sset_L n σ hw
  have h0 := h7 c
  unfold kst
  rw [eC]
  rcases h c hc with g | g | g | g
  · exact Or.inl g
  · exact absurd h0 g.2.1
  · exact Or.inr (Or.inr (Or.inl ⟨g.1, g.2.1, g.2.2.1, g.2.2.2.1, hl (by omega) g.2.2.2.2⟩))
  · exact Or.inr (Or.inr (Or.inr ⟨g.1, g.2.1, g.2.2.1, g.2.2.2.1, hl (by omega) g.2.2.2.2⟩))
/-! cancelling -/
theorem scan_C {σ : q_S} {c w : Nat} (e j : Nat) : sC (scan σ c w) e j = if e = c ∧ j = 9 then w else if e = c ∧ j = 6 then 3 else sC σ e j := rfl
theorem scan_L {σ : q_S} {c w : Nat} (e : Nat) : sL (scan σ c w) e = if e = c then [] else sL σ e := rfl
theorem scan_P {σ : q_S} {c w : Nat} (p j : Nat) : sP (scan σ c w) p j = if sP σ p 4 = c + 1 ∧ (j = 4 ∨ j = 5) then 0 else sP σ p j := rfl
theorem spd_sum (σ : q_S) (c w : Nat) : ∀ k, spd σ c k + ssum (fun p => sP (scan σ c w) p 5) k = ssum (fun p => sP σ p 5) k := by
  intro k
  induction k with
  | zero => rfl
  | succ k ih =>
    rw [spd, ssum, ssum]
    show _ + (_ + sP (scan σ c w) k 5) = _
    rw [scan_P]
    by_cases e : sP σ k 4 = c + 1
    · rw [if_pos e, if_pos ⟨e, Or.inr rfl⟩]; omega
    · rw [if_neg e, if_neg (fun z => e z.1)]; omega
theorem Bal.can {σ : q_S} (h : Bal σ) (c w : Nat) : Bal (scan σ c w) := by
  have h1 := spd_sum σ c w 30
  have h3 : sG σ 2 = sG σ 3 + ssum (fun p => sP σ p 5) 30 + sG σ 4 := h
  show sG σ 2 = (sG σ 3 + spd σ c 30) + ssum (fun p => sP (scan σ c w) p 5) 30 + sG σ 4
  omega
theorem Pay.can {σ : q_S} (h : Pay σ) (c w : Nat) : Pay (scan σ c w) := by
  intro p d hp
  rw [scan_P] at hp
  have e : ¬ sP σ p 4 = c + 1 := fun z => by rw [if_pos ⟨z, Or.inl rfl⟩] at hp; omega
  rw [if_neg (fun z => e z.1)] at hp
  rw [scan_P, scan_P, if_neg (fun z => e z.1), if_neg (fun z => e z.1), scan_C, if_neg (by omega), if_neg (by omega)]
  exact h p d hp
theorem kal_can {σ : q_S} {c w : Nat} (hw : w = 2 ∨ w = 3) (h : kal σ) (hc : sC σ c 6 = 1) : kal (scan σ c w) := by
  intro e he
  have he : e < sN σ 0 := he
  by_cases q : e = c
  · subst q
    obtain ⟨g7, g8, -⟩ := (h e he).one hc
    refine Or.inr (Or.inr (Or.inl ⟨?_, ?_, ?_, ?_, ?_⟩))
    · rw [scan_C]; simp
    · rw [scan_C]; simp; exact g7
    · rw [scan_C]; simp; exact g8
    · rw [scan_C]; simp; exact hw
    · rw [scan_L]; simp
  · have eC : ∀ j, sC (scan σ c w) e j = sC σ e j := fun j => by rw [scan_C, if_neg (fun z => q z.1), if_neg (fun z => q z.1)]
    have eL : sL (scan σ c w) e = sL σ e := by rw [scan_L, if_neg q]
    have := h e he
    unfold kst at this ⊢
    rw [eC, eC, eC, eC, eC, sLen, eL]
    exact this
/-! merging -/
theorem Bal.mg1 {σ : q_S} (h : Bal σ) {d p : Nat} (hp : p < 30) : Bal (smg1 σ d p) := by
  have h2 : sP (smg1 σ d p) p 5 = sP σ p 5 - (sP σ p 5 - sC σ d 5) := f2_s
  have h1 := ssum_up (f := fun q => sP σ q 5) (g := fun q => sP (smg1 σ d p) q 5) hp (fun q hq => by
    show f2 (f2 (f2 (sP σ) p 4 (d + 1)) p 6 (sP σ p 6 + 1)) p 5 _ q 5 = _
    rw [f2_n (fun z => hq z.1), f2_n (fun z => hq z.1), f2_n (fun z => hq z.1)])
  have h3 : sG σ 2 = sG σ 3 + ssum (fun p => sP σ p 5) 30 + sG σ 4 := h
  show sG σ 2 = (sG σ 3 + (sP σ p 5 - sC σ d 5)) + ssum (fun q => sP (smg1 σ d p) q 5) 30 + sG σ 4
  simp only [h2] at h1
  omega
theorem Pay.mg1 {σ : q_S} (h : Pay σ) (d p : Nat) : Pay (smg1 σ d p) := by
  intro q c hq
  have eP : ∀ j, sP (smg1 σ d p) q j = f2 (f2 (f2 (sP σ) p 4 (d + 1)) p 6 (sP σ p 6 + 1)) p 5 (sP σ p 5 - (sP σ p 5 - sC σ d 5)) q j := fun _ => rfl
  show sP (smg1 σ d p) q 5 ≤ sC σ c 5 ∧ _
  by_cases e : q = p
  · subst e
    rw [eP] at hq
    have hc : d = c := by simp [f2] at hq; omega
    subst hc
    rw [eP, eP]
    simp [f2]
    omega
  · have e2 : ∀ j, sP (smg1 σ d p) q j = sP σ q j := fun j => by rw [eP, f2_n (fun z => e z.1), f2_n (fun z => e z.1), f2_n (fun z => e z.1)]
    rw [e2] at hq
    rw [e2, e2]
    exact h q c hq
theorem mny_mgs (d : Nat) : ∀ (l : List Nat) (σ : q_S), (∀ p, p ∈ l → p < 30) → Pay σ → Bal σ → Pay (smgs d l σ) ∧ Bal (smgs d l σ) := by
  intro l
  induction l with
  | nil => intro σ _ h1 h2; exact ⟨h1, h2⟩
  | cons p l ih =>
    intro σ hl h1 h2
    exact ih _ (fun q hq => hl q (List.mem_cons_of_mem _ hq)) (h1.mg1 d p) (h2.mg1 (hl p List.mem_cons_self))
theorem smerge_C {σ : q_S} {c d : Nat} (i j : Nat) : sC (smerge σ c d) i j = if i = c ∧ j = 8 then d + 1 else if i = c ∧ j = 9 then 1 else if i = c ∧ j = 6 then 4 else sC σ i j := by
  show f2 (f2 (f2 (sC (smgs d (sL σ c) σ)) c 6 4) c 9 1) c 8 (d + 1) i j = _
  rw [(smgs_keep d (sL σ c) σ).2.1]; rfl
theorem smerge_N {σ : q_S} {c d : Nat} : sN (smerge σ c d) = sN σ := (smgs_keep d (sL σ c) σ).1
theorem smerge_L {σ : q_S} {c d : Nat} (i : Nat) : sL (smerge σ c d) i = if i = c then [] else if i = d then sL σ d ++ sL σ c else sL σ i := by
  obtain ⟨k1, k2, k3, k4, k5, k6⟩ := smgs_keep d (sL σ c) σ
  show f1 (sL (smgs d (sL σ c) σ)) c [] i = _
  rw [f1_or]
  by_cases e : i = c
  · rw [if_pos e, if_pos e]
  · rw [if_neg e, if_neg e]
    by_cases e2 : i = d
    · rw [if_pos e2, e2, k5]
    · rw [if_neg e2, k4 i e2]
theorem mny_merge {σ : q_S} (hw : WFc σ) (h1 : Pay σ) (h2 : Bal σ) (c d : Nat) : Pay (smerge σ c d) ∧ Bal (smerge σ c d) := by
  obtain ⟨m1, m2⟩ := mny_mgs d (sL σ c) σ (fun p hp => hw.mlt30 hp) h1 h2
  refine ⟨fun p e hp => ?_, m2⟩
  have hp : sP (smgs d (sL σ c) σ) p 4 = e + 1 := hp
  have hC : sC (smerge σ c d) e 5 = sC (smgs d (sL σ c) σ) e 5 := by
    rw [smerge_C, if_neg (by omega), if_neg (by omega), if_neg (by omega), (smgs_keep d (sL σ c) σ).2.1]
  rw [hC]
  exact m1 p e hp
theorem kal_merge {σ : q_S} {c d : Nat} (h : kal σ) (hc : sC σ c 6 = 1) (hd : sC σ d 6 = 1) (h7 : ∀ c, sC σ c 7 = 0) : kal (smerge σ c d) := by
  intro e he
  rw [smerge_N] at he
  by_cases q : e = c
  · subst q
    obtain ⟨g7, g8, -⟩ := (h e he).one hc
    refine Or.inr (Or.inr (Or.inr ⟨?_, ?_, ?_, ?_, ?_⟩))
    · rw [smerge_C]; simp
    · rw [smerge_C]; simp; exact g7
    · rw [smerge_C]; simp
    · rw [smerge_C]; simp
    · rw [smerge_L]; simp
  · have eC : ∀ j, sC (smerge σ c d) e j = sC σ e j := fun j => by rw [smerge_C, if_neg (fun z => q z.1), if_neg (fun z => q z.1), if_neg (fun z => q z.1)]
    rcases h e he with g | g | g | g
    · exact Or.inl (by rw [eC, eC, eC, eC]; exact g)
    · exact absurd (h7 e) g.2.1
    · refine Or.inr (Or.inr (Or.inl ⟨by rw [eC]; exact g.1, by rw [eC]; exact g.2.1, by rw [eC]; exact g.2.2.1, by rw [eC]; exact g.2.2.2.1, ?_⟩))
      rw [smerge_L, if_neg q, if_neg (fun z => by rw [z] at g; omega)]; exact g.2.2.2.2
    · refine Or.inr (Or.inr (Or.inr ⟨by rw [eC]; exact g.1, by rw [eC]; exact g.2.1, by rw [eC]; exact g.2.2.1, by rw [eC]; exact g.2.2.2.1, ?_⟩))
      rw [smerge_L, if_neg q, if_neg (fun z => by rw [z] at g; omega)]; exact g.2.2.2.2
/-! how many classes are in a state -/
def ns (f : Nat → Nat) (s : Nat) : Nat := ssum (fun c => if f c = s then 1 else 0) 8
def nst (σ : q_S) (s : Nat) : Nat := ns (fun c => sC σ c 6) s
theorem ns_up {f g : Nat → Nat} {c : Nat} (s : Nat) (hc : c < 8) (h : ∀ e, ¬ e = c → g e = f e) : ns g s + (if f c = s then 1 else 0) = ns f s + (if g c = s then 1 else 0) :=
  ssum_up (f := fun c => if f c = s then 1 else 0) (g := fun c => if g c = s then 1 else 0) hc (fun e he => by
    show (if g e = s then 1 else 0) = _
    rw [h e he])
theorem nst_pos {σ : q_S} {c s : Nat} (hc : c < 8) (h : sC σ c 6 = s) : 1 ≤ nst σ s := by
  have h1 := ssum_ge (f := fun c => if sC σ c 6 = s then 1 else 0) 8 c hc
  simp only [h, if_true] at h1
  exact h1
theorem nst_chg {σ τ : q_S} {c s : Nat} (hc : c < 8) (h1 : sC σ c 6 = 1) (h : ∀ e, ¬ e = c → sC τ e 6 = sC σ e 6) (ht : sC τ c 6 = s) (hs : s = 2 ∨ s = 3 ∨ s = 4) : nst τ 1 + 1 = nst σ 1 ∧ nst τ 3 = nst σ 3 + (if s = 3 then 1 else 0) ∧ nst τ 4 = nst σ 4 + (if s = 4 then 1 else 0) := by
  have a1 := ns_up (f := fun c => sC σ c 6) (g := fun c => sC τ c 6) 1 hc h
  have a3 := ns_up (f := fun c => sC σ c 6) (g := fun c => sC τ c 6) 3 hc h
  have a4 := ns_up (f := fun c => sC σ c 6) (g := fun c => sC τ c 6) 4 hc h
  simp only [h1, ht] at a1 a3 a4
  unfold nst
  rcases hs with rfl | rfl | rfl <;> simp at a1 a3 a4 ⊢ <;> omega
theorem nst_eq {σ τ : q_S} (h : sC τ = sC σ) (s : Nat) : nst τ s = nst σ s := by unfold nst; rw [h]
theorem nst_8 (σ : q_S) (s : Nat) : nst σ s ≤ 8 := by
  have : ∀ k, ssum (fun c => if sC σ c 6 = s then 1 else 0) k ≤ k := by
    intro k
    induction k with
    | zero => exact Nat.le_refl _
    | succ k ih => rw [ssum]; split <;> omega
  exact this 8
/-! the closing -/
def Mid (m k : Nat) (σ : q_S) : Prop := WFc σ ∧ Pay σ ∧ Bal σ ∧ kal σ ∧ sG σ 6 = m + nst σ 4 ∧ sG σ 7 = k + nst σ 3
theorem mid_set {m k : Nat} {σ : q_S} (n : Nat) (h : Mid m k σ) (h7 : ∀ c, sC σ c 7 = 0) : Mid m k (sset n σ) := by
  obtain ⟨hw, h1, h2, h3, h4, h5⟩ := h
  obtain ⟨m1, m2⟩ := mny_set n σ hw h1 h2
  have eC := (sset_NCR n σ).2.1
  refine ⟨hw.set n, m1, m2, kal_set n hw h7 h3, ?_, ?_⟩
  · rw [sset_G (by omega) (by omega) (by omega), nst_eq eC]; exact h4
  · rw [sset_G (by omega) (by omega) (by omega), nst_eq eC]; exact h5
theorem mid_cl1 {m k : Nat} {σ : q_S} (h : Mid m k σ) (h7 : ∀ c, sC σ c 7 = 0) {c : Nat} (hs : sC σ c 6 = 1) : Mid m k (scl1 σ c) ∧ (∀ e, sC (scl1 σ c) e 7 = 0) ∧ nst (scl1 σ c) 1 + 1 = nst σ 1 := by
  obtain ⟨hw, h1, h2, h3, h4, h5⟩ := id h
  have hc := c_lt_of_st hw hs
  have hc8 : c < 8 := Nat.lt_of_lt_of_le hc hw.B.1
  have e7 : ∀ e, sC (scl1 σ c) e 7 = 0 := fun e => ((scl1_keep σ c).2.2.1 e).trans (h7 e)
  have hwc := hw.cl1 hs
  refine ⟨?_, e7, ?_⟩
  · unfold scl1
    by_cases q : sft σ c 8 = 0
    · rw [if_pos q]
      have n1 := nst_chg (σ := σ) (τ := scan σ c 2) hc8 hs (fun e he => by rw [scan_C, if_neg (by omega), if_neg (fun z => he z.1)]) (s := 3) (by rw [scan_C]; simp) (by omega)
      refine mid_set 1000 ⟨hw.can hc (by omega), h1.can c 2, h2.can c 2, kal_can (Or.inl rfl) h3 hs, ?_, ?_⟩ (fun e => by rw [scan_C, if_neg (by omega), if_neg (by omega)]; exact h7 e)
      · show sG σ 6 = _
        rw [n1.2.2]; simp; exact h4
      · show sG σ 7 + 1 = _
        rw [n1.2.1]; simp; omega
    · rw [if_neg q]
      obtain ⟨s1, s2, s3⟩ := sft_spec σ c 8 q
      have n1 := nst_chg (σ := σ) (τ := smerge σ c (sft σ c 8 - 1)) hc8 hs (fun e he => by rw [smerge_C, if_neg (fun z => he z.1), if_neg (fun z => he z.1), if_neg (fun z => he z.1)]) (s := 4) (by rw [smerge_C]; simp) (by omega)
      obtain ⟨m1, m2⟩ := mny_merge hw h1 h2 c (sft σ c 8 - 1)
      refine mid_set 1000 ⟨hw.merge hc (c_lt_of_st hw s1) s2 s3, m1, m2, kal_merge h3 hs s1 h7, ?_, ?_⟩ (fun e => by rw [smerge_C, if_neg (by omega), if_neg (by omega), if_neg (by omega)]; exact h7 e)
      · show sG (smgs _ _ σ) 6 + 1 = _
        rw [n1.2.2, smgs_G (by omega)]; simp; omega
      · show sG (smgs _ _ σ) 7 = _
        rw [n1.2.1, smgs_G (by omega)]; simp; exact h5
  · unfold scl1
    rw [nst_eq (sset_NCR _ _).2.1]
    by_cases q : sft σ c 8 = 0
    · rw [if_pos q]
      exact (nst_chg (σ := σ) (τ := scan σ c 2) hc8 hs (fun e he => by rw [scan_C, if_neg (by omega), if_neg (fun z => he z.1)]) (s := 3) (by rw [scan_C]; simp) (by omega)).1
    · rw [if_neg q]
      exact (nst_chg (σ := σ) (τ := smerge σ c (sft σ c 8 - 1)) hc8 hs (fun e he => by rw [smerge_C, if_neg (fun z => he z.1), if_neg (fun z => he z.1), if_neg (fun z => he z.1)]) (s := 4) (by rw [smerge_C]; simp) (by omega)).1
theorem ssm_in {σ : q_S} (h : ¬ ssm σ 8 = 0) : ssm σ 8 - 1 < 8 ∧ sC σ (ssm σ 8 - 1) 6 = 1 := ⟨by have := ssm_le σ 8; omega, (ssm_spec σ 8 h).1⟩
theorem mid_cls1 {m k : Nat} : ∀ (n : Nat) (σ : q_S), Mid m k σ → (∀ c, sC σ c 7 = 0) → nst σ 1 ≤ n → Mid m k (scls1 n σ) ∧ (∀ c, sC (scls1 n σ) c 7 = 0) ∧ ssm (scls1 n σ) 8 = 0 := by
  intro n
  induction n with
  | zero =>
    intro σ h h7 hn
    refine ⟨h, h7, ?_⟩
    by_cases e : ssm σ 8 = 0
    · exact e
    · obtain ⟨e1, e2⟩ := ssm_in e
      have := nst_pos e1 e2
      omega
  | succ n ih =>
    intro σ h h7 hn
    unfold scls1
    by_cases e : ssm σ 8 = 0
    · rw [if_pos e]; exact ⟨h, h7, e⟩
    · rw [if_neg e]
      obtain ⟨e1, e2⟩ := ssm_in e
      obtain ⟨a1, a2, a3⟩ := mid_cl1 h h7 e2
      exact ih _ a1 a2 (by omega)
theorem ssm_zero (σ : q_S) : ∀ k, ssm σ k = 0 → ∀ c, c < k → sC σ c 6 = 1 → sC σ c 3 ≤ sLen σ c := by
  intro k
  induction k with
  | zero => intro _ c hc; omega
  | succ k ih =>
    intro h c hc h1
    rw [ssm] at h
    by_cases e : sC σ k 6 = 1 ∧ sLen σ k < sC σ k 3 ∧ (ssm σ k = 0 ∨ sLen σ k < sLen σ (ssm σ k - 1))
    · rw [if_pos e] at h; omega
    · rw [if_neg e] at h
      by_cases q : c = k
      · subst q
        rcases Nat.lt_or_ge (sLen σ c) (sC σ c 3) with z | z
        · exact absurd ⟨h1, z, Or.inl h⟩ e
        · exact z
      · exact ih h c (by omega) h1
theorem sgr_zero (σ : q_S) : ∀ k, sgr σ k = 0 → ∀ c, c < k → ¬ sC σ c 6 = 1 := by
  intro k
  induction k with
  | zero => intro _ c hc; omega
  | succ k ih =>
    intro h c hc h1
    rw [sgr] at h
    by_cases e : sC σ k 6 = 1 ∧ (sgr σ k = 0 ∨ sLen σ (sgr σ k - 1) < sLen σ k)
    · rw [if_pos e] at h; omega
    · rw [if_neg e] at h
      by_cases q : c = k
      · subst q; exact e ⟨h1, Or.inl h⟩
      · exact ih h c (by omega) h1
theorem sgb_no (σ : q_S) (r e : Nat) : ∀ k, sgb σ r e k = false → ∀ i, i < k → sC σ i 7 = r + 1 → ¬ sC σ i 2 = e := by
  intro k
  induction k with
  | zero => intro _ i hi; omega
  | succ k ih =>
    intro h i hi h1 h2
    rw [sgb, Bool.or_eq_false_iff] at h
    by_cases q : i = k
    · subst q
      have := h.2
      simp [h1, h2] at this
    · exact ih h.1 i (by omega) h1 h2
theorem srm_free (σ : q_S) (c : Nat) : ∀ k, ¬ srm σ c k = 0 → sgb σ (srm σ c k - 1) (sC σ c 2) 8 = false := by
  intro k
  induction k with
  | zero => intro h; exact absurd rfl h
  | succ k ih =>
    intro h
    rw [srm] at h ⊢
    split
    · next e => exact e.2.1
    · next e => rw [if_neg e] at h; exact ih h
theorem sgiv_C {σ : q_S} {c r : Nat} (e j : Nat) : sC (sgiv σ c r) e j = if e = c ∧ j = 6 then 2 else if e = c ∧ j = 7 then r else sC σ e j := rfl
theorem kal_giv {σ : q_S} {c r : Nat} (h : kal σ) (hs : sC σ c 6 = 1) (h0 : ¬ r = 0) (hr : r ≤ sN σ 1) (h3 : sC σ c 3 ≤ sLen σ c) (hf : sLen σ c ≤ sR σ (r - 1)) : kal (sgiv σ c r) := by
  intro e he
  have he : e < sN σ 0 := he
  by_cases q : e = c
  · subst q
    obtain ⟨g7, g8, g9⟩ := (h e he).one hs
    refine Or.inr (Or.inl ⟨?_, ?_, ?_, ?_, ?_, ?_, ?_⟩)
    · rw [sgiv_C]; simp
    · rw [sgiv_C]; simp; exact h0
    · rw [sgiv_C]; simp; exact g8
    · rw [sgiv_C]; simp; exact g9
    · rw [sgiv_C]; simp; exact h3
    · rw [sgiv_C]; simp; exact hr
    · rw [sgiv_C]; simp; exact hf
  · have eC : ∀ j, sC (sgiv σ c r) e j = sC σ e j := fun j => by rw [sgiv_C, if_neg (fun z => q z.1), if_neg (fun z => q z.1)]
    have := h e he
    unfold kst at this ⊢
    rw [eC, eC, eC, eC, eC]
    exact this
theorem rds_giv {σ : q_S} (hw : WFc σ) {c : Nat} (h : Rds σ) (h0 : ¬ srm σ c (sN σ 1) = 0) : Rds (sgiv σ c (srm σ c (sN σ 1))) := by
  have hf := sgb_no σ _ _ 8 (srm_free σ c _ h0)
  generalize srm σ c (sN σ 1) = r at h0 hf
  have c8 : ∀ k, ¬ sC σ k 7 = 0 → k < 8 := fun k hk => by
    rcases Nat.lt_or_ge k 8 with q | q
    · exact q
    · exact absurd (hw.2.2.1 k (Nat.le_trans hw.B.1 q)).2.1 hk
  have e2 : ∀ k, sC (sgiv σ c r) k 2 = sC σ k 2 := fun k => by rw [sgiv_C, if_neg (by omega), if_neg (by omega)]
  have e7 : ∀ k, sC (sgiv σ c r) k 7 = if k = c then r else sC σ k 7 := fun k => by
    rw [sgiv_C, if_neg (by omega)]
    by_cases q : k = c
    · rw [if_pos ⟨q, rfl⟩, if_pos q]
    · rw [if_neg (fun z => q z.1), if_neg q]
  intro a k h1 h2 h3
  rw [e2, e2] at h3
  rw [e7] at h1
  rw [e7, e7] at h2
  by_cases qa : a = c
  · by_cases qk : k = c
    · rw [qa, qk]
    · rw [if_pos qa, if_neg qk] at h2
      rw [qa] at h3
      exact absurd h3 (hf k (c8 k (by omega)) (by omega))
  · rw [if_neg qa] at h1
    by_cases qk : k = c
    · rw [if_pos qk, if_neg qa] at h2
      rw [qk] at h3
      exact absurd h3.symm (hf a (c8 a h1) (by omega))
    · rw [if_neg qk, if_neg qa] at h2
      exact h a k h1 h2 h3
def opn (σ : q_S) : Prop := ∀ c, c < 8 → sC σ c 6 = 1 → sC σ c 3 ≤ sLen σ c
theorem mid_cl2 {m k : Nat} {σ : q_S} (h : Mid m k σ) (hr : Rds σ) (ho : opn σ) {c : Nat} (hs : sC σ c 6 = 1) : Mid m k (scl2 σ c) ∧ Rds (scl2 σ c) ∧ opn (scl2 σ c) ∧ nst (scl2 σ c) 1 + 1 = nst σ 1 := by
  obtain ⟨hw, h1, h2, h3, h4, h5⟩ := id h
  have hc := c_lt_of_st hw hs
  have hc8 : c < 8 := Nat.lt_of_lt_of_le hc hw.B.1
  unfold scl2
  by_cases q : srm σ c (sN σ 1) = 0
  · rw [if_pos q]
    have n1 := nst_chg (σ := σ) (τ := scan σ c 3) hc8 hs (fun e he => by rw [scan_C, if_neg (by omega), if_neg (fun z => he z.1)]) (s := 3) (by rw [scan_C]; simp) (by omega)
    have e7 : ∀ e j, (j = 7 ∨ j = 2 ∨ j = 3) → sC (scan σ c 3) e j = sC σ e j := fun e j hj => by rw [scan_C, if_neg (by omega), if_neg (by omega)]
    refine ⟨⟨hw.can hc (by omega), h1.can c 3, h2.can c 3, kal_can (Or.inr rfl) h3 hs, ?_, ?_⟩, fun a b b1 b2 b3 => ?_, fun e he h6 => ?_, n1.1⟩
    · show sG σ 6 = _
      rw [n1.2.2]; simp; exact h4
    · show sG σ 7 + 1 = _
      rw [n1.2.1]; simp; omega
    · rw [e7 _ 7 (by omega)] at b1
      rw [e7 _ 7 (by omega), e7 _ 7 (by omega)] at b2
      rw [e7 _ 2 (by omega), e7 _ 2 (by omega)] at b3
      exact hr a b b1 b2 b3
    · rw [e7 _ 3 (by omega)]
      have qe : ¬ e = c := fun z => by rw [z, scan_C] at h6; simp at h6
      rw [scan_C, if_neg (by omega), if_neg (fun z => qe z.1)] at h6
      rw [sLen, scan_L, if_neg qe]
      exact ho e he h6
  · rw [if_neg q]
    have n1 := nst_chg (σ := σ) (τ := sgiv σ c (srm σ c (sN σ 1))) hc8 hs (fun e he => by rw [sgiv_C, if_neg (fun z => he z.1), if_neg (by omega)]) (s := 2) (by rw [sgiv_C]; simp) (by omega)
    refine ⟨⟨hw.giv hc (Nat.le_trans (srm_le _ _ _) hw.B.2.1), fun p d hp => ?_, h2, kal_giv h3 hs q (srm_le _ _ _) (ho c hc8 hs) (srm_spec σ c _ q), ?_, ?_⟩, rds_giv hw hr q, fun e he h6 => ?_, n1.1⟩
    · rw [sgiv_C, if_neg (by omega), if_neg (by omega)]
      exact h1 p d hp
    · show sG σ 6 = _
      rw [n1.2.2]; simp; exact h4
    · show sG σ 7 = _
      rw [n1.2.1]; simp; exact h5
    · have qe : ¬ e = c := fun z => by rw [z, sgiv_C] at h6; simp at h6
      rw [sgiv_C, if_neg (fun z => qe z.1), if_neg (by omega)] at h6
      rw [sgiv_C, if_neg (by omega), if_neg (by omega)]
      exact ho e he h6
theorem mid_cls2 {m k : Nat} : ∀ (n : Nat) (σ : q_S), Mid m k σ → Rds σ → opn σ → nst σ 1 ≤ n → Mid m k (scls2 n σ) ∧ Rds (scls2 n σ) ∧ ∀ c, c < 8 → ¬ sC (scls2 n σ) c 6 = 1 := by
  intro n
  induction n with
  | zero =>
    intro σ h hr ho hn
    refine ⟨h, hr, fun c hc e => ?_⟩
    have : 1 ≤ nst σ 1 := nst_pos hc e
    omega
  | succ n ih =>
    intro σ h hr ho hn
    unfold scls2
    by_cases e : sgr σ 8 = 0
    · rw [if_pos e]; exact ⟨h, hr, sgr_zero σ 8 e⟩
    · rw [if_neg e]
      obtain ⟨a1, a2, a3, a4⟩ := mid_cl2 h hr ho (sgr_spec σ 8 e)
      exact ih _ a1 a2 a3 (by omega)
/-- what a closing of an open_ season gives -/
theorem mid_close {m k : Nat} {σ : q_S} (h : Mid m k σ) (h7 : ∀ c, sC σ c 7 = 0) : Mid m k (sclose σ) ∧ Rds (sclose σ) ∧ ∀ c, c < 8 → ¬ sC (sclose σ) c 6 = 1 := by
  obtain ⟨a1, a2, a3⟩ := mid_cls1 8 σ h h7 (nst_8 σ 1)
  exact mid_cls2 8 (scls1 8 σ) a1 (fun c d hc => absurd (a2 c) hc) (fun c hc => ssm_zero _ 8 a3 c hc) (nst_8 _ 1)
/-! how often people came into classes, at most -/
theorem smerge_P6 {σ : q_S} (hw : WFc σ) (c d p : Nat) : sP (smerge σ c d) p 6 ≤ sP σ p 6 + 1 := by
  show sP (smgs d (sL σ c) σ) p 6 ≤ _
  by_cases e : p ∈ sL σ c
  · rw [smgs_P d (sL σ c) σ (hw.nd c) p e 6]; simp
  · rw [(smgs_keep d (sL σ c) σ).2.2.2.2.2 p e]; omega
theorem com_cl1 {σ : q_S} {b : Nat} (hw : WFc σ) (h : Com b σ) (c : Nat) : Com (b + 1001) (scl1 σ c) := by
  unfold scl1
  have : Com (b + 1) (if sft σ c 8 = 0 then scan σ c 2 else smerge σ c (sft σ c 8 - 1)) := by
    intro p
    split
    · rw [scan_P, if_neg (by omega)]; have := h p; omega
    · have := smerge_P6 hw c (sft σ c 8 - 1) p
      have := h p
      omega
  exact (com_set 1000 _ _ this).le (by omega)
theorem com_cls1 : ∀ (n : Nat) (σ : q_S) (b : Nat), WFc σ → Com b σ → Com (b + 1001 * n) (scls1 n σ) := by
  intro n
  induction n with
  | zero => intro σ b _ h; exact h
  | succ n ih =>
    intro σ b hw h
    unfold scls1
    split
    · exact h.le (by omega)
    · next e => exact (ih _ _ (hw.cl1 (ssm_spec σ 8 e).1) (com_cl1 hw h _)).le (by omega)
theorem com_cl2 {σ : q_S} {b : Nat} (h : Com b σ) (c : Nat) : Com b (scl2 σ c) := by
  unfold scl2
  intro p
  split
  · rw [scan_P, if_neg (by omega)]; exact h p
  · exact h p
theorem com_cls2 : ∀ (n : Nat) (σ : q_S) (b : Nat), Com b σ → Com b (scls2 n σ) := by
  intro n
  induction n with
  | zero => intro σ b h; exact h
  | succ n ih =>
    intro σ b h
    unfold scls2
    split
    · exact h
    · exact ih _ _ (com_cl2 h _)
theorem com_close {σ : q_S} {b : Nat} (hw : WFc σ) (h : Com b σ) : Com (b + 10000) (sclose σ) := (com_cls2 8 _ _ (com_cls1 8 σ b hw h)).le (by omega)
