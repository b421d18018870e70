/-! WHAT HOLDS BETWEEN THE LAW'S CALLS: the whole, and each change keeps it -/
def Inv (b : Nat) (σ : q_S) : Prop := sok σ ∧ Pay σ ∧ Bal σ ∧ Com b σ ∧ sG σ 0 ≤ b ∧ kal σ ∧ Rds σ ∧ (sG σ 1 = 0 → (∀ c, c < sN σ 0 → sC σ c 6 = 1) ∧ Stl σ) ∧ (sG σ 1 = 1 → ∀ c, c < sN σ 0 → ¬ sC σ c 6 = 1)
theorem Inv.le {a b : Nat} {σ : q_S} (h : Inv a σ) (hab : a ≤ b) : Inv b σ := by
  obtain ⟨h1, h2, h3, h4, h5, h6⟩ := h
  exact ⟨h1, h2, h3, h4.le hab, Nat.le_trans h5 hab, h6⟩
theorem Inv.ok {b : Nat} {σ : q_S} (h : Inv b σ) : sok σ := h.1
theorem Inv.wf {b : Nat} {σ : q_S} (h : Inv b σ) : WFc σ := h.1.1
theorem Inv.open0 {b : Nat} {σ : q_S} (h : Inv b σ) (h0 : sG σ 1 = 0) : (∀ c, c < sN σ 0 → sC σ c 6 = 1 ∧ sC σ c 7 = 0 ∧ sC σ c 8 = 0 ∧ sC σ c 9 = 0) ∧ (∀ c, sC σ c 7 = 0) ∧ Stl σ := by
  obtain ⟨h1, h2, h3, h4, h5, h6, h7, h8, h9⟩ := h
  obtain ⟨a1, a2⟩ := h8 h0
  exact ⟨fun c hc => ⟨a1 c hc, (h6 c hc).one (a1 c hc)⟩, h1.2.2.1 h0, a2⟩
theorem sbet_zero {σ : q_S} {p : Nat} (h : sbet σ p = 0) (h0 : ¬ sP σ p 0 = 0) : (¬ sP σ p 1 = sP σ p 4 → ¬ sfr σ (sP σ p 1)) ∧ (¬ sP σ p 1 = sP σ p 4 → ¬ sP σ p 2 = sP σ p 4 → ¬ sfr σ (sP σ p 2)) ∧ (¬ sP σ p 1 = sP σ p 4 → ¬ sP σ p 2 = sP σ p 4 → ¬ sP σ p 3 = sP σ p 4 → ¬ sfr σ (sP σ p 3)) := by
  unfold sbet at h
  rw [if_neg h0] at h
  have n1 : ¬ sP σ p 1 = sP σ p 4 → ¬ sfr σ (sP σ p 1) := by
    intro c1 f
    rw [if_neg c1, if_pos f] at h
    exact f.1 h
  have n2 : ¬ sP σ p 1 = sP σ p 4 → ¬ sP σ p 2 = sP σ p 4 → ¬ sfr σ (sP σ p 2) := by
    intro c1 c2 f
    rw [if_neg c1, if_neg (n1 c1), if_neg c2, if_pos f] at h
    exact f.1 h
  refine ⟨n1, n2, fun c1 c2 c3 f => ?_⟩
  rw [if_neg c1, if_neg (n1 c1), if_neg c2, if_neg (n2 c1 c2), if_neg c3, if_pos f] at h
  exact f.1 h
/-- settled stays settled where no place becomes free -/
theorem stl_same {σ τ : q_S} (h : Stl σ) (hP : ∀ p, sP τ p = sP σ p) (hf : ∀ p j, 1 ≤ j → j < 4 → sfr τ (sP σ p j) → sfr σ (sP σ p j)) : Stl τ := by
  intro p
  by_cases e : sbet τ p = 0
  · exact e
  exfalso
  obtain ⟨s0, s1, -⟩ := sbet_spec e
  have c := sbet_cases e
  rw [hP] at s0 c
  obtain ⟨z1, z2, z3⟩ := sbet_zero (h p) s0
  rcases c with ⟨c1, c2⟩ | ⟨c1, c2, c3⟩ | ⟨c1, c2, c3, c4⟩
  · rw [c2] at s1; exact z1 c1 (hf p 1 (by omega) (by omega) s1)
  · rw [c3] at s1; exact z2 c1 c2 (hf p 2 (by omega) (by omega) s1)
  · rw [c4] at s1; exact z3 c1 c2 c3 (hf p 3 (by omega) (by omega) s1)
/-- people come, go or wish anew, and all is settled -/
theorem inv_set {b : Nat} {σ τ : q_S} (h : Inv b σ) (h0 : sG σ 1 = 0) (hw : WFc τ) (hp : Pay τ) (hb : Bal τ) (hc : Com b τ) (hC : sC τ = sC σ) (hN : sN τ 0 = sN σ 0) (g1 : sG τ 1 = 0) (g0 : sG τ 0 = sG σ 0) : Inv (b + 10000) (sset 1000 τ) := by
  obtain ⟨o1, o7, -⟩ := h.open0 h0
  obtain ⟨eN, eC, eR⟩ := sset_NCR 1000 τ
  obtain ⟨m1, m2⟩ := mny_set 1000 τ hw hp hb
  have G1 : sG (sset 1000 τ) 1 = 0 := (sset_G (by omega) (by omega) (by omega) 1000 τ).trans g1
  have G0 : sG (sset 1000 τ) 0 = sG σ 0 := (sset_G (by omega) (by omega) (by omega) 1000 τ).trans g0
  have Z7 : ∀ c, sC (sset 1000 τ) c 7 = 0 := fun c => by rw [eC, hC]; exact o7 c
  have O : ∀ c, c < sN (sset 1000 τ) 0 → sC (sset 1000 τ) c 6 = 1 ∧ sC (sset 1000 τ) c 7 = 0 ∧ sC (sset 1000 τ) c 8 = 0 ∧ sC (sset 1000 τ) c 9 = 0 := fun c hc => by
    rw [eN, hN] at hc
    rw [eC, hC]
    exact o1 c hc
  exact ⟨⟨hw.set 1000, by omega, fun _ => Z7, fun c z => absurd (Z7 c) z⟩, m1, m2, (com_set 1000 τ b hc).le (by omega), by have := h.2.2.2.2.1; omega, fun c hc => Or.inl (O c hc), fun c k z => absurd (Z7 c) z, fun _ => ⟨fun c hc => (O c hc).1, stl_1000 hw⟩, fun z => by omega⟩
theorem sAddP_P {σ : q_S} {a b c : Nat} (q : Nat) {j : Nat} (hj : 4 ≤ j) : sP (sAddP σ a b c) q j = sP σ q j := by
  show f2 (f2 (f2 (f2 (sP σ) (sN σ 2) 1 a) (sN σ 2) 2 b) (sN σ 2) 3 c) (sN σ 2) 0 1 q j = _
  rw [f2_n (fun z => by omega), f2_n (fun z => by omega), f2_n (fun z => by omega), f2_n (fun z => by omega)]
theorem sSetW_P {σ : q_S} {p a b c : Nat} (q : Nat) {j : Nat} (hj : 4 ≤ j) : sP (sSetW σ p a b c) q j = sP σ q j := by
  show f2 (f2 (f2 (sP σ) p 1 a) p 2 b) p 3 c q j = _
  rw [f2_n (fun z => by omega), f2_n (fun z => by omega), f2_n (fun z => by omega)]
theorem pay_same {σ τ : q_S} (h : Pay σ) (hP : ∀ p j, 4 ≤ j → sP τ p j = sP σ p j) (hC : sC τ = sC σ) : Pay τ := by
  intro p c hp
  rw [hP p 4 (by omega)] at hp
  rw [hP p 5 (by omega), hP p 6 (by omega), hC]
  exact h p c hp
theorem bal_same {σ τ : q_S} (h : Bal σ) (hP : ∀ p j, 4 ≤ j → sP τ p j = sP σ p j) (hG : sG τ = sG σ) : Bal τ := by
  unfold Bal
  rw [hG, ssum_cg (g := fun p => sP σ p 5) 30 (fun p _ => hP p 5 (by omega))]
  exact h
theorem com_same {b : Nat} {σ τ : q_S} (h : Com b σ) (hP : ∀ p j, 4 ≤ j → sP τ p j = sP σ p j) : Com b τ := by
  intro p
  rw [hP p 6 (by omega)]
  exact h p
theorem wok_bd {n : Nat} {x y z : Int32} (hn : n < 2 ^ 31 - 1) (h : wokI n x y z) : (1 ≤ dcd x ∧ dcd x ≤ n) ∧ dcd y ≤ n ∧ dcd z ≤ n ∧ (dcd y = 0 → dcd z = 0) := by
  obtain ⟨⟨-, a1⟩, ⟨-, a2⟩, ⟨-, a3⟩, a4⟩ := wok_dcd hn h
  exact ⟨a1, a2, a3, a4⟩
theorem inv_join {b : Nat} {σ : q_S} (h : Inv b σ) (x y z : Int32) : Inv (b + 10000) (opJoin σ x y z).2 := by
  unfold opJoin
  split
  · exact h.le (by omega)
  · next e1 =>
    split
    · exact h.le (by omega)
    · next e2 =>
      split
      · exact h.le (by omega)
      · next e3 =>
        have hw := h.wf
        have h0 := op0 h.ok e2
        obtain ⟨b0, b1, b2, -⟩ := hw.B
        obtain ⟨w1, w2, w3, w4⟩ := wok_bd (by omega) (Decidable.not_not.mp e1)
        exact inv_set h h0 (hw.addP (by omega) w1 w2 w3 w4) (pay_same h.2.1 (fun p j => sAddP_P p) rfl) (bal_same h.2.2.1 (fun p j => sAddP_P p) rfl) (com_same h.2.2.2.1 (fun p j => sAddP_P p)) rfl rfl h0 rfl
theorem inv_wish {b : Nat} {σ : q_S} (h : Inv b σ) (p x y z : Int32) : Inv (b + 10000) (opWish σ p x y z).2 := by
  unfold opWish
  split
  · exact h.le (by omega)
  · next e1 =>
    split
    · exact h.le (by omega)
    · next e2 =>
      have hw := h.wf
      have h0 := op0 h.ok (fun q => e2 (Or.inl q))
      obtain ⟨b0, b1, b2, -⟩ := hw.B
      have e1 : isC (sN σ 2) p ∧ wokI (sN σ 0) x y z := ⟨Decidable.not_not.mp (fun q => e1 (Or.inl q)), Decidable.not_not.mp (fun q => e1 (Or.inr q))⟩
      obtain ⟨w1, w2, w3, w4⟩ := wok_bd (by omega) e1.2
      obtain ⟨q, hq, rfl⟩ := (isC_iff (by omega)).mp e1.1
      rw [nI_clamp (by omega)]
      exact inv_set h h0 (hw.setW hq w1 w2 w3 w4) (pay_same h.2.1 (fun p j => sSetW_P p) rfl) (bal_same h.2.2.1 (fun p j => sSetW_P p) rfl) (com_same h.2.2.2.1 (fun p j => sSetW_P p)) rfl rfl h0 rfl
theorem uP0 {σ : q_S} {p : Nat} (q j : Nat) (hj : 4 ≤ j) : sP (uP σ p 0 0) q j = sP σ q j := f2_n (fun z => by omega)
theorem com_out {b : Nat} {σ : q_S} (h : Com b σ) (p : Nat) : Com b (sout σ p) := fun q => by rw [sout_P p q (by omega) (by omega)]; exact h q
theorem inv_leave {b : Nat} {σ : q_S} (h : Inv b σ) (p : Int32) : Inv (b + 10000) (opLeave σ p).2 := by
  unfold opLeave
  split
  · exact h.le (by omega)
  · next e1 =>
    split
    · exact h.le (by omega)
    · next e2 =>
      have hw := h.wf
      have h0 := op0 h.ok (fun q => e2 (Or.inl q))
      obtain ⟨b0, b1, b2, -⟩ := hw.B
      obtain ⟨q, hq, rfl⟩ := (isC_iff (by omega)).mp (Decidable.not_not.mp e1)
      rw [nI_clamp (by omega)]
      have p1 := pay_same (h.2.1.out hw q) (τ := uP (sout σ q) q 0 0) uP0 rfl
      have p2 := bal_same (h.2.2.1.out (p := q) (by omega)) (τ := uP (sout σ q) q 0 0) uP0 rfl
      have p3 := com_same (com_out h.2.2.2.1 q) (τ := uP (sout σ q) q 0 0) uP0
      exact inv_set h h0 (hw.leave q) p1 p2 p3 (sout_C σ q) (congrFun (sout_N σ q) 0) ((sout_G (by omega)).trans h0) (sout_G (by omega))
theorem sAddC_C {σ : q_S} {k l m f : Nat} (e j : Nat) (he : ¬ e = sN σ 0) : sC (sAddC σ k l m f) e j = sC σ e j := by
  unfold sAddC
  simp only [sC_mk]
  rw [f2_n (fun z => he z.1), f2_n (fun z => he z.1), f2_n (fun z => he z.1), f2_n (fun z => he z.1), f2_n (fun z => he z.1), f2_n (fun z => he z.1), f2_n (fun z => he z.1), f2_n (fun z => he z.1), f2_n (fun z => he z.1), f2_n (fun z => he z.1)]
theorem sAddC_new {σ : q_S} {k l m f : Nat} : sC (sAddC σ k l m f) (sN σ 0) 6 = 1 ∧ sC (sAddC σ k l m f) (sN σ 0) 7 = 0 ∧ sC (sAddC σ k l m f) (sN σ 0) 8 = 0 ∧ sC (sAddC σ k l m f) (sN σ 0) 9 = 0 := by
  unfold sAddC
  simp only [sC_mk]
  refine ⟨?_, ?_, ?_, ?_⟩ <;> simp [f2]
theorem inv_course {b : Nat} {σ : q_S} (h : Inv b σ) (k l m f : Int32) : Inv (b + 10000) (opCourse σ k l m f).2 := by
  have gd := good_course h.ok k l m f
  unfold opCourse at gd ⊢
  by_cases e1 : ¬ cokI k l m f
  · rw [if_pos e1]; exact h.le (by omega)
  rw [if_neg e1] at gd ⊢
  by_cases e2 : sG σ 1 = 1
  · rw [if_pos e2]; exact h.le (by omega)
  rw [if_neg e2] at gd ⊢
  by_cases e3 : sN σ 0 = 8
  · rw [if_pos e3]; exact h.le (by omega)
  rw [if_neg e3] at gd ⊢
  have hw := h.wf
  have h0 := op0 h.ok e2
  obtain ⟨o1, o7, os⟩ := h.open0 h0
  obtain ⟨h1, h2, h3, h4, h5, h6, h7, h8, h9⟩ := h
  generalize k.toNatClampNeg = k', l.toNatClampNeg = l', m.toNatClampNeg = m', f.toNatClampNeg = f' at gd
  show Inv (b + 10000) (sAddC σ k' l' m' f')
  have gk : sok (sAddC σ k' l' m' f') := gd.1
  have hN : sN (sAddC σ k' l' m' f') 0 = sN σ 0 + 1 := by
    show f1 (sN σ) 0 (sN σ 0 + 1) 0 = _
    exact f1_s
  have hL : ∀ e, ¬ e = sN σ 0 → sL (sAddC σ k' l' m' f') e = sL σ e := fun e he => by
    show f1 (sL σ) (sN σ 0) [] e = _
    exact f1_n he
  have O : ∀ c, c < sN (sAddC σ k' l' m' f') 0 → sC (sAddC σ k' l' m' f') c 6 = 1 ∧ sC (sAddC σ k' l' m' f') c 7 = 0 ∧ sC (sAddC σ k' l' m' f') c 8 = 0 ∧ sC (sAddC σ k' l' m' f') c 9 = 0 := fun c hc => by
    by_cases e : c = sN σ 0
    · rw [e]; exact sAddC_new
    · rw [sAddC_C c _ e, sAddC_C c _ e, sAddC_C c _ e, sAddC_C c _ e]
      exact o1 c (by omega)
  have g10 : sG (sAddC σ k' l' m' f') 1 = 0 := h0
  refine ⟨gk, fun p c hp => ?_, h3, h4.le (by omega), Nat.le_trans h5 (by omega), fun c hc => Or.inl (O c hc), fun c d z => absurd (gk.2.2.1 g10 c) z, fun _ => ⟨fun c hc => (O c hc).1, stl_same os (fun _ => rfl) (fun p j j1 j2 hf => ?_)⟩, fun z => by omega⟩
  · have hp : sP σ p 4 = c + 1 := hp
    have := (hw.pr p).2.2.2.2.1
    rw [sAddC_C c _ (by omega)]
    exact h2 p c hp
  · have hj : sP σ p j ≤ sN σ 0 := by
      have a := hw.pr p
      have jc : j = 1 ∨ j = 2 ∨ j = 3 := by omega
      rcases jc with rfl | rfl | rfl
      · exact a.2.1
      · exact a.2.2.1
      · exact a.2.2.2.1
    obtain ⟨f1, f2, f3⟩ := hf
    have hne : ¬ sP σ p j - 1 = sN σ 0 := by omega
    rw [sAddC_C _ _ hne] at f2
    rw [sLen, hL _ hne, sAddC_C _ _ hne] at f3
    exact ⟨f1, f2, f3⟩
theorem inv_room {b : Nat} {σ : q_S} (h : Inv b σ) (c : Int32) : Inv (b + 10000) (opRoom σ c).2 := by
  have gd := good_room h.ok c
  unfold opRoom at gd ⊢
  by_cases e1 : ¬ (nI 1 ≤ c ∧ c ≤ nI 30)
  · rw [if_pos e1]; exact h.le (by omega)
  rw [if_neg e1] at gd ⊢
  by_cases e2 : sG σ 1 = 1
  · rw [if_pos e2]; exact h.le (by omega)
  rw [if_neg e2] at gd ⊢
  by_cases e3 : sN σ 1 = 5
  · rw [if_pos e3]; exact h.le (by omega)
  rw [if_neg e3] at gd ⊢
  have h0 := op0 h.ok e2
  obtain ⟨o1, o7, os⟩ := h.open0 h0
  obtain ⟨h1, h2, h3, h4, h5, h6, h7, h8, h9⟩ := h
  exact ⟨gd.1, h2, h3, h4.le (by omega), Nat.le_trans h5 (by omega), fun c hc => Or.inl (o1 c hc), h7, fun _ => ⟨fun c hc => (o1 c hc).1, fun p => os p⟩, fun z => by have z : sG σ 1 = 1 := z; omega⟩
theorem inv_term {b : Nat} {σ : q_S} (h : Inv b σ) (hb : b < 2 ^ 30) : Inv (b + 10000) (opTerm σ).2 := by
  have gd := good_term h.ok (Nat.lt_of_le_of_lt h.2.2.2.2.1 hb)
  unfold opTerm at gd ⊢
  by_cases e : sG σ 1 = 0
  · rw [if_pos e]; exact h.le (by omega)
  rw [if_neg e] at gd ⊢
  have hw := h.wf
  obtain ⟨h1, h2, h3, h4, h5, h6, h7, h8, h9⟩ := h
  have gk : sok (sterm σ) := gd.1
  have g10 : sG (sterm σ) 1 = 0 := rfl
  have gC : ∀ c j, sC (sterm σ) c j = if sC σ c 6 = 0 then sC σ c j else if j = 6 then 1 else if j = 7 ∨ j = 8 ∨ j = 9 then 0 else sC σ c j := fun _ _ => rfl
  have O : ∀ c, c < sN (sterm σ) 0 → sC (sterm σ) c 6 = 1 ∧ sC (sterm σ) c 7 = 0 ∧ sC (sterm σ) c 8 = 0 ∧ sC (sterm σ) c 9 = 0 := fun c hc => by
    have hc : c < sN σ 0 := hc
    have := hw.2.2.2.1 c hc
    have hne : ¬ sC σ c 6 = 0 := by omega
    rw [gC, gC, gC, gC, if_neg hne, if_neg hne, if_neg hne, if_neg hne]
    simp
  refine ⟨gk, fun p c hp => ?_, ?_, fun p => Nat.zero_le _, ?_, fun c hc => Or.inl (O c hc), fun c d z => absurd (gk.2.2.1 g10 c) z, fun _ => ⟨fun c hc => (O c hc).1, fun p => ?_⟩, fun z => by have z : (0 : Nat) = 1 := z; omega⟩
  · have hp : 0 = c + 1 := hp
    omega
  · have h3 : sG σ 2 = sG σ 3 + ssum (fun p => sP σ p 5) 30 + sG σ 4 := h3
    show sG σ 2 = sG σ 3 + ssum (fun _ => 0) 30 + (sG σ 4 + ssum (fun p => sP σ p 5) 30)
    rw [ssum_zero 30 (fun _ _ => rfl)]
    omega
  · show sG σ 0 + 1 ≤ b + 10000
    omega
  · exact if_pos rfl
/-- a closing, and what it counts -/
theorem inv_close1 {b : Nat} {σ : q_S} (h : Inv b σ) (h0 : sG σ 1 = 0) : Inv (b + 10000) (sclose σ) ∧ sG (sclose σ) 6 = sG σ 6 + nst (sclose σ) 4 ∧ sG (sclose σ) 7 = sG σ 7 + nst (sclose σ) 3 := by
  have hw := h.wf
  obtain ⟨o1, o7, os⟩ := h.open0 h0
  have z : ∀ s, (s = 3 ∨ s = 4) → nst σ s = 0 := fun s hs => ssum_zero 8 (fun c _ => by
    show (if sC σ c 6 = s then 1 else 0) = 0
    refine if_neg (fun e => ?_)
    rcases Nat.lt_or_ge c (sN σ 0) with q | q
    · have := (o1 c q).1; omega
    · have := (hw.2.2.1 c q).1; omega)
  have gs := sok_close h.ok h0
  obtain ⟨h1, h2, h3, h4, h5, h6, h7, h8, h9⟩ := h
  have m : Mid (sG σ 6) (sG σ 7) σ := ⟨hw, h2, h3, h6, by rw [z 4 (Or.inr rfl)]; rfl, by rw [z 3 (Or.inl rfl)]; rfl⟩
  obtain ⟨⟨a1, a2, a3, a4, a5, a6⟩, b1, b2⟩ := mid_close m o7
  have g1 : sG (sclose σ) 1 = 1 := by
    show f1 (sG (scls2 8 (scls1 8 σ))) 1 1 1 = 1
    exact f1_s
  have n8 := a1.B.1
  exact ⟨⟨gs.1, a2, a3, com_close hw h4, by rw [gs.2]; omega, a4, b1, fun z => by omega, fun _ c hc => b2 c (by omega)⟩, a5, a6⟩
theorem inv_close {b : Nat} {σ : q_S} (h : Inv b σ) : Inv (b + 10000) (opClose σ).2 := by
  unfold opClose
  split
  · exact h.le (by omega)
  · next e => exact (inv_close1 h (op0 h.ok e)).1
