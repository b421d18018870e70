/-! THE CALLS as functions of a season: what is answered, and the season behind it -/
abbrev isC (n : Nat) (x : Int32) : Prop := 0 ≤ x ∧ x < nI n
/-- a wish of a call: its class + 1, or 0 -/
def dcd (x : Int32) : Nat := if x = -1 then 0 else x.toNatClampNeg + 1
abbrev wokI (n : Nat) (x y z : Int32) : Prop := isC n x ∧ ((y = -1 ∧ z = -1) ∨ (¬ y = -1 ∧ isC n y ∧ ¬ y = x ∧ (z = -1 ∨ (isC n z ∧ ¬ z = x ∧ ¬ z = y))))
abbrev cokI (k l m f : Int32) : Prop := (nI 0 ≤ k ∧ k ≤ nI 79) ∧ (nI 1 ≤ l ∧ l ≤ nI 20) ∧ (l ≤ m ∧ m ≤ nI 20) ∧ (nI 0 ≤ f ∧ f ≤ nI 99)
theorem isC_iff {n : Nat} {x : Int32} (hn : n < 2 ^ 31) : isC n x ↔ ∃ c, c < n ∧ x = nI c := by
  constructor
  · rintro ⟨h1, h2⟩
    obtain ⟨j, hj, rfl⟩ := nI_of (Int32.not_lt.mpr h1)
    exact ⟨j, (nI_ltI hj hn).mp h2, rfl⟩
  · rintro ⟨c, hc, rfl⟩
    exact ⟨nI_pos' (by omega), (nI_ltI (by omega) hn).mpr hc⟩
theorem dcd_enc {w : Nat} (h : w < 2 ^ 31) : dcd (enc w) = w := by
  unfold dcd
  by_cases e : w = 0
  · subst e; rfl
  · rw [if_neg (fun z => e ((enc_m1 h).mp z)), enc, if_neg e, nI_clamp (by omega)]; omega
theorem dcd_nI {c : Nat} (h : c < 2 ^ 31 - 1) : dcd (nI c) = c + 1 := dcd_enc (w := c + 1) (by omega)
/-- a wish that stands is a number -/
theorem isC_dcd {n : Nat} {x : Int32} (hn : n < 2 ^ 31 - 1) (h : isC n x) : x = enc (dcd x) ∧ 1 ≤ dcd x ∧ dcd x ≤ n := by
  obtain ⟨c, hc, rfl⟩ := (isC_iff (by omega)).mp h
  rw [dcd_nI (by omega)]
  exact ⟨rfl, by omega, by omega⟩
theorem wok_dcd {n : Nat} {x y z : Int32} (hn : n < 2 ^ 31 - 1) (h : wokI n x y z) : (x = enc (dcd x) ∧ 1 ≤ dcd x ∧ dcd x ≤ n) ∧ (y = enc (dcd y) ∧ dcd y ≤ n) ∧ (z = enc (dcd z) ∧ dcd z ≤ n) ∧ (dcd y = 0 → dcd z = 0) := by
  obtain ⟨h1, h2⟩ := h
  refine ⟨isC_dcd hn h1, ?_⟩
  rcases h2 with ⟨rfl, rfl⟩ | ⟨h3, h4, h5, h6⟩
  · exact ⟨⟨rfl, Nat.zero_le _⟩, ⟨rfl, Nat.zero_le _⟩, fun _ => rfl⟩
  · have hy := isC_dcd hn h4
    refine ⟨⟨hy.1, hy.2.2⟩, ?_, fun q => by omega⟩
    rcases h6 with rfl | ⟨h7, -, -⟩
    · exact ⟨rfl, Nat.zero_le _⟩
    · have hz := isC_dcd hn h7
      exact ⟨hz.1, hz.2.2⟩
def sSetW (σ : q_S) (p a b c : Nat) : q_S := uP (uP (uP σ p 1 a) p 2 b) p 3 c
def sAddP (σ : q_S) (a b c : Nat) : q_S := uN (uP (sSetW σ (sN σ 2) a b c) (sN σ 2) 0 1) 2 (sN σ 2 + 1)
def sAddC (σ : q_S) (k l m f : Nat) : q_S := uN (uL (uC (uC (uC (uC (uC (uC (uC (uC (uC (uC σ (sN σ 0) 0 (k % 4)) (sN σ 0) 1 (k / 4 % 4)) (sN σ 0) 2 (k / 16)) (sN σ 0) 3 l) (sN σ 0) 4 m) (sN σ 0) 5 f) (sN σ 0) 6 1) (sN σ 0) 9 0) (sN σ 0) 8 0) (sN σ 0) 7 0) (sN σ 0) []) 0 (sN σ 0 + 1)
def sAddR (σ : q_S) (c : Nat) : q_S := uN (uR σ (sN σ 1) c) 1 (sN σ 1 + 1)
def sterm (σ : q_S) : q_S := (f1 (sN σ) 2 0, f1 (f1 (f1 (sG σ) 4 (sG σ 4 + ssum (fun p => sP σ p 5) 30)) 1 0) 0 (sG σ 0 + 1), fun c j => if sC σ c 6 = 0 then sC σ c j else if j = 6 then 1 else if j = 7 ∨ j = 8 ∨ j = 9 then 0 else sC σ c j, fun c => if sC σ c 6 = 0 then sL σ c else [], fun _ _ => 0, sR σ)
def opCourse (σ : q_S) (k l m f : Int32) : Int32 × q_S := if ¬ cokI k l m f then (-1000001, σ) else if sG σ 1 = 1 then (-1000002, σ) else if sN σ 0 = 8 then (-1000003, σ) else (nI (sN σ 0), sAddC σ k.toNatClampNeg l.toNatClampNeg m.toNatClampNeg f.toNatClampNeg)
def opRoom (σ : q_S) (c : Int32) : Int32 × q_S := if ¬ (nI 1 ≤ c ∧ c ≤ nI 30) then (-1000001, σ) else if sG σ 1 = 1 then (-1000002, σ) else if sN σ 1 = 5 then (-1000003, σ) else (nI (sN σ 1), sAddR σ c.toNatClampNeg)
def opJoin (σ : q_S) (x y z : Int32) : Int32 × q_S := if ¬ wokI (sN σ 0) x y z then (-1000001, σ) else if sG σ 1 = 1 then (-1000002, σ) else if sN σ 2 = 30 then (-1000003, σ) else (nI (sN σ 2), sset 1000 (sAddP σ (dcd x) (dcd y) (dcd z)))
def opWish (σ : q_S) (p x y z : Int32) : Int32 × q_S := if ¬ isC (sN σ 2) p ∨ ¬ wokI (sN σ 0) x y z then (-1000001, σ) else if sG σ 1 = 1 ∨ sP σ p.toNatClampNeg 0 = 0 then (-1000002, σ) else (nI (srank (sset 1000 (sSetW σ p.toNatClampNeg (dcd x) (dcd y) (dcd z))) p.toNatClampNeg), sset 1000 (sSetW σ p.toNatClampNeg (dcd x) (dcd y) (dcd z)))
def opLeave (σ : q_S) (p : Int32) : Int32 × q_S := if ¬ isC (sN σ 2) p then (-1000001, σ) else if sG σ 1 = 1 ∨ sP σ p.toNatClampNeg 0 = 0 then (-1000002, σ) else (nI (sP σ p.toNatClampNeg 5), sset 1000 (uP (sout σ p.toNatClampNeg) p.toNatClampNeg 0 0))
def opClose (σ : q_S) : Int32 × q_S := if sG σ 1 = 1 then (-1000002, σ) else (nI (bcnt 8 (sbits (fun c => decide (sC (sclose σ) c 6 = 2)) 8)), sclose σ)
def opTerm (σ : q_S) : Int32 × q_S := if sG σ 1 = 0 then (-1000002, σ) else (nI (sG σ 0 + 1), sterm σ)
theorem WFc.setW {σ : q_S} (h : WFc σ) {p a b c : Nat} (hp : p < sN σ 2) (ha : 1 ≤ a ∧ a ≤ sN σ 0) (hb : b ≤ sN σ 0) (hc : c ≤ sN σ 0) (hbc : b = 0 → c = 0) : WFc (sSetW σ p a b c) := by
  obtain ⟨hB, h2, h3, h4, h5, h6, h7, h8⟩ := id h
  have e4 : ∀ q j, (j = 0 ∨ 4 ≤ j) → f2 (f2 (f2 (sP σ) p 1 a) p 2 b) p 3 c q j = sP σ q j := by
    intro q j hj
    rw [f2_n (fun z => by omega), f2_n (fun z => by omega), f2_n (fun z => by omega)]
  refine ⟨hB, h2, h3, h4, fun q => ?_, fun q hq j => ?_, fun i => ⟨(h7 i).1, fun q => ?_⟩, h8⟩
  · by_cases e : q = p
    · subst e
      obtain ⟨a1, a2, a3, a4, a5, a6, a7, a8, a9, a10⟩ := h5 q
      refine ⟨?_, ?_, ?_, ?_, ?_, ?_, ?_, ?_, ?_, ?_⟩ <;> simp only [sSetW, sP_mk, sN_mk, f2] <;> simp <;> first | assumption | omega
    · have e1 : f2 (f2 (f2 (sP σ) p 1 a) p 2 b) p 3 c q = sP σ q := by
        funext j
        rw [f2_n (fun z => e z.1), f2_n (fun z => e z.1), f2_n (fun z => e z.1)]
      have := h5 q
      unfold prg at this ⊢
      rw [sSetW, sP_mk, sN_mk, sP_mk, sP_mk, sN_mk, sN_mk, e1]
      exact this
  · have hq : sN σ 2 ≤ q := hq
    show f2 (f2 (f2 (sP σ) p 1 a) p 2 b) p 3 c q j = 0
    rw [f2_n (fun z => by omega), f2_n (fun z => by omega), f2_n (fun z => by omega)]
    exact h6 q hq j
  · show q ∈ sL σ i ↔ f2 (f2 (f2 (sP σ) p 1 a) p 2 b) p 3 c q 4 = i + 1
    rw [e4 q 4 (Or.inr (by omega))]
    exact h.mem
theorem WFc.addP {σ : q_S} (h : WFc σ) {a b c : Nat} (hP : sN σ 2 < 30) (ha : 1 ≤ a ∧ a ≤ sN σ 0) (hb : b ≤ sN σ 0) (hc : c ≤ sN σ 0) (hbc : b = 0 → c = 0) : WFc (sAddP σ a b c) := by
  obtain ⟨hB, h2, h3, h4, h5, h6, h7, h8⟩ := id h
  have hz := h6 (sN σ 2) (Nat.le_refl _)
  generalize hp : sN σ 2 = p at hz
  have eP : sP (sAddP σ a b c) = f2 (f2 (f2 (f2 (sP σ) p 1 a) p 2 b) p 3 c) p 0 1 := by rw [← hp]; rfl
  have eN : sN (sAddP σ a b c) = f1 (sN σ) 2 (p + 1) := by rw [← hp]; rfl
  have eN0 : sN (sAddP σ a b c) 0 = sN σ 0 := by rw [eN]; exact f1_n (by omega)
  have eN1 : sN (sAddP σ a b c) 1 = sN σ 1 := by rw [eN]; exact f1_n (by omega)
  have eN2 : sN (sAddP σ a b c) 2 = p + 1 := by rw [eN]; exact f1_s
  have e4 : ∀ q j, 4 ≤ j → sP (sAddP σ a b c) q j = sP σ q j := by
    intro q j hj
    rw [eP, f2_n (fun z => by omega), f2_n (fun z => by omega), f2_n (fun z => by omega), f2_n (fun z => by omega)]
  have en : ∀ q, ¬ q = p → sP (sAddP σ a b c) q = sP σ q := by
    intro q e
    funext j
    rw [eP, f2_n (fun z => e z.1), f2_n (fun z => e z.1), f2_n (fun z => e z.1), f2_n (fun z => e z.1)]
  refine ⟨⟨by rw [eN0]; exact hB.1, by rw [eN1]; exact hB.2.1, by rw [eN2]; omega, hB.2.2.2⟩, h2, fun i hi => h3 i (by rw [eN0] at hi; exact hi), fun i hi => h4 i (by rw [eN0] at hi; exact hi), fun q => ?_, fun q hq j => ?_, fun i => ⟨(h7 i).1, fun q => ?_⟩, h8⟩
  · by_cases e : q = p
    · subst e
      unfold prg
      rw [eN0, eN2, eP]
      refine ⟨?_, ?_, ?_, ?_, ?_, ?_, ?_, ?_, ?_, ?_⟩ <;> simp [f2, hz] <;> first | assumption | omega
    · obtain ⟨a1, a2, a3, a4, a5, a6, a7, a8, a9, a10⟩ := h5 q
      unfold prg
      rw [eN0, eN2, en q e]
      refine ⟨a1, a2, a3, a4, a5, a6, a7, a8, a9, fun z => ?_⟩
      exact a10 (by omega)
  · rw [eN2] at hq
    rw [en q (by omega)]
    exact h6 q (by omega) j
  · rw [e4 q 4 (by omega)]
    exact h.mem
