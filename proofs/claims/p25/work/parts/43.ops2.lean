/-! the calls' seasons -/
/-- what holds of a call's answer and season -/
def good (σ : q_S) (r : Int32 × q_S) : Prop := sok r.2 ∧ sG r.2 0 ≤ sG σ 0 + 1 ∧ (r.1 < 0 → r.2 = σ)
theorem nn {k : Nat} (h : k < 2 ^ 31) : ¬ nI k < 0 := Int32.not_lt.mpr (nI_pos' h)
theorem good_err {σ : q_S} (h : sok σ) (x : Int32) : good σ (x, σ) := ⟨h, Nat.le_succ _, fun _ => rfl⟩
theorem good_ok {σ τ : q_S} {k : Nat} (h : sok τ) (hk : k < 2 ^ 31) (hG : sG τ 0 ≤ sG σ 0 + 1) : good σ (nI k, τ) := ⟨h, hG, fun z => absurd z (nn hk)⟩
theorem op0 {σ : q_S} (h : sok σ) (h1 : ¬ sG σ 1 = 1) : sG σ 1 = 0 := by have := h.2.1; omega
theorem good_course {σ : q_S} (h : sok σ) (k l m f : Int32) : good σ (opCourse σ k l m f) := by
  unfold opCourse
  by_cases c1 : cokI k l m f
  case neg => rw [if_pos c1]; exact good_err h _
  rw [if_neg (fun z => z c1)]
  by_cases c2 : sG σ 1 = 1
  · rw [if_pos c2]; exact good_err h _
  rw [if_neg c2]
  by_cases c3 : sN σ 0 = 8
  · rw [if_pos c3]; exact good_err h _
  rw [if_neg c3]
  have h8 := h.1.B.1
  obtain ⟨q1, q2, q3, q4⟩ := c1
  obtain ⟨k, hk, rfl⟩ := in_nat (l := nI 0) (by omega) (by decide) q1
  obtain ⟨l, hl, rfl⟩ := in_nat (l := nI 1) (by omega) (by decide) q2
  obtain ⟨m, hm, rfl⟩ := in_nat (l := nI l) (by omega) (nn (by omega)) q3
  obtain ⟨f, hf, rfl⟩ := in_nat (l := nI 0) (by omega) (by decide) q4
  have hlm : l ≤ m := by
    rcases Nat.lt_or_ge m l with z | z
    · exact absurd ((nI_ltI (by omega) (by omega)).mpr z) (Int32.not_lt.mpr q3.1)
    · exact z
  rw [nI_clamp (by omega), nI_clamp (by omega), nI_clamp (by omega), nI_clamp (by omega)]
  refine good_ok (sok_open h (h.1.addC (by omega) hk hlm hm hf) rfl (op0 h c2) (fun c => ?_)) (by omega) (Nat.le_succ _)
  have e := h.2.2.1 (op0 h c2) c
  show f2 (f2 (f2 (f2 (f2 (f2 (f2 (f2 (f2 (f2 (sC σ) (sN σ 0) 0 (k % 4)) (sN σ 0) 1 (k / 4 % 4)) (sN σ 0) 2 (k / 16)) (sN σ 0) 3 l) (sN σ 0) 4 m) (sN σ 0) 5 f) (sN σ 0) 6 1) (sN σ 0) 9 0) (sN σ 0) 8 0) (sN σ 0) 7 0 c 7 = sC σ c 7
  simp only [f2_or]
  by_cases e2 : c = sN σ 0
  · subst e2; simp [e]
  · simp [e2]
theorem good_room {σ : q_S} (h : sok σ) (c : Int32) : good σ (opRoom σ c) := by
  unfold opRoom
  by_cases c1 : nI 1 ≤ c ∧ c ≤ nI 30
  case neg => rw [if_pos c1]; exact good_err h _
  rw [if_neg (fun z => z c1)]
  by_cases c2 : sG σ 1 = 1
  · rw [if_pos c2]; exact good_err h _
  rw [if_neg c2]
  by_cases c3 : sN σ 1 = 5
  · rw [if_pos c3]; exact good_err h _
  rw [if_neg c3]
  have h8 := h.1.B.2.1
  obtain ⟨k, hk, rfl⟩ := in_nat (l := nI 1) (by omega) (by decide) c1
  rw [nI_clamp (by omega)]
  exact good_ok (sok_open h (h.1.addR (by omega) hk) rfl (op0 h c2) (fun c => rfl)) (by omega) (Nat.le_succ _)
theorem good_join {σ : q_S} (h : sok σ) (x y z : Int32) : good σ (opJoin σ x y z) := by
  unfold opJoin
  have h8 := h.1.B.1
  have h30 := h.1.B.2.2.1
  by_cases c1 : wokI (sN σ 0) x y z
  case neg => rw [if_pos c1]; exact good_err h _
  rw [if_neg (fun z => z c1)]
  by_cases c2 : sG σ 1 = 1
  · rw [if_pos c2]; exact good_err h _
  rw [if_neg c2]
  by_cases c3 : sN σ 2 = 30
  · rw [if_pos c3]; exact good_err h _
  rw [if_neg c3]
  obtain ⟨w1, w2, w3, w4⟩ := wok_dcd (by omega) c1
  have hw := (h.1.addP (a := dcd x) (b := dcd y) (c := dcd z) (by omega) w1.2 w2.2 w3.2 w4).set 1000
  refine good_ok (sok_open h hw ?_ (op0 h c2) (fun c => sset_7 1000 _ c)) (by omega) ?_
  · exact sset_G (by omega) (by omega) (by omega) _ _
  · rw [sset_G (by omega) (by omega) (by omega)]; exact Nat.le_succ _
theorem good_wish {σ : q_S} (h : sok σ) (p x y z : Int32) : good σ (opWish σ p x y z) := by
  unfold opWish
  have h8 := h.1.B.1
  have h30 := h.1.B.2.2.1
  by_cases c1 : isC (sN σ 2) p
  case neg => rw [if_pos (Or.inl c1)]; exact good_err h _
  by_cases c2 : wokI (sN σ 0) x y z
  case neg => rw [if_pos (Or.inr c2)]; exact good_err h _
  rw [if_neg (fun z => z.elim (fun z => z c1) (fun z => z c2))]
  by_cases c3 : sG σ 1 = 1 ∨ sP σ p.toNatClampNeg 0 = 0
  · rw [if_pos c3]; exact good_err h _
  rw [if_neg c3]
  obtain ⟨i, hi, rfl⟩ := (isC_iff (by omega)).mp c1
  rw [nI_clamp (by omega)] at c3 ⊢
  have c4 : ¬ sG σ 1 = 1 := fun z => c3 (Or.inl z)
  obtain ⟨w1, w2, w3, w4⟩ := wok_dcd (by omega) c2
  have hw := (h.1.setW (p := i) (a := dcd x) (b := dcd y) (c := dcd z) hi w1.2 w2.2 w3.2 w4).set 1000
  refine good_ok (sok_open h hw ?_ (op0 h c4) (fun c => sset_7 1000 _ c)) (by have := srank_le (sset 1000 (sSetW σ i (dcd x) (dcd y) (dcd z))) i; omega) ?_
  · exact sset_G (by omega) (by omega) (by omega) _ _
  · rw [sset_G (by omega) (by omega) (by omega)]; exact Nat.le_succ _
theorem good_leave {σ : q_S} (h : sok σ) (p : Int32) : good σ (opLeave σ p) := by
  unfold opLeave
  have h30 := h.1.B.2.2.1
  by_cases c1 : isC (sN σ 2) p
  case neg => rw [if_pos c1]; exact good_err h _
  rw [if_neg (fun z => z c1)]
  by_cases c3 : sG σ 1 = 1 ∨ sP σ p.toNatClampNeg 0 = 0
  · rw [if_pos c3]; exact good_err h _
  rw [if_neg c3]
  obtain ⟨i, hi, rfl⟩ := (isC_iff (by omega)).mp c1
  rw [nI_clamp (by omega)] at c3 ⊢
  have c4 : ¬ sG σ 1 = 1 := fun z => c3 (Or.inl z)
  have hw := (h.1.leave i).set 1000
  have hp := (h.1.pr i).2.2.2.2.2.1
  refine good_ok (sok_open h hw ?_ (op0 h c4) (fun c => ?_)) (by omega) ?_
  · rw [sset_G (by omega) (by omega) (by omega)]
    exact sout_G (by omega)
  · rw [sset_7]
    show sC (sout σ i) c 7 = sC σ c 7
    rw [sout_C]
  · rw [sset_G (by omega) (by omega) (by omega)]
    show sG (sout σ i) 0 ≤ _
    rw [sout_G (by omega)]; exact Nat.le_succ _
theorem bcnt_le : ∀ d s, bcnt d s ≤ d := by
  intro d
  induction d with
  | zero => intro s; exact Nat.le_refl _
  | succ d ih =>
    intro s
    rw [bcnt]
    have := ih (s / 2)
    omega
theorem good_close {σ : q_S} (h : sok σ) : good σ (opClose σ) := by
  unfold opClose
  by_cases c2 : sG σ 1 = 1
  · rw [if_pos c2]; exact good_err h _
  rw [if_neg c2]
  obtain ⟨h1, h2⟩ := sok_close h (op0 h c2)
  exact good_ok h1 (by have := bcnt_le 8 (sbits (fun c => decide (sC (sclose σ) c 6 = 2)) 8); omega) (by omega)
theorem good_term {σ : q_S} (h : sok σ) (hn : sG σ 0 < 2 ^ 30) : good σ (opTerm σ) := by
  unfold opTerm
  by_cases c2 : sG σ 1 = 0
  · rw [if_pos c2]; exact good_err h _
  rw [if_neg c2]
  obtain ⟨h1, h2⟩ := sok_term h
  exact good_ok h1 (by omega) (by omega)
