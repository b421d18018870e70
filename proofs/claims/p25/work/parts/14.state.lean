/-! A SEASON, as numbers and lists; how it stands in the class's cells and in the reference's row -/
abbrev q_S : Type := (Nat → Nat) × (Nat → Nat) × (Nat → Nat → Nat) × (Nat → List Nat) × (Nat → Nat → Nat) × (Nat → Nat)
/-- 0 classes, 1 rooms, 2 people: how many -/
abbrev sN (σ : q_S) : Nat → Nat := σ.1
/-- 0 number, 1 closed, 2 paid, 3 paid back, 4 paid in terms that are over, 5 settlings, 6 mergings, 7 cancellings -/
abbrev sG (σ : q_S) : Nat → Nat := σ.2.1
/-- of a class: 0 subject, 1 level, 2 evening, 3 least, 4 most, 5 fee, 6 state + 1, 7 room + 1, 8 into + 1, 9 why -/
abbrev sC (σ : q_S) : Nat → Nat → Nat := σ.2.2.1
/-- its people, in order -/
abbrev sL (σ : q_S) : Nat → List Nat := σ.2.2.2.1
/-- of a person: 0 here, 1 to 3 wishes + 1, 4 class + 1, 5 paid, 6 comings -/
abbrev sP (σ : q_S) : Nat → Nat → Nat := σ.2.2.2.2.1
abbrev sR (σ : q_S) : Nat → Nat := σ.2.2.2.2.2
def f1 {α : Type} (f : Nat → α) (j : Nat) (v : α) : Nat → α := fun i => if i = j then v else f i
def f2 {α : Type} (f : Nat → Nat → α) (c j : Nat) (v : α) : Nat → Nat → α := fun d i => if d = c ∧ i = j then v else f d i
abbrev uN (σ : q_S) (j v : Nat) : q_S := (f1 (sN σ) j v, sG σ, sC σ, sL σ, sP σ, sR σ)
abbrev uG (σ : q_S) (j v : Nat) : q_S := (sN σ, f1 (sG σ) j v, sC σ, sL σ, sP σ, sR σ)
abbrev uC (σ : q_S) (c j v : Nat) : q_S := (sN σ, sG σ, f2 (sC σ) c j v, sL σ, sP σ, sR σ)
abbrev uL (σ : q_S) (c : Nat) (l : List Nat) : q_S := (sN σ, sG σ, sC σ, f1 (sL σ) c l, sP σ, sR σ)
abbrev uP (σ : q_S) (p j v : Nat) : q_S := (sN σ, sG σ, sC σ, sL σ, f2 (sP σ) p j v, sR σ)
abbrev uR (σ : q_S) (r v : Nat) : q_S := (sN σ, sG σ, sC σ, sL σ, sP σ, f1 (sR σ) r v)
theorem f1_s {α : Type} {f : Nat → α} {j : Nat} {v : α} : f1 f j v j = v := if_pos rfl
theorem f1_n {α : Type} {f : Nat → α} {j i : Nat} {v : α} (h : ¬ i = j) : f1 f j v i = f i := if_neg h
theorem f2_s {α : Type} {f : Nat → Nat → α} {c j : Nat} {v : α} : f2 f c j v c j = v := if_pos ⟨rfl, rfl⟩
theorem f2_n {α : Type} {f : Nat → Nat → α} {c j d i : Nat} {v : α} (h : ¬ (d = c ∧ i = j)) : f2 f c j v d i = f d i := if_neg h
/-- a number that may be none -/
def enc (v : Nat) : Int32 := if v = 0 then -1 else nI (v - 1)
theorem enc_0 : enc 0 = -1 := rfl
theorem enc_s (v : Nat) : enc (v + 1) = nI v := rfl
def cenc (j v : Nat) : Int32 := if 6 ≤ j ∧ j ≤ 8 then enc v else nI v
def penc (j v : Nat) : Int32 := if 1 ≤ j ∧ j ≤ 4 then enc v else nI v
def cslot (j : Nat) : Nat := if j < 7 then j + 2 else if j = 7 then 11 else if j = 8 then 10 else 9
def pslot (j : Nat) : Nat := if j = 0 then 1 else if j = 1 then 5 else if j = 2 then 6 else if j = 3 then 7 else if j = 4 then 2 else if j = 5 then 3 else 4
def nslot (j : Nat) : Nat := if j = 0 then 3 else if j = 1 then 5 else 4
def mslot (j : Nat) : Nat := if j = 0 then 0 else if j = 1 then 329 else 335
theorem cslot_inj : ∀ j, j < 10 → ∀ i, i < 10 → cslot i = cslot j → i = j := by decide
theorem pslot_inj : ∀ j, j < 7 → ∀ i, i < 7 → pslot i = pslot j → i = j := by decide
theorem nslot_inj : ∀ j, j < 3 → ∀ i, i < 3 → nslot i = nslot j → i = j := by decide
theorem mslot_inj : ∀ j, j < 3 → ∀ i, i < 3 → mslot i = mslot j → i = j := by decide
theorem cslot_lt : ∀ j, j < 10 → 2 ≤ cslot j ∧ cslot j < 12 := by decide
theorem pslot_lt : ∀ j, j < 7 → 1 ≤ pslot j ∧ pslot j < 8 := by decide
theorem nslot_lt : ∀ j, j < 3 → 3 ≤ nslot j ∧ nslot j < 6 := by decide
/-- the class's season at b -/
def RC (b : Nat) (I : q_Mem) (σ : q_S) : Prop :=
  (∀ j, j < 3 → I b (nslot j) = nI (sN σ j)) ∧ (∀ j, j < 8 → I b (6 + j) = nI (sG σ j)) ∧ (∀ c, c < 8 → ∀ j, j < 10 → I (b + 4 + 2 * c) (cslot j) = cenc j (sC σ c j)) ∧
  (∀ c, c < 8 → I (b + 4 + 2 * c) 12 = nI (sL σ c).length) ∧ (∀ c, c < 8 → ∀ r v, (sL σ c)[r]? = some v → I (b + 5 + 2 * c) r = nI v) ∧
  (∀ p, p < 30 → ∀ j, j < 7 → I (b + 20 + p) (pslot j) = penc j (sP σ p j)) ∧ (∀ r, r < 5 → I (b + 3) r = nI (sR σ r)) ∧
  (∀ c, c < 8 → I (b + 4 + 2 * c) 0 = nI c) ∧ (∀ p, p < 30 → I (b + 20 + p) 0 = nI p)
/-- the reference's season in the row a from the place o on -/
def RM (a o : Nat) (I : q_Mem) (σ : q_S) : Prop :=
  (∀ j, j < 3 → I a (o + mslot j) = nI (sN σ j)) ∧ (∀ j, j < 8 → I a (o + 546 + j) = nI (sG σ j)) ∧ (∀ c, c < sN σ 0 → ∀ j, j < 10 → I a (o + 1 + 41 * c + j) = cenc j (sC σ c j)) ∧
  (∀ c, c < sN σ 0 → I a (o + 1 + 41 * c + 10) = nI (sL σ c).length) ∧ (∀ c, c < sN σ 0 → ∀ r v, (sL σ c)[r]? = some v → I a (o + 1 + 41 * c + 11 + r) = nI v) ∧
  (∀ p, p < sN σ 2 → ∀ j, j < 7 → I a (o + 336 + 7 * p + j) = penc j (sP σ p j)) ∧ (∀ r, r < sN σ 1 → I a (o + 330 + r) = nI (sR σ r))
/-- nothing outside the season at b has changed -/
def FC (b : Nat) (I J : q_Mem) : Prop := ∀ a, (a < b ∨ b + 50 ≤ a) → J a = I a
/-- nothing outside the row a has changed -/
def FM (a : Nat) (I J : q_Mem) : Prop := ∀ i, i ≠ a → J i = I i
theorem FC.rf {b : Nat} {I : q_Mem} : FC b I I := fun _ _ => rfl
theorem FC.tr {b : Nat} {I J K : q_Mem} (h : FC b I J) (h2 : FC b J K) : FC b I K := fun a ha => (h2 a ha).trans (h a ha)
theorem FC.up {b a j : Nat} {I J : q_Mem} {x : Int32} (h : FC b I J) (h1 : b ≤ a) (h2 : a < b + 50) : FC b I (q_up J a j x) := by
  intro i hi
  rw [← h i hi]
  funext j'
  exact if_neg (fun q => by omega)
theorem FM.rf {b : Nat} {I : q_Mem} : FM b I I := fun _ _ => rfl
theorem FM.tr {b : Nat} {I J K : q_Mem} (h : FM b I J) (h2 : FM b J K) : FM b I K := fun a ha => (h2 a ha).trans (h a ha)
theorem FM.up {a j : Nat} {I J : q_Mem} {x : Int32} (h : FM a I J) : FM a I (q_up J a j x) := by
  intro i hi
  rw [← h i hi]
  funext j'
  exact if_neg (fun q => hi q.1)
theorem q_up_n {I : q_Mem} {a j a' j' : Nat} {x : Int32} (h : ¬ (a' = a ∧ j' = j)) : q_up I a j x a' j' = I a' j' := if_neg h
theorem q_up_s {I : q_Mem} {a j : Nat} {x : Int32} : q_up I a j x a j = x := if_pos ⟨rfl, rfl⟩
/-! changes of the class's season -/
theorem RC.N {b j v : Nat} {I : q_Mem} {σ : q_S} {x : Int32} (h : RC b I σ) (hj : j < 3) (hx : x = nI v) : RC b (q_up I b (nslot j) x) (uN σ j v) := by
  obtain ⟨h1, h2, h3, h4, h5, h6, h7, h8, h9⟩ := h
  have hs := nslot_lt j hj
  refine ⟨fun i hi => ?_, fun i hi => ?_, fun c hc i hi => ?_, fun c hc => ?_, fun c hc r v hr => ?_, fun p hp i hi => ?_, fun r hr => ?_, fun c hc => ?_, fun p hp => ?_⟩
  · by_cases e : i = j
    · subst e; rw [q_up_s, hx]; exact congrArg nI f1_s.symm
    · rw [q_up_n (fun q => e (nslot_inj j hj i hi q.2)), h1 i hi]; exact congrArg nI (f1_n e).symm
  · rw [q_up_n (fun q => by omega)]; exact h2 i hi
  · rw [q_up_n (fun q => by omega)]; exact h3 c hc i hi
  · rw [q_up_n (fun q => by omega)]; exact h4 c hc
  · rw [q_up_n (fun q => by omega)]; exact h5 c hc r v hr
  · rw [q_up_n (fun q => by omega)]; exact h6 p hp i hi
  · rw [q_up_n (fun q => by omega)]; exact h7 r hr
  · rw [q_up_n (fun q => by omega)]; exact h8 c hc
  · rw [q_up_n (fun q => by omega)]; exact h9 p hp
theorem RC.G {b j v : Nat} {I : q_Mem} {σ : q_S} {x : Int32} (h : RC b I σ) (hj : j < 8) (hx : x = nI v) : RC b (q_up I b (6 + j) x) (uG σ j v) := by
  obtain ⟨h1, h2, h3, h4, h5, h6, h7, h8, h9⟩ := h
  refine ⟨fun i hi => ?_, fun i hi => ?_, fun c hc i hi => ?_, fun c hc => ?_, fun c hc r v hr => ?_, fun p hp i hi => ?_, fun r hr => ?_, fun c hc => ?_, fun p hp => ?_⟩
  · have hs := nslot_lt i hi
    rw [q_up_n (fun q => by omega)]; exact h1 i hi
  · by_cases e : i = j
    · subst e; rw [q_up_s, hx]; exact congrArg nI f1_s.symm
    · rw [q_up_n (fun q => by omega), h2 i hi]; exact congrArg nI (f1_n e).symm
  · rw [q_up_n (fun q => by omega)]; exact h3 c hc i hi
  · rw [q_up_n (fun q => by omega)]; exact h4 c hc
  · rw [q_up_n (fun q => by omega)]; exact h5 c hc r v hr
  · rw [q_up_n (fun q => by omega)]; exact h6 p hp i hi
  · rw [q_up_n (fun q => by omega)]; exact h7 r hr
  · rw [q_up_n (fun q => by omega)]; exact h8 c hc
  · rw [q_up_n (fun q => by omega)]; exact h9 p hp
theorem RC.C {b c j v : Nat} {I : q_Mem} {σ : q_S} {x : Int32} (h : RC b I σ) (hc : c < 8) (hj : j < 10) (hx : x = cenc j v) : RC b (q_up I (b + 4 + 2 * c) (cslot j) x) (uC σ c j v) := by
  obtain ⟨h1, h2, h3, h4, h5, h6, h7, h8, h9⟩ := h
  have hs := cslot_lt j hj
  refine ⟨fun i hi => ?_, fun i hi => ?_, fun d hd i hi => ?_, fun d hd => ?_, fun d hd r v hr => ?_, fun p hp i hi => ?_, fun r hr => ?_, fun d hd => ?_, fun p hp => ?_⟩
  · rw [q_up_n (fun q => by omega)]; exact h1 i hi
  · rw [q_up_n (fun q => by omega)]; exact h2 i hi
  · by_cases e : d = c ∧ i = j
    · obtain ⟨rfl, rfl⟩ := e; rw [q_up_s, hx]; exact congrArg (cenc i) f2_s.symm
    · rw [q_up_n (fun q => e ⟨by omega, cslot_inj j hj i hi q.2⟩), h3 d hd i hi]; exact congrArg (cenc i) (f2_n e).symm
  · rw [q_up_n (fun q => by omega)]; exact h4 d hd
  · rw [q_up_n (fun q => by omega)]; exact h5 d hd r v hr
  · rw [q_up_n (fun q => by omega)]; exact h6 p hp i hi
  · rw [q_up_n (fun q => by omega)]; exact h7 r hr
  · rw [q_up_n (fun q => by omega)]; exact h8 d hd
  · rw [q_up_n (fun q => by omega)]; exact h9 p hp
theorem RC.P {b p j v : Nat} {I : q_Mem} {σ : q_S} {x : Int32} (h : RC b I σ) (hp : p < 30) (hj : j < 7) (hx : x = penc j v) : RC b (q_up I (b + 20 + p) (pslot j) x) (uP σ p j v) := by
  obtain ⟨h1, h2, h3, h4, h5, h6, h7, h8, h9⟩ := h
  have hs := pslot_lt j hj
  refine ⟨fun i hi => ?_, fun i hi => ?_, fun d hd i hi => ?_, fun d hd => ?_, fun d hd r v hr => ?_, fun d hd i hi => ?_, fun r hr => ?_, fun d hd => ?_, fun d hd => ?_⟩
  · rw [q_up_n (fun q => by omega)]; exact h1 i hi
  · rw [q_up_n (fun q => by omega)]; exact h2 i hi
  · rw [q_up_n (fun q => by omega)]; exact h3 d hd i hi
  · rw [q_up_n (fun q => by omega)]; exact h4 d hd
  · rw [q_up_n (fun q => by omega)]; exact h5 d hd r v hr
  · by_cases e : d = p ∧ i = j
    · obtain ⟨rfl, rfl⟩ := e; rw [q_up_s, hx]; exact congrArg (penc i) f2_s.symm
    · rw [q_up_n (fun q => e ⟨by omega, pslot_inj j hj i hi q.2⟩), h6 d hd i hi]; exact congrArg (penc i) (f2_n e).symm
  · rw [q_up_n (fun q => by omega)]; exact h7 r hr
  · rw [q_up_n (fun q => by omega)]; exact h8 d hd
  · rw [q_up_n (fun q => by omega)]; exact h9 d hd
theorem RC.R {b r v : Nat} {I : q_Mem} {σ : q_S} {x : Int32} (h : RC b I σ) (hr : r < 5) (hx : x = nI v) : RC b (q_up I (b + 3) r x) (uR σ r v) := by
  obtain ⟨h1, h2, h3, h4, h5, h6, h7, h8, h9⟩ := h
  refine ⟨fun i hi => ?_, fun i hi => ?_, fun d hd i hi => ?_, fun d hd => ?_, fun d hd r v hr => ?_, fun d hd i hi => ?_, fun i hi => ?_, fun d hd => ?_, fun d hd => ?_⟩
  · rw [q_up_n (fun q => by omega)]; exact h1 i hi
  · rw [q_up_n (fun q => by omega)]; exact h2 i hi
  · rw [q_up_n (fun q => by omega)]; exact h3 d hd i hi
  · rw [q_up_n (fun q => by omega)]; exact h4 d hd
  · rw [q_up_n (fun q => by omega)]; exact h5 d hd r v hr
  · rw [q_up_n (fun q => by omega)]; exact h6 d hd i hi
  · by_cases e : i = r
    · subst e; rw [q_up_s, hx]; exact congrArg nI f1_s.symm
    · rw [q_up_n (fun q => e q.2), h7 i hi]; exact congrArg nI (f1_n e).symm
  · rw [q_up_n (fun q => by omega)]; exact h8 d hd
  · rw [q_up_n (fun q => by omega)]; exact h9 d hd
/-- a class's people anew: a row of members and its size -/
theorem RC.L {b c : Nat} {l : List Nat} {I J : q_Mem} {σ : q_S} (h : RC b I σ) (hc : c < 8) (hs : J (b + 4 + 2 * c) 12 = nI l.length) (hm : ∀ r v, l[r]? = some v → J (b + 5 + 2 * c) r = nI v)
    (ho : ∀ a j, ¬ (a = b + 5 + 2 * c) → ¬ (a = b + 4 + 2 * c ∧ j = 12) → J a j = I a j) : RC b J (uL σ c l) := by
  obtain ⟨h1, h2, h3, h4, h5, h6, h7, h8, h9⟩ := h
  refine ⟨fun i hi => ?_, fun i hi => ?_, fun d hd i hi => ?_, fun d hd => ?_, fun d hd r v hr => ?_, fun d hd i hi => ?_, fun i hi => ?_, fun d hd => ?_, fun d hd => ?_⟩
  · rw [ho _ _ (fun q => by omega) (fun q => by omega)]; exact h1 i hi
  · rw [ho _ _ (fun q => by omega) (fun q => by omega)]; exact h2 i hi
  · have hs := cslot_lt i hi
    rw [ho _ _ (fun q => by omega) (fun q => by omega)]; exact h3 d hd i hi
  · by_cases e : d = c
    · subst e; rw [hs]; exact congrArg (fun l => nI (List.length l)) f1_s.symm
    · rw [ho _ _ (fun q => by omega) (fun q => by omega), h4 d hd]; exact congrArg (fun l => nI (List.length l)) (f1_n e).symm
  · by_cases e : d = c
    · subst e
      have hr : (f1 (sL σ) d l d)[r]? = some v := hr
      rw [f1_s] at hr
      exact hm r v hr
    · have hr : (f1 (sL σ) c l d)[r]? = some v := hr
      rw [f1_n e] at hr
      rw [ho _ _ (fun q => by omega) (fun q => by omega)]; exact h5 d hd r v hr
  · rw [ho _ _ (fun q => by omega) (fun q => by omega)]; exact h6 d hd i hi
  · rw [ho _ _ (fun q => by omega) (fun q => by omega)]; exact h7 i hi
  · rw [ho _ _ (fun q => by omega) (fun q => by omega)]; exact h8 d hd
  · rw [ho _ _ (fun q => by omega) (fun q => by omega)]; exact h9 d hd
theorem RC.fr {b : Nat} {I J : q_Mem} {σ : q_S} (h : RC b I σ) (hf : ∀ a, b ≤ a → a < b + 50 → J a = I a) : RC b J σ := by
  obtain ⟨h1, h2, h3, h4, h5, h6, h7, h8, h9⟩ := h
  exact ⟨fun i hi => by rw [hf _ (by omega) (by omega)]; exact h1 i hi, fun i hi => by rw [hf _ (by omega) (by omega)]; exact h2 i hi, fun d hd i hi => by rw [hf _ (by omega) (by omega)]; exact h3 d hd i hi, fun d hd => by rw [hf _ (by omega) (by omega)]; exact h4 d hd, fun d hd r v hr => by rw [hf _ (by omega) (by omega)]; exact h5 d hd r v hr, fun d hd i hi => by rw [hf _ (by omega) (by omega)]; exact h6 d hd i hi, fun i hi => by rw [hf _ (by omega) (by omega)]; exact h7 i hi, fun d hd => by rw [hf _ (by omega) (by omega)]; exact h8 d hd, fun d hd => by rw [hf _ (by omega) (by omega)]; exact h9 d hd⟩
/-! changes of the reference's season -/
def sB (σ : q_S) : Prop := sN σ 0 ≤ 8 ∧ sN σ 1 ≤ 5 ∧ sN σ 2 ≤ 30 ∧ ∀ c, (sL σ c).length ≤ 20
theorem g_lt {l : List Nat} {r v n : Nat} (h : l[r]? = some v) (hn : l.length ≤ n) : r < n := by
  rcases Nat.lt_or_ge r l.length with q | q
  · omega
  · rw [List.getElem?_eq_none q] at h; cases h
theorem RM.G {a o j v : Nat} {I : q_Mem} {σ : q_S} {x : Int32} (h : RM a o I σ) (hB : sB σ) (hj : j < 8) (hx : x = nI v) : RM a o (q_up I a (o + 546 + j) x) (uG σ j v) := by
  obtain ⟨h1, h2, h3, h4, h5, h6, h7⟩ := h
  obtain ⟨b0, b1, b2, b3⟩ := hB
  refine ⟨fun i hi => ?_, fun i hi => ?_, fun d hd i hi => ?_, fun d hd => ?_, fun d hd r v hr => ?_, fun p hp i hi => ?_, fun r hr => ?_⟩
  · have hm : mslot i < 336 := by unfold mslot; split <;> (try split) <;> omega
    rw [q_up_n (fun q => by omega)]; exact h1 i hi
  · by_cases e : i = j
    · subst e; rw [q_up_s, hx]; exact congrArg nI f1_s.symm
    · rw [q_up_n (fun q => by omega), h2 i hi]; exact congrArg nI (f1_n e).symm
  · have hd : d < sN σ 0 := hd
    rw [q_up_n (fun q => by omega)]; exact h3 d hd i hi
  · have hd : d < sN σ 0 := hd
    rw [q_up_n (fun q => by omega)]; exact h4 d hd
  · have hd : d < sN σ 0 := hd
    have := g_lt hr (b3 d)
    rw [q_up_n (fun q => by omega)]; exact h5 d hd r v hr
  · have hp : p < sN σ 2 := hp
    rw [q_up_n (fun q => by omega)]; exact h6 p hp i hi
  · have hr : r < sN σ 1 := hr
    rw [q_up_n (fun q => by omega)]; exact h7 r hr
theorem RM.C {a o c j v : Nat} {I : q_Mem} {σ : q_S} {x : Int32} (h : RM a o I σ) (hB : sB σ) (hc : c < sN σ 0) (hj : j < 10) (hx : x = cenc j v) : RM a o (q_up I a (o + 1 + 41 * c + j) x) (uC σ c j v) := by
  obtain ⟨h1, h2, h3, h4, h5, h6, h7⟩ := h
  obtain ⟨b0, b1, b2, b3⟩ := hB
  refine ⟨fun i hi => ?_, fun i hi => ?_, fun d hd i hi => ?_, fun d hd => ?_, fun d hd r v hr => ?_, fun p hp i hi => ?_, fun r hr => ?_⟩
  · have hm : mslot i = 0 ∨ mslot i = 329 ∨ mslot i = 335 := by unfold mslot; split <;> (try split) <;> omega
    rw [q_up_n (fun q => by omega)]; exact h1 i hi
  · rw [q_up_n (fun q => by omega)]; exact h2 i hi
  · have hd : d < sN σ 0 := hd
    by_cases e : d = c ∧ i = j
    · obtain ⟨rfl, rfl⟩ := e; rw [q_up_s, hx]; exact congrArg (cenc i) f2_s.symm
    · rw [q_up_n (fun q => by omega), h3 d hd i hi]; exact congrArg (cenc i) (f2_n e).symm
  · have hd : d < sN σ 0 := hd
    rw [q_up_n (fun q => by omega)]; exact h4 d hd
  · have hd : d < sN σ 0 := hd
    have := g_lt hr (b3 d)
    rw [q_up_n (fun q => by omega)]; exact h5 d hd r v hr
  · have hp : p < sN σ 2 := hp
    rw [q_up_n (fun q => by omega)]; exact h6 p hp i hi
  · have hr : r < sN σ 1 := hr
    rw [q_up_n (fun q => by omega)]; exact h7 r hr
theorem RM.P {a o p j v : Nat} {I : q_Mem} {σ : q_S} {x : Int32} (h : RM a o I σ) (hB : sB σ) (hp : p < sN σ 2) (hj : j < 7) (hx : x = penc j v) : RM a o (q_up I a (o + 336 + 7 * p + j) x) (uP σ p j v) := by
  obtain ⟨h1, h2, h3, h4, h5, h6, h7⟩ := h
  obtain ⟨b0, b1, b2, b3⟩ := hB
  refine ⟨fun i hi => ?_, fun i hi => ?_, fun d hd i hi => ?_, fun d hd => ?_, fun d hd r v hr => ?_, fun d hd i hi => ?_, fun r hr => ?_⟩
  · have hm : mslot i = 0 ∨ mslot i = 329 ∨ mslot i = 335 := by unfold mslot; split <;> (try split) <;> omega
    rw [q_up_n (fun q => by omega)]; exact h1 i hi
  · rw [q_up_n (fun q => by omega)]; exact h2 i hi
  · have hd : d < sN σ 0 := hd
    rw [q_up_n (fun q => by omega)]; exact h3 d hd i hi
  · have hd : d < sN σ 0 := hd
    rw [q_up_n (fun q => by omega)]; exact h4 d hd
  · have hd : d < sN σ 0 := hd
    have := g_lt hr (b3 d)
    rw [q_up_n (fun q => by omega)]; exact h5 d hd r v hr
  · have hd : d < sN σ 2 := hd
    by_cases e : d = p ∧ i = j
    · obtain ⟨rfl, rfl⟩ := e; rw [q_up_s, hx]; exact congrArg (penc i) f2_s.symm
    · rw [q_up_n (fun q => by omega), h6 d hd i hi]; exact congrArg (penc i) (f2_n e).symm
  · have hr : r < sN σ 1 := hr
    rw [q_up_n (fun q => by omega)]; exact h7 r hr
theorem RM.L {a o c : Nat} {l : List Nat} {I J : q_Mem} {σ : q_S} (h : RM a o I σ) (hB : sB σ) (hc : c < sN σ 0) (hs : J a (o + 1 + 41 * c + 10) = nI l.length) (hm : ∀ r v, l[r]? = some v → J a (o + 1 + 41 * c + 11 + r) = nI v)
    (ho : ∀ i, (i < o + 1 + 41 * c + 10 ∨ o + 1 + 41 * c + 41 ≤ i) → J a i = I a i) : RM a o J (uL σ c l) := by
  obtain ⟨h1, h2, h3, h4, h5, h6, h7⟩ := h
  obtain ⟨b0, b1, b2, b3⟩ := hB
  refine ⟨fun i hi => ?_, fun i hi => ?_, fun d hd i hi => ?_, fun d hd => ?_, fun d hd r v hr => ?_, fun d hd i hi => ?_, fun r hr => ?_⟩
  · have hm : mslot i = 0 ∨ mslot i = 329 ∨ mslot i = 335 := by unfold mslot; split <;> (try split) <;> omega
    rw [ho _ (by omega)]; exact h1 i hi
  · rw [ho _ (by omega)]; exact h2 i hi
  · have hd : d < sN σ 0 := hd
    rw [ho _ (by omega)]; exact h3 d hd i hi
  · have hd : d < sN σ 0 := hd
    by_cases e : d = c
    · subst e; rw [hs]; exact congrArg (fun l => nI (List.length l)) f1_s.symm
    · rw [ho _ (by omega), h4 d hd]; exact congrArg (fun l => nI (List.length l)) (f1_n e).symm
  · have hd : d < sN σ 0 := hd
    by_cases e : d = c
    · subst e
      have hr : (f1 (sL σ) d l d)[r]? = some v := hr
      rw [f1_s] at hr
      exact hm r v hr
    · have hr : (f1 (sL σ) c l d)[r]? = some v := hr
      rw [f1_n e] at hr
      have := g_lt hr (b3 d)
      rw [ho _ (by omega)]; exact h5 d hd r v hr
  · have hd : d < sN σ 2 := hd
    rw [ho _ (by omega)]; exact h6 d hd i hi
  · have hr : r < sN σ 1 := hr
    rw [ho _ (by omega)]; exact h7 r hr
theorem RM.fr {a o : Nat} {I J : q_Mem} {σ : q_S} (h : RM a o I σ) (hf : J a = I a) : RM a o J σ := by
  obtain ⟨h1, h2, h3, h4, h5, h6, h7⟩ := h
  exact ⟨fun i hi => by rw [hf]; exact h1 i hi, fun i hi => by rw [hf]; exact h2 i hi, fun d hd i hi => by rw [hf]; exact h3 d hd i hi, fun d hd => by rw [hf]; exact h4 d hd, fun d hd r v hr => by rw [hf]; exact h5 d hd r v hr, fun d hd i hi => by rw [hf]; exact h6 d hd i hi, fun i hi => by rw [hf]; exact h7 i hi⟩
