/-! WHAT THE CALLS DO TO A SEASON -/
abbrev sLen (σ : q_S) (c : Nat) : Nat := (sL σ c).length
def crg (σ : q_S) (c : Nat) : Prop := sC σ c 0 < 4 ∧ sC σ c 1 < 4 ∧ sC σ c 2 < 5 ∧ sC σ c 3 ≤ 20 ∧ sC σ c 4 ≤ 20 ∧ sC σ c 5 ≤ 99 ∧ sC σ c 6 ≤ 4 ∧ sC σ c 7 ≤ 5 ∧ sC σ c 8 ≤ 8 ∧ sC σ c 9 ≤ 3 ∧ sLen σ c ≤ sC σ c 4
def prg (σ : q_S) (p : Nat) : Prop := sP σ p 0 ≤ 1 ∧ sP σ p 1 ≤ sN σ 0 ∧ sP σ p 2 ≤ sN σ 0 ∧ sP σ p 3 ≤ sN σ 0 ∧ sP σ p 4 ≤ sN σ 0 ∧ sP σ p 5 ≤ 99 ∧ (sP σ p 4 = 0 → sP σ p 5 = 0) ∧ (sP σ p 0 = 0 → sP σ p 4 = 0) ∧ (sP σ p 2 = 0 → sP σ p 3 = 0) ∧ (p < sN σ 2 → ¬ sP σ p 1 = 0)
/-- what holds of every season -/
def WFc (σ : q_S) : Prop := sB σ ∧ (∀ c, c < 8 → crg σ c) ∧ (∀ c, sN σ 0 ≤ c → sC σ c 6 = 0 ∧ sC σ c 7 = 0 ∧ sL σ c = []) ∧ (∀ c, c < sN σ 0 → 1 ≤ sC σ c 6) ∧ (∀ p, prg σ p) ∧ (∀ p, sN σ 2 ≤ p → ∀ j, sP σ p j = 0) ∧ (∀ c, (sL σ c).Nodup ∧ ∀ p, p ∈ sL σ c ↔ sP σ p 4 = c + 1) ∧ ∀ r, r < 5 → sR σ r ≤ 30
theorem WFc.B {σ : q_S} (h : WFc σ) : sB σ := h.1
theorem WFc.cr {σ : q_S} (h : WFc σ) {c : Nat} (hc : c < 8) : crg σ c := h.2.1 c hc
theorem WFc.pr {σ : q_S} (h : WFc σ) (p : Nat) : prg σ p := h.2.2.2.2.1 p
theorem WFc.len {σ : q_S} (h : WFc σ) (c : Nat) : sLen σ c ≤ 20 := h.1.2.2.2 c
theorem WFc.mem {σ : q_S} (h : WFc σ) {c p : Nat} : p ∈ sL σ c ↔ sP σ p 4 = c + 1 := (h.2.2.2.2.2.2.1 c).2 p
theorem WFc.nd {σ : q_S} (h : WFc σ) (c : Nat) : (sL σ c).Nodup := (h.2.2.2.2.2.2.1 c).1
theorem WFc.zero {σ : q_S} (h : WFc σ) {p : Nat} (hp : sN σ 2 ≤ p) (j : Nat) : sP σ p j = 0 := h.2.2.2.2.2.1 p hp j
theorem WFc.mlt {σ : q_S} (h : WFc σ) {c p : Nat} (hm : p ∈ sL σ c) : p < sN σ 2 := by
  rcases Nat.lt_or_ge p (sN σ 2) with q | q
  · exact q
  · have := h.mem.mp hm
    rw [h.zero q 4] at this
    omega
theorem WFc.mlt30 {σ : q_S} (h : WFc σ) {c p : Nat} (hm : p ∈ sL σ c) : p < 30 := Nat.lt_of_lt_of_le (h.mlt hm) h.B.2.2.1
/-- a wish with a free place -/
abbrev sfr (σ : q_S) (w : Nat) : Prop := ¬ w = 0 ∧ sC σ (w - 1) 6 = 1 ∧ sLen σ (w - 1) < sC σ (w - 1) 4
/-- the wish that is better than what a person has, and has a free place; 0 for none -/
def sbet (σ : q_S) (p : Nat) : Nat :=
  if sP σ p 0 = 0 then 0 else if sP σ p 1 = sP σ p 4 then 0 else if sfr σ (sP σ p 1) then sP σ p 1 else if sP σ p 2 = sP σ p 4 then 0 else if sfr σ (sP σ p 2) then sP σ p 2 else if sP σ p 3 = sP σ p 4 then 0 else if sfr σ (sP σ p 3) then sP σ p 3 else 0
/-- away from the class, into a class -/
def sout (σ : q_S) (p : Nat) : q_S := if sP σ p 4 = 0 then σ else (sN σ, f1 (sG σ) 3 (sG σ 3 + sP σ p 5), sC σ, f1 (sL σ) (sP σ p 4 - 1) ((sL σ (sP σ p 4 - 1)).filter (· != p)), f2 (f2 (sP σ) p 4 0) p 5 0, sR σ)
def sin (σ : q_S) (p c : Nat) : q_S := (sN σ, f1 (f1 (sG σ) 2 (sG σ 2 + sC σ c 5)) 5 (sG σ 5 + 1), sC σ, f1 (sL σ) c (sL σ c ++ [p]), f2 (f2 (f2 (sP σ) p 4 (c + 1)) p 5 (sC σ c 5)) p 6 (sP σ p 6 + 1), sR σ)
/-- the first person from k on, d of them, who has a better wish; k + d if none has -/
def spk (σ : q_S) : Nat → Nat → Nat
  | 0, k => k
  | d + 1, k => if sbet σ k = 0 then spk σ d (k + 1) else k
def smove (σ : q_S) (p : Nat) : q_S := sin (sout σ p) p (sbet σ p - 1)
def sset : Nat → q_S → q_S
  | 0, σ => σ
  | n + 1, σ => if spk σ (sN σ 2) 0 < sN σ 2 then sset n (smove σ (spk σ (sN σ 2) 0)) else σ
/-- the open_ class that is too small, of the first k: its number + 1, or 0 -/
def ssm (σ : q_S) : Nat → Nat
  | 0 => 0
  | k + 1 => if sC σ k 6 = 1 ∧ sLen σ k < sC σ k 3 ∧ (ssm σ k = 0 ∨ sLen σ k < sLen σ (ssm σ k - 1)) then k + 1 else ssm σ k
def slv (σ : q_S) (c d : Nat) : Nat := if sC σ c 1 > sC σ d 1 then sC σ c 1 - sC σ d 1 else sC σ d 1 - sC σ c 1
/-- the class_ into which c would be merged, of the first k -/
def sft (σ : q_S) (c : Nat) : Nat → Nat
  | 0 => 0
  | k + 1 => if 0 < sLen σ c ∧ (sC σ k 6 = 1 ∧ ¬ k = c ∧ sC σ k 0 = sC σ c 0 ∧ slv σ k c ≤ 1 ∧ sLen σ k + sLen σ c ≤ sC σ k 4) ∧ (sft σ c k = 0 ∨ slv σ k c < slv σ (sft σ c k - 1) c ∨ (slv σ k c = slv σ (sft σ c k - 1) c ∧ sLen σ (sft σ c k - 1) < sLen σ k)) then k + 1 else sft σ c k
/-- the greatest of the first k that run -/
def sgr (σ : q_S) : Nat → Nat
  | 0 => 0
  | k + 1 => if sC σ k 6 = 1 ∧ (sgr σ k = 0 ∨ sLen σ (sgr σ k - 1) < sLen σ k) then k + 1 else sgr σ k
/-- a room that is given on an evening -/
def sgv (σ : q_S) (r e : Nat) : Prop := ∃ k, k < sN σ 0 ∧ sC σ k 7 = r + 1 ∧ sC σ k 2 = e
/-- who goes into d by a merging: one, and a row of them -/
def smg1 (σ : q_S) (d p : Nat) : q_S := (sN σ, f1 (sG σ) 3 (sG σ 3 + (sP σ p 5 - sC σ d 5)), sC σ, f1 (sL σ) d (sL σ d ++ [p]), f2 (f2 (f2 (sP σ) p 4 (d + 1)) p 6 (sP σ p 6 + 1)) p 5 (sP σ p 5 - (sP σ p 5 - sC σ d 5)), sR σ)
def smgs (d : Nat) : List Nat → q_S → q_S
  | [], σ => σ
  | p :: l, σ => smgs d l (smg1 σ d p)
def smerge0 (τ : q_S) (c d : Nat) : q_S := (sN τ, f1 (sG τ) 6 (sG τ 6 + 1), f2 (f2 (f2 (sC τ) c 6 4) c 9 1) c 8 (d + 1), f1 (sL τ) c [], sP τ, sR τ)
def smerge (σ : q_S) (c d : Nat) : q_S := smerge0 (smgs d (sL σ c) σ) c d
/-- who is in c: of the first k, what they paid together -/
def spd (σ : q_S) (c : Nat) : Nat → Nat
  | 0 => 0
  | k + 1 => spd σ c k + (if sP σ k 4 = c + 1 then sP σ k 5 else 0)
def scan (σ : q_S) (c w : Nat) : q_S := (sN σ, f1 (f1 (sG σ) 3 (sG σ 3 + spd σ c 30)) 7 (sG σ 7 + 1), f2 (f2 (sC σ) c 6 3) c 9 w, f1 (sL σ) c [], fun p j => if sP σ p 4 = c + 1 ∧ (j = 4 ∨ j = 5) then 0 else sP σ p j, sR σ)
def scl1 (σ : q_S) (c : Nat) : q_S := sset 1000 (if sft σ c 8 = 0 then scan σ c 2 else smerge σ c (sft σ c 8 - 1))
def scls1 : Nat → q_S → q_S
  | 0, σ => σ
  | n + 1, σ => if ssm σ 8 = 0 then σ else scls1 n (scl1 σ (ssm σ 8 - 1))
theorem sgv_8 {σ : q_S} (h : WFc σ) {r e : Nat} : (∃ k, k < 8 ∧ sC σ k 7 = r + 1 ∧ sC σ k 2 = e) ↔ sgv σ r e := by
  constructor
  · rintro ⟨k, h1, h2, h3⟩
    refine ⟨k, ?_, h2, h3⟩
    rcases Nat.lt_or_ge k (sN σ 0) with q | q
    · exact q
    · have := (h.2.2.1 k q).2.1
      omega
  · rintro ⟨k, h1, h2, h3⟩
    exact ⟨k, Nat.lt_of_lt_of_le h1 h.B.1, h2, h3⟩
/-! numbers -/
theorem enc_eq {u v : Nat} (hu : u < 2 ^ 31) (hv : v < 2 ^ 31) : enc u = enc v ↔ u = v := by
  constructor
  · intro h
    unfold enc at h
    by_cases e1 : u = 0
    · by_cases e2 : v = 0
      · omega
      · rw [if_pos e1, if_neg e2] at h
        have h1 : ((-1 : Int32)).toInt = (nI (v - 1)).toInt := by rw [h]
        rw [nI_toInt (by omega)] at h1
        have : ((-1 : Int32)).toInt = -1 := by decide
        omega
    · by_cases e2 : v = 0
      · rw [if_neg e1, if_pos e2] at h
        have h1 : (nI (u - 1)).toInt = ((-1 : Int32)).toInt := by rw [h]
        rw [nI_toInt (by omega)] at h1
        have : ((-1 : Int32)).toInt = -1 := by decide
        omega
      · rw [if_neg e1, if_neg e2] at h
        have := (nI_eq (by omega) (by omega)).mp h
        omega
  · rintro rfl; rfl
theorem enc_m1 {u : Nat} (hu : u < 2 ^ 31) : enc u = -1 ↔ u = 0 := enc_eq (v := 0) hu (by omega)
theorem enc_nI {u v : Nat} (hu : u < 2 ^ 31) (hv : v < 2 ^ 31 - 1) : enc u = nI v ↔ u = v + 1 := enc_eq (v := v + 1) hu (by omega)
theorem enc_z {u : Nat} (hu : u < 2 ^ 31) : enc u = 0 ↔ u = 1 := enc_eq (v := 1) hu (by omega)
/-! readings -/
theorem RC.n {b j : Nat} {I : q_Mem} {σ : q_S} (h : RC b I σ) (hj : j < 3) : I b (nslot j) = nI (sN σ j) := h.1 j hj
theorem RC.g {b j : Nat} {I : q_Mem} {σ : q_S} (h : RC b I σ) (hj : j < 8) : I b (6 + j) = nI (sG σ j) := h.2.1 j hj
theorem RC.c {b c j : Nat} {I : q_Mem} {σ : q_S} (h : RC b I σ) (hc : c < 8) (hj : j < 10) : I (b + 4 + 2 * c) (cslot j) = cenc j (sC σ c j) := h.2.2.1 c hc j hj
theorem RC.len {b c : Nat} {I : q_Mem} {σ : q_S} (h : RC b I σ) (hc : c < 8) : I (b + 4 + 2 * c) 12 = nI (sLen σ c) := h.2.2.2.1 c hc
theorem RC.m {b c : Nat} {I : q_Mem} {σ : q_S} (h : RC b I σ) (hc : c < 8) {r v : Nat} (hr : (sL σ c)[r]? = some v) : I (b + 5 + 2 * c) r = nI v := h.2.2.2.2.1 c hc r v hr
theorem RC.p {b p j : Nat} {I : q_Mem} {σ : q_S} (h : RC b I σ) (hp : p < 30) (hj : j < 7) : I (b + 20 + p) (pslot j) = penc j (sP σ p j) := h.2.2.2.2.2.1 p hp j hj
theorem RC.r {b r : Nat} {I : q_Mem} {σ : q_S} (h : RC b I σ) (hr : r < 5) : I (b + 3) r = nI (sR σ r) := h.2.2.2.2.2.2.1 r hr
theorem RC.cn {b c : Nat} {I : q_Mem} {σ : q_S} (h : RC b I σ) (hc : c < 8) : I (b + 4 + 2 * c) 0 = nI c := h.2.2.2.2.2.2.2.1 c hc
theorem RC.pn {b p : Nat} {I : q_Mem} {σ : q_S} (h : RC b I σ) (hp : p < 30) : I (b + 20 + p) 0 = nI p := h.2.2.2.2.2.2.2.2 p hp
