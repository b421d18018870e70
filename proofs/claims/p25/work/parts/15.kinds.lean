/-! the layout's kinds -/
theorem kC_all : ∀ a, a < 356 → q_kd a = 0 → q_kd (a + 1) = 10 ∧ q_ln (a + 1) = 20 := by decide +kernel
theorem kS_all : ∀ a, a < 356 → q_kd a = 3 → (a = 1 ∨ a = 51 ∨ a = 103 ∨ a = 153 ∨ a = 203 ∨ a = 253 ∨ a = 303) := by decide +kernel
theorem kS_in : ∀ b, (b = 1 ∨ b = 51 ∨ b = 103 ∨ b = 153 ∨ b = 203 ∨ b = 253 ∨ b = 303) → (q_kd b = 3 ∧ q_kd (b + 1) = 12 ∧ q_kd (b + 2) = 13 ∧ q_kd (b + 3) = 10 ∧ q_ln (b + 1) = 8 ∧ q_ln (b + 2) = 30 ∧ q_ln (b + 3) = 5) ∧ (∀ c, c < 8 → q_kd (b + 4 + 2 * c) = 0) ∧ ∀ p, p < 30 → q_kd (b + 20 + p) = 2 := by
  intro b h
  rcases h with rfl | rfl | rfl | rfl | rfl | rfl | rfl <;> decide +kernel
theorem kC {a : Nat} (h : q_kd a = 0) : q_kd (a + 1) = 10 ∧ q_ln (a + 1) = 20 := kC_all a (q_kd_lt h (by omega)) h
theorem kS {b : Nat} (h : q_kd b = 3) : b = 1 ∨ b = 51 ∨ b = 103 ∨ b = 153 ∨ b = 203 ∨ b = 253 ∨ b = 303 := kS_all b (q_kd_lt h (by omega)) h
theorem kS1 {b : Nat} (h : q_kd b = 3) : q_kd (b + 1) = 12 := (kS_in b (kS h)).1.2.1
theorem kS2 {b : Nat} (h : q_kd b = 3) : q_kd (b + 2) = 13 := (kS_in b (kS h)).1.2.2.1
theorem kS3 {b : Nat} (h : q_kd b = 3) : q_kd (b + 3) = 10 := (kS_in b (kS h)).1.2.2.2.1
theorem lS1 {b : Nat} (h : q_kd b = 3) : q_ln (b + 1) = 8 := (kS_in b (kS h)).1.2.2.2.2.1
theorem lS2 {b : Nat} (h : q_kd b = 3) : q_ln (b + 2) = 30 := (kS_in b (kS h)).1.2.2.2.2.2.1
theorem lS3 {b : Nat} (h : q_kd b = 3) : q_ln (b + 3) = 5 := (kS_in b (kS h)).1.2.2.2.2.2.2
theorem kSC {b c : Nat} (h : q_kd b = 3) (hc : c < 8) : q_kd (b + 4 + 2 * c) = 0 := (kS_in b (kS h)).2.1 c hc
theorem kSP {b p : Nat} (h : q_kd b = 3) (hp : p < 30) : q_kd (b + 20 + p) = 2 := (kS_in b (kS h)).2.2 p hp
section q_rules6
variable {k : q_MI} {pc : Nat} {ls : List (Option Value)} {st : List Value} {I : q_Mem} {Q : Option Value → q_Mem → Prop}
theorem q_aaldC {b i : Nat} {x : Int32} (hb : q_kd b = 3) (hx : x = nI i) (hi : i < 8) (hd : decode k.2.1 pc = .ok (.aaload, 1)) (kk : q_X k (pc + 1) ls (.ref (b + 4 + 2 * i) :: st) I Q) : q_X k pc ls (.int x :: .ref (b + 1) :: st) I Q := by
  refine q_aald (c := 12) (kS1 hb) (by omega) (by omega) hx (by rw [lS1 hb]; exact hi) (by rw [lS1 hb]; decide) hd ?_
  have e : q_el 12 (b + 1) i = b + 4 + 2 * i := by simp [q_el]
  rw [e]; exact kk
theorem q_aaldP {b i : Nat} {x : Int32} (hb : q_kd b = 3) (hx : x = nI i) (hi : i < 30) (hd : decode k.2.1 pc = .ok (.aaload, 1)) (kk : q_X k (pc + 1) ls (.ref (b + 20 + i) :: st) I Q) : q_X k pc ls (.int x :: .ref (b + 2) :: st) I Q := by
  refine q_aald (c := 13) (kS2 hb) (by omega) (by omega) hx (by rw [lS2 hb]; exact hi) (by rw [lS2 hb]; decide) hd ?_
  have e : q_el 13 (b + 2) i = b + 20 + i := by simp [q_el]
  rw [e]; exact kk
theorem q_aaldS {i : Nat} {x : Int32} (hx : x = nI i) (hi : i < 5) (hd : decode k.2.1 pc = .ok (.aaload, 1)) (kk : q_X k (pc + 1) ls (.ref (103 + 50 * i) :: st) I Q) : q_X k pc ls (.int x :: .ref 102 :: st) I Q := by
  refine q_aald (c := 14) (a := 102) (by decide) (by omega) (by omega) hx (by exact hi) (by decide) hd ?_
  have e : q_el 14 102 i = 103 + 50 * i := by simp [q_el]
  rw [e]; exact kk
theorem q_lenC {b : Nat} {v : Int32} (hb : q_kd b = 3) (hv : nI 8 = v) (hd : decode k.2.1 pc = .ok (.arraylength, 1)) (kk : q_X k (pc + 1) ls (.int v :: st) I Q) : q_X k pc ls (.ref (b + 1) :: st) I Q :=
  q_alen (kS1 hb) (by omega) (by omega) (by rw [lS1 hb]; exact hv) hd kk
theorem q_lenP {b : Nat} {v : Int32} (hb : q_kd b = 3) (hv : nI 30 = v) (hd : decode k.2.1 pc = .ok (.arraylength, 1)) (kk : q_X k (pc + 1) ls (.int v :: st) I Q) : q_X k pc ls (.ref (b + 2) :: st) I Q :=
  q_alen (kS2 hb) (by omega) (by omega) (by rw [lS2 hb]; exact hv) hd kk
theorem q_lenR {b : Nat} {v : Int32} (hb : q_kd b = 3) (hv : nI 5 = v) (hd : decode k.2.1 pc = .ok (.arraylength, 1)) (kk : q_X k (pc + 1) ls (.int v :: st) I Q) : q_X k pc ls (.ref (b + 3) :: st) I Q :=
  q_alen (kS3 hb) (by omega) (by omega) (by rw [lS3 hb]; exact hv) hd kk
theorem q_lenM {a : Nat} {v : Int32} (ha : q_kd a = 0) (hv : nI 20 = v) (hd : decode k.2.1 pc = .ok (.arraylength, 1)) (kk : q_X k (pc + 1) ls (.int v :: st) I Q) : q_X k pc ls (.ref (a + 1) :: st) I Q :=
  q_alen (kC ha).1 (by omega) (by omega) (by rw [(kC ha).2]; exact hv) hd kk
theorem q_ialdM {a i : Nat} {x v : Int32} (ha : q_kd a = 0) (hx : x = nI i) (hi : i < 20) (hv : I (a + 1) i = v) (hd : decode k.2.1 pc = .ok (.iaload, 1)) (kk : q_X k (pc + 1) ls (.int v :: st) I Q) : q_X k pc ls (.int x :: .ref (a + 1) :: st) I Q :=
  q_iald (kC ha).1 hx (by rw [(kC ha).2]; exact hi) (by rw [(kC ha).2]; decide) hv hd kk
theorem q_iastM {a i : Nat} {x y : Int32} (ha : q_kd a = 0) (hx : x = nI i) (hi : i < 20) (hd : decode k.2.1 pc = .ok (.iastore, 1)) (kk : q_X k (pc + 1) ls st (q_up I (a + 1) i y) Q) : q_X k pc ls (.int y :: .int x :: .ref (a + 1) :: st) I Q :=
  q_iast (kC ha).1 hx (by rw [(kC ha).2]; exact hi) (by rw [(kC ha).2]; decide) hd kk
theorem q_ialdR {b i : Nat} {x v : Int32} (ha : q_kd b = 3) (hx : x = nI i) (hi : i < 5) (hv : I (b + 3) i = v) (hd : decode k.2.1 pc = .ok (.iaload, 1)) (kk : q_X k (pc + 1) ls (.int v :: st) I Q) : q_X k pc ls (.int x :: .ref (b + 3) :: st) I Q :=
  q_iald (kS3 ha) hx (by rw [lS3 ha]; exact hi) (by rw [lS3 ha]; decide) hv hd kk
theorem q_iastR {b i : Nat} {x y : Int32} (ha : q_kd b = 3) (hx : x = nI i) (hi : i < 5) (hd : decode k.2.1 pc = .ok (.iastore, 1)) (kk : q_X k (pc + 1) ls st (q_up I (b + 3) i y) Q) : q_X k pc ls (.int y :: .int x :: .ref (b + 3) :: st) I Q :=
  q_iast (kS3 ha) hx (by rw [lS3 ha]; exact hi) (by rw [lS3 ha]; decide) hd kk
end q_rules6
