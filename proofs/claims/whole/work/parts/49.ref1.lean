/-! THE REFERENCE: its row of numbers -/
theorem q_getR2 {k : q_MI} {pc : Nat} {ls : List (Option Value)} {st : List Value} {I : q_Mem} {Q : Option Value → q_Mem → Prop} {idx c j a d b : Nat} (hf : q_Fl k.1.cls idx c j) (hr : q_ro c j = some d) (ha : q_kd a = c) (hb : a + d = b) (hd : decode k.2.1 pc = .ok (.getfield idx, 3)) (kk : q_X k (pc + 3) ls (.ref b :: st) I Q) : q_X k pc ls (.ref a :: st) I Q := by
  subst hb
  exact q_getR hf hr ha hd kk
theorem k356 : q_kd 356 = 6 := by decide
theorem k357 : q_kd 357 = 10 := by decide
theorem k358 : q_kd 358 = 10 := by decide
theorem k359 : q_kd 359 = 10 := by decide
theorem k360 : q_kd 360 = 10 := by decide
theorem k361 : q_kd 361 = 10 := by decide
theorem lt357 {i : Nat} (h : i < 554) : i < q_ln 357 := Nat.lt_of_lt_of_le h (by decide)
theorem lt358 {i : Nat} (h : i < 554) : i < q_ln 358 := Nat.lt_of_lt_of_le h (by decide)
theorem lt359 {i : Nat} (h : i < 2216) : i < q_ln 359 := Nat.lt_of_lt_of_le h (by decide)
theorem lt360 {i : Nat} (h : i < 60) : i < q_ln 360 := Nat.lt_of_lt_of_le h (by decide)
theorem lt361 {i : Nat} (h : i < 4) : i < q_ln 361 := Nat.lt_of_lt_of_le h (by decide)
theorem nI_mul (a b : Nat) : nI a * nI b = nI (a * b) := (Int32.ofNat_mul a b).symm
/-- the reference's season -/
abbrev RS (I : q_Mem) (σ : q_S) : Prop := RM 357 0 I σ
theorem RS.n0 {I : q_Mem} {σ : q_S} (h : RS I σ) : I 357 0 = nI (sN σ 0) := h.1 0 (by omega)
theorem RS.n1 {I : q_Mem} {σ : q_S} (h : RS I σ) : I 357 329 = nI (sN σ 1) := h.1 1 (by omega)
theorem RS.n2 {I : q_Mem} {σ : q_S} (h : RS I σ) : I 357 335 = nI (sN σ 2) := h.1 2 (by omega)
theorem RS.g {I : q_Mem} {σ : q_S} (h : RS I σ) {j : Nat} (hj : j < 8) : I 357 (546 + j) = nI (sG σ j) := by
  have := h.2.1 j hj
  rwa [Nat.zero_add] at this
theorem RS.c {I : q_Mem} {σ : q_S} (h : RS I σ) {c j : Nat} (hc : c < sN σ 0) (hj : j < 10) : I 357 (1 + 41 * c + j) = cenc j (sC σ c j) := by
  have := h.2.2.1 c hc j hj
  rwa [Nat.zero_add] at this
theorem RS.len {I : q_Mem} {σ : q_S} (h : RS I σ) {c : Nat} (hc : c < sN σ 0) : I 357 (1 + 41 * c + 10) = nI (sLen σ c) := by
  have := h.2.2.2.1 c hc
  rwa [Nat.zero_add] at this
theorem RS.m {I : q_Mem} {σ : q_S} (h : RS I σ) {c r v : Nat} (hc : c < sN σ 0) (hr : (sL σ c)[r]? = some v) : I 357 (1 + 41 * c + 11 + r) = nI v := by
  have := h.2.2.2.2.1 c hc r v hr
  rwa [Nat.zero_add] at this
theorem RS.p {I : q_Mem} {σ : q_S} (h : RS I σ) {p j : Nat} (hp : p < sN σ 2) (hj : j < 7) : I 357 (336 + 7 * p + j) = penc j (sP σ p j) := by
  have := h.2.2.2.2.2.1 p hp j hj
  rwa [Nat.zero_add] at this
theorem RS.r {I : q_Mem} {σ : q_S} (h : RS I σ) {r : Nat} (hr : r < sN σ 1) : I 357 (330 + r) = nI (sR σ r) := by
  have := h.2.2.2.2.2.2 r hr
  rwa [Nat.zero_add] at this
theorem RS.G {I : q_Mem} {σ : q_S} {j v : Nat} {x : Int32} (h : RS I σ) (hB : sB σ) (hj : j < 8) (hx : x = nI v) : RS (q_up I 357 (546 + j) x) (uG σ j v) := by
  have := RM.G h hB hj hx
  rwa [Nat.zero_add] at this
theorem RS.C {I : q_Mem} {σ : q_S} {c j v : Nat} {x : Int32} (h : RS I σ) (hB : sB σ) (hc : c < sN σ 0) (hj : j < 10) (hx : x = cenc j v) : RS (q_up I 357 (1 + 41 * c + j) x) (uC σ c j v) := by
  have := RM.C h hB hc hj hx
  rwa [Nat.zero_add] at this
theorem RS.P {I : q_Mem} {σ : q_S} {p j v : Nat} {x : Int32} (h : RS I σ) (hB : sB σ) (hp : p < sN σ 2) (hj : j < 7) (hx : x = penc j v) : RS (q_up I 357 (336 + 7 * p + j) x) (uP σ p j v) := by
  have := RM.P h hB hp hj hx
  rwa [Nat.zero_add] at this
theorem RS.L {I J : q_Mem} {σ : q_S} {c : Nat} {l : List Nat} (h : RS I σ) (hB : sB σ) (hc : c < sN σ 0) (hs : J 357 (1 + 41 * c + 10) = nI l.length) (hm : ∀ r v, l[r]? = some v → J 357 (1 + 41 * c + 11 + r) = nI v) (ho : ∀ i, (i < 1 + 41 * c + 10 ∨ 1 + 41 * c + 41 ≤ i) → J 357 i = I 357 i) : RS J (uL σ c l) :=
  RM.L h hB hc (by rw [Nat.zero_add]; exact hs) (fun r v hr => by rw [Nat.zero_add]; exact hm r v hr) (fun i hi => ho i (by omega))
theorem r_at {c j : Nat} {I : q_Mem} : q_M kX7_at [.int (nI c), .int (nI j)] I (fun v J => v = some (.int (nI (1 + 41 * c + j))) ∧ I = J) := by
  refine q_M.of pnX7_at (by simp [Value.category]) (Nat.le_of_ble_eq_true rfl) ?_
  refine q_iconst (v := nI 1) dX7_at_0 (by decide) ?_
  refine q_bipush (v := nI 41) dX7_at_1 (by decide) ?_
  refine q_iload_n dX7_at_3 rfl ?_
  refine q_imul dX7_at_4 ?_
  rw [nI_mul]
  refine q_iadd dX7_at_5 ?_
  rw [nI_add]
  refine q_iload_n dX7_at_6 rfl ?_
  refine q_iadd dX7_at_7 ?_
  rw [nI_add]
  exact q_iret rfl rfl dX7_at_8 ⟨rfl, rfl⟩
theorem r_of {p j : Nat} {I : q_Mem} : q_M kX7_of [.int (nI p), .int (nI j)] I (fun v J => v = some (.int (nI (336 + 7 * p + j))) ∧ I = J) := by
  refine q_M.of pnX7_of (by simp [Value.category]) (Nat.le_of_ble_eq_true rfl) ?_
  refine q_sipush (v := nI 336) dX7_of_0 (by decide) ?_
  refine q_bipush (v := nI 7) dX7_of_3 (by decide) ?_
  refine q_iload_n dX7_of_5 rfl ?_
  refine q_imul dX7_of_6 ?_
  rw [nI_mul]
  refine q_iadd dX7_of_7 ?_
  rw [nI_add]
  refine q_iload_n dX7_of_8 rfl ?_
  refine q_iadd dX7_of_9 ?_
  rw [nI_add]
  exact q_iret rfl rfl dX7_of_10 ⟨rfl, rfl⟩
theorem r_in {x l u : Int32} {I : q_Mem} : q_M kX7_in [.int x, .int l, .int u] I (fun v J => v = some (.int (if l ≤ x ∧ x ≤ u then 1 else 0)) ∧ I = J) := by
  refine q_M.of pnX7_in (by simp [Value.category]) (Nat.le_of_ble_eq_true rfl) ?_
  refine q_iload_n dX7_in_0 rfl ?_
  refine q_iload_n dX7_in_1 rfl ?_
  refine q_icmp_lt (tgt := 14) dX7_in_2 (by decide) (fun q => ?_) (fun q => ?_)
  · refine q_iconst (v := nI 0) dX7_in_14 (by decide) ?_
    exact q_iret rfl rfl dX7_in_15 ⟨by rw [if_neg (fun z => Int32.not_lt.mpr z.1 q)]; rfl, rfl⟩
  refine q_iload_n dX7_in_5 rfl ?_
  refine q_iload_n dX7_in_6 rfl ?_
  refine q_icmp_gt (tgt := 14) dX7_in_7 (by decide) (fun q2 => ?_) (fun q2 => ?_)
  · refine q_iconst (v := nI 0) dX7_in_14 (by decide) ?_
    exact q_iret rfl rfl dX7_in_15 ⟨by rw [if_neg (fun z => Int32.not_lt.mpr z.2 q2)]; rfl, rfl⟩
  · refine q_iconst (v := nI 1) dX7_in_10 (by decide) ?_
    refine q_goto (tgt := 15) dX7_in_11 (by decide) ?_
    exact q_iret rfl rfl dX7_in_15 ⟨by rw [if_pos ⟨Int32.not_lt.mp q, Int32.not_lt.mp q2⟩]; rfl, rfl⟩
theorem bool_if {P : Prop} [Decidable P] : narrow FieldType.boolean (.int (if P then (1 : Int32) else 0)) = .int (if P then (1 : Int32) else 0) := by split <;> rfl
theorem isC_sub {n : Nat} {x : Int32} (hn : n < 2 ^ 30) : (nI 0 ≤ x ∧ x ≤ nI n - nI 1) ↔ isC n x := by
  cases n with
  | zero =>
    constructor
    · rintro ⟨h1, h2⟩
      have := Int32.le_trans h1 h2
      exact absurd this (by decide)
    · rintro ⟨h1, h2⟩
      exact absurd (Int32.lt_of_le_of_lt h1 h2) (by decide)
  | succ n => rw [pk_sub (by omega), show n + 1 - 1 = n by omega]; exact (isC_le (by omega)).symm
theorem r_isCourse {x : Int32} {I : q_Mem} {σ : q_S} (h : RS I σ) (hB : sB σ) : q_M kX7_isCourse [.ref 356, .int x] I (fun v J => v = some (.int (if isC (sN σ 0) x then 1 else 0)) ∧ I = J) := by
  have h8 := hB.1
  refine q_M.of pnX7_isCourse (by simp [Value.category]) (Nat.le_of_ble_eq_true rfl) ?_
  refine q_iload_n dX7_isCourse_0 rfl ?_
  refine q_iconst (v := nI 0) dX7_isCourse_1 (by decide) ?_
  refine q_aload_n dX7_isCourse_2 rfl ?_
  refine q_getR2 (b := 357) fl_RX7_7 rfl k356 rfl dX7_isCourse_3 ?_
  refine q_iconst (v := nI 0) dX7_isCourse_6 (by decide) ?_
  refine q_iald k357 rfl (lt357 (by omega)) (by decide) h.n0 dX7_isCourse_7 ?_
  refine q_iconst (v := nI 1) dX7_isCourse_8 (by decide) ?_
  refine q_isub dX7_isCourse_9 ?_
  refine q_cS (as := [_, _, _]) lk_RX7_32 r_in rfl (by decide) (Nat.le_of_ble_eq_true rfl) dX7_isCourse_10 ?_
  rintro v J ⟨rfl, rfl⟩
  exact q_iret rfl bool_if dX7_isCourse_13 ⟨by simp only [isC_sub (show sN σ 0 < 2 ^ 30 by omega)], rfl⟩
theorem r_isPerson {x : Int32} {I : q_Mem} {σ : q_S} (h : RS I σ) (hB : sB σ) : q_M kX7_isPerson [.ref 356, .int x] I (fun v J => v = some (.int (if isC (sN σ 2) x then 1 else 0)) ∧ I = J) := by
  have h8 := hB.2.2.1
  refine q_M.of pnX7_isPerson (by simp [Value.category]) (Nat.le_of_ble_eq_true rfl) ?_
  refine q_iload_n dX7_isPerson_0 rfl ?_
  refine q_iconst (v := nI 0) dX7_isPerson_1 (by decide) ?_
  refine q_aload_n dX7_isPerson_2 rfl ?_
  refine q_getR2 (b := 357) fl_RX7_7 rfl k356 rfl dX7_isPerson_3 ?_
  refine q_sipush (v := nI 335) dX7_isPerson_6 (by decide) ?_
  refine q_iald k357 rfl (lt357 (by omega)) (by decide) h.n2 dX7_isPerson_9 ?_
  refine q_iconst (v := nI 1) dX7_isPerson_10 (by decide) ?_
  refine q_isub dX7_isPerson_11 ?_
  refine q_cS (as := [_, _, _]) lk_RX7_32 r_in rfl (by decide) (Nat.le_of_ble_eq_true rfl) dX7_isPerson_12 ?_
  rintro v J ⟨rfl, rfl⟩
  exact q_iret rfl bool_if dX7_isPerson_15 ⟨by simp only [isC_sub (show sN σ 2 < 2 ^ 30 by omega)], rfl⟩
theorem r_isRoom {x : Int32} {I : q_Mem} {σ : q_S} (h : RS I σ) (hB : sB σ) : q_M kX7_isRoom [.ref 356, .int x] I (fun v J => v = some (.int (if isC (sN σ 1) x then 1 else 0)) ∧ I = J) := by
  have h8 := hB.2.1
  refine q_M.of pnX7_isRoom (by simp [Value.category]) (Nat.le_of_ble_eq_true rfl) ?_
  refine q_iload_n dX7_isRoom_0 rfl ?_
  refine q_iconst (v := nI 0) dX7_isRoom_1 (by decide) ?_
  refine q_aload_n dX7_isRoom_2 rfl ?_
  refine q_getR2 (b := 357) fl_RX7_7 rfl k356 rfl dX7_isRoom_3 ?_
  refine q_sipush (v := nI 329) dX7_isRoom_6 (by decide) ?_
  refine q_iald k357 rfl (lt357 (by omega)) (by decide) h.n1 dX7_isRoom_9 ?_
  refine q_iconst (v := nI 1) dX7_isRoom_10 (by decide) ?_
  refine q_isub dX7_isRoom_11 ?_
  refine q_cS (as := [_, _, _]) lk_RX7_32 r_in rfl (by decide) (Nat.le_of_ble_eq_true rfl) dX7_isRoom_12 ?_
  rintro v J ⟨rfl, rfl⟩
  exact q_iret rfl bool_if dX7_isRoom_15 ⟨by simp only [isC_sub (show sN σ 1 < 2 ^ 30 by omega)], rfl⟩
theorem r_isHere {p : Nat} {I : q_Mem} {σ : q_S} (h : RS I σ) (hw : WFc σ) (hp : p < sN σ 2) : q_M kX7_isHere [.ref 356, .int (nI p)] I (fun v J => v = some (.int (if sP σ p 0 = 0 then 0 else 1)) ∧ I = J) := by
  have h30 := hw.B.2.2.1
  have h1 := (hw.pr p).1
  refine q_M.of pnX7_isHere (by simp [Value.category]) (Nat.le_of_ble_eq_true rfl) ?_
  refine q_aload_n dX7_isHere_0 rfl ?_
  refine q_getR2 (b := 357) fl_RX7_7 rfl k356 rfl dX7_isHere_1 ?_
  refine q_iload_n dX7_isHere_4 rfl ?_
  refine q_iconst (v := nI 0) dX7_isHere_5 (by decide) ?_
  refine q_cS (as := [_, _]) lk_RX7_36 r_of rfl (by decide) (Nat.le_of_ble_eq_true rfl) dX7_isHere_6 ?_
  rintro v J ⟨rfl, rfl⟩
  refine q_iald k357 rfl (lt357 (by omega)) (by decide) (h.p hp (j := 0) (by omega)) dX7_isHere_9 ?_
  refine q_iconst (v := nI 1) dX7_isHere_10 (by decide) ?_
  rw [show penc 0 (sP σ p 0) = nI (sP σ p 0) from rfl]
  refine q_icmp_neN (tgt := 18) (by omega) (by omega) dX7_isHere_11 (by decide) (fun q => ?_) (fun q => ?_)
  · refine q_iconst (v := nI 0) dX7_isHere_18 (by decide) ?_
    exact q_iret rfl rfl dX7_isHere_19 ⟨by rw [if_pos (by omega)]; rfl, rfl⟩
  · refine q_iconst (v := nI 1) dX7_isHere_14 (by decide) ?_
    refine q_goto (tgt := 19) dX7_isHere_15 (by decide) ?_
    exact q_iret rfl rfl dX7_isHere_19 ⟨by rw [if_neg (by omega)]; rfl, rfl⟩
theorem r_isOpen {c : Nat} {I : q_Mem} {σ : q_S} (h : RS I σ) (hw : WFc σ) (hc : c < sN σ 0) : q_M kX7_isOpen [.ref 356, .int (nI c)] I (fun v J => v = some (.int (if sC σ c 6 = 1 then 1 else 0)) ∧ I = J) := by
  have h8 := hw.B.1
  have h6 := (hw.cr (show c < 8 by omega)).2.2.2.2.2.2.1
  refine q_M.of pnX7_isOpen (by simp [Value.category]) (Nat.le_of_ble_eq_true rfl) ?_
  refine q_aload_n dX7_isOpen_0 rfl ?_
  refine q_getR2 (b := 357) fl_RX7_7 rfl k356 rfl dX7_isOpen_1 ?_
  refine q_iload_n dX7_isOpen_4 rfl ?_
  refine q_bipush (v := nI 6) dX7_isOpen_5 (by decide) ?_
  refine q_cS (as := [_, _]) lk_RX7_40 r_at rfl (by decide) (Nat.le_of_ble_eq_true rfl) dX7_isOpen_7 ?_
  rintro v J ⟨rfl, rfl⟩
  refine q_iald k357 rfl (lt357 (by omega)) (by decide) (h.c hc (j := 6) (by omega)) dX7_isOpen_10 ?_
  have hz : cenc 6 (sC σ c 6) = 0 ↔ sC σ c 6 = 1 := enc_z (by omega)
  refine q_if_ne (tgt := 18) dX7_isOpen_11 (by decide) (fun q => ?_) (fun q => ?_)
  · refine q_iconst (v := nI 0) dX7_isOpen_18 (by decide) ?_
    exact q_iret rfl rfl dX7_isOpen_19 ⟨by rw [if_neg (fun z => q (hz.mpr z))]; rfl, rfl⟩
  · refine q_iconst (v := nI 1) dX7_isOpen_14 (by decide) ?_
    refine q_goto (tgt := 19) dX7_isOpen_15 (by decide) ?_
    exact q_iret rfl rfl dX7_isOpen_19 ⟨by rw [if_pos (hz.mp q)]; rfl, rfl⟩
theorem r_people {c : Nat} {I : q_Mem} {σ : q_S} (h : RS I σ) (hB : sB σ) (hc : c < sN σ 0) : q_M kX7_people [.ref 356, .int (nI c)] I (fun v J => v = some (.int (nI (sLen σ c))) ∧ I = J) := by
  have h8 := hB.1
  refine q_M.of pnX7_people (by simp [Value.category]) (Nat.le_of_ble_eq_true rfl) ?_
  refine q_aload_n dX7_people_0 rfl ?_
  refine q_getR2 (b := 357) fl_RX7_7 rfl k356 rfl dX7_people_1 ?_
  refine q_iload_n dX7_people_4 rfl ?_
  refine q_bipush (v := nI 10) dX7_people_5 (by decide) ?_
  refine q_cS (as := [_, _]) lk_RX7_40 r_at rfl (by decide) (Nat.le_of_ble_eq_true rfl) dX7_people_7 ?_
  rintro v J ⟨rfl, rfl⟩
  refine q_iald k357 rfl (lt357 (by omega)) (by decide) (h.len hc) dX7_people_10 ?_
  exact q_iret rfl rfl dX7_people_11 ⟨rfl, rfl⟩
theorem r_hasFree {c : Nat} {I : q_Mem} {σ : q_S} (h : RS I σ) (hw : WFc σ) (hc : c < sN σ 0) : q_M kX7_hasFree [.ref 356, .int (nI c)] I (fun v J => v = some (.int (if sC σ c 6 = 1 ∧ sLen σ c < sC σ c 4 then 1 else 0)) ∧ I = J) := by
  have h8 := hw.B.1
  have h4 := (hw.cr (show c < 8 by omega)).2.2.2.2.1
  have hl := hw.len c
  refine q_M.of pnX7_hasFree (by simp [Value.category]) (Nat.le_of_ble_eq_true rfl) ?_
  refine q_aload_n dX7_hasFree_0 rfl ?_
  refine q_iload_n dX7_hasFree_1 rfl ?_
  refine q_cV (as := [_]) lk_RX7_43 (r_isOpen h hw hc) (Or.inl ⟨6, by decide, k356, rfl⟩) rfl (by decide) (Nat.le_of_ble_eq_true rfl) dX7_hasFree_2 ?_
  rintro v J ⟨rfl, rfl⟩
  by_cases e : sC σ c 6 = 1
  · rw [if_pos e]
    refine q_if_eq (tgt := 30) dX7_hasFree_5 (by decide) (fun q => ?_) (fun q => ?_)
    · exact absurd q (by decide)
    refine q_aload_n dX7_hasFree_8 rfl ?_
    refine q_iload_n dX7_hasFree_9 rfl ?_
    refine q_cV (as := [_]) lk_RX7_47 (r_people h hw.B hc) (Or.inl ⟨6, by decide, k356, rfl⟩) rfl (by decide) (Nat.le_of_ble_eq_true rfl) dX7_hasFree_10 ?_
    rintro v J ⟨rfl, rfl⟩
    refine q_aload_n dX7_hasFree_13 rfl ?_
    refine q_getR2 (b := 357) fl_RX7_7 rfl k356 rfl dX7_hasFree_14 ?_
    refine q_iload_n dX7_hasFree_17 rfl ?_
    refine q_iconst (v := nI 4) dX7_hasFree_18 (by decide) ?_
    refine q_cS (as := [_, _]) lk_RX7_40 r_at rfl (by decide) (Nat.le_of_ble_eq_true rfl) dX7_hasFree_19 ?_
    rintro v J ⟨rfl, rfl⟩
    refine q_iald k357 rfl (lt357 (by omega)) (by decide) (h.c hc (j := 4) (by omega)) dX7_hasFree_22 ?_
    rw [show cenc 4 (sC σ c 4) = nI (sC σ c 4) from rfl]
    refine q_icmp_geN (tgt := 30) (by omega) (by omega) dX7_hasFree_23 (by decide) (fun q2 => ?_) (fun q2 => ?_)
    · refine q_iconst (v := nI 0) dX7_hasFree_30 (by decide) ?_
      exact q_iret rfl rfl dX7_hasFree_31 ⟨by rw [if_neg (fun z => by omega)]; rfl, rfl⟩
    · refine q_iconst (v := nI 1) dX7_hasFree_26 (by decide) ?_
      refine q_goto (tgt := 31) dX7_hasFree_27 (by decide) ?_
      exact q_iret rfl rfl dX7_hasFree_31 ⟨by rw [if_pos ⟨e, q2⟩]; rfl, rfl⟩
  · rw [if_neg e, if_neg (fun z => e z.1)]
    refine q_if_eq (tgt := 30) dX7_hasFree_5 (by decide) (fun q => ?_) (fun q => ?_)
    · refine q_iconst (v := nI 0) dX7_hasFree_30 (by decide) ?_
      exact q_iret rfl rfl dX7_hasFree_31 ⟨rfl, rfl⟩
    · exact absurd rfl q
theorem r_rankOf {p w : Nat} {I : q_Mem} {σ : q_S} (h : RS I σ) (hw : WFc σ) (hp : p < sN σ 2) (hw2 : w < 2 ^ 31) : q_M kX7_rankOf [.ref 356, .int (nI p), .int (enc w)] I (fun v J => v = some (.int (nI (srkw σ p w))) ∧ I = J) := by
  have h30 := hw.B.2.2.1
  have h8 := hw.B.1
  obtain ⟨x0, x1, x2, x3, x4, -⟩ := hw.pr p
  have key : ∀ (d k : Nat), k + d = 3 → (∀ i, i < k → ¬ sP σ p (1 + i) = w) → q_X kX7_rankOf 2 [some (.ref 356), some (.int (nI p)), some (.int (enc w)), some (.int (nI k))] [] I (fun v J => v = some (.int (nI (srkw σ p w))) ∧ I = J) := by
    intro d
    induction d with
    | zero =>
      intro k hd hk
      refine q_iload_n dX7_rankOf_2 rfl ?_
      refine q_iconst (v := nI 3) dX7_rankOf_3 (by decide) ?_
      refine q_icmp_geN (tgt := 31) (by omega) (by omega) dX7_rankOf_4 (by decide) (fun q => ?_) (fun q => ?_)
      · refine q_iconst (v := nI 3) dX7_rankOf_31 (by decide) ?_
        have a1 := hk 0 (by omega)
        have a2 := hk 1 (by omega)
        have a3 := hk 2 (by omega)
        exact q_iret rfl rfl dX7_rankOf_32 ⟨by rw [srkw, if_neg (fun z => a1 z.symm), if_neg (fun z => a2 z.symm), if_neg (fun z => a3 z.symm)], rfl⟩
      · omega
    | succ d ih =>
      intro k hd hk
      refine q_iload_n dX7_rankOf_2 rfl ?_
      refine q_iconst (v := nI 3) dX7_rankOf_3 (by decide) ?_
      refine q_icmp_geN (tgt := 31) (by omega) (by omega) dX7_rankOf_4 (by decide) (fun q => ?_) (fun q => ?_)
      · omega
      refine q_aload_n dX7_rankOf_7 rfl ?_
      refine q_getR2 (b := 357) fl_RX7_7 rfl k356 rfl dX7_rankOf_8 ?_
      refine q_iload_n dX7_rankOf_11 rfl ?_
      refine q_iconst (v := nI 1) dX7_rankOf_12 (by decide) ?_
      refine q_iload_n dX7_rankOf_13 rfl ?_
      refine q_iadd dX7_rankOf_14 ?_
      rw [nI_add]
      refine q_cS (as := [_, _]) lk_RX7_36 r_of rfl (by decide) (Nat.le_of_ble_eq_true rfl) dX7_rankOf_15 ?_
      rintro v J ⟨rfl, rfl⟩
      have hb : sP σ p (1 + k) ≤ sN σ 0 := by
        have hk3 : k = 0 ∨ k = 1 ∨ k = 2 := by omega
        rcases hk3 with rfl | rfl | rfl
        · exact x1
        · exact x2
        · exact x3
      have hpe : penc (1 + k) (sP σ p (1 + k)) = enc (sP σ p (1 + k)) := if_pos (by omega)
      refine q_iald k357 rfl (lt357 (by omega)) (by decide) ((h.p hp (j := 1 + k) (by omega)).trans hpe) dX7_rankOf_18 ?_
      refine q_iload_n dX7_rankOf_19 rfl ?_
      have heq : enc (sP σ p (1 + k)) = enc w ↔ sP σ p (1 + k) = w := enc_eq (by omega) hw2
      refine q_icmp_ne (tgt := 25) dX7_rankOf_20 (by decide) (fun q2 => ?_) (fun q2 => ?_)
      · refine q_iinc (ls' := [_, _, _, _]) dX7_rankOf_25 rfl (nI_add _ 1) rfl ?_
        refine q_goto (tgt := 2) dX7_rankOf_28 (by decide) ?_
        refine ih (k + 1) (by omega) (fun i hi => ?_)
        by_cases e : i = k
        · subst e; exact fun z => q2 (heq.mpr z)
        · exact hk i (by omega)
      · refine q_iload_n dX7_rankOf_23 rfl ?_
        have e := heq.mp q2
        have hk3 : k = 0 ∨ k = 1 ∨ k = 2 := by omega
        rcases hk3 with rfl | rfl | rfl
        · exact q_iret rfl rfl dX7_rankOf_24 ⟨by rw [srkw, if_pos e.symm], rfl⟩
        · have a1 := hk 0 (by omega)
          exact q_iret rfl rfl dX7_rankOf_24 ⟨by rw [srkw, if_neg (fun z => a1 z.symm), if_pos e.symm], rfl⟩
        · have a1 := hk 0 (by omega)
          have a2 := hk 1 (by omega)
          exact q_iret rfl rfl dX7_rankOf_24 ⟨by rw [srkw, if_neg (fun z => a1 z.symm), if_neg (fun z => a2 z.symm), if_pos e.symm], rfl⟩
  refine q_M.of pnX7_rankOf (by simp [Value.category]) (Nat.le_of_ble_eq_true rfl) ?_
  refine q_iconst (v := nI 0) dX7_rankOf_0 (by decide) ?_
  refine q_istore_n (ls' := [_, _, _, _]) dX7_rankOf_1 (Nat.le_of_ble_eq_true rfl) rfl ?_
  exact key 3 0 rfl (fun i hi => by omega)
theorem r_rank {p : Nat} {I : q_Mem} {σ : q_S} (h : RS I σ) (hw : WFc σ) (hp : p < sN σ 2) : q_M kX7_rank [.ref 356, .int (nI p)] I (fun v J => v = some (.int (nI (srank σ p))) ∧ I = J) := by
  have h30 := hw.B.2.2.1
  have h8 := hw.B.1
  obtain ⟨x0, x1, x2, x3, x4, -⟩ := hw.pr p
  refine q_M.of pnX7_rank (by simp [Value.category]) (Nat.le_of_ble_eq_true rfl) ?_
  refine q_aload_n dX7_rank_0 rfl ?_
  refine q_getR2 (b := 357) fl_RX7_7 rfl k356 rfl dX7_rank_1 ?_
  refine q_iload_n dX7_rank_4 rfl ?_
  refine q_iconst (v := nI 4) dX7_rank_5 (by decide) ?_
  refine q_cS (as := [_, _]) lk_RX7_36 r_of rfl (by decide) (Nat.le_of_ble_eq_true rfl) dX7_rank_6 ?_
  rintro v J ⟨rfl, rfl⟩
  refine q_iald k357 rfl (lt357 (by omega)) (by decide) (h.p hp (j := 4) (by omega)) dX7_rank_9 ?_
  refine q_istore_n (ls' := [_, _, _]) dX7_rank_10 (Nat.le_of_ble_eq_true rfl) rfl ?_
  refine q_iload_n dX7_rank_11 rfl ?_
  rw [show penc 4 (sP σ p 4) = enc (sP σ p 4) from rfl]
  by_cases e : sP σ p 4 = 0
  · rw [e]
    refine q_if_ge (tgt := 19) dX7_rank_12 (by decide) (fun q => ?_) (fun q => ?_)
    · exact absurd q (by decide)
    · refine q_iconst (v := nI 4) dX7_rank_15 (by decide) ?_
      refine q_goto (tgt := 25) dX7_rank_16 (by decide) ?_
      exact q_iret rfl rfl dX7_rank_25 ⟨by rw [srank, if_pos e], rfl⟩
  · refine q_if_ge (tgt := 19) dX7_rank_12 (by decide) (fun q => ?_) (fun q => ?_)
    · refine q_aload_n dX7_rank_19 rfl ?_
      refine q_iload_n dX7_rank_20 rfl ?_
      refine q_iload_n dX7_rank_21 rfl ?_
      refine q_cV (as := [_, _]) lk_RX7_51 (r_rankOf h hw hp (w := sP σ p 4) (by omega)) (Or.inl ⟨6, by decide, k356, rfl⟩) rfl (by decide) (Nat.le_of_ble_eq_true rfl) dX7_rank_22 ?_
      rintro v J ⟨rfl, rfl⟩
      exact q_iret rfl rfl dX7_rank_25 ⟨by rw [srank, if_neg e]; rfl, rfl⟩
    · exact absurd (by rw [enc, if_neg e]; exact nI_pos' (by omega)) q
