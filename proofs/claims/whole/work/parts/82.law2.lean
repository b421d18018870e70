/-! THE LAW's start: what was there, what is made -/
theorem xW_congr {ca : Nat → ClassId} {f g : Nat → Nat} (h : ∀ j, j < 356 → f j = g j) : xW ca f = xW ca g := by
  unfold xW
  rw [sW_congr (fun j hj => h (1 + j) (by omega)), sW_congr (fun j hj => h (51 + j) (by omega)), hW_congr (fun j hj => h (101 + j) (by omega)), tW_congr (fun j hj => h (353 + j) (by omega)), h 0 (by omega), h 1 (by omega), h 51 (by omega), h 101 (by omega), h 353 (by omega)]
theorem law_new {D : va_G} {ca : Nat → ClassId} {A : Nat → Prop} {b : Nat} : n_X D ca A kL_law 600000 7302250 (fun pc' ls' st' ws' => pc' = 18 ∧ st' = [] ∧ ∃ ad : Nat → Nat, ls' = [some (.ref b), some (.ref (ad 0)), some (.ref (ad 356)), some (.int (nI 0))] ∧ ws' = aW ca ad) 0 [some (.ref b), none, none, none] [] [] 0 0 := by
  refine n_new (ci := 5) (by decide) nw_RL_7.1 nw_RL_7.2.1 nw_RL_7.2.2 (Nat.le_of_ble_eq_true rfl) (Nat.le_of_ble_eq_true rfl) dL_law_0 (fun x => ?_)
  refine n_dup dL_law_3 rfl ?_
  refine n_cI (As := []) (n := 0) (w0 := []) (wc := [(x, .inr (5, n_z 5))]) li_RL_9 rfl i_Class rfl (by decide) (Nat.le_of_ble_eq_true rfl) (Nat.le_of_ble_eq_true rfl) (Nat.le_of_ble_eq_true rfl) dL_law_4 ?_
  rintro w ⟨f, f0, rfl⟩
  refine n_astore_n (ls' := [_, _, _, _]) dL_law_7 (Nat.le_of_ble_eq_true rfl) rfl ?_
  refine n_new (ci := 6) (by decide) nw_RL_10.1 nw_RL_10.2.1 nw_RL_10.2.2 (Nat.le_of_ble_eq_true rfl) (Nat.le_of_ble_eq_true rfl) dL_law_8 (fun m => ?_)
  refine n_dup dL_law_11 rfl ?_
  refine n_cI (As := []) (n := 0) (wc := [(m, .inr (6, n_z 6))]) li_RL_12 rfl i_Model rfl (by decide) (Nat.le_of_ble_eq_true rfl) (Nat.le_of_ble_eq_true rfl) (Nat.le_of_ble_eq_true rfl) dL_law_12 ?_
  rintro w ⟨a1, a2, a3, a4, a5, rfl⟩
  refine n_astore_n (ls' := [_, _, _, _]) dL_law_15 (Nat.le_of_ble_eq_true rfl) rfl ?_
  refine n_iconst (v := nI 0) dL_law_16 (by decide) ?_
  refine n_istore_n (ls' := [_, _, _, _]) dL_law_17 (Nat.le_of_ble_eq_true rfl) rfl ?_
  obtain ⟨g, hg⟩ : ∃ g : Nat → Nat, g = fun j => if j < 356 then f j else if j = 356 then m else if j = 357 then a1 else if j = 358 then a2 else if j = 359 then a3 else if j = 360 then a4 else a5 := ⟨_, rfl⟩
  have g1 : ∀ j, j < 356 → g j = f j := fun j hj => by rw [hg]; exact if_pos hj
  have hm : mW ca (fun j => g (356 + j)) = [(m, .inr (6, fsM a1 a2 a3 a4 a5)), (a1, eI ca 554), (a2, eI ca 554), (a3, eI ca 2216), (a4, eI ca 60), (a5, eI ca 4)] := by rw [hg]; rfl
  refine n_end ⟨rfl, rfl, g, ?_, ?_⟩
  · rw [g1 0 (by omega), f0, show g 356 = m by rw [hg]; rfl]
  · unfold aW
    rw [hm, xW_congr g1]
    rfl
/-- where the texts of the words lie in their class's pool -/
def tmW (i : Nat) : Term := .string "EveningClasses$Word" ([50, 56, 59, 62, 65].getD i 0)
theorem five {P : Nat → Prop} (h0 : P 0) (h1 : P 1) (h2 : P 2) (h3 : P 3) (h4 : P 4) : ∀ i, i < 5 → P i := by
  intro i hi
  have h : i = 0 ∨ i = 1 ∨ i = 2 ∨ i = 3 ∨ i = 4 := by omega
  rcases h with rfl | rfl | rfl | rfl | rfl
  · exact h0
  · exact h1
  · exact h2
  · exact h3
  · exact h4
def Od0 (old : Nat → Nat) (A : Nat → Prop) (U : State) (H : Heap) : Prop :=
  va_Z "EveningClasses" "WORDS" "[LEveningClasses$Word;" (.ref (old 362)) A U H ∧
  va_T (.object "EveningClasses$Word") (old 362) 5 (fun j => .ref (old (363 + j))) A U H ∧
  va_En "EveningClasses$Word" "LEveningClasses$Word;" q_EN q_EF (fun i => old (363 + i)) A U H ∧
  va_Ef 5 "EveningClasses$Word" "letters" "Ljava/lang/String;" (fun i => .ref (old (368 + i))) (fun i => old (363 + i)) A U H ∧
  vk_S 5 q_lens q_byts (fun i => old (368 + i)) (fun i => old (373 + i)) A U H ∧
  va_Z "java/lang/String" "COMPACT_STRINGS" "Z" (.int 1) A U H ∧
  (va_Z "jdk/internal/util/Preconditions" "SIOOBE_FORMATTER" "Ljava/util/function/BiFunction;" .null A U H ∨ va_Z "jdk/internal/util/Preconditions" "SIOOBE_FORMATTER" "Ljava/util/function/BiFunction;" (.ref (old 381)) A U H)
theorem od_start {s : State} {b : Nat} {A : Nat → Prop} (hts : ∀ w ∈ lw_tbl, w.before #[Value.ref b] s = true) (hgv : (Jvm.Cond.and given_1 narrow_1).before #[Value.ref b] s = true) (hA : ∀ a : Nat, a < s.heap.size → ¬ A a) : ∃ old : Nat → Nat, old 380 = b ∧ Od0 old A s s.heap := by
  have hs := flat_of_before _ hgv
  obtain ⟨en, hEn, hev⟩ := va_Enof2 (args := #[Value.ref b]) (s := s) (E := "EveningClasses$Word") (d := "LEveningClasses$Word;") (nm := q_EN) (F := q_EF) (A := A)
    (five (hts _ (by decide +kernel)) (hts _ (by decide +kernel)) (hts _ (by decide +kernel)) (hts _ (by decide +kernel)) (hts _ (by decide +kernel)))
    (hts _ (by decide +kernel))
    (five (hs _ (by decide +kernel)) (hs _ (by decide +kernel)) (hs _ (by decide +kernel)) (hs _ (by decide +kernel)) (hs _ (by decide +kernel)))
    (fun q hq => by
      have h2 : q = ("EveningClasses$Word", "leastNumbers", "I", [1, 2, 1, 0, 0]) ∨ q = ("EveningClasses$Word", "mostNumbers", "I", [3, 4, 1, 0, 0]) := by
        rcases List.mem_cons.mp hq with h | h
        · exact Or.inl h
        · exact Or.inr (List.mem_singleton.mp h)
      rcases h2 with rfl | rfl
      · exact five (hs _ (by decide +kernel)) (hs _ (by decide +kernel)) (hs _ (by decide +kernel)) (hs _ (by decide +kernel)) (hs _ (by decide +kernel))
      · exact five (hs _ (by decide +kernel)) (hs _ (by decide +kernel)) (hs _ (by decide +kernel)) (hs _ (by decide +kernel)) (hs _ (by decide +kernel)))
    (fun i j hi hj hij => by
      have hi : i < 5 := hi
      have hj : j < 5 := hj
      have hi5 : i = 0 ∨ i = 1 ∨ i = 2 ∨ i = 3 ∨ i = 4 := by omega
      have hj5 : j = 0 ∨ j = 1 ∨ j = 2 ∨ j = 3 ∨ j = 4 := by omega
      rcases hi5 with rfl | rfl | rfl | rfl | rfl <;> rcases hj5 with rfl | rfl | rfl | rfl | rfl <;> first | exact absurd rfl hij | exact Or.inl (hs _ (by decide +kernel)) | exact Or.inr (hs _ (by decide +kernel)))
    hA
  obtain ⟨tk, tv, hS, htk⟩ := vk_Sof (args := #[Value.ref b]) (s := s) (N := 5) (tm := tmW) (len := q_lens) (byt := q_byts) (A := A)
    (by decide)
    (five (hs _ (by decide +kernel)) (hs _ (by decide +kernel)) (hs _ (by decide +kernel)) (hs _ (by decide +kernel)) (hs _ (by decide +kernel)))
    (five (hs _ (by decide +kernel)) (hs _ (by decide +kernel)) (hs _ (by decide +kernel)) (hs _ (by decide +kernel)) (hs _ (by decide +kernel)))
    (five (hs _ (by decide +kernel)) (hs _ (by decide +kernel)) (hs _ (by decide +kernel)) (hs _ (by decide +kernel)) (hs _ (by decide +kernel)))
    (five (hs _ (by decide +kernel)) (hs _ (by decide +kernel)) (hs _ (by decide +kernel)) (hs _ (by decide +kernel)) (hs _ (by decide +kernel)))
    (fun i hi j hj => by
      have hi5 : i = 0 ∨ i = 1 ∨ i = 2 ∨ i = 3 ∨ i = 4 := by omega
      have hjw : j < wll i := hj
      have hj5 : j = 0 ∨ j = 1 ∨ j = 2 ∨ j = 3 ∨ j = 4 := by have := wll_le i hi; omega
      rcases hi5 with rfl | rfl | rfl | rfl | rfl <;> rcases hj5 with rfl | rfl | rfl | rfl | rfl <;> first | exact absurd hj (by decide) | exact hs _ (by decide +kernel))
    (fun i j hi hj hij => by
      have hi5 : i = 0 ∨ i = 1 ∨ i = 2 ∨ i = 3 ∨ i = 4 := by omega
      have hj5 : j = 0 ∨ j = 1 ∨ j = 2 ∨ j = 3 ∨ j = 4 := by omega
      rcases hi5 with rfl | rfl | rfl | rfl | rfl <;> rcases hj5 with rfl | rfl | rfl | rfl | rfl <;> first | exact absurd rfl hij | exact Or.inl (hs _ (by decide +kernel)) | exact Or.inr (hs _ (by decide +kernel)))
    hA
  obtain ⟨w0, hw0, hT⟩ := va_Tof (args := #[Value.ref b]) (s := s) (tm := .static "EveningClasses" "WORDS" "[LEveningClasses$Word;") (ty := .object "EveningClasses$Word") (N := 5) (f := fun j => .ref (en j)) (A := A) (by decide) (hs _ (by decide +kernel)) (va_eqt (hs _ (by decide +kernel)))
    (five (va_eqv (hs _ (by decide +kernel)) (hev 0 (by decide))) (va_eqv (hs _ (by decide +kernel)) (hev 1 (by decide))) (va_eqv (hs _ (by decide +kernel)) (hev 2 (by decide))) (va_eqv (hs _ (by decide +kernel)) (hev 3 (by decide))) (va_eqv (hs _ (by decide +kernel)) (hev 4 (by decide)))) hA
  have hEf := va_Efof (args := #[Value.ref b]) (s := s) (N := 5) (E := "EveningClasses$Word") (d0 := "LEveningClasses$Word;") (o := "EveningClasses$Word") (n := "letters") (d := "Ljava/lang/String;") (nm := q_EN) (v := fun i => .ref (tk i)) (tm := tmW) (ad := en) (A := A) (fun i hi => hev i hi)
    (five (hs _ (by decide +kernel)) (hs _ (by decide +kernel)) (hs _ (by decide +kernel)) (hs _ (by decide +kernel)) (hs _ (by decide +kernel))) (fun i hi => htk i hi) hA
  have hZ : va_Z "EveningClasses" "WORDS" "[LEveningClasses$Word;" (.ref w0) A s s.heap := va_Zof (hts _ (by decide +kernel)) (hts _ (by decide +kernel)) hw0 hA
  have hCS : va_Z "java/lang/String" "COMPACT_STRINGS" "Z" (.int 1) A s s.heap := va_Zof (args := #[Value.ref b]) (hts _ (by decide +kernel)) (hts _ (by decide +kernel)) (va_eqt (hs _ (by decide +kernel))) hA
  have hq : va_Zq "jdk/internal/util/Preconditions" "SIOOBE_FORMATTER" "Ljava/util/function/BiFunction;" A s s.heap := va_Zqof (args := #[Value.ref b]) (hts _ (by decide +kernel)) (hts _ (by decide +kernel)) (hs _ (by decide +kernel)) hA
  obtain ⟨q, hq⟩ : ∃ q : Nat, va_Z "jdk/internal/util/Preconditions" "SIOOBE_FORMATTER" "Ljava/util/function/BiFunction;" .null A s s.heap ∨ va_Z "jdk/internal/util/Preconditions" "SIOOBE_FORMATTER" "Ljava/util/function/BiFunction;" (.ref q) A s s.heap := by
    rcases hq with h | ⟨t, h⟩
    · exact ⟨0, Or.inl h⟩
    · exact ⟨t, Or.inr h⟩
  obtain ⟨old, ho⟩ : ∃ old : Nat → Nat, old = fun k => if k = 362 then w0 else if k < 368 then en (k - 363) else if k < 373 then tk (k - 368) else if k < 380 then tv (k - 373) else if k = 380 then b else q := ⟨_, rfl⟩
  have o1 : old 362 = w0 := by rw [ho]; rfl
  have o2 : ∀ i, i < 5 → old (363 + i) = en i := five (by rw [ho]; rfl) (by rw [ho]; rfl) (by rw [ho]; rfl) (by rw [ho]; rfl) (by rw [ho]; rfl)
  have o3 : ∀ i, i < 5 → old (368 + i) = tk i := five (by rw [ho]; rfl) (by rw [ho]; rfl) (by rw [ho]; rfl) (by rw [ho]; rfl) (by rw [ho]; rfl)
  have o4 : ∀ i, i < 5 → old (373 + i) = tv i := five (by rw [ho]; rfl) (by rw [ho]; rfl) (by rw [ho]; rfl) (by rw [ho]; rfl) (by rw [ho]; rfl)
  have o5 : old 381 = q := by rw [ho]; rfl
  refine ⟨old, by rw [ho]; rfl, by rw [o1]; exact hZ, ?_, ?_, ?_, ?_, hCS, by rw [o5]; exact hq⟩
  · obtain ⟨cell, t1, t2, t3, t4, t5, t6, t7⟩ := hT
    rw [o1]
    exact ⟨cell, t1, t2, t3, t4, t5, fun j hj => by show cell.slots[j]? = some (.ref (old (363 + j))); rw [o2 j hj]; exact t6 j hj, t7⟩
  · refine ⟨fun i hi => ?_, fun i j hi hj e => hEn.2 i j hi hj (by have e : old (363 + i) = old (363 + j) := e; rw [o2 i hi, o2 j hj] at e; exact e)⟩
    show va_Z _ _ _ (.ref (old (363 + i))) A s s.heap ∧ va_O _ (old (363 + i)) A s s.heap ∧ ∀ q ∈ q_EF, va_OF q.1 q.2.1 q.2.2.1 (.int (q.2.2.2.getD i 0)) (old (363 + i)) A s s.heap
    rw [o2 i hi]
    exact hEn.1 i hi
  · intro i hi
    show va_OF _ _ _ (.ref (old (368 + i))) (old (363 + i)) A s s.heap
    rw [o2 i hi, o3 i hi]
    exact hEf i hi
  · refine ⟨fun i hi => ?_, fun i j hi hj e => hS.2 i j hi hj (by have e : old (368 + i) = old (368 + j) := e; rw [o3 i hi, o3 j hj] at e; exact e)⟩
    show va_O _ (old (368 + i)) A s s.heap ∧ va_OF _ _ _ (.int 0) (old (368 + i)) A s s.heap ∧ va_OF _ _ _ (.ref (old (373 + i))) (old (368 + i)) A s s.heap ∧ va_T .byte (old (373 + i)) (q_lens.getD i 0) _ A s s.heap
    rw [o3 i hi, o4 i hi]
    exact hS.1 i hi
