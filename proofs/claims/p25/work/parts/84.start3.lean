/-! THE LAW from its entry -/
theorem n_LH_entry {as : List Value} {n : Nat} (hcat : ∀ v ∈ as, v.category = 1) : n_LH ((as.map Slot.val ++ List.replicate (n - as.length) Slot.unset).toArray) (as.map some ++ List.replicate (n - as.length) none) := by
  refine ⟨by simp, ⟨fun i v hi hc2 => ?_, fun i hi => ?_⟩, fun i v hi => ?_⟩
  · simp only [List.getElem?_toArray] at hi
    have hm := List.mem_of_getElem? hi
    rcases List.mem_append.mp hm with h | h
    · obtain ⟨w, hw, he⟩ := List.mem_map.mp h
      cases he
      rw [hcat _ hw] at hc2
      cases hc2
    · cases List.eq_of_mem_replicate h
  · simp only [List.getElem?_toArray] at hi
    have hm := List.mem_of_getElem? hi
    rcases List.mem_append.mp hm with h | h
    · obtain ⟨w, hw, he⟩ := List.mem_map.mp h
      cases he
    · cases List.eq_of_mem_replicate h
  · have hil : i < as.length := by
      rcases Nat.lt_or_ge i as.length with q | q
      · exact q
      · rw [List.getElem?_append_right (by simpa using q)] at hi
        cases List.eq_of_mem_replicate (List.mem_of_getElem? hi)
    rw [List.getElem?_append_left (by simpa using hil), List.getElem?_map] at hi
    cases ha : as[i]? with
    | none => rw [ha] at hi; cases hi
    | some w =>
      rw [ha] at hi
      cases hi
      refine ⟨hcat _ (List.mem_of_getElem? ha), ?_⟩
      simp only [List.getElem?_toArray]
      rw [List.getElem?_append_left (by simpa using hil), List.getElem?_map, ha]
      rfl
theorem cls_start {s : State} {args : Array Value} (hts : ∀ w ∈ lw_tbl, w.before args s = true) : ∃ D : va_G, ∀ (k : Nat) (q : vw_C), vwCl[k]? = some q → u_Kn s q.1 q.2.1 q.2.2 (D.1 k) (D.2 k) := by
  obtain ⟨c0, i0, h0⟩ := u_known (C := RX0) (T := TX0) (N := 13) (n := 13) hts inX0 (hts (.instantiable RX0 13) (by decide +kernel))
  obtain ⟨c1, i1, h1⟩ := u_known (C := RX1) (T := TX1) (N := 3) (n := 3) hts inX1 (hts (.instantiable RX1 3) (by decide +kernel))
  obtain ⟨c2, i2, h2⟩ := u_known (C := RX2) (T := TX2) (N := 8) (n := 8) hts inX2 (hts (.instantiable RX2 8) (by decide +kernel))
  obtain ⟨c3, i3, h3⟩ := u_known (C := RX3) (T := TX3) (N := 14) (n := 14) hts inX3 (hts (.instantiable RX3 14) (by decide +kernel))
  obtain ⟨c4, i4, h4⟩ := u_known (C := RX4) (T := TX4) (N := 7) (n := 7) hts inX4 (hts (.instantiable RX4 7) (by decide +kernel))
  obtain ⟨c5, i5, h5⟩ := u_known (C := RX6) (T := TX6) (N := 4) (n := 4) hts inX6 (hts (.instantiable RX6 4) (by decide +kernel))
  refine ⟨(fun k => if k = 0 then c0 else if k = 1 then c1 else if k = 2 then c2 else if k = 3 then c3 else if k = 4 then c4 else c5, fun k => if k = 0 then i0 else if k = 1 then i1 else if k = 2 then i2 else if k = 3 then i3 else if k = 4 then i4 else i5), fun k q hq => ?_⟩
  match k, hq with
  | 0, hq => cases hq; exact h0
  | 1, hq => cases hq; exact h1
  | 2, hq => cases hq; exact h2
  | 3, hq => cases hq; exact h3
  | 4, hq => cases hq; exact h4
  | 5, hq => cases hq; exact h5
  | k + 6, hq => simp at hq
theorem arrP {s : State} {args : Array Value} {ty : FieldType} (h : (Cond.arrayClass ty).before args s = true) (ht : ty = .int ∨ ty = .char) : ∃ c, ArrOfT s c ty ∧ va_RA s c ty := by
  obtain ⟨c, kA, comp, h1, h2, h3⟩ := Cond.arrayClass_spec h
  refine ⟨c, fun n z => ⟨(fun k h => by cases h), kA, h2, comp, h3⟩, ?_⟩
  rcases ht with rfl | rfl
  · exact h1
  · exact h1
theorem arrQ {s : State} {args : Array Value} {C : String} (h : (Cond.arrayOver (.object C)).before args s = true) : ∃ c, ArrOfT s c (.object C) ∧ va_RA s c (.object C) := by
  obtain ⟨comp, c, k, h1, h2, h3, h4, h5⟩ := Cond.arrayOver_spec h
  exact ⟨c, fun n z => ⟨(fun k h => by cases h), k, h3, comp, h4⟩, k, comp, h3, h4, h1, h5⟩
theorem arr_start {s : State} {args : Array Value} (hts : ∀ w ∈ lw_tbl, w.before args s = true) : ∃ ca : Nat → ClassId, ∀ (k : Nat) (q : ClassId × FieldType), (n_tys ca)[k]? = some q → ArrOfT s q.1 q.2 ∧ va_RA s q.1 q.2 := by
  obtain ⟨c0, h0⟩ := arrP (hts (.arrayClass .int) (by decide +kernel)) (Or.inl rfl)
  obtain ⟨c1, h1⟩ := arrP (hts (.arrayClass .char) (by decide +kernel)) (Or.inr rfl)
  obtain ⟨c2, h2⟩ := arrQ (hts (.arrayOver (.object RX0)) (by decide +kernel))
  obtain ⟨c3, h3⟩ := arrQ (hts (.arrayOver (.object RX2)) (by decide +kernel))
  obtain ⟨c4, h4⟩ := arrQ (hts (.arrayOver (.object RX3)) (by decide +kernel))
  refine ⟨fun k => if k = 10 then c0 else if k = 11 then c1 else if k = 12 then c2 else if k = 13 then c3 else c4, fun k q hq => ?_⟩
  match k, hq with
  | 0, hq => cases hq; exact h0
  | 1, hq => cases hq; exact h1
  | 2, hq => cases hq; exact h2
  | 3, hq => cases hq; exact h3
  | 4, hq => cases hq; exact h4
  | k + 5, hq => simp at hq
theorem nw_RL_8 : q_wd (.classLink RL 8 (q_C 5)) ∧ q_wd (.instantiable (q_C 5) (q_nf 5)) ∧ q_wd (.initialized (q_C 5)) := by decide +kernel
theorem li_RL_96 : q_lkB RL 96 kX6_init 0 ∧ kX6_init.1.name = "<init>" ∧ q_wd (.instanceMethod kX6_init.1) := by decide +kernel
theorem law_new {D : va_G} {ca : Nat → ClassId} {A : Nat → Prop} {b : Nat} : n_X D ca A kL_law 599000 7301000 (fun pc' ls' st' ws' => pc' = 8 ∧ st' = [] ∧ ∃ ad : Nat → Nat, ls' = [some (.ref b), some (.ref (ad 0)), none, none, none, none, none, none] ∧ ws' = aW ca ad) 0 [some (.ref b), none, none, none, none, none, none, none] [] [] 0 0 := by
  refine n_new (ci := 5) (by decide) nw_RL_8.1 nw_RL_8.2.1 nw_RL_8.2.2 (Nat.le_of_ble_eq_true rfl) (Nat.le_of_ble_eq_true rfl) dL_law_0 (fun x => ?_)
  refine n_dup dL_law_3 rfl ?_
  refine n_cI (As := []) (n := 0) (w0 := []) (wc := [(x, .inr (5, n_z 5))]) li_RL_96 rfl i_Class rfl (by decide) (Nat.le_of_ble_eq_true rfl) (Nat.le_of_ble_eq_true rfl) (Nat.le_of_ble_eq_true rfl) dL_law_4 ?_
  rintro w ⟨f, f0, rfl⟩
  refine n_astore_n (ls' := [_, _, _, _, _, _, _, _]) dL_law_7 (Nat.le_of_ble_eq_true rfl) rfl ?_
  refine n_end ⟨rfl, rfl, f, ?_, rfl⟩
  rw [f0]
/-- from the entry, for every script, the law comes to its end with true -/
theorem whole_start {p : Program} {e : Env} {s : State} {m : MethodId} {below : List Frame} {meth : Method} {c : Code} (l : Launch) (hflags : l.flags = flags0) {b L : Nat} {xs : Nat → Int32} (hL : L ≤ 260) (C0 : lw_At p s m meth c b L xs) : W p l e room_1 s m #[Value.ref b] below meth c s.heap [] 0 0 (lw_Z below #[Value.ref b] s) (entryFrame m ([Value.ref b] : List Value).toArray 8) := by
  obtain ⟨hx, hb, hr, hml, hown, hts, hX, hbl, hlocks, hgv⟩ := id C0
  obtain ⟨D, hKc⟩ := cls_start hts
  obtain ⟨ca, hKa⟩ := arr_start hts
  have hK : va_K D vwCl (n_tys ca) s := ⟨hKc, hKa⟩
  have hN : n_Nx s := ⟨va_Nw.of (A := #[Value.ref b]) rfl (hts _ (by decide +kernel)), va_AO.of (A := #[Value.ref b]) (hts _ (by decide +kernel)), va_AO.of (A := #[Value.ref b]) (hts _ (by decide +kernel)), va_AO.of (A := #[Value.ref b]) (hts _ (by decide +kernel))⟩
  have hNt : q_Nt s := va_Nw.of (A := #[Value.ref b]) rfl (hts _ (by decide +kernel))
  have hA : ∀ a : Nat, a < s.heap.size → ¬ (fun q : Nat => s.heap.size ≤ q) a := fun a h z => Nat.not_le.mpr h z
  have hwd : ∀ w ∈ q_gw, w.before #[Value.ref b] s = true := fun w hw => hts w (List.mem_filter.mp hw).1
  have hcat : ∀ v ∈ [Value.ref b], v.category = 1 := by simp [Value.category]
  rw [entry_eq m [Value.ref b] hcat 8]
  refine law_new (D := D) (ca := ca) (A := fun q : Nat => s.heap.size ≤ q) (b := b) p l e room_1 s m #[Value.ref b] below meth c (lw_Z below #[Value.ref b] s) ⟨hx, hb, hml, hown, hwd, hK, fun q h => h, hN, Nat.le_of_ble_eq_true rfl, Nat.le_of_ble_eq_true rfl, Nat.le_of_ble_eq_true rfl, Nat.le_of_ble_eq_true rfl, fun z => absurd z (by decide)⟩ ?_ s.heap [] _ (Nat.zero_le _) (Nat.zero_le _) (n_LH_entry (n := 8) hcat) (fun k q h => by simp at h) ⟨fun i j p q h => by simp at h, fun k q h => by simp at h⟩ va_S.rf
  intro pc' LS' H' locs' ls' st' ws' hF hL' hP' hD' hS'
  obtain ⟨rfl, rfl, ad, rfl, rfl⟩ := hF
  obtain ⟨ω, hω⟩ : ∃ ω : q_Om, ω = ((fun q : Nat => s.heap.size ≤ q), (fun k => if k < 356 then ad k else b), D, ca, L, xs) := ⟨_, rfl⟩
  have e1 : ∀ j, j < 356 → q_ad ω j = ad j := fun j hj => by rw [hω]; exact if_pos hj
  have e2 : q_ad ω 380 = b := by
    rw [hω]
    show (if (380 : Nat) < 356 then ad 380 else b) = b
    exact if_neg (by decide)
  have eA : q_A ω = fun q : Nat => s.heap.size ≤ q := by rw [hω]
  have eA1 : ω.1 = fun q : Nat => s.heap.size ≤ q := eA
  have eD : q_D ω = D := by rw [hω]
  have eC : q_ca ω = ca := by rw [hω]
  have eL : q_L ω = L := by rw [hω]
  have eX : q_xs ω = xs := by rw [hω]
  clear hω
  have eW : aW ca ad = aW (q_ca ω) (q_ad ω) := by rw [eC]; exact aW_congr (fun j hj => (e1 j hj).symm)
  rw [eW, ← eD] at hP'
  rw [eW, ← eA] at hD'
  rw [← eA] at hS'
  rw [← eD, ← eC] at hK
  have hO : q_Od ω s s.heap := by
    refine ⟨⟨?_, ?_, ?_⟩, hNt⟩
    · rw [e2, eL, eX]; exact hX
    · rw [e2]; exact hbl
    · rw [e2, eA]; exact hA b hbl
  refine law_body (ω := ω) eA1 (by omega) p l e room_1 s m #[Value.ref b] below meth c 599000 7301000 (lw_Z below #[Value.ref b] s) ⟨hx, hb, hml, hown, hwd, hK, q_vD (aW_D hD'), hO, Nat.le_of_ble_eq_true rfl, Nat.le_of_ble_eq_true rfl, Nat.le_of_ble_eq_true rfl, Nat.le_of_ble_eq_true rfl⟩ ⟨Nat.le_of_ble_eq_true rfl, Nat.le_of_ble_eq_true rfl⟩ ?_ H' locs' LS' ?_ (aW_P hP') hS'
  · intro cells' slots' pc1 LS1 H1 locs1 v J hc1 hs1 hRt hQ hP1 hS1
    have hQ : v = some (.int (nI 1)) := hQ
    subst hQ
    rcases hRt with ⟨h1, -⟩ | ⟨x, ty, h1, h2, h3, hd⟩ | ⟨n, h1, h2 | ⟨a, h2⟩, hd⟩
    · cases h1
    · injection h1 with h1
      injection h1 with h1
      subst h1
      refine W.widen hc1 hs1 (va_forget (fun q hq => ?_) (lw_ret (d0 := s.drawn) (Drawn.sameBut.refl s.drawn lw_cs) hx hb hr hlocks hd))
      have := hS1.2.2 q hq
      rw [eA] at this
      exact this
    · cases h2
    · cases h2
  · refine ⟨hL'.1, hL'.2.1, fun i v hi => ?_⟩
    have hi8 : i < 8 := (List.getElem?_eq_some_iff.mp hi).1
    have h8 : i = 0 ∨ i = 1 ∨ i = 2 ∨ i = 3 ∨ i = 4 ∨ i = 5 ∨ i = 6 ∨ i = 7 := by omega
    rcases h8 with rfl | rfl | rfl | rfl | rfl | rfl | rfl | rfl
    · cases hi
      have := hL'.2.2 0 (.ref b) rfl
      refine ⟨rfl, ?_⟩
      show LS'[0]? = some (.val (.ref (q_ad ω 380)))
      rw [e2]
      exact this.2
    · cases hi
      have := hL'.2.2 1 (.ref (ad 0)) rfl
      refine ⟨rfl, ?_⟩
      show LS'[1]? = some (.val (.ref (q_ad ω 0)))
      rw [e1 0 (by omega)]
      exact this.2
    all_goals cases hi
