/-! the constructors -/
theorem n_M.of {D : va_G} {ca : Nat → ClassId} {k : q_MI} {as : List Value} {ws : va_W} {mc ms : Nat} {Q : va_W → Prop} (hy : plainName k.1.cls = true) (hret : k.2.2.2.1 = none) (hname : k.1.name = "<init>") (hcat : ∀ v ∈ as, v.category = 1) (hlen : as.length ≤ k.2.2.1) (hX : ∀ A, n_X D ca A k mc ms (fun pc' _ st' ws' => decode k.2.1 pc' = .ok (.return_, 1) ∧ st' = [] ∧ Q ws') 0 (as.map some ++ List.replicate (k.2.2.1 - as.length) none) [] ws 0 0) : n_M D ca k as ws mc ms Q := by
  intro l sz
  refine Met.ofW (cc := k.2.1) (maxL := k.2.2.1) (ret := k.2.2.2.1) hy rfl ?_
  intro p e s m args below meth c s₁ B hml hv
  obtain ⟨rfl, hsz, hP, hK, hD0, hN⟩ := hv
  have hx := B.exec
  have hb := B.bytes
  have hr := B.returns
  have hts := atoms_spec (ws := q_ws k) B.pre
  have hown : s.vm.findClass k.1.cls = some m.cls := findClass_of_methodNamed B.named
  have hin : meth.name = k.1.name := (name_of_methodNamed B.named B.method).1
  subst hsz
  have hD := hD0.self (sz := s.heap.size)
  rw [entry_eq m as hcat k.2.2.1]
  refine hX (va_A ws s.heap.size) p l e _ s m _ below meth c _ ⟨hx, hb, ?_, hown, fun w hw => hts w (List.mem_cons_of_mem _ hw), hK, fun q h => Or.inr h, hN, Nat.le_refl _, Nat.le_refl _, Nat.le_refl _, Nat.le_refl _, fun z => hin.trans z⟩ ?_ s.heap [] _ (Nat.zero_le _) (Nat.zero_le _) ?_ hP hD va_S.rf
  · rw [hml]
    simp only [List.length_append, List.length_map, List.length_replicate]
    omega
  · intro pc' LS' H' locs' ls' st' ws' hF hL' hP' hD' hS'
    obtain ⟨hd, rfl, hQ⟩ := hF
    exact W.vret hx hb (hr.trans hret) (fun t ht hW => ⟨⟨ws', rfl, hQ, by rw [ht]; exact hP', hD'⟩, hS'.F ht⟩) hS'.2.2 hd
  · refine ⟨by simp, ⟨fun i v hi hc2 => ?_, fun i hi => ?_⟩, fun i v hi => ?_⟩
    · simp only [List.getElem?_toArray] at hi
      have hm := List.mem_of_getElem? hi
      rcases List.mem_append.mp hm with h | h
      · obtain ⟨w, hw, he⟩ := List.mem_map.mp h
        cases he
        rw [hcat _ hw] at hc2
        cases hc2
      · cases List.eq_of_mem_replicate h
    · simp only [List.getElem?_toArray] at hi
      have hm := List.mem_of_getElem? hi
      rcases List.mem_append.mp hm with h | h
      · obtain ⟨w, hw, he⟩ := List.mem_map.mp h
        cases he
      · cases List.eq_of_mem_replicate h
    · have hil : i < as.length := by
        rcases Nat.lt_or_ge i as.length with q | q
        · exact q
        · rw [List.getElem?_append_right (by simpa using q)] at hi
          cases List.eq_of_mem_replicate (List.mem_of_getElem? hi)
      rw [List.getElem?_append_left (by simpa using hil), List.getElem?_map] at hi
      cases ha : as[i]? with
      | none => rw [ha] at hi; cases hi
      | some w =>
        rw [ha] at hi
        cases hi
        refine ⟨hcat _ (List.mem_of_getElem? ha), ?_⟩
        simp only [List.getElem?_toArray]
        rw [List.getElem?_append_left (by simpa using hil), List.getElem?_map, ha]
        rfl
theorem ac_int : q_wd (.arrayClass .int) := by decide +kernel
theorem ac_char : q_wd (.arrayClass .char) := by decide +kernel
theorem oi_X0 : q_wd (.methodLink RX0 3 Lib.objectInit) ∧ q_wd (.instanceMethod Lib.objectInit) ∧ q_wd (.code Lib.objectInit ⟨#[0xb1]⟩ 1 none) := by decide +kernel
theorem oi_X1 : q_wd (.methodLink RX1 3 Lib.objectInit) ∧ q_wd (.instanceMethod Lib.objectInit) ∧ q_wd (.code Lib.objectInit ⟨#[0xb1]⟩ 1 none) := by decide +kernel
theorem oi_X2 : q_wd (.methodLink RX2 3 Lib.objectInit) ∧ q_wd (.instanceMethod Lib.objectInit) ∧ q_wd (.code Lib.objectInit ⟨#[0xb1]⟩ 1 none) := by decide +kernel
theorem oi_X3 : q_wd (.methodLink RX3 3 Lib.objectInit) ∧ q_wd (.instanceMethod Lib.objectInit) ∧ q_wd (.code Lib.objectInit ⟨#[0xb1]⟩ 1 none) := by decide +kernel
theorem oi_X4 : q_wd (.methodLink RX4 3 Lib.objectInit) ∧ q_wd (.instanceMethod Lib.objectInit) ∧ q_wd (.code Lib.objectInit ⟨#[0xb1]⟩ 1 none) := by decide +kernel
theorem oi_X6 : q_wd (.methodLink RX6 1 Lib.objectInit) ∧ q_wd (.instanceMethod Lib.objectInit) ∧ q_wd (.code Lib.objectInit ⟨#[0xb1]⟩ 1 none) := by decide +kernel
theorem nw_RX3_9 : q_wd (.classLink RX3 9 (q_C 0)) ∧ q_wd (.instantiable (q_C 0) (q_nf 0)) ∧ q_wd (.initialized (q_C 0)) := by decide +kernel
theorem nw_RX3_17 : q_wd (.classLink RX3 17 (q_C 2)) ∧ q_wd (.instantiable (q_C 2) (q_nf 2)) ∧ q_wd (.initialized (q_C 2)) := by decide +kernel
theorem nw_RX1_9 : q_wd (.classLink RX1 9 (q_C 3)) ∧ q_wd (.instantiable (q_C 3) (q_nf 3)) ∧ q_wd (.initialized (q_C 3)) := by decide +kernel
theorem nw_RX6_7 : q_wd (.classLink RX6 7 (q_C 3)) ∧ q_wd (.instantiable (q_C 3) (q_nf 3)) ∧ q_wd (.initialized (q_C 3)) := by decide +kernel
theorem nw_RX6_19 : q_wd (.classLink RX6 19 (q_C 1)) ∧ q_wd (.instantiable (q_C 1) (q_nf 1)) ∧ q_wd (.initialized (q_C 1)) := by decide +kernel
theorem nw_RX6_26 : q_wd (.classLink RX6 26 (q_C 4)) ∧ q_wd (.instantiable (q_C 4) (q_nf 4)) ∧ q_wd (.initialized (q_C 4)) := by decide +kernel
theorem li_RX3_27 : q_lkB RX3 27 kX0_init 1 ∧ kX0_init.1.name = "<init>" ∧ q_wd (.instanceMethod kX0_init.1) := by decide +kernel
theorem li_RX3_30 : q_lkB RX3 30 kX2_init 1 ∧ kX2_init.1.name = "<init>" ∧ q_wd (.instanceMethod kX2_init.1) := by decide +kernel
theorem li_RX1_17 : q_lkB RX1 17 kX3_init 0 ∧ kX3_init.1.name = "<init>" ∧ q_wd (.instanceMethod kX3_init.1) := by decide +kernel
theorem li_RX6_9 : q_lkB RX6 9 kX3_init 0 ∧ kX3_init.1.name = "<init>" ∧ q_wd (.instanceMethod kX3_init.1) := by decide +kernel
theorem li_RX6_21 : q_lkB RX6 21 kX1_init 0 ∧ kX1_init.1.name = "<init>" ∧ q_wd (.instanceMethod kX1_init.1) := by decide +kernel
/-- the fields behind the constructors -/
def fsC (n : Int32) (q : Nat) : List Value := [.int n, .ref q, .int 0, .int 0, .int 0, .int 0, .int 0, .int 0, .int (-1), .int 0, .int (-1), .int (-1), .int 0]
def fsP (n : Int32) : List Value := [.int n, .int 0, .int (-1), .int 0, .int 0, .int (-1), .int (-1), .int (-1)]
def fsT (a b : Nat) : List Value := [.ref a, .ref b, .int 0, .int 0, .int 0, .int 0, .int 0]
def fsS (a b c : Nat) : List Value := [.ref a, .ref b, .ref c, .int 0, .int 0, .int 0, .int 0, .int 0, .int 0, .int 0, .int 0, .int 0, .int 0, .int 0]
def fsH (a : Nat) : List Value := [.ref a, .int 0, .int 0]
def fsX (a b c d : Nat) : List Value := [.ref a, .ref b, .ref c, .ref d]
abbrev eI (ca : Nat → ClassId) (n : Nat) : va_E := .inl (ca 10, n, .inl (fun _ => 0))
theorem i_Course {D : va_G} {ca : Nat → ClassId} {h0 : Nat} {n : Int32} : n_M D ca kX0_init [.ref h0, .int n] [(h0, .inr (0, n_z 0))] 1 20 (fun w => ∃ q, w = [(h0, .inr (0, fsC n q)), (q, eI ca 20)]) := by
  refine n_M.of pnX0_init rfl rfl (by simp [Value.category]) (Nat.le_of_ble_eq_true rfl) (fun A => ?_)
  refine n_aload_n dX0_init_0 rfl ?_
  refine n_objInit oi_X0 (Nat.le_of_ble_eq_true rfl) (Nat.le_of_ble_eq_true rfl) dX0_init_1 ?_
  refine n_aload_n dX0_init_4 rfl ?_
  refine n_bipush (v := nI 20) dX0_init_5 (by decide) ?_
  refine n_newI ac_int rfl (by decide) (by decide) (by decide) dX0_init_7 (fun q => ?_)
  refine n_putF (q0 := 0) fl_RX0_9 rfl rfl rfl rfl ⟨rfl, rfl⟩ (Nat.le_of_ble_eq_true rfl) dX0_init_9 ?_
  refine n_aload_n dX0_init_12 rfl ?_
  refine n_iconst (v := -1) dX0_init_13 (by decide) ?_
  refine n_putI (q0 := 0) fl_RX0_15 rfl rfl ⟨rfl, rfl⟩ (Nat.le_of_ble_eq_true rfl) dX0_init_14 ?_
  refine n_aload_n dX0_init_17 rfl ?_
  refine n_iconst (v := -1) dX0_init_18 (by decide) ?_
  refine n_putI (q0 := 0) fl_RX0_19 rfl rfl ⟨rfl, rfl⟩ (Nat.le_of_ble_eq_true rfl) dX0_init_19 ?_
  refine n_aload_n dX0_init_22 rfl ?_
  refine n_iconst (v := -1) dX0_init_23 (by decide) ?_
  refine n_putI (q0 := 0) fl_RX0_22 rfl rfl ⟨rfl, rfl⟩ (Nat.le_of_ble_eq_true rfl) dX0_init_24 ?_
  refine n_aload_n dX0_init_27 rfl ?_
  refine n_iload_n dX0_init_28 rfl ?_
  refine n_putF (q0 := 0) fl_RX0_25 rfl rfl rfl rfl ⟨rfl, rfl⟩ (Nat.le_of_ble_eq_true rfl) dX0_init_29 ?_
  exact n_end ⟨dX0_init_32, rfl, q, rfl⟩
theorem i_Person {D : va_G} {ca : Nat → ClassId} {h0 : Nat} {n : Int32} : n_M D ca kX2_init [.ref h0, .int n] [(h0, .inr (2, n_z 2))] 0 0 (fun w => w = [(h0, .inr (2, fsP n))]) := by
  refine n_M.of pnX2_init rfl rfl (by simp [Value.category]) (Nat.le_of_ble_eq_true rfl) (fun A => ?_)
  refine n_aload_n dX2_init_0 rfl ?_
  refine n_objInit oi_X2 (Nat.le_of_ble_eq_true rfl) (Nat.le_of_ble_eq_true rfl) dX2_init_1 ?_
  refine n_aload_n dX2_init_4 rfl ?_
  refine n_iconst (v := -1) dX2_init_5 (by decide) ?_
  refine n_putI (q0 := 0) fl_RX2_9 rfl rfl ⟨rfl, rfl⟩ (Nat.le_of_ble_eq_true rfl) dX2_init_6 ?_
  refine n_aload_n dX2_init_9 rfl ?_
  refine n_iconst (v := -1) dX2_init_10 (by decide) ?_
  refine n_putI (q0 := 0) fl_RX2_15 rfl rfl ⟨rfl, rfl⟩ (Nat.le_of_ble_eq_true rfl) dX2_init_11 ?_
  refine n_aload_n dX2_init_14 rfl ?_
  refine n_iconst (v := -1) dX2_init_15 (by decide) ?_
  refine n_putI (q0 := 0) fl_RX2_18 rfl rfl ⟨rfl, rfl⟩ (Nat.le_of_ble_eq_true rfl) dX2_init_16 ?_
  refine n_aload_n dX2_init_19 rfl ?_
  refine n_iconst (v := -1) dX2_init_20 (by decide) ?_
  refine n_putI (q0 := 0) fl_RX2_21 rfl rfl ⟨rfl, rfl⟩ (Nat.le_of_ble_eq_true rfl) dX2_init_21 ?_
  refine n_aload_n dX2_init_24 rfl ?_
  refine n_iload_n dX2_init_25 rfl ?_
  refine n_putF (q0 := 0) fl_RX2_24 rfl rfl rfl rfl ⟨rfl, rfl⟩ (Nat.le_of_ble_eq_true rfl) dX2_init_26 ?_
  exact n_end ⟨dX2_init_29, rfl, rfl⟩
theorem i_Text {D : va_G} {ca : Nat → ClassId} {h0 : Nat} : n_M D ca kX4_init [.ref h0] [(h0, .inr (4, n_z 4))] 2 64 (fun w => ∃ a b, w = [(h0, .inr (4, fsT a b)), (a, .inl (ca 11, 60, .inl (fun _ => 0))), (b, eI ca 4)]) := by
  refine n_M.of pnX4_init rfl rfl (by simp [Value.category]) (Nat.le_of_ble_eq_true rfl) (fun A => ?_)
  refine n_aload_n dX4_init_0 rfl ?_
  refine n_objInit oi_X4 (Nat.le_of_ble_eq_true rfl) (Nat.le_of_ble_eq_true rfl) dX4_init_1 ?_
  refine n_aload_n dX4_init_4 rfl ?_
  refine n_bipush (v := nI 60) dX4_init_5 (by decide) ?_
  refine n_newC ac_char rfl (by decide) (by decide) (by decide) dX4_init_7 (fun a => ?_)
  refine n_putF (q0 := 0) fl_RX4_9 rfl rfl rfl rfl ⟨rfl, rfl⟩ (Nat.le_of_ble_eq_true rfl) dX4_init_9 ?_
  refine n_aload_n dX4_init_12 rfl ?_
  refine n_iconst (v := nI 4) dX4_init_13 (by decide) ?_
  refine n_newI ac_int rfl (by decide) (by decide) (by decide) dX4_init_14 (fun b => ?_)
  refine n_putF (q0 := 0) fl_RX4_15 rfl rfl rfl rfl ⟨rfl, rfl⟩ (Nat.le_of_ble_eq_true rfl) dX4_init_16 ?_
  exact n_end ⟨dX4_init_19, rfl, a, b, rfl⟩