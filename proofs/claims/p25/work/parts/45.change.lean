/-! the class's changes -/
/-- the states behind a call that answered x -/
def hst (x : Int32) (σ : q_S) (hs : List q_S) : List q_S := if x < 0 then hs else (σ :: hs).take 4
/-- the class: its season, the states before it, its text -/
def RG (I : q_Mem) (σ : q_S) (hs : List q_S) (t : List Nat) : Prop :=
  RC 1 I σ ∧ (∃ τ, RC 51 I τ) ∧ RT I t ∧ ∃ n, n < 5 ∧ I 101 1 = nI n ∧ I 101 2 = nI hs.length ∧ hs.length ≤ 4 ∧ (∀ m, m < 5 → ∃ τ, RC (103 + 50 * m) I τ) ∧ ∀ i τ, hs[i]? = some τ → RC (103 + 50 * ((n + 4 - i) % 5)) I τ
/-- .. behind note -/
def RN (n : Nat) (I : q_Mem) (σ0 : q_S) (hs : List q_S) (t : List Nat) (σ : q_S) : Prop :=
  RC 1 I σ ∧ (∃ τ, RC 51 I τ) ∧ RT I t ∧ I 101 1 = nI n ∧ I 101 2 = nI hs.length ∧ hs.length ≤ 4 ∧ (∀ m, m < 5 → ∃ τ, RC (103 + 50 * m) I τ) ∧ (∀ i τ, hs[i]? = some τ → RC (103 + 50 * ((n + 4 - i) % 5)) I τ) ∧ RC (103 + 50 * n) I σ0
def FO (I J : q_Mem) : Prop := ∀ a, 356 ≤ a → J a = I a
theorem FO.rf {I : q_Mem} : FO I I := fun _ _ => rfl
theorem FO.tr {I J K : q_Mem} (h : FO I J) (h2 : FO J K) : FO I K := fun a ha => (h2 a ha).trans (h a ha)
theorem RT.fr {I J : q_Mem} {t : List Nat} (h : RT I t) (h1 : J 353 = I 353) (h2 : J 354 = I 354) : RT J t := ⟨by rw [h1]; exact h.1, fun i c hc => by rw [h2]; exact h.2 i c hc⟩
theorem g_ltA {α : Type} {l : List α} {r n : Nat} {v : α} (h : l[r]? = some v) (hn : l.length ≤ n) : r < n := by
  rcases Nat.lt_or_ge r l.length with q | q
  · omega
  · rw [List.getElem?_eq_none q] at h; cases h
/-- what the season at 1 doesn't reach stays -/
theorem RG.note {n : Nat} {I J : q_Mem} {σ : q_S} {hs : List q_S} {t : List Nat} (h0 : RC 1 I σ) (h1 : ∃ τ, RC 51 I τ) (h2 : RT I t) (hn : n < 5) (h3 : I 101 1 = nI n) (h4 : I 101 2 = nI hs.length) (h5 : hs.length ≤ 4) (h6 : ∀ m, m < 5 → ∃ τ, RC (103 + 50 * m) I τ) (h7 : ∀ i τ, hs[i]? = some τ → RC (103 + 50 * ((n + 4 - i) % 5)) I τ)
    (g1 : RC (103 + 50 * n) J σ) (g2 : FC (103 + 50 * n) I J) : RN n J σ hs t σ ∧ FO I J := by
  have e : ∀ a, (a < 103 + 50 * n ∨ 103 + 50 * n + 50 ≤ a) → J a = I a := g2
  obtain ⟨τ, hτ⟩ := h1
  refine ⟨⟨h0.fr (fun a a1 a2 => e a (by omega)), ⟨τ, hτ.fr (fun a a1 a2 => e a (by omega))⟩, h2.fr (e 353 (by omega)) (e 354 (by omega)), by rw [e 101 (by omega)]; exact h3, by rw [e 101 (by omega)]; exact h4, h5, fun m hm => ?_, fun i τ hi => ?_, g1⟩, fun a ha => e a (by omega)⟩
  · by_cases q : m = n
    · subst q; exact ⟨σ, g1⟩
    · obtain ⟨τ, hτ⟩ := h6 m hm
      exact ⟨τ, hτ.fr (fun a a1 a2 => e a (by omega))⟩
  · have hi4 := g_ltA hi h5
    have : ¬ (n + 4 - i) % 5 = n := by omega
    exact (h7 i τ hi).fr (fun a a1 a2 => e a (by omega))
theorem RN.op {n : Nat} {I J : q_Mem} {σ0 σ σ' : q_S} {hs : List q_S} {t : List Nat} (h : RN n I σ0 hs t σ) (g1 : RC 1 J σ') (g2 : FC 1 I J) : RN n J σ0 hs t σ' ∧ FO I J := by
  obtain ⟨h0, ⟨τ, hτ⟩, h2, h3, h4, h5, h6, h7, h8⟩ := h
  have e : ∀ a, 51 ≤ a → J a = I a := fun a ha => g2 a (by omega)
  exact ⟨⟨g1, ⟨τ, hτ.fr (fun a a1 a2 => e a (by omega))⟩, h2.fr (e 353 (by omega)) (e 354 (by omega)), by rw [e 101 (by omega)]; exact h3, by rw [e 101 (by omega)]; exact h4, h5, fun m hm => (h6 m hm).imp (fun τ hτ => hτ.fr (fun a a1 a2 => e a (by omega))), fun i τ hi => (h7 i τ hi).fr (fun a a1 a2 => e a (by omega)), h8.fr (fun a a1 a2 => e a (by omega))⟩, fun a ha => e a (by omega)⟩
theorem RN.keep {n : Nat} {x : Int32} {I J : q_Mem} {σ0 σ : q_S} {hs : List q_S} {t : List Nat} (hn : n < 5) (h : RN n I σ0 hs t σ) (hJ : J = if x < 0 then I else q_up (q_up I 101 1 (nI ((n + 1) % 5))) 101 2 (nI (min (hs.length + 1) 4))) : RG J σ (hst x σ0 hs) t ∧ FO I J := by
  obtain ⟨h0, h1, h2, h3, h4, h5, h6, h7, h8⟩ := h
  by_cases q : x < 0
  · rw [if_pos q] at hJ
    subst hJ
    rw [hst, if_pos q]
    exact ⟨⟨h0, h1, h2, n, hn, h3, h4, h5, h6, h7⟩, FO.rf⟩
  · rw [if_neg q] at hJ
    rw [hst, if_neg q]
    have e : ∀ a, ¬ a = 101 → J a = I a := fun a ha => by
      rw [hJ]; funext j; rw [q_up_n (fun z => ha z.1), q_up_n (fun z => ha z.1)]
    have e1 : J 101 1 = nI ((n + 1) % 5) := by rw [hJ, q_up_n (by omega), q_up_s]
    have e2 : J 101 2 = nI (min (hs.length + 1) 4) := by rw [hJ, q_up_s]
    have hl : ((σ0 :: hs).take 4).length = min (hs.length + 1) 4 := by rw [List.length_take, List.length_cons]; omega
    obtain ⟨τ, hτ⟩ := h1
    refine ⟨⟨h0.fr (fun a a1 a2 => e a (by omega)), ⟨τ, hτ.fr (fun a a1 a2 => e a (by omega))⟩, h2.fr (e 353 (by omega)) (e 354 (by omega)), (n + 1) % 5, by omega, e1, by rw [hl]; exact e2, by omega, fun m hm => (h6 m hm).imp (fun τ hτ => hτ.fr (fun a a1 a2 => e a (by omega))), fun i τ hi => ?_⟩, fun a ha => e a (by omega)⟩
    have hi4 : i < 4 := g_ltA hi (by omega)
    rw [List.getElem?_take_of_lt hi4] at hi
    cases i with
    | zero =>
      have hi : some σ0 = some τ := hi
      injection hi with hi
      subst hi
      rw [show ((n + 1) % 5 + 4 - 0) % 5 = n by omega]
      exact h8.fr (fun a a1 a2 => e a (by omega))
    | succ i =>
      have hi : hs[i]? = some τ := hi
      rw [show ((n + 1) % 5 + 4 - (i + 1)) % 5 = (n + 4 - i) % 5 by omega]
      exact (h7 i τ hi).fr (fun a a1 a2 => e a (by omega))
theorem c_course {k l m f : Int32} {I : q_Mem} {σ : q_S} {hs : List q_S} {t : List Nat} (h : RG I σ hs t) (hs1 : sok σ) : q_M kX6_course [.ref 0, .int k, .int l, .int m, .int f] I (fun v J => v = some (.int (opCourse σ k l m f).1) ∧ RG J (opCourse σ k l m f).2 (hst (opCourse σ k l m f).1 σ hs) t ∧ FO I J) := by
  have k0 := k0
  have hw := hs1.1
  have hG := hs1.2.1
  obtain ⟨h0, h1, h2, n, hn, h3, h4, h5, h6, h7⟩ := h
  obtain ⟨τ0, hτ0⟩ := h6 n hn
  refine q_M.of pnX6_course (by simp [Value.category]) (Nat.le_of_ble_eq_true rfl) ?_
  refine q_aload_n dX6_course_0 rfl ?_
  refine q_getR fl_RX6_22 rfl (by assumption) dX6_course_1 ?_
  refine q_aload_n dX6_course_4 rfl ?_
  refine q_getR fl_RX6_10 rfl (by assumption) dX6_course_5 ?_
  refine q_cV (as := [_]) lk_RX6_33 (c_note hn h3 h0 hτ0 hw hG) ⟨1, by decide, k101, rfl⟩ rfl (by decide) (Nat.le_of_ble_eq_true rfl) dX6_course_8 ?_
  rintro v J ⟨rfl, g1, g2⟩
  obtain ⟨hN, hF⟩ := RG.note h0 h1 h2 hn h3 h4 h5 h6 h7 g1 g2
  have n1 := hN.1
  refine q_aload_n dX6_course_11 rfl ?_
  refine q_getR fl_RX6_22 rfl (by assumption) dX6_course_12 ?_
  refine q_aload_n dX6_course_15 rfl ?_
  refine q_getR fl_RX6_10 rfl (by assumption) dX6_course_16 ?_
  refine q_iload_n dX6_course_19 rfl ?_
  refine q_iload_n dX6_course_20 rfl ?_
  refine q_iload_n dX6_course_21 rfl ?_
  refine q_iload dX6_course_22 rfl ?_
  refine q_cV (as := [_, _, _, _]) lk_RX6_37 (c_addCourse k1 n1 hw hG) ⟨3, by decide, k1, rfl⟩ rfl (by decide) (Nat.le_of_ble_eq_true rfl) dX6_course_24 ?_
  rintro v J2 ⟨rfl, e1, e2⟩
  obtain ⟨hN2, hF2⟩ := hN.op e1 e2
  refine q_cV (as := [_]) lk_RX6_41 (c_keep hn h5 hN2.2.2.2.1 hN2.2.2.2.2.1) ⟨1, by decide, k101, rfl⟩ rfl (by decide) (Nat.le_of_ble_eq_true rfl) dX6_course_27 ?_
  rintro v J3 ⟨rfl, e3⟩
  obtain ⟨hR, hF3⟩ := RN.keep hn hN2 e3
  exact q_iret rfl rfl dX6_course_30 ⟨rfl, hR, (hF.tr hF2).tr hF3⟩
theorem c_room {c : Int32} {I : q_Mem} {σ : q_S} {hs : List q_S} {t : List Nat} (h : RG I σ hs t) (hs1 : sok σ) : q_M kX6_room [.ref 0, .int c] I (fun v J => v = some (.int (opRoom σ c).1) ∧ RG J (opRoom σ c).2 (hst (opRoom σ c).1 σ hs) t ∧ FO I J) := by
  have k0 := k0
  have hw := hs1.1
  have hG := hs1.2.1
  obtain ⟨h0, h1, h2, n, hn, h3, h4, h5, h6, h7⟩ := h
  obtain ⟨τ0, hτ0⟩ := h6 n hn
  refine q_M.of pnX6_room (by simp [Value.category]) (Nat.le_of_ble_eq_true rfl) ?_
  refine q_aload_n dX6_room_0 rfl ?_
  refine q_getR fl_RX6_22 rfl (by assumption) dX6_room_1 ?_
  refine q_aload_n dX6_room_4 rfl ?_
  refine q_getR fl_RX6_10 rfl (by assumption) dX6_room_5 ?_
  refine q_cV (as := [_]) lk_RX6_33 (c_note hn h3 h0 hτ0 hw hG) ⟨1, by decide, k101, rfl⟩ rfl (by decide) (Nat.le_of_ble_eq_true rfl) dX6_room_8 ?_
  rintro v J ⟨rfl, g1, g2⟩
  obtain ⟨hN, hF⟩ := RG.note h0 h1 h2 hn h3 h4 h5 h6 h7 g1 g2
  have n1 := hN.1
  refine q_aload_n dX6_room_11 rfl ?_
  refine q_getR fl_RX6_22 rfl (by assumption) dX6_room_12 ?_
  refine q_aload_n dX6_room_15 rfl ?_
  refine q_getR fl_RX6_10 rfl (by assumption) dX6_room_16 ?_
  refine q_iload_n dX6_room_19 rfl ?_
  refine q_cV (as := [_]) lk_RX6_45 (c_addRoom k1 n1 hw hG) ⟨3, by decide, k1, rfl⟩ rfl (by decide) (Nat.le_of_ble_eq_true rfl) dX6_room_20 ?_
  rintro v J2 ⟨rfl, e1, e2⟩
  obtain ⟨hN2, hF2⟩ := hN.op e1 e2
  refine q_cV (as := [_]) lk_RX6_41 (c_keep hn h5 hN2.2.2.2.1 hN2.2.2.2.2.1) ⟨1, by decide, k101, rfl⟩ rfl (by decide) (Nat.le_of_ble_eq_true rfl) dX6_room_23 ?_
  rintro v J3 ⟨rfl, e3⟩
  obtain ⟨hR, hF3⟩ := RN.keep hn hN2 e3
  exact q_iret rfl rfl dX6_room_26 ⟨rfl, hR, (hF.tr hF2).tr hF3⟩
theorem c_join {x y z : Int32} {I : q_Mem} {σ : q_S} {hs : List q_S} {t : List Nat} (h : RG I σ hs t) (hs1 : sok σ) : q_M kX6_join [.ref 0, .int x, .int y, .int z] I (fun v J => v = some (.int (opJoin σ x y z).1) ∧ RG J (opJoin σ x y z).2 (hst (opJoin σ x y z).1 σ hs) t ∧ FO I J) := by
  have k0 := k0
  have hw := hs1.1
  have hG := hs1.2.1
  obtain ⟨h0, h1, h2, n, hn, h3, h4, h5, h6, h7⟩ := h
  obtain ⟨τ0, hτ0⟩ := h6 n hn
  refine q_M.of pnX6_join (by simp [Value.category]) (Nat.le_of_ble_eq_true rfl) ?_
  refine q_aload_n dX6_join_0 rfl ?_
  refine q_getR fl_RX6_22 rfl (by assumption) dX6_join_1 ?_
  refine q_aload_n dX6_join_4 rfl ?_
  refine q_getR fl_RX6_10 rfl (by assumption) dX6_join_5 ?_
  refine q_cV (as := [_]) lk_RX6_33 (c_note hn h3 h0 hτ0 hw hG) ⟨1, by decide, k101, rfl⟩ rfl (by decide) (Nat.le_of_ble_eq_true rfl) dX6_join_8 ?_
  rintro v J ⟨rfl, g1, g2⟩
  obtain ⟨hN, hF⟩ := RG.note h0 h1 h2 hn h3 h4 h5 h6 h7 g1 g2
  have n1 := hN.1
  refine q_aload_n dX6_join_11 rfl ?_
  refine q_getR fl_RX6_22 rfl (by assumption) dX6_join_12 ?_
  refine q_aload_n dX6_join_15 rfl ?_
  refine q_getR fl_RX6_10 rfl (by assumption) dX6_join_16 ?_
  refine q_iload_n dX6_join_19 rfl ?_
  refine q_iload_n dX6_join_20 rfl ?_
  refine q_iload_n dX6_join_21 rfl ?_
  refine q_cV (as := [_, _, _]) lk_RX6_48 (c_addPerson k1 n1 hw hG) ⟨3, by decide, k1, rfl⟩ rfl (by decide) (Nat.le_of_ble_eq_true rfl) dX6_join_22 ?_
  rintro v J2 ⟨rfl, e1, e2⟩
  obtain ⟨hN2, hF2⟩ := hN.op e1 e2
  refine q_cV (as := [_]) lk_RX6_41 (c_keep hn h5 hN2.2.2.2.1 hN2.2.2.2.2.1) ⟨1, by decide, k101, rfl⟩ rfl (by decide) (Nat.le_of_ble_eq_true rfl) dX6_join_25 ?_
  rintro v J3 ⟨rfl, e3⟩
  obtain ⟨hR, hF3⟩ := RN.keep hn hN2 e3
  exact q_iret rfl rfl dX6_join_28 ⟨rfl, hR, (hF.tr hF2).tr hF3⟩
theorem c_wish {p x y z : Int32} {I : q_Mem} {σ : q_S} {hs : List q_S} {t : List Nat} (h : RG I σ hs t) (hs1 : sok σ) : q_M kX6_wish [.ref 0, .int p, .int x, .int y, .int z] I (fun v J => v = some (.int (opWish σ p x y z).1) ∧ RG J (opWish σ p x y z).2 (hst (opWish σ p x y z).1 σ hs) t ∧ FO I J) := by
  have k0 := k0
  have hw := hs1.1
  have hG := hs1.2.1
  obtain ⟨h0, h1, h2, n, hn, h3, h4, h5, h6, h7⟩ := h
  obtain ⟨τ0, hτ0⟩ := h6 n hn
  refine q_M.of pnX6_wish (by simp [Value.category]) (Nat.le_of_ble_eq_true rfl) ?_
  refine q_aload_n dX6_wish_0 rfl ?_
  refine q_getR fl_RX6_22 rfl (by assumption) dX6_wish_1 ?_
  refine q_aload_n dX6_wish_4 rfl ?_
  refine q_getR fl_RX6_10 rfl (by assumption) dX6_wish_5 ?_
  refine q_cV (as := [_]) lk_RX6_33 (c_note hn h3 h0 hτ0 hw hG) ⟨1, by decide, k101, rfl⟩ rfl (by decide) (Nat.le_of_ble_eq_true rfl) dX6_wish_8 ?_
  rintro v J ⟨rfl, g1, g2⟩
  obtain ⟨hN, hF⟩ := RG.note h0 h1 h2 hn h3 h4 h5 h6 h7 g1 g2
  have n1 := hN.1
  refine q_aload_n dX6_wish_11 rfl ?_
  refine q_getR fl_RX6_22 rfl (by assumption) dX6_wish_12 ?_
  refine q_aload_n dX6_wish_15 rfl ?_
  refine q_getR fl_RX6_10 rfl (by assumption) dX6_wish_16 ?_
  refine q_iload_n dX6_wish_19 rfl ?_
  refine q_iload_n dX6_wish_20 rfl ?_
  refine q_iload_n dX6_wish_21 rfl ?_
  refine q_iload dX6_wish_22 rfl ?_
  refine q_cV (as := [_, _, _, _]) lk_RX6_52 (c_changeWishes k1 n1 hw hG) ⟨3, by decide, k1, rfl⟩ rfl (by decide) (Nat.le_of_ble_eq_true rfl) dX6_wish_24 ?_
  rintro v J2 ⟨rfl, e1, e2⟩
  obtain ⟨hN2, hF2⟩ := hN.op e1 e2
  refine q_cV (as := [_]) lk_RX6_41 (c_keep hn h5 hN2.2.2.2.1 hN2.2.2.2.2.1) ⟨1, by decide, k101, rfl⟩ rfl (by decide) (Nat.le_of_ble_eq_true rfl) dX6_wish_27 ?_
  rintro v J3 ⟨rfl, e3⟩
  obtain ⟨hR, hF3⟩ := RN.keep hn hN2 e3
  exact q_iret rfl rfl dX6_wish_30 ⟨rfl, hR, (hF.tr hF2).tr hF3⟩
theorem c_leave {p : Int32} {I : q_Mem} {σ : q_S} {hs : List q_S} {t : List Nat} (h : RG I σ hs t) (hs1 : sok σ) : q_M kX6_leave [.ref 0, .int p] I (fun v J => v = some (.int (opLeave σ p).1) ∧ RG J (opLeave σ p).2 (hst (opLeave σ p).1 σ hs) t ∧ FO I J) := by
  have k0 := k0
  have hw := hs1.1
  have hG := hs1.2.1
  obtain ⟨h0, h1, h2, n, hn, h3, h4, h5, h6, h7⟩ := h
  obtain ⟨τ0, hτ0⟩ := h6 n hn
  refine q_M.of pnX6_leave (by simp [Value.category]) (Nat.le_of_ble_eq_true rfl) ?_
  refine q_aload_n dX6_leave_0 rfl ?_
  refine q_getR fl_RX6_22 rfl (by assumption) dX6_leave_1 ?_
  refine q_aload_n dX6_leave_4 rfl ?_
  refine q_getR fl_RX6_10 rfl (by assumption) dX6_leave_5 ?_
  refine q_cV (as := [_]) lk_RX6_33 (c_note hn h3 h0 hτ0 hw hG) ⟨1, by decide, k101, rfl⟩ rfl (by decide) (Nat.le_of_ble_eq_true rfl) dX6_leave_8 ?_
  rintro v J ⟨rfl, g1, g2⟩
  obtain ⟨hN, hF⟩ := RG.note h0 h1 h2 hn h3 h4 h5 h6 h7 g1 g2
  have n1 := hN.1
  refine q_aload_n dX6_leave_11 rfl ?_
  refine q_getR fl_RX6_22 rfl (by assumption) dX6_leave_12 ?_
  refine q_aload_n dX6_leave_15 rfl ?_
  refine q_getR fl_RX6_10 rfl (by assumption) dX6_leave_16 ?_
  refine q_iload_n dX6_leave_19 rfl ?_
  refine q_cV (as := [_]) lk_RX6_55 (c_sendAway k1 n1 hw hG) ⟨3, by decide, k1, rfl⟩ rfl (by decide) (Nat.le_of_ble_eq_true rfl) dX6_leave_20 ?_
  rintro v J2 ⟨rfl, e1, e2⟩
  obtain ⟨hN2, hF2⟩ := hN.op e1 e2
  refine q_cV (as := [_]) lk_RX6_41 (c_keep hn h5 hN2.2.2.2.1 hN2.2.2.2.2.1) ⟨1, by decide, k101, rfl⟩ rfl (by decide) (Nat.le_of_ble_eq_true rfl) dX6_leave_23 ?_
  rintro v J3 ⟨rfl, e3⟩
  obtain ⟨hR, hF3⟩ := RN.keep hn hN2 e3
  exact q_iret rfl rfl dX6_leave_26 ⟨rfl, hR, (hF.tr hF2).tr hF3⟩
theorem c_close {I : q_Mem} {σ : q_S} {hs : List q_S} {t : List Nat} (h : RG I σ hs t) (hs1 : sok σ) : q_M kX6_close [.ref 0] I (fun v J => v = some (.int (opClose σ).1) ∧ RG J (opClose σ).2 (hst (opClose σ).1 σ hs) t ∧ FO I J) := by
  have k0 := k0
  have hw := hs1.1
  have hG := hs1.2.1
  obtain ⟨h0, h1, h2, n, hn, h3, h4, h5, h6, h7⟩ := h
  obtain ⟨τ0, hτ0⟩ := h6 n hn
  refine q_M.of pnX6_close (by simp [Value.category]) (Nat.le_of_ble_eq_true rfl) ?_
  refine q_aload_n dX6_close_0 rfl ?_
  refine q_getR fl_RX6_22 rfl (by assumption) dX6_close_1 ?_
  refine q_aload_n dX6_close_4 rfl ?_
  refine q_getR fl_RX6_10 rfl (by assumption) dX6_close_5 ?_
  refine q_cV (as := [_]) lk_RX6_33 (c_note hn h3 h0 hτ0 hw hG) ⟨1, by decide, k101, rfl⟩ rfl (by decide) (Nat.le_of_ble_eq_true rfl) dX6_close_8 ?_
  rintro v J ⟨rfl, g1, g2⟩
  obtain ⟨hN, hF⟩ := RG.note h0 h1 h2 hn h3 h4 h5 h6 h7 g1 g2
  have n1 := hN.1
  refine q_aload_n dX6_close_11 rfl ?_
  refine q_getR fl_RX6_22 rfl (by assumption) dX6_close_12 ?_
  refine q_aload_n dX6_close_15 rfl ?_
  refine q_getR fl_RX6_10 rfl (by assumption) dX6_close_16 ?_
  by_cases e : sG σ 1 = 1
  · rw [show opClose σ = (-1000002, σ) by rw [opClose, if_pos e]]
    refine q_cV (as := []) lk_RX6_58 (c_closeTermC k1 n1 e) ⟨3, by decide, k1, rfl⟩ rfl (by decide) (Nat.le_of_ble_eq_true rfl) dX6_close_19 ?_
    rintro v J2 ⟨rfl, rfl⟩
    refine q_cV (as := [_]) lk_RX6_41 (c_keep hn h5 hN.2.2.2.1 hN.2.2.2.2.1) ⟨1, by decide, k101, rfl⟩ rfl (by decide) (Nat.le_of_ble_eq_true rfl) dX6_close_22 ?_
    rintro v J3 ⟨rfl, e3⟩
    obtain ⟨hR, hF3⟩ := RN.keep hn hN e3
    exact q_iret rfl rfl dX6_close_25 ⟨rfl, hR, hF.tr hF3⟩
  · rw [show opClose σ = (nI (bcnt 8 (sbits (fun c => decide (sC (sclose σ) c 6 = 2)) 8)), sclose σ) by rw [opClose, if_neg e]]
    refine q_cV (as := []) lk_RX6_58 (c_closeTerm k1 n1 hw (op0 hs1 e)) ⟨3, by decide, k1, rfl⟩ rfl (by decide) (Nat.le_of_ble_eq_true rfl) dX6_close_19 ?_
    rintro v J2 ⟨rfl, e1, e2⟩
    obtain ⟨hN2, hF2⟩ := hN.op e1 e2
    refine q_cV (as := [_]) lk_RX6_41 (c_keep hn h5 hN2.2.2.2.1 hN2.2.2.2.2.1) ⟨1, by decide, k101, rfl⟩ rfl (by decide) (Nat.le_of_ble_eq_true rfl) dX6_close_22 ?_
    rintro v J3 ⟨rfl, e3⟩
    obtain ⟨hR, hF3⟩ := RN.keep hn hN2 e3
    exact q_iret rfl rfl dX6_close_25 ⟨rfl, hR, (hF.tr hF2).tr hF3⟩
theorem c_term {I : q_Mem} {σ : q_S} {hs : List q_S} {t : List Nat} (h : RG I σ hs t) (hs1 : sok σ) : q_M kX6_term [.ref 0] I (fun v J => v = some (.int (opTerm σ).1) ∧ RG J (opTerm σ).2 (hst (opTerm σ).1 σ hs) t ∧ FO I J) := by
  have k0 := k0
  have hw := hs1.1
  have hG := hs1.2.1
  obtain ⟨h0, h1, h2, n, hn, h3, h4, h5, h6, h7⟩ := h
  obtain ⟨τ0, hτ0⟩ := h6 n hn
  refine q_M.of pnX6_term (by simp [Value.category]) (Nat.le_of_ble_eq_true rfl) ?_
  refine q_aload_n dX6_term_0 rfl ?_
  refine q_getR fl_RX6_22 rfl (by assumption) dX6_term_1 ?_
  refine q_aload_n dX6_term_4 rfl ?_
  refine q_getR fl_RX6_10 rfl (by assumption) dX6_term_5 ?_
  refine q_cV (as := [_]) lk_RX6_33 (c_note hn h3 h0 hτ0 hw hG) ⟨1, by decide, k101, rfl⟩ rfl (by decide) (Nat.le_of_ble_eq_true rfl) dX6_term_8 ?_
  rintro v J ⟨rfl, g1, g2⟩
  obtain ⟨hN, hF⟩ := RG.note h0 h1 h2 hn h3 h4 h5 h6 h7 g1 g2
  have n1 := hN.1
  refine q_aload_n dX6_term_11 rfl ?_
  refine q_getR fl_RX6_22 rfl (by assumption) dX6_term_12 ?_
  refine q_aload_n dX6_term_15 rfl ?_
  refine q_getR fl_RX6_10 rfl (by assumption) dX6_term_16 ?_
  refine q_cV (as := []) lk_RX6_62 (c_nextTerm k1 n1 hw hG) ⟨3, by decide, k1, rfl⟩ rfl (by decide) (Nat.le_of_ble_eq_true rfl) dX6_term_19 ?_
  rintro v J2 ⟨rfl, e1, e2⟩
  obtain ⟨hN2, hF2⟩ := hN.op e1 e2
  refine q_cV (as := [_]) lk_RX6_41 (c_keep hn h5 hN2.2.2.2.1 hN2.2.2.2.2.1) ⟨1, by decide, k101, rfl⟩ rfl (by decide) (Nat.le_of_ble_eq_true rfl) dX6_term_22 ?_
  rintro v J3 ⟨rfl, e3⟩
  obtain ⟨hR, hF3⟩ := RN.keep hn hN2 e3
  exact q_iret rfl rfl dX6_term_25 ⟨rfl, hR, (hF.tr hF2).tr hF3⟩
/-- undo -/
def qUndo (σ : q_S) (hs : List q_S) : Int32 × q_S × List q_S := match hs with
  | [] => (-1000002, σ, [])
  | τ :: l => (nI l.length, τ, l)
theorem c_undo {I : q_Mem} {σ : q_S} {hs : List q_S} {t : List Nat} (h : RG I σ hs t) (hs1 : ∀ τ, τ ∈ hs → sok τ) : q_M kX6_undo [.ref 0] I (fun v J => v = some (.int (qUndo σ hs).1) ∧ RG J (qUndo σ hs).2.1 (qUndo σ hs).2.2 t ∧ FO I J) := by
  have k0 := k0
  obtain ⟨h0, ⟨τ1, hτ1⟩, h2, n, hn, h3, h4, h5, h6, h7⟩ := h
  refine q_M.of pnX6_undo (by simp [Value.category]) (Nat.le_of_ble_eq_true rfl) ?_
  refine q_aload_n dX6_undo_0 rfl ?_
  refine q_getR fl_RX6_22 rfl (by assumption) dX6_undo_1 ?_
  refine q_aload_n dX6_undo_4 rfl ?_
  refine q_getR fl_RX6_10 rfl (by assumption) dX6_undo_5 ?_
  cases hs with
  | nil =>
    refine q_cV (as := [_]) lk_RX6_244 (c_restore (σ := σ) hn (s := 0) (by omega) h3 h4 h0 (fun z => absurd z (by omega)) (fun z => absurd z (by omega))) ⟨1, by decide, k101, rfl⟩ rfl (by decide) (Nat.le_of_ble_eq_true rfl) dX6_undo_8 ?_
    rintro v J (⟨-, rfl, rfl⟩ | ⟨z, -⟩)
    · exact q_iret rfl rfl dX6_undo_11 ⟨rfl, ⟨h0, ⟨τ1, hτ1⟩, h2, n, hn, h3, h4, h5, h6, h7⟩, FO.rf⟩
    · omega
  | cons τ l =>
    have hτ := hs1 τ (List.mem_cons_self ..)
    have hR := h7 0 τ rfl
    refine q_cV (as := [_]) lk_RX6_244 (c_restore (σ := τ) hn h5 h3 h4 h0 (fun _ => hR) (fun _ => ⟨hτ.1, hτ.2.1⟩)) ⟨1, by decide, k101, rfl⟩ rfl (by decide) (Nat.le_of_ble_eq_true rfl) dX6_undo_8 ?_
    rintro v J (⟨z, -⟩ | ⟨-, rfl, g1, g2, g3, g4⟩)
    · cases z
    · have hl : (τ :: l).length - 1 = l.length := rfl
      rw [hl] at g3 ⊢
      have h5 : l.length + 1 ≤ 4 := h5
      refine q_iret rfl rfl dX6_undo_11 ⟨rfl, ⟨g1, ⟨τ1, hτ1.fr (fun a a1 a2 => g4 a (by omega) (by omega))⟩, h2.fr (g4 353 (by omega) (by omega)) (g4 354 (by omega) (by omega)), (n + 4) % 5, by omega, g2, g3, by show l.length ≤ 4; omega, fun m hm => (h6 m hm).imp (fun τ hτ => hτ.fr (fun a a1 a2 => g4 a (by omega) (by omega))), fun i τ' hi => ?_⟩, fun a ha => g4 a (by omega) (by omega)⟩
      have hi : l[i]? = some τ' := hi
      have hi4 : i < 3 := g_ltA hi (by omega)
      have := h7 (i + 1) τ' hi
      rw [show ((n + 4) % 5 + 4 - i) % 5 = (n + 4 - (i + 1)) % 5 by omega]
      exact this.fr (fun a a1 a2 => g4 a (by omega) (by omega))
