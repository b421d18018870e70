/-! the reference: changes of people and terms -/
theorem MG.side {I J : q_Mem} {σ : q_S} {hs : List q_S} {t : List Nat} (h : MG I σ hs t) (hF : FM 358 I J) : MG J σ hs t :=
  ⟨h.1.fr (hF 357 (by omega)), h.2.1.fr (congrFun (hF 356 (by omega)) 3) (hF 359 (by omega)), h.2.2.fr (congrFun (hF 356 (by omega)) 5) (hF 360 (by omega))⟩
/-- behind putAside and a change of the season -/
theorem MG.op {I J K : q_Mem} {σ σ' : q_S} {hs : List q_S} {t : List Nat} (h : MG I σ hs t) (hB : sB σ) (p1 : ∀ i, i < 554 → J 358 i = I 357 i) (p2 : FM 358 I J) (g1 : RS K σ') (g2 : FM 357 J K) : RM 358 0 K σ ∧ MH K hs ∧ MT K t ∧ FR I K := by
  have hs1 := h.side p2
  refine ⟨RM.fr (RM.cp (a := 357) (o := 0) (b := 358) (u := 0) h.1 hB (fun i hi => by rw [Nat.zero_add]; exact p1 i hi)) (g2 358 (by omega)), hs1.2.1.fr (congrFun (g2 356 (by omega)) 3) (g2 359 (by omega)), hs1.2.2.fr (congrFun (g2 356 (by omega)) 5) (g2 360 (by omega)), (FR.of p2 (by omega) (by omega)).tr (FR.of g2 (by omega) (by omega))⟩
theorem r_join {x y z : Int32} {I : q_Mem} {σ : q_S} {hs : List q_S} {t : List Nat} (h : MG I σ hs t) (hs1 : sok σ) (hss : ∀ τ, τ ∈ hs → sok τ) : q_M kX7_join [.ref 356, .int x, .int y, .int z] I (fun v J => v = some (.int (opJoin σ x y z).1) ∧ MG J (opJoin σ x y z).2 (hst (opJoin σ x y z).1 σ hs) t ∧ FR I J) := by
  have hw := hs1.1
  have gd := good_join hs1 x y z
  refine q_M.of pnX7_join (by simp [Value.category]) (Nat.le_of_ble_eq_true rfl) ?_
  refine q_aload_n dX7_join_0 rfl ?_
  refine q_cV (as := []) lk_RX7_131 r_putAside (Or.inl ⟨6, by decide, k356, rfl⟩) rfl (by decide) (Nat.le_of_ble_eq_true rfl) dX7_join_1 ?_
  rintro v J ⟨rfl, p1, p2⟩
  have g0 : RS J σ := (h.side p2).1
  refine q_aload_n dX7_join_4 rfl ?_
  refine q_aload_n dX7_join_5 rfl ?_
  refine q_iload_n dX7_join_6 rfl ?_
  refine q_iload_n dX7_join_7 rfl ?_
  refine q_iload_n dX7_join_8 rfl ?_
  refine q_cV (as := [_, _, _]) lk_RX7_137 (r_comes g0 hs1) (Or.inl ⟨6, by decide, k356, rfl⟩) rfl (by decide) (Nat.le_of_ble_eq_true rfl) dX7_join_9 ?_
  rintro v K ⟨rfl, g1, g2⟩
  obtain ⟨a1, a2, a3, a4⟩ := h.op hw.B p1 p2 g1 g2
  refine q_cV (as := [_]) lk_RX7_134 (r_change g1 a1 gd.1.1.B hw.B a2 a3 (fun τ hτ => (hss τ hτ).1.B)) (Or.inl ⟨6, by decide, k356, rfl⟩) rfl (by decide) (Nat.le_of_ble_eq_true rfl) dX7_join_12 ?_
  rintro v L ⟨rfl, b1, b2⟩
  refine q_iret rfl rfl dX7_join_15 ⟨rfl, ?_, a4.tr b2⟩
  by_cases e : (opJoin σ x y z).1 < 0
  · rw [if_pos e] at b1
    rw [gd.2.2 e]
    exact b1
  · rw [if_neg e] at b1
    exact b1
theorem r_wish {p x y z : Int32} {I : q_Mem} {σ : q_S} {hs : List q_S} {t : List Nat} (h : MG I σ hs t) (hs1 : sok σ) (hss : ∀ τ, τ ∈ hs → sok τ) : q_M kX7_wish [.ref 356, .int p, .int x, .int y, .int z] I (fun v J => v = some (.int (opWish σ p x y z).1) ∧ MG J (opWish σ p x y z).2 (hst (opWish σ p x y z).1 σ hs) t ∧ FR I J) := by
  have hw := hs1.1
  have gd := good_wish hs1 p x y z
  refine q_M.of pnX7_wish (by simp [Value.category]) (Nat.le_of_ble_eq_true rfl) ?_
  refine q_aload_n dX7_wish_0 rfl ?_
  refine q_cV (as := []) lk_RX7_131 r_putAside (Or.inl ⟨6, by decide, k356, rfl⟩) rfl (by decide) (Nat.le_of_ble_eq_true rfl) dX7_wish_1 ?_
  rintro v J ⟨rfl, p1, p2⟩
  have g0 : RS J σ := (h.side p2).1
  refine q_aload_n dX7_wish_4 rfl ?_
  refine q_aload_n dX7_wish_5 rfl ?_
  refine q_iload_n dX7_wish_6 rfl ?_
  refine q_iload_n dX7_wish_7 rfl ?_
  refine q_iload_n dX7_wish_8 rfl ?_
  refine q_iload dX7_wish_9 rfl ?_
  refine q_cV (as := [_, _, _, _]) lk_RX7_141 (r_changesWishes g0 hs1) (Or.inl ⟨6, by decide, k356, rfl⟩) rfl (by decide) (Nat.le_of_ble_eq_true rfl) dX7_wish_11 ?_
  rintro v K ⟨rfl, g1, g2⟩
  obtain ⟨a1, a2, a3, a4⟩ := h.op hw.B p1 p2 g1 g2
  refine q_cV (as := [_]) lk_RX7_134 (r_change g1 a1 gd.1.1.B hw.B a2 a3 (fun τ hτ => (hss τ hτ).1.B)) (Or.inl ⟨6, by decide, k356, rfl⟩) rfl (by decide) (Nat.le_of_ble_eq_true rfl) dX7_wish_14 ?_
  rintro v L ⟨rfl, b1, b2⟩
  refine q_iret rfl rfl dX7_wish_17 ⟨rfl, ?_, a4.tr b2⟩
  by_cases e : (opWish σ p x y z).1 < 0
  · rw [if_pos e] at b1
    rw [gd.2.2 e]
    exact b1
  · rw [if_neg e] at b1
    exact b1
theorem r_leave {p : Int32} {I : q_Mem} {σ : q_S} {hs : List q_S} {t : List Nat} (h : MG I σ hs t) (hs1 : sok σ) (hss : ∀ τ, τ ∈ hs → sok τ) : q_M kX7_leave [.ref 356, .int p] I (fun v J => v = some (.int (opLeave σ p).1) ∧ MG J (opLeave σ p).2 (hst (opLeave σ p).1 σ hs) t ∧ FR I J) := by
  have hw := hs1.1
  have gd := good_leave hs1 p
  refine q_M.of pnX7_leave (by simp [Value.category]) (Nat.le_of_ble_eq_true rfl) ?_
  refine q_aload_n dX7_leave_0 rfl ?_
  refine q_cV (as := []) lk_RX7_131 r_putAside (Or.inl ⟨6, by decide, k356, rfl⟩) rfl (by decide) (Nat.le_of_ble_eq_true rfl) dX7_leave_1 ?_
  rintro v J ⟨rfl, p1, p2⟩
  have g0 : RS J σ := (h.side p2).1
  refine q_aload_n dX7_leave_4 rfl ?_
  refine q_aload_n dX7_leave_5 rfl ?_
  refine q_iload_n dX7_leave_6 rfl ?_
  refine q_cV (as := [_]) lk_RX7_145 (r_leaves g0 hs1) (Or.inl ⟨6, by decide, k356, rfl⟩) rfl (by decide) (Nat.le_of_ble_eq_true rfl) dX7_leave_7 ?_
  rintro v K ⟨rfl, g1, g2⟩
  obtain ⟨a1, a2, a3, a4⟩ := h.op hw.B p1 p2 g1 g2
  refine q_cV (as := [_]) lk_RX7_134 (r_change g1 a1 gd.1.1.B hw.B a2 a3 (fun τ hτ => (hss τ hτ).1.B)) (Or.inl ⟨6, by decide, k356, rfl⟩) rfl (by decide) (Nat.le_of_ble_eq_true rfl) dX7_leave_10 ?_
  rintro v L ⟨rfl, b1, b2⟩
  refine q_iret rfl rfl dX7_leave_13 ⟨rfl, ?_, a4.tr b2⟩
  by_cases e : (opLeave σ p).1 < 0
  · rw [if_pos e] at b1
    rw [gd.2.2 e]
    exact b1
  · rw [if_neg e] at b1
    exact b1
theorem r_close {I : q_Mem} {σ : q_S} {hs : List q_S} {t : List Nat} (h : MG I σ hs t) (hs1 : sok σ) (hss : ∀ τ, τ ∈ hs → sok τ) : q_M kX7_close [.ref 356] I (fun v J => v = some (.int (opClose σ).1) ∧ MG J (opClose σ).2 (hst (opClose σ).1 σ hs) t ∧ FR I J) := by
  have hw := hs1.1
  have gd := good_close hs1
  refine q_M.of pnX7_close (by simp [Value.category]) (Nat.le_of_ble_eq_true rfl) ?_
  refine q_aload_n dX7_close_0 rfl ?_
  refine q_cV (as := []) lk_RX7_131 r_putAside (Or.inl ⟨6, by decide, k356, rfl⟩) rfl (by decide) (Nat.le_of_ble_eq_true rfl) dX7_close_1 ?_
  rintro v J ⟨rfl, p1, p2⟩
  have g0 : RS J σ := (h.side p2).1
  refine q_aload_n dX7_close_4 rfl ?_
  refine q_aload_n dX7_close_5 rfl ?_
  refine q_cV (as := []) lk_RX7_148 (r_closesTerm g0 hs1) (Or.inl ⟨6, by decide, k356, rfl⟩) rfl (by decide) (Nat.le_of_ble_eq_true rfl) dX7_close_6 ?_
  rintro v K ⟨rfl, g1, g2⟩
  obtain ⟨a1, a2, a3, a4⟩ := h.op hw.B p1 p2 g1 g2
  refine q_cV (as := [_]) lk_RX7_134 (r_change g1 a1 gd.1.1.B hw.B a2 a3 (fun τ hτ => (hss τ hτ).1.B)) (Or.inl ⟨6, by decide, k356, rfl⟩) rfl (by decide) (Nat.le_of_ble_eq_true rfl) dX7_close_9 ?_
  rintro v L ⟨rfl, b1, b2⟩
  refine q_iret rfl rfl dX7_close_12 ⟨rfl, ?_, a4.tr b2⟩
  by_cases e : (opClose σ).1 < 0
  · rw [if_pos e] at b1
    rw [gd.2.2 e]
    exact b1
  · rw [if_neg e] at b1
    exact b1
theorem r_term {I : q_Mem} {σ : q_S} {hs : List q_S} {t : List Nat} (h : MG I σ hs t) (hs1 : sok σ) (hn : sG σ 0 < 2 ^ 30) (hss : ∀ τ, τ ∈ hs → sok τ) : q_M kX7_term [.ref 356] I (fun v J => v = some (.int (opTerm σ).1) ∧ MG J (opTerm σ).2 (hst (opTerm σ).1 σ hs) t ∧ FR I J) := by
  have hw := hs1.1
  have gd := good_term hs1 hn
  refine q_M.of pnX7_term (by simp [Value.category]) (Nat.le_of_ble_eq_true rfl) ?_
  refine q_aload_n dX7_term_0 rfl ?_
  refine q_cV (as := []) lk_RX7_131 r_putAside (Or.inl ⟨6, by decide, k356, rfl⟩) rfl (by decide) (Nat.le_of_ble_eq_true rfl) dX7_term_1 ?_
  rintro v J ⟨rfl, p1, p2⟩
  have g0 : RS J σ := (h.side p2).1
  refine q_aload_n dX7_term_4 rfl ?_
  refine q_aload_n dX7_term_5 rfl ?_
  refine q_cV (as := []) lk_RX7_151 (r_beginsTerm g0 hs1) (Or.inl ⟨6, by decide, k356, rfl⟩) rfl (by decide) (Nat.le_of_ble_eq_true rfl) dX7_term_6 ?_
  rintro v K ⟨rfl, g1, g2⟩
  obtain ⟨a1, a2, a3, a4⟩ := h.op hw.B p1 p2 g1 g2
  refine q_cV (as := [_]) lk_RX7_134 (r_change g1 a1 gd.1.1.B hw.B a2 a3 (fun τ hτ => (hss τ hτ).1.B)) (Or.inl ⟨6, by decide, k356, rfl⟩) rfl (by decide) (Nat.le_of_ble_eq_true rfl) dX7_term_9 ?_
  rintro v L ⟨rfl, b1, b2⟩
  refine q_iret rfl rfl dX7_term_12 ⟨rfl, ?_, a4.tr b2⟩
  by_cases e : (opTerm σ).1 < 0
  · rw [if_pos e] at b1
    rw [gd.2.2 e]
    exact b1
  · rw [if_neg e] at b1
    exact b1
