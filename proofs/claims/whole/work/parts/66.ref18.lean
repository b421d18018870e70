/-! the reference: its history -/
/-- a season's numbers copied to another place -/
theorem RM.cp {a o b u : Nat} {I J : q_Mem} {σ : q_S} (h : RM a o I σ) (hB : sB σ) (hJ : ∀ i, i < 554 → J b (u + i) = I a (o + i)) : RM b u J σ := by
  obtain ⟨b0, b1, b2, b3⟩ := hB
  obtain ⟨h1, h2, h3, h4, h5, h6, h7⟩ := h
  refine ⟨fun j hj => ?_, fun j hj => ?_, fun d hd j hj => ?_, fun d hd => ?_, fun d hd r v hr => ?_, fun p hp j hj => ?_, fun r hr => ?_⟩
  · have hm : mslot j < 336 := by unfold mslot; split <;> (try split) <;> omega
    rw [hJ _ (by omega)]; exact h1 j hj
  · rw [Nat.add_assoc, hJ _ (by omega), ← Nat.add_assoc]; exact h2 j hj
  · rw [show u + 1 + 41 * d + j = u + (1 + 41 * d + j) by omega, hJ _ (by omega), show o + (1 + 41 * d + j) = o + 1 + 41 * d + j by omega]; exact h3 d hd j hj
  · rw [show u + 1 + 41 * d + 10 = u + (1 + 41 * d + 10) by omega, hJ _ (by omega), show o + (1 + 41 * d + 10) = o + 1 + 41 * d + 10 by omega]; exact h4 d hd
  · have := g_lt hr (b3 d)
    rw [show u + 1 + 41 * d + 11 + r = u + (1 + 41 * d + 11 + r) by omega, hJ _ (by omega), show o + (1 + 41 * d + 11 + r) = o + 1 + 41 * d + 11 + r by omega]; exact h5 d hd r v hr
  · rw [show u + 336 + 7 * p + j = u + (336 + 7 * p + j) by omega, hJ _ (by omega), show o + (336 + 7 * p + j) = o + 336 + 7 * p + j by omega]; exact h6 p hp j hj
  · rw [show u + 330 + r = u + (330 + r) by omega, hJ _ (by omega), show o + (330 + r) = o + 330 + r by omega]; exact h7 r hr
/-- the reference's text -/
def MT (I : q_Mem) (t : List Nat) : Prop := I 356 5 = nI t.length ∧ ∀ i c, t[i]? = some c → I 360 i = nI c
/-- the states before, newest first -/
def MH (I : q_Mem) (hs : List q_S) : Prop := I 356 3 = nI hs.length ∧ hs.length ≤ 4 ∧ ∀ i τ, hs[i]? = some τ → RM 359 (554 * (hs.length - 1 - i)) I τ
/-- the reference: its season, the states before it, its text -/
def MG (I : q_Mem) (σ : q_S) (hs : List q_S) (t : List Nat) : Prop := RS I σ ∧ MH I hs ∧ MT I t
/-- nothing but the reference's cells has changed -/
def FR (I J : q_Mem) : Prop := ∀ a, (a < 356 ∨ 362 ≤ a) → J a = I a
theorem FR.rf {I : q_Mem} : FR I I := fun _ _ => rfl
theorem FR.tr {I J K : q_Mem} (h : FR I J) (h2 : FR J K) : FR I K := fun a ha => (h2 a ha).trans (h a ha)
theorem FR.of {b : Nat} {I J : q_Mem} (h : FM b I J) (h1 : 356 ≤ b) (h2 : b < 362) : FR I J := fun a ha => h a (by omega)
theorem FR.up {I J : q_Mem} (h : FR I J) {a j : Nat} {x : Int32} (h1 : 356 ≤ a) (h2 : a < 362) : FR I (q_up J a j x) := by
  intro i hi
  rw [← h i hi]
  funext j'
  exact q_up_n (fun z => by omega)
theorem MT.fr {I J : q_Mem} {t : List Nat} (h : MT I t) (h1 : J 356 5 = I 356 5) (h2 : J 360 = I 360) : MT J t := ⟨by rw [h1]; exact h.1, fun i c hc => by rw [h2]; exact h.2 i c hc⟩
theorem MH.fr {I J : q_Mem} {hs : List q_S} (h : MH I hs) (h1 : J 356 3 = I 356 3) (h2 : J 359 = I 359) : MH J hs := ⟨by rw [h1]; exact h.1, h.2.1, fun i τ hi => (h.2.2 i τ hi).fr h2⟩
/-- nothing but slot 3 of 356 and the row 359 -/
def FH (I J : q_Mem) : Prop := ∀ a j, ¬ a = 359 → ¬ (a = 356 ∧ j = 3) → J a j = I a j
theorem FH.rf {I : q_Mem} : FH I I := fun _ _ _ _ => rfl
theorem FH.up {I J : q_Mem} (h : FH I J) {a j : Nat} {x : Int32} (ha : a = 359 ∨ (a = 356 ∧ j = 3)) : FH I (q_up J a j x) := fun b i h1 h2 => (q_up_n (by omega)).trans (h b i h1 h2)
theorem r_change {x : Int32} {I : q_Mem} {σ0 σ : q_S} {hs : List q_S} {t : List Nat} (h : RS I σ) (h0 : RM 358 0 I σ0) (hB : sB σ) (hB0 : sB σ0) (hH : MH I hs) (hT : MT I t) (hBs : ∀ τ, τ ∈ hs → sB τ) : q_M kX7_change [.ref 356, .int x] I (fun v J => v = some (.int x) ∧ MG J (if x < 0 then σ0 else σ) (hst x σ0 hs) t ∧ FR I J) := by
  obtain ⟨q1, q2, q3⟩ := id hH
  -- behind the shift: n states stand, from 0 on
  have write : ¬ x < 0 → ∀ (n : Nat) (J : q_Mem) (o2 : Option Value), n < 4 → J 356 3 = nI n → FH I J → n = min hs.length 3 → (∀ i τ, hs[i]? = some τ → i < n → RM 359 (554 * (n - 1 - i)) J τ) → q_X kX7_change 59 [some (.ref 356), some (.int x), o2] [] J (fun v J => v = some (.int x) ∧ MG J (if x < 0 then σ0 else σ) (hst x σ0 hs) t ∧ FR I J) := by
    intro hx n J o2 hn hJ hF hnm hst0
    have key : ∀ (d k : Nat) (K : q_Mem), k + d = 554 → (∀ i, i < k → K 359 (554 * n + i) = I 358 i) → (∀ i, i < 554 * n → K 359 i = J 359 i) → FH I K → K 356 3 = nI n → q_X kX7_change 61 [some (.ref 356), some (.int x), some (.int (nI k))] [] K (fun v J => v = some (.int x) ∧ MG J (if x < 0 then σ0 else σ) (hst x σ0 hs) t ∧ FR I J) := by
      intro d
      induction d with
      | zero =>
        intro k K hd hk hl hFK hK
        refine q_iload_n dX7_change_61 rfl ?_
        refine q_sipush (v := nI 554) dX7_change_62 (by decide) ?_
        refine q_icmp_geN (tgt := 95) (by omega) (by omega) dX7_change_65 (by decide) (fun q => ?_) (fun q => ?_)
        rotate_left
        · omega
        refine q_aload_n dX7_change_95 rfl ?_
        refine q_dup dX7_change_96 rfl ?_
        refine q_getI fl_RX7_28 rfl k356 hK dX7_change_97 ?_
        refine q_iconst (v := nI 1) dX7_change_100 (by decide) ?_
        refine q_iadd dX7_change_101 ?_
        rw [nI_add]
        refine q_putI ⟨fl_RX7_28, rfl, rfl⟩ k356 ⟨rfl, rfl⟩ dX7_change_102 ?_
        refine q_iload_n dX7_change_105 rfl ?_
        have hFK' : FH I (q_up K 356 3 (nI (n + 1))) := hFK.up (Or.inr ⟨rfl, rfl⟩)
        have e359 : q_up K 356 3 (nI (n + 1)) 359 = K 359 := funext fun j => q_up_n (fun z => by omega)
        have e3 : q_up K 356 3 (nI (n + 1)) 356 3 = nI (n + 1) := q_up_s
        generalize q_up K 356 3 (nI (n + 1)) = L at hFK' e359 e3 ⊢
        rw [hst, if_neg hx, if_neg hx]
        have hl2 : ((σ0 :: hs).take 4).length = n + 1 := by rw [List.length_take, List.length_cons]; omega
        refine q_iret rfl rfl dX7_change_106 ⟨rfl, ⟨h.fr (funext fun j => hFK' 357 j (by omega) (by omega)), ⟨by rw [hl2]; exact e3, by omega, fun i τ hi => ?_⟩, hT.fr (hFK' 356 5 (by omega) (by omega)) (funext fun j => hFK' 360 j (by omega) (by omega))⟩, fun a ha => funext fun j => hFK' a j (by omega) (by omega)⟩
        have hi4 : i < n + 1 := g_ltA hi (by omega)
        rw [List.getElem?_take_of_lt (by omega)] at hi
        rw [hl2]
        cases i with
        | zero =>
          have hi : some σ0 = some τ := hi
          injection hi with hi
          subst hi
          refine h0.cp hB0 (fun i hi => ?_)
          rw [e359, show 554 * (n + 1 - 1 - 0) + i = 554 * n + i by omega, hk i (by omega), Nat.zero_add]
        | succ i =>
          have hi : hs[i]? = some τ := hi
          refine (hst0 i τ hi (by omega)).cp (hBs τ (List.mem_of_getElem? hi)) (fun j hj => ?_)
          rw [e359, show n + 1 - 1 - (i + 1) = n - 1 - i by omega]
          exact hl _ (by omega)
      | succ d ih =>
        intro k K hd hk hl hFK hK
        refine q_iload_n dX7_change_61 rfl ?_
        refine q_sipush (v := nI 554) dX7_change_62 (by decide) ?_
        refine q_icmp_geN (tgt := 95) (by omega) (by omega) dX7_change_65 (by decide) (fun q => ?_) (fun q => ?_)
        · omega
        refine q_aload_n dX7_change_68 rfl ?_
        refine q_getR2 (b := 359) fl_RX7_16 rfl k356 rfl dX7_change_69 ?_
        refine q_sipush (v := nI 554) dX7_change_72 (by decide) ?_
        refine q_aload_n dX7_change_75 rfl ?_
        refine q_getI fl_RX7_28 rfl k356 hK dX7_change_76 ?_
        refine q_imul dX7_change_79 ?_
        rw [nI_mul]
        refine q_iload_n dX7_change_80 rfl ?_
        refine q_iadd dX7_change_81 ?_
        rw [nI_add]
        have v358 : K 358 k = I 358 k := hFK 358 k (by omega) (by omega)
        refine q_aload_n dX7_change_82 rfl ?_
        refine q_getR2 (b := 358) fl_RX7_13 rfl k356 rfl dX7_change_83 ?_
        refine q_iload_n dX7_change_86 rfl ?_
        refine q_iald k358 rfl (lt358 (by omega)) (by decide) v358 dX7_change_87 ?_
        refine q_iast k359 rfl (lt359 (by omega)) (by decide) dX7_change_88 ?_
        refine q_iinc (ls' := [_, _, _]) dX7_change_89 rfl (nI_add _ 1) rfl ?_
        refine q_goto (tgt := 61) dX7_change_92 (by decide) ?_
        refine ih (k + 1) _ (by omega) (fun i hi => ?_) (fun i hi => (q_up_n (by omega)).trans (hl i hi)) (hFK.up (Or.inl rfl)) ((q_up_n (by omega)).trans hK)
        by_cases e : i = k
        · subst e; exact q_up_s
        · exact (q_up_n (by omega)).trans (hk i (by omega))
    refine q_iconst (v := nI 0) dX7_change_59 (by decide) ?_
    refine q_istore_n (ls' := [_, _, _]) dX7_change_60 (Nat.le_of_ble_eq_true rfl) rfl ?_
    exact key 554 0 J rfl (fun i hi => by omega) (fun _ _ => rfl) hF hJ
  refine q_M.of pnX7_change (by simp [Value.category]) (Nat.le_of_ble_eq_true rfl) ?_
  refine q_iload_n dX7_change_0 rfl ?_
  refine q_if_ge (tgt := 10) dX7_change_1 (by decide) (fun q => ?_) (fun q => ?_)
  rotate_left
  · have hx : x < 0 := Int32.not_le.mp q
    refine q_aload_n dX7_change_4 rfl ?_
    refine q_cV (as := []) lk_RX7_25 r_putBack (Or.inl ⟨6, by decide, k356, rfl⟩) rfl (by decide) (Nat.le_of_ble_eq_true rfl) dX7_change_5 ?_
    rintro v J ⟨rfl, p1, p2⟩
    rw [hst, if_pos hx, if_pos hx]
    refine q_iload_n dX7_change_8 rfl ?_
    exact q_iret rfl rfl dX7_change_9 ⟨rfl, ⟨h0.cp hB0 (fun i hi => by rw [Nat.zero_add]; exact p1 i hi), hH.fr (congrFun (p2 356 (by omega)) 3) (p2 359 (by omega)), hT.fr (congrFun (p2 356 (by omega)) 5) (p2 360 (by omega))⟩, FR.of p2 (by omega) (by omega)⟩
  have hx : ¬ x < 0 := Int32.not_lt.mpr q
  refine q_aload_n dX7_change_10 rfl ?_
  refine q_getI fl_RX7_28 rfl k356 q1 dX7_change_11 ?_
  refine q_iconst (v := nI 4) dX7_change_14 (by decide) ?_
  refine q_icmp_neN (tgt := 59) (by omega) (by omega) dX7_change_15 (by decide) (fun qk => ?_) (fun qk => ?_)
  · exact write hx hs.length I _ (by omega) q1 FH.rf (by omega) (fun i τ hi _ => q3 i τ hi)
  have shift : ∀ (d k : Nat) (K : q_Mem), k + d = 1662 → (∀ i, i < k → K 359 i = I 359 (554 + i)) → (∀ i, k ≤ i → K 359 i = I 359 i) → FH I K → K 356 3 = nI 4 → q_X kX7_change 20 [some (.ref 356), some (.int x), some (.int (nI k))] [] K (fun v J => v = some (.int x) ∧ MG J (if x < 0 then σ0 else σ) (hst x σ0 hs) t ∧ FR I J) := by
    intro d
    induction d with
    | zero =>
      intro k K hd hk hk2 hFK hK
      refine q_iload_n dX7_change_20 rfl ?_
      refine q_sipush (v := nI 1662) dX7_change_21 (by decide) ?_
      refine q_icmp_geN (tgt := 49) (by omega) (by omega) dX7_change_24 (by decide) (fun q => ?_) (fun q => ?_)
      rotate_left
      · omega
      refine q_aload_n dX7_change_49 rfl ?_
      refine q_dup dX7_change_50 rfl ?_
      refine q_getI fl_RX7_28 rfl k356 hK dX7_change_51 ?_
      refine q_iconst (v := nI 1) dX7_change_54 (by decide) ?_
      refine q_isub dX7_change_55 ?_
      refine q_putI ⟨fl_RX7_28, rfl, rfl⟩ k356 ⟨rfl, rfl⟩ dX7_change_56 ?_
      rw [show nI 4 - nI 1 = nI 3 from rfl]
      refine write hx 3 _ _ (by omega) q_up_s (hFK.up (Or.inr ⟨rfl, rfl⟩)) (by omega) (fun i τ hi hi3 => ?_)
      have e359 : q_up K 356 3 (nI 3) 359 = K 359 := funext fun j => q_up_n (fun z => by omega)
      refine (q3 i τ hi).cp (hBs τ (List.mem_of_getElem? hi)) (fun j hj => ?_)
      rw [e359, hk _ (by omega)]
      congr 1
      omega
    | succ d ih =>
      intro k K hd hk hk2 hFK hK
      refine q_iload_n dX7_change_20 rfl ?_
      refine q_sipush (v := nI 1662) dX7_change_21 (by decide) ?_
      refine q_icmp_geN (tgt := 49) (by omega) (by omega) dX7_change_24 (by decide) (fun q => ?_) (fun q => ?_)
      · omega
      refine q_aload_n dX7_change_27 rfl ?_
      refine q_getR2 (b := 359) fl_RX7_16 rfl k356 rfl dX7_change_28 ?_
      refine q_iload_n dX7_change_31 rfl ?_
      refine q_aload_n dX7_change_32 rfl ?_
      refine q_getR2 (b := 359) fl_RX7_16 rfl k356 rfl dX7_change_33 ?_
      refine q_sipush (v := nI 554) dX7_change_36 (by decide) ?_
      refine q_iload_n dX7_change_39 rfl ?_
      refine q_iadd dX7_change_40 ?_
      rw [nI_add]
      have v359 : K 359 (554 + k) = I 359 (554 + k) := hk2 _ (by omega)
      refine q_iald k359 rfl (lt359 (by omega)) (by decide) v359 dX7_change_41 ?_
      refine q_iast k359 rfl (lt359 (by omega)) (by decide) dX7_change_42 ?_
      refine q_iinc (ls' := [_, _, _]) dX7_change_43 rfl (nI_add _ 1) rfl ?_
      refine q_goto (tgt := 20) dX7_change_46 (by decide) ?_
      refine ih (k + 1) _ (by omega) (fun i hi => ?_) (fun i hi => (q_up_n (by omega)).trans (hk2 i (by omega))) (hFK.up (Or.inl rfl)) ((q_up_n (by omega)).trans hK)
      by_cases e : i = k
      · subst e; exact q_up_s
      · exact (q_up_n (by omega)).trans (hk i (by omega))
  refine q_iconst (v := nI 0) dX7_change_18 (by decide) ?_
  refine q_istore_n (ls' := [_, _, _]) dX7_change_19 (Nat.le_of_ble_eq_true rfl) rfl ?_
  exact shift 1662 0 I rfl (fun i hi => by omega) (fun _ _ => rfl) FH.rf (by rw [q1]; congr 1)
