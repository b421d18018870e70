/-! the class's season: moves and the settling -/
theorem RC.eq {b : Nat} {I : q_Mem} {σ τ : q_S} (h : RC b I σ) (e : σ = τ) : RC b I τ := e ▸ h
/-- a row of the class's members anew, as add and remove leave them -/
theorem FC.of {b : Nat} {I J : q_Mem} (h : ∀ i j, (i < b ∨ b + 50 ≤ i) → J i j = I i j) : FC b I J := fun i hi => funext fun j => h i j hi
theorem c_removeS {b c p : Nat} {I : q_Mem} {σ : q_S} (hk : q_kd b = 3) (h : RC b I σ) (hlen : sLen σ c ≤ 20) (hmem : ∀ v ∈ sL σ c, v < 30) (hc : c < 8) (hp : p < 30) : q_M kX0_remove [.ref (b + 4 + 2 * c), .int (nI p)] I (fun v J => v = none ∧ RC b J (uL σ c ((sL σ c).filter (· != p))) ∧ FC b I J) := by
  refine (c_remove (l := sL σ c) (kSC hk hc) (h.len hc) (fun r v hr => by rw [show b + 4 + 2 * c + 1 = b + 5 + 2 * c by omega]; exact h.m hc hr) hlen (fun v hv => by have := hmem v hv; omega) (by omega)).mono ?_
  rintro v J ⟨rfl, h1, h2, h3⟩
  refine ⟨rfl, h.L hc h1 (fun r v hr => ?_) (fun i j q1 q2 => h3 i j (by omega) q2), FC.of fun i j q => h3 i j (by omega) (by omega)⟩
  have := h2 r v hr
  rwa [show b + 4 + 2 * c + 1 = b + 5 + 2 * c by omega] at this
theorem c_addS {b c p : Nat} {I : q_Mem} {σ : q_S} (hk : q_kd b = 3) (h : RC b I σ) (hc : c < 8) (hl : sLen σ c < 20) : q_M kX0_add [.ref (b + 4 + 2 * c), .int (nI p)] I (fun v J => v = none ∧ RC b J (uL σ c (sL σ c ++ [p])) ∧ FC b I J) := by
  refine (c_add (kSC hk hc) (h.len hc) hl).mono ?_
  rintro v J ⟨rfl, rfl⟩
  refine ⟨rfl, h.L hc ?_ (fun r v hr => ?_) (fun i j q1 q2 => ?_), FC.of fun i j q => ?_⟩
  · rw [q_up_s, List.length_append]; rfl
  · rw [q_up_n (by omega), show b + 4 + 2 * c + 1 = b + 5 + 2 * c by omega]
    by_cases e : r = sLen σ c
    · subst e
      rw [q_up_s]
      rw [List.getElem?_append_right (Nat.le_refl _), Nat.sub_self] at hr
      cases hr
      rfl
    · rw [q_up_n (fun z => e z.2)]
      rcases Nat.lt_or_ge r (sL σ c).length with q | q
      · rw [List.getElem?_append_left q] at hr
        exact h.m hc hr
      · have : (sL σ c).length ≠ r := fun z => e z.symm
        rw [List.getElem?_append_right q, List.getElem?_eq_none (by simp; omega)] at hr
        cases hr
  · rw [q_up_n q2, q_up_n (by omega)]
  · rw [q_up_n (by omega), q_up_n (by omega)]
theorem c_goOut0 {b p : Nat} {I : q_Mem} {σ : q_S} (hk : q_kd b = 3) (h : RC b I σ) (h8 : sN σ 0 ≤ 8) (hlen : ∀ c, sLen σ c ≤ 20) (hmem : ∀ c, ∀ v ∈ sL σ c, v < 30) (h4 : sP σ p 4 ≤ sN σ 0) (h45 : sP σ p 4 = 0 → sP σ p 5 = 0) (hp : p < 30) : q_M kX3_goOut [.ref b, .ref (b + 20 + p)] I (fun v J => v = none ∧ RC b J (sout σ p) ∧ FC b I J) := by
  have hkp := kSP hk hp
  refine q_M.of pnX3_goOut (by simp [Value.category]) (Nat.le_of_ble_eq_true rfl) ?_
  refine q_aload_n dX3_goOut_0 rfl ?_
  refine q_aload_n dX3_goOut_1 rfl ?_
  refine q_getI fl_RX3_182 rfl (by assumption) (h.p hp (j := 4) (by omega)) dX3_goOut_2 ?_
  refine q_cV (as := [_]) lk_RX3_123 (c_courseAtE hk h h8 h4) ⟨3, by decide, by assumption, rfl⟩ rfl (by decide) (Nat.le_of_ble_eq_true rfl) dX3_goOut_5 ?_
  rintro v J ⟨rfl, rfl⟩
  have key : ∀ (J : q_Mem) (τ : q_S) (o : Option Value), RC b J τ → FC b I J → τ = (if sP σ p 4 = 0 then σ else uL σ (sP σ p 4 - 1) ((sL σ (sP σ p 4 - 1)).filter (· != p))) → q_X kX3_goOut 21 [some (.ref b), some (.ref (b + 20 + p)), o] [] J (fun v J => v = none ∧ RC b J (sout σ p) ∧ FC b I J) := by
    intro J τ o h hF e
    have eP : sP τ = sP σ := by rw [e]; split <;> rfl
    have eG : sG τ = sG σ := by rw [e]; split <;> rfl
    refine q_aload_n dX3_goOut_21 rfl ?_
    refine q_iconst (v := -1) dX3_goOut_22 (by decide) ?_
    refine q_putI ⟨fl_RX3_182, rfl, rfl⟩ (by assumption) ⟨rfl, rfl⟩ dX3_goOut_23 ?_
    have h : RC b (q_up J (b + 20 + p) 2 (-1)) (uP τ p 4 0) := h.P (j := 4) hp (by omega) rfl
    have hF := hF.up (a := b + 20 + p) (j := 2) (x := -1) (by omega) (by omega)
    generalize q_up J (b + 20 + p) 2 (-1) = J1 at h hF ⊢
    refine q_aload_n dX3_goOut_26 rfl ?_
    refine q_dup dX3_goOut_27 rfl ?_
    refine q_getI fl_RX3_70 rfl (by assumption) (h.g (j := 3) (by omega)) dX3_goOut_28 ?_
    refine q_aload_n dX3_goOut_31 rfl ?_
    refine q_getI fl_RX3_119 rfl (by assumption) (h.p hp (j := 5) (by omega)) dX3_goOut_32 ?_
    have e5 : penc 5 (sP (uP τ p 4 0) p 5) = nI (sP σ p 5) := by
      rw [sP_mk, f2_n (by omega), eP]; rfl
    rw [e5, sG_mk, eG]
    refine q_iadd dX3_goOut_35 ?_
    rw [nI_add]
    refine q_putI ⟨fl_RX3_70, rfl, rfl⟩ (by assumption) ⟨rfl, rfl⟩ dX3_goOut_36 ?_
    have h : RC b (q_up J1 b 9 (nI (sG σ 3 + sP σ p 5))) (uG (uP τ p 4 0) 3 (sG σ 3 + sP σ p 5)) := h.G (j := 3) (by omega) rfl
    have hF := hF.up (a := b) (j := 9) (x := nI (sG σ 3 + sP σ p 5)) (by omega) (by omega)
    generalize q_up J1 b 9 (nI (sG σ 3 + sP σ p 5)) = J2 at h hF ⊢
    refine q_aload_n dX3_goOut_39 rfl ?_
    refine q_iconst (v := nI 0) dX3_goOut_40 (by decide) ?_
    refine q_putI ⟨fl_RX3_119, rfl, rfl⟩ (by assumption) ⟨rfl, rfl⟩ dX3_goOut_41 ?_
    have h : RC b (q_up J2 (b + 20 + p) 3 (nI 0)) (uP (uG (uP τ p 4 0) 3 (sG σ 3 + sP σ p 5)) p 5 0) := h.P (j := 5) hp (by omega) rfl
    have hF := hF.up (a := b + 20 + p) (j := 3) (x := nI 0) (by omega) (by omega)
    refine q_vret rfl dX3_goOut_44 ⟨rfl, h.eq ?_, hF⟩
    unfold sout
    by_cases e0 : sP σ p 4 = 0
    · rw [if_pos e0] at e ⊢
      subst e
      have e50 := h45 e0
      show (sN τ, f1 (sG τ) 3 (sG τ 3 + sP τ p 5), sC τ, sL τ, f2 (f2 (sP τ) p 4 0) p 5 0, sR τ) = τ
      rw [f1_id (by rw [e50]; rfl), f2_id (f := sP τ) e0, f2_id e50]
    · rw [if_neg e0] at e ⊢
      subst e
      rfl
  by_cases e0 : sP σ p 4 = 0
  · rw [crf, if_pos e0]
    refine q_astore_nN (ls' := [_, _, _]) dX3_goOut_8 (Nat.le_of_ble_eq_true rfl) rfl ?_
    refine q_aload_nN dX3_goOut_9 rfl ?_
    refine q_ifnullN (tgt := 21) dX3_goOut_10 (by decide) ?_
    exact key I σ _ h FC.rf (by rw [if_pos e0])
  · rw [crf, if_neg e0]
    have hc8 : sP σ p 4 - 1 < 8 := by omega
    refine q_astore_n (ls' := [_, _, _]) dX3_goOut_8 (Nat.le_of_ble_eq_true rfl) rfl ?_
    refine q_aload_n dX3_goOut_9 rfl ?_
    refine q_ifnull dX3_goOut_10 ?_
    refine q_aload_n dX3_goOut_13 rfl ?_
    refine q_aload_n dX3_goOut_14 rfl ?_
    refine q_getI fl_RX3_110 rfl (by assumption) (h.pn hp) dX3_goOut_15 ?_
    refine q_cV (as := [_]) lk_RX3_198 (c_removeS hk h (hlen _) (hmem _) hc8 hp) ⟨0, by decide, kSC hk hc8, rfl⟩ rfl (by decide) (Nat.le_of_ble_eq_true rfl) dX3_goOut_18 ?_
    rintro v J ⟨rfl, h1, h2⟩
    exact key J _ _ h1 h2 (by rw [if_neg e0])
theorem c_goOut {b p : Nat} {I : q_Mem} {σ : q_S} (hk : q_kd b = 3) (h : RC b I σ) (hw : WFc σ) (hp : p < 30) : q_M kX3_goOut [.ref b, .ref (b + 20 + p)] I (fun v J => v = none ∧ RC b J (sout σ p) ∧ FC b I J) :=
  c_goOut0 hk h hw.B.1 hw.len (fun c v hv => hw.mlt30 hv) (hw.pr p).2.2.2.2.1 (hw.pr p).2.2.2.2.2.2.1 hp
theorem c_comeInto {b p c : Nat} {I : q_Mem} {σ : q_S} (hk : q_kd b = 3) (h : RC b I σ) (hp : p < 30) (hc : c < 8) (hl : sLen σ c < 20) : q_M kX3_comeInto [.ref b, .ref (b + 20 + p), .ref (b + 4 + 2 * c)] I (fun v J => v = none ∧ RC b J (sin σ p c) ∧ FC b I J) := by
  have hkp := kSP hk hp
  have hkc := kSC hk hc
  refine q_M.of pnX3_comeInto (by simp [Value.category]) (Nat.le_of_ble_eq_true rfl) ?_
  refine q_aload_n dX3_comeInto_0 rfl ?_
  refine q_aload_n dX3_comeInto_1 rfl ?_
  refine q_getI fl_RX3_110 rfl (by assumption) (h.pn hp) dX3_comeInto_2 ?_
  refine q_cV (as := [_]) lk_RX3_189 (c_addS hk h hc hl) ⟨0, by decide, by assumption, rfl⟩ rfl (by decide) (Nat.le_of_ble_eq_true rfl) dX3_comeInto_5 ?_
  rintro v J ⟨rfl, h, hF⟩
  refine q_aload_n dX3_comeInto_8 rfl ?_
  refine q_aload_n dX3_comeInto_9 rfl ?_
  refine q_getI fl_RX3_96 rfl (by assumption) (h.cn hc) dX3_comeInto_10 ?_
  refine q_putI ⟨fl_RX3_182, rfl, rfl⟩ (by assumption) ⟨rfl, rfl⟩ dX3_comeInto_13 ?_
  have h : RC b (q_up J (b + 20 + p) 2 (nI c)) (uP (uL σ c (sL σ c ++ [p])) p 4 (c + 1)) := h.P (j := 4) hp (by omega) rfl
  have hF := hF.up (a := b + 20 + p) (j := 2) (x := nI c) (by omega) (by omega)
  generalize q_up J (b + 20 + p) 2 (nI c) = J1 at h hF ⊢
  refine q_aload_n dX3_comeInto_16 rfl ?_
  refine q_aload_n dX3_comeInto_17 rfl ?_
  refine q_getI fl_RX3_192 rfl (by assumption) (h.c hc (j := 5) (by omega)) dX3_comeInto_18 ?_
  refine q_putI ⟨fl_RX3_119, rfl, rfl⟩ (by assumption) ⟨rfl, rfl⟩ dX3_comeInto_21 ?_
  have h : RC b (q_up J1 (b + 20 + p) 3 (cenc 5 (sC σ c 5))) (uP (uP (uL σ c (sL σ c ++ [p])) p 4 (c + 1)) p 5 (sC σ c 5)) := h.P (j := 5) hp (by omega) rfl
  have hF := hF.up (a := b + 20 + p) (j := 3) (x := cenc 5 (sC σ c 5)) (by omega) (by omega)
  rw [sC_mk]
  generalize q_up J1 (b + 20 + p) 3 (cenc 5 (sC σ c 5)) = J2 at h hF ⊢
  refine q_aload_n dX3_comeInto_24 rfl ?_
  refine q_dup dX3_comeInto_25 rfl ?_
  refine q_getI fl_RX3_195 rfl (by assumption) (h.p hp (j := 6) (by omega)) dX3_comeInto_26 ?_
  refine q_iconst (v := nI 1) dX3_comeInto_29 (by decide) ?_
  refine q_iadd dX3_comeInto_30 ?_
  have e6 : penc 6 (sP (uP (uP (uL σ c (sL σ c ++ [p])) p 4 (c + 1)) p 5 (sC σ c 5)) p 6) = nI (sP σ p 6) := by
    rw [sP_mk, f2_n (by omega), sP_mk, f2_n (by omega)]; rfl
  rw [e6, nI_add]
  refine q_putI ⟨fl_RX3_195, rfl, rfl⟩ (by assumption) ⟨rfl, rfl⟩ dX3_comeInto_31 ?_
  have h : RC b (q_up J2 (b + 20 + p) 4 (nI (sP σ p 6 + 1))) (uP (uP (uP (uL σ c (sL σ c ++ [p])) p 4 (c + 1)) p 5 (sC σ c 5)) p 6 (sP σ p 6 + 1)) := h.P (j := 6) hp (by omega) rfl
  have hF := hF.up (a := b + 20 + p) (j := 4) (x := nI (sP σ p 6 + 1)) (by omega) (by omega)
  generalize q_up J2 (b + 20 + p) 4 (nI (sP σ p 6 + 1)) = J3 at h hF ⊢
  refine q_aload_n dX3_comeInto_34 rfl ?_
  refine q_dup dX3_comeInto_35 rfl ?_
  refine q_getI fl_RX3_67 rfl (by assumption) (h.g (j := 2) (by omega)) dX3_comeInto_36 ?_
  refine q_aload_n dX3_comeInto_39 rfl ?_
  refine q_getI fl_RX3_192 rfl (by assumption) (h.c hc (j := 5) (by omega)) dX3_comeInto_40 ?_
  refine q_iadd dX3_comeInto_43 ?_
  rw [show nI (sG (uP (uP (uP (uL σ c (sL σ c ++ [p])) p 4 (c + 1)) p 5 (sC σ c 5)) p 6 (sP σ p 6 + 1)) 2) + cenc 5 (sC (uP (uP (uP (uL σ c (sL σ c ++ [p])) p 4 (c + 1)) p 5 (sC σ c 5)) p 6 (sP σ p 6 + 1)) c 5) = nI (sG σ 2 + sC σ c 5) from nI_add _ _]
  refine q_putI ⟨fl_RX3_67, rfl, rfl⟩ (by assumption) ⟨rfl, rfl⟩ dX3_comeInto_44 ?_
  have h : RC b (q_up J3 b 8 (nI (sG σ 2 + sC σ c 5))) (uG (uP (uP (uP (uL σ c (sL σ c ++ [p])) p 4 (c + 1)) p 5 (sC σ c 5)) p 6 (sP σ p 6 + 1)) 2 (sG σ 2 + sC σ c 5)) := h.G (j := 2) (by omega) rfl
  have hF := hF.up (a := b) (j := 8) (x := nI (sG σ 2 + sC σ c 5)) (by omega) (by omega)
  generalize q_up J3 b 8 (nI (sG σ 2 + sC σ c 5)) = J4 at h hF ⊢
  refine q_aload_n dX3_comeInto_47 rfl ?_
  refine q_dup dX3_comeInto_48 rfl ?_
  refine q_getI fl_RX3_76 rfl (by assumption) (h.g (j := 5) (by omega)) dX3_comeInto_49 ?_
  refine q_iconst (v := nI 1) dX3_comeInto_52 (by decide) ?_
  refine q_iadd dX3_comeInto_53 ?_
  rw [show nI (sG (uG (uP (uP (uP (uL σ c (sL σ c ++ [p])) p 4 (c + 1)) p 5 (sC σ c 5)) p 6 (sP σ p 6 + 1)) 2 (sG σ 2 + sC σ c 5)) 5) + nI 1 = nI (sG σ 5 + 1) from nI_add _ _]
  refine q_putI ⟨fl_RX3_76, rfl, rfl⟩ (by assumption) ⟨rfl, rfl⟩ dX3_comeInto_54 ?_
  have h : RC b (q_up J4 b 11 (nI (sG σ 5 + 1))) (uG (uG (uP (uP (uP (uL σ c (sL σ c ++ [p])) p 4 (c + 1)) p 5 (sC σ c 5)) p 6 (sP σ p 6 + 1)) 2 (sG σ 2 + sC σ c 5)) 5 (sG σ 5 + 1)) := h.G (j := 5) (by omega) rfl
  have hF := hF.up (a := b) (j := 11) (x := nI (sG σ 5 + 1)) (by omega) (by omega)
  exact q_vret rfl dX3_comeInto_57 ⟨rfl, h, hF⟩
theorem c_settle {b : Nat} {I : q_Mem} {σ : q_S} (hk : q_kd b = 3) (h : RC b I σ) (hw : WFc σ) : q_M kX3_settle [.ref b] I (fun v J => v = none ∧ RC b J (sset 1000 σ) ∧ FC b I J) := by
  have outer : ∀ (n i : Nat) (J : q_Mem) (τ : q_S) (o2 o3 o4 : Option Value), n + i = 1000 → RC b J τ → WFc τ → FC b I J → q_X kX3_settle 2 [some (.ref b), some (.int (nI i)), o2, o3, o4] [] J (fun v J => v = none ∧ RC b J (sset n τ) ∧ FC b I J) := by
    intro n
    induction n with
    | zero =>
      intro i J τ o2 o3 o4 hn h hw hF
      refine q_iload_n dX3_settle_2 rfl ?_
      refine q_sipush (v := nI 1000) dX3_settle_3 (by decide) ?_
      refine q_icmp_geN (tgt := 82) (by omega) (by omega) dX3_settle_6 (by decide) (fun h1 => ?_) (fun h1 => ?_)
      · exact q_vret rfl dX3_settle_82 ⟨rfl, h, hF⟩
      · omega
    | succ n ih =>
      intro i J τ o2 o3 o4 hn h hw hF
      have hP30 : sN τ 2 ≤ 30 := hw.B.2.2.1
      have inner : ∀ (d k : Nat) (mv : Value), k + d = sN τ 2 → (mv = .null ∨ ∃ r, mv = .ref r) → (spk τ d k = spk τ (sN τ 2) 0) → q_X kX3_settle 16 [some (.ref b), some (.int (nI i)), some .null, some mv, some (.int (nI k))] [] J (fun v J => v = none ∧ RC b J (sset (n + 1) τ) ∧ FC b I J) := by
        intro d
        induction d with
        | zero =>
          intro k mv hd hmv hs
          refine q_iload dX3_settle_16 rfl ?_
          refine q_aload_n dX3_settle_18 rfl ?_
          refine q_getI fl_RX3_54 rfl (by assumption) (h.n (j := 2) (by omega)) dX3_settle_19 ?_
          refine q_icmp_geN (tgt := 56) (by omega) (by omega) dX3_settle_22 (by decide) (fun h1 => ?_) (fun h1 => ?_)
          · refine q_aload_nN dX3_settle_56 rfl ?_
            refine q_ifnullN (tgt := 64) dX3_settle_57 (by decide) ?_
            refine q_vret rfl dX3_settle_64 ⟨rfl, ?_, hF⟩
            unfold sset
            rw [← hs, if_neg (by rw [spk]; omega)]
            exact h
          · omega
        | succ d ihd =>
          intro k mv hd hmv hs
          have hk30 : k < 30 := by omega
          refine q_iload dX3_settle_16 rfl ?_
          refine q_aload_n dX3_settle_18 rfl ?_
          refine q_getI fl_RX3_54 rfl (by assumption) (h.n (j := 2) (by omega)) dX3_settle_19 ?_
          refine q_icmp_geN (tgt := 56) (by omega) (by omega) dX3_settle_22 (by decide) (fun h1 => ?_) (fun h1 => ?_)
          · omega
          refine q_aload_nN dX3_settle_25 rfl ?_
          refine q_ifnonnullN dX3_settle_26 ?_
          refine q_aload_n dX3_settle_29 rfl ?_
          refine q_iload dX3_settle_30 rfl ?_
          refine q_cV (as := [_]) lk_RX3_111 (c_personAtN hk h hw.B.2.2.1 (p := k) (by omega)) ⟨3, by decide, by assumption, rfl⟩ rfl (by decide) (Nat.le_of_ble_eq_true rfl) dX3_settle_32 ?_
          rintro v J' ⟨rfl, rfl⟩
          refine q_astore_n (ls' := [_, _, _, _, _]) dX3_settle_35 (Nat.le_of_ble_eq_true rfl) rfl ?_
          refine q_aload_n dX3_settle_36 rfl ?_
          refine q_ifnonnull (tgt := 44) dX3_settle_37 (by decide) ?_
          refine q_aload_n dX3_settle_44 rfl ?_
          refine q_aload_n dX3_settle_45 rfl ?_
          refine q_cV (as := [_]) lk_RX3_171 (c_better hk h hw hk30) ⟨3, by decide, by assumption, rfl⟩ rfl (by decide) (Nat.le_of_ble_eq_true rfl) dX3_settle_46 ?_
          rintro v J' ⟨rfl, rfl⟩
          by_cases e : sbet τ k = 0
          · rw [crf, if_pos e]
            refine q_astore_nN (ls' := [_, _, _, _, _]) dX3_settle_49 (Nat.le_of_ble_eq_true rfl) rfl ?_
            refine q_iinc (ls' := [_, _, _, _, _]) dX3_settle_50 rfl (nI_add _ 1) rfl ?_
            refine q_goto (tgt := 16) dX3_settle_53 (by decide) ?_
            rw [spk, if_pos e] at hs
            exact ihd (k + 1) _ (by omega) (Or.inr ⟨_, rfl⟩) hs
          · rw [crf, if_neg e]
            have hsp := sbet_spec e
            have hle := sbet_le hw k
            have h8 : sN τ 0 ≤ 8 := hw.B.1
            have hkc : sbet τ k - 1 < 8 := by omega
            rw [spk, if_neg e] at hs
            refine q_astore_n (ls' := [_, _, _, _, _]) dX3_settle_49 (Nat.le_of_ble_eq_true rfl) rfl ?_
            have tail : ∀ o4, q_X kX3_settle 56 [some (.ref b), some (.int (nI i)), some (.ref (b + 4 + 2 * (sbet τ k - 1))), some (.ref (b + 20 + k)), o4] [] J (fun v J => v = none ∧ RC b J (sset (n + 1) τ) ∧ FC b I J) := by
              intro o4
              refine q_aload_n dX3_settle_56 rfl ?_
              refine q_ifnull dX3_settle_57 ?_
              refine q_aload_n dX3_settle_60 rfl ?_
              refine q_ifnonnull (tgt := 65) dX3_settle_61 (by decide) ?_
              refine q_aload_n dX3_settle_65 rfl ?_
              refine q_aload_n dX3_settle_66 rfl ?_
              refine q_cV (as := [_]) lk_RX3_120 (c_goOut hk h hw hk30) ⟨3, by decide, by assumption, rfl⟩ rfl (by decide) (Nat.le_of_ble_eq_true rfl) dX3_settle_67 ?_
              rintro v J2 ⟨rfl, h2, hF2⟩
              refine q_aload_n dX3_settle_70 rfl ?_
              refine q_aload_n dX3_settle_71 rfl ?_
              refine q_aload_n dX3_settle_72 rfl ?_
              have hL : sL (sout τ k) (sbet τ k - 1) = sL τ (sbet τ k - 1) := sout_L (by have := hsp.2.2.1; have := hsp.2.1.1; omega)
              have h20 : sLen τ (sbet τ k - 1) < 20 := Nat.lt_of_lt_of_le hsp.2.1.2.2 (hw.cr hkc).2.2.2.2.1
              refine q_cV (as := [_, _]) lk_RX3_175 (c_comeInto hk h2 hk30 hkc (by rw [sLen, hL]; exact h20)) ⟨3, by decide, by assumption, rfl⟩ rfl (by decide) (Nat.le_of_ble_eq_true rfl) dX3_settle_73 ?_
              rintro v J3 ⟨rfl, h3, hF3⟩
              refine q_iinc (ls' := [_, _, _, _, _]) dX3_settle_76 rfl (nI_add _ 1) rfl ?_
              refine q_goto (tgt := 2) dX3_settle_79 (by decide) ?_
              refine (ih (i + 1) J3 (smove τ k) _ _ _ (by omega) h3 (hw.move (by omega) e) ((hF.tr hF2).tr hF3)).mono ?_
              rintro v J4 ⟨rfl, h4, hF4⟩
              refine ⟨rfl, ?_, hF4⟩
              unfold sset
              rw [← hs, if_pos (by omega)]
              exact h4
            refine q_iinc (ls' := [_, _, _, _, _]) dX3_settle_50 rfl (nI_add _ 1) rfl ?_
            refine q_goto (tgt := 16) dX3_settle_53 (by decide) ?_
            refine q_iload dX3_settle_16 rfl ?_
            refine q_aload_n dX3_settle_18 rfl ?_
            refine q_getI fl_RX3_54 rfl (by assumption) (h.n (j := 2) (by omega)) dX3_settle_19 ?_
            refine q_icmp_geN (tgt := 56) (by omega) (by omega) dX3_settle_22 (by decide) (fun h3 => ?_) (fun h3 => ?_)
            · exact tail _
            · refine q_aload_n dX3_settle_25 rfl ?_
              refine q_ifnonnull (tgt := 56) dX3_settle_26 (by decide) ?_
              exact tail _
      refine q_iload_n dX3_settle_2 rfl ?_
      refine q_sipush (v := nI 1000) dX3_settle_3 (by decide) ?_
      refine q_icmp_geN (tgt := 82) (by omega) (by omega) dX3_settle_6 (by decide) (fun h1 => ?_) (fun h1 => ?_)
      · omega
      refine q_null dX3_settle_9 ?_
      refine q_astore_nN (ls' := [_, _, _, _, _]) dX3_settle_10 (Nat.le_of_ble_eq_true rfl) rfl ?_
      refine q_null dX3_settle_11 ?_
      refine q_astore_nN (ls' := [_, _, _, _, _]) dX3_settle_12 (Nat.le_of_ble_eq_true rfl) rfl ?_
      refine q_iconst (v := nI 0) dX3_settle_13 (by decide) ?_
      refine q_istore (ls' := [_, _, _, _, _]) dX3_settle_14 (Nat.le_of_ble_eq_true rfl) rfl ?_
      exact inner (sN τ 2) 0 _ (by omega) (Or.inl rfl) rfl
  refine q_M.of pnX3_settle (by simp [Value.category]) (Nat.le_of_ble_eq_true rfl) ?_
  refine q_iconst (v := nI 0) dX3_settle_0 (by decide) ?_
  refine q_istore_n (ls' := [_, _, _, _, _]) dX3_settle_1 (Nat.le_of_ble_eq_true rfl) rfl ?_
  exact outer 1000 0 I σ _ _ _ rfl h hw FC.rf
