/-! THE LAW's fourth check: a closing, and it is undone -/
theorem z_start {k : q_MI} {as : List Value} {I : q_Mem} {Q : Option Value → q_Mem → Prop} {ω : q_Om} {n0 : Nat} (hω : ω.1 = fun q => n0 ≤ q) (hy : plainName k.1.cls = true) (hcat : ∀ v ∈ as, v.category = 1) (hsm : ∀ v ∈ as, ∀ a, v = .ref a → a < 356) (hlen : as.length ≤ k.2.2.1) (hac : q_wd (.arrayClass .int)) (hri : ∀ n : String, ¬ k.2.2.2.1 = some (.object n))
    (h0 : decode k.2.1 0 = .ok (.bipush 6, 2)) (h2 : decode k.2.1 2 = .ok (.newarray .int, 2)) (hZ : ∀ ω' : q_Om, q_Z ω' k 4 (as.map some ++ List.replicate (k.2.2.1 - as.length) none) [.ref 356] I (fun _ => 0) Q) : q_MN ω k 1 6 as I Q := by
  intro l
  refine Met.ofW (cc := k.2.1) (maxL := k.2.2.1) (ret := k.2.2.2.1) hy rfl ?_
  intro p e s m args below meth c s₁ B hml hv
  obtain ⟨rfl, hP, hK, hD, hO⟩ := hv
  have hx := B.exec
  have hb := B.bytes
  have hr := B.returns
  have hts := atoms_spec (ws := q_ws k) B.pre
  have hown : s.vm.findClass k.1.cls = some m.cls := findClass_of_methodNamed B.named
  have hcat' : ∀ v ∈ as.map (q_cv ω), v.category = 1 := by
    intro v hv
    obtain ⟨w, hw, rfl⟩ := List.mem_map.mp hv
    rw [q_cv_cat]; exact hcat w hw
  have hA0 := hD.2 0 _ (q_P_get (ω := ω) (I := I) (by omega))
  have hA1 := (hP 0 _ (q_P_get (ω := ω) (I := I) (by omega))).lt
  have hA : ∀ q, s.heap.size ≤ q → q_A ω q := by
    intro q hq
    show ω.1 q
    have hA0 : ω.1 (q_ad ω 0) := hA0
    have hA1 : q_ad ω 0 < s.heap.size := hA1
    rw [hω] at hA0 ⊢
    exact Nat.le_trans (Nat.le_of_lt (Nat.lt_of_le_of_lt hA0 hA1)) hq
  rw [entry_eq m (as.map (q_cv ω)) hcat' k.2.2.1]
  refine lv_bipush hx hb h0 (v := 6) (by decide) ?_
  refine va_newa (atype := .int) (ty := .int) (a0 := (6, .inl (fun _ => 0))) hx hb (hts _ (List.mem_cons_of_mem _ (q_in hac.1 hac.2))) rfl hK hP hD va_S.rf hA (fun _ => rfl) (by decide) (by decide) (by decide) (Nat.le_refl _) (Nat.le_refl _) h2 (fun a cA H1 hK1 hP1 hD1 hS1 => ?_)
  obtain rfl := n_cA (tys := q_tys ω) (i := 0) hK1 rfl (Or.inl rfl)
  obtain ⟨ω', hω'⟩ : ∃ ω' : q_Om, ω' = (ω.1, (fun j => if j = 356 then a else q_ad ω j), ω.2.2) := ⟨_, rfl⟩
  have eA : q_A ω' = q_A ω := by rw [hω']
  have ead : ∀ j, ¬ j = 356 → q_ad ω' j = q_ad ω j := fun j hj => by rw [hω']; exact if_neg hj
  have ea : q_ad ω' 356 = a := by
    rw [hω']
    show (if (356 : Nat) = 356 then a else q_ad ω 356) = a
    exact if_pos rfl
  have eD : q_D ω' = q_D ω := by rw [hω']
  have eca : q_ca ω' = q_ca ω := by rw [hω']
  have eL : q_L ω' = q_L ω := by rw [hω']
  have exs : q_xs ω' = q_xs ω := by rw [hω']
  clear hω'
  have ety : q_tys ω' = q_tys ω := by unfold q_tys; rw [eca]
  have ecv : as.map (q_cv ω) = as.map (q_cv ω') := List.map_congr_left (fun v hv => by
    cases v with
    | ref r =>
      have hr0 := hsm _ hv r rfl
      show Value.ref (q_ad ω r) = Value.ref (q_ad ω' r)
      rw [ead r (fun z => absurd hr0 (by rw [z]; exact Nat.lt_irrefl 356))]
    | _ => rfl)
  have pz : ∀ i, i < 356 → (q_P ω I ++ [(a, Sum.inl (q_ca ω 10, 6, Sum.inl (fun _ => 0)))])[i]? = some (q_ad ω i, q_cell ω I i) := fun i hi => (List.getElem?_append_left (by rw [z_len]; exact hi)).trans (q_P_get hi)
  have pe' : (q_P ω I ++ [(a, Sum.inl (q_ca ω 10, 6, Sum.inl (fun _ => 0)))])[356]? = some ((a, Sum.inl (q_ca ω 10, 6, Sum.inl (fun _ => 0))) : Nat × va_E) := by
    rw [List.getElem?_append_right (by rw [z_len]; exact Nat.le_refl _), z_len]; rfl
  have hat : va_P (q_D ω) vwCl (q_P ω' I ++ [tld ω' (fun _ => 0)]) H1 := by
    refine va_P.app (q_P_mv (fun k => congrFun eca k) (fun k hk => ead k (by omega)) (fun i q hq => hP1 i q ?_)) (fun i q hq => ?_)
    · have hi := q_Pl hq
      rw [pz i hi, ← hq, q_P_get hi]
    · obtain ⟨rfl, rfl⟩ : i = 0 ∧ q = tld ω' (fun _ => 0) := by
        cases i with
        | zero => exact ⟨rfl, (Option.some.inj hq).symm⟩
        | succ i => cases hq
      unfold tld
      rw [ea, eca]
      exact hP1 356 _ pe'
  have hzt : q_ZT ω' := by
    have cv : ∀ (i : Nat) (q : Nat × va_E), (q_P ω' (fun _ _ => 0) ++ [tld ω' (fun _ => 0)])[i]? = some q → ∃ q' : Nat × va_E, (q_P ω I ++ [(a, Sum.inl (q_ca ω 10, 6, Sum.inl (fun _ => 0)))])[i]? = some q' ∧ q'.1 = q.1 := by
      intro i q hq
      rcases Nat.lt_or_ge i 356 with z | z
      · rw [List.getElem?_append_left (by rw [z_len]; exact z), q_P_get z] at hq
        cases hq
        exact ⟨_, pz i z, (ead i (by omega)).symm⟩
      · have hl := (List.getElem?_eq_some_iff.mp hq).1
        rw [List.length_append, z_len] at hl
        obtain rfl : i = 356 := by simp at hl; omega
        rw [z_get] at hq
        cases hq
        exact ⟨_, pe', ea.symm⟩
    refine ⟨fun i j p q hi hj e => ?_, fun k q hq => ?_⟩
    · obtain ⟨p', hp', e1⟩ := cv i p hi
      obtain ⟨q', hq', e2⟩ := cv j q hj
      exact hD1.1 i j p' q' hp' hq' (e1.trans (e.trans e2.symm))
    · obtain ⟨q', hq', e1⟩ := cv k q hq
      rw [← e1, eA]
      exact hD1.2 k q' hq'
  have hD' : va_D (q_A ω') (q_P ω' (fun _ _ => 0)) := by
    refine ⟨fun i j p q hi hj e => hzt.1 i j p q ((List.getElem?_append_left (by rw [z_len]; exact q_Pl hi)).trans hi) ((List.getElem?_append_left (by rw [z_len]; exact q_Pl hj)).trans hj) e, fun i q hq => hzt.2 i q ((List.getElem?_append_left (by rw [z_len]; exact q_Pl hq)).trans hq)⟩
  have hO' : q_Od ω' s s.heap := by
    obtain ⟨⟨g1, g2, g3⟩, g4⟩ := hO
    unfold q_Od
    rw [ead 380 (by omega), eL, exs, eA]
    exact ⟨⟨g1, g2, g3⟩, g4⟩
  have er : Value.ref a = q_cv ω' (.ref 356) := by
    show _ = Value.ref (q_ad ω' 356)
    rw [ea]
  rw [ecv] at hts
  rw [ecv, er]
  rw [← eD] at hat
  refine hZ ω' p l e { frames := k.2.2.2.2.1, cells := 1, slots := 6, locals := k.2.2.2.2.2 } s m _ below meth c 1 6 _ ⟨hx, hb, ?_, hown, fun w hw => hts w (List.mem_cons_of_mem _ hw), by rw [eD, ety]; exact hK, hD', hO', Nat.le_refl _, Nat.le_refl _, Nat.le_refl _, Nat.le_refl _⟩ hzt ?_ H1 [] _ ?_ hat (by rw [eA]; exact hS1)
  · rw [hml]
    simp only [List.length_append, List.length_map, List.length_replicate]
    omega
  · intro pc' LS' H' locs' v J T' hRt hQ hP' hS'
    rw [eA] at hS'
    have hPo : va_P (q_D ω) vwCl (q_P ω J) H' := by
      rw [eD] at hP'
      exact q_P_mv (fun k => (congrFun eca k).symm) (fun k hk => (ead k (by omega)).symm) (z_in hP')
    rcases hRt with ⟨rfl, hr0, hd⟩ | ⟨x, ty, rfl, hr0, hn, hd⟩ | ⟨n, hr0, hv, hd⟩
    · exact W.vret hx hb (hr.trans hr0) (fun t ht hW => ⟨⟨none, J, rfl, hQ, by rw [ht]; exact hPo⟩, hS'.F ht⟩) hS'.2.2 hd
    · exact W.zret hx hb (hr.trans hr0) hn (fun t ht hW => ⟨⟨some (.int x), J, rfl, hQ, by rw [ht]; exact hPo⟩, hS'.F ht⟩) hS'.2.2 hd
    · exact absurd hr0 (hri n)
  · rw [ecv] at hcat'
    refine ⟨by simp, ⟨fun i v hi hc2 => ?_, fun i hi => ?_⟩, fun i v hi => ?_⟩
    · simp only [List.getElem?_toArray] at hi
      have hm := List.mem_of_getElem? hi
      rcases List.mem_append.mp hm with h | h
      · obtain ⟨w, hw, he⟩ := List.mem_map.mp h
        cases he
        rw [hcat' _ hw] at hc2
        cases hc2
      · cases List.eq_of_mem_replicate h
    · simp only [List.getElem?_toArray] at hi
      have hm := List.mem_of_getElem? hi
      rcases List.mem_append.mp hm with h | h
      · obtain ⟨w, hw, he⟩ := List.mem_map.mp h
        cases he
      · cases List.eq_of_mem_replicate h
    · have hil : i < as.length := by
        rcases Nat.lt_or_ge i as.length with q | q
        · exact q
        · rw [List.getElem?_append_right (by simpa using q)] at hi
          cases List.eq_of_mem_replicate (List.mem_of_getElem? hi)
      rw [List.getElem?_append_left (by simpa using hil), List.getElem?_map] at hi
      cases ha : as[i]? with
      | none => rw [ha] at hi; cases hi
      | some w =>
        rw [ha] at hi
        cases hi
        refine ⟨hcat _ (List.mem_of_getElem? ha), ?_⟩
        simp only [List.getElem?_toArray]
        rw [List.getElem?_append_left (by simpa using hil), List.getElem?_map, List.getElem?_map, ha]
        rfl

theorem nst_bits (σ : q_S) (s : Nat) : bcnt 8 (sbits (fun c => decide (sC σ c 6 = s)) 8) = nst σ s := by
  rw [bcnt_sbits]
  refine ssum_cg 8 (fun c _ => ?_)
  by_cases e : sC σ c 6 = s
  · simp [e]
  · simp [e]
theorem add_sub (a b : Int32) : a + (b - a) = b := by
  rw [Int32.add_comm]
  exact Int32.sub_add_cancel b a
abbrev pS (σ : q_S) (s c : Nat) : Bool := decide (sC σ c 6 = s)
theorem if_close {σ : q_S} {j : Nat} (h0 : sG σ 1 = 0) (hj : j < 6) : qIfClose σ (nI j) = icl σ (sclose σ) j := by
  rw [qIfClose, if_pos (isC_nI (by omega) hj), if_neg (by omega), nI_clamp (by omega)]
set_option maxRecDepth 4000 in
theorem c_isClose {b n0 : Nat} {ω : q_Om} {I : q_Mem} {σ : q_S} {hs : List q_S} (hω : ω.1 = fun q => n0 ≤ q) (hG : RG I σ hs []) (hi : Inv b σ) (hh : ∀ υ, υ ∈ hs → sok υ) (hb : b < 2 ^ 29) : q_MN ω kL_isCloseSo 1 6 [.ref 0] I (IQ σ) := by
  have k0 := k0
  have hs1 := hi.ok
  have hw := hi.wf
  have hg1 := hs1.2.1
  obtain ⟨b0, b1, b2, -⟩ := hw.B
  refine z_start hω pnL_isCloseSo (by simp [Value.category]) (fun v hv a e => ?_) (Nat.le_of_ble_eq_true rfl) ac_int (fun n z => by cases z) dL_isCloseSo_0 dL_isCloseSo_2 (fun ω' => ?_)
  · obtain rfl := List.mem_singleton.mp hv
    cases e
    decide
  refine z_astore_n (ls' := [_, _, _, _, _, _, _, _, _, _, _, _]) dL_isCloseSo_4 (Nat.le_of_ble_eq_true rfl) rfl ?_
  refine z_iconst (v := nI 0) dL_isCloseSo_5 (by decide) ?_
  refine z_istore_n (ls' := [_, _, _, _, _, _, _, _, _, _, _, _]) dL_isCloseSo_6 (Nat.le_of_ble_eq_true rfl) rfl ?_
  have rest : ∀ (J : q_Mem) (T : Nat → Int32), RG J σ hs [] → (∀ i, i < 6 → T i = qIfClose σ (nI i)) → q_Z ω' kL_isCloseSo 27 [some (.ref 0), some (.ref 356), some (.int (nI 6)), none, none, none, none, none, none, none, none, none] [] J T (IQ σ) := by
    intro J T hJ hT
    refine z_aload_n dL_isCloseSo_27 rfl ?_
    refine z_bipush (v := nI 8) dL_isCloseSo_28 (by decide) ?_
    refine z_cV (as := [_]) lk_RL_18 (a_count hJ hs1 (j := 8) (x := nI (sG σ 1)) (by omega) rfl) ⟨5, by decide, by assumption, rfl⟩ rfl (by decide) (Nat.le_of_ble_eq_true rfl) dL_isCloseSo_30 ?_
    rintro v K ⟨rfl, rfl⟩
    refine z_iconst (v := nI 1) dL_isCloseSo_33 (by decide) ?_
    refine z_icmp_neN (tgt := 60) (by omega) (by omega) dL_isCloseSo_34 (by decide) (fun e1 => ?_) (fun e1 => ?_)
    case refine_2 =>
      have et : ∀ i, i < 6 → T i = -1000002 := fun i hi => by
        rw [hT i hi, qIfClose, if_pos (isC_nI (by omega) hi), if_pos e1]
      refine z_aload_n dL_isCloseSo_37 rfl ?_
      refine z_iconst (v := nI 0) dL_isCloseSo_38 (by decide) ?_
      refine z_tget rfl (by omega) (et 0 (by omega)) dL_isCloseSo_39 ?_
      refine z_ldc (v := -1000002) ct_RL_10 dL_isCloseSo_40 ?_
      refine z_icmp_ne (tgt := 58) dL_isCloseSo_42 (by decide) (fun q1 => ?_) (fun q1 => ?_)
      · exact absurd rfl q1
      refine z_aload_n dL_isCloseSo_45 rfl ?_
      refine z_cV (as := []) lk_RL_45 (c_close hJ hs1) ⟨5, by decide, by assumption, rfl⟩ rfl (by decide) (Nat.le_of_ble_eq_true rfl) dL_isCloseSo_46 ?_
      have eo : opClose σ = (-1000002, σ) := by unfold opClose; rw [if_pos e1]
      rw [eo]
      rintro v K ⟨rfl, g1, g2⟩
      refine z_ldc (v := -1000002) ct_RL_10 dL_isCloseSo_49 ?_
      refine z_icmp_ne (tgt := 58) dL_isCloseSo_51 (by decide) (fun q1 => ?_) (fun q1 => ?_)
      · exact absurd rfl q1
      refine z_iconst (v := nI 1) dL_isCloseSo_54 (by decide) ?_
      refine z_goto (tgt := 59) dL_isCloseSo_55 (by decide) ?_
      exact z_iret rfl (bool_ok (Or.inr rfl)).1 dL_isCloseSo_59 ⟨rfl, hs, g1, hh⟩
    have h0 : sG σ 1 = 0 := by omega
    obtain ⟨hc1, hc6, hc7⟩ := inv_close1 hi h0
    have eN := sclose_N σ
    have eo : opClose σ = (nI (bcnt 8 (sbits (pS (sclose σ) 2) 8)), sclose σ) := by unfold opClose; rw [if_neg (by omega)]
    have t0 : T 0 = nI (sbits (pS (sclose σ) 2) 8) := (hT 0 (by omega)).trans (if_close h0 (by omega))
    have t1 : T 1 = nI (sbits (pS (sclose σ) 3) 8) := (hT 1 (by omega)).trans (if_close h0 (by omega))
    have t2 : T 2 = nI (sbits (pS (sclose σ) 4) 8) := (hT 2 (by omega)).trans (if_close h0 (by omega))
    have t3 : T 3 = nI (ssum (fun p => if sP (sclose σ) p 4 = 0 then 0 else 1) 30) := (hT 3 (by omega)).trans (if_close h0 (by omega))
    have t4 : T 4 = nI (sG (sclose σ) 3) - nI (sG σ 3) := (hT 4 (by omega)).trans (if_close h0 (by omega))
    have t5 : T 5 = nI (sG (sclose σ) 2) - nI (sG σ 2) := (hT 5 (by omega)).trans (if_close h0 (by omega))
    have c2 := (nst_bits (sclose σ) 2)
    have c3 := (nst_bits (sclose σ) 3)
    have c4 := (nst_bits (sclose σ) 4)
    clear hT
    generalize hτ : sclose σ = τ at hc1 hc6 hc7 eN eo t0 t1 t2 t3 t4 t5 c2 c3 c4
    have ht1 := hc1.ok
    have htw := hc1.wf
    have eN8 : sN τ 0 ≤ 8 := htw.B.1
    have p2 : sbits (pS τ 2) 8 < 256 := sbits_lt _ 8
    have p3 : sbits (pS τ 3) 8 < 256 := sbits_lt _ 8
    have p4 : sbits (pS τ 4) 8 < 256 := sbits_lt _ 8
    refine z_aload_n dL_isCloseSo_60 rfl ?_
    refine z_bipush (v := nI 9) dL_isCloseSo_61 (by decide) ?_
    refine z_cV (as := [_]) lk_RL_18 (a_count hJ hs1 (j := 9) (x := nI (sG σ 2)) (by omega) rfl) ⟨5, by decide, by assumption, rfl⟩ rfl (by decide) (Nat.le_of_ble_eq_true rfl) dL_isCloseSo_63 ?_
    rintro v K ⟨rfl, rfl⟩
    refine z_istore_n (ls' := [_, _, _, _, _, _, _, _, _, _, _, _]) dL_isCloseSo_66 (Nat.le_of_ble_eq_true rfl) rfl ?_
    refine z_aload_n dL_isCloseSo_67 rfl ?_
    refine z_bipush (v := nI 10) dL_isCloseSo_68 (by decide) ?_
    refine z_cV (as := [_]) lk_RL_18 (a_count hJ hs1 (j := 10) (x := nI (sG σ 3)) (by omega) rfl) ⟨5, by decide, by assumption, rfl⟩ rfl (by decide) (Nat.le_of_ble_eq_true rfl) dL_isCloseSo_70 ?_
    rintro v K ⟨rfl, rfl⟩
    refine z_istore_n (ls' := [_, _, _, _, _, _, _, _, _, _, _, _]) dL_isCloseSo_73 (Nat.le_of_ble_eq_true rfl) rfl ?_
    refine z_aload_n dL_isCloseSo_74 rfl ?_
    refine z_bipush (v := nI 14) dL_isCloseSo_75 (by decide) ?_
    refine z_cV (as := [_]) lk_RL_18 (a_count hJ hs1 (j := 14) (x := nI (sG σ 6)) (by omega) rfl) ⟨5, by decide, by assumption, rfl⟩ rfl (by decide) (Nat.le_of_ble_eq_true rfl) dL_isCloseSo_77 ?_
    rintro v K ⟨rfl, rfl⟩
    refine z_istore (ls' := [_, _, _, _, _, _, _, _, _, _, _, _]) dL_isCloseSo_80 (Nat.le_of_ble_eq_true rfl) rfl ?_
    refine z_aload_n dL_isCloseSo_82 rfl ?_
    refine z_bipush (v := nI 15) dL_isCloseSo_83 (by decide) ?_
    refine z_cV (as := [_]) lk_RL_18 (a_count hJ hs1 (j := 15) (x := nI (sG σ 7)) (by omega) rfl) ⟨5, by decide, by assumption, rfl⟩ rfl (by decide) (Nat.le_of_ble_eq_true rfl) dL_isCloseSo_85 ?_
    rintro v K ⟨rfl, rfl⟩
    refine z_istore (ls' := [_, _, _, _, _, _, _, _, _, _, _, _]) dL_isCloseSo_88 (Nat.le_of_ble_eq_true rfl) rfl ?_
    refine z_aload_n dL_isCloseSo_90 rfl ?_
    refine z_cV (as := []) lk_RL_45 (c_close hJ hs1) ⟨5, by decide, by assumption, rfl⟩ rfl (by decide) (Nat.le_of_ble_eq_true rfl) dL_isCloseSo_91 ?_
    rw [eo]
    rintro v K ⟨rfl, g1, g2⟩
    have g1 : RG K τ (hst (nI (bcnt 8 (sbits (pS τ 2) 8))) σ hs) [] := g1
    have b8 := bcnt_le 8 (sbits (pS τ 2) 8)
    rw [hst_ok (by omega)] at g1
    have g1 : RG K τ (σ :: hs.take 3) [] := g1
    refine z_istore (ls' := [_, _, _, _, _, _, _, _, _, _, _, _]) dL_isCloseSo_94 (Nat.le_of_ble_eq_true rfl) rfl ?_
    refine z_iconst (v := nI 0) dL_isCloseSo_96 (by decide) ?_
    refine z_istore (ls' := [_, _, _, _, _, _, _, _, _, _, _, _]) dL_isCloseSo_97 (Nat.le_of_ble_eq_true rfl) rfl ?_
    refine z_iconst (v := nI 0) dL_isCloseSo_99 (by decide) ?_
    refine z_istore (ls' := [_, _, _, _, _, _, _, _, _, _, _, _]) dL_isCloseSo_100 (Nat.le_of_ble_eq_true rfl) rfl ?_
    refine z_iconst (v := nI 0) dL_isCloseSo_102 (by decide) ?_
    refine z_istore (ls' := [_, _, _, _, _, _, _, _, _, _, _, _]) dL_isCloseSo_103 (Nat.le_of_ble_eq_true rfl) rfl ?_
    refine z_iconst (v := nI 0) dL_isCloseSo_105 (by decide) ?_
    refine z_istore (ls' := [_, _, _, _, _, _, _, _, _, _, _, _]) dL_isCloseSo_106 (Nat.le_of_ble_eq_true rfl) rfl ?_
    have fin : q_Z ω' kL_isCloseSo 199 [some (.ref 0), some (.ref 356), some (.int (nI (sG σ 2))), some (.int (nI (sG σ 3))), some (.int (nI (sG σ 6))), some (.int (nI (sG σ 7))), some (.int (nI (bcnt 8 (sbits (pS τ 2) 8)))), some (.int (nI (sbits (pS τ 2) 8))), some (.int (nI (sbits (pS τ 3) 8))), some (.int (nI (sbits (pS τ 4) 8))), some (.int (nI (sN τ 0))), none] [] K T (IQ σ) := by
      refine z_iload dL_isCloseSo_199 rfl ?_
      refine z_aload_n dL_isCloseSo_201 rfl ?_
      refine z_iconst (v := nI 0) dL_isCloseSo_202 (by decide) ?_
      refine z_tget rfl (by omega) t0 dL_isCloseSo_203 ?_
      refine z_icmp_ne (tgt := 324) dL_isCloseSo_204 (by decide) (fun q1 => ?_) (fun q1 => ?_)
      · exact absurd rfl q1
      refine z_iload dL_isCloseSo_207 rfl ?_
      refine z_aload_n dL_isCloseSo_209 rfl ?_
      refine z_iconst (v := nI 1) dL_isCloseSo_210 (by decide) ?_
      refine z_tget rfl (by omega) t1 dL_isCloseSo_211 ?_
      refine z_icmp_ne (tgt := 324) dL_isCloseSo_212 (by decide) (fun q1 => ?_) (fun q1 => ?_)
      · exact absurd rfl q1
      refine z_iload dL_isCloseSo_215 rfl ?_
      refine z_aload_n dL_isCloseSo_217 rfl ?_
      refine z_iconst (v := nI 2) dL_isCloseSo_218 (by decide) ?_
      refine z_tget rfl (by omega) t2 dL_isCloseSo_219 ?_
      refine z_icmp_ne (tgt := 324) dL_isCloseSo_220 (by decide) (fun q1 => ?_) (fun q1 => ?_)
      · exact absurd rfl q1
      refine z_iload dL_isCloseSo_223 rfl ?_
      refine z_iload dL_isCloseSo_225 rfl ?_
      refine z_cS (as := [_]) lk_RL_77 (c_bits p2) rfl (by decide) (Nat.le_of_ble_eq_true rfl) dL_isCloseSo_227 ?_
      rintro v L ⟨rfl, rfl⟩
      refine z_icmp_ne (tgt := 324) dL_isCloseSo_230 (by decide) (fun q1 => ?_) (fun q1 => ?_)
      · exact absurd rfl q1
      refine z_aload_n dL_isCloseSo_233 rfl ?_
      refine z_iconst (v := nI 4) dL_isCloseSo_234 (by decide) ?_
      refine z_cV (as := [_]) lk_RL_18 (a_count g1 ht1 (j := 4) (x := nI (ssum (fun p => if sP τ p 4 = 0 then 0 else 1) 30)) (by omega) rfl) ⟨5, by decide, by assumption, rfl⟩ rfl (by decide) (Nat.le_of_ble_eq_true rfl) dL_isCloseSo_235 ?_
      rintro v L ⟨rfl, rfl⟩
      refine z_aload_n dL_isCloseSo_238 rfl ?_
      refine z_iconst (v := nI 3) dL_isCloseSo_239 (by decide) ?_
      refine z_tget rfl (by omega) t3 dL_isCloseSo_240 ?_
      refine z_icmp_ne (tgt := 324) dL_isCloseSo_241 (by decide) (fun q1 => ?_) (fun q1 => ?_)
      · exact absurd rfl q1
      refine z_aload_n dL_isCloseSo_244 rfl ?_
      refine z_bipush (v := nI 10) dL_isCloseSo_245 (by decide) ?_
      refine z_cV (as := [_]) lk_RL_18 (a_count g1 ht1 (j := 10) (x := nI (sG τ 3)) (by omega) rfl) ⟨5, by decide, by assumption, rfl⟩ rfl (by decide) (Nat.le_of_ble_eq_true rfl) dL_isCloseSo_247 ?_
      rintro v L ⟨rfl, rfl⟩
      refine z_iload_n dL_isCloseSo_250 rfl ?_
      refine z_aload_n dL_isCloseSo_251 rfl ?_
      refine z_iconst (v := nI 4) dL_isCloseSo_252 (by decide) ?_
      refine z_tget rfl (by omega) t4 dL_isCloseSo_253 ?_
      refine z_iadd dL_isCloseSo_254 ?_
      rw [add_sub]
      refine z_icmp_ne (tgt := 324) dL_isCloseSo_255 (by decide) (fun q1 => ?_) (fun q1 => ?_)
      · exact absurd rfl q1
      refine z_aload_n dL_isCloseSo_258 rfl ?_
      refine z_bipush (v := nI 9) dL_isCloseSo_259 (by decide) ?_
      refine z_cV (as := [_]) lk_RL_18 (a_count g1 ht1 (j := 9) (x := nI (sG τ 2)) (by omega) rfl) ⟨5, by decide, by assumption, rfl⟩ rfl (by decide) (Nat.le_of_ble_eq_true rfl) dL_isCloseSo_261 ?_
      rintro v L ⟨rfl, rfl⟩
      refine z_iload_n dL_isCloseSo_264 rfl ?_
      refine z_aload_n dL_isCloseSo_265 rfl ?_
      refine z_iconst (v := nI 5) dL_isCloseSo_266 (by decide) ?_
      refine z_tget rfl (by omega) t5 dL_isCloseSo_267 ?_
      refine z_iadd dL_isCloseSo_268 ?_
      rw [add_sub]
      refine z_icmp_ne (tgt := 324) dL_isCloseSo_269 (by decide) (fun q1 => ?_) (fun q1 => ?_)
      · exact absurd rfl q1
      refine z_aload_n dL_isCloseSo_272 rfl ?_
      refine z_bipush (v := nI 14) dL_isCloseSo_273 (by decide) ?_
      refine z_cV (as := [_]) lk_RL_18 (a_count g1 ht1 (j := 14) (x := nI (sG τ 6)) (by omega) rfl) ⟨5, by decide, by assumption, rfl⟩ rfl (by decide) (Nat.le_of_ble_eq_true rfl) dL_isCloseSo_275 ?_
      rintro v L ⟨rfl, rfl⟩
      refine z_iload dL_isCloseSo_278 rfl ?_
      refine z_iload dL_isCloseSo_280 rfl ?_
      refine z_cS (as := [_]) lk_RL_77 (c_bits p4) rfl (by decide) (Nat.le_of_ble_eq_true rfl) dL_isCloseSo_282 ?_
      rintro v L ⟨rfl, rfl⟩
      refine z_iadd dL_isCloseSo_285 ?_
      rw [nI_add, c4, ← hc6]
      refine z_icmp_ne (tgt := 324) dL_isCloseSo_286 (by decide) (fun q1 => ?_) (fun q1 => ?_)
      · exact absurd rfl q1
      refine z_aload_n dL_isCloseSo_289 rfl ?_
      refine z_bipush (v := nI 15) dL_isCloseSo_290 (by decide) ?_
      refine z_cV (as := [_]) lk_RL_18 (a_count g1 ht1 (j := 15) (x := nI (sG τ 7)) (by omega) rfl) ⟨5, by decide, by assumption, rfl⟩ rfl (by decide) (Nat.le_of_ble_eq_true rfl) dL_isCloseSo_292 ?_
      rintro v L ⟨rfl, rfl⟩
      refine z_iload dL_isCloseSo_295 rfl ?_
      refine z_iload dL_isCloseSo_297 rfl ?_
      refine z_cS (as := [_]) lk_RL_77 (c_bits p3) rfl (by decide) (Nat.le_of_ble_eq_true rfl) dL_isCloseSo_299 ?_
      rintro v L ⟨rfl, rfl⟩
      refine z_iadd dL_isCloseSo_302 ?_
      rw [nI_add, c3, ← hc7]
      refine z_icmp_ne (tgt := 324) dL_isCloseSo_303 (by decide) (fun q1 => ?_) (fun q1 => ?_)
      · exact absurd rfl q1
      refine z_aload_n dL_isCloseSo_306 rfl ?_
      refine z_cS (as := [_]) lk_RL_80 (c_people g1 hc1 (by omega)) rfl (by decide) (Nat.le_of_ble_eq_true rfl) dL_isCloseSo_307 ?_
      rintro v L ⟨rfl, rfl⟩
      refine z_if_eqN (tgt := 324) (by omega) dL_isCloseSo_310 (by decide) (fun q1 => ?_) (fun q1 => ?_)
      · omega
      refine z_aload_n dL_isCloseSo_313 rfl ?_
      refine z_cS (as := [_]) lk_RL_84 (c_courses g1 hc1) rfl (by decide) (Nat.le_of_ble_eq_true rfl) dL_isCloseSo_314 ?_
      rintro v L ⟨rfl, rfl⟩
      refine z_if_eqN (tgt := 324) (by omega) dL_isCloseSo_317 (by decide) (fun q1 => ?_) (fun q1 => ?_)
      · omega
      have hx2 : ∀ χ, χ ∈ σ :: hs.take 3 → sok χ := fun χ h => by
        rcases List.mem_cons.mp h with rfl | h
        · exact hs1
        · exact hh χ (List.mem_of_mem_take h)
      refine z_iconst (v := nI 1) dL_isCloseSo_320 (by decide) ?_
      refine z_goto (tgt := 325) dL_isCloseSo_321 (by decide) ?_
      refine z_istore (ls' := [_, _, _, _, _, _, _, _, _, _, _, _]) dL_isCloseSo_325 (Nat.le_of_ble_eq_true rfl) rfl ?_
      refine z_aload_n dL_isCloseSo_327 rfl ?_
      refine z_cV (as := []) lk_RL_87 (c_undo g1 hx2) ⟨5, by decide, by assumption, rfl⟩ rfl (by decide) (Nat.le_of_ble_eq_true rfl) dL_isCloseSo_328 ?_
      rintro v L ⟨rfl, g5, g6⟩
      have g5 : RG L σ (hs.take 3) [] := g5
      have hl : (hs.take 3).length ≤ 4 := by
        obtain ⟨-, -, -, n, hn, h3, h4, h5, -⟩ := id g5
        exact h5
      rw [show (qUndo τ (σ :: hs.take 3)).1 = nI (hs.take 3).length from rfl]
      refine z_istore (ls' := [_, _, _, _, _, _, _, _, _, _, _, _]) dL_isCloseSo_331 (Nat.le_of_ble_eq_true rfl) rfl ?_
      refine z_iload dL_isCloseSo_333 rfl ?_
      refine z_if_eqN (tgt := 366) (by omega) dL_isCloseSo_335 (by decide) (fun q1 => ?_) (fun q1 => ?_)
      · omega
      refine z_iload dL_isCloseSo_338 rfl ?_
      refine z_if_lt (tgt := 366) dL_isCloseSo_340 (by decide) (fun q2 => ?_) (fun q2 => ?_)
      · exact absurd q2 (nn (by omega))
      refine z_aload_n dL_isCloseSo_343 rfl ?_
      refine z_bipush (v := nI 8) dL_isCloseSo_344 (by decide) ?_
      refine z_cV (as := [_]) lk_RL_18 (a_count g5 hs1 (j := 8) (x := nI (sG σ 1)) (by omega) rfl) ⟨5, by decide, by assumption, rfl⟩ rfl (by decide) (Nat.le_of_ble_eq_true rfl) dL_isCloseSo_346 ?_
      rintro v M ⟨rfl, rfl⟩
      refine z_if_neN (tgt := 366) (by omega) dL_isCloseSo_349 (by decide) (fun q3 => ?_) (fun q3 => ?_)
      · omega
      refine z_aload_n dL_isCloseSo_352 rfl ?_
      refine z_bipush (v := nI 9) dL_isCloseSo_353 (by decide) ?_
      refine z_cV (as := [_]) lk_RL_18 (a_count g5 hs1 (j := 9) (x := nI (sG σ 2)) (by omega) rfl) ⟨5, by decide, by assumption, rfl⟩ rfl (by decide) (Nat.le_of_ble_eq_true rfl) dL_isCloseSo_355 ?_
      rintro v M ⟨rfl, rfl⟩
      refine z_iload_n dL_isCloseSo_358 rfl ?_
      refine z_icmp_ne (tgt := 366) dL_isCloseSo_359 (by decide) (fun q3 => ?_) (fun q3 => ?_)
      · exact absurd rfl q3
      refine z_iconst (v := nI 1) dL_isCloseSo_362 (by decide) ?_
      refine z_goto (tgt := 367) dL_isCloseSo_363 (by decide) ?_
      exact z_iret rfl (bool_ok (Or.inr rfl)).1 dL_isCloseSo_367 ⟨rfl, hs.take 3, g5, fun χ h => hh χ (List.mem_of_mem_take h)⟩
    have loop : ∀ d c, c + d = sN τ 0 → q_Z ω' kL_isCloseSo 108 [some (.ref 0), some (.ref 356), some (.int (nI (sG σ 2))), some (.int (nI (sG σ 3))), some (.int (nI (sG σ 6))), some (.int (nI (sG σ 7))), some (.int (nI (bcnt 8 (sbits (pS τ 2) 8)))), some (.int (nI (sbits (pS τ 2) c))), some (.int (nI (sbits (pS τ 3) c))), some (.int (nI (sbits (pS τ 4) c))), some (.int (nI c)), none] [] K T (IQ σ) := by
      intro d
      induction d with
      | zero =>
        intro c hc
        obtain rfl : c = sN τ 0 := by omega
        have tl : ∀ s, ¬ s = 0 → sbits (pS τ s) (sN τ 0) = sbits (pS τ s) 8 := fun s hs0 => (sbits_tail (fun c hc => decide_eq_false (fun z => by have := (htw.2.2.1 c hc).1; omega)) 8 htw.B.1).symm
        rw [tl 2 (by omega), tl 3 (by omega), tl 4 (by omega)]
        refine z_iload dL_isCloseSo_108 rfl ?_
        refine z_aload_n dL_isCloseSo_110 rfl ?_
        refine z_iconst (v := nI 0) dL_isCloseSo_111 (by decide) ?_
        refine z_cV (as := [_]) lk_RL_18 (a_count g1 ht1 (j := 0) (x := nI (sN τ 0)) (by omega) rfl) ⟨5, by decide, by assumption, rfl⟩ rfl (by decide) (Nat.le_of_ble_eq_true rfl) dL_isCloseSo_112 ?_
        rintro v L ⟨rfl, rfl⟩
        refine z_icmp_geN (tgt := 199) (by omega) (by omega) dL_isCloseSo_115 (by decide) (fun q1 => ?_) (fun q1 => ?_)
        · exact fin
        · omega
      | succ d ih =>
        intro c hc
        have hc2 : c < sN τ 0 := by omega
        have hc8 : c < 8 := by omega
        have st1 := htw.2.2.2.1 c hc2
        have st4 := (htw.cr hc8).2.2.2.2.2.2.1
        have e : ∀ s, nI (sbits (pS τ s) c) ||| (nI 1 <<< (nI c &&& 31)) = nI (sbits (pS τ s) c + 2 ^ c) := fun s => bit_or c hc8 _ (sbits_lt _ c)
        have ey : ∀ s, sC τ c 6 = s → sbits (pS τ s) (c + 1) = sbits (pS τ s) c + 2 ^ c := fun s h => by
          rw [sbits, show pS τ s c = true from decide_eq_true h]; rfl
        have en : ∀ s, ¬ sC τ c 6 = s → sbits (pS τ s) (c + 1) = sbits (pS τ s) c := fun s h => by
          rw [sbits, show pS τ s c = false from decide_eq_false h]; rfl
        have s3 : q_Z ω' kL_isCloseSo 168 [some (.ref 0), some (.ref 356), some (.int (nI (sG σ 2))), some (.int (nI (sG σ 3))), some (.int (nI (sG σ 6))), some (.int (nI (sG σ 7))), some (.int (nI (bcnt 8 (sbits (pS τ 2) 8)))), some (.int (nI (sbits (pS τ 2) (c + 1)))), some (.int (nI (sbits (pS τ 3) (c + 1)))), some (.int (nI (sbits (pS τ 4) c))), some (.int (nI c)), none] [] K T (IQ σ) := by
          have nx := ih (c + 1) (by omega)
          refine z_iload dL_isCloseSo_168 rfl ?_
          refine z_aload_n dL_isCloseSo_170 rfl ?_
          refine z_iload dL_isCloseSo_171 rfl ?_
          refine z_bipush (v := nI 6) dL_isCloseSo_173 (by decide) ?_
          refine z_cV (as := [_, _]) lk_RL_58 (a_course g1 ht1 hc2 (j := 6) (x := nI (sC τ c 6 - 1)) (by omega) (st_enc htw hc2)) ⟨5, by decide, by assumption, rfl⟩ rfl (by decide) (Nat.le_of_ble_eq_true rfl) dL_isCloseSo_175 ?_
          rintro v L ⟨rfl, rfl⟩
          refine z_iconst (v := nI 3) dL_isCloseSo_178 (by decide) ?_
          refine z_icmp_neN (tgt := 189) (by omega) (by omega) dL_isCloseSo_179 (by decide) (fun q => ?_) (fun q => ?_)
          · rw [en 4 (by omega)] at nx
            refine z_iconst (v := nI 0) dL_isCloseSo_189 (by decide) ?_
            refine z_ior dL_isCloseSo_190 ?_
            rw [or0]
            refine z_istore (ls' := [_, _, _, _, _, _, _, _, _, _, _, _]) dL_isCloseSo_191 (Nat.le_of_ble_eq_true rfl) rfl ?_
            refine z_iinc (ls' := [_, _, _, _, _, _, _, _, _, _, _, _]) dL_isCloseSo_193 rfl (nI_add _ 1) rfl ?_
            refine z_goto (tgt := 108) dL_isCloseSo_196 (by decide) ?_
            exact nx
          · rw [ey 4 (by omega)] at nx
            refine z_iconst (v := nI 1) dL_isCloseSo_182 (by decide) ?_
            refine z_iload dL_isCloseSo_183 rfl ?_
            refine z_ishl dL_isCloseSo_185 ?_
            refine z_goto (tgt := 190) dL_isCloseSo_186 (by decide) ?_
            refine z_ior dL_isCloseSo_190 ?_
            rw [e]
            refine z_istore (ls' := [_, _, _, _, _, _, _, _, _, _, _, _]) dL_isCloseSo_191 (Nat.le_of_ble_eq_true rfl) rfl ?_
            refine z_iinc (ls' := [_, _, _, _, _, _, _, _, _, _, _, _]) dL_isCloseSo_193 rfl (nI_add _ 1) rfl ?_
            refine z_goto (tgt := 108) dL_isCloseSo_196 (by decide) ?_
            exact nx
        have s2 : q_Z ω' kL_isCloseSo 143 [some (.ref 0), some (.ref 356), some (.int (nI (sG σ 2))), some (.int (nI (sG σ 3))), some (.int (nI (sG σ 6))), some (.int (nI (sG σ 7))), some (.int (nI (bcnt 8 (sbits (pS τ 2) 8)))), some (.int (nI (sbits (pS τ 2) (c + 1)))), some (.int (nI (sbits (pS τ 3) c))), some (.int (nI (sbits (pS τ 4) c))), some (.int (nI c)), none] [] K T (IQ σ) := by
          refine z_iload dL_isCloseSo_143 rfl ?_
          refine z_aload_n dL_isCloseSo_145 rfl ?_
          refine z_iload dL_isCloseSo_146 rfl ?_
          refine z_bipush (v := nI 6) dL_isCloseSo_148 (by decide) ?_
          refine z_cV (as := [_, _]) lk_RL_58 (a_course g1 ht1 hc2 (j := 6) (x := nI (sC τ c 6 - 1)) (by omega) (st_enc htw hc2)) ⟨5, by decide, by assumption, rfl⟩ rfl (by decide) (Nat.le_of_ble_eq_true rfl) dL_isCloseSo_150 ?_
          rintro v L ⟨rfl, rfl⟩
          refine z_iconst (v := nI 2) dL_isCloseSo_153 (by decide) ?_
          refine z_icmp_neN (tgt := 164) (by omega) (by omega) dL_isCloseSo_154 (by decide) (fun q => ?_) (fun q => ?_)
          · rw [en 3 (by omega)] at s3
            refine z_iconst (v := nI 0) dL_isCloseSo_164 (by decide) ?_
            refine z_ior dL_isCloseSo_165 ?_
            rw [or0]
            refine z_istore (ls' := [_, _, _, _, _, _, _, _, _, _, _, _]) dL_isCloseSo_166 (Nat.le_of_ble_eq_true rfl) rfl ?_
            exact s3
          · rw [ey 3 (by omega)] at s3
            refine z_iconst (v := nI 1) dL_isCloseSo_157 (by decide) ?_
            refine z_iload dL_isCloseSo_158 rfl ?_
            refine z_ishl dL_isCloseSo_160 ?_
            refine z_goto (tgt := 165) dL_isCloseSo_161 (by decide) ?_
            refine z_ior dL_isCloseSo_165 ?_
            rw [e]
            refine z_istore (ls' := [_, _, _, _, _, _, _, _, _, _, _, _]) dL_isCloseSo_166 (Nat.le_of_ble_eq_true rfl) rfl ?_
            exact s3
        refine z_iload dL_isCloseSo_108 rfl ?_
        refine z_aload_n dL_isCloseSo_110 rfl ?_
        refine z_iconst (v := nI 0) dL_isCloseSo_111 (by decide) ?_
        refine z_cV (as := [_]) lk_RL_18 (a_count g1 ht1 (j := 0) (x := nI (sN τ 0)) (by omega) rfl) ⟨5, by decide, by assumption, rfl⟩ rfl (by decide) (Nat.le_of_ble_eq_true rfl) dL_isCloseSo_112 ?_
        rintro v L ⟨rfl, rfl⟩
        refine z_icmp_geN (tgt := 199) (by omega) (by omega) dL_isCloseSo_115 (by decide) (fun q1 => ?_) (fun q1 => ?_)
        · omega
        refine z_iload dL_isCloseSo_118 rfl ?_
        refine z_aload_n dL_isCloseSo_120 rfl ?_
        refine z_iload dL_isCloseSo_121 rfl ?_
        refine z_bipush (v := nI 6) dL_isCloseSo_123 (by decide) ?_
        refine z_cV (as := [_, _]) lk_RL_58 (a_course g1 ht1 hc2 (j := 6) (x := nI (sC τ c 6 - 1)) (by omega) (st_enc htw hc2)) ⟨5, by decide, by assumption, rfl⟩ rfl (by decide) (Nat.le_of_ble_eq_true rfl) dL_isCloseSo_125 ?_
        rintro v L ⟨rfl, rfl⟩
        refine z_iconst (v := nI 1) dL_isCloseSo_128 (by decide) ?_
        refine z_icmp_neN (tgt := 139) (by omega) (by omega) dL_isCloseSo_129 (by decide) (fun q => ?_) (fun q => ?_)
        · rw [en 2 (by omega)] at s2
          refine z_iconst (v := nI 0) dL_isCloseSo_139 (by decide) ?_
          refine z_ior dL_isCloseSo_140 ?_
          rw [or0]
          refine z_istore (ls' := [_, _, _, _, _, _, _, _, _, _, _, _]) dL_isCloseSo_141 (Nat.le_of_ble_eq_true rfl) rfl ?_
          exact s2
        · rw [ey 2 (by omega)] at s2
          refine z_iconst (v := nI 1) dL_isCloseSo_132 (by decide) ?_
          refine z_iload dL_isCloseSo_133 rfl ?_
          refine z_ishl dL_isCloseSo_135 ?_
          refine z_goto (tgt := 140) dL_isCloseSo_136 (by decide) ?_
          refine z_ior dL_isCloseSo_140 ?_
          rw [e]
          refine z_istore (ls' := [_, _, _, _, _, _, _, _, _, _, _, _]) dL_isCloseSo_141 (Nat.le_of_ble_eq_true rfl) rfl ?_
          exact s2
    exact loop (sN τ 0) 0 (by omega)
  have loop : ∀ d k (J : q_Mem) (T : Nat → Int32), k + d = 6 → RG J σ hs [] → (∀ i, i < k → T i = qIfClose σ (nI i)) → q_Z ω' kL_isCloseSo 7 [some (.ref 0), some (.ref 356), some (.int (nI k)), none, none, none, none, none, none, none, none, none] [] J T (IQ σ) := by
    intro d
    induction d with
    | zero =>
      intro k J T hk hJ hT
      obtain rfl : k = 6 := by omega
      refine z_iload_n dL_isCloseSo_7 rfl ?_
      refine z_bipush (v := nI 6) dL_isCloseSo_8 (by decide) ?_
      refine z_icmp_geN (tgt := 27) (by omega) (by omega) dL_isCloseSo_10 (by decide) (fun q => ?_) (fun q => ?_)
      · exact rest J T hJ hT
      · omega
    | succ d ih =>
      intro k J T hk hJ hT
      refine z_iload_n dL_isCloseSo_7 rfl ?_
      refine z_bipush (v := nI 6) dL_isCloseSo_8 (by decide) ?_
      refine z_icmp_geN (tgt := 27) (by omega) (by omega) dL_isCloseSo_10 (by decide) (fun q => ?_) (fun q => ?_)
      · omega
      refine z_aload_n dL_isCloseSo_13 rfl ?_
      refine z_iload_n dL_isCloseSo_14 rfl ?_
      refine z_aload_n dL_isCloseSo_15 rfl ?_
      refine z_iload_n dL_isCloseSo_16 rfl ?_
      refine z_cV (as := [_]) lk_RL_74 (g_ifClose (w := nI k) hJ hs1) ⟨5, by decide, by assumption, rfl⟩ rfl (by decide) (Nat.le_of_ble_eq_true rfl) dL_isCloseSo_17 ?_
      rintro v K ⟨rfl, g1, g2⟩
      refine z_tput rfl (by omega) dL_isCloseSo_20 ?_
      refine z_iinc (ls' := [_, _, _, _, _, _, _, _, _, _, _, _]) dL_isCloseSo_21 rfl (nI_add _ 1) rfl ?_
      refine z_goto (tgt := 7) dL_isCloseSo_24 (by decide) ?_
      refine ih (k + 1) K _ (by omega) g1 (fun i hi => ?_)
      by_cases e : i = k
      · rw [e, pk_us]
      · rw [pk_un e]; exact hT i (by omega)
  exact loop 6 0 I _ (by omega) hG (fun i hi => by omega)
