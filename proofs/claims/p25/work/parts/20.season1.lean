/-! the class's season: what is asked of it, one by one -/
/-- a reference to a class of the season at b, by its number + 1; null for 0 -/
def crf (b w : Nat) : Value := if w = 0 then .null else .ref (b + 4 + 2 * (w - 1))
theorem c_courseAt {b : Nat} {x : Int32} {I : q_Mem} {σ : q_S} (hk : q_kd b = 3) (h : RC b I σ) (h8 : sN σ 0 ≤ 8) : q_M kX3_courseAt [.ref b, .int x] I (fun v J => I = J ∧ ((∃ c, c < sN σ 0 ∧ x = nI c ∧ v = some (.ref (b + 4 + 2 * c))) ∨ ((∀ c, c < sN σ 0 → ¬ x = nI c) ∧ v = some .null))) := by
  refine q_M.of pnX3_courseAt (by simp [Value.category]) (Nat.le_of_ble_eq_true rfl) ?_
  refine q_iload_n dX3_courseAt_0 rfl ?_
  refine q_if_lt (tgt := 30) dX3_courseAt_1 (by decide) (fun h0 => ?_) (fun h0 => ?_)
  · refine q_null dX3_courseAt_30 ?_
    exact q_aretN rfl dX3_courseAt_31 ⟨rfl, Or.inr ⟨fun c hc q => by rw [q] at h0; exact nI_pos (by omega) h0, rfl⟩⟩
  obtain ⟨c, hc, rfl⟩ := nI_of h0
  refine q_iload_n dX3_courseAt_4 rfl ?_
  refine q_aload_n dX3_courseAt_5 rfl ?_
  refine q_getI fl_RX3_50 rfl (by assumption) (h.n (j := 0) (by omega)) dX3_courseAt_6 ?_
  refine q_icmp_geN (tgt := 30) (by omega) (by omega) dX3_courseAt_9 (by decide) (fun h1 => ?_) (fun h1 => ?_)
  · refine q_null dX3_courseAt_30 ?_
    exact q_aretN rfl dX3_courseAt_31 ⟨rfl, Or.inr ⟨fun d hd q => by have := (nI_eq (by omega) (by omega)).mp q; omega, rfl⟩⟩
  refine q_iload_n dX3_courseAt_12 rfl ?_
  refine q_aload_n dX3_courseAt_13 rfl ?_
  refine q_getR fl_RX3_11 rfl (by assumption) dX3_courseAt_14 ?_
  refine q_lenC hk rfl dX3_courseAt_17 ?_
  refine q_icmp_geN (tgt := 30) (by omega) (by omega) dX3_courseAt_18 (by decide) (fun h2 => ?_) (fun h2 => ?_)
  · omega
  refine q_aload_n dX3_courseAt_21 rfl ?_
  refine q_getR fl_RX3_11 rfl (by assumption) dX3_courseAt_22 ?_
  refine q_iload_n dX3_courseAt_25 rfl ?_
  refine q_aaldC hk rfl (i := c) (by omega) dX3_courseAt_26 ?_
  refine q_goto (tgt := 31) dX3_courseAt_27 (by decide) ?_
  exact q_aret rfl dX3_courseAt_31 ⟨rfl, Or.inl ⟨c, h1, rfl, rfl⟩⟩
theorem c_courseAtE {b w : Nat} {I : q_Mem} {σ : q_S} (hk : q_kd b = 3) (h : RC b I σ) (h8 : sN σ 0 ≤ 8) (hw : w ≤ sN σ 0) : q_M kX3_courseAt [.ref b, .int (enc w)] I (fun v J => v = some (crf b w) ∧ I = J) := by
  refine (c_courseAt hk h h8).mono ?_
  rintro v J ⟨rfl, ⟨c, hc, hx, rfl⟩ | ⟨hx, rfl⟩⟩
  · have := (enc_nI (u := w) (v := c) (by omega) (by omega)).mp hx
    subst this
    exact ⟨rfl, rfl⟩
  · refine ⟨?_, rfl⟩
    by_cases e : w = 0
    · rw [crf, if_pos e]
    · refine absurd ?_ (hx (w - 1) (by omega))
      exact (enc_nI (by omega) (by omega)).mpr (by omega)
theorem c_personAt {b : Nat} {x : Int32} {I : q_Mem} {σ : q_S} (hk : q_kd b = 3) (h : RC b I σ) (h8 : sN σ 2 ≤ 30) : q_M kX3_personAt [.ref b, .int x] I (fun v J => I = J ∧ ((∃ c, c < sN σ 2 ∧ x = nI c ∧ v = some (.ref (b + 20 + c))) ∨ ((∀ c, c < sN σ 2 → ¬ x = nI c) ∧ v = some .null))) := by
  refine q_M.of pnX3_personAt (by simp [Value.category]) (Nat.le_of_ble_eq_true rfl) ?_
  refine q_iload_n dX3_personAt_0 rfl ?_
  refine q_if_lt (tgt := 30) dX3_personAt_1 (by decide) (fun h0 => ?_) (fun h0 => ?_)
  · refine q_null dX3_personAt_30 ?_
    exact q_aretN rfl dX3_personAt_31 ⟨rfl, Or.inr ⟨fun c hc q => by rw [q] at h0; exact nI_pos (by omega) h0, rfl⟩⟩
  obtain ⟨c, hc, rfl⟩ := nI_of h0
  refine q_iload_n dX3_personAt_4 rfl ?_
  refine q_aload_n dX3_personAt_5 rfl ?_
  refine q_getI fl_RX3_54 rfl (by assumption) (h.n (j := 2) (by omega)) dX3_personAt_6 ?_
  refine q_icmp_geN (tgt := 30) (by omega) (by omega) dX3_personAt_9 (by decide) (fun h1 => ?_) (fun h1 => ?_)
  · refine q_null dX3_personAt_30 ?_
    exact q_aretN rfl dX3_personAt_31 ⟨rfl, Or.inr ⟨fun d hd q => by have := (nI_eq (by omega) (by omega)).mp q; omega, rfl⟩⟩
  refine q_iload_n dX3_personAt_12 rfl ?_
  refine q_aload_n dX3_personAt_13 rfl ?_
  refine q_getR fl_RX3_19 rfl (by assumption) dX3_personAt_14 ?_
  refine q_lenP hk rfl dX3_personAt_17 ?_
  refine q_icmp_geN (tgt := 30) (by omega) (by omega) dX3_personAt_18 (by decide) (fun h2 => ?_) (fun h2 => ?_)
  · omega
  refine q_aload_n dX3_personAt_21 rfl ?_
  refine q_getR fl_RX3_19 rfl (by assumption) dX3_personAt_22 ?_
  refine q_iload_n dX3_personAt_25 rfl ?_
  refine q_aaldP hk rfl (i := c) (by omega) dX3_personAt_26 ?_
  refine q_goto (tgt := 31) dX3_personAt_27 (by decide) ?_
  exact q_aret rfl dX3_personAt_31 ⟨rfl, Or.inl ⟨c, h1, rfl, rfl⟩⟩
theorem c_personAtN {b p : Nat} {I : q_Mem} {σ : q_S} (hk : q_kd b = 3) (h : RC b I σ) (h8 : sN σ 2 ≤ 30) (hp : p < sN σ 2) : q_M kX3_personAt [.ref b, .int (nI p)] I (fun v J => v = some (.ref (b + 20 + p)) ∧ I = J) := by
  refine (c_personAt hk h h8).mono ?_
  rintro v J ⟨rfl, ⟨c, hc, hx, rfl⟩ | ⟨hx, rfl⟩⟩
  · have := (nI_eq (by omega) (by omega)).mp hx
    subst this
    exact ⟨rfl, rfl⟩
  · exact absurd rfl (hx p hp)
theorem c_isRoom {b : Nat} {x : Int32} {I : q_Mem} {σ : q_S} (hk : q_kd b = 3) (h : RC b I σ) (hB : sB σ) : q_M kX3_isRoom [.ref b, .int x] I (fun v J => I = J ∧ ((∃ c, c < sN σ 1 ∧ x = nI c ∧ v = some (.int 1)) ∨ ((∀ c, c < sN σ 1 → ¬ x = nI c) ∧ v = some (.int 0)))) := by
  have h8 : sN σ 1 ≤ 5 := hB.2.1
  refine q_M.of pnX3_isRoom (by simp [Value.category]) (Nat.le_of_ble_eq_true rfl) ?_
  refine q_iload_n dX3_isRoom_0 rfl ?_
  refine q_if_lt (tgt := 16) dX3_isRoom_1 (by decide) (fun h0 => ?_) (fun h0 => ?_)
  · refine q_iconst (v := nI 0) dX3_isRoom_16 (by decide) ?_
    exact q_iret rfl rfl dX3_isRoom_17 ⟨rfl, Or.inr ⟨fun c hc q => by rw [q] at h0; exact nI_pos (by omega) h0, rfl⟩⟩
  obtain ⟨c, hc, rfl⟩ := nI_of h0
  refine q_iload_n dX3_isRoom_4 rfl ?_
  refine q_aload_n dX3_isRoom_5 rfl ?_
  refine q_getI fl_RX3_57 rfl (by assumption) (h.n (j := 1) (by omega)) dX3_isRoom_6 ?_
  refine q_icmp_geN (tgt := 16) (by omega) (by omega) dX3_isRoom_9 (by decide) (fun h1 => ?_) (fun h1 => ?_)
  · refine q_iconst (v := nI 0) dX3_isRoom_16 (by decide) ?_
    exact q_iret rfl rfl dX3_isRoom_17 ⟨rfl, Or.inr ⟨fun d hd q => by have := (nI_eq (by omega) (by omega)).mp q; omega, rfl⟩⟩
  refine q_iconst (v := nI 1) dX3_isRoom_12 (by decide) ?_
  refine q_goto (tgt := 17) dX3_isRoom_13 (by decide) ?_
  exact q_iret rfl rfl dX3_isRoom_17 ⟨rfl, Or.inl ⟨c, h1, rfl, rfl⟩⟩
theorem c_chairsOf {b r : Nat} {I : q_Mem} {σ : q_S} (hk : q_kd b = 3) (h : RC b I σ) (hr : r < 5) : q_M kX3_chairsOf [.ref b, .int (nI r)] I (fun v J => v = some (.int (nI (sR σ r))) ∧ I = J) := by
  refine q_M.of pnX3_chairsOf (by simp [Value.category]) (Nat.le_of_ble_eq_true rfl) ?_
  refine q_iload_n dX3_chairsOf_0 rfl ?_
  refine q_if_ltN (tgt := 22) (by omega) dX3_chairsOf_1 (by decide) (fun h0 => ?_) (fun h0 => ?_)
  · omega
  refine q_iload_n dX3_chairsOf_4 rfl ?_
  refine q_aload_n dX3_chairsOf_5 rfl ?_
  refine q_getR fl_RX3_23 rfl (by assumption) dX3_chairsOf_6 ?_
  refine q_lenR hk rfl dX3_chairsOf_9 ?_
  refine q_icmp_geN (tgt := 22) (by omega) (by omega) dX3_chairsOf_10 (by decide) (fun h1 => ?_) (fun h1 => ?_)
  · omega
  refine q_aload_n dX3_chairsOf_13 rfl ?_
  refine q_getR fl_RX3_23 rfl (by assumption) dX3_chairsOf_14 ?_
  refine q_iload_n dX3_chairsOf_17 rfl ?_
  refine q_ialdR hk rfl hr (h.r hr) dX3_chairsOf_18 ?_
  refine q_goto (tgt := 23) dX3_chairsOf_19 (by decide) ?_
  exact q_iret rfl rfl dX3_chairsOf_23 ⟨rfl, rfl⟩
theorem c_hasFreeS {b c : Nat} {I : q_Mem} {σ : q_S} (hk : q_kd b = 3) (h : RC b I σ) (hw : WFc σ) (hc : c < 8) : q_M kX0_hasFreePlace [.ref (b + 4 + 2 * c)] I (fun v J => v = some (.int (if sC σ c 6 = 1 ∧ sLen σ c < sC σ c 4 then 1 else 0)) ∧ I = J) := by
  have hcr := hw.cr hc
  refine (c_hasFree (kSC hk hc) (h.len hc) (h.c hc (j := 4) (by omega)) (Nat.lt_of_le_of_lt (hw.len _) (by omega)) (Nat.lt_of_le_of_lt hcr.2.2.2.2.1 (by omega))).mono ?_
  rintro v J ⟨rfl, rfl⟩
  have hst : I (b + 4 + 2 * c) 8 = 0 ↔ sC σ c 6 = 1 := by
    rw [show I (b + 4 + 2 * c) 8 = enc (sC σ c 6) from h.c hc (j := 6) (by omega)]
    exact enc_z (by have := hcr.2.2.2.2.2.2.1; omega)
  refine ⟨?_, rfl⟩
  by_cases q : sC σ c 6 = 1 ∧ sLen σ c < sC σ c 4
  · rw [if_pos q, if_pos ⟨hst.mpr q.1, q.2⟩]
  · rw [if_neg q, if_neg (fun z => q ⟨hst.mp z.1, z.2⟩)]
/-- the wishes from the rank k on -/
def sbk (σ : q_S) (p : Nat) : Nat → Nat → Nat
  | 0, _ => 0
  | d + 1, k => if sP σ p (1 + k) = sP σ p 4 then 0 else if sfr σ (sP σ p (1 + k)) then sP σ p (1 + k) else sbk σ p d (k + 1)
theorem sbet_k (σ : q_S) (p : Nat) : sbet σ p = if sP σ p 0 = 0 then 0 else sbk σ p 3 0 := rfl
theorem sbk_le {σ : q_S} (hw : WFc σ) (p : Nat) : ∀ d k, d + k ≤ 3 → sbk σ p d k ≤ sN σ 0 := by
  intro d
  induction d with
  | zero => intro k _; exact Nat.zero_le _
  | succ d ih =>
    intro k hk
    unfold sbk
    have hp := hw.pr p
    have : sP σ p (1 + k) ≤ sN σ 0 := by
      have hc : k = 0 ∨ k = 1 ∨ k = 2 := by omega
      rcases hc with rfl | rfl | rfl
      · exact hp.2.1
      · exact hp.2.2.1
      · exact hp.2.2.2.1
    split
    · exact Nat.zero_le _
    · split
      · exact this
      · exact ih (k + 1) (by omega)
theorem sbet_le {σ : q_S} (hw : WFc σ) (p : Nat) : sbet σ p ≤ sN σ 0 := by
  rw [sbet_k]
  split
  · exact Nat.zero_le _
  · exact sbk_le hw p 3 0 (by omega)
theorem c_better {b p : Nat} {I : q_Mem} {σ : q_S} (hk : q_kd b = 3) (h : RC b I σ) (hw : WFc σ) (hp : p < 30) : q_M kX3_betterFor [.ref b, .ref (b + 20 + p)] I (fun v J => v = some (crf b (sbet σ p)) ∧ I = J) := by
  have hkp := kSP hk hp
  have hpr := hw.pr p
  have h8 : sN σ 0 ≤ 8 := hw.B.1
  have key : ∀ (d k : Nat) (o3 o4 : Option Value), d + k = 3 → q_X kX3_betterFor 11 [some (.ref b), some (.ref (b + 20 + p)), some (.int (nI k)), o3, o4] [] I (fun v J => v = some (crf b (sbk σ p d k)) ∧ I = J) := by
    intro d
    induction d with
    | zero =>
      intro k o3 o4 hd
      refine q_iload_n dX3_betterFor_11 rfl ?_
      refine q_iconst (v := nI 3) dX3_betterFor_12 (by decide) ?_
      refine q_icmp_geN (tgt := 61) (by omega) (by omega) dX3_betterFor_13 (by decide) (fun h1 => ?_) (fun h1 => ?_)
      · refine q_null dX3_betterFor_61 ?_
        exact q_aretN rfl dX3_betterFor_62 ⟨rfl, rfl⟩
      · omega
    | succ d ih =>
      intro k o3 o4 hd
      refine q_iload_n dX3_betterFor_11 rfl ?_
      refine q_iconst (v := nI 3) dX3_betterFor_12 (by decide) ?_
      refine q_icmp_geN (tgt := 61) (by omega) (by omega) dX3_betterFor_13 (by decide) (fun h1 => ?_) (fun h1 => ?_)
      · omega
      refine q_aload_n dX3_betterFor_16 rfl ?_
      refine q_iload_n dX3_betterFor_17 rfl ?_
      refine q_cV (as := [_]) lk_RX3_179 (c_wishAt hkp (r := k) (by omega)) ⟨2, by decide, by assumption, rfl⟩ rfl (by decide) (Nat.le_of_ble_eq_true rfl) dX3_betterFor_18 ?_
      rintro v J ⟨rfl, rfl⟩
      have hwk : I (b + 20 + p) (5 + k) = enc (sP σ p (1 + k)) ∧ sP σ p (1 + k) ≤ sN σ 0 := by
        have hc : k = 0 ∨ k = 1 ∨ k = 2 := by omega
        rcases hc with rfl | rfl | rfl
        · exact ⟨h.p hp (j := 1) (by omega), hpr.2.1⟩
        · exact ⟨h.p hp (j := 2) (by omega), hpr.2.2.1⟩
        · exact ⟨h.p hp (j := 3) (by omega), hpr.2.2.2.1⟩
      rw [hwk.1]
      refine q_istore_n (ls' := [_, _, _, _, _]) dX3_betterFor_21 (Nat.le_of_ble_eq_true rfl) rfl ?_
      refine q_iload_n dX3_betterFor_22 rfl ?_
      refine q_aload_n dX3_betterFor_23 rfl ?_
      refine q_getI fl_RX3_182 rfl (by assumption) (h.p hp (j := 4) (by omega)) dX3_betterFor_24 ?_
      refine q_icmp_ne (tgt := 32) dX3_betterFor_27 (by decide) (fun h2 => ?_) (fun h2 => ?_)
      · refine q_aload_n dX3_betterFor_32 rfl ?_
        refine q_iload_n dX3_betterFor_33 rfl ?_
        refine q_cV (as := [_]) lk_RX3_123 (c_courseAtE hk h hw.B.1 hwk.2) ⟨3, by decide, by assumption, rfl⟩ rfl (by decide) (Nat.le_of_ble_eq_true rfl) dX3_betterFor_34 ?_
        rintro v J ⟨rfl, rfl⟩
        have hne : ¬ sP σ p (1 + k) = sP σ p 4 := fun q => h2 (by rw [q]; rfl)
        by_cases e : sP σ p (1 + k) = 0
        · rw [crf, if_pos e]
          refine q_astoreN (ls' := [_, _, _, _, _]) dX3_betterFor_37 (Nat.le_of_ble_eq_true rfl) rfl ?_
          refine q_aloadN dX3_betterFor_39 rfl ?_
          refine q_ifnullN (tgt := 55) dX3_betterFor_41 (by decide) ?_
          refine q_iinc (ls' := [_, _, _, _, _]) dX3_betterFor_55 rfl (nI_add _ 1) rfl ?_
          refine q_goto (tgt := 11) dX3_betterFor_58 (by decide) ?_
          refine (ih (k + 1) _ _ (by omega)).mono ?_
          rintro v J ⟨rfl, rfl⟩
          refine ⟨?_, rfl⟩
          rw [sbk, if_neg hne, if_neg (fun q => q.1 e)]
        · rw [crf, if_neg e]
          have hc8 : sP σ p (1 + k) - 1 < 8 := by omega
          have hcr := hw.cr hc8
          refine q_astore (ls' := [_, _, _, _, _]) dX3_betterFor_37 (Nat.le_of_ble_eq_true rfl) rfl ?_
          refine q_aload dX3_betterFor_39 rfl ?_
          refine q_ifnull dX3_betterFor_41 ?_
          refine q_aload dX3_betterFor_44 rfl ?_
          refine q_cV (as := []) lk_RX3_185 (c_hasFreeS hk h hw hc8) ⟨0, by decide, kSC hk hc8, rfl⟩ rfl (by decide) (Nat.le_of_ble_eq_true rfl) dX3_betterFor_46 ?_
          rintro v J ⟨rfl, rfl⟩
          by_cases f : sfr σ (sP σ p (1 + k))
          · rw [if_pos f.2]
            refine q_if_eq (tgt := 55) dX3_betterFor_49 (by decide) (fun h3 => ?_) (fun h3 => ?_)
            · exact absurd h3 (by decide)
            refine q_aload dX3_betterFor_52 rfl ?_
            exact q_aret rfl dX3_betterFor_54 ⟨by rw [sbk, if_neg hne, if_pos f, crf, if_neg e], rfl⟩
          · rw [if_neg (fun q => f ⟨e, q⟩)]
            refine q_if_eq (tgt := 55) dX3_betterFor_49 (by decide) (fun h3 => ?_) (fun h3 => ?_)
            · refine q_iinc (ls' := [_, _, _, _, _]) dX3_betterFor_55 rfl (nI_add _ 1) rfl ?_
              refine q_goto (tgt := 11) dX3_betterFor_58 (by decide) ?_
              refine (ih (k + 1) _ _ (by omega)).mono ?_
              rintro v J ⟨rfl, rfl⟩
              refine ⟨?_, rfl⟩
              rw [sbk, if_neg hne, if_neg f]
            · exact absurd rfl h3
      · refine q_null dX3_betterFor_30 ?_
        have he : sP σ p (1 + k) = sP σ p 4 := (enc_eq (by omega) (by have := hpr.2.2.2.2.1; omega)).mp h2
        exact q_aretN rfl dX3_betterFor_31 ⟨by rw [sbk, if_pos he]; rfl, rfl⟩
  refine q_M.of pnX3_betterFor (by simp [Value.category]) (Nat.le_of_ble_eq_true rfl) ?_
  refine q_aload_n dX3_betterFor_0 rfl ?_
  refine q_getI fl_RX3_104 rfl (by assumption) (h.p hp (j := 0) (by omega)) dX3_betterFor_1 ?_
  have hp0 : sP σ p 0 < 2 ^ 31 := by have := hpr.1; omega
  refine q_if_neN (tgt := 9) hp0 dX3_betterFor_4 (by decide) (fun h1 => ?_) (fun h1 => ?_)
  · refine q_iconst (v := nI 0) dX3_betterFor_9 (by decide) ?_
    refine q_istore_n (ls' := [_, _, _, _, _]) dX3_betterFor_10 (Nat.le_of_ble_eq_true rfl) rfl ?_
    refine (key 3 0 _ _ rfl).mono ?_
    rintro v J ⟨rfl, rfl⟩
    exact ⟨by rw [sbet_k, if_neg h1], rfl⟩
  · refine q_null dX3_betterFor_7 ?_
    exact q_aretN rfl dX3_betterFor_8 ⟨by rw [sbet_k, if_pos h1]; rfl, rfl⟩
