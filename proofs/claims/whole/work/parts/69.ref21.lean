/-! the reference: rooms, people in classes, what a closing would bring -/
theorem scf_z {σ : q_S} {r : Nat} : ∀ k, scf σ r k = 0 ↔ sbits (fun c => decide (sC σ c 7 = r + 1)) k = 0 := by
  intro k
  induction k with
  | zero => exact ⟨fun _ => rfl, fun _ => rfl⟩
  | succ k ih =>
    have hp := Nat.two_pow_pos k
    rw [scf, sbits]
    by_cases e : sC σ k 7 = r + 1
    · rw [if_pos e, decide_eq_true e, if_pos rfl]
      constructor
      · intro z
        split at z <;> omega
      · intro z
        omega
    · rw [if_neg e, decide_eq_false e, if_neg (by decide), Nat.add_zero]
      exact ih
theorem scf_pad {σ : q_S} {r n : Nat} (h : ∀ k, n ≤ k → ¬ sC σ k 7 = r + 1) : ∀ d, scf σ r (n + d) = scf σ r n := by
  intro d
  induction d with
  | zero => rfl
  | succ d ih => rw [show n + (d + 1) = n + d + 1 by omega, scf, if_neg (h (n + d) (by omega)), ih]
theorem scf_step {σ : q_S} {r k : Nat} (e : sC σ k 7 = r + 1) : (scf σ r (k + 1) = sR σ r - sLen σ k + 1 ∧ (scf σ r k = 0 ∨ sR σ r - sLen σ k + 1 < scf σ r k)) ∨ (scf σ r (k + 1) = scf σ r k ∧ ¬ (scf σ r k = 0 ∨ sR σ r - sLen σ k + 1 < scf σ r k)) := by
  rw [scf, if_pos e]
  by_cases z : scf σ r k = 0 ∨ sR σ r - sLen σ k + 1 < scf σ r k
  · exact Or.inl ⟨if_pos z, z⟩
  · exact Or.inr ⟨if_neg z, z⟩
/-- the fewest chairs left as the reference has it -/
def rlf (σ : q_S) (r k : Nat) : Nat := if scf σ r k = 0 then 99 else scf σ r k - 1
theorem rlf_spec (σ : q_S) (r k : Nat) : (scf σ r k = 0 ∧ rlf σ r k = 99) ∨ (¬ scf σ r k = 0 ∧ rlf σ r k + 1 = scf σ r k) := by
  unfold rlf
  by_cases e : scf σ r k = 0
  · exact Or.inl ⟨e, if_pos e⟩
  · exact Or.inr ⟨e, by rw [if_neg e]; omega⟩
theorem r_roomOf {c w : Int32} {I : q_Mem} {σ : q_S} (h : RS I σ) (hs : sok σ) : q_M kX7_roomOf [.ref 356, .int c, .int w] I (fun v J => v = some (.int (qRoomOf σ c w)) ∧ I = J) := by
  have hw := hs.1
  have h5 := hw.B.2.1
  have h8 := hw.B.1
  have bad : ¬ (isC (sN σ 1) c ∧ isC 3 w) → ∀ o3 o4 o5, q_X kX7_roomOf 17 [some (.ref 356), some (.int c), some (.int w), o3, o4, o5] [] I (fun v J => v = some (.int (qRoomOf σ c w)) ∧ I = J) := by
    intro hb o3 o4 o5
    rw [qRoomOf, if_neg hb]
    refine q_ldc (v := -1000001) ct_RX7_109 dX7_roomOf_17 ?_
    exact q_iret rfl rfl dX7_roomOf_19 ⟨rfl, rfl⟩
  refine q_M.of pnX7_roomOf (by simp [Value.category]) (Nat.le_of_ble_eq_true rfl) ?_
  refine q_aload_n dX7_roomOf_0 rfl ?_
  refine q_iload_n dX7_roomOf_1 rfl ?_
  refine q_cV (as := [_]) lk_RX7_164 (r_isRoom h hw.B) (Or.inl ⟨6, by decide, k356, rfl⟩) rfl (by decide) (Nat.le_of_ble_eq_true rfl) dX7_roomOf_2 ?_
  rintro v J ⟨rfl, rfl⟩
  by_cases c1 : isC (sN σ 1) c
  case neg =>
    rw [if_neg c1]
    refine q_if_eq (tgt := 17) dX7_roomOf_5 (by decide) (fun q => ?_) (fun q => ?_)
    · exact bad (fun z => c1 z.1) _ _ _
    · exact absurd rfl q
  rw [if_pos c1]
  refine q_if_eq (tgt := 17) dX7_roomOf_5 (by decide) (fun q => ?_) (fun q => ?_)
  · exact absurd q (by decide)
  refine q_iload_n dX7_roomOf_8 rfl ?_
  refine q_iconst (v := nI 0) dX7_roomOf_9 (by decide) ?_
  refine q_iconst (v := nI 2) dX7_roomOf_10 (by decide) ?_
  refine q_cS (as := [_, _, _]) lk_RX7_32 r_in rfl (by decide) (Nat.le_of_ble_eq_true rfl) dX7_roomOf_11 ?_
  rintro v J ⟨rfl, rfl⟩
  by_cases hwc : isC 3 w
  case neg =>
    rw [if_neg (show ¬ (nI 0 ≤ w ∧ w ≤ nI 2) from fun z => hwc ((isC_le (by omega)).mpr z))]
    refine q_if_ne (tgt := 20) dX7_roomOf_14 (by decide) (fun q => ?_) (fun q => ?_)
    · exact absurd rfl q
    · exact bad (fun z => hwc z.2) _ _ _
  rw [if_pos (show nI 0 ≤ w ∧ w ≤ nI 2 from (isC_le (by omega)).mp hwc)]
  refine q_if_ne (tgt := 20) dX7_roomOf_14 (by decide) (fun q2 => ?_) (fun q2 => ?_)
  rotate_left
  · exact absurd q2 (by decide)
  obtain ⟨d, hd, rfl⟩ := (isC_iff (by omega)).mp c1
  obtain ⟨j, hj, rfl⟩ := (isC_iff (by omega)).mp hwc
  have hv : qRoomOf σ (nI d) (nI j) = rof σ d j := by rw [qRoomOf, if_pos ⟨c1, hwc⟩, nI_clamp (by omega), nI_clamp (by omega)]
  rw [hv]
  have hRr := hw.2.2.2.2.2.2.2 d (by omega)
  have h0 : ∀ k, sN σ 0 ≤ k → ¬ sC σ k 7 = d + 1 := fun k hk => by have := (hw.2.2.1 k hk).2.1; omega
  have hpad : sbits (fun c => decide (sC σ c 7 = d + 1)) (sN σ 0) = sbits (fun c => decide (sC σ c 7 = d + 1)) 8 := sbits_8 h8 (fun k hk => decide_eq_false (h0 k hk))
  have hpad2 : scf σ d (sN σ 0) = scf σ d 8 := by
    have := scf_pad h0 (8 - sN σ 0)
    rwa [show sN σ 0 + (8 - sN σ 0) = 8 by omega, eq_comm] at this
  have key : ∀ (e k : Nat), k + e = sN σ 0 → q_X kX7_roomOf 29 [some (.ref 356), some (.int (nI d)), some (.int (nI j)), some (.int (nI (sbits (fun c => decide (sC σ c 7 = d + 1)) k))), some (.int (nI (rlf σ d k))), some (.int (nI k))] [] I (fun v J => v = some (.int (rof σ d j)) ∧ I = J) := by
    intro e
    induction e with
    | zero =>
      intro k he
      obtain rfl : k = sN σ 0 := by omega
      refine q_iload dX7_roomOf_29 rfl ?_
      refine q_aload_n dX7_roomOf_31 rfl ?_
      refine q_getR2 (b := 357) fl_RX7_7 rfl k356 rfl dX7_roomOf_32 ?_
      refine q_iconst (v := nI 0) dX7_roomOf_35 (by decide) ?_
      refine q_iald k357 rfl (lt357 (by omega)) (by decide) h.n0 dX7_roomOf_36 ?_
      refine q_icmp_geN (tgt := 115) (by omega) (by omega) dX7_roomOf_37 (by decide) (fun q => ?_) (fun q => ?_)
      rotate_left
      · omega
      have hb := sbits_lt (fun c => decide (sC σ c 7 = d + 1)) (sN σ 0)
      have hb2 : 2 ^ (sN σ 0) ≤ 2 ^ 8 := Nat.pow_le_pow_right (by omega) h8
      have hsp := rlf_spec σ d (sN σ 0)
      have hz := scf_z (σ := σ) (r := d) (sN σ 0)
      refine q_iload_n dX7_roomOf_115 rfl ?_
      have hjc : j = 0 ∨ j = 1 ∨ j = 2 := by omega
      rcases hjc with rfl | rfl | rfl
      · refine q_if_neN (tgt := 132) (by omega) dX7_roomOf_116 (by decide) (fun q3 => ?_) (fun q3 => ?_)
        · omega
        refine q_aload_n dX7_roomOf_119 rfl ?_
        refine q_getR2 (b := 357) fl_RX7_7 rfl k356 rfl dX7_roomOf_120 ?_
        refine q_sipush (v := nI 330) dX7_roomOf_123 (by decide) ?_
        refine q_iload_n dX7_roomOf_126 rfl ?_
        refine q_iadd dX7_roomOf_127 ?_
        rw [nI_add]
        refine q_iald k357 rfl (lt357 (by omega)) (by decide) (h.r hd) dX7_roomOf_128 ?_
        refine q_goto (tgt := 152) dX7_roomOf_129 (by decide) ?_
        exact q_iret rfl rfl dX7_roomOf_152 ⟨rfl, rfl⟩
      · refine q_if_neN (tgt := 132) (by omega) dX7_roomOf_116 (by decide) (fun q3 => ?_) (fun q3 => ?_)
        rotate_left
        · omega
        refine q_iload_n dX7_roomOf_132 rfl ?_
        refine q_iconst (v := nI 1) dX7_roomOf_133 (by decide) ?_
        refine q_icmp_neN (tgt := 141) (by omega) (by omega) dX7_roomOf_134 (by decide) (fun q4 => ?_) (fun q4 => ?_)
        · omega
        refine q_iload_n dX7_roomOf_137 rfl ?_
        refine q_goto (tgt := 152) dX7_roomOf_138 (by decide) ?_
        exact q_iret rfl rfl dX7_roomOf_152 ⟨by rw [hpad]; rfl, rfl⟩
      · refine q_if_neN (tgt := 132) (by omega) dX7_roomOf_116 (by decide) (fun q3 => ?_) (fun q3 => ?_)
        rotate_left
        · omega
        refine q_iload_n dX7_roomOf_132 rfl ?_
        refine q_iconst (v := nI 1) dX7_roomOf_133 (by decide) ?_
        refine q_icmp_neN (tgt := 141) (by omega) (by omega) dX7_roomOf_134 (by decide) (fun q4 => ?_) (fun q4 => ?_)
        rotate_left
        · omega
        refine q_iload_n dX7_roomOf_141 rfl ?_
        refine q_if_neN (tgt := 150) (by omega) dX7_roomOf_142 (by decide) (fun q5 => ?_) (fun q5 => ?_)
        · refine q_iload dX7_roomOf_150 rfl ?_
          refine q_iret rfl rfl dX7_roomOf_152 ⟨?_, rfl⟩
          have : ¬ scf σ d 8 = 0 := by rw [← hpad2]; exact fun z => q5 (hz.mp z)
          rw [show rof σ d 2 = told (scf σ d 8) from rfl, told, if_neg this, ← hpad2, show scf σ d (sN σ 0) - 1 = rlf σ d (sN σ 0) by omega]
        · refine q_ldc (v := -1000004) ct_RX7_157 dX7_roomOf_145 ?_
          refine q_goto (tgt := 152) dX7_roomOf_147 (by decide) ?_
          refine q_iret rfl rfl dX7_roomOf_152 ⟨?_, rfl⟩
          have : scf σ d 8 = 0 := by rw [← hpad2]; exact hz.mpr q5
          rw [show rof σ d 2 = told (scf σ d 8) from rfl, told, if_pos this]
    | succ e ih =>
      intro k he
      have hk : k < sN σ 0 := by omega
      have hlt := sbits_lt (fun c => decide (sC σ c 7 = d + 1)) k
      have h7 := (hw.cr (show k < 8 by omega)).2.2.2.2.2.2.2.1
      have nx := ih (k + 1) (by omega)
      refine q_iload dX7_roomOf_29 rfl ?_
      refine q_aload_n dX7_roomOf_31 rfl ?_
      refine q_getR2 (b := 357) fl_RX7_7 rfl k356 rfl dX7_roomOf_32 ?_
      refine q_iconst (v := nI 0) dX7_roomOf_35 (by decide) ?_
      refine q_iald k357 rfl (lt357 (by omega)) (by decide) h.n0 dX7_roomOf_36 ?_
      refine q_icmp_geN (tgt := 115) (by omega) (by omega) dX7_roomOf_37 (by decide) (fun q => ?_) (fun q => ?_)
      · omega
      refine q_aload_n dX7_roomOf_40 rfl ?_
      refine q_getR2 (b := 357) fl_RX7_7 rfl k356 rfl dX7_roomOf_41 ?_
      refine q_iload dX7_roomOf_44 rfl ?_
      refine q_bipush (v := nI 7) dX7_roomOf_46 (by decide) ?_
      refine q_cS (as := [_, _]) lk_RX7_40 r_at rfl (by decide) (Nat.le_of_ble_eq_true rfl) dX7_roomOf_48 ?_
      rintro v J ⟨rfl, rfl⟩
      refine q_iald k357 rfl (lt357 (by omega)) (by decide) (h.c hk (j := 7) (by omega)) dX7_roomOf_51 ?_
      refine q_iload_n dX7_roomOf_52 rfl ?_
      have hz : cenc 7 (sC σ k 7) = nI d ↔ sC σ k 7 = d + 1 := enc_nI (by omega) (by omega)
      refine q_icmp_ne (tgt := 109) dX7_roomOf_53 (by decide) (fun q2 => ?_) (fun q2 => ?_)
      · have hne : ¬ sC σ k 7 = d + 1 := fun z => q2 (hz.mpr z)
        have e1 : scf σ d (k + 1) = scf σ d k := by rw [scf, if_neg hne]
        have e2 : rlf σ d (k + 1) = rlf σ d k := by rw [rlf, e1]; rfl
        have e3 : sbits (fun c => decide (sC σ c 7 = d + 1)) (k + 1) = sbits (fun c => decide (sC σ c 7 = d + 1)) k := by rw [sbits, decide_eq_false hne]; rfl
        rw [e2, e3] at nx
        refine q_iinc (ls' := [_, _, _, _, _, _]) dX7_roomOf_109 rfl (nI_add _ 1) rfl ?_
        refine q_goto (tgt := 29) dX7_roomOf_112 (by decide) ?_
        exact nx
      · have heq : sC σ k 7 = d + 1 := hz.mp q2
        have hfit := (hs.2.2.2 k (by omega)).2.2
        rw [heq, Nat.add_sub_cancel] at hfit
        have e3 : sbits (fun c => decide (sC σ c 7 = d + 1)) (k + 1) = sbits (fun c => decide (sC σ c 7 = d + 1)) k + 2 ^ k := by rw [sbits, decide_eq_true heq]; rfl
        rw [e3] at nx
        have hst := scf_step (σ := σ) heq
        have hs1 := rlf_spec σ d k
        have hs2 := rlf_spec σ d (k + 1)
        have hle := scf_le σ d k
        refine q_iload_n dX7_roomOf_56 rfl ?_
        refine q_iconst (v := nI 1) dX7_roomOf_57 (by decide) ?_
        refine q_iload dX7_roomOf_58 rfl ?_
        refine q_ishl dX7_roomOf_60 ?_
        refine q_ior dX7_roomOf_61 ?_
        rw [bit_or k (by omega) _ hlt]
        refine q_istore_n (ls' := [_, _, _, _, _, _]) dX7_roomOf_62 (Nat.le_of_ble_eq_true rfl) rfl ?_
        refine q_aload_n dX7_roomOf_63 rfl ?_
        refine q_getR2 (b := 357) fl_RX7_7 rfl k356 rfl dX7_roomOf_64 ?_
        refine q_sipush (v := nI 330) dX7_roomOf_67 (by decide) ?_
        refine q_iload_n dX7_roomOf_70 rfl ?_
        refine q_iadd dX7_roomOf_71 ?_
        rw [nI_add]
        refine q_iald k357 rfl (lt357 (by omega)) (by decide) (h.r hd) dX7_roomOf_72 ?_
        refine q_aload_n dX7_roomOf_73 rfl ?_
        refine q_iload dX7_roomOf_74 rfl ?_
        refine q_cV (as := [_]) lk_RX7_47 (r_people h hw.B hk) (Or.inl ⟨6, by decide, k356, rfl⟩) rfl (by decide) (Nat.le_of_ble_eq_true rfl) dX7_roomOf_76 ?_
        rintro v J ⟨rfl, rfl⟩
        refine q_isub dX7_roomOf_79 ?_
        rw [pk_sub hfit]
        refine q_iload dX7_roomOf_80 rfl ?_
        refine q_icmp_geN (tgt := 105) (by omega) (by omega) dX7_roomOf_82 (by decide) (fun q3 => ?_) (fun q3 => ?_)
        · rw [show rlf σ d (k + 1) = rlf σ d k by omega] at nx
          refine q_iload dX7_roomOf_105 rfl ?_
          refine q_istore (ls' := [_, _, _, _, _, _]) dX7_roomOf_107 (Nat.le_of_ble_eq_true rfl) rfl ?_
          refine q_iinc (ls' := [_, _, _, _, _, _]) dX7_roomOf_109 rfl (nI_add _ 1) rfl ?_
          refine q_goto (tgt := 29) dX7_roomOf_112 (by decide) ?_
          exact nx
        · rw [show rlf σ d (k + 1) = sR σ d - sLen σ k by omega] at nx
          refine q_aload_n dX7_roomOf_85 rfl ?_
          refine q_getR2 (b := 357) fl_RX7_7 rfl k356 rfl dX7_roomOf_86 ?_
          refine q_sipush (v := nI 330) dX7_roomOf_89 (by decide) ?_
          refine q_iload_n dX7_roomOf_92 rfl ?_
          refine q_iadd dX7_roomOf_93 ?_
          rw [nI_add]
          refine q_iald k357 rfl (lt357 (by omega)) (by decide) (h.r hd) dX7_roomOf_94 ?_
          refine q_aload_n dX7_roomOf_95 rfl ?_
          refine q_iload dX7_roomOf_96 rfl ?_
          refine q_cV (as := [_]) lk_RX7_47 (r_people h hw.B hk) (Or.inl ⟨6, by decide, k356, rfl⟩) rfl (by decide) (Nat.le_of_ble_eq_true rfl) dX7_roomOf_98 ?_
          rintro v J ⟨rfl, rfl⟩
          refine q_isub dX7_roomOf_101 ?_
          rw [pk_sub hfit]
          refine q_goto (tgt := 107) dX7_roomOf_102 (by decide) ?_
          refine q_istore (ls' := [_, _, _, _, _, _]) dX7_roomOf_107 (Nat.le_of_ble_eq_true rfl) rfl ?_
          refine q_iinc (ls' := [_, _, _, _, _, _]) dX7_roomOf_109 rfl (nI_add _ 1) rfl ?_
          refine q_goto (tgt := 29) dX7_roomOf_112 (by decide) ?_
          exact nx
  refine q_iconst (v := nI 0) dX7_roomOf_20 (by decide) ?_
  refine q_istore_n (ls' := [_, _, _, _, _, _]) dX7_roomOf_21 (Nat.le_of_ble_eq_true rfl) rfl ?_
  refine q_bipush (v := nI 99) dX7_roomOf_22 (by decide) ?_
  refine q_istore (ls' := [_, _, _, _, _, _]) dX7_roomOf_24 (Nat.le_of_ble_eq_true rfl) rfl ?_
  refine q_iconst (v := nI 0) dX7_roomOf_26 (by decide) ?_
  refine q_istore (ls' := [_, _, _, _, _, _]) dX7_roomOf_27 (Nat.le_of_ble_eq_true rfl) rfl ?_
  exact key (sN σ 0) 0 (by omega)
/-! how many people are in classes -/
theorem ssum_congr {f g : Nat → Nat} : ∀ k, (∀ p, p < k → f p = g p) → ssum f k = ssum g k := by
  intro k
  induction k with
  | zero => intro _; rfl
  | succ k ih => intro h; rw [ssum, ssum, ih (fun p hp => h p (by omega)), h k (by omega)]
theorem ssum_add (f g : Nat → Nat) : ∀ k, ssum (fun p => f p + g p) k = ssum f k + ssum g k := by
  intro k
  induction k with
  | zero => rfl
  | succ k ih => rw [ssum, ssum, ssum, ih]; omega
theorem ssum_zero : ∀ k, ssum (fun _ => 0) k = 0 := by
  intro k
  induction k with
  | zero => rfl
  | succ k ih => rw [ssum, ih]
theorem ssum_at (a : Nat) : ∀ k, ssum (fun p => if p = a then 1 else 0) k = if a < k then 1 else 0 := by
  intro k
  induction k with
  | zero => rfl
  | succ k ih =>
    rw [ssum, ih]
    by_cases e : k = a
    · subst e; rw [if_neg (Nat.lt_irrefl _), if_pos rfl, if_pos (Nat.lt_succ_self _)]
    · rw [if_neg e]
      by_cases e2 : a < k
      · rw [if_pos e2, if_pos (by omega)]
      · rw [if_neg e2, if_neg (by omega)]
theorem ssum_swap (f : Nat → Nat → Nat) (m : Nat) : ∀ n, ssum (fun c => ssum (fun p => f c p) m) n = ssum (fun p => ssum (fun c => f c p) n) m := by
  intro n
  induction n with
  | zero => exact (ssum_zero m).symm
  | succ n ih =>
    rw [ssum, ih, ← ssum_add]
    exact ssum_congr m (fun p _ => rfl)
theorem len_cnt (n : Nat) : ∀ l : List Nat, l.Nodup → (∀ p, p ∈ l → p < n) → l.length = ssum (fun p => if p ∈ l then 1 else 0) n := by
  intro l
  induction l with
  | nil =>
    intro _ _
    rw [ssum_congr n (g := fun _ => 0) (fun p _ => if_neg List.not_mem_nil), ssum_zero]
    rfl
  | cons a l ih =>
    intro hn hm
    obtain ⟨h1, h2⟩ := List.nodup_cons.mp hn
    have e : ssum (fun p => if p ∈ a :: l then 1 else 0) n = ssum (fun p => (if p = a then 1 else 0) + (if p ∈ l then 1 else 0)) n := by
      refine ssum_congr n (fun p _ => ?_)
      by_cases q : p = a
      · subst q
        rw [if_pos List.mem_cons_self, if_pos rfl, if_neg h1]
      · rw [if_neg q]
        by_cases q2 : p ∈ l
        · rw [if_pos q2, if_pos (List.mem_cons_of_mem _ q2)]
        · rw [if_neg q2, if_neg (fun z => (List.mem_cons.mp z).elim q q2)]
    rw [e, ssum_add, ssum_at, if_pos (hm a List.mem_cons_self), ← ih h2 (fun p hp => hm p (List.mem_cons_of_mem _ hp)), List.length_cons]
    omega
theorem sum_in : ∀ v, v < 9 → ssum (fun c => if v = c + 1 then 1 else 0) 8 = if v = 0 then 0 else 1 := by decide
theorem lens_in {σ : q_S} (hw : WFc σ) : ssum (fun c => sLen σ c) 8 = ssum (fun p => if sP σ p 4 = 0 then 0 else 1) 30 := by
  have h8 := hw.B.1
  rw [ssum_congr 8 (g := fun c => ssum (fun p => if sP σ p 4 = c + 1 then 1 else 0) 30) (fun c _ => ?_), ssum_swap]
  · exact ssum_congr 30 (fun p _ => sum_in (sP σ p 4) (by have := (hw.pr p).2.2.2.2.1; omega))
  · show (sL σ c).length = _
    rw [len_cnt 30 (sL σ c) (hw.nd c) (fun p hp => hw.mlt30 hp)]
    refine ssum_congr 30 (fun p _ => ?_)
    by_cases e : sP σ p 4 = c + 1
    · rw [if_pos e, if_pos (hw.mem.mpr e)]
    · rw [if_neg e, if_neg (fun z => e (hw.mem.mp z))]
theorem ssum_8 {f : Nat → Nat} {n : Nat} (hn : n ≤ 8) (h : ∀ k, n ≤ k → f k = 0) : ssum f n = ssum f 8 := by
  rw [← ssum_pad h (8 - n), show n + (8 - n) = 8 by omega]
theorem r_peopleIn {I : q_Mem} {σ : q_S} (h : RS I σ) (hw : WFc σ) : q_M kX7_peopleInClasses [.ref 356] I (fun v J => v = some (.int (nI (ssum (fun p => if sP σ p 4 = 0 then 0 else 1) 30))) ∧ I = J) := by
  have h8 := hw.B.1
  have hpad : ssum (fun c => sLen σ c) (sN σ 0) = ssum (fun p => if sP σ p 4 = 0 then 0 else 1) 30 := (ssum_8 h8 (fun k hk => by show (sL σ k).length = 0; rw [(hw.2.2.1 k hk).2.2]; rfl)).trans (lens_in hw)
  have key : ∀ (d k : Nat), k + d = sN σ 0 → q_X kX7_peopleInClasses 4 [some (.ref 356), some (.int (nI (ssum (fun c => sLen σ c) k))), some (.int (nI k))] [] I (fun v J => v = some (.int (nI (ssum (fun p => if sP σ p 4 = 0 then 0 else 1) 30))) ∧ I = J) := by
    intro d
    induction d with
    | zero =>
      intro k hd
      obtain rfl : k = sN σ 0 := by omega
      refine q_iload_n dX7_peopleInClasses_4 rfl ?_
      refine q_aload_n dX7_peopleInClasses_5 rfl ?_
      refine q_getR2 (b := 357) fl_RX7_7 rfl k356 rfl dX7_peopleInClasses_6 ?_
      refine q_iconst (v := nI 0) dX7_peopleInClasses_9 (by decide) ?_
      refine q_iald k357 rfl (lt357 (by omega)) (by decide) h.n0 dX7_peopleInClasses_10 ?_
      refine q_icmp_geN (tgt := 28) (by omega) (by omega) dX7_peopleInClasses_11 (by decide) (fun q => ?_) (fun q => ?_)
      · refine q_iload_n dX7_peopleInClasses_28 rfl ?_
        exact q_iret rfl rfl dX7_peopleInClasses_29 ⟨by rw [hpad], rfl⟩
      · omega
    | succ d ih =>
      intro k hd
      have hk : k < sN σ 0 := by omega
      refine q_iload_n dX7_peopleInClasses_4 rfl ?_
      refine q_aload_n dX7_peopleInClasses_5 rfl ?_
      refine q_getR2 (b := 357) fl_RX7_7 rfl k356 rfl dX7_peopleInClasses_6 ?_
      refine q_iconst (v := nI 0) dX7_peopleInClasses_9 (by decide) ?_
      refine q_iald k357 rfl (lt357 (by omega)) (by decide) h.n0 dX7_peopleInClasses_10 ?_
      refine q_icmp_geN (tgt := 28) (by omega) (by omega) dX7_peopleInClasses_11 (by decide) (fun q => ?_) (fun q => ?_)
      · omega
      refine q_iload_n dX7_peopleInClasses_14 rfl ?_
      refine q_aload_n dX7_peopleInClasses_15 rfl ?_
      refine q_iload_n dX7_peopleInClasses_16 rfl ?_
      refine q_cV (as := [_]) lk_RX7_47 (r_people h hw.B hk) (Or.inl ⟨6, by decide, k356, rfl⟩) rfl (by decide) (Nat.le_of_ble_eq_true rfl) dX7_peopleInClasses_17 ?_
      rintro v J ⟨rfl, rfl⟩
      refine q_iadd dX7_peopleInClasses_20 ?_
      rw [nI_add]
      refine q_istore_n (ls' := [_, _, _]) dX7_peopleInClasses_21 (Nat.le_of_ble_eq_true rfl) rfl ?_
      refine q_iinc (ls' := [_, _, _]) dX7_peopleInClasses_22 rfl (nI_add _ 1) rfl ?_
      refine q_goto (tgt := 4) dX7_peopleInClasses_25 (by decide) ?_
      exact ih (k + 1) (by omega)
  refine q_M.of pnX7_peopleInClasses (by simp [Value.category]) (Nat.le_of_ble_eq_true rfl) ?_
  refine q_iconst (v := nI 0) dX7_peopleInClasses_0 (by decide) ?_
  refine q_istore_n (ls' := [_, _, _]) dX7_peopleInClasses_1 (Nat.le_of_ble_eq_true rfl) rfl ?_
  refine q_iconst (v := nI 0) dX7_peopleInClasses_2 (by decide) ?_
  refine q_istore_n (ls' := [_, _, _]) dX7_peopleInClasses_3 (Nat.le_of_ble_eq_true rfl) rfl ?_
  exact key (sN σ 0) 0 (by omega)
theorem r_ifClose {w : Int32} {I : q_Mem} {σ : q_S} {hs : List q_S} {t : List Nat} (h : MG I σ hs t) (hs1 : sok σ) : q_M kX7_ifClose [.ref 356, .int w] I (fun v J => v = some (.int (qIfClose σ w)) ∧ MG J σ hs t ∧ FR I J) := by
  have hw := hs1.1
  have hG1 := hs1.2.1
  refine q_M.of pnX7_ifClose (by simp [Value.category]) (Nat.le_of_ble_eq_true rfl) ?_
  refine q_iload_n dX7_ifClose_0 rfl ?_
  refine q_iconst (v := nI 0) dX7_ifClose_1 (by decide) ?_
  refine q_iconst (v := nI 5) dX7_ifClose_2 (by decide) ?_
  refine q_cS (as := [_, _, _]) lk_RX7_32 r_in rfl (by decide) (Nat.le_of_ble_eq_true rfl) dX7_ifClose_3 ?_
  rintro v J ⟨rfl, rfl⟩
  by_cases hwc : isC 6 w
  case neg =>
    rw [if_neg (show ¬ (nI 0 ≤ w ∧ w ≤ nI 5) from fun z => hwc ((isC_le (by omega)).mpr z)), qIfClose, if_neg hwc]
    refine q_if_ne (tgt := 12) dX7_ifClose_6 (by decide) (fun q => ?_) (fun q => ?_)
    · exact absurd rfl q
    · refine q_ldc (v := -1000001) ct_RX7_109 dX7_ifClose_9 ?_
      exact q_iret rfl rfl dX7_ifClose_11 ⟨rfl, h, FR.rf⟩
  rw [if_pos (show nI 0 ≤ w ∧ w ≤ nI 5 from (isC_le (by omega)).mp hwc), qIfClose, if_pos hwc]
  refine q_if_ne (tgt := 12) dX7_ifClose_6 (by decide) (fun q => ?_) (fun q => ?_)
  rotate_left
  · exact absurd q (by decide)
  obtain ⟨j, hj, rfl⟩ := (isC_iff (by omega)).mp hwc
  rw [nI_clamp (by omega)]
  refine q_aload_n dX7_ifClose_12 rfl ?_
  refine q_getR2 (b := 357) fl_RX7_7 rfl k356 rfl dX7_ifClose_13 ?_
  refine q_sipush (v := nI 547) dX7_ifClose_16 (by decide) ?_
  refine q_iald k357 rfl (lt357 (by omega)) (by decide) (h.1.g (j := 1) (by omega)) dX7_ifClose_19 ?_
  refine q_iconst (v := nI 1) dX7_ifClose_20 (by decide) ?_
  refine q_icmp_neN (tgt := 27) (by omega) (by omega) dX7_ifClose_21 (by decide) (fun q2 => ?_) (fun q2 => ?_)
  rotate_left
  · rw [if_pos q2]
    refine q_ldc (v := -1000002) ct_RX7_110 dX7_ifClose_24 ?_
    exact q_iret rfl rfl dX7_ifClose_26 ⟨rfl, h, FR.rf⟩
  rw [if_neg q2]
  refine q_aload_n dX7_ifClose_27 rfl ?_
  refine q_cV (as := []) lk_RX7_131 r_putAside (Or.inl ⟨6, by decide, k356, rfl⟩) rfl (by decide) (Nat.le_of_ble_eq_true rfl) dX7_ifClose_28 ?_
  rintro v J ⟨rfl, p1, p2⟩
  have g0 : RS J σ := (h.side p2).1
  refine q_aload_n dX7_ifClose_31 rfl ?_
  refine q_cV (as := []) lk_RX7_119 (r_closes g0 hw) (Or.inl ⟨6, by decide, k356, rfl⟩) rfl (by decide) (Nat.le_of_ble_eq_true rfl) dX7_ifClose_32 ?_
  rintro v K ⟨rfl, g1, g2⟩
  obtain ⟨a1, a2, a3, a4⟩ := h.op hw.B p1 p2 g1 g2
  have tail : ∀ x, q_X kX7_ifClose 104 [some (.ref 356), some (.int (nI j)), none] [.int x] K (fun v J => v = some (.int x) ∧ MG J σ hs t ∧ FR I J) := by
    intro x
    refine q_istore_n (ls' := [_, _, _]) dX7_ifClose_104 (Nat.le_of_ble_eq_true rfl) rfl ?_
    refine q_aload_n dX7_ifClose_105 rfl ?_
    refine q_cV (as := []) lk_RX7_25 r_putBack (Or.inl ⟨6, by decide, k356, rfl⟩) rfl (by decide) (Nat.le_of_ble_eq_true rfl) dX7_ifClose_106 ?_
    rintro v L ⟨rfl, b1, b2⟩
    refine q_iload_n dX7_ifClose_109 rfl ?_
    exact q_iret rfl rfl dX7_ifClose_110 ⟨rfl, ⟨a1.cp hw.B (fun i hi => by rw [Nat.zero_add]; exact b1 i hi), a2.fr (congrFun (b2 356 (by omega)) 3) (b2 359 (by omega)), a3.fr (congrFun (b2 356 (by omega)) 5) (b2 360 (by omega))⟩, a4.tr (FR.of b2 (by omega) (by omega))⟩
  have set : ∀ i, i < 3 → j = i → q_X kX7_ifClose 35 [some (.ref 356), some (.int (nI j)), none] [] K (fun v J => v = some (.int (nI (sbits (fun c => decide (sC (sclose σ) c 6 = 1 + i + 1)) 8))) ∧ MG J σ hs t ∧ FR I J) := by
    intro i hi hji
    subst hji
    refine q_iload_n dX7_ifClose_35 rfl ?_
    refine q_iconst (v := nI 3) dX7_ifClose_36 (by decide) ?_
    refine q_icmp_geN (tgt := 50) (by omega) (by omega) dX7_ifClose_37 (by decide) (fun q => ?_) (fun q => ?_)
    · omega
    refine q_aload_n dX7_ifClose_40 rfl ?_
    refine q_iconst (v := nI 1) dX7_ifClose_41 (by decide) ?_
    refine q_iload_n dX7_ifClose_42 rfl ?_
    refine q_iadd dX7_ifClose_43 ?_
    rw [nI_add]
    refine q_cV (as := [_]) lk_RX7_122 (r_inState g1 hw.close (s := 1 + j) (by omega)) (Or.inl ⟨6, by decide, k356, rfl⟩) rfl (by decide) (Nat.le_of_ble_eq_true rfl) dX7_ifClose_44 ?_
    rintro v J' ⟨rfl, rfl⟩
    refine q_goto (tgt := 104) dX7_ifClose_47 (by decide) ?_
    exact tail _
  have hjc : j = 0 ∨ j = 1 ∨ j = 2 ∨ j = 3 ∨ j = 4 ∨ j = 5 := by omega
  rcases hjc with rfl | rfl | rfl | rfl | rfl | rfl
  · exact set 0 (by omega) rfl
  · exact set 1 (by omega) rfl
  · exact set 2 (by omega) rfl
  · refine q_iload_n dX7_ifClose_35 rfl ?_
    refine q_iconst (v := nI 3) dX7_ifClose_36 (by decide) ?_
    refine q_icmp_geN (tgt := 50) (by omega) (by omega) dX7_ifClose_37 (by decide) (fun q => ?_) (fun q => ?_)
    rotate_left
    · omega
    refine q_iload_n dX7_ifClose_50 rfl ?_
    refine q_iconst (v := nI 3) dX7_ifClose_51 (by decide) ?_
    refine q_icmp_neN (tgt := 62) (by omega) (by omega) dX7_ifClose_52 (by decide) (fun q => ?_) (fun q => ?_)
    · omega
    refine q_aload_n dX7_ifClose_55 rfl ?_
    refine q_cV (as := []) lk_RX7_167 (r_peopleIn g1 hw.close) (Or.inl ⟨6, by decide, k356, rfl⟩) rfl (by decide) (Nat.le_of_ble_eq_true rfl) dX7_ifClose_56 ?_
    rintro v J' ⟨rfl, rfl⟩
    refine q_goto (tgt := 104) dX7_ifClose_59 (by decide) ?_
    exact tail _
  · have v1 : K 357 549 = nI (sG (sclose σ) 3) := g1.g (j := 3) (by omega)
    have v2 : K 358 549 = nI (sG σ 3) := a1.2.1 3 (by omega)
    refine q_iload_n dX7_ifClose_35 rfl ?_
    refine q_iconst (v := nI 3) dX7_ifClose_36 (by decide) ?_
    refine q_icmp_geN (tgt := 50) (by omega) (by omega) dX7_ifClose_37 (by decide) (fun q => ?_) (fun q => ?_)
    rotate_left
    · omega
    refine q_iload_n dX7_ifClose_50 rfl ?_
    refine q_iconst (v := nI 3) dX7_ifClose_51 (by decide) ?_
    refine q_icmp_neN (tgt := 62) (by omega) (by omega) dX7_ifClose_52 (by decide) (fun q => ?_) (fun q => ?_)
    rotate_left
    · omega
    refine q_iload_n dX7_ifClose_62 rfl ?_
    refine q_iconst (v := nI 4) dX7_ifClose_63 (by decide) ?_
    refine q_icmp_neN (tgt := 87) (by omega) (by omega) dX7_ifClose_64 (by decide) (fun q => ?_) (fun q => ?_)
    · omega
    refine q_aload_n dX7_ifClose_67 rfl ?_
    refine q_getR2 (b := 357) fl_RX7_7 rfl k356 rfl dX7_ifClose_68 ?_
    refine q_sipush (v := nI 549) dX7_ifClose_71 (by decide) ?_
    refine q_iald k357 rfl (lt357 (by omega)) (by decide) v1 dX7_ifClose_74 ?_
    refine q_aload_n dX7_ifClose_75 rfl ?_
    refine q_getR2 (b := 358) fl_RX7_13 rfl k356 rfl dX7_ifClose_76 ?_
    refine q_sipush (v := nI 549) dX7_ifClose_79 (by decide) ?_
    refine q_iald k358 rfl (lt358 (by omega)) (by decide) v2 dX7_ifClose_82 ?_
    refine q_isub dX7_ifClose_83 ?_
    refine q_goto (tgt := 104) dX7_ifClose_84 (by decide) ?_
    exact tail _
  · have v1 : K 357 548 = nI (sG (sclose σ) 2) := g1.g (j := 2) (by omega)
    have v2 : K 358 548 = nI (sG σ 2) := a1.2.1 2 (by omega)
    refine q_iload_n dX7_ifClose_35 rfl ?_
    refine q_iconst (v := nI 3) dX7_ifClose_36 (by decide) ?_
    refine q_icmp_geN (tgt := 50) (by omega) (by omega) dX7_ifClose_37 (by decide) (fun q => ?_) (fun q => ?_)
    rotate_left
    · omega
    refine q_iload_n dX7_ifClose_50 rfl ?_
    refine q_iconst (v := nI 3) dX7_ifClose_51 (by decide) ?_
    refine q_icmp_neN (tgt := 62) (by omega) (by omega) dX7_ifClose_52 (by decide) (fun q => ?_) (fun q => ?_)
    rotate_left
    · omega
    refine q_iload_n dX7_ifClose_62 rfl ?_
    refine q_iconst (v := nI 4) dX7_ifClose_63 (by decide) ?_
    refine q_icmp_neN (tgt := 87) (by omega) (by omega) dX7_ifClose_64 (by decide) (fun q => ?_) (fun q => ?_)
    rotate_left
    · omega
    refine q_aload_n dX7_ifClose_87 rfl ?_
    refine q_getR2 (b := 357) fl_RX7_7 rfl k356 rfl dX7_ifClose_88 ?_
    refine q_sipush (v := nI 548) dX7_ifClose_91 (by decide) ?_
    refine q_iald k357 rfl (lt357 (by omega)) (by decide) v1 dX7_ifClose_94 ?_
    refine q_aload_n dX7_ifClose_95 rfl ?_
    refine q_getR2 (b := 358) fl_RX7_13 rfl k356 rfl dX7_ifClose_96 ?_
    refine q_sipush (v := nI 548) dX7_ifClose_99 (by decide) ?_
    refine q_iald k358 rfl (lt358 (by omega)) (by decide) v2 dX7_ifClose_102 ?_
    refine q_isub dX7_ifClose_103 ?_
    exact tail _
