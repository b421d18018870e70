/-! texts of the library -/
/-- the letters of the words of orders -/
def wl : List (List Nat) := [[106, 111, 105, 110], [119, 105, 115, 104], [108, 101, 97, 118, 101], [99, 108, 111, 115, 101], [116, 101, 114, 109]]
abbrev wll (w : Nat) : Nat := q_lens.getD w 0
abbrev wlc (w j : Nat) : Nat := (wl.getD w []).getD j 0
theorem c_coder {i : Nat} (hi : i < 5) {I : q_Mem} : q_M kJ0_coder_7d493 [.ref (368 + i)] I (fun v J => v = some (.int 0) ∧ I = J) := by
  refine q_M.of pnJ0_coder_7d493 (by simp [Value.category]) (Nat.le_of_ble_eq_true rfl) ?_
  refine q_compact fj_RJ0_38 dJ0_coder_7d493_0 ?_
  refine q_if_eq (tgt := 13) dJ0_coder_7d493_3 (by decide) (fun q => ?_) (fun q => ?_)
  · exact absurd q (by decide)
  refine q_aload_n dJ0_coder_7d493_6 rfl ?_
  refine q_scoder hi fj_RJ0_15 dJ0_coder_7d493_7 ?_
  refine q_goto (tgt := 14) dJ0_coder_7d493_10 (by decide) ?_
  exact q_iret rfl rfl dJ0_coder_7d493_14 ⟨rfl, rfl⟩
theorem c_isLatin1 {i : Nat} (hi : i < 5) {I : q_Mem} : q_M kJ0_isLatin1_aae02 [.ref (368 + i)] I (fun v J => v = some (.int 1) ∧ I = J) := by
  refine q_M.of pnJ0_isLatin1_aae02 (by simp [Value.category]) (Nat.le_of_ble_eq_true rfl) ?_
  refine q_compact fj_RJ0_38 dJ0_isLatin1_aae02_0 ?_
  refine q_if_eq (tgt := 17) dJ0_isLatin1_aae02_3 (by decide) (fun q => ?_) (fun q => ?_)
  · exact absurd q (by decide)
  refine q_aload_n dJ0_isLatin1_aae02_6 rfl ?_
  refine q_scoder hi fj_RJ0_15 dJ0_isLatin1_aae02_7 ?_
  refine q_if_ne (tgt := 17) dJ0_isLatin1_aae02_10 (by decide) (fun q2 => ?_) (fun q2 => ?_)
  · exact absurd rfl q2
  refine q_iconst (v := nI 1) dJ0_isLatin1_aae02_13 (by decide) ?_
  refine q_goto (tgt := 18) dJ0_isLatin1_aae02_14 (by decide) ?_
  exact q_iret rfl rfl dJ0_isLatin1_aae02_18 ⟨rfl, rfl⟩
theorem wl_shr : ∀ i, i < 5 → nI (q_lens.getD i 0) >>> ((0 : Int32) &&& 31) = nI (wll i) := by decide
theorem c_length {i : Nat} (hi : i < 5) {I : q_Mem} : q_M kJ0_length_8abf5 [.ref (368 + i)] I (fun v J => v = some (.int (nI (wll i))) ∧ I = J) := by
  refine q_M.of pnJ0_length_8abf5 (by simp [Value.category]) (Nat.le_of_ble_eq_true rfl) ?_
  refine q_aload_n dJ0_length_8abf5_0 rfl ?_
  refine q_svalue hi fj_RJ0_9 dJ0_length_8abf5_1 ?_
  refine q_slen hi rfl dJ0_length_8abf5_4 ?_
  refine q_aload_n dJ0_length_8abf5_5 rfl ?_
  refine q_cV (as := []) lk_RJ0_335 (c_coder hi) (Or.inr ⟨rfl, i, hi, rfl⟩) rfl (by decide) (Nat.le_of_ble_eq_true rfl) dJ0_length_8abf5_6 ?_
  rintro v J ⟨rfl, rfl⟩
  refine q_ishr dJ0_length_8abf5_9 ?_
  exact q_iret rfl rfl dJ0_length_8abf5_10 ⟨by rw [wl_shr i hi], rfl⟩
theorem c_checkP {j n : Nat} (hj : j < n) (hn : n < 100) {x : Value} (hx : x.category = 1) {I : q_Mem} : q_M kJ3_checkIndex_8e157 [.int (nI j), .int (nI n), x] I (fun v J => v = some (.int (nI j)) ∧ I = J) := by
  have hcat : ∀ v ∈ [Value.int (nI j), Value.int (nI n), x], v.category = 1 := by
    intro v hv
    simp only [List.mem_cons, List.not_mem_nil, or_false] at hv
    rcases hv with rfl | rfl | rfl
    · rfl
    · rfl
    · exact hx
  refine q_M.of pnJ3_checkIndex_8e157 hcat (Nat.le_of_ble_eq_true rfl) ?_
  refine q_iload_n dJ3_checkIndex_8e157_0 rfl ?_
  refine q_if_ltN (tgt := 9) (by omega) dJ3_checkIndex_8e157_1 (by decide) (fun q => ?_) (fun q => ?_)
  · omega
  refine q_iload_n dJ3_checkIndex_8e157_4 rfl ?_
  refine q_iload_n dJ3_checkIndex_8e157_5 rfl ?_
  refine q_icmp_ltN (tgt := 16) (by omega) (by omega) dJ3_checkIndex_8e157_6 (by decide) (fun q2 => ?_) (fun q2 => ?_)
  · refine q_iload_n dJ3_checkIndex_8e157_16 rfl ?_
    exact q_iret rfl rfl dJ3_checkIndex_8e157_17 ⟨rfl, rfl⟩
  · omega
theorem c_checkI {j n : Nat} (hj : j < n) (hn : n < 100) {I : q_Mem} : q_M kJ0_checkIndex_df160 [.int (nI j), .int (nI n)] I (fun v J => v = none ∧ I = J) := by
  refine q_M.of pnJ0_checkIndex_df160 (by simp [Value.category]) (Nat.le_of_ble_eq_true rfl) ?_
  refine q_iload_n dJ0_checkIndex_df160_0 rfl ?_
  refine q_iload_n dJ0_checkIndex_df160_1 rfl ?_
  refine q_sioobe fj_RJ0_1053 dJ0_checkIndex_df160_2 ?_ ?_
  · refine q_cS (as := [_, _, _]) lk_RJ0_1059 (c_checkP (x := .null) hj hn rfl) rfl (by decide) (Nat.le_of_ble_eq_true rfl) dJ0_checkIndex_df160_5 ?_
    rintro v J ⟨rfl, rfl⟩
    refine q_pop dJ0_checkIndex_df160_8 rfl ?_
    exact q_vret rfl dJ0_checkIndex_df160_9 ⟨rfl, rfl⟩
  · refine q_cS (as := [_, _, _]) lk_RJ0_1059 (c_checkP (x := .ref 381) hj hn rfl) rfl (by decide) (Nat.le_of_ble_eq_true rfl) dJ0_checkIndex_df160_5 ?_
    rintro v J ⟨rfl, rfl⟩
    refine q_pop dJ0_checkIndex_df160_8 rfl ?_
    exact q_vret rfl dJ0_checkIndex_df160_9 ⟨rfl, rfl⟩
theorem wl_c : ∀ i, i < 5 → ∀ j, j < wll i → (((q_byts.getD i []).getD j 0) &&& 255) = nI (wlc i j) ∧ ((nI (wlc i j)).toUInt32 % 65536).toInt32 = nI (wlc i j) ∧ narrow FieldType.char (.int (nI (wlc i j))) = .int (nI (wlc i j)) := by decide
theorem wll_lt : ∀ i, i < 5 → wll i < 100 := by decide
theorem c_charAtL {i j : Nat} (hi : i < 5) (hj : j < wll i) {I : q_Mem} : q_M kJ1_charAt_3b067 [.ref (373 + i), .int (nI j)] I (fun v J => v = some (.int (nI (wlc i j))) ∧ I = J) := by
  obtain ⟨e1, e2, e3⟩ := wl_c i hi j hj
  refine q_M.of pnJ1_charAt_3b067 (by simp [Value.category]) (Nat.le_of_ble_eq_true rfl) ?_
  refine q_iload_n dJ1_charAt_3b067_0 rfl ?_
  refine q_aload_n dJ1_charAt_3b067_1 rfl ?_
  refine q_slen hi rfl dJ1_charAt_3b067_2 ?_
  refine q_cS (as := [_, _]) lk_RJ1_9 (c_checkI hj (wll_lt i hi)) rfl (by decide) (Nat.le_of_ble_eq_true rfl) dJ1_charAt_3b067_3 ?_
  rintro v J ⟨rfl, rfl⟩
  refine q_aload_n dJ1_charAt_3b067_6 rfl ?_
  refine q_iload_n dJ1_charAt_3b067_7 rfl ?_
  refine q_sald hi rfl hj rfl dJ1_charAt_3b067_8 ?_
  refine q_sipush (v := nI 255) dJ1_charAt_3b067_9 (by decide) ?_
  refine q_iand dJ1_charAt_3b067_12 ?_
  rw [show nI 255 = (255 : Int32) from rfl, e1]
  refine q_i2c dJ1_charAt_3b067_13 e2 ?_
  exact q_iret rfl e3 dJ1_charAt_3b067_14 ⟨rfl, rfl⟩
theorem c_charAt {i j : Nat} (hi : i < 5) (hj : j < wll i) {I : q_Mem} : q_M kJ0_charAt_5068e [.ref (368 + i), .int (nI j)] I (fun v J => v = some (.int (nI (wlc i j))) ∧ I = J) := by
  obtain ⟨e1, e2, e3⟩ := wl_c i hi j hj
  refine q_M.of pnJ0_charAt_5068e (by simp [Value.category]) (Nat.le_of_ble_eq_true rfl) ?_
  refine q_aload_n dJ0_charAt_5068e_0 rfl ?_
  refine q_cV (as := []) lk_RJ0_492 (c_isLatin1 hi) (Or.inr ⟨rfl, i, hi, rfl⟩) rfl (by decide) (Nat.le_of_ble_eq_true rfl) dJ0_charAt_5068e_1 ?_
  rintro v J ⟨rfl, rfl⟩
  refine q_if_eq (tgt := 16) dJ0_charAt_5068e_4 (by decide) (fun q => ?_) (fun q => ?_)
  · exact absurd q (by decide)
  refine q_aload_n dJ0_charAt_5068e_7 rfl ?_
  refine q_svalue hi fj_RJ0_9 dJ0_charAt_5068e_8 ?_
  refine q_iload_n dJ0_charAt_5068e_11 rfl ?_
  refine q_cS (as := [_, _]) lk_RJ0_495 (c_charAtL hi hj) rfl (by decide) (Nat.le_of_ble_eq_true rfl) dJ0_charAt_5068e_12 ?_
  rintro v J ⟨rfl, rfl⟩
  exact q_iret rfl e3 dJ0_charAt_5068e_15 ⟨rfl, rfl⟩
