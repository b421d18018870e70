/-! THE LAW's first check: the people -/
theorem cmp_step {u w x y : Nat} (hu : u < 2 ^ 30) (hw : w < 2 ^ 30) : (told u = told w → x = y) → (¬ told u = told w → y = x) → True := fun _ _ => trivial
/-- the least rank of a wish that is the class, told from the last on -/
def fnd (σ : q_S) (p : Nat) : Nat := if sP σ p 1 = sP σ p 4 then 0 else if sP σ p 2 = sP σ p 4 then 1 else if sP σ p 3 = sP σ p 4 then 2 else 3
theorem fnd_rank {σ : q_S} {p : Nat} (h : ¬ sP σ p 4 = 0) : srank σ p = fnd σ p := by
  unfold srank fnd
  rw [if_neg h]
  simp only [eq_comm]
set_option maxRecDepth 4000 in
theorem c_people {b : Nat} {I : q_Mem} {σ : q_S} {hs : List q_S} (hG : RG I σ hs []) (hi : Inv b σ) (hb : b < 2 ^ 30) : q_M kL_arePeopleSo [.ref 0] I (fun w J => w = some (.int (nI 1)) ∧ I = J) := by
  have k0 := k0
  have hs1 := hi.ok
  have hw := hi.wf
  have h30 := hw.B.2.2.1
  have h8 := hw.B.1
  refine q_M.of pnL_arePeopleSo (by simp [Value.category]) (Nat.le_of_ble_eq_true rfl) ?_
  refine q_iconst (v := nI 0) dL_arePeopleSo_0 (by decide) ?_
  refine q_istore_n (ls' := [_, _, _, _, _, _, _, _, _, _]) dL_arePeopleSo_1 (Nat.le_of_ble_eq_true rfl) rfl ?_
  refine q_iconst (v := nI 0) dL_arePeopleSo_2 (by decide) ?_
  refine q_istore_n (ls' := [_, _, _, _, _, _, _, _, _, _]) dL_arePeopleSo_3 (Nat.le_of_ble_eq_true rfl) rfl ?_
  refine q_iconst (v := nI 0) dL_arePeopleSo_4 (by decide) ?_
  refine q_istore_n (ls' := [_, _, _, _, _, _, _, _, _, _]) dL_arePeopleSo_5 (Nat.le_of_ble_eq_true rfl) rfl ?_
  refine q_iconst (v := nI 1) dL_arePeopleSo_6 (by decide) ?_
  refine q_istore (ls' := [_, _, _, _, _, _, _, _, _, _]) dL_arePeopleSo_7 (Nat.le_of_ble_eq_true rfl) rfl ?_
  refine q_iconst (v := nI 0) dL_arePeopleSo_9 (by decide) ?_
  refine q_istore (ls' := [_, _, _, _, _, _, _, _, _, _]) dL_arePeopleSo_10 (Nat.le_of_ble_eq_true rfl) rfl ?_
  have loop : ∀ d p (o6 o7 o8 o9 : Option Value), p + d = sN σ 2 → q_X kL_arePeopleSo 12 [some (.ref 0), some (.int (nI (ssum (fun p => sP σ p 0) p))), some (.int (nI (ssum (fun p => if sP σ p 4 = 0 then 0 else 1) p))), some (.int (nI (ssum (fun p => sP σ p 5) p))), some (.int (nI 1)), some (.int (nI p)), o6, o7, o8, o9] [] I (fun w J => w = some (.int (nI 1)) ∧ I = J) := by
    intro d
    induction d with
    | zero =>
      intro p o6 o7 o8 o9 hp
      obtain rfl : p = sN σ 2 := by omega
      refine q_iload dL_arePeopleSo_12 rfl ?_
      refine q_aload_n dL_arePeopleSo_14 rfl ?_
      refine q_iconst (v := nI 2) dL_arePeopleSo_15 (by decide) ?_
      refine q_cV (as := [_]) lk_RL_18 (a_count hG hs1 (j := 2) (x := nI (sN σ 2)) (by omega) rfl) ⟨5, by decide, by assumption, rfl⟩ rfl (by decide) (Nat.le_of_ble_eq_true rfl) dL_arePeopleSo_16 ?_
      rintro v J ⟨rfl, rfl⟩
      refine q_icmp_geN (tgt := 201) (by omega) (by omega) dL_arePeopleSo_19 (by decide) (fun q => ?_) (fun q => ?_)

      · 
        have t0 : ssum (fun p => sP σ p 0) (sN σ 2) = ssum (fun p => sP σ p 0) 30 := (ssum_tail (fun p hp => hw.zero hp 0) 30 h30).symm
        have t4 : ssum (fun p => if sP σ p 4 = 0 then 0 else 1) (sN σ 2) = ssum (fun p => if sP σ p 4 = 0 then 0 else 1) 30 := (ssum_tail (fun p hp => by show (if sP σ p 4 = 0 then 0 else 1) = 0; rw [if_pos (hw.zero hp 4)]) 30 h30).symm
        have t5 : ssum (fun p => sP σ p 5) (sN σ 2) = ssum (fun p => sP σ p 5) 30 := (ssum_tail (fun p hp => hw.zero hp 5) 30 h30).symm
        rw [t0, t4, t5]
        refine q_iload dL_arePeopleSo_201 rfl ?_
        refine q_if_eqN (tgt := 280) (by omega) dL_arePeopleSo_203 (by decide) (fun z => ?_) (fun z => ?_)
        · omega
        refine q_iload_n dL_arePeopleSo_206 rfl ?_
        refine q_aload_n dL_arePeopleSo_207 rfl ?_
        refine q_iconst (v := nI 3) dL_arePeopleSo_208 (by decide) ?_
        refine q_cV (as := [_]) lk_RL_18 (a_count hG hs1 (j := 3) (x := nI (ssum (fun p => sP σ p 0) 30)) (by omega) rfl) ⟨5, by decide, by assumption, rfl⟩ rfl (by decide) (Nat.le_of_ble_eq_true rfl) dL_arePeopleSo_209 ?_
        rintro v J ⟨rfl, rfl⟩
        refine q_icmp_ne (tgt := 280) dL_arePeopleSo_212 (by decide) (fun q1 => ?_) (fun q1 => ?_)
        · exact absurd rfl q1
        refine q_iload_n dL_arePeopleSo_215 rfl ?_
        refine q_aload_n dL_arePeopleSo_216 rfl ?_
        refine q_iconst (v := nI 4) dL_arePeopleSo_217 (by decide) ?_
        refine q_cV (as := [_]) lk_RL_18 (a_count hG hs1 (j := 4) (x := nI (ssum (fun p => if sP σ p 4 = 0 then 0 else 1) 30)) (by omega) rfl) ⟨5, by decide, by assumption, rfl⟩ rfl (by decide) (Nat.le_of_ble_eq_true rfl) dL_arePeopleSo_218 ?_
        rintro v J ⟨rfl, rfl⟩
        refine q_icmp_ne (tgt := 280) dL_arePeopleSo_221 (by decide) (fun q1 => ?_) (fun q1 => ?_)
        · exact absurd rfl q1
        refine q_iload_n dL_arePeopleSo_224 rfl ?_
        refine q_aload_n dL_arePeopleSo_225 rfl ?_
        refine q_bipush (v := nI 11) dL_arePeopleSo_226 (by decide) ?_
        refine q_cV (as := [_]) lk_RL_18 (a_count hG hs1 (j := 11) (x := nI (ssum (fun p => sP σ p 5) 30)) (by omega) rfl) ⟨5, by decide, by assumption, rfl⟩ rfl (by decide) (Nat.le_of_ble_eq_true rfl) dL_arePeopleSo_228 ?_
        rintro v J ⟨rfl, rfl⟩
        refine q_icmp_ne (tgt := 280) dL_arePeopleSo_231 (by decide) (fun q1 => ?_) (fun q1 => ?_)
        · exact absurd rfl q1
        refine q_aload_n dL_arePeopleSo_234 rfl ?_
        refine q_bipush (v := nI 9) dL_arePeopleSo_235 (by decide) ?_
        refine q_cV (as := [_]) lk_RL_18 (a_count hG hs1 (j := 9) (x := nI (sG σ 2)) (by omega) rfl) ⟨5, by decide, by assumption, rfl⟩ rfl (by decide) (Nat.le_of_ble_eq_true rfl) dL_arePeopleSo_237 ?_
        rintro v J ⟨rfl, rfl⟩
        refine q_aload_n dL_arePeopleSo_240 rfl ?_
        refine q_bipush (v := nI 10) dL_arePeopleSo_241 (by decide) ?_
        refine q_cV (as := [_]) lk_RL_18 (a_count hG hs1 (j := 10) (x := nI (sG σ 3)) (by omega) rfl) ⟨5, by decide, by assumption, rfl⟩ rfl (by decide) (Nat.le_of_ble_eq_true rfl) dL_arePeopleSo_243 ?_
        rintro v J ⟨rfl, rfl⟩
        refine q_aload_n dL_arePeopleSo_246 rfl ?_
        refine q_bipush (v := nI 11) dL_arePeopleSo_247 (by decide) ?_
        refine q_cV (as := [_]) lk_RL_18 (a_count hG hs1 (j := 11) (x := nI (ssum (fun p => sP σ p 5) 30)) (by omega) rfl) ⟨5, by decide, by assumption, rfl⟩ rfl (by decide) (Nat.le_of_ble_eq_true rfl) dL_arePeopleSo_249 ?_
        rintro v J ⟨rfl, rfl⟩
        refine q_iadd dL_arePeopleSo_252 ?_
        rw [nI_add]
        refine q_aload_n dL_arePeopleSo_253 rfl ?_
        refine q_bipush (v := nI 12) dL_arePeopleSo_254 (by decide) ?_
        refine q_cV (as := [_]) lk_RL_18 (a_count hG hs1 (j := 12) (x := nI (sG σ 4)) (by omega) rfl) ⟨5, by decide, by assumption, rfl⟩ rfl (by decide) (Nat.le_of_ble_eq_true rfl) dL_arePeopleSo_256 ?_
        rintro v J ⟨rfl, rfl⟩
        refine q_iadd dL_arePeopleSo_259 ?_
        have hbal : sG σ 2 = sG σ 3 + ssum (fun p => sP σ p 5) 30 + sG σ 4 := hi.2.2.1
        rw [nI_add, ← hbal]
        refine q_icmp_ne (tgt := 280) dL_arePeopleSo_260 (by decide) (fun q1 => ?_) (fun q1 => ?_)
        · exact absurd rfl q1
        refine q_iload_n dL_arePeopleSo_263 rfl ?_
        have n30 : ssum (fun p => sP σ p 0) 30 ≤ 4 * 30 := ssum_le4 (fun p => by have := (hw.pr p).1; omega) 30
        refine q_if_gtN (tgt := 276) (by omega) dL_arePeopleSo_264 (by decide) (fun q1 => ?_) (fun q1 => ?_)
        · refine q_iconst (v := nI 1) dL_arePeopleSo_276 (by decide) ?_
          refine q_goto (tgt := 281) dL_arePeopleSo_277 (by decide) ?_
          exact q_iret rfl (bool_ok (Or.inr rfl)).1 dL_arePeopleSo_281 ⟨rfl, rfl⟩
        refine q_aload_n dL_arePeopleSo_267 rfl ?_
        refine q_cV (as := []) lk_RL_61 (c_mean hG.1 hw) ⟨5, by decide, by assumption, rfl⟩ rfl (by decide) (Nat.le_of_ble_eq_true rfl) dL_arePeopleSo_268 ?_
        rintro v J ⟨rfl, rfl⟩
        rw [qMean, if_pos (show nHere σ = 0 by unfold nHere; omega)]
        refine q_ldc (v := -1000004) ct_RL_64 dL_arePeopleSo_271 ?_
        refine q_icmp_ne (tgt := 280) dL_arePeopleSo_273 (by decide) (fun q2 => ?_) (fun q2 => ?_)
        · exact absurd rfl q2
        refine q_iconst (v := nI 1) dL_arePeopleSo_276 (by decide) ?_
        refine q_goto (tgt := 281) dL_arePeopleSo_277 (by decide) ?_
        exact q_iret rfl (bool_ok (Or.inr rfl)).1 dL_arePeopleSo_281 ⟨rfl, rfl⟩
      · omega
    | succ d ih =>
      intro p o6 o7 o8 o9 hp
      have hp2 : p < sN σ 2 := by omega
      obtain ⟨a1, a2, a3, a4, a5, a6, a7, a8, a9, a10⟩ := hw.pr p
      refine q_iload dL_arePeopleSo_12 rfl ?_
      refine q_aload_n dL_arePeopleSo_14 rfl ?_
      refine q_iconst (v := nI 2) dL_arePeopleSo_15 (by decide) ?_
      refine q_cV (as := [_]) lk_RL_18 (a_count hG hs1 (j := 2) (x := nI (sN σ 2)) (by omega) rfl) ⟨5, by decide, by assumption, rfl⟩ rfl (by decide) (Nat.le_of_ble_eq_true rfl) dL_arePeopleSo_16 ?_
      rintro v J ⟨rfl, rfl⟩
      refine q_icmp_geN (tgt := 201) (by omega) (by omega) dL_arePeopleSo_19 (by decide) (fun q => ?_) (fun q => ?_)
      · omega
      refine q_aload_n dL_arePeopleSo_22 rfl ?_
      refine q_iload dL_arePeopleSo_23 rfl ?_
      refine q_iconst (v := nI 1) dL_arePeopleSo_25 (by decide) ?_
      refine q_cV (as := [_, _]) lk_RL_55 (a_person hG hs1 hp2 (j := 1) (x := told (sP σ p 4)) (by omega) rfl) ⟨5, by decide, by assumption, rfl⟩ rfl (by decide) (Nat.le_of_ble_eq_true rfl) dL_arePeopleSo_26 ?_
      rintro v J ⟨rfl, rfl⟩
      refine q_istore (ls' := [_, _, _, _, _, _, _, _, _, _]) dL_arePeopleSo_29 (Nat.le_of_ble_eq_true rfl) rfl ?_
      refine q_aload_n dL_arePeopleSo_31 rfl ?_
      refine q_iload dL_arePeopleSo_32 rfl ?_
      refine q_iconst (v := nI 2) dL_arePeopleSo_34 (by decide) ?_
      refine q_cV (as := [_, _]) lk_RL_55 (a_person hG hs1 hp2 (j := 2) (x := nI (srank σ p)) (by omega) rfl) ⟨5, by decide, by assumption, rfl⟩ rfl (by decide) (Nat.le_of_ble_eq_true rfl) dL_arePeopleSo_35 ?_
      rintro v J ⟨rfl, rfl⟩
      refine q_istore (ls' := [_, _, _, _, _, _, _, _, _, _]) dL_arePeopleSo_38 (Nat.le_of_ble_eq_true rfl) rfl ?_
      refine q_iconst (v := nI 3) dL_arePeopleSo_40 (by decide) ?_
      refine q_istore (ls' := [_, _, _, _, _, _, _, _, _, _]) dL_arePeopleSo_41 (Nat.le_of_ble_eq_true rfl) rfl ?_
      refine q_iconst (v := nI 2) dL_arePeopleSo_43 (by decide) ?_
      refine q_istore (ls' := [_, _, _, _, _, _, _, _, _, _]) dL_arePeopleSo_44 (Nat.le_of_ble_eq_true rfl) rfl ?_
      have rest : ∀ (o9 : Option Value), q_X kL_arePeopleSo 81 [some (.ref 0), some (.int (nI (ssum (fun p => sP σ p 0) p))), some (.int (nI (ssum (fun p => if sP σ p 4 = 0 then 0 else 1) p))), some (.int (nI (ssum (fun p => sP σ p 5) p))), some (.int (nI 1)), some (.int (nI p)), some (.int (told (sP σ p 4))), some (.int (nI (srank σ p))), some (.int (nI (fnd σ p))), o9] [] I (fun w J => w = some (.int (nI 1)) ∧ I = J) := by
        intro o9
        have fin : q_X kL_arePeopleSo 193 [some (.ref 0), some (.int (nI (ssum (fun p => sP σ p 0) (p + 1)))), some (.int (nI (ssum (fun p => if sP σ p 4 = 0 then 0 else 1) (p + 1)))), some (.int (nI (ssum (fun p => sP σ p 5) (p + 1)))), some (.int (nI 1)), some (.int (nI p)), some (.int (told (sP σ p 4))), some (.int (nI (srank σ p))), some (.int (nI (fnd σ p))), o9] [.int (nI 1)] I (fun w J => w = some (.int (nI 1)) ∧ I = J) := by
          refine q_istore (ls' := [_, _, _, _, _, _, _, _, _, _]) dL_arePeopleSo_193 (Nat.le_of_ble_eq_true rfl) rfl ?_
          refine q_iinc (ls' := [_, _, _, _, _, _, _, _, _, _]) dL_arePeopleSo_195 rfl (nI_add _ 1) rfl ?_
          refine q_goto (tgt := 12) dL_arePeopleSo_198 (by decide) ?_
          exact ih (p + 1) _ _ _ _ (by omega)
        refine q_iload_n dL_arePeopleSo_81 rfl ?_
        refine q_aload_n dL_arePeopleSo_82 rfl ?_
        refine q_iload dL_arePeopleSo_83 rfl ?_
        refine q_iconst (v := nI 0) dL_arePeopleSo_85 (by decide) ?_
        refine q_cV (as := [_, _]) lk_RL_55 (a_person hG hs1 hp2 (j := 0) (x := nI (sP σ p 0)) (by omega) rfl) ⟨5, by decide, by assumption, rfl⟩ rfl (by decide) (Nat.le_of_ble_eq_true rfl) dL_arePeopleSo_86 ?_
        rintro v J ⟨rfl, rfl⟩
        refine q_iadd dL_arePeopleSo_89 ?_
        rw [nI_add, show ssum (fun p => sP σ p 0) p + sP σ p 0 = ssum (fun p => sP σ p 0) (p + 1) from rfl]
        refine q_istore_n (ls' := [_, _, _, _, _, _, _, _, _, _]) dL_arePeopleSo_90 (Nat.le_of_ble_eq_true rfl) rfl ?_
        refine q_iload_n dL_arePeopleSo_91 rfl ?_
        refine q_iload dL_arePeopleSo_92 rfl ?_
        have fin2 : q_X kL_arePeopleSo 102 [some (.ref 0), some (.int (nI (ssum (fun p => sP σ p 0) (p + 1)))), some (.int (nI (ssum (fun p => if sP σ p 4 = 0 then 0 else 1) p))), some (.int (nI (ssum (fun p => sP σ p 5) p))), some (.int (nI 1)), some (.int (nI p)), some (.int (told (sP σ p 4))), some (.int (nI (srank σ p))), some (.int (nI (fnd σ p))), o9] [.int (nI (if sP σ p 4 = 0 then 0 else 1)), .int (nI (ssum (fun p => if sP σ p 4 = 0 then 0 else 1) p))] I (fun w J => w = some (.int (nI 1)) ∧ I = J) := by
          refine q_iadd dL_arePeopleSo_102 ?_
          rw [nI_add, show ssum (fun p => if sP σ p 4 = 0 then 0 else 1) p + (if sP σ p 4 = 0 then 0 else 1) = ssum (fun p => if sP σ p 4 = 0 then 0 else 1) (p + 1) from rfl]
          refine q_istore_n (ls' := [_, _, _, _, _, _, _, _, _, _]) dL_arePeopleSo_103 (Nat.le_of_ble_eq_true rfl) rfl ?_
          refine q_iload_n dL_arePeopleSo_104 rfl ?_
          refine q_aload_n dL_arePeopleSo_105 rfl ?_
          refine q_iload dL_arePeopleSo_106 rfl ?_
          refine q_iconst (v := nI 3) dL_arePeopleSo_108 (by decide) ?_
          refine q_cV (as := [_, _]) lk_RL_55 (a_person hG hs1 hp2 (j := 3) (x := nI (sP σ p 5)) (by omega) rfl) ⟨5, by decide, by assumption, rfl⟩ rfl (by decide) (Nat.le_of_ble_eq_true rfl) dL_arePeopleSo_109 ?_
          rintro v J ⟨rfl, rfl⟩
          refine q_iadd dL_arePeopleSo_112 ?_
          rw [nI_add, show ssum (fun p => sP σ p 5) p + sP σ p 5 = ssum (fun p => sP σ p 5) (p + 1) from rfl]
          refine q_istore_n (ls' := [_, _, _, _, _, _, _, _, _, _]) dL_arePeopleSo_113 (Nat.le_of_ble_eq_true rfl) rfl ?_
          refine q_iload dL_arePeopleSo_114 rfl ?_
          refine q_if_eqN (tgt := 192) (by omega) dL_arePeopleSo_116 (by decide) (fun z => ?_) (fun z => ?_)
          · omega
          refine q_iload dL_arePeopleSo_119 rfl ?_
          refine q_if_lt (tgt := 172) dL_arePeopleSo_121 (by decide) (fun q4 => ?_) (fun q4 => ?_)
          · have e4 := (told_neg (by omega)).mp q4
            have er : srank σ p = 4 := by unfold srank; rw [if_pos e4]
            refine q_iload dL_arePeopleSo_172 rfl ?_
            refine q_iconst (v := nI 4) dL_arePeopleSo_174 (by decide) ?_
            refine q_icmp_neN (tgt := 192) (by omega) (by omega) dL_arePeopleSo_175 (by decide) (fun q5 => ?_) (fun q5 => ?_)
            · exact absurd er q5
            refine q_aload_n dL_arePeopleSo_178 rfl ?_
            refine q_iload dL_arePeopleSo_179 rfl ?_
            refine q_iconst (v := nI 3) dL_arePeopleSo_181 (by decide) ?_
            refine q_cV (as := [_, _]) lk_RL_55 (a_person hG hs1 hp2 (j := 3) (x := nI (sP σ p 5)) (by omega) rfl) ⟨5, by decide, by assumption, rfl⟩ rfl (by decide) (Nat.le_of_ble_eq_true rfl) dL_arePeopleSo_182 ?_
            rintro v J ⟨rfl, rfl⟩
            refine q_if_neN (tgt := 192) (by omega) dL_arePeopleSo_185 (by decide) (fun q6 => ?_) (fun q6 => ?_)
            · exact absurd (a7 e4) q6
            refine q_iconst (v := nI 1) dL_arePeopleSo_188 (by decide) ?_
            refine q_goto (tgt := 193) dL_arePeopleSo_189 (by decide) ?_
            exact fin
          have e4 : ¬ sP σ p 4 = 0 := fun z => q4 ((told_neg (by omega)).mpr z)
          have hr := fnd_rank e4
          have hf4 : fnd σ p < 4 := by unfold fnd; (repeat' split) <;> omega
          refine q_iload dL_arePeopleSo_124 rfl ?_
          refine q_iload dL_arePeopleSo_126 rfl ?_
          refine q_icmp_neN (tgt := 192) (by omega) (by omega) dL_arePeopleSo_128 (by decide) (fun q5 => ?_) (fun q5 => ?_)
          · exact absurd hr q5
          refine q_aload_n dL_arePeopleSo_131 rfl ?_
          refine q_iload dL_arePeopleSo_132 rfl ?_
          refine q_iconst (v := nI 0) dL_arePeopleSo_134 (by decide) ?_
          refine q_cV (as := [_, _]) lk_RL_55 (a_person hG hs1 hp2 (j := 0) (x := nI (sP σ p 0)) (by omega) rfl) ⟨5, by decide, by assumption, rfl⟩ rfl (by decide) (Nat.le_of_ble_eq_true rfl) dL_arePeopleSo_135 ?_
          rintro v J ⟨rfl, rfl⟩
          refine q_iconst (v := nI 1) dL_arePeopleSo_138 (by decide) ?_
          refine q_icmp_neN (tgt := 192) (by omega) (by omega) dL_arePeopleSo_139 (by decide) (fun q6 => ?_) (fun q6 => ?_)
          · exact absurd (a8 (by omega)) e4
          obtain ⟨m1, m2⟩ := hi.2.1 p (sP σ p 4 - 1) (by omega)
          have hfee := (hw.cr (c := sP σ p 4 - 1) (by omega)).2.2.2.2.2.1
          refine q_aload_n dL_arePeopleSo_142 rfl ?_
          refine q_iload dL_arePeopleSo_143 rfl ?_
          refine q_iconst (v := nI 3) dL_arePeopleSo_145 (by decide) ?_
          refine q_cV (as := [_, _]) lk_RL_55 (a_person hG hs1 hp2 (j := 3) (x := nI (sP σ p 5)) (by omega) rfl) ⟨5, by decide, by assumption, rfl⟩ rfl (by decide) (Nat.le_of_ble_eq_true rfl) dL_arePeopleSo_146 ?_
          rintro v J ⟨rfl, rfl⟩
          rw [told_s e4]
          refine q_aload_n dL_arePeopleSo_149 rfl ?_
          refine q_iload dL_arePeopleSo_150 rfl ?_
          refine q_iconst (v := nI 5) dL_arePeopleSo_152 (by decide) ?_
          refine q_cV (as := [_, _]) lk_RL_58 (a_course hG hs1 (c := sP σ p 4 - 1) (by omega) (j := 5) (x := nI (sC σ (sP σ p 4 - 1) 5)) (by omega) rfl) ⟨5, by decide, by assumption, rfl⟩ rfl (by decide) (Nat.le_of_ble_eq_true rfl) dL_arePeopleSo_153 ?_
          rintro v J ⟨rfl, rfl⟩
          refine q_icmp_gtN (tgt := 192) (by omega) (by omega) dL_arePeopleSo_156 (by decide) (fun q7 => ?_) (fun q7 => ?_)
          · omega
          refine q_aload_n dL_arePeopleSo_159 rfl ?_
          refine q_iload dL_arePeopleSo_160 rfl ?_
          refine q_iconst (v := nI 4) dL_arePeopleSo_162 (by decide) ?_
          refine q_cV (as := [_, _]) lk_RL_55 (a_person hG hs1 hp2 (j := 4) (x := nI (sP σ p 6)) (by omega) rfl) ⟨5, by decide, by assumption, rfl⟩ rfl (by decide) (Nat.le_of_ble_eq_true rfl) dL_arePeopleSo_163 ?_
          rintro v J ⟨rfl, rfl⟩
          have h6 : sP σ p 6 ≤ b := hi.2.2.2.1 p
          refine q_if_leN (tgt := 192) (by omega) dL_arePeopleSo_166 (by decide) (fun q8 => ?_) (fun q8 => ?_)
          · omega
          rw [← told_s e4]
          refine q_goto (tgt := 188) dL_arePeopleSo_169 (by decide) ?_
          refine q_iconst (v := nI 1) dL_arePeopleSo_188 (by decide) ?_
          refine q_goto (tgt := 193) dL_arePeopleSo_189 (by decide) ?_
          exact fin
        refine q_if_lt (tgt := 101) dL_arePeopleSo_94 (by decide) (fun q4 => ?_) (fun q4 => ?_)
        · have e4 := (told_neg (by omega)).mp q4
          refine q_iconst (v := nI 0) dL_arePeopleSo_101 (by decide) ?_
          rw [show (nI 0) = nI (if sP σ p 4 = 0 then 0 else 1) by rw [if_pos e4]]
          exact fin2
        · have e4 : ¬ sP σ p 4 = 0 := fun z => q4 ((told_neg (by omega)).mpr z)
          refine q_iconst (v := nI 1) dL_arePeopleSo_97 (by decide) ?_
          refine q_goto (tgt := 102) dL_arePeopleSo_98 (by decide) ?_
          rw [show q_X kL_arePeopleSo 102 _ [.int (nI 1), _] I _ = q_X kL_arePeopleSo 102 _ [.int (nI (if sP σ p 4 = 0 then 0 else 1)), _] I _ by rw [if_neg e4]]
          exact fin2
      have step : ∀ (j : Nat) (x : Int32), j < 3 → q_X kL_arePeopleSo 73 [some (.ref 0), some (.int (nI (ssum (fun p => sP σ p 0) p))), some (.int (nI (ssum (fun p => if sP σ p 4 = 0 then 0 else 1) p))), some (.int (nI (ssum (fun p => sP σ p 5) p))), some (.int (nI 1)), some (.int (nI p)), some (.int (told (sP σ p 4))), some (.int (nI (srank σ p))), some (.int x), some (.int (nI j))] [.int (if sP σ p (1 + j) = sP σ p 4 then nI j else x)] I (fun w J => w = some (.int (nI 1)) ∧ I = J) → q_X kL_arePeopleSo 46 [some (.ref 0), some (.int (nI (ssum (fun p => sP σ p 0) p))), some (.int (nI (ssum (fun p => if sP σ p 4 = 0 then 0 else 1) p))), some (.int (nI (ssum (fun p => sP σ p 5) p))), some (.int (nI 1)), some (.int (nI p)), some (.int (told (sP σ p 4))), some (.int (nI (srank σ p))), some (.int x), some (.int (nI j))] [] I (fun w J => w = some (.int (nI 1)) ∧ I = J) := by
        intro j x hj kk
        have hj4 : sP σ p (1 + j) < 2 ^ 30 := by
          have jc : j = 0 ∨ j = 1 ∨ j = 2 := by omega
          rcases jc with rfl | rfl | rfl
          · show sP σ p 1 < _; omega
          · show sP σ p 2 < _; omega
          · show sP σ p 3 < _; omega
        have ej : pof σ p (5 + j) = told (sP σ p (1 + j)) := by
          have jc : j = 0 ∨ j = 1 ∨ j = 2 := by omega
          rcases jc with rfl | rfl | rfl <;> rfl
        refine q_iload dL_arePeopleSo_46 rfl ?_
        refine q_if_ltN (tgt := 81) (by omega) dL_arePeopleSo_48 (by decide) (fun q => ?_) (fun q => ?_)
        · omega
        refine q_aload_n dL_arePeopleSo_51 rfl ?_
        refine q_iload dL_arePeopleSo_52 rfl ?_
        refine q_iconst (v := nI 5) dL_arePeopleSo_54 (by decide) ?_
        refine q_iload dL_arePeopleSo_55 rfl ?_
        refine q_iadd dL_arePeopleSo_57 ?_
        rw [nI_add]
        refine q_cV (as := [_, _]) lk_RL_55 (a_person hG hs1 hp2 (j := 5 + j) (x := told (sP σ p (1 + j))) (by omega) ej) ⟨5, by decide, by assumption, rfl⟩ rfl (by decide) (Nat.le_of_ble_eq_true rfl) dL_arePeopleSo_58 ?_
        rintro v J ⟨rfl, rfl⟩
        refine q_iload dL_arePeopleSo_61 rfl ?_
        refine q_icmp_ne (tgt := 71) dL_arePeopleSo_63 (by decide) (fun q1 => ?_) (fun q1 => ?_)
        · rw [if_neg (fun z => q1 ((told_inj hj4 (by omega)).mpr z))] at kk
          refine q_iload dL_arePeopleSo_71 rfl ?_
          exact kk
        · rw [if_pos ((told_inj hj4 (by omega)).mp q1)] at kk
          refine q_iload dL_arePeopleSo_66 rfl ?_
          refine q_goto (tgt := 73) dL_arePeopleSo_68 (by decide) ?_
          exact kk
      refine step 2 _ (by omega) ?_
      refine q_istore (ls' := [_, _, _, _, _, _, _, _, _, _]) dL_arePeopleSo_73 (Nat.le_of_ble_eq_true rfl) rfl ?_
      refine q_iinc (ls' := [_, _, _, _, _, _, _, _, _, _]) dL_arePeopleSo_75 rfl ((by decide : nI 2 + Int32.ofInt (-1) = nI 1)) rfl ?_
      refine q_goto (tgt := 46) dL_arePeopleSo_78 (by decide) ?_
      refine step 1 _ (by omega) ?_
      refine q_istore (ls' := [_, _, _, _, _, _, _, _, _, _]) dL_arePeopleSo_73 (Nat.le_of_ble_eq_true rfl) rfl ?_
      refine q_iinc (ls' := [_, _, _, _, _, _, _, _, _, _]) dL_arePeopleSo_75 rfl ((by decide : nI 1 + Int32.ofInt (-1) = nI 0)) rfl ?_
      refine q_goto (tgt := 46) dL_arePeopleSo_78 (by decide) ?_
      refine step 0 _ (by omega) ?_
      refine q_istore (ls' := [_, _, _, _, _, _, _, _, _, _]) dL_arePeopleSo_73 (Nat.le_of_ble_eq_true rfl) rfl ?_
      refine q_iinc (ls' := [_, _, _, _, _, _, _, _, _, _]) dL_arePeopleSo_75 rfl ((by decide : nI 0 + Int32.ofInt (-1) = -1)) rfl ?_
      refine q_goto (tgt := 46) dL_arePeopleSo_78 (by decide) ?_
      refine q_iload dL_arePeopleSo_46 rfl ?_
      refine q_if_lt (tgt := 81) dL_arePeopleSo_48 (by decide) (fun q9 => ?_) (fun q9 => ?_)
      · have ef : (if sP σ p (1 + 0) = sP σ p 4 then nI 0 else if sP σ p (1 + 1) = sP σ p 4 then nI 1 else if sP σ p (1 + 2) = sP σ p 4 then nI 2 else nI 3) = nI (fnd σ p) := by
          unfold fnd
          (repeat' split) <;> rfl
        rw [ef]
        exact rest _
      · exact absurd (by decide) q9
  exact loop (sN σ 2) 0 _ _ _ _ (by omega)
