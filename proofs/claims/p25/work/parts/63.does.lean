/-! THE LAW's changes -/
def mok (x : Int32) : Prop := x = -1000002 ∨ x = -1000003 ∨ ∃ k, k < 2 ^ 31 ∧ x = nI k
theorem mok_mild {x : Int32} (h : mok x) : ¬ (if x = -1000002 ∨ x = -1000003 then nI 0 else x) < 0 := by
  split
  · exact nn (by omega)
  · next e =>
    rcases h with h | h | ⟨k, hk, h⟩
    · exact absurd (Or.inl h) e
    · exact absurd (Or.inr h) e
    · rw [h]; exact nn hk
theorem mok_course {σ : q_S} {k l m f : Int32} (hc : cokI k l m f) (h8 : sN σ 0 ≤ 8) : mok (opCourse σ k l m f).1 := by
  unfold opCourse
  rw [if_neg (fun z => z hc)]
  split
  · exact Or.inl rfl
  · split
    · exact Or.inr (Or.inl rfl)
    · exact Or.inr (Or.inr ⟨_, by omega, rfl⟩)
theorem mok_room {σ : q_S} {c : Int32} (hc : nI 1 ≤ c ∧ c ≤ nI 30) (h5 : sN σ 1 ≤ 5) : mok (opRoom σ c).1 := by
  unfold opRoom
  rw [if_neg (fun z => z hc)]
  split
  · exact Or.inl rfl
  · split
    · exact Or.inr (Or.inl rfl)
    · exact Or.inr (Or.inr ⟨_, by omega, rfl⟩)
theorem mok_join {σ : q_S} {x y z : Int32} (hc : wokI (sN σ 0) x y z) (h5 : sN σ 2 ≤ 30) : mok (opJoin σ x y z).1 := by
  unfold opJoin
  rw [if_neg (fun q => q hc)]
  split
  · exact Or.inl rfl
  · split
    · exact Or.inr (Or.inl rfl)
    · exact Or.inr (Or.inr ⟨_, by omega, rfl⟩)
theorem mok_wish {σ : q_S} {p x y z : Int32} (hp : isC (sN σ 2) p) (hc : wokI (sN σ 0) x y z) : mok (opWish σ p x y z).1 := by
  unfold opWish
  rw [if_neg (fun q => q.elim (fun a => a hp) (fun a => a hc))]
  split
  · exact Or.inl rfl
  · refine Or.inr (Or.inr ⟨_, ?_, rfl⟩)
    have := srank_le (sset 1000 (sSetW σ p.toNatClampNeg (dcd x) (dcd y) (dcd z))) p.toNatClampNeg
    omega
theorem mok_leave {σ : q_S} {p : Int32} (hw : WFc σ) (hp : isC (sN σ 2) p) : mok (opLeave σ p).1 := by
  unfold opLeave
  rw [if_neg (fun q => q hp)]
  split
  · exact Or.inl rfl
  · refine Or.inr (Or.inr ⟨_, ?_, rfl⟩)
    have := (hw.pr p.toNatClampNeg).2.2.2.2.2.1
    omega
theorem mok_close (σ : q_S) : mok (opClose σ).1 := by
  unfold opClose
  split
  · exact Or.inl rfl
  · refine Or.inr (Or.inr ⟨_, ?_, rfl⟩)
    have := bcnt_le 8 (sbits (fun c => decide (sC (sclose σ) c 6 = 2)) 8)
    omega
theorem mok_term {σ : q_S} (h : sG σ 0 < 2 ^ 30) : mok (opTerm σ).1 := by
  unfold opTerm
  split
  · exact Or.inl rfl
  · exact Or.inr (Or.inr ⟨_, by omega, rfl⟩)
/-! no class goes -/
theorem N_course (σ : q_S) (k l m f : Int32) : sN σ 0 ≤ sN (opCourse σ k l m f).2 0 := by
  unfold opCourse
  repeat' split
  · exact Nat.le_refl _
  · exact Nat.le_refl _
  · exact Nat.le_refl _
  · exact Nat.le_succ _
theorem N_room (σ : q_S) (c : Int32) : sN σ 0 ≤ sN (opRoom σ c).2 0 := by
  unfold opRoom
  repeat' split
  all_goals exact Nat.le_refl _
theorem N_join (σ : q_S) (x y z : Int32) : sN σ 0 ≤ sN (opJoin σ x y z).2 0 := by
  unfold opJoin
  repeat' split
  · exact Nat.le_refl _
  · exact Nat.le_refl _
  · exact Nat.le_refl _
  · show _ ≤ sN (sset 1000 _) 0
    rw [(sset_NCR 1000 _).1]; exact Nat.le_refl _
theorem N_wish (σ : q_S) (p x y z : Int32) : sN σ 0 ≤ sN (opWish σ p x y z).2 0 := by
  unfold opWish
  repeat' split
  · exact Nat.le_refl _
  · exact Nat.le_refl _
  · show _ ≤ sN (sset 1000 _) 0
    rw [(sset_NCR 1000 _).1]; exact Nat.le_refl _
theorem N_leave (σ : q_S) (p : Int32) : sN σ 0 ≤ sN (opLeave σ p).2 0 := by
  unfold opLeave
  repeat' split
  · exact Nat.le_refl _
  · exact Nat.le_refl _
  · show _ ≤ sN (sset 1000 _) 0
    rw [(sset_NCR 1000 _).1]
    show _ ≤ sN (sout _ _) 0
    rw [sout_N]; exact Nat.le_refl _
theorem sclose_N (σ : q_S) : sN (sclose σ) = sN σ := (scls2_keep 8 (scls1 8 σ)).1.trans (scls1_keep 8 σ).1
theorem N_close (σ : q_S) : sN σ 0 ≤ sN (opClose σ).2 0 := by
  unfold opClose
  split
  · exact Nat.le_refl _
  · show _ ≤ sN (sclose σ) 0
    rw [sclose_N]; exact Nat.le_refl _
theorem N_term (σ : q_S) : sN σ 0 ≤ sN (opTerm σ).2 0 := by
  unfold opTerm
  split
  · exact Nat.le_refl _
  · exact Nat.le_refl _
theorem hst_mem {x : Int32} {σ τ : q_S} {hs : List q_S} (h : τ ∈ hst x σ hs) : τ = σ ∨ τ ∈ hs := by
  unfold hst at h
  split at h
  · exact Or.inr h
  · exact List.mem_cons.mp (List.mem_of_mem_take h)
theorem hst_sok {x : Int32} {σ : q_S} {hs : List q_S} (h : sok σ) (hh : ∀ τ, τ ∈ hs → sok τ) : ∀ τ, τ ∈ hst x σ hs → sok τ := by
  intro τ ht
  rcases hst_mem ht with rfl | ht
  · exact h
  · exact hh τ ht
/-- a term begins -/
def TR (σ τ : q_S) : Prop := sG τ 4 = sG σ 4 + ssum (fun p => sP σ p 5) 30 ∧ ssum (fun p => sP τ p 5) 30 = 0 ∧ sN τ 2 = 0
theorem tr_term {σ : q_S} (h : sG σ 1 = 1) : TR σ (opTerm σ).2 := by
  unfold opTerm
  rw [if_neg (by omega)]
  exact ⟨rfl, ssum_zero 30 (fun _ _ => rfl), rfl⟩
def DQ (b : Nat) (σ : q_S) (x : Int32) (w : Option Value) (J : q_Mem) : Prop := ∃ (y : Int32) (τ : q_S) (hs : List q_S), w = some (.int y) ∧ ¬ y < 0 ∧ RG J τ hs [] ∧ Inv (b + 10000) τ ∧ (∀ υ, υ ∈ hs → sok υ) ∧ sN σ 0 ≤ sN τ 0 ∧ (x = nI 7 → sG σ 1 = 1 → TR σ τ)
set_option maxRecDepth 4000 in
theorem c_does {b : Nat} {v : Int32} {I : q_Mem} {σ : q_S} {hs : List q_S} (hG : RG I σ hs []) (hi : Inv b σ) (hh : ∀ υ, υ ∈ hs → sok υ) (hb : b < 2 ^ 30) (hN : 1 ≤ sN σ 0) : q_M kL_does [.ref 0, .int v] I (DQ b σ (v &&& nI 15)) := by
  have k0 := k0
  have hs1 := hi.ok
  have hw := hi.wf
  have h30 := hw.B.2.2.1
  have h5 := hw.B.2.1
  have h8 := hw.B.1
  have hs2 : ∀ x, ∀ υ, υ ∈ hst x σ hs → sok υ := fun x => hst_sok hs1 hh
  refine q_M.of pnL_does (by simp [Value.category]) (Nat.le_of_ble_eq_true rfl) ?_
  refine q_aload_n dL_does_0 rfl ?_
  refine q_iconst (v := nI 0) dL_does_1 (by decide) ?_
  refine q_cV (as := [_]) lk_RL_18 (a_count hG hs1 (j := 0) (x := nI (sN σ 0)) (by omega) rfl) ⟨5, by decide, by assumption, rfl⟩ rfl (by decide) (Nat.le_of_ble_eq_true rfl) dL_does_2 ?_
  rintro w J ⟨rfl, rfl⟩
  refine q_istore_n (ls' := [_, _, _, _, _, _, _, _]) dL_does_5 (Nat.le_of_ble_eq_true rfl) rfl ?_
  refine q_iload_n dL_does_6 rfl ?_
  refine q_if_neN (tgt := 14) (by omega) dL_does_7 (by decide) (fun q => ?_) (fun q => ?_)

  · 
    refine q_iload_n dL_does_14 rfl ?_
    refine q_iconst (v := nI 4) dL_does_15 (by decide) ?_
    refine q_ishr dL_does_16 ?_
    refine q_iload_n dL_does_17 rfl ?_
    refine q_cS (as := [_, _]) lk_RL_12 (c_low (by omega) (by omega)) rfl (by decide) (Nat.le_of_ble_eq_true rfl) dL_does_18 ?_
    rintro w J ⟨⟨f, hf, rfl⟩, rfl⟩
    refine q_istore_n (ls' := [_, _, _, _, _, _, _, _]) dL_does_21 (Nat.le_of_ble_eq_true rfl) rfl ?_
    refine q_iload_n dL_does_22 rfl ?_
    refine q_if_neN (tgt := 30) (by omega) dL_does_23 (by decide) (fun q1 => ?_) (fun q1 => ?_)

    · 
      refine q_iload_n dL_does_30 rfl ?_
      refine q_iconst (v := nI 4) dL_does_31 (by decide) ?_
      refine q_ishr dL_does_32 ?_
      refine q_iload_n dL_does_33 rfl ?_
      refine q_iload_n dL_does_34 rfl ?_
      refine q_cS (as := [_, _, _]) lk_RL_22 (c_second h8 hf) rfl (by decide) (Nat.le_of_ble_eq_true rfl) dL_does_35 ?_
      rintro w J ⟨⟨x, rfl, hx⟩, rfl⟩
      refine q_istore (ls' := [_, _, _, _, _, _, _, _]) dL_does_38 (Nat.le_of_ble_eq_true rfl) rfl ?_
      refine q_iload_n dL_does_40 rfl ?_
      refine q_if_neN (tgt := 48) (by omega) dL_does_41 (by decide) (fun q2 => ?_) (fun q2 => ?_)

      · 
        refine q_iload_n dL_does_48 rfl ?_
        refine q_iconst (v := nI 4) dL_does_49 (by decide) ?_
        refine q_ishr dL_does_50 ?_
        refine q_iload_n dL_does_51 rfl ?_
        refine q_iload_n dL_does_52 rfl ?_
        refine q_iload dL_does_53 rfl ?_
        refine q_cS (as := [_, _, _, _]) lk_RL_26 (c_third h8 hf hx) rfl (by decide) (Nat.le_of_ble_eq_true rfl) dL_does_55 ?_
        rintro w J ⟨⟨y, rfl, hy⟩, rfl⟩
        refine q_istore (ls' := [_, _, _, _, _, _, _, _]) dL_does_58 (Nat.le_of_ble_eq_true rfl) rfl ?_
        refine q_aload_n dL_does_60 rfl ?_
        refine q_iconst (v := nI 2) dL_does_61 (by decide) ?_
        refine q_cV (as := [_]) lk_RL_18 (a_count hG hs1 (j := 2) (x := nI (sN σ 2)) (by omega) rfl) ⟨5, by decide, by assumption, rfl⟩ rfl (by decide) (Nat.le_of_ble_eq_true rfl) dL_does_62 ?_
        rintro w J ⟨rfl, rfl⟩
        refine q_istore (ls' := [_, _, _, _, _, _, _, _]) dL_does_65 (Nat.le_of_ble_eq_true rfl) rfl ?_
        refine q_iload_n dL_does_67 rfl ?_
        refine q_bipush (v := nI 15) dL_does_68 (by decide) ?_
        refine q_iand dL_does_70 ?_
        generalize hvm : v &&& nI 15 = vm
        have zero : ∀ J, J = I → ¬ vm = nI 7 → DQ b σ vm (some (.int (nI 0))) J := fun J e h7 => ⟨nI 0, σ, hs, rfl, nn (by omega), by rw [e]; exact hG, hi.le (by omega), hh, Nat.le_refl _, fun z => absurd z h7⟩
        have n7 : ∀ j, j < 7 → ¬ nI j = nI 7 := fun j hj z => by have := (nI_eq (by omega) (by omega)).mp z; omega
        have course : ¬ vm = nI 7 → q_X kL_does 116 [some (.ref 0), some (.int v), some (.int (nI (sN σ 0))), some (.int (nI f)), some (.int x), some (.int y), some (.int (nI (sN σ 2))), none] [] I (DQ b σ vm) := by
          intro h7
          refine q_iconst (v := nI 1) dL_does_116 (by decide) ?_
          refine q_iload_n dL_does_117 rfl ?_
          refine q_iconst (v := nI 4) dL_does_118 (by decide) ?_
          refine q_ishr dL_does_119 ?_
          refine q_iconst (v := nI 4) dL_does_120 (by decide) ?_
          refine q_cS (as := [_, _]) lk_RL_12 (c_low (n := 4) (by omega) (by omega)) rfl (by decide) (Nat.le_of_ble_eq_true rfl) dL_does_121 ?_
          rintro w J ⟨⟨l, hl, rfl⟩, rfl⟩
          refine q_iadd dL_does_124 ?_
          rw [nI_add]
          refine q_istore (ls' := [_, _, _, _, _, _, _, _]) dL_does_125 (Nat.le_of_ble_eq_true rfl) rfl ?_
          refine q_aload_n dL_does_127 rfl ?_
          refine q_iload_n dL_does_128 rfl ?_
          refine q_bipush (v := nI 6) dL_does_129 (by decide) ?_
          refine q_ishr dL_does_131 ?_
          refine q_bipush (v := nI 80) dL_does_132 (by decide) ?_
          refine q_cS (as := [_, _]) lk_RL_12 (c_low (n := 80) (by omega) (by omega)) rfl (by decide) (Nat.le_of_ble_eq_true rfl) dL_does_134 ?_
          rintro w J ⟨⟨k, hk, rfl⟩, rfl⟩
          refine q_iload dL_does_137 rfl ?_
          refine q_iload dL_does_139 rfl ?_
          refine q_iload_n dL_does_141 rfl ?_
          refine q_iconst (v := nI 5) dL_does_142 (by decide) ?_
          refine q_ishr dL_does_143 ?_
          refine q_iconst (v := nI 4) dL_does_144 (by decide) ?_
          refine q_cS (as := [_, _]) lk_RL_12 (c_low (n := 4) (by omega) (by omega)) rfl (by decide) (Nat.le_of_ble_eq_true rfl) dL_does_145 ?_
          rintro w J ⟨⟨m, hm, rfl⟩, rfl⟩
          refine q_iadd dL_does_148 ?_
          rw [nI_add]
          refine q_iload_n dL_does_149 rfl ?_
          refine q_bipush (v := nI 8) dL_does_150 (by decide) ?_
          refine q_ishr dL_does_152 ?_
          refine q_bipush (v := nI 30) dL_does_153 (by decide) ?_
          refine q_cS (as := [_, _]) lk_RL_12 (c_low (n := 30) (by omega) (by omega)) rfl (by decide) (Nat.le_of_ble_eq_true rfl) dL_does_155 ?_
          rintro w J ⟨⟨e, he, rfl⟩, rfl⟩
          refine q_cV (as := [_, _, _, _]) lk_RL_30 (c_course hG hs1) ⟨5, by decide, by assumption, rfl⟩ rfl (by decide) (Nat.le_of_ble_eq_true rfl) dL_does_158 ?_
          rintro w J ⟨rfl, g1, g2⟩
          refine q_cS (as := [_]) lk_RL_33 c_mild rfl (by decide) (Nat.le_of_ble_eq_true rfl) dL_does_161 ?_
          rintro w J ⟨rfl, rfl⟩
          have cok : cokI (nI k) (nI (1 + l)) (nI (1 + l + m)) (nI e) := ⟨⟨(nI_leI (by omega) (by omega)).mpr (by omega), (nI_leI (by omega) (by omega)).mpr (by omega)⟩, ⟨(nI_leI (by omega) (by omega)).mpr (by omega), (nI_leI (by omega) (by omega)).mpr (by omega)⟩, ⟨(nI_leI (by omega) (by omega)).mpr (by omega), (nI_leI (by omega) (by omega)).mpr (by omega)⟩, (nI_leI (by omega) (by omega)).mpr (by omega), (nI_leI (by omega) (by omega)).mpr (by omega)⟩
          exact q_iret rfl rfl dL_does_164 ⟨_, _, _, rfl, mok_mild (mok_course cok h8), g1, inv_course hi _ _ _ _, hs2 _, N_course _ _ _ _ _, fun z => absurd z h7⟩
        have wish : ¬ vm = nI 7 → q_X kL_does 183 [some (.ref 0), some (.int v), some (.int (nI (sN σ 0))), some (.int (nI f)), some (.int x), some (.int y), some (.int (nI (sN σ 2))), none] [] I (DQ b σ vm) := by
          intro h7
          refine q_iload dL_does_183 rfl ?_
          refine q_if_eqN (tgt := 192) (by omega) dL_does_185 (by decide) (fun q3 => ?_) (fun q3 => ?_)
          · refine q_iconst (v := nI 0) dL_does_192 (by decide) ?_
            refine q_goto (tgt := 217) dL_does_193 (by decide) ?_
            exact q_iret rfl rfl dL_does_217 (zero _ rfl h7)
          refine q_iload_n dL_does_188 rfl ?_
          refine q_if_neN (tgt := 196) (by omega) dL_does_189 (by decide) (fun q4 => ?_) (fun q4 => ?_)

          · 
            refine q_aload_n dL_does_196 rfl ?_
            refine q_iload_n dL_does_197 rfl ?_
            refine q_bipush (v := nI 9) dL_does_198 (by decide) ?_
            refine q_ishr dL_does_200 ?_
            refine q_iload dL_does_201 rfl ?_
            refine q_cS (as := [_, _]) lk_RL_12 (c_low (by omega) (by omega)) rfl (by decide) (Nat.le_of_ble_eq_true rfl) dL_does_203 ?_
            rintro w J ⟨⟨p, hp, rfl⟩, rfl⟩
            refine q_iload_n dL_does_206 rfl ?_
            refine q_iload dL_does_207 rfl ?_
            refine q_iload dL_does_209 rfl ?_
            refine q_cV (as := [_, _, _, _]) lk_RL_39 (c_wish hG hs1) ⟨5, by decide, by assumption, rfl⟩ rfl (by decide) (Nat.le_of_ble_eq_true rfl) dL_does_211 ?_
            rintro w J ⟨rfl, g1, g2⟩
            refine q_cS (as := [_]) lk_RL_33 c_mild rfl (by decide) (Nat.le_of_ble_eq_true rfl) dL_does_214 ?_
            rintro w J ⟨rfl, rfl⟩
            exact q_iret rfl rfl dL_does_217 ⟨_, _, _, rfl, mok_mild (mok_wish (isC_nI (by omega) hp) hy), g1, inv_wish hi _ _ _ _, hs2 _, N_wish _ _ _ _ _, fun z => absurd z h7⟩
          · omega
        have other : ¬ vm = nI 7 → q_X kL_does 259 [some (.ref 0), some (.int v), some (.int (nI (sN σ 0))), some (.int (nI f)), some (.int x), some (.int y), some (.int (nI (sN σ 2))), none] [] I (DQ b σ vm) := by
          intro h7
          refine q_iload_n dL_does_259 rfl ?_
          refine q_if_neN (tgt := 267) (by omega) dL_does_260 (by decide) (fun q4 => ?_) (fun q4 => ?_)

          · 
            refine q_aload_n dL_does_267 rfl ?_
            refine q_iload_n dL_does_268 rfl ?_
            refine q_iload dL_does_269 rfl ?_
            refine q_iload dL_does_271 rfl ?_
            refine q_cV (as := [_, _, _]) lk_RL_52 (c_join hG hs1) ⟨5, by decide, by assumption, rfl⟩ rfl (by decide) (Nat.le_of_ble_eq_true rfl) dL_does_273 ?_
            rintro w J ⟨rfl, g1, g2⟩
            refine q_cS (as := [_]) lk_RL_33 c_mild rfl (by decide) (Nat.le_of_ble_eq_true rfl) dL_does_276 ?_
            rintro w J ⟨rfl, rfl⟩
            exact q_iret rfl rfl dL_does_279 ⟨_, _, _, rfl, mok_mild (mok_join hy h30), g1, inv_join hi _ _ _, hs2 _, N_join _ _ _ _, fun z => absurd z h7⟩
          · omega
        by_cases hc : isC 8 vm
        case neg =>
          refine q_tabOut (tgt := 259) dL_does_71 (by have := tab_out (by omega) hc; omega) (by decide) ?_
          exact other (fun z => hc (by rw [z]; exact isC_nI (by omega) (by omega)))
        obtain ⟨j, hj, rfl⟩ := (isC_iff (by omega)).mp hc
        have hjc : j = 0 ∨ j = 1 ∨ j = 2 ∨ j = 3 ∨ j = 4 ∨ j = 5 ∨ j = 6 ∨ j = 7 := by omega
        rcases hjc with rfl | rfl | rfl | rfl | rfl | rfl | rfl | rfl
        · refine q_tabIn (off := 45) (tgt := 116) dL_does_71 (by decide) (by decide) (by decide) (by decide) ?_
          exact course (n7 0 (by omega))
        · refine q_tabIn (off := 45) (tgt := 116) dL_does_71 (by decide) (by decide) (by decide) (by decide) ?_
          exact course (n7 1 (by omega))
        · refine q_tabIn (off := 94) (tgt := 165) dL_does_71 (by decide) (by decide) (by decide) (by decide) ?_
          refine q_aload_n dL_does_165 rfl ?_
          refine q_iconst (v := nI 1) dL_does_166 (by decide) ?_
          refine q_iload_n dL_does_167 rfl ?_
          refine q_iconst (v := nI 4) dL_does_168 (by decide) ?_
          refine q_ishr dL_does_169 ?_
          refine q_bipush (v := nI 8) dL_does_170 (by decide) ?_
          refine q_cS (as := [_, _]) lk_RL_12 (c_low (n := 8) (by omega) (by omega)) rfl (by decide) (Nat.le_of_ble_eq_true rfl) dL_does_172 ?_
          rintro w J ⟨⟨k, hk, rfl⟩, rfl⟩
          refine q_iadd dL_does_175 ?_
          rw [nI_add]
          refine q_cV (as := [_]) lk_RL_36 (c_room hG hs1) ⟨5, by decide, by assumption, rfl⟩ rfl (by decide) (Nat.le_of_ble_eq_true rfl) dL_does_176 ?_
          rintro w J ⟨rfl, g1, g2⟩
          refine q_cS (as := [_]) lk_RL_33 c_mild rfl (by decide) (Nat.le_of_ble_eq_true rfl) dL_does_179 ?_
          rintro w J ⟨rfl, rfl⟩
          exact q_iret rfl rfl dL_does_182 ⟨_, _, _, rfl, mok_mild (mok_room ⟨(nI_leI (by omega) (by omega)).mpr (by omega), (nI_leI (by omega) (by omega)).mpr (by omega)⟩ h5), g1, inv_room hi _, hs2 _, N_room _ _, fun z => absurd z (n7 2 (by omega))⟩
        · refine q_tabIn (off := 112) (tgt := 183) dL_does_71 (by decide) (by decide) (by decide) (by decide) ?_
          exact wish (n7 3 (by omega))
        · refine q_tabIn (off := 112) (tgt := 183) dL_does_71 (by decide) (by decide) (by decide) (by decide) ?_
          exact wish (n7 4 (by omega))
        · refine q_tabIn (off := 147) (tgt := 218) dL_does_71 (by decide) (by decide) (by decide) (by decide) ?_
          refine q_iload dL_does_218 rfl ?_
          refine q_if_neN (tgt := 227) (by omega) dL_does_220 (by decide) (fun q3 => ?_) (fun q3 => ?_)

          · 
            refine q_aload_n dL_does_227 rfl ?_
            refine q_iload_n dL_does_228 rfl ?_
            refine q_iconst (v := nI 4) dL_does_229 (by decide) ?_
            refine q_ishr dL_does_230 ?_
            refine q_iload dL_does_231 rfl ?_
            refine q_cS (as := [_, _]) lk_RL_12 (c_low (by omega) (by omega)) rfl (by decide) (Nat.le_of_ble_eq_true rfl) dL_does_233 ?_
            rintro w J ⟨⟨p, hp, rfl⟩, rfl⟩
            refine q_cV (as := [_]) lk_RL_42 (c_leave hG hs1) ⟨5, by decide, by assumption, rfl⟩ rfl (by decide) (Nat.le_of_ble_eq_true rfl) dL_does_236 ?_
            rintro w J ⟨rfl, g1, g2⟩
            refine q_cS (as := [_]) lk_RL_33 c_mild rfl (by decide) (Nat.le_of_ble_eq_true rfl) dL_does_239 ?_
            rintro w J ⟨rfl, rfl⟩
            exact q_iret rfl rfl dL_does_242 ⟨_, _, _, rfl, mok_mild (mok_leave hw (isC_nI (by omega) hp)), g1, inv_leave hi _, hs2 _, N_leave _ _, fun z => absurd z (n7 5 (by omega))⟩
          · refine q_iconst (v := nI 0) dL_does_223 (by decide) ?_
            refine q_goto (tgt := 242) dL_does_224 (by decide) ?_
            exact q_iret rfl rfl dL_does_242 (zero _ rfl (n7 5 (by omega)))
        · refine q_tabIn (off := 172) (tgt := 243) dL_does_71 (by decide) (by decide) (by decide) (by decide) ?_
          refine q_aload_n dL_does_243 rfl ?_
          refine q_cV (as := []) lk_RL_45 (c_close hG hs1) ⟨5, by decide, by assumption, rfl⟩ rfl (by decide) (Nat.le_of_ble_eq_true rfl) dL_does_244 ?_
          rintro w J ⟨rfl, g1, g2⟩
          refine q_cS (as := [_]) lk_RL_33 c_mild rfl (by decide) (Nat.le_of_ble_eq_true rfl) dL_does_247 ?_
          rintro w J ⟨rfl, rfl⟩
          exact q_iret rfl rfl dL_does_250 ⟨_, _, _, rfl, mok_mild (mok_close σ), g1, inv_close hi, hs2 _, N_close _, fun z => absurd z (n7 6 (by omega))⟩
        · refine q_tabIn (off := 180) (tgt := 251) dL_does_71 (by decide) (by decide) (by decide) (by decide) ?_
          refine q_aload_n dL_does_251 rfl ?_
          refine q_cV (as := []) lk_RL_49 (c_term hG hs1) ⟨5, by decide, by assumption, rfl⟩ rfl (by decide) (Nat.le_of_ble_eq_true rfl) dL_does_252 ?_
          rintro w J ⟨rfl, g1, g2⟩
          refine q_cS (as := [_]) lk_RL_33 c_mild rfl (by decide) (Nat.le_of_ble_eq_true rfl) dL_does_255 ?_
          rintro w J ⟨rfl, rfl⟩
          exact q_iret rfl rfl dL_does_258 ⟨_, _, _, rfl, mok_mild (mok_term (Nat.lt_of_le_of_lt hi.2.2.2.2.1 hb)), g1, inv_term hi hb, hs2 _, N_term _, fun _ h => tr_term h⟩
      · omega
    · omega
  · omega
