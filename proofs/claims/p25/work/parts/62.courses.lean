/-! THE LAW's second check: the classes; a stretch of its way each -/
theorem or0 (k : Nat) : nI k ||| nI 0 = nI k := by
  rw [show nI 0 = 0 from rfl]
  exact Int32.or_zero
def frN (σ : q_S) (c : Nat) : Nat := if sC σ c 6 = 1 ∧ sLen σ c < sC σ c 4 then 1 else 0
abbrev lsC (σ : q_S) (g op fr pe c : Nat) (o11 o12 o13 : Option Value) : List (Option Value) := [some (.ref 0), some (.int (nI g)), some (.int (nI op)), some (.int (nI fr)), some (.int (nI pe)), some (.int (nI 1)), some (.int (nI c)), some (.int (nI (sLen σ c))), some (.int (nI (sC σ c 6 - 1))), some (.int (nI (nwt σ c))), some (.int (nI (frN σ c))), o11, o12, o13]
/-- what is known of a class and its numbers -/
def CK (σ : q_S) (c : Nat) : Prop := 1 ≤ sC σ c 6 ∧ sC σ c 6 ≤ 4 ∧ sLen σ c ≤ sC σ c 4 ∧ sC σ c 3 ≤ 20 ∧ sC σ c 4 ≤ 20 ∧ (3 ≤ sC σ c 6 → sLen σ c = 0) ∧ (¬ nwt σ c = 0 → frN σ c = 0) ∧ sC σ c 9 ≤ 3 ∧ sC σ c 7 ≤ 5 ∧ sC σ c 8 ≤ 8 ∧ ((sC σ c 9 = 0 ↔ sC σ c 6 ≤ 2) ∧ (sC σ c 9 = 1 ↔ sC σ c 6 = 4) ∧ (¬ sC σ c 8 = 0 ↔ sC σ c 6 = 4) ∧ (¬ sC σ c 7 = 0 ↔ sC σ c 6 = 2)) ∧ (sC σ c 6 = 1 ↔ sG σ 1 = 0) ∧ sG σ 1 ≤ 1 ∧ c < 8 ∧ nwt σ c ≤ 30
theorem frN_le (σ : q_S) (c : Nat) : frN σ c ≤ 1 := by unfold frN; split <;> omega
theorem ck_of {b c : Nat} {σ : q_S} (hi : Inv b σ) (hc : c < sN σ 0) : CK σ c := by
  have hw := hi.wf
  obtain ⟨b0, b1, b2, -⟩ := hw.B
  obtain ⟨x0, x1, x2, x3, x4, x5, x6, x7, x8, x9, x10⟩ := hw.cr (c := c) (by omega)
  have k1 := hw.2.2.2.1 c hc
  have kk := hi.2.2.2.2.2.1 c hc
  have hg := hi.ok.2.1
  have z : ∀ l : List Nat, l = [] → l.length = 0 := fun l h => by rw [h]; rfl
  refine ⟨k1, x6, x10, x3, x4, fun h3 => ?_, fun hn => ?_, x9, x7, x8, ?_, ?_, hg, by omega, nwt_le σ c⟩
  · rcases kk with g | g | g | g
    · omega
    · omega
    · exact z _ g.2.2.2.2
    · exact z _ g.2.2.2.2
  · unfold frN
    by_cases e : sC σ c 6 = 1 ∧ sLen σ c < sC σ c 4
    · have g0 : sG σ 1 = 0 := by
        rcases Nat.lt_or_ge 0 (sG σ 1) with q | q
        · exact absurd e.1 (hi.2.2.2.2.2.2.2.2 (by omega) c hc)
        · omega
      exact absurd (nwt_no hw (hi.open0 g0).2.2 e.1 e.2) hn
    · exact if_neg e
  · rcases kk with g | g | g | g
    · obtain ⟨g1, g2, g3, g4⟩ := g; omega
    · obtain ⟨g1, g2, g3, g4, -⟩ := g; omega
    · obtain ⟨g1, g2, g3, g4, -⟩ := g; omega
    · obtain ⟨g1, g2, g3, g4, -⟩ := g; omega
  · constructor
    · intro e
      rcases Nat.lt_or_ge 0 (sG σ 1) with q | q
      · exact absurd e (hi.2.2.2.2.2.2.2.2 (by omega) c hc)
      · omega
    · intro g0
      exact ((hi.open0 g0).1 c hc).1
section q_seg
variable {b c g op fr pe : Nat} {I : q_Mem} {σ : q_S} {hs : List q_S} {Q : Option Value → q_Mem → Prop} {o7 o8 o9 o10 o11 o12 o13 : Option Value}
theorem seg_B (hG : RG I σ hs []) (hi : Inv b σ) (hc : c < sN σ 0) (kk : q_X kL_areCoursesSo 91 [some (.ref 0), some (.int (nI g)), some (.int (nI op)), some (.int (nI fr)), some (.int (nI pe)), some (.int (nI 1)), some (.int (nI c)), some (.int (nI (sLen σ c))), some (.int (nI (sC σ c 6 - 1))), some (.int (nI (nwt σ c))), o10, o11, o12, o13] [.int (nI (frN σ c))] I Q) : q_X kL_areCoursesSo 29 [some (.ref 0), some (.int (nI g)), some (.int (nI op)), some (.int (nI fr)), some (.int (nI pe)), some (.int (nI 1)), some (.int (nI c)), o7, o8, o9, o10, o11, o12, o13] [] I Q := by
  have k0 := k0
  have hs1 := hi.ok
  obtain ⟨c1, c2, c3, c4, c5, c6, c7, c8, c9, c10, c11, c12, c13, c14, c15⟩ := ck_of hi hc
  obtain ⟨b0, b1, b2, -⟩ := hi.wf.B
  refine q_iload dL_areCoursesSo_29 rfl ?_
  refine q_aload_n dL_areCoursesSo_31 rfl ?_
  refine q_iconst (v := nI 0) dL_areCoursesSo_32 (by decide) ?_
  refine q_cV (as := [_]) lk_RL_18 (a_count hG hs1 (j := 0) (x := nI (sN σ 0)) (by omega) rfl) ⟨5, by decide, by assumption, rfl⟩ rfl (by decide) (Nat.le_of_ble_eq_true rfl) dL_areCoursesSo_33 ?_
  rintro v J ⟨rfl, rfl⟩
  refine q_icmp_geN (tgt := 697) (by omega) (by omega) dL_areCoursesSo_36 (by decide) (fun q => ?_) (fun q => ?_)
  · omega
  refine q_aload_n dL_areCoursesSo_39 rfl ?_
  refine q_iload dL_areCoursesSo_40 rfl ?_
  refine q_bipush (v := nI 7) dL_areCoursesSo_42 (by decide) ?_
  refine q_cV (as := [_, _]) lk_RL_58 (a_course hG hs1 hc (j := 7) (x := nI (sLen σ c)) (by omega) rfl) ⟨5, by decide, by assumption, rfl⟩ rfl (by decide) (Nat.le_of_ble_eq_true rfl) dL_areCoursesSo_44 ?_
  rintro v J ⟨rfl, rfl⟩
  refine q_istore (ls' := [_, _, _, _, _, _, _, _, _, _, _, _, _, _]) dL_areCoursesSo_47 (Nat.le_of_ble_eq_true rfl) rfl ?_
  refine q_aload_n dL_areCoursesSo_49 rfl ?_
  refine q_iload dL_areCoursesSo_50 rfl ?_
  refine q_bipush (v := nI 6) dL_areCoursesSo_52 (by decide) ?_
  refine q_cV (as := [_, _]) lk_RL_58 (a_course hG hs1 hc (j := 6) (x := nI (sC σ c 6 - 1)) (by omega) (st_enc hi.wf hc)) ⟨5, by decide, by assumption, rfl⟩ rfl (by decide) (Nat.le_of_ble_eq_true rfl) dL_areCoursesSo_54 ?_
  rintro v J ⟨rfl, rfl⟩
  refine q_istore (ls' := [_, _, _, _, _, _, _, _, _, _, _, _, _, _]) dL_areCoursesSo_57 (Nat.le_of_ble_eq_true rfl) rfl ?_
  refine q_aload_n dL_areCoursesSo_59 rfl ?_
  refine q_iload dL_areCoursesSo_60 rfl ?_
  refine q_bipush (v := nI 8) dL_areCoursesSo_62 (by decide) ?_
  refine q_cV (as := [_, _]) lk_RL_58 (a_course hG hs1 hc (j := 8) (x := nI (nwt σ c)) (by omega) rfl) ⟨5, by decide, by assumption, rfl⟩ rfl (by decide) (Nat.le_of_ble_eq_true rfl) dL_areCoursesSo_64 ?_
  rintro v J ⟨rfl, rfl⟩
  refine q_istore (ls' := [_, _, _, _, _, _, _, _, _, _, _, _, _, _]) dL_areCoursesSo_67 (Nat.le_of_ble_eq_true rfl) rfl ?_
  refine q_iload dL_areCoursesSo_69 rfl ?_
  refine q_if_neN (tgt := 90) (by omega) dL_areCoursesSo_71 (by decide) (fun q1 => ?_) (fun q1 => ?_)
  · rw [show frN σ c = 0 by unfold frN; rw [if_neg (fun z => by omega)]] at kk
    refine q_iconst (v := nI 0) dL_areCoursesSo_90 (by decide) ?_
    exact kk
  refine q_iload dL_areCoursesSo_74 rfl ?_
  refine q_aload_n dL_areCoursesSo_76 rfl ?_
  refine q_iload dL_areCoursesSo_77 rfl ?_
  refine q_iconst (v := nI 4) dL_areCoursesSo_79 (by decide) ?_
  refine q_cV (as := [_, _]) lk_RL_58 (a_course hG hs1 hc (j := 4) (x := nI (sC σ c 4)) (by omega) rfl) ⟨5, by decide, by assumption, rfl⟩ rfl (by decide) (Nat.le_of_ble_eq_true rfl) dL_areCoursesSo_80 ?_
  rintro v J ⟨rfl, rfl⟩
  refine q_icmp_geN (tgt := 90) (by omega) (by omega) dL_areCoursesSo_83 (by decide) (fun q2 => ?_) (fun q2 => ?_)
  · rw [show frN σ c = 0 by unfold frN; rw [if_neg (fun z => by omega)]] at kk
    refine q_iconst (v := nI 0) dL_areCoursesSo_90 (by decide) ?_
    exact kk
  · rw [show frN σ c = 1 by unfold frN; rw [if_pos ⟨by omega, by omega⟩]] at kk
    refine q_iconst (v := nI 1) dL_areCoursesSo_86 (by decide) ?_
    refine q_goto (tgt := 91) dL_areCoursesSo_87 (by decide) ?_
    exact kk
abbrev pO (σ : q_S) (c : Nat) : Bool := decide (sC σ c 6 = 1)
abbrev pF (σ : q_S) (c : Nat) : Bool := decide (sC σ c 6 = 1 ∧ sLen σ c < sC σ c 4)
theorem seg_C (hi : Inv b σ) (hc : c < sN σ 0) (kk : q_X kL_areCoursesSo 132 (lsC σ g (sbits (pO σ) (c + 1)) (sbits (pF σ) (c + 1)) (pe + sLen σ c) c o11 o12 o13) [] I Q) : q_X kL_areCoursesSo 91 [some (.ref 0), some (.int (nI g)), some (.int (nI (sbits (pO σ) c))), some (.int (nI (sbits (pF σ) c))), some (.int (nI pe)), some (.int (nI 1)), some (.int (nI c)), some (.int (nI (sLen σ c))), some (.int (nI (sC σ c 6 - 1))), some (.int (nI (nwt σ c))), o10, o11, o12, o13] [.int (nI (frN σ c))] I Q := by
  obtain ⟨c1, c2, c3, c4, c5, c6, c7, c8, c9, c10, c11, c12, c13, c14, c15⟩ := ck_of hi hc
  have f1 := frN_le σ c
  have e1 : nI (sbits (pO σ) c) ||| (nI 1 <<< (nI c &&& 31)) = nI (sbits (pO σ) c + 2 ^ c) := bit_or c c14 _ (sbits_lt _ c)
  have e2 : nI (sbits (pF σ) c) ||| (nI 1 <<< (nI c &&& 31)) = nI (sbits (pF σ) c + 2 ^ c) := bit_or c c14 _ (sbits_lt _ c)
  refine q_istore (ls' := [_, _, _, _, _, _, _, _, _, _, _, _, _, _]) dL_areCoursesSo_91 (Nat.le_of_ble_eq_true rfl) rfl ?_
  refine q_iload dL_areCoursesSo_93 rfl ?_
  refine q_iload dL_areCoursesSo_95 rfl ?_
  refine q_iadd dL_areCoursesSo_97 ?_
  rw [nI_add]
  refine q_istore (ls' := [_, _, _, _, _, _, _, _, _, _, _, _, _, _]) dL_areCoursesSo_98 (Nat.le_of_ble_eq_true rfl) rfl ?_
  refine q_iload_n dL_areCoursesSo_100 rfl ?_
  refine q_iload dL_areCoursesSo_101 rfl ?_
  have fin : q_X kL_areCoursesSo 116 [some (.ref 0), some (.int (nI g)), some (.int (nI (sbits (pO σ) (c + 1)))), some (.int (nI (sbits (pF σ) c))), some (.int (nI (pe + sLen σ c))), some (.int (nI 1)), some (.int (nI c)), some (.int (nI (sLen σ c))), some (.int (nI (sC σ c 6 - 1))), some (.int (nI (nwt σ c))), some (.int (nI (frN σ c))), o11, o12, o13] [] I Q := by
    refine q_iload_n dL_areCoursesSo_116 rfl ?_
    refine q_iload dL_areCoursesSo_117 rfl ?_
    refine q_if_eqN (tgt := 129) (by omega) dL_areCoursesSo_119 (by decide) (fun q => ?_) (fun q => ?_)
    · have eF : sbits (pF σ) (c + 1) = sbits (pF σ) c := by
        rw [sbits, show pF σ c = false from decide_eq_false (fun z => by unfold frN at q; rw [if_pos z] at q; omega)]; rfl
      rw [eF] at kk
      refine q_iconst (v := nI 0) dL_areCoursesSo_129 (by decide) ?_
      refine q_ior dL_areCoursesSo_130 ?_
      rw [or0]
      refine q_istore_n (ls' := [_, _, _, _, _, _, _, _, _, _, _, _, _, _]) dL_areCoursesSo_131 (Nat.le_of_ble_eq_true rfl) rfl ?_
      exact kk
    · have eF : sbits (pF σ) (c + 1) = sbits (pF σ) c + 2 ^ c := by
        rw [sbits, show pF σ c = true from decide_eq_true (Decidable.not_not.mp (fun z => by unfold frN at q; rw [if_neg z] at q; omega))]; rfl
      rw [eF] at kk
      refine q_iconst (v := nI 1) dL_areCoursesSo_122 (by decide) ?_
      refine q_iload dL_areCoursesSo_123 rfl ?_
      refine q_ishl dL_areCoursesSo_125 ?_
      refine q_goto (tgt := 130) dL_areCoursesSo_126 (by decide) ?_
      refine q_ior dL_areCoursesSo_130 ?_
      rw [e2]
      refine q_istore_n (ls' := [_, _, _, _, _, _, _, _, _, _, _, _, _, _]) dL_areCoursesSo_131 (Nat.le_of_ble_eq_true rfl) rfl ?_
      exact kk
  refine q_if_neN (tgt := 113) (by omega) dL_areCoursesSo_103 (by decide) (fun q => ?_) (fun q => ?_)
  · have eO : sbits (pO σ) (c + 1) = sbits (pO σ) c := by
      rw [sbits, show pO σ c = false from decide_eq_false (fun z => by omega)]; rfl
    rw [eO] at fin
    refine q_iconst (v := nI 0) dL_areCoursesSo_113 (by decide) ?_
    refine q_ior dL_areCoursesSo_114 ?_
    rw [or0]
    refine q_istore_n (ls' := [_, _, _, _, _, _, _, _, _, _, _, _, _, _]) dL_areCoursesSo_115 (Nat.le_of_ble_eq_true rfl) rfl ?_
    exact fin
  · have eO : sbits (pO σ) (c + 1) = sbits (pO σ) c + 2 ^ c := by
      rw [sbits, show pO σ c = true from decide_eq_true (by omega)]; rfl
    rw [eO] at fin
    refine q_iconst (v := nI 1) dL_areCoursesSo_106 (by decide) ?_
    refine q_iload dL_areCoursesSo_107 rfl ?_
    refine q_ishl dL_areCoursesSo_109 ?_
    refine q_goto (tgt := 114) dL_areCoursesSo_110 (by decide) ?_
    refine q_ior dL_areCoursesSo_114 ?_
    rw [e1]
    refine q_istore_n (ls' := [_, _, _, _, _, _, _, _, _, _, _, _, _, _]) dL_areCoursesSo_115 (Nat.le_of_ble_eq_true rfl) rfl ?_
    exact fin
theorem seg_D (hG : RG I σ hs []) (hi : Inv b σ) (hc : c < sN σ 0) (hg : g = sG σ 1) (kk : q_X kL_areCoursesSo 232 (lsC σ g op fr pe c o11 o12 o13) [] I Q) : q_X kL_areCoursesSo 132 (lsC σ g op fr pe c o11 o12 o13) [] I Q := by
  have k0 := k0
  have hs1 := hi.ok
  obtain ⟨c1, c2, c3, c4, c5, c6, c7, c8, c9, c10, c11, c12, c13, c14, c15⟩ := ck_of hi hc
  have f1 := frN_le σ c
  have h188 : q_X kL_areCoursesSo 188 (lsC σ g op fr pe c o11 o12 o13) [] I Q := by
    refine q_aload_n dL_areCoursesSo_188 rfl ?_
    refine q_iload dL_areCoursesSo_189 rfl ?_
    refine q_bipush (v := nI 11) dL_areCoursesSo_191 (by decide) ?_
    refine q_cV (as := [_, _]) lk_RL_58 (a_course hG hs1 hc (j := 11) (x := nI (sC σ c 3 - sLen σ c)) (by omega) rfl) ⟨5, by decide, by assumption, rfl⟩ rfl (by decide) (Nat.le_of_ble_eq_true rfl) dL_areCoursesSo_193 ?_
    rintro v J ⟨rfl, rfl⟩
    refine q_iload dL_areCoursesSo_196 rfl ?_
    refine q_aload_n dL_areCoursesSo_198 rfl ?_
    refine q_iload dL_areCoursesSo_199 rfl ?_
    refine q_iconst (v := nI 3) dL_areCoursesSo_201 (by decide) ?_
    refine q_cV (as := [_, _]) lk_RL_58 (a_course hG hs1 hc (j := 3) (x := nI (sC σ c 3)) (by omega) rfl) ⟨5, by decide, by assumption, rfl⟩ rfl (by decide) (Nat.le_of_ble_eq_true rfl) dL_areCoursesSo_202 ?_
    rintro v J ⟨rfl, rfl⟩
    refine q_icmp_geN (tgt := 221) (by omega) (by omega) dL_areCoursesSo_205 (by decide) (fun q => ?_) (fun q => ?_)
    · refine q_iconst (v := nI 0) dL_areCoursesSo_221 (by decide) ?_
      rw [show sC σ c 3 - sLen σ c = 0 by omega]
      refine q_icmp_ne (tgt := 229) dL_areCoursesSo_222 (by decide) (fun q1 => ?_) (fun q1 => ?_)
      · exact absurd rfl q1
      refine q_iconst (v := nI 1) dL_areCoursesSo_225 (by decide) ?_
      refine q_goto (tgt := 230) dL_areCoursesSo_226 (by decide) ?_
      refine q_istore (ls' := [_, _, _, _, _, _, _, _, _, _, _, _, _, _]) dL_areCoursesSo_230 (Nat.le_of_ble_eq_true rfl) rfl ?_
      exact kk
    · refine q_aload_n dL_areCoursesSo_208 rfl ?_
      refine q_iload dL_areCoursesSo_209 rfl ?_
      refine q_iconst (v := nI 3) dL_areCoursesSo_211 (by decide) ?_
      refine q_cV (as := [_, _]) lk_RL_58 (a_course hG hs1 hc (j := 3) (x := nI (sC σ c 3)) (by omega) rfl) ⟨5, by decide, by assumption, rfl⟩ rfl (by decide) (Nat.le_of_ble_eq_true rfl) dL_areCoursesSo_212 ?_
      rintro v J ⟨rfl, rfl⟩
      refine q_iload dL_areCoursesSo_215 rfl ?_
      refine q_isub dL_areCoursesSo_217 ?_
      rw [pk_sub (by omega)]
      refine q_goto (tgt := 222) dL_areCoursesSo_218 (by decide) ?_
      refine q_icmp_ne (tgt := 229) dL_areCoursesSo_222 (by decide) (fun q1 => ?_) (fun q1 => ?_)
      · exact absurd rfl q1
      refine q_iconst (v := nI 1) dL_areCoursesSo_225 (by decide) ?_
      refine q_goto (tgt := 230) dL_areCoursesSo_226 (by decide) ?_
      refine q_istore (ls' := [_, _, _, _, _, _, _, _, _, _, _, _, _, _]) dL_areCoursesSo_230 (Nat.le_of_ble_eq_true rfl) rfl ?_
      exact kk
  have h178 : q_X kL_areCoursesSo 178 (lsC σ g op fr pe c o11 o12 o13) [] I Q := by
    refine q_iload dL_areCoursesSo_178 rfl ?_
    refine q_if_eqN (tgt := 188) (by omega) dL_areCoursesSo_180 (by decide) (fun q => ?_) (fun q => ?_)
    · exact h188
    refine q_iload dL_areCoursesSo_183 rfl ?_
    refine q_if_neN (tgt := 229) (by omega) dL_areCoursesSo_185 (by decide) (fun q1 => ?_) (fun q1 => ?_)
    · exact absurd (c7 q) q1
    exact h188
  have h167 : q_X kL_areCoursesSo 167 (lsC σ g op fr pe c o11 o12 o13) [] I Q := by
    refine q_iload dL_areCoursesSo_167 rfl ?_
    refine q_iconst (v := nI 2) dL_areCoursesSo_169 (by decide) ?_
    refine q_icmp_ltN (tgt := 178) (by omega) (by omega) dL_areCoursesSo_170 (by decide) (fun q => ?_) (fun q => ?_)
    · exact h178
    refine q_iload dL_areCoursesSo_173 rfl ?_
    refine q_if_neN (tgt := 229) (by omega) dL_areCoursesSo_175 (by decide) (fun q1 => ?_) (fun q1 => ?_)
    · exact absurd (c6 (by omega)) q1
    exact h178
  have h158 : q_X kL_areCoursesSo 158 (lsC σ g op fr pe c o11 o12 o13) [] I Q := by
    refine q_iload dL_areCoursesSo_158 rfl ?_
    refine q_if_neN (tgt := 167) (by omega) dL_areCoursesSo_160 (by decide) (fun q => ?_) (fun q => ?_)
    · exact h167
    refine q_iload_n dL_areCoursesSo_163 rfl ?_
    refine q_if_neN (tgt := 229) (by omega) dL_areCoursesSo_164 (by decide) (fun q1 => ?_) (fun q1 => ?_)
    · omega
    exact h167
  refine q_iload dL_areCoursesSo_132 rfl ?_
  refine q_if_eqN (tgt := 229) (by omega) dL_areCoursesSo_134 (by decide) (fun q => ?_) (fun q => ?_)
  · omega
  refine q_iload dL_areCoursesSo_137 rfl ?_
  refine q_aload_n dL_areCoursesSo_139 rfl ?_
  refine q_iload dL_areCoursesSo_140 rfl ?_
  refine q_iconst (v := nI 4) dL_areCoursesSo_142 (by decide) ?_
  refine q_cV (as := [_, _]) lk_RL_58 (a_course hG hs1 hc (j := 4) (x := nI (sC σ c 4)) (by omega) rfl) ⟨5, by decide, by assumption, rfl⟩ rfl (by decide) (Nat.le_of_ble_eq_true rfl) dL_areCoursesSo_143 ?_
  rintro v J ⟨rfl, rfl⟩
  refine q_icmp_gtN (tgt := 229) (by omega) (by omega) dL_areCoursesSo_146 (by decide) (fun q => ?_) (fun q => ?_)
  · omega
  refine q_iload dL_areCoursesSo_149 rfl ?_
  refine q_if_eqN (tgt := 158) (by omega) dL_areCoursesSo_151 (by decide) (fun q => ?_) (fun q => ?_)
  · exact h158
  refine q_iload_n dL_areCoursesSo_154 rfl ?_
  refine q_if_eqN (tgt := 229) (by omega) dL_areCoursesSo_155 (by decide) (fun q1 => ?_) (fun q1 => ?_)
  · omega
  exact h158
theorem seg_E (hG : RG I σ hs []) (hi : Inv b σ) (hc : c < sN σ 0) (kk : q_X kL_areCoursesSo 365 (lsC σ g op fr pe c o11 o12 o13) [] I Q) : q_X kL_areCoursesSo 232 (lsC σ g op fr pe c o11 o12 o13) [] I Q := by
  have k0 := k0
  have hs1 := hi.ok
  obtain ⟨c1, c2, c3, c4, c5, c6, c7, c8, c9, c10, ⟨c11, d11, e11, f11⟩, c12, c13, c14, c15⟩ := ck_of hi hc
  have h358 : q_X kL_areCoursesSo 358 (lsC σ g op fr pe c o11 o12 o13) [] I Q := by
    refine q_iconst (v := nI 1) dL_areCoursesSo_358 (by decide) ?_
    refine q_goto (tgt := 363) dL_areCoursesSo_359 (by decide) ?_
    refine q_istore (ls' := [_, _, _, _, _, _, _, _, _, _, _, _, _, _]) dL_areCoursesSo_363 (Nat.le_of_ble_eq_true rfl) rfl ?_
    exact kk
  have h328 : q_X kL_areCoursesSo 328 (lsC σ g op fr pe c o11 o12 o13) [] I Q := by
    refine q_aload_n dL_areCoursesSo_328 rfl ?_
    refine q_iload dL_areCoursesSo_329 rfl ?_
    refine q_bipush (v := nI 9) dL_areCoursesSo_331 (by decide) ?_
    refine q_cV (as := [_, _]) lk_RL_58 (a_course hG hs1 hc (j := 9) (x := told (sC σ c 7)) (by omega) rfl) ⟨5, by decide, by assumption, rfl⟩ rfl (by decide) (Nat.le_of_ble_eq_true rfl) dL_areCoursesSo_333 ?_
    rintro v J ⟨rfl, rfl⟩
    refine q_if_lt (tgt := 343) dL_areCoursesSo_336 (by decide) (fun q => ?_) (fun q => ?_)
    · have q := (told_neg (by omega)).mp q
      refine q_iconst (v := nI 0) dL_areCoursesSo_343 (by decide) ?_
      refine q_iload dL_areCoursesSo_344 rfl ?_
      refine q_iconst (v := nI 1) dL_areCoursesSo_346 (by decide) ?_
      refine q_icmp_neN (tgt := 354) (by omega) (by omega) dL_areCoursesSo_347 (by decide) (fun q1 => ?_) (fun q1 => ?_)
      · refine q_iconst (v := nI 0) dL_areCoursesSo_354 (by decide) ?_
        refine q_icmp_neN (tgt := 362) (by omega) (by omega) dL_areCoursesSo_355 (by decide) (fun q2 => ?_) (fun q2 => ?_)
        · omega
        exact h358
      · omega
    · have q : ¬ sC σ c 7 = 0 := fun z => q ((told_neg (by omega)).mpr z)
      refine q_iconst (v := nI 1) dL_areCoursesSo_339 (by decide) ?_
      refine q_goto (tgt := 344) dL_areCoursesSo_340 (by decide) ?_
      refine q_iload dL_areCoursesSo_344 rfl ?_
      refine q_iconst (v := nI 1) dL_areCoursesSo_346 (by decide) ?_
      refine q_icmp_neN (tgt := 354) (by omega) (by omega) dL_areCoursesSo_347 (by decide) (fun q1 => ?_) (fun q1 => ?_)
      · omega
      · refine q_iconst (v := nI 1) dL_areCoursesSo_350 (by decide) ?_
        refine q_goto (tgt := 355) dL_areCoursesSo_351 (by decide) ?_
        refine q_icmp_neN (tgt := 362) (by omega) (by omega) dL_areCoursesSo_355 (by decide) (fun q2 => ?_) (fun q2 => ?_)
        · omega
        exact h358
  have h298 : q_X kL_areCoursesSo 298 (lsC σ g op fr pe c o11 o12 o13) [] I Q := by
    refine q_aload_n dL_areCoursesSo_298 rfl ?_
    refine q_iload dL_areCoursesSo_299 rfl ?_
    refine q_bipush (v := nI 10) dL_areCoursesSo_301 (by decide) ?_
    refine q_cV (as := [_, _]) lk_RL_58 (a_course hG hs1 hc (j := 10) (x := told (sC σ c 8)) (by omega) rfl) ⟨5, by decide, by assumption, rfl⟩ rfl (by decide) (Nat.le_of_ble_eq_true rfl) dL_areCoursesSo_303 ?_
    rintro v J ⟨rfl, rfl⟩
    refine q_if_lt (tgt := 313) dL_areCoursesSo_306 (by decide) (fun q => ?_) (fun q => ?_)
    · have q := (told_neg (by omega)).mp q
      refine q_iconst (v := nI 0) dL_areCoursesSo_313 (by decide) ?_
      refine q_iload dL_areCoursesSo_314 rfl ?_
      refine q_iconst (v := nI 3) dL_areCoursesSo_316 (by decide) ?_
      refine q_icmp_neN (tgt := 324) (by omega) (by omega) dL_areCoursesSo_317 (by decide) (fun q1 => ?_) (fun q1 => ?_)
      · refine q_iconst (v := nI 0) dL_areCoursesSo_324 (by decide) ?_
        refine q_icmp_neN (tgt := 362) (by omega) (by omega) dL_areCoursesSo_325 (by decide) (fun q2 => ?_) (fun q2 => ?_)
        · omega
        exact h328
      · omega
    · have q : ¬ sC σ c 8 = 0 := fun z => q ((told_neg (by omega)).mpr z)
      refine q_iconst (v := nI 1) dL_areCoursesSo_309 (by decide) ?_
      refine q_goto (tgt := 314) dL_areCoursesSo_310 (by decide) ?_
      refine q_iload dL_areCoursesSo_314 rfl ?_
      refine q_iconst (v := nI 3) dL_areCoursesSo_316 (by decide) ?_
      refine q_icmp_neN (tgt := 324) (by omega) (by omega) dL_areCoursesSo_317 (by decide) (fun q1 => ?_) (fun q1 => ?_)
      · omega
      · refine q_iconst (v := nI 1) dL_areCoursesSo_320 (by decide) ?_
        refine q_goto (tgt := 325) dL_areCoursesSo_321 (by decide) ?_
        refine q_icmp_neN (tgt := 362) (by omega) (by omega) dL_areCoursesSo_325 (by decide) (fun q2 => ?_) (fun q2 => ?_)
        · omega
        exact h328
  have h267 : q_X kL_areCoursesSo 267 (lsC σ g op fr pe c o11 o12 o13) [] I Q := by
    refine q_aload_n dL_areCoursesSo_267 rfl ?_
    refine q_iload dL_areCoursesSo_268 rfl ?_
    refine q_bipush (v := nI 12) dL_areCoursesSo_270 (by decide) ?_
    refine q_cV (as := [_, _]) lk_RL_58 (a_course hG hs1 hc (j := 12) (x := nI (sC σ c 9)) (by omega) rfl) ⟨5, by decide, by assumption, rfl⟩ rfl (by decide) (Nat.le_of_ble_eq_true rfl) dL_areCoursesSo_272 ?_
    rintro v J ⟨rfl, rfl⟩
    refine q_iconst (v := nI 1) dL_areCoursesSo_275 (by decide) ?_
    refine q_icmp_neN (tgt := 283) (by omega) (by omega) dL_areCoursesSo_276 (by decide) (fun q => ?_) (fun q => ?_)
    · refine q_iconst (v := nI 0) dL_areCoursesSo_283 (by decide) ?_
      refine q_iload dL_areCoursesSo_284 rfl ?_
      refine q_iconst (v := nI 3) dL_areCoursesSo_286 (by decide) ?_
      refine q_icmp_neN (tgt := 294) (by omega) (by omega) dL_areCoursesSo_287 (by decide) (fun q1 => ?_) (fun q1 => ?_)
      · refine q_iconst (v := nI 0) dL_areCoursesSo_294 (by decide) ?_
        refine q_icmp_neN (tgt := 362) (by omega) (by omega) dL_areCoursesSo_295 (by decide) (fun q2 => ?_) (fun q2 => ?_)
        · omega
        exact h298
      · omega
    · refine q_iconst (v := nI 1) dL_areCoursesSo_279 (by decide) ?_
      refine q_goto (tgt := 284) dL_areCoursesSo_280 (by decide) ?_
      refine q_iload dL_areCoursesSo_284 rfl ?_
      refine q_iconst (v := nI 3) dL_areCoursesSo_286 (by decide) ?_
      refine q_icmp_neN (tgt := 294) (by omega) (by omega) dL_areCoursesSo_287 (by decide) (fun q1 => ?_) (fun q1 => ?_)
      · omega
      · refine q_iconst (v := nI 1) dL_areCoursesSo_290 (by decide) ?_
        refine q_goto (tgt := 295) dL_areCoursesSo_291 (by decide) ?_
        refine q_icmp_neN (tgt := 362) (by omega) (by omega) dL_areCoursesSo_295 (by decide) (fun q2 => ?_) (fun q2 => ?_)
        · omega
        exact h298
  refine q_iload dL_areCoursesSo_232 rfl ?_
  refine q_if_eqN (tgt := 362) (by omega) dL_areCoursesSo_234 (by decide) (fun q => ?_) (fun q => ?_)
  · omega
  refine q_aload_n dL_areCoursesSo_237 rfl ?_
  refine q_iload dL_areCoursesSo_238 rfl ?_
  refine q_bipush (v := nI 12) dL_areCoursesSo_240 (by decide) ?_
  refine q_cV (as := [_, _]) lk_RL_58 (a_course hG hs1 hc (j := 12) (x := nI (sC σ c 9)) (by omega) rfl) ⟨5, by decide, by assumption, rfl⟩ rfl (by decide) (Nat.le_of_ble_eq_true rfl) dL_areCoursesSo_242 ?_
  rintro v J ⟨rfl, rfl⟩
  refine q_if_neN (tgt := 252) (by omega) dL_areCoursesSo_245 (by decide) (fun q => ?_) (fun q => ?_)
  · refine q_iconst (v := nI 0) dL_areCoursesSo_252 (by decide) ?_
    refine q_iload dL_areCoursesSo_253 rfl ?_
    refine q_iconst (v := nI 2) dL_areCoursesSo_255 (by decide) ?_
    refine q_icmp_geN (tgt := 263) (by omega) (by omega) dL_areCoursesSo_256 (by decide) (fun q1 => ?_) (fun q1 => ?_)
    · refine q_iconst (v := nI 0) dL_areCoursesSo_263 (by decide) ?_
      refine q_icmp_neN (tgt := 362) (by omega) (by omega) dL_areCoursesSo_264 (by decide) (fun q2 => ?_) (fun q2 => ?_)
      · omega
      exact h267
    · omega
  · refine q_iconst (v := nI 1) dL_areCoursesSo_248 (by decide) ?_
    refine q_goto (tgt := 253) dL_areCoursesSo_249 (by decide) ?_
    refine q_iload dL_areCoursesSo_253 rfl ?_
    refine q_iconst (v := nI 2) dL_areCoursesSo_255 (by decide) ?_
    refine q_icmp_geN (tgt := 263) (by omega) (by omega) dL_areCoursesSo_256 (by decide) (fun q1 => ?_) (fun q1 => ?_)
    · omega
    · refine q_iconst (v := nI 1) dL_areCoursesSo_259 (by decide) ?_
      refine q_goto (tgt := 264) dL_areCoursesSo_260 (by decide) ?_
      refine q_icmp_neN (tgt := 362) (by omega) (by omega) dL_areCoursesSo_264 (by decide) (fun q2 => ?_) (fun q2 => ?_)
      · omega
      exact h267
/-- the one behind, of those who wait -/
def lst (σ : q_S) (c k : Nat) (x : Int32) : Prop := (k = 0 ∧ x = -1) ∨ ∃ q, x = nI q ∧ q < 30 ∧ 0 < k ∧ wct σ (c + 1) q = k - 1
theorem seg_F (hG : RG I σ hs []) (hi : Inv b σ) (hc : c < sN σ 0) (kk : ∀ o11 o12 o13, q_X kL_areCoursesSo 467 (lsC σ g op fr pe c o11 o12 o13) [] I Q) : q_X kL_areCoursesSo 365 (lsC σ g op fr pe c o11 o12 o13) [] I Q := by
  have k0 := k0
  have hs1 := hi.ok
  have hw := hi.wf
  obtain ⟨b0, b1, b2, -⟩ := hw.B
  have w30 := nwt_le σ c
  have ec : nI c = told (c + 1) := (told_s (w := c + 1) (by omega)).symm
  refine q_iconst (v := -1) dL_areCoursesSo_365 (by decide) ?_
  refine q_istore (ls' := [_, _, _, _, _, _, _, _, _, _, _, _, _, _]) dL_areCoursesSo_366 (Nat.le_of_ble_eq_true rfl) rfl ?_
  refine q_iconst (v := nI 0) dL_areCoursesSo_368 (by decide) ?_
  refine q_istore (ls' := [_, _, _, _, _, _, _, _, _, _, _, _, _, _]) dL_areCoursesSo_369 (Nat.le_of_ble_eq_true rfl) rfl ?_
  have loop : ∀ d k x o13, k + d = nwt σ c → lst σ c k x → q_X kL_areCoursesSo 371 (lsC σ g op fr pe c (some (.int x)) (some (.int (nI k))) o13) [] I Q := by
    intro d
    induction d with
    | zero =>
      intro k x o13 hk hx
      obtain rfl : k = nwt σ c := by omega
      refine q_iload dL_areCoursesSo_371 rfl ?_
      refine q_iload dL_areCoursesSo_373 rfl ?_
      refine q_icmp_geN (tgt := 467) (by omega) (by omega) dL_areCoursesSo_375 (by decide) (fun q => ?_) (fun q => ?_)
      · exact kk _ _ _
      · omega
    | succ d ih =>
      intro k x o13 hk hx
      obtain ⟨p, p1, p2, p3, p4⟩ := swn_in (σ := σ) (c := c) (r := k) (by omega)
      obtain ⟨y0, y1, y2⟩ := swt_yes p3
      have hp : p < sN σ 2 := by
        rcases Nat.lt_or_ge p (sN σ 2) with q | q
        · exact q
        · exact absurd (hw.zero q 0) y0
      obtain ⟨a1, a2, a3, a4, a5, -⟩ := hw.pr p
      refine q_iload dL_areCoursesSo_371 rfl ?_
      refine q_iload dL_areCoursesSo_373 rfl ?_
      refine q_icmp_geN (tgt := 467) (by omega) (by omega) dL_areCoursesSo_375 (by decide) (fun q => ?_) (fun q => ?_)
      · omega
      refine q_aload_n dL_areCoursesSo_378 rfl ?_
      refine q_iload dL_areCoursesSo_379 rfl ?_
      refine q_iload dL_areCoursesSo_381 rfl ?_
      refine q_cV (as := [_, _]) lk_RL_65 (a_waits hG hs1 hc (r := k) (by omega)) ⟨5, by decide, by assumption, rfl⟩ rfl (by decide) (Nat.le_of_ble_eq_true rfl) dL_areCoursesSo_383 ?_
      rintro v J ⟨rfl, rfl⟩
      rw [p1, show told (p + 1) = nI p from told_s (by omega)]
      refine q_istore (ls' := [_, _, _, _, _, _, _, _, _, _, _, _, _, _]) dL_areCoursesSo_386 (Nat.le_of_ble_eq_true rfl) rfl ?_
      refine q_iload dL_areCoursesSo_388 rfl ?_
      refine q_if_eqN (tgt := 454) (by omega) dL_areCoursesSo_390 (by decide) (fun q1 => ?_) (fun q1 => ?_)
      · omega
      refine q_iload dL_areCoursesSo_393 rfl ?_
      refine q_iload dL_areCoursesSo_395 rfl ?_
      refine q_icmp_le (tgt := 454) dL_areCoursesSo_397 (by decide) (fun q2 => ?_) (fun q2 => ?_)
      · exfalso
        rcases hx with ⟨-, rfl⟩ | ⟨q', rfl, q3, q4, q5⟩
        · exact absurd (Int32.lt_of_le_of_lt q2 (by decide : (-1 : Int32) < 0)) (nn (by omega))
        · have := (nI_leI (by omega) (by omega)).mp q2
          have := wct_lt (σ := σ) (w := c + 1) (p := q') (q := p) (by omega)
          omega
      have fin : q_X kL_areCoursesSo 438 (lsC σ g op fr pe c (some (.int x)) (some (.int (nI k))) (some (.int (nI p)))) [] I Q := by
        refine q_aload_n dL_areCoursesSo_438 rfl ?_
        refine q_iload dL_areCoursesSo_439 rfl ?_
        refine q_iconst (v := nI 1) dL_areCoursesSo_441 (by decide) ?_
        refine q_cV (as := [_, _]) lk_RL_55 (a_person hG hs1 hp (j := 1) (x := told (sP σ p 4)) (by omega) rfl) ⟨5, by decide, by assumption, rfl⟩ rfl (by decide) (Nat.le_of_ble_eq_true rfl) dL_areCoursesSo_442 ?_
        rintro v J ⟨rfl, rfl⟩
        refine q_iload dL_areCoursesSo_445 rfl ?_
        refine q_icmp_eq (tgt := 454) dL_areCoursesSo_447 (by decide) (fun q3 => ?_) (fun q3 => ?_)
        · rw [ec] at q3
          exact absurd ((told_inj (by omega) (by omega)).mp q3) y2
        refine q_iconst (v := nI 1) dL_areCoursesSo_450 (by decide) ?_
        refine q_goto (tgt := 455) dL_areCoursesSo_451 (by decide) ?_
        refine q_istore (ls' := [_, _, _, _, _, _, _, _, _, _, _, _, _, _]) dL_areCoursesSo_455 (Nat.le_of_ble_eq_true rfl) rfl ?_
        refine q_iload dL_areCoursesSo_457 rfl ?_
        refine q_istore (ls' := [_, _, _, _, _, _, _, _, _, _, _, _, _, _]) dL_areCoursesSo_459 (Nat.le_of_ble_eq_true rfl) rfl ?_
        refine q_iinc (ls' := [_, _, _, _, _, _, _, _, _, _, _, _, _, _]) dL_areCoursesSo_461 rfl (nI_add _ 1) rfl ?_
        refine q_goto (tgt := 371) dL_areCoursesSo_464 (by decide) ?_
        exact ih (k + 1) _ _ (by omega) (Or.inr ⟨p, rfl, p2, by omega, by omega⟩)
      refine q_aload_n dL_areCoursesSo_400 rfl ?_
      refine q_iload dL_areCoursesSo_401 rfl ?_
      refine q_iconst (v := nI 5) dL_areCoursesSo_403 (by decide) ?_
      refine q_cV (as := [_, _]) lk_RL_55 (a_person hG hs1 hp (j := 5) (x := told (sP σ p 1)) (by omega) rfl) ⟨5, by decide, by assumption, rfl⟩ rfl (by decide) (Nat.le_of_ble_eq_true rfl) dL_areCoursesSo_404 ?_
      rintro v J ⟨rfl, rfl⟩
      refine q_iload dL_areCoursesSo_407 rfl ?_
      refine q_icmp_eq (tgt := 438) dL_areCoursesSo_409 (by decide) (fun q3 => ?_) (fun q3 => ?_)
      · exact fin
      refine q_aload_n dL_areCoursesSo_412 rfl ?_
      refine q_iload dL_areCoursesSo_413 rfl ?_
      refine q_bipush (v := nI 6) dL_areCoursesSo_415 (by decide) ?_
      refine q_cV (as := [_, _]) lk_RL_55 (a_person hG hs1 hp (j := 6) (x := told (sP σ p 2)) (by omega) rfl) ⟨5, by decide, by assumption, rfl⟩ rfl (by decide) (Nat.le_of_ble_eq_true rfl) dL_areCoursesSo_417 ?_
      rintro v J ⟨rfl, rfl⟩
      refine q_iload dL_areCoursesSo_420 rfl ?_
      refine q_icmp_eq (tgt := 438) dL_areCoursesSo_422 (by decide) (fun q4 => ?_) (fun q4 => ?_)
      · exact fin
      refine q_aload_n dL_areCoursesSo_425 rfl ?_
      refine q_iload dL_areCoursesSo_426 rfl ?_
      refine q_bipush (v := nI 7) dL_areCoursesSo_428 (by decide) ?_
      refine q_cV (as := [_, _]) lk_RL_55 (a_person hG hs1 hp (j := 7) (x := told (sP σ p 3)) (by omega) rfl) ⟨5, by decide, by assumption, rfl⟩ rfl (by decide) (Nat.le_of_ble_eq_true rfl) dL_areCoursesSo_430 ?_
      rintro v J ⟨rfl, rfl⟩
      refine q_iload dL_areCoursesSo_433 rfl ?_
      refine q_icmp_ne (tgt := 454) dL_areCoursesSo_435 (by decide) (fun q5 => ?_) (fun q5 => ?_)
      · exfalso
        rw [ec] at q3 q4 q5
        rcases y1 with y1 | y1 | y1
        · exact q3 (by rw [y1])
        · exact q4 (by rw [y1])
        · exact q5 (by rw [y1])
      · exact fin
  exact loop (nwt σ c) 0 (-1) _ (by omega) (Or.inl ⟨rfl, rfl⟩)
theorem seg_G (hG : RG I σ hs []) (hi : Inv b σ) (hc : c < sN σ 0) (kk : q_X kL_areCoursesSo 505 (lsC σ g op fr pe c o11 o12 o13) [] I Q) : q_X kL_areCoursesSo 467 (lsC σ g op fr pe c o11 o12 o13) [] I Q := by
  have k0 := k0
  have hs1 := hi.ok
  have w30 := nwt_le σ c
  have l20 := hi.wf.len c
  refine q_iload dL_areCoursesSo_467 rfl ?_
  refine q_if_eqN (tgt := 502) (by omega) dL_areCoursesSo_469 (by decide) (fun q => ?_) (fun q => ?_)
  · omega
  refine q_aload_n dL_areCoursesSo_472 rfl ?_
  refine q_iload dL_areCoursesSo_473 rfl ?_
  refine q_iload dL_areCoursesSo_475 rfl ?_
  refine q_cV (as := [_, _]) lk_RL_65 (a_waits hG hs1 hc (r := nwt σ c) (by omega)) ⟨5, by decide, by assumption, rfl⟩ rfl (by decide) (Nat.le_of_ble_eq_true rfl) dL_areCoursesSo_477 ?_
  rintro v J ⟨rfl, rfl⟩
  rw [swn_out (Nat.le_refl _), show told 0 = -1000004 from rfl]
  refine q_ldc (v := -1000004) ct_RL_64 dL_areCoursesSo_480 ?_
  refine q_icmp_ne (tgt := 502) dL_areCoursesSo_482 (by decide) (fun q1 => ?_) (fun q1 => ?_)
  · exact absurd rfl q1
  refine q_aload_n dL_areCoursesSo_485 rfl ?_
  refine q_iload dL_areCoursesSo_486 rfl ?_
  refine q_iload dL_areCoursesSo_488 rfl ?_
  refine q_cV (as := [_, _]) lk_RL_68 (a_member hG hs1 hc (r := sLen σ c) (by omega)) ⟨5, by decide, by assumption, rfl⟩ rfl (by decide) (Nat.le_of_ble_eq_true rfl) dL_areCoursesSo_490 ?_
  rintro v J ⟨rfl, rfl⟩
  rw [List.getElem?_eq_none (Nat.le_refl _), show mof none = -1000004 from rfl]
  refine q_ldc (v := -1000004) ct_RL_64 dL_areCoursesSo_493 ?_
  refine q_icmp_ne (tgt := 502) dL_areCoursesSo_495 (by decide) (fun q1 => ?_) (fun q1 => ?_)
  · exact absurd rfl q1
  refine q_iconst (v := nI 1) dL_areCoursesSo_498 (by decide) ?_
  refine q_goto (tgt := 503) dL_areCoursesSo_499 (by decide) ?_
  refine q_istore (ls' := [_, _, _, _, _, _, _, _, _, _, _, _, _, _]) dL_areCoursesSo_503 (Nat.le_of_ble_eq_true rfl) rfl ?_
  exact kk
theorem seg_H (hG : RG I σ hs []) (hi : Inv b σ) (hc : c < sN σ 0) (kk : ∀ o12, q_X kL_areCoursesSo 551 (lsC σ g op fr pe c o11 o12 o13) [] I Q) : q_X kL_areCoursesSo 505 (lsC σ g op fr pe c o11 o12 o13) [] I Q := by
  have k0 := k0
  have hs1 := hi.ok
  have hw := hi.wf
  obtain ⟨b0, b1, b2, -⟩ := hw.B
  have l20 := hw.len c
  refine q_iconst (v := nI 0) dL_areCoursesSo_505 (by decide) ?_
  refine q_istore (ls' := [_, _, _, _, _, _, _, _, _, _, _, _, _, _]) dL_areCoursesSo_506 (Nat.le_of_ble_eq_true rfl) rfl ?_
  have loop : ∀ d k, k + d = sLen σ c → q_X kL_areCoursesSo 508 (lsC σ g op fr pe c o11 (some (.int (nI k))) o13) [] I Q := by
    intro d
    induction d with
    | zero =>
      intro k hk
      obtain rfl : k = sLen σ c := by omega
      refine q_iload dL_areCoursesSo_508 rfl ?_
      refine q_iload dL_areCoursesSo_510 rfl ?_
      refine q_icmp_geN (tgt := 551) (by omega) (by omega) dL_areCoursesSo_512 (by decide) (fun q => ?_) (fun q => ?_)
      · exact kk _
      · omega
    | succ d ih =>
      intro k hk
      have hk2 : k < (sL σ c).length := by have : sLen σ c = (sL σ c).length := rfl; omega
      have hg : (sL σ c)[k]? = some (sL σ c)[k] := List.getElem?_eq_getElem hk2
      generalize (sL σ c)[k] = p at hg
      have hm := List.mem_of_getElem? hg
      have hp := hw.mlt hm
      have h4 := hw.mem.mp hm
      refine q_iload dL_areCoursesSo_508 rfl ?_
      refine q_iload dL_areCoursesSo_510 rfl ?_
      refine q_icmp_geN (tgt := 551) (by omega) (by omega) dL_areCoursesSo_512 (by decide) (fun q => ?_) (fun q => ?_)
      · omega
      refine q_iload dL_areCoursesSo_515 rfl ?_
      refine q_if_eqN (tgt := 542) (by omega) dL_areCoursesSo_517 (by decide) (fun q1 => ?_) (fun q1 => ?_)
      · omega
      refine q_aload_n dL_areCoursesSo_520 rfl ?_
      refine q_aload_n dL_areCoursesSo_521 rfl ?_
      refine q_iload dL_areCoursesSo_522 rfl ?_
      refine q_iload dL_areCoursesSo_524 rfl ?_
      refine q_cV (as := [_, _]) lk_RL_68 (a_member hG hs1 hc (r := k) (by omega)) ⟨5, by decide, by assumption, rfl⟩ rfl (by decide) (Nat.le_of_ble_eq_true rfl) dL_areCoursesSo_526 ?_
      rintro v J ⟨rfl, rfl⟩
      rw [hg, show mof (some p) = nI p from rfl]
      refine q_iconst (v := nI 1) dL_areCoursesSo_529 (by decide) ?_
      refine q_cV (as := [_, _]) lk_RL_55 (a_person hG hs1 hp (j := 1) (x := nI c) (by omega) (by show told (sP σ p 4) = nI c; rw [h4]; exact told_s (by omega))) ⟨5, by decide, by assumption, rfl⟩ rfl (by decide) (Nat.le_of_ble_eq_true rfl) dL_areCoursesSo_530 ?_
      rintro v J ⟨rfl, rfl⟩
      refine q_iload dL_areCoursesSo_533 rfl ?_
      refine q_icmp_ne (tgt := 542) dL_areCoursesSo_535 (by decide) (fun q2 => ?_) (fun q2 => ?_)
      · exact absurd rfl q2
      refine q_iconst (v := nI 1) dL_areCoursesSo_538 (by decide) ?_
      refine q_goto (tgt := 543) dL_areCoursesSo_539 (by decide) ?_
      refine q_istore (ls' := [_, _, _, _, _, _, _, _, _, _, _, _, _, _]) dL_areCoursesSo_543 (Nat.le_of_ble_eq_true rfl) rfl ?_
      refine q_iinc (ls' := [_, _, _, _, _, _, _, _, _, _, _, _, _, _]) dL_areCoursesSo_545 rfl (nI_add _ 1) rfl ?_
      refine q_goto (tgt := 508) dL_areCoursesSo_548 (by decide) ?_
      exact ih (k + 1) (by omega)
  exact loop (sLen σ c) 0 (by omega)
theorem seg_I (hG : RG I σ hs []) (hi : Inv b σ) (hc : c < sN σ 0) (kk : q_X kL_areCoursesSo 621 (lsC σ g op fr pe c o11 o12 o13) [] I Q) : q_X kL_areCoursesSo 551 (lsC σ g op fr pe c o11 o12 o13) [] I Q := by
  have k0 := k0
  have hs1 := hi.ok
  have hw := hi.wf
  obtain ⟨b0, b1, b2, -⟩ := hw.B
  obtain ⟨c1, c2, c3, c4, c5, c6, c7, c8, c9, c10, c11, c12, c13, c14, c15⟩ := ck_of hi hc
  refine q_iload dL_areCoursesSo_551 rfl ?_
  refine q_if_eqN (tgt := 618) (by omega) dL_areCoursesSo_553 (by decide) (fun q => ?_) (fun q => ?_)
  · omega
  refine q_iload dL_areCoursesSo_556 rfl ?_
  refine q_iconst (v := nI 1) dL_areCoursesSo_558 (by decide) ?_
  refine q_icmp_neN (tgt := 614) (by omega) (by omega) dL_areCoursesSo_559 (by decide) (fun q => ?_) (fun q => ?_)
  · refine q_iconst (v := nI 1) dL_areCoursesSo_614 (by decide) ?_
    refine q_goto (tgt := 619) dL_areCoursesSo_615 (by decide) ?_
    refine q_istore (ls' := [_, _, _, _, _, _, _, _, _, _, _, _, _, _]) dL_areCoursesSo_619 (Nat.le_of_ble_eq_true rfl) rfl ?_
    exact kk
  have kst := hi.2.2.2.2.2.1 c hc
  have h2 : ¬ sC σ c 7 = 0 ∧ sC σ c 3 ≤ sLen σ c ∧ sC σ c 7 ≤ sN σ 1 ∧ sLen σ c ≤ sR σ (sC σ c 7 - 1) := by
    rcases kst with x | x | x | x
    · omega
    · exact ⟨x.2.1, x.2.2.2.2⟩
    · omega
    · omega
  obtain ⟨r0, r1, r2, r3⟩ := h2
  have r30 := hw.2.2.2.2.2.2.2 (sC σ c 7 - 1) (by omega)
  have et : told (sC σ c 7) = nI (sC σ c 7 - 1) := told_s r0
  refine q_iload dL_areCoursesSo_562 rfl ?_
  refine q_aload_n dL_areCoursesSo_564 rfl ?_
  refine q_iload dL_areCoursesSo_565 rfl ?_
  refine q_iconst (v := nI 3) dL_areCoursesSo_567 (by decide) ?_
  refine q_cV (as := [_, _]) lk_RL_58 (a_course hG hs1 hc (j := 3) (x := nI (sC σ c 3)) (by omega) rfl) ⟨5, by decide, by assumption, rfl⟩ rfl (by decide) (Nat.le_of_ble_eq_true rfl) dL_areCoursesSo_568 ?_
  rintro v J ⟨rfl, rfl⟩
  refine q_icmp_ltN (tgt := 618) (by omega) (by omega) dL_areCoursesSo_571 (by decide) (fun q1 => ?_) (fun q1 => ?_)
  · omega
  refine q_iload dL_areCoursesSo_574 rfl ?_
  refine q_aload_n dL_areCoursesSo_576 rfl ?_
  refine q_aload_n dL_areCoursesSo_577 rfl ?_
  refine q_iload dL_areCoursesSo_578 rfl ?_
  refine q_bipush (v := nI 9) dL_areCoursesSo_580 (by decide) ?_
  refine q_cV (as := [_, _]) lk_RL_58 (a_course hG hs1 hc (j := 9) (x := nI (sC σ c 7 - 1)) (by omega) et) ⟨5, by decide, by assumption, rfl⟩ rfl (by decide) (Nat.le_of_ble_eq_true rfl) dL_areCoursesSo_582 ?_
  rintro v J ⟨rfl, rfl⟩
  refine q_iconst (v := nI 0) dL_areCoursesSo_585 (by decide) ?_
  refine q_cV (as := [_, _]) lk_RL_71 (a_room hG hs1 (r := sC σ c 7 - 1) (by omega) (j := 0) (x := nI (sR σ (sC σ c 7 - 1))) (by omega) rfl) ⟨5, by decide, by assumption, rfl⟩ rfl (by decide) (Nat.le_of_ble_eq_true rfl) dL_areCoursesSo_586 ?_
  rintro v J ⟨rfl, rfl⟩
  refine q_icmp_gtN (tgt := 618) (by omega) (by omega) dL_areCoursesSo_589 (by decide) (fun q1 => ?_) (fun q1 => ?_)
  · omega
  refine q_aload_n dL_areCoursesSo_592 rfl ?_
  refine q_aload_n dL_areCoursesSo_593 rfl ?_
  refine q_iload dL_areCoursesSo_594 rfl ?_
  refine q_bipush (v := nI 9) dL_areCoursesSo_596 (by decide) ?_
  refine q_cV (as := [_, _]) lk_RL_58 (a_course hG hs1 hc (j := 9) (x := nI (sC σ c 7 - 1)) (by omega) et) ⟨5, by decide, by assumption, rfl⟩ rfl (by decide) (Nat.le_of_ble_eq_true rfl) dL_areCoursesSo_598 ?_
  rintro v J ⟨rfl, rfl⟩
  refine q_iconst (v := nI 1) dL_areCoursesSo_601 (by decide) ?_
  refine q_cV (as := [_, _]) lk_RL_71 (a_room hG hs1 (r := sC σ c 7 - 1) (by omega) (j := 1) (x := nI (sbits (fun d => decide (sC σ d 7 = sC σ c 7 - 1 + 1)) 8)) (by omega) rfl) ⟨5, by decide, by assumption, rfl⟩ rfl (by decide) (Nat.le_of_ble_eq_true rfl) dL_areCoursesSo_602 ?_
  rintro v J ⟨rfl, rfl⟩
  refine q_iload dL_areCoursesSo_605 rfl ?_
  refine q_ishr dL_areCoursesSo_607 ?_
  refine q_iconst (v := nI 1) dL_areCoursesSo_608 (by decide) ?_
  refine q_iand dL_areCoursesSo_609 ?_
  rw [shr_bit _ (sbits_lt _ 8) c c14, sbits_bit _ c14, if_pos (decide_eq_true (by omega))]
  refine q_iconst (v := nI 1) dL_areCoursesSo_610 (by decide) ?_
  refine q_icmp_ne (tgt := 618) dL_areCoursesSo_611 (by decide) (fun q1 => ?_) (fun q1 => ?_)
  · exact absurd rfl q1
  refine q_iconst (v := nI 1) dL_areCoursesSo_614 (by decide) ?_
  refine q_goto (tgt := 619) dL_areCoursesSo_615 (by decide) ?_
  refine q_istore (ls' := [_, _, _, _, _, _, _, _, _, _, _, _, _, _]) dL_areCoursesSo_619 (Nat.le_of_ble_eq_true rfl) rfl ?_
  exact kk
theorem seg_J (hG : RG I σ hs []) (hi : Inv b σ) (hc : c < sN σ 0) (kk : ∀ o12, q_X kL_areCoursesSo 691 (lsC σ g op fr pe c o11 o12 o13) [] I Q) : q_X kL_areCoursesSo 621 (lsC σ g op fr pe c o11 o12 o13) [] I Q := by
  have k0 := k0
  have hs1 := hi.ok
  have hw := hi.wf
  obtain ⟨b0, b1, b2, -⟩ := hw.B
  obtain ⟨c1, c2, c3, c4, c5, c6, c7, c8, c9, c10, ⟨c11, d11, e11, f11⟩, c12, c13, c14, c15⟩ := ck_of hi hc
  have hr := hi.2.2.2.2.2.2.1
  refine q_iconst (v := nI 0) dL_areCoursesSo_621 (by decide) ?_
  refine q_istore (ls' := [_, _, _, _, _, _, _, _, _, _, _, _, _, _]) dL_areCoursesSo_622 (Nat.le_of_ble_eq_true rfl) rfl ?_
  have loop : ∀ d k, k + d = c → q_X kL_areCoursesSo 624 (lsC σ g op fr pe c o11 (some (.int (nI k))) o13) [] I Q := by
    intro d
    induction d with
    | zero =>
      intro k hk
      obtain rfl : k = c := by omega
      refine q_iload dL_areCoursesSo_624 rfl ?_
      refine q_iload dL_areCoursesSo_626 rfl ?_
      refine q_icmp_geN (tgt := 691) (by omega) (by omega) dL_areCoursesSo_628 (by decide) (fun q => ?_) (fun q => ?_)
      · exact kk _
      · omega
    | succ d ih =>
      intro k hk
      have hk2 : k < sN σ 0 := by omega
      have hk7 := (hw.cr (c := k) (by omega)).2.2.2.2.2.2.2.1
      have hk2c := (hw.cr (c := k) (by omega)).2.2.1
      have hcc := (hw.cr (c := c) (by omega)).2.2.1
      have fin : q_X kL_areCoursesSo 678 (lsC σ g op fr pe c o11 (some (.int (nI k))) o13) [] I Q := by
        refine q_iconst (v := nI 1) dL_areCoursesSo_678 (by decide) ?_
        refine q_goto (tgt := 683) dL_areCoursesSo_679 (by decide) ?_
        refine q_istore (ls' := [_, _, _, _, _, _, _, _, _, _, _, _, _, _]) dL_areCoursesSo_683 (Nat.le_of_ble_eq_true rfl) rfl ?_
        refine q_iinc (ls' := [_, _, _, _, _, _, _, _, _, _, _, _, _, _]) dL_areCoursesSo_685 rfl (nI_add _ 1) rfl ?_
        refine q_goto (tgt := 624) dL_areCoursesSo_688 (by decide) ?_
        exact ih (k + 1) (by omega)
      refine q_iload dL_areCoursesSo_624 rfl ?_
      refine q_iload dL_areCoursesSo_626 rfl ?_
      refine q_icmp_geN (tgt := 691) (by omega) (by omega) dL_areCoursesSo_628 (by decide) (fun q => ?_) (fun q => ?_)
      · omega
      refine q_iload dL_areCoursesSo_631 rfl ?_
      refine q_if_eqN (tgt := 682) (by omega) dL_areCoursesSo_633 (by decide) (fun q1 => ?_) (fun q1 => ?_)
      · omega
      refine q_iload dL_areCoursesSo_636 rfl ?_
      refine q_iconst (v := nI 1) dL_areCoursesSo_638 (by decide) ?_
      refine q_icmp_neN (tgt := 678) (by omega) (by omega) dL_areCoursesSo_639 (by decide) (fun q2 => ?_) (fun q2 => ?_)
      · exact fin
      refine q_aload_n dL_areCoursesSo_642 rfl ?_
      refine q_iload dL_areCoursesSo_643 rfl ?_
      refine q_bipush (v := nI 9) dL_areCoursesSo_645 (by decide) ?_
      refine q_cV (as := [_, _]) lk_RL_58 (a_course hG hs1 hk2 (j := 9) (x := told (sC σ k 7)) (by omega) rfl) ⟨5, by decide, by assumption, rfl⟩ rfl (by decide) (Nat.le_of_ble_eq_true rfl) dL_areCoursesSo_647 ?_
      rintro v J ⟨rfl, rfl⟩
      refine q_aload_n dL_areCoursesSo_650 rfl ?_
      refine q_iload dL_areCoursesSo_651 rfl ?_
      refine q_bipush (v := nI 9) dL_areCoursesSo_653 (by decide) ?_
      refine q_cV (as := [_, _]) lk_RL_58 (a_course hG hs1 hc (j := 9) (x := told (sC σ c 7)) (by omega) rfl) ⟨5, by decide, by assumption, rfl⟩ rfl (by decide) (Nat.le_of_ble_eq_true rfl) dL_areCoursesSo_655 ?_
      rintro v J ⟨rfl, rfl⟩
      refine q_icmp_ne (tgt := 678) dL_areCoursesSo_658 (by decide) (fun q3 => ?_) (fun q3 => ?_)
      · exact fin
      refine q_aload_n dL_areCoursesSo_661 rfl ?_
      refine q_iload dL_areCoursesSo_662 rfl ?_
      refine q_iconst (v := nI 2) dL_areCoursesSo_664 (by decide) ?_
      refine q_cV (as := [_, _]) lk_RL_58 (a_course hG hs1 hk2 (j := 2) (x := nI (sC σ k 2)) (by omega) rfl) ⟨5, by decide, by assumption, rfl⟩ rfl (by decide) (Nat.le_of_ble_eq_true rfl) dL_areCoursesSo_665 ?_
      rintro v J ⟨rfl, rfl⟩
      refine q_aload_n dL_areCoursesSo_668 rfl ?_
      refine q_iload dL_areCoursesSo_669 rfl ?_
      refine q_iconst (v := nI 2) dL_areCoursesSo_671 (by decide) ?_
      refine q_cV (as := [_, _]) lk_RL_58 (a_course hG hs1 hc (j := 2) (x := nI (sC σ c 2)) (by omega) rfl) ⟨5, by decide, by assumption, rfl⟩ rfl (by decide) (Nat.le_of_ble_eq_true rfl) dL_areCoursesSo_672 ?_
      rintro v J ⟨rfl, rfl⟩
      refine q_icmp_eqN (tgt := 682) (by omega) (by omega) dL_areCoursesSo_675 (by decide) (fun q4 => ?_) (fun q4 => ?_)
      · have := hr c k (by omega) ((told_inj (by omega) (by omega)).mp q3) q4
        omega
      exact fin
  exact loop c 0 (by omega)
end q_seg
theorem c_courses {b : Nat} {I : q_Mem} {σ : q_S} {hs : List q_S} (hG : RG I σ hs []) (hi : Inv b σ) : q_M kL_areCoursesSo [.ref 0] I (fun w J => w = some (.int (nI 1)) ∧ I = J) := by
  have k0 := k0
  have hs1 := hi.ok
  have hw := hi.wf
  have hg1 := hs1.2.1
  obtain ⟨b0, b1, b2, -⟩ := hw.B
  refine q_M.of pnL_areCoursesSo (by simp [Value.category]) (Nat.le_of_ble_eq_true rfl) ?_
  have loop : ∀ d c (o7 o8 o9 o10 o11 o12 o13 : Option Value), c + d = sN σ 0 → q_X kL_areCoursesSo 29 [some (.ref 0), some (.int (nI (sG σ 1))), some (.int (nI (sbits (pO σ) c))), some (.int (nI (sbits (pF σ) c))), some (.int (nI (ssum (fun c => sLen σ c) c))), some (.int (nI 1)), some (.int (nI c)), o7, o8, o9, o10, o11, o12, o13] [] I (fun w J => w = some (.int (nI 1)) ∧ I = J) := by
    intro d
    induction d with
    | zero =>
      intro c o7 o8 o9 o10 o11 o12 o13 hc
      obtain rfl : c = sN σ 0 := by omega
      have tO : sbits (pO σ) (sN σ 0) = sbits (pO σ) 8 := (sbits_tail (fun c hc => decide_eq_false (fun z => by have := (hw.2.2.1 c hc).1; omega)) 8 b0).symm
      have tF : sbits (pF σ) (sN σ 0) = sbits (pF σ) 8 := (sbits_tail (fun c hc => decide_eq_false (fun z => by have := (hw.2.2.1 c hc).1; omega)) 8 b0).symm
      rw [tO, tF, len_all hw]
      refine q_iload dL_areCoursesSo_29 rfl ?_
      refine q_aload_n dL_areCoursesSo_31 rfl ?_
      refine q_iconst (v := nI 0) dL_areCoursesSo_32 (by decide) ?_
      refine q_cV (as := [_]) lk_RL_18 (a_count hG hs1 (j := 0) (x := nI (sN σ 0)) (by omega) rfl) ⟨5, by decide, by assumption, rfl⟩ rfl (by decide) (Nat.le_of_ble_eq_true rfl) dL_areCoursesSo_33 ?_
      rintro v J ⟨rfl, rfl⟩
      refine q_icmp_geN (tgt := 697) (by omega) (by omega) dL_areCoursesSo_36 (by decide) (fun q => ?_) (fun q => ?_)
      · refine q_iload dL_areCoursesSo_697 rfl ?_
        refine q_if_eqN (tgt := 735) (by omega) dL_areCoursesSo_699 (by decide) (fun z => ?_) (fun z => ?_)
        · omega
        refine q_iload dL_areCoursesSo_702 rfl ?_
        refine q_aload_n dL_areCoursesSo_704 rfl ?_
        refine q_iconst (v := nI 4) dL_areCoursesSo_705 (by decide) ?_
        refine q_cV (as := [_]) lk_RL_18 (a_count hG hs1 (j := 4) (x := nI (ssum (fun p => if sP σ p 4 = 0 then 0 else 1) 30)) (by omega) rfl) ⟨5, by decide, by assumption, rfl⟩ rfl (by decide) (Nat.le_of_ble_eq_true rfl) dL_areCoursesSo_706 ?_
        rintro v J ⟨rfl, rfl⟩
        refine q_icmp_ne (tgt := 735) dL_areCoursesSo_709 (by decide) (fun q1 => ?_) (fun q1 => ?_)
        · exact absurd rfl q1
        refine q_iload_n dL_areCoursesSo_712 rfl ?_
        refine q_aload_n dL_areCoursesSo_713 rfl ?_
        refine q_iconst (v := nI 5) dL_areCoursesSo_714 (by decide) ?_
        refine q_cV (as := [_]) lk_RL_18 (a_count hG hs1 (j := 5) (x := nI (sbits (pO σ) 8)) (by omega) rfl) ⟨5, by decide, by assumption, rfl⟩ rfl (by decide) (Nat.le_of_ble_eq_true rfl) dL_areCoursesSo_715 ?_
        rintro v J ⟨rfl, rfl⟩
        refine q_icmp_ne (tgt := 735) dL_areCoursesSo_718 (by decide) (fun q1 => ?_) (fun q1 => ?_)
        · exact absurd rfl q1
        refine q_iload_n dL_areCoursesSo_721 rfl ?_
        refine q_aload_n dL_areCoursesSo_722 rfl ?_
        refine q_bipush (v := nI 6) dL_areCoursesSo_723 (by decide) ?_
        refine q_cV (as := [_]) lk_RL_18 (a_count hG hs1 (j := 6) (x := nI (sbits (pF σ) 8)) (by omega) rfl) ⟨5, by decide, by assumption, rfl⟩ rfl (by decide) (Nat.le_of_ble_eq_true rfl) dL_areCoursesSo_725 ?_
        rintro v J ⟨rfl, rfl⟩
        refine q_icmp_ne (tgt := 735) dL_areCoursesSo_728 (by decide) (fun q1 => ?_) (fun q1 => ?_)
        · exact absurd rfl q1
        refine q_iconst (v := nI 1) dL_areCoursesSo_731 (by decide) ?_
        refine q_goto (tgt := 736) dL_areCoursesSo_732 (by decide) ?_
        exact q_iret rfl (bool_ok (Or.inr rfl)).1 dL_areCoursesSo_736 ⟨rfl, rfl⟩
      · omega
    | succ d ih =>
      intro c o7 o8 o9 o10 o11 o12 o13 hc
      have hc2 : c < sN σ 0 := by omega
      refine seg_B hG hi hc2 ?_
      refine seg_C hi hc2 ?_
      refine seg_D hG hi hc2 rfl ?_
      refine seg_E hG hi hc2 ?_
      refine seg_F hG hi hc2 (fun _ _ _ => ?_)
      refine seg_G hG hi hc2 ?_
      refine seg_H hG hi hc2 (fun _ => ?_)
      refine seg_I hG hi hc2 ?_
      refine seg_J hG hi hc2 (fun _ => ?_)
      refine q_iinc (ls' := [_, _, _, _, _, _, _, _, _, _, _, _, _, _]) dL_areCoursesSo_691 rfl (nI_add _ 1) rfl ?_
      refine q_goto (tgt := 29) dL_areCoursesSo_694 (by decide) ?_
      exact ih (c + 1) _ _ _ _ _ _ _ (by omega)
  refine q_aload_n dL_areCoursesSo_0 rfl ?_
  refine q_bipush (v := nI 8) dL_areCoursesSo_1 (by decide) ?_
  refine q_cV (as := [_]) lk_RL_18 (a_count hG hs1 (j := 8) (x := nI (sG σ 1)) (by omega) rfl) ⟨5, by decide, by assumption, rfl⟩ rfl (by decide) (Nat.le_of_ble_eq_true rfl) dL_areCoursesSo_3 ?_
  rintro v J ⟨rfl, rfl⟩
  refine q_iconst (v := nI 1) dL_areCoursesSo_6 (by decide) ?_
  refine q_icmp_neN (tgt := 14) (by omega) (by omega) dL_areCoursesSo_7 (by decide) (fun q => ?_) (fun q => ?_)
  · rw [show sG σ 1 = 0 by omega] at loop
    refine q_iconst (v := nI 0) dL_areCoursesSo_14 (by decide) ?_
    refine q_istore_n (ls' := [_, _, _, _, _, _, _, _, _, _, _, _, _, _]) dL_areCoursesSo_15 (Nat.le_of_ble_eq_true rfl) rfl ?_
    refine q_iconst (v := nI 0) dL_areCoursesSo_16 (by decide) ?_
    refine q_istore_n (ls' := [_, _, _, _, _, _, _, _, _, _, _, _, _, _]) dL_areCoursesSo_17 (Nat.le_of_ble_eq_true rfl) rfl ?_
    refine q_iconst (v := nI 0) dL_areCoursesSo_18 (by decide) ?_
    refine q_istore_n (ls' := [_, _, _, _, _, _, _, _, _, _, _, _, _, _]) dL_areCoursesSo_19 (Nat.le_of_ble_eq_true rfl) rfl ?_
    refine q_iconst (v := nI 0) dL_areCoursesSo_20 (by decide) ?_
    refine q_istore (ls' := [_, _, _, _, _, _, _, _, _, _, _, _, _, _]) dL_areCoursesSo_21 (Nat.le_of_ble_eq_true rfl) rfl ?_
    refine q_iconst (v := nI 1) dL_areCoursesSo_23 (by decide) ?_
    refine q_istore (ls' := [_, _, _, _, _, _, _, _, _, _, _, _, _, _]) dL_areCoursesSo_24 (Nat.le_of_ble_eq_true rfl) rfl ?_
    refine q_iconst (v := nI 0) dL_areCoursesSo_26 (by decide) ?_
    refine q_istore (ls' := [_, _, _, _, _, _, _, _, _, _, _, _, _, _]) dL_areCoursesSo_27 (Nat.le_of_ble_eq_true rfl) rfl ?_
    exact loop (sN σ 0) 0 _ _ _ _ _ _ _ (by omega)
  · rw [q] at loop
    refine q_iconst (v := nI 1) dL_areCoursesSo_10 (by decide) ?_
    refine q_goto (tgt := 15) dL_areCoursesSo_11 (by decide) ?_
    refine q_istore_n (ls' := [_, _, _, _, _, _, _, _, _, _, _, _, _, _]) dL_areCoursesSo_15 (Nat.le_of_ble_eq_true rfl) rfl ?_
    refine q_iconst (v := nI 0) dL_areCoursesSo_16 (by decide) ?_
    refine q_istore_n (ls' := [_, _, _, _, _, _, _, _, _, _, _, _, _, _]) dL_areCoursesSo_17 (Nat.le_of_ble_eq_true rfl) rfl ?_
    refine q_iconst (v := nI 0) dL_areCoursesSo_18 (by decide) ?_
    refine q_istore_n (ls' := [_, _, _, _, _, _, _, _, _, _, _, _, _, _]) dL_areCoursesSo_19 (Nat.le_of_ble_eq_true rfl) rfl ?_
    refine q_iconst (v := nI 0) dL_areCoursesSo_20 (by decide) ?_
    refine q_istore (ls' := [_, _, _, _, _, _, _, _, _, _, _, _, _, _]) dL_areCoursesSo_21 (Nat.le_of_ble_eq_true rfl) rfl ?_
    refine q_iconst (v := nI 1) dL_areCoursesSo_23 (by decide) ?_
    refine q_istore (ls' := [_, _, _, _, _, _, _, _, _, _, _, _, _, _]) dL_areCoursesSo_24 (Nat.le_of_ble_eq_true rfl) rfl ?_
    refine q_iconst (v := nI 0) dL_areCoursesSo_26 (by decide) ?_
    refine q_istore (ls' := [_, _, _, _, _, _, _, _, _, _, _, _, _, _]) dL_areCoursesSo_27 (Nat.le_of_ble_eq_true rfl) rfl ?_
    exact loop (sN σ 0) 0 _ _ _ _ _ _ _ (by omega)
