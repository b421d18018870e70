/-! THE LAW: what it reads of the script, its rounds -/
section y_rules
variable {ω : q_Om} {N : Nat} {k : q_MI} {pc : Nat} {ls : List (Option Value)} {st : List Value} {I : q_Mem} {Q : Option Value → q_Mem → Prop}
theorem y_slen (hd : decode k.2.1 pc = .ok (.arraylength, 1)) (kk : q_Y ω k N (pc + 1) ls (.int (nI (q_L ω)) :: st) I Q) : q_Y ω k N pc ls (.ref 380 :: st) I Q := by
  intro p l e R s m args below meth c cells slots QZ hC hN hR H locs LS hL hP hS
  have hO : q_Od ω s s.heap := hC.2.2.2.2.2.2.2.1
  exact q_scr_len hC.1 hC.2.1 hO hS hd (kk p l e R s m args below meth c cells slots QZ hC hN hR H locs LS hL hP hS)
theorem y_sald {i : Nat} {x : Int32} (hx : x = nI i) (hi : i < q_L ω) (hLb : q_L ω ≤ 2560) (hd : decode k.2.1 pc = .ok (.iaload, 1)) (kk : q_Y ω k N (pc + 1) ls (.int (q_xs ω i) :: st) I Q) : q_Y ω k N pc ls (.int x :: .ref 380 :: st) I Q := by
  intro p l e R s m args below meth c cells slots QZ hC hN hR H locs LS hL hP hS
  subst hx
  have hO : q_Od ω s s.heap := hC.2.2.2.2.2.2.2.1
  have kk := kk p l e R s m args below meth c cells slots QZ hC hN hR H locs LS hL hP hS
  refine va_sld hC.1 hC.2.1 hO.1.1 hO.1.2.1 hO.1.2.2 hS (vp_in_nI hi (by omega)) hd ?_
  rw [nI_clamp (by omega)]
  exact kk
theorem y_less (h : q_Y ω k N pc ls st I Q) : q_Y ω k (N + 1) pc ls st I Q := by
  intro p l e R s m args below meth c cells slots QZ hC hN hR H locs LS hL hP hS
  exact h p l e R s m args below meth c cells slots QZ hC ⟨by omega, by omega⟩ hR H locs LS hL hP hS
theorem y_cS0 {kc : q_MI} {as : List Value} {idx n : Nat} {Qc : Option Value → q_Mem → Prop} (hl : q_lkS k.1.cls idx kc n) (hm : q_MN ω kc 0 0 as I Qc) (hn : as.length = n) (hf : q_fit kc k) (hst : (st.map fun v => v.category).sum ≤ 8) (hd : decode k.2.1 pc = .ok (.invokestatic idx, 3)) (kk : ∀ v J, Qc v J → q_Y ω k N (pc + 3) ls (v.toList ++ st) J Q) : q_Y ω k N pc ls (as.reverse ++ st) I Q :=
  y_cSN (M := 0) hl hm hn hf hst hd kk
end y_rules
/-- a contract out of a body, over one layout -/
theorem y_M {ω : q_Om} {k : q_MI} {as : List Value} {I : q_Mem} {Q : Option Value → q_Mem → Prop} (hy : plainName k.1.cls = true) (hcat : ∀ v ∈ as, v.category = 1) (hlen : as.length ≤ k.2.2.1) (hX : q_Y ω k 0 0 (as.map some ++ List.replicate (k.2.2.1 - as.length) none) [] I Q) : q_MN ω k 0 0 as I Q := by
  intro l
  refine Met.ofW (cc := k.2.1) (maxL := k.2.2.1) (ret := k.2.2.2.1) hy rfl ?_
  intro p e s m args below meth c s₁ B hml hv
  obtain ⟨rfl, hP, hK, hD, hO⟩ := hv
  have hx := B.exec
  have hb := B.bytes
  have hr := B.returns
  have hts := atoms_spec (ws := q_ws k) B.pre
  have hown : s.vm.findClass k.1.cls = some m.cls := findClass_of_methodNamed B.named
  have hcat' : ∀ v ∈ as.map (q_cv ω), v.category = 1 := by
    intro v hv
    obtain ⟨w, hw, rfl⟩ := List.mem_map.mp hv
    rw [q_cv_cat]; exact hcat w hw
  rw [entry_eq m (as.map (q_cv ω)) hcat' k.2.2.1]
  refine hX p l e { frames := k.2.2.2.2.1, cells := 0, slots := 0, locals := k.2.2.2.2.2 } s m _ below meth c 0 0 _ ⟨hx, hb, ?_, hown, fun w hw => hts w (List.mem_cons_of_mem _ hw), hK, q_vD hD, hO, Nat.le_refl _, Nat.le_refl _, Nat.le_refl _, Nat.le_refl _⟩ ⟨Nat.le_refl _, Nat.le_refl _⟩ ?_ s.heap [] _ ?_ hP va_S.rf
  · rw [hml]
    simp only [List.length_append, List.length_map, List.length_replicate]
    omega
  · intro cells' slots' pc' LS' H' locs' v J hc' hs' hRt hQ hP' hS'
    obtain rfl : cells' = 0 := Nat.le_zero.mp hc'
    obtain rfl : slots' = 0 := Nat.le_zero.mp hs'
    rcases hRt with ⟨rfl, hr0, hd⟩ | ⟨x, ty, rfl, hr0, hn, hd⟩ | ⟨n, hr0, hv, hd⟩
    · exact W.vret hx hb (hr.trans hr0) (fun t ht hW => ⟨⟨none, J, rfl, hQ, by rw [ht]; exact hP'⟩, hS'.F ht⟩) hS'.2.2 hd
    · exact W.zret hx hb (hr.trans hr0) hn (fun t ht hW => ⟨⟨some (.int x), J, rfl, hQ, by rw [ht]; exact hP'⟩, hS'.F ht⟩) hS'.2.2 hd
    · rcases hv with rfl | ⟨a, rfl⟩
      · exact W.aret (v := .null) hx hb (hr.trans hr0) (Or.inl ⟨n, rfl⟩) (Or.inl rfl) (fun t ht hW => ⟨⟨some .null, J, rfl, hQ, by rw [ht]; exact hP'⟩, hS'.F ht⟩) hS'.2.2 hd
      · exact W.aret (v := .ref (q_ad ω a)) hx hb (hr.trans hr0) (Or.inl ⟨n, rfl⟩) (Or.inr ⟨_, rfl⟩) (fun t ht hW => ⟨⟨some (.ref a), J, rfl, hQ, by rw [ht]; exact hP'⟩, hS'.F ht⟩) hS'.2.2 hd
  · refine ⟨by simp, ⟨fun i v hi hc2 => ?_, fun i hi => ?_⟩, fun i v hi => ?_⟩
    · simp only [List.getElem?_toArray] at hi
      have hm := List.mem_of_getElem? hi
      rcases List.mem_append.mp hm with h | h
      · obtain ⟨w, hw, he⟩ := List.mem_map.mp h
        cases he
        rw [hcat' _ hw] at hc2
        cases hc2
      · cases List.eq_of_mem_replicate h
    · simp only [List.getElem?_toArray] at hi
      have hm := List.mem_of_getElem? hi
      rcases List.mem_append.mp hm with h | h
      · obtain ⟨w, hw, he⟩ := List.mem_map.mp h
        cases he
      · cases List.eq_of_mem_replicate h
    · have hil : i < as.length := by
        rcases Nat.lt_or_ge i as.length with q | q
        · exact q
        · rw [List.getElem?_append_right (by simpa using q)] at hi
          cases List.eq_of_mem_replicate (List.mem_of_getElem? hi)
      rw [List.getElem?_append_left (by simpa using hil), List.getElem?_map] at hi
      cases ha : as[i]? with
      | none => rw [ha] at hi; cases hi
      | some w =>
        rw [ha] at hi
        cases hi
        refine ⟨hcat _ (List.mem_of_getElem? ha), ?_⟩
        simp only [List.getElem?_toArray]
        rw [List.getElem?_append_left (by simpa using hil), List.getElem?_map, List.getElem?_map, ha]
        rfl
theorem c_cell {ω : q_Om} {k : Nat} {I : q_Mem} (hL : q_L ω ≤ 260) (hk : k < 50) : q_MN ω kL_cell 0 0 [.ref 380, .int (nI k)] I (fun w J => (∃ x, w = some (.int x)) ∧ I = J) := by
  refine y_M pnL_cell (by simp [Value.category]) (Nat.le_of_ble_eq_true rfl) ?_
  refine y_iload_n dL_cell_0 rfl ?_
  refine y_aload_n dL_cell_1 rfl ?_
  refine y_slen dL_cell_2 ?_
  refine y_icmp_geN (tgt := 12) (by omega) (by omega) dL_cell_3 (by decide) (fun q => ?_) (fun q => ?_)
  · refine y_sipush (v := nI 7919) dL_cell_12 (by decide) ?_
    refine y_iload_n dL_cell_15 rfl ?_
    refine y_iconst (v := nI 3) dL_cell_16 (by decide) ?_
    refine y_iadd dL_cell_17 ?_
    refine y_imul dL_cell_18 ?_
    refine y_iload_n dL_cell_19 rfl ?_
    refine y_bipush (v := nI 11) dL_cell_20 (by decide) ?_
    refine y_iadd dL_cell_22 ?_
    refine y_imul dL_cell_23 ?_
    exact y_iret rfl rfl dL_cell_24 ⟨⟨_, rfl⟩, rfl⟩
  · refine y_aload_n dL_cell_6 rfl ?_
    refine y_iload_n dL_cell_7 rfl ?_
    refine y_sald rfl q (by omega) dL_cell_8 ?_
    refine y_goto (tgt := 24) dL_cell_9 (by decide) ?_
    exact y_iret rfl rfl dL_cell_24 ⟨⟨_, rfl⟩, rfl⟩
theorem inv0 : Inv 0 σ0 := ⟨sok0, fun p c hp => by have hp : 0 = c + 1 := hp; omega, rfl, fun _ => Nat.zero_le _, Nat.zero_le _, fun c hc => absurd hc (Nat.not_lt_zero _), fun c d z => absurd rfl z, fun _ => ⟨fun c hc => absurd hc (Nat.not_lt_zero _), fun p => rfl⟩, fun z => by have z : 0 = 1 := z; omega⟩
theorem course_ok {σ : q_S} {k l m f n : Nat} (hk : k ≤ 79) (h1 : 1 ≤ l) (h2 : l ≤ m) (h3 : m ≤ 20) (hf : f ≤ 99) (h0 : sG σ 1 = 0) (hn : sN σ 0 = n) (h8 : n < 8) : (opCourse σ (nI k) (nI l) (nI m) (nI f)).1 = nI n ∧ sN (opCourse σ (nI k) (nI l) (nI m) (nI f)).2 0 = n + 1 ∧ sG (opCourse σ (nI k) (nI l) (nI m) (nI f)).2 1 = 0 ∧ sN (opCourse σ (nI k) (nI l) (nI m) (nI f)).2 1 = sN σ 1 := by
  have cok : cokI (nI k) (nI l) (nI m) (nI f) := ⟨⟨(nI_leI (by omega) (by omega)).mpr (by omega), (nI_leI (by omega) (by omega)).mpr (by omega)⟩, ⟨(nI_leI (by omega) (by omega)).mpr (by omega), (nI_leI (by omega) (by omega)).mpr (by omega)⟩, ⟨(nI_leI (by omega) (by omega)).mpr (by omega), (nI_leI (by omega) (by omega)).mpr (by omega)⟩, (nI_leI (by omega) (by omega)).mpr (by omega), (nI_leI (by omega) (by omega)).mpr (by omega)⟩
  unfold opCourse
  rw [if_neg (fun z => z cok), if_neg (by omega), if_neg (by omega)]
  refine ⟨by rw [hn], ?_, h0, rfl⟩
  show f1 (sN σ) 0 (sN σ 0 + 1) 0 = _
  rw [f1_s, hn]
theorem room_ok {σ : q_S} {c n : Nat} (h1 : 1 ≤ c) (h2 : c ≤ 30) (h0 : sG σ 1 = 0) (hn : sN σ 1 = n) (h8 : n < 5) : (opRoom σ (nI c)).1 = nI n ∧ sN (opRoom σ (nI c)).2 0 = sN σ 0 ∧ sG (opRoom σ (nI c)).2 1 = 0 ∧ sN (opRoom σ (nI c)).2 1 = n + 1 := by
  unfold opRoom
  rw [if_neg (fun z => z ⟨(nI_leI (by omega) (by omega)).mpr (by omega), (nI_leI (by omega) (by omega)).mpr (by omega)⟩), if_neg (by omega), if_neg (by omega)]
  refine ⟨by rw [hn], rfl, h0, ?_⟩
  show f1 (sN σ) 1 (sN σ 1 + 1) 1 = _
  rw [f1_s, hn]
/-- what holds between the rounds -/
def LJ (b : Nat) (I : q_Mem) : Prop := ∃ (σ : q_S) (hs : List q_S), RG I σ hs [] ∧ Inv b σ ∧ (∀ υ, υ ∈ hs → sok υ) ∧ 1 ≤ sN σ 0
abbrev LQ : Option Value → q_Mem → Prop := fun w _ => w = some (.int (nI 1))
set_option maxRecDepth 100000 in
theorem law_rounds {ω : q_Om} {n0 : Nat} (hω : ω.1 = fun q => n0 ≤ q) (hL : q_L ω ≤ 260) : ∀ (d e b : Nat) (I : q_Mem) (o4 o5 o6 o7 : Option Value), e + d = 50 → LJ b I → b + 10000 * d < 2 ^ 28 → q_Y ω kL_law d 54 [some (.ref 380), some (.ref 0), some (.int (nI 4)), some (.int (nI e)), o4, o5, o6, o7] [] I LQ := by
  have k0 := k0
  intro d
  induction d with
  | zero =>
    intro e b I o4 o5 o6 o7 he hI hb
    obtain rfl : e = 50 := by omega
    refine y_iload_n dL_law_54 rfl ?_
    refine y_bipush (v := nI 50) dL_law_55 (by decide) ?_
    refine y_icmp_geN (tgt := 202) (by omega) (by omega) dL_law_57 (by decide) (fun q => ?_) (fun q => ?_)
    · refine y_iload_n dL_law_202 rfl ?_
      refine y_iconst (v := nI 4) dL_law_203 (by decide) ?_
      refine y_icmp_ne (tgt := 211) dL_law_204 (by decide) (fun q1 => ?_) (fun q1 => ?_)
      · exact absurd rfl q1
      refine y_iconst (v := nI 1) dL_law_207 (by decide) ?_
      refine y_goto (tgt := 212) dL_law_208 (by decide) ?_
      exact y_iret rfl (bool_ok (Or.inr rfl)).1 dL_law_212 rfl
    · omega
  | succ d ih =>
    intro e b I o4 o5 o6 o7 he hI hb
    obtain ⟨σ, hs, hG, hi, hh, hN⟩ := hI
    have hs1 := hi.ok
    have hg1 := hs1.2.1
    rw [Nat.mul_succ] at hb
    generalize 10000 * d = m at hb ih
    have hb1 : b + 10000 < 2 ^ 28 := by omega
    have hb2 : b + 10000 < 2 ^ 30 := Nat.lt_trans hb1 (by decide)
    have hb3 : b + 10000 < 2 ^ 29 := Nat.lt_trans hb1 (by decide)
    refine y_iload_n dL_law_54 rfl ?_
    refine y_bipush (v := nI 50) dL_law_55 (by decide) ?_
    refine y_icmp_geN (tgt := 202) (by omega) (by omega) dL_law_57 (by decide) (fun q => ?_) (fun q => ?_)
    · omega
    refine y_aload_n dL_law_60 rfl ?_
    refine y_iload_n dL_law_61 rfl ?_
    refine y_cS0 (as := [_, _]) lk_RL_97 (c_cell hL q) rfl (by decide) (Nat.le_of_ble_eq_true rfl) dL_law_62 ?_
    rintro w J ⟨⟨v, rfl⟩, rfl⟩
    refine y_istore (ls' := [_, _, _, _, _, _, _, _]) dL_law_65 (Nat.le_of_ble_eq_true rfl) rfl ?_
    refine y_aload_n dL_law_67 rfl ?_
    refine y_bipush (v := nI 12) dL_law_68 (by decide) ?_
    refine y_cV (as := [_]) lk_RL_18 (a_count hG hs1 (j := 12) (x := nI (sG σ 4)) (by omega) rfl) ⟨5, by decide, by assumption, rfl⟩ rfl (by decide) (Nat.le_of_ble_eq_true rfl) dL_law_70 ?_
    rintro w J ⟨rfl, rfl⟩
    refine y_aload_n dL_law_73 rfl ?_
    refine y_bipush (v := nI 11) dL_law_74 (by decide) ?_
    refine y_cV (as := [_]) lk_RL_18 (a_count hG hs1 (j := 11) (x := nI (ssum (fun p => sP σ p 5) 30)) (by omega) rfl) ⟨5, by decide, by assumption, rfl⟩ rfl (by decide) (Nat.le_of_ble_eq_true rfl) dL_law_76 ?_
    rintro w J ⟨rfl, rfl⟩
    refine y_iadd dL_law_79 ?_
    rw [nI_add]
    refine y_istore (ls' := [_, _, _, _, _, _, _, _]) dL_law_80 (Nat.le_of_ble_eq_true rfl) rfl ?_
    refine y_iload dL_law_82 rfl ?_
    refine y_bipush (v := nI 15) dL_law_84 (by decide) ?_
    refine y_iand dL_law_86 ?_
    refine y_bipush (v := nI 7) dL_law_87 (by decide) ?_
    have rest : ∀ t : Nat, (t = 0 ∨ (t = 1 ∧ v &&& nI 15 = nI 7 ∧ sG σ 1 = 1)) → q_Y ω kL_law (d + 1) 107 [some (.ref 380), some (.ref 0), some (.int (nI 4)), some (.int (nI e)), some (.int v), some (.int (nI (sG σ 4 + ssum (fun p => sP σ p 5) 30))), o6, o7] [.int (nI t)] I LQ := by
      intro t ht
      refine y_istore (ls' := [_, _, _, _, _, _, _, _]) dL_law_107 (Nat.le_of_ble_eq_true rfl) rfl ?_
      refine y_aload_n dL_law_109 rfl ?_
      refine y_iload dL_law_110 rfl ?_
      refine y_cS (as := [_, _]) lk_RL_101 (c_does hG hi hh (by omega) hN) rfl (by decide) (Nat.le_of_ble_eq_true rfl) dL_law_112 ?_
      rintro w J ⟨y, τ, hs', rfl, hy, gG, gi, gh, gN, gT⟩
      have gs := gi.ok
      refine y_istore (ls' := [_, _, _, _, _, _, _, _]) dL_law_115 (Nat.le_of_ble_eq_true rfl) rfl ?_
      refine y_iload dL_law_117 rfl ?_
      refine y_if_lt (tgt := 194) dL_law_119 (by decide) (fun q1 => ?_) (fun q1 => ?_)
      · exact absurd q1 hy
      have s155 : q_Y ω kL_law (d + 1) 155 [some (.ref 380), some (.ref 0), some (.int (nI 4)), some (.int (nI e)), some (.int v), some (.int (nI (sG σ 4 + ssum (fun p => sP σ p 5) 30))), some (.int (nI t)), some (.int y)] [] J LQ := by
        have s183 : ∀ (K : q_Mem) (hs2 : List q_S), RG K τ hs2 [] → (∀ υ, υ ∈ hs2 → sok υ) → q_Y ω kL_law d 183 [some (.ref 380), some (.ref 0), some (.int (nI 4)), some (.int (nI e)), some (.int v), some (.int (nI (sG σ 4 + ssum (fun p => sP σ p 5) 30))), some (.int (nI t)), some (.int y)] [] K LQ := by
          intro K hs2 kG kh
          refine y_aload_n dL_law_183 rfl ?_
          refine y_iload dL_law_184 rfl ?_
          refine y_iconst (v := nI 4) dL_law_186 (by decide) ?_
          refine y_ishr dL_law_187 ?_
          refine y_cS (as := [_, _]) lk_RL_108 (c_ifs kG gi kh hb2 (Nat.le_trans hN gN)) rfl (by decide) (Nat.le_of_ble_eq_true rfl) dL_law_188 ?_
          rintro w L ⟨rfl, hs3, lG, lh⟩
          refine y_if_neN (tgt := 196) (by omega) dL_law_191 (by decide) (fun q5 => ?_) (fun q5 => ?_)
          · refine y_iinc (ls' := [_, _, _, _, _, _, _, _]) dL_law_196 rfl (nI_add _ 1) rfl ?_
            refine y_goto (tgt := 54) dL_law_199 (by decide) ?_
            exact ih (e + 1) (b + 10000) L _ _ _ _ (by omega) ⟨τ, hs3, lG, gi, lh, by omega⟩ (by omega)
          · omega
        refine y_aload_n dL_law_155 rfl ?_
        refine y_cS (as := [_]) lk_RL_80 (c_people gG gi hb2) rfl (by decide) (Nat.le_of_ble_eq_true rfl) dL_law_156 ?_
        rintro w K ⟨rfl, rfl⟩
        refine y_if_eqN (tgt := 194) (by omega) dL_law_159 (by decide) (fun q2 => ?_) (fun q2 => ?_)
        · omega
        refine y_aload_n dL_law_162 rfl ?_
        refine y_cS (as := [_]) lk_RL_84 (c_courses gG gi) rfl (by decide) (Nat.le_of_ble_eq_true rfl) dL_law_163 ?_
        rintro w K ⟨rfl, rfl⟩
        refine y_if_eqN (tgt := 194) (by omega) dL_law_166 (by decide) (fun q3 => ?_) (fun q3 => ?_)
        · omega
        refine y_iload_n dL_law_169 rfl ?_
        refine y_iconst (v := nI 3) dL_law_170 (by decide) ?_
        refine y_irem dL_law_171 (nI_nz (by omega) (by omega)) ?_
        rw [pk_rem (by omega) (by omega) (by omega)]
        refine y_iconst (v := nI 1) dL_law_172 (by decide) ?_
        refine y_icmp_neN (tgt := 183) (by omega) (by omega) dL_law_173 (by decide) (fun q4 => ?_) (fun q4 => ?_)
        · exact y_less (s183 _ _ gG gh)
        refine y_aload_n dL_law_176 rfl ?_
        refine y_cSN (M := 1) (as := [_]) lk_RL_105 (c_isClose hω gG gi gh hb3) rfl (by decide) (Nat.le_of_ble_eq_true rfl) dL_law_177 ?_
        rintro w L ⟨rfl, hs3, lG, lh⟩
        refine y_if_eqN (tgt := 194) (by omega) dL_law_180 (by decide) (fun q5 => ?_) (fun q5 => ?_)
        · omega
        exact s183 _ _ lG lh
      refine y_iload dL_law_122 rfl ?_
      refine y_if_eqN (tgt := 155) (by omega) dL_law_124 (by decide) (fun q2 => ?_) (fun q2 => ?_)
      · exact s155
      obtain ⟨t1, t2, t3⟩ : TR σ τ := by
        rcases ht with h | ⟨-, h2, h3⟩
        · exact absurd h q2
        · exact gT h2 h3
      refine y_aload_n dL_law_127 rfl ?_
      refine y_bipush (v := nI 12) dL_law_128 (by decide) ?_
      refine y_cV (as := [_]) lk_RL_18 (a_count gG gs (j := 12) (x := nI (sG τ 4)) (by omega) rfl) ⟨5, by decide, by assumption, rfl⟩ rfl (by decide) (Nat.le_of_ble_eq_true rfl) dL_law_130 ?_
      rintro w K ⟨rfl, rfl⟩
      rw [t1]
      refine y_iload dL_law_133 rfl ?_
      refine y_icmp_ne (tgt := 194) dL_law_135 (by decide) (fun q3 => ?_) (fun q3 => ?_)
      · exact absurd rfl q3
      refine y_aload_n dL_law_138 rfl ?_
      refine y_bipush (v := nI 11) dL_law_139 (by decide) ?_
      refine y_cV (as := [_]) lk_RL_18 (a_count gG gs (j := 11) (x := nI (ssum (fun p => sP τ p 5) 30)) (by omega) rfl) ⟨5, by decide, by assumption, rfl⟩ rfl (by decide) (Nat.le_of_ble_eq_true rfl) dL_law_141 ?_
      rintro w K ⟨rfl, rfl⟩
      rw [t2]
      refine y_if_neN (tgt := 194) (by omega) dL_law_144 (by decide) (fun q4 => ?_) (fun q4 => ?_)
      · omega
      refine y_aload_n dL_law_147 rfl ?_
      refine y_iconst (v := nI 2) dL_law_148 (by decide) ?_
      refine y_cV (as := [_]) lk_RL_18 (a_count gG gs (j := 2) (x := nI (sN τ 2)) (by omega) rfl) ⟨5, by decide, by assumption, rfl⟩ rfl (by decide) (Nat.le_of_ble_eq_true rfl) dL_law_149 ?_
      rintro w K ⟨rfl, rfl⟩
      rw [t3]
      refine y_if_neN (tgt := 194) (by omega) dL_law_152 (by decide) (fun q5 => ?_) (fun q5 => ?_)
      · omega
      exact s155
    refine y_icmp_ne (tgt := 106) dL_law_89 (by decide) (fun q1 => ?_) (fun q1 => ?_)
    · refine y_iconst (v := nI 0) dL_law_106 (by decide) ?_
      exact rest 0 (Or.inl rfl)
    refine y_aload_n dL_law_92 rfl ?_
    refine y_bipush (v := nI 8) dL_law_93 (by decide) ?_
    refine y_cV (as := [_]) lk_RL_18 (a_count hG hs1 (j := 8) (x := nI (sG σ 1)) (by omega) rfl) ⟨5, by decide, by assumption, rfl⟩ rfl (by decide) (Nat.le_of_ble_eq_true rfl) dL_law_95 ?_
    rintro w J ⟨rfl, rfl⟩
    refine y_iconst (v := nI 1) dL_law_98 (by decide) ?_
    refine y_icmp_neN (tgt := 106) (by omega) (by omega) dL_law_99 (by decide) (fun q2 => ?_) (fun q2 => ?_)
    · refine y_iconst (v := nI 0) dL_law_106 (by decide) ?_
      exact rest 0 (Or.inl rfl)
    · refine y_iconst (v := nI 1) dL_law_102 (by decide) ?_
      refine y_goto (tgt := 107) dL_law_103 (by decide) ?_
      exact rest 1 (Or.inr ⟨rfl, q1, q2⟩)
theorem law_body {ω : q_Om} {n0 : Nat} (hω : ω.1 = fun q => n0 ≤ q) (hL : q_L ω ≤ 260) : q_Y ω kL_law 50 8 [some (.ref 380), some (.ref 0), none, none, none, none, none, none] [] I0 LQ := by
  have k0 := k0
  have z0 : ∀ υ, υ ∈ ([] : List q_S) → sok υ := fun υ h => absurd h List.not_mem_nil
  obtain ⟨a1, a2, a3, a4⟩ := course_ok (σ := σ0) (k := 0) (l := 2) (m := 4) (f := 10) (n := 0) (by omega) (by omega) (by omega) (by omega) (by omega) rfl rfl (by omega)
  have i1 := inv_course inv0 (nI 0) (nI 2) (nI 4) (nI 10)
  refine y_aload_n dL_law_8 rfl ?_
  refine y_iconst (v := nI 0) dL_law_9 (by decide) ?_
  refine y_iconst (v := nI 2) dL_law_10 (by decide) ?_
  refine y_iconst (v := nI 4) dL_law_11 (by decide) ?_
  refine y_bipush (v := nI 10) dL_law_12 (by decide) ?_
  refine y_cV (as := [_, _, _, _]) lk_RL_30 (c_course RG0 sok0) ⟨5, by decide, by assumption, rfl⟩ rfl (by decide) (Nat.le_of_ble_eq_true rfl) dL_law_14 ?_
  rintro v J1 ⟨rfl, g1, -⟩
  have x1 : ∀ υ, υ ∈ hst (opCourse σ0 (nI 0) (nI 2) (nI 4) (nI 10)).1 σ0 [] → sok υ := hst_sok sok0 z0
  rw [a1] at g1 x1 ⊢
  generalize (opCourse σ0 (nI 0) (nI 2) (nI 4) (nI 10)).2 = σ1 at g1 a2 a3 a4 i1
  generalize hst (nI 0) σ0 [] = h1 at g1 x1
  obtain ⟨b1, b2, b3, b4⟩ := course_ok (σ := σ1) (k := 4) (l := 1) (m := 3) (f := 7) (n := 1) (by omega) (by omega) (by omega) (by omega) (by omega) a3 a2 (by omega)
  have i2 := inv_course i1 (nI 4) (nI 1) (nI 3) (nI 7)
  refine y_aload_n dL_law_17 rfl ?_
  refine y_iconst (v := nI 4) dL_law_18 (by decide) ?_
  refine y_iconst (v := nI 1) dL_law_19 (by decide) ?_
  refine y_iconst (v := nI 3) dL_law_20 (by decide) ?_
  refine y_bipush (v := nI 7) dL_law_21 (by decide) ?_
  refine y_cV (as := [_, _, _, _]) lk_RL_30 (c_course g1 i1.ok) ⟨5, by decide, by assumption, rfl⟩ rfl (by decide) (Nat.le_of_ble_eq_true rfl) dL_law_23 ?_
  rintro v J2 ⟨rfl, g2, -⟩
  have x2 : ∀ υ, υ ∈ hst (opCourse σ1 (nI 4) (nI 1) (nI 3) (nI 7)).1 σ1 h1 → sok υ := hst_sok i1.ok x1
  rw [b1] at g2 x2 ⊢
  generalize (opCourse σ1 (nI 4) (nI 1) (nI 3) (nI 7)).2 = σ2 at g2 b2 b3 b4 i2
  generalize hst (nI 1) σ1 h1 = h2 at g2 x2
  obtain ⟨c1, c2, c3, c4⟩ := course_ok (σ := σ2) (k := 17) (l := 2) (m := 5) (f := 20) (n := 2) (by omega) (by omega) (by omega) (by omega) (by omega) b3 b2 (by omega)
  have i3 := inv_course i2 (nI 17) (nI 2) (nI 5) (nI 20)
  refine y_iadd dL_law_26 ?_
  rw [nI_add]
  refine y_aload_n dL_law_27 rfl ?_
  refine y_bipush (v := nI 17) dL_law_28 (by decide) ?_
  refine y_iconst (v := nI 2) dL_law_30 (by decide) ?_
  refine y_iconst (v := nI 5) dL_law_31 (by decide) ?_
  refine y_bipush (v := nI 20) dL_law_32 (by decide) ?_
  refine y_cV (as := [_, _, _, _]) lk_RL_30 (c_course g2 i2.ok) ⟨5, by decide, by assumption, rfl⟩ rfl (by decide) (Nat.le_of_ble_eq_true rfl) dL_law_34 ?_
  rintro v J3 ⟨rfl, g3, -⟩
  have x3 : ∀ υ, υ ∈ hst (opCourse σ2 (nI 17) (nI 2) (nI 5) (nI 20)).1 σ2 h2 → sok υ := hst_sok i2.ok x2
  rw [c1] at g3 x3 ⊢
  generalize (opCourse σ2 (nI 17) (nI 2) (nI 5) (nI 20)).2 = σ3 at g3 c2 c3 c4 i3
  generalize hst (nI 2) σ2 h2 = h3 at g3 x3
  have n3 : sN σ3 1 = 0 := by rw [c4, b4, a4]; rfl
  obtain ⟨d1, d2, d3, d4⟩ := room_ok (σ := σ3) (c := 4) (n := 0) (by omega) (by omega) c3 n3 (by omega)
  have i4 := inv_room i3 (nI 4)
  refine y_iadd dL_law_37 ?_
  rw [nI_add]
  refine y_aload_n dL_law_38 rfl ?_
  refine y_iconst (v := nI 4) dL_law_39 (by decide) ?_
  refine y_cV (as := [_]) lk_RL_36 (c_room g3 i3.ok) ⟨5, by decide, by assumption, rfl⟩ rfl (by decide) (Nat.le_of_ble_eq_true rfl) dL_law_40 ?_
  rintro v J4 ⟨rfl, g4, -⟩
  have x4 : ∀ υ, υ ∈ hst (opRoom σ3 (nI 4)).1 σ3 h3 → sok υ := hst_sok i3.ok x3
  rw [d1] at g4 x4 ⊢
  generalize (opRoom σ3 (nI 4)).2 = σ4 at g4 d2 d3 d4 i4
  generalize hst (nI 0) σ3 h3 = h4 at g4 x4
  obtain ⟨e1, e2, e3, e4⟩ := room_ok (σ := σ4) (c := 6) (n := 1) (by omega) (by omega) d3 d4 (by omega)
  have i5 := inv_room i4 (nI 6)
  refine y_iadd dL_law_43 ?_
  rw [nI_add]
  refine y_aload_n dL_law_44 rfl ?_
  refine y_bipush (v := nI 6) dL_law_45 (by decide) ?_
  refine y_cV (as := [_]) lk_RL_36 (c_room g4 i4.ok) ⟨5, by decide, by assumption, rfl⟩ rfl (by decide) (Nat.le_of_ble_eq_true rfl) dL_law_47 ?_
  rintro v J5 ⟨rfl, g5, -⟩
  have x5 : ∀ υ, υ ∈ hst (opRoom σ4 (nI 6)).1 σ4 h4 → sok υ := hst_sok i4.ok x4
  rw [e1] at g5 x5 ⊢
  generalize (opRoom σ4 (nI 6)).2 = σ5 at g5 e2 e3 e4 i5
  generalize hst (nI 1) σ4 h4 = h5 at g5 x5
  refine y_iadd dL_law_50 ?_
  rw [nI_add]
  refine y_istore_n (ls' := [_, _, _, _, _, _, _, _]) dL_law_51 (Nat.le_of_ble_eq_true rfl) rfl ?_
  refine y_iconst (v := nI 0) dL_law_52 (by decide) ?_
  refine y_istore_n (ls' := [_, _, _, _, _, _, _, _]) dL_law_53 (Nat.le_of_ble_eq_true rfl) rfl ?_
  exact law_rounds hω hL 50 0 50000 J5 _ _ _ _ (by omega) ⟨σ5, h5, g5, i5, x5, by omega⟩ (by omega)
