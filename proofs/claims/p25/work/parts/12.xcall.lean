/-! THE X LAYER: calls, a contract out of a body -/
/-- the receiver's class -/
def q_rc (C : String) (b : Nat) : Prop := ∃ c, c < 6 ∧ q_kd b = c ∧ q_C c = C
/-- the callee's room within the caller's -/
abbrev q_fit (kc k : q_MI) : Prop := kc.2.2.2.2.1 + 1 ≤ k.2.2.2.2.1 ∧ 8 + (kc.2.2.1 + 11) + kc.2.2.2.2.2 ≤ k.2.2.2.2.2
theorem q_ar {y : MethodName} {n : Nat} (h : (parseMethodDescriptor y.desc).map (fun d => d.parameters.length) = some n) : ∀ sig, parseMethodDescriptor y.desc = some sig → n = sig.parameters.length := by
  intro sig hs
  rw [hs] at h
  exact (Option.some.inj h).symm
theorem q_gws {kc : q_MI} (h : q_wd (.code kc.1 kc.2.1 kc.2.2.1 kc.2.2.2.1)) : GoodIn q_gw (q_ws kc) := by
  intro w hw
  rcases List.mem_cons.mp hw with rfl | hw
  · exact ⟨q_in h.1 h.2, good_of_word h.2⟩
  · exact q_good2 w hw
section q_calls
variable {p : Program} {l : Launch} {e : Env} {R : Room} {s : State} {m : MethodId} {args : Array Value} {below : List Frame} {meth : Method} {c : Code} {H : Heap} {locs : List Loc} {cells slots : Nat} {QZ : State → Prop} {ω : q_Om}
theorem q_recv {C : String} {b : Nat} {I : q_Mem} (h : q_rc C b) (hK : va_K (q_D ω) vwCl (q_tys ω) s) (hP : va_P (q_D ω) vwCl (q_P ω I) H) (hO : q_Od ω s s.heap) (hS : va_S (q_A ω) s.heap H locs) : ∃ cell : Cell, H[q_ad ω b]? = some cell ∧ cell.vm.isStatics = false ∧ s.vm.findClass C = some cell.cls := by
  obtain ⟨c, h7, hk, rfl⟩ := h
  exact va_recv hK hP (q_vc c h7) (q0 := b) ((q_P_get (q_kd_lt hk (by omega))).trans (by rw [q_cell_obj hk h7]))
theorem q_blind {as : List Value} {I : q_Mem} : FrameBlind (q_Pc ω as I) := by
  intro a U g mk h
  obtain ⟨h1, h2, h3, h4, h5⟩ := h
  exact ⟨h1, h2, va_K.moved (u := U) (U := U.calling g mk a) (Vm.Alike.refl U.vm) h3, h4, q_Od.moved (u := U) (U := U.calling g mk a) (Vm.Alike.refl U.vm) (q_Nt.same (s := U) rfl h5.2) h5⟩
theorem q_goOn {pc : Nat} {LS : Array Slot} {st0 rest : List Value} {a : Array Value} {Qc : Option Value → q_Mem → Prop} (hr : va_Run p l e R s m args below meth c H locs cells slots 0 0 (F0 m pc LS st0) rest (q_Qc ω Qc a) (q_A ω)) (hS : va_S (q_A ω) s.heap H locs)
    (kk : ∀ (v : Option Value) (J : q_Mem) (H1 : Heap) (locs1 : List Loc), Qc v J → va_P (q_D ω) vwCl (q_P ω J) H1 → va_S (q_A ω) s.heap H1 locs1 → W p l e R s m args below meth c H1 locs1 cells slots QZ (F0 m (pc + 3) LS (v.toList.map (q_cv ω) ++ rest))) : W p l e R s m args below meth c H locs cells slots QZ (F0 m pc LS st0) := by
  intro T hT X
  obtain ⟨v, st₀, t, T', L, h0, X', hL, e1, e2, ⟨⟨v', J, hv, hp, hb⟩, hz, hk⟩, st⟩ := hr T hT X
  cases hv
  rw [h0] at hz hk
  obtain ⟨t2, a1, b1⟩ := kk v' J T'.heap (locs ++ L) hp (by rw [e1]; exact hb) ⟨Nat.le_trans hS.1 (by rw [e1]; exact hz), fun q h1 h2 => by rw [e1, hk q (Nat.lt_of_lt_of_le h1 hS.1) h2]; exact hS.2.1 q h1 h2, fun q hq => by
      rcases List.mem_append.mp hq with h | h
      · exact hS.2.2 q h
      · exact hL q h⟩ T' rfl X'
  have e9 : (v'.map (q_cv ω)).toList = v'.toList.map (q_cv ω) := by cases v' <;> rfl
  rw [← e9] at a1
  exact ⟨t2, st t2 a1, b1⟩
theorem q_pre {as : List Value} {I : q_Mem} (hK : va_K (q_D ω) vwCl (q_tys ω) s) (hP : va_P (q_D ω) vwCl (q_P ω I) H) (hD : va_D (q_A ω) (q_P ω (fun _ _ => 0))) (hO : q_Od ω s s.heap) (hS : va_S (q_A ω) s.heap H locs) : ∀ U : State, U.heap = H → s.WarmedH U.vm → q_Pc ω as I (as.map (q_cv ω)).toArray U := by
  intro U hU hW
  exact ⟨rfl, by rw [hU]; exact hP, va_K.moved hW.alike hK, q_vD hD, by rw [hU]; exact q_Od.moved hW.alike (q_Nt.warm hW hO.2) (hO.kept hS.1 hS.2.1)⟩
end q_calls
section q_rules4
variable {k : q_MI} {pc : Nat} {ls : List (Option Value)} {st : List Value} {I : q_Mem} {Q : Option Value → q_Mem → Prop}
theorem q_cV {kc : q_MI} {as : List Value} {b idx n : Nat} {Qc : Option Value → q_Mem → Prop} (hl : q_lkV k.1.cls idx kc n) (hm : q_M kc (.ref b :: as) I Qc) (hrc : q_rc kc.1.cls b) (hn : as.length = n) (hf : q_fit kc k) (hst : (st.map fun v => v.category).sum ≤ 8) (hd : decode k.2.1 pc = .ok (.invokevirtual idx, 3)) (kk : ∀ v J, Qc v J → q_X k (pc + 3) ls (v.toList ++ st) J Q) : q_X k pc ls (as.reverse ++ .ref b :: st) I Q := by
  intro ω p l e R s m args below meth c cells slots QZ hC hR H locs LS hL hP hS
  obtain ⟨hx, hb, hml, hown, hts, hK, hD, hO, hfr, hlo, hce, hsl⟩ := id hC
  obtain ⟨⟨h1, h2, h3, h4, h5⟩, h6, h7⟩ := hl
  have bf : ∀ {w : Cond}, q_wd w → w.before args s = true := fun h => hts _ (q_in h.1 h.2)
  have hst' : ((st.map (q_cv ω)).map fun v => v.category).sum ≤ 8 := by
    rw [List.map_map]
    have : ((fun v : Value => v.category) ∘ q_cv ω) = fun v => v.category := funext fun v => q_cv_cat ω v
    rw [this]; exact hst
  rw [List.map_append, List.map_reverse, List.map_cons]
  refine q_goOn (Qc := Qc) (rest := st.map (q_cv ω)) (va_runV (As := as.map (q_cv ω)) (b := q_ad ω b) (rest := st.map (q_cv ω)) ⟨hx, hb, hml, hown, hts⟩ (hm ω l)
    ⟨⟨rfl, rfl, Nat.le_trans hf.1 hfr, Nat.le_trans hf.2 hlo, pay_in hts (q_gws h3), List.mem_cons_self, bf h3, bf h2, h4, q_ar h5, bf h1⟩, bf h6, bf h7⟩
    ⟨q_blind, q_recv hrc hK hP hO hS, fun U hU hW => q_pre hK hP hD hO hS U hU hW⟩ rfl (by simpa using hn) hL.1 rfl (lv_room hst') hd ⟨hce, hsl⟩) hS (fun v J H1 locs1 hq hP1 hS1 => ?_)
  have := kk v J hq ω p l e R s m args below meth c cells slots QZ hC hR H1 locs1 LS hL hP1 hS1
  rw [List.map_append] at this
  exact this
theorem q_cS {kc : q_MI} {as : List Value} {idx n : Nat} {Qc : Option Value → q_Mem → Prop} (hl : q_lkS k.1.cls idx kc n) (hm : q_M kc as I Qc) (hn : as.length = n) (hf : q_fit kc k) (hst : (st.map fun v => v.category).sum ≤ 8) (hd : decode k.2.1 pc = .ok (.invokestatic idx, 3)) (kk : ∀ v J, Qc v J → q_X k (pc + 3) ls (v.toList ++ st) J Q) : q_X k pc ls (as.reverse ++ st) I Q := by
  intro ω p l e R s m args below meth c cells slots QZ hC hR H locs LS hL hP hS
  obtain ⟨hx, hb, hml, hown, hts, hK, hD, hO, hfr, hlo, hce, hsl⟩ := id hC
  obtain ⟨⟨h1, h2, h3, h4, h5⟩, h6⟩ := hl
  have bf : ∀ {w : Cond}, q_wd w → w.before args s = true := fun h => hts _ (q_in h.1 h.2)
  have hst' : ((st.map (q_cv ω)).map fun v => v.category).sum ≤ 8 := by
    rw [List.map_map]
    have : ((fun v : Value => v.category) ∘ q_cv ω) = fun v => v.category := funext fun v => q_cv_cat ω v
    rw [this]; exact hst
  rw [List.map_append, List.map_reverse]
  refine q_goOn (Qc := Qc) (rest := st.map (q_cv ω)) (va_runS (As := as.map (q_cv ω)) (rest := st.map (q_cv ω)) ⟨hx, hb, hml, hown, hts⟩ (hm ω l)
    ⟨⟨rfl, rfl, Nat.le_trans hf.1 hfr, Nat.le_trans hf.2 hlo, pay_in hts (q_gws h3), List.mem_cons_self, bf h3, bf h2, h4, q_ar h5, bf h1⟩, bf h6⟩
    ⟨q_blind, fun U hU hW => q_pre hK hP hD hO hS U hU hW⟩ rfl (by simpa using hn) hL.1 rfl (lv_room hst') hd ⟨hce, hsl⟩) hS (fun v J H1 locs1 hq hP1 hS1 => ?_)
  have := kk v J hq ω p l e R s m args below meth c cells slots QZ hC hR H1 locs1 LS hL hP1 hS1
  rw [List.map_append] at this
  exact this
theorem q_cN {kc : q_MI} {as : List Value} {idx n : Nat} {host : String} {Qc : Option Value → q_Mem → Prop} (hl : q_lkN kc n) (hnt : ∀ U, q_Nt U → va_Nw (.methodLinkNest k.1.cls idx kc.1 host) U) (hm : q_M kc as I Qc) (hn : as.length = n) (hf : q_fit kc k) (hst : (st.map fun v => v.category).sum ≤ 8) (hd : decode k.2.1 pc = .ok (.invokestatic idx, 3)) (kk : ∀ v J, Qc v J → q_X k (pc + 3) ls (v.toList ++ st) J Q) : q_X k pc ls (as.reverse ++ st) I Q := by
  intro ω p l e R s m args below meth c cells slots QZ hC hR H locs LS hL hP hS
  obtain ⟨hx, hb, hml, hown, hts, hK, hD, hO, hfr, hlo, hce, hsl⟩ := id hC
  obtain ⟨h2, h3, h4, h5, h6⟩ := hl
  have bf : ∀ {w : Cond}, q_wd w → w.before args s = true := fun h => hts _ (q_in h.1 h.2)
  have hst' : ((st.map (q_cv ω)).map fun v => v.category).sum ≤ 8 := by
    rw [List.map_map]
    have : ((fun v : Value => v.category) ∘ q_cv ω) = fun v => v.category := funext fun v => q_cv_cat ω v
    rw [this]; exact hst
  rw [List.map_append, List.map_reverse]
  refine q_goOn (Qc := Qc) (rest := st.map (q_cv ω)) (va_runSN (As := as.map (q_cv ω)) (rest := st.map (q_cv ω)) (host := host) ⟨hx, hb, hml, hown, hts⟩ (hm ω l)
    ⟨⟨⟨rfl, rfl, Nat.le_trans hf.1 hfr, Nat.le_trans hf.2 hlo, pay_in hts (q_gws h3), List.mem_cons_self⟩, bf h3, bf h2, h4, q_ar h5, va_Nw.use rfl (hnt s hO.2)⟩, bf h6, trivial⟩
    ⟨q_blind, fun U hU hW => q_pre hK hP hD hO hS U hU hW⟩ rfl (by simpa using hn) hL.1 rfl (lv_room hst') hd ⟨hce, hsl⟩) hS (fun v J H1 locs1 hq hP1 hS1 => ?_)
  have := kk v J hq ω p l e R s m args below meth c cells slots QZ hC hR H1 locs1 LS hL hP1 hS1
  rw [List.map_append] at this
  exact this
end q_rules4
theorem q_M.of {k : q_MI} {as : List Value} {I : q_Mem} {Q : Option Value → q_Mem → Prop} (hy : plainName k.1.cls = true) (hcat : ∀ v ∈ as, v.category = 1) (hlen : as.length ≤ k.2.2.1) (hX : q_X k 0 (as.map some ++ List.replicate (k.2.2.1 - as.length) none) [] I Q) : q_M k as I Q := by
  intro ω l
  refine Met.ofW (cc := k.2.1) (maxL := k.2.2.1) (ret := k.2.2.2.1) hy rfl ?_
  intro p e s m args below meth c s₁ B hml hv
  obtain ⟨rfl, hP, hK, hD, hO⟩ := hv
  have hx := B.exec
  have hb := B.bytes
  have hr := B.returns
  have hts := atoms_spec (ws := q_ws k) B.pre
  have hown : s.vm.findClass k.1.cls = some m.cls := findClass_of_methodNamed B.named
  have hcat' : ∀ v ∈ as.map (q_cv ω), v.category = 1 := by
    intro v hv
    obtain ⟨w, hw, rfl⟩ := List.mem_map.mp hv
    rw [q_cv_cat]; exact hcat w hw
  rw [entry_eq m (as.map (q_cv ω)) hcat' k.2.2.1]
  refine hX ω p l e _ s m _ below meth c 0 0 _ ⟨hx, hb, ?_, hown, fun w hw => hts w (List.mem_cons_of_mem _ hw), hK, q_vD hD, hO, Nat.le_refl _, Nat.le_refl _, Nat.le_refl _, Nat.le_refl _⟩ ?_ s.heap [] _ ?_ hP va_S.rf
  · rw [hml]
    simp only [List.length_append, List.length_map, List.length_replicate]
    omega
  · intro pc' LS' H' locs' v J hRt hQ hP' hS'
    rcases hRt with ⟨rfl, hr0, hd⟩ | ⟨x, ty, rfl, hr0, hn, hd⟩ | ⟨n, hr0, hv, hd⟩
    · exact W.vret hx hb (hr.trans hr0) (fun t ht hW => ⟨⟨none, J, rfl, hQ, by rw [ht]; exact hP'⟩, hS'.F ht⟩) hS'.2.2 hd
    · exact W.zret hx hb (hr.trans hr0) hn (fun t ht hW => ⟨⟨some (.int x), J, rfl, hQ, by rw [ht]; exact hP'⟩, hS'.F ht⟩) hS'.2.2 hd
    · rcases hv with rfl | ⟨a, rfl⟩
      · exact W.aret (v := .null) hx hb (hr.trans hr0) (Or.inl ⟨n, rfl⟩) (Or.inl rfl) (fun t ht hW => ⟨⟨some .null, J, rfl, hQ, by rw [ht]; exact hP'⟩, hS'.F ht⟩) hS'.2.2 hd
      · exact W.aret (v := .ref (q_ad ω a)) hx hb (hr.trans hr0) (Or.inl ⟨n, rfl⟩) (Or.inr ⟨_, rfl⟩) (fun t ht hW => ⟨⟨some (.ref a), J, rfl, hQ, by rw [ht]; exact hP'⟩, hS'.F ht⟩) hS'.2.2 hd
  · refine ⟨by simp, ⟨fun i v hi hc2 => ?_, fun i hi => ?_⟩, fun i v hi => ?_⟩
    · simp only [List.getElem?_toArray] at hi
      have hm := List.mem_of_getElem? hi
      rcases List.mem_append.mp hm with h | h
      · obtain ⟨w, hw, he⟩ := List.mem_map.mp h
        cases he
        rw [hcat' _ hw] at hc2
        cases hc2
      · cases List.eq_of_mem_replicate h
    · simp only [List.getElem?_toArray] at hi
      have hm := List.mem_of_getElem? hi
      rcases List.mem_append.mp hm with h | h
      · obtain ⟨w, hw, he⟩ := List.mem_map.mp h
        cases he
      · cases List.eq_of_mem_replicate h
    · have hil : i < as.length := by
        rcases Nat.lt_or_ge i as.length with q | q
        · exact q
        · rw [List.getElem?_append_right (by simpa using q)] at hi
          cases List.eq_of_mem_replicate (List.mem_of_getElem? hi)
      rw [List.getElem?_append_left (by simpa using hil), List.getElem?_map] at hi
      cases ha : as[i]? with
      | none => rw [ha] at hi; cases hi
      | some w =>
        rw [ha] at hi
        cases hi
        refine ⟨hcat _ (List.mem_of_getElem? ha), ?_⟩
        simp only [List.getElem?_toArray]
        rw [List.getElem?_append_left (by simpa using hil), List.getElem?_map, List.getElem?_map, ha]
        rfl
theorem q_M.mono {k : q_MI} {as : List Value} {I : q_Mem} {Q Q' : Option Value → q_Mem → Prop} (h : q_M k as I Q) (hq : ∀ v J, Q v J → Q' v J) : q_M k as I Q' := by
  intro ω l
  have h1 := h ω l
  intro p e ha hc hk s m args below hf hpre hP hK
  obtain ⟨n, o, g1, g2, g3, ⟨⟨v, J, e1, e2, e3⟩, e4⟩, e5⟩ := h1 p e ha hc hk s m args below hf hpre hP hK
  exact ⟨n, o, g1, g2, g3, ⟨⟨v, J, e1, hq v J e2, e3⟩, e4⟩, e5⟩
