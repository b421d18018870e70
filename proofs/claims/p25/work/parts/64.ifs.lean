/-! THE LAW's third check: joining and leaving bring what is told -/
theorem hst_ok {k : Nat} {σ : q_S} {hs : List q_S} (hk : k < 2 ^ 31) : hst (nI k) σ hs = (σ :: hs).take 4 := if_neg (nn hk)
def IQ (σ : q_S) (w : Option Value) (J : q_Mem) : Prop := w = some (.int (nI 1)) ∧ ∃ hs, RG J σ hs [] ∧ ∀ υ, υ ∈ hs → sok υ
set_option maxRecDepth 4000 in
theorem c_ifs {b : Nat} {v : Int32} {I : q_Mem} {σ : q_S} {hs : List q_S} (hG : RG I σ hs []) (hi : Inv b σ) (hh : ∀ υ, υ ∈ hs → sok υ) (hb : b < 2 ^ 30) (hN : 1 ≤ sN σ 0) : q_M kL_areIfsSo [.ref 0, .int v] I (IQ σ) := by
  have k0 := k0
  have hs1 := hi.ok
  have hw := hi.wf
  have hg1 := hs1.2.1
  obtain ⟨b0, b1, b2, -⟩ := hw.B
  refine q_M.of pnL_areIfsSo (by simp [Value.category]) (Nat.le_of_ble_eq_true rfl) ?_
  refine q_aload_n dL_areIfsSo_0 rfl ?_
  refine q_iconst (v := nI 0) dL_areIfsSo_1 (by decide) ?_
  refine q_cV (as := [_]) lk_RL_18 (a_count hG hs1 (j := 0) (x := nI (sN σ 0)) (by omega) rfl) ⟨5, by decide, by assumption, rfl⟩ rfl (by decide) (Nat.le_of_ble_eq_true rfl) dL_areIfsSo_2 ?_
  rintro w J ⟨rfl, rfl⟩
  refine q_istore_n (ls' := [_, _, _, _, _, _, _, _, _, _, _]) dL_areIfsSo_5 (Nat.le_of_ble_eq_true rfl) rfl ?_
  refine q_iload_n dL_areIfsSo_6 rfl ?_
  refine q_if_neN (tgt := 12) (by omega) dL_areIfsSo_7 (by decide) (fun q => ?_) (fun q => ?_)
  case refine_2 => omega
  refine q_iload_n dL_areIfsSo_12 rfl ?_
  refine q_iload_n dL_areIfsSo_13 rfl ?_
  refine q_cS (as := [_, _]) lk_RL_12 (c_low (by omega) (by omega)) rfl (by decide) (Nat.le_of_ble_eq_true rfl) dL_areIfsSo_14 ?_
  rintro w J ⟨⟨c, hc, rfl⟩, rfl⟩
  have s117 : ∀ (be o6 : Option Value), q_X kL_areIfsSo 117 [some (.ref 0), some (.int v), some (.int (nI (sN σ 0))), some (.int (nI c)), be, some (.int (nI 1)), o6, none, none, none, none] [] I (IQ σ) := by
    intro be o6
    have bad : ∀ (x : Int32) (J : q_Mem), x < 0 → RG J σ hs [] → q_X kL_areIfsSo 140 [some (.ref 0), some (.int v), some (.int (nI (sN σ 0))), some (.int (nI c)), be, some (.int (nI 1)), some (.int x), some (.int (nI (sN σ 2))), some (.int x), none, none] [] J (IQ σ) := by
      intro x J hx hJ
      refine q_iload dL_areIfsSo_140 rfl ?_
      refine q_if_ge (tgt := 163) dL_areIfsSo_142 (by decide) (fun z => ?_) (fun z => ?_)
      · exact absurd hx (Int32.not_lt.mpr z)
      refine q_iload dL_areIfsSo_145 rfl ?_
      refine q_if_eqN (tgt := 161) (by omega) dL_areIfsSo_147 (by decide) (fun z1 => ?_) (fun z1 => ?_)
      · omega
      refine q_iload dL_areIfsSo_150 rfl ?_
      refine q_iload dL_areIfsSo_152 rfl ?_
      refine q_icmp_ne (tgt := 161) dL_areIfsSo_154 (by decide) (fun z1 => ?_) (fun z1 => ?_)
      · exact absurd rfl z1
      refine q_iconst (v := nI 1) dL_areIfsSo_157 (by decide) ?_
      refine q_goto (tgt := 162) dL_areIfsSo_158 (by decide) ?_
      exact q_iret rfl (bool_ok (Or.inr rfl)).1 dL_areIfsSo_162 ⟨rfl, hs, hJ, hh⟩
    refine q_aload_n dL_areIfsSo_117 rfl ?_
    refine q_iload_n dL_areIfsSo_118 rfl ?_
    refine q_cV (as := [_]) lk_RL_93 (c_ifJoin (c := nI c) hG.1 hw hg1) ⟨5, by decide, by assumption, rfl⟩ rfl (by decide) (Nat.le_of_ble_eq_true rfl) dL_areIfsSo_119 ?_
    rintro w J ⟨rfl, rfl⟩
    refine q_istore (ls' := [_, _, _, _, _, _, _, _, _, _, _]) dL_areIfsSo_122 (Nat.le_of_ble_eq_true rfl) rfl ?_
    refine q_aload_n dL_areIfsSo_124 rfl ?_
    refine q_iconst (v := nI 2) dL_areIfsSo_125 (by decide) ?_
    refine q_cV (as := [_]) lk_RL_18 (a_count hG hs1 (j := 2) (x := nI (sN σ 2)) (by omega) rfl) ⟨5, by decide, by assumption, rfl⟩ rfl (by decide) (Nat.le_of_ble_eq_true rfl) dL_areIfsSo_126 ?_
    rintro w J ⟨rfl, rfl⟩
    refine q_istore (ls' := [_, _, _, _, _, _, _, _, _, _, _]) dL_areIfsSo_129 (Nat.le_of_ble_eq_true rfl) rfl ?_
    refine q_aload_n dL_areIfsSo_131 rfl ?_
    refine q_iload_n dL_areIfsSo_132 rfl ?_
    refine q_iconst (v := -1) dL_areIfsSo_133 (by decide) ?_
    refine q_iconst (v := -1) dL_areIfsSo_134 (by decide) ?_
    refine q_cV (as := [_, _, _]) lk_RL_52 (c_join (x := nI c) (y := -1) (z := -1) hG hs1) ⟨5, by decide, by assumption, rfl⟩ rfl (by decide) (Nat.le_of_ble_eq_true rfl) dL_areIfsSo_135 ?_
    have hcc : isC (sN σ 0) (nI c) := isC_nI (by omega) hc
    have hwk : wokI (sN σ 0) (nI c) (-1) (-1) := ⟨hcc, Or.inl ⟨rfl, rfl⟩⟩
    rintro w J ⟨rfl, g1, g2⟩
    have eq1 : qIfJoin σ (nI c) = (if sG σ 1 = 1 then -1000002 else if sN σ 2 = 30 then -1000003 else if sC σ c 6 = 1 ∧ sLen σ c < sC σ c 4 then 0 else 4) := by
      rw [qIfJoin, if_pos hcc, nI_clamp (by omega)]
    have eq2 : opJoin σ (nI c) (-1) (-1) = (if sG σ 1 = 1 then (-1000002, σ) else if sN σ 2 = 30 then (-1000003, σ) else (nI (sN σ 2), sset 1000 (sAddP σ (c + 1) 0 0))) := by
      unfold opJoin
      rw [if_neg (fun z => z hwk), dcd_nI (by omega), show dcd (-1) = 0 from rfl]
    rw [eq1]
    rw [eq2] at g1 ⊢
    by_cases e1 : sG σ 1 = 1
    · rw [if_pos e1] at g1 ⊢
      rw [if_pos e1]
      refine q_istore (ls' := [_, _, _, _, _, _, _, _, _, _, _]) dL_areIfsSo_138 (Nat.le_of_ble_eq_true rfl) rfl ?_
      exact bad _ _ (by decide) g1
    rw [if_neg e1] at g1 ⊢
    rw [if_neg e1]
    by_cases e2 : sN σ 2 = 30
    · rw [if_pos e2] at g1 ⊢
      rw [if_pos e2]
      refine q_istore (ls' := [_, _, _, _, _, _, _, _, _, _, _]) dL_areIfsSo_138 (Nat.le_of_ble_eq_true rfl) rfl ?_
      exact bad _ _ (by decide) g1
    rw [if_neg e2] at g1 ⊢
    rw [if_neg e2]
    have hit := inv_join hi (nI c) (-1) (-1)
    rw [eq2, if_neg e1, if_neg e2] at hit
    obtain ⟨j1, j2, j3, j4, j5, j6, j7⟩ := join_fact hi (by omega) (by omega) hc
    have g1 : RG J (sset 1000 (sAddP σ (c + 1) 0 0)) (hst (nI (sN σ 2)) σ hs) [] := g1
    have hit : Inv (b + 10000) (sset 1000 (sAddP σ (c + 1) 0 0)) := hit
    generalize sset 1000 (sAddP σ (c + 1) 0 0) = τ at g1 hit j1 j2 j3 j4 j5 j6 j7
    rw [hst_ok (by omega)] at g1
    have htw := hit.wf
    have hts := hit.ok
    obtain ⟨t0, t1, t2, -⟩ := htw.B
    have hp : sN σ 2 < sN τ 2 := by omega
    have hx1 : ∀ υ, υ ∈ (σ :: hs).take 4 → sok υ := fun υ h => by
      rcases List.mem_cons.mp (List.mem_of_mem_take h) with rfl | h
      · exact hs1
      · exact hh υ h
    have h5 := (htw.pr (sN σ 2)).2.2.2.2.2.1
    have hfee := (hw.cr (c := c) (by omega)).2.2.2.2.2.1
    have h4 := (htw.pr (sN σ 2)).2.2.2.2.1
    obtain ⟨rk, hrk, hrank, hr4⟩ : ∃ rk, (if sC σ c 6 = 1 ∧ sLen σ c < sC σ c 4 then (0 : Int32) else 4) = nI rk ∧ srank τ (sN σ 2) = rk ∧ rk < 5 ∧ ((rk = 0 ∧ sP τ (sN σ 2) 5 = sC σ c 5 ∧ sP τ (sN σ 2) 4 = c + 1) ∨ (rk = 4 ∧ sP τ (sN σ 2) 4 = 0)) := by
      by_cases e : sC σ c 6 = 1 ∧ sLen σ c < sC σ c 4
      · obtain ⟨a1, a2, a3⟩ := j6 e
        exact ⟨0, by rw [if_pos e]; rfl, a1, by omega, Or.inl ⟨rfl, a2, a3⟩⟩
      · obtain ⟨a1, a2⟩ := j7 e
        exact ⟨4, by rw [if_neg e]; rfl, a1, by omega, Or.inr ⟨rfl, a2⟩⟩
    rw [hrk]
    -- behind the comparison of what is told
    have s232 : q_X kL_areIfsSo 232 [some (.ref 0), some (.int v), some (.int (nI (sN σ 0))), some (.int (nI c)), be, some (.int (nI 1)), some (.int (nI rk)), some (.int (nI (sN σ 2))), some (.int (nI (sN σ 2))), none, none] [] J (IQ σ) := by
      refine q_iconst (v := nI 1) dL_areIfsSo_232 (by decide) ?_
      refine q_goto (tgt := 237) dL_areIfsSo_233 (by decide) ?_
      refine q_istore (ls' := [_, _, _, _, _, _, _, _, _, _, _]) dL_areIfsSo_237 (Nat.le_of_ble_eq_true rfl) rfl ?_
      refine q_aload_n dL_areIfsSo_239 rfl ?_
      refine q_iload dL_areIfsSo_240 rfl ?_
      refine q_iconst (v := nI 3) dL_areIfsSo_242 (by decide) ?_
      refine q_cV (as := [_, _]) lk_RL_55 (a_person g1 hts hp (j := 3) (x := nI (sP τ (sN σ 2) 5)) (by omega) rfl) ⟨5, by decide, by assumption, rfl⟩ rfl (by decide) (Nat.le_of_ble_eq_true rfl) dL_areIfsSo_243 ?_
      rintro w K ⟨rfl, rfl⟩
      refine q_istore (ls' := [_, _, _, _, _, _, _, _, _, _, _]) dL_areIfsSo_246 (Nat.le_of_ble_eq_true rfl) rfl ?_
      refine q_iload dL_areIfsSo_248 rfl ?_
      refine q_if_eqN (tgt := 289) (by omega) dL_areIfsSo_250 (by decide) (fun z => ?_) (fun z => ?_)
      · omega
      refine q_aload_n dL_areIfsSo_253 rfl ?_
      refine q_iload dL_areIfsSo_254 rfl ?_
      refine q_cV (as := [_]) lk_RL_42 (c_leave g1 hts) ⟨5, by decide, by assumption, rfl⟩ rfl (by decide) (Nat.le_of_ble_eq_true rfl) dL_areIfsSo_256 ?_
      have eq3 : opLeave τ (nI (sN σ 2)) = (nI (sP τ (sN σ 2) 5), sset 1000 (uP (sout τ (sN σ 2)) (sN σ 2) 0 0)) := by
        unfold opLeave
        rw [if_neg (fun z => z (isC_nI (by omega) hp)), nI_clamp (by omega), if_neg (by omega)]
      rw [eq3]
      rintro w K ⟨rfl, g3, g4⟩
      have hiu := inv_leave hit (nI (sN σ 2))
      rw [eq3] at hiu
      obtain ⟨l1, l2, l3⟩ := leave_fact htw (sN σ 2)
      have g3 : RG K (sset 1000 (uP (sout τ (sN σ 2)) (sN σ 2) 0 0)) (hst (nI (sP τ (sN σ 2) 5)) τ ((σ :: hs).take 4)) [] := g3
      have hiu : Inv (b + 10000 + 10000) (sset 1000 (uP (sout τ (sN σ 2)) (sN σ 2) 0 0)) := hiu
      generalize sset 1000 (uP (sout τ (sN σ 2)) (sN σ 2) 0 0) = υ at g3 hiu l1 l2 l3
      rw [hst_ok (by omega)] at g3
      have g3 : RG K υ (τ :: σ :: (hs.take 3).take 2) [] := g3
      have hx2 : ∀ χ, χ ∈ τ :: σ :: (hs.take 3).take 2 → sok χ := fun χ h => by
        rcases List.mem_cons.mp h with rfl | h
        · exact hts
        rcases List.mem_cons.mp h with rfl | h
        · exact hs1
        · exact hh χ (List.mem_of_mem_take (List.mem_of_mem_take h))
      generalize (hs.take 3).take 2 = ht at g3 hx2
      have hus := hiu.ok
      have hpu : sN σ 2 < sN υ 2 := by rw [l1]; exact hp
      refine q_iload dL_areIfsSo_259 rfl ?_
      refine q_icmp_ne (tgt := 289) dL_areIfsSo_261 (by decide) (fun z1 => ?_) (fun z1 => ?_)
      · exact absurd rfl z1
      refine q_aload_n dL_areIfsSo_264 rfl ?_
      refine q_iload dL_areIfsSo_265 rfl ?_
      refine q_iconst (v := nI 2) dL_areIfsSo_267 (by decide) ?_
      refine q_cV (as := [_, _]) lk_RL_55 (a_person g3 hus hpu (j := 2) (x := nI 4) (by omega) (by show nI (srank υ (sN σ 2)) = nI 4; rw [l2])) ⟨5, by decide, by assumption, rfl⟩ rfl (by decide) (Nat.le_of_ble_eq_true rfl) dL_areIfsSo_268 ?_
      rintro w L ⟨rfl, rfl⟩
      refine q_iconst (v := nI 4) dL_areIfsSo_271 (by decide) ?_
      refine q_icmp_ne (tgt := 289) dL_areIfsSo_272 (by decide) (fun z2 => ?_) (fun z2 => ?_)
      · exact absurd rfl z2
      refine q_aload_n dL_areIfsSo_275 rfl ?_
      refine q_iload dL_areIfsSo_276 rfl ?_
      refine q_iconst (v := nI 0) dL_areIfsSo_278 (by decide) ?_
      refine q_cV (as := [_, _]) lk_RL_55 (a_person g3 hus hpu (j := 0) (x := nI 0) (by omega) (by show nI (sP υ (sN σ 2) 0) = nI 0; rw [l3])) ⟨5, by decide, by assumption, rfl⟩ rfl (by decide) (Nat.le_of_ble_eq_true rfl) dL_areIfsSo_279 ?_
      rintro w L ⟨rfl, rfl⟩
      refine q_if_ne (tgt := 289) dL_areIfsSo_282 (by decide) (fun z3 => ?_) (fun z3 => ?_)
      · exact absurd rfl z3
      refine q_iconst (v := nI 1) dL_areIfsSo_285 (by decide) ?_
      refine q_goto (tgt := 290) dL_areIfsSo_286 (by decide) ?_
      refine q_istore (ls' := [_, _, _, _, _, _, _, _, _, _, _]) dL_areIfsSo_290 (Nat.le_of_ble_eq_true rfl) rfl ?_
      refine q_aload_n dL_areIfsSo_292 rfl ?_
      refine q_cV (as := []) lk_RL_87 (c_undo g3 hx2) ⟨5, by decide, by assumption, rfl⟩ rfl (by decide) (Nat.le_of_ble_eq_true rfl) dL_areIfsSo_293 ?_
      rintro w L ⟨rfl, g5, g6⟩
      have g5 : RG L τ (σ :: ht) [] := g5
      refine q_istore (ls' := [_, _, _, _, _, _, _, _, _, _, _]) dL_areIfsSo_296 (Nat.le_of_ble_eq_true rfl) rfl ?_
      refine q_aload_n dL_areIfsSo_298 rfl ?_
      refine q_cV (as := []) lk_RL_87 (c_undo g5 (fun χ h => hx2 χ (List.mem_cons_of_mem _ h))) ⟨5, by decide, by assumption, rfl⟩ rfl (by decide) (Nat.le_of_ble_eq_true rfl) dL_areIfsSo_299 ?_
      rintro w M ⟨rfl, g7, g8⟩
      have g7 : RG M σ ht [] := g7
      have hl : ht.length ≤ 4 := by
        obtain ⟨-, -, -, n, hn, h3, h4, h5, -⟩ := g7
        exact h5
      rw [show (qUndo τ (σ :: ht)).1 = nI ht.length from rfl]
      refine q_istore (ls' := [_, _, _, _, _, _, _, _, _, _, _]) dL_areIfsSo_302 (Nat.le_of_ble_eq_true rfl) rfl ?_
      refine q_iload dL_areIfsSo_304 rfl ?_
      refine q_if_eqN (tgt := 328) (by omega) dL_areIfsSo_306 (by decide) (fun z4 => ?_) (fun z4 => ?_)
      · omega
      refine q_iload dL_areIfsSo_309 rfl ?_
      refine q_if_lt (tgt := 328) dL_areIfsSo_311 (by decide) (fun z5 => ?_) (fun z5 => ?_)
      · exact absurd z5 (nn (by omega))
      refine q_aload_n dL_areIfsSo_314 rfl ?_
      refine q_iconst (v := nI 2) dL_areIfsSo_315 (by decide) ?_
      refine q_cV (as := [_]) lk_RL_18 (a_count g7 hs1 (j := 2) (x := nI (sN σ 2)) (by omega) rfl) ⟨5, by decide, by assumption, rfl⟩ rfl (by decide) (Nat.le_of_ble_eq_true rfl) dL_areIfsSo_316 ?_
      rintro w N ⟨rfl, rfl⟩
      refine q_iload dL_areIfsSo_319 rfl ?_
      refine q_icmp_ne (tgt := 328) dL_areIfsSo_321 (by decide) (fun z6 => ?_) (fun z6 => ?_)
      · exact absurd rfl z6
      refine q_iconst (v := nI 1) dL_areIfsSo_324 (by decide) ?_
      refine q_goto (tgt := 329) dL_areIfsSo_325 (by decide) ?_
      exact q_iret rfl (bool_ok (Or.inr rfl)).1 dL_areIfsSo_329 ⟨rfl, ht, g7, fun χ h => hx2 χ (List.mem_cons_of_mem _ (List.mem_cons_of_mem _ h))⟩
    obtain ⟨hrk5, hr4⟩ := hr4
    refine q_istore (ls' := [_, _, _, _, _, _, _, _, _, _, _]) dL_areIfsSo_138 (Nat.le_of_ble_eq_true rfl) rfl ?_
    refine q_iload dL_areIfsSo_140 rfl ?_
    refine q_if_geN (tgt := 163) (by omega) dL_areIfsSo_142 (by decide) (fun z => ?_) (fun z => ?_)
    case refine_2 => omega
    refine q_iload dL_areIfsSo_163 rfl ?_
    refine q_if_eqN (tgt := 236) (by omega) dL_areIfsSo_165 (by decide) (fun z1 => ?_) (fun z1 => ?_)
    · omega
    refine q_iload dL_areIfsSo_168 rfl ?_
    refine q_iload dL_areIfsSo_170 rfl ?_
    refine q_icmp_ne (tgt := 236) dL_areIfsSo_172 (by decide) (fun z1 => ?_) (fun z1 => ?_)
    · exact absurd rfl z1
    refine q_aload_n dL_areIfsSo_175 rfl ?_
    refine q_iload dL_areIfsSo_176 rfl ?_
    refine q_iconst (v := nI 2) dL_areIfsSo_178 (by decide) ?_
    refine q_cV (as := [_, _]) lk_RL_55 (a_person g1 hts hp (j := 2) (x := nI rk) (by omega) (by show nI (srank τ (sN σ 2)) = nI rk; rw [hrank])) ⟨5, by decide, by assumption, rfl⟩ rfl (by decide) (Nat.le_of_ble_eq_true rfl) dL_areIfsSo_179 ?_
    rintro w K ⟨rfl, rfl⟩
    refine q_iload dL_areIfsSo_182 rfl ?_
    refine q_icmp_ne (tgt := 236) dL_areIfsSo_184 (by decide) (fun z1 => ?_) (fun z1 => ?_)
    · exact absurd rfl z1
    refine q_iload dL_areIfsSo_187 rfl ?_
    rcases hr4 with ⟨rfl, a2, a3⟩ | ⟨rfl, a3⟩
    · refine q_if_ne (tgt := 196) dL_areIfsSo_189 (by decide) (fun z2 => ?_) (fun z2 => ?_)
      · exact absurd rfl z2
      refine q_iconst (v := nI 1) dL_areIfsSo_192 (by decide) ?_
      refine q_goto (tgt := 197) dL_areIfsSo_193 (by decide) ?_
      refine q_aload_n dL_areIfsSo_197 rfl ?_
      refine q_iload dL_areIfsSo_198 rfl ?_
      refine q_iconst (v := nI 3) dL_areIfsSo_200 (by decide) ?_
      refine q_cV (as := [_, _]) lk_RL_55 (a_person g1 hts hp (j := 3) (x := nI (sC σ c 5)) (by omega) (by show nI (sP τ (sN σ 2) 5) = _; rw [a2])) ⟨5, by decide, by assumption, rfl⟩ rfl (by decide) (Nat.le_of_ble_eq_true rfl) dL_areIfsSo_201 ?_
      rintro w K ⟨rfl, rfl⟩
      refine q_aload_n dL_areIfsSo_204 rfl ?_
      refine q_iload_n dL_areIfsSo_205 rfl ?_
      refine q_iconst (v := nI 5) dL_areIfsSo_206 (by decide) ?_
      refine q_cV (as := [_, _]) lk_RL_58 (a_course g1 hts (c := c) (by omega) (j := 5) (x := nI (sC σ c 5)) (by omega) (by show nI (sC τ c 5) = _; rw [j5])) ⟨5, by decide, by assumption, rfl⟩ rfl (by decide) (Nat.le_of_ble_eq_true rfl) dL_areIfsSo_207 ?_
      rintro w K ⟨rfl, rfl⟩
      refine q_icmp_ne (tgt := 228) dL_areIfsSo_210 (by decide) (fun z3 => ?_) (fun z3 => ?_)
      · exact absurd rfl z3
      refine q_aload_n dL_areIfsSo_213 rfl ?_
      refine q_iload dL_areIfsSo_214 rfl ?_
      refine q_iconst (v := nI 1) dL_areIfsSo_216 (by decide) ?_
      refine q_cV (as := [_, _]) lk_RL_55 (a_person g1 hts hp (j := 1) (x := nI c) (by omega) (by show told (sP τ (sN σ 2) 4) = nI c; rw [a3]; exact told_s (w := c + 1) (by omega))) ⟨5, by decide, by assumption, rfl⟩ rfl (by decide) (Nat.le_of_ble_eq_true rfl) dL_areIfsSo_217 ?_
      rintro w K ⟨rfl, rfl⟩
      refine q_iload_n dL_areIfsSo_220 rfl ?_
      refine q_icmp_ne (tgt := 228) dL_areIfsSo_221 (by decide) (fun z4 => ?_) (fun z4 => ?_)
      · exact absurd rfl z4
      refine q_iconst (v := nI 1) dL_areIfsSo_224 (by decide) ?_
      refine q_goto (tgt := 229) dL_areIfsSo_225 (by decide) ?_
      refine q_icmp_ne (tgt := 236) dL_areIfsSo_229 (by decide) (fun z5 => ?_) (fun z5 => ?_)
      · exact absurd rfl z5
      exact s232
    · refine q_if_ne (tgt := 196) dL_areIfsSo_189 (by decide) (fun z2 => ?_) (fun z2 => ?_)
      case refine_2 => exact absurd z2 (by decide)
      have s228 : q_X kL_areIfsSo 228 [some (.ref 0), some (.int v), some (.int (nI (sN σ 0))), some (.int (nI c)), be, some (.int (nI 1)), some (.int (nI 4)), some (.int (nI (sN σ 2))), some (.int (nI (sN σ 2))), none, none] [.int (nI 0)] J (IQ σ) := by
        refine q_iconst (v := nI 0) dL_areIfsSo_228 (by decide) ?_
        refine q_icmp_ne (tgt := 236) dL_areIfsSo_229 (by decide) (fun z5 => ?_) (fun z5 => ?_)
        · exact absurd rfl z5
        exact s232
      refine q_iconst (v := nI 0) dL_areIfsSo_196 (by decide) ?_
      refine q_aload_n dL_areIfsSo_197 rfl ?_
      refine q_iload dL_areIfsSo_198 rfl ?_
      refine q_iconst (v := nI 3) dL_areIfsSo_200 (by decide) ?_
      refine q_cV (as := [_, _]) lk_RL_55 (a_person g1 hts hp (j := 3) (x := nI (sP τ (sN σ 2) 5)) (by omega) rfl) ⟨5, by decide, by assumption, rfl⟩ rfl (by decide) (Nat.le_of_ble_eq_true rfl) dL_areIfsSo_201 ?_
      rintro w K ⟨rfl, rfl⟩
      refine q_aload_n dL_areIfsSo_204 rfl ?_
      refine q_iload_n dL_areIfsSo_205 rfl ?_
      refine q_iconst (v := nI 5) dL_areIfsSo_206 (by decide) ?_
      refine q_cV (as := [_, _]) lk_RL_58 (a_course g1 hts (c := c) (by omega) (j := 5) (x := nI (sC σ c 5)) (by omega) (by show nI (sC τ c 5) = _; rw [j5])) ⟨5, by decide, by assumption, rfl⟩ rfl (by decide) (Nat.le_of_ble_eq_true rfl) dL_areIfsSo_207 ?_
      rintro w K ⟨rfl, rfl⟩
      refine q_icmp_ne (tgt := 228) dL_areIfsSo_210 (by decide) (fun z3 => ?_) (fun z3 => ?_)
      · exact s228
      refine q_aload_n dL_areIfsSo_213 rfl ?_
      refine q_iload dL_areIfsSo_214 rfl ?_
      refine q_iconst (v := nI 1) dL_areIfsSo_216 (by decide) ?_
      refine q_cV (as := [_, _]) lk_RL_55 (a_person g1 hts hp (j := 1) (x := told 0) (by omega) (by show told (sP τ (sN σ 2) 4) = told 0; rw [a3])) ⟨5, by decide, by assumption, rfl⟩ rfl (by decide) (Nat.le_of_ble_eq_true rfl) dL_areIfsSo_217 ?_
      rintro w K ⟨rfl, rfl⟩
      refine q_iload_n dL_areIfsSo_220 rfl ?_
      refine q_icmp_ne (tgt := 228) dL_areIfsSo_221 (by decide) (fun z4 => ?_) (fun z4 => ?_)
      · exact s228
      · exact absurd (z4 ▸ told_0) (nn (by omega))
  refine q_istore_n (ls' := [_, _, _, _, _, _, _, _, _, _, _]) dL_areIfsSo_17 (Nat.le_of_ble_eq_true rfl) rfl ?_
  refine q_aload_n dL_areIfsSo_18 rfl ?_
  refine q_iload_n dL_areIfsSo_19 rfl ?_
  refine q_cV (as := [_]) lk_RL_90 (c_beside (c := nI c) hG.1 hw) ⟨5, by decide, by assumption, rfl⟩ rfl (by decide) (Nat.le_of_ble_eq_true rfl) dL_areIfsSo_20 ?_
  rintro w J ⟨rfl, rfl⟩
  have eb : qBeside σ (nI c) = if sC σ c 6 = 1 then told (sft σ c 8) else -1000002 := by
    rw [qBeside, if_pos (isC_nI (by omega) hc), nI_clamp (by omega)]
  rw [eb]
  refine q_istore (ls' := [_, _, _, _, _, _, _, _, _, _, _]) dL_areIfsSo_23 (Nat.le_of_ble_eq_true rfl) rfl ?_
  refine q_iconst (v := nI 1) dL_areIfsSo_25 (by decide) ?_
  refine q_istore (ls' := [_, _, _, _, _, _, _, _, _, _, _]) dL_areIfsSo_26 (Nat.le_of_ble_eq_true rfl) rfl ?_
  refine q_iload dL_areIfsSo_28 rfl ?_
  by_cases e1 : sC σ c 6 = 1
  case neg =>
    rw [if_neg e1]
    refine q_if_lt (tgt := 117) dL_areIfsSo_30 (by decide) (fun z => ?_) (fun z => ?_)
    · exact s117 _ _
    · exact absurd (by decide) z
  rw [if_pos e1]
  have hf8 := sft_le σ c 8
  refine q_if_lt (tgt := 117) dL_areIfsSo_30 (by decide) (fun z => ?_) (fun z => ?_)
  · exact s117 _ _
  have hf0 : ¬ sft σ c 8 = 0 := fun y => z ((told_neg (by omega)).mpr y)
  obtain ⟨s1, s2, s3⟩ := sft_spec σ c 8 hf0
  obtain ⟨s4, s5⟩ := sft_spec2 σ c 8 hf0
  have hd := c_lt_of_st hw s1
  rw [told_s hf0]
  generalize sft σ c 8 - 1 = d at s1 s2 s3 s4 s5 hd
  obtain ⟨x0, x1, x2, x3, x4, x5, x6, x7, x8, x9, x10⟩ := hw.cr (c := c) (by omega)
  obtain ⟨y0, y1, y2, y3, y4, y5, y6, y7, y8, y9, y10⟩ := hw.cr (c := d) (by omega)
  obtain ⟨v1, v2⟩ := lev_ok (sC σ d 1) y1 (sC σ c 1) x1 s5
  refine q_aload_n dL_areIfsSo_33 rfl ?_
  refine q_iload dL_areIfsSo_34 rfl ?_
  refine q_iconst (v := nI 1) dL_areIfsSo_36 (by decide) ?_
  refine q_cV (as := [_, _]) lk_RL_58 (a_course hG hs1 hd (j := 1) (x := nI (sC σ d 1)) (by omega) rfl) ⟨5, by decide, by assumption, rfl⟩ rfl (by decide) (Nat.le_of_ble_eq_true rfl) dL_areIfsSo_37 ?_
  rintro w J ⟨rfl, rfl⟩
  refine q_aload_n dL_areIfsSo_40 rfl ?_
  refine q_iload_n dL_areIfsSo_41 rfl ?_
  refine q_iconst (v := nI 1) dL_areIfsSo_42 (by decide) ?_
  refine q_cV (as := [_, _]) lk_RL_58 (a_course hG hs1 hc (j := 1) (x := nI (sC σ c 1)) (by omega) rfl) ⟨5, by decide, by assumption, rfl⟩ rfl (by decide) (Nat.le_of_ble_eq_true rfl) dL_areIfsSo_43 ?_
  rintro w J ⟨rfl, rfl⟩
  refine q_isub dL_areIfsSo_46 ?_
  refine q_istore (ls' := [_, _, _, _, _, _, _, _, _, _, _]) dL_areIfsSo_47 (Nat.le_of_ble_eq_true rfl) rfl ?_
  refine q_iload dL_areIfsSo_49 rfl ?_
  refine q_iload_n dL_areIfsSo_51 rfl ?_
  refine q_icmp_eqN (tgt := 114) (by omega) (by omega) dL_areIfsSo_52 (by decide) (fun z1 => ?_) (fun z1 => ?_)
  · exact absurd z1 s2
  refine q_aload_n dL_areIfsSo_55 rfl ?_
  refine q_iload dL_areIfsSo_56 rfl ?_
  refine q_iconst (v := nI 0) dL_areIfsSo_58 (by decide) ?_
  refine q_cV (as := [_, _]) lk_RL_58 (a_course hG hs1 hd (j := 0) (x := nI (sC σ d 0)) (by omega) rfl) ⟨5, by decide, by assumption, rfl⟩ rfl (by decide) (Nat.le_of_ble_eq_true rfl) dL_areIfsSo_59 ?_
  rintro w J ⟨rfl, rfl⟩
  refine q_aload_n dL_areIfsSo_62 rfl ?_
  refine q_iload_n dL_areIfsSo_63 rfl ?_
  refine q_iconst (v := nI 0) dL_areIfsSo_64 (by decide) ?_
  refine q_cV (as := [_, _]) lk_RL_58 (a_course hG hs1 hc (j := 0) (x := nI (sC σ d 0)) (by omega) (by show nI (sC σ c 0) = _; rw [s4])) ⟨5, by decide, by assumption, rfl⟩ rfl (by decide) (Nat.le_of_ble_eq_true rfl) dL_areIfsSo_65 ?_
  rintro w J ⟨rfl, rfl⟩
  refine q_icmp_ne (tgt := 114) dL_areIfsSo_68 (by decide) (fun z2 => ?_) (fun z2 => ?_)
  · exact absurd rfl z2
  refine q_iload dL_areIfsSo_71 rfl ?_
  refine q_iconst (v := nI 2) dL_areIfsSo_73 (by decide) ?_
  refine q_icmp_ge (tgt := 114) dL_areIfsSo_74 (by decide) (fun z3 => ?_) (fun z3 => ?_)
  · exact absurd z3 v1
  refine q_iload dL_areIfsSo_77 rfl ?_
  refine q_bipush (v := -2) dL_areIfsSo_79 (by decide) ?_
  refine q_icmp_le (tgt := 114) dL_areIfsSo_81 (by decide) (fun z4 => ?_) (fun z4 => ?_)
  · exact absurd z4 v2
  refine q_aload_n dL_areIfsSo_84 rfl ?_
  refine q_iload dL_areIfsSo_85 rfl ?_
  refine q_bipush (v := nI 7) dL_areIfsSo_87 (by decide) ?_
  refine q_cV (as := [_, _]) lk_RL_58 (a_course hG hs1 hd (j := 7) (x := nI (sLen σ d)) (by omega) rfl) ⟨5, by decide, by assumption, rfl⟩ rfl (by decide) (Nat.le_of_ble_eq_true rfl) dL_areIfsSo_89 ?_
  rintro w J ⟨rfl, rfl⟩
  refine q_aload_n dL_areIfsSo_92 rfl ?_
  refine q_iload_n dL_areIfsSo_93 rfl ?_
  refine q_bipush (v := nI 7) dL_areIfsSo_94 (by decide) ?_
  refine q_cV (as := [_, _]) lk_RL_58 (a_course hG hs1 hc (j := 7) (x := nI (sLen σ c)) (by omega) rfl) ⟨5, by decide, by assumption, rfl⟩ rfl (by decide) (Nat.le_of_ble_eq_true rfl) dL_areIfsSo_96 ?_
  rintro w J ⟨rfl, rfl⟩
  refine q_iadd dL_areIfsSo_99 ?_
  rw [nI_add]
  refine q_aload_n dL_areIfsSo_100 rfl ?_
  refine q_iload dL_areIfsSo_101 rfl ?_
  refine q_iconst (v := nI 4) dL_areIfsSo_103 (by decide) ?_
  refine q_cV (as := [_, _]) lk_RL_58 (a_course hG hs1 hd (j := 4) (x := nI (sC σ d 4)) (by omega) rfl) ⟨5, by decide, by assumption, rfl⟩ rfl (by decide) (Nat.le_of_ble_eq_true rfl) dL_areIfsSo_104 ?_
  rintro w J ⟨rfl, rfl⟩
  refine q_icmp_gtN (tgt := 114) (by omega) (by omega) dL_areIfsSo_107 (by decide) (fun z5 => ?_) (fun z5 => ?_)
  · omega
  refine q_iconst (v := nI 1) dL_areIfsSo_110 (by decide) ?_
  refine q_goto (tgt := 115) dL_areIfsSo_111 (by decide) ?_
  refine q_istore (ls' := [_, _, _, _, _, _, _, _, _, _, _]) dL_areIfsSo_115 (Nat.le_of_ble_eq_true rfl) rfl ?_
  exact s117 _ _
