/-! THE LAW'S LOOP: a judgement over one layout, with the script -/
def q_Y (ω : q_Om) (k : q_MI) (pc : Nat) (ls : List (Option Value)) (st : List Value) (I : q_Mem) (Q : Option Value → q_Mem → Prop) : Prop :=
  ∀ (p : Program) (l : Launch) (e : Env) (R : Room) (s : State) (m : MethodId) (args : Array Value) (below : List Frame) (meth : Method) (c : Code) (cells slots : Nat) (QZ : State → Prop), q_Cx ω k ls.length p R s m args c cells slots →
    (∀ (pc' : Nat) (LS' : Array Slot) (H' : Heap) (locs' : List Loc) (v : Option Value) (J : q_Mem), q_Rt k.2.1 k.2.2.2.1 pc' v → Q v J → va_P (q_D ω) vwCl (q_P ω J) H' → va_S (q_A ω) s.heap H' locs' → W p l e R s m args below meth c H' locs' cells slots QZ (F0 m pc' LS' (v.toList.map (q_cv ω)))) →
    ∀ (H : Heap) (locs : List Loc) (LS : Array Slot), q_LH ω LS ls → va_P (q_D ω) vwCl (q_P ω I) H → va_S (q_A ω) s.heap H locs → W p l e R s m args below meth c H locs cells slots QZ (F0 m pc LS (st.map (q_cv ω)))
section y_rules
variable {ω : q_Om} {k : q_MI} {pc : Nat} {ls : List (Option Value)} {st : List Value} {I : q_Mem} {Q : Option Value → q_Mem → Prop}
theorem y_aload_n {j : Fin 4} {a : Nat} (hd : decode k.2.1 pc = .ok (.aload_n j, 1)) (hl : ls[(j : Nat)]? = some (some (.ref a))) (kk : q_Y ω k (pc + 1) ls (.ref a :: st) I Q) : q_Y ω k pc ls st I Q := by
  intro p l e R s m args below meth c cells slots QZ hC hR H locs LS hL hP hS
  exact lv_aload_n hC.1 hC.2.1 hd rfl (hL.2.2 _ _ hl).2 (kk p l e R s m args below meth c cells slots QZ hC hR H locs LS hL hP hS)
theorem y_iload_n {j : Fin 4} {x : Int32} (hd : decode k.2.1 pc = .ok (.iload_n j, 1)) (hl : ls[(j : Nat)]? = some (some (.int x))) (kk : q_Y ω k (pc + 1) ls (.int x :: st) I Q) : q_Y ω k pc ls st I Q := by
  intro p l e R s m args below meth c cells slots QZ hC hR H locs LS hL hP hS
  exact lv_iload_n hC.1 hC.2.1 hd rfl (hL.2.2 _ _ hl).2 (kk p l e R s m args below meth c cells slots QZ hC hR H locs LS hL hP hS)
theorem y_iconst {n : Int} {v : Int32} (hd : decode k.2.1 pc = .ok (.iconst n, 1)) (hv : Int32.ofInt n = v) (kk : q_Y ω k (pc + 1) ls (.int v :: st) I Q) : q_Y ω k pc ls st I Q := by
  intro p l e R s m args below meth c cells slots QZ hC hR H locs LS hL hP hS
  exact lv_iconst hC.1 hC.2.1 hd hv (kk p l e R s m args below meth c cells slots QZ hC hR H locs LS hL hP hS)
theorem y_bipush {n : Int} {v : Int32} (hd : decode k.2.1 pc = .ok (.bipush n, 2)) (hv : (Int8.ofInt n).toInt32 = v) (kk : q_Y ω k (pc + 2) ls (.int v :: st) I Q) : q_Y ω k pc ls st I Q := by
  intro p l e R s m args below meth c cells slots QZ hC hR H locs LS hL hP hS
  exact lv_bipush hC.1 hC.2.1 hd hv (kk p l e R s m args below meth c cells slots QZ hC hR H locs LS hL hP hS)
theorem y_iadd {x y : Int32} (hd : decode k.2.1 pc = .ok (.iadd, 1)) (kk : q_Y ω k (pc + 1) ls (.int (x + y) :: st) I Q) : q_Y ω k pc ls (.int y :: .int x :: st) I Q := by
  intro p l e R s m args below meth c cells slots QZ hC hR H locs LS hL hP hS
  exact lv_iadd hC.1 hC.2.1 hd (kk p l e R s m args below meth c cells slots QZ hC hR H locs LS hL hP hS)
theorem y_isub {x y : Int32} (hd : decode k.2.1 pc = .ok (.isub, 1)) (kk : q_Y ω k (pc + 1) ls (.int (x - y) :: st) I Q) : q_Y ω k pc ls (.int y :: .int x :: st) I Q := by
  intro p l e R s m args below meth c cells slots QZ hC hR H locs LS hL hP hS
  exact lv_isub hC.1 hC.2.1 hd (kk p l e R s m args below meth c cells slots QZ hC hR H locs LS hL hP hS)
theorem y_iand {x y : Int32} (hd : decode k.2.1 pc = .ok (.iand, 1)) (kk : q_Y ω k (pc + 1) ls (.int (x &&& y) :: st) I Q) : q_Y ω k pc ls (.int y :: .int x :: st) I Q := by
  intro p l e R s m args below meth c cells slots QZ hC hR H locs LS hL hP hS
  exact lv_iand hC.1 hC.2.1 hd (kk p l e R s m args below meth c cells slots QZ hC hR H locs LS hL hP hS)
theorem y_slen (hd : decode k.2.1 pc = .ok (.arraylength, 1)) (kk : q_Y ω k (pc + 1) ls (.int (nI (q_L ω)) :: st) I Q) : q_Y ω k pc ls (.ref 380 :: st) I Q := by
  intro p l e R s m args below meth c cells slots QZ hC hR H locs LS hL hP hS
  have hO : q_Od ω s s.heap := hC.2.2.2.2.2.2.2.1
  exact q_scr_len hC.1 hC.2.1 hO hS hd (kk p l e R s m args below meth c cells slots QZ hC hR H locs LS hL hP hS)
theorem y_sald {i : Nat} {x : Int32} (hx : x = nI i) (hi : i < q_L ω) (hLb : q_L ω ≤ 2560) (hd : decode k.2.1 pc = .ok (.iaload, 1)) (kk : q_Y ω k (pc + 1) ls (.int (q_xs ω i) :: st) I Q) : q_Y ω k pc ls (.int x :: .ref 380 :: st) I Q := by
  intro p l e R s m args below meth c cells slots QZ hC hR H locs LS hL hP hS
  subst hx
  have hO : q_Od ω s s.heap := hC.2.2.2.2.2.2.2.1
  have kk := kk p l e R s m args below meth c cells slots QZ hC hR H locs LS hL hP hS
  refine va_sld hC.1 hC.2.1 hO.2.2.2.2.2.2.2.1.1 hO.2.2.2.2.2.2.2.1.2.1 hO.2.2.2.2.2.2.2.1.2.2 hS (vp_in_nI hi (by omega)) hd ?_
  rw [nI_clamp (by omega)]
  exact kk
theorem y_arg {i j : Nat} {jj : Int} (hd0 : decode k.2.1 pc = .ok (.aload_n 0, 1)) (hd1 : decode k.2.1 (pc + 1) = .ok (.iload_n 3, 1)) (hd2 : decode k.2.1 (pc + 1 + 1) = .ok (.iconst jj, 1)) (hd3 : decode k.2.1 (pc + 1 + 1 + 1) = .ok (.iadd, 1)) (hd4 : decode k.2.1 (pc + 1 + 1 + 1 + 1) = .ok (.iaload, 1)) (hj : Int32.ofInt jj = nI j) (hl0 : ls[0]? = some (some (.ref 380))) (hl3 : ls[3]? = some (some (.int (nI i)))) (hi : i + j < q_L ω) (hLb : q_L ω ≤ 2560) (kk : q_Y ω k (pc + 1 + 1 + 1 + 1 + 1) ls (.int (q_xs ω (i + j)) :: st) I Q) : q_Y ω k pc ls st I Q := by
  refine y_aload_n hd0 hl0 ?_
  refine y_iload_n hd1 hl3 ?_
  refine y_iconst hd2 hj ?_
  refine y_iadd hd3 ?_
  rw [nI_add]
  exact y_sald rfl hi hLb hd4 kk
theorem y_icmp_eq {x y : Int32} {off : Int} {tgt : Nat} (hd : decode k.2.1 pc = .ok (.if_icmp .eq off, 3)) (ht : (pc : Int) + off = (tgt : Int)) (kt : x = y → q_Y ω k tgt ls st I Q) (kf : ¬ x = y → q_Y ω k (pc + 3) ls st I Q) : q_Y ω k pc ls (.int y :: .int x :: st) I Q := by
  intro p l e R s m args below meth c cells slots QZ hC hR H locs LS hL hP hS
  exact lv_icmp_eq hC.1 hC.2.1 hd ht (fun q => kt q p l e R s m args below meth c cells slots QZ hC hR H locs LS hL hP hS) (fun q => kf q p l e R s m args below meth c cells slots QZ hC hR H locs LS hL hP hS)
theorem y_icmp_gt {x y : Int32} {off : Int} {tgt : Nat} (hd : decode k.2.1 pc = .ok (.if_icmp .gt off, 3)) (ht : (pc : Int) + off = (tgt : Int)) (kt : y < x → q_Y ω k tgt ls st I Q) (kf : ¬ y < x → q_Y ω k (pc + 3) ls st I Q) : q_Y ω k pc ls (.int y :: .int x :: st) I Q := by
  intro p l e R s m args below meth c cells slots QZ hC hR H locs LS hL hP hS
  exact lv_icmp_gt hC.1 hC.2.1 hd ht (fun q => kt q p l e R s m args below meth c cells slots QZ hC hR H locs LS hL hP hS) (fun q => kf q p l e R s m args below meth c cells slots QZ hC hR H locs LS hL hP hS)
theorem y_goto {off : Int} {tgt : Nat} (hd : decode k.2.1 pc = .ok (.goto off, 3)) (ht : (pc : Int) + off = (tgt : Int)) (kk : q_Y ω k tgt ls st I Q) : q_Y ω k pc ls st I Q := by
  intro p l e R s m args below meth c cells slots QZ hC hR H locs LS hL hP hS
  exact lv_goto hC.1 hC.2.1 hd ht (kk p l e R s m args below meth c cells slots QZ hC hR H locs LS hL hP hS)
theorem y_iinc {i : Nat} {n : Int} {x v : Int32} {ls' : List (Option Value)} (hd : decode k.2.1 pc = .ok (.iinc i n, 3)) (hx : ls[i]? = some (some (.int x))) (hv : x + Int32.ofInt n = v) (hl : ls.set i (some (.int v)) = ls') (kk : q_Y ω k (pc + 3) ls' st I Q) : q_Y ω k pc ls st I Q := by
  intro p l e R s m args below meth c cells slots QZ hC hR H locs LS hL hP hS
  subst hl
  have hi : i < ls.length := by
    rcases Nat.lt_or_ge i ls.length with q | q
    · exact q
    · rw [List.getElem?_eq_none q] at hx; cases hx
  have hm : (i, q_cv ω (.int x)) ∈ q_lp ω ls := List.mem_filterMap.mpr ⟨i, List.mem_range.mpr hi, by rw [hx]; rfl⟩
  obtain ⟨kx, hk⟩ := List.getElem?_of_mem hm
  exact lv_iinc hC.1 hC.2.1 hd hL.has hk hv hi rfl (fun LS' h' => kk p l e R s m args below meth c cells slots QZ (hC.len (by rw [List.length_set])) hR H locs LS' (hL.store rfl hi h') hP hS)
theorem y_tabIn {dflt lo hi : Int} {offs : Array Int} {len : Nat} {x : Int32} {off : Int} {tgt : Nat} (hd : decode k.2.1 pc = .ok (.tableswitch dflt lo hi offs, len)) (h1 : ¬ x.toInt < lo) (h2 : ¬ hi < x.toInt) (ho : offs[(x.toInt - lo).toNat]? = some off) (ht : (pc : Int) + off = (tgt : Int)) (kk : q_Y ω k tgt ls st I Q) : q_Y ω k pc ls (.int x :: st) I Q := by
  intro p l e R s m args below meth c cells slots QZ hC hR H locs LS hL hP hS
  exact lv_tableIn hC.1 hC.2.1 hd h1 h2 ho ht (kk p l e R s m args below meth c cells slots QZ hC hR H locs LS hL hP hS)
theorem y_tabOut {dflt lo hi : Int} {offs : Array Int} {len : Nat} {x : Int32} {tgt : Nat} (hd : decode k.2.1 pc = .ok (.tableswitch dflt lo hi offs, len)) (h : x.toInt < lo ∨ hi < x.toInt) (ht : (pc : Int) + dflt = (tgt : Int)) (kk : q_Y ω k tgt ls st I Q) : q_Y ω k pc ls (.int x :: st) I Q := by
  intro p l e R s m args below meth c cells slots QZ hC hR H locs LS hL hP hS
  exact lv_tableOut hC.1 hC.2.1 hd h ht (kk p l e R s m args below meth c cells slots QZ hC hR H locs LS hL hP hS)
theorem y_iret {x : Int32} {ty : FieldType} (hr : k.2.2.2.1 = some ty) (hn : narrow ty (.int x) = .int x) (hd : decode k.2.1 pc = .ok (.ireturn, 1)) (hQ : Q (some (.int x)) I) : q_Y ω k pc ls [.int x] I Q := by
  intro p l e R s m args below meth c cells slots QZ hC hR H locs LS hL hP hS
  exact hR pc LS H locs (some (.int x)) I (Or.inr (Or.inl ⟨x, ty, rfl, hr, hn, hd⟩)) hQ hP hS
theorem y_cV {kc : q_MI} {as : List Value} {b idx n : Nat} {Qc : Option Value → q_Mem → Prop} (hl : q_lkV k.1.cls idx kc n) (hm : q_M kc (.ref b :: as) I Qc) (hrc : q_rc kc.1.cls b) (hn : as.length = n) (hf : q_fit kc k) (hst : (st.map fun v => v.category).sum ≤ 8) (hd : decode k.2.1 pc = .ok (.invokevirtual idx, 3)) (kk : ∀ v J, Qc v J → q_Y ω k (pc + 3) ls (v.toList ++ st) J Q) : q_Y ω k pc ls (as.reverse ++ .ref b :: st) I Q := by
  intro p l e R s m args below meth c cells slots QZ hC hR H locs LS hL hP hS
  obtain ⟨hx, hb, hml, hown, hts, hK, hD, hO, hfr, hlo, hce, hsl⟩ := id hC
  obtain ⟨⟨h1, h2, h3, h4, h5⟩, h6, h7⟩ := hl
  have bf : ∀ {w : Cond}, q_wd w → w.before args s = true := fun h => hts _ (q_in h.1 h.2)
  have hst' : ((st.map (q_cv ω)).map fun v => v.category).sum ≤ 8 := by
    rw [List.map_map]
    have : ((fun v : Value => v.category) ∘ q_cv ω) = fun v => v.category := funext fun v => q_cv_cat ω v
    rw [this]; exact hst
  rw [List.map_append, List.map_reverse, List.map_cons]
  refine q_goOn (Qc := Qc) (rest := st.map (q_cv ω)) (va_runV (As := as.map (q_cv ω)) (b := q_ad ω b) (rest := st.map (q_cv ω)) ⟨hx, hb, hml, hown, hts⟩ (hm ω l)
    ⟨⟨rfl, rfl, Nat.le_trans hf.1 hfr, Nat.le_trans hf.2 hlo, pay_in hts (q_gws h3), List.mem_cons_self, bf h3, bf h2, h4, q_ar h5, bf h1⟩, bf h6, bf h7⟩
    ⟨q_blind, q_recv hrc hK hP hO hS, fun U hU hW => q_pre hK hP hD hO hS U hU hW⟩ rfl (by simpa using hn) hL.1 rfl (lv_room hst') hd ⟨hce, hsl⟩) hS (fun v J H1 locs1 hq hP1 hS1 => ?_)
  have := kk v J hq p l e R s m args below meth c cells slots QZ hC hR H1 locs1 LS hL hP1 hS1
  rw [List.map_append] at this
  exact this
end y_rules
/-! what holds between the calls -/
theorem MG.fo {I J : q_Mem} {σ : q_S} {hs : List q_S} {t : List Nat} (h : MG I σ hs t) (hF : FO I J) : MG J σ hs t :=
  ⟨h.1.fr (hF 357 (by omega)), h.2.1.fr (congrFun (hF 356 (by omega)) 3) (hF 359 (by omega)), h.2.2.fr (congrFun (hF 356 (by omega)) 5) (hF 360 (by omega))⟩
theorem RG.frr {I J : q_Mem} {σ : q_S} {hs : List q_S} {t : List Nat} (h : RG I σ hs t) (hF : FR I J) : RG J σ hs t := by
  obtain ⟨h0, ⟨τ1, hτ1⟩, h2, n, hn, h3, h4, h5, h6, h7⟩ := h
  refine ⟨h0.fr (fun a a1 a2 => hF a (by omega)), ⟨τ1, hτ1.fr (fun a a1 a2 => hF a (by omega))⟩, h2.fr (hF 353 (by omega)) (hF 354 (by omega)), n, hn, by rw [hF 101 (by omega)]; exact h3, by rw [hF 101 (by omega)]; exact h4, h5, fun m hm => (h6 m hm).imp (fun τ hτ => hτ.fr (fun a a1 a2 => hF a (by omega))), fun i τ hi => (h7 i τ hi).fr (fun a a1 a2 => hF a (by omega))⟩
def LI (I : q_Mem) (n : Nat) : Prop := ∃ (σ : q_S) (hs : List q_S) (t : List Nat), RG I σ hs t ∧ MG I σ hs t ∧ sok σ ∧ (∀ τ, τ ∈ hs → sok τ ∧ sG τ 0 ≤ 60 * n) ∧ tok t ∧ sG σ 0 ≤ 60 * n
theorem hst_mem {x : Int32} {σ τ : q_S} {hs : List q_S} (h : τ ∈ hst x σ hs) : τ = σ ∨ τ ∈ hs := by
  unfold hst at h
  split at h
  · exact Or.inr h
  · exact List.mem_cons.mp (List.mem_of_mem_take h)
theorem LI.same {I K : q_Mem} {σ : q_S} {hs : List q_S} {t t' : List Nat} {n : Nat} (hs1 : sok σ) (hss : ∀ τ, τ ∈ hs → sok τ ∧ sG τ 0 ≤ 60 * n) (ht : tok t') (hn : sG σ 0 ≤ 60 * n) (g : RG K σ hs t') (m : MG K σ hs t') : LI K (n + 1) :=
  ⟨σ, hs, t', g, m, hs1, fun τ hτ => ⟨(hss τ hτ).1, Nat.le_trans (hss τ hτ).2 (by omega)⟩, ht, by omega⟩
theorem LI.chg {K : q_Mem} {σ : q_S} {hs : List q_S} {t : List Nat} {n : Nat} {r : Int32 × q_S} (hs1 : sok σ) (hss : ∀ τ, τ ∈ hs → sok τ ∧ sG τ 0 ≤ 60 * n) (ht : tok t) (hn : sG σ 0 ≤ 60 * n) (g1 : sok r.2) (g2 : sG r.2 0 ≤ sG σ 0 + 60) (g : RG K r.2 (hst r.1 σ hs) t) (m : MG K r.2 (hst r.1 σ hs) t) : LI K (n + 1) := by
  refine ⟨r.2, _, t, g, m, g1, fun τ hτ => ?_, ht, by omega⟩
  rcases hst_mem hτ with rfl | h
  · exact ⟨hs1, by omega⟩
  · exact ⟨(hss τ h).1, Nat.le_trans (hss τ h).2 (by omega)⟩
theorem play_ok {σ : q_S} {t : List Nat} (h : sok σ) (hn : sG σ 0 < 2 ^ 29) : sok (qPlay σ t).2 ∧ sG (qPlay σ t).2 0 ≤ sG σ 0 + 60 := by
  obtain ⟨p1, p2, -⟩ := ply_ok t 60 0 0 σ h (by omega)
  unfold qPlay
  split
  · exact ⟨p1, p2⟩
  · exact ⟨h, Nat.le_add_right _ _⟩

/-- one round of the law -/
theorem law_round {ω : q_Om} {i n : Nat} {I : q_Mem} {Q : Option Value → q_Mem → Prop} (hLb : q_L ω ≤ 2560) (hi : i + 4 < q_L ω) (hn : n ≤ 600) (hI : LI I n) (fin : ∀ K, LI K (n + 1) → q_Y ω kL_law 712 [some (.ref 380), some (.ref 0), some (.ref 356), some (.int (nI i))] [] K Q) : q_Y ω kL_law 26 [some (.ref 380), some (.ref 0), some (.ref 356), some (.int (nI i))] [] I Q := by
  obtain ⟨σ, hs, t, hG, hM, hs1, hss2, ht, hb⟩ := hI
  have hss : ∀ τ, τ ∈ hs → sok τ := fun τ hτ => (hss2 τ hτ).1
  have hn29 : sG σ 0 < 2 ^ 29 := by omega
  have hn30 : sG σ 0 < 2 ^ 30 := by omega
  have hcT : I 353 2 = nI t.length := hG.2.2.1.1
  have hcH : I 101 2 = nI hs.length := by
    obtain ⟨-, -, -, n, hn, h3, h4, -⟩ := hG
    exact h4
  have k0 := k0
  refine y_aload_n dL_law_26 rfl ?_
  refine y_iload_n dL_law_27 rfl ?_
  refine y_sald rfl (by omega) hLb dL_law_28 ?_
  refine y_bipush (v := nI 31) dL_law_29 (by decide) ?_
  refine y_iand dL_law_31 ?_
  by_cases hc : isC 22 (q_xs ω i &&& nI 31)
  case neg =>
    refine y_tabOut (tgt := 712) dL_law_32 (by have := tab_out (by omega) hc; omega) (by decide) ?_
    exact fin I (LI.same (I := I) (t := t) hs1 hss2 ht hb hG hM)
  obtain ⟨j, hj, he⟩ := (isC_iff (by omega)).mp hc
  rw [he]
  have hjc : j = 0 ∨ j = 1 ∨ j = 2 ∨ j = 3 ∨ j = 4 ∨ j = 5 ∨ j = 6 ∨ j = 7 ∨ j = 8 ∨ j = 9 ∨ j = 10 ∨ j = 11 ∨ j = 12 ∨ j = 13 ∨ j = 14 ∨ j = 15 ∨ j = 16 ∨ j = 17 ∨ j = 18 ∨ j = 19 ∨ j = 20 ∨ j = 21 := by omega
  rcases hjc with rfl | rfl | rfl | rfl | rfl | rfl | rfl | rfl | rfl | rfl | rfl | rfl | rfl | rfl | rfl | rfl | rfl | rfl | rfl | rfl | rfl | rfl
  · refine y_tabIn (off := 104) (tgt := 136) dL_law_32 (by decide) (by decide) (by decide) (by decide) ?_
    refine y_aload_n dL_law_136 rfl ?_
    refine y_arg (i := i) (j := 1) dL_law_137 dL_law_138 dL_law_139 dL_law_140 dL_law_141 (by decide) rfl rfl (by omega) hLb ?_
    refine y_arg (i := i) (j := 2) dL_law_142 dL_law_143 dL_law_144 dL_law_145 dL_law_146 (by decide) rfl rfl (by omega) hLb ?_
    refine y_arg (i := i) (j := 3) dL_law_147 dL_law_148 dL_law_149 dL_law_150 dL_law_151 (by decide) rfl rfl (by omega) hLb ?_
    refine y_arg (i := i) (j := 4) dL_law_152 dL_law_153 dL_law_154 dL_law_155 dL_law_156 (by decide) rfl rfl (by omega) hLb ?_
    refine y_cV (as := [_, _, _, _]) lk_RL_13 (c_course hG hs1) (Or.inl ⟨5, by decide, k0, rfl⟩) rfl (by decide) (Nat.le_of_ble_eq_true rfl) dL_law_157 ?_
    rintro v J ⟨rfl, g1, g2⟩
    have hM1 := hM.fo g2
    refine y_aload_n dL_law_160 rfl ?_
    refine y_arg (i := i) (j := 1) dL_law_161 dL_law_162 dL_law_163 dL_law_164 dL_law_165 (by decide) rfl rfl (by omega) hLb ?_
    refine y_arg (i := i) (j := 2) dL_law_166 dL_law_167 dL_law_168 dL_law_169 dL_law_170 (by decide) rfl rfl (by omega) hLb ?_
    refine y_arg (i := i) (j := 3) dL_law_171 dL_law_172 dL_law_173 dL_law_174 dL_law_175 (by decide) rfl rfl (by omega) hLb ?_
    refine y_arg (i := i) (j := 4) dL_law_176 dL_law_177 dL_law_178 dL_law_179 dL_law_180 (by decide) rfl rfl (by omega) hLb ?_
    refine y_cV (as := [_, _, _, _]) lk_RL_17 (r_course hM1 hs1 hss) (Or.inl ⟨6, by decide, k356, rfl⟩) rfl (by decide) (Nat.le_of_ble_eq_true rfl) dL_law_181 ?_
    rintro v K ⟨rfl, e1, e2⟩
    refine y_icmp_eq (tgt := 712) dL_law_184 (by decide) (fun _ => ?_) (fun z => absurd rfl z)
    have gd := good_course hs1 (q_xs ω (i + 1)) (q_xs ω (i + 2)) (q_xs ω (i + 3)) (q_xs ω (i + 4))
    exact fin K (LI.chg hs1 hss2 ht hb gd.1 (Nat.le_trans gd.2.1 (by omega)) (g1.frr e2) e1)
  · refine y_tabIn (off := 157) (tgt := 189) dL_law_32 (by decide) (by decide) (by decide) (by decide) ?_
    refine y_aload_n dL_law_189 rfl ?_
    refine y_arg (i := i) (j := 1) dL_law_190 dL_law_191 dL_law_192 dL_law_193 dL_law_194 (by decide) rfl rfl (by omega) hLb ?_
    refine y_cV (as := [_]) lk_RL_18 (c_room hG hs1) (Or.inl ⟨5, by decide, k0, rfl⟩) rfl (by decide) (Nat.le_of_ble_eq_true rfl) dL_law_195 ?_
    rintro v J ⟨rfl, g1, g2⟩
    have hM1 := hM.fo g2
    refine y_aload_n dL_law_198 rfl ?_
    refine y_arg (i := i) (j := 1) dL_law_199 dL_law_200 dL_law_201 dL_law_202 dL_law_203 (by decide) rfl rfl (by omega) hLb ?_
    refine y_cV (as := [_]) lk_RL_22 (r_room hM1 hs1 hss) (Or.inl ⟨6, by decide, k356, rfl⟩) rfl (by decide) (Nat.le_of_ble_eq_true rfl) dL_law_204 ?_
    rintro v K ⟨rfl, e1, e2⟩
    refine y_icmp_eq (tgt := 712) dL_law_207 (by decide) (fun _ => ?_) (fun z => absurd rfl z)
    have gd := good_room hs1 (q_xs ω (i + 1))
    exact fin K (LI.chg hs1 hss2 ht hb gd.1 (Nat.le_trans gd.2.1 (by omega)) (g1.frr e2) e1)
  · refine y_tabIn (off := 180) (tgt := 212) dL_law_32 (by decide) (by decide) (by decide) (by decide) ?_
    refine y_aload_n dL_law_212 rfl ?_
    refine y_arg (i := i) (j := 1) dL_law_213 dL_law_214 dL_law_215 dL_law_216 dL_law_217 (by decide) rfl rfl (by omega) hLb ?_
    refine y_arg (i := i) (j := 2) dL_law_218 dL_law_219 dL_law_220 dL_law_221 dL_law_222 (by decide) rfl rfl (by omega) hLb ?_
    refine y_arg (i := i) (j := 3) dL_law_223 dL_law_224 dL_law_225 dL_law_226 dL_law_227 (by decide) rfl rfl (by omega) hLb ?_
    refine y_cV (as := [_, _, _]) lk_RL_23 (c_join hG hs1) (Or.inl ⟨5, by decide, k0, rfl⟩) rfl (by decide) (Nat.le_of_ble_eq_true rfl) dL_law_228 ?_
    rintro v J ⟨rfl, g1, g2⟩
    have hM1 := hM.fo g2
    refine y_aload_n dL_law_231 rfl ?_
    refine y_arg (i := i) (j := 1) dL_law_232 dL_law_233 dL_law_234 dL_law_235 dL_law_236 (by decide) rfl rfl (by omega) hLb ?_
    refine y_arg (i := i) (j := 2) dL_law_237 dL_law_238 dL_law_239 dL_law_240 dL_law_241 (by decide) rfl rfl (by omega) hLb ?_
    refine y_arg (i := i) (j := 3) dL_law_242 dL_law_243 dL_law_244 dL_law_245 dL_law_246 (by decide) rfl rfl (by omega) hLb ?_
    refine y_cV (as := [_, _, _]) lk_RL_27 (r_join hM1 hs1 hss) (Or.inl ⟨6, by decide, k356, rfl⟩) rfl (by decide) (Nat.le_of_ble_eq_true rfl) dL_law_247 ?_
    rintro v K ⟨rfl, e1, e2⟩
    refine y_icmp_eq (tgt := 712) dL_law_250 (by decide) (fun _ => ?_) (fun z => absurd rfl z)
    have gd := good_join hs1 (q_xs ω (i + 1)) (q_xs ω (i + 2)) (q_xs ω (i + 3))
    exact fin K (LI.chg hs1 hss2 ht hb gd.1 (Nat.le_trans gd.2.1 (by omega)) (g1.frr e2) e1)
  · refine y_tabIn (off := 223) (tgt := 255) dL_law_32 (by decide) (by decide) (by decide) (by decide) ?_
    refine y_aload_n dL_law_255 rfl ?_
    refine y_arg (i := i) (j := 1) dL_law_256 dL_law_257 dL_law_258 dL_law_259 dL_law_260 (by decide) rfl rfl (by omega) hLb ?_
    refine y_arg (i := i) (j := 2) dL_law_261 dL_law_262 dL_law_263 dL_law_264 dL_law_265 (by decide) rfl rfl (by omega) hLb ?_
    refine y_arg (i := i) (j := 3) dL_law_266 dL_law_267 dL_law_268 dL_law_269 dL_law_270 (by decide) rfl rfl (by omega) hLb ?_
    refine y_arg (i := i) (j := 4) dL_law_271 dL_law_272 dL_law_273 dL_law_274 dL_law_275 (by decide) rfl rfl (by omega) hLb ?_
    refine y_cV (as := [_, _, _, _]) lk_RL_28 (c_wish hG hs1) (Or.inl ⟨5, by decide, k0, rfl⟩) rfl (by decide) (Nat.le_of_ble_eq_true rfl) dL_law_276 ?_
    rintro v J ⟨rfl, g1, g2⟩
    have hM1 := hM.fo g2
    refine y_aload_n dL_law_279 rfl ?_
    refine y_arg (i := i) (j := 1) dL_law_280 dL_law_281 dL_law_282 dL_law_283 dL_law_284 (by decide) rfl rfl (by omega) hLb ?_
    refine y_arg (i := i) (j := 2) dL_law_285 dL_law_286 dL_law_287 dL_law_288 dL_law_289 (by decide) rfl rfl (by omega) hLb ?_
    refine y_arg (i := i) (j := 3) dL_law_290 dL_law_291 dL_law_292 dL_law_293 dL_law_294 (by decide) rfl rfl (by omega) hLb ?_
    refine y_arg (i := i) (j := 4) dL_law_295 dL_law_296 dL_law_297 dL_law_298 dL_law_299 (by decide) rfl rfl (by omega) hLb ?_
    refine y_cV (as := [_, _, _, _]) lk_RL_31 (r_wish hM1 hs1 hss) (Or.inl ⟨6, by decide, k356, rfl⟩) rfl (by decide) (Nat.le_of_ble_eq_true rfl) dL_law_300 ?_
    rintro v K ⟨rfl, e1, e2⟩
    refine y_icmp_eq (tgt := 712) dL_law_303 (by decide) (fun _ => ?_) (fun z => absurd rfl z)
    have gd := good_wish hs1 (q_xs ω (i + 1)) (q_xs ω (i + 2)) (q_xs ω (i + 3)) (q_xs ω (i + 4))
    exact fin K (LI.chg hs1 hss2 ht hb gd.1 (Nat.le_trans gd.2.1 (by omega)) (g1.frr e2) e1)
  · refine y_tabIn (off := 276) (tgt := 308) dL_law_32 (by decide) (by decide) (by decide) (by decide) ?_
    refine y_aload_n dL_law_308 rfl ?_
    refine y_arg (i := i) (j := 1) dL_law_309 dL_law_310 dL_law_311 dL_law_312 dL_law_313 (by decide) rfl rfl (by omega) hLb ?_
    refine y_cV (as := [_]) lk_RL_32 (c_leave hG hs1) (Or.inl ⟨5, by decide, k0, rfl⟩) rfl (by decide) (Nat.le_of_ble_eq_true rfl) dL_law_314 ?_
    rintro v J ⟨rfl, g1, g2⟩
    have hM1 := hM.fo g2
    refine y_aload_n dL_law_317 rfl ?_
    refine y_arg (i := i) (j := 1) dL_law_318 dL_law_319 dL_law_320 dL_law_321 dL_law_322 (by decide) rfl rfl (by omega) hLb ?_
    refine y_cV (as := [_]) lk_RL_35 (r_leave hM1 hs1 hss) (Or.inl ⟨6, by decide, k356, rfl⟩) rfl (by decide) (Nat.le_of_ble_eq_true rfl) dL_law_323 ?_
    rintro v K ⟨rfl, e1, e2⟩
    refine y_icmp_eq (tgt := 712) dL_law_326 (by decide) (fun _ => ?_) (fun z => absurd rfl z)
    have gd := good_leave hs1 (q_xs ω (i + 1))
    exact fin K (LI.chg hs1 hss2 ht hb gd.1 (Nat.le_trans gd.2.1 (by omega)) (g1.frr e2) e1)
  · refine y_tabIn (off := 299) (tgt := 331) dL_law_32 (by decide) (by decide) (by decide) (by decide) ?_
    refine y_aload_n dL_law_331 rfl ?_
    refine y_cV (as := []) lk_RL_36 (c_close hG hs1) (Or.inl ⟨5, by decide, k0, rfl⟩) rfl (by decide) (Nat.le_of_ble_eq_true rfl) dL_law_332 ?_
    rintro v J ⟨rfl, g1, g2⟩
    have hM1 := hM.fo g2
    refine y_aload_n dL_law_335 rfl ?_
    refine y_cV (as := []) lk_RL_40 (r_close hM1 hs1 hss) (Or.inl ⟨6, by decide, k356, rfl⟩) rfl (by decide) (Nat.le_of_ble_eq_true rfl) dL_law_336 ?_
    rintro v K ⟨rfl, e1, e2⟩
    refine y_icmp_eq (tgt := 712) dL_law_339 (by decide) (fun _ => ?_) (fun z => absurd rfl z)
    have gd := good_close hs1
    exact fin K (LI.chg hs1 hss2 ht hb gd.1 (Nat.le_trans gd.2.1 (by omega)) (g1.frr e2) e1)
  · refine y_tabIn (off := 312) (tgt := 344) dL_law_32 (by decide) (by decide) (by decide) (by decide) ?_
    refine y_aload_n dL_law_344 rfl ?_
    refine y_cV (as := []) lk_RL_41 (c_term hG hs1) (Or.inl ⟨5, by decide, k0, rfl⟩) rfl (by decide) (Nat.le_of_ble_eq_true rfl) dL_law_345 ?_
    rintro v J ⟨rfl, g1, g2⟩
    have hM1 := hM.fo g2
    refine y_aload_n dL_law_348 rfl ?_
    refine y_cV (as := []) lk_RL_44 (r_term hM1 hs1 hn30 hss) (Or.inl ⟨6, by decide, k356, rfl⟩) rfl (by decide) (Nat.le_of_ble_eq_true rfl) dL_law_349 ?_
    rintro v K ⟨rfl, e1, e2⟩
    refine y_icmp_eq (tgt := 712) dL_law_352 (by decide) (fun _ => ?_) (fun z => absurd rfl z)
    have gd := good_term hs1 hn30
    exact fin K (LI.chg hs1 hss2 ht hb gd.1 (Nat.le_trans gd.2.1 (by omega)) (g1.frr e2) e1)
  · refine y_tabIn (off := 325) (tgt := 357) dL_law_32 (by decide) (by decide) (by decide) (by decide) ?_
    refine y_aload_n dL_law_357 rfl ?_
    refine y_arg (i := i) (j := 1) dL_law_358 dL_law_359 dL_law_360 dL_law_361 dL_law_362 (by decide) rfl rfl (by omega) hLb ?_
    refine y_arg (i := i) (j := 2) dL_law_363 dL_law_364 dL_law_365 dL_law_366 dL_law_367 (by decide) rfl rfl (by omega) hLb ?_
    refine y_cV (as := [_, _]) lk_RL_45 (c_courseOf hG.1 hs1.1) (Or.inl ⟨5, by decide, k0, rfl⟩) rfl (by decide) (Nat.le_of_ble_eq_true rfl) dL_law_368 ?_
    rintro v J ⟨rfl, rfl⟩
    refine y_aload_n dL_law_371 rfl ?_
    refine y_arg (i := i) (j := 1) dL_law_372 dL_law_373 dL_law_374 dL_law_375 dL_law_376 (by decide) rfl rfl (by omega) hLb ?_
    refine y_arg (i := i) (j := 2) dL_law_377 dL_law_378 dL_law_379 dL_law_380 dL_law_381 (by decide) rfl rfl (by omega) hLb ?_
    refine y_cV (as := [_, _]) lk_RL_49 (r_courseOf hM.1 hs1.1) (Or.inl ⟨6, by decide, k356, rfl⟩) rfl (by decide) (Nat.le_of_ble_eq_true rfl) dL_law_382 ?_
    rintro v K ⟨rfl, rfl⟩
    refine y_icmp_eq (tgt := 712) dL_law_385 (by decide) (fun _ => ?_) (fun z => absurd rfl z)
    exact fin _ (LI.same (I := I) (t := t) hs1 hss2 ht hb hG hM)
  · refine y_tabIn (off := 358) (tgt := 390) dL_law_32 (by decide) (by decide) (by decide) (by decide) ?_
    refine y_aload_n dL_law_390 rfl ?_
    refine y_arg (i := i) (j := 1) dL_law_391 dL_law_392 dL_law_393 dL_law_394 dL_law_395 (by decide) rfl rfl (by omega) hLb ?_
    refine y_arg (i := i) (j := 2) dL_law_396 dL_law_397 dL_law_398 dL_law_399 dL_law_400 (by decide) rfl rfl (by omega) hLb ?_
    refine y_cV (as := [_, _]) lk_RL_50 (c_member hG.1 hs1.1) (Or.inl ⟨5, by decide, k0, rfl⟩) rfl (by decide) (Nat.le_of_ble_eq_true rfl) dL_law_401 ?_
    rintro v J ⟨rfl, rfl⟩
    refine y_aload_n dL_law_404 rfl ?_
    refine y_arg (i := i) (j := 1) dL_law_405 dL_law_406 dL_law_407 dL_law_408 dL_law_409 (by decide) rfl rfl (by omega) hLb ?_
    refine y_arg (i := i) (j := 2) dL_law_410 dL_law_411 dL_law_412 dL_law_413 dL_law_414 (by decide) rfl rfl (by omega) hLb ?_
    refine y_cV (as := [_, _]) lk_RL_53 (r_member hM.1 hs1.1) (Or.inl ⟨6, by decide, k356, rfl⟩) rfl (by decide) (Nat.le_of_ble_eq_true rfl) dL_law_415 ?_
    rintro v K ⟨rfl, rfl⟩
    refine y_icmp_eq (tgt := 712) dL_law_418 (by decide) (fun _ => ?_) (fun z => absurd rfl z)
    exact fin _ (LI.same (I := I) (t := t) hs1 hss2 ht hb hG hM)
  · refine y_tabIn (off := 391) (tgt := 423) dL_law_32 (by decide) (by decide) (by decide) (by decide) ?_
    refine y_aload_n dL_law_423 rfl ?_
    refine y_arg (i := i) (j := 1) dL_law_424 dL_law_425 dL_law_426 dL_law_427 dL_law_428 (by decide) rfl rfl (by omega) hLb ?_
    refine y_arg (i := i) (j := 2) dL_law_429 dL_law_430 dL_law_431 dL_law_432 dL_law_433 (by decide) rfl rfl (by omega) hLb ?_
    refine y_cV (as := [_, _]) lk_RL_54 (c_waits hG.1 hs1.1) (Or.inl ⟨5, by decide, k0, rfl⟩) rfl (by decide) (Nat.le_of_ble_eq_true rfl) dL_law_434 ?_
    rintro v J ⟨rfl, rfl⟩
    refine y_aload_n dL_law_437 rfl ?_
    refine y_arg (i := i) (j := 1) dL_law_438 dL_law_439 dL_law_440 dL_law_441 dL_law_442 (by decide) rfl rfl (by omega) hLb ?_
    refine y_arg (i := i) (j := 2) dL_law_443 dL_law_444 dL_law_445 dL_law_446 dL_law_447 (by decide) rfl rfl (by omega) hLb ?_
    refine y_cV (as := [_, _]) lk_RL_57 (r_waits hM.1 hs1.1) (Or.inl ⟨6, by decide, k356, rfl⟩) rfl (by decide) (Nat.le_of_ble_eq_true rfl) dL_law_448 ?_
    rintro v K ⟨rfl, rfl⟩
    refine y_icmp_eq (tgt := 712) dL_law_451 (by decide) (fun _ => ?_) (fun z => absurd rfl z)
    exact fin _ (LI.same (I := I) (t := t) hs1 hss2 ht hb hG hM)
  · refine y_tabIn (off := 424) (tgt := 456) dL_law_32 (by decide) (by decide) (by decide) (by decide) ?_
    refine y_aload_n dL_law_456 rfl ?_
    refine y_arg (i := i) (j := 1) dL_law_457 dL_law_458 dL_law_459 dL_law_460 dL_law_461 (by decide) rfl rfl (by omega) hLb ?_
    refine y_arg (i := i) (j := 2) dL_law_462 dL_law_463 dL_law_464 dL_law_465 dL_law_466 (by decide) rfl rfl (by omega) hLb ?_
    refine y_cV (as := [_, _]) lk_RL_58 (c_personOf hG.1 hs1.1) (Or.inl ⟨5, by decide, k0, rfl⟩) rfl (by decide) (Nat.le_of_ble_eq_true rfl) dL_law_467 ?_
    rintro v J ⟨rfl, rfl⟩
    refine y_aload_n dL_law_470 rfl ?_
    refine y_arg (i := i) (j := 1) dL_law_471 dL_law_472 dL_law_473 dL_law_474 dL_law_475 (by decide) rfl rfl (by omega) hLb ?_
    refine y_arg (i := i) (j := 2) dL_law_476 dL_law_477 dL_law_478 dL_law_479 dL_law_480 (by decide) rfl rfl (by omega) hLb ?_
    refine y_cV (as := [_, _]) lk_RL_61 (r_personOf hM.1 hs1.1) (Or.inl ⟨6, by decide, k356, rfl⟩) rfl (by decide) (Nat.le_of_ble_eq_true rfl) dL_law_481 ?_
    rintro v K ⟨rfl, rfl⟩
    refine y_icmp_eq (tgt := 712) dL_law_484 (by decide) (fun _ => ?_) (fun z => absurd rfl z)
    exact fin _ (LI.same (I := I) (t := t) hs1 hss2 ht hb hG hM)
  · refine y_tabIn (off := 457) (tgt := 489) dL_law_32 (by decide) (by decide) (by decide) (by decide) ?_
    refine y_aload_n dL_law_489 rfl ?_
    refine y_arg (i := i) (j := 1) dL_law_490 dL_law_491 dL_law_492 dL_law_493 dL_law_494 (by decide) rfl rfl (by omega) hLb ?_
    refine y_arg (i := i) (j := 2) dL_law_495 dL_law_496 dL_law_497 dL_law_498 dL_law_499 (by decide) rfl rfl (by omega) hLb ?_
    refine y_cV (as := [_, _]) lk_RL_62 (c_roomOf hG.1 hs1) (Or.inl ⟨5, by decide, k0, rfl⟩) rfl (by decide) (Nat.le_of_ble_eq_true rfl) dL_law_500 ?_
    rintro v J ⟨rfl, rfl⟩
    refine y_aload_n dL_law_503 rfl ?_
    refine y_arg (i := i) (j := 1) dL_law_504 dL_law_505 dL_law_506 dL_law_507 dL_law_508 (by decide) rfl rfl (by omega) hLb ?_
    refine y_arg (i := i) (j := 2) dL_law_509 dL_law_510 dL_law_511 dL_law_512 dL_law_513 (by decide) rfl rfl (by omega) hLb ?_
    refine y_cV (as := [_, _]) lk_RL_65 (r_roomOf hM.1 hs1) (Or.inl ⟨6, by decide, k356, rfl⟩) rfl (by decide) (Nat.le_of_ble_eq_true rfl) dL_law_514 ?_
    rintro v K ⟨rfl, rfl⟩
    refine y_icmp_eq (tgt := 712) dL_law_517 (by decide) (fun _ => ?_) (fun z => absurd rfl z)
    exact fin _ (LI.same (I := I) (t := t) hs1 hss2 ht hb hG hM)
  · refine y_tabIn (off := 490) (tgt := 522) dL_law_32 (by decide) (by decide) (by decide) (by decide) ?_
    refine y_aload_n dL_law_522 rfl ?_
    refine y_arg (i := i) (j := 1) dL_law_523 dL_law_524 dL_law_525 dL_law_526 dL_law_527 (by decide) rfl rfl (by omega) hLb ?_
    refine y_cV (as := [_]) lk_RL_66 (g_ifClose hG hs1) (Or.inl ⟨5, by decide, k0, rfl⟩) rfl (by decide) (Nat.le_of_ble_eq_true rfl) dL_law_528 ?_
    rintro v J ⟨rfl, g1, g2⟩
    have hM1 := hM.fo g2
    refine y_aload_n dL_law_531 rfl ?_
    refine y_arg (i := i) (j := 1) dL_law_532 dL_law_533 dL_law_534 dL_law_535 dL_law_536 (by decide) rfl rfl (by omega) hLb ?_
    refine y_cV (as := [_]) lk_RL_69 (r_ifClose hM1 hs1) (Or.inl ⟨6, by decide, k356, rfl⟩) rfl (by decide) (Nat.le_of_ble_eq_true rfl) dL_law_537 ?_
    rintro v K ⟨rfl, e1, e2⟩
    refine y_icmp_eq (tgt := 712) dL_law_540 (by decide) (fun _ => ?_) (fun z => absurd rfl z)
    exact fin K (LI.same (I := I) (t := t) hs1 hss2 ht hb (g1.frr e2) e1)
  · refine y_tabIn (off := 513) (tgt := 545) dL_law_32 (by decide) (by decide) (by decide) (by decide) ?_
    refine y_aload_n dL_law_545 rfl ?_
    refine y_arg (i := i) (j := 1) dL_law_546 dL_law_547 dL_law_548 dL_law_549 dL_law_550 (by decide) rfl rfl (by omega) hLb ?_
    refine y_cV (as := [_]) lk_RL_70 (c_beside hG.1 hs1.1) (Or.inl ⟨5, by decide, k0, rfl⟩) rfl (by decide) (Nat.le_of_ble_eq_true rfl) dL_law_551 ?_
    rintro v J ⟨rfl, rfl⟩
    refine y_aload_n dL_law_554 rfl ?_
    refine y_arg (i := i) (j := 1) dL_law_555 dL_law_556 dL_law_557 dL_law_558 dL_law_559 (by decide) rfl rfl (by omega) hLb ?_
    refine y_cV (as := [_]) lk_RL_73 (r_beside hM.1 hs1.1) (Or.inl ⟨6, by decide, k356, rfl⟩) rfl (by decide) (Nat.le_of_ble_eq_true rfl) dL_law_560 ?_
    rintro v K ⟨rfl, rfl⟩
    refine y_icmp_eq (tgt := 712) dL_law_563 (by decide) (fun _ => ?_) (fun z => absurd rfl z)
    exact fin _ (LI.same (I := I) (t := t) hs1 hss2 ht hb hG hM)
  · refine y_tabIn (off := 536) (tgt := 568) dL_law_32 (by decide) (by decide) (by decide) (by decide) ?_
    refine y_aload_n dL_law_568 rfl ?_
    refine y_arg (i := i) (j := 1) dL_law_569 dL_law_570 dL_law_571 dL_law_572 dL_law_573 (by decide) rfl rfl (by omega) hLb ?_
    refine y_cV (as := [_]) lk_RL_74 (c_ifJoin hG.1 hs1.1 hs1.2.1) (Or.inl ⟨5, by decide, k0, rfl⟩) rfl (by decide) (Nat.le_of_ble_eq_true rfl) dL_law_574 ?_
    rintro v J ⟨rfl, rfl⟩
    refine y_aload_n dL_law_577 rfl ?_
    refine y_arg (i := i) (j := 1) dL_law_578 dL_law_579 dL_law_580 dL_law_581 dL_law_582 (by decide) rfl rfl (by omega) hLb ?_
    refine y_cV (as := [_]) lk_RL_77 (r_ifJoin hM.1 hs1.1 hs1.2.1) (Or.inl ⟨6, by decide, k356, rfl⟩) rfl (by decide) (Nat.le_of_ble_eq_true rfl) dL_law_583 ?_
    rintro v K ⟨rfl, rfl⟩
    refine y_icmp_eq (tgt := 712) dL_law_586 (by decide) (fun _ => ?_) (fun z => absurd rfl z)
    exact fin _ (LI.same (I := I) (t := t) hs1 hss2 ht hb hG hM)
  · refine y_tabIn (off := 559) (tgt := 591) dL_law_32 (by decide) (by decide) (by decide) (by decide) ?_
    refine y_aload_n dL_law_591 rfl ?_
    refine y_cV (as := []) lk_RL_78 (c_mean hG.1 hs1.1) (Or.inl ⟨5, by decide, k0, rfl⟩) rfl (by decide) (Nat.le_of_ble_eq_true rfl) dL_law_592 ?_
    rintro v J ⟨rfl, rfl⟩
    refine y_aload_n dL_law_595 rfl ?_
    refine y_cV (as := []) lk_RL_81 (r_mean hM.1 hs1.1) (Or.inl ⟨6, by decide, k356, rfl⟩) rfl (by decide) (Nat.le_of_ble_eq_true rfl) dL_law_596 ?_
    rintro v K ⟨rfl, rfl⟩
    refine y_icmp_eq (tgt := 712) dL_law_599 (by decide) (fun _ => ?_) (fun z => absurd rfl z)
    exact fin _ (LI.same (I := I) (t := t) hs1 hss2 ht hb hG hM)
  · refine y_tabIn (off := 572) (tgt := 604) dL_law_32 (by decide) (by decide) (by decide) (by decide) ?_
    refine y_aload_n dL_law_604 rfl ?_
    refine y_arg (i := i) (j := 1) dL_law_605 dL_law_606 dL_law_607 dL_law_608 dL_law_609 (by decide) rfl rfl (by omega) hLb ?_
    refine y_cV (as := [_]) lk_RL_82 (c_count (s := hs.length) (t := t.length) hG.1 hs1 hcH hcT) (Or.inl ⟨5, by decide, k0, rfl⟩) rfl (by decide) (Nat.le_of_ble_eq_true rfl) dL_law_610 ?_
    rintro v J ⟨rfl, rfl⟩
    refine y_aload_n dL_law_613 rfl ?_
    refine y_arg (i := i) (j := 1) dL_law_614 dL_law_615 dL_law_616 dL_law_617 dL_law_618 (by decide) rfl rfl (by omega) hLb ?_
    refine y_cV (as := [_]) lk_RL_85 (r_count hM hs1) (Or.inl ⟨6, by decide, k356, rfl⟩) rfl (by decide) (Nat.le_of_ble_eq_true rfl) dL_law_619 ?_
    rintro v K ⟨rfl, rfl⟩
    refine y_icmp_eq (tgt := 712) dL_law_622 (by decide) (fun _ => ?_) (fun z => absurd rfl z)
    exact fin _ (LI.same (I := I) (t := t) hs1 hss2 ht hb hG hM)
  · refine y_tabIn (off := 595) (tgt := 627) dL_law_32 (by decide) (by decide) (by decide) (by decide) ?_
    refine y_aload_n dL_law_627 rfl ?_
    refine y_cV (as := []) lk_RL_86 (c_undo hG hss) (Or.inl ⟨5, by decide, k0, rfl⟩) rfl (by decide) (Nat.le_of_ble_eq_true rfl) dL_law_628 ?_
    rintro v J ⟨rfl, g1, g2⟩
    have hM1 := hM.fo g2
    refine y_aload_n dL_law_631 rfl ?_
    refine y_cV (as := []) lk_RL_89 (r_undo hM1 hss) (Or.inl ⟨6, by decide, k356, rfl⟩) rfl (by decide) (Nat.le_of_ble_eq_true rfl) dL_law_632 ?_
    rintro v K ⟨rfl, e1, e2⟩
    refine y_icmp_eq (tgt := 712) dL_law_635 (by decide) (fun _ => ?_) (fun z => absurd rfl z)
    have g3 := g1.frr e2
    cases hs with
    | nil => exact fin K (LI.same (I := I) (t := t) hs1 hss2 ht hb g3 e1)
    | cons τ l => exact fin K (LI.same (I := I) (t := t) (hss2 τ List.mem_cons_self).1 (fun x hx => hss2 x (List.mem_cons_of_mem _ hx)) ht (hss2 τ List.mem_cons_self).2 g3 e1)
  · refine y_tabIn (off := 608) (tgt := 640) dL_law_32 (by decide) (by decide) (by decide) (by decide) ?_
    refine y_aload_n dL_law_640 rfl ?_
    refine y_arg (i := i) (j := 1) dL_law_641 dL_law_642 dL_law_643 dL_law_644 dL_law_645 (by decide) rfl rfl (by omega) hLb ?_
    refine y_cV (as := [_]) lk_RL_90 (c_type hG ht) (Or.inl ⟨5, by decide, k0, rfl⟩) rfl (by decide) (Nat.le_of_ble_eq_true rfl) dL_law_646 ?_
    rintro v J ⟨rfl, g1, g2⟩
    have hM1 := hM.fo g2
    refine y_aload_n dL_law_649 rfl ?_
    refine y_arg (i := i) (j := 1) dL_law_650 dL_law_651 dL_law_652 dL_law_653 dL_law_654 (by decide) rfl rfl (by omega) hLb ?_
    refine y_cV (as := [_]) lk_RL_93 (r_type hM1 ht) (Or.inl ⟨6, by decide, k356, rfl⟩) rfl (by decide) (Nat.le_of_ble_eq_true rfl) dL_law_655 ?_
    rintro v K ⟨rfl, e1, e2⟩
    refine y_icmp_eq (tgt := 712) dL_law_658 (by decide) (fun _ => ?_) (fun z => absurd rfl z)
    exact fin K (LI.same (I := I) (t := t) hs1 hss2 (tok_type ht _) hb (g1.frr e2) e1)
  · refine y_tabIn (off := 631) (tgt := 663) dL_law_32 (by decide) (by decide) (by decide) (by decide) ?_
    refine y_aload_n dL_law_663 rfl ?_
    refine y_cV (as := []) lk_RL_94 (c_clearText hG) (Or.inl ⟨5, by decide, k0, rfl⟩) rfl (by decide) (Nat.le_of_ble_eq_true rfl) dL_law_664 ?_
    rintro v J ⟨rfl, g1, g2⟩
    have hM1 := hM.fo g2
    refine y_aload_n dL_law_667 rfl ?_
    refine y_cV (as := []) lk_RL_97 (r_clearText hM1) (Or.inl ⟨6, by decide, k356, rfl⟩) rfl (by decide) (Nat.le_of_ble_eq_true rfl) dL_law_668 ?_
    rintro v K ⟨rfl, e1, e2⟩
    refine y_icmp_eq (tgt := 712) dL_law_671 (by decide) (fun _ => ?_) (fun z => absurd rfl z)
    exact fin K (LI.same (I := I) (t := t) hs1 hss2 tok0 hb (g1.frr e2) e1)
  · refine y_tabIn (off := 644) (tgt := 676) dL_law_32 (by decide) (by decide) (by decide) (by decide) ?_
    refine y_aload_n dL_law_676 rfl ?_
    refine y_arg (i := i) (j := 1) dL_law_677 dL_law_678 dL_law_679 dL_law_680 dL_law_681 (by decide) rfl rfl (by omega) hLb ?_
    refine y_cV (as := [_]) lk_RL_98 (c_fault hG hs1 ht hn29) (Or.inl ⟨5, by decide, k0, rfl⟩) rfl (by decide) (Nat.le_of_ble_eq_true rfl) dL_law_682 ?_
    rintro v J ⟨rfl, g1, g2⟩
    have hM1 := hM.fo g2
    refine y_aload_n dL_law_685 rfl ?_
    refine y_arg (i := i) (j := 1) dL_law_686 dL_law_687 dL_law_688 dL_law_689 dL_law_690 (by decide) rfl rfl (by omega) hLb ?_
    refine y_cV (as := [_]) lk_RL_101 (r_fault hM1 hs1 ht hn29) (Or.inl ⟨6, by decide, k356, rfl⟩) rfl (by decide) (Nat.le_of_ble_eq_true rfl) dL_law_691 ?_
    rintro v K ⟨rfl, e1, e2⟩
    refine y_icmp_eq (tgt := 712) dL_law_694 (by decide) (fun _ => ?_) (fun z => absurd rfl z)
    exact fin K (LI.same (I := I) (t := t) hs1 hss2 ht hb (g1.frr e2) e1)
  · refine y_tabIn (off := 667) (tgt := 699) dL_law_32 (by decide) (by decide) (by decide) (by decide) ?_
    refine y_aload_n dL_law_699 rfl ?_
    refine y_cV (as := []) lk_RL_102 (c_play hG hs1 ht hn29) (Or.inl ⟨5, by decide, k0, rfl⟩) rfl (by decide) (Nat.le_of_ble_eq_true rfl) dL_law_700 ?_
    rintro v J ⟨rfl, g1, g2⟩
    have hM1 := hM.fo g2
    refine y_aload_n dL_law_703 rfl ?_
    refine y_cV (as := []) lk_RL_105 (r_play hM1 hs1 hss ht hn29) (Or.inl ⟨6, by decide, k356, rfl⟩) rfl (by decide) (Nat.le_of_ble_eq_true rfl) dL_law_704 ?_
    rintro v K ⟨rfl, e1, e2⟩
    refine y_icmp_eq (tgt := 712) dL_law_707 (by decide) (fun _ => ?_) (fun z => absurd rfl z)
    obtain ⟨q1, q2⟩ := play_ok (t := t) hs1 hn29
    exact fin K (LI.chg hs1 hss2 ht hb q1 q2 (g1.frr e2) e1)
theorem law_loop {ω : q_Om} (hLb : q_L ω ≤ 2560) : ∀ (d i n : Nat) (I : q_Mem), q_L ω ≤ i + d → i ≤ q_L ω → i = 5 * n → LI I n → q_Y ω kL_law 18 [some (.ref 380), some (.ref 0), some (.ref 356), some (.int (nI i))] [] I (fun v _ => v = some (.int 1)) := by
  intro d
  induction d with
  | zero =>
    intro i n I hd hi hn hI
    have exit : q_Y ω kL_law 718 [some (.ref 380), some (.ref 0), some (.ref 356), some (.int (nI i))] [] I (fun v _ => v = some (.int 1)) := y_iconst (v := 1) dL_law_718 (by decide) (y_iret rfl rfl dL_law_719 rfl)
    refine y_iload_n dL_law_18 rfl ?_
    refine y_aload_n dL_law_19 rfl ?_
    refine y_slen dL_law_20 ?_
    refine y_iconst (v := nI 5) dL_law_21 (by decide) ?_
    refine y_isub dL_law_22 ?_
    refine y_icmp_gt (tgt := 718) dL_law_23 (by decide) (fun _ => exit) (fun q => absurd ?_ q)
    rcases Nat.lt_or_ge (q_L ω) 5 with z | z
    · exact Int32.lt_of_lt_of_le (pk_sneg (by omega) z) (nI_pos' (by omega))
    · rw [pk_sub z]
      exact (nI_ltI (by omega) (by omega)).mpr (by omega)
  | succ d ih =>
    intro i n I hd hi hn hI
    have exit : q_Y ω kL_law 718 [some (.ref 380), some (.ref 0), some (.ref 356), some (.int (nI i))] [] I (fun v _ => v = some (.int 1)) := y_iconst (v := 1) dL_law_718 (by decide) (y_iret rfl rfl dL_law_719 rfl)
    refine y_iload_n dL_law_18 rfl ?_
    refine y_aload_n dL_law_19 rfl ?_
    refine y_slen dL_law_20 ?_
    refine y_iconst (v := nI 5) dL_law_21 (by decide) ?_
    refine y_isub dL_law_22 ?_
    refine y_icmp_gt (tgt := 718) dL_law_23 (by decide) (fun _ => exit) (fun q => ?_)
    have h5 : 5 ≤ q_L ω := by
      rcases Nat.lt_or_ge (q_L ω) 5 with z | z
      · exact absurd (Int32.lt_of_lt_of_le (pk_sneg (by omega) z) (nI_pos' (by omega))) q
      · exact z
    have h6 : i ≤ q_L ω - 5 := by
      rw [pk_sub h5] at q
      rcases Nat.lt_or_ge (q_L ω - 5) i with z | z
      · exact absurd ((nI_ltI (by omega) (by omega)).mpr z) q
      · exact z
    refine law_round hLb (by omega) (by omega) hI (fun K hK => ?_)
    refine y_iinc (ls' := [_, _, _, _]) dL_law_712 rfl (nI_add i 5) rfl ?_
    refine y_goto (tgt := 18) dL_law_715 (by decide) ?_
    exact ih (i + 5) (n + 1) K (by omega) (by omega) (by omega) hK
