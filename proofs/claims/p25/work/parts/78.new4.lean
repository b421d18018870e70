/-! the history, the class and the reference are made -/
def hRs (ca : Nat → ClassId) (ad : Nat → Nat) : Nat → va_W
  | 0 => []
  | k + 1 => hRs ca ad k ++ sW ca (fun j => ad (2 + 50 * k + j))
def hB2 (ca : Nat → ClassId) (ad : Nat → Nat) (k : Nat) : va_W := [(ad 0, .inr (1, fsH (ad 1))), (ad 1, eQ (ca 14) 5 (sRefs ad 2 50 k))]
def hW (ca : Nat → ClassId) (ad : Nat → Nat) : va_W := hB2 ca ad 5 ++ hRs ca ad 5
theorem hRs_congr {ca : Nat → ClassId} {f g : Nat → Nat} : ∀ k, (∀ j, j < 2 + 50 * k → f j = g j) → hRs ca f k = hRs ca g k := by
  intro k
  induction k with
  | zero => intro _; rfl
  | succ k ih => intro h; rw [hRs, hRs, ih (fun j hj => h j (by omega)), sW_congr (fun j hj => h (2 + 50 * k + j) (by omega))]
theorem hW_congr {ca : Nat → ClassId} {f g : Nat → Nat} (h : ∀ j, j < 252 → f j = g j) : hW ca f = hW ca g := by
  unfold hW hB2
  rw [h 0 (by omega), h 1 (by omega), sRefs_congr (f := f) (g := g) (u := 2) (d := 50) (m := 5) (fun x hx => h _ (by omega)), hRs_congr 5 (fun j hj => h j (by omega))]
theorem i_History {D : va_G} {ca : Nat → ClassId} {h0 : Nat} : n_M D ca kX1_init [.ref h0] [(h0, .inr (1, n_z 1))] 251 2810 (fun w => ∃ ad : Nat → Nat, ad 0 = h0 ∧ w = hW ca ad) := by
  refine n_M.of pnX1_init rfl rfl (by simp [Value.category]) (Nat.le_of_ble_eq_true rfl) (fun A => ?_)
  have n3 : q_nf 3 = 14 := rfl
  have loop : ∀ (d k : Nat) (ad : Nat → Nat), k + d = 5 → ad 0 = h0 → n_X D ca A kX1_init 251 2810 (fun pc' _ st' ws' => decode kX1_init.2.1 pc' = .ok (.return_, 1) ∧ st' = [] ∧ ∃ ad : Nat → Nat, ad 0 = h0 ∧ ws' = hW ca ad) 14 [some (.ref h0), some (.int (nI k))] [] (hB2 ca ad k ++ hRs ca ad k) (1 + 50 * k) (5 + 561 * k) := by
    intro d
    induction d with
    | zero =>
      intro k ad hd e0
      obtain rfl : k = 5 := by omega
      refine n_iload_n dX1_init_14 rfl ?_
      refine n_aload_n dX1_init_15 rfl ?_
      refine n_get (q0 := 0) fl_RX1_11 (at_0 e0) rfl dX1_init_16 ?_
      refine n_alen (i := 1) (t0 := 4) (v := nI 5) rfl rfl rfl dX1_init_19 ?_
      refine n_icmp_ge (tgt := 42) (by omega) (by omega) dX1_init_20 (by decide) (fun q => ?_) (fun q => ?_)
      · exact n_end ⟨dX1_init_42, rfl, ad, e0, rfl⟩
      · omega
    | succ d ih =>
      intro k ad hd e0
      refine n_iload_n dX1_init_14 rfl ?_
      refine n_aload_n dX1_init_15 rfl ?_
      refine n_get (q0 := 0) fl_RX1_11 (at_0 e0) rfl dX1_init_16 ?_
      refine n_alen (i := 1) (t0 := 4) (v := nI 5) rfl rfl rfl dX1_init_19 ?_
      refine n_icmp_ge (tgt := 42) (by omega) (by omega) dX1_init_20 (by decide) (fun q => ?_) (fun q => ?_)
      · omega
      refine n_aload_n dX1_init_23 rfl ?_
      refine n_get (q0 := 0) fl_RX1_11 (at_0 e0) rfl dX1_init_24 ?_
      refine n_iload_n dX1_init_27 rfl ?_
      refine n_new (ci := 3) (by decide) nw_RX1_9.1 nw_RX1_9.2.1 nw_RX1_9.2.2 (by omega) (by omega) dX1_init_28 (fun a => ?_)
      refine n_dup dX1_init_31 rfl ?_
      refine n_cI (As := []) (n := 0) (wc := [(a, .inr (3, n_z 3))]) li_RX1_17 rfl i_Season rfl (by decide) (Nat.le_of_ble_eq_true rfl) (by omega) (by omega) dX1_init_32 ?_
      rintro w1 ⟨g, g0, rfl⟩
      refine n_aast (ci := 3) (i0 := 1) (t0 := 4) (qk := (hB2 ca ad k ++ hRs ca ad k).length) (vs := fsS (g 1) (g 2) (g 3)) (N := 5) (by decide) rfl rfl (at_end (at_0 g0)) rfl (by omega) (by decide) dX1_init_35 ?_
      obtain ⟨f, hf⟩ : ∃ f : Nat → Nat, f = fun j => if 2 + 50 * k ≤ j then g (j - (2 + 50 * k)) else ad j := ⟨_, rfl⟩
      have fo : ∀ j, j < 2 + 50 * k → f j = ad j := fun j hj => by rw [hf]; exact if_neg (by omega)
      have fg : ∀ j, f (2 + 50 * k + j) = g j := fun j => by
        rw [hf]
        show (if 2 + 50 * k ≤ 2 + 50 * k + j then g (2 + 50 * k + j - (2 + 50 * k)) else ad _) = g j
        rw [if_pos (by omega), Nat.add_sub_cancel_left]
      have nx := ih (k + 1) f (by omega) ((fo 0 (by omega)).trans e0)
      rw [show 1 + 50 * (k + 1) = 1 + 50 * k + 1 + 49 by omega, show 5 + 561 * (k + 1) = 5 + 561 * k + q_nf 3 + 547 by omega] at nx
      have hw : ((hB2 ca ad k ++ hRs ca ad k) ++ sW ca g).set 1 (ad 1, eQ (ca 14) 5 (va_up (sRefs ad 2 50 k) k (some a))) = hB2 ca f (k + 1) ++ hRs ca f (k + 1) := by
        rw [sRefs_up (f := f) (fun x hx => fo _ (by omega)) ((fg 0).trans g0), hRs, hRs_congr k (f := f) (g := ad) fo, sW_congr (fun j _ => fg j)]
        unfold hB2
        rw [fo 0 (by omega), fo 1 (by omega)]
        simp [List.append_assoc]
      rw [← hw] at nx
      refine n_iinc (ls' := [_, _]) dX1_init_36 rfl (nI_add _ 1) rfl ?_
      refine n_goto (tgt := 14) dX1_init_39 (by decide) ?_
      exact nx
  refine n_aload_n dX1_init_0 rfl ?_
  refine n_objInit oi_X1 (Nat.le_of_ble_eq_true rfl) (Nat.le_of_ble_eq_true rfl) dX1_init_1 ?_
  refine n_aload_n dX1_init_4 rfl ?_
  refine n_iconst (v := nI 5) dX1_init_5 (by decide) ?_
  refine n_newQ (C := RX3) (t0 := 4) (N := 5) nw_RX1_9.1 (fun U h => h.2.2.2) rfl rfl (by decide) (by decide) (by decide) dX1_init_6 (fun a1 => ?_)
  refine n_putF (q0 := 0) fl_RX1_11 rfl rfl rfl rfl ⟨rfl, rfl⟩ (Nat.le_of_ble_eq_true rfl) dX1_init_9 ?_
  refine n_iconst (v := nI 0) dX1_init_12 (by decide) ?_
  refine n_istore_n (ls' := [_, _]) dX1_init_13 (Nat.le_of_ble_eq_true rfl) rfl ?_
  have nx := loop 5 0 (fun j => if j = 0 then h0 else a1) rfl rfl
  have hw : hB2 ca (fun j => if j = 0 then h0 else a1) 0 ++ hRs ca (fun j => if j = 0 then h0 else a1) 0 = [(h0, .inr (1, fsH a1)), (a1, eQ (ca 14) 5 (fun _ => none))] := by
    unfold hB2
    rw [sRefs_0]
    rfl
  rw [hw] at nx
  exact nx
theorem n_cIN {D : va_G} {ca : Nat → ClassId} {A : Nat → Prop} {k : q_MI} {mc ms : Nat} {Fz : Nat → List (Option Value) → List Value → va_W → Prop} {pc : Nat} {ls : List (Option Value)} {st : List Value} {nc ns : Nat} {kc : q_MI} {As : List Value} {b idx n mc1 ms1 : Nat} {host : String} {w0 wc : va_W} {Q1 : va_W → Prop} (hl : q_wd (.initialized kc.1.cls) ∧ q_wd (.code kc.1 kc.2.1 kc.2.2.1 kc.2.2.2.1) ∧ (kc.1.cls ≠ "java/lang/invoke/MethodHandle" ∧ kc.1.cls ≠ "java/lang/invoke/VarHandle") ∧ (parseMethodDescriptor kc.1.desc).map (fun d => d.parameters.length) = some n ∧ kc.1.name = "<init>" ∧ q_wd (.instanceMethod kc.1)) (hnt : ∀ U, n_Nx U → va_Nw (.methodLinkNest k.1.cls idx kc.1 host) U) (hret : kc.2.2.2.1 = none) (hm : n_M D ca kc (.ref b :: As) wc mc1 ms1 Q1) (hn : As.length = n) (hf : q_fit kc k) (hst : (st.map fun v => v.category).sum ≤ 8) (hc : nc + mc1 ≤ mc) (hs : ns + ms1 ≤ ms) (hd : decode k.2.1 pc = .ok (.invokespecial idx, 3)) (kk : ∀ w1, Q1 w1 → n_X D ca A k mc ms Fz (pc + 3) ls st (w0 ++ w1) (nc + mc1) (ns + ms1)) : n_X D ca A k mc ms Fz pc ls (As.reverse ++ .ref b :: st) (w0 ++ wc) nc ns := by
  intro p l e R s m args below meth c QZ hC hR H locs LS h1 h2 hL hP hD hS
  obtain ⟨hx, hb, hml, hown, hts, hK, hA, hN, hfr, hlo, hce, hsl, hnm⟩ := id hC
  obtain ⟨g2, g3, g4, g5, g6, g7⟩ := hl
  have bf : ∀ {w : Cond}, q_wd w → w.before args s = true := fun h => hts _ (q_in h.1 h.2)
  have gw0 : ∀ (j : Nat) (q : Nat × va_E), wc[j]? = some q → (w0 ++ wc)[w0.length + j]? = some q := by
    intro j q hq
    rw [List.getElem?_append_right (by omega), Nat.add_sub_cancel_left]; exact hq
  have hPc : va_P D vwCl wc H := fun j q hq => hP _ q (gw0 j q hq)
  have hDc : va_D (fun _ => True) wc := ⟨fun i j p q hi hj e => by have := hD.1 _ _ p q (gw0 i p hi) (gw0 j q hj) e; omega, fun _ _ _ => trivial⟩
  have hF : ∀ q, va_A wc H.size q → A q := by
    intro q hq
    rcases hq with ⟨j, e, hj⟩ | hq
    · exact hD.2 _ _ (gw0 j _ hj)
    · exact hA q (Nat.le_trans hS.1 hq)
  refine va_callv (va_runIN (As := As) (rest := st) (host := host) ⟨hx, hb, hml, hown, hts⟩ (hm l H.size)
    ⟨⟨⟨rfl, rfl, Nat.le_trans hf.1 hfr, Nat.le_trans hf.2 hlo, pay_in hts (q_gws g3), by rw [← hret]; exact List.mem_cons_self⟩, by rw [← hret]; exact bf g3, bf g2, g4, q_ar g5, va_Nw.use rfl (hnt s hN)⟩, g6, bf g7⟩
    ⟨n_blind, fun U hU hW => ⟨rfl, by rw [hU], by rw [hU]; exact hPc, va_K.moved hW.alike hK, hDc, n_Nx.warm hW hN⟩⟩ rfl hn hL.1 rfl (lv_room hst) hd ⟨Nat.le_trans hc hce, Nat.le_trans hs hsl⟩) hS (fun q _ h => hF q h) hF (fun u t H1 locs1 ht hvm hw hB hz1 hk1 hS1 => ?_)
  obtain ⟨hP1, hD1⟩ := hB
  rw [ht] at hP1
  obtain ⟨hP2, hD2⟩ := n_join hP hD hk1 hF hP1 hD1
  exact kk u hw p l e R s m args below meth c QZ hC hR H1 locs1 LS hc hs hL hP2 hD2 hS1
theorem li_X4 : q_wd (.initialized kX4_init.1.cls) ∧ q_wd (.code kX4_init.1 kX4_init.2.1 kX4_init.2.2.1 kX4_init.2.2.2.1) ∧ (kX4_init.1.cls ≠ "java/lang/invoke/MethodHandle" ∧ kX4_init.1.cls ≠ "java/lang/invoke/VarHandle") ∧ (parseMethodDescriptor kX4_init.1.desc).map (fun d => d.parameters.length) = some 0 ∧ kX4_init.1.name = "<init>" ∧ q_wd (.instanceMethod kX4_init.1) := by decide +kernel
def tW (ca : Nat → ClassId) (ad : Nat → Nat) : va_W := [(ad 0, .inr (4, fsT (ad 1) (ad 2))), (ad 1, .inl (ca 11, 60, .inl (fun _ => 0))), (ad 2, eI ca 4)]
def xW (ca : Nat → ClassId) (ad : Nat → Nat) : va_W := ((([(ad 0, .inr (5, fsX (ad 1) (ad 51) (ad 101) (ad 353)))] ++ sW ca (fun j => ad (1 + j))) ++ sW ca (fun j => ad (51 + j))) ++ hW ca (fun j => ad (101 + j))) ++ tW ca (fun j => ad (353 + j))
theorem i_Class {D : va_G} {ca : Nat → ClassId} {h0 : Nat} : n_M D ca kX6_init [.ref h0] [(h0, .inr (5, n_z 5))] 355 4006 (fun w => ∃ ad : Nat → Nat, ad 0 = h0 ∧ w = xW ca ad) := by
  refine n_M.of pnX6_init rfl rfl (by simp [Value.category]) (Nat.le_of_ble_eq_true rfl) (fun A => ?_)
  refine n_aload_n dX6_init_0 rfl ?_
  refine n_objInit oi_X6 (Nat.le_of_ble_eq_true rfl) (Nat.le_of_ble_eq_true rfl) dX6_init_1 ?_
  refine n_aload_n dX6_init_4 rfl ?_
  refine n_new (ci := 3) (by decide) nw_RX6_7.1 nw_RX6_7.2.1 nw_RX6_7.2.2 (by decide) (by decide) dX6_init_5 (fun a1 => ?_)
  refine n_dup dX6_init_8 rfl ?_
  refine n_cI (As := []) (n := 0) (wc := [(a1, .inr (3, n_z 3))]) li_RX6_9 rfl i_Season rfl (by decide) (Nat.le_of_ble_eq_true rfl) (by decide) (by decide) dX6_init_9 ?_
  rintro w1 ⟨f1, e1, rfl⟩
  refine n_putF (q0 := 0) fl_RX6_10 rfl rfl rfl rfl ⟨rfl, rfl⟩ (Nat.le_of_ble_eq_true rfl) dX6_init_12 ?_
  refine n_aload_n dX6_init_15 rfl ?_
  refine n_new (ci := 3) (by decide) nw_RX6_7.1 nw_RX6_7.2.1 nw_RX6_7.2.2 (by decide) (by decide) dX6_init_16 (fun a2 => ?_)
  refine n_dup dX6_init_19 rfl ?_
  refine n_cI (As := []) (n := 0) (wc := [(a2, .inr (3, n_z 3))]) li_RX6_9 rfl i_Season rfl (by decide) (Nat.le_of_ble_eq_true rfl) (by decide) (by decide) dX6_init_20 ?_
  rintro w2 ⟨f2, e2, rfl⟩
  refine n_putF (q0 := 0) fl_RX6_16 rfl rfl rfl rfl ⟨rfl, rfl⟩ (Nat.le_of_ble_eq_true rfl) dX6_init_23 ?_
  refine n_aload_n dX6_init_26 rfl ?_
  refine n_new (ci := 1) (by decide) nw_RX6_19.1 nw_RX6_19.2.1 nw_RX6_19.2.2 (by decide) (by decide) dX6_init_27 (fun a3 => ?_)
  refine n_dup dX6_init_30 rfl ?_
  refine n_cI (As := []) (n := 0) (wc := [(a3, .inr (1, n_z 1))]) li_RX6_21 rfl i_History rfl (by decide) (Nat.le_of_ble_eq_true rfl) (by decide) (by decide) dX6_init_31 ?_
  rintro w3 ⟨f3, e3, rfl⟩
  refine n_putF (q0 := 0) fl_RX6_22 rfl rfl rfl rfl ⟨rfl, rfl⟩ (Nat.le_of_ble_eq_true rfl) dX6_init_34 ?_
  refine n_aload_n dX6_init_37 rfl ?_
  refine n_new (ci := 4) (by decide) nw_RX6_26.1 nw_RX6_26.2.1 nw_RX6_26.2.2 (by decide) (by decide) dX6_init_38 (fun a4 => ?_)
  refine n_dup dX6_init_41 rfl ?_
  refine n_cIN (As := []) (n := 0) (host := RX6) (wc := [(a4, .inr (4, n_z 4))]) li_X4 (fun U h => h.1) rfl i_Text rfl (by decide) (Nat.le_of_ble_eq_true rfl) (by decide) (by decide) dX6_init_42 ?_
  rintro w4 ⟨t1, t2, rfl⟩
  refine n_putF (q0 := 0) fl_RX6_29 rfl rfl rfl rfl ⟨rfl, rfl⟩ (Nat.le_of_ble_eq_true rfl) dX6_init_45 ?_
  obtain ⟨f, hf⟩ : ∃ f : Nat → Nat, f = fun j => if j = 0 then h0 else if j < 51 then f1 (j - 1) else if j < 101 then f2 (j - 51) else if j < 353 then f3 (j - 101) else if j = 353 then a4 else if j = 354 then t1 else t2 := ⟨_, rfl⟩
  have g1 : ∀ j, j < 50 → f (1 + j) = f1 j := fun j hj => by
    rw [hf]
    show (if 1 + j = 0 then h0 else if 1 + j < 51 then f1 (1 + j - 1) else _) = _
    rw [if_neg (by omega), if_pos (by omega), Nat.add_sub_cancel_left]
  have g2 : ∀ j, j < 50 → f (51 + j) = f2 j := fun j hj => by
    rw [hf]
    show (if 51 + j = 0 then h0 else if 51 + j < 51 then f1 (51 + j - 1) else if 51 + j < 101 then f2 (51 + j - 51) else _) = _
    rw [if_neg (by omega), if_neg (by omega), if_pos (by omega), Nat.add_sub_cancel_left]
  have g3 : ∀ j, j < 252 → f (101 + j) = f3 j := fun j hj => by
    rw [hf]
    show (if 101 + j = 0 then h0 else if 101 + j < 51 then f1 (101 + j - 1) else if 101 + j < 101 then f2 (101 + j - 51) else if 101 + j < 353 then f3 (101 + j - 101) else _) = _
    rw [if_neg (by omega), if_neg (by omega), if_neg (by omega), if_pos (by omega), Nat.add_sub_cancel_left]
  refine n_end ⟨dX6_init_48, rfl, f, by rw [hf]; rfl, ?_⟩
  have ht : tW ca (fun j => f (353 + j)) = [(a4, .inr (4, fsT t1 t2)), (t1, .inl (ca 11, 60, .inl (fun _ => 0))), (t2, eI ca 4)] := by rw [hf]; rfl
  unfold xW
  rw [sW_congr g1, sW_congr g2, hW_congr g3, ht, show f 1 = a1 from (g1 0 (by omega)).trans e1, show f 51 = a2 from (g2 0 (by omega)).trans e2, show f 101 = a3 from (g3 0 (by omega)).trans e3, show f 0 = h0 by rw [hf]; rfl, show f 353 = a4 by rw [hf]; rfl]
  rfl
