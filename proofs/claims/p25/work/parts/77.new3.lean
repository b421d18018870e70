/-! a season is made -/
abbrev eQ (cA : ClassId) (n : Nat) (f : Nat → Option Nat) : va_E := .inl (cA, n, .inr (.inr (.inr (.inr f))))
def sRefs (ad : Nat → Nat) (u d m : Nat) : Nat → Option Nat := fun x => if x < m then some (ad (u + d * x)) else none
theorem sRefs_0 (ad : Nat → Nat) (u d : Nat) : sRefs ad u d 0 = fun _ => none := funext fun _ => if_neg (Nat.not_lt_zero _)
theorem sRefs_congr {f g : Nat → Nat} {u d m : Nat} (h : ∀ x, x < m → f (u + d * x) = g (u + d * x)) : sRefs f u d m = sRefs g u d m := by
  funext x
  unfold sRefs
  by_cases e : x < m
  · rw [if_pos e, if_pos e, h x e]
  · rw [if_neg e, if_neg e]
theorem sRefs_up {f g : Nat → Nat} {u d m q : Nat} (h : ∀ x, x < m → f (u + d * x) = g (u + d * x)) (hq : f (u + d * m) = q) : va_up (sRefs g u d m) m (some q) = sRefs f u d (m + 1) := by
  funext x
  by_cases e : x = m
  · subst e
    rw [va_up_self, sRefs, if_pos (Nat.lt_succ_self _), hq]
  · rw [va_up_ne _ _ e]
    unfold sRefs
    by_cases e2 : x < m
    · rw [if_pos e2, if_pos (by omega), h x e2]
    · rw [if_neg e2, if_neg (by omega)]
def sB4 (ca : Nat → ClassId) (ad : Nat → Nat) (i j : Nat) : va_W := [(ad 0, .inr (3, fsS (ad 1) (ad 2) (ad 3))), (ad 1, eQ (ca 12) 8 (sRefs ad 4 2 i)), (ad 2, eQ (ca 13) 30 (sRefs ad 20 1 j)), (ad 3, eI ca 5)]
def sCs (ca : Nat → ClassId) (ad : Nat → Nat) : Nat → va_W
  | 0 => []
  | k + 1 => sCs ca ad k ++ [(ad (4 + 2 * k), .inr (0, fsC (nI k) (ad (5 + 2 * k)))), (ad (5 + 2 * k), eI ca 20)]
def sPs (ad : Nat → Nat) : Nat → va_W
  | 0 => []
  | k + 1 => sPs ad k ++ [(ad (20 + k), .inr (2, fsP (nI k)))]
def sW (ca : Nat → ClassId) (ad : Nat → Nat) : va_W := sB4 ca ad 8 30 ++ (sCs ca ad 8 ++ sPs ad 30)
theorem sCs_congr {ca : Nat → ClassId} {f g : Nat → Nat} : ∀ k, (∀ j, j < 4 + 2 * k → f j = g j) → sCs ca f k = sCs ca g k := by
  intro k
  induction k with
  | zero => intro _; rfl
  | succ k ih => intro h; rw [sCs, sCs, ih (fun j hj => h j (by omega)), h (4 + 2 * k) (by omega), h (5 + 2 * k) (by omega)]
theorem sPs_congr {f g : Nat → Nat} : ∀ k, (∀ j, j < 20 + k → f j = g j) → sPs f k = sPs g k := by
  intro k
  induction k with
  | zero => intro _; rfl
  | succ k ih => intro h; rw [sPs, sPs, ih (fun j hj => h j (by omega)), h (20 + k) (by omega)]
theorem sB4_congr {ca : Nat → ClassId} {f g : Nat → Nat} {i j : Nat} (h : ∀ x, x < 4 → f x = g x) (h1 : ∀ x, x < i → f (4 + 2 * x) = g (4 + 2 * x)) (h2 : ∀ x, x < j → f (20 + 1 * x) = g (20 + 1 * x)) : sB4 ca f i j = sB4 ca g i j := by
  unfold sB4
  rw [h 0 (by omega), h 1 (by omega), h 2 (by omega), h 3 (by omega), sRefs_congr h1, sRefs_congr h2]
theorem sW_congr {ca : Nat → ClassId} {f g : Nat → Nat} (h : ∀ j, j < 50 → f j = g j) : sW ca f = sW ca g := by
  unfold sW
  rw [sB4_congr (fun x hx => h x (by omega)) (fun x hx => h _ (by omega)) (fun x hx => h _ (by omega)), sCs_congr 8 (fun j hj => h j (by omega)), sPs_congr 30 (fun j hj => h j (by omega))]
theorem at_end {w0 w1 : va_W} {x : Nat × va_E} (h : w1[0]? = some x) : (w0 ++ w1)[w0.length]? = some x := by
  rw [List.getElem?_append_right (Nat.le_refl _), Nat.sub_self]; exact h
theorem at_0 {x y : Nat} {e : va_E} {w : va_W} (h : y = x) : ((y, e) :: w)[0]? = some (x, e) := by rw [h]; rfl
theorem i_Season {D : va_G} {ca : Nat → ClassId} {h0 : Nat} : n_M D ca kX3_init [.ref h0] [(h0, .inr (3, n_z 3))] 49 547 (fun w => ∃ ad : Nat → Nat, ad 0 = h0 ∧ w = sW ca ad) := by
  refine n_M.of pnX3_init rfl rfl (by simp [Value.category]) (Nat.le_of_ble_eq_true rfl) (fun A => ?_)
  have n0 : q_nf 0 = 13 := rfl
  have n2 : q_nf 2 = 8 := rfl
  have loop2 : ∀ (d k : Nat) (ad : Nat → Nat), k + d = 30 → ad 0 = h0 → n_X D ca A kX3_init 49 547 (fun pc' _ st' ws' => decode kX3_init.2.1 pc' = .ok (.return_, 1) ∧ st' = [] ∧ ∃ ad : Nat → Nat, ad 0 = h0 ∧ ws' = sW ca ad) 62 [some (.ref h0), some (.int (nI k))] [] (sB4 ca ad 8 k ++ (sCs ca ad 8 ++ sPs ad k)) (19 + k) (307 + 8 * k) := by
    intro d
    induction d with
    | zero =>
      intro k ad hd e0
      obtain rfl : k = 30 := by omega
      refine n_iload_n dX3_init_62 rfl ?_
      refine n_aload_n dX3_init_63 rfl ?_
      refine n_get (q0 := 0) fl_RX3_19 (at_0 e0) rfl dX3_init_64 ?_
      refine n_alen (i := 2) (t0 := 3) (v := nI 30) rfl rfl rfl dX3_init_67 ?_
      refine n_icmp_ge (tgt := 91) (by omega) (by omega) dX3_init_68 (by decide) (fun q => ?_) (fun q => ?_)
      · exact n_end ⟨dX3_init_91, rfl, ad, e0, rfl⟩
      · omega
    | succ d ih =>
      intro k ad hd e0
      refine n_iload_n dX3_init_62 rfl ?_
      refine n_aload_n dX3_init_63 rfl ?_
      refine n_get (q0 := 0) fl_RX3_19 (at_0 e0) rfl dX3_init_64 ?_
      refine n_alen (i := 2) (t0 := 3) (v := nI 30) rfl rfl rfl dX3_init_67 ?_
      refine n_icmp_ge (tgt := 91) (by omega) (by omega) dX3_init_68 (by decide) (fun q => ?_) (fun q => ?_)
      · omega
      refine n_aload_n dX3_init_71 rfl ?_
      refine n_get (q0 := 0) fl_RX3_19 (at_0 e0) rfl dX3_init_72 ?_
      refine n_iload_n dX3_init_75 rfl ?_
      refine n_new (ci := 2) (by decide) nw_RX3_17.1 nw_RX3_17.2.1 nw_RX3_17.2.2 (by omega) (by omega) dX3_init_76 (fun a => ?_)
      refine n_dup dX3_init_79 rfl ?_
      refine n_iload_n dX3_init_80 rfl ?_
      refine n_cI (As := [.int (nI k)]) (n := 1) (wc := [(a, .inr (2, n_z 2))]) li_RX3_30 rfl i_Person rfl (by decide) (Nat.le_of_ble_eq_true rfl) (by omega) (by omega) dX3_init_81 ?_
      rintro w1 rfl
      refine n_aast (ci := 2) (i0 := 2) (t0 := 3) (qk := (sB4 ca ad 8 k ++ (sCs ca ad 8 ++ sPs ad k)).length) (N := 30) (by decide) rfl rfl (at_end rfl) rfl (by omega) (by decide) dX3_init_84 ?_
      obtain ⟨f, hf⟩ : ∃ f : Nat → Nat, f = fun j => if j = 20 + k then a else ad j := ⟨_, rfl⟩
      have fo : ∀ j, j < 20 + k → f j = ad j := fun j hj => by rw [hf]; exact if_neg (by omega)
      have fa : f (20 + k) = a := by rw [hf]; exact if_pos rfl
      have nx := ih (k + 1) f (by omega) ((fo 0 (by omega)).trans e0)
      rw [show 19 + (k + 1) = 19 + k + 1 + 0 by omega, show 307 + 8 * (k + 1) = 307 + 8 * k + q_nf 2 + 0 by omega] at nx
      have hw : ((sB4 ca ad 8 k ++ (sCs ca ad 8 ++ sPs ad k)) ++ [(a, (.inr (2, fsP (nI k)) : va_E))]).set 2 (ad 2, eQ (ca 13) 30 (va_up (sRefs ad 20 1 k) k (some a))) = sB4 ca f 8 (k + 1) ++ (sCs ca f 8 ++ sPs f (k + 1)) := by
        rw [sRefs_up (f := f) (fun x hx => fo _ (by omega)) (by rw [Nat.one_mul]; exact fa), sPs, sCs_congr 8 (f := f) (g := ad) (fun j hj => fo j (by omega)), sPs_congr k (f := f) (g := ad) fo, fa]
        unfold sB4
        rw [fo 0 (by omega), fo 1 (by omega), fo 2 (by omega), fo 3 (by omega), sRefs_congr (f := f) (g := ad) (u := 4) (d := 2) (m := 8) (fun x hx => fo _ (by omega))]
        simp [List.append_assoc]
      rw [← hw] at nx
      refine n_iinc (ls' := [_, _]) dX3_init_85 rfl (nI_add _ 1) rfl ?_
      refine n_goto (tgt := 62) dX3_init_88 (by decide) ?_
      exact nx
  have loop1 : ∀ (d k : Nat) (ad : Nat → Nat), k + d = 8 → ad 0 = h0 → n_X D ca A kX3_init 49 547 (fun pc' _ st' ws' => decode kX3_init.2.1 pc' = .ok (.return_, 1) ∧ st' = [] ∧ ∃ ad : Nat → Nat, ad 0 = h0 ∧ ws' = sW ca ad) 31 [some (.ref h0), some (.int (nI k))] [] (sB4 ca ad k 0 ++ sCs ca ad k) (3 + 2 * k) (43 + 33 * k) := by
    intro d
    induction d with
    | zero =>
      intro k ad hd e0
      obtain rfl : k = 8 := by omega
      refine n_iload_n dX3_init_31 rfl ?_
      refine n_aload_n dX3_init_32 rfl ?_
      refine n_get (q0 := 0) fl_RX3_11 (at_0 e0) rfl dX3_init_33 ?_
      refine n_alen (i := 1) (t0 := 2) (v := nI 8) rfl rfl rfl dX3_init_36 ?_
      refine n_icmp_ge (tgt := 60) (by omega) (by omega) dX3_init_37 (by decide) (fun q => ?_) (fun q => ?_)
      · refine n_iconst (v := nI 0) dX3_init_60 (by decide) ?_
        refine n_istore_n (ls' := [_, _]) dX3_init_61 (Nat.le_of_ble_eq_true rfl) rfl ?_
        have nx := loop2 30 0 ad rfl e0
        rw [sPs, List.append_nil] at nx
        exact nx
      · omega
    | succ d ih =>
      intro k ad hd e0
      refine n_iload_n dX3_init_31 rfl ?_
      refine n_aload_n dX3_init_32 rfl ?_
      refine n_get (q0 := 0) fl_RX3_11 (at_0 e0) rfl dX3_init_33 ?_
      refine n_alen (i := 1) (t0 := 2) (v := nI 8) rfl rfl rfl dX3_init_36 ?_
      refine n_icmp_ge (tgt := 60) (by omega) (by omega) dX3_init_37 (by decide) (fun q => ?_) (fun q => ?_)
      · omega
      refine n_aload_n dX3_init_40 rfl ?_
      refine n_get (q0 := 0) fl_RX3_11 (at_0 e0) rfl dX3_init_41 ?_
      refine n_iload_n dX3_init_44 rfl ?_
      refine n_new (ci := 0) (by decide) nw_RX3_9.1 nw_RX3_9.2.1 nw_RX3_9.2.2 (by omega) (by omega) dX3_init_45 (fun a => ?_)
      refine n_dup dX3_init_48 rfl ?_
      refine n_iload_n dX3_init_49 rfl ?_
      refine n_cI (As := [.int (nI k)]) (n := 1) (wc := [(a, .inr (0, n_z 0))]) li_RX3_27 rfl i_Course rfl (by decide) (Nat.le_of_ble_eq_true rfl) (by omega) (by omega) dX3_init_50 ?_
      rintro w1 ⟨m, rfl⟩
      refine n_aast (ci := 0) (i0 := 1) (t0 := 2) (qk := (sB4 ca ad k 0 ++ sCs ca ad k).length) (N := 8) (by decide) rfl rfl (at_end rfl) rfl (by omega) (by decide) dX3_init_53 ?_
      obtain ⟨f, hf⟩ : ∃ f : Nat → Nat, f = fun j => if j = 4 + 2 * k then a else if j = 5 + 2 * k then m else ad j := ⟨_, rfl⟩
      have fo : ∀ j, j < 4 + 2 * k → f j = ad j := fun j hj => by rw [hf]; show (if j = 4 + 2 * k then a else if j = 5 + 2 * k then m else ad j) = ad j; rw [if_neg (by omega), if_neg (by omega)]
      have fa : f (4 + 2 * k) = a := by rw [hf]; exact if_pos rfl
      have fm : f (5 + 2 * k) = m := by rw [hf]; show (if 5 + 2 * k = 4 + 2 * k then a else if 5 + 2 * k = 5 + 2 * k then m else ad _) = m; rw [if_neg (by omega), if_pos rfl]
      have nx := ih (k + 1) f (by omega) ((fo 0 (by omega)).trans e0)
      rw [show 3 + 2 * (k + 1) = 3 + 2 * k + 1 + 1 by omega, show 43 + 33 * (k + 1) = 43 + 33 * k + q_nf 0 + 20 by omega] at nx
      have hw : ((sB4 ca ad k 0 ++ sCs ca ad k) ++ [(a, (.inr (0, fsC (nI k) m) : va_E)), (m, eI ca 20)]).set 1 (ad 1, eQ (ca 12) 8 (va_up (sRefs ad 4 2 k) k (some a))) = sB4 ca f (k + 1) 0 ++ sCs ca f (k + 1) := by
        rw [sRefs_up (f := f) (fun x hx => fo _ (by omega)) fa, sCs, sCs_congr k (f := f) (g := ad) fo, fa, fm]
        unfold sB4
        rw [fo 0 (by omega), fo 1 (by omega), fo 2 (by omega), fo 3 (by omega), sRefs_0, sRefs_0]
        simp [List.append_assoc]
      rw [← hw] at nx
      refine n_iinc (ls' := [_, _]) dX3_init_54 rfl (nI_add _ 1) rfl ?_
      refine n_goto (tgt := 31) dX3_init_57 (by decide) ?_
      exact nx
  refine n_aload_n dX3_init_0 rfl ?_
  refine n_objInit oi_X3 (Nat.le_of_ble_eq_true rfl) (Nat.le_of_ble_eq_true rfl) dX3_init_1 ?_
  refine n_aload_n dX3_init_4 rfl ?_
  refine n_bipush (v := nI 8) dX3_init_5 (by decide) ?_
  refine n_newQ (C := RX0) (t0 := 2) (N := 8) nw_RX3_9.1 (fun U h => h.2.1) rfl rfl (by decide) (by decide) (by decide) dX3_init_7 (fun a1 => ?_)
  refine n_putF (q0 := 0) fl_RX3_11 rfl rfl rfl rfl ⟨rfl, rfl⟩ (Nat.le_of_ble_eq_true rfl) dX3_init_10 ?_
  refine n_aload_n dX3_init_13 rfl ?_
  refine n_bipush (v := nI 30) dX3_init_14 (by decide) ?_
  refine n_newQ (C := RX2) (t0 := 3) (N := 30) nw_RX3_17.1 (fun U h => h.2.2.1) rfl rfl (by decide) (by decide) (by decide) dX3_init_16 (fun a2 => ?_)
  refine n_putF (q0 := 0) fl_RX3_19 rfl rfl rfl rfl ⟨rfl, rfl⟩ (Nat.le_of_ble_eq_true rfl) dX3_init_19 ?_
  refine n_aload_n dX3_init_22 rfl ?_
  refine n_iconst (v := nI 5) dX3_init_23 (by decide) ?_
  refine n_newI ac_int rfl (by decide) (by decide) (by decide) dX3_init_24 (fun a3 => ?_)
  refine n_putF (q0 := 0) fl_RX3_23 rfl rfl rfl rfl ⟨rfl, rfl⟩ (Nat.le_of_ble_eq_true rfl) dX3_init_26 ?_
  refine n_iconst (v := nI 0) dX3_init_29 (by decide) ?_
  refine n_istore_n (ls' := [_, _]) dX3_init_30 (Nat.le_of_ble_eq_true rfl) rfl ?_
  have nx := loop1 8 0 (fun j => if j = 0 then h0 else if j = 1 then a1 else if j = 2 then a2 else a3) rfl rfl
  have hw : sB4 ca (fun j => if j = 0 then h0 else if j = 1 then a1 else if j = 2 then a2 else a3) 0 0 ++ sCs ca (fun j => if j = 0 then h0 else if j = 1 then a1 else if j = 2 then a2 else a3) 0 = [(h0, .inr (3, fsS a1 a2 a3)), (a1, eQ (ca 12) 8 (fun _ => none)), (a2, eQ (ca 13) 30 (fun _ => none)), (a3, eI ca 5)] := by
    unfold sB4
    rw [sRefs_0, sRefs_0]
    rfl
  rw [hw] at nx
  exact nx
