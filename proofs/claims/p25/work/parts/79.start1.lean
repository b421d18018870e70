/-! what is made stands in the layout: the cells one by one -/
def sE (ca : Nat → ClassId) (ad : Nat → Nat) (j : Nat) : va_E :=
  if j = 0 then .inr (3, fsS (ad 1) (ad 2) (ad 3)) else if j = 1 then eQ (ca 12) 8 (sRefs ad 4 2 8) else if j = 2 then eQ (ca 13) 30 (sRefs ad 20 1 30) else if j = 3 then eI ca 5 else if j < 20 then (if j % 2 = 0 then .inr (0, fsC (nI ((j - 4) / 2)) (ad (j + 1))) else eI ca 20) else .inr (2, fsP (nI (j - 20)))
theorem sCs_len (ca : Nat → ClassId) (ad : Nat → Nat) : ∀ k, (sCs ca ad k).length = 2 * k := by
  intro k
  induction k with
  | zero => rfl
  | succ k ih => rw [sCs, List.length_append, ih]; show 2 * k + 2 = _; omega
theorem sPs_len (ad : Nat → Nat) : ∀ k, (sPs ad k).length = k := by
  intro k
  induction k with
  | zero => rfl
  | succ k ih => rw [sPs, List.length_append, ih]; rfl
theorem sW_len (ca : Nat → ClassId) (ad : Nat → Nat) : (sW ca ad).length = 50 := by
  rw [sW, List.length_append, List.length_append, sCs_len, sPs_len]; rfl
theorem hRs_len (ca : Nat → ClassId) (ad : Nat → Nat) : ∀ k, (hRs ca ad k).length = 50 * k := by
  intro k
  induction k with
  | zero => rfl
  | succ k ih => rw [hRs, List.length_append, ih, sW_len]; omega
theorem hW_len (ca : Nat → ClassId) (ad : Nat → Nat) : (hW ca ad).length = 252 := by
  rw [hW, List.length_append, hRs_len]; rfl
theorem ap_l {α : Type} {a b : List α} {i n : Nat} {x : Option α} (hn : a.length = n) (hi : i < n) (h : a[i]? = x) : (a ++ b)[i]? = x := by
  rw [List.getElem?_append_left (by omega)]; exact h
theorem ap_r {α : Type} {a b : List α} {i n : Nat} {x : Option α} (hn : a.length = n) (hi : n ≤ i) (h : b[i - n]? = x) : (a ++ b)[i]? = x := by
  rw [List.getElem?_append_right (by omega), hn]; exact h
theorem sCs_get {ca : Nat → ClassId} {ad : Nat → Nat} : ∀ k i, k ≤ 8 → i < 2 * k → (sCs ca ad k)[i]? = some (ad (4 + i), sE ca ad (4 + i)) := by
  intro k
  induction k with
  | zero => intro i _ hi; omega
  | succ k ih =>
    intro i hk hi
    rw [sCs]
    rcases Nat.lt_or_ge i (2 * k) with q | q
    · exact ap_l (sCs_len ca ad k) q (ih i (by omega) q)
    · refine ap_r (sCs_len ca ad k) q ?_
      have h2 : i = 2 * k ∨ i = 2 * k + 1 := by omega
      rcases h2 with rfl | rfl
      · rw [Nat.sub_self]
        have : sE ca ad (4 + 2 * k) = .inr (0, fsC (nI k) (ad (5 + 2 * k))) := by
          unfold sE
          rw [if_neg (by omega), if_neg (by omega), if_neg (by omega), if_neg (by omega), if_pos (by omega), if_pos (by omega), show (4 + 2 * k - 4) / 2 = k by omega, show 4 + 2 * k + 1 = 5 + 2 * k by omega]
        rw [this]
        rfl
      · rw [show 2 * k + 1 - 2 * k = 1 by omega, show 4 + (2 * k + 1) = 5 + 2 * k by omega]
        have : sE ca ad (5 + 2 * k) = eI ca 20 := by
          unfold sE
          rw [if_neg (by omega), if_neg (by omega), if_neg (by omega), if_neg (by omega), if_pos (by omega), if_neg (by omega)]
        rw [this]
        rfl
theorem sPs_get {ca : Nat → ClassId} {ad : Nat → Nat} : ∀ k i, i < k → (sPs ad k)[i]? = some (ad (20 + i), sE ca ad (20 + i)) := by
  intro k
  induction k with
  | zero => intro i hi; omega
  | succ k ih =>
    intro i hi
    rw [sPs]
    rcases Nat.lt_or_ge i k with q | q
    · exact ap_l (sPs_len ad k) q (ih i q)
    · refine ap_r (sPs_len ad k) q ?_
      obtain rfl : i = k := by omega
      rw [Nat.sub_self]
      have : sE ca ad (20 + i) = .inr (2, fsP (nI i)) := by
        unfold sE
        rw [if_neg (by omega), if_neg (by omega), if_neg (by omega), if_neg (by omega), if_neg (by omega), show 20 + i - 20 = i by omega]
      rw [this]
      rfl
theorem sW_get {ca : Nat → ClassId} {ad : Nat → Nat} {j : Nat} (hj : j < 50) : (sW ca ad)[j]? = some (ad j, sE ca ad j) := by
  unfold sW
  rcases Nat.lt_or_ge j 4 with q | q
  · refine ap_l (n := 4) rfl q ?_
    have h4 : j = 0 ∨ j = 1 ∨ j = 2 ∨ j = 3 := by omega
    rcases h4 with rfl | rfl | rfl | rfl <;> rfl
  · refine ap_r (n := 4) rfl q ?_
    rcases Nat.lt_or_ge j 20 with q2 | q2
    · refine ap_l (n := 16) (sCs_len ca ad 8) (by omega) ?_
      rw [sCs_get 8 (j - 4) (Nat.le_refl _) (by omega), show 4 + (j - 4) = j by omega]
    · refine ap_r (n := 16) (sCs_len ca ad 8) (by omega) ?_
      rw [show j - 4 - 16 = j - 20 by omega, sPs_get (ca := ca) 30 (j - 20) (by omega), show 20 + (j - 20) = j by omega]
theorem hRs_get {ca : Nat → ClassId} {ad : Nat → Nat} : ∀ k m j, m < k → j < 50 → (hRs ca ad k)[50 * m + j]? = some (ad (2 + 50 * m + j), sE ca (fun x => ad (2 + 50 * m + x)) j) := by
  intro k
  induction k with
  | zero => intro m j hm; omega
  | succ k ih =>
    intro m j hm hj
    rw [hRs]
    rcases Nat.lt_or_ge m k with q | q
    · exact ap_l (hRs_len ca ad k) (by omega) (ih m j q hj)
    · obtain rfl : m = k := by omega
      refine ap_r (hRs_len ca ad m) (by omega) ?_
      rw [Nat.add_sub_cancel_left, sW_get hj]
def aW (ca : Nat → ClassId) (ad : Nat → Nat) : va_W := xW ca ad
theorem xW_len (ca : Nat → ClassId) (ad : Nat → Nat) : (xW ca ad).length = 356 := by
  unfold xW
  rw [List.length_append, List.length_append, List.length_append, List.length_append, sW_len, sW_len, hW_len]; rfl
/-- a season's cells -/
theorem aW_S {ca : Nat → ClassId} {ad : Nat → Nat} {b j : Nat} (hb : b = 1 ∨ b = 51 ∨ b = 103 ∨ b = 153 ∨ b = 203 ∨ b = 253 ∨ b = 303) (hj : j < 50) : (aW ca ad)[b + j]? = some (ad (b + j), sE ca (fun x => ad (b + x)) j) := by
  unfold aW
  unfold xW
  refine ap_l (n := 353) (by rw [List.length_append, List.length_append, List.length_append, sW_len, sW_len, hW_len]; rfl) (by omega) ?_
  have hs : ∀ m, m < 5 → b = 103 + 50 * m → ((([(ad 0, (.inr (5, fsX (ad 1) (ad 51) (ad 101) (ad 353)) : va_E))] ++ sW ca (fun j => ad (1 + j))) ++ sW ca (fun j => ad (51 + j))) ++ hW ca (fun j => ad (101 + j)))[b + j]? = some (ad (b + j), sE ca (fun x => ad (b + x)) j) := by
    intro m hm hbm
    refine ap_r (n := 101) (by rw [List.length_append, List.length_append, sW_len, sW_len]; rfl) (by omega) ?_
    unfold hW
    refine ap_r (n := 2) rfl (by omega) ?_
    have e1 : ∀ x, 101 + (2 + 50 * m + x) = b + x := fun x => by omega
    rw [show b + j - 101 - 2 = 50 * m + j by omega, hRs_get 5 m j hm hj]
    simp only [e1]
  rcases hb with rfl | rfl | rfl | rfl | rfl | rfl | rfl
  · refine ap_l (n := 101) (by rw [List.length_append, List.length_append, sW_len, sW_len]; rfl) (by omega) ?_
    refine ap_l (n := 51) (by rw [List.length_append, sW_len]; rfl) (by omega) ?_
    refine ap_r (n := 1) rfl (by omega) ?_
    rw [Nat.add_sub_cancel_left, sW_get hj]
  · refine ap_l (n := 101) (by rw [List.length_append, List.length_append, sW_len, sW_len]; rfl) (by omega) ?_
    refine ap_r (n := 51) (by rw [List.length_append, sW_len]; rfl) (by omega) ?_
    rw [Nat.add_sub_cancel_left, sW_get hj]
  · exact hs 0 (by omega) rfl
  · exact hs 1 (by omega) rfl
  · exact hs 2 (by omega) rfl
  · exact hs 3 (by omega) rfl
  · exact hs 4 (by omega) rfl
theorem aW_0 {ca : Nat → ClassId} {ad : Nat → Nat} : (aW ca ad)[0]? = some (ad 0, .inr (5, fsX (ad 1) (ad 51) (ad 101) (ad 353))) := by
  unfold aW
  rfl
theorem aW_h {ca : Nat → ClassId} {ad : Nat → Nat} : (aW ca ad)[101]? = some (ad 101, .inr (1, fsH (ad 102))) ∧ (aW ca ad)[102]? = some (ad 102, eQ (ca 14) 5 (sRefs (fun j => ad (101 + j)) 2 50 5)) := by
  unfold aW
  have h1 : (([(ad 0, (.inr (5, fsX (ad 1) (ad 51) (ad 101) (ad 353)) : va_E))] ++ sW ca (fun j => ad (1 + j))) ++ sW ca (fun j => ad (51 + j))).length = 101 := by rw [List.length_append, List.length_append, sW_len, sW_len]; rfl
  have h2 : ((([(ad 0, (.inr (5, fsX (ad 1) (ad 51) (ad 101) (ad 353)) : va_E))] ++ sW ca (fun j => ad (1 + j))) ++ sW ca (fun j => ad (51 + j))) ++ hW ca (fun j => ad (101 + j))).length = 353 := by rw [List.length_append, h1, hW_len]
  constructor
  · unfold xW
    refine ap_l h2 (by omega) ?_
    refine ap_r h1 (by omega) ?_
    rfl
  · unfold xW
    refine ap_l h2 (by omega) ?_
    refine ap_r h1 (by omega) ?_
    rfl
theorem aW_t {ca : Nat → ClassId} {ad : Nat → Nat} : (aW ca ad)[353]? = some (ad 353, .inr (4, fsT (ad 354) (ad 355))) ∧ (aW ca ad)[354]? = some (ad 354, .inl (ca 11, 60, .inl (fun _ => 0))) ∧ (aW ca ad)[355]? = some (ad 355, eI ca 4) := by
  unfold aW
  have h2 : ((([(ad 0, (.inr (5, fsX (ad 1) (ad 51) (ad 101) (ad 353)) : va_E))] ++ sW ca (fun j => ad (1 + j))) ++ sW ca (fun j => ad (51 + j))) ++ hW ca (fun j => ad (101 + j))).length = 353 := by rw [List.length_append, List.length_append, List.length_append, sW_len, sW_len, hW_len]; rfl
  refine ⟨?_, ?_, ?_⟩
  · unfold xW
    refine ap_r h2 (by omega) ?_
    rfl
  · unfold xW
    refine ap_r h2 (by omega) ?_
    rfl
  · unfold xW
    refine ap_r h2 (by omega) ?_
    rfl
theorem aW_len (ca : Nat → ClassId) (ad : Nat → Nat) : (aW ca ad).length = 356 := by
  rw [aW, xW_len]
/-- the numbers at the start -/
def rel (a : Nat) : Nat := if a < 101 then (a - 1) % 50 else (a - 103) % 50
def I0 : q_Mem := fun a j => if q_kd a = 0 then (if j = 0 then nI ((rel a - 4) / 2) else if j = 8 ∨ j = 10 ∨ j = 11 then -1 else 0) else if q_kd a = 2 then (if j = 0 then nI (rel a - 20) else if j = 2 ∨ j = 5 ∨ j = 6 ∨ j = 7 then -1 else 0) else 0
theorem I0_z {a : Nat} (h : ¬ q_kd a = 0) (h2 : ¬ q_kd a = 2) : I0 a = fun _ => 0 := funext fun j => by rw [I0, if_neg h, if_neg h2]
theorem q_fv_ref {ω : q_Om} {I : q_Mem} {k j d c : Nat} (hk : q_kd k = c) (h : q_ro c j = some d) : q_fv ω I k j = .ref (q_ad ω (k + d)) := by
  subst hk
  simp only [q_fv, h]
theorem q_fv_int {ω : q_Om} {I : q_Mem} {k j c : Nat} {x : Int32} (hk : q_kd k = c) (h : q_ro c j = none) (hx : I k j = x) : q_fv ω I k j = .int x := by
  subst hk
  subst hx
  simp only [q_fv, h]

theorem cell_S {ω : q_Om} {k : Nat} (hk : q_kd k = 3) : q_cell ω I0 k = .inr (3, fsS (q_ad ω (k + 1)) (q_ad ω (k + 2)) (q_ad ω (k + 3))) := by
  have hz : I0 k = fun _ => 0 := I0_z (by omega) (by omega)
  rw [q_cell_obj hk (by decide)]
  show Sum.inr (3, [q_fv ω I0 k 0, q_fv ω I0 k 1, q_fv ω I0 k 2, q_fv ω I0 k 3, q_fv ω I0 k 4, q_fv ω I0 k 5, q_fv ω I0 k 6, q_fv ω I0 k 7, q_fv ω I0 k 8, q_fv ω I0 k 9, q_fv ω I0 k 10, q_fv ω I0 k 11, q_fv ω I0 k 12, q_fv ω I0 k 13]) = _
  rw [q_fv_ref (j := 0) hk rfl, q_fv_ref (j := 1) hk rfl, q_fv_ref (j := 2) hk rfl, q_fv_int (j := 3) (x := 0) hk rfl (congrFun hz 3), q_fv_int (j := 4) (x := 0) hk rfl (congrFun hz 4), q_fv_int (j := 5) (x := 0) hk rfl (congrFun hz 5), q_fv_int (j := 6) (x := 0) hk rfl (congrFun hz 6), q_fv_int (j := 7) (x := 0) hk rfl (congrFun hz 7), q_fv_int (j := 8) (x := 0) hk rfl (congrFun hz 8), q_fv_int (j := 9) (x := 0) hk rfl (congrFun hz 9), q_fv_int (j := 10) (x := 0) hk rfl (congrFun hz 10), q_fv_int (j := 11) (x := 0) hk rfl (congrFun hz 11), q_fv_int (j := 12) (x := 0) hk rfl (congrFun hz 12), q_fv_int (j := 13) (x := 0) hk rfl (congrFun hz 13)]
  rfl
theorem cell_H {ω : q_Om} {k : Nat} (hk : q_kd k = 1) : q_cell ω I0 k = .inr (1, fsH (q_ad ω (k + 1))) := by
  have hz : I0 k = fun _ => 0 := I0_z (by omega) (by omega)
  rw [q_cell_obj hk (by decide)]
  show Sum.inr (1, [q_fv ω I0 k 0, q_fv ω I0 k 1, q_fv ω I0 k 2]) = _
  rw [q_fv_ref (j := 0) hk rfl, q_fv_int (j := 1) (x := 0) hk rfl (congrFun hz 1), q_fv_int (j := 2) (x := 0) hk rfl (congrFun hz 2)]
  rfl
theorem cell_T {ω : q_Om} {k : Nat} (hk : q_kd k = 4) : q_cell ω I0 k = .inr (4, fsT (q_ad ω (k + 1)) (q_ad ω (k + 2))) := by
  have hz : I0 k = fun _ => 0 := I0_z (by omega) (by omega)
  rw [q_cell_obj hk (by decide)]
  show Sum.inr (4, [q_fv ω I0 k 0, q_fv ω I0 k 1, q_fv ω I0 k 2, q_fv ω I0 k 3, q_fv ω I0 k 4, q_fv ω I0 k 5, q_fv ω I0 k 6]) = _
  rw [q_fv_ref (j := 0) hk rfl, q_fv_ref (j := 1) hk rfl, q_fv_int (j := 2) (x := 0) hk rfl (congrFun hz 2), q_fv_int (j := 3) (x := 0) hk rfl (congrFun hz 3), q_fv_int (j := 4) (x := 0) hk rfl (congrFun hz 4), q_fv_int (j := 5) (x := 0) hk rfl (congrFun hz 5), q_fv_int (j := 6) (x := 0) hk rfl (congrFun hz 6)]
  rfl
theorem cell_X {ω : q_Om} {k : Nat} (hk : q_kd k = 5) : q_cell ω I0 k = .inr (5, fsX (q_ad ω (k + 1)) (q_ad ω (k + 51)) (q_ad ω (k + 101)) (q_ad ω (k + 353))) := by
  have hz : I0 k = fun _ => 0 := I0_z (by omega) (by omega)
  rw [q_cell_obj hk (by decide)]
  show Sum.inr (5, [q_fv ω I0 k 0, q_fv ω I0 k 1, q_fv ω I0 k 2, q_fv ω I0 k 3]) = _
  rw [q_fv_ref (j := 0) hk rfl, q_fv_ref (j := 1) hk rfl, q_fv_ref (j := 2) hk rfl, q_fv_ref (j := 3) hk rfl]
  rfl
theorem cell_C {ω : q_Om} {k : Nat} (hk : q_kd k = 0) : q_cell ω I0 k = .inr (0, fsC (nI ((rel k - 4) / 2)) (q_ad ω (k + 1))) := by
  have hc : ∀ j, I0 k j = (if j = 0 then nI ((rel k - 4) / 2) else if j = 8 ∨ j = 10 ∨ j = 11 then -1 else 0) := fun j => by rw [I0, if_pos hk]
  rw [q_cell_obj hk (by decide)]
  show Sum.inr (0, [q_fv ω I0 k 0, q_fv ω I0 k 1, q_fv ω I0 k 2, q_fv ω I0 k 3, q_fv ω I0 k 4, q_fv ω I0 k 5, q_fv ω I0 k 6, q_fv ω I0 k 7, q_fv ω I0 k 8, q_fv ω I0 k 9, q_fv ω I0 k 10, q_fv ω I0 k 11, q_fv ω I0 k 12]) = _
  rw [q_fv_int (j := 0) (x := nI ((rel k - 4) / 2)) hk rfl (hc 0), q_fv_ref (j := 1) hk rfl, q_fv_int (j := 2) (x := 0) hk rfl (hc 2), q_fv_int (j := 3) (x := 0) hk rfl (hc 3), q_fv_int (j := 4) (x := 0) hk rfl (hc 4), q_fv_int (j := 5) (x := 0) hk rfl (hc 5), q_fv_int (j := 6) (x := 0) hk rfl (hc 6), q_fv_int (j := 7) (x := 0) hk rfl (hc 7), q_fv_int (j := 8) (x := -1) hk rfl (hc 8), q_fv_int (j := 9) (x := 0) hk rfl (hc 9), q_fv_int (j := 10) (x := -1) hk rfl (hc 10), q_fv_int (j := 11) (x := -1) hk rfl (hc 11), q_fv_int (j := 12) (x := 0) hk rfl (hc 12)]
  rfl
theorem cell_P {ω : q_Om} {k : Nat} (hk : q_kd k = 2) : q_cell ω I0 k = .inr (2, fsP (nI (rel k - 20))) := by
  have hc : ∀ j, I0 k j = (if j = 0 then nI (rel k - 20) else if j = 2 ∨ j = 5 ∨ j = 6 ∨ j = 7 then -1 else 0) := fun j => by rw [I0, if_neg (by omega), if_pos hk]
  rw [q_cell_obj hk (by decide)]
  show Sum.inr (2, [q_fv ω I0 k 0, q_fv ω I0 k 1, q_fv ω I0 k 2, q_fv ω I0 k 3, q_fv ω I0 k 4, q_fv ω I0 k 5, q_fv ω I0 k 6, q_fv ω I0 k 7]) = _
  rw [q_fv_int (j := 0) (x := nI (rel k - 20)) hk rfl (hc 0), q_fv_int (j := 1) (x := 0) hk rfl (hc 1), q_fv_int (j := 2) (x := -1) hk rfl (hc 2), q_fv_int (j := 3) (x := 0) hk rfl (hc 3), q_fv_int (j := 4) (x := 0) hk rfl (hc 4), q_fv_int (j := 5) (x := -1) hk rfl (hc 5), q_fv_int (j := 6) (x := -1) hk rfl (hc 6), q_fv_int (j := 7) (x := -1) hk rfl (hc 7)]
  rfl
theorem cell_I {ω : q_Om} {k n : Nat} (hk : q_kd k = 10) (hn : q_ln k = n) : q_cell ω I0 k = eI (q_ca ω) n := by
  rw [q_cell_arr hk (by decide) (by decide), I0_z (by omega) (by omega), hn]
theorem cell_Ch {ω : q_Om} {k n : Nat} (hk : q_kd k = 11) (hn : q_ln k = n) : q_cell ω I0 k = .inl (q_ca ω 11, n, .inl (fun _ => 0)) := by
  rw [q_cell_arr hk (by decide) (by decide), I0_z (by omega) (by omega), hn]
theorem cell_Q {ω : q_Om} {D : va_G} {k n c a : Nat} {f : Nat → Option Nat} {H : Heap} (hk : q_kd k = c) (h12 : 12 ≤ c) (hn : q_ln k = n) (hf : ∀ i, i < n → f i = some (q_ad ω (q_el c k i))) (h : va_at D vwCl (a, eQ (q_ca ω c) n f) H) : va_at D vwCl (a, q_cell ω I0 k) H := by
  rw [q_cell_ref hk h12, hn]
  have e : vp_cell (q_ca ω c) (n, .inr (.inr (.inr (.inr f)))) = vp_cell (q_ca ω c) (n, .inr (.inr (.inr (.inr (fun i => some (q_ad ω (q_el c k i))))))) := by
    show arrV (q_ca ω c) n (fun j => va_rf (f j)) = arrV (q_ca ω c) n (fun j => va_rf (some (q_ad ω (q_el c k j))))
    unfold arrV
    congr 1
    apply Array.ext
    · simp
    · intro i h1 h2
      simp only [Array.getElem_ofFn]
      rw [hf i (by simpa using h1)]
  show H[a]? = some (vp_cell _ _)
  rw [← e]
  exact h
