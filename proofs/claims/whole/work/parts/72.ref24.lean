/-! the reference: an order is read -/
/-- letters are gone through -/
def RLt (I J : q_Mem) (s i : Nat) : Prop := FG I J ∧ J 356 6 = nI s ∧ J 356 7 = nI i ∧ J 356 10 = nI 0 ∧ J 356 11 = nI 0
def roQ (I : q_Mem) (t : List Nat) (s : Nat) (v : Option Value) (K : q_Mem) : Prop :=
  v = none ∧ (if swd t s = 0 then RF I K s (if sbh t s < t.length then 0 else t.length - s) else (if (ord t s).1 = true then RD I K (swd t s - 1) s (ord t s).2.1 (ord t s).2.2 else RF I K s ((ord t s).2.1 - s)))
theorem r_readOrder {t : List Nat} {s : Nat} {I : q_Mem} (ht : tok t) (hT : MT I t) (hs : s ≤ t.length) (h6 : I 356 6 = nI s) (h11 : I 356 11 = nI 0) : q_M kX7_readOrder [.ref 356] I (roQ I t s) := by
  have h60 := ht.1
  have tail : ∀ (K : q_Mem) (w i : Nat) (l : List Nat) (o2 o3 : Option Value), w < 5 → s ≤ i → i ≤ t.length → l.length ≤ 4 → RD I K w s i l → q_X kX7_readOrder 255 [some (.ref 356), some (.int (nI (wle w))), o2, o3] [] K (rdR I w s (if gt t i = 59 ∧ wle w ≤ l.length then (true, i + 1, l) else (false, i, l))) := by
    intro K w i l o2 o3 hw hsi hit hl hK
    have hwl := wmo_le w hw
    obtain ⟨h1, h2, h3, h4, h5, h6, h7⟩ := id hK
    have hTK := h1.mt hT
    have bad : ¬ (gt t i = 59 ∧ wle w ≤ l.length) → q_X kX7_readOrder 281 [some (.ref 356), some (.int (nI (wle w))), o2, o3] [] K (rdR I w s (if gt t i = 59 ∧ wle w ≤ l.length then (true, i + 1, l) else (false, i, l))) := by
      intro z
      rw [if_neg z]
      refine q_aload_n dX7_readOrder_281 rfl ?_
      refine q_aload_n dX7_readOrder_282 rfl ?_
      refine q_getI fl_RX7_194 rfl k356 h3 dX7_readOrder_283 ?_
      refine q_cV (as := [_]) lk_RX7_204 (r_misfits h7 h2 hsi) (Or.inl ⟨6, by decide, k356, rfl⟩) rfl (by decide) (Nat.le_of_ble_eq_true rfl) dX7_readOrder_286 ?_
      rintro v K' ⟨rfl, rfl⟩
      have hf := hK.misfit (c := i - s)
      generalize q_up (q_up K 356 11 (nI 1)) 356 12 (nI (i - s)) = L at hf ⊢
      refine q_aload_n dX7_readOrder_289 rfl ?_
      refine q_dup dX7_readOrder_290 rfl ?_
      refine q_getI fl_RX7_194 rfl k356 rfl dX7_readOrder_291 ?_
      refine q_iconst (v := nI 1) dX7_readOrder_294 (by decide) ?_
      refine q_iadd dX7_readOrder_295 ?_
      refine q_putI ⟨fl_RX7_194, rfl, rfl⟩ k356 ⟨rfl, rfl⟩ dX7_readOrder_296 ?_
      exact q_vret rfl dX7_readOrder_299 ⟨rfl, by rw [if_neg (fun z => by cases z)]; exact hf.at⟩
    refine q_aload_n dX7_readOrder_255 rfl ?_
    refine q_getI fl_RX7_185 rfl k356 h7 dX7_readOrder_256 ?_
    refine q_if_neN (tgt := 289) (by omega) dX7_readOrder_259 (by decide) (fun q => ?_) (fun q => ?_)
    · omega
    refine q_aload_n dX7_readOrder_262 rfl ?_
    refine q_getI fl_RX7_207 rfl k356 h5 dX7_readOrder_263 ?_
    refine q_iload_n dX7_readOrder_266 rfl ?_
    refine q_icmp_ltN (tgt := 281) (by omega) (by omega) dX7_readOrder_267 (by decide) (fun q2 => ?_) (fun q2 => ?_)
    · exact bad (fun z => by omega)
    refine q_aload_n dX7_readOrder_270 rfl ?_
    refine q_bipush (v := nI 59) dX7_readOrder_271 (by decide) ?_
    refine q_bipush (v := nI 59) dX7_readOrder_273 (by decide) ?_
    refine q_cV (as := [_, _]) lk_RX7_201 (r_isNext (a := 59) (b := 59) ht hTK h3 (by omega) (by omega) (by omega) (by omega)) (Or.inl ⟨6, by decide, k356, rfl⟩) rfl (by decide) (Nat.le_of_ble_eq_true rfl) dX7_readOrder_275 ?_
    rintro v K' ⟨rfl, rfl⟩
    by_cases e : 59 ≤ gt t i ∧ gt t i ≤ 59
    · rw [if_pos e, if_pos (show gt t i = 59 ∧ wle w ≤ l.length from ⟨by omega, q2⟩)]
      refine q_if_ne (tgt := 289) dX7_readOrder_278 (by decide) (fun q3 => ?_) (fun q3 => ?_)
      rotate_left
      · exact absurd q3 (by decide)
      refine q_aload_n dX7_readOrder_289 rfl ?_
      refine q_dup dX7_readOrder_290 rfl ?_
      refine q_getI fl_RX7_194 rfl k356 h3 dX7_readOrder_291 ?_
      refine q_iconst (v := nI 1) dX7_readOrder_294 (by decide) ?_
      refine q_iadd dX7_readOrder_295 ?_
      rw [nI_add]
      refine q_putI ⟨fl_RX7_194, rfl, rfl⟩ k356 ⟨rfl, rfl⟩ dX7_readOrder_296 ?_
      exact q_vret rfl dX7_readOrder_299 ⟨rfl, by rw [if_pos rfl]; exact hK.at⟩
    · rw [if_neg e]
      refine q_if_ne (tgt := 289) dX7_readOrder_278 (by decide) (fun q3 => ?_) (fun q3 => ?_)
      · exact absurd rfl q3
      exact bad (fun z => e (by omega))
  have key : ∀ (d i : Nat) (l : List Nat) (K : q_Mem) (w : Nat), w < 5 → l.length + d = wmo w → l.length < wmo w → s ≤ i → i < t.length → RD I K w s i l → q_X kX7_readOrder 195 [some (.ref 356), some (.int (nI (wle w))), some (.int (nI (wmo w))), some (.int (nI 1))] [] K (rdR I w s (rns t w d (i + 1) l)) := by
    intro d
    induction d with
    | zero => intro i l K w hw hd hlt; omega
    | succ d ih =>
      intro i l K w hw hd hlt hsi hit hK
      have hwl := wmo_le w hw
      obtain ⟨h1, h2, h3, h4, h5, h6, h7⟩ := id hK
      refine q_iload_n dX7_readOrder_195 rfl ?_
      refine q_if_eq (tgt := 255) dX7_readOrder_196 (by decide) (fun q => ?_) (fun q => ?_)
      · exact absurd q (by decide)
      refine q_aload_n dX7_readOrder_199 rfl ?_
      refine q_getI fl_RX7_185 rfl k356 h7 dX7_readOrder_200 ?_
      refine q_if_neN (tgt := 255) (by omega) dX7_readOrder_203 (by decide) (fun q2 => ?_) (fun q2 => ?_)
      · omega
      refine q_aload_n dX7_readOrder_206 rfl ?_
      refine q_dup dX7_readOrder_207 rfl ?_
      refine q_getI fl_RX7_194 rfl k356 h3 dX7_readOrder_208 ?_
      refine q_iconst (v := nI 1) dX7_readOrder_211 (by decide) ?_
      refine q_iadd dX7_readOrder_212 ?_
      rw [nI_add]
      refine q_putI ⟨fl_RX7_194, rfl, rfl⟩ k356 ⟨rfl, rfl⟩ dX7_readOrder_213 ?_
      refine q_aload_n dX7_readOrder_216 rfl ?_
      have hK1 : RD I (q_up K 356 7 (nI (i + 1))) w s (i + 1) l := hK.at
      generalize q_up K 356 7 (nI (i + 1)) = K1 at hK1 ⊢
      refine q_cV (as := []) lk_RX7_216 (r_readNumber ht hT hK1 (by omega) (by omega) (by omega)) (Or.inl ⟨6, by decide, k356, rfl⟩) rfl (by decide) (Nat.le_of_ble_eq_true rfl) dX7_readOrder_217 ?_
      rintro v K2 ⟨rfl, hK2⟩
      rw [rns_s]
      by_cases e : isd (gt t (i + 1))
      case neg =>
        rw [if_neg e] at hK2 ⊢
        obtain ⟨f1', f2', f3', f4'⟩ := id hK2
        refine q_aload_n dX7_readOrder_220 rfl ?_
        refine q_getI fl_RX7_185 rfl k356 f3' dX7_readOrder_221 ?_
        refine q_if_neN (tgt := 250) (by omega) dX7_readOrder_224 (by decide) (fun q3 => ?_) (fun q3 => ?_)
        rotate_left
        · omega
        refine q_iconst (v := nI 0) dX7_readOrder_250 (by decide) ?_
        refine q_istore_n (ls' := [_, _, _, _]) dX7_readOrder_251 (Nat.le_of_ble_eq_true rfl) rfl ?_
        refine q_goto (tgt := 195) dX7_readOrder_252 (by decide) ?_
        refine q_iload_n dX7_readOrder_195 rfl ?_
        refine q_if_eq (tgt := 255) dX7_readOrder_196 (by decide) (fun q4 => ?_) (fun q4 => ?_)
        rotate_left
        · exact absurd rfl q4
        refine q_aload_n dX7_readOrder_255 rfl ?_
        refine q_getI fl_RX7_185 rfl k356 f3' dX7_readOrder_256 ?_
        refine q_if_neN (tgt := 289) (by omega) dX7_readOrder_259 (by decide) (fun q5 => ?_) (fun q5 => ?_)
        rotate_left
        · omega
        refine q_aload_n dX7_readOrder_289 rfl ?_
        refine q_dup dX7_readOrder_290 rfl ?_
        refine q_getI fl_RX7_194 rfl k356 rfl dX7_readOrder_291 ?_
        refine q_iconst (v := nI 1) dX7_readOrder_294 (by decide) ?_
        refine q_iadd dX7_readOrder_295 ?_
        refine q_putI ⟨fl_RX7_194, rfl, rfl⟩ k356 ⟨rfl, rfl⟩ dX7_readOrder_296 ?_
        exact q_vret rfl dX7_readOrder_299 ⟨rfl, by rw [if_neg (fun z => by cases z)]; exact hK2.at⟩
      rw [if_pos e] at hK2 ⊢
      obtain ⟨n1, n2⟩ := nxt_le e
      generalize nxt t (i + 1) = i' at hK2 n1 n2 ⊢
      have hll : (l ++ [num t (i + 1)]).length = l.length + 1 := by rw [List.length_append]; rfl
      generalize l ++ [num t (i + 1)] = l' at hK2 hll ⊢
      obtain ⟨g1, g2, g3, g4, g5, g6, g7⟩ := id hK2
      have hTK := g1.mt hT
      have stop : ¬ (gt t i' = 44 ∧ l'.length < wmo w) → q_X kX7_readOrder 250 [some (.ref 356), some (.int (nI (wle w))), some (.int (nI (wmo w))), some (.int (nI 1))] [] K2 (rdR I w s (rtl t w (rns t w d) i' l')) := by
        intro z
        have hr : rtl t w (rns t w d) i' l' = if gt t i' = 59 ∧ wle w ≤ l'.length then (true, i' + 1, l') else (false, i', l') := by rw [rtl, if_neg z]
        rw [hr]
        refine q_iconst (v := nI 0) dX7_readOrder_250 (by decide) ?_
        refine q_istore_n (ls' := [_, _, _, _]) dX7_readOrder_251 (Nat.le_of_ble_eq_true rfl) rfl ?_
        refine q_goto (tgt := 195) dX7_readOrder_252 (by decide) ?_
        refine q_iload_n dX7_readOrder_195 rfl ?_
        refine q_if_eq (tgt := 255) dX7_readOrder_196 (by decide) (fun q4 => ?_) (fun q4 => ?_)
        rotate_left
        · exact absurd rfl q4
        exact tail K2 w i' l' _ _ hw (by omega) n2 (by omega) hK2
      refine q_aload_n dX7_readOrder_220 rfl ?_
      refine q_getI fl_RX7_185 rfl k356 g7 dX7_readOrder_221 ?_
      refine q_if_neN (tgt := 250) (by omega) dX7_readOrder_224 (by decide) (fun q3 => ?_) (fun q3 => ?_)
      · omega
      refine q_aload_n dX7_readOrder_227 rfl ?_
      refine q_getI fl_RX7_207 rfl k356 g5 dX7_readOrder_228 ?_
      refine q_iload_n dX7_readOrder_231 rfl ?_
      refine q_icmp_geN (tgt := 250) (by omega) (by omega) dX7_readOrder_232 (by decide) (fun q4 => ?_) (fun q4 => ?_)
      · exact stop (fun z => by omega)
      refine q_aload_n dX7_readOrder_235 rfl ?_
      refine q_bipush (v := nI 44) dX7_readOrder_236 (by decide) ?_
      refine q_bipush (v := nI 44) dX7_readOrder_238 (by decide) ?_
      refine q_cV (as := [_, _]) lk_RX7_201 (r_isNext (a := 44) (b := 44) ht hTK g3 (by omega) (by omega) (by omega) (by omega)) (Or.inl ⟨6, by decide, k356, rfl⟩) rfl (by decide) (Nat.le_of_ble_eq_true rfl) dX7_readOrder_240 ?_
      rintro v K' ⟨rfl, rfl⟩
      by_cases e2 : 44 ≤ gt t i' ∧ gt t i' ≤ 44
      · rw [if_pos e2]
        refine q_if_eq (tgt := 250) dX7_readOrder_243 (by decide) (fun q5 => ?_) (fun q5 => ?_)
        · exact absurd q5 (by decide)
        have h44 : gt t i' = 44 := by omega
        rw [rtl, if_neg (fun z => by omega), if_pos ⟨h44, q4⟩]
        refine q_iconst (v := nI 1) dX7_readOrder_246 (by decide) ?_
        refine q_goto (tgt := 251) dX7_readOrder_247 (by decide) ?_
        refine q_istore_n (ls' := [_, _, _, _]) dX7_readOrder_251 (Nat.le_of_ble_eq_true rfl) rfl ?_
        refine q_goto (tgt := 195) dX7_readOrder_252 (by decide) ?_
        exact ih i' l' K2 w hw (by omega) q4 (by omega) (gt_in (by omega)) hK2
      · rw [if_neg e2]
        refine q_if_eq (tgt := 250) dX7_readOrder_243 (by decide) (fun q5 => ?_) (fun q5 => ?_)
        rotate_left
        · exact absurd rfl q5
        exact stop (fun z => e2 (by omega))
  have main : ∀ (K : q_Mem) (w : Nat) (o1 o2 o3 : Option Value), w < 5 → s + wll w ≤ t.length → RD I K w s (s + wll w) [] → q_X kX7_readOrder 103 [some (.ref 356), o1, o2, o3] [] K (rdR I w s (rdb t w (s + wll w))) := by
    intro K w o1 o2 o3 hw hb hK
    have hwl := wmo_le w hw
    have h0 : ([] : List Nat).length = 0 := rfl
    obtain ⟨h1, h2, h3, h4, h5, h6, h7⟩ := id hK
    have hTK := h1.mt hT
    have at161 : ∀ (o3 : Option Value), q_X kX7_readOrder 161 [some (.ref 356), some (.int (nI (wle w))), some (.int (nI (wmo w))), o3] [] K (rdR I w s (rdb t w (s + wll w))) := by
      intro o3
      rw [rdb]
      refine q_iload_n dX7_readOrder_161 rfl ?_
      refine q_if_leN (tgt := 185) (by omega) dX7_readOrder_162 (by decide) (fun q => ?_) (fun q => ?_)
      · have hz : wmo w = 0 := by omega
        have hr : (if gt t (s + wll w) = 59 then (true, s + wll w + 1, ([] : List Nat)) else (false, s + wll w, [])) = if gt t (s + wll w) = 59 ∧ wle w ≤ ([] : List Nat).length then (true, s + wll w + 1, []) else (false, s + wll w, []) := by
          by_cases z : gt t (s + wll w) = 59
          · rw [if_pos z, if_pos ⟨z, by omega⟩]
          · rw [if_neg z, if_neg (fun y => z y.1)]
        rw [if_pos hz, hr]
        refine q_iload_n dX7_readOrder_185 rfl ?_
        refine q_if_leN (tgt := 193) (by omega) dX7_readOrder_186 (by decide) (fun q2 => ?_) (fun q2 => ?_)
        rotate_left
        · omega
        refine q_iconst (v := nI 0) dX7_readOrder_193 (by decide) ?_
        refine q_istore_n (ls' := [_, _, _, _]) dX7_readOrder_194 (Nat.le_of_ble_eq_true rfl) rfl ?_
        refine q_iload_n dX7_readOrder_195 rfl ?_
        refine q_if_eq (tgt := 255) dX7_readOrder_196 (by decide) (fun q3 => ?_) (fun q3 => ?_)
        rotate_left
        · exact absurd rfl q3
        exact tail K w _ [] _ _ hw (by omega) hb (by omega) hK
      rw [if_neg (show ¬ wmo w = 0 by omega)]
      refine q_aload_n dX7_readOrder_165 rfl ?_
      refine q_bipush (v := nI 32) dX7_readOrder_166 (by decide) ?_
      refine q_bipush (v := nI 32) dX7_readOrder_168 (by decide) ?_
      refine q_cV (as := [_, _]) lk_RX7_201 (r_isNext (a := 32) (b := 32) ht hTK h3 (by omega) (by omega) (by omega) (by omega)) (Or.inl ⟨6, by decide, k356, rfl⟩) rfl (by decide) (Nat.le_of_ble_eq_true rfl) dX7_readOrder_170 ?_
      rintro v K' ⟨rfl, rfl⟩
      by_cases e : 32 ≤ gt t (s + wll w) ∧ gt t (s + wll w) ≤ 32
      · rw [if_pos e, if_pos (show gt t (s + wll w) = 32 by omega)]
        refine q_if_ne (tgt := 185) dX7_readOrder_173 (by decide) (fun q2 => ?_) (fun q2 => ?_)
        rotate_left
        · exact absurd q2 (by decide)
        refine q_iload_n dX7_readOrder_185 rfl ?_
        refine q_if_leN (tgt := 193) (by omega) dX7_readOrder_186 (by decide) (fun q3 => ?_) (fun q3 => ?_)
        · omega
        refine q_iconst (v := nI 1) dX7_readOrder_189 (by decide) ?_
        refine q_goto (tgt := 194) dX7_readOrder_190 (by decide) ?_
        refine q_istore_n (ls' := [_, _, _, _]) dX7_readOrder_194 (Nat.le_of_ble_eq_true rfl) rfl ?_
        exact key (wmo w) (s + wll w) [] K w hw (by omega) (by omega) (by omega) (gt_in (by omega)) hK
      · rw [if_neg e, if_neg (show ¬ gt t (s + wll w) = 32 from fun z => e (by omega))]
        refine q_if_ne (tgt := 185) dX7_readOrder_173 (by decide) (fun q2 => ?_) (fun q2 => ?_)
        · exact absurd rfl q2
        refine q_aload_n dX7_readOrder_176 rfl ?_
        refine q_aload_n dX7_readOrder_177 rfl ?_
        refine q_getI fl_RX7_194 rfl k356 h3 dX7_readOrder_178 ?_
        refine q_cV (as := [_]) lk_RX7_204 (r_misfits h7 h2 (by omega)) (Or.inl ⟨6, by decide, k356, rfl⟩) rfl (by decide) (Nat.le_of_ble_eq_true rfl) dX7_readOrder_181 ?_
        rintro v K' ⟨rfl, rfl⟩
        exact q_vret rfl dX7_readOrder_184 ⟨rfl, by rw [if_neg (fun z => by cases z)]; exact hK.misfit⟩
    have hw5 : w = 0 ∨ w = 1 ∨ w = 2 ∨ w = 3 ∨ w = 4 := by omega
    refine q_aload_n dX7_readOrder_103 rfl ?_
    refine q_getI fl_RX7_213 rfl k356 h4 dX7_readOrder_104 ?_
    rcases hw5 with rfl | rfl | rfl | rfl | rfl
    · refine q_if_eqN (tgt := 118) (by omega) dX7_readOrder_107 (by decide) (fun q => ?_) (fun q => ?_)
      rotate_left
      · omega
      refine q_iconst (v := nI 1) dX7_readOrder_118 (by decide) ?_
      refine q_goto (tgt := 135) dX7_readOrder_119 (by decide) ?_
      refine q_istore_n (ls' := [_, _, _, _]) dX7_readOrder_135 (Nat.le_of_ble_eq_true rfl) rfl ?_
      refine q_aload_n dX7_readOrder_136 rfl ?_
      refine q_getI fl_RX7_213 rfl k356 h4 dX7_readOrder_137 ?_
      refine q_if_neN (tgt := 147) (by omega) dX7_readOrder_140 (by decide) (fun q2 => ?_) (fun q2 => ?_)
      · omega
      refine q_iconst (v := nI 3) dX7_readOrder_143 (by decide) ?_
      refine q_goto (tgt := 160) dX7_readOrder_144 (by decide) ?_
      refine q_istore_n (ls' := [_, _, _, _]) dX7_readOrder_160 (Nat.le_of_ble_eq_true rfl) rfl ?_
      exact at161 _
    · refine q_if_eqN (tgt := 118) (by omega) dX7_readOrder_107 (by decide) (fun q => ?_) (fun q => ?_)
      · omega
      refine q_aload_n dX7_readOrder_110 rfl ?_
      refine q_getI fl_RX7_213 rfl k356 h4 dX7_readOrder_111 ?_
      refine q_iconst (v := nI 2) dX7_readOrder_114 (by decide) ?_
      refine q_icmp_neN (tgt := 122) (by omega) (by omega) dX7_readOrder_115 (by decide) (fun q2 => ?_) (fun q2 => ?_)
      rotate_left
      · omega
      refine q_aload_n dX7_readOrder_122 rfl ?_
      refine q_getI fl_RX7_213 rfl k356 h4 dX7_readOrder_123 ?_
      refine q_iconst (v := nI 1) dX7_readOrder_126 (by decide) ?_
      refine q_icmp_neN (tgt := 134) (by omega) (by omega) dX7_readOrder_127 (by decide) (fun q3 => ?_) (fun q3 => ?_)
      · omega
      refine q_iconst (v := nI 2) dX7_readOrder_130 (by decide) ?_
      refine q_goto (tgt := 135) dX7_readOrder_131 (by decide) ?_
      refine q_istore_n (ls' := [_, _, _, _]) dX7_readOrder_135 (Nat.le_of_ble_eq_true rfl) rfl ?_
      refine q_aload_n dX7_readOrder_136 rfl ?_
      refine q_getI fl_RX7_213 rfl k356 h4 dX7_readOrder_137 ?_
      refine q_if_neN (tgt := 147) (by omega) dX7_readOrder_140 (by decide) (fun q4 => ?_) (fun q4 => ?_)
      rotate_left
      · omega
      refine q_aload_n dX7_readOrder_147 rfl ?_
      refine q_getI fl_RX7_213 rfl k356 h4 dX7_readOrder_148 ?_
      refine q_iconst (v := nI 1) dX7_readOrder_151 (by decide) ?_
      refine q_icmp_neN (tgt := 159) (by omega) (by omega) dX7_readOrder_152 (by decide) (fun q5 => ?_) (fun q5 => ?_)
      · omega
      refine q_iconst (v := nI 4) dX7_readOrder_155 (by decide) ?_
      refine q_goto (tgt := 160) dX7_readOrder_156 (by decide) ?_
      refine q_istore_n (ls' := [_, _, _, _]) dX7_readOrder_160 (Nat.le_of_ble_eq_true rfl) rfl ?_
      exact at161 _
    · refine q_if_eqN (tgt := 118) (by omega) dX7_readOrder_107 (by decide) (fun q => ?_) (fun q => ?_)
      · omega
      refine q_aload_n dX7_readOrder_110 rfl ?_
      refine q_getI fl_RX7_213 rfl k356 h4 dX7_readOrder_111 ?_
      refine q_iconst (v := nI 2) dX7_readOrder_114 (by decide) ?_
      refine q_icmp_neN (tgt := 122) (by omega) (by omega) dX7_readOrder_115 (by decide) (fun q2 => ?_) (fun q2 => ?_)
      · omega
      refine q_iconst (v := nI 1) dX7_readOrder_118 (by decide) ?_
      refine q_goto (tgt := 135) dX7_readOrder_119 (by decide) ?_
      refine q_istore_n (ls' := [_, _, _, _]) dX7_readOrder_135 (Nat.le_of_ble_eq_true rfl) rfl ?_
      refine q_aload_n dX7_readOrder_136 rfl ?_
      refine q_getI fl_RX7_213 rfl k356 h4 dX7_readOrder_137 ?_
      refine q_if_neN (tgt := 147) (by omega) dX7_readOrder_140 (by decide) (fun q4 => ?_) (fun q4 => ?_)
      rotate_left
      · omega
      refine q_aload_n dX7_readOrder_147 rfl ?_
      refine q_getI fl_RX7_213 rfl k356 h4 dX7_readOrder_148 ?_
      refine q_iconst (v := nI 1) dX7_readOrder_151 (by decide) ?_
      refine q_icmp_neN (tgt := 159) (by omega) (by omega) dX7_readOrder_152 (by decide) (fun q5 => ?_) (fun q5 => ?_)
      rotate_left
      · omega
      refine q_iload_n dX7_readOrder_159 rfl ?_
      refine q_istore_n (ls' := [_, _, _, _]) dX7_readOrder_160 (Nat.le_of_ble_eq_true rfl) rfl ?_
      exact at161 _
    · refine q_if_eqN (tgt := 118) (by omega) dX7_readOrder_107 (by decide) (fun q => ?_) (fun q => ?_)
      · omega
      refine q_aload_n dX7_readOrder_110 rfl ?_
      refine q_getI fl_RX7_213 rfl k356 h4 dX7_readOrder_111 ?_
      refine q_iconst (v := nI 2) dX7_readOrder_114 (by decide) ?_
      refine q_icmp_neN (tgt := 122) (by omega) (by omega) dX7_readOrder_115 (by decide) (fun q2 => ?_) (fun q2 => ?_)
      rotate_left
      · omega
      refine q_aload_n dX7_readOrder_122 rfl ?_
      refine q_getI fl_RX7_213 rfl k356 h4 dX7_readOrder_123 ?_
      refine q_iconst (v := nI 1) dX7_readOrder_126 (by decide) ?_
      refine q_icmp_neN (tgt := 134) (by omega) (by omega) dX7_readOrder_127 (by decide) (fun q3 => ?_) (fun q3 => ?_)
      rotate_left
      · omega
      refine q_iconst (v := nI 0) dX7_readOrder_134 (by decide) ?_
      refine q_istore_n (ls' := [_, _, _, _]) dX7_readOrder_135 (Nat.le_of_ble_eq_true rfl) rfl ?_
      refine q_aload_n dX7_readOrder_136 rfl ?_
      refine q_getI fl_RX7_213 rfl k356 h4 dX7_readOrder_137 ?_
      refine q_if_neN (tgt := 147) (by omega) dX7_readOrder_140 (by decide) (fun q4 => ?_) (fun q4 => ?_)
      rotate_left
      · omega
      refine q_aload_n dX7_readOrder_147 rfl ?_
      refine q_getI fl_RX7_213 rfl k356 h4 dX7_readOrder_148 ?_
      refine q_iconst (v := nI 1) dX7_readOrder_151 (by decide) ?_
      refine q_icmp_neN (tgt := 159) (by omega) (by omega) dX7_readOrder_152 (by decide) (fun q5 => ?_) (fun q5 => ?_)
      rotate_left
      · omega
      refine q_iload_n dX7_readOrder_159 rfl ?_
      refine q_istore_n (ls' := [_, _, _, _]) dX7_readOrder_160 (Nat.le_of_ble_eq_true rfl) rfl ?_
      exact at161 _
    · refine q_if_eqN (tgt := 118) (by omega) dX7_readOrder_107 (by decide) (fun q => ?_) (fun q => ?_)
      · omega
      refine q_aload_n dX7_readOrder_110 rfl ?_
      refine q_getI fl_RX7_213 rfl k356 h4 dX7_readOrder_111 ?_
      refine q_iconst (v := nI 2) dX7_readOrder_114 (by decide) ?_
      refine q_icmp_neN (tgt := 122) (by omega) (by omega) dX7_readOrder_115 (by decide) (fun q2 => ?_) (fun q2 => ?_)
      rotate_left
      · omega
      refine q_aload_n dX7_readOrder_122 rfl ?_
      refine q_getI fl_RX7_213 rfl k356 h4 dX7_readOrder_123 ?_
      refine q_iconst (v := nI 1) dX7_readOrder_126 (by decide) ?_
      refine q_icmp_neN (tgt := 134) (by omega) (by omega) dX7_readOrder_127 (by decide) (fun q3 => ?_) (fun q3 => ?_)
      rotate_left
      · omega
      refine q_iconst (v := nI 0) dX7_readOrder_134 (by decide) ?_
      refine q_istore_n (ls' := [_, _, _, _]) dX7_readOrder_135 (Nat.le_of_ble_eq_true rfl) rfl ?_
      refine q_aload_n dX7_readOrder_136 rfl ?_
      refine q_getI fl_RX7_213 rfl k356 h4 dX7_readOrder_137 ?_
      refine q_if_neN (tgt := 147) (by omega) dX7_readOrder_140 (by decide) (fun q4 => ?_) (fun q4 => ?_)
      rotate_left
      · omega
      refine q_aload_n dX7_readOrder_147 rfl ?_
      refine q_getI fl_RX7_213 rfl k356 h4 dX7_readOrder_148 ?_
      refine q_iconst (v := nI 1) dX7_readOrder_151 (by decide) ?_
      refine q_icmp_neN (tgt := 159) (by omega) (by omega) dX7_readOrder_152 (by decide) (fun q5 => ?_) (fun q5 => ?_)
      rotate_left
      · omega
      refine q_iload_n dX7_readOrder_159 rfl ?_
      refine q_istore_n (ls' := [_, _, _, _]) dX7_readOrder_160 (Nat.le_of_ble_eq_true rfl) rfl ?_
      exact at161 _
  have behind : ∀ (K : q_Mem) (o1 o2 o3 : Option Value), RLt I K s (sbh t s) → q_X kX7_readOrder 37 [some (.ref 356), o1, o2, o3] [] K (roQ I t s) := by
    intro K o1 o2 o3 hK
    obtain ⟨h1, h2, h3, h5, h7⟩ := id hK
    have hTK := h1.mt hT
    obtain ⟨b1, b2⟩ := skl_le t (t.length - s) s
    have b1 : s ≤ sbh t s := b1
    have b2 : sbh t s ≤ s + (t.length - s) := b2
    refine q_aload_n dX7_readOrder_37 rfl ?_
    refine q_aload_n dX7_readOrder_38 rfl ?_
    refine q_getI fl_RX7_194 rfl k356 h3 dX7_readOrder_39 ?_
    refine q_aload_n dX7_readOrder_42 rfl ?_
    refine q_getI fl_RX7_182 rfl k356 hTK.1 dX7_readOrder_43 ?_
    refine q_icmp_neN (tgt := 53) (by omega) (by omega) dX7_readOrder_46 (by decide) (fun q => ?_) (fun q => ?_)
    · have hlt : sbh t s < t.length := by omega
      refine q_aload_n dX7_readOrder_53 rfl ?_
      refine q_aload_n dX7_readOrder_54 rfl ?_
      refine q_getI fl_RX7_194 rfl k356 h3 dX7_readOrder_55 ?_
      refine q_aload_n dX7_readOrder_58 rfl ?_
      refine q_getI fl_RX7_188 rfl k356 h2 dX7_readOrder_59 ?_
      refine q_isub dX7_readOrder_62 ?_
      rw [pk_sub b1]
      refine q_cV (as := [_]) lk_RX7_210 (r_wordOf (n := sbh t s - s) ht hTK h2 (by omega)) (Or.inl ⟨6, by decide, k356, rfl⟩) rfl (by decide) (Nat.le_of_ble_eq_true rfl) dX7_readOrder_63 ?_
      rintro v K' ⟨rfl, rfl⟩
      have hsw : wdr t s (sbh t s - s) 5 0 = swd t s := by rw [swd, if_pos hlt]
      rw [hsw]
      obtain ⟨s1, s2⟩ := swd_le t s
      refine q_putI ⟨fl_RX7_213, rfl, rfl⟩ k356 ⟨rfl, rfl⟩ dX7_readOrder_66 ?_
      by_cases ew : swd t s = 0
      · have e8 : q_up K 356 8 (enc (swd t s)) 356 8 = -1 := by rw [q_up_s, ew]; rfl
        refine q_aload_n dX7_readOrder_69 rfl ?_
        refine q_getI fl_RX7_213 rfl k356 e8 dX7_readOrder_70 ?_
        refine q_if_ge (tgt := 103) dX7_readOrder_73 (by decide) (fun q2 => ?_) (fun q2 => ?_)
        · exact absurd q2 (by decide)
        refine q_aload_n dX7_readOrder_76 rfl ?_
        refine q_aload_n dX7_readOrder_77 rfl ?_
        refine q_getI fl_RX7_194 rfl k356 ((q_up_n (by omega)).trans h3) dX7_readOrder_78 ?_
        refine q_aload_n dX7_readOrder_81 rfl ?_
        refine q_getI fl_RX7_182 rfl k356 ((q_up_n (by omega)).trans hTK.1) dX7_readOrder_82 ?_
        refine q_icmp_neN (tgt := 95) (by omega) (by omega) dX7_readOrder_85 (by decide) (fun q3 => ?_) (fun q3 => ?_)
        rotate_left
        · omega
        refine q_aload_n dX7_readOrder_95 rfl ?_
        refine q_getI fl_RX7_188 rfl k356 ((q_up_n (by omega)).trans h2) dX7_readOrder_96 ?_
        refine q_cV (as := [_]) lk_RX7_204 (r_misfits (s := s) (i := s) ((q_up_n (by omega)).trans h7) ((q_up_n (by omega)).trans h2) (Nat.le_refl _)) (Or.inl ⟨6, by decide, k356, rfl⟩) rfl (by decide) (Nat.le_of_ble_eq_true rfl) dX7_readOrder_99 ?_
        rintro v K' ⟨rfl, rfl⟩
        refine q_vret rfl dX7_readOrder_102 ⟨rfl, ?_⟩
        rw [if_pos ew, if_pos hlt]
        exact ⟨((h1.up (by omega)).up (by omega)).up (by omega), (q_up_n (by omega)).trans ((q_up_n (by omega)).trans ((q_up_n (by omega)).trans h2)), (q_up_n (by omega)).trans q_up_s, by rw [q_up_s, Nat.sub_self]⟩
      · obtain ⟨s3, s4⟩ := s2 ew
        have e8 : q_up K 356 8 (enc (swd t s)) 356 8 = nI (swd t s - 1) := by rw [q_up_s, enc, if_neg ew]
        have hK' : RD I (q_up K 356 8 (enc (swd t s))) (swd t s - 1) s (s + wll (swd t s - 1)) [] := ⟨h1.up (by omega), (q_up_n (by omega)).trans h2, by rw [s3]; exact (q_up_n (by omega)).trans h3, e8, (q_up_n (by omega)).trans h5, fun k v hv => (by cases hv), (q_up_n (by omega)).trans h7⟩
        generalize q_up K 356 8 (enc (swd t s)) = K1 at hK' ⊢
        refine q_aload_n dX7_readOrder_69 rfl ?_
        refine q_getI fl_RX7_213 rfl k356 hK'.2.2.2.1 dX7_readOrder_70 ?_
        refine q_if_ge (tgt := 103) dX7_readOrder_73 (by decide) (fun q2 => ?_) (fun q2 => ?_)
        rotate_left
        · exact absurd (nI_pos' (by omega)) q2
        refine q_X.mono (main K1 (swd t s - 1) _ _ _ (by omega) (by omega) hK') (fun v L hq => ⟨hq.1, ?_⟩)
        rw [if_neg ew]
        exact hq.2
    · have nlt : ¬ sbh t s < t.length := by omega
      have ew : swd t s = 0 := by rw [swd, if_neg nlt]
      refine q_iconst (v := -1) dX7_readOrder_49 (by decide) ?_
      refine q_goto (tgt := 66) dX7_readOrder_50 (by decide) ?_
      refine q_putI ⟨fl_RX7_213, rfl, rfl⟩ k356 ⟨rfl, rfl⟩ dX7_readOrder_66 ?_
      refine q_aload_n dX7_readOrder_69 rfl ?_
      refine q_getI fl_RX7_213 rfl k356 q_up_s dX7_readOrder_70 ?_
      refine q_if_ge (tgt := 103) dX7_readOrder_73 (by decide) (fun q2 => ?_) (fun q2 => ?_)
      · exact absurd q2 (by decide)
      refine q_aload_n dX7_readOrder_76 rfl ?_
      refine q_aload_n dX7_readOrder_77 rfl ?_
      refine q_getI fl_RX7_194 rfl k356 ((q_up_n (by omega)).trans h3) dX7_readOrder_78 ?_
      refine q_aload_n dX7_readOrder_81 rfl ?_
      refine q_getI fl_RX7_182 rfl k356 ((q_up_n (by omega)).trans hTK.1) dX7_readOrder_82 ?_
      refine q_icmp_neN (tgt := 95) (by omega) (by omega) dX7_readOrder_85 (by decide) (fun q3 => ?_) (fun q3 => ?_)
      · omega
      refine q_aload_n dX7_readOrder_88 rfl ?_
      refine q_getI fl_RX7_182 rfl k356 ((q_up_n (by omega)).trans hTK.1) dX7_readOrder_89 ?_
      refine q_goto (tgt := 99) dX7_readOrder_92 (by decide) ?_
      refine q_cV (as := [_]) lk_RX7_204 (r_misfits (s := s) (i := t.length) ((q_up_n (by omega)).trans h7) ((q_up_n (by omega)).trans h2) hs) (Or.inl ⟨6, by decide, k356, rfl⟩) rfl (by decide) (Nat.le_of_ble_eq_true rfl) dX7_readOrder_99 ?_
      rintro v K' ⟨rfl, rfl⟩
      refine q_vret rfl dX7_readOrder_102 ⟨rfl, ?_⟩
      rw [if_pos ew, if_neg nlt]
      exact ⟨((h1.up (by omega)).up (by omega)).up (by omega), (q_up_n (by omega)).trans ((q_up_n (by omega)).trans ((q_up_n (by omega)).trans h2)), (q_up_n (by omega)).trans q_up_s, q_up_s⟩
  have letters : ∀ (d i : Nat) (K : q_Mem) (o1 o2 o3 : Option Value), i + d = t.length → skl t d i = sbh t s → RLt I K s i → q_X kX7_readOrder 13 [some (.ref 356), o1, o2, o3] [] K (roQ I t s) := by
    intro d
    induction d with
    | zero =>
      intro i K o1 o2 o3 hd he hK
      have hTK := hK.1.mt hT
      have h0 := gt_0 (t := t) (i := i) (by omega)
      refine q_aload_n dX7_readOrder_13 rfl ?_
      refine q_bipush (v := nI 97) dX7_readOrder_14 (by decide) ?_
      refine q_bipush (v := nI 122) dX7_readOrder_16 (by decide) ?_
      refine q_cV (as := [_, _]) lk_RX7_201 (r_isNext (a := 97) (b := 122) ht hTK hK.2.2.1 (by omega) (by omega) (by omega) (by omega)) (Or.inl ⟨6, by decide, k356, rfl⟩) rfl (by decide) (Nat.le_of_ble_eq_true rfl) dX7_readOrder_18 ?_
      rintro v K' ⟨rfl, rfl⟩
      rw [if_neg (show ¬ (97 ≤ gt t i ∧ gt t i ≤ 122) by omega)]
      refine q_if_eq (tgt := 37) dX7_readOrder_21 (by decide) (fun q => ?_) (fun q => ?_)
      rotate_left
      · exact absurd rfl q
      rw [show i = sbh t s from he] at hK
      exact behind K _ _ _ hK
    | succ d ih =>
      intro i K o1 o2 o3 hd he hK
      have hTK := hK.1.mt hT
      obtain ⟨k1, k2, k3, k4, k5⟩ := id hK
      refine q_aload_n dX7_readOrder_13 rfl ?_
      refine q_bipush (v := nI 97) dX7_readOrder_14 (by decide) ?_
      refine q_bipush (v := nI 122) dX7_readOrder_16 (by decide) ?_
      refine q_cV (as := [_, _]) lk_RX7_201 (r_isNext (a := 97) (b := 122) ht hTK hK.2.2.1 (by omega) (by omega) (by omega) (by omega)) (Or.inl ⟨6, by decide, k356, rfl⟩) rfl (by decide) (Nat.le_of_ble_eq_true rfl) dX7_readOrder_18 ?_
      rintro v K' ⟨rfl, rfl⟩
      by_cases e : isl (gt t i)
      · rw [if_pos e]
        refine q_if_eq (tgt := 37) dX7_readOrder_21 (by decide) (fun q => ?_) (fun q => ?_)
        · exact absurd q (by decide)
        refine q_aload_n dX7_readOrder_24 rfl ?_
        refine q_dup dX7_readOrder_25 rfl ?_
        refine q_getI fl_RX7_194 rfl k356 k3 dX7_readOrder_26 ?_
        refine q_iconst (v := nI 1) dX7_readOrder_29 (by decide) ?_
        refine q_iadd dX7_readOrder_30 ?_
        rw [nI_add]
        refine q_putI ⟨fl_RX7_194, rfl, rfl⟩ k356 ⟨rfl, rfl⟩ dX7_readOrder_31 ?_
        refine q_goto (tgt := 13) dX7_readOrder_34 (by decide) ?_
        rw [skl, if_pos e] at he
        exact ih (i + 1) _ _ _ _ (by omega) he ⟨k1.up (by omega), (q_up_n (by omega)).trans k2, q_up_s, (q_up_n (by omega)).trans k4, (q_up_n (by omega)).trans k5⟩
      · rw [if_neg e]
        refine q_if_eq (tgt := 37) dX7_readOrder_21 (by decide) (fun q => ?_) (fun q => ?_)
        rotate_left
        · exact absurd rfl q
        rw [skl, if_neg e] at he
        rw [he] at hK
        exact behind K _ _ _ hK
  refine q_M.of pnX7_readOrder (by simp [Value.category]) (Nat.le_of_ble_eq_true rfl) ?_
  refine q_aload_n dX7_readOrder_0 rfl ?_
  refine q_aload_n dX7_readOrder_1 rfl ?_
  refine q_getI fl_RX7_188 rfl k356 h6 dX7_readOrder_2 ?_
  refine q_putI ⟨fl_RX7_194, rfl, rfl⟩ k356 ⟨rfl, rfl⟩ dX7_readOrder_5 ?_
  refine q_aload_n dX7_readOrder_8 rfl ?_
  refine q_iconst (v := nI 0) dX7_readOrder_9 (by decide) ?_
  refine q_putI ⟨fl_RX7_207, rfl, rfl⟩ k356 ⟨rfl, rfl⟩ dX7_readOrder_10 ?_
  exact letters (t.length - s) s _ _ _ _ (by omega) rfl ⟨(FG.rf.up (by omega)).up (by omega), (q_up_n (by omega)).trans ((q_up_n (by omega)).trans h6), (q_up_n (by omega)).trans q_up_s, q_up_s, (q_up_n (by omega)).trans ((q_up_n (by omega)).trans h11)⟩
