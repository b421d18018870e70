/-- what stays while a text is played in the season at 51 -/
def FP (I J : q_Mem) : Prop := ∀ a, ¬ a = 353 → ¬ a = 355 → (a < 51 ∨ 101 ≤ a) → J a = I a
/-! what would be, and playing -/
theorem RG.side {I J : q_Mem} {σ : q_S} {hs : List q_S} {t : List Nat} (h : RG I σ hs t) (hF : FP I J) (h51 : ∃ τ, RC 51 J τ) (hT : RT J t) : RG J σ hs t ∧ FO I J := by
  obtain ⟨h0, -, h2, n, hn, h3, h4, h5, h6, h7⟩ := h
  have e : ∀ a, ¬ a = 353 → ¬ a = 355 → (a < 51 ∨ 101 ≤ a) → J a = I a := hF
  exact ⟨⟨h0.fr (fun a a1 a2 => e a (by omega) (by omega) (by omega)), h51, hT, n, hn, by rw [e 101 (by omega) (by omega) (by omega)]; exact h3, by rw [e 101 (by omega) (by omega) (by omega)]; exact h4, h5, fun m hm => (h6 m hm).imp (fun τ hτ => hτ.fr (fun a a1 a2 => e a (by omega) (by omega) (by omega))), fun i τ hi => (h7 i τ hi).fr (fun a a1 a2 => e a (by omega) (by omega) (by omega))⟩, fun a ha => e a (by omega) (by omega) (by omega)⟩
theorem FP.of {I J : q_Mem} (h : FC 51 I J) : FP I J := fun a _ _ a3 => h a (by omega)
theorem g_ifClose {w : Int32} {I : q_Mem} {σ : q_S} {hs : List q_S} {t : List Nat} (h : RG I σ hs t) (hs1 : sok σ) : q_M kX6_ifClose [.ref 0, .int w] I (fun v J => v = some (.int (qIfClose σ w)) ∧ RG J σ hs t ∧ FO I J) := by
  obtain ⟨τ, hτ⟩ := h.2.1
  refine (c_ifClose h.1 hs1 hτ).mono ?_
  rintro v J ⟨rfl, e1, e2⟩
  exact ⟨rfl, h.side (FP.of e2) e1 (h.2.2.1.fr (e2 353 (by omega)) (e2 354 (by omega)))⟩
