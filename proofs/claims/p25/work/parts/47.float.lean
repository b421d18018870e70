/-! the bits of a mean -/
def n32 (x : UInt32) : Bool := @decide (vf_n32 x) (UInt32.decLe _ _)
theorem n32_of {x : UInt32} (h : n32 x = true) : vf_n32 x := @of_decide_eq_true (vf_n32 x) (UInt32.decLe _ _) h
def cdn : Nat → Int32 → UInt32 → Option (Int32 × UInt32)
  | 0, _, _ => none
  | d + 1, e, x => if Op.cmpValue (FP.fcmp x FP.fconst2) .l < 0 then some (e, x) else if n32 (FP.fdiv x FP.fconst2) = true then cdn d (e + 1) (FP.fdiv x FP.fconst2) else none
def cup : Nat → Int32 → UInt32 → Option (Int32 × UInt32)
  | 0, _, _ => none
  | d + 1, e, x => if 0 ≤ Op.cmpValue (FP.fcmp x FP.fconst1) .g then some (e, x) else if n32 (FP.fmul x FP.fconst2) = true then cup d (e - 1) (FP.fmul x FP.fconst2) else none
def cend (e : Int32) (x : UInt32) : Option Int32 := if n32 (FP.fsub x FP.fconst1) = true ∧ n32 (FP.fmul (FP.fsub x FP.fconst1) 1258291200) = true then some ((e <<< (nI 23 &&& 31)) ||| FP.f2i (FP.fmul (FP.fsub x FP.fconst1) 1258291200)) else none
def rend (e : Int32) (x : UInt32) : Option Int32 := if n32 (FP.fsub x FP.fconst1) = true ∧ n32 (FP.fmul (FP.fsub x FP.fconst1) 1258291200) = true then some (e * 8388608 + FP.f2i (FP.fmul (FP.fsub x FP.fconst1) 1258291200)) else none
def cbits (v : UInt32) : Option Int32 := if ¬ 0 < Op.cmpValue (FP.fcmp v FP.fconst0) .g then some 0 else (cdn 8 127 v).bind fun r => (cup 8 r.1 r.2).bind fun r => cend r.1 r.2
def rbits (v : UInt32) : Option Int32 := if Op.cmpValue (FP.fcmp v FP.fconst0) .l = 0 then some 0 else (cup 8 127 v).bind fun r => (cdn 8 r.1 r.2).bind fun r => rend r.1 r.2
abbrev mq (r n : Nat) : UInt32 := FP.fdiv (FP.i2f (nI r)) (FP.i2f (nI n))
def mtb (r n : Nat) : Bool := n32 (mq r n) && (cbits (mq r n)).isSome && (cbits (mq r n) == rbits (mq r n))
theorem mtab1 : ((List.range 16).all fun n => (List.range (4 * (n + 1) + 1)).all fun r => mtb r (n + 1)) = true := by decide +kernel
theorem mtab2 : ((List.range 8).all fun n => (List.range (4 * (n + 17) + 1)).all fun r => mtb r (n + 17)) = true := by decide +kernel
theorem mtab3 : ((List.range 6).all fun n => (List.range (4 * (n + 25) + 1)).all fun r => mtb r (n + 25)) = true := by decide +kernel
theorem mtab {r n : Nat} (h1 : 1 ≤ n) (h2 : n ≤ 30) (hr : r ≤ 4 * n) : mtb r n = true := by
  rcases Nat.lt_or_ge n 17 with q | q
  · have := List.all_eq_true.mp (List.all_eq_true.mp mtab1 (n - 1) (List.mem_range.mpr (by omega))) r (List.mem_range.mpr (by omega))
    rw [show n - 1 + 1 = n by omega] at this
    exact this
  rcases Nat.lt_or_ge n 25 with q2 | q2
  · have := List.all_eq_true.mp (List.all_eq_true.mp mtab2 (n - 17) (List.mem_range.mpr (by omega))) r (List.mem_range.mpr (by omega))
    rw [show n - 17 + 17 = n by omega] at this
    exact this
  · have := List.all_eq_true.mp (List.all_eq_true.mp mtab3 (n - 25) (List.mem_range.mpr (by omega))) r (List.mem_range.mpr (by omega))
    rw [show n - 25 + 25 = n by omega] at this
    exact this
def mbits (r n : Nat) : Int32 := (cbits (mq r n)).getD 0
theorem mtab_c {r n : Nat} (h1 : 1 ≤ n) (h2 : n ≤ 30) (hr : r ≤ 4 * n) : vf_n32 (mq r n) ∧ cbits (mq r n) = some (mbits r n) ∧ rbits (mq r n) = some (mbits r n) := by
  have h := mtab h1 h2 hr
  rw [mtb, Bool.and_eq_true, Bool.and_eq_true] at h
  obtain ⟨⟨a, b⟩, c⟩ := h
  have hc : cbits (mq r n) = some (mbits r n) := by
    unfold mbits
    cases e : cbits (mq r n) with
    | none => rw [e] at b; cases b
    | some x => rfl
  exact ⟨n32_of a, hc, (eq_of_beq c).symm.trans hc⟩
