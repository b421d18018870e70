/-! words and links -/
abbrev q_MI : Type := MethodName × ByteArray × Nat × Option FieldType × Nat × Nat
def q_nf (c : Nat) : Nat := if c = 0 then 13 else if c = 1 then 3 else if c = 2 then 8 else if c = 3 then 14 else if c = 4 then 7 else 4
def q_C (c : Nat) : String := match c with
  | 0 => RX0
  | 1 => RX1
  | 2 => RX2
  | 3 => RX3
  | 4 => RX4
  | 5 => RX6
  | _ => RX7
def q_T (c : Nat) : u_T := match c with
  | 0 => TX0
  | 1 => TX1
  | 2 => TX2
  | 3 => TX3
  | 4 => TX4
  | 5 => TX6
  | _ => TX7
abbrev q_wd (w : Cond) : Prop := w ∈ lw_tbl ∧ goodWord w = true
abbrev q_lkB (own : String) (idx : Nat) (kc : q_MI) (n : Nat) : Prop := q_wd (.methodLink own idx kc.1) ∧ q_wd (.initialized kc.1.cls) ∧ q_wd (.code kc.1 kc.2.1 kc.2.2.1 kc.2.2.2.1) ∧ (kc.1.cls ≠ "java/lang/invoke/MethodHandle" ∧ kc.1.cls ≠ "java/lang/invoke/VarHandle") ∧ (parseMethodDescriptor kc.1.desc).map (fun d => d.parameters.length) = some n
abbrev q_lkV (own : String) (idx : Nat) (kc : q_MI) (n : Nat) : Prop := q_lkB own idx kc n ∧ q_wd (.instanceMethod kc.1) ∧ q_wd (.selects kc.1.cls kc.1 kc.1)
abbrev q_lkS (own : String) (idx : Nat) (kc : q_MI) (n : Nat) : Prop := q_lkB own idx kc n ∧ q_wd (.static kc.1)
abbrev q_lkN (kc : q_MI) (n : Nat) : Prop := q_wd (.initialized kc.1.cls) ∧ q_wd (.code kc.1 kc.2.1 kc.2.2.1 kc.2.2.2.1) ∧ (kc.1.cls ≠ "java/lang/invoke/MethodHandle" ∧ kc.1.cls ≠ "java/lang/invoke/VarHandle") ∧ (parseMethodDescriptor kc.1.desc).map (fun d => d.parameters.length) = some n ∧ q_wd (.static kc.1)
abbrev q_lkM (own : String) (idx : Nat) (y : MethodName) (b : ByteArray) : Prop := q_wd (.methodLink own idx y) ∧ q_wd (.static y) ∧ q_wd (.initialized "java/lang/Math") ∧ q_wd (.code y b 2 (some .int))
