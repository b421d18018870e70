/-! the text -/
def tok (t : List Nat) : Prop := t.length ≤ 60 ∧ ∀ c, c ∈ t → 32 ≤ c ∧ c ≤ 126
def RT (I : q_Mem) (t : List Nat) : Prop := I 353 2 = nI t.length ∧ ∀ i c, t[i]? = some c → I 354 i = nI c
