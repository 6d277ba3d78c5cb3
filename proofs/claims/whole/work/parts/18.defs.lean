def bI (x : Bool) : Int32 := if x then 1 else 0
/-- the row: both hold the same balls -/
def RB (cb mb : Nat → Int32) : Prop := ∃ B : Nat → Bool, (∀ k, k < 240 → cb k = bI (B k)) ∧ ∀ k, k < 240 → mb k = bI (B k)
/-- the latest strings -/
def RS (tl tr tS : Nat → Int32) (ts tb : Int32) (oL oR oM : Nat → Int32) : Prop := ∃ n : Nat, n ≤ 240 ∧ ts = nI n ∧ ∀ i, i < n → tl i = oL i ∧ tr i = oR i ∧ ∃ z : Nat, z ≤ 240 ∧ tl i = nI z ∧ oM i = tb - 2 * tS z
/-- the ring -/
def RR (rn : Int32) (rb : Int64) (mr : Nat → Int32) : Prop := ∃ n b : Nat, 1 ≤ n ∧ n ≤ 40 ∧ rn = nI n ∧ rb = lN b ∧ b < 2 ^ n ∧ ∀ k, k < n → mr k = bI (b.testBit k)
/-- the sheets -/
def RH (sl sf ss : Nat → Int32) (si : Nat → Nat → Int32) (hT hF hS hI : Nat → Int32) : Prop := ∀ i, i < 4 → (∃ t : Bool, sl i = bI (!t) ∧ hT i = bI t) ∧ sf i = hF i ∧ (∃ z : Nat, z ≤ 100 ∧ ss i = nI z ∧ hS i = nI z) ∧ ∀ k, k < 100 → si i k = hI (100 * i + k)

def Inv (cb : (Nat → Int32)) (mb : (Nat → Int32)) (tl : (Nat → Int32)) (tr : (Nat → Int32)) (tS : (Nat → Int32)) (ts : Int32) (tb : Int32) (oL : (Nat → Int32)) (oR : (Nat → Int32)) (oM : (Nat → Int32)) (rn : Int32) (rb : Int64) (mr : (Nat → Int32)) (sl : (Nat → Int32)) (sf : (Nat → Int32)) (ss : (Nat → Int32)) (si : (Nat → Nat → Int32)) (hT : (Nat → Int32)) (hF : (Nat → Int32)) (hS : (Nat → Int32)) (hI : (Nat → Int32)) : Prop := RB cb mb ∧ RS tl tr tS ts tb oL oR oM ∧ RR rn rb mr ∧ RH sl sf ss si hT hF hS hI
