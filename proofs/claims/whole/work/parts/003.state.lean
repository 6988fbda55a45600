/-! the town as 68 naturals (as the reference's row has them), and a night of it -/
def othN (S : Nat → Nat) (p : Nat) : Nat := ct (fun j => decide (S (31 + 5 * j) = S (31 + 5 * p))) (S 6) - 1
def luredN (S : Nat → Nat) (w : Nat) : Nat := if S (8 + 2 * w) = 1 then S 1 else 0
def growsI (S : Nat → Nat) (p : Nat) : Int32 := if S (28 + 5 * p) = 1 then nI (2 + luredN S (S (31 + 5 * p))) else if S (28 + 5 * p) = 2 then nI 2 - nI (othN S p) else if S (28 + 5 * p) = 3 then nI (2 * (2 + luredN S (S (31 + 5 * p)))) else if S (28 + 5 * p) = 4 then nI 5 - nI (othN S p) else if S (28 + 5 * p) = 5 then nI 0 else nI 2
def holdsI (S : Nat → Nat) (p : Nat) : Int32 := if S (28 + 5 * p) = 1 then nI (S (30 + 5 * p) / 2) - nI (S 1) else if S (28 + 5 * p) = 2 then nI (S (30 + 5 * p) / 2 + 5) else if S (28 + 5 * p) = 3 then nI (S (30 + 5 * p) / 2) - nI (S 1) + nI (S (29 + 5 * p)) else if S (28 + 5 * p) = 4 then nI (S (30 + 5 * p) / 2 + 5 + othN S p) else if S (28 + 5 * p) = 5 then nI 99 else nI (S (30 + 5 * p) / 2)
def backN (S : Nat → Nat) (p : Nat) : Nat := if S (28 + 5 * p) = 1 then 1 else if S (28 + 5 * p) = 2 then 3 + S (29 + 5 * p) else if S (28 + 5 * p) = 3 then 1 else if S (28 + 5 * p) = 4 then (3 + S (29 + 5 * p)) / 2 else if S (28 + 5 * p) = 5 then 9 else 3
def clampN (x : Int32) : Nat := if x < 0 then 0 else if nI 99 < x then 99 else x.toInt.toNat
def sumOn (S : Nat → Nat) (w : Nat) : Nat → Nat
  | 0 => 0
  | n + 1 => sumOn S w n + (if S (31 + 5 * n) = w then S (30 + 5 * n) else 0)
def looksN (S : Nat → Nat) (w : Nat) : Nat := sumOn S w (S 6) * S (9 + 2 * w)
def looksUp (S : Nat → Nat) : Nat → Nat
  | 0 => 0
  | n + 1 => looksUp S n + looksN S n
def looksAllN (S : Nat → Nat) : Nat := looksUp S 10
def goesB (S : Nat → Nat) (w p : Nat) : Bool := decide (S (31 + 5 * p) = w) && (if S (8 + 2 * w) = 2 then decide (S (28 + 5 * p) ≠ 5) else decide (¬ nI (S 2) < holdsI S p))
def leave (S : Nat → Nat) (p : Nat) : Nat → Nat := updN (updN S (31 + 5 * p) 10) (32 + 5 * p) 0
def leaveUp (G : Nat → Bool) (S : Nat → Nat) : Nat → (Nat → Nat)
  | 0 => S
  | n + 1 => if G n then leave (leaveUp G S n) n else leaveUp G S n
def cleanN (S : Nat → Nat) (w : Nat) : Nat → Nat := updN (leaveUp (goesB S w) S (S 6)) (8 + 2 * w) (if S (8 + 2 * w) = 2 then 2 else 1)
def cleanCt (S : Nat → Nat) (w : Nat) : Nat := ct (goesB S w) (S 6)
def comeOne (S : Nat → Nat) (p : Nat) : Nat → Nat := if S (31 + 5 * p) = 10 then (if min 99 (S (32 + 5 * p) + 1) < backN S p then updN S (32 + 5 * p) (min 99 (S (32 + 5 * p) + 1)) else updN (updN (updN (updN S (32 + 5 * p) (min 99 (S (32 + 5 * p) + 1))) (31 + 5 * p) ((S (29 + 5 * p) + S 4) % 10)) (32 + 5 * p) 0) (30 + 5 * p) 5) else S
def comeUp (S : Nat → Nat) : Nat → (Nat → Nat)
  | 0 => S
  | n + 1 => comeOne (comeUp S n) n
def growOne (S0 S : Nat → Nat) (p : Nat) : Nat → Nat := updN S (30 + 5 * p) (if S0 (31 + 5 * p) = 10 then S (30 + 5 * p) else clampN (nI (S (30 + 5 * p)) + growsI S0 p))
def growUp (S0 : Nat → Nat) : Nat → (Nat → Nat)
  | 0 => S0
  | n + 1 => growOne S0 (growUp S0 n) n
def busyN (S : Nat → Nat) : Nat → Nat
  | 0 => 0
  | n + 1 => if looksN S (busyN S n) < looksN S (n + 1) then n + 1 else busyN S n
def bucketN (S : Nat → Nat) : Nat → Nat := if 0 < looksN S (busyN S 9) then cleanN S (busyN S 9) else S
def bucketUp (S : Nat → Nat) : Nat → (Nat → Nat)
  | 0 => S
  | n + 1 => bucketN (bucketUp S n)
def stillN (S : Nat → Nat) : Nat → Nat := let S1 := comeUp S (S 6); let S2 := growUp S1 (S1 6); bucketUp S2 (S2 0)
def nightN (S : Nat → Nat) : Nat → Nat := updN (updN (stillN S) 4 (stillN S 4 + 1)) 5 (min 99999 (stillN S 5 + looksAllN (stillN S)))
/-- what every state keeps; b: how many nights at most -/
def Inv (b : Nat) (S : Nat → Nat) : Prop := S 0 ≤ 9 ∧ S 1 ≤ 9 ∧ S 2 ≤ 99 ∧ S 3 ≤ 99 ∧ S 4 ≤ b ∧ S 5 ≤ 99999 ∧ S 6 ≤ 8 ∧ (∀ w, w < 10 → S (8 + 2 * w) ≤ 2 ∧ S (9 + 2 * w) ≤ 9) ∧ (∀ p, p < 8 → S (28 + 5 * p) ≤ 5 ∧ S (29 + 5 * p) ≤ 9 ∧ S (30 + 5 * p) ≤ 99 ∧ S (31 + 5 * p) ≤ 10 ∧ S (32 + 5 * p) ≤ 99) ∧ (∀ k, 68 ≤ k → S k = 0)
