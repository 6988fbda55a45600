/-! LAYER 2, the base: small naturals as ints, the reference's row as naturals -/
theorem zg {R : Type} {n j : Nat} {A : Option R} (h : j < n) (hn : n < 2 ^ 31) : (if nI j < 0 ∨ n ≤ (nI j).toNatClampNeg then none else A) = A := by
  rw [if_neg]
  rintro (q | q)
  · exact nI_pos (by omega) q
  · rw [nI_clamp (by omega)] at q; omega
theorem zJe {α R : Type} (G : α) (F : α → Option R) : zJ G F = F G := rfl
theorem nI_lt0 {n : Nat} (h : n < 2 ^ 31) : (nI n < 0) = False := eq_false (nI_pos h)
theorem nI_0lt {n : Nat} (h : n < 2 ^ 31) : (0 < nI n) = (0 < n) := by
  rw [show (0 : Int32) = nI 0 from rfl]; exact propext (nI_ltI (by omega) h)
theorem nI_e0 {n : Nat} (h : n < 2 ^ 31) : (nI n = 0) = (n = 0) := by
  rw [show (0 : Int32) = nI 0 from rfl]; exact propext (nI_eq h (by omega))
theorem nI_sub {a b : Nat} (h : b ≤ a) : nI a - nI b = nI (a - b) := pk_sub h
theorem nI_mul (a b : Nat) : nI a * nI b = nI (a * b) := pk_mul a b
theorem nI_ltE {a b : Nat} (ha : a < 2 ^ 31) (hb : b < 2 ^ 31) : (nI a < nI b) = (a < b) := propext (nI_ltI ha hb)
theorem nI_leE {a b : Nat} (ha : a < 2 ^ 31) (hb : b < 2 ^ 31) : (nI a ≤ nI b) = (a ≤ b) := propext (nI_leI ha hb)
theorem nI_eqE {a b : Nat} (ha : a < 2 ^ 31) (hb : b < 2 ^ 31) : (nI a = nI b) = (a = b) := propext (nI_eq ha hb)
/-- the reference's row: 68 naturals, but z at 7 -/
def rowOf (S : Nat → Nat) (z : Int32) : Nat → Int32 := fun k => if k = 7 then z else nI (S k)
def updN (S : Nat → Nat) (k v : Nat) : Nat → Nat := fun j => if j = k then v else S j
theorem rowOf_at {S : Nat → Nat} {z : Int32} {k : Nat} (h : k ≠ 7) : rowOf S z k = nI (S k) := if_neg h
theorem rowOf_7 {S : Nat → Nat} {z : Int32} : rowOf S z 7 = z := rfl
theorem rowOf_upd {S : Nat → Nat} {z : Int32} {k v : Nat} (h : k ≠ 7) : upd (rowOf S z) k (nI v) = rowOf (updN S k v) z := by
  funext j
  unfold upd rowOf updN
  by_cases h1 : j = k
  · subst h1; simp [h]
  · simp [h1]
theorem rowOf_upd7 {S : Nat → Nat} {z z' : Int32} : upd (rowOf S z) 7 z' = rowOf S z' := by
  funext j
  unfold upd rowOf
  by_cases h1 : j = 7
  · subst h1; simp
  · simp [h1]
theorem updN_s {S : Nat → Nat} {k v : Nat} : updN S k v k = v := if_pos rfl
theorem updN_n {S : Nat → Nat} {k v j : Nat} (h : j ≠ k) : updN S k v j = S j := if_neg h
/-- how many below n, a set of those below n -/
def ct (P : Nat → Bool) : Nat → Nat
  | 0 => 0
  | n + 1 => ct P n + (if P n then 1 else 0)
def setN (P : Nat → Bool) : Nat → Nat
  | 0 => 0
  | n + 1 => setN P n + (if P n then 2 ^ n else 0)
theorem ct_le (P : Nat → Bool) (n : Nat) : ct P n ≤ n := by
  induction n with
  | zero => exact Nat.le_refl 0
  | succ n ih => rw [ct]; split <;> omega
theorem ct_congr {P P' : Nat → Bool} {n : Nat} (h : ∀ j, j < n → P j = P' j) : ct P n = ct P' n := by
  induction n with
  | zero => rfl
  | succ n ih => rw [ct, ct, ih (fun j hj => h j (by omega)), h n (by omega)]
theorem ct_pos {P : Nat → Bool} {n p : Nat} (hp : p < n) (h : P p = true) : 1 ≤ ct P n := by
  induction n with
  | zero => omega
  | succ n ih =>
    rw [ct]
    by_cases e : p = n
    · subst e; rw [h]; simp
    · have := ih (by omega); omega
theorem setN_lt (P : Nat → Bool) (n : Nat) : setN P n < 2 ^ n := by
  induction n with
  | zero => exact Nat.one_pos
  | succ n ih => rw [setN, Nat.pow_succ]; split <;> omega
theorem setN_congr {P P' : Nat → Bool} {n : Nat} (h : ∀ j, j < n → P j = P' j) : setN P n = setN P' n := by
  induction n with
  | zero => rfl
  | succ n ih => rw [setN, setN, ih (fun j hj => h j (by omega)), h n (by omega)]
/-- the bits of a small number -/
def popc (n : Nat) : Nat := n % 2 + n / 2 % 2 + n / 4 % 2 + n / 8 % 2 + n / 16 % 2 + n / 32 % 2 + n / 64 % 2 + n / 128 % 2 + n / 256 % 2 + n / 512 % 2
set_option maxRecDepth 100000 in
theorem popc_add : ∀ n, n < 10 → ∀ a, a < 2 ^ n → popc (a + 2 ^ n) = popc a + 1 := by decide +kernel
theorem popc_setN (P : Nat → Bool) {n : Nat} (h : n ≤ 10) : popc (setN P n) = ct P n := by
  induction n with
  | zero => show popc 0 = 0; decide
  | succ n ih =>
    rw [setN, ct]
    split
    · rw [popc_add n (by omega) _ (setN_lt P n), ih (by omega)]
    · rw [Nat.add_zero, Nat.add_zero, ih (by omega)]
set_option maxRecDepth 100000 in
theorem z_bitCount : ∀ n, n < 1024 → fJ6_bitCount_0f7a4 (nI n) = some (nI (popc n)) := by decide +kernel
set_option maxRecDepth 100000 in
theorem z_ones : ∀ n, n < 1024 → fX5_ones (nI n) = some (nI (popc n)) := by decide +kernel
theorem nI_or (a b : Nat) : nI a ||| nI b = nI (a ||| b) := by
  apply Int32.toBitVec_inj.mp
  show (nI a).toBitVec ||| (nI b).toBitVec = (nI (a ||| b)).toBitVec
  simp only [nI, Int32.toBitVec_ofNat', BitVec.ofNat_or]
theorem or_pow {a n : Nat} (h : a < 2 ^ n) : a ||| 2 ^ n = a + 2 ^ n := by
  have e := Nat.two_pow_add_eq_or_of_lt h 1
  rw [Nat.mul_one] at e
  rw [Nat.or_comm, ← e, Nat.add_comm]
set_option maxRecDepth 100000 in
theorem nI_bit : ∀ n, n < 31 → nI 1 <<< (nI n &&& 31) = nI (2 ^ n) := by decide +kernel
theorem nI_setbit {a n : Nat} (h : a < 2 ^ n) (hn : n < 31) : nI a ||| (nI 1 <<< (nI n &&& 31)) = nI (a + 2 ^ n) := by
  rw [nI_bit n hn, nI_or, or_pow h]
