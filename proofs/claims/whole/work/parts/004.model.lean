/-! the reference's small functions, over 'rowOf S z' -/
theorem ilt_t {R : Type} {a b : Nat} {A B : R} (h : a < b) (hb : b < 2 ^ 31) : (if nI a < nI b then A else B) = A := if_pos (nI_lt h hb)
theorem ilt_f {R : Type} {a b : Nat} {A B : R} (h : b ≤ a) (ha : a < 2 ^ 31) : (if nI a < nI b then A else B) = B := if_neg (nI_nlt h ha)
theorem ieq_t {R : Type} {a b : Nat} {A B : R} (h : a = b) : (if nI a = nI b then A else B) = A := if_pos (by rw [h])
theorem ieq_f {R : Type} {a b : Nat} {A B : R} (h : a ≠ b) (ha : a < 2 ^ 31) (hb : b < 2 ^ 31) : (if nI a = nI b then A else B) = B := if_neg (fun e => h ((nI_eq ha hb).mp e))
theorem ie0_t {R : Type} {a : Nat} {A B : R} (h : a = 0) : (if nI a = 0 then A else B) = A := if_pos (by rw [h]; rfl)
theorem ie0_f {R : Type} {a : Nat} {A B : R} (h : a ≠ 0) (ha : a < 2 ^ 31) : (if nI a = 0 then A else B) = B := if_neg (nI_ne0 (by omega) ha)
theorem i0l_t {R : Type} {a : Nat} {A B : R} (h : 0 < a) (ha : a < 2 ^ 31) : (if 0 < nI a then A else B) = A := if_pos ((nI_0lt ha).mpr h)
theorem i0l_f {R : Type} {a : Nat} {A B : R} (h : a = 0) : (if 0 < nI a then A else B) = B := if_neg (by rw [h]; decide)
theorem zbs {α β : Type} (a : α) (f : α → Option β) : (some a).bind f = f a := rfl
theorem r0 {S : Nat → Nat} {z : Int32} : rowOf S z 0 = nI (S 0) := rfl
theorem r1 {S : Nat → Nat} {z : Int32} : rowOf S z 1 = nI (S 1) := rfl
theorem r2 {S : Nat → Nat} {z : Int32} : rowOf S z 2 = nI (S 2) := rfl
theorem r3 {S : Nat → Nat} {z : Int32} : rowOf S z 3 = nI (S 3) := rfl
theorem r4 {S : Nat → Nat} {z : Int32} : rowOf S z 4 = nI (S 4) := rfl
theorem r5 {S : Nat → Nat} {z : Int32} : rowOf S z 5 = nI (S 5) := rfl
theorem r6 {S : Nat → Nat} {z : Int32} : rowOf S z 6 = nI (S 6) := rfl
theorem r7 {S : Nat → Nat} {z : Int32} : rowOf S z 7 = z := rfl
theorem s_its {S : Nat → Nat} {z : Int32} {p k a : Nat} (h : 28 + 5 * p + k = a) (ha : a < 68) : fX5_its (rowOf S z) (nI p) (nI k) = some (nI (S a)) := by
  unfold fX5_its
  rw [nI_mul, nI_add, nI_add, h, zg ha (by omega), nI_clamp (by omega), rowOf_at (by omega)]
theorem s_its0 {S : Nat → Nat} {z : Int32} {p : Nat} (h : p < 8) : fX5_its (rowOf S z) (nI p) (nI 0) = some (nI (S (28 + 5 * p))) := s_its (by omega) (by omega)
theorem s_its1 {S : Nat → Nat} {z : Int32} {p : Nat} (h : p < 8) : fX5_its (rowOf S z) (nI p) (nI 1) = some (nI (S (29 + 5 * p))) := s_its (by omega) (by omega)
theorem s_its2 {S : Nat → Nat} {z : Int32} {p : Nat} (h : p < 8) : fX5_its (rowOf S z) (nI p) (nI 2) = some (nI (S (30 + 5 * p))) := s_its (by omega) (by omega)
theorem s_its3 {S : Nat → Nat} {z : Int32} {p : Nat} (h : p < 8) : fX5_its (rowOf S z) (nI p) (nI 3) = some (nI (S (31 + 5 * p))) := s_its (by omega) (by omega)
theorem s_its4 {S : Nat → Nat} {z : Int32} {p : Nat} (h : p < 8) : fX5_its (rowOf S z) (nI p) (nI 4) = some (nI (S (32 + 5 * p))) := s_its (by omega) (by omega)
theorem s_sets {S : Nat → Nat} {z : Int32} {p k a v : Nat} (h : 28 + 5 * p + k = a) (ha : a < 68) : fX5_sets (rowOf S z) (nI p) (nI k) (nI v) = some (rowOf (updN S a v) z) := by
  unfold fX5_sets
  rw [nI_mul, nI_add, nI_add, h, zg ha (by omega), nI_clamp (by omega), rowOf_upd (by omega)]
theorem s_sets0 {S : Nat → Nat} {z : Int32} {p v : Nat} (h : p < 8) : fX5_sets (rowOf S z) (nI p) (nI 0) (nI v) = some (rowOf (updN S (28 + 5 * p) v) z) := s_sets (by omega) (by omega)
theorem s_sets1 {S : Nat → Nat} {z : Int32} {p v : Nat} (h : p < 8) : fX5_sets (rowOf S z) (nI p) (nI 1) (nI v) = some (rowOf (updN S (29 + 5 * p) v) z) := s_sets (by omega) (by omega)
theorem s_sets2 {S : Nat → Nat} {z : Int32} {p v : Nat} (h : p < 8) : fX5_sets (rowOf S z) (nI p) (nI 2) (nI v) = some (rowOf (updN S (30 + 5 * p) v) z) := s_sets (by omega) (by omega)
theorem s_sets3 {S : Nat → Nat} {z : Int32} {p v : Nat} (h : p < 8) : fX5_sets (rowOf S z) (nI p) (nI 3) (nI v) = some (rowOf (updN S (31 + 5 * p) v) z) := s_sets (by omega) (by omega)
theorem s_sets4 {S : Nat → Nat} {z : Int32} {p v : Nat} (h : p < 8) : fX5_sets (rowOf S z) (nI p) (nI 4) (nI v) = some (rowOf (updN S (32 + 5 * p) v) z) := s_sets (by omega) (by omega)
theorem s_ground {S : Nat → Nat} {z : Int32} {w : Nat} (h : w < 30) : fX5_ground (rowOf S z) (nI w) = some (nI (S (8 + 2 * w))) := by
  unfold fX5_ground
  rw [nI_mul, nI_add, zg (by omega) (by omega), nI_clamp (by omega), rowOf_at (by omega)]
theorem s_onWall_L {S : Nat → Nat} {z : Int32} {w : Nat} {k : Int32 → Option Int32} (hc : S 6 ≤ 8) (ho : ∀ p, p < 8 → S (31 + 5 * p) ≤ 10) (hw : w ≤ 10) : ∀ n i, i ≤ S 6 → S 6 - i < n → fX5_onWall_L4 (rowOf S z) (nI w) k n (nI (setN (fun j => decide (S (31 + 5 * j) = w)) i)) (nI i) = k (nI (setN (fun j => decide (S (31 + 5 * j) = w)) (S 6))) := by
  intro n
  induction n with
  | zero => intro i _ h; omega
  | succ n ih =>
    intro i hi hn
    rw [fX5_onWall_L4, r6]
    by_cases h : i < S 6
    · have h1 := ho i (by omega)
      rw [ilt_t h (by omega), s_its3 (by omega), zbs, nI_1]
      have ih := ih (i + 1) (by omega) (by omega)
      rw [setN] at ih
      by_cases e : S (31 + 5 * i) = w
      · rw [ieq_t e, nI_setbit (setN_lt _ _) (by omega)]
        simpa [e] using ih
      · rw [ieq_f e (by omega) (by omega), nI_or]
        simpa [e] using ih
    · have e : i = S 6 := by omega
      rw [ilt_f (by omega) (by omega), e]
theorem s_onWall {S : Nat → Nat} {z : Int32} {w : Nat} (hc : S 6 ≤ 8) (ho : ∀ p, p < 8 → S (31 + 5 * p) ≤ 10) (hw : w ≤ 10) : fX5_onWall (rowOf S z) (nI w) = some (nI (setN (fun j => decide (S (31 + 5 * j) = w)) (S 6))) := by
  unfold fX5_onWall
  rw [zJe]
  exact s_onWall_L hc ho hw zK 0 (by omega) (by unfold zK; omega)
theorem pow8 {n : Nat} (h : n ≤ 8) : 2 ^ n ≤ 256 := Nat.pow_le_pow_right (by omega) h
theorem s_others {S : Nat → Nat} {z : Int32} {p : Nat} (hc : S 6 ≤ 8) (ho : ∀ p, p < 8 → S (31 + 5 * p) ≤ 10) (hp : p < S 6) : fX5_others (rowOf S z) (nI p) = some (nI (othN S p)) := by
  have h1 := ho p (by omega)
  have h2 := setN_lt (fun j => decide (S (31 + 5 * j) = S (31 + 5 * p))) (S 6)
  have h3 := pow8 hc
  unfold fX5_others
  rw [s_its3 (by omega), zbs, s_onWall hc ho h1, zbs, z_ones _ (by omega), zbs, popc_setN _ (by omega), nI_sub (ct_pos hp (by simp))]
  rfl
theorem s_grows {b : Nat} {S : Nat → Nat} {z : Int32} {p : Nat} (I : Inv b S) (hp : p < S 6) (hg : S (31 + 5 * p) ≠ 10) : fX5_grows (rowOf S z) (nI p) = some (growsI S p) := by
  obtain ⟨i0, i1, i2, i3, i4, i5, i6, iw, ip, -⟩ := I
  obtain ⟨k1, k2, k3, k4, k5⟩ := ip p (by omega)
  obtain ⟨g1, g2⟩ := iw (S (31 + 5 * p)) (by omega)
  have ho : ∀ p, p < 8 → S (31 + 5 * p) ≤ 10 := fun q hq => (ip q hq).2.2.2.1
  unfold fX5_grows growsI luredN
  rw [s_its3 (by omega), zbs, s_ground (by omega), zbs, zJe, r1]
  simp only [nI_eqE (show S (8 + 2 * S (31 + 5 * p)) < 2 ^ 31 by omega) (show 1 < 2 ^ 31 by omega), s_its0 (show p < 8 by omega), zbs, s_others i6 ho hp, nI_eqE (show S (28 + 5 * p) < 2 ^ 31 by omega) (show 1 < 2 ^ 31 by omega), nI_eqE (show S (28 + 5 * p) < 2 ^ 31 by omega) (show 2 < 2 ^ 31 by omega), nI_eqE (show S (28 + 5 * p) < 2 ^ 31 by omega) (show 3 < 2 ^ 31 by omega), nI_eqE (show S (28 + 5 * p) < 2 ^ 31 by omega) (show 4 < 2 ^ 31 by omega), nI_eqE (show S (28 + 5 * p) < 2 ^ 31 by omega) (show 5 < 2 ^ 31 by omega), nI_add, nI_mul]
  by_cases e : S (8 + 2 * S (31 + 5 * p)) = 1
  · simp only [if_pos e, nI_mul]
    repeat' split
    all_goals first | rfl | omega
  · simp only [if_neg e, nI_mul]
    repeat' split
    all_goals first | rfl | omega
theorem s_holds {b : Nat} {S : Nat → Nat} {z : Int32} {p : Nat} (I : Inv b S) (hp : p < S 6) : fX5_holds (rowOf S z) (nI p) = some (holdsI S p) := by
  obtain ⟨i0, i1, i2, i3, i4, i5, i6, iw, ip, -⟩ := I
  obtain ⟨k1, k2, k3, k4, k5⟩ := ip p (by omega)
  have ho : ∀ p, p < 8 → S (31 + 5 * p) ≤ 10 := fun q hq => (ip q hq).2.2.2.1
  unfold fX5_holds holdsI
  simp only [s_its0 (show p < 8 by omega), s_its1 (show p < 8 by omega), s_its2 (show p < 8 by omega), zbs, s_others i6 ho hp, r1, nI_eqE (show S (28 + 5 * p) < 2 ^ 31 by omega) (show 1 < 2 ^ 31 by omega), nI_eqE (show S (28 + 5 * p) < 2 ^ 31 by omega) (show 2 < 2 ^ 31 by omega), nI_eqE (show S (28 + 5 * p) < 2 ^ 31 by omega) (show 3 < 2 ^ 31 by omega), nI_eqE (show S (28 + 5 * p) < 2 ^ 31 by omega) (show 4 < 2 ^ 31 by omega), nI_eqE (show S (28 + 5 * p) < 2 ^ 31 by omega) (show 5 < 2 ^ 31 by omega), pk_div (show S (30 + 5 * p) < 2 ^ 31 by omega) (show 0 < 2 by omega) (show 2 < 2 ^ 31 by omega), nI_add]
  repeat' split
  all_goals first | rfl | omega
theorem s_back {b : Nat} {S : Nat → Nat} {z : Int32} {p : Nat} (I : Inv b S) (hp : p < 8) : fX5_back (rowOf S z) (nI p) = some (nI (backN S p)) := by
  obtain ⟨i0, i1, i2, i3, i4, i5, i6, iw, ip, -⟩ := I
  obtain ⟨k1, k2, k3, k4, k5⟩ := ip p (by omega)
  unfold fX5_back backN
  simp only [s_its0 hp, s_its1 hp, zbs, nI_eqE (show S (28 + 5 * p) < 2 ^ 31 by omega) (show 1 < 2 ^ 31 by omega), nI_eqE (show S (28 + 5 * p) < 2 ^ 31 by omega) (show 2 < 2 ^ 31 by omega), nI_eqE (show S (28 + 5 * p) < 2 ^ 31 by omega) (show 3 < 2 ^ 31 by omega), nI_eqE (show S (28 + 5 * p) < 2 ^ 31 by omega) (show 4 < 2 ^ 31 by omega), nI_eqE (show S (28 + 5 * p) < 2 ^ 31 by omega) (show 5 < 2 ^ 31 by omega), nI_add, pk_div (show 3 + S (29 + 5 * p) < 2 ^ 31 by omega) (show 0 < 2 by omega) (show 2 < 2 ^ 31 by omega)]
  repeat' split
  all_goals first | rfl | omega
theorem s_looks_L {S : Nat → Nat} {z : Int32} {w : Nat} {k : Int32 → Option Int32} (hc : S 6 ≤ 8) (ho : ∀ p, p < 8 → S (31 + 5 * p) ≤ 10) (hw : w ≤ 10) : ∀ n i, i ≤ S 6 → S 6 - i < n → fX5_looks_L4 (rowOf S z) (nI w) k n (nI (sumOn S w i)) (nI i) = k (nI (sumOn S w (S 6))) := by
  intro n
  induction n with
  | zero => intro i _ h; omega
  | succ n ih =>
    intro i hi hn
    rw [fX5_looks_L4, r6]
    by_cases h : i < S 6
    · have h1 := ho i (by omega)
      have ih := ih (i + 1) (by omega) (by omega)
      rw [sumOn] at ih
      rw [ilt_t h (by omega), s_its3 (by omega), zbs, nI_1]
      by_cases e : S (31 + 5 * i) = w
      · rw [if_pos e] at ih
        rw [ieq_t e, s_its2 (by omega), zbs, nI_add]
        exact ih
      · rw [if_neg e] at ih
        rw [ieq_f e (by omega) (by omega), nI_add]
        exact ih
    · have e : i = S 6 := by omega
      rw [ilt_f (by omega) (by omega), e]
theorem s_looks {S : Nat → Nat} {z : Int32} {w : Nat} (hc : S 6 ≤ 8) (ho : ∀ p, p < 8 → S (31 + 5 * p) ≤ 10) (hw : w < 10) : fX5_looks (rowOf S z) (nI w) = some (nI (looksN S w)) := by
  unfold fX5_looks
  rw [zJe]
  refine (s_looks_L hc ho (by omega) zK 0 (by omega) (by unfold zK; omega)).trans ?_
  rw [nI_mul, nI_add, nI_add, zg (by omega) (by omega), nI_clamp (by omega), rowOf_at (by omega), nI_mul, show 8 + 2 * w + 1 = 9 + 2 * w by omega]
  rfl
