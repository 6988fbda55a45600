/-! Inv through the model's steps -/
def bnd (b k : Nat) : Nat := if k < 8 then (if k = 0 then 9 else if k = 1 then 9 else if k = 2 then 99 else if k = 3 then 99 else if k = 4 then b else if k = 5 then 99999 else if k = 6 then 8 else 0) else if k < 28 then (if (k - 8) % 2 = 0 then 2 else 9) else if k < 68 then (if (k - 28) % 5 = 0 then 5 else if (k - 28) % 5 = 1 then 9 else if (k - 28) % 5 = 3 then 10 else 99) else 0
theorem bnd_g {b w : Nat} (h : w < 10) : bnd b (8 + 2 * w) = 2 := by
  unfold bnd; rw [if_neg (by omega), if_pos (by omega), if_pos (by omega)]
theorem bnd_s {b w : Nat} (h : w < 10) : bnd b (9 + 2 * w) = 9 := by
  unfold bnd; rw [if_neg (by omega), if_pos (by omega), if_neg (by omega)]
theorem bnd_k {b p : Nat} (h : p < 8) : bnd b (28 + 5 * p) = 5 := by
  unfold bnd; rw [if_neg (by omega), if_neg (by omega), if_pos (by omega), if_pos (by omega)]
theorem bnd_h {b p : Nat} (h : p < 8) : bnd b (29 + 5 * p) = 9 := by
  unfold bnd; rw [if_neg (by omega), if_neg (by omega), if_pos (by omega), if_neg (by omega), if_pos (by omega)]
theorem bnd_z {b p : Nat} (h : p < 8) : bnd b (30 + 5 * p) = 99 := by
  unfold bnd; rw [if_neg (by omega), if_neg (by omega), if_pos (by omega), if_neg (by omega), if_neg (by omega), if_neg (by omega)]
theorem bnd_o {b p : Nat} (h : p < 8) : bnd b (31 + 5 * p) = 10 := by
  unfold bnd; rw [if_neg (by omega), if_neg (by omega), if_pos (by omega), if_neg (by omega), if_neg (by omega), if_pos (by omega)]
theorem bnd_a {b p : Nat} (h : p < 8) : bnd b (32 + 5 * p) = 99 := by
  unfold bnd; rw [if_neg (by omega), if_neg (by omega), if_pos (by omega), if_neg (by omega), if_neg (by omega), if_neg (by omega)]
theorem bnd_out {b k : Nat} (h : 68 ≤ k) : bnd b k = 0 := by
  unfold bnd; rw [if_neg (by omega), if_neg (by omega), if_neg (by omega)]
theorem inv_iff {b : Nat} {S : Nat → Nat} : Inv b S ↔ ∀ k, k ≠ 7 → S k ≤ bnd b k := by
  constructor
  · rintro ⟨i0, i1, i2, i3, i4, i5, i6, iw, ip, io⟩ k hk
    by_cases h : k < 8
    · have : k = 0 ∨ k = 1 ∨ k = 2 ∨ k = 3 ∨ k = 4 ∨ k = 5 ∨ k = 6 := by omega
      rcases this with rfl | rfl | rfl | rfl | rfl | rfl | rfl
      · exact i0
      · exact i1
      · exact i2
      · exact i3
      · exact i4
      · exact i5
      · exact i6
    · by_cases h2 : k < 28
      · obtain ⟨w, hw⟩ : ∃ w, w = (k - 8) / 2 := ⟨_, rfl⟩
        by_cases h3 : (k - 8) % 2 = 0
        · have e : k = 8 + 2 * w := by omega
          rw [e, bnd_g (by omega)]; exact (iw w (by omega)).1
        · have e : k = 9 + 2 * w := by omega
          rw [e, bnd_s (by omega)]; exact (iw w (by omega)).2
      · by_cases h4 : k < 68
        · obtain ⟨p, hp⟩ : ∃ p, p = (k - 28) / 5 := ⟨_, rfl⟩
          obtain ⟨k1, k2, k3, k4, k5⟩ := ip p (by omega)
          have : k = 28 + 5 * p ∨ k = 29 + 5 * p ∨ k = 30 + 5 * p ∨ k = 31 + 5 * p ∨ k = 32 + 5 * p := by omega
          rcases this with e | e | e | e | e
          · rw [e, bnd_k (by omega)]; exact k1
          · rw [e, bnd_h (by omega)]; exact k2
          · rw [e, bnd_z (by omega)]; exact k3
          · rw [e, bnd_o (by omega)]; exact k4
          · rw [e, bnd_a (by omega)]; exact k5
        · rw [io k (by omega)]; exact Nat.zero_le _
  · intro h
    refine ⟨h 0 (by omega), h 1 (by omega), h 2 (by omega), h 3 (by omega), h 4 (by omega), h 5 (by omega), h 6 (by omega), fun w hw => ⟨?_, ?_⟩, fun p hp => ⟨?_, ?_, ?_, ?_, ?_⟩, fun k hk => ?_⟩
    · have := h (8 + 2 * w) (by omega); rwa [bnd_g hw] at this
    · have := h (9 + 2 * w) (by omega); rwa [bnd_s hw] at this
    · have := h (28 + 5 * p) (by omega); rwa [bnd_k hp] at this
    · have := h (29 + 5 * p) (by omega); rwa [bnd_h hp] at this
    · have := h (30 + 5 * p) (by omega); rwa [bnd_z hp] at this
    · have := h (31 + 5 * p) (by omega); rwa [bnd_o hp] at this
    · have := h (32 + 5 * p) (by omega); rwa [bnd_a hp] at this
    · have := h k (by omega); rw [bnd_out hk] at this; omega
theorem inv_upd {b : Nat} {S : Nat → Nat} {k v : Nat} (I : Inv b S) (h : v ≤ bnd b k) : Inv b (updN S k v) := by
  rw [inv_iff] at I ⊢
  intro j hj
  unfold updN
  split
  · next e => rw [e]; exact h
  · exact I j hj
theorem inv_mono {b c : Nat} {S : Nat → Nat} (I : Inv b S) (h : b ≤ c) : Inv c S := ⟨I.1, I.2.1, I.2.2.1, I.2.2.2.1, Nat.le_trans I.2.2.2.2.1 h, I.2.2.2.2.2⟩
theorem inv_6 {b : Nat} {S : Nat → Nat} (I : Inv b S) : S 6 ≤ 8 := I.2.2.2.2.2.2.1
theorem inv_on {b : Nat} {S : Nat → Nat} (I : Inv b S) : ∀ p, p < 8 → S (31 + 5 * p) ≤ 10 := fun p hp => (I.2.2.2.2.2.2.2.2.1 p hp).2.2.2.1
theorem inv_w {b : Nat} {S : Nat → Nat} (I : Inv b S) {w : Nat} (h : w < 10) : S (8 + 2 * w) ≤ 2 ∧ S (9 + 2 * w) ≤ 9 := I.2.2.2.2.2.2.2.1 w h
theorem inv_p {b : Nat} {S : Nat → Nat} (I : Inv b S) {p : Nat} (h : p < 8) : S (28 + 5 * p) ≤ 5 ∧ S (29 + 5 * p) ≤ 9 ∧ S (30 + 5 * p) ≤ 99 ∧ S (31 + 5 * p) ≤ 10 ∧ S (32 + 5 * p) ≤ 99 := I.2.2.2.2.2.2.2.2.1 p h
theorem clampN_le (x : Int32) : clampN x ≤ 99 := by
  unfold clampN
  split
  · omega
  · split
    · omega
    · next h => 
      have h2 : x.toInt ≤ 99 := by
        have := h
        rw [Int32.lt_iff_toInt_lt, nI_toInt (by omega)] at this
        omega
      omega
theorem nI_clampN {x : Int32} (h0 : ¬ x < 0) (h1 : ¬ nI 99 < x) : nI x.toInt.toNat = x := by
  obtain ⟨j, hj, rfl⟩ := nI_of h0
  rw [nI_toInt hj]; rfl
theorem s_held99 (x : Int32) : fX5_held x (nI 0) (nI 99) = some (nI (clampN x)) := by
  unfold fX5_held clampN
  rw [nI_0]
  by_cases h : x < 0
  · rw [if_pos h, if_pos h, nI_0]
  · rw [if_neg h, if_neg h]
    by_cases h2 : nI 99 < x
    · rw [if_pos h2, if_pos h2]
    · rw [if_neg h2, if_neg h2, nI_clampN h h2]
theorem c_heldSize (x : Int32) : fX4_heldSize x = some (nI (clampN x)) := by
  unfold fX4_heldSize clampN
  rw [nI_0]
  by_cases h : x < 0
  · have h2 : x < nI 99 := by
      rw [Int32.lt_iff_toInt_lt] at h ⊢
      rw [nI_toInt (by omega)]
      rw [Int32.toInt_zero] at h
      omega
    rw [if_pos h2, if_neg (fun q => ?_), if_pos h, nI_0]
    rw [Int32.lt_iff_toInt_lt] at h q
    omega
  · obtain ⟨j, hj, rfl⟩ := nI_of h
    rw [if_neg h, nI_toInt hj]
    by_cases h2 : j < 99
    · rw [ilt_t h2 (by omega), ilt_f (by omega) (by omega)]
      by_cases h3 : 0 < j
      · rw [if_pos ((nI_0lt hj).mpr h3)]; rfl
      · have e : j = 0 := by omega
        subst e; decide
    · rw [ilt_f (by omega) hj]
      rw [if_pos (by decide)]
      by_cases h3 : 99 < j
      · rw [ilt_t h3 hj]
      · have e : j = 99 := by omega
        subst e; rfl
theorem inv_leave {b : Nat} {S : Nat → Nat} {p : Nat} (I : Inv b S) (h : p < 8) : Inv b (leave S p) :=
  inv_upd (inv_upd I (by rw [bnd_o h]; omega)) (by rw [bnd_a h]; omega)
theorem inv_leaveUp {b : Nat} {S : Nat → Nat} {G : Nat → Bool} (I : Inv b S) : ∀ n, n ≤ 8 → Inv b (leaveUp G S n) := by
  intro n
  induction n with
  | zero => intro _; exact I
  | succ n ih =>
    intro h
    rw [leaveUp]
    split
    · exact inv_leave (ih (by omega)) (by omega)
    · exact ih (by omega)
theorem inv_clean {b : Nat} {S : Nat → Nat} {w : Nat} (I : Inv b S) (h : w < 10) : Inv b (cleanN S w) := by
  unfold cleanN
  refine inv_upd (inv_leaveUp I _ (inv_6 I)) ?_
  rw [bnd_g h]
  split <;> omega
theorem inv_comeOne {b : Nat} {S : Nat → Nat} {p : Nat} (I : Inv b S) (h : p < 8) : Inv b (comeOne S p) := by
  unfold comeOne
  have e1 := bnd_a (b := b) h
  have e2 := bnd_o (b := b) h
  have e3 := bnd_z (b := b) h
  split
  · split
    · exact inv_upd I (by rw [e1]; omega)
    · exact inv_upd (inv_upd (inv_upd (inv_upd I (by rw [e1]; omega)) (by rw [e2]; omega)) (by rw [e1]; omega)) (by rw [e3]; omega)
  · exact I
theorem inv_comeUp {b : Nat} {S : Nat → Nat} (I : Inv b S) : ∀ n, n ≤ 8 → Inv b (comeUp S n) := by
  intro n
  induction n with
  | zero => intro _; exact I
  | succ n ih => intro h; rw [comeUp]; exact inv_comeOne (ih (by omega)) (by omega)
theorem inv_growUp {b : Nat} {S : Nat → Nat} (I : Inv b S) : ∀ n, n ≤ 8 → Inv b (growUp S n) := by
  intro n
  induction n with
  | zero => intro _; exact I
  | succ n ih =>
    intro h
    rw [growUp]
    refine inv_upd (ih (by omega)) ?_
    rw [bnd_z (by omega)]
    split
    · exact (inv_p (ih (by omega)) (by omega)).2.2.1
    · exact clampN_le _
theorem busyN_le (S : Nat → Nat) : ∀ n, busyN S n ≤ n := by
  intro n
  induction n with
  | zero => exact Nat.le_refl 0
  | succ n ih => rw [busyN]; split <;> omega
theorem inv_bucket {b : Nat} {S : Nat → Nat} (I : Inv b S) : Inv b (bucketN S) := by
  unfold bucketN
  have := busyN_le S 9
  split
  · exact inv_clean I (by omega)
  · exact I
theorem inv_bucketUp {b : Nat} {S : Nat → Nat} (I : Inv b S) : ∀ n, Inv b (bucketUp S n) := by
  intro n
  induction n with
  | zero => exact I
  | succ n ih => rw [bucketUp]; exact inv_bucket ih
/-! keys that a step leaves alone -/
theorem leaveUp_n {G : Nat → Bool} {S : Nat → Nat} {k : Nat} (h : ∀ p, k ≠ 31 + 5 * p ∧ k ≠ 32 + 5 * p) : ∀ n, leaveUp G S n k = S k := by
  intro n
  induction n with
  | zero => rfl
  | succ n ih =>
    rw [leaveUp]
    split
    · unfold leave; rw [updN_n (h n).2, updN_n (h n).1, ih]
    · exact ih
theorem clean_n {S : Nat → Nat} {w k : Nat} (h : ∀ p, k ≠ 31 + 5 * p ∧ k ≠ 32 + 5 * p) (h2 : k ≠ 8 + 2 * w) : cleanN S w k = S k := by
  unfold cleanN
  rw [updN_n h2, leaveUp_n h]
theorem comeOne_n {S : Nat → Nat} {p k : Nat} (h : k ≠ 30 + 5 * p ∧ k ≠ 31 + 5 * p ∧ k ≠ 32 + 5 * p) : comeOne S p k = S k := by
  unfold comeOne
  split
  · split
    · rw [updN_n h.2.2]
    · rw [updN_n h.1, updN_n h.2.2, updN_n h.2.1, updN_n h.2.2]
  · rfl
theorem comeUp_n {S : Nat → Nat} {k : Nat} (h : ∀ p, k ≠ 30 + 5 * p ∧ k ≠ 31 + 5 * p ∧ k ≠ 32 + 5 * p) : ∀ n, comeUp S n k = S k := by
  intro n
  induction n with
  | zero => rfl
  | succ n ih => rw [comeUp, comeOne_n (h n), ih]
theorem growUp_n {S : Nat → Nat} {k : Nat} : ∀ n, (∀ p, p < n → k ≠ 30 + 5 * p) → growUp S n k = S k := by
  intro n
  induction n with
  | zero => intro _; rfl
  | succ n ih => intro h; rw [growUp]; unfold growOne; rw [updN_n (h n (by omega)), ih (fun p hp => h p (by omega))]
theorem bucket_n {S : Nat → Nat} {k : Nat} (h : ∀ p, k ≠ 31 + 5 * p ∧ k ≠ 32 + 5 * p) (h2 : ∀ w, k ≠ 8 + 2 * w) : bucketN S k = S k := by
  unfold bucketN
  split
  · exact clean_n h (h2 _)
  · rfl
theorem bucketUp_n {S : Nat → Nat} {k : Nat} (h : ∀ p, k ≠ 31 + 5 * p ∧ k ≠ 32 + 5 * p) (h2 : ∀ w, k ≠ 8 + 2 * w) : ∀ n, bucketUp S n k = S k := by
  intro n
  induction n with
  | zero => rfl
  | succ n ih => rw [bucketUp, bucket_n h h2, ih]
theorem comeUp_6 {S : Nat → Nat} (n : Nat) : comeUp S n 6 = S 6 := comeUp_n (fun p => by omega) n
theorem growUp_6 {S : Nat → Nat} (n : Nat) : growUp S n 6 = S 6 := growUp_n n (fun p _ => by omega)
theorem leaveUp_6 {G : Nat → Bool} {S : Nat → Nat} (n : Nat) : leaveUp G S n 6 = S 6 := leaveUp_n (fun p => by omega) n
theorem bucketUp_6 {S : Nat → Nat} (n : Nat) : bucketUp S n 6 = S 6 := by
  induction n with
  | zero => rfl
  | succ n ih =>
    rw [bucketUp]; unfold bucketN
    split
    · rw [clean_n (fun p => by omega) (by omega), ih]
    · exact ih
theorem cleanN_6 {S : Nat → Nat} (w : Nat) : cleanN S w 6 = S 6 := clean_n (fun p => by omega) (by omega)
theorem bucketUp_0 {S : Nat → Nat} (n : Nat) : bucketUp S n 0 = S 0 := bucketUp_n (fun p => by omega) (fun w => by omega) n
theorem bucketUp_small {S : Nat → Nat} {k : Nat} (hk : k < 8) (n : Nat) : bucketUp S n k = S k := bucketUp_n (fun p => by omega) (fun w => by omega) n
theorem stillN_small {S : Nat → Nat} {k : Nat} (hk : k < 8) : stillN S k = S k := by
  unfold stillN
  rw [bucketUp_small hk, growUp_n _ (fun p _ => by omega), comeUp_n (fun p => by omega)]
theorem inv_still {b : Nat} {S : Nat → Nat} (I : Inv b S) : Inv b (stillN S) := by
  unfold stillN
  refine inv_bucketUp (inv_growUp (inv_comeUp I _ (inv_6 I)) _ ?_) _
  rw [comeUp_6]; exact inv_6 I
theorem nightN_6 {S : Nat → Nat} : nightN S 6 = S 6 := by
  unfold nightN; rw [updN_n (by omega), updN_n (by omega), stillN_small (by omega)]
theorem nightN_4 {S : Nat → Nat} : nightN S 4 = S 4 + 1 := by
  unfold nightN; rw [updN_n (by omega), updN_s, stillN_small (by omega)]
theorem inv_night {b : Nat} {S : Nat → Nat} (I : Inv b S) : Inv (b + 1) (nightN S) := by
  unfold nightN
  have h4 := I.2.2.2.2.1
  refine inv_upd (inv_upd (inv_mono (inv_still I) (by omega)) ?_) ?_
  · rw [stillN_small (by omega)]; show S 4 + 1 ≤ b + 1; omega
  · show _ ≤ 99999; omega
def nightsN (S : Nat → Nat) : Nat → (Nat → Nat)
  | 0 => S
  | n + 1 => nightN (nightsN S n)
theorem inv_nights {b : Nat} {S : Nat → Nat} (I : Inv b S) : ∀ n, Inv (b + n) (nightsN S n) := by
  intro n
  induction n with
  | zero => exact I
  | succ n ih => exact inv_night ih
theorem nightsN_6 {S : Nat → Nat} : ∀ n, nightsN S n 6 = S 6 := by
  intro n
  induction n with
  | zero => rfl
  | succ n ih => rw [nightsN, nightN_6, ih]
/-- how much is looked at in the first n nights -/
def seenN (S : Nat → Nat) : Nat → Nat
  | 0 => 0
  | n + 1 => seenN S n + looksAllN (stillN (nightsN S n))
theorem sumOn_le {b : Nat} {S : Nat → Nat} {w : Nat} (I : Inv b S) : ∀ n, n ≤ 8 → sumOn S w n ≤ 99 * n := by
  intro n
  induction n with
  | zero => intro _; exact Nat.le_refl 0
  | succ n ih =>
    intro h
    have := (inv_p I (show n < 8 by omega)).2.2.1
    have := ih (by omega)
    rw [sumOn]
    split <;> omega
theorem looksN_le {b : Nat} {S : Nat → Nat} {w : Nat} (I : Inv b S) (h : w < 10) : looksN S w ≤ 7128 := by
  unfold looksN
  have h1 := sumOn_le (w := w) I (S 6) (inv_6 I)
  have h2 := inv_6 I
  have h3 := (inv_w I h).2
  calc sumOn S w (S 6) * S (9 + 2 * w) ≤ 792 * 9 := Nat.mul_le_mul (by omega) h3
    _ = 7128 := rfl
theorem looksUp_le {b : Nat} {S : Nat → Nat} (I : Inv b S) : ∀ n, n ≤ 10 → looksUp S n ≤ 7128 * n := by
  intro n
  induction n with
  | zero => intro _; exact Nat.le_refl 0
  | succ n ih =>
    intro h
    have := looksN_le (w := n) I (by omega)
    have := ih (by omega)
    rw [looksUp]; omega
theorem looksAll_le {b : Nat} {S : Nat → Nat} (I : Inv b S) : looksAllN S ≤ 71280 := looksUp_le I 10 (by omega)
