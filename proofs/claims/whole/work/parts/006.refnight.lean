/-! the reference's night -/
theorem s_looks_i {b : Nat} {S : Nat → Nat} {z : Int32} {w : Nat} (I : Inv b S) (hw : w < 10) : fX5_looks (rowOf S z) (nI w) = some (nI (looksN S w)) := s_looks (inv_6 I) (inv_on I) hw
theorem s_looksOfAll_L {b : Nat} {S : Nat → Nat} {z : Int32} {k : Int32 → Option Int32} (I : Inv b S) : ∀ n i, i ≤ 10 → 10 - i < n → fX5_looksOfAll_L4 (rowOf S z) k n (nI (looksUp S i)) (nI i) = k (nI (looksAllN S)) := by
  intro n
  induction n with
  | zero => intro i _ h; omega
  | succ n ih =>
    intro i hi hn
    rw [fX5_looksOfAll_L4]
    by_cases h : i < 10
    · rw [ilt_t h (by omega), s_looks_i I h, zbs, nI_add, nI_1]
      exact ih (i + 1) (by omega) (by omega)
    · have e : i = 10 := by omega
      rw [ilt_f (by omega) (by omega), e]; rfl
theorem s_looksOfAll {b : Nat} {S : Nat → Nat} {z : Int32} (I : Inv b S) : fX5_looksOfAll (rowOf S z) = some (nI (looksAllN S)) := by
  unfold fX5_looksOfAll
  rw [zJe]
  exact s_looksOfAll_L I zK 0 (by omega) (by unfold zK; omega)
theorem decide_iff_if {P : Prop} {d : Decidable P} {α : Type} {A B : α} : (if decide P = true then A else B) = (if P then A else B) := by
  by_cases h : P <;> simp [h]
theorem s_cleaned_L20 {b : Nat} {S : Nat → Nat} {z : Int32} {w : Nat} {t : Nat} {k : Int32 → Option (Int32 × (Nat → Int32))} (I : Inv b S) (hw : w < 10) (ht : t = if S (8 + 2 * w) = 2 then 1 else 0) : ∀ n i, i ≤ S 6 → S 6 - i < n → fX5_cleaned_L20 (rowOf S z) (nI w) (nI t) k n (nI (setN (goesB S w) i)) (nI i) = k (nI (setN (goesB S w) (S 6))) := by
  have h6 := inv_6 I
  intro n
  induction n with
  | zero => intro i _ h; omega
  | succ n ih =>
    intro i hi hn
    rw [fX5_cleaned_L20, r6, r2]
    by_cases h : i < S 6
    · obtain ⟨k1, k2, k3, k4, k5⟩ := inv_p I (show i < 8 by omega)
      have ih := ih (i + 1) (by omega) (by omega)
      rw [setN] at ih
      rw [ilt_t h (by omega), s_its3 (by omega), zbs, zJe, nI_1]
      have yes : goesB S w i = true → (if nI 1 = 0 then fX5_cleaned_L20 (rowOf S z) (nI w) (nI t) k n (nI (setN (goesB S w) i) ||| nI 0) (nI (i + 1)) else fX5_cleaned_L20 (rowOf S z) (nI w) (nI t) k n (nI (setN (goesB S w) i) ||| nI 1 <<< (nI i &&& 31)) (nI (i + 1))) = k (nI (setN (goesB S w) (S 6))) := by
        intro g
        rw [ie0_f (by omega) (by omega), nI_setbit (setN_lt _ _) (by omega)]
        rw [g, if_pos rfl] at ih
        exact ih
      have no : goesB S w i = false → (if nI 0 = 0 then fX5_cleaned_L20 (rowOf S z) (nI w) (nI t) k n (nI (setN (goesB S w) i) ||| nI 0) (nI (i + 1)) else fX5_cleaned_L20 (rowOf S z) (nI w) (nI t) k n (nI (setN (goesB S w) i) ||| nI 1 <<< (nI i &&& 31)) (nI (i + 1))) = k (nI (setN (goesB S w) (S 6))) := by
        intro g
        rw [ie0_t rfl, nI_or, Nat.or_zero]
        rw [g, if_neg (by decide)] at ih
        exact ih
      by_cases e : S (31 + 5 * i) = w
      · rw [ieq_t e]
        by_cases x : S (8 + 2 * w) = 2
        · rw [if_pos x] at ht
          subst ht
          rw [ie0_f (by omega) (by omega), s_its0 (by omega), zbs]
          by_cases y : S (28 + 5 * i) = 5
          · rw [ieq_t y]
            exact no (by unfold goesB; simp [e, x, y])
          · rw [ieq_f y (by omega) (by omega)]
            exact yes (by unfold goesB; simp [e, x, y])
        · rw [if_neg x] at ht
          subst ht
          rw [ie0_t rfl, s_holds I (by omega), zbs]
          by_cases y : nI (S 2) < holdsI S i
          · rw [if_pos y]
            exact no (by unfold goesB; simp [e, x, y])
          · rw [if_neg y]
            exact yes (by unfold goesB; simp [e, x, y])
      · rw [ieq_f e (by omega) (by omega)]
        exact no (by unfold goesB; simp [e])
    · have e : i = S 6 := by omega
      rw [ilt_f (by omega) (by omega), e]
theorem shr_bit : ∀ n, n < 8 → ∀ a, a < 256 → ((nI a >>> (nI n &&& 31)) &&& nI 1) = nI (a / 2 ^ n % 2) := by decide +kernel
theorem setN_bit (P : Nat → Bool) {p : Nat} : ∀ n, p < n → setN P n / 2 ^ p % 2 = if P p then 1 else 0 := by
  intro n
  induction n with
  | zero => intro h; omega
  | succ n ih =>
    intro h
    rw [setN]
    by_cases e : p = n
    · subst e
      have := setN_lt P p
      split
      · rw [Nat.add_div_right _ (Nat.two_pow_pos p), Nat.div_eq_of_lt this]
      · rw [Nat.add_zero, Nat.div_eq_of_lt this]
    · have h2 := ih (by omega)
      have e2 : 2 ^ n = 2 ^ p * (2 * 2 ^ (n - p - 1)) := by
        rw [← Nat.pow_succ', ← Nat.pow_add]; congr 1; omega
      rw [← h2]
      split
      · rw [e2, Nat.add_mul_div_left _ _ (Nat.two_pow_pos p), Nat.add_mul_mod_self_left]
      · rfl
theorem setbit_of {P : Nat → Bool} {c p : Nat} (hc : c ≤ 8) (hp : p < c) : ((nI (setN P c) >>> (nI p &&& 31)) &&& nI 1) = nI (if P p then 1 else 0) := by
  have h1 := setN_lt P c
  have h2 := pow8 hc
  rw [shr_bit p (by omega) _ (by omega), setN_bit P c hp]
theorem s_cleaned_L108 {b : Nat} {S : Nat → Nat} {z : Int32} {G : Nat → Bool} {k : (Nat → Int32) → Option (Int32 × (Nat → Int32))} (I : Inv b S) : ∀ n i, i ≤ S 6 → S 6 - i < n → fX5_cleaned_L108 (nI (setN G (S 6))) k n (nI i) (rowOf (leaveUp G S i) z) = k (rowOf (leaveUp G S (S 6)) z) := by
  have h6 := inv_6 I
  intro n
  induction n with
  | zero => intro i _ h; omega
  | succ n ih =>
    intro i hi hn
    rw [fX5_cleaned_L108, r6, leaveUp_6]
    by_cases h : i < S 6
    · have ih := ih (i + 1) (by omega) (by omega)
      rw [leaveUp] at ih
      rw [ilt_t h (by omega), setbit_of h6 h, nI_1]
      by_cases g : G i = true
      · rw [if_pos g] at ih
        rw [if_pos g, if_pos rfl, s_sets3 (by omega), zbs, s_sets4 (by omega), zbs]
        exact ih
      · rw [if_neg g] at ih
        rw [if_neg g, ieq_f (by omega) (by omega) (by omega)]
        exact ih
    · have e : i = S 6 := by omega
      rw [ilt_f (by omega) (by omega), e]
theorem s_cleaned {b : Nat} {S : Nat → Nat} {z : Int32} {w : Nat} (I : Inv b S) (hw : w < 10) : fX5_cleaned (rowOf S z) (nI w) = some (nI (cleanCt S w), rowOf (cleanN S w) z) := by
  have h6 := inv_6 I
  have hg := (inv_w I hw).1
  have h1 := setN_lt (goesB S w) (S 6)
  have h2 := pow8 h6
  unfold fX5_cleaned
  rw [s_ground (by omega), zbs, zJe]
  have go : ∀ t, (t = if S (8 + 2 * w) = 2 then 1 else 0) → (zJ (fun (y3_5 : Int32) => (zJ (fun (v_row_9 : Nat → Int32) => (if (nI t) = 0 then (if ((nI 8) + ((nI 2) * nI w)) < 0 ∨ 68 ≤ ((nI 8) + ((nI 2) * nI w)).toNatClampNeg then none else ((fX5_ones y3_5).bind (fun u174 => (some (u174, (upd v_row_9 ((nI 8) + ((nI 2) * nI w)).toNatClampNeg (nI 1))))))) else (if ((nI 8) + ((nI 2) * nI w)) < 0 ∨ 68 ≤ ((nI 8) + ((nI 2) * nI w)).toNatClampNeg then none else ((fX5_ones y3_5).bind (fun u174_11 => (some (u174_11, (upd v_row_9 ((nI 8) + ((nI 2) * nI w)).toNatClampNeg (nI 2))))))))) (fun k_10 => (fX5_cleaned_L108 y3_5 k_10 zK (nI 0) (rowOf S z))))) (fun k_6 => (fX5_cleaned_L20 (rowOf S z) (nI w) (nI t) k_6 zK (nI 0) (nI 0)))) = some (nI (cleanCt S w), rowOf (cleanN S w) z) := by
    intro t ht
    rw [zJe]
    refine (s_cleaned_L20 I hw ht zK 0 (by omega) (by unfold zK; omega)).trans ?_
    rw [zJe]
    refine (s_cleaned_L108 I zK 0 (by omega) (by unfold zK; omega)).trans ?_
    rw [z_ones _ (by omega), zbs, zbs, nI_mul, nI_add, zg (by omega) (by omega), zg (by omega) (by omega), nI_clamp (by omega), popc_setN _ (by omega), rowOf_upd (by omega), rowOf_upd (by omega)]
    unfold cleanN cleanCt
    by_cases x : S (8 + 2 * w) = 2
    · rw [if_pos x] at ht
      rw [ht, ie0_f (by omega) (by omega), if_pos x]
    · rw [if_neg x] at ht
      rw [ht, ie0_t rfl, if_neg x]
  by_cases x : S (8 + 2 * w) = 2
  · rw [ieq_t x]; exact go 1 (by rw [if_pos x])
  · rw [ieq_f x (by omega) (by omega)]; exact go 0 (by rw [if_neg x])
theorem s_isGone {b : Nat} {S : Nat → Nat} {z : Int32} {p : Nat} (I : Inv b S) (h : p < 8) : fX5_isGone (rowOf S z) (nI p) = some (nI (if S (31 + 5 * p) = 10 then 1 else 0)) := by
  have := inv_on I p h
  unfold fX5_isGone
  rw [s_its3 h, zbs]
  by_cases e : S (31 + 5 * p) = 10
  · rw [ieq_t e, if_pos e]
  · rw [ieq_f e (by omega) (by omega), if_neg e]
theorem clampN_nI {n : Nat} (h : n < 2 ^ 31) : clampN (nI n) = min 99 n := by
  unfold clampN
  rw [if_neg (nI_pos h), nI_toInt h]
  by_cases h2 : 99 < n
  · rw [if_pos (nI_lt h2 h)]; omega
  · rw [if_neg (nI_nlt (by omega) (by omega))]; omega
theorem s_comesBack {b : Nat} {S : Nat → Nat} {z : Int32} {p : Nat} (hb : b < 1000000) (I : Inv b S) (h : p < S 6) (hg : S (31 + 5 * p) = 10) : fX5_comesBack (rowOf S z) (nI p) = some (rowOf (comeOne S p) z) := by
  have h6 := inv_6 I
  have h4 : S 4 ≤ b := I.2.2.2.2.1
  obtain ⟨k1, k2, k3, k4, k5⟩ := inv_p I (show p < 8 by omega)
  have I2 : Inv b (updN S (32 + 5 * p) (min 99 (S (32 + 5 * p) + 1))) := inv_upd I (by rw [bnd_a (by omega)]; omega)
  have hb2 : backN S p ≤ 12 := by
    unfold backN
    repeat' split
    all_goals omega
  have eb : backN (updN S (32 + 5 * p) (min 99 (S (32 + 5 * p) + 1))) p = backN S p := by
    unfold backN; rw [updN_n (by omega), updN_n (by omega)]
  unfold fX5_comesBack comeOne
  rw [s_its4 (by omega), zbs, nI_add, s_held99, clampN_nI (by omega), zbs, s_sets4 (by omega), zbs, s_its4 (by omega), zbs, s_back I2 (by omega), zbs, updN_s, eb, if_pos hg]
  by_cases x : min 99 (S (32 + 5 * p) + 1) < backN S p
  · rw [ilt_t x (by omega), if_pos x]
  · rw [ilt_f (by omega) (by omega), if_neg x, s_its1 (by omega), zbs, r4, nI_add, pk_rem (by rw [updN_n (by omega), updN_n (by omega)]; omega) (by omega) (by omega), s_sets3 (by omega), zbs, s_sets4 (by omega), zbs, s_sets2 (by omega), zbs, updN_n (show 29 + 5 * p ≠ 32 + 5 * p by omega), updN_n (show 4 ≠ 32 + 5 * p by omega)]
theorem s_bucket_L {b : Nat} {S : Nat → Nat} {z : Int32} {k : Int32 → Option (Nat → Int32)} (I : Inv b S) : ∀ n i, i ≤ 9 → 9 - i < n → fX5_bucket_L4 (rowOf S z) k n (nI (busyN S i)) (nI (i + 1)) = k (nI (busyN S 9)) := by
  intro n
  induction n with
  | zero => intro i _ h; omega
  | succ n ih =>
    intro i hi hn
    rw [fX5_bucket_L4]
    by_cases h : i < 9
    · have h1 := busyN_le S i
      have h2 := looksN_le (w := busyN S i) I (by omega)
      have h3 := looksN_le (w := i + 1) I (by omega)
      have ih := ih (i + 1) (by omega) (by omega)
      rw [busyN] at ih
      rw [ilt_t (by omega) (by omega), s_looks_i I (by omega), zbs, s_looks_i I (by omega), zbs, nI_1]
      by_cases x : looksN S (busyN S i) < looksN S (i + 1)
      · rw [if_pos x] at ih
        rw [ilt_t x (by omega)]
        exact ih
      · rw [if_neg x] at ih
        rw [ilt_f (by omega) (by omega)]
        exact ih
    · have e : i = 9 := by omega
      subst e
      rw [ilt_f (by omega) (by omega)]
theorem s_bucket {b : Nat} {S : Nat → Nat} {z : Int32} (I : Inv b S) : fX5_bucket (rowOf S z) = some (rowOf (bucketN S) z) := by
  have h1 := busyN_le S 9
  have h2 := looksN_le (w := busyN S 9) I (by omega)
  unfold fX5_bucket bucketN
  rw [zJe]
  refine (s_bucket_L I zK 0 (by omega) (by unfold zK; omega)).trans ?_
  rw [s_looks_i I (by omega), zbs]
  by_cases x : 0 < looksN S (busyN S 9)
  · rw [i0l_t x (by omega), if_pos x, s_cleaned I (by omega), zbs]
  · rw [i0l_f (by omega), if_neg x]
theorem s_night_L120 {b : Nat} {S : Nat → Nat} {z : Int32} {k : (Nat → Int32) → Option (Int32 × (Nat → Int32) × (Nat → Int32))} (I : Inv b S) : ∀ n i, i ≤ S 0 → S 0 - i < n → fX5_nightGoes_L120 k n (nI i) (rowOf (bucketUp S i) z) = k (rowOf (bucketUp S (S 0)) z) := by
  have h0 : S 0 ≤ 9 := I.1
  intro n
  induction n with
  | zero => intro i _ h; omega
  | succ n ih =>
    intro i hi hn
    rw [fX5_nightGoes_L120, r0, bucketUp_0]
    by_cases h : i < S 0
    · rw [ilt_t h (by omega), s_bucket (inv_bucketUp I i), zbs, nI_1]
      exact ih (i + 1) (by omega) (by omega)
    · have e : i = S 0 := by omega
      rw [ilt_f (by omega) (by omega), e]
theorem s_night_L2 {b : Nat} {S : Nat → Nat} {z : Int32} {k : (Nat → Int32) → Option (Int32 × (Nat → Int32) × (Nat → Int32))} (hb : b < 1000000) (I : Inv b S) : ∀ n i, i ≤ S 6 → S 6 - i < n → fX5_nightGoes_L2 k n (nI i) (rowOf (comeUp S i) z) = k (rowOf (comeUp S (S 6)) z) := by
  have h6 := inv_6 I
  intro n
  induction n with
  | zero => intro i _ h; omega
  | succ n ih =>
    intro i hi hn
    rw [fX5_nightGoes_L2, r6, comeUp_6]
    by_cases h : i < S 6
    · have Ii := inv_comeUp I i (by omega)
      rw [ilt_t h (by omega), s_isGone Ii (by omega), zbs, nI_1]
      have ih := ih (i + 1) (by omega) (by omega)
      rw [comeUp] at ih
      by_cases x : comeUp S i (31 + 5 * i) = 10
      · rw [if_pos x, ie0_f (by omega) (by omega), s_comesBack hb Ii (by rw [comeUp_6]; omega) x, zbs]
        exact ih
      · rw [if_neg x, ie0_t rfl]
        rw [show comeOne (comeUp S i) i = comeUp S i by unfold comeOne; rw [if_neg x]] at ih
        exact ih
    · have e : i = S 6 := by omega
      rw [ilt_f (by omega) (by omega), e]
theorem s_night_L34 {b : Nat} {S : Nat → Nat} {z : Int32} {k : (Nat → Int32) → Option (Int32 × (Nat → Int32) × (Nat → Int32))} (I : Inv b S) : ∀ n i, i ≤ S 6 → S 6 - i < n → ∀ g : Nat → Int32, (∀ p, p < i → g p = if S (31 + 5 * p) = 10 then nI 0 else growsI S p) → ∃ g' : Nat → Int32, (∀ p, p < S 6 → g' p = if S (31 + 5 * p) = 10 then nI 0 else growsI S p) ∧ fX5_nightGoes_L34 (rowOf S z) k n (nI i) g = k g' := by
  have h6 := inv_6 I
  intro n
  induction n with
  | zero => intro i _ h; omega
  | succ n ih =>
    intro i hi hn g hg
    rw [fX5_nightGoes_L34, r6]
    by_cases h : i < S 6
    · rw [ilt_t h (by omega), s_isGone I (by omega), zbs, nI_1]
      have next : ∀ v, (v = if S (31 + 5 * i) = 10 then nI 0 else growsI S i) → ∃ g' : Nat → Int32, (∀ p, p < S 6 → g' p = if S (31 + 5 * p) = 10 then nI 0 else growsI S p) ∧ fX5_nightGoes_L34 (rowOf S z) k n (nI (i + 1)) (upd g i v) = k g' := by
        intro v hv
        refine ih (i + 1) (by omega) (by omega) _ (fun p hp => ?_)
        by_cases e : p = i
        · subst e; rw [pk_us]; exact hv
        · rw [pk_un e]; exact hg p (by omega)
      by_cases x : S (31 + 5 * i) = 10
      · rw [if_pos x, ie0_f (by omega) (by omega), zg (by omega) (by omega), nI_clamp (by omega)]
        exact next _ (by rw [if_pos x])
      · rw [if_neg x, ie0_t rfl, s_grows I (by omega) x, zbs, zg (by omega) (by omega), nI_clamp (by omega)]
        exact next _ (by rw [if_neg x])
    · have e : i = S 6 := by omega
      rw [ilt_f (by omega) (by omega)]
      exact ⟨g, fun p hp => hg p (by omega), rfl⟩
theorem s_night_L76 {b : Nat} {S : Nat → Nat} {z : Int32} {g : Nat → Int32} {k : (Nat → Int32) → Option (Int32 × (Nat → Int32) × (Nat → Int32))} (I : Inv b S) (hg : ∀ p, p < S 6 → g p = if S (31 + 5 * p) = 10 then nI 0 else growsI S p) : ∀ n i, i ≤ S 6 → S 6 - i < n → fX5_nightGoes_L76 g k n (nI i) (rowOf (growUp S i) z) = k (rowOf (growUp S (S 6)) z) := by
  have h6 := inv_6 I
  intro n
  induction n with
  | zero => intro i _ h; omega
  | succ n ih =>
    intro i hi hn
    rw [fX5_nightGoes_L76, r6, growUp_6]
    by_cases h : i < S 6
    · have k3 := (inv_p (inv_growUp I i (by omega)) (show i < 8 by omega)).2.2.1
      rw [ilt_t h (by omega), s_its2 (by omega), zbs, zg (by omega) (by omega), nI_clamp (by omega), hg i h, s_held99, zbs, s_sets2 (by omega), zbs, nI_1]
      have ih := ih (i + 1) (by omega) (by omega)
      rw [growUp] at ih
      unfold growOne at ih
      by_cases x : S (31 + 5 * i) = 10
      · rw [if_pos x] at ih
        rw [if_pos x, nI_add, clampN_nI (by omega), show min 99 (growUp S i (30 + 5 * i) + 0) = growUp S i (30 + 5 * i) by omega]
        exact ih
      · rw [if_neg x] at ih
        rw [if_neg x]
        exact ih
    · have e : i = S 6 := by omega
      rw [ilt_f (by omega) (by omega), e]
theorem looksN_upd {S : Nat → Nat} {k v w : Nat} (hk : k < 6) : looksN (updN S k v) w = looksN S w := by
  unfold looksN
  rw [updN_n (by omega), updN_n (by omega)]
  congr 1
  generalize S 6 = n
  induction n with
  | zero => rfl
  | succ n ih => rw [sumOn, sumOn, ih, updN_n (by omega), updN_n (by omega)]
theorem looksAll_upd {S : Nat → Nat} {k v : Nat} (hk : k < 6) : looksAllN (updN S k v) = looksAllN S := by
  unfold looksAllN
  generalize 10 = n
  induction n with
  | zero => rfl
  | succ n ih => rw [looksUp, looksUp, ih, looksN_upd hk]
theorem s_nightGoes {b : Nat} {S : Nat → Nat} {z v : Int32} {g : Nat → Int32} (hb : b < 1000000) (I : Inv b S) : ∃ g', fX5_nightGoes v (rowOf S z) g = some (v + nI (looksAllN (stillN S)), rowOf (nightN S) z, g') := by
  have h6 := inv_6 I
  have h4 : S 4 ≤ b := I.2.2.2.2.1
  have I1 := inv_comeUp I _ h6
  have e6 := comeUp_6 (S := S) (S 6)
  have I2 := inv_growUp I1 (comeUp S (S 6) 6) (by omega)
  have I3 := inv_still I
  have h5 : stillN S 5 ≤ 99999 := I3.2.2.2.2.2.1
  have hl := looksAll_le I3
  have I4 : Inv (b + 1) (updN (stillN S) 4 (stillN S 4 + 1)) := inv_upd (inv_mono I3 (by omega)) (by rw [stillN_small (by omega)]; show S 4 + 1 ≤ b + 1; omega)
  have main : ∀ gg, (zJ (fun (v_row_15 : Nat → Int32) => ((fX5_looksOfAll (upd v_row_15 4 ((v_row_15 4) + (nI 1)))).bind (fun u151 => ((fX5_held (((upd v_row_15 4 ((v_row_15 4) + (nI 1))) 5) + u151) (nI 0) (nI 99999)).bind (fun u182 => (some ((v + u151), (upd (upd v_row_15 4 ((v_row_15 4) + (nI 1))) 5 u182), gg))))))) (fun k_16 => (fX5_nightGoes_L120 k_16 zK (nI 0) (rowOf (growUp (comeUp S (S 6)) (comeUp S (S 6) 6)) z)))) = some (v + nI (looksAllN (stillN S)), rowOf (nightN S) z, gg) := by
    intro gg
    rw [zJe]
    refine (s_night_L120 I2 zK 0 (by omega) (by have := I2.1; unfold zK; omega)).trans ?_
    show ((fX5_looksOfAll (upd (rowOf (stillN S) z) 4 ((rowOf (stillN S) z 4) + (nI 1)))).bind _) = _
    rw [show bucketUp (growUp (comeUp S (S 6)) (comeUp S (S 6) 6)) (growUp (comeUp S (S 6)) (comeUp S (S 6) 6) 0) = stillN S from rfl, r4, nI_add, rowOf_upd (by omega), s_looksOfAll I4, zbs, r5, updN_n (by omega), nI_add, looksAll_upd (by omega)]
    unfold fX5_held
    rw [show nI 0 = (0 : Int32) from rfl, if_neg (nI_pos (by omega))]
    by_cases x : 99999 < stillN S 5 + looksAllN (stillN S)
    · rw [ilt_t x (by omega), zbs, rowOf_upd (by omega)]
      unfold nightN
      rw [show min 99999 (stillN S 5 + looksAllN (stillN S)) = 99999 by omega]
    · rw [ilt_f (by omega) (by omega), zbs, rowOf_upd (by omega)]
      unfold nightN
      rw [show min 99999 (stillN S 5 + looksAllN (stillN S)) = stillN S 5 + looksAllN (stillN S) by omega]
  unfold fX5_nightGoes
  rw [zJe, show rowOf S z = rowOf (comeUp S 0) z from rfl, s_night_L2 hb I zK 0 (by omega) (by unfold zK; omega), zJe]
  obtain ⟨g', hg', e⟩ := s_night_L34 (z := z) (k := fun (v_growing_7 : Nat → Int32) => (zJ (fun (v_row_11 : Nat → Int32) => (zJ (fun (v_row_15 : Nat → Int32) => ((fX5_looksOfAll (upd v_row_15 4 ((v_row_15 4) + (nI 1)))).bind (fun u151 => ((fX5_held (((upd v_row_15 4 ((v_row_15 4) + (nI 1))) 5) + u151) (nI 0) (nI 99999)).bind (fun u182 => (some ((v + u151), (upd (upd v_row_15 4 ((v_row_15 4) + (nI 1))) 5 u182), v_growing_7))))))) (fun k_16 => (fX5_nightGoes_L120 k_16 zK (nI 0) v_row_11)))) (fun k_12 => (fX5_nightGoes_L76 v_growing_7 k_12 zK (nI 0) (rowOf (comeUp S (S 6)) z))))) I1 zK 0 (by omega) (by rw [e6]; unfold zK; omega) g (fun p hp => by omega)
  refine ⟨g', e.trans ?_⟩
  rw [zJe, show rowOf (comeUp S (S 6)) z = rowOf (growUp (comeUp S (S 6)) 0) z from rfl, s_night_L76 I1 hg' zK 0 (by omega) (by rw [e6]; unfold zK; omega)]
  exact main g'
