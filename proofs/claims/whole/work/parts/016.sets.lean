/-! small sets, on both sides -/
theorem c_on_L {b : Nat} {S : Nat → Nat} {c ni gl : Int32} {la gr se ki ha si on aw : Nat → Int32} {w : Nat} {k : Int32 → Option Int32} (T : TR b S c ni gl la gr se ki ha si on aw) (hw : w ≤ 10) : ∀ n i, i ≤ S 6 → S 6 - i < n → fX2_namesOn_L4 c on (nI w) k n (nI (setN (fun j => decide (S (31 + 5 * j) = w)) i)) (nI i) = k (nI (setN (fun j => decide (S (31 + 5 * j) = w)) (S 6))) := by
  have h6 := inv_6 T.1
  intro n
  induction n with
  | zero => intro i _ h; omega
  | succ n ih =>
    intro i hi hn
    rw [fX2_namesOn_L4]
    by_cases h : i < S 6
    · have lt : nI i < c := by rw [tr_c T]; exact nI_lt h (by omega)
      have h1 := inv_on T.1 i (by omega)
      have ih := ih (i + 1) (by omega) (by omega)
      rw [setN] at ih
      rw [if_pos lt, zg (by omega) (by omega), nI_clamp (by omega), tr_on T h, nI_1, nI_setbit (setN_lt _ _) (by omega)]
      by_cases e : S (31 + 5 * i) = w
      · rw [ieq_t e]; simpa [e] using ih
      · rw [ieq_f e (by omega) (by omega)]; simpa [e] using ih
    · have e : i = S 6 := by omega
      rw [if_neg (show ¬ nI i < c by rw [tr_c T]; exact nI_nlt (by omega) (by omega)), e]
theorem c_on {b : Nat} {S : Nat → Nat} {c ni gl : Int32} {la gr se ki ha si on aw : Nat → Int32} {w : Nat} (T : TR b S c ni gl la gr se ki ha si on aw) (hw : w ≤ 10) : fX2_namesOn c on (nI w) = some (nI (setN (fun j => decide (S (31 + 5 * j) = w)) (S 6))) := by
  have h6 := inv_6 T.1
  unfold fX2_namesOn
  rw [zJe]
  exact c_on_L T hw zK 0 (by omega) (by unfold zK; omega)
theorem c_by_L {b : Nat} {S : Nat → Nat} {c ni gl : Int32} {la gr se ki ha si on aw : Nat → Int32} {h : Nat} {k : Int32 → Option Int32} (T : TR b S c ni gl la gr se ki ha si on aw) (hh : h ≤ 9) : ∀ n i, i ≤ S 6 → S 6 - i < n → fX2_namesByHand_L4 c ha (nI h) k n (nI (setN (fun j => decide (S (29 + 5 * j) = h)) i)) (nI i) = k (nI (setN (fun j => decide (S (29 + 5 * j) = h)) (S 6))) := by
  have h6 := inv_6 T.1
  intro n
  induction n with
  | zero => intro i _ h; omega
  | succ n ih =>
    intro i hi hn
    rw [fX2_namesByHand_L4]
    by_cases hl : i < S 6
    · have lt : nI i < c := by rw [tr_c T]; exact nI_lt hl (by omega)
      have h1 := (inv_p T.1 (show i < 8 by omega)).2.1
      have ih := ih (i + 1) (by omega) (by omega)
      rw [setN] at ih
      rw [if_pos lt, zg (by omega) (by omega), nI_clamp (by omega), tr_ha T hl, nI_1, nI_setbit (setN_lt _ _) (by omega)]
      by_cases e : S (29 + 5 * i) = h
      · rw [ieq_t e]; simpa [e] using ih
      · rw [ieq_f e (by omega) (by omega)]; simpa [e] using ih
    · have e : i = S 6 := by omega
      rw [if_neg (show ¬ nI i < c by rw [tr_c T]; exact nI_nlt (by omega) (by omega)), e]
theorem c_by {b : Nat} {S : Nat → Nat} {c ni gl : Int32} {la gr se ki ha si on aw : Nat → Int32} {h : Nat} (T : TR b S c ni gl la gr se ki ha si on aw) (hh : h ≤ 9) : fX2_namesByHand c ha (nI h) = some (nI (setN (fun j => decide (S (29 + 5 * j) = h)) (S 6))) := by
  have h6 := inv_6 T.1
  unfold fX2_namesByHand
  rw [zJe]
  exact c_by_L T hh zK 0 (by omega) (by unfold zK; omega)
theorem s_same_L {b p : Nat} {S : Nat → Nat} {z : Int32} {k : Int32 → Option Int32} (I : Inv b S) (hp : p < S 6) : ∀ n i, i ≤ S 6 → S 6 - i < n → fX5_sameHand_L4 (rowOf S z) (nI p) k n (nI (setN (fun j => decide (S (29 + 5 * j) = S (29 + 5 * p))) i)) (nI i) = k (nI (setN (fun j => decide (S (29 + 5 * j) = S (29 + 5 * p))) (S 6))) := by
  have h6 := inv_6 I
  intro n
  induction n with
  | zero => intro i _ h; omega
  | succ n ih =>
    intro i hi hn
    rw [fX5_sameHand_L4, r6]
    by_cases hl : i < S 6
    · have h1 := (inv_p I (show i < 8 by omega)).2.1
      have h2 := (inv_p I (show p < 8 by omega)).2.1
      have ih := ih (i + 1) (by omega) (by omega)
      rw [setN] at ih
      rw [ilt_t hl (by omega), s_its1 (by omega), zbs, s_its1 (by omega), zbs, nI_1, nI_setbit (setN_lt _ _) (by omega), nI_or, Nat.or_zero]
      by_cases e : S (29 + 5 * i) = S (29 + 5 * p)
      · rw [ieq_t e]; simpa [e] using ih
      · rw [ieq_f e (by omega) (by omega)]; simpa [e] using ih
    · have e : i = S 6 := by omega
      rw [ilt_f (by omega) (by omega), e]
theorem s_same {b p : Nat} {S : Nat → Nat} {z : Int32} (I : Inv b S) (hp : p < S 6) : fX5_sameHand (rowOf S z) (nI p) = some (nI (setN (fun j => decide (S (29 + 5 * j) = S (29 + 5 * p))) (S 6))) := by
  have h6 := inv_6 I
  unfold fX5_sameHand
  rw [zJe]
  exact s_same_L I hp zK 0 (by omega) (by unfold zK; omega)
def orUp (f : Nat → Nat) : Nat → Nat
  | 0 => 0
  | n + 1 => orUp f n ||| 2 ^ f n
theorem orUp_lt {f : Nat → Nat} : ∀ n, (∀ p, p < n → f p ≤ 9) → orUp f n < 2 ^ 10 := by
  intro n
  induction n with
  | zero => intro _; exact Nat.two_pow_pos 10
  | succ n ih =>
    intro h
    have := h n (by omega)
    rw [orUp]
    exact Nat.or_lt_two_pow (ih (fun p hp => h p (by omega))) (Nat.pow_lt_pow_right (by omega) (by omega))
theorem c_hands_L {b : Nat} {S : Nat → Nat} {c ni gl : Int32} {la gr se ki ha si on aw : Nat → Int32} {k : Int32 → Option Int32} (T : TR b S c ni gl la gr se ki ha si on aw) : ∀ n i, i ≤ S 6 → S 6 - i < n → fX2_handCount_L4 c ha k n (nI (orUp (fun j => S (29 + 5 * j)) i)) (nI i) = k (nI (orUp (fun j => S (29 + 5 * j)) (S 6))) := by
  have h6 := inv_6 T.1
  intro n
  induction n with
  | zero => intro i _ h; omega
  | succ n ih =>
    intro i hi hn
    rw [fX2_handCount_L4]
    by_cases hl : i < S 6
    · have lt : nI i < c := by rw [tr_c T]; exact nI_lt hl (by omega)
      have h1 := (inv_p T.1 (show i < 8 by omega)).2.1
      have ih := ih (i + 1) (by omega) (by omega)
      rw [orUp] at ih
      rw [if_pos lt, zg (by omega) (by omega), nI_clamp (by omega), tr_ha T hl, nI_1, nI_bit _ (by omega), nI_or]
      exact ih
    · have e : i = S 6 := by omega
      rw [if_neg (show ¬ nI i < c by rw [tr_c T]; exact nI_nlt (by omega) (by omega)), e]
theorem c_hands {b : Nat} {S : Nat → Nat} {c ni gl : Int32} {la gr se ki ha si on aw : Nat → Int32} (T : TR b S c ni gl la gr se ki ha si on aw) : fX2_handCount c ha = some (nI (popc (orUp (fun j => S (29 + 5 * j)) (S 6)))) := by
  have h6 := inv_6 T.1
  have hl := orUp_lt (f := fun j => S (29 + 5 * j)) (S 6) (fun p hp => (inv_p T.1 (show p < 8 by omega)).2.1)
  unfold fX2_handCount
  rw [zJe]
  refine (c_hands_L T zK 0 (by omega) (by unfold zK; omega)).trans ?_
  rw [z_bitCount _ (by omega), zbs]
theorem s_hands_L {b : Nat} {S : Nat → Nat} {z : Int32} {k : Int32 → Option Int32} (I : Inv b S) : ∀ n i, i ≤ S 6 → S 6 - i < n → fX5_handsOfAll_L4 (rowOf S z) k n (nI (orUp (fun j => S (29 + 5 * j)) i)) (nI i) = k (nI (orUp (fun j => S (29 + 5 * j)) (S 6))) := by
  have h6 := inv_6 I
  intro n
  induction n with
  | zero => intro i _ h; omega
  | succ n ih =>
    intro i hi hn
    rw [fX5_handsOfAll_L4, r6]
    by_cases hl : i < S 6
    · have h1 := (inv_p I (show i < 8 by omega)).2.1
      have ih := ih (i + 1) (by omega) (by omega)
      rw [orUp] at ih
      rw [ilt_t hl (by omega), s_its1 (by omega), zbs, nI_1, nI_bit _ (by omega), nI_or]
      exact ih
    · have e : i = S 6 := by omega
      rw [ilt_f (by omega) (by omega), e]
theorem s_hands {b : Nat} {S : Nat → Nat} {z : Int32} (I : Inv b S) : fX5_handsOfAll (rowOf S z) = some (nI (popc (orUp (fun j => S (29 + 5 * j)) (S 6)))) := by
  have h6 := inv_6 I
  have hl := orUp_lt (f := fun j => S (29 + 5 * j)) (S 6) (fun p hp => (inv_p I (show p < 8 by omega)).2.1)
  unfold fX5_handsOfAll
  rw [zJe]
  refine (s_hands_L I zK 0 (by omega) (by unfold zK; omega)).trans ?_
  rw [z_ones _ (by omega), zbs]
def anyB (P : Nat → Bool) : Nat → Bool
  | 0 => false
  | n + 1 => anyB P n || P n
theorem paint_test {S : Nat → Nat} {w : Nat} (hw : w < 10) : ∀ n, (paintUp S n).testBit w = anyB (fun p => decide (S (31 + 5 * p) = w)) n := by
  intro n
  induction n with
  | zero => exact Nat.zero_testBit w
  | succ n ih =>
    rw [paintUp, anyB]
    by_cases e : S (31 + 5 * n) = 10
    · rw [if_pos e, ih, show decide (S (31 + 5 * n) = w) = false by simp; omega, Bool.or_false]
    · rw [if_neg e, Nat.testBit_or, ih]
      congr 1
      by_cases x : S (31 + 5 * n) = w
      · rw [x, Nat.testBit_two_pow_self]; simp
      · rw [Nat.testBit_two_pow_of_ne x]; simp [x]
theorem setN_any {P : Nat → Bool} : ∀ n, (setN P n = 0) = (anyB P n = false) := by
  intro n
  induction n with
  | zero => simp [setN, anyB]
  | succ n ih =>
    have := Nat.two_pow_pos n
    rw [setN, anyB]
    cases h : P n with
    | true => simp
    | false => simp [ih]
theorem inUse_same {b : Nat} {S : Nat → Nat} (I : Inv b S) : paintUp S (S 6) = setN (fun w => anyB (fun p => decide (S (31 + 5 * p) = w)) (S 6)) 10 := by
  apply Nat.eq_of_testBit_eq
  intro i
  by_cases h : i < 10
  · rw [setN_test _ h, paint_test h]
  · rw [Nat.testBit_lt_two_pow (Nat.lt_of_lt_of_le (paintUp_lt I _ (inv_6 I)) (Nat.pow_le_pow_right (by omega) (by omega))), Nat.testBit_lt_two_pow (Nat.lt_of_lt_of_le (setN_lt _ 10) (Nat.pow_le_pow_right (by omega) (by omega)))]
theorem c_used_L {b : Nat} {S : Nat → Nat} {c ni gl : Int32} {la gr se ki ha si on aw : Nat → Int32} {k : Int32 → Option Int32} (T : TR b S c ni gl la gr se ki ha si on aw) : ∀ n i, i ≤ S 6 → S 6 - i < n → fX2_wallsInUse_L4 c on k n (nI (paintUp S i)) (nI i) = k (nI (paintUp S (S 6))) := by
  have h6 := inv_6 T.1
  intro n
  induction n with
  | zero => intro i _ h; omega
  | succ n ih =>
    intro i hi hn
    rw [fX2_wallsInUse_L4]
    by_cases hl : i < S 6
    · have lt : nI i < c := by rw [tr_c T]; exact nI_lt hl (by omega)
      have h1 := inv_on T.1 i (by omega)
      have ih := ih (i + 1) (by omega) (by omega)
      rw [paintUp] at ih
      rw [if_pos lt, zg (by omega) (by omega), nI_clamp (by omega), tr_on T hl, nI_1, zgc (by omega) (by omega)]
      by_cases e : S (31 + 5 * i) = 10
      · rw [if_pos e] at ih
        rw [ieq_t e]; exact ih
      · rw [if_neg e] at ih
        rw [ieq_f e (by omega) (by omega), nI_bit _ (by omega), nI_or]; exact ih
    · have e : i = S 6 := by omega
      rw [if_neg (show ¬ nI i < c by rw [tr_c T]; exact nI_nlt (by omega) (by omega)), e]
theorem c_used {b : Nat} {S : Nat → Nat} {c ni gl : Int32} {la gr se ki ha si on aw : Nat → Int32} (T : TR b S c ni gl la gr se ki ha si on aw) : fX2_wallsInUse c on = some (nI (paintUp S (S 6))) := by
  have h6 := inv_6 T.1
  unfold fX2_wallsInUse
  rw [zJe]
  exact c_used_L T zK 0 (by omega) (by unfold zK; omega)
theorem s_used_L {b : Nat} {S : Nat → Nat} {z : Int32} {k : Int32 → Option Int32} (I : Inv b S) : ∀ n i, i ≤ 10 → 10 - i < n → fX5_usedWalls_L4 (rowOf S z) k n (nI (setN (fun w => anyB (fun p => decide (S (31 + 5 * p) = w)) (S 6)) i)) (nI i) = k (nI (setN (fun w => anyB (fun p => decide (S (31 + 5 * p) = w)) (S 6)) 10)) := by
  have h6 := inv_6 I
  intro n
  induction n with
  | zero => intro i _ h; omega
  | succ n ih =>
    intro i hi hn
    rw [fX5_usedWalls_L4]
    by_cases hl : i < 10
    · have ih := ih (i + 1) (by omega) (by omega)
      rw [setN] at ih
      have h1 := setN_lt (fun j => decide (S (31 + 5 * j) = i)) (S 6)
      have h2 := pow8 h6
      have h3 := setN_any (P := fun j => decide (S (31 + 5 * j) = i)) (S 6)
      rw [ilt_t hl (by omega), s_onWall h6 (inv_on I) (by omega), zbs, nI_1, nI_setbit (setN_lt _ _) (by omega), nI_or, Nat.or_zero]
      by_cases e : setN (fun j => decide (S (31 + 5 * j) = i)) (S 6) = 0
      · rw [ie0_t e]
        rw [show anyB (fun p => decide (S (31 + 5 * p) = i)) (S 6) = false from h3.mp e] at ih
        simpa using ih
      · rw [ie0_f e (by omega)]
        rw [show anyB (fun p => decide (S (31 + 5 * p) = i)) (S 6) = true from Bool.eq_false_or_eq_true _ |>.resolve_right (fun q => e (h3.mpr q))] at ih
        simpa using ih
    · have e : i = 10 := by omega
      rw [ilt_f (by omega) (by omega), e]
theorem s_used {b : Nat} {S : Nat → Nat} {z : Int32} (I : Inv b S) : fX5_usedWalls (rowOf S z) = some (nI (paintUp S (S 6))) := by
  unfold fX5_usedWalls
  rw [zJe, inUse_same I]
  exact s_used_L I zK 0 (by omega) (by unfold zK; omega)
theorem s_grey_L {b : Nat} {S : Nat → Nat} {z : Int32} {k : Int32 → Option Int32} (I : Inv b S) : ∀ n i, i ≤ 10 → 10 - i < n → fX5_greyWalls_L4 (rowOf S z) k n (nI (setN (fun w => decide (S (8 + 2 * w) = 1)) i)) (nI i) = k (nI (setN (fun w => decide (S (8 + 2 * w) = 1)) 10)) := by
  intro n
  induction n with
  | zero => intro i _ h; omega
  | succ n ih =>
    intro i hi hn
    rw [fX5_greyWalls_L4]
    by_cases h : i < 10
    · have := (inv_w I h).1
      have ih := ih (i + 1) (by omega) (by omega)
      rw [setN] at ih
      rw [ilt_t h (by omega), s_ground (by omega), zbs, nI_1, nI_setbit (setN_lt _ _) (by omega), nI_or, Nat.or_zero]
      by_cases x : S (8 + 2 * i) = 1
      · rw [ieq_t x]; simpa [x] using ih
      · rw [ieq_f x (by omega) (by omega)]; simpa [x] using ih
    · have e : i = 10 := by omega
      rw [ilt_f (by omega) (by omega), e]
theorem s_grey {b : Nat} {S : Nat → Nat} {z : Int32} (I : Inv b S) : fX5_greyWalls (rowOf S z) = some (nI (setN (fun w => decide (S (8 + 2 * w) = 1)) 10)) := by
  unfold fX5_greyWalls
  rw [zJe]
  exact s_grey_L I zK 0 (by omega) (by unfold zK; omega)
theorem c_looked_L {b : Nat} {S : Nat → Nat} {c ni gl : Int32} {la gr se ki ha si on aw : Nat → Int32} {k : Int32 → Option Int32} (T : TR b S c ni gl la gr se ki ha si on aw) : ∀ n i, i ≤ 10 → 10 - i < n → fX2_wallsLookedAt_L4 c se si on k n (nI (ct (fun w => decide (0 < looksN S w)) i)) (nI i) = k (nI (ct (fun w => decide (0 < looksN S w)) 10)) := by
  intro n
  induction n with
  | zero => intro i _ h; omega
  | succ n ih =>
    intro i hi hn
    rw [fX2_wallsLookedAt_L4]
    by_cases h : i < 10
    · have hl := looksN_le (w := i) T.1 h
      have ih := ih (i + 1) (by omega) (by omega)
      rw [ct] at ih
      rw [ilt_t h (by omega), c_looks T h, zbs, nI_1, nI_1]
      by_cases x : 0 < looksN S i
      · rw [i0l_t x (by omega)]; simpa [x] using ih
      · rw [i0l_f (by omega)]; simpa [x] using ih
    · have e : i = 10 := by omega
      rw [ilt_f (by omega) (by omega), e]
theorem c_looked {b : Nat} {S : Nat → Nat} {c ni gl : Int32} {la gr se ki ha si on aw : Nat → Int32} (T : TR b S c ni gl la gr se ki ha si on aw) : fX2_wallsLookedAt c se si on = some (nI (ct (fun w => decide (0 < looksN S w)) 10)) := by
  unfold fX2_wallsLookedAt
  rw [zJe]
  exact c_looked_L T zK 0 (by omega) (by unfold zK; omega)
theorem s_looked_L {b : Nat} {S : Nat → Nat} {z : Int32} {k : Int32 → Option Int32} (I : Inv b S) : ∀ n i, i ≤ 10 → 10 - i < n → fX5_seenWalls_L4 (rowOf S z) k n (nI (ct (fun w => decide (0 < looksN S w)) i)) (nI i) = k (nI (ct (fun w => decide (0 < looksN S w)) 10)) := by
  intro n
  induction n with
  | zero => intro i _ h; omega
  | succ n ih =>
    intro i hi hn
    rw [fX5_seenWalls_L4]
    by_cases h : i < 10
    · have hl := looksN_le (w := i) I h
      have ih := ih (i + 1) (by omega) (by omega)
      rw [ct] at ih
      rw [ilt_t h (by omega), s_looks_i I h, zbs, nI_1, nI_add, nI_add]
      by_cases x : 0 < looksN S i
      · rw [i0l_t x (by omega)]; simpa [x] using ih
      · rw [i0l_f (by omega)]; simpa [x] using ih
    · have e : i = 10 := by omega
      rw [ilt_f (by omega) (by omega), e]
theorem s_looked {b : Nat} {S : Nat → Nat} {z : Int32} (I : Inv b S) : fX5_seenWalls (rowOf S z) = some (nI (ct (fun w => decide (0 < looksN S w)) 10)) := by
  unfold fX5_seenWalls
  rw [zJe]
  exact s_looked_L I zK 0 (by omega) (by unfold zK; omega)
theorem s_gone {b : Nat} {S : Nat → Nat} {z : Int32} (I : Inv b S) : fX5_goneSet (rowOf S z) = some (nI (setN (fun j => decide (S (31 + 5 * j) = 10)) (S 6))) := by
  unfold fX5_goneSet
  rw [s_onWall (inv_6 I) (inv_on I) (by omega), zbs]
/-! the town that is, on both sides; a query -/
def GN (b : Nat) (c ni gl dr : Int32) (la gr se ki ha si on aw row : Nat → Int32) : Prop := ∃ S, TR b S c ni gl la gr se ki ha si on aw ∧ row = rowOf S dr
def okQ (o4 o5 : Option Int32) : Prop := ∃ a, o4 = some a ∧ o5 = some a
theorem okQ_mk {a : Int32} : okQ (some a) (some a) := ⟨a, rfl, rfl⟩
theorem gn_mono {b : Nat} {c ni gl dr : Int32} {la gr se ki ha si on aw : Nat → Int32} {row : Nat → Int32} {b' : Nat} (Gn : GN b c ni gl dr la gr se ki ha si on aw row) (h : b ≤ b') : GN b' c ni gl dr la gr se ki ha si on aw row := by
  obtain ⟨S, T, e⟩ := Gn
  exact ⟨S, tr_mono T h, e⟩
theorem s_isWall (x : Int32) : (fX4_isBelow x (nI 10) = some (nI 0) ∧ fX5_isWall x = some (nI 0)) ∨ ∃ w, w < 10 ∧ x = nI w ∧ fX4_isBelow (nI w) (nI 10) = some (nI 1) ∧ fX5_isWall (nI w) = some (nI 1) := by
  unfold fX5_isWall
  rcases bel x (n := 10) (by omega) (by omega) with ⟨e1, e2⟩ | ⟨w, hw, rfl, e1, e2⟩
  · left
    refine ⟨e1, ?_⟩
    rw [show nI 9 = nI (10 - 1) from rfl, e2, zbs, if_pos (by decide)]
  · right
    refine ⟨w, hw, rfl, e1, ?_⟩
    rw [show nI 9 = nI (10 - 1) from rfl, e2, zbs, if_pos (by decide)]
theorem p_state {b : Nat} {c ni gl dr : Int32} {la gr se ki ha si on aw : Nat → Int32} {row : Nat → Int32} (Gn : GN b c ni gl dr la gr se ki ha si on aw row) (x : Int32) : okQ (fX4_state c ni gl gr se si on x) (fX5_state row x) := by
  obtain ⟨S, T, rfl⟩ := Gn
  unfold fX4_state fX5_state
  rw [c_looksOfAll T, zbs, show nI 10 = nI 10 from rfl, c_on T (by omega), zbs, c_used T, zbs, c_grounds T (by omega), zbs, s_looksOfAll T.1, zbs, s_gone T.1, zbs, s_used T.1, zbs, s_grey T.1, zbs, r4, r5, tr_ni T, tr_gl T]
  repeat' split
  all_goals exact okQ_mk
theorem p_many {b : Nat} {c ni gl dr : Int32} {la gr se ki ha si on aw : Nat → Int32} {row : Nat → Int32} {tp tm rc rm th bo : Int32} (Gn : GN b c ni gl dr la gr se ki ha si on aw row) (h1 : tp = tm) (h2 : rc = rm) (h3 : th = bo) (x : Int32) : okQ (fX4_many tp rc c se ha si on th x) (fX5_many tm rm bo row x) := by
  obtain ⟨S, T, rfl⟩ := Gn
  have h6 := inv_6 T.1
  have q1 := setN_lt (fun j => decide (S (31 + 5 * j) = 10)) (S 6)
  have q2 := pow8 h6
  unfold fX4_many fX5_many
  subst h1 h2 h3
  rw [c_on T (by omega), zbs, z_bitCount _ (by omega), zbs, c_looked T, zbs, c_hands T, zbs, s_gone T.1, zbs, z_ones _ (by omega), zbs, s_looked T.1, zbs, s_hands T.1, zbs, r6, tr_c T]
  repeat' split
  all_goals exact okQ_mk
theorem p_hands {b : Nat} {c ni gl dr : Int32} {la gr se ki ha si on aw : Nat → Int32} {row : Nat → Int32} (Gn : GN b c ni gl dr la gr se ki ha si on aw row) (x1 x2 : Int32) : okQ (fX4_hands c ha x1 x2) (fX5_hands row x1 x2) := by
  obtain ⟨S, T, rfl⟩ := Gn
  have h6 := inv_6 T.1
  unfold fX4_hands fX5_hands
  rw [c_hands T, zbs, s_hands T.1, zbs]
  by_cases y0 : x1 = 0
  · rw [if_pos y0, if_pos y0]; exact okQ_mk
  · rw [if_neg y0, if_neg y0]
    by_cases y1 : x1 = nI 1
    · rw [if_pos y1, if_pos y1]
      rcases one T dr x2 with ⟨e1, e2⟩ | ⟨p, hp, rfl, e1, e2⟩
      · rw [e1, e2, zbs, zbs, if00, if00]; exact okQ_mk
      · have := (inv_p T.1 (show p < 8 by omega)).2.1
        rw [e1, e2, zbs, zbs, if10, if10, zg (by omega) (by omega), nI_clamp (by omega), tr_ha T hp, c_by T this, zbs, s_same T.1 hp, zbs]
        exact okQ_mk
    · rw [if_neg y1, if_neg y1]; exact okQ_mk
theorem p_lawOf {b : Nat} {c ni gl dr : Int32} {la gr se ki ha si on aw : Nat → Int32} {row : Nat → Int32} (Gn : GN b c ni gl dr la gr se ki ha si on aw row) (x1 : Int32) : okQ (fX4_lawOf la x1) (fX5_lawOf row x1) := by
  obtain ⟨S, T, rfl⟩ := Gn
  unfold fX4_lawOf fX5_lawOf
  rcases bel x1 (n := 4) (by omega) (by omega) with ⟨e1, e2⟩ | ⟨j, hj, rfl, e1, e2⟩
  · rw [e1, show nI 3 = nI (4 - 1) from rfl, e2, zbs, zbs, if00, if00]; exact okQ_mk
  · rw [e1, show nI 3 = nI (4 - 1) from rfl, e2, zbs, zbs, if10, if10, zg hj (by omega), zg (show j < 68 by omega) (by omega), nI_clamp (by omega), tr_la T hj, rowOf_at (by omega)]; exact okQ_mk
theorem p_of {b : Nat} {c ni gl dr : Int32} {la gr se ki ha si on aw : Nat → Int32} {row : Nat → Int32} (Gn : GN b c ni gl dr la gr se ki ha si on aw row) (x1 x2 : Int32) : okQ (fX4_of c ki ha si on aw x1 x2) (fX5_of row x1 x2) := by
  obtain ⟨S, T, rfl⟩ := Gn
  have h6 := inv_6 T.1
  unfold fX4_of fX5_of
  rcases one T dr x1 with ⟨e1, e2⟩ | ⟨p, hp, rfl, e1, e2⟩
  · rw [e1, e2, zbs, zbs, if00, if00]; exact okQ_mk
  · rw [e1, e2, zbs, zbs, if10, if10]
    simp only [zg (show p < 8 by omega) (show 8 < 2 ^ 31 by omega), zgc (show p < 8 by omega) (show p < 2 ^ 31 by omega), nI_clamp (show p < 2 ^ 31 by omega), tr_ki T hp, tr_ha T hp, tr_si T hp, tr_on T hp, tr_aw T hp]
    rcases bel x2 (n := 5) (by omega) (by omega) with ⟨f1, f2⟩ | ⟨j, hj, rfl, f1, f2⟩
    · rw [show nI 4 = nI (5 - 1) from rfl, f2, zbs, if00]
      have ne : ∀ j, j < 5 → x2 ≠ nI j := by
        intro j hj q
        rw [q, c_isBelow (by omega) (by omega), if_pos hj] at f1
        exact absurd (Option.some.inj f1) (by decide)
      rw [if_neg (ne 0 (by omega)), if_neg (ne 1 (by omega)), if_neg (ne 2 (by omega)), if_neg (ne 3 (by omega)), if_neg (show ¬ x2 = nI (5 - 1) from ne 4 (by omega))]
      exact okQ_mk
    · have : j = 0 ∨ j = 1 ∨ j = 2 ∨ j = 3 ∨ j = 4 := by omega
      rcases this with rfl | rfl | rfl | rfl | rfl
      · rw [show nI 4 = nI (5 - 1) from rfl, f2, zbs, if10, s_its0 (by omega), zbs, if_pos rfl]; exact okQ_mk
      · rw [show nI 4 = nI (5 - 1) from rfl, f2, zbs, if10, s_its1 (by omega), zbs, if_neg (by decide), if_pos rfl]; exact okQ_mk
      · rw [show nI 4 = nI (5 - 1) from rfl, f2, zbs, if10, s_its2 (by omega), zbs, if_neg (by decide), if_neg (by decide), if_pos rfl]; exact okQ_mk
      · rw [show nI 4 = nI (5 - 1) from rfl, f2, zbs, if10, s_its3 (by omega), zbs, if_neg (by decide), if_neg (by decide), if_neg (by decide), if_pos rfl]; exact okQ_mk
      · rw [show fX5_in (nI 4) (nI 0) (nI 4) = _ from f2, zbs, if10, s_its4 (by omega), zbs, if_neg (by decide), if_neg (by decide), if_neg (by decide), if_neg (by decide), if_pos rfl]; exact okQ_mk
theorem p_does {b : Nat} {c ni gl dr : Int32} {la gr se ki ha si on aw : Nat → Int32} {row : Nat → Int32} (Gn : GN b c ni gl dr la gr se ki ha si on aw row) (x1 x2 : Int32) : okQ (fX4_does c la gr ki ha si on x1 x2) (fX5_does row x1 x2) := by
  obtain ⟨S, T, rfl⟩ := Gn
  have h6 := inv_6 T.1
  unfold fX4_does fX5_does
  rcases one T dr x1 with ⟨e1, e2⟩ | ⟨p, hp, rfl, e1, e2⟩
  · rw [e1, e2, zbs, zbs, if00, if00]; exact okQ_mk
  · have k4 := inv_on T.1 p (by omega)
    rw [e1, e2, zbs, zbs, if10, if10]
    rcases bel x2 (n := 3) (by omega) (by omega) with ⟨f1, f2⟩ | ⟨j, hj, rfl, f1, f2⟩
    · rw [f1, show fX5_in x2 (nI 0) (nI 2) = _ from f2, zbs, zbs, if00, if00]; exact okQ_mk
    · rw [f1, show fX5_in (nI j) (nI 0) (nI 2) = _ from f2, zbs, zbs, if10, if10, c_back T hp, zbs, s_back T.1 (by omega), zbs, zg (by omega) (by omega), nI_clamp (by omega), tr_on T hp, s_isGone T.1 (by omega), zbs]
      by_cases y2 : j = 2
      · rw [ieq_t y2]; rw [ieq_t y2]; exact okQ_mk
      · rw [ieq_f y2 (by omega) (by omega)]; rw [ieq_f y2 (by omega) (by omega)]
        by_cases g : S (31 + 5 * p) = 10
        · rw [ieq_t g, if_pos g, ie0_f (by omega) (by omega)]; exact okQ_mk
        · rw [ieq_f g (by omega) (by omega), if_neg g, ie0_t rfl, c_grows T hp g, zbs, s_grows T.1 hp g, zbs, c_holds T hp, zbs, s_holds T.1 hp, zbs]
          by_cases y0 : j = 0
          · rw [ie0_t y0]; exact okQ_mk
          · rw [ie0_f y0 (by omega)]; exact okQ_mk
theorem p_wallOf {b : Nat} {c ni gl dr : Int32} {la gr se ki ha si on aw : Nat → Int32} {row : Nat → Int32} (Gn : GN b c ni gl dr la gr se ki ha si on aw row) (x1 x2 : Int32) : okQ (fX4_wallOf c gr se si on x1 x2) (fX5_wallOf row x1 x2) := by
  obtain ⟨S, T, rfl⟩ := Gn
  have h6 := inv_6 T.1
  unfold fX4_wallOf fX5_wallOf
  rcases s_isWall x1 with ⟨e1, e2⟩ | ⟨w, hw, rfl, e1, e2⟩
  · rw [e1, e2, zbs, zbs, if00, if00]; exact okQ_mk
  · rw [e1, e2, zbs, zbs, if10, if10]
    rcases bel x2 (n := 4) (by omega) (by omega) with ⟨f1, f2⟩ | ⟨j, hj, rfl, f1, f2⟩
    · rw [show fX5_in x2 (nI 0) (nI 3) = _ from f2, zbs, if00]
      have ne : ∀ j, j < 4 → x2 ≠ nI j := by
        intro j hj q
        rw [q, c_isBelow (by omega) (by omega), if_pos hj] at f1
        exact absurd (Option.some.inj f1) (by decide)
      rw [if_neg (ne 0 (by omega)), if_neg (ne 1 (by omega)), if_neg (ne 2 (by omega)), if_neg (ne 3 (by omega))]
      exact okQ_mk
    · rw [show fX5_in (nI j) (nI 0) (nI 3) = _ from f2, zbs, if10, zg hw (by omega), zg hw (by omega), nI_clamp (show w < 2 ^ 31 by omega), tr_gr T hw, tr_se T hw, c_looks T hw, zbs, c_on T (by omega), zbs, s_looks_i T.1 hw, zbs, s_onWall h6 (inv_on T.1) (by omega), zbs, nI_mul, nI_add, nI_add, zg (show 8 + 2 * w + j < 68 by omega) (by omega), nI_clamp (show 8 + 2 * w + j < 2 ^ 31 by omega), rowOf_at (show 8 + 2 * w + j ≠ 7 by omega)]
      have : j = 0 ∨ j = 1 ∨ j = 2 ∨ j = 3 := by omega
      rcases this with rfl | rfl | rfl | rfl
      · rw [if_pos rfl, if_pos (show nI 0 < nI 2 by decide), Nat.add_zero]; exact okQ_mk
      · rw [if_neg (show ¬ nI 1 = nI 0 by decide), if_pos rfl, if_pos (show nI 1 < nI 2 by decide), show 8 + 2 * w + 1 = 9 + 2 * w by omega]; exact okQ_mk
      · rw [if_neg (show ¬ nI 2 = nI 0 by decide), if_neg (show ¬ nI 2 = nI 1 by decide), if_pos rfl, if_neg (show ¬ nI 2 < nI 2 by decide)]; exact okQ_mk
      · rw [if_neg (show ¬ nI 3 = nI 0 by decide), if_neg (show ¬ nI 3 = nI 1 by decide), if_neg (show ¬ nI 3 = nI 2 by decide), if_pos rfl, if_neg (show ¬ nI 3 < nI 2 by decide), if_neg (show ¬ nI 3 = nI 2 by decide)]; exact okQ_mk
