/-! rows moved; what is tried, at the reference -/
def T0 (t : Nat → Int32) : Prop := ∀ k, 68 ≤ k → t k = nI 0
theorem t0_row {b : Nat} {S : Nat → Nat} {z : Int32} (I : Inv b S) : T0 (rowOf S z) := fun k hk => by
  rw [rowOf_at (by omega), I.2.2.2.2.2.2.2.2.2 k hk]
theorem s_moveAll_L {f : Nat → Int32} {k : (Nat → Int32) → Option (Nat → Int32)} (hf : T0 f) : ∀ n i, i ≤ 68 → 68 - i < n → ∀ t : Nat → Int32, T0 t → (∀ j, j < i → t j = f j) → fX5_moveAll_L2 f k n (nI i) t = k f := by
  intro n
  induction n with
  | zero => intro i _ h; omega
  | succ n ih =>
    intro i hi hn t ht hj
    rw [fX5_moveAll_L2]
    by_cases h : i < 68
    · rw [ilt_t h (by omega), zg (by omega) (by omega)]
      simp only [zgc h (show i < 2 ^ 31 by omega), nI_clamp (show i < 2 ^ 31 by omega)]
      rw [nI_1]
      refine ih (i + 1) (by omega) (by omega) _ (fun k hk => ?_) (fun j hj2 => ?_)
      · rw [pk_un (by omega)]; exact ht k hk
      · by_cases e : j = i
        · rw [e, pk_us]
        · rw [pk_un e]; exact hj j (by omega)
    · rw [ilt_f (by omega) (by omega)]
      congr 1
      funext j
      by_cases e : j < 68
      · exact hj j (by omega)
      · rw [ht j (by omega), hf j (by omega)]
theorem s_moveAll {f t : Nat → Int32} (hf : T0 f) (ht : T0 t) : fX5_moveAll f t = some f := by
  unfold fX5_moveAll
  rw [zJe]
  exact s_moveAll_L hf zK 0 (by omega) (by unfold zK; omega) t ht (fun j hj => by omega)
theorem s_viewedBy_L {b m : Nat} {S : Nat → Nat} {z : Int32} {k : Int32 → (Nat → Int32) → (Nat → Int32) → Option (Int32 × Int32 × (Nat → Int32) × (Nat → Int32))} (hb : b < 900000) (hm : m < 1000) (I : Inv b S) : ∀ n i, i ≤ m → m - i < n → ∀ g, ∃ g', fX5_viewedBy_L7 (nI m) k n (nI i) (nI (seenN S i)) (rowOf (nightsN S i) z) g = k (nI (seenN S m)) (rowOf (nightsN S m) z) g' := by
  intro n
  induction n with
  | zero => intro i _ h; omega
  | succ n ih =>
    intro i hi hn g
    rw [fX5_viewedBy_L7]
    by_cases h : i < m
    · rw [ilt_t h (by omega), nI_1]
      obtain ⟨g', e⟩ := s_nightGoes (z := z) (v := nI (seenN S i)) (g := g) (by omega) (inv_nights I i)
      rw [e, zbs, nI_add]
      exact ih (i + 1) (by omega) (by omega) g'
    · have e : i = m := by omega
      rw [ilt_f (by omega) (by omega), e]
      exact ⟨g, rfl⟩
theorem s_viewedBy {b m : Nat} {S : Nat → Nat} {z v : Int32} {f g : Nat → Int32} (hb : b < 900000) (hm : m < 1000) (I : Inv b S) (hf : T0 f) : ∃ g', fX5_viewedBy v (rowOf S z) f g (nI m) = some (nI (seenN S m), nI 0, f, g') := by
  unfold fX5_viewedBy
  rw [zJe]
  obtain ⟨g', e⟩ := s_viewedBy_L (z := z) (k := fun (v_viewed_5 : Int32) (v_row_6 : Nat → Int32) (v_growing_7 : Nat → Int32) => ((fX5_moveAll f v_row_6).bind (fun u40 => (some (v_viewed_5, (nI 0), u40, v_growing_7))))) hb hm I zK 0 (by omega) (by unfold zK; omega) g
  refine ⟨g', e.trans ?_⟩
  rw [s_moveAll hf (t0_row (inv_nights I m)), zbs]
/-- a number within bounds -/
theorem rng (x : Int32) {lo hi : Nat} (hl : lo ≤ hi) (hh : hi < 2 ^ 31) : (x < nI lo ∧ fX5_in x (nI lo) (nI hi) = some (nI 0)) ∨ (¬ x < nI lo ∧ nI hi < x ∧ fX5_in x (nI lo) (nI hi) = some (nI 0)) ∨ (∃ m, lo ≤ m ∧ m ≤ hi ∧ x = nI m ∧ ¬ nI m < nI lo ∧ ¬ nI hi < nI m ∧ fX5_in (nI m) (nI lo) (nI hi) = some (nI 1)) := by
  unfold fX5_in
  by_cases h1 : x < nI lo
  · left; exact ⟨h1, if_pos h1⟩
  · right
    by_cases h2 : nI hi < x
    · left; exact ⟨h1, h2, by rw [if_neg h1, if_pos h2]⟩
    · right
      have h3 : ¬ x < 0 := by
        intro q
        apply h1
        rw [Int32.lt_iff_toInt_lt] at q ⊢
        rw [nI_toInt (by omega)]
        rw [Int32.toInt_zero] at q
        omega
      obtain ⟨m, hm, rfl⟩ := nI_of h3
      rw [nI_ltE hm (by omega)] at h1
      rw [nI_ltE hh hm] at h2
      exact ⟨m, by omega, by omega, rfl, nI_nlt (by omega) hm, nI_nlt (by omega) hh, by rw [ilt_f (by omega) hm, ilt_f (by omega) hh]⟩
/-- an answer; the rest of what comes back is free -/
def okA {ρ : Type} (a : Int32) (o : Option (Int32 × ρ)) : Prop := ∃ r, o = some r ∧ r.1 = a
/-- the reference's answer; its row is as it was -/
def okR (a : Int32) (row : Nat → Int32) (o : Option (Int32 × Int32 × (Nat → Int32) × (Nat → Int32) × (Nat → Int32))) : Prop := ∃ r, o = some r ∧ r.1 = a ∧ r.2.2.1 = row ∧ T0 r.2.2.2.1
theorem okR_mk {a v : Int32} {row t g : Nat → Int32} (h : T0 t) : okR a row (some (a, v, row, t, g)) := ⟨_, rfl, rfl, rfl, h⟩
theorem if10 {R : Type} {A B : R} : (if nI 1 = 0 then A else B) = B := if_neg (by decide)
theorem if00 {R : Type} {A B : R} : (if nI 0 = 0 then A else B) = A := if_pos (by decide)
theorem s_view {b : Nat} {S : Nat → Nat} {z v : Int32} {t g : Nat → Int32} (hb : b < 900000) (I : Inv b S) (ht : T0 t) (x : Int32) : okR (if x < nI 0 ∨ nI 60 < x then -1 else nI (seenN S x.toNatClampNeg)) (rowOf S z) (fX5_view v (rowOf S z) t g x) := by
  unfold fX5_view
  rcases rng x (show 0 ≤ 60 by omega) (by omega) with ⟨h, e⟩ | ⟨h1, h, e⟩ | ⟨m, h1, h2, rfl, h3, h4, e⟩
  · rw [e, zbs, if00, if_pos (Or.inl h)]; exact okR_mk ht
  · rw [e, zbs, if00, if_pos (Or.inr h)]; exact okR_mk ht
  · rw [e, zbs, if10, s_moveAll (t0_row I) ht, zbs, if_neg (by rintro (q | q); exact h3 q; exact h4 q), nI_clamp (by omega)]
    obtain ⟨g', e⟩ := s_viewedBy (z := z) (v := v) (f := rowOf S z) (g := g) hb (show m < 1000 by omega) I (t0_row I)
    rw [e, zbs]
    exact okR_mk (t0_row I)
/-- the first of some nights that is so; -3 -/
def untilI (P : Nat → Bool) : Nat → Nat → Int32
  | 0, _ => -3
  | n + 1, i => if P i then nI i else untilI P n (i + 1)
theorem untilI_end {P : Nat → Bool} : ∀ n i, (untilI P n i = -3) ∨ ∃ j, i ≤ j ∧ j < i + n ∧ untilI P n i = nI j := by
  intro n
  induction n with
  | zero => intro i; exact Or.inl rfl
  | succ n ih =>
    intro i
    rw [untilI]
    split
    · right; exact ⟨i, by omega, by omega, rfl⟩
    · rcases ih (i + 1) with h | ⟨j, h1, h2, h3⟩
      · exact Or.inl h
      · right; exact ⟨j, by omega, by omega, h3⟩
def goneB (S : Nat → Nat) (p g : Nat) (i : Nat) : Bool := decide ((if nightsN S i (31 + 5 * p) = 10 then 1 else 0) = g)
theorem s_whenGone_L {b p gn : Nat} {S : Nat → Nat} {z : Int32} {row : Nat → Int32} {k : Int32 → Int32 → (Nat → Int32) → (Nat → Int32) → Option (Int32 × Int32 × (Nat → Int32) × (Nat → Int32) × (Nat → Int32))} (hb : b < 900000) (I : Inv b S) (hp : p < S 6) (hgn : gn < 2) (hk1 : ∀ i, i ≤ 60 → ∀ v R g, T0 R → okR (nI i) row (k (nI i) v R g)) (hk2 : ∀ v R g, T0 R → okR (-3) row (k (nI 61) v R g)) : ∀ n i, i ≤ 61 → 61 - i < n → ∀ v g, okR (untilI (goneB S p gn) (61 - i) i) row (fX5_whenGone_L13 (nI p) (nI gn) k n (nI i) v (rowOf (nightsN S i) z) g) := by
  have h6 := inv_6 I
  intro n
  induction n with
  | zero => intro i _ h; omega
  | succ n ih =>
    intro i hi hn v g
    have Ii := inv_nights I i
    rw [fX5_whenGone_L13]
    by_cases h : 60 < i
    · have e : i = 61 := by omega
      subst e
      rw [ilt_t (by omega) (by omega)]
      exact hk2 _ _ _ (t0_row Ii)
    · rw [ilt_f (by omega) (by omega), s_isGone Ii (by omega), zbs, show 61 - i = (61 - (i + 1)) + 1 by omega, untilI]
      by_cases x : goneB S p gn i = true
      · rw [if_pos x, ieq_t (of_decide_eq_true x)]
        exact hk1 i (by omega) _ _ _ (t0_row Ii)
      · rw [if_neg x, ieq_f (fun q => x (decide_eq_true q)) (by split <;> omega) (by omega), nI_1]
        obtain ⟨g', e⟩ := s_nightGoes (z := z) (v := v) (g := g) (by omega) Ii
        rw [e, zbs]
        exact ih (i + 1) (by omega) (by omega) _ g'
theorem s_whenGone {b p gn : Nat} {S : Nat → Nat} {z v : Int32} {t g : Nat → Int32} (hb : b < 900000) (I : Inv b S) (ht : T0 t) (hp : p < S 6) (hgn : gn < 2) : okR (untilI (goneB S p gn) 61 0) (rowOf S z) (fX5_whenGone v (rowOf S z) t g (nI p) (nI gn)) := by
  unfold fX5_whenGone
  rw [s_moveAll (t0_row I) ht, zbs, zJe]
  refine s_whenGone_L hb I hp hgn ?_ ?_ zK 0 (by omega) (by unfold zK; omega) v g
  · intro i hi v R g hR
    rw [s_moveAll (t0_row I) hR, zbs, ilt_f (by omega) (by omega)]
    exact okR_mk (t0_row I)
  · intro v R g hR
    rw [s_moveAll (t0_row I) hR, zbs, ilt_t (by omega) (by omega)]
    exact okR_mk (t0_row I)
theorem s_clear_L {b : Nat} {S : Nat → Nat} {z : Int32} {row : Nat → Int32} {k : Int32 → Int32 → (Nat → Int32) → (Nat → Int32) → Option (Int32 × Int32 × (Nat → Int32) × (Nat → Int32) × (Nat → Int32))} (hb : b < 900000) (I : Inv b S) (hk1 : ∀ i, i ≤ 60 → ∀ v R g, T0 R → okR (nI i) row (k (nI i) v R g)) (hk2 : ∀ v R g, T0 R → okR (-3) row (k (nI 61) v R g)) : ∀ n i, i ≤ 61 → 61 - i < n → ∀ v g, okR (untilI (fun i => decide (looksAllN (nightsN S i) = 0)) (61 - i) i) row (fX5_clear_L13 k n (nI i) v (rowOf (nightsN S i) z) g) := by
  have h6 := inv_6 I
  intro n
  induction n with
  | zero => intro i _ h; omega
  | succ n ih =>
    intro i hi hn v g
    have Ii := inv_nights I i
    have hl := looksAll_le Ii
    rw [fX5_clear_L13]
    by_cases h : 60 < i
    · have e : i = 61 := by omega
      subst e
      rw [ilt_t (by omega) (by omega)]
      exact hk2 _ _ _ (t0_row Ii)
    · rw [ilt_f (by omega) (by omega), s_looksOfAll Ii, zbs, show 61 - i = (61 - (i + 1)) + 1 by omega, untilI]
      by_cases x : looksAllN (nightsN S i) = 0
      · rw [if_pos (by simp [x]), i0l_f x]
        exact hk1 i (by omega) _ _ _ (t0_row Ii)
      · rw [if_neg (by simp [x]), i0l_t (by omega) (by omega), nI_1]
        obtain ⟨g', e⟩ := s_nightGoes (z := z) (v := v) (g := g) (by omega) Ii
        rw [e, zbs]
        exact ih (i + 1) (by omega) (by omega) _ g'
theorem s_clear {b : Nat} {S : Nat → Nat} {z v : Int32} {t g : Nat → Int32} (hb : b < 900000) (I : Inv b S) (ht : T0 t) : okR (untilI (fun i => decide (looksAllN (nightsN S i) = 0)) 61 0) (rowOf S z) (fX5_clear v (rowOf S z) t g) := by
  unfold fX5_clear
  rw [s_moveAll (t0_row I) ht, zbs, zJe]
  refine s_clear_L hb I ?_ ?_ zK 0 (by omega) (by unfold zK; omega) v g
  · intro i hi v R g hR
    rw [s_moveAll (t0_row I) hR, zbs, ilt_f (by omega) (by omega)]
    exact okR_mk (t0_row I)
  · intro v R g hR
    rw [s_moveAll (t0_row I) hR, zbs, ilt_t (by omega) (by omega)]
    exact okR_mk (t0_row I)
/-- the first of 0 .. n with which least is looked at -/
def bestN (V : Nat → Nat) : Nat → Nat
  | 0 => 0
  | n + 1 => if V (n + 1) < V (bestN V n) then n + 1 else bestN V n
theorem bestN_le (V : Nat → Nat) : ∀ n, bestN V n ≤ n := by
  intro n
  induction n with
  | zero => exact Nat.le_refl 0
  | succ n ih => rw [bestN]; split <;> omega
theorem bestN_s (V : Nat → Nat) (j : Nat) : bestN V (j + 1) = if V (j + 1) < V (bestN V j) then j + 1 else bestN V j := rfl
def stBest (V : Nat → Nat) : Nat → Int32
  | 0 => nI 0
  | n + 1 => nI (bestN V n)
def stLeast (V : Nat → Nat) : Nat → Int32
  | 0 => -1
  | n + 1 => nI (V (bestN V n))
theorem s_firstFor_L {b m : Nat} {S : Nat → Nat} {z : Int32} {row : Nat → Int32} {k : Int32 → Int32 → (Nat → Int32) → (Nat → Int32) → Option (Int32 × Int32 × (Nat → Int32) × (Nat → Int32) × (Nat → Int32))} (hb : b < 900000) (hm : m < 1000) (I : Inv b S) (hk : ∀ v g, okR (nI (bestN (fun w => seenN (cleanN S w) m) 9)) row (k (nI (bestN (fun w => seenN (cleanN S w) m) 9)) v (rowOf S z) g)) : ∀ n i, i ≤ 10 → 10 - i < n → ∀ v g, okR (nI (bestN (fun w => seenN (cleanN S w) m) 9)) row (fX5_firstFor_L30 (nI m) (rowOf S z) k n (stBest (fun w => seenN (cleanN S w) m) i) (stLeast (fun w => seenN (cleanN S w) m) i) (nI i) v (rowOf S z) g) := by
  intro n
  induction n with
  | zero => intro i _ h; omega
  | succ n ih =>
    intro i hi hn v g
    rw [fX5_firstFor_L30]
    by_cases h : i < 10
    · have Iw := inv_clean I h
      rw [ilt_t h (by omega), s_cleaned I h, zbs]
      obtain ⟨g', e⟩ := s_viewedBy (z := z) (v := v) (f := rowOf S z) (g := g) hb hm Iw (t0_row I)
      rw [e, zbs, zJe, nI_1]
      have ih := ih (i + 1) (by omega) (by omega) (nI 0) g'
      cases i with
      | zero =>
        rw [show stLeast (fun w => seenN (cleanN S w) m) 0 = -1 from rfl]
        dsimp only
        rw [if_pos (show (-1 : Int32) < 0 by decide), if_pos (show (-1 : Int32) < 0 by decide)]
        exact ih
      | succ j =>
        have hj := bestN_le (fun w => seenN (cleanN S w) m) j
        have h1 := seenN_le Iw m
        have h2 := seenN_le (inv_clean I (show bestN (fun w => seenN (cleanN S w) m) j < 10 by omega)) m
        rw [show stLeast (fun w => seenN (cleanN S w) m) (j + 1) = nI (seenN (cleanN S (bestN (fun w => seenN (cleanN S w) m) j)) m) from rfl]
        dsimp only
        have q0 : ¬ nI (seenN (cleanN S (bestN (fun w => seenN (cleanN S w) m) j)) m) < 0 := nI_pos (by omega)
        simp only [if_neg q0]
        rw [stBest, stLeast, bestN_s _ j] at ih
        by_cases x : seenN (cleanN S (j + 1)) m < seenN (cleanN S (bestN (fun w => seenN (cleanN S w) m) j)) m
        · rw [if_pos x] at ih
          simp only [if_pos (show nI (seenN (cleanN S (j + 1)) m) < nI (seenN (cleanN S (bestN (fun w => seenN (cleanN S w) m) j)) m) from nI_lt x (by omega))]
          exact ih
        · rw [if_neg x] at ih
          simp only [if_neg (show ¬ nI (seenN (cleanN S (j + 1)) m) < nI (seenN (cleanN S (bestN (fun w => seenN (cleanN S w) m) j)) m) from nI_nlt (by omega) (by omega))]
          exact ih
    · have e : i = 10 := by omega
      subst e
      rw [ilt_f (by omega) (by omega)]
      exact hk _ _
theorem s_firstFor {b : Nat} {S : Nat → Nat} {z v : Int32} {t g : Nat → Int32} (hb : b < 900000) (I : Inv b S) (ht : T0 t) (x : Int32) : okR (if x < nI 1 ∨ nI 30 < x then -1 else nI (bestN (fun w => seenN (cleanN S w) x.toNatClampNeg) 9)) (rowOf S z) (fX5_firstFor v (rowOf S z) t g x) := by
  unfold fX5_firstFor
  rcases rng x (show 1 ≤ 30 by omega) (by omega) with ⟨h, e⟩ | ⟨h1, h, e⟩ | ⟨m, h1, h2, rfl, h3, h4, e⟩
  · rw [e, zbs, if00, if_pos (Or.inl h)]; exact okR_mk ht
  · rw [e, zbs, if00, if_pos (Or.inr h)]; exact okR_mk ht
  · rw [e, zbs, if10, s_moveAll (t0_row I) ht, zbs, if_neg (by rintro (q | q); exact h3 q; exact h4 q), nI_clamp (by omega), zJe]
    exact s_firstFor_L hb (show m < 1000 by omega) I (fun v g => okR_mk (t0_row I)) zK 0 (by omega) (by unfold zK; omega) v g
theorem s_bestAt_L {b m pl mx : Nat} {S : Nat → Nat} {z : Int32} {row : Nat → Int32} {k : Int32 → Int32 → (Nat → Int32) → (Nat → Int32) → Option (Int32 × Int32 × (Nat → Int32) × (Nat → Int32) × (Nat → Int32))} (hb : b < 900000) (hm : m < 1000) (hpl : pl < 68) (hpl7 : pl ≠ 7) (hmx : mx < 100) (I : Inv b S) (hB : mx ≤ bnd b pl) (hk : ∀ v g, okR (nI (bestN (fun i => seenN (updN S pl i) m) mx)) row (k (nI (bestN (fun i => seenN (updN S pl i) m) mx)) v (rowOf S z) g)) : ∀ n i, i ≤ mx + 1 → mx + 1 - i < n → ∀ v g, okR (nI (bestN (fun i => seenN (updN S pl i) m) mx)) row (fX5_bestAt_L20 (nI pl) (nI mx) (nI m) (rowOf S z) k n (stBest (fun i => seenN (updN S pl i) m) i) (stLeast (fun i => seenN (updN S pl i) m) i) (nI i) v (rowOf S z) g) := by
  intro n
  induction n with
  | zero => intro i _ h; omega
  | succ n ih =>
    intro i hi hn v g
    rw [fX5_bestAt_L20]
    by_cases h : i < mx + 1
    · have Iw : Inv b (updN S pl i) := inv_upd I (by omega)
      rw [ilt_f (by omega) (by omega), zg (by omega) (by omega), nI_clamp (by omega), rowOf_upd hpl7]
      obtain ⟨g', e⟩ := s_viewedBy (z := z) (v := v) (f := rowOf S z) (g := g) hb hm Iw (t0_row I)
      rw [e, zbs, zJe, nI_1]
      have ih := ih (i + 1) (by omega) (by omega) (nI 0) g'
      cases i with
      | zero =>
        rw [show stLeast (fun i => seenN (updN S pl i) m) 0 = -1 from rfl]
        dsimp only
        rw [if_pos (show (-1 : Int32) < 0 by decide), if_pos (show (-1 : Int32) < 0 by decide)]
        exact ih
      | succ j =>
        have hj := bestN_le (fun i => seenN (updN S pl i) m) j
        have h1 := seenN_le Iw m
        have h2 := seenN_le (inv_upd (k := pl) (v := bestN (fun i => seenN (updN S pl i) m) j) I (by omega)) m
        rw [show stLeast (fun i => seenN (updN S pl i) m) (j + 1) = nI (seenN (updN S pl (bestN (fun i => seenN (updN S pl i) m) j)) m) from rfl]
        dsimp only
        have q0 : ¬ nI (seenN (updN S pl (bestN (fun i => seenN (updN S pl i) m) j)) m) < 0 := nI_pos (by omega)
        simp only [if_neg q0]
        rw [stBest, stLeast, bestN_s _ j] at ih
        by_cases x : seenN (updN S pl (j + 1)) m < seenN (updN S pl (bestN (fun i => seenN (updN S pl i) m) j)) m
        · rw [if_pos x] at ih
          simp only [if_pos (show nI (seenN (updN S pl (j + 1)) m) < nI (seenN (updN S pl (bestN (fun i => seenN (updN S pl i) m) j)) m) from nI_lt x (by omega))]
          exact ih
        · rw [if_neg x] at ih
          simp only [if_neg (show ¬ nI (seenN (updN S pl (j + 1)) m) < nI (seenN (updN S pl (bestN (fun i => seenN (updN S pl i) m) j)) m) from nI_nlt (by omega) (by omega))]
          exact ih
    · have e : i = mx + 1 := by omega
      subst e
      rw [ilt_t (by omega) (by omega)]
      exact hk _ _
theorem s_bestAt {b m pl mx : Nat} {S : Nat → Nat} {z v : Int32} {t g : Nat → Int32} (hb : b < 900000) (hm : m < 1000) (hpl : pl < 68) (hpl7 : pl ≠ 7) (hmx : mx < 100) (I : Inv b S) (hB : mx ≤ bnd b pl) (ht : T0 t) : okR (nI (bestN (fun i => seenN (updN S pl i) m) mx)) (rowOf S z) (fX5_bestAt v (rowOf S z) t g (nI pl) (nI mx) (nI m)) := by
  unfold fX5_bestAt
  rw [s_moveAll (t0_row I) ht, zbs, zJe]
  exact s_bestAt_L hb hm hpl hpl7 hmx I hB (fun v g => okR_mk (t0_row I)) zK 0 (by omega) (by unfold zK; omega) v g
theorem s_bucketsFor_L {b m v : Nat} {S : Nat → Nat} {z : Int32} {row : Nat → Int32} {k : Int32 → Int32 → Int32 → (Nat → Int32) → (Nat → Int32) → Option (Int32 × Int32 × (Nat → Int32) × (Nat → Int32) × (Nat → Int32))} (hb : b < 900000) (hm : m < 1000) (hv : v < 2 ^ 31) (I : Inv b S) (hk1 : ∀ i w g, i < 10 → okR (nI i) row (k (nI i) (nI 1) w (rowOf S z) g)) (hk0 : ∀ w g, okR (-3) row (k (nI 9) (nI 0) w (rowOf S z) g)) : ∀ n i, i ≤ 10 → 10 - i < n → ∀ w g, okR (untilI (fun i => decide (seenN (updN S 0 i) m ≤ v)) (10 - i) i) row (fX5_bucketsFor_L39 (nI m) (nI v) (rowOf S z) k n (nI i - nI 1) (nI 0) w (rowOf S z) g) := by
  intro n
  induction n with
  | zero => intro i _ h; omega
  | succ n ih =>
    intro i hi hn w g
    rw [fX5_bucketsFor_L39]
    by_cases h : i < 10
    · have Iw : Inv b (updN S 0 i) := inv_upd I (by show i ≤ 9; omega)
      have lt : nI i - nI 1 < nI 9 := by
        cases i with
        | zero => decide
        | succ j => rw [pk_sub (by omega)]; exact nI_lt (by omega) (by omega)
      have e1 : nI i - nI 1 + 1 = nI i := by rw [show (1 : Int32) = nI 1 from rfl, Int32.sub_add_cancel]
      have h1 := seenN_le Iw m
      rw [if_pos lt, if00, e1, rowOf_upd (by omega), show 10 - i = (10 - (i + 1)) + 1 by omega, untilI]
      obtain ⟨g', e⟩ := s_viewedBy (z := z) (v := w) (f := rowOf S z) (g := g) hb hm Iw (t0_row I)
      rw [e, zbs]
      by_cases x : seenN (updN S 0 i) m ≤ v
      · rw [ilt_f (by omega) (by omega), if_pos (by simp [x])]
        cases n with
        | zero => omega
        | succ n =>
          rw [fX5_bucketsFor_L39]
          by_cases y : i < 9
          · rw [ilt_t y (by omega), if10]; exact hk1 _ _ _ h
          · rw [ilt_f (by omega) (by omega)]; exact hk1 _ _ _ h
      · rw [ilt_t (by omega) (by omega), if_neg (by simp [x])]
        have q := ih (i + 1) (by omega) (by omega) (nI 0) g'
        rw [pk_sub (by omega), show i + 1 - 1 = i by omega] at q
        exact q
    · have e : i = 10 := by omega
      subst e
      rw [show nI 10 - nI 1 = nI 9 from rfl, ilt_f (by omega) (by omega)]
      exact hk0 _ _
theorem s_bucketsFor {b : Nat} {S : Nat → Nat} {z w : Int32} {t g : Nat → Int32} (hb : b < 900000) (I : Inv b S) (ht : T0 t) (x y : Int32) : okR (if (x < nI 1 ∨ nI 30 < x) ∨ (y < nI 0 ∨ nI 99999 < y) then -1 else untilI (fun i => decide (seenN (updN S 0 i) x.toNatClampNeg ≤ y.toNatClampNeg)) 10 0) (rowOf S z) (fX5_bucketsFor w (rowOf S z) t g x y) := by
  unfold fX5_bucketsFor
  rcases rng x (show 1 ≤ 30 by omega) (by omega) with ⟨h, e⟩ | ⟨h1, h, e⟩ | ⟨m, h1, h2, rfl, h3, h4, e⟩
  · rw [e, zbs, if00, if_pos (Or.inl (Or.inl h))]; exact okR_mk ht
  · rw [e, zbs, if00, if_pos (Or.inl (Or.inr h))]; exact okR_mk ht
  · rw [e, zbs, if10]
    rcases rng y (show 0 ≤ 99999 by omega) (by omega) with ⟨h, e⟩ | ⟨h1', h, e⟩ | ⟨v, h1', h2', rfl, h3', h4', e⟩
    · rw [e, zbs, if00, if_pos (Or.inr (Or.inl h))]; exact okR_mk ht
    · rw [e, zbs, if00, if_pos (Or.inr (Or.inr h))]; exact okR_mk ht
    · rw [e, zbs, if10, s_moveAll (t0_row I) ht, zbs, if_neg (by rintro ((q | q) | (q | q)); exact h3 q; exact h4 q; exact h3' q; exact h4' q), nI_clamp (by omega), nI_clamp (by omega), zJe]
      refine s_bucketsFor_L hb (show m < 1000 by omega) (by omega) I ?_ ?_ zK 0 (by omega) (by unfold zK; omega) w g
      · intro i w g hi; rw [if10]; exact okR_mk (t0_row I)
      · intro w g; rw [if00]; exact okR_mk (t0_row I)
