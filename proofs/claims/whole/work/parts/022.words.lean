/-! words, numbers, ends -/
def zbn : List (List Nat) := [[119, 97, 108, 108], [111, 110], [104, 97, 110, 100], [115, 105, 122, 101], [115, 101, 101, 110], [110, 97, 109, 101], [102, 114, 101, 115, 104], [99, 111, 118, 101, 114, 101, 100], [116, 101, 109, 112, 116, 101, 100], [103, 114, 111, 119, 110], [107, 101, 112, 116], [111, 108, 100], [103, 114, 101, 121], [119, 97, 120], [98, 117, 99, 107, 101, 116, 115], [108, 117, 114, 101], [115, 99, 114, 117, 98], [102, 101, 97, 114]]
def wnum : List Nat := [453774, 419, 158575, 381245, 377771, 276647, 3547106, 1389298450, 7827392695, 4085951, 220610, 11263, 151063, 16818, 1077983065, 251996, 10170119, 121788]
def chrN (w i : Nat) : Nat := (zbn.getD w []).getD i 0
theorem chr_e : ∀ w, w < 18 → zlen.getD w 0 ≤ 7 ∧ valN (chrN w) 0 (zlen.getD w 0) = wnum.getD w 0 ∧ wnum.getD w 0 < 2 ^ 40 ∧ ∀ i, i < zlen.getD w 0 → (zbyt.getD w []).getD i 0 &&& 255 = nI (chrN w i) ∧ 97 ≤ chrN w i ∧ chrN w i ≤ 122 := by decide +kernel
theorem val_uniq {v c : Nat → Nat} {f : Nat} : ∀ n l, (∀ i, i < n → 97 ≤ v (f + i) ∧ v (f + i) ≤ 122) → (∀ i, i < l → 97 ≤ c (0 + i) ∧ c (0 + i) ≤ 122) → (valN v f n = valN c 0 l ↔ n = l ∧ ∀ i, i < l → v (f + i) = c (0 + i)) := by
  intro n
  induction n with
  | zero =>
    intro l _ hc
    cases l with
    | zero => exact ⟨fun _ => ⟨rfl, fun i hi => by omega⟩, fun _ => rfl⟩
    | succ l =>
      have := hc l (by omega)
      rw [valN, valN]
      exact ⟨fun h => by omega, fun h => by omega⟩
  | succ n ih =>
    intro l hv hc
    cases l with
    | zero =>
      have := hv n (by omega)
      rw [valN, valN]
      exact ⟨fun h => by omega, fun h => by omega⟩
    | succ l =>
      have h1 := hv n (by omega)
      have h2 := hc l (by omega)
      have ih := ih l (fun i hi => hv i (by omega)) (fun i hi => hc i (by omega))
      rw [valN, valN]
      constructor
      · intro h
        have e1 : valN v f n = valN c 0 l := by omega
        obtain ⟨e2, e3⟩ := ih.mp e1
        subst e2
        refine ⟨rfl, fun i hi => ?_⟩
        by_cases e : i = n
        · subst e; omega
        · exact e3 i (by omega)
      · rintro ⟨e1, e2⟩
        have e3 : n = l := by omega
        subst e3
        rw [ih.mpr ⟨rfl, fun i hi => e2 i (by omega)⟩, e2 n (by omega)]
def allE (v : Nat → Nat) (f w : Nat) : Nat → Bool
  | 0 => true
  | n + 1 => allE v f w n && decide (v (f + n) = chrN w n)
theorem allE_iff {v : Nat → Nat} {f w : Nat} : ∀ n, allE v f w n = true ↔ ∀ i, i < n → v (f + i) = chrN w (0 + i) := by
  intro n
  induction n with
  | zero => exact ⟨fun _ i hi => by omega, fun _ => rfl⟩
  | succ n ih =>
    rw [allE, Bool.and_eq_true, ih, decide_eq_true_eq]
    constructor
    · rintro ⟨h1, h2⟩ i hi
      by_cases e : i = n
      · rw [e, Nat.zero_add]; exact h2
      · exact h1 i (by omega)
    · intro h
      refine ⟨fun i hi => h i (by omega), ?_⟩
      have := h n (by omega)
      rwa [Nat.zero_add] at this
theorem allE_mono {v : Nat → Nat} {f w i n : Nat} (h : allE v f w n = true) (hi : i ≤ n) : allE v f w i = true := by
  rw [allE_iff] at h ⊢
  exact fun j hj => h j (by omega)
def isW (m : Nat) (v : Nat → Nat) (f w : Nat) : Bool := decide (clN m v f = 1) && (decide (eT m v f - f = zlen.getD w 0) && allE v f w (zlen.getD w 0))
theorem isW_iff {m : Nat} {v : Nat → Nat} {f w : Nat} : isW m v f w = true ↔ clN m v f = 1 ∧ eT m v f - f = zlen.getD w 0 ∧ allE v f w (zlen.getD w 0) = true := by
  unfold isW
  rw [Bool.and_eq_true, Bool.and_eq_true, decide_eq_true_eq, decide_eq_true_eq]
section TOK2
variable {m : Nat} {v : Nat → Nat} {tape rt : Nat → Int32}
theorem tok_letter (B : BytesR m v tape rt) {f i : Nat} (x : clN m v f = 1) (hi : f + i < eT m v f) : f + i < m ∧ 97 ≤ v (f + i) ∧ v (f + i) ≤ 122 := by
  have h := eT_all (Or.inl x) (show f ≤ f + i by omega) hi
  rw [x] at h
  have hl := clN_lt (m := m) (v := v) (k := f + i) (by omega)
  rw [clN_v hl] at h
  have := cls_1 h
  omega
theorem tok_digit (B : BytesR m v tape rt) {f i : Nat} (x : clN m v f = 2) (hi : f + i < eT m v f) : f + i < m ∧ 48 ≤ v (f + i) ∧ v (f + i) ≤ 57 := by
  have h := eT_all (Or.inr x) (show f ≤ f + i by omega) hi
  rw [x] at h
  have hl := clN_lt (m := m) (v := v) (k := f + i) (by omega)
  rw [clN_v hl] at h
  have := cls_2 h
  omega
theorem c_word_L (B : BytesR m v tape rt) {f w : Nat} {k2 k3 : Option Int32} (hw : w < 18) (x : clN m v f = 1) (he : eT m v f - f = zlen.getD w 0) : ∀ n i, i ≤ zlen.getD w 0 → zlen.getD w 0 - i < n → allE v f w i = true → fX3_isWord_L28 (nI f) tape w k2 k3 n (nI i) = if allE v f w (zlen.getD w 0) = true then k3 else k2 := by
  have hm := B.1
  obtain ⟨c1, c2, c3, c4⟩ := chr_e w hw
  intro n
  induction n with
  | zero => intro i _ h; omega
  | succ n ih =>
    intro i hi hn ha
    rw [fX3_isWord_L28, if_neg (show ¬ 18 ≤ w by omega)]
    by_cases h : i < zlen.getD w 0
    · obtain ⟨t1, t2, t3⟩ := tok_letter B (i := i) x (by omega)
      obtain ⟨_, b2, _⟩ := B.2 (f + i) t1
      obtain ⟨d1, d2, d3⟩ := c4 i h
      rw [ilt_t h (by omega), nI_add, zg (by omega) (by omega), if_neg (show ¬ (18 ≤ w ∨ (nI i < 0 ∨ zlen.getD w 0 ≤ (nI i).toNatClampNeg)) by
        rintro (q | q | q)
        · omega
        · exact nI_pos (by omega) q
        · rw [nI_clamp (by omega)] at q; omega), nI_clamp (by omega), nI_clamp (by omega), b2, sb_small _ (by omega), d1, nI_1]
      by_cases y : v (f + i) = chrN w i
      · rw [ieq_t y]
        exact ih (i + 1) (by omega) (by omega) (by rw [allE, ha]; simp [y])
      · rw [ieq_f y (by omega) (by omega), if_neg]
        intro q
        have := (allE_iff _).mp q i h
        rw [Nat.zero_add] at this
        exact y this
    · have e : i = zlen.getD w 0 := by omega
      rw [ilt_f (by omega) (by omega), ← e, if_pos ha]
theorem c_isWord (B : BytesR m v tape rt) {f w : Nat} (hf : f ≤ m) (hw : w < 18) : fX3_isWord (nI (f)) (nI (eT m v (f))) (nI (clN m v (f))) tape w = some (nI (if isW m v f w = true then 1 else 0)) := by
  have hm := B.1
  have hc := clN_le m v f
  have he := eT_le (v := v) hf
  obtain ⟨c1, _⟩ := chr_e w hw
  unfold fX3_isWord
  by_cases x : clN m v f = 1
  · rw [ieq_t x, if_neg (show ¬ 18 ≤ w by omega), nI_sub he.1]
    by_cases y : eT m v f - f = zlen.getD w 0
    · rw [ieq_t y, zJe, zJe, show nI 0 = nI 0 from rfl, c_word_L B hw x y zK 0 (by omega) (by unfold zK; omega) rfl]
      by_cases z : allE v f w (zlen.getD w 0) = true
      · rw [if_pos z, if_pos (isW_iff.mpr ⟨x, y, z⟩)]
      · rw [if_neg z, if_neg (fun q => z (isW_iff.mp q).2.2)]
    · rw [ieq_f y (by omega) (by omega), if_neg (fun q => y (isW_iff.mp q).2.1)]
  · rw [ieq_f x (by omega) (by omega), if_neg (fun q => x (isW_iff.mp q).1)]
theorem s_isWord (B : BytesR m v tape rt) {f w : Nat} (hf : f ≤ m) (hw : w < 18) : fX5_isWord (nI (clN m v f)) (wT m v f) (lN (wnum.getD w 0)) = some (nI (if isW m v f w = true then 1 else 0)) := by
  have hm := B.1
  have hc := clN_le m v f
  have he := eT_le (v := v) hf
  obtain ⟨c1, c2, c3, c4⟩ := chr_e w hw
  unfold fX5_isWord
  by_cases x : clN m v f = 1
  · rw [ieq_t x, wT_1 x]
    have let_ : ∀ i, i < eT m v f - f → 97 ≤ v (f + i) ∧ v (f + i) ≤ 122 := fun i hi => (tok_letter B (i := i) x (by omega)).2
    have iff_ : (lg_cmp (wAcc v f (eT m v f - f)) (lN (wnum.getD w 0)) = 0) = (eT m v f - f = zlen.getD w 0 ∧ allE v f w (zlen.getD w 0) = true) := by
      rw [cmp0]
      unfold wAcc
      by_cases y : eT m v f - f ≤ 9
      · have hv := valN_lt v f (eT m v f - f) y (fun i hi => (let_ i hi).2)
        have h27 : 27 ^ (eT m v f - f) ≤ 27 ^ 9 := Nat.pow_le_pow_right (by omega) y
        have h279 : 27 ^ 9 = 7625597484987 := by decide
        have h240 : (2 : Nat) ^ 40 = 1099511627776 := by decide
        rw [if_pos y, allE_iff]
        refine propext (Iff.trans (pk_lEQ (by omega) (by omega)) ?_)
        rw [← c2]
        exact val_uniq _ _ let_ (fun i hi => by rw [Nat.zero_add]; exact (c4 i hi).2)
      · rw [if_neg y]
        refine propext ⟨fun q => ?_, fun q => by omega⟩
        have h240 : (2 : Nat) ^ 40 = 1099511627776 := by decide
        have := congrArg Int64.toInt q
        rw [pk_lT (by omega), show (-1 : Int64).toInt = -1 by decide] at this
        omega
    by_cases y : (lg_cmp (wAcc v f (eT m v f - f)) (lN (wnum.getD w 0)) = 0)
    · have q := iff_ ▸ y
      rw [if_pos y, if_pos (isW_iff.mpr ⟨x, q.1, q.2⟩)]
    · have q : ¬ (eT m v f - f = zlen.getD w 0 ∧ allE v f w (zlen.getD w 0) = true) := fun q => y (iff_ ▸ q)
      rw [if_neg y, if_neg (fun z => q (isW_iff.mp z).2)]
  · rw [ieq_f x (by omega) (by omega), if_neg (fun q => x (isW_iff.mp q).1)]
def kindT (m : Nat) (v : Nat → Nat) (f : Nat) : Int32 := if isW m v f 5 = true then nI 0 else if isW m v f 6 = true then nI 1 else if isW m v f 7 = true then nI 2 else if isW m v f 8 = true then nI 3 else if isW m v f 9 = true then nI 4 else if isW m v f 10 = true then nI 5 else -1
def lawT (m : Nat) (v : Nat → Nat) (f : Nat) : Int32 := if isW m v f 14 = true then nI 0 else if isW m v f 15 = true then nI 1 else if isW m v f 16 = true then nI 2 else if isW m v f 17 = true then nI 3 else -1
def groundT (m : Nat) (v : Nat → Nat) (f : Nat) : Int32 := if isW m v f 11 = true then nI 0 else if isW m v f 12 = true then nI 1 else if isW m v f 13 = true then nI 2 else -1
theorem ib {R : Type} {b : Bool} {A C : R} : (if nI (if b = true then 1 else 0) = 0 then A else C) = (if b = true then C else A) := by
  cases b
  · rw [if_pos (show nI (if false = true then 1 else 0) = 0 by decide), if_neg (show ¬ false = true by decide)]
  · rw [if_neg (show ¬ nI (if true = true then 1 else 0) = 0 by decide), if_pos rfl]
theorem c_kind (B : BytesR m v tape rt) {f : Nat} (hf : f ≤ m) : fX3_kindTold (nI (f)) (nI (eT m v (f))) (nI (clN m v (f))) tape = some (kindT m v f) := by
  unfold fX3_kindTold kindT
  simp only [c_isWord B hf (show 5 < 18 by omega), c_isWord B hf (show 6 < 18 by omega), c_isWord B hf (show 7 < 18 by omega), c_isWord B hf (show 8 < 18 by omega), c_isWord B hf (show 9 < 18 by omega), c_isWord B hf (show 10 < 18 by omega), zbf, ib]
  repeat' split
  all_goals rfl
theorem s_kind (B : BytesR m v tape rt) {f : Nat} (hf : f ≤ m) : fX5_kindHere (nI (clN m v f)) (wT m v f) = some (kindT m v f) := by
  have w5 := s_isWord B hf (show 5 < 18 by omega)
  have w6 := s_isWord B hf (show 6 < 18 by omega)
  have w7 := s_isWord B hf (show 7 < 18 by omega)
  have w8 := s_isWord B hf (show 8 < 18 by omega)
  have w9 := s_isWord B hf (show 9 < 18 by omega)
  have w10 := s_isWord B hf (show 10 < 18 by omega)
  rw [show wnum.getD 5 0 = 276647 from rfl] at w5
  rw [show wnum.getD 6 0 = 3547106 from rfl] at w6
  rw [show wnum.getD 7 0 = 1389298450 from rfl] at w7
  rw [show wnum.getD 8 0 = 7827392695 from rfl] at w8
  rw [show wnum.getD 9 0 = 4085951 from rfl] at w9
  rw [show wnum.getD 10 0 = 220610 from rfl] at w10
  unfold fX5_kindHere kindT
  simp only [w5, w6, w7, w8, w9, w10, zbf, ib]
  repeat' split
  all_goals rfl
theorem c_law (B : BytesR m v tape rt) {f : Nat} (hf : f ≤ m) : fX3_lawTold (nI (f)) (nI (eT m v (f))) (nI (clN m v (f))) tape = some (lawT m v f) := by
  unfold fX3_lawTold lawT
  simp only [c_isWord B hf (show 14 < 18 by omega), c_isWord B hf (show 15 < 18 by omega), c_isWord B hf (show 16 < 18 by omega), c_isWord B hf (show 17 < 18 by omega), zbf, ib]
  repeat' split
  all_goals rfl
theorem s_law (B : BytesR m v tape rt) {f : Nat} (hf : f ≤ m) : fX5_lawHere (nI (clN m v f)) (wT m v f) = some (lawT m v f) := by
  have w5 := s_isWord B hf (show 14 < 18 by omega)
  have w6 := s_isWord B hf (show 15 < 18 by omega)
  have w7 := s_isWord B hf (show 16 < 18 by omega)
  have w8 := s_isWord B hf (show 17 < 18 by omega)
  rw [show wnum.getD 14 0 = 1077983065 from rfl] at w5
  rw [show wnum.getD 15 0 = 251996 from rfl] at w6
  rw [show wnum.getD 16 0 = 10170119 from rfl] at w7
  rw [show wnum.getD 17 0 = 121788 from rfl] at w8
  unfold fX5_lawHere lawT
  simp only [w5, w6, w7, w8, zbf, ib]
  repeat' split
  all_goals rfl
theorem c_ground (B : BytesR m v tape rt) {f : Nat} (hf : f ≤ m) : fX3_groundTold (nI (f)) (nI (eT m v (f))) (nI (clN m v (f))) tape = some (groundT m v f) := by
  unfold fX3_groundTold groundT
  simp only [c_isWord B hf (show 11 < 18 by omega), c_isWord B hf (show 12 < 18 by omega), c_isWord B hf (show 13 < 18 by omega), zbf, ib]
  repeat' split
  all_goals rfl
theorem s_groundH (B : BytesR m v tape rt) {f : Nat} (hf : f ≤ m) : fX5_groundHere (nI (clN m v f)) (wT m v f) = some (groundT m v f) := by
  have w5 := s_isWord B hf (show 11 < 18 by omega)
  have w6 := s_isWord B hf (show 12 < 18 by omega)
  have w7 := s_isWord B hf (show 13 < 18 by omega)
  rw [show wnum.getD 11 0 = 11263 from rfl] at w5
  rw [show wnum.getD 12 0 = 151063 from rfl] at w6
  rw [show wnum.getD 13 0 = 16818 from rfl] at w7
  unfold fX5_groundHere groundT
  simp only [w5, w6, w7, zbf, ib]
  repeat' split
  all_goals rfl
theorem isW_word {f w : Nat} (h : isW m v f w = true) : clN m v f = 1 := by
  unfold isW at h
  rw [Bool.and_eq_true, decide_eq_true_eq] at h
  exact h.1
theorem kindT_cases (f : Nat) : kindT m v f = -1 ∨ (clN m v f = 1 ∧ ∃ k, k < 6 ∧ kindT m v f = nI k) := by
  unfold kindT
  by_cases x5 : isW m v f 5 = true
  · right; exact ⟨isW_word x5, 0, by omega, if_pos x5⟩
  · rw [if_neg x5]
    by_cases x6 : isW m v f 6 = true
    · right; exact ⟨isW_word x6, 1, by omega, if_pos x6⟩
    · rw [if_neg x6]
      by_cases x7 : isW m v f 7 = true
      · right; exact ⟨isW_word x7, 2, by omega, if_pos x7⟩
      · rw [if_neg x7]
        by_cases x8 : isW m v f 8 = true
        · right; exact ⟨isW_word x8, 3, by omega, if_pos x8⟩
        · rw [if_neg x8]
          by_cases x9 : isW m v f 9 = true
          · right; exact ⟨isW_word x9, 4, by omega, if_pos x9⟩
          · rw [if_neg x9]
            by_cases x10 : isW m v f 10 = true
            · right; exact ⟨isW_word x10, 5, by omega, if_pos x10⟩
            · left; rw [if_neg x10]
theorem lawT_cases (f : Nat) : lawT m v f = -1 ∨ (clN m v f = 1 ∧ ∃ k, k < 4 ∧ lawT m v f = nI k) := by
  unfold lawT
  by_cases x5 : isW m v f 14 = true
  · right; exact ⟨isW_word x5, 0, by omega, if_pos x5⟩
  · rw [if_neg x5]
    by_cases x6 : isW m v f 15 = true
    · right; exact ⟨isW_word x6, 1, by omega, if_pos x6⟩
    · rw [if_neg x6]
      by_cases x7 : isW m v f 16 = true
      · right; exact ⟨isW_word x7, 2, by omega, if_pos x7⟩
      · rw [if_neg x7]
        by_cases x8 : isW m v f 17 = true
        · right; exact ⟨isW_word x8, 3, by omega, if_pos x8⟩
        · left; rw [if_neg x8]
theorem groundT_cases (f : Nat) : groundT m v f = -1 ∨ (clN m v f = 1 ∧ ∃ k, k < 3 ∧ groundT m v f = nI k) := by
  unfold groundT
  by_cases x5 : isW m v f 11 = true
  · right; exact ⟨isW_word x5, 0, by omega, if_pos x5⟩
  · rw [if_neg x5]
    by_cases x6 : isW m v f 12 = true
    · right; exact ⟨isW_word x6, 1, by omega, if_pos x6⟩
    · rw [if_neg x6]
      by_cases x7 : isW m v f 13 = true
      · right; exact ⟨isW_word x7, 2, by omega, if_pos x7⟩
      · left; rw [if_neg x7]
theorem c_num_L (B : BytesR m v tape rt) {f : Nat} {k : Int32 → Option (Int32 × Int32 × Int32 × Int32)} (hf : f ≤ m) (x : clN m v f = 2) (h3 : eT m v f - f ≤ 3) : ∀ n i, i ≤ eT m v f - f → eT m v f - f - i < n → fX3_takeNumber_L30 (nI (eT m v f)) tape k n (nI (numN v f i)) (nI (f + i)) = k (nI (numN v f (eT m v f - f))) := by
  have hm := B.1
  have he := eT_le (v := v) hf
  intro n
  induction n with
  | zero => intro i _ h; omega
  | succ n ih =>
    intro i hi hn
    rw [fX3_takeNumber_L30]
    by_cases h : i < eT m v f - f
    · obtain ⟨t1, t2, t3⟩ := tok_digit B (i := i) x (by omega)
      obtain ⟨_, b2, _⟩ := B.2 (f + i) t1
      have ih := ih (i + 1) (by omega) (by omega)
      rw [numN] at ih
      rw [ilt_t (by omega) (by omega), zg (by omega) (by omega), nI_clamp (by omega), b2, sb_small _ (by omega), nI_mul, nI_add, nI_sub (by omega), nI_1, show numN v f i * 10 + v (f + i) - 48 = 10 * numN v f i + (v (f + i) - 48) by omega]
      exact ih
    · have e : i = eT m v f - f := by omega
      rw [ilt_f (by omega) (by omega), e]
/-- a number that is due -/
theorem j_num (B : BytesR m v tape rt) {f mx : Nat} (hf : f ≤ m) (hmx : mx < 1000) : (∃ n, n ≤ mx ∧ f < nextT m v f ∧ fX3_takeNumber (nI m) (nI (f)) (nI (eT m v (f))) (nI (clN m v (f))) tape (nI mx) = some (nI n, nI (nextT m v f), nI (eT m v (nextT m v f)), nI (clN m v (nextT m v f))) ∧ fX5_wantNumber (nI m) (nI (clN m v (f))) (nI (f)) (nI (eT m v (f))) (wT m v (f)) (vT m v (f)) (nI 1) rt (nI 0) (nI mx) = some (nI n, nI (clN m v (nextT m v f)), nI (nextT m v f), nI (eT m v (nextT m v f)), wT m v (nextT m v f), vT m v (nextT m v f), nI 1)) ∨ (fX3_takeNumber (nI m) (nI (f)) (nI (eT m v (f))) (nI (clN m v (f))) tape (nI mx) = some (-1, nI (f), nI (eT m v (f)), nI (clN m v (f))) ∧ ∃ x, fX5_wantNumber (nI m) (nI (clN m v (f))) (nI (f)) (nI (eT m v (f))) (wT m v (f)) (vT m v (f)) (nI 1) rt (nI 0) (nI mx) = some (x, nI (clN m v (f)), nI (f), nI (eT m v (f)), wT m v (f), vT m v (f), nI 0)) := by
  have hm := B.1
  have hc := clN_le m v f
  have he := eT_le (v := v) hf
  unfold fX3_takeNumber fX5_wantNumber
  rw [if10, if00]
  by_cases x : clN m v f = 2
  · rw [ieq_t x, ieq_t x, nI_sub he.1, vT_2 x]
    unfold vAcc
    by_cases y : eT m v f - f ≤ 3
    · have hn := numN_lt v f (eT m v f - f) (fun i hi => (tok_digit B (i := i) x (by omega)).2.2)
      have h10 : 10 ^ (eT m v f - f) ≤ 10 ^ 3 := Nat.pow_le_pow_right (by omega) y
      have q := fun k => c_num_L B (k := k) hf x y zK 0 (by omega) (by unfold zK; omega)
      rw [Nat.add_zero, show numN v f 0 = 0 from rfl] at q
      rw [ilt_f (by omega) (by omega), zJe, q, if_pos y]
      unfold fX5_in
      rw [if_neg (show ¬ nI (numN v f (eT m v f - f)) < nI 0 from nI_pos (by omega))]
      by_cases z : mx < numN v f (eT m v f - f)
      · right
        rw [ilt_t z (by omega), ilt_t z (by omega), zbs, if00]
        exact ⟨rfl, _, rfl⟩
      · left
        refine ⟨numN v f (eT m v f - f), by omega, next_gt (by omega), ?_, ?_⟩
        · rw [ilt_f (by omega) (by omega), c_step B he.2, zbs]; rfl
        · rw [ilt_f (by omega) (by omega), zbs, if10, if10, s_advance B he.2, zbs]; rfl
    · right
      rw [ilt_t (by omega) (by omega), if_neg y, show fX5_in (-1) (nI 0) (nI mx) = some (nI 0) from if_pos m1_neg, zbs, if00]
      exact ⟨rfl, _, rfl⟩
  · right
    rw [ieq_f x (by omega) (by omega), ieq_f x (by omega) (by omega)]
    exact ⟨rfl, _, rfl⟩
theorem z_num {TM SO BG TE VA a b : Int32} {WD : Int64} : fX5_wantNumber TM SO BG TE WD VA (nI 0) rt a b = some (VA, SO, BG, TE, WD, VA, nI 0) := by
  unfold fX5_wantNumber
  rw [if00, if00]
theorem z_end {TM SO BG TE VA : Int32} {WD : Int64} : fX5_wantEnd TM SO BG TE WD VA (nI 0) rt = some (SO, BG, TE, WD, VA, nI 0) := by
  unfold fX5_wantEnd
  rw [if00, if00]
theorem z_may {TM SO BG TE VA a d : Int32} {WD W : Int64} : fX5_mayWant TM SO BG TE WD VA (nI 0) rt W a d = some (d, SO, BG, TE, WD, VA, nI 0) := by
  unfold fX5_mayWant
  rw [if00]
theorem j_end (B : BytesR m v tape rt) {f : Nat} (hf : f ≤ m) : (f < nextT m v f ∧ fX3_takeEnd (nI m) (nI (f)) (nI (eT m v (f))) (nI (clN m v (f))) tape = some (nI 1, nI (nextT m v f), nI (eT m v (nextT m v f)), nI (clN m v (nextT m v f))) ∧ fX5_wantEnd (nI m) (nI (clN m v (f))) (nI (f)) (nI (eT m v (f))) (wT m v (f)) (vT m v (f)) (nI 1) rt = some (nI (clN m v (nextT m v f)), nI (nextT m v f), nI (eT m v (nextT m v f)), wT m v (nextT m v f), vT m v (nextT m v f), nI 1)) ∨ (fX3_takeEnd (nI m) (nI (f)) (nI (eT m v (f))) (nI (clN m v (f))) tape = some (nI 0, nI (f), nI (eT m v (f)), nI (clN m v (f))) ∧ fX5_wantEnd (nI m) (nI (clN m v (f))) (nI (f)) (nI (eT m v (f))) (wT m v (f)) (vT m v (f)) (nI 1) rt = some (nI (clN m v (f)), nI (f), nI (eT m v (f)), wT m v (f), vT m v (f), nI 0)) := by
  have hm := B.1
  have hc := clN_le m v f
  have he := eT_le (v := v) hf
  unfold fX3_takeEnd fX5_wantEnd fX5_isMark
  rw [if10, if00, if10]
  by_cases x : clN m v f = 3
  · have h := clN_lt (m := m) (v := v) (k := f) (by omega)
    obtain ⟨b1, b2, _⟩ := B.2 f h
    rw [ieq_t x, ieq_t x, zg (by omega) (by omega), nI_clamp (by omega), b2, vT_n (by omega) (by omega)]
    by_cases y : v f = 59
    · left
      rw [if_pos ((sb_59 _ b1).mpr y), ieq_t y, zbs, if10, c_step B he.2, zbs, s_advance B he.2, zbs]
      exact ⟨next_gt (by omega), rfl, rfl⟩
    · right
      rw [if_neg (fun q => y ((sb_59 _ b1).mp q)), ieq_f y (by omega) (by omega), zbs, if00]
      exact ⟨rfl, rfl⟩
  · right
    rw [ieq_f x (by omega) (by omega), ieq_f x (by omega) (by omega), zbs, if00]
    exact ⟨rfl, rfl⟩
theorem c_takeWord (B : BytesR m v tape rt) {f w : Nat} (hf : f ≤ m) (hw : w < 18) : fX3_takeWord (nI m) (nI (f)) (nI (eT m v (f))) (nI (clN m v (f))) tape w = if isW m v f w = true then some (nI 1, nI (nextT m v f), nI (eT m v (nextT m v f)), nI (clN m v (nextT m v f))) else some (nI 0, nI (f), nI (eT m v (f)), nI (clN m v (f))) := by
  have he := eT_le (v := v) hf
  unfold fX3_takeWord
  rw [c_isWord B hf hw, zbs, ib, c_step B he.2, zbs]
  rfl
theorem j_opt (B : BytesR m v tape rt) {f w mx d : Nat} (hf : f ≤ m) (hw : w < 18) (hmx : mx < 1000) (hd : d ≤ mx) : ∃ f', f ≤ f' ∧ f' ≤ m ∧ ((∃ n, n ≤ mx ∧ fX3_takeOption (nI m) (nI (f)) (nI (eT m v (f))) (nI (clN m v (f))) tape w (nI mx) (nI d) = some (nI n, nI (f'), nI (eT m v (f')), nI (clN m v (f'))) ∧ fX5_mayWant (nI m) (nI (clN m v (f))) (nI (f)) (nI (eT m v (f))) (wT m v (f)) (vT m v (f)) (nI 1) rt (lN (wnum.getD w 0)) (nI mx) (nI d) = some (nI n, nI (clN m v (f')), nI (f'), nI (eT m v (f')), wT m v (f'), vT m v (f'), nI 1)) ∨ (fX3_takeOption (nI m) (nI (f)) (nI (eT m v (f))) (nI (clN m v (f))) tape w (nI mx) (nI d) = some (-1, nI (f'), nI (eT m v (f')), nI (clN m v (f'))) ∧ ∃ x, fX5_mayWant (nI m) (nI (clN m v (f))) (nI (f)) (nI (eT m v (f))) (wT m v (f)) (vT m v (f)) (nI 1) rt (lN (wnum.getD w 0)) (nI mx) (nI d) = some (x, nI (clN m v (f')), nI (f'), nI (eT m v (f')), wT m v (f'), vT m v (f'), nI 0))) := by
  have he := eT_le (v := v) hf
  have hn := next_le (v := v) hf
  unfold fX3_takeOption fX5_mayWant
  rw [if10, s_isWord B hf hw, zbs, ib, c_takeWord B hf hw]
  by_cases x : isW m v f w = true
  · rw [if_pos x, if_pos x, zbs, s_advance B he.2, zbs]
    dsimp only
    rw [if10, show skipT m v (eT m v f) = nextT m v f from rfl]
    have hn2 := next_le (v := v) hn.2
    rcases j_num B (f := nextT m v f) hn.2 hmx with ⟨n, h1, h2, h3, h4⟩ | ⟨h3, y, h4⟩
    · refine ⟨nextT m v (nextT m v f), by omega, hn2.2, Or.inl ⟨n, h1, ?_, ?_⟩⟩
      · rw [h3, zbs]
      · rw [h4, zbs]
    · refine ⟨nextT m v f, hn.1, hn.2, Or.inr ⟨?_, y, ?_⟩⟩
      · rw [h3, zbs]
      · rw [h4, zbs]
  · refine ⟨f, Nat.le_refl f, hf, Or.inl ⟨d, hd, ?_, ?_⟩⟩
    · rw [if_neg x, zbs, if00]
    · rw [if_neg x]
end TOK2
