/-! odds, hope -/
theorem l0 : (lN 0) = (0 : Int64) := by decide
theorem lN_ne0 {n : Nat} (h : 0 < n) (hn : n < 2 ^ 63) : ¬ lN n = 0 := by
  rw [← l0, pk_lEQ hn (by omega)]
  omega
theorem cmp_lN {a b : Nat} (ha : a < 2 ^ 63) (hb : b < 2 ^ 63) : (lg_cmp (lN a) (lN b) = 0) = (a = b) := by
  rw [cmp0]
  exact propext (pk_lEQ ha hb)
/-- enough steps for Euclid -/
theorem eu_half {x y : Nat} (h : 0 < x % y) (hy : 0 < y) : 2 * (y % (x % y)) < y := by
  have h1 := Nat.mod_lt x hy
  have h2 := Nat.mod_lt y h
  have h3 := Nat.div_add_mod y (x % y)
  have h4 : 1 ≤ y / (x % y) := (Nat.le_div_iff_mul_le h).mpr (by omega)
  have h5 : x % y * 1 ≤ x % y * (y / (x % y)) := Nat.mul_le_mul_left _ h4
  omega
theorem s_eu {k : Int64 → Option Int64} : ∀ e x y n, y < 2 ^ e → x < 2 ^ 63 → y < 2 ^ 63 → 2 * e + 1 ≤ n → fX5_lowest_L6 k n (lN x) (lN y) = k (lN (Nat.gcd y x)) := by
  intro e
  induction e with
  | zero =>
    intro x y n hy hx hy2 hn
    have : y = 0 := by omega
    subst this
    obtain ⟨m, rfl⟩ : ∃ m, n = m + 1 := ⟨n - 1, by omega⟩
    rw [fX5_lowest_L6, if_pos (show lg_cmp (lN 0) (lN 0) = 0 by decide), Nat.gcd_zero_left]
  | succ e ih =>
    intro x y n hy hx hy2 hn
    obtain ⟨m, rfl⟩ : ∃ m, n = m + 2 := ⟨n - 2, by omega⟩
    rw [fX5_lowest_L6]
    by_cases h0 : y = 0
    · subst h0
      rw [if_pos (show lg_cmp (lN 0) (lN 0) = 0 by decide), Nat.gcd_zero_left]
    · have hr := Nat.mod_lt x (show 0 < y by omega)
      rw [if_neg (show ¬ lg_cmp (lN y) (lN 0) = 0 by rw [cmp_lN hy2 (by omega)]; exact h0), if_neg (lN_ne0 (by omega) hy2), pk_lRem hx (by omega) hy2, fX5_lowest_L6]
      by_cases h1 : x % y = 0
      · rw [h1, if_pos (show lg_cmp (lN 0) (lN 0) = 0 by decide), Nat.gcd_rec y x, h1, Nat.gcd_zero_left]
      · have h2 := eu_half (x := x) (y := y) (by omega) (by omega)
        rw [if_neg (show ¬ lg_cmp (lN (x % y)) (lN 0) = 0 by rw [cmp_lN (by omega) (by omega)]; exact h1), if_neg (lN_ne0 (by omega) (by omega)), pk_lRem hy2 (by omega) (by omega)]
        have := Nat.mod_lt y (show 0 < x % y by omega)
        rw [ih (x % y) (y % (x % y)) m (by rw [Nat.pow_succ] at hy; omega) (by omega) (by omega) (by omega), Nat.gcd_rec y x, Nat.gcd_rec (x % y) y]
theorem c_eu {k : Int64 → Option Int64} : ∀ e x y n i, y < 2 ^ e → x < 2 ^ 63 → y < 2 ^ 63 → 2 * e + 1 ≤ n → 2 * e + 1 + i ≤ 1000 → fX4_partOf_L9 k n (lN x) (lN y) (nI i) = k (lN (Nat.gcd y x)) := by
  intro e
  induction e with
  | zero =>
    intro x y n i hy hx hy2 hn hi
    have : y = 0 := by omega
    subst this
    obtain ⟨m, rfl⟩ : ∃ m, n = m + 1 := ⟨n - 1, by omega⟩
    rw [fX4_partOf_L9, ilt_t (by omega) (by omega), if_pos (show lg_cmp (lN 0) (lN 0) = 0 by decide), Nat.gcd_zero_left]
  | succ e ih =>
    intro x y n i hy hx hy2 hn hi
    obtain ⟨m, rfl⟩ : ∃ m, n = m + 2 := ⟨n - 2, by omega⟩
    rw [fX4_partOf_L9, ilt_t (by omega) (by omega)]
    by_cases h0 : y = 0
    · subst h0
      rw [if_pos (show lg_cmp (lN 0) (lN 0) = 0 by decide), Nat.gcd_zero_left]
    · have hr := Nat.mod_lt x (show 0 < y by omega)
      rw [if_neg (show ¬ lg_cmp (lN y) (lN 0) = 0 by rw [cmp_lN hy2 (by omega)]; exact h0), if_neg (lN_ne0 (by omega) hy2), pk_lRem hx (by omega) hy2, nI_1, fX4_partOf_L9, ilt_t (by omega) (by omega)]
      by_cases h1 : x % y = 0
      · rw [h1, if_pos (show lg_cmp (lN 0) (lN 0) = 0 by decide), Nat.gcd_rec y x, h1, Nat.gcd_zero_left]
      · have h2 := eu_half (x := x) (y := y) (by omega) (by omega)
        rw [if_neg (show ¬ lg_cmp (lN (x % y)) (lN 0) = 0 by rw [cmp_lN (by omega) (by omega)]; exact h1), if_neg (lN_ne0 (by omega) (by omega)), pk_lRem hy2 (by omega) (by omega), nI_1]
        have := Nat.mod_lt y (show 0 < x % y by omega)
        rw [ih (x % y) (y % (x % y)) m (i + 1 + 1) (by rw [Nat.pow_succ] at hy; omega) (by omega) (by omega) (by omega) (by omega), Nat.gcd_rec y x, Nat.gcd_rec (x % y) y]
def lowN (a b j : Nat) : Nat := if j = 0 then a / Nat.gcd a b else b / Nat.gcd a b
theorem part_same {a b j : Nat} (ha : a < 2 ^ 63) (hb : b < 2 ^ 63) (h0 : 0 < b) (hj : j < 2) : fX4_partOf (lN a) (lN b) (nI j) = some (lN (lowN a b j)) ∧ fX5_lowest (lN a) (lN b) (nI j) = some (lN (lowN a b j)) := by
  have hg : 0 < Nat.gcd a b := Nat.gcd_pos_of_pos_right a h0
  have hg2 : Nat.gcd a b ≤ b := Nat.gcd_le_right a h0
  unfold fX4_partOf fX5_lowest lowN
  rw [zJe, zJe, c_eu 63 b a zK 0 ha hb ha (by unfold zK; omega) (by omega), s_eu 63 b a zK ha hb ha (by unfold zK; omega), if_neg (show ¬ lg_cmp (lN (Nat.gcd a b)) (lN 0) = 0 by rw [cmp_lN (by omega) (by omega)]; omega), if_neg (lN_ne0 hg (by omega)), if_neg (lN_ne0 hg (by omega)), pk_lDiv ha hg (by omega), pk_lDiv hb hg (by omega)]
  by_cases x : j = 0
  · rw [ie0_t x, if_pos x]; exact ⟨rfl, rfl⟩
  · rw [ie0_f x (by omega), if_neg x]; exact ⟨rfl, rfl⟩
def okL (o4 o5 : Option Int64) : Prop := ∃ a, o4 = some a ∧ o5 = some a
theorem okL_mk {a : Int64} : okL (some a) (some a) := ⟨a, rfl, rfl⟩
theorem p_hope {b : Nat} {c ni gl dr : Int32} {la gr se ki ha si on aw : Nat → Int32} {row : Nat → Int32} (Gn : GN b c ni gl dr la gr se ki ha si on aw row) (x1 x2 : Int32) : okL (fX4_hope la x1 x2) (fX5_hope row x1 x2) := by
  obtain ⟨S, T, rfl⟩ := Gn
  have h3 : S 3 ≤ 99 := T.1.2.2.2.1
  unfold fX4_hope fX5_hope
  rcases rng x1 (show 0 ≤ 99 by omega) (by omega) with ⟨h, e⟩ | ⟨h1, h, e⟩ | ⟨m, h1, h2, rfl, h3', h4, e⟩
  · rw [if_pos (show x1 < 0 from h), e, zbs, if00]; exact okL_mk
  · rw [if_neg (show ¬ x1 < 0 from h1), if_pos h, e, zbs, if00]; exact okL_mk
  · rw [if_neg (show ¬ nI m < 0 from h3'), if_neg h4, e, zbs, if10]
    rcases bel x2 (n := 2) (by omega) (by omega) with ⟨f1, f2⟩ | ⟨j, hj, rfl, f1, f2⟩
    · rw [f1, show fX5_in x2 (nI 0) (nI 1) = _ from f2, zbs, zbs, if00, if00]; exact okL_mk
    · have hm : m * S 3 ≤ 99 * 99 := Nat.mul_le_mul h2 h3
      obtain ⟨p1, p2⟩ := part_same (a := m * S 3) (b := 100) (j := j) (by omega) (by omega) (by omega) hj
      rw [f1, show fX5_in (nI j) (nI 0) (nI 1) = _ from f2, zbs, zbs, if10, if10, tr_la T (show 3 < 4 by omega), r3, nI_l (by omega), nI_l (by omega), lN_mul, p1, p2, zbs]
      exact okL_mk
def waysN (n : Nat) : Nat → Nat
  | 0 => 1
  | i + 1 => waysN n i * (n - i) / (i + 1)
theorem ways_le : ∀ n, n < 9 → ∀ k, k < 9 → waysN n k ≤ 70 := by decide +kernel
theorem c_ways {n k : Nat} {kk : Int64 → Option Int64} (hn : n ≤ 8) (hk : k ≤ n) : ∀ f i, i ≤ k → k - i < f → fX4_odds_L51 (nI n) (nI k) kk f (lN (waysN n i)) (nI i) = kk (lN (waysN n k)) := by
  intro f
  induction f with
  | zero => intro i _ h; omega
  | succ f ih =>
    intro i hi hf
    rw [fX4_odds_L51]
    by_cases h : i < k
    · have hw := ways_le n (by omega) i (by omega)
      have hm : waysN n i * (n - i) ≤ 70 * 8 := Nat.mul_le_mul hw (by omega)
      rw [ilt_t h (by omega), nI_add, nI_l (show i + 1 < 2 ^ 31 by omega), if_neg (lN_ne0 (by omega) (by omega)), nI_sub (by omega), nI_l (by omega), lN_mul, pk_lDiv (by omega) (by omega) (by omega), nI_1]
      exact ih (i + 1) (by omega) (by omega)
    · have e : i = k := by omega
      rw [ilt_f (by omega) (by omega), e]
theorem s_ways {n k : Nat} {kk : Int64 → Option Int64} (hn : n ≤ 8) (hk : k ≤ n) : ∀ f i, i ≤ k → k - i < f → fX5_odds_L38 (nI n) (nI k) kk f (lN (waysN n i)) (nI i) = kk (lN (waysN n k)) := by
  intro f
  induction f with
  | zero => intro i _ h; omega
  | succ f ih =>
    intro i hi hf
    rw [fX5_odds_L38]
    by_cases h : i < k
    · have hw := ways_le n (by omega) i (by omega)
      have hm : waysN n i * (n - i) ≤ 70 * 8 := Nat.mul_le_mul hw (by omega)
      rw [ilt_t h (by omega), nI_add, nI_l (show i + 1 < 2 ^ 31 by omega), if_neg (lN_ne0 (by omega) (by omega)), nI_sub (by omega), nI_l (by omega), lN_mul, pk_lDiv (by omega) (by omega) (by omega), nI_1]
      exact ih (i + 1) (by omega) (by omega)
    · have e : i = k := by omega
      rw [ilt_f (by omega) (by omega), e]
def prodN (W F k : Nat) : Nat → Nat
  | 0 => W
  | i + 1 => prodN W F k i * (if i < k then F else 100 - F)
theorem prodN_e (W F k : Nat) : ∀ i, prodN W F k i = W * F ^ (min i k) * (100 - F) ^ (i - k) := by
  intro i
  induction i with
  | zero => rw [prodN]; simp
  | succ i ih =>
    rw [prodN, ih]
    by_cases h : i < k
    · rw [if_pos h, show min (i + 1) k = min i k + 1 by omega, show i + 1 - k = 0 by omega, show i - k = 0 by omega, Nat.pow_succ, Nat.pow_zero, Nat.mul_one, Nat.mul_one, Nat.mul_assoc]
    · rw [if_neg h, show min (i + 1) k = min i k by omega, show i + 1 - k = (i - k) + 1 by omega, Nat.pow_succ, Nat.mul_assoc]
theorem prodN_le {W F k : Nat} (hF : F ≤ 99) (hW : W ≤ 70) : ∀ i, prodN W F k i ≤ 70 * 100 ^ i := by
  intro i
  induction i with
  | zero => rw [prodN]; omega
  | succ i ih =>
    rw [prodN, Nat.pow_succ, ← Nat.mul_assoc]
    exact Nat.mul_le_mul ih (by split <;> omega)
theorem p100 : ∀ i, i ≤ 8 → 100 ^ i ≤ 10000000000000000 := by
  intro i hi
  exact Nat.le_trans (Nat.pow_le_pow_right (by omega) hi) (by decide)
theorem c_prod {n k W F : Nat} {la : Nat → Int32} {kk : Int64 → Int64 → Option Int64} (hn : n ≤ 8) (hk : k ≤ n) (hF : F ≤ 99) (hW : W ≤ 70) (hl : la 3 = nI F) : ∀ f i, i ≤ n → n - i < f → fX4_odds_L82 la (nI n) (nI k) kk f (lN (prodN W F k i)) (lN (100 ^ i)) (nI i) = kk (lN (prodN W F k n)) (lN (100 ^ n)) := by
  intro f
  induction f with
  | zero => intro i _ h; omega
  | succ f ih =>
    intro i hi hf
    rw [fX4_odds_L82]
    by_cases h : i < n
    · have ih := ih (i + 1) (by omega) (by omega)
      rw [prodN, Nat.pow_succ] at ih
      rw [ilt_t h (by omega), hl, nI_l (by omega), nI_sub (by omega), nI_l (by omega), lN_mul, lN_mul, lN_mul, nI_1]
      by_cases x : i < k
      · rw [if_pos x] at ih
        rw [ilt_t x (by omega)]; exact ih
      · rw [if_neg x] at ih
        rw [ilt_f (by omega) (by omega)]; exact ih
    · have e : i = n := by omega
      rw [ilt_f (by omega) (by omega), e]
theorem s_power_L {x n : Nat} {kk : Int64 → Option Int64} (hx : x < 2 ^ 31) (hn : n < 100) : ∀ f i, i ≤ n → n - i < f → fX5_powerOf_L5 (nI x) (nI n) kk f (lN (x ^ i)) (nI i) = kk (lN (x ^ n)) := by
  intro f
  induction f with
  | zero => intro i _ h; omega
  | succ f ih =>
    intro i hi hf
    rw [fX5_powerOf_L5]
    by_cases h : i < n
    · have ih := ih (i + 1) (by omega) (by omega)
      rw [Nat.pow_succ] at ih
      rw [ilt_t h (by omega), nI_l hx, lN_mul, nI_1]; exact ih
    · have e : i = n := by omega
      rw [ilt_f (by omega) (by omega), e]
theorem s_power {x n : Nat} (hx : x < 2 ^ 31) (hn : n < 100) : fX5_powerOf (nI x) (nI n) = some (lN (x ^ n)) := by
  unfold fX5_powerOf
  rw [zJe]
  exact s_power_L hx hn zK 0 (by omega) (by unfold zK; omega)
theorem p_odds {b : Nat} {c ni gl dr : Int32} {la gr se ki ha si on aw : Nat → Int32} {row : Nat → Int32} (Gn : GN b c ni gl dr la gr se ki ha si on aw row) (x1 x2 x3 : Int32) : okL (fX4_odds la x1 x2 x3) (fX5_odds row x1 x2 x3) := by
  obtain ⟨S, T, rfl⟩ := Gn
  have h3 : S 3 ≤ 99 := T.1.2.2.2.1
  unfold fX4_odds fX5_odds
  rcases rng x1 (show 0 ≤ 8 by omega) (by omega) with ⟨h, e⟩ | ⟨h1, h, e⟩ | ⟨n, h1, h2, rfl, h3', h4, e⟩
  · rw [if_pos (show x1 < 0 from h), e, zbs, if00]; exact okL_mk
  · rw [if_neg (show ¬ x1 < 0 from h1), if_pos h, e, zbs, if00]; exact okL_mk
  · rw [if_neg (show ¬ nI n < 0 from h3'), if_neg h4, e, zbs, if10]
    rcases rng x2 (show 0 ≤ n by omega) (by omega) with ⟨h, e⟩ | ⟨h1, h, e⟩ | ⟨k, h1, h5, rfl, h6, h7, e⟩
    · rw [if_pos (show x2 < 0 from h), e, zbs, if00]; exact okL_mk
    · rw [if_neg (show ¬ x2 < 0 from h1), if_pos h, e, zbs, if00]; exact okL_mk
    · rw [if_neg (show ¬ nI k < 0 from h6), if_neg h7, e, zbs, if10]
      rcases bel x3 (n := 2) (by omega) (by omega) with ⟨f1, f2⟩ | ⟨j, hj, rfl, f1, f2⟩
      · rw [f1, show fX5_in x3 (nI 0) (nI 1) = _ from f2, zbs, zbs, if00, if00]; exact okL_mk
      · have hw := ways_le n (by omega) k (by omega)
        have hp := prodN_le (k := k) h3 hw n
        have h100 := p100 n h2
        have hpos := Nat.pow_pos (n := n) (show 0 < 100 by omega)
        obtain ⟨p1, p2⟩ := part_same (a := prodN (waysN n k) (S 3) k n) (b := 100 ^ n) (j := j) (by omega) (by omega) hpos hj
        have ee : waysN n k * S 3 ^ k * (100 - S 3) ^ (n - k) = prodN (waysN n k) (S 3) k n := by
          rw [prodN_e, show min n k = k by omega]
        rw [f1, show fX5_in (nI j) (nI 0) (nI 1) = _ from f2, zbs, zbs, if10, if10, zJe, zJe]
        rw [show lN 1 = lN (waysN n 0) from rfl, c_ways h2 h5 zK 0 (by omega) (by unfold zK; omega), s_ways h2 h5 zK 0 (by omega) (by unfold zK; omega), zJe, show waysN n k = prodN (waysN n k) (S 3) k 0 from rfl, show lN (waysN n 0) = lN (100 ^ 0) from rfl, c_prod h2 h5 h3 hw (tr_la T (show 3 < 4 by omega)) zK 0 (by omega) (by unfold zK; omega), r3, s_power (by omega) (by omega), zbs, nI_sub (by omega), nI_sub (by omega), s_power (by omega) (by omega), zbs, s_power (by omega) (by omega), zbs, lN_mul, lN_mul, show prodN (waysN n k) (S 3) k 0 = waysN n k from rfl, ee, p1, p2, zbs]
        exact okL_mk
/-! feed -/
def sb (v : Nat) : Int32 := (nI v).toInt8.toInt32
def TapeR (tp : Int32) (tape : Nat → Int32) (tm : Int32) (rt : Nat → Int32) : Prop := ∃ m, m ≤ 200 ∧ tp = nI m ∧ tm = nI m ∧ ∀ k, k < m → ∃ v, v < 256 ∧ rt k = nI v ∧ tape k = sb v
theorem feed_bits (x : Int64) (s : Nat) (hs : s + 8 ≤ 64) : ∃ v, v < 256 ∧ (x.toBitVec.sshiftRight s &&& 255#64).signExtend 32 = (nI v).toBitVec ∧ ((x.toBitVec >>> s).signExtend 32).signExtend 8 = (nI v).toBitVec.signExtend 8 := by
  refine ⟨((x.toBitVec >>> s).setWidth 8).toNat, ((x.toBitVec >>> s).setWidth 8).isLt, ?_, ?_⟩
  · rw [BitVec.signExtend_eq_setWidth_of_le _ (by omega)]
    apply BitVec.eq_of_getLsbD_eq
    intro i hi
    simp only [nI, Int32.toBitVec_ofNat', BitVec.getLsbD_setWidth, BitVec.getLsbD_and, BitVec.getLsbD_sshiftRight, BitVec.getLsbD_ofNat, BitVec.toNat_setWidth, BitVec.toNat_ushiftRight, Nat.testBit_mod_two_pow, Nat.testBit_shiftRight]
    rw [show (255 : Nat) = 2 ^ 8 - 1 from rfl, Nat.testBit_two_pow_sub_one]
    by_cases h : i < 8
    · rw [if_pos (by omega)]
      simp [h, hi, BitVec.getLsbD]
      rw [show decide (64 ≤ i) = false by simp; omega, show decide (i < 64) = true by simp; omega]
      simp
    · simp [h]
  · rw [BitVec.signExtend_eq_setWidth_of_le _ (by omega), BitVec.signExtend_eq_setWidth_of_le _ (by omega), BitVec.signExtend_eq_setWidth_of_le _ (by omega)]
    apply BitVec.eq_of_getLsbD_eq
    intro i hi
    simp only [nI, Int32.toBitVec_ofNat', BitVec.getLsbD_setWidth, BitVec.getLsbD_ofNat, BitVec.toNat_setWidth, BitVec.toNat_ushiftRight, Nat.testBit_mod_two_pow, BitVec.getLsbD_ushiftRight, Nat.testBit_shiftRight]
    simp [hi, BitVec.getLsbD]
theorem shU : ∀ i, i < 8 → ((nI 8 * nI i).toInt64.toUInt64 &&& Int64.toUInt64 63) = UInt64.ofNat (8 * i) := by decide +kernel
theorem shI : ∀ i, i < 8 → ((nI 8 * nI i).toInt64 &&& 63) = lN (8 * i) := by decide +kernel
theorem shUn : ∀ i, i < 8 → ((UInt64.ofNat (8 * i)).toBitVec % 64).toNat = 8 * i := by decide +kernel
theorem shIn : ∀ i, i < 8 → ((lN (8 * i)).toBitVec.smod 64).toNat = 8 * i := by decide +kernel
theorem feed_b (x : Int64) (i : Nat) (hi : i < 8) : ∃ v, v < 256 ∧ ((x >>> ((nI 8 * nI i).toInt64 &&& 63)) &&& lN 255).toInt32 = nI v ∧ vp_nar .byte (((x.toUInt64 >>> ((nI 8 * nI i).toInt64.toUInt64 &&& Int64.toUInt64 63)).toInt64).toInt32).toInt8.toInt32 = sb v := by
  obtain ⟨v, hv, e1, e2⟩ := feed_bits x (8 * i) (by omega)
  refine ⟨v, hv, ?_, ?_⟩
  · apply Int32.toBitVec_inj.mp
    rw [shI i hi, Int64.toBitVec_toInt32, Int64.toBitVec_and, Int64.toBitVec_shiftRight, show x.toBitVec.sshiftRight' ((lN (8 * i)).toBitVec.smod 64) = x.toBitVec.sshiftRight (((lN (8 * i)).toBitVec.smod 64)).toNat from rfl, shIn i hi]
    exact e1
  · rw [pk_vb, shU i hi]
    unfold sb
    congr 1
    apply Int8.toBitVec_inj.mp
    rw [Int32.toBitVec_toInt8, Int32.toBitVec_toInt8, Int64.toBitVec_toInt32]
    rw [show ((x.toUInt64 >>> UInt64.ofNat (8 * i)).toInt64).toBitVec = x.toBitVec >>> ((UInt64.ofNat (8 * i)).toBitVec % 64) from rfl, BitVec.ushiftRight_eq', shUn i hi]
    exact e2
theorem c_feed_L {m n : Nat} {x : Int64} {k} (hm : m + n ≤ 200) (hn : n ≤ 8) : ∀ f i, i ≤ n → n - i < f → ∀ tape rt : Nat → Int32, (∀ j, j < m + i → ∃ v, v < 256 ∧ rt j = nI v ∧ tape j = sb v) → ∀ k5 : Int32 → (Nat → Int32) → Option (Int32 × Int32 × (Nat → Int32)), ∃ tape' rt', (∀ j, j < m + n → ∃ v, v < 256 ∧ rt' j = nI v ∧ tape' j = sb v) ∧ fX4_feed_L31 (nI m) x (nI n) k f (nI i) tape = k tape' ∧ fX5_feed_L30 x (nI n) k5 f (nI i) (nI (m + i)) rt = k5 (nI (m + n)) rt' := by
  intro f
  induction f with
  | zero => intro i _ h; omega
  | succ f ih =>
    intro i hi hf tape rt hr k5
    rw [fX4_feed_L31, fX5_feed_L30]
    by_cases h : i < n
    · obtain ⟨v, hv, e1, e2⟩ := feed_b x i (by omega)
      rw [ilt_t h (by omega), ilt_t h (by omega), nI_add, zg (by omega) (by omega), zg (by omega) (by omega), nI_clamp (by omega), e1, e2, nI_1, nI_add]
      refine ih (i + 1) (by omega) (by omega) _ _ (fun j hj => ?_) k5
      by_cases e : j = m + i
      · rw [e, pk_us, pk_us]; exact ⟨v, hv, rfl, rfl⟩
      · rw [pk_un e, pk_un e]; exact hr j (by omega)
    · have e : i = n := by omega
      rw [ilt_f (by omega) (by omega), ilt_f (by omega) (by omega)]
      subst e
      exact ⟨tape, rt, hr, rfl, rfl⟩
theorem p_feed {tp tm : Int32} {tape rt : Nat → Int32} (R : TapeR tp tape tm rt) (x : Int64) (x3 : Int32) : ∃ r s, fX4_feed tp tape x x3 = some r ∧ fX5_feed tm rt x x3 = some s ∧ r.1 = s.1 ∧ TapeR r.2.1 r.2.2 s.2.1 s.2.2 := by
  have R2 := R
  obtain ⟨m, hm, rfl, rfl, hr⟩ := R
  unfold fX4_feed fX5_feed
  rcases rng x3 (show 1 ≤ 8 by omega) (by omega) with ⟨h, e⟩ | ⟨h1, h, e⟩ | ⟨n, h1, h2, rfl, h3, h4, e⟩
  · rw [if_pos h, e, zbs, if00]; exact ⟨_, _, rfl, rfl, rfl, R2⟩
  · rw [if_neg h1, if_pos h, e, zbs, if00]; exact ⟨_, _, rfl, rfl, rfl, R2⟩
  · rw [if_neg h3, if_neg h4, e, zbs, if10, nI_sub (by omega), nI_add]
    by_cases y : 200 < m + n
    · rw [ilt_t (by omega) (by omega), ilt_t y (by omega)]; exact ⟨_, _, rfl, rfl, rfl, R2⟩
    · rw [ilt_f (by omega) (by omega), ilt_f (by omega) (by omega), zJe, zJe]
      obtain ⟨tape', rt', hr', e1, e2⟩ := c_feed_L (x := x) (k := fun (v_tape_3 : Nat → Int32) => (some (nI (m + n), nI (m + n), v_tape_3))) (show m + n ≤ 200 by omega) h2 zK 0 (by omega) (by unfold zK; omega) tape rt (fun j hj => hr j (by omega)) (fun (v_tapeMany_4 : Int32) (v_tape_5 : Nat → Int32) => (some (v_tapeMany_4, v_tapeMany_4, v_tape_5)))
      exact ⟨_, _, e1, e2, rfl, m + n, by omega, rfl, rfl, hr'⟩
