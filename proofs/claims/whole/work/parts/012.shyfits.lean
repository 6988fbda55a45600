/-! two-sided cases of a number -/
theorem bel (x : Int32) {n : Nat} (h0 : 0 < n) (hn : n < 2 ^ 31) : (fX4_isBelow x (nI n) = some (nI 0) ∧ fX5_in x (nI 0) (nI (n - 1)) = some (nI 0)) ∨ ∃ m, m < n ∧ x = nI m ∧ fX4_isBelow (nI m) (nI n) = some (nI 1) ∧ fX5_in (nI m) (nI 0) (nI (n - 1)) = some (nI 1) := by
  rcases rng x (lo := 0) (hi := n - 1) (by omega) (by omega) with ⟨h, e⟩ | ⟨h1, h, e⟩ | ⟨m, _, h2, rfl, h3, h4, e⟩
  · left
    refine ⟨?_, e⟩
    unfold fX4_isBelow
    exact if_pos h
  · left
    refine ⟨?_, e⟩
    have h3 : ¬ x < 0 := h1
    obtain ⟨m, hm, rfl⟩ := nI_of h3
    rw [nI_ltE (by omega) hm] at h
    rw [c_isBelow hm hn, if_neg (by omega)]
  · right
    exact ⟨m, by omega, rfl, by rw [c_isBelow (by omega) hn, if_pos (by omega)], e⟩
theorem s_isOne_lt {b m : Nat} {S : Nat → Nat} {z : Int32} (I : Inv b S) (hm : m < 2 ^ 31) : fX5_isOne (rowOf S z) (nI m) = some (nI (if m < S 6 then 1 else 0)) := by
  have h6 := inv_6 I
  unfold fX5_isOne fX5_in
  rw [r6, if_neg (show ¬ nI m < nI 0 from nI_pos hm)]
  by_cases h : m < S 6
  · rw [nI_sub (by omega), ilt_f (by omega) (by omega), zbs, if_pos (by decide), if_pos h]
  · rw [if_neg h]
    by_cases e : S 6 = 0
    · rw [e, if_pos, zbs, if_pos (by decide)]
      rw [show nI 0 - nI 1 = (-1 : Int32) by decide, Int32.lt_iff_toInt_lt, nI_toInt hm]
      have : (-1 : Int32).toInt = -1 := by decide
      omega
    · rw [nI_sub (by omega), ilt_t (by omega) (by omega), zbs, if_pos (by decide)]
theorem s_isOne_neg {S : Nat → Nat} {z x : Int32} (h : x < 0) : fX5_isOne (rowOf S z) x = some (nI 0) := by
  unfold fX5_isOne fX5_in
  rw [if_pos (show x < nI 0 from h), zbs, if_pos (by decide)]
theorem one {b : Nat} {S : Nat → Nat} {c ni gl : Int32} {la gr se ki ha si on aw : Nat → Int32} (T : TR b S c ni gl la gr se ki ha si on aw) (z x : Int32) : (fX4_isName c x = some (nI 0) ∧ fX5_isOne (rowOf S z) x = some (nI 0)) ∨ ∃ p, p < S 6 ∧ x = nI p ∧ fX4_isName c (nI p) = some (nI 1) ∧ fX5_isOne (rowOf S z) (nI p) = some (nI 1) := by
  have h6 := inv_6 T.1
  have hc := tr_c T
  by_cases h : x < 0
  · left
    refine ⟨?_, s_isOne_neg h⟩
    unfold fX4_isName fX4_isBelow
    rw [if_pos h, zbs, if_pos (by decide)]
  · obtain ⟨m, hm, rfl⟩ := nI_of h
    by_cases h2 : m < S 6
    · right
      refine ⟨m, h2, rfl, ?_, ?_⟩
      · unfold fX4_isName
        rw [hc, c_isBelow hm (by omega), if_pos h2, zbs, if_pos (by decide)]
      · rw [s_isOne_lt T.1 hm, if_pos h2]
    · left
      refine ⟨?_, ?_⟩
      · unfold fX4_isName
        rw [hc, c_isBelow hm (by omega), if_neg h2, zbs, if_pos (by decide)]
      · rw [s_isOne_lt T.1 hm, if_neg h2]
/-! shy -/
def shyZ (S : Nat → Nat) (z : Int32) : Nat → Int32
  | 0 => z
  | n + 1 => endZ S (shyZ S z n)
def shyCt (S : Nat → Nat) (us : Nat) (z : Int32) : Nat → Nat
  | 0 => 0
  | n + 1 => shyCt S us z n + (if looksAllN (stillN (frightN S (shyZ S z n))) < us then 1 else 0)
theorem c_shy_L {b : Nat} {S : Nat → Nat} {c ni gl dr : Int32} {la gr se ki ha si on aw : Nat → Int32} {m us : Nat} {z : Int32} {u : Int32 × Int32 × Int32 × Int32 × Int32 × (Nat → Int32) × (Nat → Int32) × (Nat → Int32) × (Nat → Int32) × (Nat → Int32)} {k} (hb : b < 900000) (hm : m < 100) (hus : us < 2 ^ 31) (hu : u.1 = nI us) (T : TR b S c ni gl la gr se ki ha si on aw) (hk : ∀ a1 a2 a3 a4 a5 a6 a7 a8 a9 a10 a11 a12 a13 a14 a15, okA (nI (shyCt S us z m)) (k (nI (shyCt S us z m)) a1 a2 a3 a4 a5 a6 a7 a8 a9 a10 a11 a12 a13 a14 a15)) : ∀ n i, i ≤ m → m - i < n → ∀ tc tn tg td tga tp tla tgr tse tki tha tsi ton taw twl, okA (nI (shyCt S us z m)) (fX4_shy_L47 c ni gl dr la gr se ki ha si on aw (nI m) u k n (shyZ S z i) (nI (shyCt S us z i)) (nI i) tc tn tg td tga tp tla tgr tse tki tha tsi ton taw twl) := by
  intro n
  induction n with
  | zero => intro i _ h; omega
  | succ n ih =>
    intro i hi hn tc tn tg td tga tp tla tgr tse tki tha tsi ton taw twl
    rw [fX4_shy_L47]
    by_cases h : i < m
    · have ih := ih (i + 1) (by omega) (by omega)
      rw [shyZ, shyCt] at ih
      have hl := looksAll_le (inv_still (inv_fright (z := shyZ S z i) T.1))
      obtain ⟨r, e, T2, d2, g2, p2⟩ := c_become (dr := dr) tc tn tg td tga tp tla tgr tse tki tha tsi ton taw twl T
      rw [ilt_t h (by omega), e, zbs, g2]
      obtain ⟨q, e, T3, q3, g3⟩ := c_nightD (dr := shyZ S z i) (gain := nI 0) (pt := r.2.2.2.2.2.1) (wl := twl) hb T2
      rw [e, zbs, q3, g3, hu, nI_add, Nat.zero_add, nI_1, nI_1]
      by_cases x : looksAllN (stillN (frightN S (shyZ S z i))) < us
      · rw [if_pos x] at ih
        rw [ilt_t x hus]
        exact ih _ _ _ _ _ _ _ _ _ _ _ _ _ _ _
      · rw [if_neg x] at ih
        rw [ilt_f (by omega) (by omega)]
        exact ih _ _ _ _ _ _ _ _ _ _ _ _ _ _ _
    · have e : i = m := by omega
      rw [ilt_f (by omega) (by omega), e]
      exact hk _ _ _ _ _ _ _ _ _ _ _ _ _ _ _
theorem s_shy_L {b m us : Nat} {S : Nat → Nat} {z z0 : Int32} {row : Nat → Int32} {u : Int32 × Int32 × (Nat → Int32) × (Nat → Int32)} {k} (hb : b < 900000) (hm : m < 100) (hus : us < 2 ^ 31) (hu : u.1 = nI us) (I : Inv b S) (hk : ∀ v g, okR (nI (shyCt S us z m)) row (k (nI (shyCt S us z m)) v (rowOf S z0) g)) : ∀ n i, i ≤ m → m - i < n → ∀ v g, okR (nI (shyCt S us z m)) row (fX5_shy_L43 (nI m) (rowOf S z0) u k n (shyZ S z i) (nI (shyCt S us z i)) (nI i) v (rowOf S z0) g) := by
  intro n
  induction n with
  | zero => intro i _ h; omega
  | succ n ih =>
    intro i hi hn v g
    rw [fX5_shy_L43]
    by_cases h : i < m
    · have ih := ih (i + 1) (by omega) (by omega)
      rw [shyZ, shyCt] at ih
      have If := inv_fright (z := shyZ S z i) I
      have hl := looksAll_le (inv_still If)
      rw [ilt_t h (by omega), rowOf_upd7]
      obtain ⟨g', e⟩ := s_nightD (z := shyZ S z i) (v := nI 0) (g := g) hb I
      rw [e, zbs, zJe]
      dsimp only
      rw [s_moveAll (t0_row I) (t0_row (inv_night If)), zbs, zbs, hu, nI_add, Nat.zero_add, nI_1, r7]
      by_cases x : looksAllN (stillN (frightN S (shyZ S z i))) < us
      · rw [if_pos x] at ih
        rw [ilt_t x hus, nI_add]
        exact ih _ _
      · rw [if_neg x] at ih
        rw [ilt_f (by omega) (by omega), nI_add]
        exact ih _ _
    · have e : i = m := by omega
      rw [ilt_f (by omega) (by omega), e]
      exact hk _ _
theorem p_shy {b : Nat} {S : Nat → Nat} {c ni gl dr : Int32} {la gr se ki ha si on aw : Nat → Int32} (tc tn tg td tga tp : Int32) (tla tgr tse tki tha tsi ton taw twl : Nat → Int32) {v : Int32} {t g : Nat → Int32} (hb : b < 900000) (T : TR b S c ni gl la gr se ki ha si on aw) (ht : T0 t) (x : Int32) : ∃ a, okA a (fX4_shy c ni gl dr la gr se ki ha si on aw tc tn tg td tga tp tla tgr tse tki tha tsi ton taw twl x) ∧ okR a (rowOf S dr) (fX5_shy v (rowOf S dr) t g x) := by
  have hs := seenN_le T.1 1
  unfold fX4_shy fX5_shy
  rcases rng x (show 1 ≤ 30 by omega) (by omega) with ⟨h, e⟩ | ⟨h1, h, e⟩ | ⟨m, h1, h2, rfl, h3, h4, e⟩
  · rw [if_pos h, e, zbs, if00]; exact ⟨-1, okA_mk, okR_mk ht⟩
  · rw [if_neg h1, if_pos h, e, zbs, if00]; exact ⟨-1, okA_mk, okR_mk ht⟩
  · rw [if_neg h3, if_neg h4, e, zbs, if10]
    obtain ⟨r, e, T2, d2, g2, p2⟩ := c_become (dr := dr) tc tn tg td tga tp tla tgr tse tki tha tsi ton taw twl T
    rw [e, zbs, g2]
    obtain ⟨q, e, a, T3⟩ := c_gained (m := 1) (gain := nI 0) (pt := r.2.2.2.2.2.1) (wl := twl) hb (by omega) T2
    rw [nI0_add] at a
    rw [e, zbs, s_moveAll (t0_row T.1) ht, zbs]
    obtain ⟨g', e⟩ := s_viewedBy (z := dr) (v := v) (f := rowOf S dr) (g := g) (m := 1) hb (by omega) T.1 (t0_row T.1)
    rw [e, zbs, zJe, zJe]
    refine ⟨nI (shyCt S (seenN S 1) dr m), ?_, ?_⟩
    · exact c_shy_L (z := dr) hb (show m < 100 by omega) (by omega) a T (fun a1 a2 a3 a4 a5 a6 a7 a8 a9 a10 a11 a12 a13 a14 a15 => okA_mk) zK 0 (by omega) (by unfold zK; omega) _ _ _ _ _ _ _ _ _ _ _ _ _ _ _
    · exact s_shy_L (z := dr) hb (show m < 100 by omega) (by omega) rfl T.1 (fun v g => okR_mk (t0_row T.1)) zK 0 (by omega) (by unfold zK; omega) _ _
/-! fits -/
def fitUp (S : Nat → Nat) (q : Nat → Int32) (p : Nat) : Nat → Bool
  | 0 => true
  | n + 1 => fitUp S q p n && (decide (q n = -1) || decide (q n = nI (nightsN S (n + 1) (31 + 5 * p))))
theorem fitUp_f {S : Nat → Nat} {q : Nat → Int32} {p i : Nat} (h : fitUp S q p i = false) : ∀ d, fitUp S q p (i + d) = false := by
  intro d
  induction d with
  | zero => exact h
  | succ d ih => rw [show i + (d + 1) = (i + d) + 1 by omega, fitUp, ih]; rfl
theorem c_fit_L {b p L : Nat} {S : Nat → Nat} {q : Nat → Int32} {x3 : Int32} {u : Int32 × Int32 × Int32 × Int32 × Int32 × Int32 × (Nat → Int32) × (Nat → Int32) × (Nat → Int32) × (Nat → Int32) × (Nat → Int32) × (Nat → Int32) × (Nat → Int32) × (Nat → Int32)} {k1 k2} (hb : b < 900000) (hp : p < S 6) (h6 : S 6 ≤ 8) (hL : L ≤ 40) (hk1 : ∀ a1 a2 a3 a4 a5 a6 a7 a8 a9, okA (nI 0) (k1 a1 a2 a3 a4 a5 a6 a7 a8 a9)) (hk2 : ∀ a1 a2 a3 a4 a5 a6 a7 a8 a9, okA (nI 1) (k2 a1 a2 a3 a4 a5 a6 a7 a8 a9)) : ∀ n i, i ≤ L → L - i < n → fitUp S q p i = true → ∀ ni gl ga pt gr si on aw wl, TR (b + i) (nightsN S i) u.1 ni gl u.2.2.2.2.2.2.1 gr u.2.2.2.2.2.2.2.2.1 u.2.2.2.2.2.2.2.2.2.1 (upd u.2.2.2.2.2.2.2.2.2.2.1 (nI p).toNatClampNeg x3) si on aw → okA (nI (if fitUp S q p L then 1 else 0)) (fX4_isFitting_S_L24 (nI L) q L (nI p) x3 u k1 k2 n (nI i) ni gl ga pt gr si on aw wl) := by
  intro n
  induction n with
  | zero => intro i _ h; omega
  | succ n ih =>
    intro i hi hn hf ni gl ga pt gr si on aw wl T
    rw [fX4_isFitting_S_L24]
    by_cases h : i < L
    · obtain ⟨r, e, T2, _, _⟩ := c_pass (gain := ga) (pt := pt) (wl := wl) (by omega) T
      rw [ilt_t h (by omega), e, zbs, zg (by omega) (by omega), nI_clamp (by omega), zg (by omega) (by omega), nI_clamp (show p < 2 ^ 31 by omega), nI_1]
      rw [nI_clamp (show p < 2 ^ 31 by omega)] at T2
      have hp' : p < nightN (nightsN S i) 6 := by rw [nightN_6, nightsN_6]; exact hp
      rw [tr_on T2 hp']
      have ih := ih (i + 1) (by omega) (by omega)
      by_cases x : q i = -1
      · rw [if_pos x]
        refine ih (by rw [fitUp, hf]; simp [x]) _ _ _ _ _ _ _ _ _ ?_
        rw [nI_clamp (show p < 2 ^ 31 by omega)]; exact T2
      · rw [if_neg x]
        by_cases y : q i = nI (nightN (nightsN S i) (31 + 5 * p))
        · rw [if_pos y]
          refine ih (by rw [fitUp, hf, show nightsN S (i + 1) = nightN (nightsN S i) from rfl]; simp [y]) _ _ _ _ _ _ _ _ _ ?_
          rw [nI_clamp (show p < 2 ^ 31 by omega)]; exact T2
        · rw [if_neg y]
          have z : fitUp S q p (i + 1) = false := by rw [fitUp, show nightsN S (i + 1) = nightN (nightsN S i) from rfl]; simp [x, y]
          have z2 := fitUp_f z (L - (i + 1))
          rw [show i + 1 + (L - (i + 1)) = L by omega] at z2
          rw [z2]
          exact hk1 _ _ _ _ _ _ _ _ _
    · have e : i = L := by omega
      rw [ilt_f (by omega) (by omega), ← e, hf]
      exact hk2 _ _ _ _ _ _ _ _ _
theorem c_fit {b : Nat} {S : Nat → Nat} {c ni gl dr : Int32} {la gr se ki ha si on aw : Nat → Int32} (tc tn tg td tga tp : Int32) (tla tgr tse tki tha tsi ton taw twl : Nat → Int32) {p L h : Nat} {q : Nat → Int32} (hb : b < 900000) (T : TR b S c ni gl la gr se ki ha si on aw) (hp : p < S 6) (hL : L ≤ 40) (hh : h ≤ 9) : okA (nI (if fitUp (updN S (29 + 5 * p) h) q p L then 1 else 0)) (fX4_isFitting_S c ni gl dr la gr se ki ha si on aw tc tn tg td tga tp tla tgr tse tki tha tsi ton taw twl (nI L) q L (nI p) (nI h)) := by
  have h6 := inv_6 T.1
  unfold fX4_isFitting_S
  obtain ⟨r, e, T2, d2, g2, p2⟩ := c_become (dr := dr) tc tn tg td tga tp tla tgr tse tki tha tsi ton taw twl T
  rw [e, zbs, zg (by omega) (by omega), zJe, zJe]
  have T3 := tr_uha (p := p) (v := h) T2 (by omega) hh
  refine c_fit_L (S := updN S (29 + 5 * p) h) hb (by rw [updN_n (by omega)]; exact hp) (by rw [updN_n (by omega)]; exact h6) hL (fun a1 a2 a3 a4 a5 a6 a7 a8 a9 => okA_mk) (fun a1 a2 a3 a4 a5 a6 a7 a8 a9 => okA_mk) zK 0 (by omega) (by unfold zK; omega) rfl _ _ _ _ _ _ _ _ _ ?_
  rw [nI_clamp (show p < 2 ^ 31 by omega)]; exact T3
def fitMany (B : Nat → Bool) : Nat → Nat
  | 0 => 0
  | n + 1 => fitMany B n + (if B (9 - n) then 1 else 0)
def fitLeast (B : Nat → Bool) : Nat → Int32
  | 0 => -3
  | n + 1 => if B (9 - n) then nI (9 - n) else fitLeast B n
def downI (k : Nat) : Int32 := if k = 10 then -1 else nI (9 - k)
theorem downI_s : ∀ k, k < 10 → downI k + (-1) = downI (k + 1) := by decide +kernel
theorem c_fits_L {b : Nat} {S : Nat → Nat} {c ni gl dr : Int32} {la gr se ki ha si on aw : Nat → Int32} {p L : Nat} {q : Nat → Int32} {a : Int32} {k} (hb : b < 900000) (T : TR b S c ni gl la gr se ki ha si on aw) (hp : p < S 6) (hL : L ≤ 40) (hk : ∀ a1 a2 a3 a4 a5 a6 a7 a8 a9 a10 a11 a12 a13 a14 a15, okA a (k (nI (fitMany (fun h => fitUp (updN S (29 + 5 * p) h) q p L) 10)) (fitLeast (fun h => fitUp (updN S (29 + 5 * p) h) q p L) 10) a1 a2 a3 a4 a5 a6 a7 a8 a9 a10 a11 a12 a13 a14 a15)) : ∀ n i, i ≤ 10 → 10 - i < n → ∀ tc tn tg td tga tp tla tgr tse tki tha tsi ton taw twl, okA a (fX4_fits_S_L53 c ni gl dr la gr se ki ha si on aw (nI L) q L (nI p) k n (nI (fitMany (fun h => fitUp (updN S (29 + 5 * p) h) q p L) i)) (fitLeast (fun h => fitUp (updN S (29 + 5 * p) h) q p L) i) (downI i) tc tn tg td tga tp tla tgr tse tki tha tsi ton taw twl) := by
  intro n
  induction n with
  | zero => intro i _ h; omega
  | succ n ih =>
    intro i hi hn tc tn tg td tga tp tla tgr tse tki tha tsi ton taw twl
    rw [fX4_fits_S_L53]
    by_cases h : i < 10
    · have ih := ih (i + 1) (by omega) (by omega)
      rw [fitMany, fitLeast, ← downI_s i h] at ih
      have e9 : downI i = nI (9 - i) := if_neg (by omega)
      rw [if_neg (show ¬ downI i < 0 by rw [e9]; exact nI_pos (by omega))]
      obtain ⟨r, e, a1⟩ := c_fit (dr := dr) (q := q) tc tn tg td tga tp tla tgr tse tki tha tsi ton taw twl hb T hp hL (show 9 - i ≤ 9 by omega)
      rw [e9] at ih ⊢
      rw [e, zbs, a1, nI_1]
      by_cases x : fitUp (updN S (29 + 5 * p) (9 - i)) q p L = true
      · rw [if_pos x] at ih ⊢
        rw [if_pos x] at ih
        rw [if10]
        exact ih _ _ _ _ _ _ _ _ _ _ _ _ _ _ _
      · rw [if_neg x] at ih ⊢
        rw [if_neg x] at ih
        rw [if00]
        exact ih _ _ _ _ _ _ _ _ _ _ _ _ _ _ _
    · have e : i = 10 := by omega
      subst e
      rw [if_pos (show downI 10 < 0 by decide)]
      exact hk _ _ _ _ _ _ _ _ _ _ _ _ _ _ _
theorem cmp0 (x y : Int64) : (lg_cmp x y = 0) = (x = y) := by
  unfold lg_cmp
  by_cases h : x = y
  · subst h
    rw [if_neg (Int64.lt_irrefl), if_pos rfl]; simp
  · by_cases g : x > y
    · rw [if_pos g]
      exact propext ⟨fun q => absurd q (by decide), fun q => absurd q h⟩
    · rw [if_neg g, if_neg h]
      exact propext ⟨fun q => absurd q (by decide), fun q => absurd q h⟩
theorem cmpI (x y : Int32) : (lg_cmp x.toInt64 y.toInt64 = 0) = (x = y) := by
  rw [cmp0]
  exact propext ⟨fun q => by
    have := congrArg Int64.toInt q
    rw [Int32.toInt_toInt64, Int32.toInt_toInt64] at this
    exact Int32.toInt_inj.mp this, fun q => by rw [q]⟩
theorem cmpM (x : Int32) : (lg_cmp x.toInt64 (-1 : Int64) = 0) = (x = -1) := by
  rw [show (-1 : Int64) = (-1 : Int32).toInt64 by decide, cmpI]
theorem s_so_L {b p L s : Nat} {S : Nat → Nat} {z : Int32} {q : Nat → Int32} {sz : Nat → Int32} {sh : Nat → Int64} {k : Int32 → Int32 → (Nat → Int32) → (Nat → Int32) → Option (Int32 × Int32 × (Nat → Int32) × (Nat → Int32))} {row : Nat → Int32} (hb : b < 900000) (I : Inv b S) (hp : p < S 6) (hs : s < 4) (hL : L ≤ 40) (hz : sz s = nI L) (hq : ∀ j, j < L → sh (40 * s + j) = (q j).toInt64) (hk : ∀ v R g, T0 R → ∃ v' g', k (nI (if fitUp S q p L then 1 else 0)) v R g = some (nI (if fitUp S q p L then 1 else 0), v', row, g')) : ∀ n i, i ≤ L → L - i < n → ∀ v g, ∃ v' g', fX5_isSo_L5 sz sh (nI s) (nI p) k n (nI (if fitUp S q p i then 1 else 0)) (nI i) v (rowOf (nightsN S i) z) g = some (nI (if fitUp S q p L then 1 else 0), v', row, g') := by
  have h6 := inv_6 I
  intro n
  induction n with
  | zero => intro i _ h; omega
  | succ n ih =>
    intro i hi hn v g
    rw [fX5_isSo_L5, zg (by omega) (by omega), nI_clamp (by omega), hz]
    by_cases h : i < L
    · have ih := ih (i + 1) (by omega) (by omega)
      rw [ilt_t h (by omega)]
      by_cases f : fitUp S q p i = true
      · rw [if_pos f, if10]
        obtain ⟨g', e⟩ := s_nightGoes (z := z) (v := v) (g := g) (by omega) (inv_nights I i)
        have In := inv_on (inv_night (inv_nights I i)) p (by omega)
        rw [e, zbs, nI_mul, nI_add, nI_1]
        simp only [zg (show 40 * s + i < 160 by omega) (show 160 < 2 ^ 31 by omega), nI_clamp (show 40 * s + i < 2 ^ 31 by omega), zgc (show 40 * s + i < 160 by omega) (show 40 * s + i < 2 ^ 31 by omega), hq i h, s_its3 (show p < 8 by omega), zbs, cmpI, cmpM]
        by_cases x : q i = -1
        · rw [if_pos x]
          rw [show fitUp S q p (i + 1) = true by rw [fitUp, f]; simp [x], if_pos rfl] at ih
          exact ih _ _
        · rw [if_neg x]
          by_cases y : q i = nI (nightN (nightsN S i) (31 + 5 * p))
          · rw [if_pos y]
            rw [show fitUp S q p (i + 1) = true by rw [fitUp, f, show nightsN S (i + 1) = nightN (nightsN S i) from rfl]; simp [y], if_pos rfl] at ih
            exact ih _ _
          · rw [if_neg y]
            rw [show fitUp S q p (i + 1) = false by rw [fitUp, show nightsN S (i + 1) = nightN (nightsN S i) from rfl]; simp [x, y], if_neg (by decide)] at ih
            exact ih _ _
      · rw [if_neg f, if00]
        have z2 := fitUp_f (Bool.eq_false_iff.mpr f) (L - i)
        rw [show i + (L - i) = L by omega] at z2
        have hk := hk v (rowOf (nightsN S i) z) g (t0_row (inv_nights I i))
        rw [z2, if_neg (by decide)] at hk ⊢
        exact hk
    · have e : i = L := by omega
      rw [ilt_f (by omega) (by omega), e]
      exact hk _ _ _ (t0_row (inv_nights I L))
theorem s_so {b p L s : Nat} {S : Nat → Nat} {z v : Int32} {q f g : Nat → Int32} {sz : Nat → Int32} {sh : Nat → Int64} (hb : b < 900000) (I : Inv b S) (hp : p < S 6) (hs : s < 4) (hL : L ≤ 40) (hz : sz s = nI L) (hq : ∀ j, j < L → sh (40 * s + j) = (q j).toInt64) (hf : T0 f) : ∃ v' g', fX5_isSo v (rowOf S z) f g sz sh (nI s) (nI p) = some (nI (if fitUp S q p L then 1 else 0), v', f, g') := by
  unfold fX5_isSo
  rw [zJe]
  refine s_so_L hb I hp hs hL hz hq (fun v R g hR => ⟨v, g, ?_⟩) zK 0 (by omega) (by unfold zK; omega) v g
  rw [s_moveAll hf hR, zbs]
  by_cases y : fitUp S q p L = true
  · rw [if_pos y, if_pos (by decide)]
  · rw [if_neg y, if_pos (by decide)]
theorem s_fits_L {b p L s : Nat} {S : Nat → Nat} {z a : Int32} {q : Nat → Int32} {row : Nat → Int32} {sz : Nat → Int32} {sh : Nat → Int64} {k} (hb : b < 900000) (I : Inv b S) (hp : p < S 6) (hs : s < 4) (hL : L ≤ 40) (hz : sz s = nI L) (hq : ∀ j, j < L → sh (40 * s + j) = (q j).toInt64) (hk : ∀ v g, okR a row (k (nI (fitMany (fun h => fitUp (updN S (29 + 5 * p) h) q p L) 10)) (fitLeast (fun h => fitUp (updN S (29 + 5 * p) h) q p L) 10) v (rowOf S z) g)) : ∀ n i, i ≤ 10 → 10 - i < n → ∀ v g, okR a row (fX5_fits_L60 sz sh (nI s) (nI p) (rowOf S z) k n (nI (fitMany (fun h => fitUp (updN S (29 + 5 * p) h) q p L) i)) (fitLeast (fun h => fitUp (updN S (29 + 5 * p) h) q p L) i) (downI i) v (rowOf S z) g) := by
  have h6 := inv_6 I
  intro n
  induction n with
  | zero => intro i _ h; omega
  | succ n ih =>
    intro i hi hn v g
    rw [fX5_fits_L60]
    by_cases h : i < 10
    · have ih := ih (i + 1) (by omega) (by omega)
      rw [fitMany, fitLeast, ← downI_s i h] at ih
      have e9 : downI i = nI (9 - i) := if_neg (by omega)
      rw [if_neg (show ¬ downI i < 0 by rw [e9]; exact nI_pos (by omega))]
      rw [e9] at ih ⊢
      rw [s_sets1 (by omega), zbs]
      have Iu : Inv b (updN S (29 + 5 * p) (9 - i)) := inv_upd I (by rw [bnd_h (by omega)]; omega)
      obtain ⟨v', g', e⟩ := s_so (z := z) (v := v) (g := g) (q := q) hb Iu (show p < updN S (29 + 5 * p) (9 - i) 6 by rw [updN_n (by omega)]; exact hp) hs hL hz hq (t0_row I)
      rw [e, zbs, zJe]
      dsimp only
      by_cases x : fitUp (updN S (29 + 5 * p) (9 - i)) q p L = true
      · rw [if_pos x, if_pos x] at ih
        rw [if_pos x, if10, if10, nI_add]
        exact ih _ _
      · rw [if_neg x, if_neg x] at ih
        rw [if_neg x, if00, if00, nI_add]
        exact ih _ _
    · have e : i = 10 := by omega
      subst e
      rw [if_pos (show downI 10 < 0 by decide)]
      exact hk _ _
