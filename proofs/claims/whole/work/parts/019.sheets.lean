/-! sheets and shelves; an item: its address, sort, length, its row's address, its values -/
abbrev zIt : Type := Nat × Nat × Nat × Nat × (Nat → Int32)
def ItR (s : Nat) (it : zIt) (sheets : Nat → Option Nat) (so sz : Nat → Int32) (rsh : Nat → Int64) : Prop := sheets s = some it.1 ∧ it.2.1 ≤ 3 ∧ it.2.2.1 ≤ 40 ∧ so s = nI it.2.1 ∧ sz s = nI it.2.2.1 ∧ ∀ j, j < it.2.2.1 → rsh (40 * s + j) = (it.2.2.2.2 j).toInt64
def ShR (its : List zIt) (sheets : Nat → Option Nat) (so sz : Nat → Int32) (rsh : Nat → Int64) : Prop := (∀ s, s < 4 → (sheets s = none ∧ so s = -1) ∨ ∃ it, it ∈ its ∧ ItR s it sheets so sz rsh) ∧ (∀ s s' a, s < 4 → s' < 4 → sheets s = some a → sheets s' = some a → s = s')
def SvAt (its : List zIt) (hold name : Int32) (row : Option Nat) (rhold rnum rsize : Int32) : Prop := ((hold = nI 0 ∧ rhold = -1) ∨ (hold = nI 1 ∧ rhold = nI 0 ∧ name = rnum) ∨ (hold = nI 2 ∧ rhold = nI 1 ∧ ∃ it, it ∈ its ∧ row = some it.1 ∧ it.2.1 ≤ 3 ∧ it.2.2.1 ≤ 40 ∧ rnum = nI it.2.1 ∧ rsize = nI it.2.2.1)) ∧ (row = none ∨ ∃ it, it ∈ its ∧ row = some it.1)
def SvR (its : List zIt) (holds names : Nat → Int32) (rows : Nat → Option Nat) (rholds rnum rsize : Nat → Int32) : Prop := ∀ k, k < 4 → SvAt its (holds k) (names k) (rows k) (rholds k) (rnum k) (rsize k)
/-- a call on a sheet: one that holds an item, or none -/
def NoIt (x : Int32) (sheets : Nat → Option Nat) (so : Nat → Int32) : Prop := ∀ s, s < 4 → x = nI s → sheets s = none ∧ so s = -1
theorem sh_cases {its : List zIt} {sheets : Nat → Option Nat} {so sz : Nat → Int32} {rsh : Nat → Int64} (h : ShR its sheets so sz rsh) (x : Int32) : NoIt x sheets so ∨ ∃ s it, s < 4 ∧ x = nI s ∧ it ∈ its ∧ ItR s it sheets so sz rsh := by
  by_cases y : ∃ s, s < 4 ∧ x = nI s ∧ ∃ it, it ∈ its ∧ ItR s it sheets so sz rsh
  · obtain ⟨s, h1, h2, it, h3, h4⟩ := y
    exact Or.inr ⟨s, it, h1, h2, h3, h4⟩
  · left
    intro s hs hx
    rcases h.1 s hs with g | ⟨it, g1, g2⟩
    · exact g
    · exact absurd ⟨s, hs, hx, it, g1, g2⟩ y
theorem s_isShelf (x : Int32) : (fX4_isBelow x (nI 4) = some (nI 0) ∧ fX5_isShelf x = some (nI 0)) ∨ ∃ s, s < 4 ∧ x = nI s ∧ fX4_isBelow (nI s) (nI 4) = some (nI 1) ∧ fX5_isShelf (nI s) = some (nI 1) := by
  unfold fX5_isShelf
  rcases bel x (n := 4) (by omega) (by omega) with ⟨e1, e2⟩ | ⟨w, hw, rfl, e1, e2⟩
  · left
    refine ⟨e1, ?_⟩
    rw [show fX5_in x (nI 0) (nI 3) = _ from e2, zbs, if_pos (by decide)]
  · right
    refine ⟨w, hw, rfl, e1, ?_⟩
    rw [show fX5_in (nI w) (nI 0) (nI 3) = _ from e2, zbs, if_pos (by decide)]
theorem s_isShelf_at {s : Nat} (hs : s < 4) : fX4_isBelow (nI s) (nI 4) = some (nI 1) ∧ fX5_isShelf (nI s) = some (nI 1) := by
  rcases s_isShelf (nI s) with ⟨e1, _⟩ | ⟨t, ht, e, e1, e2⟩
  · rw [c_isBelow (by omega) (by omega), if_pos hs] at e1
    exact absurd (Option.some.inj e1) (by decide)
  · rw [e]; exact ⟨e1, e2⟩
theorem l32 (x : Int32) : x.toInt64.toInt32 = x := by simp
theorem m1_neg : (-1 : Int32) < 0 := by decide
theorem p_item_N {sheets : Nat → Option Nat} {so sz : Nat → Int32} {rsh : Nat → Int64} {x1 : Int32} (h : NoIt x1 sheets so) (x2 x3 : Int32) : okQ (fX4_item_N sheets x1 x2 x3) (fX5_item so sz rsh x1 x2 x3) := by
  unfold fX4_item_N fX5_item fX5_lacksSort
  rcases s_isShelf x1 with ⟨e1, e2⟩ | ⟨s, hs, rfl, e1, e2⟩
  · rw [e1, e2, zbs, zbs, if00, if00]; exact okQ_mk
  · obtain ⟨g1, g2⟩ := h s hs rfl
    rw [e1, e2, zbs, zbs, if10, if10]
    rcases bel x2 (n := 4) (by omega) (by omega) with ⟨f1, f2⟩ | ⟨w, hw, rfl, f1, f2⟩
    · rw [f1, show fX5_in x2 (nI 0) (nI 3) = _ from f2, zbs, zbs, if00, if00]; exact okQ_mk
    · rw [f1, show fX5_in (nI w) (nI 0) (nI 3) = _ from f2, zbs, zbs, if10, if10]
      simp only [zg hs (show 4 < 2 ^ 31 by omega), zgc hs (show s < 2 ^ 31 by omega), nI_clamp (show s < 2 ^ 31 by omega), g1, g2]
      unfold zoN
      rw [if_pos m1_neg, zbs, if_neg (by decide)]; exact okQ_mk
theorem p_item_S {sheets : Nat → Option Nat} {so sz : Nat → Int32} {rsh : Nat → Int64} {s : Nat} {it : zIt} (hs : s < 4) (h : ItR s it sheets so sz rsh) (x2 x3 : Int32) : okQ (fX4_item_S sheets (nI it.2.1) (nI it.2.2.1) it.2.2.2.2 it.1 it.2.2.1 (nI s) x2 x3) (fX5_item so sz rsh (nI s) x2 x3) := by
  obtain ⟨h1, h2, h3, h4, h5, h6⟩ := h
  obtain ⟨e1, e2⟩ := s_isShelf_at hs
  unfold fX4_item_S fX5_item fX5_lacksSort
  rw [e1, e2, zbs, zbs, if10, if10]
  rcases bel x2 (n := 4) (by omega) (by omega) with ⟨f1, f2⟩ | ⟨w, hw, rfl, f1, f2⟩
  · rw [f1, show fX5_in x2 (nI 0) (nI 3) = _ from f2, zbs, zbs, if00, if00]; exact okQ_mk
  · rw [f1, show fX5_in (nI w) (nI 0) (nI 3) = _ from f2, zbs, zbs, if10, if10]
    simp only [zg hs (show 4 < 2 ^ 31 by omega), zgc hs (show s < 2 ^ 31 by omega), nI_clamp (show s < 2 ^ 31 by omega), h1, h4, h5]
    unfold zoS
    dsimp only
    rw [if_pos rfl, if_neg (nI_pos (by omega))]
    by_cases x : it.2.1 = w
    · rw [ieq_t x, ieq_t x, zbs, if00]
      rcases bel0 x3 (n := it.2.2.1) (by omega) with ⟨f1, f2⟩ | ⟨j, hj, rfl, f1, f2⟩
      · rw [f1, f2, zbs, zbs, if00, if00]; exact okQ_mk
      · rw [f1, f2, zbs, zbs, if10, if10, zg hj (by omega), nI_clamp (by omega), nI_mul, nI_add, zg (by omega) (by omega), nI_clamp (by omega), h6 j hj, l32]; exact okQ_mk
    · rw [ieq_f x (by omega) (by omega), ieq_f x (by omega) (by omega), zbs, if_neg (by decide)]; exact okQ_mk
theorem p_put_N {sheets : Nat → Option Nat} {so sz : Nat → Int32} {rsh : Nat → Int64} {x1 : Int32} (h : NoIt x1 sheets so) (x2 x3 : Int32) : ∃ a, fX4_put_N sheets x1 x2 x3 = some a ∧ fX5_put so sz rsh x1 x2 x3 = some (a, rsh) := by
  unfold fX4_put_N fX5_put
  rcases s_isShelf x1 with ⟨e1, e2⟩ | ⟨s, hs, rfl, e1, e2⟩
  · rw [e1, e2, zbs, zbs, if00, if00]; exact ⟨_, rfl, rfl⟩
  · obtain ⟨g1, g2⟩ := h s hs rfl
    rw [e1, e2, zbs, zbs, if10, if10]
    simp only [zg hs (show 4 < 2 ^ 31 by omega), zgc hs (show s < 2 ^ 31 by omega), nI_clamp (show s < 2 ^ 31 by omega), g1, g2]
    unfold zoN
    rw [if_pos m1_neg]; exact ⟨_, rfl, rfl⟩
theorem p_put_S {sheets : Nat → Option Nat} {so sz : Nat → Int32} {rsh : Nat → Int64} {s : Nat} {it : zIt} (hs : s < 4) (h : ItR s it sheets so sz rsh) (x2 x3 : Int32) : ∃ r t, fX4_put_S sheets (nI it.2.1) (nI it.2.2.1) it.2.2.2.2 it.1 it.2.2.1 (nI s) x2 x3 = some r ∧ fX5_put so sz rsh (nI s) x2 x3 = some t ∧ r.1 = t.1 ∧ (∀ j, j < it.2.2.1 → t.2 (40 * s + j) = (r.2 j).toInt64) ∧ ∀ k, k < 40 * s ∨ 40 * s + 40 ≤ k → t.2 k = rsh k := by
  obtain ⟨h1, h2, h3, h4, h5, h6⟩ := h
  obtain ⟨e1, e2⟩ := s_isShelf_at hs
  unfold fX4_put_S fX5_put fX4_narrowed
  rw [e1, e2, zbs, zbs, if10, if10]
  simp only [zg hs (show 4 < 2 ^ 31 by omega), zgc hs (show s < 2 ^ 31 by omega), nI_clamp (show s < 2 ^ 31 by omega), h1, h4, h5]
  unfold zoS
  dsimp only
  rw [if_pos rfl, if_neg (nI_pos (by omega))]
  rcases bel0 x2 (n := it.2.2.1) (by omega) with ⟨f1, f2⟩ | ⟨j, hj, rfl, f1, f2⟩
  · rw [f1, f2, zbs, zbs, if00, if00]; exact ⟨_, _, rfl, rfl, rfl, h6, fun k _ => rfl⟩
  · rw [f1, f2, zbs, zbs, if10, if10, nI_mul, nI_add]
    simp only [zg hj (show it.2.2.1 < 2 ^ 31 by omega), zg (show 40 * s + j < 160 by omega) (show 160 < 2 ^ 31 by omega), nI_clamp (show 40 * s + j < 2 ^ 31 by omega), nI_clamp (show j < 2 ^ 31 by omega), zgc hj (show j < 2 ^ 31 by omega), zgc (show 40 * s + j < 160 by omega) (show 40 * s + j < 2 ^ 31 by omega)]
    have fin : ∀ v : Int32, (∀ i, i < it.2.2.1 → vp_updL rsh (40 * s + j) v.toInt64 (40 * s + i) = (upd it.2.2.2.2 j v i).toInt64) ∧ ∀ k, k < 40 * s ∨ 40 * s + 40 ≤ k → vp_updL rsh (40 * s + j) v.toInt64 k = rsh k := by
      intro v
      refine ⟨fun i hi => ?_, fun k hk => pk_uLn (by omega)⟩
      by_cases e : i = j
      · rw [e, pk_uLs, pk_us]
      · rw [pk_uLn (by omega), pk_un e, h6 i hi]
    by_cases x0 : it.2.1 = 0
    · rw [ie0_t x0, ie0_t x0, zbs]
      exact ⟨_, _, rfl, rfl, rfl, fin _⟩
    · rw [ie0_f x0 (by omega), ie0_f x0 (by omega)]
      by_cases x1 : it.2.1 = 1
      · rw [ieq_t x1, ieq_t x1, zbs]
        exact ⟨_, _, rfl, rfl, rfl, fin _⟩
      · rw [ieq_f x1 (by omega) (by omega), ieq_f x1 (by omega) (by omega), zbs]
        exact ⟨_, _, rfl, rfl, rfl, fin _⟩
theorem p_minds_N {b : Nat} {c ni gl dr : Int32} {la gr se ki ha si on aw : Nat → Int32} {row : Nat → Int32} {sheets : Nat → Option Nat} {so sz : Nat → Int32} {rsh : Nat → Int64} {x1 : Int32} (Gn : GN b c ni gl dr la gr se ki ha si on aw row) (h : NoIt x1 sheets so) (x2 x3 x4 : Int32) : ∃ r t, fX4_minds_N c si sheets x1 x2 x3 x4 = some r ∧ fX5_minds row so sz rsh x1 x2 x3 x4 = some t ∧ r.1 = t.1 ∧ r.2 = si ∧ t.2 = row := by
  obtain ⟨S, T, rfl⟩ := Gn
  have h6 := inv_6 T.1
  unfold fX4_minds_N fX5_minds fX5_lacksSort
  rcases s_isShelf x1 with ⟨e1, e2⟩ | ⟨s, hs, rfl, e1, e2⟩
  · rw [e1, e2, zbs, zbs, if00, if00]; exact ⟨_, _, rfl, rfl, rfl, rfl, rfl⟩
  · obtain ⟨g1, g2⟩ := h s hs rfl
    rw [e1, e2, zbs, zbs, if10, if10]
    rcases one T dr x3 with ⟨f1, f2⟩ | ⟨p, hp, rfl, f1, f2⟩
    · rw [f1, f2, zbs, zbs, if00, if00]; exact ⟨_, _, rfl, rfl, rfl, rfl, rfl⟩
    · rw [f1, f2, zbs, zbs, if10, if10]
      rcases rng x4 (show 0 ≤ 8 by omega) (by omega) with ⟨h, e⟩ | ⟨h1, h, e⟩ | ⟨n, h1, h2, rfl, h3, h4, e⟩
      · rw [if_pos (show x4 < 0 from h), e, zbs, if00]; exact ⟨_, _, rfl, rfl, rfl, rfl, rfl⟩
      · rw [if_neg (show ¬ x4 < 0 from h1), if_pos h, e, zbs, if00]; exact ⟨_, _, rfl, rfl, rfl, rfl, rfl⟩
      · have ec : c - nI p = nI (S 6 - p) := by rw [tr_c T, nI_sub (by omega)]
        rw [if_neg (show ¬ nI n < 0 from h3), if_neg h4, e, zbs, if10, ec, r6, nI_sub (by omega)]
        by_cases y : S 6 - p < n
        · rw [ilt_t y (by omega), ilt_t y (by omega)]; exact ⟨_, _, rfl, rfl, rfl, rfl, rfl⟩
        · rw [ilt_f (by omega) (by omega), ilt_f (by omega) (by omega)]
          simp only [zg hs (show 4 < 2 ^ 31 by omega), zgc hs (show s < 2 ^ 31 by omega), nI_clamp (show s < 2 ^ 31 by omega), g1, g2]
          unfold zoN
          rw [if_pos m1_neg, zbs, if_neg (by decide)]; exact ⟨_, _, rfl, rfl, rfl, rfl, rfl⟩
def mindUp (S : Nat → Nat) (q : Nat → Int32) (i p : Nat) : Nat → (Nat → Nat)
  | 0 => S
  | k + 1 => updN (mindUp S q i p k) (30 + 5 * (p + k)) (clampN (q (i + k)))
theorem c_mind_L {b : Nat} {S : Nat → Nat} {c ni gl : Int32} {la gr se ki ha on aw : Nat → Int32} {q : Nat → Int32} {L i p n : Nat} {k} (hin : i + n ≤ L) (hL : L ≤ 40) (hp : p + n ≤ 8) : ∀ f j, j ≤ n → n - j < f → ∀ si, TR b (mindUp S q i p j) c ni gl la gr se ki ha si on aw → ∃ si', TR b (mindUp S q i p n) c ni gl la gr se ki ha si' on aw ∧ fX4_minds_S_L102 q L (nI i) (nI p) (nI n) k f (nI j) si = k si' := by
  intro f
  induction f with
  | zero => intro j _ h; omega
  | succ f ih =>
    intro j hj hf si T
    rw [fX4_minds_S_L102]
    by_cases h : j < n
    · have ih := ih (j + 1) (by omega) (by omega)
      rw [mindUp] at ih
      rw [ilt_t h (by omega), nI_add, nI_add, zg (show i + j < L by omega) (by omega), nI_clamp (show i + j < 2 ^ 31 by omega), c_heldSize, zbs, zg (show p + j < 8 by omega) (by omega), nI_clamp (show p + j < 2 ^ 31 by omega), nI_1]
      exact ih _ (tr_usi T (by omega) (clampN_le _))
    · have e : j = n := by omega
      rw [ilt_f (by omega) (by omega)]
      subst e
      exact ⟨si, T, rfl⟩
theorem s_mind_L {b s : Nat} {S : Nat → Nat} {z : Int32} {q : Nat → Int32} {rsh : Nat → Int64} {L i p n : Nat} {k} (hs : s < 4) (hin : i + n ≤ L) (hL : L ≤ 40) (hp : p + n ≤ 8) (hq : ∀ j, j < L → rsh (40 * s + j) = (q j).toInt64) : ∀ f j, j ≤ n → n - j < f → fX5_minds_L81 rsh (nI s) (nI i) (nI p) (nI n) k f (nI j) (rowOf (mindUp S q i p j) z) = k (rowOf (mindUp S q i p n) z) := by
  intro f
  induction f with
  | zero => intro j _ h; omega
  | succ f ih =>
    intro j hj hf
    rw [fX5_minds_L81]
    by_cases h : j < n
    · have ih := ih (j + 1) (by omega) (by omega)
      rw [mindUp] at ih
      rw [ilt_t h (by omega), nI_mul, nI_add, nI_add, nI_add, zg (by omega) (by omega), nI_clamp (by omega), show 40 * s + i + j = 40 * s + (i + j) by omega, hq _ (by omega), l32, s_held99, zbs, s_sets2 (by omega), zbs, nI_1]
      exact ih
    · have e : j = n := by omega
      rw [ilt_f (by omega) (by omega), e]
theorem p_minds_S {b : Nat} {c ni gl dr : Int32} {la gr se ki ha si on aw : Nat → Int32} {row : Nat → Int32} {sheets : Nat → Option Nat} {so sz : Nat → Int32} {rsh : Nat → Int64} {s : Nat} {it : zIt} (Gn : GN b c ni gl dr la gr se ki ha si on aw row) (hs : s < 4) (h : ItR s it sheets so sz rsh) (x2 x3 x4 : Int32) : ∃ r t, fX4_minds_S c si sheets (nI it.2.1) (nI it.2.2.1) it.2.2.2.2 it.1 it.2.2.1 (nI s) x2 x3 x4 = some r ∧ fX5_minds row so sz rsh (nI s) x2 x3 x4 = some t ∧ r.1 = t.1 ∧ GN b c ni gl dr la gr se ki ha r.2 on aw t.2 := by
  have Gn2 := Gn
  obtain ⟨S, T, rfl⟩ := Gn
  have h6' := inv_6 T.1
  obtain ⟨h1, h2, h3, h4, h5, h6⟩ := h
  obtain ⟨e1, e2⟩ := s_isShelf_at hs
  unfold fX4_minds_S fX5_minds fX5_lacksSort
  rw [e1, e2, zbs, zbs, if10, if10]
  rcases one T dr x3 with ⟨f1, f2⟩ | ⟨p, hp, rfl, f1, f2⟩
  · rw [f1, f2, zbs, zbs, if00, if00]; exact ⟨_, _, rfl, rfl, rfl, Gn2⟩
  · rw [f1, f2, zbs, zbs, if10, if10]
    rcases rng x4 (show 0 ≤ 8 by omega) (by omega) with ⟨h, e⟩ | ⟨h1, h, e⟩ | ⟨n, g1, g2, rfl, g3, g4, e⟩
    · rw [if_pos (show x4 < 0 from h), e, zbs, if00]; exact ⟨_, _, rfl, rfl, rfl, Gn2⟩
    · rw [if_neg (show ¬ x4 < 0 from h1), if_pos h, e, zbs, if00]; exact ⟨_, _, rfl, rfl, rfl, Gn2⟩
    · have ec : c - nI p = nI (S 6 - p) := by rw [tr_c T, nI_sub (by omega)]
      rw [if_neg (show ¬ nI n < 0 from g3), if_neg g4, e, zbs, if10, ec, r6, nI_sub (by omega)]
      by_cases y : S 6 - p < n
      · rw [ilt_t y (by omega), ilt_t y (by omega)]; exact ⟨_, _, rfl, rfl, rfl, Gn2⟩
      · rw [ilt_f (by omega) (by omega), ilt_f (by omega) (by omega)]
        simp only [zg hs (show 4 < 2 ^ 31 by omega), zgc hs (show s < 2 ^ 31 by omega), nI_clamp (show s < 2 ^ 31 by omega), h1, h4, h5]
        unfold zoS
        dsimp only
        rw [if_pos rfl, if_neg (nI_pos (by omega))]
        by_cases x0 : it.2.1 = 0
        · rw [ie0_t x0, ieq_t x0, zbs, if00]
          by_cases xn : x2 < 0
          · rw [if_pos xn, if_pos xn]; exact ⟨_, _, rfl, rfl, rfl, Gn2⟩
          · rw [if_neg xn, if_neg xn]
            obtain ⟨i, hi, rfl⟩ := nI_of xn
            by_cases z : it.2.2.1 < i + n
            · have e1 : (nI it.2.2.1 - nI n < nI i) := by
                by_cases zz : n ≤ it.2.2.1
                · rw [nI_sub zz]; exact nI_lt (by omega) hi
                · have := pk_sneg (a := it.2.2.1) (b := n) (by omega) (by omega)
                  rw [Int32.lt_iff_toInt_lt] at this ⊢
                  rw [nI_toInt hi]
                  rw [Int32.toInt_zero] at this
                  omega
              rw [if_pos e1]
              by_cases w : it.2.2.1 < i
              · rw [ilt_t w hi]; exact ⟨_, _, rfl, rfl, rfl, Gn2⟩
              · rw [ilt_f (by omega) (by omega), nI_sub (by omega), ilt_t (by omega) (by omega)]; exact ⟨_, _, rfl, rfl, rfl, Gn2⟩
            · rw [nI_sub (by omega), ilt_f (by omega) (by omega), ilt_f (by omega) (by omega), nI_sub (by omega), ilt_f (by omega) (by omega), zJe, zJe]
              obtain ⟨si', T2, e3⟩ := c_mind_L (q := it.2.2.2.2) (k := fun (v_now_size_3 : Nat → Int32) => (some (nI n, v_now_size_3))) (show i + n ≤ it.2.2.1 by omega) h3 (show p + n ≤ 8 by omega) zK 0 (by omega) (by unfold zK; omega) si T
              have e4 := s_mind_L (z := dr) (S := S) (b := b) (k := fun (v_row_3 : Nat → Int32) => (some (nI n, v_row_3))) hs (show i + n ≤ it.2.2.1 by omega) h3 (show p + n ≤ 8 by omega) h6 zK 0 (by omega) (by unfold zK; omega)
              exact ⟨_, _, e3, e4, rfl, _, T2, rfl⟩
        · rw [ie0_f x0 (by omega), ieq_f x0 (by omega) (by omega), zbs, if_neg (by decide)]; exact ⟨_, _, rfl, rfl, rfl, Gn2⟩
theorem s_sheet_L {s : Nat} {k : (Nat → Int64) → Option (Int32 × (Nat → Int32) × (Nat → Int32) × (Nat → Int64))} {rsh0 : Nat → Int64} (hs : s < 4) : ∀ f j, j ≤ 40 → 40 - j < f → ∀ rsh, (∀ i, i < j → rsh (40 * s + i) = lN 0) → (∀ i, i < 40 * s ∨ 40 * s + 40 ≤ i → rsh i = rsh0 i) → ∃ rsh', (∀ i, i < 40 → rsh' (40 * s + i) = lN 0) ∧ (∀ i, i < 40 * s ∨ 40 * s + 40 ≤ i → rsh' i = rsh0 i) ∧ fX5_sheet_L64 (nI s) k f (nI j) rsh = k rsh' := by
  intro f
  induction f with
  | zero => intro j _ h; omega
  | succ f ih =>
    intro j hj hf rsh h1 h2
    rw [fX5_sheet_L64]
    by_cases h : j < 40
    · rw [ilt_t h (by omega), nI_mul, nI_add, zg (by omega) (by omega), nI_clamp (by omega), nI_1]
      refine ih (j + 1) (by omega) (by omega) _ (fun i hi => ?_) (fun i hi => ?_)
      · by_cases e : i = j
        · rw [e, pk_uLs]
        · rw [pk_uLn (by omega)]; exact h1 i (by omega)
      · rw [pk_uLn (by omega)]; exact h2 i hi
    · rw [ilt_f (by omega) (by omega)]
      exact ⟨rsh, fun i hi => h1 i (by omega), h2, rfl⟩
theorem p_sheet {sheets : Nat → Option Nat} {so sz : Nat → Int32} {rsh : Nat → Int64} (x1 x2 x3 : Int32) : ∃ r t, fX4_sheet sheets x1 x2 x3 = some r ∧ fX5_sheet so sz rsh x1 x2 x3 = some t ∧ r.1 = t.1 ∧ ((r.2 = 0 ∧ t.2 = (so, sz, rsh)) ∨ ∃ s, s < 4 ∧ x1 = nI s ∧ (∀ i, i < 40 * s ∨ 40 * s + 40 ≤ i → t.2.2.2 i = rsh i) ∧ ((r.2 = 1 ∧ t.2.1 = upd so s (-1) ∧ t.2.2.1 = upd sz s (nI 0)) ∨ (r.2 = 2 ∧ ∃ st L, st ≤ 3 ∧ L ≤ 40 ∧ x2 = nI st ∧ x3 = nI L ∧ t.2.1 = upd so s (nI st) ∧ t.2.2.1 = upd sz s (nI L) ∧ ∀ i, i < 40 → t.2.2.2 (40 * s + i) = lN 0))) := by
  unfold fX4_sheet fX5_sheet
  rcases s_isShelf x1 with ⟨e1, e2⟩ | ⟨s, hs, rfl, e1, e2⟩
  · rw [e1, e2, zbs, zbs, if00, if00]; exact ⟨_, _, rfl, rfl, rfl, Or.inl ⟨rfl, rfl⟩⟩
  · rw [e1, e2, zbs, zbs, if10, if10]
    unfold fX5_in
    by_cases a : x2 < -1
    · rw [if_pos a, if_pos a, zbs, if00]; exact ⟨_, _, rfl, rfl, rfl, Or.inl ⟨rfl, rfl⟩⟩
    · rw [if_neg a, if_neg a]
      simp only [zJe, zg hs (show 4 < 2 ^ 31 by omega), zgc hs (show s < 2 ^ 31 by omega), nI_clamp (show s < 2 ^ 31 by omega)]
      have L := fun v => s_sheet_L (s := s) (rsh0 := rsh) (k := fun (v_sheets_7 : Nat → Int64) => (some ((nI 1), (upd so s x2), (upd sz s v), v_sheets_7))) hs zK 0 (by omega) (by unfold zK; omega) rsh (fun i hi => by omega) (fun i _ => rfl)
      by_cases c : x2 = -1
      · obtain ⟨rsh', g1, g2, g3⟩ := L (nI 0)
        subst c
        rw [if_neg (show ¬ nI 3 < (-1 : Int32) by decide), if_pos (show (-1 : Int32) < nI 4 by decide), if_pos rfl, zbs, if10, if_pos m1_neg, if_pos m1_neg, if_pos m1_neg, g3]
        exact ⟨_, _, rfl, rfl, rfl, Or.inr ⟨s, hs, rfl, g2, Or.inl ⟨rfl, rfl, rfl⟩⟩⟩
      · have h0 : ¬ x2 < 0 := by
          rw [Int32.lt_iff_toInt_lt] at a ⊢
          rw [Int32.toInt_zero]
          have q : (-1 : Int32).toInt = -1 := by decide
          rw [q] at a
          intro w
          apply c
          apply Int32.toInt_inj.mp
          rw [q]; omega
        obtain ⟨st, hst, rfl⟩ := nI_of h0
        by_cases d : 3 < st
        · rw [ilt_t d hst, ilt_f (by omega) hst, zbs, if00]; exact ⟨_, _, rfl, rfl, rfl, Or.inl ⟨rfl, rfl⟩⟩
        · rw [if_pos (show nI st < nI 4 from nI_lt (by omega) (by omega)), if_neg (show ¬ nI 3 < nI st from nI_nlt (by omega) (by omega)), if_neg c, zbs, if10, if_neg h0, if_neg h0, if_neg h0]
          by_cases e : nI 40 < x3
          · rw [if_pos e, if_pos e]; exact ⟨_, _, rfl, rfl, rfl, Or.inl ⟨rfl, rfl⟩⟩
          · rw [if_neg e, if_neg e]
            by_cases f : x3 < 0
            · rw [if_pos f, if_pos f]; exact ⟨_, _, rfl, rfl, rfl, Or.inl ⟨rfl, rfl⟩⟩
            · rw [if_neg f, if_neg f]
              obtain ⟨n, hn, rfl⟩ := nI_of f
              rw [nI_ltE (by omega) hn] at e
              obtain ⟨rsh', g1, g2, g3⟩ := L (nI n)
              rw [g3]
              exact ⟨_, _, rfl, rfl, rfl, Or.inr ⟨s, hs, rfl, g2, Or.inr ⟨rfl, st, n, by omega, by omega, rfl, rfl, rfl, rfl, g1⟩⟩⟩
