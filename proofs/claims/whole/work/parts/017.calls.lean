/-! the calls that change the town; kept; tries wrapped -/
theorem bel0 (x : Int32) {n : Nat} (hn : n < 2 ^ 31) : (fX4_isBelow x (nI n) = some (nI 0) ∧ fX5_in x (nI 0) (nI n - nI 1) = some (nI 0)) ∨ ∃ m, m < n ∧ x = nI m ∧ fX4_isBelow (nI m) (nI n) = some (nI 1) ∧ fX5_in (nI m) (nI 0) (nI n - nI 1) = some (nI 1) := by
  by_cases h0 : 0 < n
  · rw [nI_sub (by omega)]; exact bel x h0 hn
  · have e : n = 0 := by omega
    subst e
    left
    by_cases h : x < 0
    · unfold fX4_isBelow fX5_in
      exact ⟨if_pos h, if_pos (show x < nI 0 from h)⟩
    · obtain ⟨m, hm, rfl⟩ := nI_of h
      refine ⟨by rw [c_isBelow hm (by omega), if_neg (by omega)], ?_⟩
      unfold fX5_in
      rw [if_neg (show ¬ nI m < nI 0 from h), if_pos]
      rw [show nI 0 - nI 1 = (-1 : Int32) by decide, Int32.lt_iff_toInt_lt, nI_toInt hm]
      have : (-1 : Int32).toInt = -1 := by decide
      omega
theorem p_set {b : Nat} {c ni gl dr : Int32} {la gr se ki ha si on aw : Nat → Int32} {row : Nat → Int32} (Gn : GN b c ni gl dr la gr se ki ha si on aw row) (x1 x2 : Int32) : ∃ r s, fX4_set la x1 x2 = some r ∧ fX5_set row x1 x2 = some s ∧ r.1 = s.1 ∧ GN b c ni gl dr r.2 gr se ki ha si on aw s.2 := by
  obtain ⟨S, T, rfl⟩ := Gn
  unfold fX4_set fX5_set
  rcases bel x1 (n := 4) (by omega) (by omega) with ⟨e1, e2⟩ | ⟨j, hj, rfl, e1, e2⟩
  · rw [e1, show fX5_in x1 (nI 0) (nI 3) = _ from e2, zbs, zbs, if00, if00]; exact ⟨_, _, rfl, rfl, rfl, S, T, rfl⟩
  · have em : ∃ mx, mx < 1000 ∧ zf_most j = nI mx ∧ fX5_mostOf (nI j) = some (nI mx) ∧ mx ≤ bnd b j := by
      have : j = 0 ∨ j = 1 ∨ j = 2 ∨ j = 3 := by omega
      rcases this with rfl | rfl | rfl | rfl
      · exact ⟨9, by omega, rfl, rfl, by show 9 ≤ 9; omega⟩
      · exact ⟨9, by omega, rfl, rfl, by show 9 ≤ 9; omega⟩
      · exact ⟨99, by omega, rfl, rfl, by show 99 ≤ 99; omega⟩
      · exact ⟨99, by omega, rfl, rfl, by show 99 ≤ 99; omega⟩
    obtain ⟨mx, hmx, m1, m2, m3⟩ := em
    rw [e1, show fX5_in (nI j) (nI 0) (nI 3) = _ from e2, zbs, zbs, if10, if10, m2, zbs, zg hj (by omega), zg hj (by omega), zg hj (by omega), nI_clamp (by omega), m1]
    rcases rng x2 (show 0 ≤ mx by omega) (by omega) with ⟨h, e⟩ | ⟨h1, h, e⟩ | ⟨v, h1, h2, rfl, h3, h4, e⟩
    · rw [if_pos (show x2 < 0 from h), e, zbs, if00]; exact ⟨_, _, rfl, rfl, rfl, S, T, rfl⟩
    · rw [if_neg (show ¬ x2 < 0 from h1), if_pos h, e, zbs, if00]; exact ⟨_, _, rfl, rfl, rfl, S, T, rfl⟩
    · rw [if_neg (show ¬ nI v < 0 from h3), if_neg h4, e, zbs, if10]
      unfold fX5_becomes
      rw [zg (show j < 68 by omega) (by omega), zg (show j < 68 by omega) (by omega), nI_clamp (by omega), zbs, rowOf_upd (by omega), rowOf_at (by omega), tr_la T hj]
      exact ⟨_, _, rfl, rfl, rfl, _, tr_ula T hj (by omega), rfl⟩
theorem becomes_at {b : Nat} {S : Nat → Nat} {z : Int32} {k v : Nat} (I : Inv b S) (hk : k < 68) (h7 : k ≠ 7) : fX5_becomes (rowOf S z) (nI k) (nI v) = some (nI (S k), rowOf (updN S k v) z) := by
  unfold fX5_becomes
  rw [zg hk (by omega), zg hk (by omega), nI_clamp (by omega), rowOf_upd h7, rowOf_at h7]
theorem p_paint {b : Nat} {c ni gl dr : Int32} {la gr se ki ha si on aw : Nat → Int32} {row : Nat → Int32} (Gn : GN b c ni gl dr la gr se ki ha si on aw row) (x1 x2 : Int32) : ∃ r s, fX4_paint c si x1 x2 = some r ∧ fX5_paint row x1 x2 = some s ∧ r.1 = s.1 ∧ GN b c ni gl dr la gr se ki ha r.2 on aw s.2 := by
  obtain ⟨S, T, rfl⟩ := Gn
  have h6 := inv_6 T.1
  unfold fX4_paint fX5_paint
  rcases one T dr x1 with ⟨e1, e2⟩ | ⟨p, hp, rfl, e1, e2⟩
  · rw [e1, e2, zbs, zbs, if00, if00]; exact ⟨_, _, rfl, rfl, rfl, S, T, rfl⟩
  · rw [e1, e2, zbs, zbs, if10, if10]
    rcases rng x2 (show 0 ≤ 99 by omega) (by omega) with ⟨h, e⟩ | ⟨h1, h, e⟩ | ⟨v, h1, h2, rfl, h3, h4, e⟩
    · rw [if_pos (show x2 < 0 from h), e, zbs, if00]; exact ⟨_, _, rfl, rfl, rfl, S, T, rfl⟩
    · rw [if_neg (show ¬ x2 < 0 from h1), if_pos h, e, zbs, if00]; exact ⟨_, _, rfl, rfl, rfl, S, T, rfl⟩
    · rw [if_neg (show ¬ nI v < 0 from h3), if_neg h4, e, zbs, if10, zg (by omega) (by omega), zg (by omega) (by omega), nI_clamp (by omega), nI_mul, nI_add, nI_add, show 28 + 5 * p + 2 = 30 + 5 * p by omega, becomes_at T.1 (by omega) (by omega), zbs, tr_si T hp]
      exact ⟨_, _, rfl, rfl, rfl, _, tr_usi T (by omega) h2, rfl⟩
theorem p_move {b : Nat} {c ni gl dr : Int32} {la gr se ki ha si on aw : Nat → Int32} {row : Nat → Int32} (Gn : GN b c ni gl dr la gr se ki ha si on aw row) (x1 x2 : Int32) : ∃ r s, fX4_move c on aw x1 x2 = some r ∧ fX5_move row x1 x2 = some s ∧ r.1 = s.1 ∧ GN b c ni gl dr la gr se ki ha si r.2.1 r.2.2 s.2 := by
  obtain ⟨S, T, rfl⟩ := Gn
  have h6 := inv_6 T.1
  unfold fX4_move fX5_move
  rcases one T dr x1 with ⟨e1, e2⟩ | ⟨p, hp, rfl, e1, e2⟩
  · rw [e1, e2, zbs, zbs, if00, if00]; exact ⟨_, _, rfl, rfl, rfl, S, T, rfl⟩
  · rw [e1, e2, zbs, zbs, if10, if10]
    rcases rng x2 (show 0 ≤ 10 by omega) (by omega) with ⟨h, e⟩ | ⟨h1, h, e⟩ | ⟨v, h1, h2, rfl, h3, h4, e⟩
    · rw [if_pos (show x2 < 0 from h), e, zbs, if00]; exact ⟨_, _, rfl, rfl, rfl, S, T, rfl⟩
    · rw [if_neg (show ¬ x2 < 0 from h1), if_pos h, e, zbs, if00]; exact ⟨_, _, rfl, rfl, rfl, S, T, rfl⟩
    · rw [if_neg (show ¬ nI v < 0 from h3), if_neg h4, e, zbs, if10, zg (by omega) (by omega), zg (by omega) (by omega), zg (by omega) (by omega), nI_clamp (by omega), nI_mul, nI_add, nI_add, show 28 + 5 * p + 3 = 31 + 5 * p by omega, s_sets4 (by omega), zbs, tr_on T hp]
      by_cases x : v = 10
      · rw [ieq_t x, ilt_f (by omega) (by omega), becomes_at T.1 (by omega) (by omega), zbs]
        exact ⟨_, _, rfl, rfl, rfl, _, tr_uon T (by omega) h2, rfl⟩
      · have T2 := tr_uaw (p := p) (v := 0) T (by omega) (by omega)
        rw [ieq_f x (by omega) (by omega), ilt_t (by omega) (by omega), becomes_at T2.1 (by omega) (by omega), zbs, updN_n (by omega)]
        exact ⟨_, _, rfl, rfl, rfl, _, tr_uon T2 (by omega) h2, rfl⟩
theorem s_isKind (x y : Int32) : (fX5_isKind x y = some (nI 0) ∧ (fX4_isBelow x (nI 6) = some (nI 0) ∨ (fX4_isBelow x (nI 6) = some (nI 1) ∧ fX4_isBelow y (nI 10) = some (nI 0)))) ∨ ∃ k h, k < 6 ∧ h < 10 ∧ x = nI k ∧ y = nI h ∧ fX4_isBelow (nI k) (nI 6) = some (nI 1) ∧ fX4_isBelow (nI h) (nI 10) = some (nI 1) ∧ fX5_isKind (nI k) (nI h) = some (nI 1) := by
  unfold fX5_isKind
  rcases bel x (n := 6) (by omega) (by omega) with ⟨e1, e2⟩ | ⟨k, hk, rfl, e1, e2⟩
  · left
    exact ⟨by rw [show fX5_in x (nI 0) (nI 5) = _ from e2, zbs, if00], Or.inl e1⟩
  · rcases bel y (n := 10) (by omega) (by omega) with ⟨f1, f2⟩ | ⟨h, hh, rfl, f1, f2⟩
    · left
      exact ⟨by rw [show fX5_in (nI k) (nI 0) (nI 5) = _ from e2, zbs, if10, show fX5_in y (nI 0) (nI 9) = _ from f2, zbs, if00], Or.inr ⟨e1, f1⟩⟩
    · right
      exact ⟨k, h, hk, hh, rfl, rfl, e1, f1, by rw [show fX5_in (nI k) (nI 0) (nI 5) = _ from e2, zbs, if10, show fX5_in (nI h) (nI 0) (nI 9) = _ from f2, zbs, if10]⟩
theorem p_mind {b : Nat} {c ni gl dr : Int32} {la gr se ki ha si on aw : Nat → Int32} {row : Nat → Int32} (Gn : GN b c ni gl dr la gr se ki ha si on aw row) (x1 x2 x3 : Int32) : ∃ r s, fX4_mind c ki ha x1 x2 x3 = some r ∧ fX5_mind row x1 x2 x3 = some s ∧ r.1 = s.1 ∧ GN b c ni gl dr la gr se r.2.1 r.2.2 si on aw s.2 := by
  obtain ⟨S, T, rfl⟩ := Gn
  have h6 := inv_6 T.1
  unfold fX4_mind fX5_mind
  rcases one T dr x1 with ⟨e1, e2⟩ | ⟨p, hp, rfl, e1, e2⟩
  · rw [e1, e2, zbs, zbs, if00, if00]; exact ⟨_, _, rfl, rfl, rfl, S, T, rfl⟩
  · rw [e1, e2, zbs, zbs, if10, if10]
    rcases s_isKind x2 x3 with ⟨e, f | ⟨f, g⟩⟩ | ⟨k, h, hk, hh, rfl, rfl, f, g, e⟩
    · rw [f, e, zbs, zbs, if00, if00]; exact ⟨_, _, rfl, rfl, rfl, S, T, rfl⟩
    · rw [f, g, e, zbs, zbs, zbs, if00, if10, if00]; exact ⟨_, _, rfl, rfl, rfl, S, T, rfl⟩
    · have T2 := tr_uha (p := p) (v := h) T (by omega) (by omega)
      rw [f, g, e, zbs, zbs, zbs, if10, if10, if10, zg (by omega) (by omega), zg (by omega) (by omega), zg (by omega) (by omega), nI_clamp (by omega), s_sets1 (by omega), zbs, nI_mul, nI_add, becomes_at T2.1 (by omega) (by omega), zbs, updN_n (by omega), tr_ki T hp]
      exact ⟨_, _, rfl, rfl, rfl, _, tr_uki T2 (by omega) (by omega), rfl⟩
theorem p_wall {b : Nat} {c ni gl dr : Int32} {la gr se ki ha si on aw : Nat → Int32} {row : Nat → Int32} (Gn : GN b c ni gl dr la gr se ki ha si on aw row) (x1 x2 x3 : Int32) : ∃ r s, fX4_wall gr se x1 x2 x3 = some r ∧ fX5_wall row x1 x2 x3 = some s ∧ r.1 = s.1 ∧ GN b c ni gl dr la r.2.1 r.2.2 ki ha si on aw s.2 := by
  obtain ⟨S, T, rfl⟩ := Gn
  unfold fX4_wall fX5_wall
  rcases s_isWall x1 with ⟨e1, e2⟩ | ⟨w, hw, rfl, e1, e2⟩
  · rw [e1, e2, zbs, zbs, if00, if00]; exact ⟨_, _, rfl, rfl, rfl, S, T, rfl⟩
  · rw [e1, e2, zbs, zbs, if10, if10, zJe]
    rcases bel x2 (n := 2) (by omega) (by omega) with ⟨f1, f2⟩ | ⟨j, hj, rfl, f1, f2⟩
    · have ne : ∀ j, j < 2 → x2 ≠ nI j := by
        intro j hj q
        rw [q, c_isBelow (by omega) (by omega), if_pos hj] at f1
        exact absurd (Option.some.inj f1) (by decide)
      rw [show fX5_in x2 (nI 0) (nI 1) = _ from f2, zbs, if00]
      by_cases n : x3 < 0
      · rw [if_pos n]; exact ⟨_, _, rfl, rfl, rfl, S, T, rfl⟩
      · rw [if_neg n, if_neg (show ¬ x2 = 0 from ne 0 (by omega)), if_neg (ne 1 (by omega))]; exact ⟨_, _, rfl, rfl, rfl, S, T, rfl⟩
    · rw [show fX5_in (nI j) (nI 0) (nI 1) = _ from f2, zbs, if10, zJe]
      have : j = 0 ∨ j = 1 := by omega
      rcases this with rfl | rfl
      · rw [ie0_t rfl, ie0_t rfl]
        dsimp only
        rcases rng x3 (show 0 ≤ 2 by omega) (by omega) with ⟨h, e⟩ | ⟨h1, h, e⟩ | ⟨v, h1, h2, rfl, h3, h4, e⟩
        · rw [if_pos (show x3 < 0 from h), e, zbs, if00]; exact ⟨_, _, rfl, rfl, rfl, S, T, rfl⟩
        · obtain ⟨m, hm, rfl⟩ := nI_of (show ¬ x3 < 0 from h1)
          rw [nI_ltE (by omega) hm] at h
          rw [if_neg (show ¬ nI m < 0 from h1), e, zbs, if00, ilt_f (by omega) hm, if_neg (show ¬ nI 0 = nI 1 by decide)]
          exact ⟨_, _, rfl, rfl, rfl, S, T, rfl⟩
        · rw [if_neg (show ¬ nI v < 0 from h3), e, zbs, if10, ilt_t (by omega) (by omega), zg hw (by omega), zg hw (by omega), nI_clamp (by omega), nI_mul, nI_add, nI_add, Nat.add_zero, becomes_at T.1 (by omega) (by omega), zbs, tr_gr T hw]
          exact ⟨_, _, rfl, rfl, rfl, _, tr_ugr T hw (by omega), rfl⟩
      · rw [ie0_f (by omega) (by omega), ie0_f (by omega) (by omega), ieq_t rfl]
        dsimp only
        rcases rng x3 (show 0 ≤ 9 by omega) (by omega) with ⟨h, e⟩ | ⟨h1, h, e⟩ | ⟨v, h1, h2, rfl, h3, h4, e⟩
        · rw [if_pos (show x3 < 0 from h), e, zbs, if00]; exact ⟨_, _, rfl, rfl, rfl, S, T, rfl⟩
        · rw [if_neg (show ¬ x3 < 0 from h1), e, zbs, if00, if_pos h]; exact ⟨_, _, rfl, rfl, rfl, S, T, rfl⟩
        · rw [if_neg (show ¬ nI v < 0 from h3), e, zbs, if10, if_neg h4, zg hw (by omega), zg hw (by omega), nI_clamp (by omega), nI_mul, nI_add, nI_add, show 8 + 2 * w + 1 = 9 + 2 * w by omega, becomes_at T.1 (by omega) (by omega), zbs, tr_se T hw]
          exact ⟨_, _, rfl, rfl, rfl, _, tr_use T hw (by omega), rfl⟩
theorem p_clean {b : Nat} {c ni gl dr : Int32} {la gr se ki ha si on aw : Nat → Int32} {row : Nat → Int32} (Gn : GN b c ni gl dr la gr se ki ha si on aw row) (x1 : Int32) : ∃ r s, fX4_clean c la gr ki ha si on aw x1 = some r ∧ fX5_clean row x1 = some s ∧ r.1 = s.1 ∧ GN b c ni gl dr la r.2.1 se ki ha si r.2.2.1 r.2.2.2 s.2 := by
  obtain ⟨S, T, rfl⟩ := Gn
  unfold fX4_clean fX5_clean
  rcases s_isWall x1 with ⟨e1, e2⟩ | ⟨w, hw, rfl, e1, e2⟩
  · rw [e1, e2, zbs, zbs, if00, if00]; exact ⟨_, _, rfl, rfl, rfl, S, T, rfl⟩
  · obtain ⟨r, e, a, T2⟩ := c_clean T hw
    rw [e1, e2, zbs, zbs, if10, if10, e, zbs, s_cleaned T.1 hw, zbs]
    exact ⟨_, _, rfl, rfl, a, _, T2, rfl⟩
theorem p_seed {b : Nat} {c ni gl dr : Int32} {la gr se ki ha si on aw : Nat → Int32} {row : Nat → Int32} (Gn : GN b c ni gl dr la gr se ki ha si on aw row) (x1 : Int32) : ∃ r s, fX4_seed dr x1 = some r ∧ fX5_seed row x1 = some s ∧ r.1 = s.1 ∧ GN b c ni gl r.2 la gr se ki ha si on aw s.2 := by
  obtain ⟨S, T, rfl⟩ := Gn
  unfold fX4_seed fX5_seed fX5_becomes
  rw [zg (show 7 < 68 by omega) (by omega), zg (show 7 < 68 by omega) (by omega), nI_clamp (by omega), zbs, r7, rowOf_upd7]
  exact ⟨_, _, rfl, rfl, rfl, S, T, rfl⟩
theorem p_name {b : Nat} {c ni gl dr : Int32} {la gr se ki ha si on aw : Nat → Int32} {row : Nat → Int32} (Gn : GN b c ni gl dr la gr se ki ha si on aw row) (x1 x2 x3 x4 : Int32) : ∃ r s, fX4_name c ki ha si on aw x1 x2 x3 x4 = some r ∧ fX5_name row x1 x2 x3 x4 = some s ∧ r.1 = s.1 ∧ GN b r.2.1 ni gl dr la gr se r.2.2.1 r.2.2.2.1 r.2.2.2.2.1 r.2.2.2.2.2.1 r.2.2.2.2.2.2 s.2 := by
  obtain ⟨S, T, rfl⟩ := Gn
  have h6 := inv_6 T.1
  have hc := tr_c T
  unfold fX4_name fX5_name
  rcases s_isKind x1 x2 with ⟨e, f | ⟨f, g⟩⟩ | ⟨k, h, hk, hh, rfl, rfl, f, g, e⟩
  · rw [f, e, zbs, zbs, if00, if00]; exact ⟨_, _, rfl, rfl, rfl, S, T, rfl⟩
  · rw [f, g, e, zbs, zbs, zbs, if00, if10, if00]; exact ⟨_, _, rfl, rfl, rfl, S, T, rfl⟩
  · rw [f, g, e, zbs, zbs, zbs, if10, if10, if10]
    rcases rng x3 (show 0 ≤ 99 by omega) (by omega) with ⟨h, e⟩ | ⟨h1, h, e⟩ | ⟨v, h1, h2, rfl, h3, h4, e⟩
    · rw [if_pos (show x3 < 0 from h), e, zbs, if00]; exact ⟨_, _, rfl, rfl, rfl, S, T, rfl⟩
    · rw [if_neg (show ¬ x3 < 0 from h1), if_pos h, e, zbs, if00]; exact ⟨_, _, rfl, rfl, rfl, S, T, rfl⟩
    · rw [if_neg (show ¬ nI v < 0 from h3), if_neg h4, e, zbs, if10]
      rcases s_isWall x4 with ⟨e1, e2⟩ | ⟨w, hw, rfl, e1, e2⟩
      · rw [e1, e2, zbs, zbs, if00, if00]; exact ⟨_, _, rfl, rfl, rfl, S, T, rfl⟩
      · rw [e1, e2, zbs, zbs, if10, if10, r6]
        unfold fX2_addName
        by_cases x : S 6 = 8
        · rw [if_neg (show ¬ c < nI 8 by rw [hc, x]; decide), zbs, if00, ieq_t x]; exact ⟨_, _, rfl, rfl, rfl, S, T, rfl⟩
        · rw [if_pos (show c < nI 8 by rw [hc]; exact nI_lt (by omega) (by omega)), ieq_f x (by omega) (by omega)]
          subst hc
          rw [zg (show S 6 < 8 by omega) (by omega), zg (show S 6 < 8 by omega) (by omega), zg (show S 6 < 8 by omega) (by omega), zg (show S 6 < 8 by omega) (by omega), zg (show S 6 < 8 by omega) (by omega), nI_clamp (show S 6 < 2 ^ 31 by omega), zbs, if10, s_sets0 (by omega), zbs, s_sets1 (by omega), zbs, s_sets2 (by omega), zbs, s_sets3 (by omega), zbs, s_sets4 (by omega), zbs, r6, updN_n (by omega), updN_n (by omega), updN_n (by omega), updN_n (by omega), updN_n (by omega), nI_add, nI_sub (by omega), rowOf_upd (by omega), show S 6 + 1 - 1 = S 6 by omega]
          refine ⟨_, _, rfl, rfl, rfl, _, ?_, rfl⟩
          have T2 := tr_uaw (p := S 6) (v := 0) (tr_uon (p := S 6) (v := w) (tr_usi (p := S 6) (v := v) (tr_uha (p := S 6) (v := h) (tr_uki (p := S 6) (v := k) T (by omega) (by omega)) (by omega) (by omega)) (by omega) (by omega)) (by omega) (by omega)) (by omega) (by omega)
          refine ⟨inv_upd T2.1 (by show S 6 + 1 ≤ 8; omega), ?_, ?_, ?_, fun j hj => ?_, fun u hu => ⟨?_, ?_⟩, fun q hq => ?_⟩
          · rw [updN_s]
          · rw [updN_n (by omega)]; exact tr_ni T2
          · rw [updN_n (by omega)]; exact tr_gl T2
          · rw [updN_n (by omega)]; exact tr_la T2 hj
          · rw [updN_n (by omega)]; exact tr_gr T2 hu
          · rw [updN_n (by omega)]; exact tr_se T2 hu
          · rw [updN_s] at hq
            by_cases e : q = S 6
            · subst e
              refine ⟨?_, ?_, ?_, ?_, ?_⟩
              · show upd ki (S 6) (nI k) (S 6) = _
                rw [pk_us, updN_n (by omega), updN_n (by omega), updN_n (by omega), updN_n (by omega), updN_n (by omega), updN_s]
              · show upd ha (S 6) (nI h) (S 6) = _
                rw [pk_us, updN_n (by omega), updN_n (by omega), updN_n (by omega), updN_n (by omega), updN_s]
              · show upd si (S 6) (nI v) (S 6) = _
                rw [pk_us, updN_n (by omega), updN_n (by omega), updN_n (by omega), updN_s]
              · show upd on (S 6) (nI w) (S 6) = _
                rw [pk_us, updN_n (by omega), updN_n (by omega), updN_s]
              · show upd aw (S 6) (nI 0) (S 6) = _
                rw [pk_us, updN_n (by omega), updN_s]
            · have q2 := T2.2.2.2.2.2.2 q (by rw [updN_n (by omega), updN_n (by omega), updN_n (by omega), updN_n (by omega), updN_n (by omega)]; omega)
              rw [updN_n (show 28 + 5 * q ≠ 6 by omega), updN_n (show 29 + 5 * q ≠ 6 by omega), updN_n (show 30 + 5 * q ≠ 6 by omega), updN_n (show 31 + 5 * q ≠ 6 by omega), updN_n (show 32 + 5 * q ≠ 6 by omega)]
              exact q2
theorem c_nights_L {b : Nat} {S : Nat → Nat} {c : Int32} {la se ki ha : Nat → Int32} {m : Nat} {k} (hb : b < 900000) (hm : m < 1000) : ∀ n i, i ≤ m → m - i < n → ∀ ni gl ga pt gr si on aw wl, TR (b + i) (nightsN S i) c ni gl la gr se ki ha si on aw → ∃ ni' gl' ga' pt' gr' si' on' aw' wl', TR (b + m) (nightsN S m) c ni' gl' la gr' se ki ha si' on' aw' ∧ fX4_nights_L15 c la se ki ha (nI m) k n (nI i) ni gl ga pt gr si on aw wl = k ni' gl' ga' pt' gr' si' on' aw' wl' := by
  intro n
  induction n with
  | zero => intro i _ h; omega
  | succ n ih =>
    intro i hi hn ni gl ga pt gr si on aw wl T
    rw [fX4_nights_L15]
    by_cases h : i < m
    · obtain ⟨r, e, T2, _, _⟩ := c_pass (gain := ga) (pt := pt) (wl := wl) (by omega) T
      rw [ilt_t h (by omega), e, zbs, nI_1]
      exact ih (i + 1) (by omega) (by omega) _ _ _ _ _ _ _ _ _ T2
    · have e : i = m := by omega
      rw [ilt_f (by omega) (by omega)]
      subst e
      exact ⟨_, _, _, _, _, _, _, _, _, T, rfl⟩
theorem s_nights_L {b m : Nat} {S : Nat → Nat} {z : Int32} {k} (hb : b < 900000) (hm : m < 1000) (I : Inv b S) : ∀ n i, i ≤ m → m - i < n → ∀ v g, ∃ v' g', fX5_nights_L14 (nI m) k n (nI i) v (rowOf (nightsN S i) z) g = k v' (rowOf (nightsN S m) z) g' := by
  intro n
  induction n with
  | zero => intro i _ h; omega
  | succ n ih =>
    intro i hi hn v g
    rw [fX5_nights_L14]
    by_cases h : i < m
    · obtain ⟨g', e⟩ := s_nightGoes (z := z) (v := v) (g := g) (by omega) (inv_nights I i)
      rw [ilt_t h (by omega), e, zbs, nI_1]
      exact ih (i + 1) (by omega) (by omega) _ g'
    · have e : i = m := by omega
      rw [ilt_f (by omega) (by omega), e]
      exact ⟨v, g, rfl⟩
theorem p_nights {b : Nat} {c ni gl dr : Int32} {la gr se ki ha si on aw : Nat → Int32} {row g : Nat → Int32} {ga pt v : Int32} {wl : Nat → Int32} (hb : b < 900000) (Gn : GN b c ni gl dr la gr se ki ha si on aw row) (x1 : Int32) : ∃ r s, fX4_nights c ni gl ga pt la gr se ki ha si on aw wl x1 = some r ∧ fX5_nights v row g x1 = some s ∧ r.1 = s.1 ∧ GN (b + 60) c r.2.1 r.2.2.1 dr la r.2.2.2.2.2.1 se ki ha r.2.2.2.2.2.2.1 r.2.2.2.2.2.2.2.1 r.2.2.2.2.2.2.2.2.1 s.2.2.1 := by
  obtain ⟨S, T, rfl⟩ := Gn
  unfold fX4_nights fX5_nights
  rcases rng x1 (show 1 ≤ 60 by omega) (by omega) with ⟨h, e⟩ | ⟨h1, h, e⟩ | ⟨m, h1, h2, rfl, h3, h4, e⟩
  · rw [if_pos h, e, zbs, if00]; exact ⟨_, _, rfl, rfl, rfl, S, tr_mono T (by omega), rfl⟩
  · rw [if_neg h1, if_pos h, e, zbs, if00]; exact ⟨_, _, rfl, rfl, rfl, S, tr_mono T (by omega), rfl⟩
  · rw [if_neg h3, if_neg h4, e, zbs, if10, zJe, zJe]
    obtain ⟨ni', gl', ga', pt', gr', si', on', aw', wl', T2, e2⟩ := c_nights_L (m := m) (k := fun (v_now_nightsPassed_11 : Int32) (v_now_glances_12 : Int32) (v_now_gained_13 : Int32) (v_now_paintedOn_14 : Int32) (v_now_ground_15 : Nat → Int32) (v_now_size_16 : Nat → Int32) (v_now_on_17 : Nat → Int32) (v_now_away_18 : Nat → Int32) (v_now_wallLooks_19 : Nat → Int32) => ((fX2_looksOfAll c se v_now_size_16 v_now_on_17).bind (fun u37 => (some (u37, v_now_nightsPassed_11, v_now_glances_12, v_now_gained_13, v_now_paintedOn_14, v_now_ground_15, v_now_size_16, v_now_on_17, v_now_away_18, v_now_wallLooks_19))))) hb (by omega) zK 0 (by omega) (by unfold zK; omega) ni gl ga pt gr si on aw wl T
    obtain ⟨v', g', e3⟩ := s_nights_L (m := m) (z := dr) (k := fun (v_viewed_5 : Int32) (v_row_6 : Nat → Int32) (v_growing_7 : Nat → Int32) => ((fX5_looksOfAll v_row_6).bind (fun u35 => (some (u35, (nI 0), v_row_6, v_growing_7))))) hb (by omega) T.1 zK 0 (by omega) (by unfold zK; omega) v g
    rw [c_looksOfAll T2, zbs] at e2
    rw [s_looksOfAll T2.1, zbs] at e3
    exact ⟨_, _, e2, e3, rfl, _, tr_mono T2 (by omega), rfl⟩
theorem p_night {b : Nat} {c ni gl dr : Int32} {la gr se ki ha si on aw : Nat → Int32} {row g : Nat → Int32} {ga pt v : Int32} {wl : Nat → Int32} (hb : b < 900000) (Gn : GN b c ni gl dr la gr se ki ha si on aw row) : ∃ r s, fX4_night c ni gl dr ga pt la gr se ki ha si on aw wl = some r ∧ fX5_night v row g = some s ∧ r.1 = s.1 ∧ GN (b + 1) c r.2.1 r.2.2.1 r.2.2.2.1 la r.2.2.2.2.2.2.1 se ki ha r.2.2.2.2.2.2.2.1 r.2.2.2.2.2.2.2.2.1 r.2.2.2.2.2.2.2.2.2.1 s.2.2.1 := by
  obtain ⟨S, T, rfl⟩ := Gn
  unfold fX4_night fX5_night
  obtain ⟨r, e, T2, d, _⟩ := c_nightD (dr := dr) (gain := ga) (pt := pt) (wl := wl) hb T
  obtain ⟨g', e'⟩ := s_nightD (z := dr) (v := v) (g := g) hb T.1
  rw [e, zbs, e', zbs, c_looksOfAll T2, zbs, s_looksOfAll T2.1, zbs]
  refine ⟨_, _, rfl, rfl, rfl, _, T2, ?_⟩
  show _ = rowOf _ r.2.2.1
  rw [d]
/-! kept -/
def GK (b : Nat) (ik c ni gl dr : Int32) (la gr se ki ha si on aw : Nat → Int32) (rik : Int32) (rk : Nat → Int32) : Prop := T0 rk ∧ ((ik = nI 0 ∧ rik = nI 0) ∨ (ik = nI 1 ∧ rik = nI 1 ∧ GN b c ni gl dr la gr se ki ha si on aw rk))
theorem gk_mono {b b' : Nat} {ik rik : Int32} {c ni gl dr : Int32} {la gr se ki ha si on aw rk : Nat → Int32} (K : GK b ik c ni gl dr la gr se ki ha si on aw rik rk) (h : b ≤ b') : GK b' ik c ni gl dr la gr se ki ha si on aw rik rk := by
  obtain ⟨t, k | ⟨k1, k2, k3⟩⟩ := K
  · exact ⟨t, Or.inl k⟩
  · exact ⟨t, Or.inr ⟨k1, k2, gn_mono k3 h⟩⟩
theorem p_keep {b : Nat} {c ni gl dr : Int32} {la gr se ki ha si on aw : Nat → Int32} {row rk : Nat → Int32} {ik rik : Int32} {tc tn tg td tga tp : Int32} {tla tgr tse tki tha tsi ton taw : Nat → Int32} (Gn : GN b c ni gl dr la gr se ki ha si on aw row) (ht : T0 rk) : ∃ r s, fX4_keep ik c ni gl dr la gr se ki ha si on aw tc tn tg td tga tp tla tgr tse tki tha tsi ton taw = some r ∧ fX5_keep rik row rk = some s ∧ r.1 = s.1 ∧ GK b r.2.1 r.2.2.1 r.2.2.2.1 r.2.2.2.2.1 r.2.2.2.2.2.1 r.2.2.2.2.2.2.2.2.1 r.2.2.2.2.2.2.2.2.2.1 r.2.2.2.2.2.2.2.2.2.2.1 r.2.2.2.2.2.2.2.2.2.2.2.1 r.2.2.2.2.2.2.2.2.2.2.2.2.1 r.2.2.2.2.2.2.2.2.2.2.2.2.2.1 r.2.2.2.2.2.2.2.2.2.2.2.2.2.2.1 r.2.2.2.2.2.2.2.2.2.2.2.2.2.2.2 s.2.1 s.2.2 := by
  obtain ⟨S, T, rfl⟩ := Gn
  unfold fX4_keep fX5_keep
  obtain ⟨q, e, T2, d2, _, _⟩ := c_become (dr := dr) tc tn tg td tga tp tla tgr tse tki tha tsi ton taw (fun _ => 0) T
  rw [e, zbs, s_moveAll (t0_row T.1) ht, zbs]
  refine ⟨_, _, rfl, rfl, rfl, t0_row T.1, Or.inr ⟨rfl, rfl, S, T2, ?_⟩⟩
  show _ = rowOf S q.2.2.2.1
  rw [d2]
theorem p_again {b : Nat} {c ni gl dr : Int32} {la gr se ki ha si on aw : Nat → Int32} {row rk : Nat → Int32} {ik rik : Int32} {ga pt : Int32} {kc kn kg kd : Int32} {kla kgr kse kki kha ksi kon kaw : Nat → Int32} (Gn : GN b c ni gl dr la gr se ki ha si on aw row) (K : GK b ik kc kn kg kd kla kgr kse kki kha ksi kon kaw rik rk) : ∃ r s, fX4_again ik c ni gl dr ga pt la gr se ki ha si on aw kc kn kg kd kla kgr kse kki kha ksi kon kaw = some r ∧ fX5_again rik row rk = some s ∧ r.1 = s.1 ∧ GN b r.2.1 r.2.2.1 r.2.2.2.1 r.2.2.2.2.1 r.2.2.2.2.2.2.2.1 r.2.2.2.2.2.2.2.2.1 r.2.2.2.2.2.2.2.2.2.1 r.2.2.2.2.2.2.2.2.2.2.1 r.2.2.2.2.2.2.2.2.2.2.2.1 r.2.2.2.2.2.2.2.2.2.2.2.2.1 r.2.2.2.2.2.2.2.2.2.2.2.2.2.1 r.2.2.2.2.2.2.2.2.2.2.2.2.2.2 s.2 := by
  obtain ⟨t, ⟨k1, k2⟩ | ⟨k1, k2, k3⟩⟩ := K
  · unfold fX4_again fX5_again
    rw [k1, k2, if00, if00]
    exact ⟨_, _, rfl, rfl, rfl, Gn⟩
  · obtain ⟨S, T, rfl⟩ := Gn
    obtain ⟨S2, T2, rfl⟩ := k3
    unfold fX4_again fX5_again
    obtain ⟨q, e, T3, d3, _, _⟩ := c_become (dr := kd) c ni gl dr ga pt la gr se ki ha si on aw (fun _ => 0) T2
    rw [k1, k2, if10, if10, e, zbs, s_moveAll t (t0_row T.1), zbs]
    refine ⟨_, _, rfl, rfl, ?_, S2, T3, ?_⟩
    · show q.1 = _
      rw [tr_c T3, r6]
    · show _ = rowOf S2 q.2.2.2.1
      rw [d3]
/-! rows, the trace -/
theorem rows_at {m : Nat} (x1 x2 : Int32) (hm : m ≤ 10) : ((fX4_isBelow x1 (nI m) = some (nI 0) ∨ (fX4_isBelow x1 (nI m) = some (nI 1) ∧ fX4_isBelow x2 (nI 3) = some (nI 0))) ∧ fX5_isRow (nI m) x1 x2 = some (nI 0)) ∨ ∃ i j, i < m ∧ j < 3 ∧ x1 = nI i ∧ x2 = nI j ∧ fX4_isBelow (nI i) (nI m) = some (nI 1) ∧ fX4_isBelow (nI j) (nI 3) = some (nI 1) ∧ fX5_isRow (nI m) (nI i) (nI j) = some (nI 1) := by
  unfold fX5_isRow
  rcases bel0 x1 (n := m) (by omega) with ⟨e1, e2⟩ | ⟨i, hi, rfl, e1, e2⟩
  · left
    exact ⟨Or.inl e1, by rw [e2, zbs, if00]⟩
  · rcases bel x2 (n := 3) (by omega) (by omega) with ⟨f1, f2⟩ | ⟨j, hj, rfl, f1, f2⟩
    · left
      exact ⟨Or.inr ⟨e1, f1⟩, by rw [e2, zbs, if10, show fX5_in x2 (nI 0) (nI 2) = _ from f2, zbs, if00]⟩
    · right
      exact ⟨i, j, hi, hj, rfl, rfl, e1, f1, by rw [e2, zbs, if10, show fX5_in (nI j) (nI 0) (nI 2) = _ from f2, zbs, if10]⟩
theorem p_row {rc rm : Int32} {rows rr : Nat → Int32} (R : RowsR rc rows rm rr) (x1 x2 : Int32) : okQ (fX4_row rc rows x1 x2) (fX5_row rm rr x1 x2) := by
  obtain ⟨m, hm, rfl, rfl, hr⟩ := R
  unfold fX4_row fX5_row
  rcases rows_at x1 x2 hm with ⟨e | ⟨e, f⟩, g⟩ | ⟨i, j, hi, hj, rfl, rfl, e, f, g⟩
  · rw [e, g, zbs, zbs, if00, if00]; exact okQ_mk
  · rw [e, f, g, zbs, zbs, zbs, if10, if00, if00]; exact okQ_mk
  · rw [e, f, g, zbs, zbs, zbs, if10, if10, if10, nI_mul, nI_mul, nI_add, nI_add, Nat.mul_comm i 3, zg (by omega) (by omega), zg (by omega) (by omega), nI_clamp (by omega), hr _ (by omega)]; exact okQ_mk
theorem p_alterRow {rc rm : Int32} {rows rr : Nat → Int32} (R : RowsR rc rows rm rr) (x1 x2 x3 : Int32) : ∃ r s, fX4_alterRow rc rows x1 x2 x3 = some r ∧ fX5_alterRow rm rr x1 x2 x3 = some s ∧ r.1 = s.1 ∧ RowsR rc r.2 rm s.2 := by
  have R2 := R
  obtain ⟨m, hm, rfl, rfl, hr⟩ := R
  unfold fX4_alterRow fX5_alterRow
  rcases rows_at x1 x2 hm with ⟨e | ⟨e, f⟩, g⟩ | ⟨i, j, hi, hj, rfl, rfl, e, f, g⟩
  · rw [e, g, zbs, zbs, if00, if00]; exact ⟨_, _, rfl, rfl, rfl, R2⟩
  · rw [e, f, g, zbs, zbs, zbs, if10, if00, if00]; exact ⟨_, _, rfl, rfl, rfl, R2⟩
  · rw [e, f, g, zbs, zbs, zbs, if10, if10, if10, nI_mul, nI_mul, nI_add, nI_add, Nat.mul_comm i 3, zg (by omega) (by omega), zg (by omega) (by omega), zg (by omega) (by omega), zg (by omega) (by omega), nI_clamp (by omega), hr _ (by omega)]
    refine ⟨_, _, rfl, rfl, rfl, m, hm, rfl, rfl, fun k hk => ?_⟩
    show upd rows (3 * i + j) x3 k = upd rr (3 * i + j) x3 k
    by_cases e : k = 3 * i + j
    · rw [e, pk_us, pk_us]
    · rw [pk_un e, pk_un e, hr k hk]
def ThR (tr : Int32) (bo : Nat → Int32) (bs : Int32) (tc : Nat → Int32) : Prop := ∃ t, t ≤ 30 ∧ tr = nI t ∧ bs = nI t ∧ ∀ k, k < t → bo k = tc k
theorem p_trace {tr bs : Int32} {bo tc : Nat → Int32} (R : ThR tr bo bs tc) (x1 : Int32) : okQ (fX4_trace tr bo x1) (fX5_trace bs tc x1) := by
  obtain ⟨m, hm, rfl, rfl, hr⟩ := R
  unfold fX4_trace fX5_trace
  rcases bel0 x1 (n := m) (by omega) with ⟨e1, e2⟩ | ⟨i, hi, rfl, e1, e2⟩
  · rw [e1, e2, zbs, zbs, if00, if00]; exact okQ_mk
  · rw [e1, e2, zbs, zbs, if10, if10, zg (by omega) (by omega), zg (by omega) (by omega), nI_clamp (by omega), hr i hi]; exact okQ_mk
/-! tries, wrapped -/
def okT (o4 : Option (Int32 × Int32 × Int32 × Int32 × Int32 × Int32 × Int32 × (Nat → Int32) × (Nat → Int32) × (Nat → Int32) × (Nat → Int32) × (Nat → Int32) × (Nat → Int32) × (Nat → Int32) × (Nat → Int32) × (Nat → Int32))) (row : Nat → Int32) (o5 : Option (Int32 × Int32 × (Nat → Int32) × (Nat → Int32) × (Nat → Int32))) : Prop := ∃ a, okA a o4 ∧ okR a row o5
theorem p_view {b : Nat} {c ni gl dr : Int32} {la gr se ki ha si on aw : Nat → Int32} (tc tn tg td tga tp : Int32) (tla tgr tse tki tha tsi ton taw twl : Nat → Int32) {row t g : Nat → Int32} {v : Int32} (hb : b < 900000) (Gn : GN b c ni gl dr la gr se ki ha si on aw row) (ht : T0 t) (x : Int32) : okT (fX4_view c ni gl dr la gr se ki ha si on aw tc tn tg td tga tp tla tgr tse tki tha tsi ton taw twl x) row (fX5_view v row t g x) := by
  obtain ⟨S, T, rfl⟩ := Gn
  exact ⟨_, c_view tc tn tg td tga tp tla tgr tse tki tha tsi ton taw twl hb T x, s_view hb T.1 ht x⟩
theorem p_clear {b : Nat} {c ni gl dr : Int32} {la gr se ki ha si on aw : Nat → Int32} (tc tn tg td tga tp : Int32) (tla tgr tse tki tha tsi ton taw twl : Nat → Int32) {row t g : Nat → Int32} {v : Int32} (hb : b < 900000) (Gn : GN b c ni gl dr la gr se ki ha si on aw row) (ht : T0 t) : okT (fX4_clear c ni gl dr la gr se ki ha si on aw tc tn tg td tga tp tla tgr tse tki tha tsi ton taw twl) row (fX5_clear v row t g) := by
  obtain ⟨S, T, rfl⟩ := Gn
  exact ⟨_, c_clear tc tn tg td tga tp tla tgr tse tki tha tsi ton taw twl hb T, s_clear hb T.1 ht⟩
theorem p_bucketsFor {b : Nat} {c ni gl dr : Int32} {la gr se ki ha si on aw : Nat → Int32} (tc tn tg td tga tp : Int32) (tla tgr tse tki tha tsi ton taw twl : Nat → Int32) {row t g : Nat → Int32} {v : Int32} (hb : b < 900000) (Gn : GN b c ni gl dr la gr se ki ha si on aw row) (ht : T0 t) (x y : Int32) : okT (fX4_bucketsFor c ni gl dr la gr se ki ha si on aw tc tn tg td tga tp tla tgr tse tki tha tsi ton taw twl x y) row (fX5_bucketsFor v row t g x y) := by
  obtain ⟨S, T, rfl⟩ := Gn
  exact ⟨_, c_bucketsFor tc tn tg td tga tp tla tgr tse tki tha tsi ton taw twl hb T x y, s_bucketsFor hb T.1 ht x y⟩
theorem p_stays {b : Nat} {c ni gl dr : Int32} {la gr se ki ha si on aw : Nat → Int32} (tc tn tg td tga tp : Int32) (tla tgr tse tki tha tsi ton taw twl : Nat → Int32) {row t g : Nat → Int32} {v : Int32} (hb : b < 900000) (Gn : GN b c ni gl dr la gr se ki ha si on aw row) (ht : T0 t) (x : Int32) : okT (fX4_stays c ni gl dr la gr se ki ha si on aw tc tn tg td tga tp tla tgr tse tki tha tsi ton taw twl x) row (fX5_stays v row t g x) := by
  obtain ⟨S, T, rfl⟩ := Gn
  unfold fX4_stays fX5_stays
  rcases one T dr x with ⟨e1, e2⟩ | ⟨p, hp, rfl, e1, e2⟩
  · rw [e1, e2, zbs, zbs, if00, if00]; exact ⟨-1, okA_mk, okR_mk ht⟩
  · rw [e1, e2, zbs, zbs, if10, if10]
    obtain ⟨r, e, a⟩ := c_until (dr := dr) tc tn tg td tga tp tla tgr tse tki tha tsi ton taw twl (gn := 1) hb T hp (by omega)
    obtain ⟨s, f, a', b1, b2⟩ := s_whenGone (z := dr) (v := v) (g := g) (gn := 1) hb T.1 ht hp (by omega)
    rw [e, zbs, f, zbs]
    exact ⟨_, ⟨_, rfl, a⟩, ⟨_, rfl, a', b1, b2⟩⟩
theorem p_comes {b : Nat} {c ni gl dr : Int32} {la gr se ki ha si on aw : Nat → Int32} (tc tn tg td tga tp : Int32) (tla tgr tse tki tha tsi ton taw twl : Nat → Int32) {row t g : Nat → Int32} {v : Int32} (hb : b < 900000) (Gn : GN b c ni gl dr la gr se ki ha si on aw row) (ht : T0 t) (x : Int32) : okT (fX4_comes c ni gl dr la gr se ki ha si on aw tc tn tg td tga tp tla tgr tse tki tha tsi ton taw twl x) row (fX5_comes v row t g x) := by
  obtain ⟨S, T, rfl⟩ := Gn
  unfold fX4_comes fX5_comes
  rcases one T dr x with ⟨e1, e2⟩ | ⟨p, hp, rfl, e1, e2⟩
  · rw [e1, e2, zbs, zbs, if00, if00]; exact ⟨-1, okA_mk, okR_mk ht⟩
  · rw [e1, e2, zbs, zbs, if10, if10]
    obtain ⟨r, e, a⟩ := c_until (dr := dr) tc tn tg td tga tp tla tgr tse tki tha tsi ton taw twl (gn := 0) hb T hp (by omega)
    obtain ⟨s, f, a', b1, b2⟩ := s_whenGone (z := dr) (v := v) (g := g) (gn := 0) hb T.1 ht hp (by omega)
    rw [e, zbs, f, zbs]
    exact ⟨_, ⟨_, rfl, a⟩, ⟨_, rfl, a', b1, b2⟩⟩
theorem p_firstFor {b : Nat} {c ni gl dr : Int32} {la gr se ki ha si on aw : Nat → Int32} (tc tn tg td tga tp : Int32) (tla tgr tse tki tha tsi ton taw twl : Nat → Int32) {row t g : Nat → Int32} {v : Int32} (hb : b < 900000) (Gn : GN b c ni gl dr la gr se ki ha si on aw row) (ht : T0 t) (x : Int32) : okT (fX4_firstFor c ni gl dr la gr se ki ha si on aw tc tn tg td tga tp tla tgr tse tki tha tsi ton taw twl x) row (fX5_firstFor v row t g x) := by
  obtain ⟨S, T, rfl⟩ := Gn
  have q := s_firstFor (z := dr) (v := v) (g := g) hb T.1 ht x
  unfold fX4_firstFor
  rcases rng x (show 1 ≤ 30 by omega) (by omega) with ⟨h, e⟩ | ⟨h1, h, e⟩ | ⟨m, h1, h2, rfl, h3, h4, e⟩
  · rw [if_pos (Or.inl h)] at q
    rw [if_pos h]; exact ⟨_, okA_mk, q⟩
  · rw [if_pos (Or.inr h)] at q
    rw [if_neg h1, if_pos h]; exact ⟨_, okA_mk, q⟩
  · rw [if_neg (by rintro (q | q); exact h3 q; exact h4 q), nI_clamp (by omega)] at q
    obtain ⟨r, e, a⟩ := c_bestOf (dr := dr) tc tn tg td tga tp tla tgr tse tki tha tsi ton taw twl (mn := 0) (one := 0) (ch := 10) (m := m) hb (by omega) T (Or.inl ⟨rfl, rfl⟩)
    rw [if_neg h3, if_neg h4, e, zbs]
    exact ⟨_, ⟨_, rfl, a⟩, q⟩
theorem p_groundFor {b : Nat} {c ni gl dr : Int32} {la gr se ki ha si on aw : Nat → Int32} (tc tn tg td tga tp : Int32) (tla tgr tse tki tha tsi ton taw twl : Nat → Int32) {row t g : Nat → Int32} {v : Int32} (hb : b < 900000) (Gn : GN b c ni gl dr la gr se ki ha si on aw row) (ht : T0 t) (x y : Int32) : okT (fX4_groundFor c ni gl dr la gr se ki ha si on aw tc tn tg td tga tp tla tgr tse tki tha tsi ton taw twl x y) row (fX5_groundFor v row t g x y) := by
  obtain ⟨S, T, rfl⟩ := Gn
  unfold fX4_groundFor fX5_groundFor
  rcases s_isWall x with ⟨e1, e2⟩ | ⟨w, hw, rfl, e1, e2⟩
  · rw [e1, e2, zbs, zbs, if00, if00]; exact ⟨-1, okA_mk, okR_mk ht⟩
  · rw [e1, e2, zbs, zbs, if10, if10]
    rcases rng y (show 1 ≤ 30 by omega) (by omega) with ⟨h, e⟩ | ⟨h1, h, e⟩ | ⟨m, h1, h2, rfl, h3, h4, e⟩
    · rw [if_pos h, e, zbs, if00]; exact ⟨-1, okA_mk, okR_mk ht⟩
    · rw [if_neg h1, if_pos h, e, zbs, if00]; exact ⟨-1, okA_mk, okR_mk ht⟩
    · obtain ⟨r, f, a⟩ := c_bestOf (dr := dr) tc tn tg td tga tp tla tgr tse tki tha tsi ton taw twl (mn := 1) (one := w) (ch := 3) (m := m) hb (by omega) T (Or.inr (Or.inl ⟨rfl, hw, rfl⟩))
      obtain ⟨s, f', a', b1, b2⟩ := s_bestAt (z := dr) (v := v) (g := g) (m := m) (pl := 8 + 2 * w) (mx := 2) hb (by omega) (by omega) (by omega) (by omega) T.1 (by rw [bnd_g hw]; omega) ht
      rw [if_neg h3, if_neg h4, e, zbs, if10, f, zbs, nI_mul, nI_add, f', zbs]
      exact ⟨_, ⟨_, rfl, a⟩, ⟨_, rfl, a', b1, b2⟩⟩
theorem p_kindFor {b : Nat} {c ni gl dr : Int32} {la gr se ki ha si on aw : Nat → Int32} (tc tn tg td tga tp : Int32) (tla tgr tse tki tha tsi ton taw twl : Nat → Int32) {row t g : Nat → Int32} {v : Int32} (hb : b < 900000) (Gn : GN b c ni gl dr la gr se ki ha si on aw row) (ht : T0 t) (x y : Int32) : okT (fX4_kindFor c ni gl dr la gr se ki ha si on aw tc tn tg td tga tp tla tgr tse tki tha tsi ton taw twl x y) row (fX5_kindFor v row t g x y) := by
  obtain ⟨S, T, rfl⟩ := Gn
  have h6 := inv_6 T.1
  unfold fX4_kindFor fX5_kindFor
  rcases one T dr x with ⟨e1, e2⟩ | ⟨p, hp, rfl, e1, e2⟩
  · rw [e1, e2, zbs, zbs, if00, if00]; exact ⟨-1, okA_mk, okR_mk ht⟩
  · rw [e1, e2, zbs, zbs, if10, if10]
    rcases rng y (show 1 ≤ 30 by omega) (by omega) with ⟨h, e⟩ | ⟨h1, h, e⟩ | ⟨m, h1, h2, rfl, h3, h4, e⟩
    · rw [if_pos h, e, zbs, if00]; exact ⟨-1, okA_mk, okR_mk ht⟩
    · rw [if_neg h1, if_pos h, e, zbs, if00]; exact ⟨-1, okA_mk, okR_mk ht⟩
    · obtain ⟨r, f, a⟩ := c_bestOf (dr := dr) tc tn tg td tga tp tla tgr tse tki tha tsi ton taw twl (mn := 2) (one := p) (ch := 6) (m := m) hb (by omega) T (Or.inr (Or.inr ⟨rfl, hp, rfl⟩))
      obtain ⟨s, f', a', b1, b2⟩ := s_bestAt (z := dr) (v := v) (g := g) (m := m) (pl := 28 + 5 * p) (mx := 5) hb (by omega) (by omega) (by omega) (by omega) T.1 (by rw [bnd_k (by omega)]; omega) ht
      rw [if_neg h3, if_neg h4, e, zbs, if10, f, zbs, nI_mul, nI_add, f', zbs]
      exact ⟨_, ⟨_, rfl, a⟩, ⟨_, rfl, a', b1, b2⟩⟩
