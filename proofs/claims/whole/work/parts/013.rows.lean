theorem p_fits_S {b : Nat} {S : Nat → Nat} {c ni gl dr : Int32} {la gr se ki ha si on aw : Nat → Int32} (tc tn tg td tga tp : Int32) (tla tgr tse tki tha tsi ton taw twl : Nat → Int32) {v h_it : Int32} {sheets : Nat → Option Nat} {a0 L s : Nat} {q t g so sz : Nat → Int32} {sh : Nat → Int64} (hb : b < 900000) (T : TR b S c ni gl la gr se ki ha si on aw) (ht : T0 t) (hs : s < 4) (hsh : sheets s = some a0) (hso : ¬ so s < 0) (hL : L ≤ 40) (hz : sz s = nI L) (hq : ∀ j, j < L → sh (40 * s + j) = (q j).toInt64) (x2 x3 : Int32) : ∃ a, okA a (fX4_fits_S c ni gl dr la gr se ki ha si on aw tc tn tg td tga tp tla tgr tse tki tha tsi ton taw twl sheets (nI L) q a0 L (nI s) x2 x3) ∧ okR a (rowOf S dr) (fX5_fits v (rowOf S dr) t g so sz sh (nI s) x2 x3) := by
  unfold fX4_fits_S fX5_fits fX5_isShelf
  rcases bel (nI s) (n := 4) (by omega) (by omega) with ⟨e1, e2⟩ | ⟨m, hm, em, e1, e2⟩
  · rw [c_isBelow (by omega) (by omega), if_pos hs] at e1
    exact absurd (Option.some.inj e1) (by decide)
  · have : m = s := ((nI_eq (by omega) (by omega)).mp em).symm
    subst this
    rw [e1, zbs, if10, show nI 3 = nI (4 - 1) from rfl, e2, zbs, if_pos (show nI 1 &&& 1 = nI 1 by decide), zbs, if10]
    rcases one T dr x2 with ⟨e1, e2⟩ | ⟨p, hp, rfl, e1, e2⟩
    · rw [e1, e2, zbs, zbs, if00, if00]; exact ⟨-1, okA_mk, okR_mk ht⟩
    · rw [e1, e2, zbs, zbs, if10, if10]
      rcases bel x3 (n := 2) (by omega) (by omega) with ⟨e1, e2⟩ | ⟨w, hw, rfl, e1, e2⟩
      · rw [e1, show nI 1 = nI (2 - 1) from rfl, e2, zbs, zbs, if00, if00]; exact ⟨-1, okA_mk, okR_mk ht⟩
      · rw [e1, show nI 1 = nI (2 - 1) from rfl, e2, zbs, zbs, if10, if10, zg (by omega) (by omega), zg (by omega) (by omega), nI_clamp (by omega), hsh, if_neg hso, s_moveAll (t0_row T.1) ht, zbs, zJe]
        unfold zoS
        dsimp only
        rw [if_pos rfl, zJe]
        refine ⟨if w = 0 then nI (fitMany (fun h => fitUp (updN S (29 + 5 * p) h) q p L) 10) else fitLeast (fun h => fitUp (updN S (29 + 5 * p) h) q p L) 10, ?_, ?_⟩
        · refine c_fits_L hb T hp hL (fun a1 a2 a3 a4 a5 a6 a7 a8 a9 a10 a11 a12 a13 a14 a15 => ?_) zK 0 (by omega) (by unfold zK; omega) tc tn tg td tga tp tla tgr tse tki tha tsi ton taw twl
          by_cases x : w = 0
          · rw [ie0_t x, if_pos x]; exact okA_mk
          · rw [ie0_f x (by omega), if_neg x]; exact okA_mk
        · refine s_fits_L hb T.1 hp hs hL hz hq (fun v g => ?_) zK 0 (by omega) (by unfold zK; omega) v g
          by_cases x : w = 0
          · rw [ie0_t x, if_pos x]; exact okR_mk (t0_row T.1)
          · rw [ie0_f x (by omega), if_neg x]; exact okR_mk (t0_row T.1)
theorem p_fits_N {b : Nat} {S : Nat → Nat} {c ni gl dr : Int32} {la gr se ki ha si on aw : Nat → Int32} (tc tn tg td tga tp : Int32) (tla tgr tse tki tha tsi ton taw twl : Nat → Int32) {v : Int32} {sheets : Nat → Option Nat} {t g so sz : Nat → Int32} {sh : Nat → Int64} (T : TR b S c ni gl la gr se ki ha si on aw) (ht : T0 t) (x1 x2 x3 : Int32) (hn : ∀ s, s < 4 → x1 = nI s → sheets s = none ∧ so s < 0) : ∃ a, okA a (fX4_fits_N c ni gl dr la gr se ki ha si on aw tc tn tg td tga tp tla tgr tse tki tha tsi ton taw twl sheets x1 x2 x3) ∧ okR a (rowOf S dr) (fX5_fits v (rowOf S dr) t g so sz sh x1 x2 x3) := by
  unfold fX4_fits_N fX5_fits fX5_isShelf
  rcases bel x1 (n := 4) (by omega) (by omega) with ⟨e1, e2⟩ | ⟨s, hs, rfl, e1, e2⟩
  · rw [e1, show nI 3 = nI (4 - 1) from rfl, e2, zbs, zbs, if_pos (show nI 0 &&& 1 = nI 0 by decide), zbs, if00, if00]; exact ⟨-1, okA_mk, okR_mk ht⟩
  · rw [e1, zbs, if10, show nI 3 = nI (4 - 1) from rfl, e2, zbs, if_pos (show nI 1 &&& 1 = nI 1 by decide), zbs, if10]
    obtain ⟨h1, h2⟩ := hn s hs rfl
    rcases one T dr x2 with ⟨e1, e2⟩ | ⟨p, hp, rfl, e1, e2⟩
    · rw [e1, e2, zbs, zbs, if00, if00]; exact ⟨-1, okA_mk, okR_mk ht⟩
    · rw [e1, e2, zbs, zbs, if10, if10]
      rcases bel x3 (n := 2) (by omega) (by omega) with ⟨e1, e2⟩ | ⟨w, hw, rfl, e1, e2⟩
      · rw [e1, show nI 1 = nI (2 - 1) from rfl, e2, zbs, zbs, if00, if00]; exact ⟨-1, okA_mk, okR_mk ht⟩
      · rw [e1, show nI 1 = nI (2 - 1) from rfl, e2, zbs, zbs, if10, if10, zg (by omega) (by omega), zg (by omega) (by omega), nI_clamp (by omega), h1, if_pos h2]
        unfold zoN
        exact ⟨-11, okA_mk, okR_mk ht⟩
/-! rows -/
def partN (N : Nat → Nat) (p j : Nat) : Nat := if j = 0 then N (31 + 5 * p) else if j = 1 then N (30 + 5 * p) else looksAllN N
def mustN (S : Nat → Nat) (p k : Nat) : Nat := partN (nightsN S (k / 3 + 1)) p (k % 3)
theorem mustN_at (S : Nat → Nat) (p i : Nat) {j : Nat} (h : j < 3) : mustN S p (3 * i + j) = partN (nightN (nightsN S i)) p j := by
  unfold mustN
  rw [show (3 * i + j) / 3 = i by omega, show (3 * i + j) % 3 = j by omega]
  rfl
theorem c_rowPart {b : Nat} {S : Nat → Nat} {c ni gl : Int32} {la gr se ki ha si on aw : Nat → Int32} {p j : Nat} (T : TR b S c ni gl la gr se ki ha si on aw) (hp : p < S 6) (hj : j < 3) : fX4_rowPart c se si on (nI p) (nI j) = some (nI (partN S p j)) := by
  have h6 := inv_6 T.1
  unfold fX4_rowPart partN
  rw [zg (by omega) (by omega), zg (by omega) (by omega), nI_clamp (by omega), tr_on T hp, tr_si T hp, c_looksOfAll T, zbs]
  by_cases h0 : j = 0
  · rw [ie0_t h0, if_pos h0]
  · rw [ie0_f h0 (by omega), if_neg h0]
    by_cases h1 : j = 1
    · rw [ieq_t h1, if_pos h1]
    · rw [ieq_f h1 (by omega) (by omega), if_neg h1]
theorem c_prove_L49 {b p i : Nat} {S : Nat → Nat} {u : Int32 × Int32 × Int32 × Int32 × Int32 × Int32 × (Nat → Int32) × (Nat → Int32) × (Nat → Int32) × (Nat → Int32) × (Nat → Int32) × (Nat → Int32) × (Nat → Int32) × (Nat → Int32)} {w : Int32 × Int32 × Int32 × Int32 × (Nat → Int32) × (Nat → Int32) × (Nat → Int32) × (Nat → Int32) × (Nat → Int32)} {k} {rows : Nat → Int32} (T : TR b S u.1 w.1 w.2.1 u.2.2.2.2.2.2.1 w.2.2.2.2.1 u.2.2.2.2.2.2.2.2.1 u.2.2.2.2.2.2.2.2.2.1 u.2.2.2.2.2.2.2.2.2.2.1 w.2.2.2.2.2.1 w.2.2.2.2.2.2.1 w.2.2.2.2.2.2.2.1) (hp : p < S 6) (hi : i < 10) : fX4_prove_L49 (nI p) u (nI i) w k zK (nI 0) rows = k (upd (upd (upd rows (3 * i) (nI (partN S p 0))) (3 * i + 1) (nI (partN S p 1))) (3 * i + 2) (nI (partN S p 2))) := by
  unfold zK
  rw [fX4_prove_L49, ilt_t (by omega) (by omega), c_rowPart T hp (by omega), zbs, nI_mul, nI_add, zg (by omega) (by omega), nI_clamp (by omega), nI_1]
  rw [fX4_prove_L49, ilt_t (by omega) (by omega), c_rowPart T hp (by omega), zbs, nI_mul, nI_add, zg (by omega) (by omega), nI_clamp (by omega), nI_1]
  rw [fX4_prove_L49, ilt_t (by omega) (by omega), c_rowPart T hp (by omega), zbs, nI_mul, nI_add, zg (by omega) (by omega), nI_clamp (by omega), nI_1]
  rw [fX4_prove_L49, ilt_f (by omega) (by omega), Nat.mul_comm i 3]
  rfl
theorem must_put {S : Nat → Nat} {p i : Nat} {rows : Nat → Int32} (hr : ∀ k, k < 3 * i → rows k = nI (mustN S p k)) : ∀ k, k < 3 * (i + 1) → upd (upd (upd rows (3 * i) (nI (partN (nightN (nightsN S i)) p 0))) (3 * i + 1) (nI (partN (nightN (nightsN S i)) p 1))) (3 * i + 2) (nI (partN (nightN (nightsN S i)) p 2)) k = nI (mustN S p k) := by
  intro k hk
  by_cases e2 : k = 3 * i + 2
  · rw [e2, pk_us, mustN_at S p i (by omega)]
  · rw [pk_un e2]
    by_cases e1 : k = 3 * i + 1
    · rw [e1, pk_us, mustN_at S p i (by omega)]
    · rw [pk_un e1]
      by_cases e0 : k = 3 * i
      · rw [e0, pk_us, ← mustN_at S p i (show 0 < 3 by omega), Nat.add_zero]
      · rw [pk_un e0]; exact hr k (by omega)
theorem c_prove_L {b p m : Nat} {S : Nat → Nat} {u : Int32 × Int32 × Int32 × Int32 × Int32 × Int32 × (Nat → Int32) × (Nat → Int32) × (Nat → Int32) × (Nat → Int32) × (Nat → Int32) × (Nat → Int32) × (Nat → Int32) × (Nat → Int32)} {k} (hb : b < 900000) (hp : p < S 6) (hm : m ≤ 10) : ∀ n i, i ≤ m → m - i < n → ∀ ni gl ga pt gr si on aw wl rows, TR (b + i) (nightsN S i) u.1 ni gl u.2.2.2.2.2.2.1 gr u.2.2.2.2.2.2.2.2.1 u.2.2.2.2.2.2.2.2.2.1 u.2.2.2.2.2.2.2.2.2.2.1 si on aw → (∀ k, k < 3 * i → rows k = nI (mustN S p k)) → ∃ rows', (∀ k, k < 3 * m → rows' k = nI (mustN S p k)) ∧ ∃ a1 a2 a3 a4 a5 a6 a7 a8 a9, fX4_prove_L34 (nI p) (nI m) u k n (nI i) ni gl ga pt gr si on aw wl rows = k a1 a2 a3 a4 a5 a6 a7 a8 a9 rows' := by
  intro n
  induction n with
  | zero => intro i _ h; omega
  | succ n ih =>
    intro i hi hn ni gl ga pt gr si on aw wl rows T hr
    rw [fX4_prove_L34]
    by_cases h : i < m
    · obtain ⟨w, e, T2, _, _⟩ := c_pass (gain := ga) (pt := pt) (wl := wl) (by omega) T
      rw [ilt_t h (by omega), e, zbs, zJe, c_prove_L49 T2 (by rw [nightN_6, nightsN_6]; exact hp) (by omega), nI_1]
      exact ih (i + 1) (by omega) (by omega) _ _ _ _ _ _ _ _ _ _ T2 (must_put hr)
    · have e : i = m := by omega
      rw [ilt_f (by omega) (by omega)]
      subst e
      exact ⟨rows, hr, _, _, _, _, _, _, _, _, _, rfl⟩
theorem s_find_L {b p m : Nat} {S : Nat → Nat} {z : Int32} {k} (hb : b < 900000) (I : Inv b S) (hp : p < S 6) (hm : m ≤ 10) : ∀ n i, i ≤ m → m - i < n → ∀ v g must, (∀ k, k < 3 * i → must k = nI (mustN S p k)) → ∃ must', (∀ k, k < 3 * m → must' k = nI (mustN S p k)) ∧ ∃ v' R g', T0 R ∧ fX5_findRows_L13 (nI p) (nI m) k n (nI i) v (rowOf (nightsN S i) z) g must = k v' R g' must' := by
  have h6 := inv_6 I
  intro n
  induction n with
  | zero => intro i _ h; omega
  | succ n ih =>
    intro i hi hn v g must hr
    rw [fX5_findRows_L13]
    by_cases h : i < m
    · have In := inv_night (inv_nights I i)
      obtain ⟨g', e⟩ := s_nightGoes (z := z) (v := v) (g := g) (by omega) (inv_nights I i)
      rw [ilt_t h (by omega), e, zbs, nI_mul, nI_add, nI_add, nI_1]
      dsimp only
      rw [s_its3 (by omega), zbs, zg (show 3 * i < 30 by omega) (by omega), nI_clamp (show 3 * i < 2 ^ 31 by omega), s_its2 (by omega), zbs, zg (show 3 * i + 1 < 30 by omega) (by omega), nI_clamp (show 3 * i + 1 < 2 ^ 31 by omega), s_looksOfAll In, zbs, zg (show 3 * i + 2 < 30 by omega) (by omega), nI_clamp (show 3 * i + 2 < 2 ^ 31 by omega)]
      exact ih (i + 1) (by omega) (by omega) _ _ _ (must_put hr)
    · have e : i = m := by omega
      rw [ilt_f (by omega) (by omega)]
      subst e
      exact ⟨must, hr, _, _, _, t0_row (inv_nights I i), rfl⟩
theorem s_find {b p m : Nat} {S : Nat → Nat} {z v : Int32} {t g must : Nat → Int32} (hb : b < 900000) (I : Inv b S) (ht : T0 t) (hp : p < S 6) (hm : m ≤ 10) : ∃ v' g' must', (∀ k, k < 3 * m → must' k = nI (mustN S p k)) ∧ fX5_findRows v (rowOf S z) t g must (nI p) (nI m) = some (v', rowOf S z, rowOf S z, g', must') := by
  unfold fX5_findRows
  rw [s_moveAll (t0_row I) ht, zbs, zJe]
  obtain ⟨must', h1, v', R, g', h2, e⟩ := s_find_L (z := z) (k := fun (v_viewed_6 : Int32) (v_row_7 : Nat → Int32) (v_growing_8 : Nat → Int32) (v_must_9 : Nat → Int32) => ((fX5_moveAll (rowOf S z) v_row_7).bind (fun u80 => (some (v_viewed_6, u80, rowOf S z, v_growing_8, v_must_9))))) hb I hp hm zK 0 (by omega) (by unfold zK; omega) v g must (fun k hk => by omega)
  refine ⟨v', g', must', h1, e.trans ?_⟩
  rw [s_moveAll (t0_row I) h2, zbs]
theorem s_prove_L {m : Nat} {u : Int32 × (Nat → Int32) × (Nat → Int32) × (Nat → Int32) × (Nat → Int32)} {k} (hm : m ≤ 10) : ∀ n i, i ≤ 3 * m → 3 * m - i < n → ∀ rows, (∀ k, k < i → rows k = u.2.2.2.2 k) → ∃ rows', (∀ k, k < 3 * m → rows' k = u.2.2.2.2 k) ∧ fX5_prove_L33 (nI m) u k n (nI i) rows = k rows' := by
  intro n
  induction n with
  | zero => intro i _ h; omega
  | succ n ih =>
    intro i hi hn rows hr
    rw [fX5_prove_L33, nI_mul]
    by_cases h : i < 3 * m
    · rw [ilt_t h (by omega), zg (by omega) (by omega), zg (by omega) (by omega), nI_clamp (by omega), nI_1]
      refine ih (i + 1) (by omega) (by omega) _ (fun k hk => ?_)
      by_cases e : k = i
      · rw [e, pk_us]
      · rw [pk_un e]; exact hr k (by omega)
    · rw [ilt_f (by omega) (by omega)]
      exact ⟨rows, fun k hk => hr k (by omega), rfl⟩
/-- rows of nights, on both sides -/
def RowsR (rc : Int32) (rows : Nat → Int32) (rm : Int32) (rr : Nat → Int32) : Prop := ∃ m, m ≤ 10 ∧ rc = nI m ∧ rm = nI m ∧ ∀ k, k < 3 * m → rows k = rr k
theorem p_prove {b : Nat} {S : Nat → Nat} {c ni gl dr : Int32} {la gr se ki ha si on aw : Nat → Int32} (tc tn tg td tga tp : Int32) (tla tgr tse tki tha tsi ton taw twl : Nat → Int32) {v rc rm : Int32} {t g rows rr must : Nat → Int32} (hb : b < 900000) (T : TR b S c ni gl la gr se ki ha si on aw) (ht : T0 t) (R : RowsR rc rows rm rr) (x1 x2 : Int32) : ∃ r s, fX4_prove rc c ni gl dr la gr se ki ha si on aw tc tn tg td tga tp tla tgr tse tki tha tsi ton taw twl rows x1 x2 = some r ∧ fX5_prove v rm (rowOf S dr) t g rr must x1 x2 = some s ∧ r.1 = s.1 ∧ s.2.2.2.1 = rowOf S dr ∧ T0 s.2.2.2.2.1 ∧ RowsR r.2.1 r.2.2.2.2.2.2.2.2.2.2.2.2.2.2.2.2.2 s.2.2.1 s.2.2.2.2.2.2.1 := by
  unfold fX4_prove fX5_prove
  rcases one T dr x1 with ⟨e1, e2⟩ | ⟨p, hp, rfl, e1, e2⟩
  · rw [e1, e2, zbs, zbs, if00, if00]; exact ⟨_, _, rfl, rfl, rfl, rfl, ht, R⟩
  · rw [e1, e2, zbs, zbs, if10, if10]
    rcases rng x2 (show 1 ≤ 10 by omega) (by omega) with ⟨h, e⟩ | ⟨h1, h, e⟩ | ⟨m, h1, h2, rfl, h3, h4, e⟩
    · rw [if_pos h, e, zbs, if00]; exact ⟨_, _, rfl, rfl, rfl, rfl, ht, R⟩
    · rw [if_neg h1, if_pos h, e, zbs, if00]; exact ⟨_, _, rfl, rfl, rfl, rfl, ht, R⟩
    · rw [if_neg h3, if_neg h4, e, zbs, if10]
      obtain ⟨r, e, T2, d2, g2, p2⟩ := c_become (dr := dr) tc tn tg td tga tp tla tgr tse tki tha tsi ton taw twl T
      rw [e, zbs, zJe]
      obtain ⟨rows', h5, a1, a2, a3, a4, a5, a6, a7, a8, a9, e⟩ := c_prove_L (u := r) (k := fun (v_tried_nightsPassed_12 : Int32) (v_tried_glances_13 : Int32) (v_tried_gained_14 : Int32) (v_tried_paintedOn_15 : Int32) (v_tried_ground_16 : Nat → Int32) (v_tried_size_17 : Nat → Int32) (v_tried_on_18 : Nat → Int32) (v_tried_away_19 : Nat → Int32) (v_tried_wallLooks_20 : Nat → Int32) (v_rows_21 : Nat → Int32) => (some (nI m, nI m, r.1, v_tried_nightsPassed_12, v_tried_glances_13, r.2.2.2.1, v_tried_gained_14, v_tried_paintedOn_15, r.2.2.2.2.2.2.1, v_tried_ground_16, r.2.2.2.2.2.2.2.2.1, r.2.2.2.2.2.2.2.2.2.1, r.2.2.2.2.2.2.2.2.2.2.1, v_tried_size_17, v_tried_on_18, v_tried_away_19, v_tried_wallLooks_20, v_rows_21))) hb hp h2 zK 0 (by omega) (by unfold zK; omega) r.2.1 r.2.2.1 r.2.2.2.2.1 r.2.2.2.2.2.1 r.2.2.2.2.2.2.2.1 r.2.2.2.2.2.2.2.2.2.2.2.1 r.2.2.2.2.2.2.2.2.2.2.2.2.1 r.2.2.2.2.2.2.2.2.2.2.2.2.2 twl rows T2 (fun k hk => by omega)
      obtain ⟨v', g', must', h6, e'⟩ := s_find (z := dr) (v := v) (t := t) (g := g) (must := must) hb T.1 ht hp h2
      rw [e', zbs, zJe]
      obtain ⟨rr', h7, e''⟩ := s_prove_L (u := (v', rowOf S dr, rowOf S dr, g', must')) (k := fun (v_rows_3 : Nat → Int32) => (some (nI m, v', nI m, rowOf S dr, rowOf S dr, g', v_rows_3, must'))) h2 zK 0 (by omega) (by unfold zK; omega) rr (fun k hk => by omega)
      refine ⟨_, _, e, e'', rfl, rfl, t0_row T.1, m, h2, rfl, rfl, fun k hk => ?_⟩
      show rows' k = rr' k
      rw [h5 k hk, h7 k hk]
      exact (h6 k hk).symm
def judgeI (S : Nat → Nat) (p : Nat) (R : Nat → Int32) : Nat → Nat → Int32
  | 0, _ => nI 0
  | n + 1, k => if R k = nI (mustN S p k) then judgeI S p R n (k + 1) else nI (k / 3 + 1)
theorem c_judge_L40 {b p i : Nat} {S : Nat → Nat} {u : Int32 × Int32 × Int32 × Int32 × Int32 × Int32 × (Nat → Int32) × (Nat → Int32) × (Nat → Int32) × (Nat → Int32) × (Nat → Int32) × (Nat → Int32) × (Nat → Int32) × (Nat → Int32)} {w : Int32 × Int32 × Int32 × Int32 × (Nat → Int32) × (Nat → Int32) × (Nat → Int32) × (Nat → Int32) × (Nat → Int32)} {k1 k2} {rows : Nat → Int32} (T : TR b S u.1 w.1 w.2.1 u.2.2.2.2.2.2.1 w.2.2.2.2.1 u.2.2.2.2.2.2.2.2.1 u.2.2.2.2.2.2.2.2.2.1 u.2.2.2.2.2.2.2.2.2.2.1 w.2.2.2.2.2.1 w.2.2.2.2.2.2.1 w.2.2.2.2.2.2.2.1) (hp : p < S 6) (hi : i < 10) : fX4_judge_L40 rows (nI p) u (nI i) w k1 k2 zK (nI 0) = (if rows (3 * i) = nI (partN S p 0) then (if rows (3 * i + 1) = nI (partN S p 1) then (if rows (3 * i + 2) = nI (partN S p 2) then k2 else k1) else k1) else k1) := by
  unfold zK
  rw [fX4_judge_L40, ilt_t (by omega) (by omega), nI_mul, nI_add, zg (by omega) (by omega), nI_clamp (by omega), c_rowPart T hp (by omega), zbs, nI_1]
  rw [fX4_judge_L40, ilt_t (by omega) (by omega), nI_mul, nI_add, zg (by omega) (by omega), nI_clamp (by omega), c_rowPart T hp (by omega), zbs, nI_1]
  rw [fX4_judge_L40, ilt_t (by omega) (by omega), nI_mul, nI_add, zg (by omega) (by omega), nI_clamp (by omega), c_rowPart T hp (by omega), zbs, nI_1]
  rw [fX4_judge_L40, ilt_f (by omega) (by omega), Nat.mul_comm i 3]
  rfl
theorem c_judge_L {b p m : Nat} {S : Nat → Nat} {u : Int32 × Int32 × Int32 × Int32 × Int32 × Int32 × (Nat → Int32) × (Nat → Int32) × (Nat → Int32) × (Nat → Int32) × (Nat → Int32) × (Nat → Int32) × (Nat → Int32) × (Nat → Int32)} {k1 k2} {rows : Nat → Int32} (hb : b < 900000) (hp : p < S 6) (hm : m ≤ 10) (hk1 : ∀ i, ∀ a1 a2 a3 a4 a5 a6 a7 a8 a9, okA (nI (i + 1)) (k1 (nI i) a1 a2 a3 a4 a5 a6 a7 a8 a9)) (hk2 : ∀ a1 a2 a3 a4 a5 a6 a7 a8 a9, okA (nI 0) (k2 a1 a2 a3 a4 a5 a6 a7 a8 a9)) : ∀ n i, i ≤ m → m - i < n → ∀ ni gl ga pt gr si on aw wl, TR (b + i) (nightsN S i) u.1 ni gl u.2.2.2.2.2.2.1 gr u.2.2.2.2.2.2.2.2.1 u.2.2.2.2.2.2.2.2.2.1 u.2.2.2.2.2.2.2.2.2.2.1 si on aw → okA (judgeI S p rows (3 * (m - i)) (3 * i)) (fX4_judge_L23 (nI m) rows (nI p) u k1 k2 n (nI i) ni gl ga pt gr si on aw wl) := by
  intro n
  induction n with
  | zero => intro i _ h; omega
  | succ n ih =>
    intro i hi hn ni gl ga pt gr si on aw wl T
    rw [fX4_judge_L23]
    by_cases h : i < m
    · obtain ⟨w, e, T2, _, _⟩ := c_pass (gain := ga) (pt := pt) (wl := wl) (by omega) T
      rw [ilt_t h (by omega), e, zbs, zJe, zJe, c_judge_L40 T2 (by rw [nightN_6, nightsN_6]; exact hp) (by omega), nI_1, show 3 * (m - i) = 3 * (m - (i + 1)) + 1 + 1 + 1 by omega, judgeI, judgeI, judgeI, show mustN S p (3 * i) = partN (nightN (nightsN S i)) p 0 from mustN_at S p i (show 0 < 3 by omega), mustN_at S p i (show 1 < 3 by omega), show mustN S p (3 * i + 1 + 1) = partN (nightN (nightsN S i)) p 2 from mustN_at S p i (show 2 < 3 by omega), show (3 * i) / 3 = i by omega, show (3 * i + 1) / 3 = i by omega, show (3 * i + 1 + 1) / 3 = i by omega]
      have ih := ih (i + 1) (by omega) (by omega) _ _ w.2.2.1 w.2.2.2.1 _ _ _ _ w.2.2.2.2.2.2.2.2 T2
      by_cases y0 : rows (3 * i) = nI (partN (nightN (nightsN S i)) p 0)
      · rw [if_pos y0, if_pos y0]
        by_cases y1 : rows (3 * i + 1) = nI (partN (nightN (nightsN S i)) p 1)
        · rw [if_pos y1, if_pos y1]
          by_cases y2 : rows (3 * i + 2) = nI (partN (nightN (nightsN S i)) p 2)
          · rw [if_pos y2, if_pos (show rows (3 * i + 1 + 1) = _ from y2)]; exact ih
          · rw [if_neg y2, if_neg (show ¬ rows (3 * i + 1 + 1) = _ from y2)]; exact hk1 _ _ _ _ _ _ _ _ _ _
        · rw [if_neg y1, if_neg y1]; exact hk1 _ _ _ _ _ _ _ _ _ _
      · rw [if_neg y0, if_neg y0]; exact hk1 _ _ _ _ _ _ _ _ _ _
    · have e : i = m := by omega
      rw [ilt_f (by omega) (by omega), e, Nat.sub_self]
      exact hk2 _ _ _ _ _ _ _ _ _
theorem s_judge_L {m p : Nat} {S : Nat → Nat} {u : Int32 × (Nat → Int32) × (Nat → Int32) × (Nat → Int32) × (Nat → Int32)} {k1 : Int32 → Option (Int32 × Int32 × (Nat → Int32) × (Nat → Int32) × (Nat → Int32) × (Nat → Int32))} {k2} {rows : Nat → Int32} {P : Int32 → Option (Int32 × Int32 × (Nat → Int32) × (Nat → Int32) × (Nat → Int32) × (Nat → Int32)) → Prop} (hm : m ≤ 10) (hu : ∀ k, k < 3 * m → u.2.2.2.2 k = nI (mustN S p k)) (hk1 : ∀ k, k < 30 → P (nI (k / 3 + 1)) (k1 (nI k))) (hk2 : P (nI 0) k2) : ∀ n i, i ≤ 3 * m → 3 * m - i < n → P (judgeI S p rows (3 * m - i) i) (fX5_judge_L21 (nI m) rows u k1 k2 n (nI i)) := by
  intro n
  induction n with
  | zero => intro i _ h; omega
  | succ n ih =>
    intro i hi hn
    rw [fX5_judge_L21, nI_mul]
    by_cases h : i < 3 * m
    · rw [ilt_t h (by omega), zg (by omega) (by omega), zg (by omega) (by omega), nI_clamp (by omega), hu i h, nI_1, show 3 * m - i = (3 * m - (i + 1)) + 1 by omega, judgeI]
      by_cases y : rows i = nI (mustN S p i)
      · rw [if_pos y, if_pos y]; exact ih (i + 1) (by omega) (by omega)
      · rw [if_neg y, if_neg y]; exact hk1 i (by omega)
    · rw [ilt_f (by omega) (by omega), show 3 * m - i = 0 by omega]; exact hk2
theorem judgeI_congr {S : Nat → Nat} {p : Nat} {R R' : Nat → Int32} : ∀ n k, (∀ j, j < k + n → R j = R' j) → judgeI S p R n k = judgeI S p R' n k := by
  intro n
  induction n with
  | zero => intro k _; rfl
  | succ n ih => intro k h; rw [judgeI, judgeI, h k (by omega), ih (k + 1) (fun j hj => h j (by omega))]
theorem p_judge {b : Nat} {S : Nat → Nat} {c ni gl dr : Int32} {la gr se ki ha si on aw : Nat → Int32} (tc tn tg td tga tp : Int32) (tla tgr tse tki tha tsi ton taw twl : Nat → Int32) {v rc rm : Int32} {t g rows rr must : Nat → Int32} (hb : b < 900000) (T : TR b S c ni gl la gr se ki ha si on aw) (ht : T0 t) (R : RowsR rc rows rm rr) (x1 : Int32) : ∃ a, okA a (fX4_judge rc c ni gl dr la gr se ki ha si on aw tc tn tg td tga tp tla tgr tse tki tha tsi ton taw twl rows x1) ∧ ∃ s, fX5_judge v rm (rowOf S dr) t g rr must x1 = some s ∧ s.1 = a ∧ s.2.2.1 = rowOf S dr ∧ T0 s.2.2.2.1 := by
  unfold fX4_judge fX5_judge
  rcases one T dr x1 with ⟨e1, e2⟩ | ⟨p, hp, rfl, e1, e2⟩
  · rw [e1, e2, zbs, zbs, if00, if00]; exact ⟨-1, okA_mk, _, rfl, rfl, rfl, ht⟩
  · rw [e1, e2, zbs, zbs, if10, if10]
    obtain ⟨m, h2, rfl, rfl, hr⟩ := R
    obtain ⟨r, e, T2, d2, g2, p2⟩ := c_become (dr := dr) tc tn tg td tga tp tla tgr tse tki tha tsi ton taw twl T
    rw [e, zbs, zJe, zJe]
    obtain ⟨v', g', must', h6, e'⟩ := s_find (z := dr) (v := v) (t := t) (g := g) (must := must) hb T.1 ht hp h2
    rw [e', zbs, zJe, zJe]
    refine ⟨judgeI S p rows (3 * m) 0, c_judge_L hb hp h2 (fun i a1 a2 a3 a4 a5 a6 a7 a8 a9 => ?_) (fun a1 a2 a3 a4 a5 a6 a7 a8 a9 => okA_mk) zK 0 (by omega) (by unfold zK; omega) _ _ _ _ _ _ _ _ _ T2, ?_⟩
    · rw [nI_add]; exact okA_mk
    · rw [judgeI_congr (R' := rr) (3 * m) 0 (fun j hj => hr j (by omega))]
      refine s_judge_L (P := fun a o => ∃ s, o = some s ∧ s.1 = a ∧ s.2.2.1 = rowOf S dr ∧ T0 s.2.2.2.1) h2 h6 (fun k hk => ?_) ?_ zK 0 (by omega) (by unfold zK; omega)
      · rw [pk_div (by omega) (by omega) (by omega), nI_add]
        exact ⟨_, rfl, rfl, rfl, t0_row T.1⟩
      · exact ⟨_, rfl, rfl, rfl, t0_row T.1⟩
