/-! the class's Town: cleaning, a night -/
theorem c_clean_L21 {b : Nat} {S : Nat → Nat} {c ni gl : Int32} {la gr se ki ha si on aw : Nat → Int32} {w t : Nat} {k : Int32 → Option (Int32 × (Nat → Int32) × (Nat → Int32) × (Nat → Int32))} (T : TR b S c ni gl la gr se ki ha si on aw) (hw : w < 10) (ht : t = if S (8 + 2 * w) = 2 then 1 else 0) : ∀ n i, i ≤ S 6 → S 6 - i < n → fX2_cleanWall_L21 c la ki ha si on (nI w) (nI t) k n (nI (setN (goesB S w) i)) (nI i) = k (nI (setN (goesB S w) (S 6))) := by
  have h6 := inv_6 T.1
  have hc := tr_c T
  intro n
  induction n with
  | zero => intro i _ h; omega
  | succ n ih =>
    intro i hi hn
    rw [fX2_cleanWall_L21]
    by_cases h : i < S 6
    · obtain ⟨k1, k2, k3, k4, k5⟩ := inv_p T.1 (show i < 8 by omega)
      have ih := ih (i + 1) (by omega) (by omega)
      rw [setN] at ih
      have lt : nI i < c := by rw [hc]; exact nI_lt h (by omega)
      rw [if_pos lt, zg (by omega) (by omega), zg (by omega) (by omega), nI_clamp (by omega), tr_on T h, nI_1, nI_setbit (setN_lt _ _) (by omega)]
      by_cases e : S (31 + 5 * i) = w
      · rw [ieq_t e]
        by_cases x : S (8 + 2 * w) = 2
        · rw [if_pos x] at ht
          subst ht
          rw [ie0_f (by omega) (by omega), tr_ki T h]
          by_cases y : S (28 + 5 * i) = 5
          · rw [ieq_t y]
            rw [show goesB S w i = false by unfold goesB; simp [e, x, y]] at ih
            exact ih
          · rw [ieq_f y (by omega) (by omega)]
            rw [show goesB S w i = true by unfold goesB; simp [e, x, y]] at ih
            exact ih
        · rw [if_neg x] at ht
          subst ht
          rw [ie0_t rfl, c_holds T h, zbs, tr_la T (show 2 < 4 by omega)]
          by_cases y : nI (S 2) < holdsI S i
          · rw [if_pos y]
            rw [show goesB S w i = false by unfold goesB; simp [e, x, y]] at ih
            exact ih
          · rw [if_neg y]
            rw [show goesB S w i = true by unfold goesB; simp [e, x, y]] at ih
            exact ih
      · rw [ieq_f e (by omega) (by omega)]
        rw [show goesB S w i = false by unfold goesB; simp [e]] at ih
        exact ih
    · have e : i = S 6 := by omega
      have nl : ¬ nI i < c := by rw [hc]; exact nI_nlt (by omega) (by omega)
      rw [if_neg nl, e]
theorem c_clean_L90 {b : Nat} {S : Nat → Nat} {c ni gl : Int32} {la gr se ki ha si : Nat → Int32} {G : Nat → Bool} {k : (Nat → Int32) → (Nat → Int32) → Option (Int32 × (Nat → Int32) × (Nat → Int32) × (Nat → Int32))} (hc : c = nI (S 6)) (h6 : S 6 ≤ 8) : ∀ n i, i ≤ S 6 → S 6 - i < n → ∀ on aw, TR b (leaveUp G S i) c ni gl la gr se ki ha si on aw → ∃ on' aw', TR b (leaveUp G S (S 6)) c ni gl la gr se ki ha si on' aw' ∧ fX2_cleanWall_L90 c (nI (setN G (S 6))) k n (nI i) on aw = k on' aw' := by
  intro n
  induction n with
  | zero => intro i _ h; omega
  | succ n ih =>
    intro i hi hn on aw T
    rw [fX2_cleanWall_L90]
    by_cases h : i < S 6
    · have lt : nI i < c := by rw [hc]; exact nI_lt h (by omega)
      have ih := ih (i + 1) (by omega) (by omega)
      rw [leaveUp] at ih
      rw [if_pos lt, setbit_of h6 h, nI_1, zg (by omega) (by omega), zg (by omega) (by omega), nI_clamp (by omega)]
      by_cases g : G i = true
      · rw [if_pos g] at ih
        rw [if_pos g, ie0_f (by omega) (by omega)]
        exact ih _ _ (tr_uaw (tr_uon T (by omega) (by omega)) (by omega) (by omega))
      · rw [if_neg g] at ih
        rw [if_neg g, ie0_t rfl]
        exact ih _ _ T
    · have e : i = S 6 := by omega
      have nl : ¬ nI i < c := by rw [hc]; exact nI_nlt (by omega) (by omega)
      rw [if_neg nl]
      subst e
      exact ⟨on, aw, T, rfl⟩
theorem c_clean {b : Nat} {S : Nat → Nat} {c ni gl : Int32} {la gr se ki ha si on aw : Nat → Int32} {w : Nat} (T : TR b S c ni gl la gr se ki ha si on aw) (hw : w < 10) : ∃ r, fX2_cleanWall c la gr ki ha si on aw (nI w) = some r ∧ r.1 = nI (cleanCt S w) ∧ TR b (cleanN S w) c ni gl la r.2.1 se ki ha si r.2.2.1 r.2.2.2 := by
  have h6 := inv_6 T.1
  have hg := (inv_w T.1 hw).1
  have h1 := setN_lt (goesB S w) (S 6)
  have h2 := pow8 h6
  have L90 := fun k => c_clean_L90 (b := b) (ni := ni) (gl := gl) (la := la) (gr := gr) (se := se) (ki := ki) (ha := ha) (si := si) (G := goesB S w) (k := k) (tr_c T) h6 zK 0 (by omega) (by unfold zK; omega) on aw T
  unfold fX2_cleanWall
  rw [zg (by omega) (by omega), nI_clamp (by omega), zJe, tr_gr T hw]
  by_cases x : S (8 + 2 * w) = 2
  · rw [ieq_t x]
    dsimp only
    rw [zJe]
    have e := fun k => c_clean_L21 (k := k) T hw (t := 1) (by rw [if_pos x]) zK 0 (by omega) (by unfold zK; omega)
    refine (exists_congr fun r => and_congr_left fun _ => by rw [show fX2_cleanWall_L21 c la ki ha si on (nI w) (nI 1) _ zK (nI 0) (nI 0) = _ from e _, zJe]).mpr ?_
    obtain ⟨on', aw', T', e'⟩ := L90 (fun (v_on_10 : Nat → Int32) (v_away_11 : Nat → Int32) => (if nI 1 = 0 then (if nI w < 0 ∨ 10 ≤ w then none else ((fJ6_bitCount_0f7a4 (nI (setN (goesB S w) (S 6)))).bind (fun u143_13 => (some (u143_13, (upd gr w (nI 1)), v_on_10, v_away_11))))) else ((fJ6_bitCount_0f7a4 (nI (setN (goesB S w) (S 6)))).bind (fun u143 => (some (u143, gr, v_on_10, v_away_11))))))
    refine ⟨(nI (cleanCt S w), gr, on', aw'), e'.trans ?_, rfl, ?_⟩
    · rw [ie0_f (by omega) (by omega), z_bitCount _ (by omega), zbs, popc_setN _ (by omega)]
      rfl
    have T2 := tr_ugr (w := w) (v := 2) T' hw (by omega)
    unfold cleanN
    rw [if_pos x]
    have i6 := h6
    refine ⟨T2.1, T2.2.1, T2.2.2.1, T2.2.2.2.1, T2.2.2.2.2.1, fun u hu => ⟨?_, (T2.2.2.2.2.2.1 u hu).2⟩, T2.2.2.2.2.2.2⟩
    have q := (T2.2.2.2.2.2.1 u hu).1
    by_cases e : u = w
    · subst e; rw [updN_s]; show gr u = _; rw [tr_gr T hw, x]
    · rw [pk_un e] at q; exact q
  · rw [ieq_f x (by omega) (by omega)]
    dsimp only
    rw [zJe]
    have e := fun k => c_clean_L21 (k := k) T hw (t := 0) (by rw [if_neg x]) zK 0 (by omega) (by unfold zK; omega)
    refine (exists_congr fun r => and_congr_left fun _ => by rw [show fX2_cleanWall_L21 c la ki ha si on (nI w) (nI 0) _ zK (nI 0) (nI 0) = _ from e _, zJe]).mpr ?_
    obtain ⟨on', aw', T', e'⟩ := L90 (fun (v_on_10 : Nat → Int32) (v_away_11 : Nat → Int32) => (if nI 0 = 0 then (if nI w < 0 ∨ 10 ≤ w then none else ((fJ6_bitCount_0f7a4 (nI (setN (goesB S w) (S 6)))).bind (fun u143_13 => (some (u143_13, (upd gr w (nI 1)), v_on_10, v_away_11))))) else ((fJ6_bitCount_0f7a4 (nI (setN (goesB S w) (S 6)))).bind (fun u143 => (some (u143, gr, v_on_10, v_away_11))))))
    refine ⟨(nI (cleanCt S w), upd gr w (nI 1), on', aw'), e'.trans ?_, rfl, ?_⟩
    · rw [ie0_t rfl, zgc hw (by omega), z_bitCount _ (by omega), zbs, popc_setN _ (by omega)]
      rfl
    have T2 := tr_ugr (w := w) (v := 1) T' hw (by omega)
    unfold cleanN
    rw [if_neg x]
    exact T2
theorem c_come_L {b : Nat} {S : Nat → Nat} {c ni gl : Int32} {la gr se ki ha : Nat → Int32} {k : (Nat → Int32) → (Nat → Int32) → (Nat → Int32) → Option ((Nat → Int32) × (Nat → Int32) × (Nat → Int32))} (hb : b < 1000000) (hc : c = nI (S 6)) (h6 : S 6 ≤ 8) : ∀ n i, i ≤ S 6 → S 6 - i < n → ∀ si on aw, TR b (comeUp S i) c ni gl la gr se ki ha si on aw → ∃ si' on' aw', TR b (comeUp S (S 6)) c ni gl la gr se ki ha si' on' aw' ∧ fX2_comeBack_L2 c ni ki ha k n (nI i) si on aw = k si' on' aw' := by
  intro n
  induction n with
  | zero => intro i _ h; omega
  | succ n ih =>
    intro i hi hn si on aw T
    rw [fX2_comeBack_L2]
    by_cases h : i < S 6
    · have lt : nI i < c := by rw [hc]; exact nI_lt h (by omega)
      have h' : i < comeUp S i 6 := by rw [comeUp_6]; exact h
      obtain ⟨k1, k2, k3, k4, k5⟩ := inv_p T.1 (show i < 8 by omega)
      have hn4 : comeUp S i 4 ≤ b := T.1.2.2.2.2.1
      have ih := ih (i + 1) (by omega) (by omega)
      rw [comeUp] at ih
      rw [if_pos lt, zg (by omega) (by omega)]
      simp only [zgc (show i < 8 by omega) (show i < 2 ^ 31 by omega), nI_clamp (show i < 2 ^ 31 by omega), pk_us]
      rw [tr_on T h', nI_1]
      by_cases x : comeUp S i (31 + 5 * i) = 10
      · have hb2 : backN (comeUp S i) i ≤ 12 := by
          unfold backN
          repeat' split
          all_goals omega
        have em : (if aw i + nI 1 < nI 99 then aw i + nI 1 else nI 99) = nI (min 99 (comeUp S i (32 + 5 * i) + 1)) := by
          rw [tr_aw T h', nI_add]
          by_cases y : comeUp S i (32 + 5 * i) + 1 < 99
          · rw [ilt_t y (by omega)]; congr 1; omega
          · rw [ilt_f (by omega) (by omega)]; congr 1; omega
        rw [ieq_t x, em, c_back T h', zbs]
        unfold comeOne at ih
        rw [if_pos x] at ih
        by_cases y : min 99 (comeUp S i (32 + 5 * i) + 1) < backN (comeUp S i) i
        · rw [ilt_t y (by omega)]
          rw [if_pos y] at ih
          exact ih _ _ _ (tr_uaw T (by omega) (by omega))
        · have en : (ha i + ni) - (ha i + ni) / nI 10 * nI 10 = nI ((comeUp S i (29 + 5 * i) + comeUp S i 4) % 10) := by
            rw [tr_ha T h', tr_ni T, nI_add, pk_rem (by omega) (by omega) (by omega)]
          rw [ilt_f (by omega) (by omega), en]
          rw [if_neg y] at ih
          exact ih _ _ _ (tr_usi (tr_uaw (tr_uon (tr_uaw T (by omega) (by omega)) (by omega) (by omega)) (by omega) (by omega)) (by omega) (by omega))
      · rw [ieq_f x (by omega) (by omega)]
        unfold comeOne at ih
        rw [if_neg x] at ih
        exact ih _ _ _ T
    · have e : i = S 6 := by omega
      have nl : ¬ nI i < c := by rw [hc]; exact nI_nlt (by omega) (by omega)
      rw [if_neg nl]
      subst e
      exact ⟨si, on, aw, T, rfl⟩
theorem c_come {b : Nat} {S : Nat → Nat} {c ni gl : Int32} {la gr se ki ha si on aw : Nat → Int32} (hb : b < 1000000) (T : TR b S c ni gl la gr se ki ha si on aw) : ∃ r, fX2_comeBack c ni ki ha si on aw = some r ∧ TR b (comeUp S (S 6)) c ni gl la gr se ki ha r.1 r.2.1 r.2.2 := by
  have h6 := inv_6 T.1
  unfold fX2_comeBack
  rw [zJe]
  obtain ⟨si', on', aw', T', e⟩ := c_come_L (k := fun (v_size_5 : Nat → Int32) (v_on_6 : Nat → Int32) (v_away_7 : Nat → Int32) => (some (v_size_5, v_on_6, v_away_7))) hb (tr_c T) h6 zK 0 (by omega) (by unfold zK; omega) si on aw T
  exact ⟨_, e, T'⟩
/-- the walls on which one is, as a set -/
def paintUp (S : Nat → Nat) : Nat → Nat
  | 0 => 0
  | n + 1 => if S (31 + 5 * n) = 10 then paintUp S n else paintUp S n ||| 2 ^ S (31 + 5 * n)
theorem growUp_size {S : Nat → Nat} {p : Nat} : ∀ n, n ≤ p → growUp S n (30 + 5 * p) = S (30 + 5 * p) := by
  intro n h
  exact growUp_n n (fun q hq => by omega)
/-- what one grows, behind some that grew -/
theorem c_grow_L {b : Nat} {S : Nat → Nat} {c ni gl : Int32} {la gr se ki ha on aw : Nat → Int32} {s0 : Nat → Int32} {k : Int32 → (Nat → Int32) → Option (Int32 × (Nat → Int32))} {v : Int32} (T0 : TR b S c ni gl la gr se ki ha s0 on aw) : ∀ n i, i ≤ S 6 → S 6 - i < n → ∀ si, TR b (growUp S i) c ni gl la gr se ki ha si on aw → ∃ si', TR b (growUp S (S 6)) c ni gl la gr se ki ha si' on aw ∧ fX2_growAll_L2 c la gr ki on k n (nI i) (v ||| nI (paintUp S i)) si = k (v ||| nI (paintUp S (S 6))) si' := by
  have h6 := inv_6 T0.1
  have hc := tr_c T0
  intro n
  induction n with
  | zero => intro i _ h; omega
  | succ n ih =>
    intro i hi hn si T
    rw [fX2_growAll_L2]
    by_cases h : i < S 6
    · have lt : nI i < c := by rw [hc]; exact nI_lt h (by omega)
      have h' : i < growUp S i 6 := by rw [growUp_6]; exact h
      have k4 := inv_on T0.1 i (by omega)
      have k3 := (inv_p T.1 (show i < 8 by omega)).2.2.1
      have ih := ih (i + 1) (by omega) (by omega)
      rw [growUp, paintUp] at ih
      unfold growOne at ih
      rw [if_pos lt, zg (by omega) (by omega)]
      simp only [zgc (show i < 8 by omega) (show i < 2 ^ 31 by omega), nI_clamp (show i < 2 ^ 31 by omega)]
      rw [tr_on T0 h, nI_1]
      by_cases x : S (31 + 5 * i) = 10
      · rw [ieq_t x]
        rw [if_pos x, if_pos x] at ih
        refine ih _ ?_
        have T2 := tr_usi (p := i) (v := growUp S i (30 + 5 * i)) T (by omega) k3
        refine ⟨T2.1, T2.2.1, T2.2.2.1, T2.2.2.2.1, T2.2.2.2.2.1, T2.2.2.2.2.2.1, fun q hq => ?_⟩
        have z := T2.2.2.2.2.2.2 q hq
        by_cases e : q = i
        · subst e
          rw [pk_us] at z
          refine ⟨z.1, z.2.1, ?_, z.2.2.2⟩
          rw [updN_s]; exact tr_si T h'
        · rw [pk_un e] at z; exact z
      · rw [ieq_f x (by omega) (by omega), c_grows T0 h x, zbs, c_heldSize, zbs, tr_si T h', nI_bit _ (by omega), Int32.or_assoc, nI_or]
        rw [if_neg x, if_neg x] at ih
        exact ih _ (tr_usi T (by omega) (clampN_le _))
    · have e : i = S 6 := by omega
      have nl : ¬ nI i < c := by rw [hc]; exact nI_nlt (by omega) (by omega)
      rw [if_neg nl]
      subst e
      exact ⟨si, T, rfl⟩
theorem c_grow {b : Nat} {S : Nat → Nat} {c ni gl : Int32} {la gr se ki ha si on aw : Nat → Int32} {v : Int32} (T : TR b S c ni gl la gr se ki ha si on aw) : ∃ r, fX2_growAll c v la gr ki si on = some r ∧ r.1 = v ||| nI (paintUp S (S 6)) ∧ TR b (growUp S (S 6)) c ni gl la gr se ki ha r.2 on aw := by
  have h6 := inv_6 T.1
  unfold fX2_growAll
  rw [zJe]
  obtain ⟨si', T', e⟩ := c_grow_L (k := fun (v_paintedOn_4 : Int32) (v_size_5 : Nat → Int32) => (some (v_paintedOn_4, v_size_5))) (v := v) T zK 0 (by omega) (by unfold zK; omega) si T
  rw [show v ||| nI (paintUp S 0) = v from Int32.or_zero] at e
  exact ⟨_, e, rfl, T'⟩
