/-! the class's busiest wall, its night -/
theorem c_busy_L2 {k : (Nat → Int32) → Option (Int32 × (Nat → Int32))} : ∀ n i, i ≤ 10 → 10 - i < n → ∀ wl : Nat → Int32, (∀ j, j < i → wl j = nI 0) → ∃ wl' : Nat → Int32, (∀ j, j < 10 → wl' j = nI 0) ∧ fX2_busiestWall_L2 k n (nI i) wl = k wl' := by
  intro n
  induction n with
  | zero => intro i _ h; omega
  | succ n ih =>
    intro i hi hn wl hw
    rw [fX2_busiestWall_L2]
    by_cases h : i < 10
    · rw [ilt_t h (by omega), zg (by omega) (by omega), nI_clamp (by omega), nI_1]
      refine ih (i + 1) (by omega) (by omega) _ (fun j hj => ?_)
      by_cases e : j = i
      · rw [e, pk_us]
      · rw [pk_un e]; exact hw j (by omega)
    · rw [ilt_f (by omega) (by omega)]
      exact ⟨wl, fun j hj => hw j (by omega), rfl⟩
theorem c_busy_L23 {b : Nat} {S : Nat → Nat} {c ni gl : Int32} {la gr se ki ha si on aw : Nat → Int32} {k : (Nat → Int32) → Option (Int32 × (Nat → Int32))} (T : TR b S c ni gl la gr se ki ha si on aw) : ∀ n i, i ≤ S 6 → S 6 - i < n → ∀ wl : Nat → Int32, (∀ w, w < 10 → wl w = nI (sumOn S w i * S (9 + 2 * w))) → ∃ wl' : Nat → Int32, (∀ w, w < 10 → wl' w = nI (looksN S w)) ∧ fX2_busiestWall_L23 c se si on k n (nI i) wl = k wl' := by
  have h6 := inv_6 T.1
  have hc := tr_c T
  intro n
  induction n with
  | zero => intro i _ h; omega
  | succ n ih =>
    intro i hi hn wl hw
    rw [fX2_busiestWall_L23]
    by_cases h : i < S 6
    · have lt : nI i < c := by rw [hc]; exact nI_lt h (by omega)
      have k4 := inv_on T.1 i (by omega)
      have ih := ih (i + 1) (by omega) (by omega)
      rw [if_pos lt, zg (by omega) (by omega)]
      simp only [zgc (show i < 8 by omega) (show i < 2 ^ 31 by omega), nI_clamp (show i < 2 ^ 31 by omega)]
      rw [tr_on T h, nI_1]
      by_cases e : S (31 + 5 * i) = 10
      · rw [ieq_t e]
        refine ih wl (fun w hx => ?_)
        rw [sumOn, if_neg (by omega), Nat.add_zero]; exact hw w hx
      · rw [ieq_f e (by omega) (by omega)]
        simp only [zgc (show S (31 + 5 * i) < 10 by omega) (show S (31 + 5 * i) < 2 ^ 31 by omega), nI_clamp (show S (31 + 5 * i) < 2 ^ 31 by omega)]
        refine ih _ (fun w hx => ?_)
        rw [sumOn]
        by_cases y : w = S (31 + 5 * i)
        · rw [y, pk_us, hw _ (by omega), tr_se T (by omega), tr_si T h, if_pos rfl, nI_mul, nI_add, Nat.add_mul, Nat.mul_comm (S (30 + 5 * i))]
        · rw [pk_un y, if_neg (fun q => y q.symm), Nat.add_zero]; exact hw w hx
    · have e : i = S 6 := by omega
      have nl : ¬ nI i < c := by rw [hc]; exact nI_nlt (by omega) (by omega)
      rw [if_neg nl]
      subst e
      exact ⟨wl, hw, rfl⟩
def mostUp (S : Nat → Nat) : Nat → Nat
  | 0 => 0
  | n + 1 => if mostUp S n < looksN S n then looksN S n else mostUp S n
def bestUp (S : Nat → Nat) : Nat → Int32
  | 0 => -1
  | n + 1 => if mostUp S n < looksN S n then nI n else bestUp S n
theorem best_busy (S : Nat → Nat) : ∀ m, looksN S (busyN S m) = mostUp S (m + 1) ∧ (0 < mostUp S (m + 1) → bestUp S (m + 1) = nI (busyN S m)) ∧ (mostUp S (m + 1) = 0 → bestUp S (m + 1) = -1) := by
  intro m
  induction m with
  | zero =>
    rw [busyN, mostUp, bestUp, mostUp, bestUp]
    by_cases h : 0 < looksN S 0
    · rw [if_pos h, if_pos h]; exact ⟨rfl, fun _ => rfl, fun q => by omega⟩
    · rw [if_neg h, if_neg h]; exact ⟨by omega, fun q => by omega, fun _ => rfl⟩
  | succ m ih =>
    obtain ⟨e1, e2, e3⟩ := ih
    rw [busyN, mostUp, bestUp, e1]
    by_cases h : mostUp S (m + 1) < looksN S (m + 1)
    · rw [if_pos h, if_pos h, if_pos h]; exact ⟨rfl, fun _ => rfl, fun q => by omega⟩
    · rw [if_neg h, if_neg h, if_neg h]; exact ⟨e1, e2, e3⟩
theorem mostUp_le {b : Nat} {S : Nat → Nat} (I : Inv b S) : ∀ n, n ≤ 10 → mostUp S n ≤ 7128 := by
  intro n
  induction n with
  | zero => intro _; exact Nat.zero_le _
  | succ n ih =>
    intro h
    have := looksN_le (w := n) I (by omega)
    have := ih (by omega)
    rw [mostUp]
    split <;> omega
theorem c_busy_L86 {b : Nat} {S : Nat → Nat} {wl : Nat → Int32} {k : Int32 → Option (Int32 × (Nat → Int32))} (I : Inv b S) (hw : ∀ w, w < 10 → wl w = nI (looksN S w)) : ∀ n i, i ≤ 10 → 10 - i < n → fX2_busiestWall_L86 wl k n (bestUp S i) (nI (mostUp S i)) (nI i) = k (bestUp S 10) := by
  intro n
  induction n with
  | zero => intro i _ h; omega
  | succ n ih =>
    intro i hi hn
    rw [fX2_busiestWall_L86]
    by_cases h : i < 10
    · have h1 := looksN_le (w := i) I h
      have h2 := mostUp_le I i (by omega)
      have ih := ih (i + 1) (by omega) (by omega)
      rw [bestUp, mostUp] at ih
      rw [ilt_t h (by omega), zg (by omega) (by omega)]
      simp only [zgc (show i < 10 by omega) (show i < 2 ^ 31 by omega), nI_clamp (show i < 2 ^ 31 by omega)]
      rw [hw i h, nI_1]
      by_cases x : mostUp S i < looksN S i
      · rw [ilt_t x (by omega)]
        rw [if_pos x, if_pos x] at ih
        exact ih
      · rw [ilt_f (by omega) (by omega)]
        rw [if_neg x, if_neg x] at ih
        exact ih
    · have e : i = 10 := by omega
      rw [ilt_f (by omega) (by omega), e]
theorem c_busy {b : Nat} {S : Nat → Nat} {c ni gl : Int32} {la gr se ki ha si on aw : Nat → Int32} {wl : Nat → Int32} (T : TR b S c ni gl la gr se ki ha si on aw) : ∃ wl' : Nat → Int32, fX2_busiestWall c se si on wl = some (bestUp S 10, wl') := by
  have h6 := inv_6 T.1
  unfold fX2_busiestWall
  rw [zJe]
  obtain ⟨w1, h1, e1⟩ := c_busy_L2 (k := fun (v_wallLooks_3 : Nat → Int32) => (zJ (fun (v_wallLooks_7 : Nat → Int32) => (zJ (fun (y1_12 : Int32) => (some (y1_12, v_wallLooks_7))) (fun k_13 => (fX2_busiestWall_L86 v_wallLooks_7 k_13 zK (-1 : Int32) (nI 0) (nI 0))))) (fun k_8 => (fX2_busiestWall_L23 c se si on k_8 zK (nI 0) v_wallLooks_3)))) zK 0 (by omega) (by unfold zK; omega) wl (fun j hj => by omega)
  obtain ⟨w2, h2, e2⟩ := c_busy_L23 (k := fun (v_wallLooks_7 : Nat → Int32) => (zJ (fun (y1_12 : Int32) => (some (y1_12, v_wallLooks_7))) (fun k_13 => (fX2_busiestWall_L86 v_wallLooks_7 k_13 zK (-1 : Int32) (nI 0) (nI 0))))) T zK 0 (by omega) (by unfold zK; omega) w1 (fun w hw => by rw [h1 w hw, sumOn, Nat.zero_mul])
  refine ⟨w2, e1.trans ?_⟩
  rw [zJe]
  refine e2.trans ?_
  rw [zJe]
  exact c_busy_L86 (k := fun (y1_12 : Int32) => (some (y1_12, w2))) T.1 h2 zK 0 (by omega) (by unfold zK; omega)
theorem bucketUp_still {S : Nat → Nat} {i : Nat} (h : ¬ 0 < looksN (bucketUp S i) (busyN (bucketUp S i) 9)) : ∀ d, bucketUp S (i + d) = bucketUp S i := by
  intro d
  induction d with
  | zero => rfl
  | succ d ih =>
    rw [show i + (d + 1) = (i + d) + 1 by omega, bucketUp, ih]
    unfold bucketN
    rw [if_neg h]
theorem c_pass_L {b : Nat} {S : Nat → Nat} {c ni gl : Int32} {la se ki ha : Nat → Int32} {u : Int32 × (Nat → Int32)} {k : (Nat → Int32) → (Nat → Int32) → (Nat → Int32) → (Nat → Int32) → Option (Int32 × Int32 × Int32 × Int32 × (Nat → Int32) × (Nat → Int32) × (Nat → Int32) × (Nat → Int32) × (Nat → Int32))} (h0 : S 0 ≤ 9) : ∀ n i, i ≤ S 0 → S 0 - i < n → ∀ gr on aw wl, TR b (bucketUp S i) c ni gl la gr se ki ha u.2 on aw → ∃ gr' on' aw' wl', TR b (bucketUp S (S 0)) c ni gl la gr' se ki ha u.2 on' aw' ∧ fX2_passNight_L10 c la se ki ha u k k n (nI i) gr on aw wl = k gr' on' aw' wl' := by
  intro n
  induction n with
  | zero => intro i _ h; omega
  | succ n ih =>
    intro i hi hn gr on aw wl T
    rw [fX2_passNight_L10, tr_la T (show 0 < 4 by omega), bucketUp_0]
    by_cases h : i < S 0
    · have ih := ih (i + 1) (by omega) (by omega)
      rw [ilt_t h (by omega), nI_1]
      obtain ⟨wl', e⟩ := c_busy (wl := wl) T
      obtain ⟨b1, b2, b3⟩ := best_busy (bucketUp S i) 9
      have bl := busyN_le (bucketUp S i) 9
      rw [e, zbs]
      by_cases x : 0 < mostUp (bucketUp S i) (9 + 1)
      · rw [show bestUp (bucketUp S i) 10 = _ from b2 x]
        obtain ⟨r, e2, _, T2⟩ := c_clean T (show busyN (bucketUp S i) 9 < 10 by omega)
        rw [if_neg (show ¬ (nI (busyN (bucketUp S i) 9) < 0) from nI_pos (by omega))]
        dsimp only
        rw [e2, zbs]
        rw [bucketUp] at ih
        unfold bucketN at ih
        rw [if_pos (by rw [b1]; exact x)] at ih
        exact ih _ _ _ _ T2
      · rw [show bestUp (bucketUp S i) 10 = _ from b3 (by omega)]
        rw [if_pos (show (-1 : Int32) < 0 by decide)]
        have es := bucketUp_still (S := S) (i := i) (by rw [b1]; exact x) (S 0 - i)
        rw [show i + (S 0 - i) = S 0 by omega] at es
        rw [es]
        exact ⟨gr, on, aw, wl', T, rfl⟩
    · have e : i = S 0 := by omega
      rw [ilt_f (by omega) (by omega)]
      subst e
      exact ⟨gr, on, aw, wl, T, rfl⟩
theorem c_pass {b : Nat} {S : Nat → Nat} {c ni gl : Int32} {la gr se ki ha si on aw : Nat → Int32} {gain pt : Int32} {wl : Nat → Int32} (hb : b < 1000000) (T : TR b S c ni gl la gr se ki ha si on aw) : ∃ r, fX2_passNight c ni gl gain pt la gr se ki ha si on aw wl = some r ∧ TR (b + 1) (nightN S) c r.1 r.2.1 la r.2.2.2.2.1 se ki ha r.2.2.2.2.2.1 r.2.2.2.2.2.2.1 r.2.2.2.2.2.2.2.1 ∧ r.2.2.1 = gain + nI (looksAllN (stillN S)) ∧ r.2.2.2.1 = pt ||| nI (paintUp (comeUp S (S 6)) (S 6)) := by
  have h6 := inv_6 T.1
  obtain ⟨r1, e1, T1⟩ := c_come hb T
  obtain ⟨r2, e2, p2, T2⟩ := c_grow (v := pt) T1
  rw [comeUp_6] at p2 T2
  have h0 : growUp (comeUp S (S 6)) (S 6) 0 ≤ 9 := T2.1.1
  have L := fun k => c_pass_L (u := r2) (k := k) h0 zK 0 (by omega) (by unfold zK; omega) gr r1.2.1 r1.2.2 wl T2
  have es : stillN S = bucketUp (growUp (comeUp S (S 6)) (S 6)) (growUp (comeUp S (S 6)) (S 6) 0) := by
    show bucketUp (growUp (comeUp S (S 6)) (comeUp S (S 6) 6)) (growUp (comeUp S (S 6)) (comeUp S (S 6) 6) 0) = _
    rw [comeUp_6]
  unfold fX2_passNight
  rw [e1, zbs, e2, zbs, zJe, zJe]
  obtain ⟨gr', on', aw', wl', T3, e3⟩ := L (fun (v_ground_6 : Nat → Int32) (v_on_7 : Nat → Int32) (v_away_8 : Nat → Int32) (v_wallLooks_9 : Nat → Int32) => ((fX2_looksOfAll c se r2.2 v_on_7).bind (fun u55 => (some ((ni + (nI 1)), (if (gl + u55) < (nI 99999) then (gl + u55) else (nI 99999)), (gain + u55), r2.1, v_ground_6, r2.2, v_on_7, v_away_8, v_wallLooks_9)))))
  rw [← es] at T3
  have hl := looksAll_le T3.1
  have h5 : stillN S 5 ≤ 99999 := T3.1.2.2.2.2.2.1
  have hgl := tr_gl T3
  have eg : (if (gl + nI (looksAllN (stillN S))) < (nI 99999) then (gl + nI (looksAllN (stillN S))) else (nI 99999)) = nI (min 99999 (stillN S 5 + looksAllN (stillN S))) := by
    rw [hgl, nI_add]
    by_cases y : stillN S 5 + looksAllN (stillN S) < 99999
    · rw [ilt_t y (by omega)]; congr 1; omega
    · rw [ilt_f (by omega) (by omega)]; congr 1; omega
  refine ⟨(ni + nI 1, nI (min 99999 (stillN S 5 + looksAllN (stillN S))), gain + nI (looksAllN (stillN S)), r2.1, gr', r2.2, on', aw', wl'), e3.trans ?_, ?_, rfl, p2⟩
  · rw [c_looksOfAll T3, zbs, eg]
  · have hni := tr_ni T3
    have q := tr_uni (b' := b + 1) T3 (by omega) (by have := T3.1.2.2.2.2.1; omega)
    have q2 := tr_ugl (v := min 99999 (stillN S 5 + looksAllN (stillN S))) q (by omega)
    rw [show ni + nI 1 = nI (stillN S 4 + 1) by rw [hni, nI_add]]
    exact q2
/-- the walls that were painted on in the first n nights -/
def paintsN (S : Nat → Nat) : Nat → Nat
  | 0 => 0
  | n + 1 => paintsN S n ||| paintUp (comeUp (nightsN S n) (nightsN S n 6)) (nightsN S n 6)
theorem c_gained_L {b : Nat} {S : Nat → Nat} {c : Int32} {la se ki ha : Nat → Int32} {m : Nat} {gain0 pt0 : Int32} {k : Int32 → Int32 → Int32 → Int32 → (Nat → Int32) → (Nat → Int32) → (Nat → Int32) → (Nat → Int32) → (Nat → Int32) → Option (Int32 × Int32 × Int32 × Int32 × Int32 × (Nat → Int32) × (Nat → Int32) × (Nat → Int32) × (Nat → Int32) × (Nat → Int32))} (hb : b < 900000) (hm : m < 1000) : ∀ n i, i ≤ m → m - i < n → ∀ ni gl gain pt gr si on aw wl, TR (b + i) (nightsN S i) c ni gl la gr se ki ha si on aw → gain = gain0 + nI (seenN S i) → pt = pt0 ||| nI (paintsN S i) → ∃ ni' gl' gr' si' on' aw' wl', TR (b + m) (nightsN S m) c ni' gl' la gr' se ki ha si' on' aw' ∧ fX2_gainedBy_L2 c la se ki ha (nI m) k n (nI i) ni gl gain pt gr si on aw wl = k ni' gl' (gain0 + nI (seenN S m)) (pt0 ||| nI (paintsN S m)) gr' si' on' aw' wl' := by
  intro n
  induction n with
  | zero => intro i _ h; omega
  | succ n ih =>
    intro i hi hn ni gl gain pt gr si on aw wl T hg hp
    rw [fX2_gainedBy_L2]
    by_cases h : i < m
    · rw [ilt_t h (by omega), nI_1]
      obtain ⟨r, e, T2, g2, p2⟩ := c_pass (gain := gain) (pt := pt) (wl := wl) (by omega) T
      rw [e, zbs]
      refine ih (i + 1) (by omega) (by omega) _ _ _ _ _ _ _ _ _ T2 ?_ ?_
      · rw [g2, hg, Int32.add_assoc, nI_add]; rfl
      · rw [p2, hp, Int32.or_assoc, nI_or]; rfl
    · have e : i = m := by omega
      rw [ilt_f (by omega) (by omega)]
      subst e
      rw [hg, hp]
      exact ⟨ni, gl, gr, si, on, aw, wl, T, rfl⟩
theorem c_gained {b : Nat} {S : Nat → Nat} {c ni gl : Int32} {la gr se ki ha si on aw : Nat → Int32} {m : Nat} {gain pt : Int32} {wl : Nat → Int32} (hb : b < 900000) (hm : m < 1000) (T : TR b S c ni gl la gr se ki ha si on aw) : ∃ r, fX2_gainedBy c ni gl gain pt la gr se ki ha si on aw wl (nI m) = some r ∧ r.1 = gain + nI (seenN S m) ∧ TR (b + m) (nightsN S m) c r.2.1 r.2.2.1 la r.2.2.2.2.2.1 se ki ha r.2.2.2.2.2.2.1 r.2.2.2.2.2.2.2.1 r.2.2.2.2.2.2.2.2.1 := by
  unfold fX2_gainedBy
  rw [zJe]
  obtain ⟨ni', gl', gr', si', on', aw', wl', T', e⟩ := c_gained_L (k := fun (v_nightsPassed_11 : Int32) (v_glances_12 : Int32) (v_gained_13 : Int32) (v_paintedOn_14 : Int32) (v_ground_15 : Nat → Int32) (v_size_16 : Nat → Int32) (v_on_17 : Nat → Int32) (v_away_18 : Nat → Int32) (v_wallLooks_19 : Nat → Int32) => (some (v_gained_13, v_nightsPassed_11, v_glances_12, v_gained_13, v_paintedOn_14, v_ground_15, v_size_16, v_on_17, v_away_18, v_wallLooks_19))) (gain0 := gain) (pt0 := pt) hb hm zK 0 (by omega) (by unfold zK; omega) ni gl gain pt gr si on aw wl T (Int32.add_zero gain).symm Int32.or_zero.symm
  exact ⟨_, e, rfl, T'⟩
/-- how many nights pass till more than v is looked at, at most m -/
theorem c_most_L {b : Nat} {S : Nat → Nat} {c : Int32} {la se ki ha : Nat → Int32} {m v : Nat} {k : Int32 → Int32 → Int32 → Int32 → (Nat → Int32) → (Nat → Int32) → (Nat → Int32) → (Nat → Int32) → (Nat → Int32) → Option (Int32 × Int32 × Int32 × Int32 × Int32 × (Nat → Int32) × (Nat → Int32) × (Nat → Int32) × (Nat → Int32) × (Nat → Int32))} (hb : b < 900000) (hm : m < 100) (hv : v < 2 ^ 31) (hs : ∀ i, i ≤ m → seenN S i < 2 ^ 31) : ∀ n i, i ≤ m → m - i < n → ∀ ni gl gain pt gr si on aw wl, TR (b + i) (nightsN S i) c ni gl la gr se ki ha si on aw → gain = nI (seenN S i) → pt = nI (paintsN S i) → ∃ t, t ≤ m ∧ (t = m ∨ v < seenN S t) ∧ ∃ ni' gl' gr' si' on' aw' wl', TR (b + t) (nightsN S t) c ni' gl' la gr' se ki ha si' on' aw' ∧ fX2_gainsAtMost_L2 c la se ki ha (nI m) (nI v) k n (nI i) ni gl gain pt gr si on aw wl = k ni' gl' (nI (seenN S t)) (nI (paintsN S t)) gr' si' on' aw' wl' := by
  intro n
  induction n with
  | zero => intro i _ h; omega
  | succ n ih =>
    intro i hi hn ni gl gain pt gr si on aw wl T hg hp
    rw [fX2_gainsAtMost_L2]
    by_cases h : i < m
    · rw [ilt_t h (by omega), nI_1, hg]
      have := hs i hi
      by_cases y : v < seenN S i
      · rw [ilt_t y (by omega), hp]
        exact ⟨i, hi, Or.inr y, ni, gl, gr, si, on, aw, wl, T, rfl⟩
      · rw [ilt_f (by omega) (by omega)]
        obtain ⟨r, e, T2, g2, p2⟩ := c_pass (gain := nI (seenN S i)) (pt := pt) (wl := wl) (by omega) T
        rw [e, zbs]
        refine ih (i + 1) (by omega) (by omega) _ _ _ _ _ _ _ _ _ T2 ?_ ?_
        · rw [g2, nI_add]; rfl
        · rw [p2, hp, nI_or]; rfl
    · have e : i = m := by omega
      rw [ilt_f (by omega) (by omega)]
      subst e
      rw [hg, hp]
      exact ⟨i, hi, Or.inl rfl, ni, gl, gr, si, on, aw, wl, T, rfl⟩
theorem seenN_le {b : Nat} {S : Nat → Nat} (I : Inv b S) : ∀ n, seenN S n ≤ 71280 * n := by
  intro n
  induction n with
  | zero => exact Nat.le_refl 0
  | succ n ih =>
    have := looksAll_le (inv_still (inv_nights I n))
    rw [seenN]; omega
theorem seenN_mono {S : Nat → Nat} {t m : Nat} (h : t ≤ m) : seenN S t ≤ seenN S m := by
  induction m with
  | zero => rw [show t = 0 by omega]; exact Nat.le_refl _
  | succ m ih =>
    by_cases e : t = m + 1
    · rw [e]; exact Nat.le_refl _
    · have := ih (by omega)
      rw [seenN]; omega
theorem c_most {b : Nat} {S : Nat → Nat} {c ni gl : Int32} {la gr se ki ha si on aw : Nat → Int32} {m v : Nat} {wl : Nat → Int32} (hb : b < 900000) (hm : m < 100) (hv : v < 2 ^ 31) (T : TR b S c ni gl la gr se ki ha si on aw) : ∃ t, t ≤ m ∧ (t = m ∨ v < seenN S t) ∧ ∃ r, fX2_gainsAtMost c ni gl (nI 0) (nI 0) la gr se ki ha si on aw wl (nI m) (nI v) = some r ∧ r.1 = nI (if seenN S m ≤ v then 1 else 0) ∧ r.2.2.2.2.1 = nI (paintsN S t) ∧ TR (b + t) (nightsN S t) c r.2.1 r.2.2.1 la r.2.2.2.2.2.1 se ki ha r.2.2.2.2.2.2.1 r.2.2.2.2.2.2.2.1 r.2.2.2.2.2.2.2.2.1 := by
  have hs : ∀ i, i ≤ m → seenN S i < 2 ^ 31 := fun i hi => by have := seenN_le T.1 i; omega
  unfold fX2_gainsAtMost
  rw [zJe]
  obtain ⟨t, ht, ho, ni', gl', gr', si', on', aw', wl', T', e⟩ := c_most_L (v := v) (k := fun (v_nightsPassed_11 : Int32) (v_glances_12 : Int32) (v_gained_13 : Int32) (v_paintedOn_14 : Int32) (v_ground_15 : Nat → Int32) (v_size_16 : Nat → Int32) (v_on_17 : Nat → Int32) (v_away_18 : Nat → Int32) (v_wallLooks_19 : Nat → Int32) => (if nI v < v_gained_13 then (some ((nI 0), v_nightsPassed_11, v_glances_12, v_gained_13, v_paintedOn_14, v_ground_15, v_size_16, v_on_17, v_away_18, v_wallLooks_19)) else (some ((nI 1), v_nightsPassed_11, v_glances_12, v_gained_13, v_paintedOn_14, v_ground_15, v_size_16, v_on_17, v_away_18, v_wallLooks_19)))) hb hm hv hs zK 0 (by omega) (by unfold zK; omega) ni gl (nI 0) (nI 0) gr si on aw wl T rfl rfl
  have h1 := hs t ht
  have h2 := seenN_mono (S := S) ht
  refine ⟨t, ht, ho, ?_⟩
  by_cases y : v < seenN S t
  · refine ⟨_, e.trans (ilt_t y h1), ?_, rfl, T'⟩
    rw [if_neg (by omega)]
  · have : t = m := by omega
    subst this
    refine ⟨_, e.trans (ilt_f (by omega) hv), ?_, rfl, T'⟩
    rw [if_pos (by omega)]
