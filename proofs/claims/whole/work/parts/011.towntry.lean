/-! draws -/
def dz (z : Int32) : Int32 := z * nI 1103515245 + nI 12345
def dv (z : Int32) : Nat := (dz z).toBitVec.toNat / 65536
theorem dv_lt (z : Int32) : dv z < 65536 := by
  unfold dv
  have := (dz z).toBitVec.isLt
  omega
theorem dv_e (z : Int32) : (((dz z).toUInt32 >>> ((nI 16).toUInt32 &&& Int32.toUInt32 31)).toInt32) = nI (dv z) := by
  have h := dv_lt z
  apply Int32.toBitVec_inj.mp
  apply BitVec.eq_of_toNat_eq
  rw [pk_ushr (dz z) (nI 16) 16 (by decide), pk_tn (by omega)]
  rfl
def frightP (S : Nat → Nat) (d1 d2 : Nat) : Nat → Nat := if 0 < S 6 then (if d2 % 100 < S 3 then updN S (30 + 5 * (d1 % S 6)) (S (30 + 5 * (d1 % S 6)) / 2) else S) else S
def frightN (S : Nat → Nat) (z : Int32) : Nat → Nat := frightP S (dv z) (dv (dz z))
def endZ (S : Nat → Nat) (z : Int32) : Int32 := if 0 < S 6 then dz (dz z) else z
theorem inv_frightP {b d1 d2 : Nat} {S : Nat → Nat} (I : Inv b S) : Inv b (frightP S d1 d2) := by
  unfold frightP
  split
  · next h =>
    have h6 := inv_6 I
    have := Nat.mod_lt d1 h
    split
    · refine inv_upd I ?_
      rw [bnd_z (by omega)]
      have := (inv_p I (show d1 % S 6 < 8 by omega)).2.2.1
      omega
    · exact I
  · exact I
theorem inv_fright {b : Nat} {S : Nat → Nat} {z : Int32} (I : Inv b S) : Inv b (frightN S z) := inv_frightP I
theorem fright_6 {S : Nat → Nat} {z : Int32} : frightN S z 6 = S 6 := by
  unfold frightN frightP
  split
  · split
    · rw [updN_n (by omega)]
    · rfl
  · rfl
theorem c_draw (z : Int32) : fX2_draw z = some (nI (dv z), dz z) := by
  unfold fX2_draw
  rw [← dv_e z]; rfl
theorem c_nightP {b : Nat} {S : Nat → Nat} {c ni gl dr : Int32} {la gr se ki ha si on aw : Nat → Int32} {d1 d2 : Nat} {z1 z2 : Int32} {gain pt : Int32} {wl : Nat → Int32} (hb : b < 900000) (T : TR b S c ni gl la gr se ki ha si on aw) (e1 : fX2_draw dr = some (nI d1, z1)) (e2 : fX2_draw z1 = some (nI d2, z2)) (hd1 : d1 < 65536) (hd2 : d2 < 65536) : ∃ r, fX2_passNightByDraws c ni gl dr gain pt la gr se ki ha si on aw wl = some r ∧ TR (b + 1) (nightN (frightP S d1 d2)) c r.1 r.2.1 la r.2.2.2.2.2.1 se ki ha r.2.2.2.2.2.2.1 r.2.2.2.2.2.2.2.1 r.2.2.2.2.2.2.2.2.1 ∧ r.2.2.1 = (if 0 < S 6 then z2 else dr) ∧ r.2.2.2.1 = gain + nI (looksAllN (stillN (frightP S d1 d2))) := by
  have h6 := inv_6 T.1
  have h3 : S 3 ≤ 99 := T.1.2.2.2.1
  have hc := tr_c T
  unfold fX2_passNightByDraws
  by_cases x : 0 < S 6
  · have lt : 0 < c := by rw [hc, nI_0lt (by omega)]; exact x
    have ne : ¬ c = 0 := by rw [hc]; exact nI_ne0 x (by omega)
    have hp := Nat.mod_lt d1 x
    have ep : (nI d1 - nI d1 / c * c) = nI (d1 % S 6) := by rw [hc, pk_rem (by omega) x (by omega)]
    have eq : (nI d2 - nI d2 / nI 100 * nI 100) = nI (d2 % 100) := pk_rem (by omega) (by omega) (by omega)
    rw [if_pos lt, e1, zbs, if_neg ne]
    dsimp only
    rw [e2, zbs]
    dsimp only
    rw [ep, eq, tr_la T (show 3 < 4 by omega), zg (by omega) (by omega), zg (by omega) (by omega), nI_clamp (by omega)]
    by_cases y : d2 % 100 < S 3
    · have k3 := (inv_p T.1 (show d1 % S 6 < 8 by omega)).2.2.1
      have T2 := tr_usi (p := d1 % S 6) (v := S (30 + 5 * (d1 % S 6)) / 2) T (by omega) (by omega)
      obtain ⟨r, e, T3, g3, _⟩ := c_pass (gain := gain) (pt := pt) (wl := wl) (by omega) T2
      rw [ilt_t y (by omega), tr_si T hp, pk_div (by omega) (by omega) (by omega), e, zbs]
      refine ⟨_, rfl, ?_, ?_, ?_⟩
      · unfold frightP; rw [if_pos x, if_pos y]; exact T3
      · rw [if_pos x]
      · unfold frightP; rw [if_pos x, if_pos y]; exact g3
    · obtain ⟨r, e, T3, g3, _⟩ := c_pass (gain := gain) (pt := pt) (wl := wl) (by omega) T
      rw [ilt_f (by omega) (by omega), e, zbs]
      refine ⟨_, rfl, ?_, ?_, ?_⟩
      · unfold frightP; rw [if_pos x, if_neg y]; exact T3
      · rw [if_pos x]
      · unfold frightP; rw [if_pos x, if_neg y]; exact g3
  · have nl : ¬ 0 < c := by rw [hc, nI_0lt (by omega)]; exact x
    obtain ⟨r, e, T3, g3, _⟩ := c_pass (gain := gain) (pt := pt) (wl := wl) (by omega) T
    rw [if_neg nl, e, zbs]
    refine ⟨_, rfl, ?_, ?_, ?_⟩
    · unfold frightP; rw [if_neg x]; exact T3
    · rw [if_neg x]
    · unfold frightP; rw [if_neg x]; exact g3
theorem c_nightD {b : Nat} {S : Nat → Nat} {c ni gl dr : Int32} {la gr se ki ha si on aw : Nat → Int32} {gain pt : Int32} {wl : Nat → Int32} (hb : b < 900000) (T : TR b S c ni gl la gr se ki ha si on aw) : ∃ r, fX2_passNightByDraws c ni gl dr gain pt la gr se ki ha si on aw wl = some r ∧ TR (b + 1) (nightN (frightN S dr)) c r.1 r.2.1 la r.2.2.2.2.2.1 se ki ha r.2.2.2.2.2.2.1 r.2.2.2.2.2.2.2.1 r.2.2.2.2.2.2.2.2.1 ∧ r.2.2.1 = endZ S dr ∧ r.2.2.2.1 = gain + nI (looksAllN (stillN (frightN S dr))) := c_nightP hb T (c_draw dr) (c_draw (dz dr)) (dv_lt _) (dv_lt _)
theorem s_drawn {S : Nat → Nat} {z : Int32} : fX5_drawn (rowOf S z) = some (nI (dv z), rowOf S (dz z)) := by
  unfold fX5_drawn
  rw [pk_us, r7, rowOf_upd7, ← dv_e z]; rfl
theorem s_nightP {b d1 d2 : Nat} {S : Nat → Nat} {z z1 z2 v : Int32} {g : Nat → Int32} (hb : b < 900000) (I : Inv b S) (e1 : fX5_drawn (rowOf S z) = some (nI d1, rowOf S z1)) (e2 : fX5_drawn (rowOf S z1) = some (nI d2, rowOf S z2)) (hd1 : d1 < 65536) (hd2 : d2 < 65536) : ∃ g', fX5_nightByDraws v (rowOf S z) g = some (v + nI (looksAllN (stillN (frightP S d1 d2))), rowOf (nightN (frightP S d1 d2)) (if 0 < S 6 then z2 else z), g') := by
  have h6 := inv_6 I
  have h3 : S 3 ≤ 99 := I.2.2.2.1
  unfold fX5_nightByDraws
  rw [r6]
  by_cases x : 0 < S 6
  · have hp := Nat.mod_lt d1 x
    have ne : ¬ rowOf S z1 6 = 0 := by rw [r6]; exact nI_ne0 x (by omega)
    have ep : (nI d1 - nI d1 / rowOf S z1 6 * rowOf S z1 6) = nI (d1 % S 6) := by rw [r6, pk_rem (by omega) x (by omega)]
    have eq : (nI d2 - nI d2 / nI 100 * nI 100) = nI (d2 % 100) := pk_rem (by omega) (by omega) (by omega)
    rw [i0l_t x (by omega), e1, zbs]
    dsimp only
    rw [if_neg ne, e2, zbs]
    dsimp only
    rw [ep, eq, if_pos x]
    by_cases y : d2 % 100 < S 3
    · have k3 := (inv_p I (show d1 % S 6 < 8 by omega)).2.2.1
      have I2 : Inv b (updN S (30 + 5 * (d1 % S 6)) (S (30 + 5 * (d1 % S 6)) / 2)) := inv_upd I (by rw [bnd_z (by omega)]; omega)
      rw [if_pos (show nI (d2 % 100) < rowOf S z2 3 from nI_lt y (by omega)), s_its2 (by omega), zbs, pk_div (by omega) (by omega) (by omega), s_sets2 (by omega), zbs]
      obtain ⟨g', e⟩ := s_nightGoes (z := z2) (v := v) (g := g) (by omega) I2
      refine ⟨g', ?_⟩
      rw [e, zbs]
      unfold frightP
      rw [if_pos x, if_pos y]
    · rw [if_neg (show ¬ nI (d2 % 100) < rowOf S z2 3 from nI_nlt (by omega) (by omega))]
      obtain ⟨g', e⟩ := s_nightGoes (z := z2) (v := v) (g := g) (by omega) I
      refine ⟨g', ?_⟩
      rw [e, zbs]
      unfold frightP
      rw [if_pos x, if_neg y]
  · rw [i0l_f (by omega), if_neg x]
    obtain ⟨g', e⟩ := s_nightGoes (z := z) (v := v) (g := g) (by omega) I
    refine ⟨g', ?_⟩
    rw [e, zbs]
    unfold frightP
    rw [if_neg x]
theorem s_nightD {b : Nat} {S : Nat → Nat} {z v : Int32} {g : Nat → Int32} (hb : b < 900000) (I : Inv b S) : ∃ g', fX5_nightByDraws v (rowOf S z) g = some (v + nI (looksAllN (stillN (frightN S z))), rowOf (nightN (frightN S z)) (endZ S z), g') := s_nightP hb I s_drawn s_drawn (dv_lt _) (dv_lt _)
/-! what is tried, at the class -/
theorem cpy_at {f g : Nat → Int32} {n j : Nat} (hn : n < 2 ^ 31) (h : j < n) : va_cpy f g (nI 0).toNatClampNeg (nI 0).toNatClampNeg (nI n).toNatClampNeg j = f j := by
  rw [nI_clamp (show 0 < 2 ^ 31 by omega), nI_clamp hn, pk_cpy_in (by omega) (by omega)]
  congr 1; omega
theorem c_become {b : Nat} {S : Nat → Nat} {c ni gl dr : Int32} {la gr se ki ha si on aw : Nat → Int32} (tc tn tg td tga tp : Int32) (tla tgr tse tki tha tsi ton taw twl : Nat → Int32) (T : TR b S c ni gl la gr se ki ha si on aw) : ∃ r, fX2_become tc tn tg td tga tp tla tgr tse tki tha tsi ton taw c ni gl dr la gr se ki ha si on aw = some r ∧ TR b S r.1 r.2.1 r.2.2.1 r.2.2.2.2.2.2.1 r.2.2.2.2.2.2.2.1 r.2.2.2.2.2.2.2.2.1 r.2.2.2.2.2.2.2.2.2.1 r.2.2.2.2.2.2.2.2.2.2.1 r.2.2.2.2.2.2.2.2.2.2.2.1 r.2.2.2.2.2.2.2.2.2.2.2.2.1 r.2.2.2.2.2.2.2.2.2.2.2.2.2 ∧ r.2.2.2.1 = dr ∧ r.2.2.2.2.1 = nI 0 ∧ r.2.2.2.2.2.1 = nI 0 := by
  have h6 := inv_6 T.1
  refine ⟨_, rfl, ⟨T.1, T.2.1, T.2.2.1, T.2.2.2.1, fun j hj => ?_, fun w hw => ⟨?_, ?_⟩, fun p hp => ⟨?_, ?_, ?_, ?_, ?_⟩⟩, rfl, rfl, rfl⟩
  · exact (cpy_at (by omega) hj).trans (tr_la T hj)
  · exact (cpy_at (by omega) hw).trans (tr_gr T hw)
  · exact (cpy_at (by omega) hw).trans (tr_se T hw)
  · exact (cpy_at (by omega) (show p < 8 by omega)).trans (tr_ki T hp)
  · exact (cpy_at (by omega) (show p < 8 by omega)).trans (tr_ha T hp)
  · exact (cpy_at (by omega) (show p < 8 by omega)).trans (tr_si T hp)
  · exact (cpy_at (by omega) (show p < 8 by omega)).trans (tr_on T hp)
  · exact (cpy_at (by omega) (show p < 8 by omega)).trans (tr_aw T hp)
theorem nI0_add (x : Int32) : nI 0 + x = x := Int32.zero_add x
theorem okA_mk {ρ : Type} {a : Int32} {r : ρ} : okA a (some (a, r)) := ⟨_, rfl, rfl⟩
theorem c_view {b : Nat} {S : Nat → Nat} {c ni gl dr : Int32} {la gr se ki ha si on aw : Nat → Int32} (tc tn tg td tga tp : Int32) (tla tgr tse tki tha tsi ton taw twl : Nat → Int32) (hb : b < 900000) (T : TR b S c ni gl la gr se ki ha si on aw) (x : Int32) : okA (if x < nI 0 ∨ nI 60 < x then -1 else nI (seenN S x.toNatClampNeg)) (fX4_view c ni gl dr la gr se ki ha si on aw tc tn tg td tga tp tla tgr tse tki tha tsi ton taw twl x) := by
  unfold fX4_view
  rcases rng x (show 0 ≤ 60 by omega) (by omega) with ⟨h, e⟩ | ⟨h1, h, e⟩ | ⟨m, h1, h2, rfl, h3, h4, e⟩
  · rw [if_pos (show x < 0 from h), if_pos (Or.inl h)]; exact okA_mk
  · rw [if_neg (show ¬ x < 0 from h1), if_pos h, if_pos (Or.inr h)]; exact okA_mk
  · rw [if_neg (show ¬ nI m < 0 from h3), if_neg h4, if_neg (by rintro (q | q); exact h3 q; exact h4 q), nI_clamp (by omega)]
    obtain ⟨r, e, T2, d2, g2, p2⟩ := c_become (dr := dr) tc tn tg td tga tp tla tgr tse tki tha tsi ton taw twl T
    rw [e, zbs]
    obtain ⟨q, e, a, T3⟩ := c_gained (m := m) (gain := r.2.2.2.2.1) (pt := r.2.2.2.2.2.1) (wl := twl) hb (by omega) T2
    rw [e, zbs]
    refine ⟨_, rfl, ?_⟩
    show q.1 = _
    rw [a, g2, nI0_add]
theorem c_until_L {b p gn : Nat} {S : Nat → Nat} {u : Int32 × Int32 × Int32 × Int32 × Int32 × Int32 × (Nat → Int32) × (Nat → Int32) × (Nat → Int32) × (Nat → Int32) × (Nat → Int32) × (Nat → Int32) × (Nat → Int32) × (Nat → Int32)} {k1 k2} (hb : b < 900000) (hp : p < S 6) (h6 : S 6 ≤ 8) (hgn : gn < 2) (hk1 : ∀ i, i ≤ 60 → ∀ a1 a2 a3 a4 a5 a6 a7 a8 a9, okA (nI i) (k1 (nI i) a1 a2 a3 a4 a5 a6 a7 a8 a9)) (hk2 : ∀ a1 a2 a3 a4 a5 a6 a7 a8 a9, okA (-3) (k2 a1 a2 a3 a4 a5 a6 a7 a8 a9)) : ∀ n i, i ≤ 61 → 61 - i < n → ∀ ni gl ga pt gr si on aw wl, TR (b + i) (nightsN S i) u.1 ni gl u.2.2.2.2.2.2.1 gr u.2.2.2.2.2.2.2.2.1 u.2.2.2.2.2.2.2.2.2.1 u.2.2.2.2.2.2.2.2.2.2.1 si on aw → okA (untilI (goneB S p gn) (61 - i) i) (fX4_nightsUntil_L13 (nI p) (nI gn) u k1 k2 n (nI i) ni gl ga pt gr si on aw wl) := by
  intro n
  induction n with
  | zero => intro i _ h; omega
  | succ n ih =>
    intro i hi hn ni gl ga pt gr si on aw wl T
    have hp' : p < nightsN S i 6 := by rw [nightsN_6]; exact hp
    have k4 := inv_on T.1 p (by omega)
    rw [fX4_nightsUntil_L13]
    by_cases h : 60 < i
    · have e : i = 61 := by omega
      subst e
      rw [ilt_t (by omega) (by omega)]
      exact hk2 _ _ _ _ _ _ _ _ _
    · rw [ilt_f (by omega) (by omega), zg (by omega) (by omega), nI_clamp (by omega), tr_on T hp', show 61 - i = (61 - (i + 1)) + 1 by omega, untilI, nI_1]
      obtain ⟨r, e, T2, _, _⟩ := c_pass (gain := ga) (pt := pt) (wl := wl) (by omega) T
      have ih := ih (i + 1) (by omega) (by omega) _ _ r.2.2.1 r.2.2.2.1 _ _ _ _ r.2.2.2.2.2.2.2.2 T2
      by_cases y : nightsN S i (31 + 5 * p) = 10
      · rw [ieq_t y]
        by_cases x : 1 = gn
        · rw [if_pos (show goneB S p gn i = true from decide_eq_true (by rw [if_pos y]; exact x)), ieq_t x]
          exact hk1 i (by omega) _ _ _ _ _ _ _ _ _
        · rw [if_neg (show ¬ goneB S p gn i = true from fun q => x (by have := of_decide_eq_true q; rw [if_pos y] at this; exact this)), ieq_f x (by omega) (by omega), e, zbs]
          exact ih
      · rw [ieq_f y (by omega) (by omega)]
        by_cases x : 0 = gn
        · rw [if_pos (show goneB S p gn i = true from decide_eq_true (by rw [if_neg y]; exact x)), ieq_t x]
          exact hk1 i (by omega) _ _ _ _ _ _ _ _ _
        · rw [if_neg (show ¬ goneB S p gn i = true from fun q => x (by have := of_decide_eq_true q; rw [if_neg y] at this; exact this)), ieq_f x (by omega) (by omega), e, zbs]
          exact ih
theorem c_until {b : Nat} {S : Nat → Nat} {c ni gl dr : Int32} {la gr se ki ha si on aw : Nat → Int32} (tc tn tg td tga tp : Int32) (tla tgr tse tki tha tsi ton taw twl : Nat → Int32) {p gn : Nat} (hb : b < 900000) (T : TR b S c ni gl la gr se ki ha si on aw) (hp : p < S 6) (hgn : gn < 2) : okA (untilI (goneB S p gn) 61 0) (fX4_nightsUntil c ni gl dr la gr se ki ha si on aw tc tn tg td tga tp tla tgr tse tki tha tsi ton taw twl (nI p) (nI gn)) := by
  unfold fX4_nightsUntil
  obtain ⟨r, e, T2, d2, g2, p2⟩ := c_become (dr := dr) tc tn tg td tga tp tla tgr tse tki tha tsi ton taw twl T
  rw [e, zbs, zJe, zJe]
  exact c_until_L hb hp (inv_6 T.1) hgn (fun i hi a1 a2 a3 a4 a5 a6 a7 a8 a9 => okA_mk) (fun a1 a2 a3 a4 a5 a6 a7 a8 a9 => okA_mk) zK 0 (by omega) (by unfold zK; omega) _ _ _ _ _ _ _ _ _ T2
theorem c_clear_L {b : Nat} {S : Nat → Nat} {u : Int32 × Int32 × Int32 × Int32 × Int32 × Int32 × (Nat → Int32) × (Nat → Int32) × (Nat → Int32) × (Nat → Int32) × (Nat → Int32) × (Nat → Int32) × (Nat → Int32) × (Nat → Int32)} {k1 k2} (hb : b < 900000) (hk1 : ∀ i, i ≤ 60 → ∀ a1 a2 a3 a4 a5 a6 a7 a8 a9, okA (nI i) (k1 (nI i) a1 a2 a3 a4 a5 a6 a7 a8 a9)) (hk2 : ∀ a1 a2 a3 a4 a5 a6 a7 a8 a9, okA (-3) (k2 a1 a2 a3 a4 a5 a6 a7 a8 a9)) : ∀ n i, i ≤ 61 → 61 - i < n → ∀ ni gl ga pt gr si on aw wl, TR (b + i) (nightsN S i) u.1 ni gl u.2.2.2.2.2.2.1 gr u.2.2.2.2.2.2.2.2.1 u.2.2.2.2.2.2.2.2.2.1 u.2.2.2.2.2.2.2.2.2.2.1 si on aw → okA (untilI (fun i => decide (looksAllN (nightsN S i) = 0)) (61 - i) i) (fX4_clear_L13 u k1 k2 n (nI i) ni gl ga pt gr si on aw wl) := by
  intro n
  induction n with
  | zero => intro i _ h; omega
  | succ n ih =>
    intro i hi hn ni gl ga pt gr si on aw wl T
    have hl := looksAll_le T.1
    rw [fX4_clear_L13]
    by_cases h : 60 < i
    · have e : i = 61 := by omega
      subst e
      rw [ilt_t (by omega) (by omega)]
      exact hk2 _ _ _ _ _ _ _ _ _
    · rw [ilt_f (by omega) (by omega), c_looksOfAll T, zbs, show 61 - i = (61 - (i + 1)) + 1 by omega, untilI, nI_1]
      obtain ⟨r, e, T2, _, _⟩ := c_pass (gain := ga) (pt := pt) (wl := wl) (by omega) T
      have ih := ih (i + 1) (by omega) (by omega) _ _ r.2.2.1 r.2.2.2.1 _ _ _ _ r.2.2.2.2.2.2.2.2 T2
      by_cases x : looksAllN (nightsN S i) = 0
      · rw [if_pos (by simp [x]), ie0_t x]
        exact hk1 i (by omega) _ _ _ _ _ _ _ _ _
      · rw [if_neg (by simp [x]), ie0_f x (by omega), e, zbs]
        exact ih
theorem c_clear {b : Nat} {S : Nat → Nat} {c ni gl dr : Int32} {la gr se ki ha si on aw : Nat → Int32} (tc tn tg td tga tp : Int32) (tla tgr tse tki tha tsi ton taw twl : Nat → Int32) (hb : b < 900000) (T : TR b S c ni gl la gr se ki ha si on aw) : okA (untilI (fun i => decide (looksAllN (nightsN S i) = 0)) 61 0) (fX4_clear c ni gl dr la gr se ki ha si on aw tc tn tg td tga tp tla tgr tse tki tha tsi ton taw twl) := by
  unfold fX4_clear
  obtain ⟨r, e, T2, d2, g2, p2⟩ := c_become (dr := dr) tc tn tg td tga tp tla tgr tse tki tha tsi ton taw twl T
  rw [e, zbs, zJe, zJe]
  exact c_clear_L hb (fun i hi a1 a2 a3 a4 a5 a6 a7 a8 a9 => okA_mk) (fun a1 a2 a3 a4 a5 a6 a7 a8 a9 => okA_mk) zK 0 (by omega) (by unfold zK; omega) _ _ _ _ _ _ _ _ _ T2
def bestS (mn one : Nat) (S : Nat → Nat) (i : Nat) : Nat → Nat := if mn = 0 then cleanN S i else if mn = 1 then updN S (8 + 2 * one) i else updN S (28 + 5 * one) i
theorem c_bestOf_L {b : Nat} {S : Nat → Nat} {c ni gl dr : Int32} {la gr se ki ha si on aw : Nat → Int32} {mn one ch m : Nat} {k} (hb : b < 900000) (hm : m < 1000) (T : TR b S c ni gl la gr se ki ha si on aw) (hmn : (mn = 0 ∧ ch = 10) ∨ (mn = 1 ∧ one < 10 ∧ ch = 3) ∨ (mn = 2 ∧ one < S 6 ∧ ch = 6)) (hk : ∀ a1 a2 a3 a4 a5 a6 a7 a8 a9 a10 a11 a12 a13 a14 a15, okA (nI (bestN (fun i => seenN (bestS mn one S i) m) (ch - 1))) (k (nI (bestN (fun i => seenN (bestS mn one S i) m) (ch - 1))) a1 a2 a3 a4 a5 a6 a7 a8 a9 a10 a11 a12 a13 a14 a15)) : ∀ n i, i ≤ ch → ch - i < n → ∀ least, (i ≠ 0 → least = stLeast (fun i => seenN (bestS mn one S i) m) i) → ∀ tc tn tg td tga tp tla tgr tse tki tha tsi ton taw twl, okA (nI (bestN (fun i => seenN (bestS mn one S i) m) (ch - 1))) (fX4_bestOf_L9 c ni gl dr la gr se ki ha si on aw (nI mn) (nI one) (nI ch) (nI m) k n (stBest (fun i => seenN (bestS mn one S i) m) i) least (nI i) tc tn tg td tga tp tla tgr tse tki tha tsi ton taw twl) := by
  have h6 := inv_6 T.1
  intro n
  induction n with
  | zero => intro i _ h; omega
  | succ n ih =>
    intro i hi hn least hl tc tn tg td tga tp tla tgr tse tki tha tsi ton taw twl
    rw [fX4_bestOf_L9]
    by_cases h : i < ch
    · rw [ilt_t h (by omega)]
      obtain ⟨r, e, T2, d2, g2, p2⟩ := c_become (dr := dr) tc tn tg td tga tp tla tgr tse tki tha tsi ton taw twl T
      rw [e, zbs, zJe, nI_1]
      have tail : ∀ G K O W, TR b (bestS mn one S i) r.1 r.2.1 r.2.2.1 r.2.2.2.2.2.2.1 G r.2.2.2.2.2.2.2.2.1 K r.2.2.2.2.2.2.2.2.2.2.1 r.2.2.2.2.2.2.2.2.2.2.2.1 O W → okA (nI (bestN (fun i => seenN (bestS mn one S i) m) (ch - 1))) ((fX2_gainedBy r.1 r.2.1 r.2.2.1 r.2.2.2.2.1 r.2.2.2.2.2.1 r.2.2.2.2.2.2.1 G r.2.2.2.2.2.2.2.2.1 K r.2.2.2.2.2.2.2.2.2.2.1 r.2.2.2.2.2.2.2.2.2.2.2.1 O W twl (nI m)).bind (fun u96 => (if nI i = 0 then (fX4_bestOf_L9 c ni gl dr la gr se ki ha si on aw (nI mn) (nI one) (nI ch) (nI m) k n (nI i) u96.1 (nI (i + 1)) r.1 u96.2.1 u96.2.2.1 r.2.2.2.1 u96.2.2.2.1 u96.2.2.2.2.1 r.2.2.2.2.2.2.1 u96.2.2.2.2.2.1 r.2.2.2.2.2.2.2.2.1 K r.2.2.2.2.2.2.2.2.2.2.1 u96.2.2.2.2.2.2.1 u96.2.2.2.2.2.2.2.1 u96.2.2.2.2.2.2.2.2.1 u96.2.2.2.2.2.2.2.2.2) else (if u96.1 < least then (fX4_bestOf_L9 c ni gl dr la gr se ki ha si on aw (nI mn) (nI one) (nI ch) (nI m) k n (nI i) u96.1 (nI (i + 1)) r.1 u96.2.1 u96.2.2.1 r.2.2.2.1 u96.2.2.2.1 u96.2.2.2.2.1 r.2.2.2.2.2.2.1 u96.2.2.2.2.2.1 r.2.2.2.2.2.2.2.2.1 K r.2.2.2.2.2.2.2.2.2.2.1 u96.2.2.2.2.2.2.1 u96.2.2.2.2.2.2.2.1 u96.2.2.2.2.2.2.2.2.1 u96.2.2.2.2.2.2.2.2.2) else (fX4_bestOf_L9 c ni gl dr la gr se ki ha si on aw (nI mn) (nI one) (nI ch) (nI m) k n (stBest (fun i => seenN (bestS mn one S i) m) i) least (nI (i + 1)) r.1 u96.2.1 u96.2.2.1 r.2.2.2.1 u96.2.2.2.1 u96.2.2.2.2.1 r.2.2.2.2.2.2.1 u96.2.2.2.2.2.1 r.2.2.2.2.2.2.2.2.1 K r.2.2.2.2.2.2.2.2.2.2.1 u96.2.2.2.2.2.2.1 u96.2.2.2.2.2.2.2.1 u96.2.2.2.2.2.2.2.2.1 u96.2.2.2.2.2.2.2.2.2))))) := by
        intro G K O W T3
        obtain ⟨q, e, a, T4⟩ := c_gained (m := m) (gain := r.2.2.2.2.1) (pt := r.2.2.2.2.2.1) (wl := twl) hb hm T3
        rw [g2, nI0_add] at a
        rw [e, zbs, a]
        have ih := ih (i + 1) (by omega) (by omega)
        have v1 := seenN_le T3.1 m
        cases i with
        | zero =>
          rw [ie0_t rfl]
          exact ih _ (fun _ => rfl) _ _ _ _ _ _ _ _ _ _ _ _ _ _ _
        | succ j =>
          rw [ie0_f (by omega) (by omega), hl (by omega)]
          rw [stBest, stLeast, bestN_s _ j] at ih
          have v2 : seenN (bestS mn one S (bestN (fun i => seenN (bestS mn one S i) m) j)) m ≤ 71280 * m := by
            have hj := bestN_le (fun i => seenN (bestS mn one S i) m) j
            generalize bestN (fun i => seenN (bestS mn one S i) m) j = w at hj
            unfold bestS
            rcases hmn with ⟨rfl, rfl⟩ | ⟨rfl, h1, rfl⟩ | ⟨rfl, h1, rfl⟩
            · rw [if_pos rfl]; exact seenN_le (inv_clean T.1 (by omega)) m
            · rw [if_neg (by omega), if_pos rfl]; exact seenN_le (inv_upd (b := b) T.1 (by rw [bnd_g h1]; omega)) m
            · rw [if_neg (by omega), if_neg (by omega)]; exact seenN_le (inv_upd (b := b) T.1 (by rw [bnd_k (by omega)]; omega)) m
          rw [stLeast]
          by_cases x : seenN (bestS mn one S (j + 1)) m < seenN (bestS mn one S (bestN (fun i => seenN (bestS mn one S i) m) j)) m
          · rw [ilt_t x (by omega)]
            rw [if_pos x] at ih
            exact ih _ (fun _ => rfl) _ _ _ _ _ _ _ _ _ _ _ _ _ _ _
          · rw [ilt_f (by omega) (by omega)]
            rw [if_neg x] at ih
            exact ih _ (fun _ => rfl) _ _ _ _ _ _ _ _ _ _ _ _ _ _ _
      rcases hmn with ⟨rfl, rfl⟩ | ⟨rfl, h1, rfl⟩ | ⟨rfl, h1, rfl⟩
      · rw [ieq_t rfl]
        obtain ⟨q, e, _, T3⟩ := c_clean T2 h
        rw [e, zbs]
        exact tail _ _ _ _ T3
      · rw [ieq_f (by omega) (by omega) (by omega), ieq_t rfl, zg (by omega) (by omega), nI_clamp (by omega)]
        exact tail _ _ _ _ (tr_ugr T2 h1 (by omega))
      · rw [ieq_f (by omega) (by omega) (by omega), ieq_f (by omega) (by omega) (by omega), zg (by omega) (by omega), nI_clamp (by omega)]
        exact tail _ _ _ _ (tr_uki T2 (by omega) (by omega))
    · have e : i = ch := by omega
      subst e
      rw [ilt_f (by omega) (by omega)]
      cases i with
      | zero => omega
      | succ j => exact hk _ _ _ _ _ _ _ _ _ _ _ _ _ _ _
theorem c_bestOf {b : Nat} {S : Nat → Nat} {c ni gl dr : Int32} {la gr se ki ha si on aw : Nat → Int32} (tc tn tg td tga tp : Int32) (tla tgr tse tki tha tsi ton taw twl : Nat → Int32) {mn one ch m : Nat} (hb : b < 900000) (hm : m < 1000) (T : TR b S c ni gl la gr se ki ha si on aw) (hmn : (mn = 0 ∧ ch = 10) ∨ (mn = 1 ∧ one < 10 ∧ ch = 3) ∨ (mn = 2 ∧ one < S 6 ∧ ch = 6)) : okA (nI (bestN (fun i => seenN (bestS mn one S i) m) (ch - 1))) (fX4_bestOf c ni gl dr la gr se ki ha si on aw tc tn tg td tga tp tla tgr tse tki tha tsi ton taw twl (nI mn) (nI one) (nI ch) (nI m)) := by
  unfold fX4_bestOf
  rw [zJe]
  exact c_bestOf_L hb hm T hmn (fun a1 a2 a3 a4 a5 a6 a7 a8 a9 a10 a11 a12 a13 a14 a15 => okA_mk) zK 0 (by omega) (by unfold zK; omega) (nI 0) (fun q => absurd rfl q) tc tn tg td tga tp tla tgr tse tki tha tsi ton taw twl
theorem c_bucketsFor_L {b : Nat} {S : Nat → Nat} {c ni gl dr : Int32} {la gr se ki ha si on aw : Nat → Int32} {m v : Nat} {k1 k2} (hb : b < 900000) (hm : m < 100) (hv : v < 2 ^ 31) (T : TR b S c ni gl la gr se ki ha si on aw) (hk1 : ∀ i, i < 10 → ∀ a1 a2 a3 a4 a5 a6 a7 a8 a9 a10 a11 a12 a13 a14 a15, okA (nI i) (k1 (nI i) a1 a2 a3 a4 a5 a6 a7 a8 a9 a10 a11 a12 a13 a14 a15)) (hk2 : ∀ a1 a2 a3 a4 a5 a6 a7 a8 a9 a10 a11 a12 a13 a14 a15, okA (-3) (k2 a1 a2 a3 a4 a5 a6 a7 a8 a9 a10 a11 a12 a13 a14 a15)) : ∀ n i, i ≤ 10 → 10 - i < n → ∀ tc tn tg td tga tp tla tgr tse tki tha tsi ton taw twl, okA (untilI (fun i => decide (seenN (updN S 0 i) m ≤ v)) (10 - i) i) (fX4_bucketsFor_L25 c ni gl dr la gr se ki ha si on aw (nI m) (nI v) k1 k2 n (nI i) tc tn tg td tga tp tla tgr tse tki tha tsi ton taw twl) := by
  intro n
  induction n with
  | zero => intro i _ h; omega
  | succ n ih =>
    intro i hi hn tc tn tg td tga tp tla tgr tse tki tha tsi ton taw twl
    rw [fX4_bucketsFor_L25, show zf_most 0 = nI 9 from rfl]
    by_cases h : 9 < i
    · have e : i = 10 := by omega
      subst e
      rw [ilt_t (by omega) (by omega)]
      exact hk2 _ _ _ _ _ _ _ _ _ _ _ _ _ _ _
    · obtain ⟨r, e, T2, d2, g2, p2⟩ := c_become (dr := dr) tc tn tg td tga tp tla tgr tse tki tha tsi ton taw twl T
      rw [ilt_f (by omega) (by omega), e, zbs, g2, p2, nI_1, show 10 - i = (10 - (i + 1)) + 1 by omega, untilI]
      obtain ⟨t, ht, ho, q, e, a, _, _⟩ := c_most (v := v) (wl := twl) hb hm hv (tr_ula (i := 0) (v := i) T2 (by omega) (by show i ≤ 9; omega))
      rw [e, zbs, a]
      by_cases x : seenN (updN S 0 i) m ≤ v
      · rw [if_pos x, if10, if_pos (by simp [x])]
        exact hk1 i (by omega) _ _ _ _ _ _ _ _ _ _ _ _ _ _ _
      · rw [if_neg x, if00, if_neg (by simp [x])]
        exact ih (i + 1) (by omega) (by omega) _ _ _ _ _ _ _ _ _ _ _ _ _ _ _
theorem c_bucketsFor {b : Nat} {S : Nat → Nat} {c ni gl dr : Int32} {la gr se ki ha si on aw : Nat → Int32} (tc tn tg td tga tp : Int32) (tla tgr tse tki tha tsi ton taw twl : Nat → Int32) (hb : b < 900000) (T : TR b S c ni gl la gr se ki ha si on aw) (x y : Int32) : okA (if (x < nI 1 ∨ nI 30 < x) ∨ (y < nI 0 ∨ nI 99999 < y) then -1 else untilI (fun i => decide (seenN (updN S 0 i) x.toNatClampNeg ≤ y.toNatClampNeg)) 10 0) (fX4_bucketsFor c ni gl dr la gr se ki ha si on aw tc tn tg td tga tp tla tgr tse tki tha tsi ton taw twl x y) := by
  unfold fX4_bucketsFor
  rcases rng x (show 1 ≤ 30 by omega) (by omega) with ⟨h, e⟩ | ⟨h1, h, e⟩ | ⟨m, h1, h2, rfl, h3, h4, e⟩
  · rw [if_pos h, if_pos (Or.inl (Or.inl h))]; exact okA_mk
  · rw [if_neg h1, if_pos h, if_pos (Or.inl (Or.inr h))]; exact okA_mk
  · rw [if_neg h3, if_neg h4]
    rcases rng y (show 0 ≤ 99999 by omega) (by omega) with ⟨h, e⟩ | ⟨h1', h, e⟩ | ⟨v, h1', h2', rfl, h3', h4', e⟩
    · rw [if_pos (show y < 0 from h), if_pos (Or.inr (Or.inl h))]; exact okA_mk
    · rw [if_neg (show ¬ y < 0 from h1'), if_pos h, if_pos (Or.inr (Or.inr h))]; exact okA_mk
    · rw [if_neg (show ¬ nI v < 0 from h3'), if_neg h4', if_neg (by rintro ((q | q) | (q | q)); exact h3 q; exact h4 q; exact h3' q; exact h4' q), nI_clamp (by omega), nI_clamp (by omega), zJe, zJe]
      exact c_bucketsFor_L hb (show m < 100 by omega) (by omega) T (fun i hi a1 a2 a3 a4 a5 a6 a7 a8 a9 a10 a11 a12 a13 a14 a15 => okA_mk) (fun a1 a2 a3 a4 a5 a6 a7 a8 a9 a10 a11 a12 a13 a14 a15 => okA_mk) zK 0 (by omega) (by unfold zK; omega) tc tn tg td tga tp tla tgr tse tki tha tsi ton taw twl
