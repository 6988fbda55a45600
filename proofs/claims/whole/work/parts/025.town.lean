/-! town() -/
section TOK5
variable {m : Nat} {v : Nat → Nat} {tape rt : Nat → Int32}
theorem neg_m1 {x : Int32} {k : Nat} (h : x = nI k) (hk : k < 2 ^ 31) : ¬ x < 0 := by rw [h]; exact nI_pos hk
theorem c_loop1 (B : BytesR m v tape rt) {f f' i n : Nat} {c c' ok : Int32} {la gr se ki ha si on aw la' gr' se' ki' ha' si' on' aw' : Nat → Int32} {k1 k2} (hf : f ≤ m) (hi : i < 200) (hs : clN m v f ≠ 0) (hok : ok = nI 0 ∨ ok = nI 1) (C : clauseC m v tape f c la gr se ki ha si on aw f' ok c' la' gr' se' ki' ha' si' on' aw') : (ok = nI 0 ∧ ∃ (c2 : Int32) (a1 a2 a3 a4 a5 a6 a7 a8 : Nat → Int32), fX3_faultOfAll_L6 (nI m) tape k1 k2 (n + 1) (nI i) (nI (f)) (nI (eT m v (f))) (nI (clN m v (f))) c la gr se ki ha si on aw = k1 (nI (f')) (nI (eT m v (f'))) (nI (clN m v (f'))) c2 a1 a2 a3 a4 a5 a6 a7 a8) ∨ (ok = nI 1 ∧ fX3_faultOfAll_L6 (nI m) tape k1 k2 (n + 1) (nI i) (nI (f)) (nI (eT m v (f))) (nI (clN m v (f))) c la gr se ki ha si on aw = fX3_faultOfAll_L6 (nI m) tape k1 k2 n (nI (i + 1)) (nI (f')) (nI (eT m v (f'))) (nI (clN m v (f'))) c' la' gr' se' ki' ha' si' on' aw') := by
  have hc := clN_le m v f
  rw [fX3_faultOfAll_L6, ilt_t hi (by omega), ie0_f (by omega) (by omega), c_kind B hf, zbs, c_law B hf, zbs, nI_1]
  rcases C with ⟨h1, rfl, rfl, rfl, h2⟩ | ⟨h1, h2, rfl, rfl, rfl, rfl, rfl, rfl, rfl, rfl, h3⟩ | ⟨h1, h2, h3, rfl, rfl, rfl, rfl, rfl, rfl, rfl, h4⟩ | ⟨h1, h2, h3, h4, h5⟩
  · rcases kindT_cases (m := m) (v := v) f with g | ⟨_, k, hk, g⟩
    · exact absurd g h1
    · rw [if_neg (neg_m1 g (by omega)), h2, zbs]
      dsimp only
      rcases hok with rfl | rfl
      · left
        rw [if00]
        exact ⟨rfl, _, _, _, _, _, _, _, _, _, rfl⟩
      · right
        rw [if10]
        exact ⟨rfl, rfl⟩
  · rcases lawT_cases (m := m) (v := v) f with g | ⟨_, k, hk, g⟩
    · exact absurd g h2
    · rw [h1, if_pos m1_neg, if_neg (neg_m1 g (by omega)), h3, zbs]
      dsimp only
      rcases hok with rfl | rfl
      · left
        rw [if00]
        exact ⟨rfl, _, _, _, _, _, _, _, _, _, rfl⟩
      · right
        rw [if10]
        exact ⟨rfl, rfl⟩
  · rw [h1, if_pos m1_neg, h2, if_pos m1_neg, c_isWord B hf (show 0 < 18 by omega), zbs, ib, if_pos h3, h4, zbs]
    dsimp only
    rcases hok with rfl | rfl
    · left
      rw [if00, if00]
      exact ⟨rfl, _, _, _, _, _, _, _, _, _, rfl⟩
    · right
      rw [if10, if10]
      exact ⟨rfl, rfl⟩
  · left
    subst h4 h5
    rw [h1, if_pos m1_neg, h2, if_pos m1_neg, c_isWord B hf (show 0 < 18 by omega), zbs, ib, if_neg (by rw [h3]; decide), if00]
    exact ⟨rfl, _, _, _, _, _, _, _, _, _, rfl⟩
theorem j_loop {b : Nat} {ni gl : Int32} {k1 k2 k5} (B : BytesR m v tape rt) : ∀ d f, m - f ≤ d → f ≤ m → ∀ i n1 n2, i ≤ f → d < n1 → d < n2 → ∀ (S : Nat → Nat) (c : Int32) (la gr se ki ha si on aw : Nat → Int32), TR b S c ni gl la gr se ki ha si on aw → (∃ (f' : Nat) (R : Nat → Int32) (c2 : Int32) (a1 a2 a3 a4 a5 a6 a7 a8 : Nat → Int32), f' ≤ m ∧ T0 R ∧ fX3_faultOfAll_L6 (nI m) tape k1 k2 n1 (nI i) (nI (f)) (nI (eT m v (f))) (nI (clN m v (f))) c la gr se ki ha si on aw = k1 (nI (f')) (nI (eT m v (f'))) (nI (clN m v (f'))) c2 a1 a2 a3 a4 a5 a6 a7 a8 ∧ fX5_town_L21 (nI m) rt k5 n2 (nI (clN m v (f))) (nI (f)) (nI (eT m v (f))) (wT m v (f)) (vT m v (f)) (nI 1) (rowOf S (nI 0)) = k5 (nI (clN m v (f'))) (nI (f')) (nI (eT m v (f'))) (wT m v (f')) (vT m v (f')) (nI 0) R) ∨ (∃ (f' : Nat) (S' : Nat → Nat) (c2 : Int32) (a1 a2 a3 a4 a5 a6 a7 a8 : Nat → Int32), f' ≤ m ∧ TR b S' c2 ni gl a1 a2 a3 a4 a5 a6 a7 a8 ∧ fX3_faultOfAll_L6 (nI m) tape k1 k2 n1 (nI i) (nI (f)) (nI (eT m v (f))) (nI (clN m v (f))) c la gr se ki ha si on aw = k2 (nI (f')) (nI (eT m v (f'))) (nI (clN m v (f'))) c2 a1 a2 a3 a4 a5 a6 a7 a8 ∧ fX5_town_L21 (nI m) rt k5 n2 (nI (clN m v (f))) (nI (f)) (nI (eT m v (f))) (wT m v (f)) (vT m v (f)) (nI 1) (rowOf S (nI 0)) = k5 (nI (clN m v (f'))) (nI (f')) (nI (eT m v (f'))) (wT m v (f')) (vT m v (f')) (nI 1) (rowOf S' (nI 0))) := by
  have hm := B.1
  intro d
  induction d with
  | zero =>
    intro f hd hf i n1 n2 hi h1 h2 S c la gr se ki ha si on aw T
    have hs : clN m v f = 0 := by unfold clN; rw [if_neg (by omega)]
    obtain ⟨n1, rfl⟩ : ∃ x, n1 = x + 1 := ⟨n1 - 1, by omega⟩
    obtain ⟨n2, rfl⟩ : ∃ x, n2 = x + 1 := ⟨n2 - 1, by omega⟩
    right
    refine ⟨f, S, c, la, gr, se, ki, ha, si, on, aw, hf, T, ?_, ?_⟩
    · rw [fX3_faultOfAll_L6, ie0_t hs]
      split <;> rfl
    · rw [fX5_town_L21, if10, ie0_t hs]
  | succ d ih =>
    intro f hd hf i n1 n2 hi h1 h2 S c la gr se ki ha si on aw T
    obtain ⟨n1, rfl⟩ : ∃ x, n1 = x + 1 := ⟨n1 - 1, by omega⟩
    obtain ⟨n2, rfl⟩ : ∃ x, n2 = x + 1 := ⟨n2 - 1, by omega⟩
    have hc := clN_le m v f
    by_cases hs : clN m v f = 0
    · right
      refine ⟨f, S, c, la, gr, se, ki, ha, si, on, aw, hf, T, ?_, ?_⟩
      · rw [fX3_faultOfAll_L6, ie0_t hs]
        split <;> rfl
      · rw [fX5_town_L21, if10, ie0_t hs]
    · have hl := clN_lt hs
      obtain ⟨f', ok, c', la', gr', se', ki', ha', si', on', aw', g1, g2, C, J⟩ := j_clause B T hf
      have hok : ok = nI 0 ∨ ok = nI 1 := by
        rcases J with ⟨e, _⟩ | ⟨e, _⟩
        · exact Or.inr e
        · exact Or.inl e
      have L := c_loop1 (k1 := k1) (k2 := k2) (n := n1) B hf (show i < 200 by omega) hs hok C
      rw [fX5_town_L21, if10, ie0_f hs (by omega)]
      rcases J with ⟨e, g3, S', T', w⟩ | ⟨e, R, hR, w⟩
      · rcases L with ⟨e2, _⟩ | ⟨_, e3⟩
        · rw [e] at e2
          exact absurd e2 (by decide)
        · rw [w, zbs]
          dsimp only
          rw [e3]
          exact ih f' (by omega) g2 (i + 1) n1 n2 (by omega) (by omega) (by omega) S' c' la' gr' se' ki' ha' si' on' aw' T'
      · rcases L with ⟨_, c2, a1, a2, a3, a4, a5, a6, a7, a8, e3⟩ | ⟨e2, _⟩
        · left
          refine ⟨f', R, c2, a1, a2, a3, a4, a5, a6, a7, a8, g2, hR, e3, ?_⟩
          obtain ⟨n2, rfl⟩ : ∃ x, n2 = x + 1 := ⟨n2 - 1, by omega⟩
          rw [w, zbs]
          dsimp only
          rw [fX5_town_L21, if00]
        · rw [e] at e2
          exact absurd e2 (by decide)
end TOK5
def seenUp (S : Nat → Nat) : Nat → (Nat → Nat)
  | 0 => S
  | n + 1 => updN (seenUp S n) (9 + 2 * n) 3
def S00 : Nat → Nat := updN (updN (updN (updN (fun _ => 0) 0 1) 1 2) 2 30) 3 20
def S0N : Nat → Nat := seenUp S00 10
theorem seenUp_n {S : Nat → Nat} {k : Nat} : ∀ n, (∀ w, w < n → k ≠ 9 + 2 * w) → seenUp S n k = S k := by
  intro n
  induction n with
  | zero => intro _; rfl
  | succ n ih => intro h; rw [seenUp, updN_n (h n (by omega)), ih (fun w hw => h w (by omega))]
theorem seenUp_s {S : Nat → Nat} : ∀ n w, w < n → seenUp S n (9 + 2 * w) = 3 := by
  intro n
  induction n with
  | zero => intro w h; omega
  | succ n ih =>
    intro w h
    rw [seenUp]
    by_cases e : w = n
    · rw [e, updN_s]
    · rw [updN_n (by omega)]; exact ih w (by omega)
theorem S0_small {k : Nat} (h : k < 9 ∨ 28 ≤ k ∨ k % 2 = 0) : S0N k = S00 k := seenUp_n 10 (fun w hw => by omega)
theorem S0_0 {k : Nat} (h : 4 ≤ k ∧ (k < 9 ∨ 28 ≤ k ∨ k % 2 = 0)) : S0N k = 0 := by
  rw [S0_small h.2]
  unfold S00
  rw [updN_n (by omega), updN_n (by omega), updN_n (by omega), updN_n (by omega)]
theorem S0_law : S0N 0 = 1 ∧ S0N 1 = 2 ∧ S0N 2 = 30 ∧ S0N 3 = 20 := by
  refine ⟨?_, ?_, ?_, ?_⟩
  · rw [S0_small (by omega)]; rfl
  · rw [S0_small (by omega)]; rfl
  · rw [S0_small (by omega)]; rfl
  · rw [S0_small (by omega)]; rfl
theorem inv_S0 (b : Nat) : Inv b S0N := by
  obtain ⟨h0, h1, h2, h3⟩ := S0_law
  refine ⟨by omega, by omega, by omega, by omega, by rw [S0_0 (by omega)]; omega, by rw [S0_0 (by omega)]; omega, by rw [S0_0 (by omega)]; omega, fun w hw => ⟨by rw [S0_0 (by omega)]; omega, by rw [show S0N (9 + 2 * w) = 3 from seenUp_s 10 w hw]; omega⟩, fun p hp => ⟨by rw [S0_0 (by omega)]; omega, by rw [S0_0 (by omega)]; omega, by rw [S0_0 (by omega)]; omega, by rw [S0_0 (by omega)]; omega, by rw [S0_0 (by omega)]; omega⟩, fun k hk => S0_0 (by omega)⟩
theorem c_begin_L2 {k} : ∀ n i, i ≤ 4 → 4 - i < n → ∀ la : Nat → Int32, (∀ j, j < i → la j = zf_first j) → ∃ la' : Nat → Int32, (∀ j, j < 4 → la' j = zf_first j) ∧ fX2_begin_L2 k n (nI i) la = k la' := by
  intro n
  induction n with
  | zero => intro i _ h; omega
  | succ n ih =>
    intro i hi hn la h
    rw [fX2_begin_L2]
    by_cases x : i < 4
    · rw [ilt_t x (by omega), zg x (by omega), zg x (by omega), nI_clamp (by omega), nI_1]
      refine ih (i + 1) (by omega) (by omega) _ (fun j hj => ?_)
      by_cases e : j = i
      · rw [e, pk_us]
      · rw [pk_un e]; exact h j (by omega)
    · rw [ilt_f (by omega) (by omega)]
      exact ⟨la, fun j hj => h j (by omega), rfl⟩
theorem c_begin_L26 {k} : ∀ n i, i ≤ 10 → 10 - i < n → ∀ gr se : Nat → Int32, (∀ j, j < i → gr j = nI 0 ∧ se j = nI 3) → ∃ gr' se' : Nat → Int32, (∀ j, j < 10 → gr' j = nI 0 ∧ se' j = nI 3) ∧ fX2_begin_L26 k n (nI i) gr se = k gr' se' := by
  intro n
  induction n with
  | zero => intro i _ h; omega
  | succ n ih =>
    intro i hi hn gr se h
    rw [fX2_begin_L26]
    by_cases x : i < 10
    · rw [ilt_t x (by omega), zg x (by omega), zg x (by omega), nI_clamp (by omega), nI_1]
      refine ih (i + 1) (by omega) (by omega) _ _ (fun j hj => ?_)
      by_cases e : j = i
      · rw [e, pk_us, pk_us]; exact ⟨rfl, rfl⟩
      · rw [pk_un e, pk_un e]; exact h j (by omega)
    · rw [ilt_f (by omega) (by omega)]
      exact ⟨gr, se, fun j hj => h j (by omega), rfl⟩
theorem c_begin (b : Nat) (tc tn tg tga tp : Int32) (tla tgr tse ki ha si on aw : Nat → Int32) : ∃ r, fX2_begin tc tn tg tga tp tla tgr tse = some r ∧ TR b S0N r.1 r.2.1 r.2.2.1 r.2.2.2.2.2.1 r.2.2.2.2.2.2.1 r.2.2.2.2.2.2.2 ki ha si on aw := by
  unfold fX2_begin
  rw [zJe]
  obtain ⟨la', h1, e1⟩ := c_begin_L2 (k := fun (v_laws_3 : Nat → Int32) => (zJ (fun (v_ground_8 : Nat → Int32) (v_seen_9 : Nat → Int32) => (some ((nI 0), (nI 0), (nI 0), (nI 0), (nI 0), v_laws_3, v_ground_8, v_seen_9))) (fun k_10 => (fX2_begin_L26 k_10 zK (nI 0) tgr tse)))) zK 0 (by omega) (by unfold zK; omega) tla (fun j hj => by omega)
  obtain ⟨gr', se', h2, e2⟩ := c_begin_L26 (k := fun (v_ground_8 : Nat → Int32) (v_seen_9 : Nat → Int32) => (some ((nI 0), (nI 0), (nI 0), (nI 0), (nI 0), la', v_ground_8, v_seen_9))) zK 0 (by omega) (by unfold zK; omega) tgr tse (fun j hj => by omega)
  rw [e1, zJe, e2]
  obtain ⟨l0, l1, l2, l3⟩ := S0_law
  refine ⟨_, rfl, inv_S0 b, ?_, ?_, ?_, fun j hj => ?_, fun w hw => ⟨?_, ?_⟩, fun p hp => ?_⟩
  · rw [S0_0 (by omega)]
  · rw [S0_0 (by omega)]
  · rw [S0_0 (by omega)]
  · show la' j = _
    rw [h1 j hj]
    have : j = 0 ∨ j = 1 ∨ j = 2 ∨ j = 3 := by omega
    rcases this with rfl | rfl | rfl | rfl
    · rw [l0]; rfl
    · rw [l1]; rfl
    · rw [l2]; rfl
    · rw [l3]; rfl
  · show gr' w = _
    rw [(h2 w hw).1, S0_0 (by omega)]
  · show se' w = _
    rw [(h2 w hw).2, show S0N (9 + 2 * w) = 3 from seenUp_s 10 w hw]
  · rw [S0_0 (by omega)] at hp; omega
theorem s_begins_L2 {k} : ∀ n i, i ≤ 68 → 68 - i < n → ∀ f : Nat → Int32, T0 f → (∀ j, j < i → f j = nI 0) → fX5_begins_L2 k n (nI i) f = k (rowOf (fun _ => 0) (nI 0)) := by
  intro n
  induction n with
  | zero => intro i _ h; omega
  | succ n ih =>
    intro i hi hn f hf h
    rw [fX5_begins_L2]
    by_cases x : i < 68
    · rw [ilt_t x (by omega), zg x (by omega), nI_clamp (by omega), nI_1]
      refine ih (i + 1) (by omega) (by omega) _ (t0_upd hf x) (fun j hj => ?_)
      by_cases e : j = i
      · rw [e, pk_us]
      · rw [pk_un e]; exact h j (by omega)
    · rw [ilt_f (by omega) (by omega)]
      congr 1
      funext j
      unfold rowOf
      rw [show (if j = 7 then nI 0 else nI 0) = nI 0 by split <;> rfl]
      by_cases y : j < 68
      · exact h j (by omega)
      · exact hf j (by omega)
theorem s_begins_L38 {S : Nat → Nat} {z : Int32} {k} : ∀ n i, i ≤ 10 → 10 - i < n → fX5_begins_L38 k n (nI i) (rowOf (seenUp S i) z) = k (rowOf (seenUp S 10) z) := by
  intro n
  induction n with
  | zero => intro i _ h; omega
  | succ n ih =>
    intro i hi hn
    rw [fX5_begins_L38]
    by_cases x : i < 10
    · have ih := ih (i + 1) (by omega) (by omega)
      rw [seenUp] at ih
      rw [ilt_t x (by omega), nI_mul, nI_add, nI_add, zg (by omega) (by omega), nI_clamp (by omega), rowOf_upd (by omega), nI_1, show 8 + 2 * i + 1 = 9 + 2 * i by omega]
      exact ih
    · have e : i = 10 := by omega
      rw [ilt_f (by omega) (by omega), e]
theorem s_begins {f : Nat → Int32} (hf : T0 f) : fX5_begins f = some (rowOf S0N (nI 0)) := by
  unfold fX5_begins
  rw [zJe, s_begins_L2 zK 0 (by omega) (by unfold zK; omega) f hf (fun j hj => by omega), rowOf_upd (by omega), rowOf_upd (by omega), rowOf_upd (by omega), rowOf_upd (by omega), zJe]
  exact s_begins_L38 (S := S00) zK 0 (by omega) (by unfold zK; omega)
theorem p_town {b : Nat} {c ni gl dr : Int32} {la gr se ki ha si on aw : Nat → Int32} {row rows rr rf tape rt : Nat → Int32} {tp tm rc rm ga pt : Int32} {xc xn xg xd xa xp : Int32} {xl xr xs xk xh xz xo xw : Nat → Int32} {SO BG TE VA GO : Int32} {WD : Int64} (Gn : GN b c ni gl dr la gr se ki ha si on aw row) (Rt : TapeR tp tape tm rt) (Rr : RowsR rc rows rm rr) (hf : T0 rf) : ∃ r s, fX4_town tp rc c ni gl dr ga pt la gr se ki ha si on aw xc xn xg xd xa xp xl xr xs xk xh xz xo xw tape = some r ∧ fX5_town tm SO BG TE WD VA GO rm row rf rt = some s ∧ r.1 = s.1 ∧ TapeR r.2.1 tape s.2.1 rt ∧ RowsR r.2.2.1 rows s.2.2.2.2.2.2.2.2.1 rr ∧ GN b r.2.2.2.1 r.2.2.2.2.1 r.2.2.2.2.2.1 r.2.2.2.2.2.2.1 r.2.2.2.2.2.2.2.2.2.1 r.2.2.2.2.2.2.2.2.2.2.1 r.2.2.2.2.2.2.2.2.2.2.2.1 r.2.2.2.2.2.2.2.2.2.2.2.2.1 r.2.2.2.2.2.2.2.2.2.2.2.2.2.1 r.2.2.2.2.2.2.2.2.2.2.2.2.2.2.1 r.2.2.2.2.2.2.2.2.2.2.2.2.2.2.2.1 r.2.2.2.2.2.2.2.2.2.2.2.2.2.2.2.2.1 s.2.2.2.2.2.2.2.2.2.1 ∧ T0 s.2.2.2.2.2.2.2.2.2.2 := by
  obtain ⟨S, T, rfl⟩ := Gn
  obtain ⟨m, v, B, rfl, rfl⟩ := tape_bytes Rt
  have hm := B.1
  have R0 : TapeR (nI 0) tape (nI 0) rt := ⟨0, by omega, rfl, rfl, fun k hk => by omega⟩
  unfold fX4_town fX5_town
  obtain ⟨q, e1, T1⟩ := c_begin b xc xn xg xa xp xl xr xs xk xh xz xo xw
  rw [e1, zbs, s_begins hf, zbs, s_advance B (show 0 ≤ m by omega), zbs, zJe]
  unfold fX3_faultOfAll
  rw [show (if nI 200 < nI m then nI 200 else nI m) = nI m from if_neg (nI_nlt (by omega) (by omega)), show (0 : Int32) = nI 0 from rfl, c_step B (show 0 ≤ m by omega), zbs, zJe, zJe]
  dsimp only
  have h0 := skipT_le (m := m) (v := v) (show 0 ≤ m by omega)
  generalize skipT m v 0 = f at h0
  rcases j_loop (ni := q.2.1) (gl := q.2.2.1) (k1 := fun (v_from_14 : Int32) (v_behind_15 : Int32) (v_sort_16 : Int32) (v_town_count_17 : Int32) (v_town_laws_18 : Nat → Int32) (v_town_ground_19 : Nat → Int32) (v_town_seen_20 : Nat → Int32) (v_town_kind_21 : Nat → Int32) (v_town_hand_22 : Nat → Int32) (v_town_size_23 : Nat → Int32) (v_town_on_24 : Nat → Int32) (v_town_away_25 : Nat → Int32) => (some (v_from_14, v_from_14, v_behind_15, v_sort_16, v_town_count_17, v_town_laws_18, v_town_ground_19, v_town_seen_20, v_town_kind_21, v_town_hand_22, v_town_size_23, v_town_on_24, v_town_away_25))) (k2 := fun (v_from_27 : Int32) (v_behind_28 : Int32) (v_sort_29 : Int32) (v_town_count_30 : Int32) (v_town_laws_31 : Nat → Int32) (v_town_ground_32 : Nat → Int32) (v_town_seen_33 : Nat → Int32) (v_town_kind_34 : Nat → Int32) (v_town_hand_35 : Nat → Int32) (v_town_size_36 : Nat → Int32) (v_town_on_37 : Nat → Int32) (v_town_away_38 : Nat → Int32) => (some ((-1 : Int32), v_from_27, v_behind_28, v_sort_29, v_town_count_30, v_town_laws_31, v_town_ground_32, v_town_seen_33, v_town_kind_34, v_town_hand_35, v_town_size_36, v_town_on_37, v_town_away_38))) (k5 := fun (v_sort_8 : Int32) (v_begins_9 : Int32) (v_tokenEnds_10 : Int32) (v_word_11 : Int64) (v_value_12 : Int32) (v_good_13 : Int32) (v_fresh_14 : Nat → Int32) => (if v_good_13 = nI 0 then (some (((-100 : Int32) - v_begins_9), (nI 0), v_sort_8, v_begins_9, v_tokenEnds_10, v_word_11, v_value_12, v_good_13, rm, rowOf S dr, v_fresh_14)) else ((fX5_moveAll (upd v_fresh_14 7 (rowOf S dr 7)) (rowOf S dr)).bind (fun u84 => (some ((u84 6), (nI 0), v_sort_8, v_begins_9, v_tokenEnds_10, v_word_11, v_value_12, v_good_13, (nI 0), u84, (upd v_fresh_14 7 (rowOf S dr 7)))))))) B m f (by omega) h0.2 0 zK zK (by omega) (by unfold zK; omega) (by unfold zK; omega) S0N q.1 q.2.2.2.2.2.1 q.2.2.2.2.2.2.1 q.2.2.2.2.2.2.2 xk xh xz xo xw T1 with ⟨f', R, c2, a1, a2, a3, a4, a5, a6, a7, a8, g1, g2, g3, g4⟩ | ⟨f', S', c2, a1, a2, a3, a4, a5, a6, a7, a8, g1, g2, g3, g4⟩
  · rw [g3, g4, zbs]
    dsimp only
    rw [if_neg (show ¬ nI f' < nI 0 from nI_nlt (by omega) (by omega)), if_pos (show nI 0 = nI 0 from rfl)]
    exact ⟨_, _, rfl, rfl, rfl, R0, Rr, ⟨S, T, rfl⟩, g2⟩
  · rw [g3, g4, zbs]
    dsimp only
    obtain ⟨u, e5, T3, d3, _, _⟩ := c_become (dr := dr) c ni gl dr ga pt la gr se ki ha si on aw (fun _ => 0) g2
    rw [if_pos (show (-1 : Int32) < nI 0 by decide), e5, zbs, if_neg (show ¬ nI 1 = nI 0 by decide), r7, rowOf_upd7, s_moveAll (t0_row g2.1) (t0_row T.1), zbs]
    refine ⟨_, _, rfl, rfl, ?_, R0, ⟨0, by omega, rfl, rfl, fun k hk => by omega⟩, ⟨S', T3, ?_⟩, t0_row g2.1⟩
    · show u.1 = rowOf S' dr 6
      rw [tr_c T3, r6]
    · show rowOf S' dr = rowOf S' u.2.2.2.1
      rw [d3]
