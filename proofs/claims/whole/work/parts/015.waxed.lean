/-! waxedFor -/
set_option maxRecDepth 100000 in
theorem xor_small : ∀ w, w < 10 → ∀ s, s < 1024 → s.testBit w = true → s ^^^ 2 ^ w < 1024 ∧ popc (s ^^^ 2 ^ w) + 1 = popc s := by decide +kernel
theorem nI_xor (a b : Nat) : nI a ^^^ nI b = nI (a ^^^ b) := by
  apply Int32.toBitVec_inj.mp
  show (nI a).toBitVec ^^^ (nI b).toBitVec = (nI (a ^^^ b)).toBitVec
  simp only [nI, Int32.toBitVec_ofNat', BitVec.ofNat_xor]
theorem c_wax_L3 {s : Nat} {mat : Nat → Int32} {k1} {k2 : Option (Int32 × Int32 × Int32 × Int32 × Int32 × Int32 × Int32 × (Nat → Int32) × (Nat → Int32) × (Nat → Int32) × (Nat → Int32) × (Nat → Int32) × (Nat → Int32) × (Nat → Int32) × (Nat → Int32) × (Nat → Int32) × (Nat → Int32))} (hs : s < 1024) : ∀ n i, i ≤ 10 → 10 - i < n → (∃ w, w < 10 ∧ s.testBit w = true ∧ bI (mat (s ^^^ 2 ^ w)) w = false ∧ fX4_isEnoughWax_L3 mat (nI s) k1 k2 n (nI i) = k1 (nI (2 ^ w))) ∨ fX4_isEnoughWax_L3 mat (nI s) k1 k2 n (nI i) = k2 := by
  intro n
  induction n with
  | zero => intro i _ h; omega
  | succ n ih =>
    intro i hi hn
    rw [fX4_isEnoughWax_L3]
    by_cases h : i < 10
    · have ih := ih (i + 1) (by omega) (by omega)
      have a1 := and_bit (x := nI s) h
      rw [bI_nI (by omega)] at a1
      rw [ilt_t h (by omega), nI_1]
      by_cases x : s.testBit i = true
      · rw [if_neg (show ¬ (nI s &&& nI 1 <<< (nI i &&& 31) = 0) by rw [a1, x]; decide)]
        obtain ⟨x1, x2⟩ := xor_small i h s hs x
        have a2 := and_bit (x := mat (s ^^^ 2 ^ i)) h
        have e1 : nI s ^^^ nI 1 <<< (nI i &&& 31) = nI (s ^^^ 2 ^ i) := by rw [nI_bit i (by omega), nI_xor]
        rw [e1, zg x1 (by omega), nI_clamp (by omega)]
        by_cases y : bI (mat (s ^^^ 2 ^ i)) i = false
        · left
          refine ⟨i, h, x, y, ?_⟩
          rw [if_pos (a2 ▸ y), nI_bit i (by omega)]
        · rw [if_neg (a2 ▸ y)]; exact ih
      · rw [if_pos (show (nI s &&& nI 1 <<< (nI i &&& 31) = 0) by rw [a1]; exact Bool.eq_false_iff.mpr x)]; exact ih
    · rw [ilt_f (by omega) (by omega)]; exact Or.inr rfl
theorem c_wax_L75 {b : Nat} {S : Nat → Nat} {c ni gl : Int32} {la se ki ha si on aw : Nat → Int32} {s : Nat} {k} (hs : s < 1024) : ∀ n i, i ≤ 10 → 10 - i < n → ∀ gr, TR b (waxAt S s i) c ni gl la gr se ki ha si on aw → ∃ gr', TR b (waxAt S s 10) c ni gl la gr' se ki ha si on aw ∧ fX4_isEnoughWax_L75 (nI s) k n (nI i) gr = k gr' := by
  intro n
  induction n with
  | zero => intro i _ h; omega
  | succ n ih =>
    intro i hi hn gr T
    rw [fX4_isEnoughWax_L75]
    by_cases h : i < 10
    · have ih := ih (i + 1) (by omega) (by omega)
      rw [ilt_t h (by omega), shr_bit10 i h s hs, zg (by omega) (by omega), nI_clamp (by omega), nI_1]
      by_cases x : s.testBit i = true
      · rw [if_pos x, if10]
        rw [← waxAt_t x] at ih
        exact ih _ (tr_ugr T h (by omega))
      · rw [if_neg x, if00]
        rw [← waxAt_f (Bool.eq_false_iff.mpr x)] at ih
        exact ih _ T
    · have e : i = 10 := by omega
      rw [ilt_f (by omega) (by omega)]
      subst e
      exact ⟨gr, T, rfl⟩
theorem c_enough {b : Nat} {S : Nat → Nat} {c ni gl dr : Int32} {la gr se ki ha si on aw : Nat → Int32} (tc tn tg td tga tp : Int32) (tla tgr tse tki tha tsi ton taw twl : Nat → Int32) {m v s : Nat} {mat : Nat → Int32} (hb : b < 900000) (hm : m < 100) (hv : v < 2 ^ 31) (hs : s < 1024) (T : TR b S c ni gl la gr se ki ha si on aw) (hist : ∀ s', s' < 1024 → popc s' + 1 = popc s → wMQ S m v s' (mat s')) : ∃ r, fX4_isEnoughWax c ni gl dr la gr se ki ha si on aw tc tn tg td tga tp tla tgr tse tki tha tsi ton taw twl mat (nI s) (nI m) (nI v) = some r ∧ ((enB S m v s = false ∧ r.1 = nI 0 ∧ ∃ M, wMQ S m v s M ∧ r.2.2.2.2.2.2.2.2.2.2.2.2.2.2.2.2 = upd mat s M) ∨ (enB S m v s = true ∧ r.1 = nI 1)) := by
  unfold fX4_isEnoughWax
  rw [zJe, zJe]
  rcases c_wax_L3 (mat := mat) (k1 := _) (k2 := _) hs zK 0 (by omega) (by unfold zK; omega) with ⟨w, hw, hb1, hb2, e⟩ | e
  · obtain ⟨x1, x2⟩ := xor_small w hw s hs hb1
    have q := MQ_more hw hb1 (hist _ x1 x2) hb2
    refine ⟨(nI 0, tc, tn, tg, td, tga, tp, tla, tgr, tse, tki, tha, tsi, ton, taw, twl, upd mat s (mat (s ^^^ 2 ^ w))), e.trans ?_, Or.inl ⟨MQ_no q, rfl, _, q, rfl⟩⟩
    rw [nI_xor, zg x1 (by omega), zg hs (by omega), nI_clamp (by omega), nI_clamp (by omega)]
  · obtain ⟨r, e1, T2, d2, g2, p2⟩ := c_become (dr := dr) tc tn tg td tga tp tla tgr tse tki tha tsi ton taw twl T
    rw [e, e1, zbs, zJe]
    have T2' := T2
    rw [← waxAt_0 S s] at T2'
    obtain ⟨gr', T3, e3⟩ := c_wax_L75 (s := s) (k := fun (v_tried_ground_7 : Nat → Int32) => ((fX2_gainsAtMost r.1 r.2.1 r.2.2.1 r.2.2.2.2.1 r.2.2.2.2.2.1 r.2.2.2.2.2.2.1 v_tried_ground_7 r.2.2.2.2.2.2.2.2.1 r.2.2.2.2.2.2.2.2.2.1 r.2.2.2.2.2.2.2.2.2.2.1 r.2.2.2.2.2.2.2.2.2.2.2.1 r.2.2.2.2.2.2.2.2.2.2.2.2.1 r.2.2.2.2.2.2.2.2.2.2.2.2.2 twl (nI m) (nI v)).bind (fun u114 => ((fX2_wallsOfGround gr (nI 2)).bind (fun u136 => (if nI s < 0 ∨ 1024 ≤ (nI s).toNatClampNeg then none else (if u114.1 &&& 1 = u114.1 then (some (u114.1, r.1, u114.2.1, u114.2.2.1, r.2.2.2.1, u114.2.2.2.1, u114.2.2.2.2.1, r.2.2.2.2.2.2.1, u114.2.2.2.2.2.1, r.2.2.2.2.2.2.2.2.1, r.2.2.2.2.2.2.2.2.2.1, r.2.2.2.2.2.2.2.2.2.2.1, u114.2.2.2.2.2.2.1, u114.2.2.2.2.2.2.2.1, u114.2.2.2.2.2.2.2.2.1, u114.2.2.2.2.2.2.2.2.2, (upd mat (nI s).toNatClampNeg (u114.2.2.2.2.1 &&& (u136 ^^^ (-1 : Int32)))))) else none))))))) hs zK 0 (by omega) (by unfold zK; omega) _ T2'
    rw [e3, g2, p2]
    obtain ⟨t, ht, ho, u, e5, a1, a2, _⟩ := c_most (v := v) (wl := twl) hb hm hv T3
    rw [e5, zbs, c_grounds T (by omega), zbs, zg hs (by omega), nI_clamp (by omega)]
    by_cases x : seenN (waxAt S s 10) m ≤ v
    · rw [if_pos x] at a1
      rw [if_pos (show u.1 &&& 1 = u.1 by rw [a1]; decide)]
      exact ⟨_, rfl, Or.inr ⟨by unfold enB; simp [x], a1⟩⟩
    · rw [if_neg x] at a1
      rw [if_pos (show u.1 &&& 1 = u.1 by rw [a1]; decide)]
      refine ⟨_, rfl, Or.inl ⟨by unfold enB; simp; omega, a1, _, ?_, rfl⟩⟩
      have hlt : v < seenN (waxAt S s 10) t := by
        rcases ho with h | h
        · rw [h]; omega
        · exact h
      refine ⟨t, ht, hlt, fun w hw => ?_⟩
      rw [a2, bI_stored (by have := paintsN_lt T3.1 t; omega) (by have := setN_lt (fun w => decide (S (8 + 2 * w) = 2)) 10; omega) hw, setN_test _ hw]
def wIn (E : Nat → Bool) (k : Nat) : Nat → Nat → Option Nat
  | 0, _ => none
  | n + 1, i => if popc i = k ∧ E i = true then some i else wIn E k n (i + 1)
def wAns (E : Nat → Bool) : Nat → Nat → Int32
  | 0, _ => -3
  | n + 1, k => match wIn E k 1024 0 with
    | some s => nI s
    | none => wAns E n (k + 1)
theorem wIn_some {E : Nat → Bool} {k : Nat} : ∀ n i t, wIn E k n i = some t → i ≤ t ∧ t < i + n ∧ popc t = k ∧ E t = true ∧ ∀ s, i ≤ s → s < t → ¬ (popc s = k ∧ E s = true) := by
  intro n
  induction n with
  | zero => intro i t h; cases h
  | succ n ih =>
    intro i t h
    rw [wIn] at h
    by_cases x : popc i = k ∧ E i = true
    · rw [if_pos x] at h
      cases h
      exact ⟨by omega, by omega, x.1, x.2, fun s h1 h2 => by omega⟩
    · rw [if_neg x] at h
      obtain ⟨h1, h2, h3, h4, h5⟩ := ih (i + 1) t h
      refine ⟨by omega, by omega, h3, h4, fun s g1 g2 => ?_⟩
      by_cases e : s = i
      · rw [e]; exact x
      · exact h5 s (by omega) g2
theorem wIn_none {E : Nat → Bool} {k : Nat} : ∀ n i, wIn E k n i = none → ∀ s, i ≤ s → s < i + n → ¬ (popc s = k ∧ E s = true) := by
  intro n
  induction n with
  | zero => intro i _ s h1 h2; omega
  | succ n ih =>
    intro i h s h1 h2
    rw [wIn] at h
    by_cases x : popc i = k ∧ E i = true
    · rw [if_pos x] at h; cases h
    · rw [if_neg x] at h
      by_cases e : s = i
      · rw [e]; exact x
      · exact ih (i + 1) h s (by omega) (by omega)
theorem popc_le {s : Nat} : popc s ≤ 10 := by unfold popc; omega
def wBest (E : Nat → Bool) (t : Nat) : Prop := E t = true ∧ ∀ s, s < 1024 → E s = true → popc t < popc s ∨ (popc t = popc s ∧ t ≤ s)
theorem wAns_spec {E : Nat → Bool} : ∀ n k, k + n = 11 → (∀ s, s < 1024 → popc s < k → E s = false) → (wAns E n k = -3 ∧ ∀ s, s < 1024 → E s = false) ∨ ∃ t, t < 1024 ∧ wAns E n k = nI t ∧ wBest E t := by
  intro n
  induction n with
  | zero =>
    intro k hk h
    left
    refine ⟨rfl, fun s hs => h s hs ?_⟩
    have := popc_le (s := s)
    omega
  | succ n ih =>
    intro k hk h
    rw [wAns]
    cases hw : wIn E k 1024 0 with
    | some t =>
      right
      obtain ⟨_, h2, h3, h4, h5⟩ := wIn_some 1024 0 t hw
      refine ⟨t, by omega, rfl, h4, fun s hs he => ?_⟩
      by_cases g : popc s < k
      · rw [h s hs g] at he; cases he
      · by_cases e : popc s = k
        · right
          refine ⟨by omega, ?_⟩
          have := h5 s (by omega)
          by_cases l : s < t
          · exact absurd ⟨e, he⟩ (this l)
          · omega
        · left; omega
    | none =>
      refine ih (k + 1) (by omega) (fun s hs g => ?_)
      by_cases e : popc s = k
      · have := wIn_none 1024 0 hw s (by omega) (by omega)
        cases hE : E s with
        | false => rfl
        | true => exact absurd ⟨e, hE⟩ this
      · exact h s hs (by omega)
theorem c_wax_L34 {b : Nat} {S : Nat → Nat} {c ni gl dr : Int32} {la gr se ki ha si on aw : Nat → Int32} {m v kk : Nat} {a : Int32} {k1 k2} (hb : b < 900000) (hm : m < 100) (hv : v < 2 ^ 31) (hkk : kk ≤ 10) (T : TR b S c ni gl la gr se ki ha si on aw) : ∀ n i, i ≤ 1024 → 1024 - i < n → (∀ t, wIn (enB S m v) kk (1024 - i) i = some t → ∀ tc tn tg td tga tp tla tgr tse tki tha tsi ton taw twl mat, okA a (k1 (nI t) tc tn tg td tga tp tla tgr tse tki tha tsi ton taw twl mat)) → (wIn (enB S m v) kk (1024 - i) i = none → ∀ tc tn tg td tga tp tla tgr tse tki tha tsi ton taw twl mat, (∀ s, s < 1024 → popc s < kk + 1 → wMQ S m v s (mat s)) → okA a (k2 tc tn tg td tga tp tla tgr tse tki tha tsi ton taw twl mat)) → ∀ tc tn tg td tga tp tla tgr tse tki tha tsi ton taw twl mat, (∀ s, s < 1024 → (popc s < kk ∨ (popc s = kk ∧ s < i)) → wMQ S m v s (mat s)) → okA a (fX4_waxedFor_L34 c ni gl dr la gr se ki ha si on aw (nI m) (nI v) (nI kk) k1 k2 n (nI i) tc tn tg td tga tp tla tgr tse tki tha tsi ton taw twl mat) := by
  intro n
  induction n with
  | zero => intro i _ h; omega
  | succ n ih =>
    intro i hi hn hk1 hk2 tc tn tg td tga tp tla tgr tse tki tha tsi ton taw twl mat hist
    rw [fX4_waxedFor_L34]
    by_cases h : i < 1024
    · have hp := popc_le (s := i)
      rw [show 1024 - i = (1024 - (i + 1)) + 1 by omega, wIn] at hk1 hk2
      rw [ilt_t h (by omega), z_bitCount i h, zbs, nI_1]
      by_cases x : popc i = kk
      · rw [ieq_t x]
        obtain ⟨r, e, q⟩ := c_enough (dr := dr) tc tn tg td tga tp tla tgr tse tki tha tsi ton taw twl (mat := mat) hb hm hv h T (fun s' h1 h2 => hist s' h1 (Or.inl (by omega)))
        rw [e, zbs]
        rcases q with ⟨q1, q2, M, q3, q4⟩ | ⟨q1, q2⟩
        · rw [q2, if00]
          rw [if_neg (by rw [q1]; simp)] at hk1 hk2
          refine ih (i + 1) (by omega) (by omega) hk1 hk2 _ _ _ _ _ _ _ _ _ _ _ _ _ _ _ _ (fun s hs g => ?_)
          show wMQ S m v s (r.2.2.2.2.2.2.2.2.2.2.2.2.2.2.2.2 s)
          rw [q4]
          by_cases e2 : s = i
          · rw [e2, pk_us]; exact q3
          · rw [pk_un e2]; exact hist s hs (by omega)
        · rw [q2, if10]
          rw [if_pos ⟨x, q1⟩] at hk1
          exact hk1 i rfl _ _ _ _ _ _ _ _ _ _ _ _ _ _ _ _
      · rw [ieq_f x (by omega) (by omega)]
        rw [if_neg (fun q => x q.1)] at hk1 hk2
        exact ih (i + 1) (by omega) (by omega) hk1 hk2 _ _ _ _ _ _ _ _ _ _ _ _ _ _ _ _ (fun s hs g => hist s hs (by
          rcases g with g | ⟨g1, g2⟩
          · exact Or.inl g
          · right
            refine ⟨g1, ?_⟩
            by_cases e : s = i
            · rw [e] at g1; exact absurd g1 x
            · omega))
    · have e : i = 1024 := by omega
      subst e
      rw [ilt_f (by omega) (by omega)]
      exact hk2 rfl _ _ _ _ _ _ _ _ _ _ _ _ _ _ _ _ (fun s hs g => hist s hs (by omega))
theorem c_wax_L25 {b : Nat} {S : Nat → Nat} {c ni gl dr : Int32} {la gr se ki ha si on aw : Nat → Int32} {m v : Nat} {a : Int32} {k1 k2} (hb : b < 900000) (hm : m < 100) (hv : v < 2 ^ 31) (T : TR b S c ni gl la gr se ki ha si on aw) : ∀ n i, i ≤ 11 → 11 - i < n → a = wAns (enB S m v) (11 - i) i → (∀ t, ∀ tc tn tg td tga tp tla tgr tse tki tha tsi ton taw twl mat, okA (nI t) (k1 (nI t) tc tn tg td tga tp tla tgr tse tki tha tsi ton taw twl mat)) → (∀ tc tn tg td tga tp tla tgr tse tki tha tsi ton taw twl mat, okA (-3) (k2 tc tn tg td tga tp tla tgr tse tki tha tsi ton taw twl mat)) → ∀ tc tn tg td tga tp tla tgr tse tki tha tsi ton taw twl mat, (∀ s, s < 1024 → popc s < i → wMQ S m v s (mat s)) → okA a (fX4_waxedFor_L25 c ni gl dr la gr se ki ha si on aw (nI m) (nI v) k1 k2 n (nI i) tc tn tg td tga tp tla tgr tse tki tha tsi ton taw twl mat) := by
  intro n
  induction n with
  | zero => intro i _ h; omega
  | succ n ih =>
    intro i hi hn ha hk1 hk2 tc tn tg td tga tp tla tgr tse tki tha tsi ton taw twl mat hist
    rw [fX4_waxedFor_L25]
    by_cases h : i < 11
    · rw [ilt_f (by omega) (by omega), zJe, zJe, nI_1]
      rw [show 11 - i = (11 - (i + 1)) + 1 by omega, wAns] at ha
      refine c_wax_L34 (a := a) hb hm hv (by omega) T zK 0 (by omega) (by unfold zK; omega) ?_ ?_ _ _ _ _ _ _ _ _ _ _ _ _ _ _ _ _ (fun s hs g => hist s hs (by omega))
      · intro t ht
        rw [show 1024 - 0 = 1024 from rfl] at ht
        rw [ht] at ha
        intro b1 b2 b3 b4 b5 b6 b7 b8 b9 b10 b11 b12 b13 b14 b15 mat
        rw [ha]
        exact hk1 t _ _ _ _ _ _ _ _ _ _ _ _ _ _ _ _
      · intro ht
        rw [show 1024 - 0 = 1024 from rfl] at ht
        rw [ht] at ha
        intro b1 b2 b3 b4 b5 b6 b7 b8 b9 b10 b11 b12 b13 b14 b15 mat hm2
        exact ih (i + 1) (by omega) (by omega) ha hk1 hk2 _ _ _ _ _ _ _ _ _ _ _ _ _ _ _ _ hm2
    · have e : i = 11 := by omega
      subst e
      rw [ilt_t (by omega) (by omega), ha]
      exact hk2 _ _ _ _ _ _ _ _ _ _ _ _ _ _ _ _
theorem s_wax_L3 {b s : Nat} {S : Nat → Nat} {z : Int32} {k} (I : Inv b S) (hs : s < 1024) : ∀ n i, i ≤ 10 → 10 - i < n → fX5_isWaxed_L3 (nI s) k n (nI i) (rowOf (waxAt S s i) z) = k (rowOf (waxAt S s 10) z) := by
  intro n
  induction n with
  | zero => intro i _ h; omega
  | succ n ih =>
    intro i hi hn
    rw [fX5_isWaxed_L3]
    by_cases h : i < 10
    · have ih := ih (i + 1) (by omega) (by omega)
      rw [ilt_t h (by omega), shr_bit10 i h s hs, nI_mul, nI_add, nI_1]
      by_cases x : s.testBit i = true
      · rw [← waxAt_t x] at ih
        rw [if_pos x, if_pos rfl, zg (by omega) (by omega), nI_clamp (by omega), rowOf_upd (by omega)]
        exact ih
      · rw [← waxAt_f (Bool.eq_false_iff.mpr x)] at ih
        rw [if_neg x, if_neg (by decide), s_ground (by omega), zbs, zg (by omega) (by omega), nI_clamp (by omega), rowOf_upd (by omega), updN_self]
        exact ih
    · have e : i = 10 := by omega
      rw [ilt_f (by omega) (by omega), e]
theorem s_isWaxed {b s m v : Nat} {S : Nat → Nat} {z w : Int32} {g : Nat → Int32} (hb : b < 900000) (hm : m < 100) (hv : v < 2 ^ 31) (I : Inv b S) (hs : s < 1024) : ∃ g', fX5_isWaxed w (rowOf S z) (rowOf S z) g (nI s) (nI m) (nI v) = some (nI (if enB S m v s then 1 else 0), nI 0, rowOf S z, g') := by
  unfold fX5_isWaxed
  rw [zJe]
  have I2 := inv_wax (s := s) I 10 (by omega)
  have hl := seenN_le I2 m
  obtain ⟨g', e⟩ := s_viewedBy (m := m) (z := z) (v := w) (f := rowOf S z) (g := g) hb (by omega) I2 (t0_row I)
  have e2 := s_wax_L3 (z := z) (k := fun (v_row_3 : Nat → Int32) => ((fX5_viewedBy w v_row_3 (rowOf S z) g (nI m)).bind (fun u50 => (if nI v < u50.1 then (some ((nI 0), u50.2.1, u50.2.2.1, u50.2.2.2)) else (some ((nI 1), u50.2.1, u50.2.2.1, u50.2.2.2)))))) I hs zK 0 (by omega) (by unfold zK; omega)
  rw [waxAt_0] at e2
  refine ⟨g', e2.trans ?_⟩
  rw [e, zbs]
  unfold enB
  by_cases x : seenN (waxAt S s 10) m ≤ v
  · rw [ilt_f (by omega) (by omega), if_pos (by simp [x])]
  · rw [ilt_t (by omega) (by omega), if_neg (by simp [x])]
/-- the reference's best so far -/
def rBest (E : Nat → Bool) : Nat → Option Nat
  | 0 => none
  | n + 1 => match rBest E n with
    | none => if E n then some n else none
    | some t => if popc n < popc t ∧ E n = true then some n else some t
theorem rBest_spec {E : Nat → Bool} : ∀ n, (rBest E n = none → ∀ s, s < n → E s = false) ∧ (∀ t, rBest E n = some t → t < n ∧ E t = true ∧ ∀ s, s < n → E s = true → popc t < popc s ∨ (popc t = popc s ∧ t ≤ s)) := by
  intro n
  induction n with
  | zero => exact ⟨fun _ s hs => by omega, fun t h => by cases h⟩
  | succ n ih =>
    rw [rBest]
    cases hr : rBest E n with
    | none =>
      have i0 := ih.1 hr
      dsimp only
      by_cases x : E n = true
      · rw [if_pos x]
        refine ⟨fun h => (by cases h), fun t h => ?_⟩
        cases h
        refine ⟨by omega, x, fun s hs he => ?_⟩
        by_cases e : s = n
        · rw [e]; right; exact ⟨rfl, by omega⟩
        · rw [i0 s (by omega)] at he; cases he
      · rw [if_neg x]
        refine ⟨fun _ s hs => ?_, fun t h => by cases h⟩
        by_cases e : s = n
        · rw [e]; exact Bool.eq_false_iff.mpr x
        · exact i0 s (by omega)
    | some t =>
      obtain ⟨i1, i2, i3⟩ := ih.2 t hr
      dsimp only
      by_cases x : popc n < popc t ∧ E n = true
      · rw [if_pos x]
        refine ⟨fun h => (by cases h), fun u h => ?_⟩
        cases h
        refine ⟨by omega, x.2, fun s hs he => ?_⟩
        by_cases e : s = n
        · rw [e]; right; exact ⟨rfl, by omega⟩
        · rcases i3 s (by omega) he with g | ⟨g1, g2⟩ <;> omega
      · rw [if_neg x]
        refine ⟨fun h => (by cases h), fun u h => ?_⟩
        cases h
        refine ⟨by omega, i2, fun s hs he => ?_⟩
        by_cases e : s = n
        · subst e
          by_cases g : popc t = popc s
          · right; exact ⟨g, by omega⟩
          · left
            by_cases l : popc s < popc t
            · exact absurd ⟨l, he⟩ x
            · omega
        · exact i3 s (by omega) he
def rbI : Option Nat → Int32
  | none => -1
  | some t => nI t
theorem rBest_lt {E : Nat → Bool} {n t : Nat} (h : rBest E n = some t) : t < n := ((rBest_spec (E := E) n).2 t h).1
theorem s_wax_L39 {b m v : Nat} {S : Nat → Nat} {z a : Int32} {row : Nat → Int32} {k} (hb : b < 900000) (hm : m < 100) (hv : v < 2 ^ 31) (I : Inv b S) (hk : ∀ w g, okR a row (k (rbI (rBest (enB S m v) 1024)) w (rowOf S z) g)) : ∀ n i, i ≤ 1024 → 1024 - i < n → ∀ w g, okR a row (fX5_waxedFor_L39 (nI m) (nI v) (rowOf S z) k n (rbI (rBest (enB S m v) i)) (nI i) w (rowOf S z) g) := by
  intro n
  induction n with
  | zero => intro i _ h; omega
  | succ n ih =>
    intro i hi hn w g
    rw [fX5_waxedFor_L39]
    by_cases h : i < 1024
    · have ih := ih (i + 1) (by omega) (by omega)
      rw [rBest] at ih
      rw [ilt_t h (by omega), nI_1]
      obtain ⟨g', e⟩ := s_isWaxed (z := z) (w := w) (g := g) hb hm hv I h
      cases hr : rBest (enB S m v) i with
      | none =>
        rw [hr] at ih
        dsimp only at ih
        rw [show rbI none = -1 from rfl, if_pos (show (-1 : Int32) < 0 by decide), e, zbs]
        by_cases x : enB S m v i = true
        · rw [if_pos x] at ih
          rw [if_pos x, if10]
          exact ih _ _
        · rw [if_neg x] at ih
          rw [if_neg x, if00]
          exact ih _ _
      | some t =>
        have ht := rBest_lt hr
        have p1 := popc_le (s := i)
        have p2 := popc_le (s := t)
        rw [hr] at ih
        dsimp only at ih
        rw [show rbI (some t) = nI t from rfl, if_neg (nI_pos (by omega)), z_ones i h, zbs, z_ones t (by omega), zbs]
        by_cases y : popc i < popc t
        · rw [ilt_t y (by omega), e, zbs]
          by_cases x : enB S m v i = true
          · rw [if_pos ⟨y, x⟩] at ih
            rw [if_pos x, if10]
            exact ih _ _
          · rw [if_neg (fun q => x q.2)] at ih
            rw [if_neg x, if00]
            exact ih _ _
        · rw [if_neg (fun q => y q.1)] at ih
          rw [ilt_f (by omega) (by omega)]
          exact ih _ _
    · have e : i = 1024 := by omega
      subst e
      rw [ilt_f (by omega) (by omega)]
      exact hk _ _
def rAns : Option Nat → Int32
  | none => -3
  | some t => nI t
theorem wax_same (E : Nat → Bool) {N : Nat} (hN : N = 1024) : rAns (rBest E N) = wAns E 11 0 := by
  have h1 := rBest_spec (E := E) N
  have h2 := wAns_spec (E := E) 11 0 (by omega) (fun s _ g => by omega)
  rw [← hN] at h2
  generalize hr : rBest E N = o at h1
  cases o with
  | none =>
    have h1 := h1.1 rfl
    rcases h2 with ⟨g, _⟩ | ⟨t, ht, g, gb⟩
    · exact g.symm
    · have := h1 t ht
      rw [gb.1] at this; cases this
  | some t =>
    obtain ⟨i1, i2, i3⟩ := h1.2 t rfl
    rcases h2 with ⟨g, gn⟩ | ⟨u, hu, g, gb⟩
    · rw [gn t i1] at i2; cases i2
    · rw [g]
      show nI t = nI u
      congr 1
      have a1 := i3 u hu gb.1
      have a2 := gb.2 t (by omega) i2
      omega
theorem p_waxedFor {b : Nat} {S : Nat → Nat} {c ni gl dr : Int32} {la gr se ki ha si on aw : Nat → Int32} (tc tn tg td tga tp : Int32) (tla tgr tse tki tha tsi ton taw twl : Nat → Int32) {mat : Nat → Int32} {w : Int32} {t g : Nat → Int32} (hb : b < 900000) (T : TR b S c ni gl la gr se ki ha si on aw) (ht : T0 t) (x y : Int32) : ∃ a, okA a (fX4_waxedFor c ni gl dr la gr se ki ha si on aw tc tn tg td tga tp tla tgr tse tki tha tsi ton taw twl mat x y) ∧ okR a (rowOf S dr) (fX5_waxedFor w (rowOf S dr) t g x y) := by
  unfold fX4_waxedFor fX5_waxedFor
  rcases rng x (show 1 ≤ 10 by omega) (by omega) with ⟨h, e⟩ | ⟨h1, h, e⟩ | ⟨m, h1, h2, rfl, h3, h4, e⟩
  · rw [if_pos h, e, zbs, if00]; exact ⟨-1, okA_mk, okR_mk ht⟩
  · rw [if_neg h1, if_pos h, e, zbs, if00]; exact ⟨-1, okA_mk, okR_mk ht⟩
  · rw [if_neg h3, if_neg h4, e, zbs, if10]
    rcases rng y (show 0 ≤ 99999 by omega) (by omega) with ⟨h, e⟩ | ⟨h1', h, e⟩ | ⟨v, h1', h2', rfl, h3', h4', e⟩
    · rw [if_pos (show y < 0 from h), e, zbs, if00]; exact ⟨-1, okA_mk, okR_mk ht⟩
    · rw [if_neg (show ¬ y < 0 from h1'), if_pos h, e, zbs, if00]; exact ⟨-1, okA_mk, okR_mk ht⟩
    · rw [if_neg (show ¬ nI v < 0 from h3'), if_neg h4', e, zbs, if10, s_moveAll (t0_row T.1) ht, zbs, zJe, zJe, zJe]
      refine ⟨wAns (enB S m v) 11 0, ?_, ?_⟩
      · exact c_wax_L25 (a := wAns (enB S m v) 11 0) hb (show m < 100 by omega) (by omega) T zK 0 (by omega) (by unfold zK; omega) rfl (fun t b1 b2 b3 b4 b5 b6 b7 b8 b9 b10 b11 b12 b13 b14 b15 mat => okA_mk) (fun b1 b2 b3 b4 b5 b6 b7 b8 b9 b10 b11 b12 b13 b14 b15 mat => okA_mk) _ _ _ _ _ _ _ _ _ _ _ _ _ _ _ _ (fun s _ g => by omega)
      · refine s_wax_L39 (a := wAns (enB S m v) 11 0) hb (show m < 100 by omega) (by omega) T.1 (fun w g => ?_) zK 0 (by omega) (by unfold zK; omega) w g
        rw [← wax_same _ rfl]
        generalize hr : rBest (enB S m v) 1024 = o
        cases o with
        | none => rw [show rbI none = -1 from rfl, if_pos (show (-1 : Int32) < 0 by decide)]; exact okR_mk (t0_row T.1)
        | some t =>
          have := rBest_lt hr
          rw [show rbI (some t) = nI t from rfl, if_neg (nI_pos (by omega))]; exact okR_mk (t0_row T.1)
