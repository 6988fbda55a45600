/-! the text: tokens, on both sides. m bytes, v -/
def cls (x : Nat) : Nat := if 97 ≤ x ∧ x ≤ 122 then 1 else if 48 ≤ x ∧ x ≤ 57 then 2 else 3
def clN (m : Nat) (v : Nat → Nat) (k : Nat) : Nat := if k < m then cls (v k) else 0
def skipN (m : Nat) (v : Nat → Nat) : Nat → Nat → Nat
  | 0, p => p
  | n + 1, p => if p < m ∧ v p = 32 then skipN m v n (p + 1) else p
def skipT (m : Nat) (v : Nat → Nat) (p : Nat) : Nat := skipN m v (m - p) p
def runN (m : Nat) (v : Nat → Nat) (s : Nat) : Nat → Nat → Nat
  | 0, p => p
  | n + 1, p => if clN m v p = s then runN m v s n (p + 1) else p
def eT (m : Nat) (v : Nat → Nat) (f : Nat) : Nat := if clN m v f = 3 then f + 1 else if clN m v f = 0 then f else runN m v (clN m v f) (m - f) f
def nextT (m : Nat) (v : Nat → Nat) (f : Nat) : Nat := skipT m v (eT m v f)
def valN (v : Nat → Nat) (f : Nat) : Nat → Nat
  | 0 => 0
  | n + 1 => 27 * valN v f n + (v (f + n) - 96)
def numN (v : Nat → Nat) (f : Nat) : Nat → Nat
  | 0 => 0
  | n + 1 => 10 * numN v f n + (v (f + n) - 48)
def wAcc (v : Nat → Nat) (f i : Nat) : Int64 := if i ≤ 9 then lN (valN v f i) else -1
def vAcc (v : Nat → Nat) (f i : Nat) : Int32 := if i ≤ 3 then nI (numN v f i) else -1
def wT (m : Nat) (v : Nat → Nat) (f : Nat) : Int64 := if clN m v f = 1 then wAcc v f (eT m v f - f) else lN 0
def vT (m : Nat) (v : Nat → Nat) (f : Nat) : Int32 := if clN m v f = 2 then vAcc v f (eT m v f - f) else if clN m v f = 0 then -1 else nI (v f)
theorem cls_le (x : Nat) : 1 ≤ cls x ∧ cls x ≤ 3 := by
  unfold cls
  split
  · omega
  · split <;> omega
theorem clN_le (m : Nat) (v : Nat → Nat) (k : Nat) : clN m v k ≤ 3 := by
  unfold clN
  split
  · exact (cls_le _).2
  · omega
theorem clN_lt {m : Nat} {v : Nat → Nat} {k : Nat} (h : clN m v k ≠ 0) : k < m := by
  unfold clN at h
  by_cases x : k < m
  · exact x
  · rw [if_neg x] at h; exact absurd rfl h
theorem clN_0 {m : Nat} {v : Nat → Nat} {k : Nat} (h : clN m v k = 0) : m ≤ k := by
  unfold clN at h
  by_cases x : k < m
  · rw [if_pos x] at h
    have := (cls_le (v k)).1
    omega
  · omega
theorem skipN_le (m : Nat) (v : Nat → Nat) : ∀ n p, p + n ≤ m → p ≤ skipN m v n p ∧ skipN m v n p ≤ m := by
  intro n
  induction n with
  | zero => intro p h; exact ⟨Nat.le_refl p, h⟩
  | succ n ih =>
    intro p h
    rw [skipN]
    split
    · have := ih (p + 1) (by omega); omega
    · omega
theorem skipT_le {m : Nat} {v : Nat → Nat} {p : Nat} (h : p ≤ m) : p ≤ skipT m v p ∧ skipT m v p ≤ m := skipN_le m v (m - p) p (by omega)
theorem runN_le (m : Nat) (v : Nat → Nat) (s : Nat) : ∀ n p, p + n ≤ m → p ≤ runN m v s n p ∧ runN m v s n p ≤ m := by
  intro n
  induction n with
  | zero => intro p h; exact ⟨Nat.le_refl p, h⟩
  | succ n ih =>
    intro p h
    rw [runN]
    split
    · have := ih (p + 1) (by omega); omega
    · omega
theorem runN_all (m : Nat) (v : Nat → Nat) (s : Nat) : ∀ n p k, p ≤ k → k < runN m v s n p → clN m v k = s := by
  intro n
  induction n with
  | zero => intro p k h1 h2; rw [runN] at h2; omega
  | succ n ih =>
    intro p k h1 h2
    rw [runN] at h2
    by_cases x : clN m v p = s
    · rw [if_pos x] at h2
      by_cases e : k = p
      · rw [e]; exact x
      · exact ih (p + 1) k (by omega) h2
    · rw [if_neg x] at h2; omega
theorem eT_le {m : Nat} {v : Nat → Nat} {f : Nat} (h : f ≤ m) : f ≤ eT m v f ∧ eT m v f ≤ m := by
  unfold eT
  split
  · next x => have := clN_lt (m := m) (v := v) (k := f) (by omega); omega
  · split
    · omega
    · exact runN_le m v _ (m - f) f (by omega)
theorem eT_gt {m : Nat} {v : Nat → Nat} {f : Nat} (h : clN m v f ≠ 0) : f < eT m v f := by
  have hl := clN_lt h
  unfold eT
  split
  · omega
  · rw [show m - f = (m - f - 1) + 1 by omega, runN, if_pos rfl]
    have := (runN_le m v (clN m v f) (m - f - 1) (f + 1) (by omega)).1
    omega
theorem eT_all {m : Nat} {v : Nat → Nat} {f k : Nat} (h : clN m v f = 1 ∨ clN m v f = 2) (h1 : f ≤ k) (h2 : k < eT m v f) : clN m v k = clN m v f := by
  unfold eT at h2
  rw [if_neg (by omega), if_neg (by omega)] at h2
  exact runN_all m v _ (m - f) f k h1 h2
theorem next_le {m : Nat} {v : Nat → Nat} {f : Nat} (h : f ≤ m) : f ≤ nextT m v f ∧ nextT m v f ≤ m := by
  have h1 := eT_le (v := v) h
  have h2 := skipT_le (v := v) h1.2
  unfold nextT
  omega
theorem next_gt {m : Nat} {v : Nat → Nat} {f : Nat} (h : clN m v f ≠ 0) : f < nextT m v f := by
  have h0 := clN_lt h
  have h1 := eT_le (v := v) (show f ≤ m by omega)
  have h2 := skipT_le (v := v) h1.2
  have h3 := eT_gt h
  unfold nextT
  omega
/-- the bytes of the class and of the reference -/
def BytesR (m : Nat) (v : Nat → Nat) (tape rt : Nat → Int32) : Prop := m ≤ 200 ∧ ∀ k, k < m → v k < 256 ∧ tape k = sb (v k) ∧ rt k = nI (v k)
theorem tape_bytes {tp tm : Int32} {tape rt : Nat → Int32} (R : TapeR tp tape tm rt) : ∃ m v, BytesR m v tape rt ∧ tp = nI m ∧ tm = nI m := by
  obtain ⟨m, hm, h1, h2, hr⟩ := R
  refine ⟨m, fun k => (rt k).toBitVec.toNat, ⟨hm, fun k hk => ?_⟩, h1, h2⟩
  obtain ⟨v, hv, e1, e2⟩ := hr k hk
  have : (rt k).toBitVec.toNat = v := by rw [e1, pk_tn (by omega)]
  dsimp only
  rw [this]
  exact ⟨hv, e2, e1⟩
theorem sb_sort : ∀ x, x < 256 → (if sb x < nI 97 then (if sb x < nI 48 then (some (nI 3)) else (if nI 57 < sb x then (some (nI 3)) else (some (nI 2)))) else (if nI 122 < sb x then (if sb x < nI 48 then (some (nI 3)) else (if nI 57 < sb x then (some (nI 3)) else (some (nI 2)))) else (some (nI 1)))) = some (nI (cls x)) := by decide +kernel
theorem sb_32 : ∀ x, x < 256 → (sb x = nI 32 ↔ x = 32) := by decide +kernel
theorem sb_59 : ∀ x, x < 256 → (sb x = nI 59 ↔ x = 59) := by decide +kernel
theorem sb_small : ∀ x, x < 128 → sb x = nI x := by decide +kernel
theorem s_letter : ∀ x, x < 256 → fX5_isLetter (nI x) = some (nI (if cls x = 1 then 1 else 0)) := by decide +kernel
theorem s_digit : ∀ x, x < 256 → fX5_isDigit (nI x) = some (nI (if cls x = 2 then 1 else 0)) := by decide +kernel
theorem s_letterM : fX5_isLetter (-1) = some (nI 0) := by decide +kernel
theorem s_digitM : fX5_isDigit (-1) = some (nI 0) := by decide +kernel
theorem cls_1 {x : Nat} (h : cls x = 1) : 97 ≤ x ∧ x ≤ 122 := by
  unfold cls at h
  by_cases a : 97 ≤ x ∧ x ≤ 122
  · exact a
  · rw [if_neg a] at h
    split at h <;> omega
theorem cls_2 {x : Nat} (h : cls x = 2) : 48 ≤ x ∧ x ≤ 57 := by
  unfold cls at h
  by_cases a : 97 ≤ x ∧ x ≤ 122
  · rw [if_pos a] at h; omega
  · rw [if_neg a] at h
    by_cases c : 48 ≤ x ∧ x ≤ 57
    · exact c
    · rw [if_neg c] at h; omega
section TOK
variable {m : Nat} {v : Nat → Nat} {tape rt : Nat → Int32}
theorem c_sortAt (B : BytesR m v tape rt) {p : Nat} (hp : p ≤ m) : fX3_sortAt (nI m) tape (nI p) = some (nI (clN m v p)) := by
  have hm := B.1
  unfold fX3_sortAt clN
  by_cases h : p < m
  · obtain ⟨h1, h2, _⟩ := B.2 p h
    rw [ilt_t h (by omega), zg (by omega) (by omega), nI_clamp (by omega), h2, if_pos h]
    exact sb_sort _ h1
  · rw [ilt_f (by omega) (by omega), if_neg h]
theorem c_skip (B : BytesR m v tape rt) {k : Int32 → Option (Int32 × Int32 × Int32)} : ∀ n p, p ≤ m → m - p < n → fX3_step_L8 (nI m) tape k n (nI p) = k (nI (skipT m v p)) := by
  have hm := B.1
  intro n
  induction n with
  | zero => intro p _ h; omega
  | succ n ih =>
    intro p hp hn
    rw [fX3_step_L8]
    unfold skipT
    by_cases h : p < m
    · obtain ⟨h1, h2, _⟩ := B.2 p h
      have ih := ih (p + 1) (by omega) (by omega)
      unfold skipT at ih
      rw [ilt_t h (by omega), zg (by omega) (by omega), nI_clamp (by omega), h2, show m - p = (m - (p + 1)) + 1 by omega, skipN, nI_add]
      by_cases x : v p = 32
      · rw [if_pos ((sb_32 _ h1).mpr x), if_pos ⟨h, x⟩]; exact ih
      · rw [if_neg (fun q => x ((sb_32 _ h1).mp q)), if_neg (fun q => x q.2)]
    · rw [ilt_f (by omega) (by omega), show m - p = 0 by omega]; rfl
theorem c_run (B : BytesR m v tape rt) {s : Nat} {k : Int32 → Option (Int32 × Int32 × Int32)} (hs : s = 1 ∨ s = 2) : ∀ n p, p ≤ m → m - p < n → fX3_step_L94 (nI m) tape (nI s) k n (nI p) = k (nI (runN m v s (m - p) p)) := by
  have hm := B.1
  intro n
  induction n with
  | zero => intro p _ h; omega
  | succ n ih =>
    intro p hp hn
    rw [fX3_step_L94]
    by_cases h : p < m
    · have hc := clN_le m v p
      have ih := ih (p + 1) (by omega) (by omega)
      rw [ilt_t h (by omega), c_sortAt B hp, zbs, show m - p = (m - (p + 1)) + 1 by omega, runN, nI_add]
      by_cases x : clN m v p = s
      · rw [ieq_t x, if_pos x]; exact ih
      · rw [ieq_f x (by omega) (by omega), if_neg x]
    · rw [ilt_f (by omega) (by omega), show m - p = 0 by omega]; rfl
theorem c_step (B : BytesR m v tape rt) {e : Nat} (he : e ≤ m) (F SO : Int32) : fX3_step (nI m) F (nI e) SO tape = some (nI (skipT m v e), nI (eT m v (skipT m v e)), nI (clN m v (skipT m v e))) := by
  have hm := B.1
  have hs := skipT_le (v := v) he
  have hc := clN_le m v (skipT m v e)
  unfold fX3_step
  rw [zJe, c_skip B zK e he (by unfold zK; omega), c_sortAt B hs.2, zbs, zJe]
  unfold eT
  by_cases x3 : clN m v (skipT m v e) = 3
  · rw [ieq_t x3, if_pos x3, nI_add]
  · rw [ieq_f x3 (by omega) (by omega), if_neg x3]
    by_cases x0 : clN m v (skipT m v e) = 0
    · rw [ie0_t x0, if_pos x0]
    · rw [ie0_f x0 (by omega), if_neg x0, c_run B (by omega) zK _ hs.2 (by unfold zK; omega)]
theorem s_byteAt (B : BytesR m v tape rt) {p : Nat} (hp : p ≤ m) : fX5_byteAt (nI m) rt (nI p) = some (if p < m then nI (v p) else -1) := by
  have hm := B.1
  unfold fX5_byteAt
  by_cases h : p < m
  · obtain ⟨h1, _, h3⟩ := B.2 p h
    rw [ilt_t h (by omega), zg (by omega) (by omega), nI_clamp (by omega), h3, if_pos h]
  · rw [ilt_f (by omega) (by omega), if_neg h]
theorem s_skip (B : BytesR m v tape rt) {k : Int32 → Option (Int32 × Int32 × Int32 × Int64 × Int32)} : ∀ n p, p ≤ m → m - p < n → fX5_advance_L8 (nI m) rt k n (nI p) = k (nI (skipT m v p)) := by
  have hm := B.1
  intro n
  induction n with
  | zero => intro p _ h; omega
  | succ n ih =>
    intro p hp hn
    rw [fX5_advance_L8, s_byteAt B hp, zbs]
    unfold skipT
    by_cases h : p < m
    · obtain ⟨h1, _, _⟩ := B.2 p h
      have ih := ih (p + 1) (by omega) (by omega)
      unfold skipT at ih
      rw [if_pos h, show m - p = (m - (p + 1)) + 1 by omega, skipN, nI_add]
      by_cases x : v p = 32
      · rw [ieq_t x, if_pos ⟨h, x⟩]; exact ih
      · rw [ieq_f x (by omega) (by omega), if_neg (fun q => x q.2)]
    · rw [if_neg h, if_neg (show ¬ (-1 : Int32) = nI 32 by decide), show m - p = 0 by omega]; rfl
theorem s_isLetterAt (B : BytesR m v tape rt) {p : Nat} (hp : p ≤ m) : fX5_isLetter (if p < m then nI (v p) else -1) = some (nI (if clN m v p = 1 then 1 else 0)) := by
  unfold clN
  by_cases h : p < m
  · obtain ⟨h1, _, _⟩ := B.2 p h
    rw [if_pos h, if_pos h]; exact s_letter _ h1
  · rw [if_neg h, if_neg h]; exact s_letterM
theorem s_isDigitAt (B : BytesR m v tape rt) {p : Nat} (hp : p ≤ m) : fX5_isDigit (if p < m then nI (v p) else -1) = some (nI (if clN m v p = 2 then 1 else 0)) := by
  unfold clN
  by_cases h : p < m
  · obtain ⟨h1, _, _⟩ := B.2 p h
    rw [if_pos h, if_pos h]; exact s_digit _ h1
  · rw [if_neg h, if_neg h]; exact s_digitM
theorem valN_lt (v : Nat → Nat) (f : Nat) : ∀ n, n ≤ 9 → (∀ i, i < n → v (f + i) ≤ 122) → valN v f n < 27 ^ n := by
  intro n
  induction n with
  | zero => intro _ _; exact Nat.one_pos
  | succ n ih =>
    intro h1 h2
    have := ih (by omega) (fun i hi => h2 i (by omega))
    have := h2 n (by omega)
    rw [valN, Nat.pow_succ]; omega
theorem clN_v {m : Nat} {v : Nat → Nat} {p : Nat} (h : p < m) : clN m v p = cls (v p) := if_pos h
theorem s_word (B : BytesR m v tape rt) {f : Nat} {k : Int32 → Int64 → Option (Int32 × Int32 × Int32 × Int64 × Int32)} (hl : clN m v f = 1) : ∀ n i, f + i ≤ m → m - (f + i) < n → (∀ j, j < i → clN m v (f + j) = 1) → fX5_advance_L126 (nI m) rt (nI f) (nI 1) k n (nI (f + i)) (wAcc v f i) = k (nI (runN m v 1 (m - (f + i)) (f + i))) (wAcc v f (runN m v 1 (m - (f + i)) (f + i) - f)) := by
  have hm := B.1
  intro n
  induction n with
  | zero => intro i _ h; omega
  | succ n ih =>
    intro i hi hn hj
    rw [fX5_advance_L126, if_pos rfl, s_byteAt B hi, zbs, s_isLetterAt B hi, zbs]
    by_cases x : clN m v (f + i) = 1
    · have h := clN_lt (m := m) (v := v) (k := f + i) (by omega)
      obtain ⟨h1, _, _⟩ := B.2 (f + i) h
      have c1 := cls_1 (clN_v h ▸ x)
      have ih := ih (i + 1) (by omega) (by omega) (fun j hj2 => by
        by_cases e : j = i
        · rw [e]; exact x
        · exact hj j (by omega))
      rw [if_pos x, if10, if_pos h, nI_sub (by omega), zbs, nI_add, show f + i - f = i by omega, show m - (f + i) = (m - (f + i + 1)) + 1 by omega, runN, if_pos x]
      rw [show f + (i + 1) = f + i + 1 by omega] at ih
      by_cases y : i < 9
      · have hv := valN_lt v f i (by omega) (fun j hj2 => by
          have := cls_1 (clN_v (show f + j < m by omega) ▸ hj j hj2); omega)
        have h27 : 27 ^ i ≤ 27 ^ 8 := Nat.pow_le_pow_right (by omega) (by omega)
        have h278 : 27 ^ 8 = 282429536481 := by decide
        have ew : ((lN 27 * wAcc v f i) + (nI (v (f + i))).toInt64) - lN 96 = wAcc v f (i + 1) := by
          unfold wAcc
          rw [if_pos (by omega), if_pos (by omega), nI_l (by omega), lN_mul, lN_add, lN_sub (by omega), valN]
          congr 1; omega
        rw [ilt_t y (by omega), ew]; exact ih
      · have ew : (-1 : Int64) = wAcc v f (i + 1) := by unfold wAcc; rw [if_neg (by omega)]
        rw [ilt_f (by omega) (by omega), ew]; exact ih
    · rw [if_neg x, if00]
      by_cases h : f + i < m
      · rw [show m - (f + i) = (m - (f + i + 1)) + 1 by omega, runN, if_neg x, show f + i - f = i by omega]
      · rw [show m - (f + i) = 0 by omega, runN, show f + i - f = i by omega]
theorem numN_lt (v : Nat → Nat) (f : Nat) : ∀ n, (∀ i, i < n → v (f + i) ≤ 57) → numN v f n < 10 ^ n := by
  intro n
  induction n with
  | zero => intro _; exact Nat.one_pos
  | succ n ih =>
    intro h2
    have := ih (fun i hi => h2 i (by omega))
    have := h2 n (by omega)
    rw [numN, Nat.pow_succ]; omega
theorem s_num (B : BytesR m v tape rt) {f : Nat} {k : Int32 → Int32 → Option (Int32 × Int32 × Int32 × Int64 × Int32)} (hl : clN m v f = 2) : ∀ n i, f + i ≤ m → m - (f + i) < n → (∀ j, j < i → clN m v (f + j) = 2) → fX5_advance_L207 (nI m) rt (nI f) (nI 2) k n (nI (f + i)) (vAcc v f i) = k (nI (runN m v 2 (m - (f + i)) (f + i))) (vAcc v f (runN m v 2 (m - (f + i)) (f + i) - f)) := by
  have hm := B.1
  intro n
  induction n with
  | zero => intro i _ h; omega
  | succ n ih =>
    intro i hi hn hj
    rw [fX5_advance_L207, if_pos rfl, s_byteAt B hi, zbs, s_isDigitAt B hi, zbs]
    by_cases x : clN m v (f + i) = 2
    · have h := clN_lt (m := m) (v := v) (k := f + i) (by omega)
      obtain ⟨h1, _, _⟩ := B.2 (f + i) h
      have c1 := cls_2 (clN_v h ▸ x)
      have ih := ih (i + 1) (by omega) (by omega) (fun j hj2 => by
        by_cases e : j = i
        · rw [e]; exact x
        · exact hj j (by omega))
      rw [if_pos x, if10, if_pos h, nI_sub (by omega), zbs, nI_add, show f + i - f = i by omega, show m - (f + i) = (m - (f + i + 1)) + 1 by omega, runN, if_pos x]
      rw [show f + (i + 1) = f + i + 1 by omega] at ih
      by_cases y : i < 3
      · have ew : ((nI 10 * vAcc v f i) + nI (v (f + i))) - nI 48 = vAcc v f (i + 1) := by
          unfold vAcc
          rw [if_pos (by omega), if_pos (by omega), nI_mul, nI_add, nI_sub (by omega), numN]
          congr 1; omega
        rw [ilt_t y (by omega), ew]; exact ih
      · have ew : (-1 : Int32) = vAcc v f (i + 1) := by unfold vAcc; rw [if_neg (by omega)]
        rw [ilt_f (by omega) (by omega), ew]; exact ih
    · rw [if_neg x, if00]
      by_cases h : f + i < m
      · rw [show m - (f + i) = (m - (f + i + 1)) + 1 by omega, runN, if_neg x, show f + i - f = i by omega]
      · rw [show m - (f + i) = 0 by omega, runN, show f + i - f = i by omega]
theorem L126_no {TM BG t TE : Int32} {WD : Int64} {k : Int32 → Int64 → Option (Int32 × Int32 × Int32 × Int64 × Int32)} (h : ¬ t = nI 1) : fX5_advance_L126 TM rt BG t k zK TE WD = k TE WD := by
  unfold zK
  rw [fX5_advance_L126, if_neg h]
theorem L207_no {TM BG t TE VA : Int32} {k : Int32 → Int32 → Option (Int32 × Int32 × Int32 × Int64 × Int32)} (h : ¬ t = nI 2) : fX5_advance_L207 TM rt BG t k zK TE VA = k TE VA := by
  unfold zK
  rw [fX5_advance_L207, if_neg h]
theorem eT_0 {m : Nat} {v : Nat → Nat} {f : Nat} (x : clN m v f = 0) : eT m v f = f := by unfold eT; rw [if_neg (by omega), if_pos x]
theorem eT_1 {m : Nat} {v : Nat → Nat} {f : Nat} (x : clN m v f = 1) : eT m v f = runN m v 1 (m - f) f := by unfold eT; rw [if_neg (by omega), if_neg (by omega), x]
theorem eT_2 {m : Nat} {v : Nat → Nat} {f : Nat} (x : clN m v f = 2) : eT m v f = runN m v 2 (m - f) f := by unfold eT; rw [if_neg (by omega), if_neg (by omega), x]
theorem eT_3 {m : Nat} {v : Nat → Nat} {f : Nat} (x : clN m v f = 3) : eT m v f = f + 1 := by unfold eT; rw [if_pos x]
theorem wT_1 {m : Nat} {v : Nat → Nat} {f : Nat} (x : clN m v f = 1) : wT m v f = wAcc v f (eT m v f - f) := by unfold wT; rw [if_pos x]
theorem wT_n {m : Nat} {v : Nat → Nat} {f : Nat} (x : clN m v f ≠ 1) : wT m v f = lN 0 := by unfold wT; rw [if_neg x]
theorem vT_2 {m : Nat} {v : Nat → Nat} {f : Nat} (x : clN m v f = 2) : vT m v f = vAcc v f (eT m v f - f) := by unfold vT; rw [if_pos x]
theorem vT_0 {m : Nat} {v : Nat → Nat} {f : Nat} (x : clN m v f = 0) : vT m v f = -1 := by unfold vT; rw [if_neg (by omega), if_pos x]
theorem vT_n {m : Nat} {v : Nat → Nat} {f : Nat} (x2 : clN m v f ≠ 2) (x0 : clN m v f ≠ 0) : vT m v f = nI (v f) := by unfold vT; rw [if_neg x2, if_neg x0]
theorem zJf {α R : Type} (G : α) (F : α → Option R) : zJ G F = F G := (Eq.refl (zJ G F)).trans rfl
theorem zbf {α β : Type} (a : α) (f : α → Option β) : (some a).bind f = f a := (Eq.refl _).trans rfl
theorem s_advance (B : BytesR m v tape rt) {e : Nat} (he : e ≤ m) (SO BG : Int32) (WD : Int64) (VA : Int32) : fX5_advance (nI m) SO BG (nI e) WD VA rt = some (nI (clN m v (skipT m v e)), nI (skipT m v e), nI (eT m v (skipT m v e)), wT m v (skipT m v e), vT m v (skipT m v e)) := by
  have hm := B.1
  have hs := skipT_le (v := v) he
  have hc := clN_le m v (skipT m v e)
  unfold fX5_advance
  rw [zJe, s_skip B zK e he (by unfold zK; omega), s_byteAt B hs.2, zbs, s_isLetterAt B hs.2, s_isDigitAt B hs.2]
  generalize skipT m v e = f at hs hc
  simp only [zJf, zbf]
  have cc : clN m v f = 0 ∨ clN m v f = 1 ∨ clN m v f = 2 ∨ clN m v f = 3 := by omega
  rcases cc with x | x | x | x
  · have h0 := clN_0 x
    rw [if_neg (show ¬ f < m by omega), if_pos m1_neg, if_neg (show ¬ nI 0 = nI 2 by decide), if_neg (show ¬ nI 0 = nI 3 by decide), L126_no (show ¬ nI 0 = nI 1 by decide), L207_no (show ¬ nI 0 = nI 2 by decide), eT_0 x, wT_n (by omega), vT_0 x, x]
  · have h := clN_lt (m := m) (v := v) (k := f) (by omega)
    obtain ⟨h1, _, _⟩ := B.2 f h
    have q := fun k => s_word B (f := f) (k := k) x zK 0 (by omega) (by unfold zK; omega) (fun j hj => by omega)
    have w0 : wAcc v f 0 = lN 0 := by unfold wAcc; rw [if_pos (by omega), valN]
    rw [Nat.add_zero, w0] at q
    rw [if_pos h, if_neg (nI_pos (by omega)), if_pos x, if10, if_neg (show ¬ nI 1 = nI 2 by decide), if_neg (show ¬ nI 1 = nI 3 by decide), q, L207_no (show ¬ nI 1 = nI 2 by decide), wT_1 x, eT_1 x, vT_n (by omega) (by omega), x]
  · have h := clN_lt (m := m) (v := v) (k := f) (by omega)
    obtain ⟨h1, _, _⟩ := B.2 f h
    have q := fun k => s_num B (f := f) (k := k) x zK 0 (by omega) (by unfold zK; omega) (fun j hj => by omega)
    have w0 : vAcc v f 0 = nI 0 := by unfold vAcc; rw [if_pos (by omega), numN]
    rw [Nat.add_zero, w0] at q
    rw [if_pos h, if_neg (nI_pos (by omega)), if_neg (show ¬ clN m v f = 1 by omega), if00, if_pos x, if10, if_pos trivial, if_neg (show ¬ nI 2 = nI 3 by decide), L126_no (show ¬ nI 2 = nI 1 by decide), q, wT_n (by omega), vT_2 x, eT_2 x, x]
  · have h := clN_lt (m := m) (v := v) (k := f) (by omega)
    obtain ⟨h1, _, _⟩ := B.2 f h
    rw [if_pos h, if_neg (nI_pos (by omega)), if_neg (show ¬ clN m v f = 1 by omega), if00, if_neg (show ¬ clN m v f = 2 by omega), if00, if_neg (show ¬ nI 3 = nI 2 by decide), if_pos trivial, nI_add, L126_no (show ¬ nI 3 = nI 1 by decide), L207_no (show ¬ nI 3 = nI 2 by decide), eT_3 x, wT_n (by omega), vT_n (by omega) (by omega), x]
end TOK
