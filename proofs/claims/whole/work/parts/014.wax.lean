/-! a wall on which nobody is: its ground doesn't tell -/
def Agr (w : Nat) (A B : Nat → Nat) : Prop := ∀ k, k ≠ 8 + 2 * w → A k = B k
def NoOn (w : Nat) (A : Nat → Nat) : Prop := ∀ p, p < A 6 → A (31 + 5 * p) ≠ w
theorem agr_upd {w k v : Nat} {A B : Nat → Nat} (h : Agr w A B) : Agr w (updN A k v) (updN B k v) := by
  intro j hj
  unfold updN
  split
  · rfl
  · exact h j hj
theorem agr_back {w p : Nat} {A B : Nat → Nat} (hw : w < 10) (h : Agr w A B) : backN A p = backN B p := by
  unfold backN
  rw [h (28 + 5 * p) (by omega), h (29 + 5 * p) (by omega)]
theorem agr_come1 {w p : Nat} {A B : Nat → Nat} (hw : w < 10) (h : Agr w A B) : Agr w (comeOne A p) (comeOne B p) := by
  unfold comeOne
  rw [agr_back hw h, h (31 + 5 * p) (by omega), h (32 + 5 * p) (by omega), h (29 + 5 * p) (by omega), h 4 (by omega)]
  split
  · split
    · exact agr_upd h
    · exact agr_upd (agr_upd (agr_upd (agr_upd h)))
  · exact h
theorem agr_come {w : Nat} {A B : Nat → Nat} (hw : w < 10) (h : Agr w A B) : ∀ n, Agr w (comeUp A n) (comeUp B n) := by
  intro n
  induction n with
  | zero => exact h
  | succ n ih => rw [comeUp, comeUp]; exact agr_come1 hw ih
theorem agr_paint {w : Nat} {A B : Nat → Nat} (hw : w < 10) (h : Agr w A B) : ∀ n, paintUp A n = paintUp B n := by
  intro n
  induction n with
  | zero => rfl
  | succ n ih => rw [paintUp, paintUp, ih, h (31 + 5 * n) (by omega)]
theorem paint_no {w : Nat} {A : Nat → Nat} (hw : w < 10) : ∀ n, (paintUp A n).testBit w = false → ∀ p, p < n → A (31 + 5 * p) ≠ w := by
  intro n
  induction n with
  | zero => intro _ p hp; omega
  | succ n ih =>
    intro h p hp
    rw [paintUp] at h
    by_cases e : A (31 + 5 * n) = 10
    · rw [if_pos e] at h
      by_cases x : p = n
      · subst x; omega
      · exact ih h p (by omega)
    · rw [if_neg e, Nat.testBit_or, Bool.or_eq_false_iff] at h
      by_cases x : p = n
      · subst x
        intro q
        rw [q, Nat.testBit_two_pow_self] at h
        exact absurd h.2 (by decide)
      · exact ih h.1 p (by omega)
theorem agr_oth {w p : Nat} {A B : Nat → Nat} (hw : w < 10) (h : Agr w A B) : othN A p = othN B p := by
  unfold othN
  rw [h 6 (by omega)]
  congr 1
  exact ct_congr (fun j _ => by rw [h (31 + 5 * j) (by omega), h (31 + 5 * p) (by omega)])
theorem agr_grows {w p : Nat} {A B : Nat → Nat} (hw : w < 10) (h : Agr w A B) (hp : A (31 + 5 * p) ≠ w) : growsI A p = growsI B p := by
  unfold growsI luredN
  rw [agr_oth hw h, ← h (28 + 5 * p) (by omega), ← h (31 + 5 * p) (by omega), h (8 + 2 * A (31 + 5 * p)) (by omega), h 1 (by omega)]
theorem agr_grow {w : Nat} {A B : Nat → Nat} (hw : w < 10) (h : Agr w A B) : ∀ n, (∀ p, p < n → A (31 + 5 * p) ≠ w) → Agr w (growUp A n) (growUp B n) := by
  intro n
  induction n with
  | zero => intro _; exact h
  | succ n ih =>
    intro hn
    have ih := ih (fun p hp => hn p (by omega))
    rw [growUp, growUp]
    unfold growOne
    rw [agr_grows hw h (hn n (by omega)), h (31 + 5 * n) (by omega), ih (30 + 5 * n) (by omega)]
    exact agr_upd ih
theorem agr_sum {w x : Nat} {A B : Nat → Nat} (hw : w < 10) (h : Agr w A B) : ∀ n, sumOn A x n = sumOn B x n := by
  intro n
  induction n with
  | zero => rfl
  | succ n ih => rw [sumOn, sumOn, ih, h (31 + 5 * n) (by omega), h (30 + 5 * n) (by omega)]
theorem agr_looks {w x : Nat} {A B : Nat → Nat} (hw : w < 10) (h : Agr w A B) : looksN A x = looksN B x := by
  unfold looksN
  rw [agr_sum hw h, h 6 (by omega), h (9 + 2 * x) (by omega)]
theorem agr_all {w : Nat} {A B : Nat → Nat} (hw : w < 10) (h : Agr w A B) : looksAllN A = looksAllN B := by
  unfold looksAllN
  generalize 10 = n
  induction n with
  | zero => rfl
  | succ n ih => rw [looksUp, looksUp, ih, agr_looks hw h]
theorem agr_busy {w : Nat} {A B : Nat → Nat} (hw : w < 10) (h : Agr w A B) : ∀ n, busyN A n = busyN B n := by
  intro n
  induction n with
  | zero => rfl
  | succ n ih => rw [busyN, busyN, ih, agr_looks hw h, agr_looks hw h]
theorem agr_holds {w p : Nat} {A B : Nat → Nat} (hw : w < 10) (h : Agr w A B) : holdsI A p = holdsI B p := by
  unfold holdsI
  rw [agr_oth hw h, h (28 + 5 * p) (by omega), h (30 + 5 * p) (by omega), h 1 (by omega), h (29 + 5 * p) (by omega)]
theorem agr_goes {w x : Nat} {A B : Nat → Nat} (hw : w < 10) (hx : x ≠ w) (h : Agr w A B) : goesB A x = goesB B x := by
  funext p
  unfold goesB
  rw [agr_holds hw h, h (31 + 5 * p) (by omega), h (8 + 2 * x) (by omega), h (28 + 5 * p) (by omega), h 2 (by omega)]
theorem agr_leave {w : Nat} {G : Nat → Bool} {A B : Nat → Nat} (h : Agr w A B) : ∀ n, Agr w (leaveUp G A n) (leaveUp G B n) := by
  intro n
  induction n with
  | zero => exact h
  | succ n ih =>
    rw [leaveUp, leaveUp]
    split
    · exact agr_upd (agr_upd ih)
    · exact ih
theorem agr_clean {w x : Nat} {A B : Nat → Nat} (hw : w < 10) (hx : x ≠ w) (h : Agr w A B) : Agr w (cleanN A x) (cleanN B x) := by
  unfold cleanN
  rw [agr_goes hw hx h, h 6 (by omega), h (8 + 2 * x) (by omega)]
  exact agr_upd (agr_leave h _)
theorem no_sum {w : Nat} {A : Nat → Nat} : ∀ n, (∀ p, p < n → A (31 + 5 * p) ≠ w) → sumOn A w n = 0 := by
  intro n
  induction n with
  | zero => intro _; rfl
  | succ n ih => intro h; rw [sumOn, ih (fun p hp => h p (by omega)), if_neg (h n (by omega))]
theorem no_looks {w : Nat} {A : Nat → Nat} (h : NoOn w A) : looksN A w = 0 := by
  unfold looksN
  rw [no_sum _ h, Nat.zero_mul]
theorem no_leave {w : Nat} {G : Nat → Bool} {A : Nat → Nat} (hw : w < 10) (h : NoOn w A) : ∀ n, NoOn w (leaveUp G A n) := by
  intro n
  induction n with
  | zero => exact h
  | succ n ih =>
    rw [leaveUp]
    split
    · intro p hp
      unfold leave at hp ⊢
      rw [updN_n (by omega), updN_n (by omega)] at hp
      rw [updN_n (by omega)]
      by_cases e : p = n
      · subst e; rw [updN_s]; omega
      · rw [updN_n (by omega)]; exact ih p hp
    · exact ih
theorem no_clean {w x : Nat} {A : Nat → Nat} (hw : w < 10) (hx : x < 10) (h : NoOn w A) : NoOn w (cleanN A x) := by
  intro p hp
  rw [cleanN_6] at hp
  unfold cleanN
  rw [updN_n (by omega)]
  exact no_leave hw h _ p (by rw [leaveUp_6]; exact hp)
theorem agr_bucket {w : Nat} {A B : Nat → Nat} (hw : w < 10) (h : Agr w A B) (n : NoOn w A) : Agr w (bucketN A) (bucketN B) ∧ NoOn w (bucketN A) := by
  have hb := busyN_le A 9
  unfold bucketN
  rw [← agr_busy hw h, ← agr_looks hw h]
  by_cases x : 0 < looksN A (busyN A 9)
  · rw [if_pos x, if_pos x]
    have : busyN A 9 ≠ w := by
      intro q
      rw [q, no_looks n] at x
      omega
    exact ⟨agr_clean hw this h, no_clean hw (by omega) n⟩
  · rw [if_neg x, if_neg x]
    exact ⟨h, n⟩
theorem agr_buckets {w : Nat} {A B : Nat → Nat} (hw : w < 10) (h : Agr w A B) (n : NoOn w A) : ∀ i, Agr w (bucketUp A i) (bucketUp B i) ∧ NoOn w (bucketUp A i) := by
  intro i
  induction i with
  | zero => exact ⟨h, n⟩
  | succ i ih => rw [bucketUp, bucketUp]; exact agr_bucket hw ih.1 ih.2
theorem agr_still {w : Nat} {A B : Nat → Nat} (hw : w < 10) (h : Agr w A B) (hp : (paintUp (comeUp A (A 6)) (A 6)).testBit w = false) : Agr w (stillN A) (stillN B) := by
  have h1 := agr_come hw h (A 6)
  have no := paint_no hw _ hp
  have h2 := agr_grow hw h1 (A 6) no
  show Agr w (bucketUp (growUp (comeUp A (A 6)) (comeUp A (A 6) 6)) (growUp (comeUp A (A 6)) (comeUp A (A 6) 6) 0)) (bucketUp (growUp (comeUp B (B 6)) (comeUp B (B 6) 6)) (growUp (comeUp B (B 6)) (comeUp B (B 6) 6) 0))
  rw [comeUp_6, comeUp_6, ← h 6 (by omega), ← h2 0 (by omega)]
  refine (agr_buckets hw h2 (fun p q => ?_) _).1
  rw [growUp_6, comeUp_6] at q
  rw [growUp_n _ (fun j hj => by omega)]
  exact no p q
theorem agr_night {w : Nat} {A B : Nat → Nat} (hw : w < 10) (h : Agr w A B) (hp : (paintUp (comeUp A (A 6)) (A 6)).testBit w = false) : Agr w (nightN A) (nightN B) := by
  have h1 := agr_still hw h hp
  unfold nightN
  rw [h1 4 (by omega), h1 5 (by omega), agr_all hw h1]
  exact agr_upd (agr_upd h1)
theorem agr_tried {w : Nat} {A B : Nat → Nat} (hw : w < 10) (h : Agr w A B) : ∀ t, (paintsN A t).testBit w = false → Agr w (nightsN A t) (nightsN B t) ∧ seenN A t = seenN B t ∧ paintsN A t = paintsN B t := by
  intro t
  induction t with
  | zero => intro _; exact ⟨h, rfl, rfl⟩
  | succ t ih =>
    intro hp
    rw [paintsN, Nat.testBit_or, Bool.or_eq_false_iff] at hp
    obtain ⟨i1, i2, i3⟩ := ih hp.1
    have h1 := agr_still hw i1 hp.2
    refine ⟨agr_night hw i1 hp.2, ?_, ?_⟩
    · rw [seenN, seenN, i2, agr_all hw h1]
    · rw [paintsN, paintsN, i3, agr_paint hw (agr_come hw i1 _), i1 6 (by omega)]
/-! sets of walls waxed -/
def waxAt (S : Nat → Nat) (s i : Nat) : Nat → Nat := fun k => if 8 ≤ k ∧ k < 8 + 2 * i ∧ k % 2 = 0 ∧ s.testBit ((k - 8) / 2) = true then 2 else S k
theorem waxAt_0 (S : Nat → Nat) (s : Nat) : waxAt S s 0 = S := by
  funext k
  unfold waxAt
  rw [if_neg (by omega)]
theorem waxAt_t {S : Nat → Nat} {s i : Nat} (h : s.testBit i = true) : updN (waxAt S s i) (8 + 2 * i) 2 = waxAt S s (i + 1) := by
  funext k
  unfold updN waxAt
  by_cases e : k = 8 + 2 * i
  · rw [if_pos e, if_pos]
    refine ⟨by omega, by omega, by omega, ?_⟩
    rw [show (k - 8) / 2 = i by omega]; exact h
  · rw [if_neg e]
    by_cases x : 8 ≤ k ∧ k < 8 + 2 * i ∧ k % 2 = 0 ∧ s.testBit ((k - 8) / 2) = true
    · rw [if_pos x, if_pos ⟨x.1, by omega, x.2.2⟩]
    · rw [if_neg x, if_neg (fun q => x ⟨q.1, by omega, q.2.2⟩)]
theorem waxAt_f {S : Nat → Nat} {s i : Nat} (h : s.testBit i = false) : waxAt S s i = waxAt S s (i + 1) := by
  funext k
  unfold waxAt
  by_cases x : 8 ≤ k ∧ k < 8 + 2 * i ∧ k % 2 = 0 ∧ s.testBit ((k - 8) / 2) = true
  · rw [if_pos x, if_pos ⟨x.1, by omega, x.2.2⟩]
  · rw [if_neg x, if_neg]
    intro q
    by_cases e : k = 8 + 2 * i
    · have := q.2.2.2
      rw [show (k - 8) / 2 = i by omega, h] at this
      exact absurd this (by decide)
    · exact x ⟨q.1, by omega, q.2.2⟩
theorem inv_wax {b : Nat} {S : Nat → Nat} {s : Nat} (I : Inv b S) : ∀ i, i ≤ 10 → Inv b (waxAt S s i) := by
  intro i
  induction i with
  | zero => intro _; rw [waxAt_0]; exact I
  | succ i ih =>
    intro h
    have ih := ih (by omega)
    by_cases x : s.testBit i = true
    · rw [← waxAt_t x]; exact inv_upd ih (by rw [bnd_g (by omega)]; omega)
    · rw [← waxAt_f (Bool.eq_false_iff.mpr x)]; exact ih
theorem updN_self (S : Nat → Nat) (k : Nat) : updN S k (S k) = S := by
  funext j
  unfold updN
  split
  · next e => rw [e]
  · rfl
set_option maxRecDepth 100000 in
theorem shr_bit10 : ∀ n, n < 10 → ∀ a, a < 1024 → ((nI a >>> (nI n &&& 31)) &&& nI 1) = nI (if a.testBit n then 1 else 0) := by decide +kernel
def bI (x : Int32) (w : Nat) : Bool := x.toBitVec.toNat.testBit w
theorem bI_nI {n w : Nat} (h : n < 2 ^ 32) : bI (nI n) w = n.testBit w := by
  unfold bI; rw [pk_tn h]
theorem and_bit {x : Int32} {w : Nat} (h : w < 10) : (x &&& (nI 1 <<< (nI w &&& 31)) = 0) = (bI x w = false) := by
  rw [nI_bit w (by omega)]
  have h2 : 2 ^ w ≤ 512 := Nat.pow_le_pow_right (by omega) (show w ≤ 9 by omega)
  have e : (x &&& nI (2 ^ w)).toBitVec.toNat = x.toBitVec.toNat &&& 2 ^ w := by
    rw [Int32.toBitVec_and, BitVec.toNat_and, pk_tn (by omega)]
  unfold bI
  refine propext ⟨fun q => ?_, fun q => ?_⟩
  · rw [q] at e
    rw [show (0 : Int32).toBitVec.toNat = 0 from rfl] at e
    have e2 := congrArg (fun y => y.testBit w) e
    simp only [Nat.zero_testBit, Nat.testBit_and, Nat.testBit_two_pow_self, Bool.and_true] at e2
    exact e2.symm
  · apply Int32.toBitVec_inj.mp
    apply BitVec.eq_of_toNat_eq
    rw [e, show (0 : Int32).toBitVec.toNat = 0 from rfl]
    apply Nat.eq_of_testBit_eq
    intro i
    rw [Nat.zero_testBit, Nat.testBit_and]
    by_cases x : i = w
    · rw [x, q]; rfl
    · rw [Nat.testBit_two_pow_of_ne (fun y => x y.symm), Bool.and_false]
theorem bI_stored {P X w : Nat} (hP : P < 2 ^ 32) (hX : X < 2 ^ 32) (hw : w < 10) : bI (nI P &&& (nI X ^^^ (-1 : Int32))) w = (P.testBit w && !X.testBit w) := by
  unfold bI
  rw [Int32.toBitVec_and, BitVec.toNat_and, Int32.toBitVec_xor, BitVec.toNat_xor, pk_tn hP, pk_tn hX, show (-1 : Int32).toBitVec.toNat = 2 ^ 32 - 1 by decide, Nat.testBit_and, Nat.testBit_xor, Nat.testBit_two_pow_sub_one]
  rw [show decide (w < 32) = true by simp; omega]
  simp
theorem paintUp_lt {b : Nat} {S : Nat → Nat} (I : Inv b S) : ∀ n, n ≤ 8 → paintUp S n < 2 ^ 10 := by
  intro n
  induction n with
  | zero => intro _; exact Nat.two_pow_pos 10
  | succ n ih =>
    intro h
    have := inv_on I n (by omega)
    rw [paintUp]
    split
    · exact ih (by omega)
    · exact Nat.or_lt_two_pow (ih (by omega)) (Nat.pow_lt_pow_right (by omega) (by omega))
theorem paintsN_lt {b : Nat} {S : Nat → Nat} (I : Inv b S) : ∀ n, paintsN S n < 2 ^ 10 := by
  intro n
  induction n with
  | zero => exact Nat.two_pow_pos 10
  | succ n ih =>
    have In := inv_nights I n
    rw [paintsN]
    exact Nat.or_lt_two_pow ih (paintUp_lt (inv_comeUp In _ (inv_6 In)) _ (inv_6 In))
theorem setN_test (P : Nat → Bool) {p : Nat} {n : Nat} (h : p < n) : (setN P n).testBit p = P p := by
  rw [Nat.testBit_eq_decide_div_mod_eq, setN_bit P n h]
  cases P p <;> simp
theorem c_grounds_L {b : Nat} {S : Nat → Nat} {c ni gl : Int32} {la gr se ki ha si on aw : Nat → Int32} {g : Nat} {k} (T : TR b S c ni gl la gr se ki ha si on aw) (hg : g < 3) : ∀ n i, i ≤ 10 → 10 - i < n → fX2_wallsOfGround_L4 gr (nI g) k n (nI (setN (fun w => decide (S (8 + 2 * w) = g)) i)) (nI i) = k (nI (setN (fun w => decide (S (8 + 2 * w) = g)) 10)) := by
  intro n
  induction n with
  | zero => intro i _ h; omega
  | succ n ih =>
    intro i hi hn
    rw [fX2_wallsOfGround_L4]
    by_cases h : i < 10
    · have := (inv_w T.1 h).1
      have ih := ih (i + 1) (by omega) (by omega)
      rw [setN] at ih
      rw [ilt_t h (by omega), zg (by omega) (by omega), nI_clamp (by omega), tr_gr T h, nI_1, nI_setbit (setN_lt _ _) (by omega)]
      by_cases x : S (8 + 2 * i) = g
      · rw [ieq_t x]; simpa [x] using ih
      · rw [ieq_f x (by omega) (by omega)]; simpa [x] using ih
    · have e : i = 10 := by omega
      rw [ilt_f (by omega) (by omega), e]
theorem c_grounds {b : Nat} {S : Nat → Nat} {c ni gl : Int32} {la gr se ki ha si on aw : Nat → Int32} {g : Nat} (T : TR b S c ni gl la gr se ki ha si on aw) (hg : g < 3) : fX2_wallsOfGround gr (nI g) = some (nI (setN (fun w => decide (S (8 + 2 * w) = g)) 10)) := by
  unfold fX2_wallsOfGround
  rw [zJe]
  exact c_grounds_L T hg zK 0 (by omega) (by unfold zK; omega)
/-- how the trial of a set that isn't enough went: the walls whose wax may tell -/
def wMQ (S : Nat → Nat) (m v s : Nat) (M : Int32) : Prop := ∃ t, t ≤ m ∧ v < seenN (waxAt S s 10) t ∧ ∀ w, w < 10 → bI M w = ((paintsN (waxAt S s 10) t).testBit w && !decide (S (8 + 2 * w) = 2))
def enB (S : Nat → Nat) (m v s : Nat) : Bool := decide (seenN (waxAt S s 10) m ≤ v)
theorem MQ_no {S : Nat → Nat} {m v s : Nat} {M : Int32} (h : wMQ S m v s M) : enB S m v s = false := by
  obtain ⟨t, ht, h1, _⟩ := h
  have := seenN_mono (S := waxAt S s 10) ht
  unfold enB
  simp; omega
theorem wax_more {S : Nat → Nat} {s w : Nat} (hw : w < 10) (h : s.testBit w = true) : waxAt S s 10 = updN (waxAt S (s ^^^ 2 ^ w) 10) (8 + 2 * w) 2 := by
  funext k
  unfold updN waxAt
  by_cases e : k = 8 + 2 * w
  · rw [if_pos e, if_pos]
    refine ⟨by omega, by omega, by omega, ?_⟩
    rw [show (k - 8) / 2 = w by omega]; exact h
  · rw [if_neg e]
    by_cases x : 8 ≤ k ∧ k < 28 ∧ k % 2 = 0
    · have : (s ^^^ 2 ^ w).testBit ((k - 8) / 2) = s.testBit ((k - 8) / 2) := by
        rw [Nat.testBit_xor, Nat.testBit_two_pow_of_ne (by omega)]; simp
      rw [this]
    · rw [if_neg (fun q => x ⟨q.1, q.2.1, q.2.2.1⟩), if_neg (fun q => x ⟨q.1, q.2.1, q.2.2.1⟩)]
theorem wax_less {S : Nat → Nat} {s w : Nat} (hw : w < 10) (h : s.testBit w = true) : waxAt S (s ^^^ 2 ^ w) 10 (8 + 2 * w) = S (8 + 2 * w) := by
  unfold waxAt
  rw [if_neg]
  intro q
  have := q.2.2.2
  rw [show (8 + 2 * w - 8) / 2 = w by omega, Nat.testBit_xor, Nat.testBit_two_pow_self, h] at this
  exact absurd this (by decide)
theorem MQ_more {S : Nat → Nat} {m v s w : Nat} {M : Int32} (hw : w < 10) (h : s.testBit w = true) (q : wMQ S m v (s ^^^ 2 ^ w) M) (hM : bI M w = false) : wMQ S m v s M := by
  obtain ⟨t, ht, h1, h2⟩ := q
  have hb := h2 w hw
  rw [hM] at hb
  by_cases e : S (8 + 2 * w) = 2
  · have ew : waxAt S s 10 = waxAt S (s ^^^ 2 ^ w) 10 := by
      rw [wax_more hw h]
      have := updN_self (waxAt S (s ^^^ 2 ^ w) 10) (8 + 2 * w)
      rw [wax_less hw h, e] at this
      exact this
    unfold wMQ
    rw [ew]
    exact ⟨t, ht, h1, h2⟩
  · have hp : (paintsN (waxAt S (s ^^^ 2 ^ w) 10) t).testBit w = false := by
      rw [show (!decide (S (8 + 2 * w) = 2)) = true by simp [e], Bool.and_true] at hb
      exact hb.symm
    have ag : Agr w (waxAt S (s ^^^ 2 ^ w) 10) (waxAt S s 10) := by
      rw [wax_more hw h]
      intro k hk
      rw [updN_n hk]
    obtain ⟨_, e2, e3⟩ := agr_tried hw ag t hp
    refine ⟨t, ht, by rw [← e2]; exact h1, fun x hx => by rw [← e3]; exact h2 x hx⟩
