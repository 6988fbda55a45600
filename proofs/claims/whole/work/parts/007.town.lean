/-! the class's Town, tied to the 68 naturals -/
def TR (b : Nat) (S : Nat → Nat) (c ni gl : Int32) (la gr se ki ha si on aw : Nat → Int32) : Prop := Inv b S ∧ c = nI (S 6) ∧ ni = nI (S 4) ∧ gl = nI (S 5) ∧ (∀ j, j < 4 → la j = nI (S j)) ∧ (∀ w, w < 10 → gr w = nI (S (8 + 2 * w)) ∧ se w = nI (S (9 + 2 * w))) ∧ (∀ p, p < S 6 → ki p = nI (S (28 + 5 * p)) ∧ ha p = nI (S (29 + 5 * p)) ∧ si p = nI (S (30 + 5 * p)) ∧ on p = nI (S (31 + 5 * p)) ∧ aw p = nI (S (32 + 5 * p)))
theorem tr_I {b : Nat} {S : Nat → Nat} {c ni gl : Int32} {la gr se ki ha si on aw : Nat → Int32} (T : TR b S c ni gl la gr se ki ha si on aw) : Inv b S := T.1
theorem tr_c {b : Nat} {S : Nat → Nat} {c ni gl : Int32} {la gr se ki ha si on aw : Nat → Int32} (T : TR b S c ni gl la gr se ki ha si on aw) : c = nI (S 6) := T.2.1
theorem tr_ni {b : Nat} {S : Nat → Nat} {c ni gl : Int32} {la gr se ki ha si on aw : Nat → Int32} (T : TR b S c ni gl la gr se ki ha si on aw) : ni = nI (S 4) := T.2.2.1
theorem tr_gl {b : Nat} {S : Nat → Nat} {c ni gl : Int32} {la gr se ki ha si on aw : Nat → Int32} (T : TR b S c ni gl la gr se ki ha si on aw) : gl = nI (S 5) := T.2.2.2.1
theorem tr_la {b : Nat} {S : Nat → Nat} {c ni gl : Int32} {la gr se ki ha si on aw : Nat → Int32} {j : Nat} (T : TR b S c ni gl la gr se ki ha si on aw) (h : j < 4) : la j = nI (S j) := T.2.2.2.2.1 j h
theorem tr_gr {b : Nat} {S : Nat → Nat} {c ni gl : Int32} {la gr se ki ha si on aw : Nat → Int32} {w : Nat} (T : TR b S c ni gl la gr se ki ha si on aw) (h : w < 10) : gr w = nI (S (8 + 2 * w)) := (T.2.2.2.2.2.1 w h).1
theorem tr_se {b : Nat} {S : Nat → Nat} {c ni gl : Int32} {la gr se ki ha si on aw : Nat → Int32} {w : Nat} (T : TR b S c ni gl la gr se ki ha si on aw) (h : w < 10) : se w = nI (S (9 + 2 * w)) := (T.2.2.2.2.2.1 w h).2
theorem tr_ki {b : Nat} {S : Nat → Nat} {c ni gl : Int32} {la gr se ki ha si on aw : Nat → Int32} {p : Nat} (T : TR b S c ni gl la gr se ki ha si on aw) (h : p < S 6) : ki p = nI (S (28 + 5 * p)) := (T.2.2.2.2.2.2 p h).1
theorem tr_ha {b : Nat} {S : Nat → Nat} {c ni gl : Int32} {la gr se ki ha si on aw : Nat → Int32} {p : Nat} (T : TR b S c ni gl la gr se ki ha si on aw) (h : p < S 6) : ha p = nI (S (29 + 5 * p)) := (T.2.2.2.2.2.2 p h).2.1
theorem tr_si {b : Nat} {S : Nat → Nat} {c ni gl : Int32} {la gr se ki ha si on aw : Nat → Int32} {p : Nat} (T : TR b S c ni gl la gr se ki ha si on aw) (h : p < S 6) : si p = nI (S (30 + 5 * p)) := (T.2.2.2.2.2.2 p h).2.2.1
theorem tr_on {b : Nat} {S : Nat → Nat} {c ni gl : Int32} {la gr se ki ha si on aw : Nat → Int32} {p : Nat} (T : TR b S c ni gl la gr se ki ha si on aw) (h : p < S 6) : on p = nI (S (31 + 5 * p)) := (T.2.2.2.2.2.2 p h).2.2.2.1
theorem tr_aw {b : Nat} {S : Nat → Nat} {c ni gl : Int32} {la gr se ki ha si on aw : Nat → Int32} {p : Nat} (T : TR b S c ni gl la gr se ki ha si on aw) (h : p < S 6) : aw p = nI (S (32 + 5 * p)) := (T.2.2.2.2.2.2 p h).2.2.2.2
theorem tr_mono {b : Nat} {S : Nat → Nat} {c ni gl : Int32} {la gr se ki ha si on aw : Nat → Int32} {b' : Nat} (T : TR b S c ni gl la gr se ki ha si on aw) (h : b ≤ b') : TR b' S c ni gl la gr se ki ha si on aw := ⟨inv_mono T.1 h, T.2⟩
theorem tr_uki {b : Nat} {S : Nat → Nat} {c ni gl : Int32} {la gr se ki ha si on aw : Nat → Int32} {p v : Nat} (T : TR b S c ni gl la gr se ki ha si on aw) (hp : p < 8) (hv : v ≤ 5) : TR b (updN S (28 + 5 * p) v) c ni gl la gr se (upd ki p (nI v)) ha si on aw := by
  refine ⟨inv_upd T.1 (by rw [bnd_k hp]; exact hv), ?_, ?_, ?_, fun j hj => ?_, fun w hw => ⟨?_, ?_⟩, fun q hq => ?_⟩
  · rw [updN_n (by omega)]; exact tr_c T
  · rw [updN_n (by omega)]; exact tr_ni T
  · rw [updN_n (by omega)]; exact tr_gl T
  · rw [updN_n (by omega)]; exact tr_la T hj
  · rw [updN_n (by omega)]; exact tr_gr T hw
  · rw [updN_n (by omega)]; exact tr_se T hw
  · rw [updN_n (by omega)] at hq
    refine ⟨?_, ?_, ?_, ?_, ?_⟩
    · by_cases e : q = p
      · subst e; rw [pk_us, updN_s]
      · rw [pk_un e, updN_n (by omega)]; exact tr_ki T hq
    · rw [updN_n (by omega)]; exact tr_ha T hq
    · rw [updN_n (by omega)]; exact tr_si T hq
    · rw [updN_n (by omega)]; exact tr_on T hq
    · rw [updN_n (by omega)]; exact tr_aw T hq
theorem tr_uha {b : Nat} {S : Nat → Nat} {c ni gl : Int32} {la gr se ki ha si on aw : Nat → Int32} {p v : Nat} (T : TR b S c ni gl la gr se ki ha si on aw) (hp : p < 8) (hv : v ≤ 9) : TR b (updN S (29 + 5 * p) v) c ni gl la gr se ki (upd ha p (nI v)) si on aw := by
  refine ⟨inv_upd T.1 (by rw [bnd_h hp]; exact hv), ?_, ?_, ?_, fun j hj => ?_, fun w hw => ⟨?_, ?_⟩, fun q hq => ?_⟩
  · rw [updN_n (by omega)]; exact tr_c T
  · rw [updN_n (by omega)]; exact tr_ni T
  · rw [updN_n (by omega)]; exact tr_gl T
  · rw [updN_n (by omega)]; exact tr_la T hj
  · rw [updN_n (by omega)]; exact tr_gr T hw
  · rw [updN_n (by omega)]; exact tr_se T hw
  · rw [updN_n (by omega)] at hq
    refine ⟨?_, ?_, ?_, ?_, ?_⟩
    · rw [updN_n (by omega)]; exact tr_ki T hq
    · by_cases e : q = p
      · subst e; rw [pk_us, updN_s]
      · rw [pk_un e, updN_n (by omega)]; exact tr_ha T hq
    · rw [updN_n (by omega)]; exact tr_si T hq
    · rw [updN_n (by omega)]; exact tr_on T hq
    · rw [updN_n (by omega)]; exact tr_aw T hq
theorem tr_usi {b : Nat} {S : Nat → Nat} {c ni gl : Int32} {la gr se ki ha si on aw : Nat → Int32} {p v : Nat} (T : TR b S c ni gl la gr se ki ha si on aw) (hp : p < 8) (hv : v ≤ 99) : TR b (updN S (30 + 5 * p) v) c ni gl la gr se ki ha (upd si p (nI v)) on aw := by
  refine ⟨inv_upd T.1 (by rw [bnd_z hp]; exact hv), ?_, ?_, ?_, fun j hj => ?_, fun w hw => ⟨?_, ?_⟩, fun q hq => ?_⟩
  · rw [updN_n (by omega)]; exact tr_c T
  · rw [updN_n (by omega)]; exact tr_ni T
  · rw [updN_n (by omega)]; exact tr_gl T
  · rw [updN_n (by omega)]; exact tr_la T hj
  · rw [updN_n (by omega)]; exact tr_gr T hw
  · rw [updN_n (by omega)]; exact tr_se T hw
  · rw [updN_n (by omega)] at hq
    refine ⟨?_, ?_, ?_, ?_, ?_⟩
    · rw [updN_n (by omega)]; exact tr_ki T hq
    · rw [updN_n (by omega)]; exact tr_ha T hq
    · by_cases e : q = p
      · subst e; rw [pk_us, updN_s]
      · rw [pk_un e, updN_n (by omega)]; exact tr_si T hq
    · rw [updN_n (by omega)]; exact tr_on T hq
    · rw [updN_n (by omega)]; exact tr_aw T hq
theorem tr_uon {b : Nat} {S : Nat → Nat} {c ni gl : Int32} {la gr se ki ha si on aw : Nat → Int32} {p v : Nat} (T : TR b S c ni gl la gr se ki ha si on aw) (hp : p < 8) (hv : v ≤ 10) : TR b (updN S (31 + 5 * p) v) c ni gl la gr se ki ha si (upd on p (nI v)) aw := by
  refine ⟨inv_upd T.1 (by rw [bnd_o hp]; exact hv), ?_, ?_, ?_, fun j hj => ?_, fun w hw => ⟨?_, ?_⟩, fun q hq => ?_⟩
  · rw [updN_n (by omega)]; exact tr_c T
  · rw [updN_n (by omega)]; exact tr_ni T
  · rw [updN_n (by omega)]; exact tr_gl T
  · rw [updN_n (by omega)]; exact tr_la T hj
  · rw [updN_n (by omega)]; exact tr_gr T hw
  · rw [updN_n (by omega)]; exact tr_se T hw
  · rw [updN_n (by omega)] at hq
    refine ⟨?_, ?_, ?_, ?_, ?_⟩
    · rw [updN_n (by omega)]; exact tr_ki T hq
    · rw [updN_n (by omega)]; exact tr_ha T hq
    · rw [updN_n (by omega)]; exact tr_si T hq
    · by_cases e : q = p
      · subst e; rw [pk_us, updN_s]
      · rw [pk_un e, updN_n (by omega)]; exact tr_on T hq
    · rw [updN_n (by omega)]; exact tr_aw T hq
theorem tr_uaw {b : Nat} {S : Nat → Nat} {c ni gl : Int32} {la gr se ki ha si on aw : Nat → Int32} {p v : Nat} (T : TR b S c ni gl la gr se ki ha si on aw) (hp : p < 8) (hv : v ≤ 99) : TR b (updN S (32 + 5 * p) v) c ni gl la gr se ki ha si on (upd aw p (nI v)) := by
  refine ⟨inv_upd T.1 (by rw [bnd_a hp]; exact hv), ?_, ?_, ?_, fun j hj => ?_, fun w hw => ⟨?_, ?_⟩, fun q hq => ?_⟩
  · rw [updN_n (by omega)]; exact tr_c T
  · rw [updN_n (by omega)]; exact tr_ni T
  · rw [updN_n (by omega)]; exact tr_gl T
  · rw [updN_n (by omega)]; exact tr_la T hj
  · rw [updN_n (by omega)]; exact tr_gr T hw
  · rw [updN_n (by omega)]; exact tr_se T hw
  · rw [updN_n (by omega)] at hq
    refine ⟨?_, ?_, ?_, ?_, ?_⟩
    · rw [updN_n (by omega)]; exact tr_ki T hq
    · rw [updN_n (by omega)]; exact tr_ha T hq
    · rw [updN_n (by omega)]; exact tr_si T hq
    · rw [updN_n (by omega)]; exact tr_on T hq
    · by_cases e : q = p
      · subst e; rw [pk_us, updN_s]
      · rw [pk_un e, updN_n (by omega)]; exact tr_aw T hq
theorem tr_ugr {b : Nat} {S : Nat → Nat} {c ni gl : Int32} {la gr se ki ha si on aw : Nat → Int32} {w v : Nat} (T : TR b S c ni gl la gr se ki ha si on aw) (hw : w < 10) (hv : v ≤ 2) : TR b (updN S (8 + 2 * w) v) c ni gl la (upd gr w (nI v)) se ki ha si on aw := by
  have i6 := inv_6 T.1
  refine ⟨inv_upd T.1 (by rw [bnd_g hw]; exact hv), ?_, ?_, ?_, fun j hj => ?_, fun u hu => ⟨?_, ?_⟩, fun q hq => ?_⟩
  · rw [updN_n (by omega)]; exact tr_c T
  · rw [updN_n (by omega)]; exact tr_ni T
  · rw [updN_n (by omega)]; exact tr_gl T
  · rw [updN_n (by omega)]; exact tr_la T hj
  · by_cases e : u = w
    · subst e; rw [pk_us, updN_s]
    · rw [pk_un e, updN_n (by omega)]; exact tr_gr T hu
  · rw [updN_n (by omega)]; exact tr_se T hu
  · rw [updN_n (by omega)] at hq
    rw [updN_n (by omega), updN_n (by omega), updN_n (by omega), updN_n (by omega), updN_n (by omega)]
    exact T.2.2.2.2.2.2 q hq
theorem tr_use {b : Nat} {S : Nat → Nat} {c ni gl : Int32} {la gr se ki ha si on aw : Nat → Int32} {w v : Nat} (T : TR b S c ni gl la gr se ki ha si on aw) (hw : w < 10) (hv : v ≤ 9) : TR b (updN S (9 + 2 * w) v) c ni gl la gr (upd se w (nI v)) ki ha si on aw := by
  have i6 := inv_6 T.1
  refine ⟨inv_upd T.1 (by rw [bnd_s hw]; exact hv), ?_, ?_, ?_, fun j hj => ?_, fun u hu => ⟨?_, ?_⟩, fun q hq => ?_⟩
  · rw [updN_n (by omega)]; exact tr_c T
  · rw [updN_n (by omega)]; exact tr_ni T
  · rw [updN_n (by omega)]; exact tr_gl T
  · rw [updN_n (by omega)]; exact tr_la T hj
  · rw [updN_n (by omega)]; exact tr_gr T hu
  · by_cases e : u = w
    · subst e; rw [pk_us, updN_s]
    · rw [pk_un e, updN_n (by omega)]; exact tr_se T hu
  · rw [updN_n (by omega)] at hq
    rw [updN_n (by omega), updN_n (by omega), updN_n (by omega), updN_n (by omega), updN_n (by omega)]
    exact T.2.2.2.2.2.2 q hq
theorem tr_ula {b : Nat} {S : Nat → Nat} {c ni gl : Int32} {la gr se ki ha si on aw : Nat → Int32} {i v : Nat} (T : TR b S c ni gl la gr se ki ha si on aw) (hi : i < 4) (hv : v ≤ bnd b i) : TR b (updN S i v) c ni gl (upd la i (nI v)) gr se ki ha si on aw := by
  refine ⟨inv_upd T.1 hv, ?_, ?_, ?_, fun j hj => ?_, fun u hu => ⟨?_, ?_⟩, fun q hq => ?_⟩
  · rw [updN_n (by omega)]; exact tr_c T
  · rw [updN_n (by omega)]; exact tr_ni T
  · rw [updN_n (by omega)]; exact tr_gl T
  · by_cases e : j = i
    · subst e; rw [pk_us, updN_s]
    · rw [pk_un e, updN_n e]; exact tr_la T hj
  · rw [updN_n (by omega)]; exact tr_gr T hu
  · rw [updN_n (by omega)]; exact tr_se T hu
  · rw [updN_n (by omega)] at hq
    rw [updN_n (by omega), updN_n (by omega), updN_n (by omega), updN_n (by omega), updN_n (by omega)]
    exact T.2.2.2.2.2.2 q hq
theorem tr_uni {b : Nat} {S : Nat → Nat} {c ni gl : Int32} {la gr se ki ha si on aw : Nat → Int32} {b' : Nat} (T : TR b S c ni gl la gr se ki ha si on aw) (hb : b ≤ b') (h : S 4 + 1 ≤ b') : TR b' (updN S 4 (S 4 + 1)) c (nI (S 4 + 1)) gl la gr se ki ha si on aw := by
  refine ⟨inv_upd (inv_mono T.1 hb) h, ?_, ?_, ?_, fun j hj => ?_, fun u hu => ⟨?_, ?_⟩, fun q hq => ?_⟩
  · rw [updN_n (by omega)]; exact tr_c T
  · rw [updN_s]
  · rw [updN_n (by omega)]; exact tr_gl T
  · rw [updN_n (by omega)]; exact tr_la T hj
  · rw [updN_n (by omega)]; exact tr_gr T hu
  · rw [updN_n (by omega)]; exact tr_se T hu
  · rw [updN_n (by omega)] at hq
    rw [updN_n (by omega), updN_n (by omega), updN_n (by omega), updN_n (by omega), updN_n (by omega)]
    exact T.2.2.2.2.2.2 q hq
theorem tr_ugl {b : Nat} {S : Nat → Nat} {c ni gl : Int32} {la gr se ki ha si on aw : Nat → Int32} {v : Nat} (T : TR b S c ni gl la gr se ki ha si on aw) (h : v ≤ 99999) : TR b (updN S 5 v) c ni (nI v) la gr se ki ha si on aw := by
  refine ⟨inv_upd T.1 h, ?_, ?_, ?_, fun j hj => ?_, fun u hu => ⟨?_, ?_⟩, fun q hq => ?_⟩
  · rw [updN_n (by omega)]; exact tr_c T
  · rw [updN_n (by omega)]; exact tr_ni T
  · rw [updN_s]
  · rw [updN_n (by omega)]; exact tr_la T hj
  · rw [updN_n (by omega)]; exact tr_gr T hu
  · rw [updN_n (by omega)]; exact tr_se T hu
  · rw [updN_n (by omega)] at hq
    rw [updN_n (by omega), updN_n (by omega), updN_n (by omega), updN_n (by omega), updN_n (by omega)]
    exact T.2.2.2.2.2.2 q hq
/-! the class's small functions -/
theorem zgc {R : Type} {n j : Nat} {A : Option R} (h : j < n) (hj : j < 2 ^ 31) : (if nI j < 0 ∨ n ≤ j then none else A) = A := if_neg (fun q => q.elim (nI_pos hj) (fun q => by omega))
theorem c_isBelow {p n : Nat} (hp : p < 2 ^ 31) (hn : n < 2 ^ 31) : fX4_isBelow (nI p) (nI n) = some (nI (if p < n then 1 else 0)) := by
  unfold fX4_isBelow
  rw [if_neg (nI_pos hp)]
  by_cases h : p < n
  · rw [ilt_t h hn, if_pos h]
  · rw [ilt_f (by omega) hp, if_neg h]
theorem ct_step (P : Nat → Bool) (i : Nat) : nI (ct P i) - nI 1 + 1 = nI (ct P i + 1) - nI 1 := by
  rw [show (1 : Int32) = nI 1 from rfl, Int32.sub_add_cancel, pk_sub (by omega)]; rfl
theorem c_others_L {b : Nat} {S : Nat → Nat} {c ni gl : Int32} {la gr se ki ha si on aw : Nat → Int32} {p : Nat} {k : Int32 → Option Int32} (T : TR b S c ni gl la gr se ki ha si on aw) (hp : p < S 6) : ∀ n i, i ≤ S 6 → S 6 - i < n → fX2_othersBy_L4 c on (nI p) k n (nI (ct (fun j => decide (S (31 + 5 * j) = S (31 + 5 * p))) i) - nI 1) (nI i) = k (nI (othN S p)) := by
  have h6 := inv_6 T.1
  have hc := tr_c T
  intro n
  induction n with
  | zero => intro i _ h; omega
  | succ n ih =>
    intro i hi hn
    rw [fX2_othersBy_L4, hc]
    rw [hc] at ih
    by_cases h : i < S 6
    · have k4 := inv_on T.1 i (by omega)
      have k5 := inv_on T.1 p (by omega)
      have ih := ih (i + 1) (by omega) (by omega)
      rw [ct] at ih
      rw [ilt_t h (by omega), zg (by omega) (by omega), zg (by omega) (by omega), nI_clamp (by omega), nI_clamp (by omega), tr_on T h, tr_on T hp, nI_1]
      by_cases x : S (31 + 5 * i) = S (31 + 5 * p)
      · rw [ieq_t x, ct_step]
        simpa [x] using ih
      · rw [ieq_f x (by omega) (by omega)]
        simpa [x] using ih
    · have e : i = S 6 := by omega
      rw [ilt_f (by omega) (by omega), e]
      unfold othN
      rw [nI_sub (ct_pos hp (by simp))]
theorem c_others {b : Nat} {S : Nat → Nat} {c ni gl : Int32} {la gr se ki ha si on aw : Nat → Int32} {p : Nat} (T : TR b S c ni gl la gr se ki ha si on aw) (hp : p < S 6) : fX2_othersBy c on (nI p) = some (nI (othN S p)) := by
  have h6 := inv_6 T.1
  unfold fX2_othersBy
  rw [zJe]
  exact c_others_L T hp zK 0 (by omega) (by unfold zK; omega)
theorem sub_add_3 (x : Int32) : nI 2 - x + nI 3 = nI 5 - x := by
  rw [Int32.sub_eq_add_neg, Int32.sub_eq_add_neg, Int32.add_assoc, Int32.add_comm (-x), ← Int32.add_assoc]; rfl
theorem c_grows {b : Nat} {S : Nat → Nat} {c ni gl : Int32} {la gr se ki ha si on aw : Nat → Int32} {p : Nat} (T : TR b S c ni gl la gr se ki ha si on aw) (hp : p < S 6) (hg : S (31 + 5 * p) ≠ 10) : fX2_growsOf c la gr ki on (nI p) = some (growsI S p) := by
  have h6 := inv_6 T.1
  obtain ⟨k1, k2, k3, k4, k5⟩ := inv_p T.1 (show p < 8 by omega)
  obtain ⟨g1, g2⟩ := inv_w T.1 (show S (31 + 5 * p) < 10 by omega)
  have hl : S 1 ≤ 9 := T.1.2.1
  unfold fX2_growsOf growsI luredN
  rw [zg (by omega) (by omega), zJe, nI_clamp (by omega), tr_on T hp, ieq_f hg (by omega) (by omega), zgc (show p < 8 by omega) (show p < 2 ^ 31 by omega), zg (by omega) (by omega), nI_clamp (by omega), tr_gr T (by omega), tr_la T (show 1 < 4 by omega)]
  simp only [zgc (show p < 8 by omega) (show p < 2 ^ 31 by omega), tr_ki T hp, nI_eqE (show S (8 + 2 * S (31 + 5 * p)) < 2 ^ 31 by omega) (show 1 < 2 ^ 31 by omega), c_others T hp, zbs, nI_eqE (show S (28 + 5 * p) < 2 ^ 31 by omega) (show 1 < 2 ^ 31 by omega), nI_eqE (show S (28 + 5 * p) < 2 ^ 31 by omega) (show 2 < 2 ^ 31 by omega), nI_eqE (show S (28 + 5 * p) < 2 ^ 31 by omega) (show 3 < 2 ^ 31 by omega), nI_eqE (show S (28 + 5 * p) < 2 ^ 31 by omega) (show 4 < 2 ^ 31 by omega), nI_eqE (show S (28 + 5 * p) < 2 ^ 31 by omega) (show 5 < 2 ^ 31 by omega), nI_add, nI_mul, sub_add_3]
  by_cases e : S (8 + 2 * S (31 + 5 * p)) = 1
  · simp only [if_pos e]
    repeat' split
    all_goals first | rfl | omega | rw [Nat.mul_comm]
  · simp only [if_neg e]
    repeat' split
    all_goals first | rfl | omega | rw [Nat.mul_comm]
theorem c_holds {b : Nat} {S : Nat → Nat} {c ni gl : Int32} {la gr se ki ha si on aw : Nat → Int32} {p : Nat} (T : TR b S c ni gl la gr se ki ha si on aw) (hp : p < S 6) : fX2_holdsOf c la ki ha si on (nI p) = some (holdsI S p) := by
  have h6 := inv_6 T.1
  obtain ⟨k1, k2, k3, k4, k5⟩ := inv_p T.1 (show p < 8 by omega)
  unfold fX2_holdsOf holdsI
  rw [zg (by omega) (by omega), zg (by omega) (by omega), nI_clamp (by omega), tr_ki T hp, tr_si T hp, tr_la T (show 1 < 4 by omega)]
  simp only [zgc (show p < 8 by omega) (show p < 2 ^ 31 by omega), tr_ha T hp, zbs, c_others T hp, nI_eqE (show S (28 + 5 * p) < 2 ^ 31 by omega) (show 1 < 2 ^ 31 by omega), nI_eqE (show S (28 + 5 * p) < 2 ^ 31 by omega) (show 2 < 2 ^ 31 by omega), nI_eqE (show S (28 + 5 * p) < 2 ^ 31 by omega) (show 3 < 2 ^ 31 by omega), nI_eqE (show S (28 + 5 * p) < 2 ^ 31 by omega) (show 4 < 2 ^ 31 by omega), nI_eqE (show S (28 + 5 * p) < 2 ^ 31 by omega) (show 5 < 2 ^ 31 by omega), pk_div (show S (30 + 5 * p) < 2 ^ 31 by omega) (show 0 < 2 by omega) (show 2 < 2 ^ 31 by omega), nI_add]
  repeat' split
  all_goals first | rfl | omega
theorem c_back {b : Nat} {S : Nat → Nat} {c ni gl : Int32} {la gr se ki ha si on aw : Nat → Int32} {p : Nat} (T : TR b S c ni gl la gr se ki ha si on aw) (hp : p < S 6) : fX2_backOf ki ha (nI p) = some (nI (backN S p)) := by
  have h6 := inv_6 T.1
  obtain ⟨k1, k2, k3, k4, k5⟩ := inv_p T.1 (show p < 8 by omega)
  unfold fX2_backOf backN
  rw [zg (by omega) (by omega), zg (by omega) (by omega), zg (by omega) (by omega), nI_clamp (by omega), tr_ki T hp, tr_ha T hp]
  simp only [nI_eqE (show S (28 + 5 * p) < 2 ^ 31 by omega) (show 1 < 2 ^ 31 by omega), nI_eqE (show S (28 + 5 * p) < 2 ^ 31 by omega) (show 2 < 2 ^ 31 by omega), nI_eqE (show S (28 + 5 * p) < 2 ^ 31 by omega) (show 3 < 2 ^ 31 by omega), nI_eqE (show S (28 + 5 * p) < 2 ^ 31 by omega) (show 4 < 2 ^ 31 by omega), nI_eqE (show S (28 + 5 * p) < 2 ^ 31 by omega) (show 5 < 2 ^ 31 by omega), nI_add, pk_div (show 3 + S (29 + 5 * p) < 2 ^ 31 by omega) (show 0 < 2 by omega) (show 2 < 2 ^ 31 by omega)]
  repeat' split
  all_goals first | rfl | omega
theorem c_looks_L {b : Nat} {S : Nat → Nat} {c ni gl : Int32} {la gr se ki ha si on aw : Nat → Int32} {w : Nat} {k : Int32 → Option Int32} (T : TR b S c ni gl la gr se ki ha si on aw) (hw : w ≤ 10) : ∀ n i, i ≤ S 6 → S 6 - i < n → fX2_looksOf_L4 c si on (nI w) k n (nI (sumOn S w i)) (nI i) = k (nI (sumOn S w (S 6))) := by
  have h6 := inv_6 T.1
  have hc := tr_c T
  intro n
  induction n with
  | zero => intro i _ h; omega
  | succ n ih =>
    intro i hi hn
    rw [fX2_looksOf_L4, hc]
    rw [hc] at ih
    by_cases h : i < S 6
    · have k4 := inv_on T.1 i (by omega)
      have ih := ih (i + 1) (by omega) (by omega)
      rw [sumOn] at ih
      rw [ilt_t h (by omega), zg (by omega) (by omega), zg (by omega) (by omega), nI_clamp (by omega), tr_on T h, tr_si T h, nI_1]
      by_cases e : S (31 + 5 * i) = w
      · rw [if_pos e] at ih
        rw [ieq_t e, nI_add]
        exact ih
      · rw [if_neg e] at ih
        rw [ieq_f e (by omega) (by omega)]
        exact ih
    · have e : i = S 6 := by omega
      rw [ilt_f (by omega) (by omega), e]
theorem c_looks {b : Nat} {S : Nat → Nat} {c ni gl : Int32} {la gr se ki ha si on aw : Nat → Int32} {w : Nat} (T : TR b S c ni gl la gr se ki ha si on aw) (hw : w < 10) : fX2_looksOf c se si on (nI w) = some (nI (looksN S w)) := by
  have h6 := inv_6 T.1
  unfold fX2_looksOf
  rw [zJe]
  refine (c_looks_L T (by omega) zK 0 (by omega) (by unfold zK; omega)).trans ?_
  rw [zg (by omega) (by omega), nI_clamp (by omega), tr_se T hw, nI_mul, Nat.mul_comm]
  rfl
/-- the sum over the names -/
def lookBy (S : Nat → Nat) : Nat → Nat
  | 0 => 0
  | n + 1 => lookBy S n + (if S (31 + 5 * n) = 10 then 0 else S (9 + 2 * S (31 + 5 * n)) * S (30 + 5 * n))
def looksPart (S : Nat → Nat) (n : Nat) : Nat → Nat
  | 0 => 0
  | m + 1 => looksPart S n m + sumOn S m n * S (9 + 2 * m)
theorem looksPart_0 (S : Nat → Nat) : ∀ m, looksPart S 0 m = 0 := by
  intro m
  induction m with
  | zero => rfl
  | succ m ih => rw [looksPart, ih]; simp [sumOn]
theorem looksPart_s (S : Nat → Nat) (n : Nat) : ∀ m, looksPart S (n + 1) m = looksPart S n m + (if S (31 + 5 * n) < m then S (9 + 2 * S (31 + 5 * n)) * S (30 + 5 * n) else 0) := by
  intro m
  induction m with
  | zero => rfl
  | succ m ih =>
    rw [looksPart, looksPart, ih, sumOn]
    by_cases e : S (31 + 5 * n) = m
    · rw [if_pos e, if_neg (by omega), if_pos (by omega), e, Nat.add_mul, Nat.mul_comm (S (30 + 5 * n))]; omega
    · rw [if_neg e, Nat.add_zero]
      by_cases h : S (31 + 5 * n) < m
      · rw [if_pos h, if_pos (by omega)]; omega
      · rw [if_neg h, if_neg (by omega)]; omega
theorem looksPart_by {S : Nat → Nat} : ∀ n, (∀ p, p < n → S (31 + 5 * p) ≤ 10) → looksPart S n 10 = lookBy S n := by
  intro n
  induction n with
  | zero => intro _; exact looksPart_0 S 10
  | succ n ih =>
    intro h
    have h1 := h n (by omega)
    rw [looksPart_s, lookBy, ih (fun p hp => h p (by omega))]
    by_cases e : S (31 + 5 * n) = 10
    · rw [if_pos e, if_neg (by omega)]
    · rw [if_neg e, if_pos (by omega)]
theorem looksUp_part (S : Nat → Nat) : ∀ m, looksUp S m = looksPart S (S 6) m := by
  intro m
  induction m with
  | zero => rfl
  | succ m ih => rw [looksUp, looksPart, ih]; rfl
theorem looksAll_by {b : Nat} {S : Nat → Nat} (I : Inv b S) : looksAllN S = lookBy S (S 6) := by
  have h6 := inv_6 I
  unfold looksAllN
  rw [looksUp_part, looksPart_by _ (fun p hp => inv_on I p (by omega))]
theorem c_looksOfAll_L {b : Nat} {S : Nat → Nat} {c ni gl : Int32} {la gr se ki ha si on aw : Nat → Int32} {k : Int32 → Option Int32} (T : TR b S c ni gl la gr se ki ha si on aw) : ∀ n i, i ≤ S 6 → S 6 - i < n → fX2_looksOfAll_L4 c se si on k n (nI (lookBy S i)) (nI i) = k (nI (looksAllN S)) := by
  have h6 := inv_6 T.1
  have hc := tr_c T
  intro n
  induction n with
  | zero => intro i _ h; omega
  | succ n ih =>
    intro i hi hn
    rw [fX2_looksOfAll_L4, hc]
    rw [hc] at ih
    by_cases h : i < S 6
    · have k4 := inv_on T.1 i (by omega)
      have ih := ih (i + 1) (by omega) (by omega)
      rw [lookBy] at ih
      rw [ilt_t h (by omega), zg (by omega) (by omega), nI_clamp (by omega), tr_on T h, nI_1]
      by_cases e : S (31 + 5 * i) = 10
      · rw [if_pos e] at ih
        rw [ieq_t e]
        exact ih
      · rw [if_neg e] at ih
        rw [ieq_f e (by omega) (by omega), zgc (by omega) (by omega), zg (by omega) (by omega), zgc (by omega) (by omega), nI_clamp (by omega), tr_si T h, tr_se T (by omega), nI_mul, nI_add]
        exact ih
    · have e : i = S 6 := by omega
      rw [ilt_f (by omega) (by omega), e, looksAll_by T.1]
theorem c_looksOfAll {b : Nat} {S : Nat → Nat} {c ni gl : Int32} {la gr se ki ha si on aw : Nat → Int32} (T : TR b S c ni gl la gr se ki ha si on aw) : fX2_looksOfAll c se si on = some (nI (looksAllN S)) := by
  have h6 := inv_6 T.1
  unfold fX2_looksOfAll
  rw [zJe]
  exact c_looksOfAll_L T zK 0 (by omega) (by unfold zK; omega)

