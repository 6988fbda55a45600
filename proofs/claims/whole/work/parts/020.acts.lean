/-! shelves, acts -/
theorem sv_upd {its : List zIt} {A B D E F A' B' D' E' F' : Nat → Int32} {C C' : Nat → Option Nat} {s : Nat} (h : SvR its A B C D E F) (hs : ∀ k, k ≠ s → A' k = A k ∧ B' k = B k ∧ C' k = C k ∧ D' k = D k ∧ E' k = E k ∧ F' k = F k) (at_ : SvAt its (A' s) (B' s) (C' s) (D' s) (E' s) (F' s)) : SvR its A' B' C' D' E' F' := by
  intro k hk
  by_cases e : k = s
  · rw [e]; exact at_
  · obtain ⟨e1, e2, e3, e4, e5, e6⟩ := hs k e
    rw [e1, e2, e3, e4, e5, e6]; exact h k hk
theorem va_us {f : Nat → Option Nat} {k : Nat} {v : Option Nat} : va_up f k v k = v := if_pos rfl
theorem va_un {f : Nat → Option Nat} {k j : Nat} {v : Option Nat} (h : j ≠ k) : va_up f k v j = f j := if_neg h
theorem sv_set {its : List zIt} {A B D E F : Nat → Int32} {C : Nat → Option Nat} {s : Nat} {a d e f : Int32} (h : SvR its A B C D E F) (at_ : SvAt its a (B s) (C s) d e f) : SvR its (upd A s a) B C (upd D s d) (upd E s e) (upd F s f) :=
  sv_upd (s := s) h (fun k hk => ⟨pk_un hk, rfl, rfl, pk_un hk, pk_un hk, pk_un hk⟩) (by rw [pk_us, pk_us, pk_us, pk_us]; exact at_)
theorem sv_setN {its : List zIt} {A B D E F : Nat → Int32} {C : Nat → Option Nat} {s : Nat} {a b d e f : Int32} (h : SvR its A B C D E F) (at_ : SvAt its a b (C s) d e f) : SvR its (upd A s a) (upd B s b) C (upd D s d) (upd E s e) (upd F s f) :=
  sv_upd (s := s) h (fun k hk => ⟨pk_un hk, pk_un hk, rfl, pk_un hk, pk_un hk, pk_un hk⟩) (by rw [pk_us, pk_us, pk_us, pk_us, pk_us]; exact at_)
theorem sv_setR {its : List zIt} {A B D E F : Nat → Int32} {C : Nat → Option Nat} {s : Nat} {a d e f : Int32} {v : Option Nat} (h : SvR its A B C D E F) (at_ : SvAt its a (B s) v d e f) : SvR its (upd A s a) B (va_up C s v) (upd D s d) (upd E s e) (upd F s f) :=
  sv_upd (s := s) h (fun k hk => ⟨pk_un hk, rfl, va_un hk, pk_un hk, pk_un hk, pk_un hk⟩) (by rw [pk_us, pk_us, pk_us, pk_us, va_us]; exact at_)
theorem p_shelf_N {b : Nat} {c ni gl dr : Int32} {la gr se ki ha si on aw : Nat → Int32} {row : Nat → Int32} {its : List zIt} {sheets : Nat → Option Nat} {so sz : Nat → Int32} {A B D E F : Nat → Int32} {C : Nat → Option Nat} (Gn : GN b c ni gl dr la gr se ki ha si on aw row) (V : SvR its A B C D E F) (x1 x2 x3 : Int32) (h : x2 = nI 1 → NoIt x3 sheets so) : ∃ r t, fX4_shelf_N c sheets A B C x1 x2 x3 = some r ∧ fX5_shelf row so sz D E F x1 x2 x3 = some t ∧ r.1 = t.1 ∧ SvR its r.2.1 r.2.2.1 r.2.2.2 t.2.1 t.2.2.1 t.2.2.2 := by
  obtain ⟨S, T, rfl⟩ := Gn
  unfold fX4_shelf_N fX5_shelf fX5_isHeld
  rcases s_isShelf x1 with ⟨e1, e2⟩ | ⟨s, hs, rfl, e1, e2⟩
  · rw [e1, e2, zbs, zbs, if00, if00]; exact ⟨_, _, rfl, rfl, rfl, V⟩
  · rw [e1, e2, zbs, zbs, if10, if10]
    simp only [zJe, zg hs (show 4 < 2 ^ 31 by omega), zgc hs (show s < 2 ^ 31 by omega), nI_clamp (show s < 2 ^ 31 by omega)]
    have stale := (V s hs).2
    by_cases x0 : x2 = 0
    · rw [if_pos x0, if_pos x0]
      have n1 : ¬ x2 = nI 1 := by rw [x0]; decide
      have n2 : ¬ x2 = nI 2 := by rw [x0]; decide
      rcases one T dr x3 with ⟨f1, f2⟩ | ⟨p, hp, rfl, f1, f2⟩
      · rw [f1, f2, zbs, zbs, if00, if_neg n1, if_neg n2, if_pos (show nI 0 &&& 1 = nI 0 by decide), zbs, if00]; exact ⟨_, _, rfl, rfl, rfl, V⟩
      · rw [f1, f2, zbs, zbs, if10, if_pos (show nI 1 &&& 1 = nI 1 by decide), zbs, if10, if_neg n2, if_neg n1, if_neg n1, if_neg n1, x0]
        exact ⟨_, _, rfl, rfl, rfl, sv_setN V ⟨Or.inr (Or.inl ⟨rfl, rfl, rfl⟩), stale⟩⟩
    · rw [if_neg x0, if_neg x0]
      by_cases x1 : x2 = nI 1
      · have n2 : ¬ x2 = nI 2 := by rw [x1]; decide
        rw [if_pos x1, if_pos x1]
        rcases s_isShelf x3 with ⟨f1, f2⟩ | ⟨n, hn, rfl, f1, f2⟩
        · rw [f1, f2, zbs, zbs, if00, if_neg n2, if_pos (show nI 0 &&& 1 = nI 0 by decide), zbs, if00]; exact ⟨_, _, rfl, rfl, rfl, V⟩
        · obtain ⟨g1, g2⟩ := h x1 n hn rfl
          rw [f1, f2, zbs, zbs, if10, if_pos (show nI 1 &&& 1 = nI 1 by decide), zbs, if10, if_neg n2, if_pos x1, if_pos x1, if_pos x1]
          simp only [zg hn (show 4 < 2 ^ 31 by omega), zgc hn (show n < 2 ^ 31 by omega), nI_clamp (show n < 2 ^ 31 by omega), g1, g2]
          unfold zoN
          rw [if_pos m1_neg]
          exact ⟨_, _, rfl, rfl, rfl, sv_setR V ⟨Or.inl ⟨rfl, rfl⟩, Or.inl rfl⟩⟩
      · rw [if_neg x1, if_neg x1]
        by_cases x2' : x2 = nI 2
        · rw [if_pos x2', if_pos x2', zbs, if10, if_pos x2', if_neg x1, if_neg x1]
          exact ⟨_, _, rfl, rfl, rfl, sv_set V ⟨Or.inl ⟨rfl, rfl⟩, stale⟩⟩
        · rw [if_neg x2', if_neg x2', zbs, if00]; exact ⟨_, _, rfl, rfl, rfl, V⟩
theorem p_shelf_S {b : Nat} {c ni gl dr : Int32} {la gr se ki ha si on aw : Nat → Int32} {row : Nat → Int32} {its : List zIt} {sheets : Nat → Option Nat} {so sz : Nat → Int32} {rsh : Nat → Int64} {A B D E F : Nat → Int32} {C : Nat → Option Nat} {n : Nat} {it : zIt} (Gn : GN b c ni gl dr la gr se ki ha si on aw row) (V : SvR its A B C D E F) (hn : n < 4) (hi : it ∈ its) (h : ItR n it sheets so sz rsh) (x1 : Int32) : ∃ r t, fX4_shelf_S c sheets A B C it.1 x1 (nI 1) (nI n) = some r ∧ fX5_shelf row so sz D E F x1 (nI 1) (nI n) = some t ∧ r.1 = t.1 ∧ SvR its r.2.1 r.2.2.1 r.2.2.2 t.2.1 t.2.2.1 t.2.2.2 := by
  obtain ⟨S, T, rfl⟩ := Gn
  obtain ⟨h1, h2, h3, h4, h5, h6⟩ := h
  unfold fX4_shelf_S fX5_shelf fX5_isHeld
  rcases s_isShelf x1 with ⟨e1, e2⟩ | ⟨s, hs, rfl, e1, e2⟩
  · rw [e1, e2, zbs, zbs, if00, if00]; exact ⟨_, _, rfl, rfl, rfl, V⟩
  · obtain ⟨f1, f2⟩ := s_isShelf_at hn
    rw [e1, e2, zbs, zbs, if10, if10]
    simp only [zJe, zg hs (show 4 < 2 ^ 31 by omega), zgc hs (show s < 2 ^ 31 by omega), nI_clamp (show s < 2 ^ 31 by omega), zg hn (show 4 < 2 ^ 31 by omega), zgc hn (show n < 2 ^ 31 by omega), nI_clamp (show n < 2 ^ 31 by omega), h1, h4, h5, f1, f2, zbs, if10, show (nI 1 = 0) = False from eq_false (by decide), show (nI 1 = nI 2) = False from eq_false (by decide), show (nI 1 &&& 1 = nI 1) = True from eq_true (by decide), reduceIte]
    unfold zoS
    simp only [eq_self, reduceIte]
    rw [if_neg (nI_pos (by omega))]
    exact ⟨_, _, rfl, rfl, rfl, sv_setR V ⟨Or.inr (Or.inr ⟨rfl, rfl, it, hi, rfl, h2, h3, rfl, rfl⟩), Or.inr ⟨it, hi, rfl⟩⟩⟩
set_option maxRecDepth 100000 in
theorem under_same : ∀ k, k < 6 → ∀ a, a < 6 → (fX4_isUnder (nI k) (nI a) = some (nI 0) ∧ fX5_isUnder (nI k) (nI a) = some (nI 0)) ∨ (fX4_isUnder (nI k) (nI a) = some (nI 1) ∧ fX5_isUnder (nI k) (nI a) = some (nI 1)) := by decide +kernel
theorem sub10 {x : Int32} {n : Nat} (h : x - nI 10 = nI n) : x = nI (n + 10) := by
  have := congrArg (fun y => y + nI 10) h
  rw [show x - nI 10 + nI 10 = x from Int32.sub_add_cancel x (nI 10), nI_add] at this
  exact this
/-- what lies on a shelf -/
theorem on_cases {b : Nat} {S : Nat → Nat} {c ni gl : Int32} {la gr se ki ha si on aw : Nat → Int32} {its : List zIt} {A B D E F : Nat → Int32} {C : Nat → Option Nat} {s : Nat} (T : TR b S c ni gl la gr se ki ha si on aw) (dr : Int32) (hs : s < 4) (V : SvAt its (A s) (B s) (C s) (D s) (E s) (F s)) : (fX4_isNameOn c A B (nI s) = some (nI 0) ∧ ((¬ A s = nI 2 ∧ fX5_kindOn (rowOf S dr) D E (nI s) = some (-1)) ∨ (A s = nI 2 ∧ fX5_kindOn (rowOf S dr) D E (nI s) = some (nI 9) ∧ ∃ it, it ∈ its ∧ C s = some it.1 ∧ it.2.1 ≤ 3 ∧ it.2.2.1 ≤ 40 ∧ E s = nI it.2.1 ∧ F s = nI it.2.2.1))) ∨ ∃ p, p < S 6 ∧ B s = nI p ∧ E s = nI p ∧ fX4_isNameOn c A B (nI s) = some (nI 1) ∧ fX5_kindOn (rowOf S dr) D E (nI s) = some (nI (S (28 + 5 * p))) := by
  have h6 := inv_6 T.1
  unfold fX4_isNameOn fX5_kindOn
  simp only [zg hs (show 4 < 2 ^ 31 by omega), zgc hs (show s < 2 ^ 31 by omega), nI_clamp (show s < 2 ^ 31 by omega)]
  obtain ⟨⟨v1, v2⟩ | ⟨v1, v2, v3⟩ | ⟨v1, v2, it, v3⟩, _⟩ := V
  · left
    rw [v1, v2, if_neg (show ¬ nI 0 = nI 1 by decide), if_neg (show ¬ (-1 : Int32) = 0 by decide), if_pos m1_neg]
    exact ⟨rfl, Or.inl ⟨by decide, rfl⟩⟩
  · rw [v1, v2, if_pos rfl, if_pos (show nI 0 = 0 by decide), v3]
    rcases one T dr (E s) with ⟨f1, f2⟩ | ⟨p, hp, e, f1, f2⟩
    · left
      rw [f1, f2, zbs, zbs, if00, if00]
      exact ⟨rfl, Or.inl ⟨by decide, rfl⟩⟩
    · right
      refine ⟨p, hp, e, e, ?_, ?_⟩
      · rw [e, f1, zbs, if10]
      · rw [e, f2, zbs, if10, s_its0 (by omega), zbs]
  · left
    rw [v1, v2, if_neg (show ¬ nI 2 = nI 1 by decide), if_neg (show ¬ nI 1 = 0 by decide), if_neg (show ¬ nI 1 < 0 by decide)]
    exact ⟨rfl, Or.inr ⟨rfl, rfl, it, v3⟩⟩
theorem p_taken_gen {b : Nat} {S : Nat → Nat} {c ni gl : Int32} {la gr se ki ha si on aw : Nat → Int32} {its : List zIt} {A B D E F : Nat → Int32} {C : Nat → Option Nat} {s : Nat} {x2 dr : Int32} {o : Option Int32 → Option Int32 → Option Int32} {st le : Int32} (T : TR b S c ni gl la gr se ki ha si on aw) (hs : s < 4) (V : SvAt its (A s) (B s) (C s) (D s) (E s) (F s)) (ho : A s = nI 2 → (∃ it, it ∈ its ∧ C s = some it.1 ∧ it.2.1 ≤ 3 ∧ it.2.2.1 ≤ 40 ∧ E s = nI it.2.1 ∧ F s = nI it.2.2.1) → (∀ X Y, o X Y = Y) ∧ st = E s ∧ le = F s) (hn : ¬ A s = nI 2 → o (some (-11)) (some (-11)) = some (-11)) : okQ ((fX4_isBelow x2 (nI 6)).bind (fun u3 => ((fX4_isBelow (nI s) (nI 4)).bind (fun u9 => (if u9 = 0 then (some (-1 : Int32)) else (zJ (((fX4_isNameOn c A B (nI s)).bind (fun u34 => (if u34 = 0 then (if nI s < 0 ∨ 4 ≤ (nI s).toNatClampNeg then none else o (if nI s < 0 ∨ 4 ≤ (nI s).toNatClampNeg then none else (if (A (nI s).toNatClampNeg) = (nI 2) then (some (-11 : Int32)) else (some (-11 : Int32)))) (if nI s < 0 ∨ 4 ≤ (nI s).toNatClampNeg then none else (if (A (nI s).toNatClampNeg) = (nI 2) then (if st = (x2 - (nI 10)) then (some le) else (some (-13 : Int32))) else (some (-11 : Int32))))) else (if nI s < 0 ∨ 4 ≤ (nI s).toNatClampNeg then none else (if u3 = 0 then (some (-13 : Int32)) else (if (B (nI s).toNatClampNeg) < 0 ∨ 8 ≤ (B (nI s).toNatClampNeg).toNatClampNeg then none else ((fX4_isUnder (ki (B (nI s).toNatClampNeg).toNatClampNeg) x2).bind (fun u63 => (if u63 = 0 then (some (-13 : Int32)) else (some (B (nI s).toNatClampNeg)))))))))))) (fun J_1 => (if u3 = 0 then ((fX4_isBelow (x2 - (nI 10)) (nI 4)).bind (fun u24 => (if u24 = 0 then (some (-1 : Int32)) else J_1))) else J_1)))))))) (fX5_taken (rowOf S dr) D E F (nI s) x2) := by
  have h6 := inv_6 T.1
  obtain ⟨e1, e2⟩ := s_isShelf_at hs
  unfold fX5_taken
  rw [e1, e2]
  simp only [zbs, if10, zJe, zg hs (show 4 < 2 ^ 31 by omega), zgc hs (show s < 2 ^ 31 by omega), nI_clamp (show s < 2 ^ 31 by omega)]
  -- what the two answer behind the checks of the kind asked for
  have body : ∀ u3 : Int32, (u3 = nI 0 ∧ (∃ m, 10 ≤ m ∧ m ≤ 13 ∧ x2 = nI m)) ∨ (u3 = nI 1 ∧ ∃ m, m < 6 ∧ x2 = nI m) → okQ ((fX4_isNameOn c A B (nI s)).bind (fun u34 => (if u34 = 0 then o (if (A s) = (nI 2) then (some (-11 : Int32)) else (some (-11 : Int32))) (if (A s) = (nI 2) then (if st = (x2 - (nI 10)) then (some le) else (some (-13 : Int32))) else (some (-11 : Int32))) else (if u3 = 0 then (some (-13 : Int32)) else (if (B s) < 0 ∨ 8 ≤ (B s).toNatClampNeg then none else ((fX4_isUnder (ki (B s).toNatClampNeg) x2).bind (fun u63 => (if u63 = 0 then (some (-13 : Int32)) else (some (B s)))))))))) ((fX5_kindOn (rowOf S dr) D E (nI s)).bind (fun u31 => (if u31 < 0 then (some (-11 : Int32)) else (if u31 = (nI 9) then (if x2 = ((nI 10) + (E s)) then (some (F s)) else (some (-13 : Int32))) else (if x2 < (nI 10) then ((fX5_isUnder u31 x2).bind (fun u81 => (if u81 = 0 then (some (-13 : Int32)) else (some (E s))))) else (some (-13 : Int32))))))) := by
    intro u3 hu
    rcases on_cases (A := A) (B := B) (C := C) (D := D) (E := E) (F := F) T dr hs V with ⟨g1, ⟨n2, g2⟩ | ⟨y2, g2, hit⟩⟩ | ⟨p, hp, b1, b2, g1, g2⟩
    · rw [g1, g2, zbs, zbs, if00, if_neg n2, if_neg n2, hn n2, if_pos m1_neg]; exact okQ_mk
    · obtain ⟨o1, o2, o3⟩ := ho y2 hit
      obtain ⟨it, i1, i2, i3, i4, i5, i6⟩ := hit
      rw [g1, g2, zbs, zbs, if00, if_pos y2, o1, if_neg (show ¬ nI 9 < 0 by decide), if_pos rfl, o2, o3, if_pos y2, i5, i6]
      have cond : (nI it.2.1 = x2 - nI 10) = (x2 = nI 10 + nI it.2.1) := by
        refine propext ⟨fun q => ?_, fun q => ?_⟩
        · rw [sub10 q.symm, nI_add, Nat.add_comm]
        · rw [q, nI_add, nI_sub (by omega), Nat.add_sub_cancel_left]
      simp only [cond]
      by_cases q : x2 = nI 10 + nI it.2.1
      · rw [if_pos q]; exact okQ_mk
      · rw [if_neg q]; exact okQ_mk
    · have k1 := (inv_p T.1 (show p < 8 by omega)).1
      rw [g1, g2, zbs, zbs, if10, if_neg (nI_pos (by omega)), ieq_f (by omega) (by omega) (by omega), b1, b2, zg (by omega) (by omega), nI_clamp (by omega), tr_ki T hp]
      rcases hu with ⟨rfl, m, h1, h2, rfl⟩ | ⟨rfl, m, h1, rfl⟩
      · rw [if00, ilt_f (by omega) (by omega)]; exact okQ_mk
      · rw [if10, ilt_t (by omega) (by omega)]
        rcases under_same (S (28 + 5 * p)) (by omega) m h1 with ⟨q1, q2⟩ | ⟨q1, q2⟩
        · rw [q1, q2, zbs, if00]; exact okQ_mk
        · rw [q1, q2, zbs, if10]; exact okQ_mk
  rcases bel x2 (n := 6) (by omega) (by omega) with ⟨f1, f2⟩ | ⟨m, hm, rfl, f1, f2⟩
  · rw [f1, show fX5_in x2 (nI 0) (nI 5) = _ from f2, zbs, zbs, if00, if00]
    rcases rng x2 (show 10 ≤ 13 by omega) (by omega) with ⟨h, e⟩ | ⟨h1, h, e⟩ | ⟨m, h1, h2, rfl, h3, h4, e⟩
    · rw [e, zbs, if00]
      rcases bel (x2 - nI 10) (n := 4) (by omega) (by omega) with ⟨k1, _⟩ | ⟨m, hm, k0, k1, _⟩
      · rw [k1, zbs, if00]; exact okQ_mk
      · rw [sub10 k0] at h
        exact absurd h (nI_nlt (by omega) (by omega))
    · rw [e, zbs, if00]
      rcases bel (x2 - nI 10) (n := 4) (by omega) (by omega) with ⟨k1, _⟩ | ⟨m, hm, k0, k1, _⟩
      · rw [k1, zbs, if00]; exact okQ_mk
      · rw [sub10 k0] at h
        exact absurd h (nI_nlt (by omega) (by omega))
    · have := body (nI 0) (Or.inl ⟨rfl, m, h1, h2, rfl⟩)
      rw [e, zbs, if10, nI_sub (by omega), c_isBelow (by omega) (by omega), if_pos (by omega), zbs, if10]
      rw [nI_sub (by omega)] at this
      exact this
  · rw [f1, show fX5_in (nI m) (nI 0) (nI 5) = _ from f2, zbs, zbs, if10, if10]
    exact body (nI 1) (Or.inr ⟨rfl, m, hm, rfl⟩)
theorem p_taken_S {b : Nat} {c ni gl dr : Int32} {la gr se ki ha si on aw : Nat → Int32} {row : Nat → Int32} {its : List zIt} {A B D E F : Nat → Int32} {C : Nat → Option Nat} {s : Nat} {it : zIt} (Gn : GN b c ni gl dr la gr se ki ha si on aw row) (V : SvR its A B C D E F) (hs : s < 4) (hC : C s = some it.1) (uq : ∀ it', it' ∈ its → it'.1 = it.1 → it' = it) (x2 : Int32) : okQ (fX4_taken_S c ki A B C (nI it.2.1) (nI it.2.2.1) it.1 (nI s) x2) (fX5_taken row D E F (nI s) x2) := by
  obtain ⟨S, T, rfl⟩ := Gn
  have q := p_taken_gen (x2 := x2) (dr := dr) (o := fun X Y => zoS (C s) it.1 X Y) (st := nI it.2.1) (le := nI it.2.2.1) T hs (V s hs) (fun _ hit => by
    obtain ⟨it', i1, i2, i3, i4, i5, i6⟩ := hit
    have e : it' = it := uq it' i1 (by rw [hC] at i2; exact (Option.some.inj i2).symm)
    subst e
    refine ⟨fun X Y => ?_, i5.symm, i6.symm⟩
    rw [hC]; exact if_pos rfl) (fun _ => by rw [hC]; exact if_pos rfl)
  have e : (nI s).toNatClampNeg = s := nI_clamp (by omega)
  unfold fX4_taken_S
  rw [e] at q ⊢
  exact q
theorem p_taken_N {b : Nat} {c ni gl dr : Int32} {la gr se ki ha si on aw : Nat → Int32} {row : Nat → Int32} {its : List zIt} {A B D E F : Nat → Int32} {C : Nat → Option Nat} {x1 : Int32} (Gn : GN b c ni gl dr la gr se ki ha si on aw row) (V : SvR its A B C D E F) (hC : ∀ s, s < 4 → x1 = nI s → C s = none) (x2 : Int32) : okQ (fX4_taken_N c ki A B C x1 x2) (fX5_taken row D E F x1 x2) := by
  rcases s_isShelf x1 with ⟨e1, e2⟩ | ⟨s, hs, rfl, e1, e2⟩
  · unfold fX4_taken_N fX5_taken
    rw [e1, e2, zbs, if00]
    rcases bel x2 (n := 6) (by omega) (by omega) with ⟨f1, f2⟩ | ⟨m, hm, rfl, f1, f2⟩
    · rw [f1, zbs, zbs, if00]; exact okQ_mk
    · rw [f1, zbs, zbs, if00]; exact okQ_mk
  · obtain ⟨S, T, rfl⟩ := Gn
    have hc := hC s hs rfl
    have q := p_taken_gen (x2 := x2) (dr := dr) (o := fun X Y => zoN (C s) X) (st := nI 0) (le := nI 0) T hs (V s hs) (fun _ hit => by
      obtain ⟨it', i1, i2, _⟩ := hit
      rw [hc] at i2; cases i2) (fun _ => by rw [hc]; rfl)
    have e : (nI s).toNatClampNeg = s := nI_clamp (by omega)
    unfold fX4_taken_N
    rw [e] at q ⊢
    exact q
theorem q01 : (nI 0 = nI 1) = False := eq_false (by decide)
theorem q02 : (nI 0 = nI 2) = False := eq_false (by decide)
theorem q03 : (nI 0 = nI 3) = False := eq_false (by decide)
theorem q04 : (nI 0 = nI 4) = False := eq_false (by decide)
theorem q05 : (nI 0 = nI 5) = False := eq_false (by decide)
theorem q10 : (nI 1 = nI 0) = False := eq_false (by decide)
theorem q12 : (nI 1 = nI 2) = False := eq_false (by decide)
theorem q13 : (nI 1 = nI 3) = False := eq_false (by decide)
theorem q14 : (nI 1 = nI 4) = False := eq_false (by decide)
theorem q15 : (nI 1 = nI 5) = False := eq_false (by decide)
theorem q20 : (nI 2 = nI 0) = False := eq_false (by decide)
theorem q21 : (nI 2 = nI 1) = False := eq_false (by decide)
theorem q23 : (nI 2 = nI 3) = False := eq_false (by decide)
theorem q24 : (nI 2 = nI 4) = False := eq_false (by decide)
theorem q25 : (nI 2 = nI 5) = False := eq_false (by decide)
theorem q30 : (nI 3 = nI 0) = False := eq_false (by decide)
theorem q31 : (nI 3 = nI 1) = False := eq_false (by decide)
theorem q32 : (nI 3 = nI 2) = False := eq_false (by decide)
theorem q34 : (nI 3 = nI 4) = False := eq_false (by decide)
theorem q35 : (nI 3 = nI 5) = False := eq_false (by decide)
theorem q40 : (nI 4 = nI 0) = False := eq_false (by decide)
theorem q41 : (nI 4 = nI 1) = False := eq_false (by decide)
theorem q42 : (nI 4 = nI 2) = False := eq_false (by decide)
theorem q43 : (nI 4 = nI 3) = False := eq_false (by decide)
theorem q45 : (nI 4 = nI 5) = False := eq_false (by decide)
theorem q50 : (nI 5 = nI 0) = False := eq_false (by decide)
theorem q51 : (nI 5 = nI 1) = False := eq_false (by decide)
theorem q52 : (nI 5 = nI 2) = False := eq_false (by decide)
theorem q53 : (nI 5 = nI 3) = False := eq_false (by decide)
theorem q54 : (nI 5 = nI 4) = False := eq_false (by decide)
theorem qz1 : (nI 1 = 0) = False := eq_false (by decide)
theorem qz0 : (nI 0 = 0) = True := eq_true (by decide)
theorem th_ran {t bs : Int32} {bo tc : Nat → Int32} (R : ThR t bo bs tc) (x : Int32) : ∃ u v, fX1_begins t bo x = some u ∧ fX5_ran bs tc x = some v ∧ ThR u.1 u.2 v.1 v.2 := by
  have R2 := R
  obtain ⟨m, hm, rfl, rfl, hr⟩ := R
  unfold fX1_begins fX5_ran
  by_cases h : m < 30
  · rw [ilt_t h (by omega), ilt_t h (by omega), zg h (by omega), zg h (by omega), nI_clamp (by omega), nI_add]
    refine ⟨_, _, rfl, rfl, m + 1, by omega, rfl, rfl, fun k hk => ?_⟩
    show upd bo m x k = upd tc m x k
    by_cases e : k = m
    · rw [e, pk_us, pk_us]
    · rw [pk_un e, pk_un e]; exact hr k (by omega)
  · rw [ilt_f (by omega) (by omega), ilt_f (by omega) (by omega)]
    exact ⟨_, _, rfl, rfl, R2⟩
theorem neg0 (v : Int32) : nI 0 - v = -v := Int32.zero_sub v
def cvI (k : Nat) : Int32 := if k = 2 ∨ k = 4 then nI 1 else nI 0
def frI (k : Nat) : Int32 := if k = 1 ∨ k = 3 then nI 1 else nI 0
def okS (o4 o5 : Option (Int32 × Int32 × (Nat → Int32))) : Prop := ∃ r s, o4 = some r ∧ o5 = some s ∧ r.1 = s.1 ∧ ThR r.2.1 r.2.2 s.2.1 s.2.2
def okS4 (o4 o5 : Option (Int32 × Int32 × Int32 × (Nat → Int32))) : Prop := ∃ r s, o4 = some r ∧ o5 = some s ∧ r.1 = s.1 ∧ r.2.2.1 = s.2.2.1 ∧ ThR r.2.1 r.2.2.2 s.2.1 s.2.2.2
theorem a_sprays {k : Nat} {t bs nm hd : Int32} {bo tc : Nat → Int32} (hk : k < 6) (R : ThR t bo bs tc) (x : Int32) : okS (fX1_sprays t (nI k) nm hd (cvI k) bo x) (fX5_spraysIt (nI k) nm hd bs tc x) := by
  unfold fX1_sprays fX5_spraysIt fX5_coveredSprays fX5_plainSprays
  have : k = 0 ∨ k = 1 ∨ k = 2 ∨ k = 3 ∨ k = 4 ∨ k = 5 := by omega
  rcases this with rfl | rfl | rfl | rfl | rfl | rfl
  · simp only [show cvI 0 = nI 0 from rfl, q01, q02, q03, q04, q05, q10, q12, q13, q14, q15, q20, q21, q23, q24, q25, q30, q31, q32, q34, q35, q40, q41, q42, q43, q45, q50, q51, q52, q53, q54, qz1, qz0, eq_self, reduceIte, zJe]
    obtain ⟨u, v, e1, e2, R1⟩ := th_ran R (nI 10)
    rw [e1, e2, zbs, zbs, zbs]
    exact ⟨_, _, rfl, rfl, rfl, R1⟩
  · simp only [show cvI 1 = nI 0 from rfl, q01, q02, q03, q04, q05, q10, q12, q13, q14, q15, q20, q21, q23, q24, q25, q30, q31, q32, q34, q35, q40, q41, q42, q43, q45, q50, q51, q52, q53, q54, qz1, qz0, eq_self, reduceIte, zJe]
    obtain ⟨u, v, e1, e2, R1⟩ := th_ran R (nI 10)
    rw [e1, e2, zbs, zbs, zbs]
    exact ⟨_, _, rfl, rfl, rfl, R1⟩
  · simp only [show cvI 2 = nI 1 from rfl, q01, q02, q03, q04, q05, q10, q12, q13, q14, q15, q20, q21, q23, q24, q25, q30, q31, q32, q34, q35, q40, q41, q42, q43, q45, q50, q51, q52, q53, q54, qz1, qz0, eq_self, reduceIte, zJe]
    obtain ⟨u, v, e1, e2, R1⟩ := th_ran R (nI 30)
    obtain ⟨u', v', e1', e2', R2⟩ := th_ran R1 (nI 10)
    rw [e1, e2, zbs, zbs, e1', e2', zbs, zbs, zbs, zbs]
    exact ⟨_, _, rfl, rfl, neg0 _, R2⟩
  · simp only [show cvI 3 = nI 0 from rfl, q01, q02, q03, q04, q05, q10, q12, q13, q14, q15, q20, q21, q23, q24, q25, q30, q31, q32, q34, q35, q40, q41, q42, q43, q45, q50, q51, q52, q53, q54, qz1, qz0, eq_self, reduceIte, zJe]
    obtain ⟨u, v, e1, e2, R1⟩ := th_ran R (nI 51)
    obtain ⟨u', v', e1', e2', R2⟩ := th_ran R1 (nI 10)
    rw [e1, e2, zbs, zbs, e1', e2', zbs, zbs, zbs]
    exact ⟨_, _, rfl, rfl, rfl, R2⟩
  · simp only [show cvI 4 = nI 1 from rfl, q01, q02, q03, q04, q05, q10, q12, q13, q14, q15, q20, q21, q23, q24, q25, q30, q31, q32, q34, q35, q40, q41, q42, q43, q45, q50, q51, q52, q53, q54, qz1, qz0, eq_self, reduceIte, zJe]
    obtain ⟨u, v, e1, e2, R1⟩ := th_ran R (nI 40)
    obtain ⟨u', v', e1', e2', R2⟩ := th_ran R1 (nI 30)
    obtain ⟨u2, v2, e3, e4, R3⟩ := th_ran R2 (nI 10)
    rw [e1, e2, zbs, zbs, e1', e2', zbs, zbs, e3, e4, zbs, zbs, zbs, zbs]
    exact ⟨_, _, rfl, rfl, by show (nI 0 - _) ^^^ _ = (-_) ^^^ _; rw [neg0], R3⟩
  · simp only [show cvI 5 = nI 0 from rfl, q01, q02, q03, q04, q05, q10, q12, q13, q14, q15, q20, q21, q23, q24, q25, q30, q31, q32, q34, q35, q40, q41, q42, q43, q45, q50, q51, q52, q53, q54, qz1, qz0, eq_self, reduceIte, zJe]
    obtain ⟨u, v, e1, e2, R1⟩ := th_ran R (nI 10)
    rw [e1, e2, zbs, zbs, zbs]
    exact ⟨_, _, rfl, rfl, rfl, R1⟩
theorem a_drips {k : Nat} {t bs nm hd : Int32} {bo tc : Nat → Int32} (hk : k < 6) (R : ThR t bo bs tc) (x : Int32) : okS (fX1_drips t (nI k) nm hd (frI k) (cvI k) bo x) (fX5_dripsIt (nI k) nm hd bs tc x) := by
  unfold fX1_drips fX5_dripsIt fX5_plainDrips
  have plain : (k = 0 ∨ k = 2 ∨ k = 5) ∨ (k = 1 ∨ k = 3) ∨ k = 4 := by omega
  rcases plain with h | h | rfl
  · obtain ⟨u, v, e1, e2, R1⟩ := th_ran R (nI 11)
    obtain ⟨r, s, f1, f2, f3, R2⟩ := a_sprays (nm := nm) (hd := hd) hk R1 x
    rcases h with rfl | rfl | rfl
    · simp only [show frI 0 = nI 0 from rfl, q01, q02, q03, q04, q05, q10, q12, q13, q14, q15, q20, q21, q23, q24, q25, q30, q31, q32, q34, q35, q40, q41, q42, q43, q45, q50, q51, q52, q53, q54, qz1, qz0, eq_self, reduceIte, zJe]
      rw [e1, e2, zbs, zbs, f1, f2, zbs, zbs, zbs]
      exact ⟨_, _, rfl, rfl, by show r.1 - _ = s.1 - _; rw [f3], R2⟩
    · simp only [show frI 2 = nI 0 from rfl, q01, q02, q03, q04, q05, q10, q12, q13, q14, q15, q20, q21, q23, q24, q25, q30, q31, q32, q34, q35, q40, q41, q42, q43, q45, q50, q51, q52, q53, q54, qz1, qz0, eq_self, reduceIte, zJe]
      rw [e1, e2, zbs, zbs, f1, f2, zbs, zbs, zbs]
      exact ⟨_, _, rfl, rfl, by show r.1 - _ = s.1 - _; rw [f3], R2⟩
    · simp only [show frI 5 = nI 0 from rfl, q01, q02, q03, q04, q05, q10, q12, q13, q14, q15, q20, q21, q23, q24, q25, q30, q31, q32, q34, q35, q40, q41, q42, q43, q45, q50, q51, q52, q53, q54, qz1, qz0, eq_self, reduceIte, zJe]
      rw [e1, e2, zbs, zbs, f1, f2, zbs, zbs, zbs]
      exact ⟨_, _, rfl, rfl, by show r.1 - _ = s.1 - _; rw [f3], R2⟩
  · obtain ⟨u0, v0, d1, d2, R0⟩ := th_ran R (nI 20)
    obtain ⟨u, v, e1, e2, R1⟩ := th_ran R0 (nI 11)
    obtain ⟨r, s, f1, f2, f3, R2⟩ := a_sprays (nm := nm) (hd := hd) hk R1 x
    rcases h with rfl | rfl
    · simp only [show frI 1 = nI 1 from rfl, q01, q02, q03, q04, q05, q10, q12, q13, q14, q15, q20, q21, q23, q24, q25, q30, q31, q32, q34, q35, q40, q41, q42, q43, q45, q50, q51, q52, q53, q54, qz1, qz0, eq_self, reduceIte, zJe]
      rw [d1, d2, zbs, zbs, e1, e2, zbs, zbs, f1, f2, zbs, zbs, zbs]
      exact ⟨_, _, rfl, rfl, by show r.1 - _ + _ = s.1 - _ + _; rw [f3], R2⟩
    · simp only [show frI 3 = nI 1 from rfl, q01, q02, q03, q04, q05, q10, q12, q13, q14, q15, q20, q21, q23, q24, q25, q30, q31, q32, q34, q35, q40, q41, q42, q43, q45, q50, q51, q52, q53, q54, qz1, qz0, eq_self, reduceIte, zJe]
      rw [d1, d2, zbs, zbs, e1, e2, zbs, zbs, f1, f2, zbs, zbs, zbs]
      exact ⟨_, _, rfl, rfl, by show r.1 - _ + _ = s.1 - _ + _; rw [f3], R2⟩
  · obtain ⟨u0, v0, d1, d2, R0⟩ := th_ran R (nI 41)
    obtain ⟨u, v, e1, e2, R1⟩ := th_ran R0 (nI 11)
    obtain ⟨r, s, f1, f2, f3, R2⟩ := a_sprays (nm := nm) (hd := hd) hk R1 x
    obtain ⟨r', s', g1, g2, g3, R3⟩ := a_sprays (nm := nm) (hd := hd) hk R2 hd
    simp only [show frI 4 = nI 0 from rfl, q01, q02, q03, q04, q05, q10, q12, q13, q14, q15, q20, q21, q23, q24, q25, q30, q31, q32, q34, q35, q40, q41, q42, q43, q45, q50, q51, q52, q53, q54, qz1, qz0, eq_self, reduceIte, zJe]
    rw [d1, d2, zbs, zbs, e1, e2, zbs, zbs, f1, f2, zbs, zbs, zbs]
    dsimp only
    rw [g1, g2, zbs, zbs]
    exact ⟨_, _, rfl, rfl, by show r.1 - _ + r'.1 = s.1 - _ + s'.1; rw [f3, g3], R3⟩
theorem sub_0 {a b : Int32} : (a - b = 0) = (a = b) := by
  refine propext ⟨fun h => ?_, fun h => ?_⟩
  · have := congrArg (fun y => y + b) h
    rw [show a - b + b = a from Int32.sub_add_cancel a b, show (0 : Int32) + b = b from Int32.zero_add b] at this
    exact this
  · rw [h]; exact Int32.sub_self b
theorem a_parts {k : Nat} {t bs nm hd br : Int32} {bo tc : Nat → Int32} (hk : k < 6) (hbr : br = nI 0) (R : ThR t bo bs tc) (x : Int32) : okS4 (fX1_parts t br (nI k) nm hd (cvI k) bo x) (fX5_partsIt (nI k) nm hd bs br tc x) := by
  subst hbr
  unfold fX1_parts fX5_partsIt fX5_plainParts
  simp only [sub_0]
  have plain : (k = 0 ∨ k = 1 ∨ k = 2 ∨ k = 4) ∨ k = 3 ∨ k = 5 := by omega
  rcases plain with h | rfl | rfl
  · obtain ⟨u, v, e1, e2, R1⟩ := th_ran R (nI 12)
    by_cases y : hd = nm
    · rcases h with rfl | rfl | rfl | rfl
      all_goals
        simp only [q01, q02, q03, q04, q05, q10, q12, q13, q14, q15, q20, q21, q23, q24, q25, q30, q31, q32, q34, q35, q40, q41, q42, q43, q45, q50, q51, q52, q53, q54, qz1, qz0, eq_self, reduceIte, zJe]
        rw [e1, e2, zbs, zbs, if_pos y, if_pos y, zbs]
        exact ⟨_, _, rfl, rfl, rfl, rfl, R1⟩
    · rcases h with rfl | rfl | rfl | rfl
      all_goals
        simp only [q01, q02, q03, q04, q05, q10, q12, q13, q14, q15, q20, q21, q23, q24, q25, q30, q31, q32, q34, q35, q40, q41, q42, q43, q45, q50, q51, q52, q53, q54, qz1, qz0, eq_self, reduceIte, zJe]
        rw [e1, e2, zbs, zbs, if_neg y, if_neg y, if_neg y, if_neg y, zbs]
        exact ⟨_, _, rfl, rfl, rfl, rfl, R1⟩
  · obtain ⟨u0, v0, d1, d2, R0⟩ := th_ran R (nI 50)
    obtain ⟨u, v, e1, e2, R1⟩ := th_ran R0 (nI 12)
    simp only [q01, q02, q03, q04, q05, q10, q12, q13, q14, q15, q20, q21, q23, q24, q25, q30, q31, q32, q34, q35, q40, q41, q42, q43, q45, q50, q51, q52, q53, q54, qz1, qz0, eq_self, reduceIte, zJe]
    rw [d1, d2, zbs, zbs, e1, e2, zbs, zbs]
    by_cases y : hd = nm
    · rw [if_pos y, if_pos y, zbs]
      exact ⟨_, _, rfl, rfl, by show nI 0 = nI 0 * nI 4; decide, rfl, R1⟩
    · rw [if_neg y, if_neg y, if_neg y, if_neg y, zbs]
      exact ⟨_, _, rfl, rfl, rfl, rfl, R1⟩
  · obtain ⟨u0, v0, d1, d2, R0⟩ := th_ran R (nI 61)
    obtain ⟨u, v, e1, e2, R1⟩ := th_ran R0 (nI 12)
    obtain ⟨r, s, f1, f2, f3, R2⟩ := a_sprays (k := 5) (nm := nm) (hd := hd) (by omega) R1 nm
    simp only [q01, q02, q03, q04, q05, q10, q12, q13, q14, q15, q20, q21, q23, q24, q25, q30, q31, q32, q34, q35, q40, q41, q42, q43, q45, q50, q51, q52, q53, q54, qz1, qz0, eq_self, reduceIte, zJe]
    rw [d1, d2, zbs, zbs, e1, e2, zbs, zbs]
    by_cases y : hd = nm
    · rw [if_pos y, if_pos y, zbs]
      dsimp only
      rw [if10]
      exact ⟨_, _, rfl, rfl, rfl, rfl, R1⟩
    · rw [if_neg y, if_neg y, if_neg y, if_neg y, zbs]
      dsimp only
      rw [if00, f1, f2, zbs, zbs]
      exact ⟨_, _, rfl, rfl, by show _ ^^^ r.1 = _ ^^^ s.1; rw [f3], rfl, R2⟩
theorem a_fades {k : Nat} {t bs nm hd br : Int32} {bo tc : Nat → Int32} (hk : k < 6) (hbr : br = nI 0) (R : ThR t bo bs tc) (x : Int32) : okS4 (fX1_fades t br (nI k) nm hd (frI k) (cvI k) bo x) (fX5_fadesIt (nI k) nm hd bs br tc x) := by
  unfold fX1_fades fX5_fadesIt fX5_plainFades
  have plain : (k = 0 ∨ k = 1 ∨ k = 3) ∨ (k = 2 ∨ k = 4) ∨ k = 5 := by omega
  rcases plain with h | h | rfl
  · obtain ⟨u, v, e1, e2, R1⟩ := th_ran R (nI 13)
    obtain ⟨r, s, f1, f2, f3, R2⟩ := a_drips (nm := nm) (hd := hd) hk R1 x
    rcases h with rfl | rfl | rfl
    · simp only [show cvI 0 = nI 0 from rfl, q01, q02, q03, q04, q05, q10, q12, q13, q14, q15, q20, q21, q23, q24, q25, q30, q31, q32, q34, q35, q40, q41, q42, q43, q45, q50, q51, q52, q53, q54, qz1, qz0, eq_self, reduceIte, zJe]
      rw [show cvI 0 = nI 0 from rfl] at f1
      rw [e1, e2, zbs, zbs, f1, f2, zbs, zbs, zbs]
      exact ⟨_, _, rfl, rfl, by show r.1 ^^^ _ = s.1 ^^^ _; rw [f3], rfl, R2⟩
    · simp only [show cvI 1 = nI 0 from rfl, q01, q02, q03, q04, q05, q10, q12, q13, q14, q15, q20, q21, q23, q24, q25, q30, q31, q32, q34, q35, q40, q41, q42, q43, q45, q50, q51, q52, q53, q54, qz1, qz0, eq_self, reduceIte, zJe]
      rw [show cvI 1 = nI 0 from rfl] at f1
      rw [e1, e2, zbs, zbs, f1, f2, zbs, zbs, zbs]
      exact ⟨_, _, rfl, rfl, by show r.1 ^^^ _ = s.1 ^^^ _; rw [f3], rfl, R2⟩
    · simp only [show cvI 3 = nI 0 from rfl, q01, q02, q03, q04, q05, q10, q12, q13, q14, q15, q20, q21, q23, q24, q25, q30, q31, q32, q34, q35, q40, q41, q42, q43, q45, q50, q51, q52, q53, q54, qz1, qz0, eq_self, reduceIte, zJe]
      rw [show cvI 3 = nI 0 from rfl] at f1
      rw [e1, e2, zbs, zbs, f1, f2, zbs, zbs, zbs]
      exact ⟨_, _, rfl, rfl, by show r.1 ^^^ _ = s.1 ^^^ _; rw [f3], rfl, R2⟩
  · obtain ⟨u0, v0, d1, d2, R0⟩ := th_ran R (nI 31)
    obtain ⟨u, v, e1, e2, R1⟩ := th_ran R0 (nI 13)
    obtain ⟨r, s, f1, f2, f3, R2⟩ := a_drips (nm := nm) (hd := hd) hk R1 x
    obtain ⟨r', s', g1, g2, g3, g4, R3⟩ := a_parts (nm := nm) (hd := hd) hk hbr R2 nm
    rcases h with rfl | rfl
    · simp only [show cvI 2 = nI 1 from rfl, q01, q02, q03, q04, q05, q10, q12, q13, q14, q15, q20, q21, q23, q24, q25, q30, q31, q32, q34, q35, q40, q41, q42, q43, q45, q50, q51, q52, q53, q54, qz1, qz0, eq_self, reduceIte, zJe]
      rw [show cvI 2 = nI 1 from rfl] at f1 g1
      rw [d1, d2, zbs, zbs, e1, e2, zbs, zbs, f1, f2, zbs, zbs, zbs]
      dsimp only
      rw [g1, g2, zbs, zbs]
      exact ⟨_, _, rfl, rfl, by show (r.1 ^^^ _) - r'.1 = (s.1 ^^^ _) - s'.1; rw [f3, g3], g4, R3⟩
    · simp only [show cvI 4 = nI 1 from rfl, q01, q02, q03, q04, q05, q10, q12, q13, q14, q15, q20, q21, q23, q24, q25, q30, q31, q32, q34, q35, q40, q41, q42, q43, q45, q50, q51, q52, q53, q54, qz1, qz0, eq_self, reduceIte, zJe]
      rw [show cvI 4 = nI 1 from rfl] at f1 g1
      rw [d1, d2, zbs, zbs, e1, e2, zbs, zbs, f1, f2, zbs, zbs, zbs]
      dsimp only
      rw [g1, g2, zbs, zbs]
      exact ⟨_, _, rfl, rfl, by show (r.1 ^^^ _) - r'.1 = (s.1 ^^^ _) - s'.1; rw [f3, g3], g4, R3⟩
  · obtain ⟨u0, v0, d1, d2, R0⟩ := th_ran R (nI 60)
    obtain ⟨u, v, e1, e2, R1⟩ := th_ran R0 (nI 13)
    obtain ⟨r, s, f1, f2, f3, R2⟩ := a_drips (k := 5) (nm := nm) (hd := hd) (by omega) R1 x
    simp only [show cvI 5 = nI 0 from rfl, q01, q02, q03, q04, q05, q10, q12, q13, q14, q15, q20, q21, q23, q24, q25, q30, q31, q32, q34, q35, q40, q41, q42, q43, q45, q50, q51, q52, q53, q54, qz1, qz0, eq_self, reduceIte, zJe]
    rw [show cvI 5 = nI 0 from rfl] at f1
    rw [d1, d2, zbs, zbs, e1, e2, zbs, zbs, f1, f2, zbs, zbs, zbs]
    exact ⟨_, _, rfl, rfl, by show _ - (r.1 ^^^ _) = _ - (s.1 ^^^ _); rw [f3], rfl, R2⟩
set_option maxRecDepth 100000 in
theorem under_at : ∀ k, k < 6 → fX4_isUnder (nI k) (nI 1) = some (frI k) ∧ fX4_isUnder (nI k) (nI 2) = some (cvI k) ∧ frI k &&& 1 = frI k ∧ cvI k &&& 1 = cvI k := by decide +kernel
theorem p_act {b : Nat} {c ni gl dr : Int32} {la gr se ki ha si on aw : Nat → Int32} {row : Nat → Int32} {its : List zIt} {A B D E F : Nat → Int32} {C : Nat → Option Nat} {ht hb hk hn hh hf hcv pk pn ph pb pp : Int32} {bo tc : Nat → Int32} (Gn : GN b c ni gl dr la gr se ki ha si on aw row) (V : SvR its A B C D E F) (x1 x2 x3 : Int32) : ∃ r s, fX4_act c ki ha A B ht hb hk hn hh hf hcv bo x1 x2 x3 = some r ∧ fX5_act pk pn ph pb pp row D E tc x1 x2 x3 = some s ∧ r.1 = s.1 ∧ ThR r.2.1 r.2.2.2.2.2.2.2.2 s.2.2.2.2.1 s.2.2.2.2.2.2 := by
  obtain ⟨S, T, rfl⟩ := Gn
  have h6 := inv_6 T.1
  have R0 : ThR (nI 0) bo (nI 0) tc := ⟨0, by omega, rfl, rfl, fun k hk => by omega⟩
  unfold fX4_act fX5_act
  rcases s_isShelf x1 with ⟨e1, e2⟩ | ⟨s, hs, rfl, e1, e2⟩
  · rw [e1, e2, zbs, zbs, if00, zJe, if00]
    dsimp only
    rw [show fX5_in (-1) (nI 0) (nI 5) = some (nI 0) by decide, zbs, if00]
    rcases bel x2 (n := 4) (by omega) (by omega) with ⟨f1, f2⟩ | ⟨m, hm, rfl, f1, f2⟩
    · rw [show fX5_in x2 (nI 0) (nI 3) = _ from f2, zbs, if00]; exact ⟨_, _, rfl, rfl, rfl, R0⟩
    · rw [show fX5_in (nI m) (nI 0) (nI 3) = _ from f2, zbs, if10]; exact ⟨_, _, rfl, rfl, rfl, R0⟩
  · rw [e1, e2, zbs, zbs, if10, zJe, if10]
    simp only [zg hs (show 4 < 2 ^ 31 by omega), zgc hs (show s < 2 ^ 31 by omega), nI_clamp (show s < 2 ^ 31 by omega)]
    rcases on_cases (A := A) (B := B) (C := C) (D := D) (E := E) (F := F) T dr hs (V s hs) with ⟨g1, g2⟩ | ⟨p, hp, b1, b2, g1, g2⟩
    · have g3 : ∃ w, fX5_kindOn (rowOf S dr) D E (nI s) = some w ∧ fX5_in w (nI 0) (nI 5) = some (nI 0) := by
        rcases g2 with ⟨_, g2⟩ | ⟨_, g2, _⟩
        · exact ⟨_, g2, by decide⟩
        · exact ⟨_, g2, by decide⟩
      obtain ⟨w, g3, g4⟩ := g3
      rw [g1, g3, zbs, zbs, if00, g4, zbs, if00]
      rcases bel x2 (n := 4) (by omega) (by omega) with ⟨f1, f2⟩ | ⟨m, hm, rfl, f1, f2⟩
      · rw [f1, show fX5_in x2 (nI 0) (nI 3) = _ from f2, zbs, zbs, if00, if00]; exact ⟨_, _, rfl, rfl, rfl, R0⟩
      · rw [f1, show fX5_in (nI m) (nI 0) (nI 3) = _ from f2, zbs, zbs, if10, if10]; exact ⟨_, _, rfl, rfl, rfl, R0⟩
    · have k1 := (inv_p T.1 (show p < 8 by omega)).1
      obtain ⟨w1, w2, w3, w4⟩ := under_at (S (28 + 5 * p)) (by omega)
      have inK : fX5_in (nI (S (28 + 5 * p))) (nI 0) (nI 5) = some (nI 1) := by
        unfold fX5_in
        rw [if_neg (show ¬ nI (S (28 + 5 * p)) < nI 0 from nI_pos (by omega)), ilt_f (by omega) (by omega)]
      rw [g1, g2, zbs, zbs, if10]
      rcases bel x2 (n := 4) (by omega) (by omega) with ⟨f1, f2⟩ | ⟨m, hm, rfl, f1, f2⟩
      · rw [f1, show fX5_in x2 (nI 0) (nI 3) = _ from f2, zbs, zbs, if00, if00]; exact ⟨_, _, rfl, rfl, rfl, R0⟩
      · rw [f1, show fX5_in (nI m) (nI 0) (nI 3) = _ from f2, zbs, zbs, if10, if10, inK, zbs, if10, b1, b2]
        simp only [zg (show p < 8 by omega) (show 8 < 2 ^ 31 by omega), zgc (show p < 8 by omega) (show p < 2 ^ 31 by omega), nI_clamp (show p < 2 ^ 31 by omega), tr_ki T hp, tr_ha T hp, s_its1 (show p < 8 by omega), zbs]
        unfold fX1_become
        rw [w1, zbs, if_pos w3, w2, zbs, if_pos w4, zbs]
        dsimp only
        have : m = 0 ∨ m = 1 ∨ m = 2 ∨ m = 3 := by omega
        rcases this with rfl | rfl | rfl | rfl
        · obtain ⟨r, q, a1, a2, a3, R⟩ := a_sprays (k := S (28 + 5 * p)) (nm := nI p) (hd := nI (S (29 + 5 * p))) (by omega) R0 x3
          rw [if_pos rfl, if_pos (show nI 0 = 0 by decide), a1, a2, zbs, zbs, if00, if00]
          exact ⟨_, _, rfl, rfl, a3, R⟩
        · obtain ⟨r, q, a1, a2, a3, R⟩ := a_drips (k := S (28 + 5 * p)) (nm := nI p) (hd := nI (S (29 + 5 * p))) (by omega) R0 x3
          rw [if_neg (show ¬ nI 1 = nI 0 by decide), if_pos rfl, if_neg (show ¬ nI 1 = 0 by decide), if_pos rfl, a1, a2, zbs, zbs, if00, if00]
          exact ⟨_, _, rfl, rfl, a3, R⟩
        · obtain ⟨r, q, a1, a2, a3, a4, R⟩ := a_parts (k := S (28 + 5 * p)) (nm := nI p) (hd := nI (S (29 + 5 * p))) (by omega) rfl R0 x3
          rw [if_neg (show ¬ nI 2 = nI 0 by decide), if_neg (show ¬ nI 2 = nI 1 by decide), if_pos rfl, if_neg (show ¬ nI 2 = 0 by decide), if_neg (show ¬ nI 2 = nI 1 by decide), if_pos rfl, a1, a2, zbs, zbs, a4]
          by_cases y : q.2.2.1 = 0
          · rw [if_pos y, if_pos y]; exact ⟨_, _, rfl, rfl, a3, R⟩
          · rw [if_neg y, if_neg y]; exact ⟨_, _, rfl, rfl, rfl, R⟩
        · obtain ⟨r, q, a1, a2, a3, a4, R⟩ := a_fades (k := S (28 + 5 * p)) (nm := nI p) (hd := nI (S (29 + 5 * p))) (by omega) rfl R0 x3
          rw [if_neg (show ¬ nI 3 = nI 0 by decide), if_neg (show ¬ nI 3 = nI 1 by decide), if_neg (show ¬ nI 3 = nI 2 by decide), if_neg (show ¬ nI 3 = 0 by decide), if_neg (show ¬ nI 3 = nI 1 by decide), if_neg (show ¬ nI 3 = nI 2 by decide), a1, a2, zbs, zbs, a4]
          by_cases y : q.2.2.1 = 0
          · rw [if_pos y, if_pos y]; exact ⟨_, _, rfl, rfl, a3, R⟩
          · rw [if_neg y, if_neg y]; exact ⟨_, _, rfl, rfl, rfl, R⟩
