/-! clauses, the whole text -/
theorem tr_add {b : Nat} {S : Nat → Nat} {c ni gl : Int32} {la gr se ki ha si on aw : Nat → Int32} {k h s w : Nat} (T : TR b S c ni gl la gr se ki ha si on aw) (h6 : S 6 < 8) (hk : k ≤ 5) (hh : h ≤ 9) (hs : s ≤ 99) (hw : w ≤ 10) : TR b (updN (updN (updN (updN (updN (updN S (28 + 5 * S 6) k) (29 + 5 * S 6) h) (30 + 5 * S 6) s) (31 + 5 * S 6) w) (32 + 5 * S 6) 0) 6 (S 6 + 1)) (nI (S 6 + 1)) ni gl la gr se (upd ki (S 6) (nI k)) (upd ha (S 6) (nI h)) (upd si (S 6) (nI s)) (upd on (S 6) (nI w)) (upd aw (S 6) (nI 0)) := by
  have T2 := tr_uaw (p := S 6) (v := 0) (tr_uon (p := S 6) (v := w) (tr_usi (p := S 6) (v := s) (tr_uha (p := S 6) (v := h) (tr_uki (p := S 6) (v := k) T (by omega) (by omega)) (by omega) (by omega)) (by omega) (by omega)) (by omega) (by omega)) (by omega) (by omega)
  refine ⟨inv_upd T2.1 (by show S 6 + 1 ≤ 8; omega), ?_, ?_, ?_, fun j hj => ?_, fun u hu => ⟨?_, ?_⟩, fun q hq => ?_⟩
  · rw [updN_s]
  · rw [updN_n (by omega)]; exact tr_ni T2
  · rw [updN_n (by omega)]; exact tr_gl T2
  · rw [updN_n (by omega)]; exact tr_la T2 hj
  · rw [updN_n (by omega)]; exact tr_gr T2 hu
  · rw [updN_n (by omega)]; exact tr_se T2 hu
  · rw [updN_s] at hq
    by_cases e : q = S 6
    · subst e
      refine ⟨?_, ?_, ?_, ?_, ?_⟩
      · rw [pk_us, updN_n (by omega), updN_n (by omega), updN_n (by omega), updN_n (by omega), updN_n (by omega), updN_s]
      · rw [pk_us, updN_n (by omega), updN_n (by omega), updN_n (by omega), updN_n (by omega), updN_s]
      · rw [pk_us, updN_n (by omega), updN_n (by omega), updN_n (by omega), updN_s]
      · rw [pk_us, updN_n (by omega), updN_n (by omega), updN_s]
      · rw [pk_us, updN_n (by omega), updN_s]
    · have q2 := T2.2.2.2.2.2.2 q (by rw [updN_n (by omega), updN_n (by omega), updN_n (by omega), updN_n (by omega), updN_n (by omega)]; omega)
      rw [updN_n (show 28 + 5 * q ≠ 6 by omega), updN_n (show 29 + 5 * q ≠ 6 by omega), updN_n (show 30 + 5 * q ≠ 6 by omega), updN_n (show 31 + 5 * q ≠ 6 by omega), updN_n (show 32 + 5 * q ≠ 6 by omega)]
      exact q2
section TOK3
variable {m : Nat} {v : Nat → Nat} {tape rt : Nat → Int32}
/-- a name told: both fail at the same place, or both add it -/
theorem j_name {b : Nat} {S : Nat → Nat} {c ni gl : Int32} {la gr se ki ha si on aw : Nat → Int32} (B : BytesR m v tape rt) {f k : Nat} (T : TR b S c ni gl la gr se ki ha si on aw) (hf : f ≤ m) (hk : k < 6) (hl : clN m v f = 1) : ∃ f', f ≤ f' ∧ f' ≤ m ∧ ((∃ (S' : Nat → Nat) (ka hb sc od ae : Nat → Int32), f < f' ∧ TR b S' (nI (S' 6)) ni gl la gr se ka hb sc od ae ∧ fX3_readName (nI m) (nI (f)) (nI (eT m v (f))) (nI (clN m v (f))) tape c ki ha si on aw (nI k) = some (nI 1, nI (f'), nI (eT m v (f')), nI (clN m v (f')), nI (S' 6), ka, hb, sc, od, ae) ∧ fX5_wantOne (nI m) (nI (clN m v (f))) (nI (f)) (nI (eT m v (f))) (wT m v (f)) (vT m v (f)) (nI 1) (rowOf S (nI 0)) rt (nI k) = some (nI (clN m v (f')), nI (f'), nI (eT m v (f')), wT m v (f'), vT m v (f'), nI 1, rowOf S' (nI 0))) ∨ ((∃ ar, fX3_readName (nI m) (nI (f)) (nI (eT m v (f))) (nI (clN m v (f))) tape c ki ha si on aw (nI k) = some (nI 0, nI (f'), nI (eT m v (f')), nI (clN m v (f')), ar)) ∧ fX5_wantOne (nI m) (nI (clN m v (f))) (nI (f)) (nI (eT m v (f))) (wT m v (f)) (vT m v (f)) (nI 1) (rowOf S (nI 0)) rt (nI k) = some (nI (clN m v (f')), nI (f'), nI (eT m v (f')), wT m v (f'), vT m v (f'), nI 0, rowOf S (nI 0)))) := by
  have h6 := inv_6 T.1
  have hc := tr_c T
  have he := eT_le (v := v) hf
  have hn := next_le (v := v) hf
  have hg := next_gt (m := m) (v := v) (f := f) (by omega)
  unfold fX3_readName fX5_wantOne
  simp only [zJf, z_num, z_end, z_may, zbf, if00, if10, r6]
  rw [show (1 : Int32) = nI 1 from rfl]
  simp only [show (nI 0 &&& nI 1 = nI 0) = True from eq_true (by decide), show (nI 1 &&& nI 1 = nI 1) = True from eq_true (by decide), reduceIte]
  by_cases x : S 6 < 8
  · rw [if_pos (show c < nI 8 by rw [hc]; exact nI_lt x (by omega)), ilt_t x (by omega), c_step B he.2, zbs, s_advance B he.2, zbs]
    dsimp only
    rw [show skipT m v (eT m v f) = nextT m v f from rfl, c_takeWord B hn.2 (by omega)]
    have w1 := s_isWord B hn.2 (show 1 < 18 by omega)
    rw [show wnum.getD 1 0 = 419 from rfl] at w1
    rw [w1, zbs]
    by_cases y : isW m v (nextT m v f) 1 = true
    · have he1 := eT_le (v := v) hn.2
      have hn1 := next_le (v := v) hn.2
      rw [if_pos y, if_pos y, zbs]
      dsimp only
      rw [if10, if_pos (show nI 1 &&& nI 1 = nI 1 by decide), if10, s_advance B he1.2, zbs]
      dsimp only
      rw [show skipT m v (eT m v (nextT m v f)) = nextT m v (nextT m v f) from rfl]
      generalize nextT m v (nextT m v f) = f2 at hn1
      rcases j_num B (f := f2) (mx := 9) hn1.2 (by omega) with ⟨w, a1, a2, a3, a4⟩ | ⟨a3, z, a4⟩
      · have hn2 := next_le (v := v) hn1.2
        rw [a3, a4, zbs, zbs]
        dsimp only
        rw [if_neg (show ¬ nI w < 0 from nI_pos (by omega))]
        generalize nextT m v f2 = f3 at a2 hn2 a3 a4
        obtain ⟨f4, b0, b1, ⟨h, b2, b3, b4⟩ | ⟨b3, z, b4⟩⟩ := j_opt B (f := f3) (w := 2) (mx := 9) (d := 0) hn2.2 (by omega) (by omega) (by omega)
        · rw [show wnum.getD 2 0 = 158575 from rfl] at b4
          rw [b3, b4, zbs, zbs]
          dsimp only
          rw [if_neg (show ¬ nI h < 0 from nI_pos (by omega))]
          obtain ⟨f5, d0, d1, ⟨s, d2, d3, d4⟩ | ⟨d3, z, d4⟩⟩ := j_opt B (f := f4) (w := 3) (mx := 99) (d := 5) b1 (by omega) (by omega) (by omega)
          · rw [show wnum.getD 3 0 = 381245 from rfl] at d4
            rw [d3, d4, zbs, zbs]
            dsimp only
            rw [if_neg (show ¬ nI s < 0 from nI_pos (by omega))]
            rcases j_end B (f := f5) d1 with ⟨g1, g2, g3⟩ | ⟨g2, g3⟩
            · have hn5 := next_le (v := v) d1
              refine ⟨nextT m v f5, by omega, hn5.2, Or.inl ?_⟩
              rw [g2, g3, zbs, zbs]
              dsimp only
              rw [if10, if10]
              unfold fX2_addName
              subst hc
              rw [ilt_t x (by omega), zg (show S 6 < 8 by omega) (by omega), zg (show S 6 < 8 by omega) (by omega), zg (show S 6 < 8 by omega) (by omega), zg (show S 6 < 8 by omega) (by omega), zg (show S 6 < 8 by omega) (by omega), nI_clamp (show S 6 < 2 ^ 31 by omega), zbs]
              dsimp only
              rw [if10]
              simp only [nI_mul, nI_add]
              rw [zg (show 28 + 5 * S 6 < 68 by omega) (by omega), zg (show 28 + 5 * S 6 + 1 < 68 by omega) (by omega), zg (show 28 + 5 * S 6 + 2 < 68 by omega) (by omega), zg (show 28 + 5 * S 6 + 3 < 68 by omega) (by omega), zg (show 28 + 5 * S 6 + 4 < 68 by omega) (by omega), nI_clamp (show 28 + 5 * S 6 < 2 ^ 31 by omega), nI_clamp (show 28 + 5 * S 6 + 1 < 2 ^ 31 by omega), nI_clamp (show 28 + 5 * S 6 + 2 < 2 ^ 31 by omega), nI_clamp (show 28 + 5 * S 6 + 3 < 2 ^ 31 by omega), nI_clamp (show 28 + 5 * S 6 + 4 < 2 ^ 31 by omega)]
              rw [show 28 + 5 * S 6 + 1 = 29 + 5 * S 6 by omega, show 28 + 5 * S 6 + 2 = 30 + 5 * S 6 by omega, show 28 + 5 * S 6 + 3 = 31 + 5 * S 6 by omega, show 28 + 5 * S 6 + 4 = 32 + 5 * S 6 by omega, rowOf_upd (show 28 + 5 * S 6 ≠ 7 by omega), rowOf_upd (show 29 + 5 * S 6 ≠ 7 by omega), rowOf_upd (show 30 + 5 * S 6 ≠ 7 by omega), rowOf_upd (show 31 + 5 * S 6 ≠ 7 by omega), rowOf_upd (show 32 + 5 * S 6 ≠ 7 by omega), r6, updN_n (show 6 ≠ 32 + 5 * S 6 by omega), updN_n (show 6 ≠ 31 + 5 * S 6 by omega), updN_n (show 6 ≠ 30 + 5 * S 6 by omega), updN_n (show 6 ≠ 29 + 5 * S 6 by omega), updN_n (show 6 ≠ 28 + 5 * S 6 by omega), nI_add, rowOf_upd (show 6 ≠ 7 by omega)]
              have T2 := tr_add (k := k) (h := h) (s := s) (w := w) T x (by omega) (by omega) (by omega) (by omega)
              refine ⟨updN (updN (updN (updN (updN (updN S (28 + 5 * S 6) k) (29 + 5 * S 6) h) (30 + 5 * S 6) s) (31 + 5 * S 6) w) (32 + 5 * S 6) 0) 6 (S 6 + 1), upd ki (S 6) (nI k), upd ha (S 6) (nI h), upd si (S 6) (nI s), upd on (S 6) (nI w), upd aw (S 6) (nI 0), by omega, ?_, ?_, rfl⟩
              · rw [updN_s]; exact T2
              · rw [updN_s]
            · refine ⟨f5, by omega, d1, Or.inr ⟨?_, ?_⟩⟩
              · rw [g2, zbs]
                dsimp only
                rw [if00]
                exact ⟨_, rfl⟩
              · rw [g3, zbs]
                dsimp only
                rw [if00]
          · rw [show wnum.getD 3 0 = 381245 from rfl] at d4
            refine ⟨f5, by omega, d1, Or.inr ⟨?_, ?_⟩⟩
            · rw [d3, zbs]
              dsimp only
              rw [if_pos m1_neg]
              exact ⟨_, rfl⟩
            · rw [d4, zbs]
              dsimp only
              rw [z_end, zbs]
              dsimp only
              rw [if00]
        · rw [show wnum.getD 2 0 = 158575 from rfl] at b4
          refine ⟨f4, by omega, b1, Or.inr ⟨?_, ?_⟩⟩
          · rw [b3, zbs]
            dsimp only
            rw [if_pos m1_neg]
            exact ⟨_, rfl⟩
          · rw [b4, zbs]
            dsimp only
            rw [z_may, zbs]
            dsimp only
            rw [z_end, zbs]
            dsimp only
            rw [if00]
      · refine ⟨f2, by omega, hn1.2, Or.inr ⟨?_, ?_⟩⟩
        · rw [a3, zbs]
          dsimp only
          rw [if_pos m1_neg]
          exact ⟨_, rfl⟩
        · rw [a4, zbs]
          dsimp only
          rw [z_may, zbs]
          dsimp only
          rw [z_may, zbs]
          dsimp only
          rw [z_end, zbs]
          dsimp only
          rw [if00]
    · refine ⟨nextT m v f, hn.1, hn.2, Or.inr ⟨?_, ?_⟩⟩
      · rw [if_neg y, zbs]
        dsimp only
        rw [if00]
        exact ⟨_, rfl⟩
      · rw [if_neg y, if_pos (show nI 0 &&& nI 1 = nI 0 by decide), if00, z_num, zbs]
        dsimp only
        rw [z_may, zbs]
        dsimp only
        rw [z_may, zbs]
        dsimp only
        rw [z_end, zbs]
        dsimp only
        rw [if00]
  · refine ⟨f, Nat.le_refl f, hf, Or.inr ⟨?_, ?_⟩⟩
    · rw [if_neg (show ¬ c < nI 8 by rw [hc]; exact nI_nlt (by omega) (by omega))]
      exact ⟨_, rfl⟩
    · rw [ilt_f (by omega) (by omega)]
end TOK3
