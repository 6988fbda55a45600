/-! laws and walls told; the whole text -/
section TOK4
variable {m : Nat} {v : Nat → Nat} {tape rt : Nat → Int32}
theorem t0_upd {f : Nat → Int32} {k : Nat} {x : Int32} (h : T0 f) (hk : k < 68) : T0 (upd f k x) := fun j hj => by
  rw [pk_un (by omega)]; exact h j hj
theorem j_wall {b : Nat} {S : Nat → Nat} {c ni gl : Int32} {la gr se ki ha si on aw : Nat → Int32} (B : BytesR m v tape rt) {f : Nat} (T : TR b S c ni gl la gr se ki ha si on aw) (hf : f ≤ m) (hl : clN m v f = 1) : ∃ f', f ≤ f' ∧ f' ≤ m ∧ ((∃ (S' : Nat → Nat) (ga sa : Nat → Int32), f < f' ∧ TR b S' c ni gl la ga sa ki ha si on aw ∧ fX3_readWall (nI m) (nI (f)) (nI (eT m v (f))) (nI (clN m v (f))) tape gr se = some (nI 1, nI (f'), nI (eT m v (f')), nI (clN m v (f')), ga, sa) ∧ fX5_wantWall (nI m) (nI (clN m v (f))) (nI (f)) (nI (eT m v (f))) (wT m v (f)) (vT m v (f)) (nI 1) (rowOf S (nI 0)) rt = some (nI (clN m v (f')), nI (f'), nI (eT m v (f')), wT m v (f'), vT m v (f'), nI 1, rowOf S' (nI 0))) ∨ ((∃ ar, fX3_readWall (nI m) (nI (f)) (nI (eT m v (f))) (nI (clN m v (f))) tape gr se = some (nI 0, nI (f'), nI (eT m v (f')), nI (clN m v (f')), ar)) ∧ fX5_wantWall (nI m) (nI (clN m v (f))) (nI (f)) (nI (eT m v (f))) (wT m v (f)) (vT m v (f)) (nI 1) (rowOf S (nI 0)) rt = some (nI (clN m v (f')), nI (f'), nI (eT m v (f')), wT m v (f'), vT m v (f'), nI 0, rowOf S (nI 0)))) := by
  have he := eT_le (v := v) hf
  have hn := next_le (v := v) hf
  have hg := next_gt (m := m) (v := v) (f := f) (by omega)
  unfold fX3_readWall fX5_wantWall
  rw [c_step B he.2, zbs, s_advance B he.2, zbs]
  dsimp only
  rw [show skipT m v (eT m v f) = nextT m v f from rfl]
  generalize nextT m v f = f1 at hn hg
  rcases j_num B (f := f1) (mx := 9) hn.2 (by omega) with ⟨w, a1, a2, a3, a4⟩ | ⟨a3, z, a4⟩
  · have hn2 := next_le (v := v) hn.2
    rw [a3, a4, zbs, zbs]
    dsimp only
    rw [if_neg (show ¬ nI w < 0 from nI_pos (by omega)), if10]
    generalize nextT m v f1 = f2 at a2 hn2 a3 a4
    rw [c_ground B hn2.2, s_groundH B hn2.2, zbs, zbs, zJf]
    rcases groundT_cases (m := m) (v := v) f2 with g | ⟨g0, k, hk, g⟩
    · refine ⟨f2, by omega, hn2.2, Or.inr ⟨?_, ?_⟩⟩
      · rw [g, if_pos m1_neg]
        exact ⟨_, rfl⟩
      · rw [g, if_pos m1_neg]
        dsimp only
        rw [if_pos (show nI 0 &&& 1 = nI 0 by decide), if00]
    · have he2 := eT_le (v := v) hn2.2
      have hn3 := next_le (v := v) hn2.2
      have hg3 := next_gt (m := m) (v := v) (f := f2) (by omega)
      have hse := (inv_w T.1 (show w < 10 by omega)).2
      rw [g, if_neg (show ¬ nI k < 0 from nI_pos (by omega)), if_neg (show ¬ nI k < 0 from nI_pos (by omega))]
      dsimp only
      rw [if_pos (show nI 1 &&& 1 = nI 1 by decide), if10, c_step B he2.2, zbs, s_advance B he2.2, zbs]
      dsimp only
      rw [show skipT m v (eT m v f2) = nextT m v f2 from rfl, zg (show w < 10 by omega) (by omega), nI_clamp (show w < 2 ^ 31 by omega), nI_mul, nI_add, nI_add, zg (show 8 + 2 * w + 1 < 68 by omega) (by omega), nI_clamp (show 8 + 2 * w + 1 < 2 ^ 31 by omega), tr_se T (by omega), show 8 + 2 * w + 1 = 9 + 2 * w by omega, rowOf_at (show 9 + 2 * w ≠ 7 by omega)]
      generalize nextT m v f2 = f3 at hn3 hg3
      obtain ⟨f4, b0, b1, ⟨s, b2, b3, b4⟩ | ⟨b3, z, b4⟩⟩ := j_opt B (f := f3) (w := 4) (mx := 9) (d := S (9 + 2 * w)) hn3.2 (by omega) (by omega) hse
      · rw [show wnum.getD 4 0 = 377771 from rfl] at b4
        rw [b3, b4, zbs, zbs]
        dsimp only
        rw [if_neg (show ¬ nI s < 0 from nI_pos (by omega))]
        rcases j_end B (f := f4) b1 with ⟨g1, g2, g3⟩ | ⟨g2, g3⟩
        · have hn5 := next_le (v := v) b1
          refine ⟨nextT m v f4, by omega, hn5.2, Or.inl ?_⟩
          rw [g2, g3, zbs, zbs]
          dsimp only
          rw [if10, if10, zgc (show w < 10 by omega) (by omega), zgc (show w < 10 by omega) (by omega), zg (show 8 + 2 * w < 68 by omega) (by omega), zgc (show 9 + 2 * w < 68 by omega) (by omega), nI_clamp (show 8 + 2 * w < 2 ^ 31 by omega), rowOf_upd (show 8 + 2 * w ≠ 7 by omega), rowOf_upd (show 9 + 2 * w ≠ 7 by omega)]
          exact ⟨_, _, _, by omega, tr_use (tr_ugr T (show w < 10 by omega) (show k ≤ 2 by omega)) (show w < 10 by omega) b2, rfl, rfl⟩
        · refine ⟨f4, by omega, b1, Or.inr ⟨?_, ?_⟩⟩
          · rw [g2, zbs]
            dsimp only
            rw [if00]
            exact ⟨_, rfl⟩
          · rw [g3, zbs]
            dsimp only
            rw [if00]
      · rw [show wnum.getD 4 0 = 377771 from rfl] at b4
        refine ⟨f4, by omega, b1, Or.inr ⟨?_, ?_⟩⟩
        · rw [b3, zbs]
          dsimp only
          rw [if_pos m1_neg]
          exact ⟨_, rfl⟩
        · rw [b4, zbs]
          dsimp only
          rw [z_end, zbs]
          dsimp only
          rw [if00]
  · refine ⟨f1, hn.1, hn.2, Or.inr ⟨?_, ?_⟩⟩
    · rw [a3, zbs]
      dsimp only
      rw [if_pos m1_neg]
      exact ⟨_, rfl⟩
    · rw [a4, zbs]
      dsimp only
      rw [if00]
theorem most_at {b : Nat} : ∀ j, j < 4 → ∃ mx, mx < 1000 ∧ zf_most j = nI mx ∧ fX5_mostOf (nI j) = some (nI mx) ∧ mx ≤ bnd b j := by
  intro j hj
  have : j = 0 ∨ j = 1 ∨ j = 2 ∨ j = 3 := by omega
  rcases this with rfl | rfl | rfl | rfl
  · exact ⟨9, by omega, rfl, rfl, by show 9 ≤ 9; omega⟩
  · exact ⟨9, by omega, rfl, rfl, by show 9 ≤ 9; omega⟩
  · exact ⟨99, by omega, rfl, rfl, by show 99 ≤ 99; omega⟩
  · exact ⟨99, by omega, rfl, rfl, by show 99 ≤ 99; omega⟩
/-- one clause: the class's three readers against the reference's wantClause -/
def clauseC (m : Nat) (v : Nat → Nat) (tape : Nat → Int32) (f : Nat) (c : Int32) (la gr se ki ha si on aw : Nat → Int32) (f' : Nat) (ok : Int32) (c' : Int32) (la' gr' se' ki' ha' si' on' aw' : Nat → Int32) : Prop := (kindT m v f ≠ -1 ∧ la' = la ∧ gr' = gr ∧ se' = se ∧ fX3_readName (nI m) (nI (f)) (nI (eT m v (f))) (nI (clN m v (f))) tape c ki ha si on aw (kindT m v f) = some (ok, nI (f'), nI (eT m v (f')), nI (clN m v (f')), c', ki', ha', si', on', aw')) ∨ (kindT m v f = -1 ∧ lawT m v f ≠ -1 ∧ c' = c ∧ gr' = gr ∧ se' = se ∧ ki' = ki ∧ ha' = ha ∧ si' = si ∧ on' = on ∧ aw' = aw ∧ fX3_readLaw (nI m) (nI (f)) (nI (eT m v (f))) (nI (clN m v (f))) tape la (lawT m v f) = some (ok, nI (f'), nI (eT m v (f')), nI (clN m v (f')), la')) ∨ (kindT m v f = -1 ∧ lawT m v f = -1 ∧ isW m v f 0 = true ∧ c' = c ∧ la' = la ∧ ki' = ki ∧ ha' = ha ∧ si' = si ∧ on' = on ∧ aw' = aw ∧ fX3_readWall (nI m) (nI (f)) (nI (eT m v (f))) (nI (clN m v (f))) tape gr se = some (ok, nI (f'), nI (eT m v (f')), nI (clN m v (f')), gr', se')) ∨ (kindT m v f = -1 ∧ lawT m v f = -1 ∧ isW m v f 0 = false ∧ ok = nI 0 ∧ f' = f)
theorem j_clause {b : Nat} {S : Nat → Nat} {c ni gl : Int32} {la gr se ki ha si on aw : Nat → Int32} (B : BytesR m v tape rt) {f : Nat} (T : TR b S c ni gl la gr se ki ha si on aw) (hf : f ≤ m) : ∃ f' ok c' la' gr' se' ki' ha' si' on' aw', f ≤ f' ∧ f' ≤ m ∧ clauseC m v tape f c la gr se ki ha si on aw f' ok c' la' gr' se' ki' ha' si' on' aw' ∧ ((ok = nI 1 ∧ f < f' ∧ ∃ S', TR b S' c' ni gl la' gr' se' ki' ha' si' on' aw' ∧ fX5_wantClause (nI m) (nI (clN m v (f))) (nI (f)) (nI (eT m v (f))) (wT m v (f)) (vT m v (f)) (nI 1) (rowOf S (nI 0)) rt = some (nI (clN m v (f')), nI (f'), nI (eT m v (f')), wT m v (f'), vT m v (f'), nI 1, rowOf S' (nI 0))) ∨ (ok = nI 0 ∧ ∃ R, T0 R ∧ fX5_wantClause (nI m) (nI (clN m v (f))) (nI (f)) (nI (eT m v (f))) (wT m v (f)) (vT m v (f)) (nI 1) (rowOf S (nI 0)) rt = some (nI (clN m v (f')), nI (f'), nI (eT m v (f')), wT m v (f'), vT m v (f'), nI 0, R))) := by
  have ht := t0_row (z := nI 0) T.1
  unfold fX5_wantClause
  rw [s_law B hf, zbs, s_kind B hf, zbs]
  rcases kindT_cases (m := m) (v := v) f with g | ⟨g0, k, hk, g⟩
  · rw [g, if_pos m1_neg]
    rcases lawT_cases (m := m) (v := v) f with l | ⟨l0, j, hj, l⟩
    · rw [l, if_pos m1_neg]
      have w0 := s_isWord B hf (show 0 < 18 by omega)
      rw [show wnum.getD 0 0 = 453774 from rfl] at w0
      rw [w0, zbs, ib]
      by_cases y : isW m v f 0 = true
      · rw [if_pos y]
        obtain ⟨f', h1, h2, ⟨S', ga, sa, a1, a2, a3, a4⟩ | ⟨⟨ar, a3⟩, a4⟩⟩ := j_wall B T hf (isW_word y)
        · refine ⟨f', nI 1, c, la, ga, sa, ki, ha, si, on, aw, h1, h2, Or.inr (Or.inr (Or.inl ⟨g, l, y, rfl, rfl, rfl, rfl, rfl, rfl, rfl, a3⟩)), Or.inl ⟨rfl, a1, S', a2, ?_⟩⟩
          rw [a4, zbs]
        · refine ⟨f', nI 0, c, la, ar.1, ar.2, ki, ha, si, on, aw, h1, h2, Or.inr (Or.inr (Or.inl ⟨g, l, y, rfl, rfl, rfl, rfl, rfl, rfl, rfl, a3⟩)), Or.inr ⟨rfl, _, ht, ?_⟩⟩
          rw [a4, zbs]
      · refine ⟨f, nI 0, c, la, gr, se, ki, ha, si, on, aw, Nat.le_refl f, hf, Or.inr (Or.inr (Or.inr ⟨g, l, Bool.eq_false_iff.mpr y, rfl, rfl⟩)), Or.inr ⟨rfl, _, ht, ?_⟩⟩
        rw [if_neg y]
    · have he := eT_le (v := v) hf
      have hn := next_le (v := v) hf
      have hg := next_gt (m := m) (v := v) (f := f) (by omega)
      obtain ⟨mx, hmx, m1, m2, m3⟩ := most_at (b := b) j hj
      have lne : lawT m v f ≠ -1 := by rw [l]; intro q; exact nI_pos (show j < 2 ^ 31 by omega) (by rw [q]; exact m1_neg)
      have cl : ∀ f' ok la', fX3_readLaw (nI m) (nI (f)) (nI (eT m v (f))) (nI (clN m v (f))) tape la (nI j) = some (ok, nI (f'), nI (eT m v (f')), nI (clN m v (f')), la') → clauseC m v tape f c la gr se ki ha si on aw f' ok c la' gr se ki ha si on aw := fun f' ok la' h => Or.inr (Or.inl ⟨g, lne, rfl, rfl, rfl, rfl, rfl, rfl, rfl, rfl, by rw [l]; exact h⟩)
      have pre : fX3_readLaw (nI m) (nI (f)) (nI (eT m v (f))) (nI (clN m v (f))) tape la (nI j) = ((fX3_takeNumber (nI m) (nI (nextT m v f)) (nI (eT m v (nextT m v f))) (nI (clN m v (nextT m v f))) tape (nI mx)).bind (fun u10 => (if u10.1 < 0 then (some ((nI 0), u10.2.1, u10.2.2.1, u10.2.2.2, la)) else ((fX3_takeEnd (nI m) u10.2.1 u10.2.2.1 u10.2.2.2 tape).bind (fun u19 => (if u19.1 = 0 then (some ((nI 0), u19.2.1, u19.2.2.1, u19.2.2.2, la)) else (some ((nI 1), u19.2.1, u19.2.2.1, u19.2.2.2, (upd la j u10.1))))))))) := by
        unfold fX3_readLaw
        rw [c_step B he.2, zbs, zg hj (by omega), nI_clamp (by omega), m1]
        simp only [zgc hj (show j < 2 ^ 31 by omega)]
        rfl
      rw [l, if_neg (show ¬ nI j < 0 from nI_pos (by omega)), s_advance B he.2, zbs]
      dsimp only
      rw [m2, zbs]
      rw [show skipT m v (eT m v f) = nextT m v f from rfl]
      rcases j_num B (f := nextT m v f) (mx := mx) hn.2 (by omega) with ⟨x, a1, a2, a3, a4⟩ | ⟨a3, z, a4⟩
      · have hn2 := next_le (v := v) hn.2
        rw [a3, zbs] at pre
        dsimp only at pre
        rw [if_neg (show ¬ nI x < 0 from nI_pos (by omega))] at pre
        rw [a4, zbs]
        dsimp only
        rw [zg (show j < 68 by omega) (by omega), nI_clamp (by omega)]
        rcases j_end B (f := nextT m v (nextT m v f)) hn2.2 with ⟨g1, g2, g3⟩ | ⟨g2, g3⟩
        · have hn5 := next_le (v := v) hn2.2
          rw [g2, zbs] at pre
          dsimp only at pre
          rw [if10] at pre
          refine ⟨nextT m v (nextT m v (nextT m v f)), nI 1, c, upd la j (nI x), gr, se, ki, ha, si, on, aw, by omega, hn5.2, cl _ _ _ pre, Or.inl ⟨rfl, by omega, updN S j x, tr_ula T hj (by omega), ?_⟩⟩
          rw [g3, zbs, rowOf_upd (by omega)]
        · rw [g2, zbs] at pre
          dsimp only at pre
          rw [if00] at pre
          refine ⟨nextT m v (nextT m v f), nI 0, c, la, gr, se, ki, ha, si, on, aw, by omega, hn2.2, cl _ _ _ pre, Or.inr ⟨rfl, _, t0_upd (x := nI x) ht (show j < 68 by omega), ?_⟩⟩
          rw [g3, zbs]
      · rw [a3, zbs] at pre
        dsimp only at pre
        rw [if_pos m1_neg] at pre
        refine ⟨nextT m v f, nI 0, c, la, gr, se, ki, ha, si, on, aw, by omega, hn.2, cl _ _ _ pre, Or.inr ⟨rfl, _, t0_upd (x := z) ht (show j < 68 by omega), ?_⟩⟩
        rw [a4, zbs]
        dsimp only
        rw [zg (show j < 68 by omega) (by omega), nI_clamp (by omega), z_end, zbs]
  · have kne : kindT m v f ≠ -1 := by rw [g]; intro q; exact nI_pos (show k < 2 ^ 31 by omega) (by rw [q]; exact m1_neg)
    rw [g, if_neg (show ¬ nI k < 0 from nI_pos (by omega)), zbs]
    obtain ⟨f', h1, h2, ⟨S', ka, hb, sc, od, ae, a1, a2, a3, a4⟩ | ⟨⟨ar, a3⟩, a4⟩⟩ := j_name B T hf hk g0
    · refine ⟨f', nI 1, nI (S' 6), la, gr, se, ka, hb, sc, od, ae, h1, h2, Or.inl ⟨kne, rfl, rfl, rfl, by rw [g]; exact a3⟩, Or.inl ⟨rfl, a1, S', a2, ?_⟩⟩
      rw [a4, zbs]
    · refine ⟨f', nI 0, ar.1, la, gr, se, ar.2.1, ar.2.2.1, ar.2.2.2.1, ar.2.2.2.2.1, ar.2.2.2.2.2, h1, h2, Or.inl ⟨kne, rfl, rfl, rfl, by rw [g]; exact a3⟩, Or.inr ⟨rfl, _, ht, ?_⟩⟩
      rw [a4, zbs]
end TOK4
