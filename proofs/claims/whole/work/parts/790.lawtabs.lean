/-! THE LAW, from its entry: the tables and the texts that the Statement gives, the two constructors, the loop -/
theorem kL_1 : Cond.classLink RL 7 RX4 ∈ wsL_law := by decide +kernel
theorem kL_2 : Cond.instantiable RX4 15 ∈ wsL_law := by decide +kernel
theorem kL_3 : Cond.initialized RX4 ∈ wsL_law := by decide +kernel
theorem kL_4 : Cond.classLink RL 10 RX5 ∈ wsL_law := by decide +kernel
theorem kL_5 : Cond.instantiable RX5 30 ∈ wsL_law := by decide +kernel
theorem kL_6 : Cond.initialized RX5 ∈ wsL_law := by decide +kernel
theorem kL_7 : Cond.methodLink RL 9 yX4_init ∈ wsL_law := by decide +kernel
theorem kL_8 : Cond.instanceMethod yX4_init ∈ wsL_law := by decide +kernel
theorem kL_9 : Cond.methodLink RL 12 yX5_init ∈ wsL_law := by decide +kernel
theorem kL_10 : Cond.instanceMethod yX5_init ∈ wsL_law := by decide +kernel
theorem lw_zE {s : State} {b : Nat} (hts : ∀ w ∈ lw_tbl, w.before #[Value.ref b] s = true) : ∃ (D : va_G) (cB cI cJ cO : ClassId), zE D cB cI cJ cO s := by
  obtain ⟨c0, i0, k0⟩ := u_known (C := RX0) (T := TX0) (N := 3) (n := 3) hts inX0 (hts (.instantiable RX0 3) (by decide +kernel))
  obtain ⟨c1, i1, k1⟩ := u_known (C := RX1) (T := TX1) (N := 8) (n := 8) hts inX1 (hts (.instantiable RX1 8) (by decide +kernel))
  obtain ⟨c2, i2, k2⟩ := u_known (C := RX2) (T := TX2) (N := 15) (n := 15) hts inX2 (hts (.instantiable RX2 15) (by decide +kernel))
  obtain ⟨c3, i3, k3⟩ := u_known (C := RX3) (T := TX3) (N := 6) (n := 6) hts inX3 (hts (.instantiable RX3 6) (by decide +kernel))
  obtain ⟨c4, i4, k4⟩ := u_known (C := RX4) (T := TX4) (N := 15) (n := 15) hts inX4 (hts (.instantiable RX4 15) (by decide +kernel))
  obtain ⟨c5, i5, k5⟩ := u_known (C := RX5) (T := TX5) (N := 30) (n := 30) hts inX5 (hts (.instantiable RX5 30) (by decide +kernel))
  obtain ⟨cB, kB, bB, hB1, hB2, hB3⟩ := Cond.arrayClass_spec (hts (.arrayClass .byte) (by decide +kernel))
  obtain ⟨cI, kI, bI, hI1, hI2, hI3⟩ := Cond.arrayClass_spec (hts (.arrayClass .int) (by decide +kernel))
  obtain ⟨cJ, kJ, bJ, hJ1, hJ2, hJ3⟩ := Cond.arrayClass_spec (hts (.arrayClass .long) (by decide +kernel))
  obtain ⟨bO, cO, kO, hO1, _, hO3, hO4, hO5⟩ := Cond.arrayOver_spec (hts (.arrayOver (.object RX0)) (by decide +kernel))
  refine ⟨(fun k => if k = 0 then c0 else if k = 1 then c1 else if k = 2 then c2 else if k = 3 then c3 else if k = 4 then c4 else c5, fun k => if k = 0 then i0 else if k = 1 then i1 else if k = 2 then i2 else if k = 3 then i3 else if k = 4 then i4 else i5), cB, cI, cJ, cO, ⟨?_, ?_⟩, va_Nw.of rfl (hts _ (by decide +kernel)), va_Nw.of rfl (hts _ (by decide +kernel)), va_Nw.of rfl (hts _ (by decide +kernel)), va_Nw.of rfl (hts _ (by decide +kernel)), va_Nw.of rfl (hts _ (by decide +kernel)), va_AO.of (hts (.arrayOver (.object RX0)) (by decide +kernel))⟩
  · intro k q hq
    match k, hq with
    | 0, hq => cases hq; exact k0
    | 1, hq => cases hq; exact k1
    | 2, hq => cases hq; exact k2
    | 3, hq => cases hq; exact k3
    | 4, hq => cases hq; exact k4
    | 5, hq => cases hq; exact k5
    | k + 6, hq => simp [vwCl] at hq
  · intro k q hq
    match k, hq with
    | 0, hq => cases hq; exact ⟨fun n z => ⟨(fun k h => by cases h), kB, hB2, bB, hB3⟩, hB1⟩
    | 1, hq => cases hq; exact ⟨fun n z => ⟨(fun k h => by cases h), kI, hI2, bI, hI3⟩, hI1⟩
    | 2, hq => cases hq; exact ⟨fun n z => ⟨(fun k h => by cases h), kJ, hJ2, bJ, hJ3⟩, hJ1⟩
    | 3, hq => cases hq; exact ⟨fun n z => ⟨(fun k h => by cases h), kO, hO3, bO, hO4⟩, kO, bO, hO3, hO4, hO1, hO5⟩
    | k + 4, hq => simp [zTy] at hq
theorem lw_no (s : State) : ∀ a : Nat, a < s.heap.size → ¬ (fun q : Nat => s.heap.size ≤ q) a := fun a h q => absurd h (Nat.not_lt.mpr q)
theorem lw_tab {s : State} {b N : Nat} {nm : String} {f : Nat → Int32} (hN : N < 2 ^ 31) (h1 : (Cond.laysStatic "PaintedWalls" nm "[I").before #[Value.ref b] s = true) (h2 : (Cond.initialized "PaintedWalls").before #[Value.ref b] s = true) (h3 : (Cond.arrayOf (.static "PaintedWalls" nm "[I") .int).before #[Value.ref b] s = true) (h4 : (Cond.eq (.length (.static "PaintedWalls" nm "[I")) (.int (Int32.ofNat N))).before #[Value.ref b] s = true) (h5 : ∀ j, j < N → (Cond.eq (.elem (.static "PaintedWalls" nm "[I") (.int (Int32.ofNat j))) (.int (f j))).before #[Value.ref b] s = true) : zTab nm N f (fun q => s.heap.size ≤ q) s s.heap := by
  obtain ⟨t, ht, hT⟩ := va_Tof (tm := .static "PaintedWalls" nm "[I") (f := fun j => .int (f j)) (A := fun q => s.heap.size ≤ q) hN h3 (va_eqt h4) (fun j hj => va_eqt (h5 j hj)) (lw_no s)
  exact ⟨t, va_Zref h1 h2 ht (lw_no s), hT⟩
def lw_fl : List Cond := flatC (Jvm.Cond.and given_1 narrow_1)
def lw_st (i : Nat) : Term := .string RX3 (zcp.getD i 0)
set_option maxRecDepth 100000 in
theorem lw_m1 : ∀ i : Nat, i < 18 → Cond.exactly (lw_st i) "java/lang/String" ∈ lw_fl := by decide +kernel
set_option maxRecDepth 100000 in
theorem lw_m2 : ∀ i : Nat, i < 18 → Cond.eq (.field (lw_st i) "java/lang/String" "coder" "B") (.int 0) ∈ lw_fl := by decide +kernel
set_option maxRecDepth 100000 in
theorem lw_m3 : ∀ i : Nat, i < 18 → Cond.arrayOf (.field (lw_st i) "java/lang/String" "value" "[B") .byte ∈ lw_fl := by decide +kernel
set_option maxRecDepth 100000 in
theorem lw_m4 : ∀ i : Nat, i < 18 → Cond.eq (.length (.field (lw_st i) "java/lang/String" "value" "[B")) (.int (Int32.ofNat (zlen.getD i 0))) ∈ lw_fl := by decide +kernel
set_option maxRecDepth 100000 in
theorem lw_m5 : ∀ i : Nat, i < 18 → ∀ j : Nat, j < zlen.getD i 0 → Cond.eq (.elem (.field (lw_st i) "java/lang/String" "value" "[B") (.int (Int32.ofNat j))) (.int ((zbyt.getD i []).getD j 0)) ∈ lw_fl := by decide +kernel
def lw_nots : List Cond := lw_fl.filter (fun c => match c with | .not _ => true | _ => false)
def lw_ord (k : Nat) : Nat := [5, 6, 7, 8, 9, 10, 14, 15, 16, 17, 1, 2, 3, 0, 11, 12, 13, 4].getD k 0
def lw_rk (k : Nat) : Nat := [13, 10, 11, 12, 17, 0, 1, 2, 3, 4, 5, 14, 15, 16, 6, 7, 8, 9].getD k 0
theorem lw_or : ∀ i : Nat, i < 18 → lw_rk i < 18 ∧ lw_ord (lw_rk i) = i := by decide +kernel
set_option maxRecDepth 100000 in
theorem lw_m6 : ∀ i : Nat, i < 18 → ∀ j : Nat, j < i → lw_nots[i * (i - 1) / 2 + j]? = some (Cond.not (Cond.eq (lw_st (lw_ord j)) (lw_st (lw_ord i)))) := by decide +kernel
theorem lw_m6i {i j : Nat} (hi : i < 18) (hj : j < 18) (h : lw_rk j < lw_rk i) : Cond.not (Cond.eq (lw_st j) (lw_st i)) ∈ lw_fl := by
  have h1 := List.mem_of_getElem? (lw_m6 _ (lw_or i hi).1 _ h)
  rw [(lw_or i hi).2, (lw_or j hj).2] at h1
  exact (List.mem_filter.mp h1).1
theorem lw_m7 : ∀ i : Nat, i < 18 → zlen.getD i 0 < 2 ^ 31 := by decide +kernel
theorem lw_m8 : ∀ i : Nat, i < 18 → Cond.stringRef RX3 (zcp.getD i 0) (ztx.getD i "") ∈ lw_tbl := by decide +kernel
theorem lw_m9 : ∀ j : Nat, j < 4 → Cond.eq (.elem (.static "PaintedWalls" "FIRST_LAWS" "[I") (.int (Int32.ofNat j))) (.int (zf_first j)) ∈ lw_fl := by decide +kernel
theorem lw_m10 : ∀ j : Nat, j < 4 → Cond.eq (.elem (.static "PaintedWalls" "MOST_LAWS" "[I") (.int (Int32.ofNat j))) (.int (zf_most j)) ∈ lw_fl := by decide +kernel
theorem lw_m11 : ∀ j : Nat, j < 6 → Cond.eq (.elem (.static "PaintedWalls" "ABOVE" "[I") (.int (Int32.ofNat j))) (.int (zf_above j)) ∈ lw_fl := by decide +kernel
theorem lw_zS {s : State} {b : Nat} (hts : ∀ w ∈ lw_tbl, w.before #[Value.ref b] s = true) (hgv : (Jvm.Cond.and given_1 narrow_1).before #[Value.ref b] s = true) : ∃ adK adV : Nat → Nat, zS adK adV (fun q => s.heap.size ≤ q) s s.heap := by
  have hg : ∀ w ∈ lw_fl, w.before #[Value.ref b] s = true := flat_of_before _ hgv
  have hno := lw_no s
  obtain ⟨adK, adV, hk, ha⟩ := vk_Sof (N := 18) (tm := lw_st) (len := zlen) (byt := zbyt) (A := fun q => s.heap.size ≤ q) lw_m7 (fun i hi => hg _ (lw_m1 i hi)) (fun i hi => hg _ (lw_m2 i hi)) (fun i hi => hg _ (lw_m3 i hi)) (fun i hi => hg _ (lw_m4 i hi)) (fun i hi j hj => hg _ (lw_m5 i hi j hj)) (fun i j hi hj hne => by
    rcases Nat.lt_trichotomy (lw_rk i) (lw_rk j) with h | h | h
    · exact Or.inl (hg _ (lw_m6i hj hi h))
    · exact absurd ((lw_or i hi).2.symm.trans ((congrArg lw_ord h).trans (lw_or j hj).2)) hne
    · exact Or.inr (hg _ (lw_m6i hi hj h))) hno
  refine ⟨adK, adV, lw_tab (by omega) (hts _ (by decide +kernel)) (hts _ (by decide +kernel)) (hg _ (by decide +kernel)) (hg _ (by decide +kernel)) (fun j hj => hg _ (lw_m9 j hj)), lw_tab (by omega) (hts _ (by decide +kernel)) (hts _ (by decide +kernel)) (hg _ (by decide +kernel)) (hg _ (by decide +kernel)) (fun j hj => hg _ (lw_m10 j hj)), lw_tab (by omega) (hts _ (by decide +kernel)) (hts _ (by decide +kernel)) (hg _ (by decide +kernel)) (hg _ (by decide +kernel)) (fun j hj => hg _ (lw_m11 j hj)), hk, fun i hi => vk_R.of (hts _ (lw_m8 i hi)) (ha i hi), va_Zof (hts _ (by decide +kernel)) (hts _ (by decide +kernel)) (va_eqi (hg (Cond.eq (.static "java/lang/String" "COMPACT_STRINGS" "Z") (.int 1)) (by decide +kernel))) hno, va_Zqof (hts _ (by decide +kernel)) (hts _ (by decide +kernel)) (hg (Cond.isRef (.static "jdk/internal/util/Preconditions" "SIOOBE_FORMATTER" "Ljava/util/function/BiFunction;")) (by decide +kernel)) hno⟩
