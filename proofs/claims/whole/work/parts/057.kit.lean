/-! adapters: rows of the kit, driven by a functional reading 'hF : F = some r' of what is still to run -/
theorem z_J {α R : Type} {G : α} {F : α → Option R} {r : R} (h : zJ G F = some r) : ∃ J, J = G ∧ F J = some r := ⟨G, rfl, h⟩
theorem z_no {R : Type} {r : R} {P : Prop} (h : (none : Option R) = some r) : P := by cases h
theorem z_bind {α R : Type} {o : Option α} {k : α → Option R} {r : R} (h : o.bind k = some r) : ∃ u, o = some u ∧ k u = some r := by
  cases o with
  | none => cases h
  | some u => exact ⟨u, rfl, h⟩
theorem z_if {R : Type} {c : Prop} (d : Decidable c) {A B : Option R} {r : R} (hF : @ite (Option R) c d A B = some r) : (c → A = some r) ∧ (¬ c → B = some r) := ⟨fun h => by rw [if_pos h] at hF; exact hF, fun h => by rw [if_neg h] at hF; exact hF⟩
theorem z_g {R : Type} {c : Prop} (d : Decidable c) {A : Option R} {r : R} (hF : @ite (Option R) c d none A = some r) : ¬ c ∧ A = some r := by
  by_cases h : c
  · rw [if_pos h] at hF; cases hF
  · rw [if_neg h] at hF; exact ⟨h, hF⟩
theorem z_h {R : Type} {c : Prop} (d : Decidable c) {A : Option R} {r : R} (hF : @ite (Option R) c d A none = some r) : c ∧ A = some r := by
  by_cases h : c
  · rw [if_pos h] at hF; exact ⟨h, hF⟩
  · rw [if_neg h] at hF; cases hF
/-- an answer that is a boolean -/
theorem z_z {v : Int32} (h : v &&& 1 = v) : narrow .boolean (.int v) = .int v := congrArg Value.int h
theorem z_zf {v : Int32} (h : v &&& 1 = v) : fits .boolean (.int v) = true := by
  have h1 : v = 0 ∨ v = 1 := by
    have e : v.toBitVec &&& 1#32 = v.toBitVec := congrArg Int32.toBitVec h
    have e2 : (v.toBitVec &&& 1#32).toNat = v.toBitVec.toNat := congrArg BitVec.toNat e
    rw [BitVec.toNat_and, show (1#32).toNat = 1 from rfl, Nat.and_one_is_mod] at e2
    have hlt : v.toBitVec.toNat < 2 := by omega
    rcases (show v.toBitVec.toNat = 0 ∨ v.toBitVec.toNat = 1 by omega) with q | q
    · left; exact Int32.toBitVec_inj.mp (BitVec.eq_of_toNat_eq q)
    · right; exact Int32.toBitVec_inj.mp (BitVec.eq_of_toNat_eq q)
  rcases h1 with rfl | rfl <;> rfl
/-- the addresses of a world -/
def zAs (as : List Nat) : Nat → Prop := fun q => q ∈ as
def zmerge : va_W → List (Option Nat) → va_W → va_W
  | c :: cs, none :: os, wc => c :: zmerge cs os wc
  | c :: cs, some j :: os, wc => (wc[j]?.getD c) :: zmerge cs os wc
  | ws, _, _ => ws
def zokO (n : Nat) : List (Option Nat) → Bool
  | [] => true
  | none :: os => zokO n os
  | some j :: os => decide (j < n) && zokO n os
def zokI (is : List Nat) : List (Option Nat) → Nat → Bool
  | [], _ => true
  | none :: os, k => decide (k ∉ is) && zokI is os (k + 1)
  | some _ :: os, k => zokI is os (k + 1)
theorem zmerge_mem (is : List Nat) (n : Nat) : ∀ (ws : va_W) (os : List (Option Nat)) (wc : va_W) (i k : Nat) (q : Nat × va_E), zokO n os = true → zokI is os i = true → wc.length = n → os.length = ws.length → (zmerge ws os wc)[k]? = some q → q ∈ wc ∨ (i + k ∉ is ∧ ws[k]? = some q)
  | [], os, wc, i, k, q, _, _, _, hl, h => by
    cases os with
    | nil => rw [zmerge.eq_3 _ _ _ (by intros; contradiction) (by intros; contradiction)] at h; cases h
    | cons o os => cases hl
  | c :: cs, [], wc, i, k, q, _, _, _, hl, h => by cases hl
  | c :: cs, none :: os, wc, i, k, q, h1, h2, h3, hl, h => by
    rw [zmerge] at h
    simp only [zokI, Bool.and_eq_true, decide_eq_true_eq] at h2
    cases k with
    | zero => exact Or.inr ⟨by simpa using h2.1, by simpa using h⟩
    | succ k =>
      rw [List.getElem?_cons_succ] at h
      rcases zmerge_mem is n cs os wc (i + 1) k q h1 h2.2 h3 (Nat.succ.inj hl) h with g | ⟨g1, g2⟩
      · exact Or.inl g
      · exact Or.inr ⟨by rw [show i + (k + 1) = i + 1 + k by omega]; exact g1, by rw [List.getElem?_cons_succ]; exact g2⟩
  | c :: cs, some j :: os, wc, i, k, q, h1, h2, h3, hl, h => by
    rw [zmerge] at h
    simp only [zokO, Bool.and_eq_true, decide_eq_true_eq] at h1
    cases k with
    | zero =>
      left
      rw [List.getElem?_cons_zero] at h
      have hj : j < wc.length := by omega
      rw [List.getElem?_eq_getElem hj] at h
      have e : wc[j] = q := Option.some.inj h
      rw [← e]
      exact List.getElem_mem hj
    | succ k =>
      rw [List.getElem?_cons_succ] at h
      rcases zmerge_mem is n cs os wc (i + 1) k q h1.2 h2 h3 (Nat.succ.inj hl) h with g | ⟨g1, g2⟩
      · exact Or.inl g
      · exact Or.inr ⟨by rw [show i + (k + 1) = i + 1 + k by omega]; exact g1, by rw [List.getElem?_cons_succ]; exact g2⟩
theorem zD_re {A : Nat → Prop} {ws ws' : va_W} (h : va_D A ws) (e : ws'.map Prod.fst = ws.map Prod.fst) : va_D A ws' := by
  have key : ∀ (k : Nat) (q : Nat × va_E), ws'[k]? = some q → ∃ q', ws[k]? = some q' ∧ q'.1 = q.1 := by
    intro k q hk
    have h1 : (ws'.map Prod.fst)[k]? = some q.1 := by rw [List.getElem?_map, hk]; rfl
    rw [e, List.getElem?_map] at h1
    cases hw : ws[k]? with
    | none => rw [hw] at h1; cases h1
    | some x => rw [hw] at h1; exact ⟨x, rfl, Option.some.inj h1⟩
  refine ⟨fun i j x y hx hy hxy => ?_, fun k q hk => ?_⟩
  · obtain ⟨x', h1, h2⟩ := key i x hx
    obtain ⟨y', h3, h4⟩ := key j y hy
    exact h.1 i j x' y' h1 h3 (by rw [h2, h4, hxy])
  · obtain ⟨q', h1, h2⟩ := key k q hk
    rw [← h2]
    exact h.2 k q' h1
/-- behind a call that wrote within the cells 'is' of the world -/
theorem zpatch_P {A0 : Nat → Prop} {D : va_G} {cl : List vw_C} {ws wc wc' ws' : va_W} {H H1 : Heap} (hP : va_P D cl ws H) (hD : va_D A0 ws) (is : List Nat) (hC : is.map (fun i => ws[i]?) = wc.map some) (hd : wc'.map Prod.fst = wc.map Prod.fst) (os : List (Option Nat)) (h1 : zokO is.length os = true) (h2 : zokI is os 0 = true) (h3 : os.length = ws.length) (hw : zmerge ws os wc' = ws')
    (hk : ∀ q : Nat, q < H.size → ¬ zAs (wc.map Prod.fst) q → H1[q]? = H[q]?) (hP1 : va_P D cl wc' H1) : va_P D cl ws' H1 := by
  have hl : wc'.length = is.length := by
    have h1 := congrArg List.length hC
    have h2 := congrArg List.length hd
    simp only [List.length_map] at h1 h2
    omega
  subst hw
  intro k q hq
  rcases zmerge_mem is is.length ws os wc' 0 k q h1 h2 hl h3 hq with h | ⟨h1, h2⟩
  · obtain ⟨j, hj⟩ := List.getElem?_of_mem h
    exact hP1 j q hj
  · rw [Nat.zero_add] at h1
    refine (hP k q h2).kept (hk q.1 (hP k q h2).lt fun hz => ?_)
    obtain ⟨x, hx, hxq⟩ := List.mem_map.mp hz
    obtain ⟨j, hj⟩ := List.getElem?_of_mem hx
    have h3 : (is.map (fun i => ws[i]?))[j]? = some (some x) := by rw [hC, List.getElem?_map, hj]; rfl
    rw [List.getElem?_map] at h3
    cases hi : is[j]? with
    | none => rw [hi] at h3; cases h3
    | some i =>
      rw [hi] at h3
      have h4 := hD.1 k i q x h2 (Option.some.inj h3) hxq.symm
      subst h4
      exact h1 (List.mem_of_getElem? hi)
theorem zAs_sub {A0 : Nat → Prop} {ws wc : va_W} (hD : va_D A0 ws) (is : List Nat) (hC : is.map (fun i => ws[i]?) = wc.map some) : ∀ q, zAs (wc.map Prod.fst) q → A0 q := by
  intro q hq
  obtain ⟨x, hx, hxq⟩ := List.mem_map.mp hq
  obtain ⟨j, hj⟩ := List.getElem?_of_mem hx
  have h3 : (is.map (fun i => ws[i]?))[j]? = some (some x) := by rw [hC, List.getElem?_map, hj]; rfl
  rw [List.getElem?_map] at h3
  cases hi : is[j]? with
  | none => rw [hi] at h3; cases h3
  | some i =>
    rw [hi] at h3
    rw [← hxq]
    exact hD.2 i x (Option.some.inj h3)
theorem zD_own {ws : va_W} {A : Nat → Prop} (h : va_D A ws) : va_D (zAs (ws.map Prod.fst)) ws := ⟨h.1, fun _ q hk => List.mem_map.mpr ⟨q, List.mem_of_getElem? hk, rfl⟩⟩
theorem zP_pick {D : va_G} {cl : List vw_C} {ws wc : va_W} {H : Heap} (hP : va_P D cl ws H) (is : List Nat) (hC : is.map (fun i => ws[i]?) = wc.map some) : va_P D cl wc H := by
  intro k q hk
  have h3 : (is.map (fun i => ws[i]?))[k]? = some (some q) := by rw [hC, List.getElem?_map, hk]; rfl
  rw [List.getElem?_map] at h3
  cases hi : is[k]? with
  | none => rw [hi] at h3; cases h3
  | some i => rw [hi] at h3; exact hP i q (Option.some.inj h3)
/-- the array classes, and what the tables say once for all of a nest -/
abbrev zTy (cB cI cJ cO : ClassId) : List (ClassId × FieldType) := [(cB, .byte), (cI, .int), (cJ, .long), (cO, .object RX0)]
def zNest (U : State) : Prop := va_Nw (.methodLinkNest RX1 25 yX4_isUnder "PaintedWalls") U ∧ va_Nw (.methodLinkNest RX2 114 yX4_heldSize "PaintedWalls") U ∧ va_Nw (.methodLinkNest RX4 61 yX1_init "PaintedWalls") U ∧ va_Nw (.fieldLinkNest RX2 46 "PaintedWalls" "FIRST_LAWS" "[I" "PaintedWalls") U ∧ va_Nw (.fieldLinkNest RX3 102 "PaintedWalls" "MOST_LAWS" "[I" "PaintedWalls") U ∧ va_AO RX0 U
theorem zNest.warm {s U : State} (hW : s.WarmedH U.vm) (h : zNest s) : zNest U := ⟨va_Nw.warmM hW h.1, va_Nw.warmM hW h.2.1, va_Nw.warmM hW h.2.2.1, va_Nw.warmF hW h.2.2.2.1, va_Nw.warmF hW h.2.2.2.2.1, va_AO.moved hW.alike h.2.2.2.2.2⟩
theorem zNest.same {s U : State} (hW : s.vm = U.vm) (h : zNest s) : zNest U := ⟨va_Nw.same rfl hW h.1, va_Nw.same rfl hW h.2.1, va_Nw.same rfl hW h.2.2.1, va_Nw.same rfl hW h.2.2.2.1, va_Nw.same rfl hW h.2.2.2.2.1, va_AO.moved (by rw [hW]; exact Vm.Alike.refl U.vm) h.2.2.2.2.2⟩
def zE (D : va_G) (cB cI cJ cO : ClassId) (U : State) : Prop := va_K D vwCl (zTy cB cI cJ cO) U ∧ zNest U
theorem zE.warm {D : va_G} {cB cI cJ cO : ClassId} {s U : State} (hW : s.WarmedH U.vm) (h : zE D cB cI cJ cO s) : zE D cB cI cJ cO U := ⟨va_K.moved hW.alike h.1, zNest.warm hW h.2⟩
theorem zE.same {D : va_G} {cB cI cJ cO : ClassId} {s U : State} (hW : s.vm = U.vm) (h : zE D cB cI cJ cO s) : zE D cB cI cJ cO U := ⟨va_K.moved (by rw [hW]; exact Vm.Alike.refl U.vm) h.1, zNest.same hW h.2⟩
/-- a contract's start -/
def zPre (D : va_G) (cB cI cJ cO : ClassId) (av : List Value) (ws : va_W) : Array Value → State → Prop := va_Pc av (fun U => va_P D vwCl ws U.heap ∧ zE D cB cI cJ cO U ∧ va_D (fun _ => True) ws)
/-- its end: nothing is written -/
def zPI (oc0 : Option Value) : Array Value → State → Outcome → State → Prop := fun _ st oc t => oc = .returned oc0 ∧ t.heap = st.heap
/-- its end: the world is another, at the same addresses -/
def zPM (oc0 : Option Value) (D : va_G) (ws' : va_W) (A : Nat → Prop) : Array Value → State → Outcome → State → Prop := fun _ st oc t => oc = .returned oc0 ∧ va_P D vwCl ws' t.heap ∧ va_F A st t
theorem zPre_blind {D : va_G} {cB cI cJ cO : ClassId} {av : List Value} {ws : va_W} : FrameBlind (zPre D cB cI cJ cO av ws) := by
  intro a U g mk q
  obtain ⟨q0, qP, qE, qD⟩ := q
  exact ⟨q0, qP, zE.same (s := U) rfl qE, qD⟩
theorem zPre_at {D : va_G} {cB cI cJ cO : ClassId} {av : List Value} {ws wc : va_W} {s : State} {H : Heap} {A : Nat → Prop} (hP : va_P D vwCl ws H) (hE : zE D cB cI cJ cO s) (hD : va_D A ws) (is : List Nat) (hn : va_nd is = true) (hC : is.map (fun i => ws[i]?) = wc.map some) : ∀ U : State, U.heap = H → s.WarmedH U.vm → zPre D cB cI cJ cO av wc av.toArray U := fun U hU hW => ⟨rfl, by rw [hU]; exact zP_pick hP is hC, zE.warm hW hE, (hD.sub is hn hC).weaken (fun _ _ _ _ => trivial)⟩
section ZR
variable {p : Program} {l : Launch} {e : Env} {R : Room} {s : State} {m : MethodId} {args : Array Value} {below : List Frame} {meth : Method} {c : Code} {H : Heap} {locs : List Loc} {cells slots : Nat} {Q : State → Prop}
variable {cc : ByteArray} {pc : Nat} {ls : Array Slot} {rest : List Value} {D : va_G} {cl : List vw_C} {A : Nat → Prop} {a : Nat} {tys : List (ClassId × FieldType)} {ws : va_W} {H0 : Heap} {ρ : Type} {F1 F2 : Option ρ} {r : ρ} {B : Prop}
theorem zb_if_eq (hx : p.tables.exec = Jvm.exec) (hb : c.code = cc) {x : Int32} {off : Int} {tgt : Nat} (hdg : decode cc pc = .ok (.ifCond .eq off, 3)) (ht : (pc : Int) + off = (tgt : Int)) {d : Decidable (x = 0)} (hF : @ite (Option ρ) (x = 0) d F1 F2 = some r)
    (kt : x = 0 → F1 = some r → W p l e R s m args below meth c H locs cells slots Q (F0 m tgt ls rest)) (kf : ¬ x = 0 → F2 = some r → W p l e R s m args below meth c H locs cells slots Q (F0 m (pc + 3) ls rest)) : W p l e R s m args below meth c H locs cells slots Q (F0 m pc ls (.int x :: rest)) := lv_if_eq hx hb hdg ht (fun h => kt h ((z_if d hF).1 h)) (fun h => kf h ((z_if d hF).2 h))
theorem zb_if_ne (hx : p.tables.exec = Jvm.exec) (hb : c.code = cc) {x : Int32} {off : Int} {tgt : Nat} (hdg : decode cc pc = .ok (.ifCond .ne off, 3)) (ht : (pc : Int) + off = (tgt : Int)) {d : Decidable (x = 0)} (hF : @ite (Option ρ) (x = 0) d F1 F2 = some r)
    (kt : ¬ x = 0 → F2 = some r → W p l e R s m args below meth c H locs cells slots Q (F0 m tgt ls rest)) (kf : x = 0 → F1 = some r → W p l e R s m args below meth c H locs cells slots Q (F0 m (pc + 3) ls rest)) : W p l e R s m args below meth c H locs cells slots Q (F0 m pc ls (.int x :: rest)) := lv_if_ne hx hb hdg ht (fun h => kt h ((z_if d hF).2 h)) (fun h => kf h ((z_if d hF).1 h))
theorem zb_if_lt (hx : p.tables.exec = Jvm.exec) (hb : c.code = cc) {x : Int32} {off : Int} {tgt : Nat} (hdg : decode cc pc = .ok (.ifCond .lt off, 3)) (ht : (pc : Int) + off = (tgt : Int)) {d : Decidable (x < 0)} (hF : @ite (Option ρ) (x < 0) d F1 F2 = some r)
    (kt : x < 0 → F1 = some r → W p l e R s m args below meth c H locs cells slots Q (F0 m tgt ls rest)) (kf : ¬ x < 0 → F2 = some r → W p l e R s m args below meth c H locs cells slots Q (F0 m (pc + 3) ls rest)) : W p l e R s m args below meth c H locs cells slots Q (F0 m pc ls (.int x :: rest)) := lv_if_lt hx hb hdg ht (fun h => kt h ((z_if d hF).1 h)) (fun h => kf h ((z_if d hF).2 h))
theorem zb_if_ge (hx : p.tables.exec = Jvm.exec) (hb : c.code = cc) {x : Int32} {off : Int} {tgt : Nat} (hdg : decode cc pc = .ok (.ifCond .ge off, 3)) (ht : (pc : Int) + off = (tgt : Int)) {d : Decidable (x < 0)} (hF : @ite (Option ρ) (x < 0) d F1 F2 = some r)
    (kt : ¬ x < 0 → F2 = some r → W p l e R s m args below meth c H locs cells slots Q (F0 m tgt ls rest)) (kf : x < 0 → F1 = some r → W p l e R s m args below meth c H locs cells slots Q (F0 m (pc + 3) ls rest)) : W p l e R s m args below meth c H locs cells slots Q (F0 m pc ls (.int x :: rest)) := lv_if_ge hx hb hdg ht (fun h => kt (Int32.not_lt.mpr h) ((z_if d hF).2 (Int32.not_lt.mpr h))) (fun h => kf (Int32.not_le.mp h) ((z_if d hF).1 (Int32.not_le.mp h)))
theorem zb_if_gt (hx : p.tables.exec = Jvm.exec) (hb : c.code = cc) {x : Int32} {off : Int} {tgt : Nat} (hdg : decode cc pc = .ok (.ifCond .gt off, 3)) (ht : (pc : Int) + off = (tgt : Int)) {d : Decidable (0 < x)} (hF : @ite (Option ρ) (0 < x) d F1 F2 = some r)
    (kt : 0 < x → F1 = some r → W p l e R s m args below meth c H locs cells slots Q (F0 m tgt ls rest)) (kf : ¬ 0 < x → F2 = some r → W p l e R s m args below meth c H locs cells slots Q (F0 m (pc + 3) ls rest)) : W p l e R s m args below meth c H locs cells slots Q (F0 m pc ls (.int x :: rest)) := lv_if_gt hx hb hdg ht (fun h => kt h ((z_if d hF).1 h)) (fun h => kf h ((z_if d hF).2 h))
theorem zb_if_le (hx : p.tables.exec = Jvm.exec) (hb : c.code = cc) {x : Int32} {off : Int} {tgt : Nat} (hdg : decode cc pc = .ok (.ifCond .le off, 3)) (ht : (pc : Int) + off = (tgt : Int)) {d : Decidable (0 < x)} (hF : @ite (Option ρ) (0 < x) d F1 F2 = some r)
    (kt : ¬ 0 < x → F2 = some r → W p l e R s m args below meth c H locs cells slots Q (F0 m tgt ls rest)) (kf : 0 < x → F1 = some r → W p l e R s m args below meth c H locs cells slots Q (F0 m (pc + 3) ls rest)) : W p l e R s m args below meth c H locs cells slots Q (F0 m pc ls (.int x :: rest)) := lv_if_le hx hb hdg ht (fun h => kt (Int32.not_lt.mpr h) ((z_if d hF).2 (Int32.not_lt.mpr h))) (fun h => kf (Int32.not_le.mp h) ((z_if d hF).1 (Int32.not_le.mp h)))
theorem zb_icmp_eq (hx : p.tables.exec = Jvm.exec) (hb : c.code = cc) {x y : Int32} {off : Int} {tgt : Nat} (hdg : decode cc pc = .ok (.if_icmp .eq off, 3)) (ht : (pc : Int) + off = (tgt : Int)) {d : Decidable (x = y)} (hF : @ite (Option ρ) (x = y) d F1 F2 = some r)
    (kt : x = y → F1 = some r → W p l e R s m args below meth c H locs cells slots Q (F0 m tgt ls rest)) (kf : ¬ x = y → F2 = some r → W p l e R s m args below meth c H locs cells slots Q (F0 m (pc + 3) ls rest)) : W p l e R s m args below meth c H locs cells slots Q (F0 m pc ls (.int y :: .int x :: rest)) := lv_icmp_eq hx hb hdg ht (fun h => kt h ((z_if d hF).1 h)) (fun h => kf h ((z_if d hF).2 h))
theorem zb_icmp_ne (hx : p.tables.exec = Jvm.exec) (hb : c.code = cc) {x y : Int32} {off : Int} {tgt : Nat} (hdg : decode cc pc = .ok (.if_icmp .ne off, 3)) (ht : (pc : Int) + off = (tgt : Int)) {d : Decidable (x = y)} (hF : @ite (Option ρ) (x = y) d F1 F2 = some r)
    (kt : ¬ x = y → F2 = some r → W p l e R s m args below meth c H locs cells slots Q (F0 m tgt ls rest)) (kf : x = y → F1 = some r → W p l e R s m args below meth c H locs cells slots Q (F0 m (pc + 3) ls rest)) : W p l e R s m args below meth c H locs cells slots Q (F0 m pc ls (.int y :: .int x :: rest)) := lv_icmp_ne hx hb hdg ht (fun h => kt h ((z_if d hF).2 h)) (fun h => kf h ((z_if d hF).1 h))
theorem zb_icmp_lt (hx : p.tables.exec = Jvm.exec) (hb : c.code = cc) {x y : Int32} {off : Int} {tgt : Nat} (hdg : decode cc pc = .ok (.if_icmp .lt off, 3)) (ht : (pc : Int) + off = (tgt : Int)) {d : Decidable (x < y)} (hF : @ite (Option ρ) (x < y) d F1 F2 = some r)
    (kt : x < y → F1 = some r → W p l e R s m args below meth c H locs cells slots Q (F0 m tgt ls rest)) (kf : ¬ x < y → F2 = some r → W p l e R s m args below meth c H locs cells slots Q (F0 m (pc + 3) ls rest)) : W p l e R s m args below meth c H locs cells slots Q (F0 m pc ls (.int y :: .int x :: rest)) := lv_icmp_lt hx hb hdg ht (fun h => kt h ((z_if d hF).1 h)) (fun h => kf h ((z_if d hF).2 h))
theorem zb_icmp_ge (hx : p.tables.exec = Jvm.exec) (hb : c.code = cc) {x y : Int32} {off : Int} {tgt : Nat} (hdg : decode cc pc = .ok (.if_icmp .ge off, 3)) (ht : (pc : Int) + off = (tgt : Int)) {d : Decidable (x < y)} (hF : @ite (Option ρ) (x < y) d F1 F2 = some r)
    (kt : ¬ x < y → F2 = some r → W p l e R s m args below meth c H locs cells slots Q (F0 m tgt ls rest)) (kf : x < y → F1 = some r → W p l e R s m args below meth c H locs cells slots Q (F0 m (pc + 3) ls rest)) : W p l e R s m args below meth c H locs cells slots Q (F0 m pc ls (.int y :: .int x :: rest)) := lv_icmp_ge hx hb hdg ht (fun h => kt (Int32.not_lt.mpr h) ((z_if d hF).2 (Int32.not_lt.mpr h))) (fun h => kf (Int32.not_le.mp h) ((z_if d hF).1 (Int32.not_le.mp h)))
theorem zb_icmp_gt (hx : p.tables.exec = Jvm.exec) (hb : c.code = cc) {x y : Int32} {off : Int} {tgt : Nat} (hdg : decode cc pc = .ok (.if_icmp .gt off, 3)) (ht : (pc : Int) + off = (tgt : Int)) {d : Decidable (y < x)} (hF : @ite (Option ρ) (y < x) d F1 F2 = some r)
    (kt : y < x → F1 = some r → W p l e R s m args below meth c H locs cells slots Q (F0 m tgt ls rest)) (kf : ¬ y < x → F2 = some r → W p l e R s m args below meth c H locs cells slots Q (F0 m (pc + 3) ls rest)) : W p l e R s m args below meth c H locs cells slots Q (F0 m pc ls (.int y :: .int x :: rest)) := lv_icmp_gt hx hb hdg ht (fun h => kt h ((z_if d hF).1 h)) (fun h => kf h ((z_if d hF).2 h))
theorem zb_icmp_le (hx : p.tables.exec = Jvm.exec) (hb : c.code = cc) {x y : Int32} {off : Int} {tgt : Nat} (hdg : decode cc pc = .ok (.if_icmp .le off, 3)) (ht : (pc : Int) + off = (tgt : Int)) {d : Decidable (y < x)} (hF : @ite (Option ρ) (y < x) d F1 F2 = some r)
    (kt : ¬ y < x → F2 = some r → W p l e R s m args below meth c H locs cells slots Q (F0 m tgt ls rest)) (kf : y < x → F1 = some r → W p l e R s m args below meth c H locs cells slots Q (F0 m (pc + 3) ls rest)) : W p l e R s m args below meth c H locs cells slots Q (F0 m pc ls (.int y :: .int x :: rest)) := lv_icmp_le hx hb hdg ht (fun h => kt (Int32.not_lt.mpr h) ((z_if d hF).2 (Int32.not_lt.mpr h))) (fun h => kf (Int32.not_le.mp h) ((z_if d hF).1 (Int32.not_le.mp h)))
theorem za_iald (hx : p.tables.exec = Jvm.exec) (hb : c.code = cc) (hK : va_K D cl tys s) (hP : va_P D cl ws H) (q0 t0 : Nat) {cA : ClassId} {n : Nat} {f : Nat → Int32} (ha : ws[q0]? = some (a, .inl (cA, n, .inl f))) (ht : tys[t0]? = some (cA, .int)) {i : Int32} (hdg : decode cc pc = .ok (.iaload, 1)) {d : Decidable (i < 0 ∨ n ≤ i.toNatClampNeg)} (hF : @ite (Option ρ) (i < 0 ∨ n ≤ i.toNatClampNeg) d none F1 = some r)
    (kk : F1 = some r → W p l e R s m args below meth c H locs cells slots Q (F0 m (pc + 1) ls (.int (f i.toNatClampNeg) :: rest))) : W p l e R s m args below meth c H locs cells slots Q (F0 m pc ls (.int i :: .ref a :: rest)) := va_iald hx hb hK hP q0 t0 ha ht (z_g d hF).1 hdg (kk (z_g d hF).2)
theorem za_bald (hx : p.tables.exec = Jvm.exec) (hb : c.code = cc) (hK : va_K D cl tys s) (hP : va_P D cl ws H) (q0 t0 : Nat) {cA : ClassId} {n : Nat} {f : Nat → Int32} (ha : ws[q0]? = some (a, .inl (cA, n, .inl f))) (ht : tys[t0]? = some (cA, .byte)) {i : Int32} (hdg : decode cc pc = .ok (.baload, 1)) {d : Decidable (i < 0 ∨ n ≤ i.toNatClampNeg)} (hF : @ite (Option ρ) (i < 0 ∨ n ≤ i.toNatClampNeg) d none F1 = some r)
    (kk : F1 = some r → W p l e R s m args below meth c H locs cells slots Q (F0 m (pc + 1) ls (.int (f i.toNatClampNeg) :: rest))) : W p l e R s m args below meth c H locs cells slots Q (F0 m pc ls (.int i :: .ref a :: rest)) := va_bald hx hb hK hP q0 t0 ha ht (z_g d hF).1 hdg (kk (z_g d hF).2)
theorem za_lald (hx : p.tables.exec = Jvm.exec) (hb : c.code = cc) (hK : va_K D cl tys s) (hP : va_P D cl ws H) (q0 t0 : Nat) {cA : ClassId} {n : Nat} {f : Nat → Int64} (ha : ws[q0]? = some (a, .inl (cA, n, .inr (.inl f)))) (ht : tys[t0]? = some (cA, .long)) {i : Int32} (hdg : decode cc pc = .ok (.laload, 1)) {d : Decidable (i < 0 ∨ n ≤ i.toNatClampNeg)} (hF : @ite (Option ρ) (i < 0 ∨ n ≤ i.toNatClampNeg) d none F1 = some r)
    (kk : F1 = some r → W p l e R s m args below meth c H locs cells slots Q (F0 m (pc + 1) ls (.long (f i.toNatClampNeg) :: rest))) : W p l e R s m args below meth c H locs cells slots Q (F0 m pc ls (.int i :: .ref a :: rest)) := va_lald hx hb hK hP q0 t0 ha ht (z_g d hF).1 hdg (kk (z_g d hF).2)
theorem za_iast (hx : p.tables.exec = Jvm.exec) (hb : c.code = cc) (hK : va_K D cl tys s) (hP : va_P D cl ws H) (hD : va_D A ws) (hS : va_S A H0 H locs) (q0 t0 : Nat) {cA : ClassId} {n : Nat} {f : Nat → Int32} (ha : ws[q0]? = some (a, .inl (cA, n, .inl f))) (ht : tys[t0]? = some (cA, .int)) {i x : Int32} (hdg : decode cc pc = .ok (.iastore, 1)) {d : Decidable (i < 0 ∨ n ≤ i.toNatClampNeg)} (hF : @ite (Option ρ) (i < 0 ∨ n ≤ i.toNatClampNeg) d none F1 = some r)
    (kk : F1 = some r → ∀ (H1 : Heap) (locs1 : List Loc), va_P D cl (ws.set q0 (a, .inl (cA, n, .inl (upd f i.toNatClampNeg x)))) H1 → va_S A H0 H1 locs1 → W p l e R s m args below meth c H1 locs1 cells slots Q (F0 m (pc + 1) ls rest)) : W p l e R s m args below meth c H locs cells slots Q (F0 m pc ls (.int x :: .int i :: .ref a :: rest)) := va_iast hx hb hK hP hD hS q0 t0 ha ht (z_g d hF).1 hdg (fun H1 l1 h1 _ h3 => kk (z_g d hF).2 H1 l1 h1 h3)
theorem za_last (hx : p.tables.exec = Jvm.exec) (hb : c.code = cc) (hK : va_K D cl tys s) (hP : va_P D cl ws H) (hD : va_D A ws) (hS : va_S A H0 H locs) (q0 t0 : Nat) {cA : ClassId} {n : Nat} {f : Nat → Int64} (ha : ws[q0]? = some (a, .inl (cA, n, .inr (.inl f)))) (ht : tys[t0]? = some (cA, .long)) {i : Int32} {x : Int64} (hdg : decode cc pc = .ok (.lastore, 1)) {d : Decidable (i < 0 ∨ n ≤ i.toNatClampNeg)} (hF : @ite (Option ρ) (i < 0 ∨ n ≤ i.toNatClampNeg) d none F1 = some r)
    (kk : F1 = some r → ∀ (H1 : Heap) (locs1 : List Loc), va_P D cl (ws.set q0 (a, .inl (cA, n, .inr (.inl (vp_updL f i.toNatClampNeg x))))) H1 → va_S A H0 H1 locs1 → W p l e R s m args below meth c H1 locs1 cells slots Q (F0 m (pc + 1) ls rest)) : W p l e R s m args below meth c H locs cells slots Q (F0 m pc ls (.long x :: .int i :: .ref a :: rest)) := va_last hx hb hK hP hD hS q0 t0 ha ht (z_g d hF).1 hdg (fun H1 l1 h1 _ h3 => kk (z_g d hF).2 H1 l1 h1 h3)
theorem za_bast (hx : p.tables.exec = Jvm.exec) (hb : c.code = cc) (hK : va_K D cl tys s) (hP : va_P D cl ws H) (hD : va_D A ws) (hS : va_S A H0 H locs) (q0 t0 : Nat) {cA : ClassId} {n : Nat} {f : Nat → Int32} (ha : ws[q0]? = some (a, .inl (cA, n, .inl f))) (ht : tys[t0]? = some (cA, .byte)) {i x : Int32} (hdg : decode cc pc = .ok (.bastore, 1)) {d : Decidable (i < 0 ∨ n ≤ i.toNatClampNeg)} (hF : @ite (Option ρ) (i < 0 ∨ n ≤ i.toNatClampNeg) d none F1 = some r)
    (kk : F1 = some r → ∀ (H1 : Heap) (locs1 : List Loc), va_P D cl (ws.set q0 (a, .inl (cA, n, .inl (upd f i.toNatClampNeg (vp_nar .byte x))))) H1 → va_S A H0 H1 locs1 → W p l e R s m args below meth c H1 locs1 cells slots Q (F0 m (pc + 1) ls rest)) : W p l e R s m args below meth c H locs cells slots Q (F0 m pc ls (.int x :: .int i :: .ref a :: rest)) := va_bast hx hb hK hP hD hS q0 t0 ha ht (z_g d hF).1 hdg (fun H1 l1 h1 _ h3 => kk (z_g d hF).2 H1 l1 h1 h3)
theorem za_idiv (hx : p.tables.exec = Jvm.exec) (hb : c.code = cc) {x y : Int32} (hdg : decode cc pc = .ok (.idiv, 1)) {d : Decidable (y = 0)} (hF : @ite (Option ρ) (y = 0) d none F1 = some r) (k : F1 = some r → W p l e R s m args below meth c H locs cells slots Q (F0 m (pc + 1) ls (.int (x / y) :: rest))) : W p l e R s m args below meth c H locs cells slots Q (F0 m pc ls (.int y :: .int x :: rest)) := lv_idiv hx hb hdg (z_g d hF).1 (k (z_g d hF).2)
theorem za_irem (hx : p.tables.exec = Jvm.exec) (hb : c.code = cc) {x y : Int32} (hdg : decode cc pc = .ok (.irem, 1)) {d : Decidable (y = 0)} (hF : @ite (Option ρ) (y = 0) d none F1 = some r) (k : F1 = some r → W p l e R s m args below meth c H locs cells slots Q (F0 m (pc + 1) ls (.int (x - x / y * y) :: rest))) : W p l e R s m args below meth c H locs cells slots Q (F0 m pc ls (.int y :: .int x :: rest)) := lv_irem hx hb hdg (z_g d hF).1 (k (z_g d hF).2)
theorem za_ldiv (hx : p.tables.exec = Jvm.exec) (hb : c.code = cc) {x y : Int64} (hdg : decode cc pc = .ok (.ldiv, 1)) {d : Decidable (y = 0)} (hF : @ite (Option ρ) (y = 0) d none F1 = some r) (k : F1 = some r → W p l e R s m args below meth c H locs cells slots Q (F0 m (pc + 1) ls (.long (x / y) :: rest))) : W p l e R s m args below meth c H locs cells slots Q (F0 m pc ls (.long y :: .long x :: rest)) := lv_ldiv hx hb hdg (z_g d hF).1 (k (z_g d hF).2)
theorem za_lrem (hx : p.tables.exec = Jvm.exec) (hb : c.code = cc) {x y : Int64} (hdg : decode cc pc = .ok (.lrem, 1)) {d : Decidable (y = 0)} (hF : @ite (Option ρ) (y = 0) d none F1 = some r) (k : F1 = some r → W p l e R s m args below meth c H locs cells slots Q (F0 m (pc + 1) ls (.long (x - x / y * y) :: rest))) : W p l e R s m args below meth c H locs cells slots Q (F0 m pc ls (.long y :: .long x :: rest)) := lv_lrem hx hb hdg (z_g d hF).1 (k (z_g d hF).2)
theorem za_ialdK (hx : p.tables.exec = Jvm.exec) (hb : c.code = cc) (hK : va_K D cl tys s) (hP : va_P D cl ws H) (q0 t0 : Nat) {cA : ClassId} {n k : Nat} {f : Nat → Int32} (ha : ws[q0]? = some (a, .inl (cA, n, .inl f))) (ht : tys[t0]? = some (cA, .int)) {i : Int32} (hin : ¬ (i < 0 ∨ n ≤ i.toNatClampNeg)) (hk : i.toNatClampNeg = k) (hdg : decode cc pc = .ok (.iaload, 1))
    (kk : W p l e R s m args below meth c H locs cells slots Q (F0 m (pc + 1) ls (.int (f k) :: rest))) : W p l e R s m args below meth c H locs cells slots Q (F0 m pc ls (.int i :: .ref a :: rest)) := by subst hk; exact va_iald hx hb hK hP q0 t0 ha ht hin hdg kk
theorem za_baldK (hx : p.tables.exec = Jvm.exec) (hb : c.code = cc) (hK : va_K D cl tys s) (hP : va_P D cl ws H) (q0 t0 : Nat) {cA : ClassId} {n k : Nat} {f : Nat → Int32} (ha : ws[q0]? = some (a, .inl (cA, n, .inl f))) (ht : tys[t0]? = some (cA, .byte)) {i : Int32} (hin : ¬ (i < 0 ∨ n ≤ i.toNatClampNeg)) (hk : i.toNatClampNeg = k) (hdg : decode cc pc = .ok (.baload, 1))
    (kk : W p l e R s m args below meth c H locs cells slots Q (F0 m (pc + 1) ls (.int (f k) :: rest))) : W p l e R s m args below meth c H locs cells slots Q (F0 m pc ls (.int i :: .ref a :: rest)) := by subst hk; exact va_bald hx hb hK hP q0 t0 ha ht hin hdg kk
theorem za_laldK (hx : p.tables.exec = Jvm.exec) (hb : c.code = cc) (hK : va_K D cl tys s) (hP : va_P D cl ws H) (q0 t0 : Nat) {cA : ClassId} {n k : Nat} {f : Nat → Int64} (ha : ws[q0]? = some (a, .inl (cA, n, .inr (.inl f)))) (ht : tys[t0]? = some (cA, .long)) {i : Int32} (hin : ¬ (i < 0 ∨ n ≤ i.toNatClampNeg)) (hk : i.toNatClampNeg = k) (hdg : decode cc pc = .ok (.laload, 1))
    (kk : W p l e R s m args below meth c H locs cells slots Q (F0 m (pc + 1) ls (.long (f k) :: rest))) : W p l e R s m args below meth c H locs cells slots Q (F0 m pc ls (.int i :: .ref a :: rest)) := by subst hk; exact va_lald hx hb hK hP q0 t0 ha ht hin hdg kk
theorem za_iastK (hx : p.tables.exec = Jvm.exec) (hb : c.code = cc) (hK : va_K D cl tys s) (hP : va_P D cl ws H) (hD : va_D A ws) (hS : va_S A H0 H locs) (q0 t0 : Nat) {cA : ClassId} {n k : Nat} {f : Nat → Int32} (ha : ws[q0]? = some (a, .inl (cA, n, .inl f))) (ht : tys[t0]? = some (cA, .int)) {i : Int32} {x : Int32} (hin : ¬ (i < 0 ∨ n ≤ i.toNatClampNeg)) (hk : i.toNatClampNeg = k) (hdg : decode cc pc = .ok (.iastore, 1))
    (kk : ∀ (H1 : Heap) (locs1 : List Loc), va_P D cl (ws.set q0 (a, .inl (cA, n, .inl (upd f k x)))) H1 → va_S A H0 H1 locs1 → W p l e R s m args below meth c H1 locs1 cells slots Q (F0 m (pc + 1) ls rest)) : W p l e R s m args below meth c H locs cells slots Q (F0 m pc ls (.int x :: .int i :: .ref a :: rest)) := by subst hk; exact va_iast hx hb hK hP hD hS q0 t0 ha ht hin hdg (fun H1 l1 h1 _ h3 => kk H1 l1 h1 h3)
theorem za_bastK (hx : p.tables.exec = Jvm.exec) (hb : c.code = cc) (hK : va_K D cl tys s) (hP : va_P D cl ws H) (hD : va_D A ws) (hS : va_S A H0 H locs) (q0 t0 : Nat) {cA : ClassId} {n k : Nat} {f : Nat → Int32} (ha : ws[q0]? = some (a, .inl (cA, n, .inl f))) (ht : tys[t0]? = some (cA, .byte)) {i : Int32} {x : Int32} (hin : ¬ (i < 0 ∨ n ≤ i.toNatClampNeg)) (hk : i.toNatClampNeg = k) (hdg : decode cc pc = .ok (.bastore, 1))
    (kk : ∀ (H1 : Heap) (locs1 : List Loc), va_P D cl (ws.set q0 (a, .inl (cA, n, .inl (upd f k (vp_nar .byte x))))) H1 → va_S A H0 H1 locs1 → W p l e R s m args below meth c H1 locs1 cells slots Q (F0 m (pc + 1) ls rest)) : W p l e R s m args below meth c H locs cells slots Q (F0 m pc ls (.int x :: .int i :: .ref a :: rest)) := by subst hk; exact va_bast hx hb hK hP hD hS q0 t0 ha ht hin hdg (fun H1 l1 h1 _ h3 => kk H1 l1 h1 h3)
theorem za_lastK (hx : p.tables.exec = Jvm.exec) (hb : c.code = cc) (hK : va_K D cl tys s) (hP : va_P D cl ws H) (hD : va_D A ws) (hS : va_S A H0 H locs) (q0 t0 : Nat) {cA : ClassId} {n k : Nat} {f : Nat → Int64} (ha : ws[q0]? = some (a, .inl (cA, n, .inr (.inl f)))) (ht : tys[t0]? = some (cA, .long)) {i : Int32} {x : Int64} (hin : ¬ (i < 0 ∨ n ≤ i.toNatClampNeg)) (hk : i.toNatClampNeg = k) (hdg : decode cc pc = .ok (.lastore, 1))
    (kk : ∀ (H1 : Heap) (locs1 : List Loc), va_P D cl (ws.set q0 (a, .inl (cA, n, .inr (.inl (vp_updL f k x))))) H1 → va_S A H0 H1 locs1 → W p l e R s m args below meth c H1 locs1 cells slots Q (F0 m (pc + 1) ls rest)) : W p l e R s m args below meth c H locs cells slots Q (F0 m pc ls (.long x :: .int i :: .ref a :: rest)) := by subst hk; exact va_last hx hb hK hP hD hS q0 t0 ha ht hin hdg (fun H1 l1 h1 _ h3 => kk H1 l1 h1 h3)
end ZR
/-- a method from its entry -/
theorem zMetP {l : Launch} {y : MethodName} {wsY ws' : List Cond} {rm : Room} {cc : ByteArray} {maxL : Nat} {ret : Option FieldType} {D : va_G} {cB cI cJ cO : ClassId} {av : List Value} {ws : va_W} {Qc : Array Value → State → Outcome → State → Prop} {lv : List (Nat × Value)} (hy : plainName y.cls = true) (hw : wsY = Cond.code y cc maxL ret :: ws') (hlen : (lg_sl av).length ≤ maxL) (hlv : lv_args 0 av = lv)
    (body : ∀ (p : Program) (e : Env) (s : State) (m : MethodId) (args : Array Value) (below : List Frame) (meth : Method) (c : Code) (ls : Array Slot) (Q : State → Prop), Q = MQ below Qc args s 0 0 (fun _ => False) → p.tables.exec = Jvm.exec → c.code = cc → meth.sig.returnType = ret → c.maxLocals = maxL → s.vm.findClass y.cls = some m.cls → (∀ w ∈ wsY, w.before args s = true) → meth.locks = false → meth.name = y.name → va_P D vwCl ws s.heap → zE D cB cI cJ cO s → va_D (fun _ => True) ws → lv_has ls maxL lv → W p l e rm s m args below meth c s.heap [] 0 0 Q (F0 m 0 ls [])) :
    Met l y wsY rm (zPre D cB cI cJ cO av ws) Qc 0 0 (fun _ => False) := by
  refine Met.ofW (cc := cc) (maxL := maxL) (ret := ret) hy hw ?_
  intro p e s m args below meth c s₁ B hml hv
  obtain ⟨rfl, hP, hE, hD⟩ := hv
  have hl := lv_entry av (n := maxL) hlen
  rw [lg_entry_eq]
  generalize (lg_sl av ++ List.replicate (maxL - (lg_sl av).length) Slot.unset).toArray = ls at hl ⊢
  subst hlv
  exact body p e s m _ below meth c ls _ rfl B.exec B.bytes B.returns hml (findClass_of_methodNamed B.named) (atoms_spec (ws := wsY) B.pre) B.notSynchronized (name_of_methodNamed B.named B.method).1 hP hE hD hl
theorem zMetM {l : Launch} {y : MethodName} {wsY ws' : List Cond} {rm : Room} {cc : ByteArray} {maxL : Nat} {ret : Option FieldType} {D : va_G} {cB cI cJ cO : ClassId} {av : List Value} {ws : va_W} {as : List Nat} {Qc : Array Value → State → Outcome → State → Prop} {lv : List (Nat × Value)} (has : ws.map Prod.fst = as) (hy : plainName y.cls = true) (hw : wsY = Cond.code y cc maxL ret :: ws') (hlen : (lg_sl av).length ≤ maxL) (hlv : lv_args 0 av = lv)
    (body : ∀ (p : Program) (e : Env) (s : State) (m : MethodId) (args : Array Value) (below : List Frame) (meth : Method) (c : Code) (ls : Array Slot) (Q : State → Prop) (H : Heap) (locs : List Loc), Q = MQ below Qc args s 0 0 (zAs as) → p.tables.exec = Jvm.exec → c.code = cc → meth.sig.returnType = ret → c.maxLocals = maxL → s.vm.findClass y.cls = some m.cls → (∀ w ∈ wsY, w.before args s = true) → meth.locks = false → meth.name = y.name → va_P D vwCl ws H → zE D cB cI cJ cO s → va_D (zAs as) ws → va_S (zAs as) s.heap H locs → lv_has ls maxL lv → W p l e rm s m args below meth c H locs 0 0 Q (F0 m 0 ls [])) :
    Met l y wsY rm (zPre D cB cI cJ cO av ws) Qc 0 0 (zAs as) := by
  refine Met.ofW (cc := cc) (maxL := maxL) (ret := ret) hy hw ?_
  intro p e s m args below meth c s₁ B hml hv
  obtain ⟨rfl, hP, hE, hD⟩ := hv
  have hl := lv_entry av (n := maxL) hlen
  rw [lg_entry_eq]
  generalize (lg_sl av ++ List.replicate (maxL - (lg_sl av).length) Slot.unset).toArray = ls at hl ⊢
  subst hlv
  subst has
  exact body p e s m _ below meth c ls _ _ _ rfl B.exec B.bytes B.returns hml (findClass_of_methodNamed B.named) (atoms_spec (ws := wsY) B.pre) B.notSynchronized (name_of_methodNamed B.named B.method).1 hP hE (zD_own hD) va_S.rf hl
section ZQ
variable {p : Program} {l : Launch} {e : Env} {R : Room} {s : State} {m : MethodId} {args : Array Value} {below : List Frame} {meth : Method} {c : Code} {H : Heap} {locs : List Loc} {Q : State → Prop}
variable {cc : ByteArray} {pc : Nat} {ls : Array Slot} {D : va_G} {ρ : Type} {r u : ρ}
theorem z_iret {v : Int32} (f : ρ → Int32) (hx : p.tables.exec = Jvm.exec) (hb : c.code = cc) (hr : meth.sig.returnType = some .int) (hlocks : meth.locks = false) (hF : some u = some r) (hv : f u = v) (hQ : Q = MQ below (zPI (some (.int (f r)))) args s 0 0 (fun _ => False)) (hdg : decode cc pc = .ok (.ireturn, 1)) : W p l e R s m args below meth c s.heap [] 0 0 Q (F0 m pc ls [.int v]) := by
  cases hF; subst hQ; subst hv
  exact W.iret hx hb hr (fun t ht _ => ⟨rfl, ht⟩) (fun q hq => by cases hq) hdg hlocks
theorem z_zret {v : Int32} (f : ρ → Int32) (hx : p.tables.exec = Jvm.exec) (hb : c.code = cc) (hr : meth.sig.returnType = some .boolean) (hlocks : meth.locks = false) (hz : v &&& 1 = v) (hF : some u = some r) (hv : f u = v) (hQ : Q = MQ below (zPI (some (.int (f r)))) args s 0 0 (fun _ => False)) (hdg : decode cc pc = .ok (.ireturn, 1)) : W p l e R s m args below meth c s.heap [] 0 0 Q (F0 m pc ls [.int v]) := by
  cases hF; subst hQ; subst hv
  exact W.zret hx hb hr (z_z hz) (fun t ht _ => ⟨rfl, ht⟩) (fun q hq => by cases hq) hdg hlocks
theorem z_lret {v : Int64} (f : ρ → Int64) (hx : p.tables.exec = Jvm.exec) (hb : c.code = cc) (hr : meth.sig.returnType = some .long) (hlocks : meth.locks = false) (hF : some u = some r) (hv : f u = v) (hQ : Q = MQ below (zPI (some (.long (f r)))) args s 0 0 (fun _ => False)) (hdg : decode cc pc = .ok (.lreturn, 1)) : W p l e R s m args below meth c s.heap [] 0 0 Q (F0 m pc ls [.long v]) := by
  cases hF; subst hQ; subst hv
  exact W.lret hx hb hr (fun t ht _ => ⟨rfl, ht⟩) (fun q hq => by cases hq) hdg hlocks
theorem z_iretM {v : Int32} {A : Nat → Prop} (f : ρ → Int32) (g : ρ → va_W) (hx : p.tables.exec = Jvm.exec) (hb : c.code = cc) (hr : meth.sig.returnType = some .int) (hlocks : meth.locks = false) (hP : va_P D vwCl (g u) H) (hS : va_S A s.heap H locs) (hF : some u = some r) (hv : f u = v) (hQ : Q = MQ below (zPM (some (.int (f r))) D (g r) A) args s 0 0 A) (hdg : decode cc pc = .ok (.ireturn, 1)) : W p l e R s m args below meth c H locs 0 0 Q (F0 m pc ls [.int v]) := by
  cases hF; subst hQ; subst hv
  exact W.iret hx hb hr (fun t ht _ => ⟨rfl, by rw [ht]; exact hP, hS.F ht⟩) hS.2.2 hdg hlocks
theorem z_zretM {v : Int32} {A : Nat → Prop} (f : ρ → Int32) (g : ρ → va_W) (hx : p.tables.exec = Jvm.exec) (hb : c.code = cc) (hr : meth.sig.returnType = some .boolean) (hlocks : meth.locks = false) (hz : v &&& 1 = v) (hP : va_P D vwCl (g u) H) (hS : va_S A s.heap H locs) (hF : some u = some r) (hv : f u = v) (hQ : Q = MQ below (zPM (some (.int (f r))) D (g r) A) args s 0 0 A) (hdg : decode cc pc = .ok (.ireturn, 1)) : W p l e R s m args below meth c H locs 0 0 Q (F0 m pc ls [.int v]) := by
  cases hF; subst hQ; subst hv
  exact W.zret hx hb hr (z_z hz) (fun t ht _ => ⟨rfl, by rw [ht]; exact hP, hS.F ht⟩) hS.2.2 hdg hlocks
theorem z_lretM {v : Int64} {A : Nat → Prop} (f : ρ → Int64) (g : ρ → va_W) (hx : p.tables.exec = Jvm.exec) (hb : c.code = cc) (hr : meth.sig.returnType = some .long) (hlocks : meth.locks = false) (hP : va_P D vwCl (g u) H) (hS : va_S A s.heap H locs) (hF : some u = some r) (hv : f u = v) (hQ : Q = MQ below (zPM (some (.long (f r))) D (g r) A) args s 0 0 A) (hdg : decode cc pc = .ok (.lreturn, 1)) : W p l e R s m args below meth c H locs 0 0 Q (F0 m pc ls [.long v]) := by
  cases hF; subst hQ; subst hv
  exact W.lret hx hb hr (fun t ht _ => ⟨rfl, by rw [ht]; exact hP, hS.F ht⟩) hS.2.2 hdg hlocks
theorem z_vretM {A : Nat → Prop} (g : ρ → va_W) (hx : p.tables.exec = Jvm.exec) (hb : c.code = cc) (hr : meth.sig.returnType = none) (hlocks : meth.locks = false) (hP : va_P D vwCl (g u) H) (hS : va_S A s.heap H locs) (hF : some u = some r) (hQ : Q = MQ below (zPM none D (g r) A) args s 0 0 A) (hdg : decode cc pc = .ok (.return_, 1)) : W p l e R s m args below meth c H locs 0 0 Q (F0 m pc ls []) := by
  cases hF; subst hQ
  exact W.vret hx hb hr (fun t ht _ => ⟨rfl, by rw [ht]; exact hP, hS.F ht⟩) hS.2.2 hdg hlocks
end ZQ
section ZC
variable {p : Program} {l : Launch} {e : Env} {R : Room} {s : State} {m : MethodId} {args : Array Value} {below : List Frame} {meth : Method} {c : Code} {H : Heap} {locs : List Loc} {cells slots : Nat} {Q : State → Prop}
variable {pc : Nat} {ls : Array Slot} {st0 rest : List Value} {a : Array Value} {A0 : Nat → Prop} {D : va_G} {ws wc wc' ws' : va_W}
/-- behind a call that wrote nothing -/
theorem zq_call {oc0 : Option Value} (hr : va_Run p l e R s m args below meth c H locs cells slots 0 0 (F0 m pc ls st0) rest (zPI oc0 a) (fun _ => False)) (kk : W p l e R s m args below meth c H locs cells slots Q (F0 m (pc + 3) ls (oc0.toList ++ rest))) : W p l e R s m args below meth c H locs cells slots Q (F0 m pc ls st0) := by
  intro T hT X
  obtain ⟨v, st₀, t, T', L, h0, X', hL, e1, e2, ⟨hv, hh⟩, st⟩ := hr T hT X
  cases hv
  have hL0 : L = [] := by
    cases L with
    | nil => rfl
    | cons q L => exact (hL q List.mem_cons_self).elim
  subst hL0
  rw [List.append_nil] at X'
  obtain ⟨t2, a1, b1⟩ := kk T' (by rw [e1, hh, h0]) X'
  exact ⟨t2, st t2 a1, b1⟩
/-- behind a call that wrote within its world -/
theorem zq_callM {oc0 : Option Value} {as : List Nat} (hr : va_Run p l e R s m args below meth c H locs cells slots 0 0 (F0 m pc ls st0) rest (zPM oc0 D wc' (zAs as) a) (zAs as)) (has : wc.map Prod.fst = as) (hP : va_P D vwCl ws H) (hD : va_D A0 ws) (hS : va_S A0 s.heap H locs) (is : List Nat) (hC : is.map (fun i => ws[i]?) = wc.map some) (hd : wc'.map Prod.fst = wc.map Prod.fst) (os : List (Option Nat)) (h1 : zokO is.length os = true) (h2 : zokI is os 0 = true) (h3 : os.length = ws.length) (hw : zmerge ws os wc' = ws')
    (kk : ∀ (H1 : Heap) (locs1 : List Loc), va_P D vwCl ws' H1 → va_S A0 s.heap H1 locs1 → W p l e R s m args below meth c H1 locs1 cells slots Q (F0 m (pc + 3) ls (oc0.toList ++ rest))) : W p l e R s m args below meth c H locs cells slots Q (F0 m pc ls st0) := by
  subst has
  have hf := zAs_sub hD is hC
  intro T hT X
  obtain ⟨v, st₀, t, T', L, h0, X', hL, e1, e2, ⟨hv, hP1, hz, hk⟩, st⟩ := hr T hT X
  cases hv
  rw [h0] at hz hk
  obtain ⟨t2, a1, b1⟩ := kk T'.heap (locs ++ L) (by rw [e1]; exact zpatch_P hP hD is hC hd os h1 h2 h3 hw hk hP1)
    ⟨Nat.le_trans hS.1 (by rw [e1]; exact hz), fun q h1 h2 => by rw [e1, hk q (Nat.lt_of_lt_of_le h1 hS.1) (fun z => h2 (hf q z))]; exact hS.2.1 q h1 h2, fun q hq => by
      rcases List.mem_append.mp hq with h | h
      · exact hS.2.2 q h
      · exact hf _ (hL q h)⟩ T' rfl X'
  exact ⟨t2, st t2 a1, b1⟩
end ZC
