/-! THE LAW'S BODY: its ends (as the skeleton has them), the items behind the world, calls with a tail behind the world -/
def R_law : String := "PaintedWallsLaw"
def lw_P (b : Addr) (xs : List Int32) (args : Array Value) (s : State) : Prop := args = #[.ref b] ∧ s.IntsAt b xs ∧ xs.length ≤ 2560 ∧ (Jvm.Cond.and given_1 narrow_1).before args s = true
def lw_Q (_ : Array Value) (s : State) (o : Outcome) (t : State) : Prop := o = .returned (some (.int 1)) ∧ Framed s o t [] 600000 7302250
def lw_Z (below : List Frame) (a : Array Value) (s : State) : State → Prop := fun t => ∃ o, t.status = .running ∧ Ended t below o ∧ lw_Q a s o t
/-- the law's own end, with 1 on the stack, nothing written that was there before, its room as the claim has it -/
theorem lw_ret {p : Program} {l : Launch} {e : Env} {s : State} {m : MethodId} {below : List Frame} {meth : Method} {c : Code} {b : Nat} (hx : p.tables.exec = Jvm.exec) (hb : c.code = code) (hr : meth.sig.returnType = ret) (hlocks : meth.locks = false) {pc : Nat} {H : Heap} {ls : Array Slot} (hdg : decode code pc = .ok (.ireturn, 1)) : W p l e room_1 s m #[Value.ref b] below meth c H [] 600000 7302250 (lw_Z below #[Value.ref b] s) (F0 m pc ls [.int 1]) := by
  intro T hT X
  obtain ⟨fs, hret, hrun, hended, hW, hframe⟩ := X.leave (v := some (.int 1)) (hlocks := hlocks) (fun h => by rw [hr] at h; cases h)
  have hmeth' : T.vm.method? m = some meth := X.method'
  refine ⟨T.setFrames fs, ?_, .returned (some (.int 1)), hrun, hended, rfl, ⟨_, rfl⟩, hW, hframe⟩
  jvm_step X.here [X.here.top, hx, hb, hdg, hmeth', hr, ret, narrow_b1]
  (try refine ⟨rfl, ?_⟩); (try refine ⟨rfl, ?_⟩)
  first | (intro acts; rw [hret _ acts rfl rfl rfl]) | rw [hret _ _ rfl rfl rfl]
  exact Steps.refl _
/-- what holds at the law's entry: the machine, the code, the tables' words, the script of L ints xs at the cell b, what the Statement gives of the start -/
def lw_At (p : Program) (s : State) (m : MethodId) (meth : Method) (c : Code) (b L : Nat) (xs : Nat → Int32) : Prop :=
  p.tables.exec = Jvm.exec ∧ c.code = code ∧ meth.sig.returnType = ret ∧ c.maxLocals = 4 ∧ s.vm.findClass R_law = some m.cls ∧ (∀ w ∈ lw_tbl, w.before #[Value.ref b] s = true) ∧ va_X b L xs s s.heap ∧ b < s.heap.size ∧ meth.locks = false ∧ (Jvm.Cond.and given_1 narrow_1).before #[Value.ref b] s = true
/-- the items' cells, one item behind another -/
def zIts (cI : ClassId) : List zIt → va_W
  | [] => []
  | it :: r => (it.1, .inr (0, [.int (nI it.2.1), .int (nI it.2.2.1), .ref it.2.2.2.1])) :: (it.2.2.2.1, .inl (cI, it.2.2.1, .inl it.2.2.2.2)) :: zIts cI r
theorem zIts_perm {cI : ClassId} {x y : List zIt} (h : x.Perm y) : (zIts cI x).Perm (zIts cI y) := by
  induction h with
  | nil => exact List.Perm.nil
  | cons x _ ih => exact (ih.cons _).cons _
  | swap x y l =>
    have h := List.perm_append_comm_assoc ([(y.1, .inr (0, [.int (nI y.2.1), .int (nI y.2.2.1), .ref y.2.2.2.1])), (y.2.2.2.1, .inl (cI, y.2.2.1, .inl y.2.2.2.2))] : va_W) ([(x.1, .inr (0, [.int (nI x.2.1), .int (nI x.2.2.1), .ref x.2.2.2.1])), (x.2.2.2.1, .inl (cI, x.2.2.1, .inl x.2.2.2.2))] : va_W) (zIts cI l)
    exact h
  | trans _ _ h1 h2 => exact h1.trans h2
theorem zIts_mem {cI : ClassId} : ∀ (l : List zIt) (it : zIt), it ∈ l → ((it.1, .inr (0, [.int (nI it.2.1), .int (nI it.2.2.1), .ref it.2.2.2.1])) : Nat × va_E) ∈ zIts cI l
  | [], _, h => absurd h List.not_mem_nil
  | x :: r, it, h => by
    rcases List.mem_cons.mp h with rfl | h
    · exact List.mem_cons_self
    · exact List.mem_cons_of_mem _ (List.mem_cons_of_mem _ (zIts_mem r it h))
theorem z_front {l : List zIt} {it : zIt} (h : it ∈ l) : ∃ r, l.Perm (it :: r) := by
  obtain ⟨s, t, e⟩ := List.append_of_mem h
  exact ⟨s ++ t, by rw [e]; exact List.perm_middle⟩
theorem zP_perm {D : va_G} {cl : List vw_C} {ws ws' : va_W} {H : Heap} (hP : va_P D cl ws H) (h : ws.Perm ws') : va_P D cl ws' H := by
  intro k q hk
  obtain ⟨j, hj⟩ := List.getElem?_of_mem (h.mem_iff.mpr (List.mem_of_getElem? hk))
  exact hP j q hj
theorem zD_nd {A : Nat → Prop} {ws : va_W} : va_D A ws ↔ (ws.map Prod.fst).Nodup ∧ ∀ q, q ∈ ws → A q.1 := by
  constructor
  · rintro ⟨h1, h2⟩
    refine ⟨List.pairwise_iff_getElem.mpr fun i j hi hj hij e => ?_, fun q hq => ?_⟩
    · have hi' : i < ws.length := by simpa using hi
      have hj' : j < ws.length := by simpa using hj
      have h3 := h1 i j _ _ (List.getElem?_eq_getElem hi') (List.getElem?_eq_getElem hj') (by simpa using e)
      omega
    · obtain ⟨k, hk⟩ := List.getElem?_of_mem hq
      exact h2 k q hk
  · rintro ⟨h1, h2⟩
    have h3 := List.pairwise_iff_getElem.mp h1
    refine ⟨fun i j p q hp hq e => ?_, fun k q hk => h2 q (List.mem_of_getElem? hk)⟩
    obtain ⟨hi, ei⟩ := List.getElem?_eq_some_iff.mp hp
    obtain ⟨hj, ej⟩ := List.getElem?_eq_some_iff.mp hq
    rcases Nat.lt_trichotomy i j with h | h | h
    · have h4 : (ws.map Prod.fst)[i]'(by simpa using hi) ≠ (ws.map Prod.fst)[j]'(by simpa using hj) := h3 i j _ _ h
      rw [List.getElem_map, List.getElem_map, ei, ej] at h4
      exact absurd e h4
    · exact h
    · have h4 : (ws.map Prod.fst)[j]'(by simpa using hj) ≠ (ws.map Prod.fst)[i]'(by simpa using hi) := h3 j i _ _ h
      rw [List.getElem_map, List.getElem_map, ei, ej] at h4
      exact absurd e.symm h4
theorem zD_perm {A : Nat → Prop} {ws ws' : va_W} (hD : va_D A ws) (h : ws.Perm ws') : va_D A ws' := by
  obtain ⟨h1, h2⟩ := zD_nd.mp hD
  exact zD_nd.mpr ⟨(h.map Prod.fst).nodup_iff.mp h1, fun q hq => h2 q (h.mem_iff.mpr hq)⟩
theorem zD_reT {A : Nat → Prop} {ws ws' tl : va_W} (h : va_D A (ws ++ tl)) (e : ws'.map Prod.fst = ws.map Prod.fst) : va_D A (ws' ++ tl) := zD_re h (by rw [List.map_append, List.map_append, e])
/-- the items are apart from one another -/
theorem zits_uq {A : Nat → Prop} {cI : ClassId} {ws : va_W} {it : zIt} {r : List zIt} (hD : va_D A (ws ++ zIts cI (it :: r))) : ∀ it', it' ∈ it :: r → it'.1 = it.1 → it' = it := by
  intro it' h e
  rcases List.mem_cons.mp h with h | h
  · exact h
  · obtain ⟨k, hk⟩ := List.getElem?_of_mem (zIts_mem (cI := cI) r it' h)
    have h1 : (ws ++ zIts cI (it :: r))[ws.length]? = some (it.1, .inr (0, [.int (nI it.2.1), .int (nI it.2.2.1), .ref it.2.2.2.1])) := by
      rw [List.getElem?_append_right (Nat.le_refl _), Nat.sub_self]; rfl
    have h2 : (ws ++ zIts cI (it :: r))[ws.length + (k + 2)]? = some (it'.1, .inr (0, [.int (nI it'.2.1), .int (nI it'.2.2.1), .ref it'.2.2.2.1])) := by
      rw [List.getElem?_append_right (by omega), show ws.length + (k + 2) - ws.length = k + 2 by omega]; exact hk
    have h3 := hD.1 _ _ _ _ h1 h2 e.symm
    omega
theorem zits_ne {A : Nat → Prop} {cI : ClassId} {ws : va_W} {it : zIt} {r : List zIt} (hD : va_D A (ws ++ zIts cI (it :: r))) : ∀ it', it' ∈ r → it'.1 ≠ it.1 := by
  intro it' h e
  obtain ⟨k, hk⟩ := List.getElem?_of_mem (zIts_mem (cI := cI) r it' h)
  have h1 : (ws ++ zIts cI (it :: r))[ws.length]? = some (it.1, .inr (0, [.int (nI it.2.1), .int (nI it.2.2.1), .ref it.2.2.2.1])) := by
    rw [List.getElem?_append_right (Nat.le_refl _), Nat.sub_self]; rfl
  have h2 : (ws ++ zIts cI (it :: r))[ws.length + (k + 2)]? = some (it'.1, .inr (0, [.int (nI it'.2.1), .int (nI it'.2.2.1), .ref it'.2.2.2.1])) := by
    rw [List.getElem?_append_right (by omega), show ws.length + (k + 2) - ws.length = k + 2 by omega]; exact hk
  have h3 := hD.1 _ _ _ _ h1 h2 e.symm
  omega
/-! the sheets and shelves, by their items -/
theorem sh_mem {its its' : List zIt} {sheets : Nat → Option Nat} {so sz : Nat → Int32} {rsh : Nat → Int64} (h : ShR its sheets so sz rsh) (hm : ∀ it, it ∈ its → it ∈ its') : ShR its' sheets so sz rsh :=
  ⟨fun s hs => (h.1 s hs).elim Or.inl fun ⟨it, h1, h2⟩ => Or.inr ⟨it, hm it h1, h2⟩, h.2⟩
theorem sv_mem {its its' : List zIt} {A B D E F : Nat → Int32} {C : Nat → Option Nat} (h : SvR its A B C D E F) (hm : ∀ it, it ∈ its → ∃ it', it' ∈ its' ∧ it'.1 = it.1 ∧ it'.2.1 = it.2.1 ∧ it'.2.2.1 = it.2.2.1) : SvR its' A B C D E F := by
  intro k hk
  obtain ⟨h1, h2⟩ := h k hk
  refine ⟨?_, ?_⟩
  · rcases h1 with h1 | h1 | ⟨a1, a2, it, i1, i2, i3, i4, i5, i6⟩
    · exact Or.inl h1
    · exact Or.inr (Or.inl h1)
    · obtain ⟨it', j1, j2, j3, j4⟩ := hm it i1
      exact Or.inr (Or.inr ⟨a1, a2, it', j1, by rw [j2]; exact i2, by rw [j3]; exact i3, by rw [j4]; exact i4, by rw [j3]; exact i5, by rw [j4]; exact i6⟩)
  · rcases h2 with h2 | ⟨it, i1, i2⟩
    · exact Or.inl h2
    · obtain ⟨it', j1, j2, _⟩ := hm it i1
      exact Or.inr ⟨it', j1, by rw [j2]; exact i2⟩
theorem sh_put {it : zIt} {r : List zIt} {sheets : Nat → Option Nat} {so sz : Nat → Int32} {rsh rsh' : Nat → Int64} {s : Nat} {f : Nat → Int32} (h : ShR (it :: r) sheets so sz rsh) (hs : s < 4) (hi : ItR s it sheets so sz rsh) (hu : ∀ it', it' ∈ it :: r → it'.1 = it.1 → it' = it)
    (h1 : ∀ j, j < it.2.2.1 → rsh' (40 * s + j) = (f j).toInt64) (h2 : ∀ k, k < 40 * s ∨ 40 * s + 40 ≤ k → rsh' k = rsh k) : ShR ((it.1, it.2.1, it.2.2.1, it.2.2.2.1, f) :: r) sheets so sz rsh' := by
  refine ⟨fun t ht => ?_, h.2⟩
  by_cases e : t = s
  · subst e
    exact Or.inr ⟨_, List.mem_cons_self, hi.1, hi.2.1, hi.2.2.1, hi.2.2.2.1, hi.2.2.2.2.1, h1⟩
  · rcases h.1 t ht with h3 | ⟨jt, j1, j2, j3, j4, j5, j6, j7⟩
    · exact Or.inl h3
    · refine Or.inr ⟨jt, ?_, j2, j3, j4, j5, j6, fun j hj => ?_⟩
      · rcases List.mem_cons.mp j1 with h3 | h3
        · subst h3
          exact absurd (h.2 t s _ ht hs j2 hi.1) e
        · exact List.mem_cons_of_mem _ h3
      · rw [h2 _ (by omega)]; exact j7 j hj
theorem sh_drop {its : List zIt} {sheets : Nat → Option Nat} {so sz so' sz' : Nat → Int32} {rsh rsh' : Nat → Int64} {s : Nat} (h : ShR its sheets so sz rsh) (hs : s < 4) (h2 : ∀ k, k < 40 * s ∨ 40 * s + 40 ≤ k → rsh' k = rsh k) (e1 : so' = upd so s (-1)) (e2 : sz' = upd sz s (nI 0)) : ShR its (va_up sheets s none) so' sz' rsh' := by
  subst e1; subst e2
  refine ⟨fun t ht => ?_, fun t t' a ht ht' k1 k2 => ?_⟩
  · by_cases e : t = s
    · subst e
      exact Or.inl ⟨by simp [va_up], by simp [upd]⟩
    · rcases h.1 t ht with ⟨g1, g2⟩ | ⟨jt, j1, j2, j3, j4, j5, j6, j7⟩
      · exact Or.inl ⟨by simp [va_up, e, g1], by simp [upd, e, g2]⟩
      · exact Or.inr ⟨jt, j1, by simp [va_up, e, j2], j3, j4, by simp [upd, e, j5], by simp [upd, e, j6], fun j hj => by rw [h2 _ (by omega)]; exact j7 j hj⟩
  · have n1 : t ≠ s := by intro e; subst e; simp [va_up] at k1
    have n2 : t' ≠ s := by intro e; subst e; simp [va_up] at k2
    exact h.2 t t' a ht ht' (by simpa [va_up, n1] using k1) (by simpa [va_up, n2] using k2)
theorem sh_new {its : List zIt} {sheets : Nat → Option Nat} {so sz so' sz' : Nat → Int32} {rsh rsh' : Nat → Int64} {s q st L qv : Nat} (h : ShR its sheets so sz rsh) (hs : s < 4) (hst : st ≤ 3) (hL : L ≤ 40) (hq : ∀ it, it ∈ its → it.1 ≠ q) (h2 : ∀ k, k < 40 * s ∨ 40 * s + 40 ≤ k → rsh' k = rsh k) (h3 : ∀ i, i < 40 → rsh' (40 * s + i) = lN 0) (e1 : so' = upd so s (nI st)) (e2 : sz' = upd sz s (nI L)) : ShR ((q, st, L, qv, fun _ => 0) :: its) (va_up sheets s (some q)) so' sz' rsh' := by
  subst e1; subst e2
  have hz : ∀ t, t < 4 → t ≠ s → sheets t ≠ some q := by
    intro t ht e k
    rcases h.1 t ht with ⟨g1, _⟩ | ⟨jt, j1, j2, _⟩
    · rw [g1] at k; cases k
    · rw [j2] at k; exact hq jt j1 (Option.some.inj k)
  refine ⟨fun t ht => ?_, fun t t' a ht ht' k1 k2 => ?_⟩
  · by_cases e : t = s
    · subst e
      exact Or.inr ⟨_, List.mem_cons_self, by simp [va_up], hst, hL, by simp [upd], by simp [upd], fun j hj => by rw [h3 j (Nat.lt_of_lt_of_le hj hL)]; exact (show lN 0 = (0 : Int32).toInt64 by decide)⟩
    · rcases h.1 t ht with ⟨g1, g2⟩ | ⟨jt, j1, j2, j3, j4, j5, j6, j7⟩
      · exact Or.inl ⟨by simp [va_up, e, g1], by simp [upd, e, g2]⟩
      · exact Or.inr ⟨jt, List.mem_cons_of_mem _ j1, by simp [va_up, e, j2], j3, j4, by simp [upd, e, j5], by simp [upd, e, j6], fun j hj => by rw [h2 _ (by omega)]; exact j7 j hj⟩
  · by_cases n1 : t = s
    · by_cases n2 : t' = s
      · rw [n1, n2]
      · subst n1
        have k3 : sheets t' = some a := by simpa [va_up, n2] using k2
        have k4 : q = a := by simpa [va_up] using k1
        exact absurd (by rw [k3, k4]) (hz t' ht' n2)
    · have k3 : sheets t = some a := by simpa [va_up, n1] using k1
      by_cases n2 : t' = s
      · subst n2
        have k4 : q = a := by simpa [va_up] using k2
        exact absurd (by rw [k3, k4]) (hz t ht n1)
      · exact h.2 t t' a ht ht' k3 (by simpa [va_up, n2] using k2)
/-! calls with a tail behind the world -/
theorem zmerge_none : ∀ (tl wc : va_W), zmerge tl (List.replicate tl.length none) wc = tl
  | [], _ => rfl
  | c :: cs, wc => by
    show c :: zmerge cs (List.replicate cs.length none) wc = c :: cs
    rw [zmerge_none cs wc]
theorem zmerge_app : ∀ (ws : va_W) (os : List (Option Nat)) (wc tl : va_W), os.length = ws.length → zmerge (ws ++ tl) (os ++ List.replicate tl.length none) wc = zmerge ws os wc ++ tl
  | [], [], wc, tl, _ => zmerge_none tl wc
  | [], _ :: _, _, _, h => by cases h
  | _ :: _, [], _, _, h => by cases h
  | c :: cs, none :: os, wc, tl, h => by
    show c :: zmerge (cs ++ tl) (os ++ List.replicate tl.length none) wc = c :: (zmerge cs os wc ++ tl)
    rw [zmerge_app cs os wc tl (Nat.succ.inj h)]
  | c :: cs, some j :: os, wc, tl, h => by
    show (wc[j]?.getD c) :: zmerge (cs ++ tl) (os ++ List.replicate tl.length none) wc = (wc[j]?.getD c) :: (zmerge cs os wc ++ tl)
    rw [zmerge_app cs os wc tl (Nat.succ.inj h)]
theorem zokO_none (n : Nat) : ∀ k, zokO n (List.replicate k none) = true
  | 0 => rfl
  | k + 1 => by
    show zokO n (List.replicate k none) = true
    exact zokO_none n k
theorem zokO_app (n : Nat) : ∀ (os : List (Option Nat)) (k : Nat), zokO n os = true → zokO n (os ++ List.replicate k none) = true
  | [], k, _ => zokO_none n k
  | none :: os, k, h => zokO_app n os k h
  | some j :: os, k, h => by
    have h1 : (decide (j < n) && zokO n os) = true := h
    rw [Bool.and_eq_true] at h1
    show (decide (j < n) && zokO n (os ++ List.replicate k none)) = true
    rw [Bool.and_eq_true]
    exact ⟨h1.1, zokO_app n os k h1.2⟩
theorem zokI_none (is : List Nat) : ∀ (k i : Nat), (∀ x ∈ is, x < i) → zokI is (List.replicate k none) i = true
  | 0, _, _ => rfl
  | k + 1, i, h => by
    show (decide (i ∉ is) && zokI is (List.replicate k none) (i + 1)) = true
    rw [Bool.and_eq_true]
    exact ⟨decide_eq_true fun q => Nat.lt_irrefl i (h i q), zokI_none is k (i + 1) fun x hx => Nat.lt_succ_of_lt (h x hx)⟩
theorem zokI_app (is : List Nat) : ∀ (os : List (Option Nat)) (k i : Nat), (∀ x ∈ is, x < i + os.length) → zokI is os i = true → zokI is (os ++ List.replicate k none) i = true
  | [], k, i, h, _ => zokI_none is k i (fun x hx => h x hx)
  | none :: os, k, i, h, g => by
    have h1 : (decide (i ∉ is) && zokI is os (i + 1)) = true := g
    rw [Bool.and_eq_true] at h1
    show (decide (i ∉ is) && zokI is (os ++ List.replicate k none) (i + 1)) = true
    rw [Bool.and_eq_true]
    exact ⟨h1.1, zokI_app is os k (i + 1) (fun x hx => by have := h x hx; rw [List.length_cons] at this; omega) h1.2⟩
  | some j :: os, k, i, h, g => zokI_app is os k (i + 1) (fun x hx => by have := h x hx; rw [List.length_cons] at this; omega) g
theorem zC_lt {ws wc : va_W} {is : List Nat} (hC : is.map (fun i => ws[i]?) = wc.map some) : ∀ i ∈ is, i < ws.length := by
  intro i hi
  have h4 : ws[i]? ∈ wc.map some := by rw [← hC]; exact List.mem_map.mpr ⟨i, hi, rfl⟩
  obtain ⟨x, _, hx⟩ := List.mem_map.mp h4
  exact (List.getElem?_eq_some_iff.mp hx.symm).1
theorem zC_app {ws wc : va_W} {is : List Nat} (tl : va_W) (hC : is.map (fun i => ws[i]?) = wc.map some) : is.map (fun i => (ws ++ tl)[i]?) = wc.map some := by
  rw [← hC]
  exact List.map_congr_left fun i hi => List.getElem?_append_left (zC_lt hC i hi)
section ZL
variable {p : Program} {l : Launch} {e : Env} {R : Room} {s : State} {m : MethodId} {args : Array Value} {below : List Frame} {meth : Method} {c : Code} {H : Heap} {locs : List Loc} {cells slots : Nat} {Q : State → Prop}
variable {pc : Nat} {ls : Array Slot} {st0 rest : List Value} {a : Array Value} {A0 : Nat → Prop} {D : va_G} {ws wc wc' ws' wr : va_W}
theorem zq_callMT {oc0 : Option Value} {as : List Nat} {tl : va_W} (hr : va_Run p l e R s m args below meth c H locs cells slots 0 0 (F0 m pc ls st0) rest (zPM oc0 D wc' (zAs as) a) (zAs as)) (has : wc.map Prod.fst = as) (hP : va_P D vwCl (ws ++ tl) H) (hD : va_D A0 (ws ++ tl)) (hS : va_S A0 s.heap H locs) (is : List Nat) (hC : is.map (fun i => ws[i]?) = wc.map some) (hd : wc'.map Prod.fst = wc.map Prod.fst) (os : List (Option Nat)) (h1 : zokO is.length os = true) (h2 : zokI is os 0 = true) (h3 : os.length = ws.length) (hw : zmerge ws os wc' = ws')
    (kk : ∀ (H1 : Heap) (locs1 : List Loc), va_P D vwCl (ws' ++ tl) H1 → va_S A0 s.heap H1 locs1 → W p l e R s m args below meth c H1 locs1 cells slots Q (F0 m (pc + 3) ls (oc0.toList ++ rest))) : W p l e R s m args below meth c H locs cells slots Q (F0 m pc ls st0) :=
  zq_callM hr has hP hD hS is (zC_app tl hC) hd (os ++ List.replicate tl.length none) (zokO_app _ _ _ h1) (zokI_app _ _ _ _ (fun x hx => by rw [h3, Nat.zero_add]; exact zC_lt hC x hx) h2) (by rw [List.length_append, List.length_append, List.length_replicate, h3]) (by rw [zmerge_app _ _ _ _ h3, hw]) kk
theorem zq_callAT {oc0 : Option Value} {mc ms : Nat} {Pw : va_W → Prop} {as : List Nat} {tl : va_W} (hr : va_Run p l e R s m args below meth c H locs cells slots mc ms (F0 m pc ls st0) rest (zPA oc0 D Pw (zAn as H.size) a) (zAn as H.size)) (has : wc.map Prod.fst = as) (hP : va_P D vwCl (ws ++ tl) H) (hD : va_D A0 (ws ++ tl)) (hS : va_S A0 s.heap H locs) (hA : ∀ q, s.heap.size ≤ q → A0 q) (isC isR : List Nat) (hC : isC.map (fun i => ws[i]?) = wc.map some) (hR : isR.map (fun i => ws[i]?) = wr.map some) (hn : va_nd isR = true) (hdis : ∀ i ∈ isR, i ∉ isC)
    (kk : ∀ (ws1 : va_W) (H1 : Heap) (locs1 : List Loc), Pw ws1 → va_P D vwCl ((wr ++ ws1) ++ tl) H1 → va_D A0 ((wr ++ ws1) ++ tl) → va_S A0 s.heap H1 locs1 → W p l e R s m args below meth c H1 locs1 (cells + mc) (slots + ms) Q (F0 m (pc + 3) ls (oc0.toList ++ rest))) : W p l e R s m args below meth c H locs cells slots Q (F0 m pc ls st0) := by
  subst has
  have hf := zAn_sub hD hS hA isC (zC_app tl hC)
  have hva : ∀ q, va_A wc H.size q ↔ zAn (wc.map Prod.fst) H.size q := by
    intro q
    constructor
    · rintro (⟨k, e, h⟩ | h)
      · exact Or.inl (List.mem_map.mpr ⟨(q, e), List.mem_of_getElem? h, rfl⟩)
      · exact Or.inr h
    · rintro (h | h)
      · obtain ⟨x, hx, rfl⟩ := List.mem_map.mp h
        obtain ⟨k, hk⟩ := List.getElem?_of_mem hx
        exact Or.inl ⟨k, x.2, hk⟩
      · exact Or.inr h
  intro T hT X
  obtain ⟨v, st₀, t, T', L, h0, X', hL, e1, e2, ⟨hv, ⟨ws1, hPw, hP1, hD1⟩, hz, hk⟩, st⟩ := hr T hT X
  cases hv
  rw [h0] at hz hk
  obtain ⟨j1, j2⟩ := va_joinQ (H1 := T'.heap) hP hD isC isR hC hR hn hdis (fun q h1 h2 => by rw [e1]; exact hk q h1 (fun z => h2 ((hva q).mpr z))) (fun q h => hf q ((hva q).mp h)) (by rw [e1]; exact hP1) ⟨hD1.1, fun k q hq => (hva q.1).mpr (hD1.2 k q hq)⟩
  obtain ⟨t2, a1, b1⟩ := kk ws1 T'.heap (locs ++ L) hPw j1 j2
    ⟨Nat.le_trans hS.1 (by rw [e1]; exact hz), fun q h1 h2 => by rw [e1, hk q (Nat.lt_of_lt_of_le h1 hS.1) (fun z => h2 (hf q z))]; exact hS.2.1 q h1 h2, fun q hq => by
      rcases List.mem_append.mp hq with h | h
      · exact hS.2.2 q h
      · exact hf _ (hL q h)⟩ T' rfl X'
  exact ⟨t2, st t2 a1, b1⟩
end ZL
section ZLA
variable {p : Program} {l : Launch} {e : Env} {R : Room} {s : State} {m : MethodId} {args : Array Value} {below : List Frame} {meth : Method} {c : Code} {H : Heap} {locs : List Loc} {cells slots : Nat} {Q : State → Prop}
variable {b L i pc : Nat} {xs : Nat → Int32} {v1 v2 : Value} {ls : Array Slot} {st : List Value}
/-- an int of the script on the stack -/
theorem lw_arg (hx : p.tables.exec = Jvm.exec) (hb : c.code = cL_law) (hX : va_X b L xs s s.heap) (hbl : b < s.heap.size) (hS : va_S (fun q => s.heap.size ≤ q) s.heap H locs) (hl : lv_has ls 4 [(0, .ref b), (1, v1), (2, v2), (3, .int (nI i))]) (hi : i + 5 ≤ L) (hL : L ≤ 2560) {k : Nat} (hk : k < 5) {z : Int} (hz : Int32.ofInt z = nI k)
    (d0 : decode cL_law pc = .ok (.aload_n 0, 1)) (d1 : decode cL_law (pc + 1) = .ok (.iload_n 3, 1)) (d2 : decode cL_law (pc + 1 + 1) = .ok (.iconst z, 1)) (d3 : decode cL_law (pc + 1 + 1 + 1) = .ok (.iadd, 1)) (d4 : decode cL_law (pc + 1 + 1 + 1 + 1) = .ok (.iaload, 1))
    (kk : W p l e R s m args below meth c H locs cells slots Q (F0 m (pc + 1 + 1 + 1 + 1 + 1) ls (.int (xs (i + k)) :: st))) : W p l e R s m args below meth c H locs cells slots Q (F0 m pc ls st) := by
  refine lv_aload_n hx hb d0 rfl (lv_at hl 0 rfl) ?_
  refine lv_iload_n hx hb d1 rfl (lv_at hl 3 rfl) ?_
  refine lv_iconst (v := nI k) hx hb d2 hz ?_
  refine lv_iadd hx hb d3 ?_
  rw [nI_add]
  refine va_sld hx hb hX hbl (Nat.not_le.mpr hbl) hS (vp_in_nI (show i + k < L by omega) (by omega)) d4 ?_
  rw [nI_clamp (show i + k < 2 ^ 31 by omega)]
  exact kk
end ZLA
theorem z_fm : ∀ (ws : va_W), (ws.map some).filterMap id = ws
  | [] => rfl
  | c :: cs => by
    show c :: (cs.map some).filterMap id = c :: cs
    rw [z_fm cs]
theorem zperm_of {ws ws' : va_W} (p : List Nat) (h1 : p.map (fun i => ws[i]?) = ws'.map some) (h2 : p.Perm (List.range 66)) (h3 : ws.length = 66) : ws.Perm ws' := by
  have h4 : (List.range 66).map (fun i => ws[i]?) = ws.map some := by
    rw [← h3]
    refine List.ext_getElem? fun i => ?_
    by_cases h : i < ws.length
    · simp [h]
    · simp [h]
  have h5 : (ws'.map some).Perm (ws.map some) := by rw [← h1, ← h4]; exact h2.map _
  have h6 := h5.filterMap id
  rw [z_fm, z_fm] at h6
  exact h6.symm
theorem sv_cases {its : List zIt} {A B D E F : Nat → Int32} {C : Nat → Option Nat} (h : SvR its A B C D E F) (x : Int32) : (∀ s, s < 4 → x = nI s → C s = none) ∨ ∃ s it, s < 4 ∧ x = nI s ∧ it ∈ its ∧ C s = some it.1 := by
  by_cases q : ∃ s, s < 4 ∧ x = nI s
  · obtain ⟨s, hs, rfl⟩ := q
    rcases (h s hs).2 with h2 | ⟨it, i1, i2⟩
    · refine Or.inl fun s' hs' e => ?_
      have e2 : s = s' := (nI_eq (by omega) (by omega)).mp e
      rw [← e2]; exact h2
    · exact Or.inr ⟨s, it, hs, rfl, i1, i2⟩
  · exact Or.inl fun s hs e => absurd ⟨s, hs, e⟩ q
theorem kL_0 : Cond.constantLong RL 13 (lN 4294967295) ∈ wsL_law := by decide +kernel
