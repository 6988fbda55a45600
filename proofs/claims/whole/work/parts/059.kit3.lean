/-- methods that make cells: the cells of the world, and those from sz on -/
def zAn (as : List Nat) (sz : Nat) : Nat → Prop := fun q => q ∈ as ∨ sz ≤ q
def zPreA (D : va_G) (cB cI cJ cO : ClassId) (adK adV : Nat → Nat) (av : List Value) (ws : va_W) (as : List Nat) (sz : Nat) : Array Value → State → Prop := va_Pc av (fun U => U.heap.size = sz ∧ va_P D vwCl ws U.heap ∧ zE D cB cI cJ cO U ∧ va_D (fun _ => True) ws ∧ zS adK adV (zAn as sz) U U.heap)
def zPA (oc0 : Option Value) (D : va_G) (Pw : va_W → Prop) (A : Nat → Prop) : Array Value → State → Outcome → State → Prop := fun _ st oc t => oc = .returned oc0 ∧ (∃ ws' : va_W, Pw ws' ∧ va_P D vwCl ws' t.heap ∧ va_D A ws') ∧ va_F A st t
theorem zPreA_blind {D : va_G} {cB cI cJ cO : ClassId} {adK adV : Nat → Nat} {av : List Value} {ws : va_W} {as : List Nat} {sz : Nat} : FrameBlind (zPreA D cB cI cJ cO adK adV av ws as sz) := by
  intro a U g mk q
  obtain ⟨q0, qz, qP, qE, qD, qZ⟩ := q
  exact ⟨q0, qz, qP, zE.same (s := U) rfl qE, qD, zS.same (s := U) rfl qZ⟩
theorem zAn_sub {A0 : Nat → Prop} {ws wc : va_W} {H0 H : Heap} {locs : List Loc} (hD : va_D A0 ws) (hS : va_S A0 H0 H locs) (hA : ∀ q, H0.size ≤ q → A0 q) (is : List Nat) (hC : is.map (fun i => ws[i]?) = wc.map some) : ∀ q, zAn (wc.map Prod.fst) H.size q → A0 q := by
  intro q hq
  rcases hq with h | h
  · exact zAs_sub hD is hC q h
  · exact hA q (Nat.le_trans hS.1 h)
theorem zPreA_at {D : va_G} {cB cI cJ cO : ClassId} {adK adV : Nat → Nat} {av : List Value} {ws wc : va_W} {as : List Nat} {s : State} {H : Heap} {A : Nat → Prop} {locs : List Loc} (hP : va_P D vwCl ws H) (hE : zE D cB cI cJ cO s) (hD : va_D A ws) (hZ : zS adK adV A s s.heap) (hS : va_S A s.heap H locs) (hA : ∀ q, s.heap.size ≤ q → A q) (is : List Nat) (hn : va_nd is = true) (hC : is.map (fun i => ws[i]?) = wc.map some) (has : wc.map Prod.fst = as) : ∀ U : State, U.heap = H → s.WarmedH U.vm → zPreA D cB cI cJ cO adK adV av wc as H.size av.toArray U := by
  subst has
  exact fun U hU hW => ⟨rfl, by rw [hU], by rw [hU]; exact zP_pick hP is hC, zE.warm hW hE, (hD.sub is hn hC).weaken (fun _ _ _ _ => trivial), by rw [hU]; exact hZ.at hS (zAn_sub hD hS hA is hC) hW⟩
theorem zD_an {ws : va_W} {A : Nat → Prop} {sz : Nat} (h : va_D A ws) : va_D (zAn (ws.map Prod.fst) sz) ws := ⟨h.1, fun _ q hk => Or.inl (List.mem_map.mpr ⟨q, List.mem_of_getElem? hk, rfl⟩)⟩
theorem zMetA {l : Launch} {y : MethodName} {wsY ws' : List Cond} {rm : Room} {cc : ByteArray} {maxL mc ms : Nat} {ret : Option FieldType} {D : va_G} {cB cI cJ cO : ClassId} {adK adV : Nat → Nat} {av : List Value} {ws : va_W} {as : List Nat} {sz : Nat} {Qc : Array Value → State → Outcome → State → Prop} {lv : List (Nat × Value)} (has : ws.map Prod.fst = as) (hy : plainName y.cls = true) (hw : wsY = Cond.code y cc maxL ret :: ws') (hlen : (lg_sl av).length ≤ maxL) (hlv : lv_args 0 av = lv)
    (body : ∀ (p : Program) (e : Env) (s : State) (m : MethodId) (args : Array Value) (below : List Frame) (meth : Method) (c : Code) (ls : Array Slot) (Q : State → Prop) (H : Heap) (locs : List Loc), Q = MQ below Qc args s mc ms (zAn as sz) → p.tables.exec = Jvm.exec → c.code = cc → meth.sig.returnType = ret → c.maxLocals = maxL → s.vm.findClass y.cls = some m.cls → (∀ w ∈ wsY, w.before args s = true) → meth.locks = false → meth.name = y.name → va_P D vwCl ws H → zE D cB cI cJ cO s → va_D (zAn as sz) ws → va_S (zAn as sz) s.heap H locs → zS adK adV (zAn as sz) s s.heap → (∀ q, s.heap.size ≤ q → zAn as sz q) → lv_has ls maxL lv → W p l e rm s m args below meth c H locs 0 0 Q (F0 m 0 ls [])) :
    Met l y wsY rm (zPreA D cB cI cJ cO adK adV av ws as sz) Qc mc ms (zAn as sz) := by
  refine Met.ofW (cc := cc) (maxL := maxL) (ret := ret) hy hw ?_
  intro p e s m args below meth c s₁ B hml hv
  obtain ⟨rfl, hsz, hP, hE, hD, hZ⟩ := hv
  have hl := lv_entry av (n := maxL) hlen
  rw [lg_entry_eq]
  generalize (lg_sl av ++ List.replicate (maxL - (lg_sl av).length) Slot.unset).toArray = ls at hl ⊢
  subst hlv
  subst has
  subst hsz
  exact body p e s m _ below meth c ls _ _ _ rfl B.exec B.bytes B.returns hml (findClass_of_methodNamed B.named) (atoms_spec (ws := wsY) B.pre) B.notSynchronized (name_of_methodNamed B.named B.method).1 hP hE (zD_an hD) va_S.rf hZ (fun q h => Or.inr h) hl
section ZA
variable {p : Program} {l : Launch} {e : Env} {R : Room} {s : State} {m : MethodId} {args : Array Value} {below : List Frame} {meth : Method} {c : Code} {H : Heap} {locs : List Loc} {cells slots : Nat} {Q : State → Prop}
variable {cc : ByteArray} {pc : Nat} {ls : Array Slot} {st0 rest : List Value} {D : va_G} {A A0 : Nat → Prop} {cB cI cJ cO : ClassId} {ws wc wr : va_W} {a : Array Value}
theorem zE_arr {cA : ClassId} {k : Nat} {ty : FieldType} {U : State} {c0 : ClassId} (hE : va_K D vwCl (zTy cB cI cJ cO) U) (h : va_K D vwCl (zTy cB cI cJ cO ++ [(cA, ty)]) U) (hk : (zTy cB cI cJ cO)[k]? = some (c0, ty)) : cA = c0 := by
  have h1 := (hE.2 k _ hk).2
  have h2 := (h.2 4 (cA, ty) rfl).2
  cases ty with
  | object C =>
    obtain ⟨_, _, _, _, _, e1⟩ := h1
    obtain ⟨_, _, _, _, _, e2⟩ := h2
    exact Option.some.inj (e2.symm.trans e1)
  | _ => exact Option.some.inj (h2.symm.trans h1)
theorem za_newa (hx : p.tables.exec = Jvm.exec) (hb : c.code = cc) {atype : ArrayType} (harr : (Cond.arrayClass (newarray.typeOf atype)).before args s = true) {ty : FieldType} (hty : newarray.typeOf atype = ty) (hK : va_K D vwCl (zTy cB cI cJ cO) s) (hP : va_P D vwCl ws H) (hD : va_D A ws) (hS : va_S A s.heap H locs) (hA : ∀ q, s.heap.size ≤ q → A q) (k : Nat) {c0 : ClassId} (hk : (zTy cB cI cJ cO)[k]? = some (c0, ty))
    {n : Int32} {N' : Nat} {a0 : vp_A} (ha : ∀ cA : ClassId, vp_cell cA a0 = arrV cA N' (fun _ => defaultValue ty)) (hn : ¬ n < 0) (hN : n.toNatClampNeg = N') (hbytes : N' * componentBytes ty ≤ 536870912) (hcells : cells + 1 ≤ R.cells) (hslots : slots + N' ≤ R.slots) (hdg : decode cc pc = .ok (.newarray atype, 2))
    (kk : ∀ (q : Nat) (H1 : Heap), va_P D vwCl (ws ++ [(q, .inl (c0, a0))]) H1 → va_D A (ws ++ [(q, .inl (c0, a0))]) → va_S A s.heap H1 locs → W p l e R s m args below meth c H1 locs (cells + 1) (slots + N') Q (F0 m (pc + 2) ls (.ref q :: rest))) : W p l e R s m args below meth c H locs cells slots Q (F0 m pc ls (.int n :: rest)) := by
  refine va_newa hx hb harr hty hK hP hD hS hA ha hn hN hbytes hcells hslots hdg (fun q cA H1 hK1 hP1 hD1 hS1 => ?_)
  have e := zE_arr hK hK1 hk
  subst e
  exact kk q H1 hP1 hD1 hS1
theorem za_newq (hx : p.tables.exec = Jvm.exec) (hb : c.code = cc) {own : String} {index : Nat} (hown : s.vm.findClass own = some m.cls) (hclink : (Cond.classLink own index RX0).before args s = true) (hover : va_AO RX0 s) (hK : va_K D vwCl (zTy cB cI cJ cO) s) (hP : va_P D vwCl ws H) (hD : va_D A ws) (hS : va_S A s.heap H locs) (hA : ∀ q, s.heap.size ≤ q → A q)
    {n : Int32} {N' : Nat} (hn : ¬ n < 0) (hN : n.toNatClampNeg = N') (hbytes : N' * 4 ≤ 536870912) (hcells : cells + 1 ≤ R.cells) (hslots : slots + N' ≤ R.slots) (hdg : decode cc pc = .ok (.anewarray index, 3))
    (kk : ∀ (q : Nat) (H1 : Heap), va_P D vwCl (ws ++ [(q, .inl (cO, N', .inr (.inr (.inr (.inr (fun _ => none))))))]) H1 → va_D A (ws ++ [(q, .inl (cO, N', .inr (.inr (.inr (.inr (fun _ => none))))))]) → va_S A s.heap H1 locs → W p l e R s m args below meth c H1 locs (cells + 1) (slots + N') Q (F0 m (pc + 3) ls (.ref q :: rest))) : W p l e R s m args below meth c H locs cells slots Q (F0 m pc ls (.int n :: rest)) := by
  refine va_newq hx hb hown hclink hover hK hP hD hS hA hn hN hbytes hcells hslots hdg (fun q cA H1 hK1 hP1 hD1 hS1 => ?_)
  have e := zE_arr (k := 3) hK hK1 rfl
  subst e
  exact kk q H1 hP1 hD1 hS1
theorem zq_callA {oc0 : Option Value} {mc ms : Nat} {Pw : va_W → Prop} {as : List Nat} (hr : va_Run p l e R s m args below meth c H locs cells slots mc ms (F0 m pc ls st0) rest (zPA oc0 D Pw (zAn as H.size) a) (zAn as H.size)) (has : wc.map Prod.fst = as) (hP : va_P D vwCl ws H) (hD : va_D A0 ws) (hS : va_S A0 s.heap H locs) (hA : ∀ q, s.heap.size ≤ q → A0 q) (isC isR : List Nat) (hC : isC.map (fun i => ws[i]?) = wc.map some) (hR : isR.map (fun i => ws[i]?) = wr.map some) (hn : va_nd isR = true) (hdis : ∀ i ∈ isR, i ∉ isC)
    (kk : ∀ (ws1 : va_W) (H1 : Heap) (locs1 : List Loc), Pw ws1 → va_P D vwCl (wr ++ ws1) H1 → va_D A0 (wr ++ ws1) → va_S A0 s.heap H1 locs1 → W p l e R s m args below meth c H1 locs1 (cells + mc) (slots + ms) Q (F0 m (pc + 3) ls (oc0.toList ++ rest))) : W p l e R s m args below meth c H locs cells slots Q (F0 m pc ls st0) := by
  subst has
  have hf := zAn_sub hD hS hA isC hC
  have hva : ∀ q, va_A wc H.size q ↔ zAn (wc.map Prod.fst) H.size q := by
    intro q
    constructor
    · rintro (⟨k, e, h⟩ | h)
      · exact Or.inl (List.mem_map.mpr ⟨(q, e), List.mem_of_getElem? h, rfl⟩)
      · exact Or.inr h
    · rintro (h | h)
      · obtain ⟨x, hx, rfl⟩ := List.mem_map.mp h
        obtain ⟨k, hk⟩ := List.getElem?_of_mem hx
        exact Or.inl ⟨k, x.2, hk⟩
      · exact Or.inr h
  intro T hT X
  obtain ⟨v, st₀, t, T', L, h0, X', hL, e1, e2, ⟨hv, ⟨ws1, hPw, hP1, hD1⟩, hz, hk⟩, st⟩ := hr T hT X
  cases hv
  rw [h0] at hz hk
  obtain ⟨j1, j2⟩ := va_join (H1 := T'.heap) hP hD isC isR hC hR hn hdis (fun q h1 h2 => by rw [e1]; exact hk q h1 (fun z => h2 ((hva q).mpr z))) (fun q h => hf q ((hva q).mp h)) (by rw [e1]; exact hP1) ⟨hD1.1, fun k q hq => (hva q.1).mpr (hD1.2 k q hq)⟩
  obtain ⟨t2, a1, b1⟩ := kk ws1 T'.heap (locs ++ L) hPw j1 j2
    ⟨Nat.le_trans hS.1 (by rw [e1]; exact hz), fun q h1 h2 => by rw [e1, hk q (Nat.lt_of_lt_of_le h1 hS.1) (fun z => h2 (hf q z))]; exact hS.2.1 q h1 h2, fun q hq => by
      rcases List.mem_append.mp hq with h | h
      · exact hS.2.2 q h
      · exact hf _ (hL q h)⟩ T' rfl X'
  exact ⟨t2, st t2 a1, b1⟩
theorem z_vretA {Pw : va_W → Prop} (hx : p.tables.exec = Jvm.exec) (hb : c.code = cc) (hr : meth.sig.returnType = none) (hlocks : meth.locks = false) (hP : va_P D vwCl ws H) (hD : va_D A ws) (hS : va_S A s.heap H locs) (hw : Pw ws) {mc ms : Nat} (h1 : cells ≤ mc) (h2 : slots ≤ ms) (hQ : Q = MQ below (zPA none D Pw A) args s mc ms A) (hdg : decode cc pc = .ok (.return_, 1)) : W p l e R s m args below meth c H locs cells slots Q (F0 m pc ls []) := by
  subst hQ
  exact W.widen h1 h2 (W.vret hx hb hr (fun t ht _ => ⟨rfl, ⟨ws, hw, by rw [ht]; exact hP, hD⟩, hS.F ht⟩) hS.2.2 hdg hlocks)
theorem z_iretA {v : Int32} {Pw : va_W → Prop} (hx : p.tables.exec = Jvm.exec) (hb : c.code = cc) (hr : meth.sig.returnType = some .int) (hlocks : meth.locks = false) (hP : va_P D vwCl ws H) (hD : va_D A ws) (hS : va_S A s.heap H locs) (hw : Pw ws) {mc ms : Nat} (h1 : cells ≤ mc) (h2 : slots ≤ ms) (hQ : Q = MQ below (zPA (some (.int v)) D Pw A) args s mc ms A) (hdg : decode cc pc = .ok (.ireturn, 1)) : W p l e R s m args below meth c H locs cells slots Q (F0 m pc ls [.int v]) := by
  subst hQ
  exact W.widen h1 h2 (W.iret hx hb hr (fun t ht _ => ⟨rfl, ⟨ws, hw, by rw [ht]; exact hP, hD⟩, hS.F ht⟩) hS.2.2 hdg hlocks)
end ZA
def zPick (ws : va_W) (is : List Nat) : va_W := is.filterMap (fun i => ws[i]?)
theorem z_le40 {x : Int32} (h0 : ¬ x < 0) (h : ¬ nI 40 < x) : x.toNatClampNeg ≤ 40 := by
  rw [Int32.lt_iff_toInt_lt, nI_toInt (by omega)] at h
  show x.toInt.toNat ≤ 40
  omega
