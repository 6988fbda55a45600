/-- static tables, and the String constants -/
def zcp : List Nat := [49, 67, 76, 82, 94, 108, 110, 112, 114, 116, 118, 120, 122, 124, 126, 128, 130, 132]
def ztx : List String := ["wall", "on", "hand", "size", "seen", "name", "fresh", "covered", "tempted", "grown", "kept", "old", "grey", "wax", "buckets", "lure", "scrub", "fear"]
def zTab (nm : String) (N : Nat) (f : Nat → Int32) (A : Nat → Prop) (U : State) (H : Heap) : Prop := ∃ t : Nat, va_Z "PaintedWalls" nm "[I" (.ref t) A U H ∧ va_T .int t N (fun j => .int (f j)) A U H
def zS (adK adV : Nat → Nat) (A : Nat → Prop) (U : State) (H : Heap) : Prop := zTab "FIRST_LAWS" 4 zf_first A U H ∧ zTab "MOST_LAWS" 4 zf_most A U H ∧ zTab "ABOVE" 6 zf_above A U H ∧ vk_S 18 zlen zbyt adK adV A U H ∧ (∀ i : Nat, i < 18 → vk_R RX3 (zcp.getD i 0) (ztx.getD i "") (adK i) U) ∧ va_Z "java/lang/String" "COMPACT_STRINGS" "Z" (.int 1) A U H ∧ va_Zq "jdk/internal/util/Preconditions" "SIOOBE_FORMATTER" "Ljava/util/function/BiFunction;" A U H
theorem zTab.at {nm : String} {N : Nat} {f : Nat → Int32} {A0 A1 : Nat → Prop} {s U : State} {H : Heap} {locs : List Loc} (h : zTab nm N f A0 s s.heap) (hS : va_S A0 s.heap H locs) (hA : ∀ q, A1 q → A0 q) (hW : s.vm.Alike U.vm) : zTab nm N f A1 U H := by
  obtain ⟨t, h1, h2⟩ := h
  exact ⟨t, va_Z.moved hW ((h1.kept hS.2.1).narrow hA), va_T.moved hW ((h2.kept hS.2.1).narrow hA)⟩
theorem zS.at {adK adV : Nat → Nat} {A0 A1 : Nat → Prop} {s U : State} {H : Heap} {locs : List Loc} (h : zS adK adV A0 s s.heap) (hS : va_S A0 s.heap H locs) (hA : ∀ q, A1 q → A0 q) (hW : s.WarmedH U.vm) : zS adK adV A1 U H := by
  obtain ⟨h1, h2, h3, h4, h5, h6, h7⟩ := h
  exact ⟨h1.at hS hA hW.alike, h2.at hS hA hW.alike, h3.at hS hA hW.alike, vk_S.moved hW.alike ((h4.kept hS.2.1).narrow hA), fun i hi => (h5 i hi).warm hW, va_Z.moved hW.alike ((h6.kept hS.2.1).narrow hA), va_Zq.moved hW.alike ((h7.kept hS.2.1).narrow hA)⟩
theorem zS.same {adK adV : Nat → Nat} {A : Nat → Prop} {s U : State} {H : Heap} (hv : s.vm = U.vm) (h : zS adK adV A s H) : zS adK adV A U H := by
  obtain ⟨⟨t1, h1, h1'⟩, ⟨t2, h2, h2'⟩, ⟨t3, h3, h3'⟩, h4, h5, h6, h7⟩ := h
  have hW : s.vm.Alike U.vm := by rw [hv]; exact Vm.Alike.refl U.vm
  exact ⟨⟨t1, va_Z.moved hW h1, va_T.moved hW h1'⟩, ⟨t2, va_Z.moved hW h2, va_T.moved hW h2'⟩, ⟨t3, va_Z.moved hW h3, va_T.moved hW h3'⟩, vk_S.moved hW h4, fun i hi => vk_R.same hv.symm (h5 i hi), va_Z.moved hW h6, va_Zq.moved hW h7⟩
def zPreS (D : va_G) (cB cI cJ cO : ClassId) (adK adV : Nat → Nat) (av : List Value) (ws : va_W) (as : List Nat) : Array Value → State → Prop := va_Pc av (fun U => va_P D vwCl ws U.heap ∧ zE D cB cI cJ cO U ∧ va_D (fun _ => True) ws ∧ zS adK adV (zAs as) U U.heap)
theorem zPreS_blind {D : va_G} {cB cI cJ cO : ClassId} {adK adV : Nat → Nat} {av : List Value} {ws : va_W} {as : List Nat} : FrameBlind (zPreS D cB cI cJ cO adK adV av ws as) := by
  intro a U g mk q
  obtain ⟨q0, qP, qE, qD, qZ⟩ := q
  exact ⟨q0, qP, zE.same (s := U) rfl qE, qD, zS.same (s := U) rfl qZ⟩
theorem zPreS_at {D : va_G} {cB cI cJ cO : ClassId} {adK adV : Nat → Nat} {av : List Value} {ws wc : va_W} {as : List Nat} {s : State} {H : Heap} {A : Nat → Prop} {locs : List Loc} (hP : va_P D vwCl ws H) (hE : zE D cB cI cJ cO s) (hD : va_D A ws) (hZ : zS adK adV A s s.heap) (hS : va_S A s.heap H locs) (is : List Nat) (hn : va_nd is = true) (hC : is.map (fun i => ws[i]?) = wc.map some) (has : wc.map Prod.fst = as) : ∀ U : State, U.heap = H → s.WarmedH U.vm → zPreS D cB cI cJ cO adK adV av wc as av.toArray U := by
  subst has
  exact fun U hU hW => ⟨rfl, by rw [hU]; exact zP_pick hP is hC, zE.warm hW hE, (hD.sub is hn hC).weaken (fun _ _ _ _ => trivial), by rw [hU]; exact hZ.at hS (zAs_sub hD is hC) hW⟩
theorem zMetPS {l : Launch} {y : MethodName} {wsY ws' : List Cond} {rm : Room} {cc : ByteArray} {maxL : Nat} {ret : Option FieldType} {D : va_G} {cB cI cJ cO : ClassId} {adK adV : Nat → Nat} {av : List Value} {ws : va_W} {as : List Nat} {Qc : Array Value → State → Outcome → State → Prop} {lv : List (Nat × Value)} (has : ws.map Prod.fst = as) (hy : plainName y.cls = true) (hw : wsY = Cond.code y cc maxL ret :: ws') (hlen : (lg_sl av).length ≤ maxL) (hlv : lv_args 0 av = lv)
    (body : ∀ (p : Program) (e : Env) (s : State) (m : MethodId) (args : Array Value) (below : List Frame) (meth : Method) (c : Code) (ls : Array Slot) (Q : State → Prop), Q = MQ below Qc args s 0 0 (fun _ => False) → p.tables.exec = Jvm.exec → c.code = cc → meth.sig.returnType = ret → c.maxLocals = maxL → s.vm.findClass y.cls = some m.cls → (∀ w ∈ wsY, w.before args s = true) → meth.locks = false → meth.name = y.name → va_P D vwCl ws s.heap → zE D cB cI cJ cO s → va_D (zAs as) ws → va_S (zAs as) s.heap s.heap [] → zS adK adV (zAs as) s s.heap → lv_has ls maxL lv → W p l e rm s m args below meth c s.heap [] 0 0 Q (F0 m 0 ls [])) :
    Met l y wsY rm (zPreS D cB cI cJ cO adK adV av ws as) Qc 0 0 (fun _ => False) := by
  refine Met.ofW (cc := cc) (maxL := maxL) (ret := ret) hy hw ?_
  intro p e s m args below meth c s₁ B hml hv
  obtain ⟨rfl, hP, hE, hD, hZ⟩ := hv
  have hl := lv_entry av (n := maxL) hlen
  rw [lg_entry_eq]
  generalize (lg_sl av ++ List.replicate (maxL - (lg_sl av).length) Slot.unset).toArray = ls at hl ⊢
  subst hlv
  subst has
  exact body p e s m _ below meth c ls _ rfl B.exec B.bytes B.returns hml (findClass_of_methodNamed B.named) (atoms_spec (ws := wsY) B.pre) B.notSynchronized (name_of_methodNamed B.named B.method).1 hP hE (zD_own hD) va_S.rf hZ hl
theorem zMetMS {l : Launch} {y : MethodName} {wsY ws' : List Cond} {rm : Room} {cc : ByteArray} {maxL : Nat} {ret : Option FieldType} {D : va_G} {cB cI cJ cO : ClassId} {adK adV : Nat → Nat} {av : List Value} {ws : va_W} {as : List Nat} {Qc : Array Value → State → Outcome → State → Prop} {lv : List (Nat × Value)} (has : ws.map Prod.fst = as) (hy : plainName y.cls = true) (hw : wsY = Cond.code y cc maxL ret :: ws') (hlen : (lg_sl av).length ≤ maxL) (hlv : lv_args 0 av = lv)
    (body : ∀ (p : Program) (e : Env) (s : State) (m : MethodId) (args : Array Value) (below : List Frame) (meth : Method) (c : Code) (ls : Array Slot) (Q : State → Prop) (H : Heap) (locs : List Loc), Q = MQ below Qc args s 0 0 (zAs as) → p.tables.exec = Jvm.exec → c.code = cc → meth.sig.returnType = ret → c.maxLocals = maxL → s.vm.findClass y.cls = some m.cls → (∀ w ∈ wsY, w.before args s = true) → meth.locks = false → meth.name = y.name → va_P D vwCl ws H → zE D cB cI cJ cO s → va_D (zAs as) ws → va_S (zAs as) s.heap H locs → zS adK adV (zAs as) s s.heap → lv_has ls maxL lv → W p l e rm s m args below meth c H locs 0 0 Q (F0 m 0 ls [])) :
    Met l y wsY rm (zPreS D cB cI cJ cO adK adV av ws as) Qc 0 0 (zAs as) := by
  refine Met.ofW (cc := cc) (maxL := maxL) (ret := ret) hy hw ?_
  intro p e s m args below meth c s₁ B hml hv
  obtain ⟨rfl, hP, hE, hD, hZ⟩ := hv
  have hl := lv_entry av (n := maxL) hlen
  rw [lg_entry_eq]
  generalize (lg_sl av ++ List.replicate (maxL - (lg_sl av).length) Slot.unset).toArray = ls at hl ⊢
  subst hlv
  subst has
  exact body p e s m _ below meth c ls _ _ _ rfl B.exec B.bytes B.returns hml (findClass_of_methodNamed B.named) (atoms_spec (ws := wsY) B.pre) B.notSynchronized (name_of_methodNamed B.named B.method).1 hP hE (zD_own hD) va_S.rf hZ hl
section ZT
variable {p : Program} {l : Launch} {e : Env} {R : Room} {s : State} {m : MethodId} {args : Array Value} {below : List Frame} {meth : Method} {c : Code} {H : Heap} {locs : List Loc} {cells slots : Nat} {Q : State → Prop}
variable {cc : ByteArray} {pc : Nat} {ls : Array Slot} {rest : List Value} {D : va_G} {cl : List vw_C} {A : Nat → Prop} {a : Nat} {tys : List (ClassId × FieldType)} {ws : va_W} {H0 : Heap} {ρ : Type} {F1 F2 : Option ρ} {r : ρ}
theorem za_ti (hx : p.tables.exec = Jvm.exec) (hb : c.code = cc) {t N : Nat} {f : Nat → Int32} (hT : va_T .int t N (fun j => .int (f j)) A s s.heap) (hS : va_S A s.heap H locs) {i : Int32} (hdg : decode cc pc = .ok (.iaload, 1)) {d : Decidable (i < 0 ∨ N ≤ i.toNatClampNeg)} (hF : @ite (Option ρ) (i < 0 ∨ N ≤ i.toNatClampNeg) d none F1 = some r)
    (kk : F1 = some r → W p l e R s m args below meth c H locs cells slots Q (F0 m (pc + 1) ls (.int (f i.toNatClampNeg) :: rest))) : W p l e R s m args below meth c H locs cells slots Q (F0 m pc ls (.int i :: .ref t :: rest)) := va_ti hx hb hT hS (z_g d hF).1 rfl hdg (kk (z_g d hF).2)
theorem za_tiK (hx : p.tables.exec = Jvm.exec) (hb : c.code = cc) {t N k : Nat} {f : Nat → Int32} (hT : va_T .int t N (fun j => .int (f j)) A s s.heap) (hS : va_S A s.heap H locs) {i : Int32} (hin : ¬ (i < 0 ∨ N ≤ i.toNatClampNeg)) (hk : i.toNatClampNeg = k) (hdg : decode cc pc = .ok (.iaload, 1))
    (kk : W p l e R s m args below meth c H locs cells slots Q (F0 m (pc + 1) ls (.int (f k) :: rest))) : W p l e R s m args below meth c H locs cells slots Q (F0 m pc ls (.int i :: .ref t :: rest)) := by subst hk; exact va_ti hx hb hT hS hin rfl hdg kk
theorem za_aldS (hx : p.tables.exec = Jvm.exec) (hb : c.code = cc) (hK : va_K D cl tys s) (hP : va_P D cl ws H) (q0 t0 : Nat) {cA : ClassId} {C : String} {n b : Nat} {f : Nat → Option Nat} (ha : ws[q0]? = some (a, .inl (cA, n, .inr (.inr (.inr (.inr f)))))) (ht : tys[t0]? = some (cA, .object C)) {i : Int32} (hdg : decode cc pc = .ok (.aaload, 1)) {d : Decidable (i < 0 ∨ n ≤ i.toNatClampNeg)} (hF : @ite (Option ρ) (i < 0 ∨ n ≤ i.toNatClampNeg) d none (zoS (f i.toNatClampNeg) b F1 F2) = some r)
    (kn : F1 = some r → W p l e R s m args below meth c H locs cells slots Q (F0 m (pc + 1) ls (.null :: rest))) (ks : F2 = some r → W p l e R s m args below meth c H locs cells slots Q (F0 m (pc + 1) ls (.ref b :: rest))) : W p l e R s m args below meth c H locs cells slots Q (F0 m pc ls (.int i :: .ref a :: rest)) := by
  refine va_aldq hx hb hK hP q0 t0 ha ht (z_g d hF).1 hdg ?_
  have h2 := (z_g d hF).2
  cases ho : f i.toNatClampNeg with
  | none => rw [ho] at h2; exact kn h2
  | some v =>
    rw [ho] at h2
    obtain ⟨h3, h4⟩ := z_h _ h2
    subst h3
    exact ks h4
theorem za_aldN (hx : p.tables.exec = Jvm.exec) (hb : c.code = cc) (hK : va_K D cl tys s) (hP : va_P D cl ws H) (q0 t0 : Nat) {cA : ClassId} {C : String} {n : Nat} {f : Nat → Option Nat} (ha : ws[q0]? = some (a, .inl (cA, n, .inr (.inr (.inr (.inr f)))))) (ht : tys[t0]? = some (cA, .object C)) {i : Int32} (hdg : decode cc pc = .ok (.aaload, 1)) {d : Decidable (i < 0 ∨ n ≤ i.toNatClampNeg)} (hF : @ite (Option ρ) (i < 0 ∨ n ≤ i.toNatClampNeg) d none (zoN (f i.toNatClampNeg) F1) = some r)
    (kn : F1 = some r → W p l e R s m args below meth c H locs cells slots Q (F0 m (pc + 1) ls (.null :: rest))) : W p l e R s m args below meth c H locs cells slots Q (F0 m pc ls (.int i :: .ref a :: rest)) := by
  refine va_aldq hx hb hK hP q0 t0 ha ht (z_g d hF).1 hdg ?_
  have h2 := (z_g d hF).2
  cases ho : f i.toNatClampNeg with
  | none => rw [ho] at h2; exact kn h2
  | some v => rw [ho] at h2; exact z_no h2
theorem za_astR (hx : p.tables.exec = Jvm.exec) (hb : c.code = cc) (hK : va_K D cl tys s) (hP : va_P D cl ws H) (hD : va_D A ws) (hS : va_S A H0 H locs) (q0 t0 qk ci : Nat) {cA : ClassId} {rC : vw_C} {n v : Nat} {vs : List Value} {f : Nat → Option Nat} (ha : ws[q0]? = some (a, .inl (cA, n, .inr (.inr (.inr (.inr f)))))) (ht : tys[t0]? = some (cA, .object rC.1)) (hv : ws[qk]? = some (v, .inr (ci, vs))) (hc : cl[ci]? = some rC) {i : Int32} (hdg : decode cc pc = .ok (.aastore, 1)) {d : Decidable (i < 0 ∨ n ≤ i.toNatClampNeg)} (hF : @ite (Option ρ) (i < 0 ∨ n ≤ i.toNatClampNeg) d none F1 = some r)
    (kk : F1 = some r → ∀ (H1 : Heap) (locs1 : List Loc), va_P D cl (ws.set q0 (a, .inl (cA, n, .inr (.inr (.inr (.inr (va_up f i.toNatClampNeg (some v)))))))) H1 → va_S A H0 H1 locs1 → W p l e R s m args below meth c H1 locs1 cells slots Q (F0 m (pc + 1) ls rest)) : W p l e R s m args below meth c H locs cells slots Q (F0 m pc ls (.ref v :: .int i :: .ref a :: rest)) := va_astq hx hb hK hP hD hS q0 t0 qk ci ha ht hv hc (z_g d hF).1 hdg (fun H1 l1 h1 _ h3 => kk (z_g d hF).2 H1 l1 h1 h3)
theorem za_astN (hx : p.tables.exec = Jvm.exec) (hb : c.code = cc) (hK : va_K D cl tys s) (hP : va_P D cl ws H) (hD : va_D A ws) (hS : va_S A H0 H locs) (q0 t0 : Nat) {cA : ClassId} {C : String} {n : Nat} {f : Nat → Option Nat} (ha : ws[q0]? = some (a, .inl (cA, n, .inr (.inr (.inr (.inr f)))))) (ht : tys[t0]? = some (cA, .object C)) {i : Int32} (hdg : decode cc pc = .ok (.aastore, 1)) {d : Decidable (i < 0 ∨ n ≤ i.toNatClampNeg)} (hF : @ite (Option ρ) (i < 0 ∨ n ≤ i.toNatClampNeg) d none F1 = some r)
    (kk : F1 = some r → ∀ (H1 : Heap) (locs1 : List Loc), va_P D cl (ws.set q0 (a, .inl (cA, n, .inr (.inr (.inr (.inr (va_up f i.toNatClampNeg none))))))) H1 → va_S A H0 H1 locs1 → W p l e R s m args below meth c H1 locs1 cells slots Q (F0 m (pc + 1) ls rest)) : W p l e R s m args below meth c H locs cells slots Q (F0 m pc ls (.null :: .int i :: .ref a :: rest)) := va_astqN hx hb hK hP hD hS q0 t0 ha ht (z_g d hF).1 hdg (fun H1 l1 h1 _ h3 => kk (z_g d hF).2 H1 l1 h1 h3)
end ZT
