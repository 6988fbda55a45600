theorem z_nret {p : Program} {l : Launch} {e : Env} {R : Room} {s : State} {m : MethodId} {args : Array Value} {below : List Frame} {meth : Method} {c : Code} {Q : State → Prop} {cc : ByteArray} {pc : Nat} {ls : Array Slot} {v v' : Int32} {ty : FieldType} (hx : p.tables.exec = Jvm.exec) (hb : c.code = cc) (hr : meth.sig.returnType = some ty) (hlocks : meth.locks = false) (hn : narrow ty (.int v) = .int v) (hv : v = v') (hQ : Q = MQ below (zPI (some (.int v'))) args s 0 0 (fun _ => False)) (hdg : decode cc pc = .ok (.ireturn, 1)) : W p l e R s m args below meth c s.heap [] 0 0 Q (F0 m pc ls [.int v]) := by
  subst hQ; subst hv
  exact W.zret hx hb hr hn (fun t ht _ => ⟨rfl, ht⟩) (fun q hq => by cases hq) hdg hlocks
theorem z_vret {p : Program} {l : Launch} {e : Env} {R : Room} {s : State} {m : MethodId} {args : Array Value} {below : List Frame} {meth : Method} {c : Code} {Q : State → Prop} {cc : ByteArray} {pc : Nat} {ls : Array Slot} (hx : p.tables.exec = Jvm.exec) (hb : c.code = cc) (hr : meth.sig.returnType = none) (hlocks : meth.locks = false) (hQ : Q = MQ below (zPI none) args s 0 0 (fun _ => False)) (hdg : decode cc pc = .ok (.return_, 1)) : W p l e R s m args below meth c s.heap [] 0 0 Q (F0 m pc ls []) := by
  subst hQ
  exact W.vret hx hb hr (fun t ht _ => ⟨rfl, ht⟩) (fun q hq => by cases hq) hdg hlocks
set_option maxHeartbeats 4000000 in
set_option maxRecDepth 100000 in
theorem tJ0_coder {l : Launch} {D : va_G} {cB cI cJ cO : ClassId} {adK adV : Nat → Nat} (i : Nat) (hi : i < 18) : Met l yJ0_coder_7d493 wsJ0_coder_7d493 ({ frames := 0, cells := 0, slots := 0, locals := 0 } : Room) (zPreS D cB cI cJ cO adK adV [.ref (adK i)] [] []) (zPI (some (.int 0))) 0 0 (fun _ => False) := by
  refine zMetPS (cc := cJ0_coder_7d493) (maxL := 1) (ret := (some .byte)) (lv := [(0, .ref (adK i))]) rfl (by decide) rfl (Nat.le_of_ble_eq_true rfl) rfl ?_
  intro p e s m args below meth c ls Q hQ hx hb hr hml hown hts hlocks hname hP hE hD hS hZ hl
  have hown : s.vm.findClass RJ0 = some m.cls := hown
  refine va_gets (pc := 0) hx hb hZ.2.2.2.2.2.1 hS hown (hts (.fieldLink RJ0 38 "java/lang/String" "COMPACT_STRINGS" "Z") (by decide +kernel)) (fun _ h9 => h9) dJ0_coder_7d493_0 ?_
  refine lv_if_eq (pc := 3) (tgt := 13) hx hb dJ0_coder_7d493_3 (by decide) (fun h => absurd h (by decide)) (fun _ => ?_)
  refine lv_aload_n (pc := 6) hx hb dJ0_coder_7d493_6 rfl (lv_at hl 0 rfl) ?_
  refine vk_getf (pc := 7) hx hb (hZ.2.2.2.1.1 i hi).2.1 hS hown (hts (.fieldLink RJ0 15 "java/lang/String" "coder" "B") (by decide +kernel)) (fun _ h9 => h9) dJ0_coder_7d493_7 ?_
  refine lv_goto (pc := 10) (tgt := 14) hx hb dJ0_coder_7d493_10 (by decide) ?_
  exact z_nret (pc := 14) hx hb hr hlocks rfl rfl hQ dJ0_coder_7d493_14
set_option maxHeartbeats 4000000 in
set_option maxRecDepth 100000 in
theorem tJ0_isLatin1 {l : Launch} {D : va_G} {cB cI cJ cO : ClassId} {adK adV : Nat → Nat} (i : Nat) (hi : i < 18) : Met l yJ0_isLatin1_aae02 wsJ0_isLatin1_aae02 ({ frames := 0, cells := 0, slots := 0, locals := 0 } : Room) (zPreS D cB cI cJ cO adK adV [.ref (adK i)] [] []) (zPI (some (.int 1))) 0 0 (fun _ => False) := by
  refine zMetPS (cc := cJ0_isLatin1_aae02) (maxL := 1) (ret := (some .boolean)) (lv := [(0, .ref (adK i))]) rfl (by decide) rfl (Nat.le_of_ble_eq_true rfl) rfl ?_
  intro p e s m args below meth c ls Q hQ hx hb hr hml hown hts hlocks hname hP hE hD hS hZ hl
  have hown : s.vm.findClass RJ0 = some m.cls := hown
  refine va_gets (pc := 0) hx hb hZ.2.2.2.2.2.1 hS hown (hts (.fieldLink RJ0 38 "java/lang/String" "COMPACT_STRINGS" "Z") (by decide +kernel)) (fun _ h9 => h9) dJ0_isLatin1_aae02_0 ?_
  refine lv_if_eq (pc := 3) (tgt := 17) hx hb dJ0_isLatin1_aae02_3 (by decide) (fun h => absurd h (by decide)) (fun _ => ?_)
  refine lv_aload_n (pc := 6) hx hb dJ0_isLatin1_aae02_6 rfl (lv_at hl 0 rfl) ?_
  refine vk_getf (pc := 7) hx hb (hZ.2.2.2.1.1 i hi).2.1 hS hown (hts (.fieldLink RJ0 15 "java/lang/String" "coder" "B") (by decide +kernel)) (fun _ h9 => h9) dJ0_isLatin1_aae02_7 ?_
  refine lv_if_ne (pc := 10) (tgt := 17) hx hb dJ0_isLatin1_aae02_10 (by decide) (fun h => absurd rfl h) (fun _ => ?_)
  refine lv_iconst (pc := 13) (v := 1) hx hb dJ0_isLatin1_aae02_13 (by decide) ?_
  refine lv_goto (pc := 14) (tgt := 18) hx hb dJ0_isLatin1_aae02_14 (by decide) ?_
  exact z_nret (pc := 18) hx hb hr hlocks rfl rfl hQ dJ0_isLatin1_aae02_18
set_option maxHeartbeats 4000000 in
set_option maxRecDepth 100000 in
theorem tJ0_length {l : Launch} {D : va_G} {cB cI cJ cO : ClassId} {adK adV : Nat → Nat} (i : Nat) (hi : i < 18) : Met l yJ0_length_8abf5 wsJ0_length_8abf5 ({ frames := 1, cells := 0, slots := 0, locals := 20 } : Room) (zPreS D cB cI cJ cO adK adV [.ref (adK i)] [] []) (zPI (some (.int (nI (zlen.getD i 0))))) 0 0 (fun _ => False) := by
  refine zMetPS (cc := cJ0_length_8abf5) (maxL := 1) (ret := (some .int)) (lv := [(0, .ref (adK i))]) rfl (by decide) rfl (Nat.le_of_ble_eq_true rfl) rfl ?_
  intro p e s m args below meth c ls Q hQ hx hb hr hml hown hts hlocks hname hP hE hD hS hZ hl
  have hown : s.vm.findClass RJ0 = some m.cls := hown
  refine lv_aload_n (pc := 0) hx hb dJ0_length_8abf5_0 rfl (lv_at hl 0 rfl) ?_
  refine vk_getf (pc := 1) hx hb (hZ.2.2.2.1.1 i hi).2.2.1 hS hown (hts (.fieldLink RJ0 9 "java/lang/String" "value" "[B") (by decide +kernel)) (fun _ h9 => h9) dJ0_length_8abf5_1 ?_
  refine va_tlen (pc := 4) (v := nI (zlen.getD i 0)) hx hb (hZ.2.2.2.1.1 i hi).2.2.2 hS rfl dJ0_length_8abf5_4 ?_
  refine lv_aload_n (pc := 5) hx hb dJ0_length_8abf5_5 rfl (lv_at hl 0 rfl) ?_
  refine zq_call (oc0 := some (.int 0)) (va_runV (As := []) (rest := [.int (nI (zlen.getD i 0))]) ⟨hx, hb, hml, hown, hts⟩ (tJ0_coder (l := l) (D := D) (cB := cB) (cI := cI) (cJ := cJ) (cO := cO) (adK := adK) (adV := adV) i hi) (cwV 0 hts gJ0_length_8abf5_J0_coder_7d493 rfl rfl rfl (by decide +kernel) ⟨Nat.le_of_ble_eq_true rfl, Nat.le_of_ble_eq_true rfl⟩) ⟨zPreS_blind, vk_recv hZ.2.2.2.1 hi hS, zPreS_at hP hE hD hZ hS [] rfl rfl rfl⟩ rfl rfl hl.1 rfl (lv_room (Nat.le_of_ble_eq_true rfl)) dJ0_length_8abf5_6 ⟨Nat.zero_le _, Nat.zero_le _⟩) ?_
  refine W.eq (g2 := F0 m 9 ls [.int 0, .int (nI (zlen.getD i 0))]) rfl ?_
  refine lv_ishr (pc := 9) hx hb dJ0_length_8abf5_9 ?_
  exact z_nret (pc := 10) hx hb hr hlocks rfl (sb_shr0 _) hQ dJ0_length_8abf5_10
set_option maxHeartbeats 4000000 in
set_option maxRecDepth 100000 in
theorem tJ3_checkN {l : Launch} {D : va_G} {cB cI cJ cO : ClassId} (k n : Int32) (h1 : ¬ k < 0) (h2 : k < n) : Met l yJ3_checkIndex_8e157 wsJ3_checkIndex_8e157 ({ frames := 0, cells := 0, slots := 0, locals := 0 } : Room) (zPre D cB cI cJ cO [.int k, .int n, .null] []) (zPI (some (.int k))) 0 0 (fun _ => False) := by
  refine zMetP (cc := cJ3_checkIndex_8e157) (maxL := 3) (ret := (some .int)) (lv := [(0, .int k), (1, .int n), (2, .null)]) (by decide) rfl (Nat.le_of_ble_eq_true rfl) rfl ?_
  intro p e s m args below meth c ls Q hQ hx hb hr hml hown hts hlocks hname hP hE hD hl
  refine lv_iload_n (pc := 0) hx hb dJ3_checkIndex_8e157_0 rfl (lv_at hl 0 rfl) ?_
  refine lv_if_lt (pc := 1) (tgt := 9) hx hb dJ3_checkIndex_8e157_1 (by decide) (fun h => absurd h h1) (fun _ => ?_)
  refine lv_iload_n (pc := 4) hx hb dJ3_checkIndex_8e157_4 rfl (lv_at hl 0 rfl) ?_
  refine lv_iload_n (pc := 5) hx hb dJ3_checkIndex_8e157_5 rfl (lv_at hl 1 rfl) ?_
  refine lv_icmp_lt (pc := 6) (tgt := 16) hx hb dJ3_checkIndex_8e157_6 (by decide) (fun _ => ?_) (fun h => absurd h2 h)
  refine lv_iload_n (pc := 16) hx hb dJ3_checkIndex_8e157_16 rfl (lv_at hl 0 rfl) ?_
  exact z_nret (pc := 17) hx hb hr hlocks rfl rfl hQ dJ3_checkIndex_8e157_17
set_option maxHeartbeats 4000000 in
set_option maxRecDepth 100000 in
theorem tJ3_checkR {l : Launch} {D : va_G} {cB cI cJ cO : ClassId} (w : Nat) (k n : Int32) (h1 : ¬ k < 0) (h2 : k < n) : Met l yJ3_checkIndex_8e157 wsJ3_checkIndex_8e157 ({ frames := 0, cells := 0, slots := 0, locals := 0 } : Room) (zPre D cB cI cJ cO [.int k, .int n, .ref w] []) (zPI (some (.int k))) 0 0 (fun _ => False) := by
  refine zMetP (cc := cJ3_checkIndex_8e157) (maxL := 3) (ret := (some .int)) (lv := [(0, .int k), (1, .int n), (2, .ref w)]) (by decide) rfl (Nat.le_of_ble_eq_true rfl) rfl ?_
  intro p e s m args below meth c ls Q hQ hx hb hr hml hown hts hlocks hname hP hE hD hl
  refine lv_iload_n (pc := 0) hx hb dJ3_checkIndex_8e157_0 rfl (lv_at hl 0 rfl) ?_
  refine lv_if_lt (pc := 1) (tgt := 9) hx hb dJ3_checkIndex_8e157_1 (by decide) (fun h => absurd h h1) (fun _ => ?_)
  refine lv_iload_n (pc := 4) hx hb dJ3_checkIndex_8e157_4 rfl (lv_at hl 0 rfl) ?_
  refine lv_iload_n (pc := 5) hx hb dJ3_checkIndex_8e157_5 rfl (lv_at hl 1 rfl) ?_
  refine lv_icmp_lt (pc := 6) (tgt := 16) hx hb dJ3_checkIndex_8e157_6 (by decide) (fun _ => ?_) (fun h => absurd h2 h)
  refine lv_iload_n (pc := 16) hx hb dJ3_checkIndex_8e157_16 rfl (lv_at hl 0 rfl) ?_
  exact z_nret (pc := 17) hx hb hr hlocks rfl rfl hQ dJ3_checkIndex_8e157_17
set_option maxHeartbeats 4000000 in
set_option maxRecDepth 100000 in
theorem tJ0_checkIndex {l : Launch} {D : va_G} {cB cI cJ cO : ClassId} {adK adV : Nat → Nat} (k n : Int32) (h1 : ¬ k < 0) (h2 : k < n) : Met l yJ0_checkIndex_df160 wsJ0_checkIndex_df160 ({ frames := 1, cells := 0, slots := 0, locals := 22 } : Room) (zPreS D cB cI cJ cO adK adV [.int k, .int n] [] []) (zPI none) 0 0 (fun _ => False) := by
  refine zMetPS (cc := cJ0_checkIndex_df160) (maxL := 2) (ret := none) (lv := [(0, .int k), (1, .int n)]) rfl (by decide) rfl (Nat.le_of_ble_eq_true rfl) rfl ?_
  intro p e s m args below meth c ls Q hQ hx hb hr hml hown hts hlocks hname hP hE hD hS hZ hl
  have hown : s.vm.findClass RJ0 = some m.cls := hown
  refine lv_iload_n (pc := 0) hx hb dJ0_checkIndex_df160_0 rfl (lv_at hl 0 rfl) ?_
  refine lv_iload_n (pc := 1) hx hb dJ0_checkIndex_df160_1 rfl (lv_at hl 1 rfl) ?_
  rcases hZ.2.2.2.2.2.2 with hz | ⟨w, hz⟩
  · refine va_gets (pc := 2) hx hb hz hS hown (hts (.fieldLink RJ0 1053 "jdk/internal/util/Preconditions" "SIOOBE_FORMATTER" "Ljava/util/function/BiFunction;") (by decide +kernel)) (fun _ h9 => h9) dJ0_checkIndex_df160_2 ?_
    refine zq_call (oc0 := some (.int k)) (va_runS (As := [.int k, .int n, .null]) (rest := []) ⟨hx, hb, hml, hown, hts⟩ (tJ3_checkN (l := l) (D := D) (cB := cB) (cI := cI) (cJ := cJ) (cO := cO) k n h1 h2) (va_cwS 3 hts gJ0_checkIndex_df160_J3_checkIndex_8e157 rfl rfl rfl (by decide +kernel) ⟨Nat.le_of_ble_eq_true rfl, Nat.le_of_ble_eq_true rfl⟩) ⟨zPre_blind, zPre_at hP hE hD [] rfl rfl⟩ rfl rfl hl.1 rfl (lv_room (Nat.le_of_ble_eq_true rfl)) dJ0_checkIndex_df160_5 ⟨Nat.zero_le _, Nat.zero_le _⟩) ?_
    refine W.eq (g2 := F0 m 8 ls [.int k]) rfl ?_
    refine lv_pop (pc := 8) hx hb dJ0_checkIndex_df160_8 rfl ?_
    exact z_vret (pc := 9) hx hb hr hlocks hQ dJ0_checkIndex_df160_9
  · refine va_gets (pc := 2) hx hb hz hS hown (hts (.fieldLink RJ0 1053 "jdk/internal/util/Preconditions" "SIOOBE_FORMATTER" "Ljava/util/function/BiFunction;") (by decide +kernel)) (fun _ h9 => h9) dJ0_checkIndex_df160_2 ?_
    refine zq_call (oc0 := some (.int k)) (va_runS (As := [.int k, .int n, .ref w]) (rest := []) ⟨hx, hb, hml, hown, hts⟩ (tJ3_checkR (l := l) (D := D) (cB := cB) (cI := cI) (cJ := cJ) (cO := cO) w k n h1 h2) (va_cwS 3 hts gJ0_checkIndex_df160_J3_checkIndex_8e157 rfl rfl rfl (by decide +kernel) ⟨Nat.le_of_ble_eq_true rfl, Nat.le_of_ble_eq_true rfl⟩) ⟨zPre_blind, zPre_at hP hE hD [] rfl rfl⟩ rfl rfl hl.1 rfl (lv_room (Nat.le_of_ble_eq_true rfl)) dJ0_checkIndex_df160_5 ⟨Nat.zero_le _, Nat.zero_le _⟩) ?_
    refine W.eq (g2 := F0 m 8 ls [.int k]) rfl ?_
    refine lv_pop (pc := 8) hx hb dJ0_checkIndex_df160_8 rfl ?_
    exact z_vret (pc := 9) hx hb hr hlocks hQ dJ0_checkIndex_df160_9
theorem zs_small : ∀ i, i < 18 → zlen.getD i 0 < 2 ^ 31 := by decide +kernel
theorem zs_lt {k : Int32} {n : Nat} (hn : n < 2 ^ 31) (h : ¬ (k < 0 ∨ n ≤ k.toNatClampNeg)) : k < nI n := by
  rw [Int32.lt_iff_toInt_lt, nI_toInt hn]
  have h1 : ¬ k < 0 := fun z => h (Or.inl z)
  have h2 : ¬ n ≤ k.toNatClampNeg := fun z => h (Or.inr z)
  have h3 : k.toNatClampNeg = k.toInt.toNat := rfl
  omega
set_option maxHeartbeats 4000000 in
set_option maxRecDepth 100000 in
theorem tJ1_charAt {l : Launch} {D : va_G} {cB cI cJ cO : ClassId} {adK adV : Nat → Nat} (i : Nat) (k : Int32) (hk : ¬ (18 ≤ i ∨ (k < 0 ∨ zlen.getD i 0 ≤ k.toNatClampNeg))) : Met l yJ1_charAt_3b067 wsJ1_charAt_3b067 ({ frames := 2, cells := 0, slots := 0, locals := 43 } : Room) (zPreS D cB cI cJ cO adK adV [.ref (adV i), .int k] [] []) (zPI (some (.int ((zbyt.getD i []).getD k.toNatClampNeg 0 &&& 255)))) 0 0 (fun _ => False) := by
  refine zMetPS (cc := cJ1_charAt_3b067) (maxL := 2) (ret := (some .char)) (lv := [(0, .ref (adV i)), (1, .int k)]) rfl (by decide) rfl (Nat.le_of_ble_eq_true rfl) rfl ?_
  intro p e s m args below meth c ls Q hQ hx hb hr hml hown hts hlocks hname hP hE hD hS hZ hl
  have hown : s.vm.findClass RJ1 = some m.cls := hown
  have hi : i < 18 := Nat.not_le.mp (fun z => hk (Or.inl z))
  have hkr : ¬ (k < 0 ∨ zlen.getD i 0 ≤ k.toNatClampNeg) := fun z => hk (Or.inr z)
  have h1 : ¬ k < 0 := fun z => hkr (Or.inl z)
  refine lv_iload_n (pc := 0) hx hb dJ1_charAt_3b067_0 rfl (lv_at hl 1 rfl) ?_
  refine lv_aload_n (pc := 1) hx hb dJ1_charAt_3b067_1 rfl (lv_at hl 0 rfl) ?_
  refine va_tlen (pc := 2) (v := nI (zlen.getD i 0)) hx hb (hZ.2.2.2.1.1 i hi).2.2.2 hS rfl dJ1_charAt_3b067_2 ?_
  refine zq_call (oc0 := none) (va_runS (As := [.int k, .int (nI (zlen.getD i 0))]) (rest := []) ⟨hx, hb, hml, hown, hts⟩ (tJ0_checkIndex (l := l) (D := D) (cB := cB) (cI := cI) (cJ := cJ) (cO := cO) (adK := adK) (adV := adV) k (nI (zlen.getD i 0)) h1 (zs_lt (zs_small i hi) hkr)) (va_cwS 2 hts gJ1_charAt_3b067_J0_checkIndex_df160 rfl rfl rfl (by decide +kernel) ⟨Nat.le_of_ble_eq_true rfl, Nat.le_of_ble_eq_true rfl⟩) ⟨zPreS_blind, zPreS_at hP hE hD hZ hS [] rfl rfl rfl⟩ rfl rfl hl.1 rfl (lv_room (Nat.le_of_ble_eq_true rfl)) dJ1_charAt_3b067_3 ⟨Nat.zero_le _, Nat.zero_le _⟩) ?_
  refine W.eq (g2 := F0 m 6 ls []) rfl ?_
  refine lv_aload_n (pc := 6) hx hb dJ1_charAt_3b067_6 rfl (lv_at hl 0 rfl) ?_
  refine lv_iload_n (pc := 7) hx hb dJ1_charAt_3b067_7 rfl (lv_at hl 1 rfl) ?_
  refine va_tb (pc := 8) (v := .int ((zbyt.getD i []).getD k.toNatClampNeg 0)) hx hb (hZ.2.2.2.1.1 i hi).2.2.2 hS hkr rfl dJ1_charAt_3b067_8 ?_
  refine lv_sipush (pc := 9) (v := 255) hx hb dJ1_charAt_3b067_9 (by decide) ?_
  refine lv_iand (pc := 12) hx hb dJ1_charAt_3b067_12 ?_
  refine lv_i2c (pc := 13) (v := ((zbyt.getD i []).getD k.toNatClampNeg 0 &&& 255)) hx hb dJ1_charAt_3b067_13 (sc_c2 _) ?_
  exact z_nret (pc := 14) hx hb hr hlocks (sc_nar _) rfl hQ dJ1_charAt_3b067_14
set_option maxHeartbeats 4000000 in
set_option maxRecDepth 100000 in
theorem tJ0_charAt {l : Launch} {D : va_G} {cB cI cJ cO : ClassId} {adK adV : Nat → Nat} (i : Nat) (k : Int32) (hk : ¬ (18 ≤ i ∨ (k < 0 ∨ zlen.getD i 0 ≤ k.toNatClampNeg))) : Met l yJ0_charAt_5068e wsJ0_charAt_5068e ({ frames := 3, cells := 0, slots := 0, locals := 64 } : Room) (zPreS D cB cI cJ cO adK adV [.ref (adK i), .int k] [] []) (zPI (some (.int ((zbyt.getD i []).getD k.toNatClampNeg 0 &&& 255)))) 0 0 (fun _ => False) := by
  refine zMetPS (cc := cJ0_charAt_5068e) (maxL := 2) (ret := (some .char)) (lv := [(0, .ref (adK i)), (1, .int k)]) rfl (by decide) rfl (Nat.le_of_ble_eq_true rfl) rfl ?_
  intro p e s m args below meth c ls Q hQ hx hb hr hml hown hts hlocks hname hP hE hD hS hZ hl
  have hown : s.vm.findClass RJ0 = some m.cls := hown
  have hi : i < 18 := Nat.not_le.mp (fun z => hk (Or.inl z))
  refine lv_aload_n (pc := 0) hx hb dJ0_charAt_5068e_0 rfl (lv_at hl 0 rfl) ?_
  refine zq_call (oc0 := some (.int 1)) (va_runV (As := []) (rest := []) ⟨hx, hb, hml, hown, hts⟩ (tJ0_isLatin1 (l := l) (D := D) (cB := cB) (cI := cI) (cJ := cJ) (cO := cO) (adK := adK) (adV := adV) i hi) (cwV 0 hts gJ0_charAt_5068e_J0_isLatin1_aae02 rfl rfl rfl (by decide +kernel) ⟨Nat.le_of_ble_eq_true rfl, Nat.le_of_ble_eq_true rfl⟩) ⟨zPreS_blind, vk_recv hZ.2.2.2.1 hi hS, zPreS_at hP hE hD hZ hS [] rfl rfl rfl⟩ rfl rfl hl.1 rfl (lv_room (Nat.le_of_ble_eq_true rfl)) dJ0_charAt_5068e_1 ⟨Nat.zero_le _, Nat.zero_le _⟩) ?_
  refine W.eq (g2 := F0 m 4 ls [.int 1]) rfl ?_
  refine lv_if_eq (pc := 4) (tgt := 16) hx hb dJ0_charAt_5068e_4 (by decide) (fun h => absurd h (by decide)) (fun _ => ?_)
  refine lv_aload_n (pc := 7) hx hb dJ0_charAt_5068e_7 rfl (lv_at hl 0 rfl) ?_
  refine vk_getf (pc := 8) hx hb (hZ.2.2.2.1.1 i hi).2.2.1 hS hown (hts (.fieldLink RJ0 9 "java/lang/String" "value" "[B") (by decide +kernel)) (fun _ h9 => h9) dJ0_charAt_5068e_8 ?_
  refine lv_iload_n (pc := 11) hx hb dJ0_charAt_5068e_11 rfl (lv_at hl 1 rfl) ?_
  refine zq_call (oc0 := some (.int ((zbyt.getD i []).getD k.toNatClampNeg 0 &&& 255))) (va_runS (As := [.ref (adV i), .int k]) (rest := []) ⟨hx, hb, hml, hown, hts⟩ (tJ1_charAt (l := l) (D := D) (cB := cB) (cI := cI) (cJ := cJ) (cO := cO) (adK := adK) (adV := adV) i k hk) (va_cwS 2 hts gJ0_charAt_5068e_J1_charAt_3b067 rfl rfl rfl (by decide +kernel) ⟨Nat.le_of_ble_eq_true rfl, Nat.le_of_ble_eq_true rfl⟩) ⟨zPreS_blind, zPreS_at hP hE hD hZ hS [] rfl rfl rfl⟩ rfl rfl hl.1 rfl (lv_room (Nat.le_of_ble_eq_true rfl)) dJ0_charAt_5068e_12 ⟨Nat.zero_le _, Nat.zero_le _⟩) ?_
  refine W.eq (g2 := F0 m 15 ls [.int ((zbyt.getD i []).getD k.toNatClampNeg 0 &&& 255)]) rfl ?_
  exact z_nret (pc := 15) hx hb hr hlocks (sc_nar _) rfl hQ dJ0_charAt_5068e_15
