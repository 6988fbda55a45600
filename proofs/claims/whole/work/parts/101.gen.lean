abbrev rJ6_bitCount_0f7a4 : Room := { frames := 0, cells := 0, slots := 0, locals := 0 }
theorem kJ6_bitCount_0f7a4_0 : Cond.constant RJ6 265 (nI 1431655765) ∈ wsJ6_bitCount_0f7a4 := by decide +kernel
theorem kJ6_bitCount_0f7a4_1 : Cond.constant RJ6 266 (nI 858993459) ∈ wsJ6_bitCount_0f7a4 := by decide +kernel
theorem kJ6_bitCount_0f7a4_2 : Cond.constant RJ6 267 (nI 252645135) ∈ wsJ6_bitCount_0f7a4 := by decide +kernel
set_option maxHeartbeats 4000000 in
set_option maxRecDepth 100000 in
theorem tJ6_bitCount_0f7a4 {l : Launch} {D : va_G} {cB cI cJ cO : ClassId} (x0 : Int32) (r : Int32) (hF : fJ6_bitCount_0f7a4 x0 = some r) : Met l yJ6_bitCount_0f7a4 wsJ6_bitCount_0f7a4 rJ6_bitCount_0f7a4 (zPre D cB cI cJ cO [.int x0] ([] : va_W)) (zPI (some (.int r))) 0 0 (fun _ => False) := by
  refine zMetP (cc := cJ6_bitCount_0f7a4) (maxL := 1) (ret := (some .int)) (lv := [(0, .int x0)]) (by decide) rfl (Nat.le_of_ble_eq_true rfl) rfl ?_
  intro p e s m args below meth c ls Q hQ hx hb hr hml hown hts hlocks hname hP hE hD hl
  have hown : s.vm.findClass RJ6 = some m.cls := hown
  have hK := hE.1
  unfold fJ6_bitCount_0f7a4 at hF
  refine lv_iload_n (pc := 0) hx hb dJ6_bitCount_0f7a4_0 rfl (lv_at hl 0 rfl) ?_
  refine lv_iload_n (pc := 1) hx hb dJ6_bitCount_0f7a4_1 rfl (lv_at hl 0 rfl) ?_
  refine lv_iconst (pc := 2) (v := (nI 1)) hx hb dJ6_bitCount_0f7a4_2 (by decide) ?_
  refine lv_iushr (pc := 3) (v := ((x0.toUInt32 >>> ((nI 1).toUInt32 &&& Int32.toUInt32 31)).toInt32)) hx hb dJ6_bitCount_0f7a4_3 rfl ?_
  refine lv_ldcw (pc := 4) hx hb hown (hts _ kJ6_bitCount_0f7a4_0) dJ6_bitCount_0f7a4_4 ?_
  refine lv_iand (pc := 7) hx hb dJ6_bitCount_0f7a4_7 ?_
  refine lv_isub (pc := 8) hx hb dJ6_bitCount_0f7a4_8 ?_
  refine lv_istore_n (pc := 9) (lv' := [(0, .int (x0 - (((x0.toUInt32 >>> ((nI 1).toUInt32 &&& Int32.toUInt32 31)).toInt32) &&& (nI 1431655765))))]) hx hb dJ6_bitCount_0f7a4_9 rfl hl (by decide) rfl (fun ls hl => ?_)
  refine lv_iload_n (pc := 10) hx hb dJ6_bitCount_0f7a4_10 rfl (lv_at hl 0 rfl) ?_
  refine lv_ldcw (pc := 11) hx hb hown (hts _ kJ6_bitCount_0f7a4_1) dJ6_bitCount_0f7a4_11 ?_
  refine lv_iand (pc := 14) hx hb dJ6_bitCount_0f7a4_14 ?_
  refine lv_iload_n (pc := 15) hx hb dJ6_bitCount_0f7a4_15 rfl (lv_at hl 0 rfl) ?_
  refine lv_iconst (pc := 16) (v := (nI 2)) hx hb dJ6_bitCount_0f7a4_16 (by decide) ?_
  refine lv_iushr (pc := 17) (v := (((x0 - (((x0.toUInt32 >>> ((nI 1).toUInt32 &&& Int32.toUInt32 31)).toInt32) &&& (nI 1431655765))).toUInt32 >>> ((nI 2).toUInt32 &&& Int32.toUInt32 31)).toInt32)) hx hb dJ6_bitCount_0f7a4_17 rfl ?_
  refine lv_ldcw (pc := 18) hx hb hown (hts _ kJ6_bitCount_0f7a4_1) dJ6_bitCount_0f7a4_18 ?_
  refine lv_iand (pc := 21) hx hb dJ6_bitCount_0f7a4_21 ?_
  refine lv_iadd (pc := 22) hx hb dJ6_bitCount_0f7a4_22 ?_
  refine lv_istore_n (pc := 23) (lv' := [(0, .int (((x0 - (((x0.toUInt32 >>> ((nI 1).toUInt32 &&& Int32.toUInt32 31)).toInt32) &&& (nI 1431655765))) &&& (nI 858993459)) + ((((x0 - (((x0.toUInt32 >>> ((nI 1).toUInt32 &&& Int32.toUInt32 31)).toInt32) &&& (nI 1431655765))).toUInt32 >>> ((nI 2).toUInt32 &&& Int32.toUInt32 31)).toInt32) &&& (nI 858993459))))]) hx hb dJ6_bitCount_0f7a4_23 rfl hl (by decide) rfl (fun ls hl => ?_)
  refine lv_iload_n (pc := 24) hx hb dJ6_bitCount_0f7a4_24 rfl (lv_at hl 0 rfl) ?_
  refine lv_iload_n (pc := 25) hx hb dJ6_bitCount_0f7a4_25 rfl (lv_at hl 0 rfl) ?_
  refine lv_iconst (pc := 26) (v := (nI 4)) hx hb dJ6_bitCount_0f7a4_26 (by decide) ?_
  refine lv_iushr (pc := 27) (v := (((((x0 - (((x0.toUInt32 >>> ((nI 1).toUInt32 &&& Int32.toUInt32 31)).toInt32) &&& (nI 1431655765))) &&& (nI 858993459)) + ((((x0 - (((x0.toUInt32 >>> ((nI 1).toUInt32 &&& Int32.toUInt32 31)).toInt32) &&& (nI 1431655765))).toUInt32 >>> ((nI 2).toUInt32 &&& Int32.toUInt32 31)).toInt32) &&& (nI 858993459))).toUInt32 >>> ((nI 4).toUInt32 &&& Int32.toUInt32 31)).toInt32)) hx hb dJ6_bitCount_0f7a4_27 rfl ?_
  refine lv_iadd (pc := 28) hx hb dJ6_bitCount_0f7a4_28 ?_
  refine lv_ldcw (pc := 29) hx hb hown (hts _ kJ6_bitCount_0f7a4_2) dJ6_bitCount_0f7a4_29 ?_
  refine lv_iand (pc := 32) hx hb dJ6_bitCount_0f7a4_32 ?_
  refine lv_istore_n (pc := 33) (lv' := [(0, .int (((((x0 - (((x0.toUInt32 >>> ((nI 1).toUInt32 &&& Int32.toUInt32 31)).toInt32) &&& (nI 1431655765))) &&& (nI 858993459)) + ((((x0 - (((x0.toUInt32 >>> ((nI 1).toUInt32 &&& Int32.toUInt32 31)).toInt32) &&& (nI 1431655765))).toUInt32 >>> ((nI 2).toUInt32 &&& Int32.toUInt32 31)).toInt32) &&& (nI 858993459))) + (((((x0 - (((x0.toUInt32 >>> ((nI 1).toUInt32 &&& Int32.toUInt32 31)).toInt32) &&& (nI 1431655765))) &&& (nI 858993459)) + ((((x0 - (((x0.toUInt32 >>> ((nI 1).toUInt32 &&& Int32.toUInt32 31)).toInt32) &&& (nI 1431655765))).toUInt32 >>> ((nI 2).toUInt32 &&& Int32.toUInt32 31)).toInt32) &&& (nI 858993459))).toUInt32 >>> ((nI 4).toUInt32 &&& Int32.toUInt32 31)).toInt32)) &&& (nI 252645135)))]) hx hb dJ6_bitCount_0f7a4_33 rfl hl (by decide) rfl (fun ls hl => ?_)
  refine lv_iload_n (pc := 34) hx hb dJ6_bitCount_0f7a4_34 rfl (lv_at hl 0 rfl) ?_
  refine lv_iload_n (pc := 35) hx hb dJ6_bitCount_0f7a4_35 rfl (lv_at hl 0 rfl) ?_
  refine lv_bipush (pc := 36) (v := (nI 8)) hx hb dJ6_bitCount_0f7a4_36 (by decide) ?_
  refine lv_iushr (pc := 38) (v := (((((((x0 - (((x0.toUInt32 >>> ((nI 1).toUInt32 &&& Int32.toUInt32 31)).toInt32) &&& (nI 1431655765))) &&& (nI 858993459)) + ((((x0 - (((x0.toUInt32 >>> ((nI 1).toUInt32 &&& Int32.toUInt32 31)).toInt32) &&& (nI 1431655765))).toUInt32 >>> ((nI 2).toUInt32 &&& Int32.toUInt32 31)).toInt32) &&& (nI 858993459))) + (((((x0 - (((x0.toUInt32 >>> ((nI 1).toUInt32 &&& Int32.toUInt32 31)).toInt32) &&& (nI 1431655765))) &&& (nI 858993459)) + ((((x0 - (((x0.toUInt32 >>> ((nI 1).toUInt32 &&& Int32.toUInt32 31)).toInt32) &&& (nI 1431655765))).toUInt32 >>> ((nI 2).toUInt32 &&& Int32.toUInt32 31)).toInt32) &&& (nI 858993459))).toUInt32 >>> ((nI 4).toUInt32 &&& Int32.toUInt32 31)).toInt32)) &&& (nI 252645135)).toUInt32 >>> ((nI 8).toUInt32 &&& Int32.toUInt32 31)).toInt32)) hx hb dJ6_bitCount_0f7a4_38 rfl ?_
  refine lv_iadd (pc := 39) hx hb dJ6_bitCount_0f7a4_39 ?_
  refine lv_istore_n (pc := 40) (lv' := [(0, .int ((((((x0 - (((x0.toUInt32 >>> ((nI 1).toUInt32 &&& Int32.toUInt32 31)).toInt32) &&& (nI 1431655765))) &&& (nI 858993459)) + ((((x0 - (((x0.toUInt32 >>> ((nI 1).toUInt32 &&& Int32.toUInt32 31)).toInt32) &&& (nI 1431655765))).toUInt32 >>> ((nI 2).toUInt32 &&& Int32.toUInt32 31)).toInt32) &&& (nI 858993459))) + (((((x0 - (((x0.toUInt32 >>> ((nI 1).toUInt32 &&& Int32.toUInt32 31)).toInt32) &&& (nI 1431655765))) &&& (nI 858993459)) + ((((x0 - (((x0.toUInt32 >>> ((nI 1).toUInt32 &&& Int32.toUInt32 31)).toInt32) &&& (nI 1431655765))).toUInt32 >>> ((nI 2).toUInt32 &&& Int32.toUInt32 31)).toInt32) &&& (nI 858993459))).toUInt32 >>> ((nI 4).toUInt32 &&& Int32.toUInt32 31)).toInt32)) &&& (nI 252645135)) + (((((((x0 - (((x0.toUInt32 >>> ((nI 1).toUInt32 &&& Int32.toUInt32 31)).toInt32) &&& (nI 1431655765))) &&& (nI 858993459)) + ((((x0 - (((x0.toUInt32 >>> ((nI 1).toUInt32 &&& Int32.toUInt32 31)).toInt32) &&& (nI 1431655765))).toUInt32 >>> ((nI 2).toUInt32 &&& Int32.toUInt32 31)).toInt32) &&& (nI 858993459))) + (((((x0 - (((x0.toUInt32 >>> ((nI 1).toUInt32 &&& Int32.toUInt32 31)).toInt32) &&& (nI 1431655765))) &&& (nI 858993459)) + ((((x0 - (((x0.toUInt32 >>> ((nI 1).toUInt32 &&& Int32.toUInt32 31)).toInt32) &&& (nI 1431655765))).toUInt32 >>> ((nI 2).toUInt32 &&& Int32.toUInt32 31)).toInt32) &&& (nI 858993459))).toUInt32 >>> ((nI 4).toUInt32 &&& Int32.toUInt32 31)).toInt32)) &&& (nI 252645135)).toUInt32 >>> ((nI 8).toUInt32 &&& Int32.toUInt32 31)).toInt32)))]) hx hb dJ6_bitCount_0f7a4_40 rfl hl (by decide) rfl (fun ls hl => ?_)
  refine lv_iload_n (pc := 41) hx hb dJ6_bitCount_0f7a4_41 rfl (lv_at hl 0 rfl) ?_
  refine lv_iload_n (pc := 42) hx hb dJ6_bitCount_0f7a4_42 rfl (lv_at hl 0 rfl) ?_
  refine lv_bipush (pc := 43) (v := (nI 16)) hx hb dJ6_bitCount_0f7a4_43 (by decide) ?_
  refine lv_iushr (pc := 45) (v := ((((((((x0 - (((x0.toUInt32 >>> ((nI 1).toUInt32 &&& Int32.toUInt32 31)).toInt32) &&& (nI 1431655765))) &&& (nI 858993459)) + ((((x0 - (((x0.toUInt32 >>> ((nI 1).toUInt32 &&& Int32.toUInt32 31)).toInt32) &&& (nI 1431655765))).toUInt32 >>> ((nI 2).toUInt32 &&& Int32.toUInt32 31)).toInt32) &&& (nI 858993459))) + (((((x0 - (((x0.toUInt32 >>> ((nI 1).toUInt32 &&& Int32.toUInt32 31)).toInt32) &&& (nI 1431655765))) &&& (nI 858993459)) + ((((x0 - (((x0.toUInt32 >>> ((nI 1).toUInt32 &&& Int32.toUInt32 31)).toInt32) &&& (nI 1431655765))).toUInt32 >>> ((nI 2).toUInt32 &&& Int32.toUInt32 31)).toInt32) &&& (nI 858993459))).toUInt32 >>> ((nI 4).toUInt32 &&& Int32.toUInt32 31)).toInt32)) &&& (nI 252645135)) + (((((((x0 - (((x0.toUInt32 >>> ((nI 1).toUInt32 &&& Int32.toUInt32 31)).toInt32) &&& (nI 1431655765))) &&& (nI 858993459)) + ((((x0 - (((x0.toUInt32 >>> ((nI 1).toUInt32 &&& Int32.toUInt32 31)).toInt32) &&& (nI 1431655765))).toUInt32 >>> ((nI 2).toUInt32 &&& Int32.toUInt32 31)).toInt32) &&& (nI 858993459))) + (((((x0 - (((x0.toUInt32 >>> ((nI 1).toUInt32 &&& Int32.toUInt32 31)).toInt32) &&& (nI 1431655765))) &&& (nI 858993459)) + ((((x0 - (((x0.toUInt32 >>> ((nI 1).toUInt32 &&& Int32.toUInt32 31)).toInt32) &&& (nI 1431655765))).toUInt32 >>> ((nI 2).toUInt32 &&& Int32.toUInt32 31)).toInt32) &&& (nI 858993459))).toUInt32 >>> ((nI 4).toUInt32 &&& Int32.toUInt32 31)).toInt32)) &&& (nI 252645135)).toUInt32 >>> ((nI 8).toUInt32 &&& Int32.toUInt32 31)).toInt32)).toUInt32 >>> ((nI 16).toUInt32 &&& Int32.toUInt32 31)).toInt32)) hx hb dJ6_bitCount_0f7a4_45 rfl ?_
  refine lv_iadd (pc := 46) hx hb dJ6_bitCount_0f7a4_46 ?_
  refine lv_istore_n (pc := 47) (lv' := [(0, .int (((((((x0 - (((x0.toUInt32 >>> ((nI 1).toUInt32 &&& Int32.toUInt32 31)).toInt32) &&& (nI 1431655765))) &&& (nI 858993459)) + ((((x0 - (((x0.toUInt32 >>> ((nI 1).toUInt32 &&& Int32.toUInt32 31)).toInt32) &&& (nI 1431655765))).toUInt32 >>> ((nI 2).toUInt32 &&& Int32.toUInt32 31)).toInt32) &&& (nI 858993459))) + (((((x0 - (((x0.toUInt32 >>> ((nI 1).toUInt32 &&& Int32.toUInt32 31)).toInt32) &&& (nI 1431655765))) &&& (nI 858993459)) + ((((x0 - (((x0.toUInt32 >>> ((nI 1).toUInt32 &&& Int32.toUInt32 31)).toInt32) &&& (nI 1431655765))).toUInt32 >>> ((nI 2).toUInt32 &&& Int32.toUInt32 31)).toInt32) &&& (nI 858993459))).toUInt32 >>> ((nI 4).toUInt32 &&& Int32.toUInt32 31)).toInt32)) &&& (nI 252645135)) + (((((((x0 - (((x0.toUInt32 >>> ((nI 1).toUInt32 &&& Int32.toUInt32 31)).toInt32) &&& (nI 1431655765))) &&& (nI 858993459)) + ((((x0 - (((x0.toUInt32 >>> ((nI 1).toUInt32 &&& Int32.toUInt32 31)).toInt32) &&& (nI 1431655765))).toUInt32 >>> ((nI 2).toUInt32 &&& Int32.toUInt32 31)).toInt32) &&& (nI 858993459))) + (((((x0 - (((x0.toUInt32 >>> ((nI 1).toUInt32 &&& Int32.toUInt32 31)).toInt32) &&& (nI 1431655765))) &&& (nI 858993459)) + ((((x0 - (((x0.toUInt32 >>> ((nI 1).toUInt32 &&& Int32.toUInt32 31)).toInt32) &&& (nI 1431655765))).toUInt32 >>> ((nI 2).toUInt32 &&& Int32.toUInt32 31)).toInt32) &&& (nI 858993459))).toUInt32 >>> ((nI 4).toUInt32 &&& Int32.toUInt32 31)).toInt32)) &&& (nI 252645135)).toUInt32 >>> ((nI 8).toUInt32 &&& Int32.toUInt32 31)).toInt32)) + ((((((((x0 - (((x0.toUInt32 >>> ((nI 1).toUInt32 &&& Int32.toUInt32 31)).toInt32) &&& (nI 1431655765))) &&& (nI 858993459)) + ((((x0 - (((x0.toUInt32 >>> ((nI 1).toUInt32 &&& Int32.toUInt32 31)).toInt32) &&& (nI 1431655765))).toUInt32 >>> ((nI 2).toUInt32 &&& Int32.toUInt32 31)).toInt32) &&& (nI 858993459))) + (((((x0 - (((x0.toUInt32 >>> ((nI 1).toUInt32 &&& Int32.toUInt32 31)).toInt32) &&& (nI 1431655765))) &&& (nI 858993459)) + ((((x0 - (((x0.toUInt32 >>> ((nI 1).toUInt32 &&& Int32.toUInt32 31)).toInt32) &&& (nI 1431655765))).toUInt32 >>> ((nI 2).toUInt32 &&& Int32.toUInt32 31)).toInt32) &&& (nI 858993459))).toUInt32 >>> ((nI 4).toUInt32 &&& Int32.toUInt32 31)).toInt32)) &&& (nI 252645135)) + (((((((x0 - (((x0.toUInt32 >>> ((nI 1).toUInt32 &&& Int32.toUInt32 31)).toInt32) &&& (nI 1431655765))) &&& (nI 858993459)) + ((((x0 - (((x0.toUInt32 >>> ((nI 1).toUInt32 &&& Int32.toUInt32 31)).toInt32) &&& (nI 1431655765))).toUInt32 >>> ((nI 2).toUInt32 &&& Int32.toUInt32 31)).toInt32) &&& (nI 858993459))) + (((((x0 - (((x0.toUInt32 >>> ((nI 1).toUInt32 &&& Int32.toUInt32 31)).toInt32) &&& (nI 1431655765))) &&& (nI 858993459)) + ((((x0 - (((x0.toUInt32 >>> ((nI 1).toUInt32 &&& Int32.toUInt32 31)).toInt32) &&& (nI 1431655765))).toUInt32 >>> ((nI 2).toUInt32 &&& Int32.toUInt32 31)).toInt32) &&& (nI 858993459))).toUInt32 >>> ((nI 4).toUInt32 &&& Int32.toUInt32 31)).toInt32)) &&& (nI 252645135)).toUInt32 >>> ((nI 8).toUInt32 &&& Int32.toUInt32 31)).toInt32)).toUInt32 >>> ((nI 16).toUInt32 &&& Int32.toUInt32 31)).toInt32)))]) hx hb dJ6_bitCount_0f7a4_47 rfl hl (by decide) rfl (fun ls hl => ?_)
  refine lv_iload_n (pc := 48) hx hb dJ6_bitCount_0f7a4_48 rfl (lv_at hl 0 rfl) ?_
  refine lv_bipush (pc := 49) (v := (nI 63)) hx hb dJ6_bitCount_0f7a4_49 (by decide) ?_
  refine lv_iand (pc := 51) hx hb dJ6_bitCount_0f7a4_51 ?_
  exact z_iret (pc := 52) (fun q => q) hx hb hr hlocks hF rfl hQ dJ6_bitCount_0f7a4_52

abbrev rX4_isBelow : Room := { frames := 0, cells := 0, slots := 0, locals := 0 }
set_option maxHeartbeats 4000000 in
set_option maxRecDepth 100000 in
theorem tX4_isBelow {l : Launch} {D : va_G} {cB cI cJ cO : ClassId} (x0 : Int32) (x1 : Int32) (r : Int32) (hF : fX4_isBelow x0 x1 = some r) : Met l yX4_isBelow wsX4_isBelow rX4_isBelow (zPre D cB cI cJ cO [.int x0, .int x1] ([] : va_W)) (zPI (some (.int r))) 0 0 (fun _ => False) := by
  refine zMetP (cc := cX4_isBelow) (maxL := 2) (ret := (some .boolean)) (lv := [(0, .int x0), (1, .int x1)]) (by decide) rfl (Nat.le_of_ble_eq_true rfl) rfl ?_
  intro p e s m args below meth c ls Q hQ hx hb hr hml hown hts hlocks hname hP hE hD hl
  have hown : s.vm.findClass RX4 = some m.cls := hown
  have hK := hE.1
  unfold fX4_isBelow at hF
  refine lv_iload_n (pc := 0) hx hb dX4_isBelow_0 rfl (lv_at hl 0 rfl) ?_
  refine zb_if_lt (pc := 1) (tgt := 13) hx hb dX4_isBelow_1 (by decide) hF (fun c_1 hF => ?_) (fun c_1 hF => ?_)
  · refine lv_iconst (pc := 13) (v := (nI 0)) hx hb dX4_isBelow_13 (by decide) ?_
    exact z_zret (pc := 14) (fun q => q) hx hb hr hlocks (by decide) hF rfl hQ dX4_isBelow_14
  · refine lv_iload_n (pc := 4) hx hb dX4_isBelow_4 rfl (lv_at hl 0 rfl) ?_
    refine lv_iload_n (pc := 5) hx hb dX4_isBelow_5 rfl (lv_at hl 1 rfl) ?_
    refine zb_icmp_ge (pc := 6) (tgt := 13) hx hb dX4_isBelow_6 (by decide) hF (fun c_6 hF => ?_) (fun c_6 hF => ?_)
    · refine lv_iconst (pc := 13) (v := (nI 0)) hx hb dX4_isBelow_13 (by decide) ?_
      exact z_zret (pc := 14) (fun q => q) hx hb hr hlocks (by decide) hF rfl hQ dX4_isBelow_14
    · refine lv_iconst (pc := 9) (v := (nI 1)) hx hb dX4_isBelow_9 (by decide) ?_
      refine lv_goto (pc := 10) (tgt := 14) hx hb dX4_isBelow_10 (by decide) ?_
      exact z_zret (pc := 14) (fun q => q) hx hb hr hlocks (by decide) hF rfl hQ dX4_isBelow_14

abbrev rX4_isUnder : Room := { frames := 1, cells := 0, slots := 0, locals := 21 }
theorem kX4_isUnder_0 : Cond.fieldLink RX4 273 "PaintedWalls" "ABOVE" "[I" ∈ wsX4_isUnder := by decide +kernel
set_option maxHeartbeats 4000000 in
set_option maxRecDepth 100000 in
theorem tX4_isUnder {l : Launch} {D : va_G} {cB cI cJ cO : ClassId} {adK adV : Nat → Nat} (x0 : Int32) (x1 : Int32) (r : Int32) (hF : fX4_isUnder x0 x1 = some r) : Met l yX4_isUnder wsX4_isUnder rX4_isUnder (zPreS D cB cI cJ cO adK adV [.int x0, .int x1] ([] : va_W) []) (zPI (some (.int r))) 0 0 (fun _ => False) := by
  refine zMetPS (cc := cX4_isUnder) (maxL := 4) (ret := (some .boolean)) (lv := [(0, .int x0), (1, .int x1)]) rfl (by decide) rfl (Nat.le_of_ble_eq_true rfl) rfl ?_
  intro p e s m args below meth c ls Q hQ hx hb hr hml hown hts hlocks hname hP hE hD hS hZ hl
  have hown : s.vm.findClass RX4 = some m.cls := hown
  have hK := hE.1
  unfold fX4_isUnder at hF
  refine lv_iload_n (pc := 0) hx hb dX4_isUnder_0 rfl (lv_at hl 0 rfl) ?_
  refine lv_istore_n (pc := 1) (lv' := [(2, .int x0), (0, .int x0), (1, .int x1)]) hx hb dX4_isUnder_1 rfl hl (by decide) rfl (fun ls hl => ?_)
  refine lv_iconst (pc := 2) (v := (nI 0)) hx hb dX4_isUnder_2 (by decide) ?_
  refine lv_istore_n (pc := 3) (lv' := [(3, .int (nI 0)), (2, .int x0), (0, .int x0), (1, .int x1)]) hx hb dX4_isUnder_3 rfl hl (by decide) rfl (fun ls hl => ?_)
  obtain ⟨k_3, hk_3, hF⟩ := z_J hF
  have kk_3 : k_3 = some r → ∀ (ls : Array Slot), lv_has ls 4 [] → W p l e rX4_isUnder s m args below meth c s.heap [] 0 0 Q (F0 m 24 ls []) := by
    intro  hF ls hl
    rw [hk_3] at hF
    refine lv_iconst (pc := 24) (v := (nI 1)) hx hb dX4_isUnder_24 (by decide) ?_
    exact z_zret (pc := 25) (fun q => q) hx hb hr hlocks (by decide) hF rfl hQ dX4_isUnder_25
  obtain ⟨k_4, hk_4, hF⟩ := z_J hF
  have kk_4 : k_4 = some r → ∀ (ls : Array Slot), lv_has ls 4 [] → W p l e rX4_isUnder s m args below meth c s.heap [] 0 0 Q (F0 m 38 ls []) := by
    intro  hF ls hl
    rw [hk_4] at hF
    refine lv_iconst (pc := 38) (v := (nI 0)) hx hb dX4_isUnder_38 (by decide) ?_
    exact z_zret (pc := 39) (fun q => q) hx hb hr hlocks (by decide) hF rfl hQ dX4_isUnder_39
  have hL_4 : ∀ (n : Nat) (y2_1 : Int32) (y3_2 : Int32) , fX4_isUnder_L4 x1 k_3 k_4 n y2_1 y3_2 = some r → ∀ (ls : Array Slot), lv_has ls 4 [(1, .int x1), (2, .int y2_1), (3, .int y3_2)] → W p l e rX4_isUnder s m args below meth c s.heap [] 0 0 Q (F0 m 4 ls []) := by
    intro n
    induction n with
    | zero =>
      intro y2_1 y3_2 hF ls hl
      exact z_no hF
    | succ n ih =>
      intro y2_1 y3_2 hF ls hl
      rw [fX4_isUnder_L4] at hF
      refine lv_iload_n (pc := 4) hx hb dX4_isUnder_4 rfl (lv_at hl 2 rfl) ?_
      refine lv_bipush (pc := 5) (v := (nI 6)) hx hb dX4_isUnder_5 (by decide) ?_
      refine zb_icmp_ge (pc := 7) (tgt := 38) hx hb dX4_isUnder_7 (by decide) hF (fun c_7 hF => ?_) (fun c_7 hF => ?_)
      · exact kk_4  hF ls (lv_sub hl [] rfl)
      · refine lv_iload_n (pc := 10) hx hb dX4_isUnder_10 rfl (lv_at hl 1 rfl) ?_
        refine lv_bipush (pc := 11) (v := (nI 6)) hx hb dX4_isUnder_11 (by decide) ?_
        obtain ⟨u13, hu13, hF⟩ := z_bind hF
        refine zq_call (oc0 := (some (.int u13))) (va_runS (As := [.int y2_1, .int (nI 6)]) (rest := []) ⟨hx, hb, hml, hown, hts⟩ (tX4_isBelow (l := l) (D := D) (cB := cB) (cI := cI) (cJ := cJ) (cO := cO) y2_1 (nI 6) u13 hu13) (va_cwS 2 hts gX4_isUnder_X4_isBelow rfl rfl rfl (by decide +kernel) ⟨Nat.le_of_ble_eq_true rfl, Nat.le_of_ble_eq_true rfl⟩) ⟨zPre_blind, zPre_at hP hE (zD_re hD rfl) [] rfl rfl⟩ rfl rfl hl.1 rfl (lv_room (Nat.le_of_ble_eq_true rfl)) dX4_isUnder_13 ⟨Nat.zero_le _, Nat.zero_le _⟩) ?_
        refine W.eq (g2 := F0 m 16 ls [.int u13]) rfl ?_
        refine zb_if_eq (pc := 16) (tgt := 38) hx hb dX4_isUnder_16 (by decide) hF (fun c_16 hF => ?_) (fun c_16 hF => ?_)
        · exact kk_4  hF ls (lv_sub hl [] rfl)
        · refine lv_iload_n (pc := 19) hx hb dX4_isUnder_19 rfl (lv_at hl 1 rfl) ?_
          refine lv_iload_n (pc := 20) hx hb dX4_isUnder_20 rfl (lv_at hl 0 rfl) ?_
          refine zb_icmp_ne (pc := 21) (tgt := 26) hx hb dX4_isUnder_21 (by decide) hF (fun c_21 hF => ?_) (fun c_21 hF => ?_)
          · obtain ⟨t_ABOVE, hz_ABOVE, ht_ABOVE⟩ := hZ.2.2.1
            refine va_gets (pc := 26) hx hb hz_ABOVE hS hown (hts _ kX4_isUnder_0) (fun _ h9 => h9) dX4_isUnder_26 ?_
            refine lv_iload_n (pc := 29) hx hb dX4_isUnder_29 rfl (lv_at hl 1 rfl) ?_
            refine za_ti (pc := 30) hx hb ht_ABOVE hS dX4_isUnder_30 hF (fun hF => ?_)
            refine lv_istore_n (pc := 31) (lv' := [(2, .int (zf_above y2_1.toNatClampNeg)), (1, .int x1), (3, .int y3_2)]) hx hb dX4_isUnder_31 rfl hl (by decide) rfl (fun ls hl => ?_)
            refine lv_iinc (pc := 32) (v := (y3_2 + 1)) (lv' := [(3, .int (y3_2 + 1)), (2, .int (zf_above y2_1.toNatClampNeg)), (1, .int x1)]) hx hb dX4_isUnder_32 hl (k := 2) rfl rfl (by decide) rfl (fun ls hl => ?_)
            refine lv_goto (pc := 35) (tgt := 4) hx hb dX4_isUnder_35 (by decide) ?_
            exact ih (zf_above y2_1.toNatClampNeg) (y3_2 + 1) hF ls (lv_sub hl [2, 1, 0] rfl)
          · exact kk_3  hF ls (lv_sub hl [] rfl)
  exact hL_4 zK x0 (nI 0) hF ls (lv_sub hl [3, 1, 0] rfl)

abbrev rX1_become : Room := { frames := 2, cells := 0, slots := 0, locals := 44 }
abbrev wX1_become (cB cI cJ cO : ClassId) (h0 : Nat) (g_bodies g_traced : Value) (v_isBroken : Int32) (v_kind : Int32) (v_number : Int32) (v_hand : Int32) (v_isFresh : Int32) (v_isCovered : Int32) : va_W := [(h0, .inr (1, [g_bodies, g_traced, .int v_isBroken, .int v_kind, .int v_number, .int v_hand, .int v_isFresh, .int v_isCovered]))]
theorem nX1_become_X1 : ∀ w ∈ wsX10, w ∈ wsX1_become := by decide +kernel
theorem kX1_become_0 : Cond.fieldLink RX1 15 "PaintedWalls$Thing" "kind" "I" ∈ wsX1_become := by decide +kernel
theorem kX1_become_1 : Cond.fieldLink RX1 19 "PaintedWalls$Thing" "number" "I" ∈ wsX1_become := by decide +kernel
theorem kX1_become_2 : Cond.fieldLink RX1 22 "PaintedWalls$Thing" "hand" "I" ∈ wsX1_become := by decide +kernel
theorem kX1_become_3 : Cond.initialized RX4 ∈ wsX1_become := by decide +kernel
theorem kX1_become_4 : Cond.static yX4_isUnder ∈ wsX1_become := by decide +kernel
theorem kX1_become_5 : Cond.fieldLink RX1 29 "PaintedWalls$Thing" "isFresh" "Z" ∈ wsX1_become := by decide +kernel
theorem kX1_become_6 : Cond.fieldLink RX1 33 "PaintedWalls$Thing" "isCovered" "Z" ∈ wsX1_become := by decide +kernel
theorem kX1_become_7 : Cond.fieldLink RX1 36 "PaintedWalls$Thing" "isBroken" "Z" ∈ wsX1_become := by decide +kernel
set_option maxHeartbeats 4000000 in
set_option maxRecDepth 100000 in
theorem tX1_become {l : Launch} {D : va_G} {cB cI cJ cO : ClassId} {adK adV : Nat → Nat} (h0 : Nat) (g_bodies g_traced : Value) (v_isBroken : Int32) (v_kind : Int32) (v_number : Int32) (v_hand : Int32) (v_isFresh : Int32) (v_isCovered : Int32) (x1 : Int32) (x2 : Int32) (x3 : Int32) (r : Int32 × Int32 × Int32 × Int32 × Int32 × Int32) (hF : fX1_become v_isBroken v_kind v_number v_hand v_isFresh v_isCovered x1 x2 x3 = some r) : Met l yX1_become wsX1_become rX1_become (zPreS D cB cI cJ cO adK adV [.ref h0, .int x1, .int x2, .int x3] (wX1_become cB cI cJ cO h0 g_bodies g_traced v_isBroken v_kind v_number v_hand v_isFresh v_isCovered) [h0]) (zPM none D (wX1_become cB cI cJ cO h0 g_bodies g_traced r.1 r.2.1 r.2.2.1 r.2.2.2.1 r.2.2.2.2.1 r.2.2.2.2.2) (zAs [h0])) 0 0 (zAs [h0]) := by
  refine zMetMS (cc := cX1_become) (maxL := 4) (ret := none) (lv := [(0, .ref h0), (1, .int x1), (2, .int x2), (3, .int x3)]) rfl (by decide) rfl (Nat.le_of_ble_eq_true rfl) rfl ?_
  intro p e s m args below meth c ls Q H locs hQ hx hb hr hml hown hts hlocks hname hP hE hD hS hZ hl
  have hown : s.vm.findClass RX1 = some m.cls := hown
  have hK := hE.1
  unfold fX1_become at hF
  refine lv_aload_n (pc := 0) hx hb dX1_become_0 rfl (lv_at hl 0 rfl) ?_
  refine lv_iload_n (pc := 1) hx hb dX1_become_1 rfl (lv_at hl 1 rfl) ?_
  refine va_put (D := D) (pc := 2) (ci := 1) (v := .int x1) (ty := .int) (C := RX1) (T := TX1) (N := 8) hx hb hts nX1_become_X1 tyX1 tyX1_ok nmX1 hown hK hP (zD_re hD rfl) hS 0 rfl rfl 3 (by decide) (hts _ kX1_become_0) (fun _ h9 => h9) rfl (tyX1_ok 3 (by decide)) rfl rfl (Nat.le_of_ble_eq_true rfl) dX1_become_2 (fun H locs hP _ hS => ?_)
  have hP : va_P D vwCl (wX1_become cB cI cJ cO h0 g_bodies g_traced v_isBroken x1 v_number v_hand v_isFresh v_isCovered) H := hP
  refine lv_aload_n (pc := 5) hx hb dX1_become_5 rfl (lv_at hl 0 rfl) ?_
  refine lv_iload_n (pc := 6) hx hb dX1_become_6 rfl (lv_at hl 2 rfl) ?_
  refine va_put (D := D) (pc := 7) (ci := 1) (v := .int x2) (ty := .int) (C := RX1) (T := TX1) (N := 8) hx hb hts nX1_become_X1 tyX1 tyX1_ok nmX1 hown hK hP (zD_re hD rfl) hS 0 rfl rfl 4 (by decide) (hts _ kX1_become_1) (fun _ h9 => h9) rfl (tyX1_ok 4 (by decide)) rfl rfl (Nat.le_of_ble_eq_true rfl) dX1_become_7 (fun H locs hP _ hS => ?_)
  have hP : va_P D vwCl (wX1_become cB cI cJ cO h0 g_bodies g_traced v_isBroken x1 x2 v_hand v_isFresh v_isCovered) H := hP
  refine lv_aload_n (pc := 10) hx hb dX1_become_10 rfl (lv_at hl 0 rfl) ?_
  refine lv_iload_n (pc := 11) hx hb dX1_become_11 rfl (lv_at hl 3 rfl) ?_
  refine va_put (D := D) (pc := 12) (ci := 1) (v := .int x3) (ty := .int) (C := RX1) (T := TX1) (N := 8) hx hb hts nX1_become_X1 tyX1 tyX1_ok nmX1 hown hK hP (zD_re hD rfl) hS 0 rfl rfl 5 (by decide) (hts _ kX1_become_2) (fun _ h9 => h9) rfl (tyX1_ok 5 (by decide)) rfl rfl (Nat.le_of_ble_eq_true rfl) dX1_become_12 (fun H locs hP _ hS => ?_)
  have hP : va_P D vwCl (wX1_become cB cI cJ cO h0 g_bodies g_traced v_isBroken x1 x2 x3 v_isFresh v_isCovered) H := hP
  refine lv_aload_n (pc := 15) hx hb dX1_become_15 rfl (lv_at hl 0 rfl) ?_
  refine lv_iload_n (pc := 16) hx hb dX1_become_16 rfl (lv_at hl 1 rfl) ?_
  refine lv_iconst (pc := 17) (v := (nI 1)) hx hb dX1_become_17 (by decide) ?_
  obtain ⟨u18, hu18, hF⟩ := z_bind hF
  refine zq_call (oc0 := (some (.int u18))) (va_runSN (As := [.int x1, .int (nI 1)]) (rest := [.ref h0]) ⟨hx, hb, hml, hown, hts⟩ (tX4_isUnder (l := l) (D := D) (cB := cB) (cI := cI) (cJ := cJ) (cO := cO) (adK := adK) (adV := adV) x1 (nI 1) u18 hu18) ⟨va_cnB 2 hts gX1_become_X4_isUnder_n25 rfl rfl rfl hE.2.1 (hts _ kX1_become_3) (by decide +kernel) ⟨Nat.le_of_ble_eq_true rfl, Nat.le_of_ble_eq_true rfl⟩, (hts _ kX1_become_4), trivial⟩ ⟨zPreS_blind, zPreS_at hP hE (zD_re hD rfl) hZ hS [] rfl rfl rfl⟩ rfl rfl hl.1 rfl (lv_room (Nat.le_of_ble_eq_true rfl)) dX1_become_18 ⟨Nat.zero_le _, Nat.zero_le _⟩) ?_
  refine W.eq (g2 := F0 m 21 ls [.int u18, .ref h0]) rfl ?_
  obtain ⟨hz, hF⟩ := z_h _ hF
  refine va_put (D := D) (pc := 21) (ci := 1) (v := .int u18) (ty := .boolean) (C := RX1) (T := TX1) (N := 8) hx hb hts nX1_become_X1 tyX1 tyX1_ok nmX1 hown hK hP (zD_re hD rfl) hS 0 rfl rfl 6 (by decide) (hts _ kX1_become_5) (fun _ h9 => h9) rfl (tyX1_ok 6 (by decide)) (z_z hz) (z_zf hz) (Nat.le_of_ble_eq_true rfl) dX1_become_21 (fun H locs hP _ hS => ?_)
  have hP : va_P D vwCl (wX1_become cB cI cJ cO h0 g_bodies g_traced v_isBroken x1 x2 x3 u18 v_isCovered) H := hP
  refine lv_aload_n (pc := 24) hx hb dX1_become_24 rfl (lv_at hl 0 rfl) ?_
  refine lv_iload_n (pc := 25) hx hb dX1_become_25 rfl (lv_at hl 1 rfl) ?_
  refine lv_iconst (pc := 26) (v := (nI 2)) hx hb dX1_become_26 (by decide) ?_
  obtain ⟨u27, hu27, hF⟩ := z_bind hF
  refine zq_call (oc0 := (some (.int u27))) (va_runSN (As := [.int x1, .int (nI 2)]) (rest := [.ref h0]) ⟨hx, hb, hml, hown, hts⟩ (tX4_isUnder (l := l) (D := D) (cB := cB) (cI := cI) (cJ := cJ) (cO := cO) (adK := adK) (adV := adV) x1 (nI 2) u27 hu27) ⟨va_cnB 2 hts gX1_become_X4_isUnder_n25 rfl rfl rfl hE.2.1 (hts _ kX1_become_3) (by decide +kernel) ⟨Nat.le_of_ble_eq_true rfl, Nat.le_of_ble_eq_true rfl⟩, (hts _ kX1_become_4), trivial⟩ ⟨zPreS_blind, zPreS_at hP hE (zD_re hD rfl) hZ hS [] rfl rfl rfl⟩ rfl rfl hl.1 rfl (lv_room (Nat.le_of_ble_eq_true rfl)) dX1_become_27 ⟨Nat.zero_le _, Nat.zero_le _⟩) ?_
  refine W.eq (g2 := F0 m 30 ls [.int u27, .ref h0]) rfl ?_
  obtain ⟨hz, hF⟩ := z_h _ hF
  refine va_put (D := D) (pc := 30) (ci := 1) (v := .int u27) (ty := .boolean) (C := RX1) (T := TX1) (N := 8) hx hb hts nX1_become_X1 tyX1 tyX1_ok nmX1 hown hK hP (zD_re hD rfl) hS 0 rfl rfl 7 (by decide) (hts _ kX1_become_6) (fun _ h9 => h9) rfl (tyX1_ok 7 (by decide)) (z_z hz) (z_zf hz) (Nat.le_of_ble_eq_true rfl) dX1_become_30 (fun H locs hP _ hS => ?_)
  have hP : va_P D vwCl (wX1_become cB cI cJ cO h0 g_bodies g_traced v_isBroken x1 x2 x3 u18 u27) H := hP
  refine lv_aload_n (pc := 33) hx hb dX1_become_33 rfl (lv_at hl 0 rfl) ?_
  refine lv_iconst (pc := 34) (v := (nI 0)) hx hb dX1_become_34 (by decide) ?_
  refine va_put (D := D) (pc := 35) (ci := 1) (v := .int (nI 0)) (ty := .boolean) (C := RX1) (T := TX1) (N := 8) hx hb hts nX1_become_X1 tyX1 tyX1_ok nmX1 hown hK hP (zD_re hD rfl) hS 0 rfl rfl 2 (by decide) (hts _ kX1_become_7) (fun _ h9 => h9) rfl (tyX1_ok 2 (by decide)) rfl rfl (Nat.le_of_ble_eq_true rfl) dX1_become_35 (fun H locs hP _ hS => ?_)
  have hP : va_P D vwCl (wX1_become cB cI cJ cO h0 g_bodies g_traced (nI 0) x1 x2 x3 u18 u27) H := hP
  exact z_vretM (pc := 38) (fun q => (wX1_become cB cI cJ cO h0 g_bodies g_traced q.1 q.2.1 q.2.2.1 q.2.2.2.1 q.2.2.2.2.1 q.2.2.2.2.2)) hx hb hr hlocks hP hS hF hQ dX1_become_38

abbrev rX1_begins : Room := { frames := 0, cells := 0, slots := 0, locals := 0 }
abbrev wX1_begins (cB cI cJ cO : ClassId) (h0 h_bodies : Nat) (g_isBroken g_kind g_number g_hand g_isFresh g_isCovered : Value) (v_traced : Int32) (v_bodies : Nat → Int32) : va_W := [(h0, .inr (1, [.ref h_bodies, .int v_traced, g_isBroken, g_kind, g_number, g_hand, g_isFresh, g_isCovered])), (h_bodies, .inl (cI, 30, .inl v_bodies))]
theorem nX1_begins_X1 : ∀ w ∈ wsX10, w ∈ wsX1_begins := by decide +kernel
theorem kX1_begins_0 : Cond.fieldLink RX1 39 "PaintedWalls$Thing" "traced" "I" ∈ wsX1_begins := by decide +kernel
theorem kX1_begins_1 : Cond.fieldLink RX1 9 "PaintedWalls$Thing" "bodies" "[I" ∈ wsX1_begins := by decide +kernel
set_option maxHeartbeats 4000000 in
set_option maxRecDepth 100000 in
theorem tX1_begins {l : Launch} {D : va_G} {cB cI cJ cO : ClassId} (h0 h_bodies : Nat) (g_isBroken g_kind g_number g_hand g_isFresh g_isCovered : Value) (v_traced : Int32) (v_bodies : Nat → Int32) (x1 : Int32) (r : Int32 × (Nat → Int32)) (hF : fX1_begins v_traced v_bodies x1 = some r) : Met l yX1_begins wsX1_begins rX1_begins (zPre D cB cI cJ cO [.ref h0, .int x1] (wX1_begins cB cI cJ cO h0 h_bodies g_isBroken g_kind g_number g_hand g_isFresh g_isCovered v_traced v_bodies)) (zPM none D (wX1_begins cB cI cJ cO h0 h_bodies g_isBroken g_kind g_number g_hand g_isFresh g_isCovered r.1 r.2) (zAs [h0, h_bodies])) 0 0 (zAs [h0, h_bodies]) := by
  refine zMetM (cc := cX1_begins) (maxL := 2) (ret := none) (lv := [(0, .ref h0), (1, .int x1)]) rfl (by decide) rfl (Nat.le_of_ble_eq_true rfl) rfl ?_
  intro p e s m args below meth c ls Q H locs hQ hx hb hr hml hown hts hlocks hname hP hE hD hS hl
  have hown : s.vm.findClass RX1 = some m.cls := hown
  have hK := hE.1
  unfold fX1_begins at hF
  refine lv_aload_n (pc := 0) hx hb dX1_begins_0 rfl (lv_at hl 0 rfl) ?_
  refine va_get (D := D) (pc := 1) (ci := 1) (v := .int v_traced) (C := RX1) (T := TX1) (N := 8) hx hb hts nX1_begins_X1 hown hK hP 0 rfl rfl 1 (by decide) (hts _ kX1_begins_0) (fun _ h9 => h9) rfl dX1_begins_1 ?_
  refine lv_bipush (pc := 4) (v := (nI 30)) hx hb dX1_begins_4 (by decide) ?_
  refine zb_icmp_ge (pc := 6) (tgt := 29) hx hb dX1_begins_6 (by decide) hF (fun c_6 hF => ?_) (fun c_6 hF => ?_)
  · exact z_vretM (pc := 29) (fun q => (wX1_begins cB cI cJ cO h0 h_bodies g_isBroken g_kind g_number g_hand g_isFresh g_isCovered q.1 q.2)) hx hb hr hlocks hP hS hF hQ dX1_begins_29
  · refine lv_aload_n (pc := 9) hx hb dX1_begins_9 rfl (lv_at hl 0 rfl) ?_
    refine va_get (D := D) (pc := 10) (ci := 1) (v := .ref h_bodies) (C := RX1) (T := TX1) (N := 8) hx hb hts nX1_begins_X1 hown hK hP 0 rfl rfl 0 (by decide) (hts _ kX1_begins_1) (fun _ h9 => h9) rfl dX1_begins_10 ?_
    refine lv_aload_n (pc := 13) hx hb dX1_begins_13 rfl (lv_at hl 0 rfl) ?_
    refine va_get (D := D) (pc := 14) (ci := 1) (v := .int v_traced) (C := RX1) (T := TX1) (N := 8) hx hb hts nX1_begins_X1 hown hK hP 0 rfl rfl 1 (by decide) (hts _ kX1_begins_0) (fun _ h9 => h9) rfl dX1_begins_14 ?_
    refine lv_iload_n (pc := 17) hx hb dX1_begins_17 rfl (lv_at hl 1 rfl) ?_
    refine za_iast (pc := 18) hx hb hK hP (zD_re hD rfl) hS 1 1 rfl rfl dX1_begins_18 hF (fun hF H locs hP hS => ?_)
    have hP : va_P D vwCl (wX1_begins cB cI cJ cO h0 h_bodies g_isBroken g_kind g_number g_hand g_isFresh g_isCovered v_traced (upd v_bodies v_traced.toNatClampNeg x1)) H := hP
    refine lv_aload_n (pc := 19) hx hb dX1_begins_19 rfl (lv_at hl 0 rfl) ?_
    refine lv_dup (pc := 20) hx hb dX1_begins_20 rfl ?_
    refine va_get (D := D) (pc := 21) (ci := 1) (v := .int v_traced) (C := RX1) (T := TX1) (N := 8) hx hb hts nX1_begins_X1 hown hK hP 0 rfl rfl 1 (by decide) (hts _ kX1_begins_0) (fun _ h9 => h9) rfl dX1_begins_21 ?_
    refine lv_iconst (pc := 24) (v := (nI 1)) hx hb dX1_begins_24 (by decide) ?_
    refine lv_iadd (pc := 25) hx hb dX1_begins_25 ?_
    refine va_put (D := D) (pc := 26) (ci := 1) (v := .int (v_traced + (nI 1))) (ty := .int) (C := RX1) (T := TX1) (N := 8) hx hb hts nX1_begins_X1 tyX1 tyX1_ok nmX1 hown hK hP (zD_re hD rfl) hS 0 rfl rfl 1 (by decide) (hts _ kX1_begins_0) (fun _ h9 => h9) rfl (tyX1_ok 1 (by decide)) rfl rfl (Nat.le_of_ble_eq_true rfl) dX1_begins_26 (fun H locs hP _ hS => ?_)
    have hP : va_P D vwCl (wX1_begins cB cI cJ cO h0 h_bodies g_isBroken g_kind g_number g_hand g_isFresh g_isCovered (v_traced + (nI 1)) (upd v_bodies v_traced.toNatClampNeg x1)) H := hP
    exact z_vretM (pc := 29) (fun q => (wX1_begins cB cI cJ cO h0 h_bodies g_isBroken g_kind g_number g_hand g_isFresh g_isCovered q.1 q.2)) hx hb hr hlocks hP hS hF hQ dX1_begins_29

abbrev rX1_sprays : Room := { frames := 1, cells := 0, slots := 0, locals := 21 }
abbrev wX1_sprays (cB cI cJ cO : ClassId) (h0 h_bodies : Nat) (g_isBroken g_isFresh : Value) (v_traced : Int32) (v_kind : Int32) (v_number : Int32) (v_hand : Int32) (v_isCovered : Int32) (v_bodies : Nat → Int32) : va_W := [(h0, .inr (1, [.ref h_bodies, .int v_traced, g_isBroken, .int v_kind, .int v_number, .int v_hand, g_isFresh, .int v_isCovered])), (h_bodies, .inl (cI, 30, .inl v_bodies))]
theorem nX1_sprays_X1 : ∀ w ∈ wsX10, w ∈ wsX1_sprays := by decide +kernel
theorem kX1_sprays_0 : Cond.fieldLink RX1 15 "PaintedWalls$Thing" "kind" "I" ∈ wsX1_sprays := by decide +kernel
theorem kX1_sprays_1 : Cond.fieldLink RX1 33 "PaintedWalls$Thing" "isCovered" "Z" ∈ wsX1_sprays := by decide +kernel
theorem kX1_sprays_2 : Cond.fieldLink RX1 19 "PaintedWalls$Thing" "number" "I" ∈ wsX1_sprays := by decide +kernel
theorem kX1_sprays_3 : Cond.fieldLink RX1 22 "PaintedWalls$Thing" "hand" "I" ∈ wsX1_sprays := by decide +kernel
set_option maxHeartbeats 4000000 in
set_option maxRecDepth 100000 in
theorem tX1_sprays {l : Launch} {D : va_G} {cB cI cJ cO : ClassId} (h0 h_bodies : Nat) (g_isBroken g_isFresh : Value) (v_traced : Int32) (v_kind : Int32) (v_number : Int32) (v_hand : Int32) (v_isCovered : Int32) (v_bodies : Nat → Int32) (x1 : Int32) (r : Int32 × Int32 × (Nat → Int32)) (hF : fX1_sprays v_traced v_kind v_number v_hand v_isCovered v_bodies x1 = some r) : Met l yX1_sprays wsX1_sprays rX1_sprays (zPre D cB cI cJ cO [.ref h0, .int x1] (wX1_sprays cB cI cJ cO h0 h_bodies g_isBroken g_isFresh v_traced v_kind v_number v_hand v_isCovered v_bodies)) (zPM (some (.int r.1)) D (wX1_sprays cB cI cJ cO h0 h_bodies g_isBroken g_isFresh r.2.1 v_kind v_number v_hand v_isCovered r.2.2) (zAs [h0, h_bodies])) 0 0 (zAs [h0, h_bodies]) := by
  refine zMetM (cc := cX1_sprays) (maxL := 3) (ret := (some .int)) (lv := [(0, .ref h0), (1, .int x1)]) rfl (by decide) rfl (Nat.le_of_ble_eq_true rfl) rfl ?_
  intro p e s m args below meth c ls Q H locs hQ hx hb hr hml hown hts hlocks hname hP hE hD hS hl
  have hown : s.vm.findClass RX1 = some m.cls := hown
  have hK := hE.1
  unfold fX1_sprays at hF
  refine lv_aload_n (pc := 0) hx hb dX1_sprays_0 rfl (lv_at hl 0 rfl) ?_
  refine va_get (D := D) (pc := 1) (ci := 1) (v := .int v_kind) (C := RX1) (T := TX1) (N := 8) hx hb hts nX1_sprays_X1 hown hK hP 0 rfl rfl 3 (by decide) (hts _ kX1_sprays_0) (fun _ h9 => h9) rfl dX1_sprays_1 ?_
  refine lv_iconst (pc := 4) (v := (nI 3)) hx hb dX1_sprays_4 (by decide) ?_
  obtain ⟨J_3, hJ_3, hF⟩ := z_J hF
  have kJ_3 : ∀ (v_traced_1 : Int32) (v_bodies_2 : Nat → Int32) , J_3 v_traced_1 v_bodies_2 = some r → ∀ (H : Heap) (locs : List Loc), va_P D vwCl (wX1_sprays cB cI cJ cO h0 h_bodies g_isBroken g_isFresh v_traced_1 v_kind v_number v_hand v_isCovered v_bodies_2) H → va_S (zAs [h0, h_bodies]) s.heap H locs → ∀ (ls : Array Slot), lv_has ls 3 [(0, .ref h0), (1, .int x1)] → W p l e rX1_sprays s m args below meth c H locs 0 0 Q (F0 m 14 ls []) := by
    intro v_traced_1 v_bodies_2 hF H locs hP hS ls hl
    rw [hJ_3] at hF
    refine lv_aload_n (pc := 14) hx hb dX1_sprays_14 rfl (lv_at hl 0 rfl) ?_
    refine va_get (D := D) (pc := 15) (ci := 1) (v := .int v_kind) (C := RX1) (T := TX1) (N := 8) hx hb hts nX1_sprays_X1 hown hK hP 0 rfl rfl 3 (by decide) (hts _ kX1_sprays_0) (fun _ h9 => h9) rfl dX1_sprays_15 ?_
    refine lv_iconst (pc := 18) (v := (nI 4)) hx hb dX1_sprays_18 (by decide) ?_
    obtain ⟨J_6, hJ_6, hF⟩ := z_J hF
    have kJ_6 : ∀ (v_traced_4 : Int32) (v_bodies_5 : Nat → Int32) , J_6 v_traced_4 v_bodies_5 = some r → ∀ (H : Heap) (locs : List Loc), va_P D vwCl (wX1_sprays cB cI cJ cO h0 h_bodies g_isBroken g_isFresh v_traced_4 v_kind v_number v_hand v_isCovered v_bodies_5) H → va_S (zAs [h0, h_bodies]) s.heap H locs → ∀ (ls : Array Slot), lv_has ls 3 [(0, .ref h0), (1, .int x1)] → W p l e rX1_sprays s m args below meth c H locs 0 0 Q (F0 m 28 ls []) := by
      intro v_traced_4 v_bodies_5 hF H locs hP hS ls hl
      rw [hJ_6] at hF
      refine lv_aload_n (pc := 28) hx hb dX1_sprays_28 rfl (lv_at hl 0 rfl) ?_
      refine va_get (D := D) (pc := 29) (ci := 1) (v := .int v_isCovered) (C := RX1) (T := TX1) (N := 8) hx hb hts nX1_sprays_X1 hown hK hP 0 rfl rfl 7 (by decide) (hts _ kX1_sprays_1) (fun _ h9 => h9) rfl dX1_sprays_29 ?_
      obtain ⟨J_9, hJ_9, hF⟩ := z_J hF
      have kJ_9 : ∀ (v_traced_7 : Int32) (v_bodies_8 : Nat → Int32) , J_9 v_traced_7 v_bodies_8 = some r → ∀ (H : Heap) (locs : List Loc), va_P D vwCl (wX1_sprays cB cI cJ cO h0 h_bodies g_isBroken g_isFresh v_traced_7 v_kind v_number v_hand v_isCovered v_bodies_8) H → va_S (zAs [h0, h_bodies]) s.heap H locs → ∀ (ls : Array Slot), lv_has ls 3 [(0, .ref h0), (1, .int x1)] → W p l e rX1_sprays s m args below meth c H locs 0 0 Q (F0 m 41 ls []) := by
        intro v_traced_7 v_bodies_8 hF H locs hP hS ls hl
        rw [hJ_9] at hF
        refine lv_aload_n (pc := 41) hx hb dX1_sprays_41 rfl (lv_at hl 0 rfl) ?_
        refine lv_bipush (pc := 42) (v := (nI 10)) hx hb dX1_sprays_42 (by decide) ?_
        obtain ⟨u44, hu44, hF⟩ := z_bind hF
        refine zq_callM (oc0 := none) (wc := wX1_begins cB cI cJ cO h0 h_bodies g_isBroken (.int v_kind) (.int v_number) (.int v_hand) g_isFresh (.int v_isCovered) v_traced_7 v_bodies_8) (wc' := wX1_begins cB cI cJ cO h0 h_bodies g_isBroken (.int v_kind) (.int v_number) (.int v_hand) g_isFresh (.int v_isCovered) u44.1 u44.2) (ws' := (wX1_sprays cB cI cJ cO h0 h_bodies g_isBroken g_isFresh u44.1 v_kind v_number v_hand v_isCovered u44.2)) (va_runV (As := [.int (nI 10)]) (rest := []) ⟨hx, hb, hml, hown, hts⟩ (tX1_begins (l := l) (D := D) (cB := cB) (cI := cI) (cJ := cJ) (cO := cO) h0 h_bodies g_isBroken (.int v_kind) (.int v_number) (.int v_hand) g_isFresh (.int v_isCovered) v_traced_7 v_bodies_8 (nI 10) u44 hu44) (cwV 1 hts gX1_sprays_X1_begins rfl rfl rfl (by decide +kernel) ⟨Nat.le_of_ble_eq_true rfl, Nat.le_of_ble_eq_true rfl⟩) ⟨zPre_blind, va_recv hK hP (ci := 1) (q0 := 0) rfl rfl, zPre_at hP hE (zD_re hD rfl) [0, 1] rfl rfl⟩ rfl rfl hl.1 rfl (lv_room (Nat.le_of_ble_eq_true rfl)) dX1_sprays_44 ⟨Nat.zero_le _, Nat.zero_le _⟩) rfl hP (zD_re hD rfl) hS [0, 1] rfl rfl [some 0, some 1] rfl rfl rfl rfl (fun H locs hP hS => ?_)
        refine W.eq (g2 := F0 m 47 ls []) rfl ?_
        refine lv_iload_n (pc := 47) hx hb dX1_sprays_47 rfl (lv_at hl 1 rfl) ?_
        refine lv_bipush (pc := 48) (v := (nI 7)) hx hb dX1_sprays_48 (by decide) ?_
        refine lv_imul (pc := 50) hx hb dX1_sprays_50 ?_
        refine lv_aload_n (pc := 51) hx hb dX1_sprays_51 rfl (lv_at hl 0 rfl) ?_
        refine va_get (D := D) (pc := 52) (ci := 1) (v := .int v_number) (C := RX1) (T := TX1) (N := 8) hx hb hts nX1_sprays_X1 hown hK hP 0 rfl rfl 4 (by decide) (hts _ kX1_sprays_2) (fun _ h9 => h9) rfl dX1_sprays_52 ?_
        refine lv_iadd (pc := 55) hx hb dX1_sprays_55 ?_
        refine lv_istore_n (pc := 56) (lv' := [(2, .int ((x1 * (nI 7)) + v_number)), (0, .ref h0), (1, .int x1)]) hx hb dX1_sprays_56 rfl hl (by decide) rfl (fun ls hl => ?_)
        refine lv_aload_n (pc := 57) hx hb dX1_sprays_57 rfl (lv_at hl 1 rfl) ?_
        refine va_get (D := D) (pc := 58) (ci := 1) (v := .int v_isCovered) (C := RX1) (T := TX1) (N := 8) hx hb hts nX1_sprays_X1 hown hK hP 0 rfl rfl 7 (by decide) (hts _ kX1_sprays_1) (fun _ h9 => h9) rfl dX1_sprays_58 ?_
        obtain ⟨J_11, hJ_11, hF⟩ := z_J hF
        have kJ_11 : ∀ (y2_10 : Int32) , J_11 y2_10 = some r → ∀ (H : Heap) (locs : List Loc), va_P D vwCl (wX1_sprays cB cI cJ cO h0 h_bodies g_isBroken g_isFresh u44.1 v_kind v_number v_hand v_isCovered u44.2) H → va_S (zAs [h0, h_bodies]) s.heap H locs → ∀ (ls : Array Slot), lv_has ls 3 [(0, .ref h0), (2, .int y2_10)] → W p l e rX1_sprays s m args below meth c H locs 0 0 Q (F0 m 68 ls []) := by
          intro y2_10 hF H locs hP hS ls hl
          rw [hJ_11] at hF
          refine lv_aload_n (pc := 68) hx hb dX1_sprays_68 rfl (lv_at hl 0 rfl) ?_
          refine va_get (D := D) (pc := 69) (ci := 1) (v := .int v_kind) (C := RX1) (T := TX1) (N := 8) hx hb hts nX1_sprays_X1 hown hK hP 0 rfl rfl 3 (by decide) (hts _ kX1_sprays_0) (fun _ h9 => h9) rfl dX1_sprays_69 ?_
          refine lv_iconst (pc := 72) (v := (nI 4)) hx hb dX1_sprays_72 (by decide) ?_
          refine zb_icmp_ne (pc := 73) (tgt := 81) hx hb dX1_sprays_73 (by decide) hF (fun c_73 hF => ?_) (fun c_73 hF => ?_)
          · refine lv_aload_n (pc := 81) hx hb dX1_sprays_81 rfl (lv_at hl 0 rfl) ?_
            refine va_get (D := D) (pc := 82) (ci := 1) (v := .int v_kind) (C := RX1) (T := TX1) (N := 8) hx hb hts nX1_sprays_X1 hown hK hP 0 rfl rfl 3 (by decide) (hts _ kX1_sprays_0) (fun _ h9 => h9) rfl dX1_sprays_82 ?_
            refine lv_iconst (pc := 85) (v := (nI 3)) hx hb dX1_sprays_85 (by decide) ?_
            refine zb_icmp_ne (pc := 86) (tgt := 98) hx hb dX1_sprays_86 (by decide) hF (fun c_86 hF => ?_) (fun c_86 hF => ?_)
            · refine lv_iload_n (pc := 98) hx hb dX1_sprays_98 rfl (lv_at hl 1 rfl) ?_
              exact z_iretM (pc := 99) (fun q => q.1) (fun q => (wX1_sprays cB cI cJ cO h0 h_bodies g_isBroken g_isFresh q.2.1 v_kind v_number v_hand v_isCovered q.2.2)) hx hb hr hlocks hP hS hF rfl hQ dX1_sprays_99
            · refine lv_iload_n (pc := 89) hx hb dX1_sprays_89 rfl (lv_at hl 1 rfl) ?_
              refine lv_aload_n (pc := 90) hx hb dX1_sprays_90 rfl (lv_at hl 0 rfl) ?_
              refine va_get (D := D) (pc := 91) (ci := 1) (v := .int v_hand) (C := RX1) (T := TX1) (N := 8) hx hb hts nX1_sprays_X1 hown hK hP 0 rfl rfl 5 (by decide) (hts _ kX1_sprays_3) (fun _ h9 => h9) rfl dX1_sprays_91 ?_
              refine lv_isub (pc := 94) hx hb dX1_sprays_94 ?_
              refine lv_goto (pc := 95) (tgt := 99) hx hb dX1_sprays_95 (by decide) ?_
              exact z_iretM (pc := 99) (fun q => q.1) (fun q => (wX1_sprays cB cI cJ cO h0 h_bodies g_isBroken g_isFresh q.2.1 v_kind v_number v_hand v_isCovered q.2.2)) hx hb hr hlocks hP hS hF rfl hQ dX1_sprays_99
          · refine lv_iload_n (pc := 76) hx hb dX1_sprays_76 rfl (lv_at hl 1 rfl) ?_
            refine lv_bipush (pc := 77) (v := (nI 12)) hx hb dX1_sprays_77 (by decide) ?_
            refine lv_ixor (pc := 79) hx hb dX1_sprays_79 ?_
            refine lv_istore_n (pc := 80) (lv' := [(2, .int (y2_10 ^^^ (nI 12))), (0, .ref h0)]) hx hb dX1_sprays_80 rfl hl (by decide) rfl (fun ls hl => ?_)
            refine lv_aload_n (pc := 81) hx hb dX1_sprays_81 rfl (lv_at hl 1 rfl) ?_
            refine va_get (D := D) (pc := 82) (ci := 1) (v := .int v_kind) (C := RX1) (T := TX1) (N := 8) hx hb hts nX1_sprays_X1 hown hK hP 0 rfl rfl 3 (by decide) (hts _ kX1_sprays_0) (fun _ h9 => h9) rfl dX1_sprays_82 ?_
            refine lv_iconst (pc := 85) (v := (nI 3)) hx hb dX1_sprays_85 (by decide) ?_
            refine zb_icmp_ne (pc := 86) (tgt := 98) hx hb dX1_sprays_86 (by decide) hF (fun c_86 hF => ?_) (fun c_86 hF => ?_)
            · refine lv_iload_n (pc := 98) hx hb dX1_sprays_98 rfl (lv_at hl 0 rfl) ?_
              exact z_iretM (pc := 99) (fun q => q.1) (fun q => (wX1_sprays cB cI cJ cO h0 h_bodies g_isBroken g_isFresh q.2.1 v_kind v_number v_hand v_isCovered q.2.2)) hx hb hr hlocks hP hS hF rfl hQ dX1_sprays_99
            · refine lv_iload_n (pc := 89) hx hb dX1_sprays_89 rfl (lv_at hl 0 rfl) ?_
              refine lv_aload_n (pc := 90) hx hb dX1_sprays_90 rfl (lv_at hl 1 rfl) ?_
              refine va_get (D := D) (pc := 91) (ci := 1) (v := .int v_hand) (C := RX1) (T := TX1) (N := 8) hx hb hts nX1_sprays_X1 hown hK hP 0 rfl rfl 5 (by decide) (hts _ kX1_sprays_3) (fun _ h9 => h9) rfl dX1_sprays_91 ?_
              refine lv_isub (pc := 94) hx hb dX1_sprays_94 ?_
              refine lv_goto (pc := 95) (tgt := 99) hx hb dX1_sprays_95 (by decide) ?_
              exact z_iretM (pc := 99) (fun q => q.1) (fun q => (wX1_sprays cB cI cJ cO h0 h_bodies g_isBroken g_isFresh q.2.1 v_kind v_number v_hand v_isCovered q.2.2)) hx hb hr hlocks hP hS hF rfl hQ dX1_sprays_99
        refine zb_if_eq (pc := 61) (tgt := 68) hx hb dX1_sprays_61 (by decide) hF (fun c_61 hF => ?_) (fun c_61 hF => ?_)
        · exact kJ_11 ((x1 * (nI 7)) + v_number) hF H locs hP hS ls (lv_sub hl [1, 0] rfl)
        · refine lv_iconst (pc := 64) (v := (nI 0)) hx hb dX1_sprays_64 (by decide) ?_
          refine lv_iload_n (pc := 65) hx hb dX1_sprays_65 rfl (lv_at hl 0 rfl) ?_
          refine lv_isub (pc := 66) hx hb dX1_sprays_66 ?_
          refine lv_istore_n (pc := 67) (lv' := [(2, .int ((nI 0) - ((x1 * (nI 7)) + v_number))), (0, .ref h0), (1, .int x1)]) hx hb dX1_sprays_67 rfl hl (by decide) rfl (fun ls hl => ?_)
          exact kJ_11 ((nI 0) - ((x1 * (nI 7)) + v_number)) hF H locs hP hS ls (lv_sub hl [1, 0] rfl)
      refine zb_if_eq (pc := 32) (tgt := 41) hx hb dX1_sprays_32 (by decide) hF (fun c_32 hF => ?_) (fun c_32 hF => ?_)
      · exact kJ_9 v_traced_4 v_bodies_5 hF H locs hP hS ls (lv_sub hl [0, 1] rfl)
      · refine lv_aload_n (pc := 35) hx hb dX1_sprays_35 rfl (lv_at hl 0 rfl) ?_
        refine lv_bipush (pc := 36) (v := (nI 30)) hx hb dX1_sprays_36 (by decide) ?_
        obtain ⟨u38, hu38, hF⟩ := z_bind hF
        refine zq_callM (oc0 := none) (wc := wX1_begins cB cI cJ cO h0 h_bodies g_isBroken (.int v_kind) (.int v_number) (.int v_hand) g_isFresh (.int v_isCovered) v_traced_4 v_bodies_5) (wc' := wX1_begins cB cI cJ cO h0 h_bodies g_isBroken (.int v_kind) (.int v_number) (.int v_hand) g_isFresh (.int v_isCovered) u38.1 u38.2) (ws' := (wX1_sprays cB cI cJ cO h0 h_bodies g_isBroken g_isFresh u38.1 v_kind v_number v_hand v_isCovered u38.2)) (va_runV (As := [.int (nI 30)]) (rest := []) ⟨hx, hb, hml, hown, hts⟩ (tX1_begins (l := l) (D := D) (cB := cB) (cI := cI) (cJ := cJ) (cO := cO) h0 h_bodies g_isBroken (.int v_kind) (.int v_number) (.int v_hand) g_isFresh (.int v_isCovered) v_traced_4 v_bodies_5 (nI 30) u38 hu38) (cwV 1 hts gX1_sprays_X1_begins rfl rfl rfl (by decide +kernel) ⟨Nat.le_of_ble_eq_true rfl, Nat.le_of_ble_eq_true rfl⟩) ⟨zPre_blind, va_recv hK hP (ci := 1) (q0 := 0) rfl rfl, zPre_at hP hE (zD_re hD rfl) [0, 1] rfl rfl⟩ rfl rfl hl.1 rfl (lv_room (Nat.le_of_ble_eq_true rfl)) dX1_sprays_38 ⟨Nat.zero_le _, Nat.zero_le _⟩) rfl hP (zD_re hD rfl) hS [0, 1] rfl rfl [some 0, some 1] rfl rfl rfl rfl (fun H locs hP hS => ?_)
        refine W.eq (g2 := F0 m 41 ls []) rfl ?_
        exact kJ_9 u38.1 u38.2 hF H locs hP hS ls (lv_sub hl [0, 1] rfl)
    refine zb_icmp_ne (pc := 19) (tgt := 28) hx hb dX1_sprays_19 (by decide) hF (fun c_19 hF => ?_) (fun c_19 hF => ?_)
    · exact kJ_6 v_traced_1 v_bodies_2 hF H locs hP hS ls (lv_sub hl [0, 1] rfl)
    · refine lv_aload_n (pc := 22) hx hb dX1_sprays_22 rfl (lv_at hl 0 rfl) ?_
      refine lv_bipush (pc := 23) (v := (nI 40)) hx hb dX1_sprays_23 (by decide) ?_
      obtain ⟨u25, hu25, hF⟩ := z_bind hF
      refine zq_callM (oc0 := none) (wc := wX1_begins cB cI cJ cO h0 h_bodies g_isBroken (.int v_kind) (.int v_number) (.int v_hand) g_isFresh (.int v_isCovered) v_traced_1 v_bodies_2) (wc' := wX1_begins cB cI cJ cO h0 h_bodies g_isBroken (.int v_kind) (.int v_number) (.int v_hand) g_isFresh (.int v_isCovered) u25.1 u25.2) (ws' := (wX1_sprays cB cI cJ cO h0 h_bodies g_isBroken g_isFresh u25.1 v_kind v_number v_hand v_isCovered u25.2)) (va_runV (As := [.int (nI 40)]) (rest := []) ⟨hx, hb, hml, hown, hts⟩ (tX1_begins (l := l) (D := D) (cB := cB) (cI := cI) (cJ := cJ) (cO := cO) h0 h_bodies g_isBroken (.int v_kind) (.int v_number) (.int v_hand) g_isFresh (.int v_isCovered) v_traced_1 v_bodies_2 (nI 40) u25 hu25) (cwV 1 hts gX1_sprays_X1_begins rfl rfl rfl (by decide +kernel) ⟨Nat.le_of_ble_eq_true rfl, Nat.le_of_ble_eq_true rfl⟩) ⟨zPre_blind, va_recv hK hP (ci := 1) (q0 := 0) rfl rfl, zPre_at hP hE (zD_re hD rfl) [0, 1] rfl rfl⟩ rfl rfl hl.1 rfl (lv_room (Nat.le_of_ble_eq_true rfl)) dX1_sprays_25 ⟨Nat.zero_le _, Nat.zero_le _⟩) rfl hP (zD_re hD rfl) hS [0, 1] rfl rfl [some 0, some 1] rfl rfl rfl rfl (fun H locs hP hS => ?_)
      refine W.eq (g2 := F0 m 28 ls []) rfl ?_
      exact kJ_6 u25.1 u25.2 hF H locs hP hS ls (lv_sub hl [0, 1] rfl)
  refine zb_icmp_ne (pc := 5) (tgt := 14) hx hb dX1_sprays_5 (by decide) hF (fun c_5 hF => ?_) (fun c_5 hF => ?_)
  · exact kJ_3 v_traced v_bodies hF H locs hP hS ls (lv_sub hl [0, 1] rfl)
  · refine lv_aload_n (pc := 8) hx hb dX1_sprays_8 rfl (lv_at hl 0 rfl) ?_
    refine lv_bipush (pc := 9) (v := (nI 51)) hx hb dX1_sprays_9 (by decide) ?_
    obtain ⟨u11, hu11, hF⟩ := z_bind hF
    refine zq_callM (oc0 := none) (wc := wX1_begins cB cI cJ cO h0 h_bodies g_isBroken (.int v_kind) (.int v_number) (.int v_hand) g_isFresh (.int v_isCovered) v_traced v_bodies) (wc' := wX1_begins cB cI cJ cO h0 h_bodies g_isBroken (.int v_kind) (.int v_number) (.int v_hand) g_isFresh (.int v_isCovered) u11.1 u11.2) (ws' := (wX1_sprays cB cI cJ cO h0 h_bodies g_isBroken g_isFresh u11.1 v_kind v_number v_hand v_isCovered u11.2)) (va_runV (As := [.int (nI 51)]) (rest := []) ⟨hx, hb, hml, hown, hts⟩ (tX1_begins (l := l) (D := D) (cB := cB) (cI := cI) (cJ := cJ) (cO := cO) h0 h_bodies g_isBroken (.int v_kind) (.int v_number) (.int v_hand) g_isFresh (.int v_isCovered) v_traced v_bodies (nI 51) u11 hu11) (cwV 1 hts gX1_sprays_X1_begins rfl rfl rfl (by decide +kernel) ⟨Nat.le_of_ble_eq_true rfl, Nat.le_of_ble_eq_true rfl⟩) ⟨zPre_blind, va_recv hK hP (ci := 1) (q0 := 0) rfl rfl, zPre_at hP hE (zD_re hD rfl) [0, 1] rfl rfl⟩ rfl rfl hl.1 rfl (lv_room (Nat.le_of_ble_eq_true rfl)) dX1_sprays_11 ⟨Nat.zero_le _, Nat.zero_le _⟩) rfl hP (zD_re hD rfl) hS [0, 1] rfl rfl [some 0, some 1] rfl rfl rfl rfl (fun H locs hP hS => ?_)
    refine W.eq (g2 := F0 m 14 ls []) rfl ?_
    exact kJ_3 u11.1 u11.2 hF H locs hP hS ls (lv_sub hl [0, 1] rfl)

abbrev rX1_drips : Room := { frames := 2, cells := 0, slots := 0, locals := 43 }
abbrev wX1_drips (cB cI cJ cO : ClassId) (h0 h_bodies : Nat) (g_isBroken : Value) (v_traced : Int32) (v_kind : Int32) (v_number : Int32) (v_hand : Int32) (v_isFresh : Int32) (v_isCovered : Int32) (v_bodies : Nat → Int32) : va_W := [(h0, .inr (1, [.ref h_bodies, .int v_traced, g_isBroken, .int v_kind, .int v_number, .int v_hand, .int v_isFresh, .int v_isCovered])), (h_bodies, .inl (cI, 30, .inl v_bodies))]
theorem nX1_drips_X1 : ∀ w ∈ wsX10, w ∈ wsX1_drips := by decide +kernel
theorem kX1_drips_0 : Cond.fieldLink RX1 15 "PaintedWalls$Thing" "kind" "I" ∈ wsX1_drips := by decide +kernel
theorem kX1_drips_1 : Cond.fieldLink RX1 29 "PaintedWalls$Thing" "isFresh" "Z" ∈ wsX1_drips := by decide +kernel
theorem kX1_drips_2 : Cond.fieldLink RX1 22 "PaintedWalls$Thing" "hand" "I" ∈ wsX1_drips := by decide +kernel
set_option maxHeartbeats 4000000 in
set_option maxRecDepth 100000 in
theorem tX1_drips {l : Launch} {D : va_G} {cB cI cJ cO : ClassId} (h0 h_bodies : Nat) (g_isBroken : Value) (v_traced : Int32) (v_kind : Int32) (v_number : Int32) (v_hand : Int32) (v_isFresh : Int32) (v_isCovered : Int32) (v_bodies : Nat → Int32) (x1 : Int32) (r : Int32 × Int32 × (Nat → Int32)) (hF : fX1_drips v_traced v_kind v_number v_hand v_isFresh v_isCovered v_bodies x1 = some r) : Met l yX1_drips wsX1_drips rX1_drips (zPre D cB cI cJ cO [.ref h0, .int x1] (wX1_drips cB cI cJ cO h0 h_bodies g_isBroken v_traced v_kind v_number v_hand v_isFresh v_isCovered v_bodies)) (zPM (some (.int r.1)) D (wX1_drips cB cI cJ cO h0 h_bodies g_isBroken r.2.1 v_kind v_number v_hand v_isFresh v_isCovered r.2.2) (zAs [h0, h_bodies])) 0 0 (zAs [h0, h_bodies]) := by
  refine zMetM (cc := cX1_drips) (maxL := 3) (ret := (some .int)) (lv := [(0, .ref h0), (1, .int x1)]) rfl (by decide) rfl (Nat.le_of_ble_eq_true rfl) rfl ?_
  intro p e s m args below meth c ls Q H locs hQ hx hb hr hml hown hts hlocks hname hP hE hD hS hl
  have hown : s.vm.findClass RX1 = some m.cls := hown
  have hK := hE.1
  unfold fX1_drips at hF
  refine lv_aload_n (pc := 0) hx hb dX1_drips_0 rfl (lv_at hl 0 rfl) ?_
  refine va_get (D := D) (pc := 1) (ci := 1) (v := .int v_kind) (C := RX1) (T := TX1) (N := 8) hx hb hts nX1_drips_X1 hown hK hP 0 rfl rfl 3 (by decide) (hts _ kX1_drips_0) (fun _ h9 => h9) rfl dX1_drips_1 ?_
  refine lv_iconst (pc := 4) (v := (nI 4)) hx hb dX1_drips_4 (by decide) ?_
  obtain ⟨J_3, hJ_3, hF⟩ := z_J hF
  have kJ_3 : ∀ (v_traced_1 : Int32) (v_bodies_2 : Nat → Int32) , J_3 v_traced_1 v_bodies_2 = some r → ∀ (H : Heap) (locs : List Loc), va_P D vwCl (wX1_drips cB cI cJ cO h0 h_bodies g_isBroken v_traced_1 v_kind v_number v_hand v_isFresh v_isCovered v_bodies_2) H → va_S (zAs [h0, h_bodies]) s.heap H locs → ∀ (ls : Array Slot), lv_has ls 3 [(0, .ref h0), (1, .int x1)] → W p l e rX1_drips s m args below meth c H locs 0 0 Q (F0 m 14 ls []) := by
    intro v_traced_1 v_bodies_2 hF H locs hP hS ls hl
    rw [hJ_3] at hF
    refine lv_aload_n (pc := 14) hx hb dX1_drips_14 rfl (lv_at hl 0 rfl) ?_
    refine va_get (D := D) (pc := 15) (ci := 1) (v := .int v_isFresh) (C := RX1) (T := TX1) (N := 8) hx hb hts nX1_drips_X1 hown hK hP 0 rfl rfl 6 (by decide) (hts _ kX1_drips_1) (fun _ h9 => h9) rfl dX1_drips_15 ?_
    obtain ⟨J_6, hJ_6, hF⟩ := z_J hF
    have kJ_6 : ∀ (v_traced_4 : Int32) (v_bodies_5 : Nat → Int32) , J_6 v_traced_4 v_bodies_5 = some r → ∀ (H : Heap) (locs : List Loc), va_P D vwCl (wX1_drips cB cI cJ cO h0 h_bodies g_isBroken v_traced_4 v_kind v_number v_hand v_isFresh v_isCovered v_bodies_5) H → va_S (zAs [h0, h_bodies]) s.heap H locs → ∀ (ls : Array Slot), lv_has ls 3 [(0, .ref h0), (1, .int x1)] → W p l e rX1_drips s m args below meth c H locs 0 0 Q (F0 m 27 ls []) := by
      intro v_traced_4 v_bodies_5 hF H locs hP hS ls hl
      rw [hJ_6] at hF
      refine lv_aload_n (pc := 27) hx hb dX1_drips_27 rfl (lv_at hl 0 rfl) ?_
      refine lv_bipush (pc := 28) (v := (nI 11)) hx hb dX1_drips_28 (by decide) ?_
      obtain ⟨u30, hu30, hF⟩ := z_bind hF
      refine zq_callM (oc0 := none) (wc := wX1_begins cB cI cJ cO h0 h_bodies g_isBroken (.int v_kind) (.int v_number) (.int v_hand) (.int v_isFresh) (.int v_isCovered) v_traced_4 v_bodies_5) (wc' := wX1_begins cB cI cJ cO h0 h_bodies g_isBroken (.int v_kind) (.int v_number) (.int v_hand) (.int v_isFresh) (.int v_isCovered) u30.1 u30.2) (ws' := (wX1_drips cB cI cJ cO h0 h_bodies g_isBroken u30.1 v_kind v_number v_hand v_isFresh v_isCovered u30.2)) (va_runV (As := [.int (nI 11)]) (rest := []) ⟨hx, hb, hml, hown, hts⟩ (tX1_begins (l := l) (D := D) (cB := cB) (cI := cI) (cJ := cJ) (cO := cO) h0 h_bodies g_isBroken (.int v_kind) (.int v_number) (.int v_hand) (.int v_isFresh) (.int v_isCovered) v_traced_4 v_bodies_5 (nI 11) u30 hu30) (cwV 1 hts gX1_drips_X1_begins rfl rfl rfl (by decide +kernel) ⟨Nat.le_of_ble_eq_true rfl, Nat.le_of_ble_eq_true rfl⟩) ⟨zPre_blind, va_recv hK hP (ci := 1) (q0 := 0) rfl rfl, zPre_at hP hE (zD_re hD rfl) [0, 1] rfl rfl⟩ rfl rfl hl.1 rfl (lv_room (Nat.le_of_ble_eq_true rfl)) dX1_drips_30 ⟨Nat.zero_le _, Nat.zero_le _⟩) rfl hP (zD_re hD rfl) hS [0, 1] rfl rfl [some 0, some 1] rfl rfl rfl rfl (fun H locs hP hS => ?_)
      refine W.eq (g2 := F0 m 33 ls []) rfl ?_
      refine lv_aload_n (pc := 33) hx hb dX1_drips_33 rfl (lv_at hl 0 rfl) ?_
      refine lv_iload_n (pc := 34) hx hb dX1_drips_34 rfl (lv_at hl 1 rfl) ?_
      obtain ⟨u35, hu35, hF⟩ := z_bind hF
      refine zq_callM (oc0 := (some (.int u35.1))) (wc := wX1_sprays cB cI cJ cO h0 h_bodies g_isBroken (.int v_isFresh) u30.1 v_kind v_number v_hand v_isCovered u30.2) (wc' := wX1_sprays cB cI cJ cO h0 h_bodies g_isBroken (.int v_isFresh) u35.2.1 v_kind v_number v_hand v_isCovered u35.2.2) (ws' := (wX1_drips cB cI cJ cO h0 h_bodies g_isBroken u35.2.1 v_kind v_number v_hand v_isFresh v_isCovered u35.2.2)) (va_runV (As := [.int x1]) (rest := []) ⟨hx, hb, hml, hown, hts⟩ (tX1_sprays (l := l) (D := D) (cB := cB) (cI := cI) (cJ := cJ) (cO := cO) h0 h_bodies g_isBroken (.int v_isFresh) u30.1 v_kind v_number v_hand v_isCovered u30.2 x1 u35 hu35) (cwV 1 hts gX1_drips_X1_sprays rfl rfl rfl (by decide +kernel) ⟨Nat.le_of_ble_eq_true rfl, Nat.le_of_ble_eq_true rfl⟩) ⟨zPre_blind, va_recv hK hP (ci := 1) (q0 := 0) rfl rfl, zPre_at hP hE (zD_re hD rfl) [0, 1] rfl rfl⟩ rfl rfl hl.1 rfl (lv_room (Nat.le_of_ble_eq_true rfl)) dX1_drips_35 ⟨Nat.zero_le _, Nat.zero_le _⟩) rfl hP (zD_re hD rfl) hS [0, 1] rfl rfl [some 0, some 1] rfl rfl rfl rfl (fun H locs hP hS => ?_)
      refine W.eq (g2 := F0 m 38 ls [.int u35.1]) rfl ?_
      refine lv_aload_n (pc := 38) hx hb dX1_drips_38 rfl (lv_at hl 0 rfl) ?_
      refine va_get (D := D) (pc := 39) (ci := 1) (v := .int v_hand) (C := RX1) (T := TX1) (N := 8) hx hb hts nX1_drips_X1 hown hK hP 0 rfl rfl 5 (by decide) (hts _ kX1_drips_2) (fun _ h9 => h9) rfl dX1_drips_39 ?_
      refine lv_iconst (pc := 42) (v := (nI 5)) hx hb dX1_drips_42 (by decide) ?_
      refine lv_imul (pc := 43) hx hb dX1_drips_43 ?_
      refine lv_isub (pc := 44) hx hb dX1_drips_44 ?_
      refine lv_istore_n (pc := 45) (lv' := [(2, .int (u35.1 - (v_hand * (nI 5)))), (0, .ref h0), (1, .int x1)]) hx hb dX1_drips_45 rfl hl (by decide) rfl (fun ls hl => ?_)
      refine lv_aload_n (pc := 46) hx hb dX1_drips_46 rfl (lv_at hl 1 rfl) ?_
      refine va_get (D := D) (pc := 47) (ci := 1) (v := .int v_isFresh) (C := RX1) (T := TX1) (N := 8) hx hb hts nX1_drips_X1 hown hK hP 0 rfl rfl 6 (by decide) (hts _ kX1_drips_1) (fun _ h9 => h9) rfl dX1_drips_47 ?_
      refine zb_if_eq (pc := 50) (tgt := 58) hx hb dX1_drips_50 (by decide) hF (fun c_50 hF => ?_) (fun c_50 hF => ?_)
      · refine lv_aload_n (pc := 58) hx hb dX1_drips_58 rfl (lv_at hl 1 rfl) ?_
        refine va_get (D := D) (pc := 59) (ci := 1) (v := .int v_kind) (C := RX1) (T := TX1) (N := 8) hx hb hts nX1_drips_X1 hown hK hP 0 rfl rfl 3 (by decide) (hts _ kX1_drips_0) (fun _ h9 => h9) rfl dX1_drips_59 ?_
        refine lv_iconst (pc := 62) (v := (nI 4)) hx hb dX1_drips_62 (by decide) ?_
        refine zb_icmp_ne (pc := 63) (tgt := 79) hx hb dX1_drips_63 (by decide) hF (fun c_63 hF => ?_) (fun c_63 hF => ?_)
        · refine lv_iload_n (pc := 79) hx hb dX1_drips_79 rfl (lv_at hl 0 rfl) ?_
          exact z_iretM (pc := 80) (fun q => q.1) (fun q => (wX1_drips cB cI cJ cO h0 h_bodies g_isBroken q.2.1 v_kind v_number v_hand v_isFresh v_isCovered q.2.2)) hx hb hr hlocks hP hS hF rfl hQ dX1_drips_80
        · refine lv_iload_n (pc := 66) hx hb dX1_drips_66 rfl (lv_at hl 0 rfl) ?_
          refine lv_aload_n (pc := 67) hx hb dX1_drips_67 rfl (lv_at hl 1 rfl) ?_
          refine lv_aload_n (pc := 68) hx hb dX1_drips_68 rfl (lv_at hl 1 rfl) ?_
          refine va_get (D := D) (pc := 69) (ci := 1) (v := .int v_hand) (C := RX1) (T := TX1) (N := 8) hx hb hts nX1_drips_X1 hown hK hP 0 rfl rfl 5 (by decide) (hts _ kX1_drips_2) (fun _ h9 => h9) rfl dX1_drips_69 ?_
          obtain ⟨u72, hu72, hF⟩ := z_bind hF
          refine zq_callM (oc0 := (some (.int u72.1))) (wc := wX1_sprays cB cI cJ cO h0 h_bodies g_isBroken (.int v_isFresh) u35.2.1 v_kind v_number v_hand v_isCovered u35.2.2) (wc' := wX1_sprays cB cI cJ cO h0 h_bodies g_isBroken (.int v_isFresh) u72.2.1 v_kind v_number v_hand v_isCovered u72.2.2) (ws' := (wX1_drips cB cI cJ cO h0 h_bodies g_isBroken u72.2.1 v_kind v_number v_hand v_isFresh v_isCovered u72.2.2)) (va_runV (As := [.int v_hand]) (rest := [.int (u35.1 - (v_hand * (nI 5)))]) ⟨hx, hb, hml, hown, hts⟩ (tX1_sprays (l := l) (D := D) (cB := cB) (cI := cI) (cJ := cJ) (cO := cO) h0 h_bodies g_isBroken (.int v_isFresh) u35.2.1 v_kind v_number v_hand v_isCovered u35.2.2 v_hand u72 hu72) (cwV 1 hts gX1_drips_X1_sprays rfl rfl rfl (by decide +kernel) ⟨Nat.le_of_ble_eq_true rfl, Nat.le_of_ble_eq_true rfl⟩) ⟨zPre_blind, va_recv hK hP (ci := 1) (q0 := 0) rfl rfl, zPre_at hP hE (zD_re hD rfl) [0, 1] rfl rfl⟩ rfl rfl hl.1 rfl (lv_room (Nat.le_of_ble_eq_true rfl)) dX1_drips_72 ⟨Nat.zero_le _, Nat.zero_le _⟩) rfl hP (zD_re hD rfl) hS [0, 1] rfl rfl [some 0, some 1] rfl rfl rfl rfl (fun H locs hP hS => ?_)
          refine W.eq (g2 := F0 m 75 ls [.int u72.1, .int (u35.1 - (v_hand * (nI 5)))]) rfl ?_
          refine lv_iadd (pc := 75) hx hb dX1_drips_75 ?_
          refine lv_goto (pc := 76) (tgt := 80) hx hb dX1_drips_76 (by decide) ?_
          exact z_iretM (pc := 80) (fun q => q.1) (fun q => (wX1_drips cB cI cJ cO h0 h_bodies g_isBroken q.2.1 v_kind v_number v_hand v_isFresh v_isCovered q.2.2)) hx hb hr hlocks hP hS hF rfl hQ dX1_drips_80
      · refine lv_iload_n (pc := 53) hx hb dX1_drips_53 rfl (lv_at hl 0 rfl) ?_
        refine lv_bipush (pc := 54) (v := (nI 9)) hx hb dX1_drips_54 (by decide) ?_
        refine lv_iadd (pc := 56) hx hb dX1_drips_56 ?_
        refine lv_istore_n (pc := 57) (lv' := [(2, .int ((u35.1 - (v_hand * (nI 5))) + (nI 9))), (0, .ref h0), (1, .int x1)]) hx hb dX1_drips_57 rfl hl (by decide) rfl (fun ls hl => ?_)
        refine lv_aload_n (pc := 58) hx hb dX1_drips_58 rfl (lv_at hl 1 rfl) ?_
        refine va_get (D := D) (pc := 59) (ci := 1) (v := .int v_kind) (C := RX1) (T := TX1) (N := 8) hx hb hts nX1_drips_X1 hown hK hP 0 rfl rfl 3 (by decide) (hts _ kX1_drips_0) (fun _ h9 => h9) rfl dX1_drips_59 ?_
        refine lv_iconst (pc := 62) (v := (nI 4)) hx hb dX1_drips_62 (by decide) ?_
        refine zb_icmp_ne (pc := 63) (tgt := 79) hx hb dX1_drips_63 (by decide) hF (fun c_63 hF => ?_) (fun c_63 hF => ?_)
        · refine lv_iload_n (pc := 79) hx hb dX1_drips_79 rfl (lv_at hl 0 rfl) ?_
          exact z_iretM (pc := 80) (fun q => q.1) (fun q => (wX1_drips cB cI cJ cO h0 h_bodies g_isBroken q.2.1 v_kind v_number v_hand v_isFresh v_isCovered q.2.2)) hx hb hr hlocks hP hS hF rfl hQ dX1_drips_80
        · refine lv_iload_n (pc := 66) hx hb dX1_drips_66 rfl (lv_at hl 0 rfl) ?_
          refine lv_aload_n (pc := 67) hx hb dX1_drips_67 rfl (lv_at hl 1 rfl) ?_
          refine lv_aload_n (pc := 68) hx hb dX1_drips_68 rfl (lv_at hl 1 rfl) ?_
          refine va_get (D := D) (pc := 69) (ci := 1) (v := .int v_hand) (C := RX1) (T := TX1) (N := 8) hx hb hts nX1_drips_X1 hown hK hP 0 rfl rfl 5 (by decide) (hts _ kX1_drips_2) (fun _ h9 => h9) rfl dX1_drips_69 ?_
          obtain ⟨u72_7, hu72_7, hF⟩ := z_bind hF
          refine zq_callM (oc0 := (some (.int u72_7.1))) (wc := wX1_sprays cB cI cJ cO h0 h_bodies g_isBroken (.int v_isFresh) u35.2.1 v_kind v_number v_hand v_isCovered u35.2.2) (wc' := wX1_sprays cB cI cJ cO h0 h_bodies g_isBroken (.int v_isFresh) u72_7.2.1 v_kind v_number v_hand v_isCovered u72_7.2.2) (ws' := (wX1_drips cB cI cJ cO h0 h_bodies g_isBroken u72_7.2.1 v_kind v_number v_hand v_isFresh v_isCovered u72_7.2.2)) (va_runV (As := [.int v_hand]) (rest := [.int ((u35.1 - (v_hand * (nI 5))) + (nI 9))]) ⟨hx, hb, hml, hown, hts⟩ (tX1_sprays (l := l) (D := D) (cB := cB) (cI := cI) (cJ := cJ) (cO := cO) h0 h_bodies g_isBroken (.int v_isFresh) u35.2.1 v_kind v_number v_hand v_isCovered u35.2.2 v_hand u72_7 hu72_7) (cwV 1 hts gX1_drips_X1_sprays rfl rfl rfl (by decide +kernel) ⟨Nat.le_of_ble_eq_true rfl, Nat.le_of_ble_eq_true rfl⟩) ⟨zPre_blind, va_recv hK hP (ci := 1) (q0 := 0) rfl rfl, zPre_at hP hE (zD_re hD rfl) [0, 1] rfl rfl⟩ rfl rfl hl.1 rfl (lv_room (Nat.le_of_ble_eq_true rfl)) dX1_drips_72 ⟨Nat.zero_le _, Nat.zero_le _⟩) rfl hP (zD_re hD rfl) hS [0, 1] rfl rfl [some 0, some 1] rfl rfl rfl rfl (fun H locs hP hS => ?_)
          refine W.eq (g2 := F0 m 75 ls [.int u72_7.1, .int ((u35.1 - (v_hand * (nI 5))) + (nI 9))]) rfl ?_
          refine lv_iadd (pc := 75) hx hb dX1_drips_75 ?_
          refine lv_goto (pc := 76) (tgt := 80) hx hb dX1_drips_76 (by decide) ?_
          exact z_iretM (pc := 80) (fun q => q.1) (fun q => (wX1_drips cB cI cJ cO h0 h_bodies g_isBroken q.2.1 v_kind v_number v_hand v_isFresh v_isCovered q.2.2)) hx hb hr hlocks hP hS hF rfl hQ dX1_drips_80
    refine zb_if_eq (pc := 18) (tgt := 27) hx hb dX1_drips_18 (by decide) hF (fun c_18 hF => ?_) (fun c_18 hF => ?_)
    · exact kJ_6 v_traced_1 v_bodies_2 hF H locs hP hS ls (lv_sub hl [0, 1] rfl)
    · refine lv_aload_n (pc := 21) hx hb dX1_drips_21 rfl (lv_at hl 0 rfl) ?_
      refine lv_bipush (pc := 22) (v := (nI 20)) hx hb dX1_drips_22 (by decide) ?_
      obtain ⟨u24, hu24, hF⟩ := z_bind hF
      refine zq_callM (oc0 := none) (wc := wX1_begins cB cI cJ cO h0 h_bodies g_isBroken (.int v_kind) (.int v_number) (.int v_hand) (.int v_isFresh) (.int v_isCovered) v_traced_1 v_bodies_2) (wc' := wX1_begins cB cI cJ cO h0 h_bodies g_isBroken (.int v_kind) (.int v_number) (.int v_hand) (.int v_isFresh) (.int v_isCovered) u24.1 u24.2) (ws' := (wX1_drips cB cI cJ cO h0 h_bodies g_isBroken u24.1 v_kind v_number v_hand v_isFresh v_isCovered u24.2)) (va_runV (As := [.int (nI 20)]) (rest := []) ⟨hx, hb, hml, hown, hts⟩ (tX1_begins (l := l) (D := D) (cB := cB) (cI := cI) (cJ := cJ) (cO := cO) h0 h_bodies g_isBroken (.int v_kind) (.int v_number) (.int v_hand) (.int v_isFresh) (.int v_isCovered) v_traced_1 v_bodies_2 (nI 20) u24 hu24) (cwV 1 hts gX1_drips_X1_begins rfl rfl rfl (by decide +kernel) ⟨Nat.le_of_ble_eq_true rfl, Nat.le_of_ble_eq_true rfl⟩) ⟨zPre_blind, va_recv hK hP (ci := 1) (q0 := 0) rfl rfl, zPre_at hP hE (zD_re hD rfl) [0, 1] rfl rfl⟩ rfl rfl hl.1 rfl (lv_room (Nat.le_of_ble_eq_true rfl)) dX1_drips_24 ⟨Nat.zero_le _, Nat.zero_le _⟩) rfl hP (zD_re hD rfl) hS [0, 1] rfl rfl [some 0, some 1] rfl rfl rfl rfl (fun H locs hP hS => ?_)
      refine W.eq (g2 := F0 m 27 ls []) rfl ?_
      exact kJ_6 u24.1 u24.2 hF H locs hP hS ls (lv_sub hl [0, 1] rfl)
  refine zb_icmp_ne (pc := 5) (tgt := 14) hx hb dX1_drips_5 (by decide) hF (fun c_5 hF => ?_) (fun c_5 hF => ?_)
  · exact kJ_3 v_traced v_bodies hF H locs hP hS ls (lv_sub hl [0, 1] rfl)
  · refine lv_aload_n (pc := 8) hx hb dX1_drips_8 rfl (lv_at hl 0 rfl) ?_
    refine lv_bipush (pc := 9) (v := (nI 41)) hx hb dX1_drips_9 (by decide) ?_
    obtain ⟨u11, hu11, hF⟩ := z_bind hF
    refine zq_callM (oc0 := none) (wc := wX1_begins cB cI cJ cO h0 h_bodies g_isBroken (.int v_kind) (.int v_number) (.int v_hand) (.int v_isFresh) (.int v_isCovered) v_traced v_bodies) (wc' := wX1_begins cB cI cJ cO h0 h_bodies g_isBroken (.int v_kind) (.int v_number) (.int v_hand) (.int v_isFresh) (.int v_isCovered) u11.1 u11.2) (ws' := (wX1_drips cB cI cJ cO h0 h_bodies g_isBroken u11.1 v_kind v_number v_hand v_isFresh v_isCovered u11.2)) (va_runV (As := [.int (nI 41)]) (rest := []) ⟨hx, hb, hml, hown, hts⟩ (tX1_begins (l := l) (D := D) (cB := cB) (cI := cI) (cJ := cJ) (cO := cO) h0 h_bodies g_isBroken (.int v_kind) (.int v_number) (.int v_hand) (.int v_isFresh) (.int v_isCovered) v_traced v_bodies (nI 41) u11 hu11) (cwV 1 hts gX1_drips_X1_begins rfl rfl rfl (by decide +kernel) ⟨Nat.le_of_ble_eq_true rfl, Nat.le_of_ble_eq_true rfl⟩) ⟨zPre_blind, va_recv hK hP (ci := 1) (q0 := 0) rfl rfl, zPre_at hP hE (zD_re hD rfl) [0, 1] rfl rfl⟩ rfl rfl hl.1 rfl (lv_room (Nat.le_of_ble_eq_true rfl)) dX1_drips_11 ⟨Nat.zero_le _, Nat.zero_le _⟩) rfl hP (zD_re hD rfl) hS [0, 1] rfl rfl [some 0, some 1] rfl rfl rfl rfl (fun H locs hP hS => ?_)
    refine W.eq (g2 := F0 m 14 ls []) rfl ?_
    exact kJ_3 u11.1 u11.2 hF H locs hP hS ls (lv_sub hl [0, 1] rfl)

abbrev rX1_parts : Room := { frames := 2, cells := 0, slots := 0, locals := 43 }
abbrev wX1_parts (cB cI cJ cO : ClassId) (h0 h_bodies : Nat) (g_isFresh : Value) (v_traced : Int32) (v_isBroken : Int32) (v_kind : Int32) (v_number : Int32) (v_hand : Int32) (v_isCovered : Int32) (v_bodies : Nat → Int32) : va_W := [(h0, .inr (1, [.ref h_bodies, .int v_traced, .int v_isBroken, .int v_kind, .int v_number, .int v_hand, g_isFresh, .int v_isCovered])), (h_bodies, .inl (cI, 30, .inl v_bodies))]
theorem nX1_parts_X1 : ∀ w ∈ wsX10, w ∈ wsX1_parts := by decide +kernel
theorem kX1_parts_0 : Cond.fieldLink RX1 15 "PaintedWalls$Thing" "kind" "I" ∈ wsX1_parts := by decide +kernel
theorem kX1_parts_1 : Cond.fieldLink RX1 22 "PaintedWalls$Thing" "hand" "I" ∈ wsX1_parts := by decide +kernel
theorem kX1_parts_2 : Cond.fieldLink RX1 19 "PaintedWalls$Thing" "number" "I" ∈ wsX1_parts := by decide +kernel
theorem kX1_parts_3 : Cond.fieldLink RX1 36 "PaintedWalls$Thing" "isBroken" "Z" ∈ wsX1_parts := by decide +kernel
set_option maxHeartbeats 4000000 in
set_option maxRecDepth 100000 in
theorem tX1_parts {l : Launch} {D : va_G} {cB cI cJ cO : ClassId} (h0 h_bodies : Nat) (g_isFresh : Value) (v_traced : Int32) (v_isBroken : Int32) (v_kind : Int32) (v_number : Int32) (v_hand : Int32) (v_isCovered : Int32) (v_bodies : Nat → Int32) (x1 : Int32) (r : Int32 × Int32 × Int32 × (Nat → Int32)) (hF : fX1_parts v_traced v_isBroken v_kind v_number v_hand v_isCovered v_bodies x1 = some r) : Met l yX1_parts wsX1_parts rX1_parts (zPre D cB cI cJ cO [.ref h0, .int x1] (wX1_parts cB cI cJ cO h0 h_bodies g_isFresh v_traced v_isBroken v_kind v_number v_hand v_isCovered v_bodies)) (zPM (some (.int r.1)) D (wX1_parts cB cI cJ cO h0 h_bodies g_isFresh r.2.1 r.2.2.1 v_kind v_number v_hand v_isCovered r.2.2.2) (zAs [h0, h_bodies])) 0 0 (zAs [h0, h_bodies]) := by
  refine zMetM (cc := cX1_parts) (maxL := 5) (ret := (some .int)) (lv := [(0, .ref h0), (1, .int x1)]) rfl (by decide) rfl (Nat.le_of_ble_eq_true rfl) rfl ?_
  intro p e s m args below meth c ls Q H locs hQ hx hb hr hml hown hts hlocks hname hP hE hD hS hl
  have hown : s.vm.findClass RX1 = some m.cls := hown
  have hK := hE.1
  unfold fX1_parts at hF
  refine lv_iload_n (pc := 0) hx hb dX1_parts_0 rfl (lv_at hl 1 rfl) ?_
  refine lv_istore_n (pc := 1) (lv' := [(2, .int x1), (0, .ref h0), (1, .int x1)]) hx hb dX1_parts_1 rfl hl (by decide) rfl (fun ls hl => ?_)
  refine lv_aload_n (pc := 2) hx hb dX1_parts_2 rfl (lv_at hl 1 rfl) ?_
  refine va_get (D := D) (pc := 3) (ci := 1) (v := .int v_kind) (C := RX1) (T := TX1) (N := 8) hx hb hts nX1_parts_X1 hown hK hP 0 rfl rfl 3 (by decide) (hts _ kX1_parts_0) (fun _ h9 => h9) rfl dX1_parts_3 ?_
  refine lv_iconst (pc := 6) (v := (nI 3)) hx hb dX1_parts_6 (by decide) ?_
  obtain ⟨J_4, hJ_4, hF⟩ := z_J hF
  have kJ_4 : ∀ (y2_1 : Int32) (v_traced_2 : Int32) (v_bodies_3 : Nat → Int32) , J_4 y2_1 v_traced_2 v_bodies_3 = some r → ∀ (H : Heap) (locs : List Loc), va_P D vwCl (wX1_parts cB cI cJ cO h0 h_bodies g_isFresh v_traced_2 v_isBroken v_kind v_number v_hand v_isCovered v_bodies_3) H → va_S (zAs [h0, h_bodies]) s.heap H locs → ∀ (ls : Array Slot), lv_has ls 5 [(0, .ref h0), (2, .int y2_1)] → W p l e rX1_parts s m args below meth c H locs 0 0 Q (F0 m 23 ls []) := by
    intro y2_1 v_traced_2 v_bodies_3 hF H locs hP hS ls hl
    rw [hJ_4] at hF
    refine lv_aload_n (pc := 23) hx hb dX1_parts_23 rfl (lv_at hl 0 rfl) ?_
    refine va_get (D := D) (pc := 24) (ci := 1) (v := .int v_kind) (C := RX1) (T := TX1) (N := 8) hx hb hts nX1_parts_X1 hown hK hP 0 rfl rfl 3 (by decide) (hts _ kX1_parts_0) (fun _ h9 => h9) rfl dX1_parts_24 ?_
    refine lv_iconst (pc := 27) (v := (nI 5)) hx hb dX1_parts_27 (by decide) ?_
    obtain ⟨J_7, hJ_7, hF⟩ := z_J hF
    have kJ_7 : ∀ (v_traced_5 : Int32) (v_bodies_6 : Nat → Int32) , J_7 v_traced_5 v_bodies_6 = some r → ∀ (H : Heap) (locs : List Loc), va_P D vwCl (wX1_parts cB cI cJ cO h0 h_bodies g_isFresh v_traced_5 v_isBroken v_kind v_number v_hand v_isCovered v_bodies_6) H → va_S (zAs [h0, h_bodies]) s.heap H locs → ∀ (ls : Array Slot), lv_has ls 5 [(0, .ref h0), (2, .int y2_1)] → W p l e rX1_parts s m args below meth c H locs 0 0 Q (F0 m 37 ls []) := by
      intro v_traced_5 v_bodies_6 hF H locs hP hS ls hl
      rw [hJ_7] at hF
      refine lv_aload_n (pc := 37) hx hb dX1_parts_37 rfl (lv_at hl 0 rfl) ?_
      refine lv_bipush (pc := 38) (v := (nI 12)) hx hb dX1_parts_38 (by decide) ?_
      obtain ⟨u40, hu40, hF⟩ := z_bind hF
      refine zq_callM (oc0 := none) (wc := wX1_begins cB cI cJ cO h0 h_bodies (.int v_isBroken) (.int v_kind) (.int v_number) (.int v_hand) g_isFresh (.int v_isCovered) v_traced_5 v_bodies_6) (wc' := wX1_begins cB cI cJ cO h0 h_bodies (.int v_isBroken) (.int v_kind) (.int v_number) (.int v_hand) g_isFresh (.int v_isCovered) u40.1 u40.2) (ws' := (wX1_parts cB cI cJ cO h0 h_bodies g_isFresh u40.1 v_isBroken v_kind v_number v_hand v_isCovered u40.2)) (va_runV (As := [.int (nI 12)]) (rest := []) ⟨hx, hb, hml, hown, hts⟩ (tX1_begins (l := l) (D := D) (cB := cB) (cI := cI) (cJ := cJ) (cO := cO) h0 h_bodies (.int v_isBroken) (.int v_kind) (.int v_number) (.int v_hand) g_isFresh (.int v_isCovered) v_traced_5 v_bodies_6 (nI 12) u40 hu40) (cwV 1 hts gX1_parts_X1_begins rfl rfl rfl (by decide +kernel) ⟨Nat.le_of_ble_eq_true rfl, Nat.le_of_ble_eq_true rfl⟩) ⟨zPre_blind, va_recv hK hP (ci := 1) (q0 := 0) rfl rfl, zPre_at hP hE (zD_re hD rfl) [0, 1] rfl rfl⟩ rfl rfl hl.1 rfl (lv_room (Nat.le_of_ble_eq_true rfl)) dX1_parts_40 ⟨Nat.zero_le _, Nat.zero_le _⟩) rfl hP (zD_re hD rfl) hS [0, 1] rfl rfl [some 0, some 1] rfl rfl rfl rfl (fun H locs hP hS => ?_)
      refine W.eq (g2 := F0 m 43 ls []) rfl ?_
      refine lv_aload_n (pc := 43) hx hb dX1_parts_43 rfl (lv_at hl 0 rfl) ?_
      refine va_get (D := D) (pc := 44) (ci := 1) (v := .int v_hand) (C := RX1) (T := TX1) (N := 8) hx hb hts nX1_parts_X1 hown hK hP 0 rfl rfl 5 (by decide) (hts _ kX1_parts_1) (fun _ h9 => h9) rfl dX1_parts_44 ?_
      refine lv_aload_n (pc := 47) hx hb dX1_parts_47 rfl (lv_at hl 0 rfl) ?_
      refine va_get (D := D) (pc := 48) (ci := 1) (v := .int v_number) (C := RX1) (T := TX1) (N := 8) hx hb hts nX1_parts_X1 hown hK hP 0 rfl rfl 4 (by decide) (hts _ kX1_parts_2) (fun _ h9 => h9) rfl dX1_parts_48 ?_
      refine lv_isub (pc := 51) hx hb dX1_parts_51 ?_
      refine lv_istore_n (pc := 52) (lv' := [(3, .int (v_hand - v_number)), (0, .ref h0), (2, .int y2_1)]) hx hb dX1_parts_52 rfl hl (by decide) rfl (fun ls hl => ?_)
      refine lv_iload_n (pc := 53) hx hb dX1_parts_53 rfl (lv_at hl 0 rfl) ?_
      refine zb_if_ne (pc := 54) (tgt := 64) hx hb dX1_parts_54 (by decide) hF (fun c_54 hF => ?_) (fun c_54 hF => ?_)
      · refine lv_iload_n (pc := 64) hx hb dX1_parts_64 rfl (lv_at hl 2 rfl) ?_
        refine lv_iload_n (pc := 65) hx hb dX1_parts_65 rfl (lv_at hl 0 rfl) ?_
        refine za_idiv (pc := 66) hx hb dX1_parts_66 hF (fun hF => ?_)
        refine lv_istore (pc := 67) (lv' := [(4, .int (y2_1 / (v_hand - v_number))), (3, .int (v_hand - v_number)), (0, .ref h0), (2, .int y2_1)]) hx hb dX1_parts_67 hl (by decide) rfl (fun ls hl => ?_)
        refine lv_aload_n (pc := 69) hx hb dX1_parts_69 rfl (lv_at hl 2 rfl) ?_
        refine va_get (D := D) (pc := 70) (ci := 1) (v := .int v_kind) (C := RX1) (T := TX1) (N := 8) hx hb hts nX1_parts_X1 hown hK hP 0 rfl rfl 3 (by decide) (hts _ kX1_parts_0) (fun _ h9 => h9) rfl dX1_parts_70 ?_
        refine lv_iconst (pc := 73) (v := (nI 3)) hx hb dX1_parts_73 (by decide) ?_
        refine zb_icmp_ne (pc := 74) (tgt := 82) hx hb dX1_parts_74 (by decide) hF (fun c_74 hF => ?_) (fun c_74 hF => ?_)
        · refine lv_aload_n (pc := 82) hx hb dX1_parts_82 rfl (lv_at hl 2 rfl) ?_
          refine va_get (D := D) (pc := 83) (ci := 1) (v := .int v_kind) (C := RX1) (T := TX1) (N := 8) hx hb hts nX1_parts_X1 hown hK hP 0 rfl rfl 3 (by decide) (hts _ kX1_parts_0) (fun _ h9 => h9) rfl dX1_parts_83 ?_
          refine lv_iconst (pc := 86) (v := (nI 5)) hx hb dX1_parts_86 (by decide) ?_
          refine zb_icmp_ne (pc := 87) (tgt := 104) hx hb dX1_parts_87 (by decide) hF (fun c_87 hF => ?_) (fun c_87 hF => ?_)
          · refine lv_iload (pc := 104) hx hb dX1_parts_104 (lv_at hl 0 rfl) ?_
            exact z_iretM (pc := 106) (fun q => q.1) (fun q => (wX1_parts cB cI cJ cO h0 h_bodies g_isFresh q.2.1 q.2.2.1 v_kind v_number v_hand v_isCovered q.2.2.2)) hx hb hr hlocks hP hS hF rfl hQ dX1_parts_106
          · refine lv_iload (pc := 90) hx hb dX1_parts_90 (lv_at hl 0 rfl) ?_
            refine lv_aload_n (pc := 92) hx hb dX1_parts_92 rfl (lv_at hl 2 rfl) ?_
            refine lv_aload_n (pc := 93) hx hb dX1_parts_93 rfl (lv_at hl 2 rfl) ?_
            refine va_get (D := D) (pc := 94) (ci := 1) (v := .int v_number) (C := RX1) (T := TX1) (N := 8) hx hb hts nX1_parts_X1 hown hK hP 0 rfl rfl 4 (by decide) (hts _ kX1_parts_2) (fun _ h9 => h9) rfl dX1_parts_94 ?_
            obtain ⟨u97, hu97, hF⟩ := z_bind hF
            refine zq_callM (oc0 := (some (.int u97.1))) (wc := wX1_sprays cB cI cJ cO h0 h_bodies (.int v_isBroken) g_isFresh u40.1 v_kind v_number v_hand v_isCovered u40.2) (wc' := wX1_sprays cB cI cJ cO h0 h_bodies (.int v_isBroken) g_isFresh u97.2.1 v_kind v_number v_hand v_isCovered u97.2.2) (ws' := (wX1_parts cB cI cJ cO h0 h_bodies g_isFresh u97.2.1 v_isBroken v_kind v_number v_hand v_isCovered u97.2.2)) (va_runV (As := [.int v_number]) (rest := [.int (y2_1 / (v_hand - v_number))]) ⟨hx, hb, hml, hown, hts⟩ (tX1_sprays (l := l) (D := D) (cB := cB) (cI := cI) (cJ := cJ) (cO := cO) h0 h_bodies (.int v_isBroken) g_isFresh u40.1 v_kind v_number v_hand v_isCovered u40.2 v_number u97 hu97) (cwV 1 hts gX1_parts_X1_sprays rfl rfl rfl (by decide +kernel) ⟨Nat.le_of_ble_eq_true rfl, Nat.le_of_ble_eq_true rfl⟩) ⟨zPre_blind, va_recv hK hP (ci := 1) (q0 := 0) rfl rfl, zPre_at hP hE (zD_re hD rfl) [0, 1] rfl rfl⟩ rfl rfl hl.1 rfl (lv_room (Nat.le_of_ble_eq_true rfl)) dX1_parts_97 ⟨Nat.zero_le _, Nat.zero_le _⟩) rfl hP (zD_re hD rfl) hS [0, 1] rfl rfl [some 0, some 1] rfl rfl rfl rfl (fun H locs hP hS => ?_)
            refine W.eq (g2 := F0 m 100 ls [.int u97.1, .int (y2_1 / (v_hand - v_number))]) rfl ?_
            refine lv_ixor (pc := 100) hx hb dX1_parts_100 ?_
            refine lv_goto (pc := 101) (tgt := 106) hx hb dX1_parts_101 (by decide) ?_
            exact z_iretM (pc := 106) (fun q => q.1) (fun q => (wX1_parts cB cI cJ cO h0 h_bodies g_isFresh q.2.1 q.2.2.1 v_kind v_number v_hand v_isCovered q.2.2.2)) hx hb hr hlocks hP hS hF rfl hQ dX1_parts_106
        · refine lv_iload (pc := 77) hx hb dX1_parts_77 (lv_at hl 0 rfl) ?_
          refine lv_iconst (pc := 79) (v := (nI 4)) hx hb dX1_parts_79 (by decide) ?_
          refine lv_imul (pc := 80) hx hb dX1_parts_80 ?_
          exact z_iretM (pc := 81) (fun q => q.1) (fun q => (wX1_parts cB cI cJ cO h0 h_bodies g_isFresh q.2.1 q.2.2.1 v_kind v_number v_hand v_isCovered q.2.2.2)) hx hb hr hlocks hP hS hF rfl hQ dX1_parts_81
      · refine lv_aload_n (pc := 57) hx hb dX1_parts_57 rfl (lv_at hl 1 rfl) ?_
        refine lv_iconst (pc := 58) (v := (nI 1)) hx hb dX1_parts_58 (by decide) ?_
        refine va_put (D := D) (pc := 59) (ci := 1) (v := .int (nI 1)) (ty := .boolean) (C := RX1) (T := TX1) (N := 8) hx hb hts nX1_parts_X1 tyX1 tyX1_ok nmX1 hown hK hP (zD_re hD rfl) hS 0 rfl rfl 2 (by decide) (hts _ kX1_parts_3) (fun _ h9 => h9) rfl (tyX1_ok 2 (by decide)) rfl rfl (Nat.le_of_ble_eq_true rfl) dX1_parts_59 (fun H locs hP _ hS => ?_)
        have hP : va_P D vwCl (wX1_parts cB cI cJ cO h0 h_bodies g_isFresh u40.1 (nI 1) v_kind v_number v_hand v_isCovered u40.2) H := hP
        refine lv_iconst (pc := 62) (v := (nI 0)) hx hb dX1_parts_62 (by decide) ?_
        exact z_iretM (pc := 63) (fun q => q.1) (fun q => (wX1_parts cB cI cJ cO h0 h_bodies g_isFresh q.2.1 q.2.2.1 v_kind v_number v_hand v_isCovered q.2.2.2)) hx hb hr hlocks hP hS hF rfl hQ dX1_parts_63
    refine zb_icmp_ne (pc := 28) (tgt := 37) hx hb dX1_parts_28 (by decide) hF (fun c_28 hF => ?_) (fun c_28 hF => ?_)
    · exact kJ_7 v_traced_2 v_bodies_3 hF H locs hP hS ls (lv_sub hl [0, 1] rfl)
    · refine lv_aload_n (pc := 31) hx hb dX1_parts_31 rfl (lv_at hl 0 rfl) ?_
      refine lv_bipush (pc := 32) (v := (nI 61)) hx hb dX1_parts_32 (by decide) ?_
      obtain ⟨u34, hu34, hF⟩ := z_bind hF
      refine zq_callM (oc0 := none) (wc := wX1_begins cB cI cJ cO h0 h_bodies (.int v_isBroken) (.int v_kind) (.int v_number) (.int v_hand) g_isFresh (.int v_isCovered) v_traced_2 v_bodies_3) (wc' := wX1_begins cB cI cJ cO h0 h_bodies (.int v_isBroken) (.int v_kind) (.int v_number) (.int v_hand) g_isFresh (.int v_isCovered) u34.1 u34.2) (ws' := (wX1_parts cB cI cJ cO h0 h_bodies g_isFresh u34.1 v_isBroken v_kind v_number v_hand v_isCovered u34.2)) (va_runV (As := [.int (nI 61)]) (rest := []) ⟨hx, hb, hml, hown, hts⟩ (tX1_begins (l := l) (D := D) (cB := cB) (cI := cI) (cJ := cJ) (cO := cO) h0 h_bodies (.int v_isBroken) (.int v_kind) (.int v_number) (.int v_hand) g_isFresh (.int v_isCovered) v_traced_2 v_bodies_3 (nI 61) u34 hu34) (cwV 1 hts gX1_parts_X1_begins rfl rfl rfl (by decide +kernel) ⟨Nat.le_of_ble_eq_true rfl, Nat.le_of_ble_eq_true rfl⟩) ⟨zPre_blind, va_recv hK hP (ci := 1) (q0 := 0) rfl rfl, zPre_at hP hE (zD_re hD rfl) [0, 1] rfl rfl⟩ rfl rfl hl.1 rfl (lv_room (Nat.le_of_ble_eq_true rfl)) dX1_parts_34 ⟨Nat.zero_le _, Nat.zero_le _⟩) rfl hP (zD_re hD rfl) hS [0, 1] rfl rfl [some 0, some 1] rfl rfl rfl rfl (fun H locs hP hS => ?_)
      refine W.eq (g2 := F0 m 37 ls []) rfl ?_
      exact kJ_7 u34.1 u34.2 hF H locs hP hS ls (lv_sub hl [0, 1] rfl)
  refine zb_icmp_ne (pc := 7) (tgt := 23) hx hb dX1_parts_7 (by decide) hF (fun c_7 hF => ?_) (fun c_7 hF => ?_)
  · exact kJ_4 x1 v_traced v_bodies hF H locs hP hS ls (lv_sub hl [1, 0] rfl)
  · refine lv_aload_n (pc := 10) hx hb dX1_parts_10 rfl (lv_at hl 1 rfl) ?_
    refine lv_bipush (pc := 11) (v := (nI 50)) hx hb dX1_parts_11 (by decide) ?_
    obtain ⟨u13, hu13, hF⟩ := z_bind hF
    refine zq_callM (oc0 := none) (wc := wX1_begins cB cI cJ cO h0 h_bodies (.int v_isBroken) (.int v_kind) (.int v_number) (.int v_hand) g_isFresh (.int v_isCovered) v_traced v_bodies) (wc' := wX1_begins cB cI cJ cO h0 h_bodies (.int v_isBroken) (.int v_kind) (.int v_number) (.int v_hand) g_isFresh (.int v_isCovered) u13.1 u13.2) (ws' := (wX1_parts cB cI cJ cO h0 h_bodies g_isFresh u13.1 v_isBroken v_kind v_number v_hand v_isCovered u13.2)) (va_runV (As := [.int (nI 50)]) (rest := []) ⟨hx, hb, hml, hown, hts⟩ (tX1_begins (l := l) (D := D) (cB := cB) (cI := cI) (cJ := cJ) (cO := cO) h0 h_bodies (.int v_isBroken) (.int v_kind) (.int v_number) (.int v_hand) g_isFresh (.int v_isCovered) v_traced v_bodies (nI 50) u13 hu13) (cwV 1 hts gX1_parts_X1_begins rfl rfl rfl (by decide +kernel) ⟨Nat.le_of_ble_eq_true rfl, Nat.le_of_ble_eq_true rfl⟩) ⟨zPre_blind, va_recv hK hP (ci := 1) (q0 := 0) rfl rfl, zPre_at hP hE (zD_re hD rfl) [0, 1] rfl rfl⟩ rfl rfl hl.1 rfl (lv_room (Nat.le_of_ble_eq_true rfl)) dX1_parts_13 ⟨Nat.zero_le _, Nat.zero_le _⟩) rfl hP (zD_re hD rfl) hS [0, 1] rfl rfl [some 0, some 1] rfl rfl rfl rfl (fun H locs hP hS => ?_)
    refine W.eq (g2 := F0 m 16 ls []) rfl ?_
    refine lv_iload_n (pc := 16) hx hb dX1_parts_16 rfl (lv_at hl 2 rfl) ?_
    refine lv_aload_n (pc := 17) hx hb dX1_parts_17 rfl (lv_at hl 1 rfl) ?_
    refine va_get (D := D) (pc := 18) (ci := 1) (v := .int v_number) (C := RX1) (T := TX1) (N := 8) hx hb hts nX1_parts_X1 hown hK hP 0 rfl rfl 4 (by decide) (hts _ kX1_parts_2) (fun _ h9 => h9) rfl dX1_parts_18 ?_
    refine lv_isub (pc := 21) hx hb dX1_parts_21 ?_
    refine lv_istore_n (pc := 22) (lv' := [(2, .int (x1 - v_number)), (0, .ref h0), (1, .int x1)]) hx hb dX1_parts_22 rfl hl (by decide) rfl (fun ls hl => ?_)
    exact kJ_4 (x1 - v_number) u13.1 u13.2 hF H locs hP hS ls (lv_sub hl [1, 0] rfl)

abbrev rX1_fades : Room := { frames := 3, cells := 0, slots := 0, locals := 67 }
abbrev wX1_fades (cB cI cJ cO : ClassId) (h0 h_bodies : Nat) (v_traced : Int32) (v_isBroken : Int32) (v_kind : Int32) (v_number : Int32) (v_hand : Int32) (v_isFresh : Int32) (v_isCovered : Int32) (v_bodies : Nat → Int32) : va_W := [(h0, .inr (1, [.ref h_bodies, .int v_traced, .int v_isBroken, .int v_kind, .int v_number, .int v_hand, .int v_isFresh, .int v_isCovered])), (h_bodies, .inl (cI, 30, .inl v_bodies))]
theorem nX1_fades_X1 : ∀ w ∈ wsX10, w ∈ wsX1_fades := by decide +kernel
theorem kX1_fades_0 : Cond.fieldLink RX1 15 "PaintedWalls$Thing" "kind" "I" ∈ wsX1_fades := by decide +kernel
theorem kX1_fades_1 : Cond.fieldLink RX1 33 "PaintedWalls$Thing" "isCovered" "Z" ∈ wsX1_fades := by decide +kernel
theorem kX1_fades_2 : Cond.fieldLink RX1 19 "PaintedWalls$Thing" "number" "I" ∈ wsX1_fades := by decide +kernel
set_option maxHeartbeats 4000000 in
set_option maxRecDepth 100000 in
theorem tX1_fades {l : Launch} {D : va_G} {cB cI cJ cO : ClassId} (h0 h_bodies : Nat) (v_traced : Int32) (v_isBroken : Int32) (v_kind : Int32) (v_number : Int32) (v_hand : Int32) (v_isFresh : Int32) (v_isCovered : Int32) (v_bodies : Nat → Int32) (x1 : Int32) (r : Int32 × Int32 × Int32 × (Nat → Int32)) (hF : fX1_fades v_traced v_isBroken v_kind v_number v_hand v_isFresh v_isCovered v_bodies x1 = some r) : Met l yX1_fades wsX1_fades rX1_fades (zPre D cB cI cJ cO [.ref h0, .int x1] (wX1_fades cB cI cJ cO h0 h_bodies v_traced v_isBroken v_kind v_number v_hand v_isFresh v_isCovered v_bodies)) (zPM (some (.int r.1)) D (wX1_fades cB cI cJ cO h0 h_bodies r.2.1 r.2.2.1 v_kind v_number v_hand v_isFresh v_isCovered r.2.2.2) (zAs [h0, h_bodies])) 0 0 (zAs [h0, h_bodies]) := by
  refine zMetM (cc := cX1_fades) (maxL := 3) (ret := (some .int)) (lv := [(0, .ref h0), (1, .int x1)]) rfl (by decide) rfl (Nat.le_of_ble_eq_true rfl) rfl ?_
  intro p e s m args below meth c ls Q H locs hQ hx hb hr hml hown hts hlocks hname hP hE hD hS hl
  have hown : s.vm.findClass RX1 = some m.cls := hown
  have hK := hE.1
  unfold fX1_fades at hF
  refine lv_aload_n (pc := 0) hx hb dX1_fades_0 rfl (lv_at hl 0 rfl) ?_
  refine va_get (D := D) (pc := 1) (ci := 1) (v := .int v_kind) (C := RX1) (T := TX1) (N := 8) hx hb hts nX1_fades_X1 hown hK hP 0 rfl rfl 3 (by decide) (hts _ kX1_fades_0) (fun _ h9 => h9) rfl dX1_fades_1 ?_
  refine lv_iconst (pc := 4) (v := (nI 5)) hx hb dX1_fades_4 (by decide) ?_
  obtain ⟨J_3, hJ_3, hF⟩ := z_J hF
  have kJ_3 : ∀ (v_traced_1 : Int32) (v_bodies_2 : Nat → Int32) , J_3 v_traced_1 v_bodies_2 = some r → ∀ (H : Heap) (locs : List Loc), va_P D vwCl (wX1_fades cB cI cJ cO h0 h_bodies v_traced_1 v_isBroken v_kind v_number v_hand v_isFresh v_isCovered v_bodies_2) H → va_S (zAs [h0, h_bodies]) s.heap H locs → ∀ (ls : Array Slot), lv_has ls 3 [(0, .ref h0), (1, .int x1)] → W p l e rX1_fades s m args below meth c H locs 0 0 Q (F0 m 14 ls []) := by
    intro v_traced_1 v_bodies_2 hF H locs hP hS ls hl
    rw [hJ_3] at hF
    refine lv_aload_n (pc := 14) hx hb dX1_fades_14 rfl (lv_at hl 0 rfl) ?_
    refine va_get (D := D) (pc := 15) (ci := 1) (v := .int v_isCovered) (C := RX1) (T := TX1) (N := 8) hx hb hts nX1_fades_X1 hown hK hP 0 rfl rfl 7 (by decide) (hts _ kX1_fades_1) (fun _ h9 => h9) rfl dX1_fades_15 ?_
    obtain ⟨J_6, hJ_6, hF⟩ := z_J hF
    have kJ_6 : ∀ (v_traced_4 : Int32) (v_bodies_5 : Nat → Int32) , J_6 v_traced_4 v_bodies_5 = some r → ∀ (H : Heap) (locs : List Loc), va_P D vwCl (wX1_fades cB cI cJ cO h0 h_bodies v_traced_4 v_isBroken v_kind v_number v_hand v_isFresh v_isCovered v_bodies_5) H → va_S (zAs [h0, h_bodies]) s.heap H locs → ∀ (ls : Array Slot), lv_has ls 3 [(0, .ref h0), (1, .int x1)] → W p l e rX1_fades s m args below meth c H locs 0 0 Q (F0 m 27 ls []) := by
      intro v_traced_4 v_bodies_5 hF H locs hP hS ls hl
      rw [hJ_6] at hF
      refine lv_aload_n (pc := 27) hx hb dX1_fades_27 rfl (lv_at hl 0 rfl) ?_
      refine lv_bipush (pc := 28) (v := (nI 13)) hx hb dX1_fades_28 (by decide) ?_
      obtain ⟨u30, hu30, hF⟩ := z_bind hF
      refine zq_callM (oc0 := none) (wc := wX1_begins cB cI cJ cO h0 h_bodies (.int v_isBroken) (.int v_kind) (.int v_number) (.int v_hand) (.int v_isFresh) (.int v_isCovered) v_traced_4 v_bodies_5) (wc' := wX1_begins cB cI cJ cO h0 h_bodies (.int v_isBroken) (.int v_kind) (.int v_number) (.int v_hand) (.int v_isFresh) (.int v_isCovered) u30.1 u30.2) (ws' := (wX1_fades cB cI cJ cO h0 h_bodies u30.1 v_isBroken v_kind v_number v_hand v_isFresh v_isCovered u30.2)) (va_runV (As := [.int (nI 13)]) (rest := []) ⟨hx, hb, hml, hown, hts⟩ (tX1_begins (l := l) (D := D) (cB := cB) (cI := cI) (cJ := cJ) (cO := cO) h0 h_bodies (.int v_isBroken) (.int v_kind) (.int v_number) (.int v_hand) (.int v_isFresh) (.int v_isCovered) v_traced_4 v_bodies_5 (nI 13) u30 hu30) (cwV 1 hts gX1_fades_X1_begins rfl rfl rfl (by decide +kernel) ⟨Nat.le_of_ble_eq_true rfl, Nat.le_of_ble_eq_true rfl⟩) ⟨zPre_blind, va_recv hK hP (ci := 1) (q0 := 0) rfl rfl, zPre_at hP hE (zD_re hD rfl) [0, 1] rfl rfl⟩ rfl rfl hl.1 rfl (lv_room (Nat.le_of_ble_eq_true rfl)) dX1_fades_30 ⟨Nat.zero_le _, Nat.zero_le _⟩) rfl hP (zD_re hD rfl) hS [0, 1] rfl rfl [some 0, some 1] rfl rfl rfl rfl (fun H locs hP hS => ?_)
      refine W.eq (g2 := F0 m 33 ls []) rfl ?_
      refine lv_aload_n (pc := 33) hx hb dX1_fades_33 rfl (lv_at hl 0 rfl) ?_
      refine lv_iload_n (pc := 34) hx hb dX1_fades_34 rfl (lv_at hl 1 rfl) ?_
      obtain ⟨u35, hu35, hF⟩ := z_bind hF
      refine zq_callM (oc0 := (some (.int u35.1))) (wc := wX1_drips cB cI cJ cO h0 h_bodies (.int v_isBroken) u30.1 v_kind v_number v_hand v_isFresh v_isCovered u30.2) (wc' := wX1_drips cB cI cJ cO h0 h_bodies (.int v_isBroken) u35.2.1 v_kind v_number v_hand v_isFresh v_isCovered u35.2.2) (ws' := (wX1_fades cB cI cJ cO h0 h_bodies u35.2.1 v_isBroken v_kind v_number v_hand v_isFresh v_isCovered u35.2.2)) (va_runV (As := [.int x1]) (rest := []) ⟨hx, hb, hml, hown, hts⟩ (tX1_drips (l := l) (D := D) (cB := cB) (cI := cI) (cJ := cJ) (cO := cO) h0 h_bodies (.int v_isBroken) u30.1 v_kind v_number v_hand v_isFresh v_isCovered u30.2 x1 u35 hu35) (cwV 1 hts gX1_fades_X1_drips rfl rfl rfl (by decide +kernel) ⟨Nat.le_of_ble_eq_true rfl, Nat.le_of_ble_eq_true rfl⟩) ⟨zPre_blind, va_recv hK hP (ci := 1) (q0 := 0) rfl rfl, zPre_at hP hE (zD_re hD rfl) [0, 1] rfl rfl⟩ rfl rfl hl.1 rfl (lv_room (Nat.le_of_ble_eq_true rfl)) dX1_fades_35 ⟨Nat.zero_le _, Nat.zero_le _⟩) rfl hP (zD_re hD rfl) hS [0, 1] rfl rfl [some 0, some 1] rfl rfl rfl rfl (fun H locs hP hS => ?_)
      refine W.eq (g2 := F0 m 38 ls [.int u35.1]) rfl ?_
      refine lv_sipush (pc := 38) (v := (nI 190)) hx hb dX1_fades_38 (by decide) ?_
      refine lv_ixor (pc := 41) hx hb dX1_fades_41 ?_
      refine lv_istore_n (pc := 42) (lv' := [(2, .int (u35.1 ^^^ (nI 190))), (0, .ref h0), (1, .int x1)]) hx hb dX1_fades_42 rfl hl (by decide) rfl (fun ls hl => ?_)
      refine lv_aload_n (pc := 43) hx hb dX1_fades_43 rfl (lv_at hl 1 rfl) ?_
      refine va_get (D := D) (pc := 44) (ci := 1) (v := .int v_isCovered) (C := RX1) (T := TX1) (N := 8) hx hb hts nX1_fades_X1 hown hK hP 0 rfl rfl 7 (by decide) (hts _ kX1_fades_1) (fun _ h9 => h9) rfl dX1_fades_44 ?_
      refine zb_if_eq (pc := 47) (tgt := 61) hx hb dX1_fades_47 (by decide) hF (fun c_47 hF => ?_) (fun c_47 hF => ?_)
      · refine lv_aload_n (pc := 61) hx hb dX1_fades_61 rfl (lv_at hl 1 rfl) ?_
        refine va_get (D := D) (pc := 62) (ci := 1) (v := .int v_kind) (C := RX1) (T := TX1) (N := 8) hx hb hts nX1_fades_X1 hown hK hP 0 rfl rfl 3 (by decide) (hts _ kX1_fades_0) (fun _ h9 => h9) rfl dX1_fades_62 ?_
        refine lv_iconst (pc := 65) (v := (nI 5)) hx hb dX1_fades_65 (by decide) ?_
        refine zb_icmp_ne (pc := 66) (tgt := 75) hx hb dX1_fades_66 (by decide) hF (fun c_66 hF => ?_) (fun c_66 hF => ?_)
        · refine lv_iload_n (pc := 75) hx hb dX1_fades_75 rfl (lv_at hl 0 rfl) ?_
          exact z_iretM (pc := 76) (fun q => q.1) (fun q => (wX1_fades cB cI cJ cO h0 h_bodies q.2.1 q.2.2.1 v_kind v_number v_hand v_isFresh v_isCovered q.2.2.2)) hx hb hr hlocks hP hS hF rfl hQ dX1_fades_76
        · refine lv_iconst (pc := 69) (v := (nI 3)) hx hb dX1_fades_69 (by decide) ?_
          refine lv_iload_n (pc := 70) hx hb dX1_fades_70 rfl (lv_at hl 0 rfl) ?_
          refine lv_isub (pc := 71) hx hb dX1_fades_71 ?_
          refine lv_goto (pc := 72) (tgt := 76) hx hb dX1_fades_72 (by decide) ?_
          exact z_iretM (pc := 76) (fun q => q.1) (fun q => (wX1_fades cB cI cJ cO h0 h_bodies q.2.1 q.2.2.1 v_kind v_number v_hand v_isFresh v_isCovered q.2.2.2)) hx hb hr hlocks hP hS hF rfl hQ dX1_fades_76
      · refine lv_iload_n (pc := 50) hx hb dX1_fades_50 rfl (lv_at hl 0 rfl) ?_
        refine lv_aload_n (pc := 51) hx hb dX1_fades_51 rfl (lv_at hl 1 rfl) ?_
        refine lv_aload_n (pc := 52) hx hb dX1_fades_52 rfl (lv_at hl 1 rfl) ?_
        refine va_get (D := D) (pc := 53) (ci := 1) (v := .int v_number) (C := RX1) (T := TX1) (N := 8) hx hb hts nX1_fades_X1 hown hK hP 0 rfl rfl 4 (by decide) (hts _ kX1_fades_2) (fun _ h9 => h9) rfl dX1_fades_53 ?_
        obtain ⟨u56, hu56, hF⟩ := z_bind hF
        refine zq_callM (oc0 := (some (.int u56.1))) (wc := wX1_parts cB cI cJ cO h0 h_bodies (.int v_isFresh) u35.2.1 v_isBroken v_kind v_number v_hand v_isCovered u35.2.2) (wc' := wX1_parts cB cI cJ cO h0 h_bodies (.int v_isFresh) u56.2.1 u56.2.2.1 v_kind v_number v_hand v_isCovered u56.2.2.2) (ws' := (wX1_fades cB cI cJ cO h0 h_bodies u56.2.1 u56.2.2.1 v_kind v_number v_hand v_isFresh v_isCovered u56.2.2.2)) (va_runV (As := [.int v_number]) (rest := [.int (u35.1 ^^^ (nI 190))]) ⟨hx, hb, hml, hown, hts⟩ (tX1_parts (l := l) (D := D) (cB := cB) (cI := cI) (cJ := cJ) (cO := cO) h0 h_bodies (.int v_isFresh) u35.2.1 v_isBroken v_kind v_number v_hand v_isCovered u35.2.2 v_number u56 hu56) (cwV 1 hts gX1_fades_X1_parts rfl rfl rfl (by decide +kernel) ⟨Nat.le_of_ble_eq_true rfl, Nat.le_of_ble_eq_true rfl⟩) ⟨zPre_blind, va_recv hK hP (ci := 1) (q0 := 0) rfl rfl, zPre_at hP hE (zD_re hD rfl) [0, 1] rfl rfl⟩ rfl rfl hl.1 rfl (lv_room (Nat.le_of_ble_eq_true rfl)) dX1_fades_56 ⟨Nat.zero_le _, Nat.zero_le _⟩) rfl hP (zD_re hD rfl) hS [0, 1] rfl rfl [some 0, some 1] rfl rfl rfl rfl (fun H locs hP hS => ?_)
        refine W.eq (g2 := F0 m 59 ls [.int u56.1, .int (u35.1 ^^^ (nI 190))]) rfl ?_
        refine lv_isub (pc := 59) hx hb dX1_fades_59 ?_
        exact z_iretM (pc := 60) (fun q => q.1) (fun q => (wX1_fades cB cI cJ cO h0 h_bodies q.2.1 q.2.2.1 v_kind v_number v_hand v_isFresh v_isCovered q.2.2.2)) hx hb hr hlocks hP hS hF rfl hQ dX1_fades_60
    refine zb_if_eq (pc := 18) (tgt := 27) hx hb dX1_fades_18 (by decide) hF (fun c_18 hF => ?_) (fun c_18 hF => ?_)
    · exact kJ_6 v_traced_1 v_bodies_2 hF H locs hP hS ls (lv_sub hl [0, 1] rfl)
    · refine lv_aload_n (pc := 21) hx hb dX1_fades_21 rfl (lv_at hl 0 rfl) ?_
      refine lv_bipush (pc := 22) (v := (nI 31)) hx hb dX1_fades_22 (by decide) ?_
      obtain ⟨u24, hu24, hF⟩ := z_bind hF
      refine zq_callM (oc0 := none) (wc := wX1_begins cB cI cJ cO h0 h_bodies (.int v_isBroken) (.int v_kind) (.int v_number) (.int v_hand) (.int v_isFresh) (.int v_isCovered) v_traced_1 v_bodies_2) (wc' := wX1_begins cB cI cJ cO h0 h_bodies (.int v_isBroken) (.int v_kind) (.int v_number) (.int v_hand) (.int v_isFresh) (.int v_isCovered) u24.1 u24.2) (ws' := (wX1_fades cB cI cJ cO h0 h_bodies u24.1 v_isBroken v_kind v_number v_hand v_isFresh v_isCovered u24.2)) (va_runV (As := [.int (nI 31)]) (rest := []) ⟨hx, hb, hml, hown, hts⟩ (tX1_begins (l := l) (D := D) (cB := cB) (cI := cI) (cJ := cJ) (cO := cO) h0 h_bodies (.int v_isBroken) (.int v_kind) (.int v_number) (.int v_hand) (.int v_isFresh) (.int v_isCovered) v_traced_1 v_bodies_2 (nI 31) u24 hu24) (cwV 1 hts gX1_fades_X1_begins rfl rfl rfl (by decide +kernel) ⟨Nat.le_of_ble_eq_true rfl, Nat.le_of_ble_eq_true rfl⟩) ⟨zPre_blind, va_recv hK hP (ci := 1) (q0 := 0) rfl rfl, zPre_at hP hE (zD_re hD rfl) [0, 1] rfl rfl⟩ rfl rfl hl.1 rfl (lv_room (Nat.le_of_ble_eq_true rfl)) dX1_fades_24 ⟨Nat.zero_le _, Nat.zero_le _⟩) rfl hP (zD_re hD rfl) hS [0, 1] rfl rfl [some 0, some 1] rfl rfl rfl rfl (fun H locs hP hS => ?_)
      refine W.eq (g2 := F0 m 27 ls []) rfl ?_
      exact kJ_6 u24.1 u24.2 hF H locs hP hS ls (lv_sub hl [0, 1] rfl)
  refine zb_icmp_ne (pc := 5) (tgt := 14) hx hb dX1_fades_5 (by decide) hF (fun c_5 hF => ?_) (fun c_5 hF => ?_)
  · exact kJ_3 v_traced v_bodies hF H locs hP hS ls (lv_sub hl [0, 1] rfl)
  · refine lv_aload_n (pc := 8) hx hb dX1_fades_8 rfl (lv_at hl 0 rfl) ?_
    refine lv_bipush (pc := 9) (v := (nI 60)) hx hb dX1_fades_9 (by decide) ?_
    obtain ⟨u11, hu11, hF⟩ := z_bind hF
    refine zq_callM (oc0 := none) (wc := wX1_begins cB cI cJ cO h0 h_bodies (.int v_isBroken) (.int v_kind) (.int v_number) (.int v_hand) (.int v_isFresh) (.int v_isCovered) v_traced v_bodies) (wc' := wX1_begins cB cI cJ cO h0 h_bodies (.int v_isBroken) (.int v_kind) (.int v_number) (.int v_hand) (.int v_isFresh) (.int v_isCovered) u11.1 u11.2) (ws' := (wX1_fades cB cI cJ cO h0 h_bodies u11.1 v_isBroken v_kind v_number v_hand v_isFresh v_isCovered u11.2)) (va_runV (As := [.int (nI 60)]) (rest := []) ⟨hx, hb, hml, hown, hts⟩ (tX1_begins (l := l) (D := D) (cB := cB) (cI := cI) (cJ := cJ) (cO := cO) h0 h_bodies (.int v_isBroken) (.int v_kind) (.int v_number) (.int v_hand) (.int v_isFresh) (.int v_isCovered) v_traced v_bodies (nI 60) u11 hu11) (cwV 1 hts gX1_fades_X1_begins rfl rfl rfl (by decide +kernel) ⟨Nat.le_of_ble_eq_true rfl, Nat.le_of_ble_eq_true rfl⟩) ⟨zPre_blind, va_recv hK hP (ci := 1) (q0 := 0) rfl rfl, zPre_at hP hE (zD_re hD rfl) [0, 1] rfl rfl⟩ rfl rfl hl.1 rfl (lv_room (Nat.le_of_ble_eq_true rfl)) dX1_fades_11 ⟨Nat.zero_le _, Nat.zero_le _⟩) rfl hP (zD_re hD rfl) hS [0, 1] rfl rfl [some 0, some 1] rfl rfl rfl rfl (fun H locs hP hS => ?_)
    refine W.eq (g2 := F0 m 14 ls []) rfl ?_
    exact kJ_3 u11.1 u11.2 hF H locs hP hS ls (lv_sub hl [0, 1] rfl)

abbrev rX2_begin : Room := { frames := 0, cells := 0, slots := 0, locals := 0 }
abbrev wX2_begin (cB cI cJ cO : ClassId) (h0 h_laws h_ground h_seen : Nat) (g_kind g_hand g_size g_on g_away g_draws g_wallLooks : Value) (v_count : Int32) (v_nightsPassed : Int32) (v_glances : Int32) (v_gained : Int32) (v_paintedOn : Int32) (v_laws : Nat → Int32) (v_ground : Nat → Int32) (v_seen : Nat → Int32) : va_W := [(h0, .inr (2, [.ref h_laws, .ref h_ground, .ref h_seen, .int v_count, g_kind, g_hand, g_size, g_on, g_away, .int v_nightsPassed, .int v_glances, g_draws, .int v_gained, .int v_paintedOn, g_wallLooks])), (h_laws, .inl (cI, 4, .inl v_laws)), (h_ground, .inl (cI, 10, .inl v_ground)), (h_seen, .inl (cI, 10, .inl v_seen))]
theorem nX2_begin_X2 : ∀ w ∈ wsX20, w ∈ wsX2_begin := by decide +kernel
theorem kX2_begin_0 : Cond.fieldLink RX2 49 "PaintedWalls$Town" "count" "I" ∈ wsX2_begin := by decide +kernel
theorem kX2_begin_1 : Cond.fieldLink RX2 52 "PaintedWalls$Town" "nightsPassed" "I" ∈ wsX2_begin := by decide +kernel
theorem kX2_begin_2 : Cond.fieldLink RX2 55 "PaintedWalls$Town" "glances" "I" ∈ wsX2_begin := by decide +kernel
theorem kX2_begin_3 : Cond.fieldLink RX2 58 "PaintedWalls$Town" "gained" "I" ∈ wsX2_begin := by decide +kernel
theorem kX2_begin_4 : Cond.fieldLink RX2 61 "PaintedWalls$Town" "paintedOn" "I" ∈ wsX2_begin := by decide +kernel
theorem kX2_begin_5 : Cond.fieldLink RX2 15 "PaintedWalls$Town" "ground" "[I" ∈ wsX2_begin := by decide +kernel
theorem kX2_begin_6 : Cond.fieldLink RX2 18 "PaintedWalls$Town" "seen" "[I" ∈ wsX2_begin := by decide +kernel
theorem kX2_begin_7 : Cond.fieldLink RX2 9 "PaintedWalls$Town" "laws" "[I" ∈ wsX2_begin := by decide +kernel
set_option maxHeartbeats 4000000 in
set_option maxRecDepth 100000 in
theorem tX2_begin {l : Launch} {D : va_G} {cB cI cJ cO : ClassId} {adK adV : Nat → Nat} (h0 h_laws h_ground h_seen : Nat) (g_kind g_hand g_size g_on g_away g_draws g_wallLooks : Value) (v_count : Int32) (v_nightsPassed : Int32) (v_glances : Int32) (v_gained : Int32) (v_paintedOn : Int32) (v_laws : Nat → Int32) (v_ground : Nat → Int32) (v_seen : Nat → Int32) (r : Int32 × Int32 × Int32 × Int32 × Int32 × (Nat → Int32) × (Nat → Int32) × (Nat → Int32)) (hF : fX2_begin v_count v_nightsPassed v_glances v_gained v_paintedOn v_laws v_ground v_seen = some r) : Met l yX2_begin wsX2_begin rX2_begin (zPreS D cB cI cJ cO adK adV [.ref h0] (wX2_begin cB cI cJ cO h0 h_laws h_ground h_seen g_kind g_hand g_size g_on g_away g_draws g_wallLooks v_count v_nightsPassed v_glances v_gained v_paintedOn v_laws v_ground v_seen) [h0, h_laws, h_ground, h_seen]) (zPM none D (wX2_begin cB cI cJ cO h0 h_laws h_ground h_seen g_kind g_hand g_size g_on g_away g_draws g_wallLooks r.1 r.2.1 r.2.2.1 r.2.2.2.1 r.2.2.2.2.1 r.2.2.2.2.2.1 r.2.2.2.2.2.2.1 r.2.2.2.2.2.2.2) (zAs [h0, h_laws, h_ground, h_seen])) 0 0 (zAs [h0, h_laws, h_ground, h_seen]) := by
  refine zMetMS (cc := cX2_begin) (maxL := 2) (ret := none) (lv := [(0, .ref h0)]) rfl (by decide) rfl (Nat.le_of_ble_eq_true rfl) rfl ?_
  intro p e s m args below meth c ls Q H locs hQ hx hb hr hml hown hts hlocks hname hP hE hD hS hZ hl
  have hown : s.vm.findClass RX2 = some m.cls := hown
  have hK := hE.1
  unfold fX2_begin at hF
  refine lv_iconst (pc := 0) (v := (nI 0)) hx hb dX2_begin_0 (by decide) ?_
  refine lv_istore_n (pc := 1) (lv' := [(1, .int (nI 0)), (0, .ref h0)]) hx hb dX2_begin_1 rfl hl (by decide) rfl (fun ls hl => ?_)
  obtain ⟨k_4, hk_4, hF⟩ := z_J hF
  have kk_4 : ∀ (v_laws_3 : Nat → Int32) , k_4 v_laws_3 = some r → ∀ (H : Heap) (locs : List Loc), va_P D vwCl (wX2_begin cB cI cJ cO h0 h_laws h_ground h_seen g_kind g_hand g_size g_on g_away g_draws g_wallLooks v_count v_nightsPassed v_glances v_gained v_paintedOn v_laws_3 v_ground v_seen) H → va_S (zAs [h0, h_laws, h_ground, h_seen]) s.heap H locs → ∀ (ls : Array Slot), lv_has ls 2 [(0, .ref h0)] → W p l e rX2_begin s m args below meth c H locs 0 0 Q (F0 m 24 ls []) := by
    intro v_laws_3 hF H locs hP hS ls hl
    rw [hk_4] at hF
    refine lv_iconst (pc := 24) (v := (nI 0)) hx hb dX2_begin_24 (by decide) ?_
    refine lv_istore_n (pc := 25) (lv' := [(1, .int (nI 0)), (0, .ref h0)]) hx hb dX2_begin_25 rfl hl (by decide) rfl (fun ls hl => ?_)
    obtain ⟨k_10, hk_10, hF⟩ := z_J hF
    have kk_10 : ∀ (v_ground_8 : Nat → Int32) (v_seen_9 : Nat → Int32) , k_10 v_ground_8 v_seen_9 = some r → ∀ (H : Heap) (locs : List Loc), va_P D vwCl (wX2_begin cB cI cJ cO h0 h_laws h_ground h_seen g_kind g_hand g_size g_on g_away g_draws g_wallLooks v_count v_nightsPassed v_glances v_gained v_paintedOn v_laws_3 v_ground_8 v_seen_9) H → va_S (zAs [h0, h_laws, h_ground, h_seen]) s.heap H locs → ∀ (ls : Array Slot), lv_has ls 2 [(0, .ref h0)] → W p l e rX2_begin s m args below meth c H locs 0 0 Q (F0 m 52 ls []) := by
      intro v_ground_8 v_seen_9 hF H locs hP hS ls hl
      rw [hk_10] at hF
      refine lv_aload_n (pc := 52) hx hb dX2_begin_52 rfl (lv_at hl 0 rfl) ?_
      refine lv_iconst (pc := 53) (v := (nI 0)) hx hb dX2_begin_53 (by decide) ?_
      refine va_put (D := D) (pc := 54) (ci := 2) (v := .int (nI 0)) (ty := .int) (C := RX2) (T := TX2) (N := 15) hx hb hts nX2_begin_X2 tyX2 tyX2_ok nmX2 hown hK hP (zD_re hD rfl) hS 0 rfl rfl 3 (by decide) (hts _ kX2_begin_0) (fun _ h9 => h9) rfl (tyX2_ok 3 (by decide)) rfl rfl (Nat.le_of_ble_eq_true rfl) dX2_begin_54 (fun H locs hP _ hS => ?_)
      have hP : va_P D vwCl (wX2_begin cB cI cJ cO h0 h_laws h_ground h_seen g_kind g_hand g_size g_on g_away g_draws g_wallLooks (nI 0) v_nightsPassed v_glances v_gained v_paintedOn v_laws_3 v_ground_8 v_seen_9) H := hP
      refine lv_aload_n (pc := 57) hx hb dX2_begin_57 rfl (lv_at hl 0 rfl) ?_
      refine lv_iconst (pc := 58) (v := (nI 0)) hx hb dX2_begin_58 (by decide) ?_
      refine va_put (D := D) (pc := 59) (ci := 2) (v := .int (nI 0)) (ty := .int) (C := RX2) (T := TX2) (N := 15) hx hb hts nX2_begin_X2 tyX2 tyX2_ok nmX2 hown hK hP (zD_re hD rfl) hS 0 rfl rfl 9 (by decide) (hts _ kX2_begin_1) (fun _ h9 => h9) rfl (tyX2_ok 9 (by decide)) rfl rfl (Nat.le_of_ble_eq_true rfl) dX2_begin_59 (fun H locs hP _ hS => ?_)
      have hP : va_P D vwCl (wX2_begin cB cI cJ cO h0 h_laws h_ground h_seen g_kind g_hand g_size g_on g_away g_draws g_wallLooks (nI 0) (nI 0) v_glances v_gained v_paintedOn v_laws_3 v_ground_8 v_seen_9) H := hP
      refine lv_aload_n (pc := 62) hx hb dX2_begin_62 rfl (lv_at hl 0 rfl) ?_
      refine lv_iconst (pc := 63) (v := (nI 0)) hx hb dX2_begin_63 (by decide) ?_
      refine va_put (D := D) (pc := 64) (ci := 2) (v := .int (nI 0)) (ty := .int) (C := RX2) (T := TX2) (N := 15) hx hb hts nX2_begin_X2 tyX2 tyX2_ok nmX2 hown hK hP (zD_re hD rfl) hS 0 rfl rfl 10 (by decide) (hts _ kX2_begin_2) (fun _ h9 => h9) rfl (tyX2_ok 10 (by decide)) rfl rfl (Nat.le_of_ble_eq_true rfl) dX2_begin_64 (fun H locs hP _ hS => ?_)
      have hP : va_P D vwCl (wX2_begin cB cI cJ cO h0 h_laws h_ground h_seen g_kind g_hand g_size g_on g_away g_draws g_wallLooks (nI 0) (nI 0) (nI 0) v_gained v_paintedOn v_laws_3 v_ground_8 v_seen_9) H := hP
      refine lv_aload_n (pc := 67) hx hb dX2_begin_67 rfl (lv_at hl 0 rfl) ?_
      refine lv_iconst (pc := 68) (v := (nI 0)) hx hb dX2_begin_68 (by decide) ?_
      refine va_put (D := D) (pc := 69) (ci := 2) (v := .int (nI 0)) (ty := .int) (C := RX2) (T := TX2) (N := 15) hx hb hts nX2_begin_X2 tyX2 tyX2_ok nmX2 hown hK hP (zD_re hD rfl) hS 0 rfl rfl 12 (by decide) (hts _ kX2_begin_3) (fun _ h9 => h9) rfl (tyX2_ok 12 (by decide)) rfl rfl (Nat.le_of_ble_eq_true rfl) dX2_begin_69 (fun H locs hP _ hS => ?_)
      have hP : va_P D vwCl (wX2_begin cB cI cJ cO h0 h_laws h_ground h_seen g_kind g_hand g_size g_on g_away g_draws g_wallLooks (nI 0) (nI 0) (nI 0) (nI 0) v_paintedOn v_laws_3 v_ground_8 v_seen_9) H := hP
      refine lv_aload_n (pc := 72) hx hb dX2_begin_72 rfl (lv_at hl 0 rfl) ?_
      refine lv_iconst (pc := 73) (v := (nI 0)) hx hb dX2_begin_73 (by decide) ?_
      refine va_put (D := D) (pc := 74) (ci := 2) (v := .int (nI 0)) (ty := .int) (C := RX2) (T := TX2) (N := 15) hx hb hts nX2_begin_X2 tyX2 tyX2_ok nmX2 hown hK hP (zD_re hD rfl) hS 0 rfl rfl 13 (by decide) (hts _ kX2_begin_4) (fun _ h9 => h9) rfl (tyX2_ok 13 (by decide)) rfl rfl (Nat.le_of_ble_eq_true rfl) dX2_begin_74 (fun H locs hP _ hS => ?_)
      have hP : va_P D vwCl (wX2_begin cB cI cJ cO h0 h_laws h_ground h_seen g_kind g_hand g_size g_on g_away g_draws g_wallLooks (nI 0) (nI 0) (nI 0) (nI 0) (nI 0) v_laws_3 v_ground_8 v_seen_9) H := hP
      exact z_vretM (pc := 77) (fun q => (wX2_begin cB cI cJ cO h0 h_laws h_ground h_seen g_kind g_hand g_size g_on g_away g_draws g_wallLooks q.1 q.2.1 q.2.2.1 q.2.2.2.1 q.2.2.2.2.1 q.2.2.2.2.2.1 q.2.2.2.2.2.2.1 q.2.2.2.2.2.2.2)) hx hb hr hlocks hP hS hF hQ dX2_begin_77
    have hL_26 : ∀ (n : Nat) (y1_5 : Int32) (v_ground_6 : Nat → Int32) (v_seen_7 : Nat → Int32) , fX2_begin_L26 k_10 n y1_5 v_ground_6 v_seen_7 = some r → ∀ (H : Heap) (locs : List Loc), va_P D vwCl (wX2_begin cB cI cJ cO h0 h_laws h_ground h_seen g_kind g_hand g_size g_on g_away g_draws g_wallLooks v_count v_nightsPassed v_glances v_gained v_paintedOn v_laws_3 v_ground_6 v_seen_7) H → va_S (zAs [h0, h_laws, h_ground, h_seen]) s.heap H locs → ∀ (ls : Array Slot), lv_has ls 2 [(0, .ref h0), (1, .int y1_5)] → W p l e rX2_begin s m args below meth c H locs 0 0 Q (F0 m 26 ls []) := by
      intro n
      induction n with
      | zero =>
        intro y1_5 v_ground_6 v_seen_7 hF H locs hP hS ls hl
        exact z_no hF
      | succ n ih =>
        intro y1_5 v_ground_6 v_seen_7 hF H locs hP hS ls hl
        rw [fX2_begin_L26] at hF
        refine lv_iload_n (pc := 26) hx hb dX2_begin_26 rfl (lv_at hl 1 rfl) ?_
        refine lv_bipush (pc := 27) (v := (nI 10)) hx hb dX2_begin_27 (by decide) ?_
        refine zb_icmp_ge (pc := 29) (tgt := 52) hx hb dX2_begin_29 (by decide) hF (fun c_29 hF => ?_) (fun c_29 hF => ?_)
        · exact kk_10 v_ground_6 v_seen_7 hF H locs hP hS ls (lv_sub hl [0] rfl)
        · refine lv_aload_n (pc := 32) hx hb dX2_begin_32 rfl (lv_at hl 0 rfl) ?_
          refine va_get (D := D) (pc := 33) (ci := 2) (v := .ref h_ground) (C := RX2) (T := TX2) (N := 15) hx hb hts nX2_begin_X2 hown hK hP 0 rfl rfl 1 (by decide) (hts _ kX2_begin_5) (fun _ h9 => h9) rfl dX2_begin_33 ?_
          refine lv_iload_n (pc := 36) hx hb dX2_begin_36 rfl (lv_at hl 1 rfl) ?_
          refine lv_iconst (pc := 37) (v := (nI 0)) hx hb dX2_begin_37 (by decide) ?_
          refine za_iast (pc := 38) hx hb hK hP (zD_re hD rfl) hS 2 1 rfl rfl dX2_begin_38 hF (fun hF H locs hP hS => ?_)
          have hP : va_P D vwCl (wX2_begin cB cI cJ cO h0 h_laws h_ground h_seen g_kind g_hand g_size g_on g_away g_draws g_wallLooks v_count v_nightsPassed v_glances v_gained v_paintedOn v_laws_3 (upd v_ground_6 y1_5.toNatClampNeg (nI 0)) v_seen_7) H := hP
          refine lv_aload_n (pc := 39) hx hb dX2_begin_39 rfl (lv_at hl 0 rfl) ?_
          refine va_get (D := D) (pc := 40) (ci := 2) (v := .ref h_seen) (C := RX2) (T := TX2) (N := 15) hx hb hts nX2_begin_X2 hown hK hP 0 rfl rfl 2 (by decide) (hts _ kX2_begin_6) (fun _ h9 => h9) rfl dX2_begin_40 ?_
          refine lv_iload_n (pc := 43) hx hb dX2_begin_43 rfl (lv_at hl 1 rfl) ?_
          refine lv_iconst (pc := 44) (v := (nI 3)) hx hb dX2_begin_44 (by decide) ?_
          refine za_iast (pc := 45) hx hb hK hP (zD_re hD rfl) hS 3 1 rfl rfl dX2_begin_45 hF (fun hF H locs hP hS => ?_)
          have hP : va_P D vwCl (wX2_begin cB cI cJ cO h0 h_laws h_ground h_seen g_kind g_hand g_size g_on g_away g_draws g_wallLooks v_count v_nightsPassed v_glances v_gained v_paintedOn v_laws_3 (upd v_ground_6 y1_5.toNatClampNeg (nI 0)) (upd v_seen_7 y1_5.toNatClampNeg (nI 3))) H := hP
          refine lv_iinc (pc := 46) (v := (y1_5 + 1)) (lv' := [(1, .int (y1_5 + 1)), (0, .ref h0)]) hx hb dX2_begin_46 hl (k := 1) rfl rfl (by decide) rfl (fun ls hl => ?_)
          refine lv_goto (pc := 49) (tgt := 26) hx hb dX2_begin_49 (by decide) ?_
          exact ih (y1_5 + 1) (upd v_ground_6 y1_5.toNatClampNeg (nI 0)) (upd v_seen_7 y1_5.toNatClampNeg (nI 3)) hF H locs hP hS ls (lv_sub hl [1, 0] rfl)
    exact hL_26 zK (nI 0) v_ground v_seen hF H locs hP hS ls (lv_sub hl [1, 0] rfl)
  have hL_2 : ∀ (n : Nat) (y1_1 : Int32) (v_laws_2 : Nat → Int32) , fX2_begin_L2 k_4 n y1_1 v_laws_2 = some r → ∀ (H : Heap) (locs : List Loc), va_P D vwCl (wX2_begin cB cI cJ cO h0 h_laws h_ground h_seen g_kind g_hand g_size g_on g_away g_draws g_wallLooks v_count v_nightsPassed v_glances v_gained v_paintedOn v_laws_2 v_ground v_seen) H → va_S (zAs [h0, h_laws, h_ground, h_seen]) s.heap H locs → ∀ (ls : Array Slot), lv_has ls 2 [(0, .ref h0), (1, .int y1_1)] → W p l e rX2_begin s m args below meth c H locs 0 0 Q (F0 m 2 ls []) := by
    intro n
    induction n with
    | zero =>
      intro y1_1 v_laws_2 hF H locs hP hS ls hl
      exact z_no hF
    | succ n ih =>
      intro y1_1 v_laws_2 hF H locs hP hS ls hl
      rw [fX2_begin_L2] at hF
      refine lv_iload_n (pc := 2) hx hb dX2_begin_2 rfl (lv_at hl 1 rfl) ?_
      refine lv_iconst (pc := 3) (v := (nI 4)) hx hb dX2_begin_3 (by decide) ?_
      refine zb_icmp_ge (pc := 4) (tgt := 24) hx hb dX2_begin_4 (by decide) hF (fun c_4 hF => ?_) (fun c_4 hF => ?_)
      · exact kk_4 v_laws_2 hF H locs hP hS ls (lv_sub hl [0] rfl)
      · refine lv_aload_n (pc := 7) hx hb dX2_begin_7 rfl (lv_at hl 0 rfl) ?_
        refine va_get (D := D) (pc := 8) (ci := 2) (v := .ref h_laws) (C := RX2) (T := TX2) (N := 15) hx hb hts nX2_begin_X2 hown hK hP 0 rfl rfl 0 (by decide) (hts _ kX2_begin_7) (fun _ h9 => h9) rfl dX2_begin_8 ?_
        refine lv_iload_n (pc := 11) hx hb dX2_begin_11 rfl (lv_at hl 1 rfl) ?_
        obtain ⟨t_FIRST_LAWS, hz_FIRST_LAWS, ht_FIRST_LAWS⟩ := hZ.1
        refine va_getsN (pc := 12) hx hb hz_FIRST_LAWS hS hown (va_Nw.use rfl hE.2.2.2.2.1) (fun _ h9 => h9) dX2_begin_12 ?_
        refine lv_iload_n (pc := 15) hx hb dX2_begin_15 rfl (lv_at hl 1 rfl) ?_
        refine za_ti (pc := 16) hx hb ht_FIRST_LAWS hS dX2_begin_16 hF (fun hF => ?_)
        refine za_iast (pc := 17) hx hb hK hP (zD_re hD rfl) hS 1 1 rfl rfl dX2_begin_17 hF (fun hF H locs hP hS => ?_)
        have hP : va_P D vwCl (wX2_begin cB cI cJ cO h0 h_laws h_ground h_seen g_kind g_hand g_size g_on g_away g_draws g_wallLooks v_count v_nightsPassed v_glances v_gained v_paintedOn (upd v_laws_2 y1_1.toNatClampNeg (zf_first y1_1.toNatClampNeg)) v_ground v_seen) H := hP
        refine lv_iinc (pc := 18) (v := (y1_1 + 1)) (lv' := [(1, .int (y1_1 + 1)), (0, .ref h0)]) hx hb dX2_begin_18 hl (k := 1) rfl rfl (by decide) rfl (fun ls hl => ?_)
        refine lv_goto (pc := 21) (tgt := 2) hx hb dX2_begin_21 (by decide) ?_
        exact ih (y1_1 + 1) (upd v_laws_2 y1_1.toNatClampNeg (zf_first y1_1.toNatClampNeg)) hF H locs hP hS ls (lv_sub hl [1, 0] rfl)
  exact hL_2 zK (nI 0) v_laws hF H locs hP hS ls (lv_sub hl [1, 0] rfl)

abbrev rX2_become : Room := { frames := 1, cells := 0, slots := 0, locals := 60 }
abbrev wX2_become (cB cI cJ cO : ClassId) (h0 h_laws h_ground h_seen h_kind h_hand h_size h_on h_away h_a1 h_a1_laws h_a1_ground h_a1_seen h_a1_kind h_a1_hand h_a1_size h_a1_on h_a1_away : Nat) (g_wallLooks g_a1_gained g_a1_paintedOn g_a1_wallLooks : Value) (v_count : Int32) (v_nightsPassed : Int32) (v_glances : Int32) (v_draws : Int32) (v_gained : Int32) (v_paintedOn : Int32) (v_laws : Nat → Int32) (v_ground : Nat → Int32) (v_seen : Nat → Int32) (v_kind : Nat → Int32) (v_hand : Nat → Int32) (v_size : Nat → Int32) (v_on : Nat → Int32) (v_away : Nat → Int32) (v_a1_count : Int32) (v_a1_nightsPassed : Int32) (v_a1_glances : Int32) (v_a1_draws : Int32) (v_a1_laws : Nat → Int32) (v_a1_ground : Nat → Int32) (v_a1_seen : Nat → Int32) (v_a1_kind : Nat → Int32) (v_a1_hand : Nat → Int32) (v_a1_size : Nat → Int32) (v_a1_on : Nat → Int32) (v_a1_away : Nat → Int32) : va_W := [(h0, .inr (2, [.ref h_laws, .ref h_ground, .ref h_seen, .int v_count, .ref h_kind, .ref h_hand, .ref h_size, .ref h_on, .ref h_away, .int v_nightsPassed, .int v_glances, .int v_draws, .int v_gained, .int v_paintedOn, g_wallLooks])), (h_laws, .inl (cI, 4, .inl v_laws)), (h_ground, .inl (cI, 10, .inl v_ground)), (h_seen, .inl (cI, 10, .inl v_seen)), (h_kind, .inl (cI, 8, .inl v_kind)), (h_hand, .inl (cI, 8, .inl v_hand)), (h_size, .inl (cI, 8, .inl v_size)), (h_on, .inl (cI, 8, .inl v_on)), (h_away, .inl (cI, 8, .inl v_away)), (h_a1, .inr (2, [.ref h_a1_laws, .ref h_a1_ground, .ref h_a1_seen, .int v_a1_count, .ref h_a1_kind, .ref h_a1_hand, .ref h_a1_size, .ref h_a1_on, .ref h_a1_away, .int v_a1_nightsPassed, .int v_a1_glances, .int v_a1_draws, g_a1_gained, g_a1_paintedOn, g_a1_wallLooks])), (h_a1_laws, .inl (cI, 4, .inl v_a1_laws)), (h_a1_ground, .inl (cI, 10, .inl v_a1_ground)), (h_a1_seen, .inl (cI, 10, .inl v_a1_seen)), (h_a1_kind, .inl (cI, 8, .inl v_a1_kind)), (h_a1_hand, .inl (cI, 8, .inl v_a1_hand)), (h_a1_size, .inl (cI, 8, .inl v_a1_size)), (h_a1_on, .inl (cI, 8, .inl v_a1_on)), (h_a1_away, .inl (cI, 8, .inl v_a1_away))]
theorem nX2_become_X2 : ∀ w ∈ wsX20, w ∈ wsX2_become := by decide +kernel
theorem kX2_become_0 : Cond.fieldLink RX2 9 "PaintedWalls$Town" "laws" "[I" ∈ wsX2_become := by decide +kernel
theorem kX2_become_1 : Cond.methodLink RX2 64 arraycopyName ∈ wsX2_become := by decide +kernel
theorem kX2_become_2 : Cond.native arraycopyName ∈ wsX2_become := by decide +kernel
theorem kX2_become_3 : Cond.static arraycopyName ∈ wsX2_become := by decide +kernel
theorem kX2_become_4 : Cond.initialized "java/lang/System" ∈ wsX2_become := by decide +kernel
theorem kX2_become_5 : Cond.fieldLink RX2 15 "PaintedWalls$Town" "ground" "[I" ∈ wsX2_become := by decide +kernel
theorem kX2_become_6 : Cond.fieldLink RX2 18 "PaintedWalls$Town" "seen" "[I" ∈ wsX2_become := by decide +kernel
theorem kX2_become_7 : Cond.fieldLink RX2 49 "PaintedWalls$Town" "count" "I" ∈ wsX2_become := by decide +kernel
theorem kX2_become_8 : Cond.fieldLink RX2 21 "PaintedWalls$Town" "kind" "[I" ∈ wsX2_become := by decide +kernel
theorem kX2_become_9 : Cond.fieldLink RX2 24 "PaintedWalls$Town" "hand" "[I" ∈ wsX2_become := by decide +kernel
theorem kX2_become_10 : Cond.fieldLink RX2 27 "PaintedWalls$Town" "size" "[I" ∈ wsX2_become := by decide +kernel
theorem kX2_become_11 : Cond.fieldLink RX2 30 "PaintedWalls$Town" "on" "[I" ∈ wsX2_become := by decide +kernel
theorem kX2_become_12 : Cond.fieldLink RX2 33 "PaintedWalls$Town" "away" "[I" ∈ wsX2_become := by decide +kernel
theorem kX2_become_13 : Cond.fieldLink RX2 52 "PaintedWalls$Town" "nightsPassed" "I" ∈ wsX2_become := by decide +kernel
theorem kX2_become_14 : Cond.fieldLink RX2 55 "PaintedWalls$Town" "glances" "I" ∈ wsX2_become := by decide +kernel
theorem kX2_become_15 : Cond.fieldLink RX2 36 "PaintedWalls$Town" "draws" "I" ∈ wsX2_become := by decide +kernel
theorem kX2_become_16 : Cond.fieldLink RX2 58 "PaintedWalls$Town" "gained" "I" ∈ wsX2_become := by decide +kernel
theorem kX2_become_17 : Cond.fieldLink RX2 61 "PaintedWalls$Town" "paintedOn" "I" ∈ wsX2_become := by decide +kernel
set_option maxHeartbeats 4000000 in
set_option maxRecDepth 100000 in
theorem tX2_become {l : Launch} {D : va_G} {cB cI cJ cO : ClassId} (h0 h_laws h_ground h_seen h_kind h_hand h_size h_on h_away h_a1 h_a1_laws h_a1_ground h_a1_seen h_a1_kind h_a1_hand h_a1_size h_a1_on h_a1_away : Nat) (g_wallLooks g_a1_gained g_a1_paintedOn g_a1_wallLooks : Value) (v_count : Int32) (v_nightsPassed : Int32) (v_glances : Int32) (v_draws : Int32) (v_gained : Int32) (v_paintedOn : Int32) (v_laws : Nat → Int32) (v_ground : Nat → Int32) (v_seen : Nat → Int32) (v_kind : Nat → Int32) (v_hand : Nat → Int32) (v_size : Nat → Int32) (v_on : Nat → Int32) (v_away : Nat → Int32) (v_a1_count : Int32) (v_a1_nightsPassed : Int32) (v_a1_glances : Int32) (v_a1_draws : Int32) (v_a1_laws : Nat → Int32) (v_a1_ground : Nat → Int32) (v_a1_seen : Nat → Int32) (v_a1_kind : Nat → Int32) (v_a1_hand : Nat → Int32) (v_a1_size : Nat → Int32) (v_a1_on : Nat → Int32) (v_a1_away : Nat → Int32) (r : Int32 × Int32 × Int32 × Int32 × Int32 × Int32 × (Nat → Int32) × (Nat → Int32) × (Nat → Int32) × (Nat → Int32) × (Nat → Int32) × (Nat → Int32) × (Nat → Int32) × (Nat → Int32)) (hF : fX2_become v_count v_nightsPassed v_glances v_draws v_gained v_paintedOn v_laws v_ground v_seen v_kind v_hand v_size v_on v_away v_a1_count v_a1_nightsPassed v_a1_glances v_a1_draws v_a1_laws v_a1_ground v_a1_seen v_a1_kind v_a1_hand v_a1_size v_a1_on v_a1_away = some r) : Met l yX2_become wsX2_become rX2_become (zPre D cB cI cJ cO [.ref h0, .ref h_a1] (wX2_become cB cI cJ cO h0 h_laws h_ground h_seen h_kind h_hand h_size h_on h_away h_a1 h_a1_laws h_a1_ground h_a1_seen h_a1_kind h_a1_hand h_a1_size h_a1_on h_a1_away g_wallLooks g_a1_gained g_a1_paintedOn g_a1_wallLooks v_count v_nightsPassed v_glances v_draws v_gained v_paintedOn v_laws v_ground v_seen v_kind v_hand v_size v_on v_away v_a1_count v_a1_nightsPassed v_a1_glances v_a1_draws v_a1_laws v_a1_ground v_a1_seen v_a1_kind v_a1_hand v_a1_size v_a1_on v_a1_away)) (zPM none D (wX2_become cB cI cJ cO h0 h_laws h_ground h_seen h_kind h_hand h_size h_on h_away h_a1 h_a1_laws h_a1_ground h_a1_seen h_a1_kind h_a1_hand h_a1_size h_a1_on h_a1_away g_wallLooks g_a1_gained g_a1_paintedOn g_a1_wallLooks r.1 r.2.1 r.2.2.1 r.2.2.2.1 r.2.2.2.2.1 r.2.2.2.2.2.1 r.2.2.2.2.2.2.1 r.2.2.2.2.2.2.2.1 r.2.2.2.2.2.2.2.2.1 r.2.2.2.2.2.2.2.2.2.1 r.2.2.2.2.2.2.2.2.2.2.1 r.2.2.2.2.2.2.2.2.2.2.2.1 r.2.2.2.2.2.2.2.2.2.2.2.2.1 r.2.2.2.2.2.2.2.2.2.2.2.2.2 v_a1_count v_a1_nightsPassed v_a1_glances v_a1_draws v_a1_laws v_a1_ground v_a1_seen v_a1_kind v_a1_hand v_a1_size v_a1_on v_a1_away) (zAs [h0, h_laws, h_ground, h_seen, h_kind, h_hand, h_size, h_on, h_away, h_a1, h_a1_laws, h_a1_ground, h_a1_seen, h_a1_kind, h_a1_hand, h_a1_size, h_a1_on, h_a1_away])) 0 0 (zAs [h0, h_laws, h_ground, h_seen, h_kind, h_hand, h_size, h_on, h_away, h_a1, h_a1_laws, h_a1_ground, h_a1_seen, h_a1_kind, h_a1_hand, h_a1_size, h_a1_on, h_a1_away]) := by
  refine zMetM (cc := cX2_become) (maxL := 2) (ret := none) (lv := [(0, .ref h0), (1, .ref h_a1)]) rfl (by decide) rfl (Nat.le_of_ble_eq_true rfl) rfl ?_
  intro p e s m args below meth c ls Q H locs hQ hx hb hr hml hown hts hlocks hname hP hE hD hS hl
  have hown : s.vm.findClass RX2 = some m.cls := hown
  have hK := hE.1
  unfold fX2_become at hF
  refine lv_aload_n (pc := 0) hx hb dX2_become_0 rfl (lv_at hl 1 rfl) ?_
  refine va_get (D := D) (pc := 1) (ci := 2) (v := .ref h_a1_laws) (C := RX2) (T := TX2) (N := 15) hx hb hts nX2_become_X2 hown hK hP 9 rfl rfl 0 (by decide) (hts _ kX2_become_0) (fun _ h9 => h9) rfl dX2_become_1 ?_
  refine lv_iconst (pc := 4) (v := (nI 0)) hx hb dX2_become_4 (by decide) ?_
  refine lv_aload_n (pc := 5) hx hb dX2_become_5 rfl (lv_at hl 0 rfl) ?_
  refine va_get (D := D) (pc := 6) (ci := 2) (v := .ref h_laws) (C := RX2) (T := TX2) (N := 15) hx hb hts nX2_become_X2 hown hK hP 0 rfl rfl 0 (by decide) (hts _ kX2_become_0) (fun _ h9 => h9) rfl dX2_become_6 ?_
  refine lv_iconst (pc := 9) (v := (nI 0)) hx hb dX2_become_9 (by decide) ?_
  refine lv_iconst (pc := 10) (v := (nI 4)) hx hb dX2_become_10 (by decide) ?_
  refine va_copyi (pc := 11) hx hb (hml.trans hl.1.symm) hown (hts _ kX2_become_1) (hts _ kX2_become_2) (hts _ kX2_become_3) (hts _ kX2_become_4) hK hP (zD_re hD rfl) hS 10 1 1 1 rfl rfl rfl rfl rfl (by decide) (by decide) (by decide) (by decide) (by decide) (fun _ _ => rfl) (Nat.le_of_ble_eq_true rfl) (by decide) dX2_become_11 (fun H locs hP _ hS => ?_)
  have hP : va_P D vwCl (wX2_become cB cI cJ cO h0 h_laws h_ground h_seen h_kind h_hand h_size h_on h_away h_a1 h_a1_laws h_a1_ground h_a1_seen h_a1_kind h_a1_hand h_a1_size h_a1_on h_a1_away g_wallLooks g_a1_gained g_a1_paintedOn g_a1_wallLooks v_count v_nightsPassed v_glances v_draws v_gained v_paintedOn (va_cpy v_a1_laws v_laws (nI 0).toNatClampNeg (nI 0).toNatClampNeg (nI 4).toNatClampNeg) v_ground v_seen v_kind v_hand v_size v_on v_away v_a1_count v_a1_nightsPassed v_a1_glances v_a1_draws v_a1_laws v_a1_ground v_a1_seen v_a1_kind v_a1_hand v_a1_size v_a1_on v_a1_away) H := hP
  refine lv_aload_n (pc := 14) hx hb dX2_become_14 rfl (lv_at hl 1 rfl) ?_
  refine va_get (D := D) (pc := 15) (ci := 2) (v := .ref h_a1_ground) (C := RX2) (T := TX2) (N := 15) hx hb hts nX2_become_X2 hown hK hP 9 rfl rfl 1 (by decide) (hts _ kX2_become_5) (fun _ h9 => h9) rfl dX2_become_15 ?_
  refine lv_iconst (pc := 18) (v := (nI 0)) hx hb dX2_become_18 (by decide) ?_
  refine lv_aload_n (pc := 19) hx hb dX2_become_19 rfl (lv_at hl 0 rfl) ?_
  refine va_get (D := D) (pc := 20) (ci := 2) (v := .ref h_ground) (C := RX2) (T := TX2) (N := 15) hx hb hts nX2_become_X2 hown hK hP 0 rfl rfl 1 (by decide) (hts _ kX2_become_5) (fun _ h9 => h9) rfl dX2_become_20 ?_
  refine lv_iconst (pc := 23) (v := (nI 0)) hx hb dX2_become_23 (by decide) ?_
  refine lv_bipush (pc := 24) (v := (nI 10)) hx hb dX2_become_24 (by decide) ?_
  refine va_copyi (pc := 26) hx hb (hml.trans hl.1.symm) hown (hts _ kX2_become_1) (hts _ kX2_become_2) (hts _ kX2_become_3) (hts _ kX2_become_4) hK hP (zD_re hD rfl) hS 11 2 1 1 rfl rfl rfl rfl rfl (by decide) (by decide) (by decide) (by decide) (by decide) (fun _ _ => rfl) (Nat.le_of_ble_eq_true rfl) (by decide) dX2_become_26 (fun H locs hP _ hS => ?_)
  have hP : va_P D vwCl (wX2_become cB cI cJ cO h0 h_laws h_ground h_seen h_kind h_hand h_size h_on h_away h_a1 h_a1_laws h_a1_ground h_a1_seen h_a1_kind h_a1_hand h_a1_size h_a1_on h_a1_away g_wallLooks g_a1_gained g_a1_paintedOn g_a1_wallLooks v_count v_nightsPassed v_glances v_draws v_gained v_paintedOn (va_cpy v_a1_laws v_laws (nI 0).toNatClampNeg (nI 0).toNatClampNeg (nI 4).toNatClampNeg) (va_cpy v_a1_ground v_ground (nI 0).toNatClampNeg (nI 0).toNatClampNeg (nI 10).toNatClampNeg) v_seen v_kind v_hand v_size v_on v_away v_a1_count v_a1_nightsPassed v_a1_glances v_a1_draws v_a1_laws v_a1_ground v_a1_seen v_a1_kind v_a1_hand v_a1_size v_a1_on v_a1_away) H := hP
  refine lv_aload_n (pc := 29) hx hb dX2_become_29 rfl (lv_at hl 1 rfl) ?_
  refine va_get (D := D) (pc := 30) (ci := 2) (v := .ref h_a1_seen) (C := RX2) (T := TX2) (N := 15) hx hb hts nX2_become_X2 hown hK hP 9 rfl rfl 2 (by decide) (hts _ kX2_become_6) (fun _ h9 => h9) rfl dX2_become_30 ?_
  refine lv_iconst (pc := 33) (v := (nI 0)) hx hb dX2_become_33 (by decide) ?_
  refine lv_aload_n (pc := 34) hx hb dX2_become_34 rfl (lv_at hl 0 rfl) ?_
  refine va_get (D := D) (pc := 35) (ci := 2) (v := .ref h_seen) (C := RX2) (T := TX2) (N := 15) hx hb hts nX2_become_X2 hown hK hP 0 rfl rfl 2 (by decide) (hts _ kX2_become_6) (fun _ h9 => h9) rfl dX2_become_35 ?_
  refine lv_iconst (pc := 38) (v := (nI 0)) hx hb dX2_become_38 (by decide) ?_
  refine lv_bipush (pc := 39) (v := (nI 10)) hx hb dX2_become_39 (by decide) ?_
  refine va_copyi (pc := 41) hx hb (hml.trans hl.1.symm) hown (hts _ kX2_become_1) (hts _ kX2_become_2) (hts _ kX2_become_3) (hts _ kX2_become_4) hK hP (zD_re hD rfl) hS 12 3 1 1 rfl rfl rfl rfl rfl (by decide) (by decide) (by decide) (by decide) (by decide) (fun _ _ => rfl) (Nat.le_of_ble_eq_true rfl) (by decide) dX2_become_41 (fun H locs hP _ hS => ?_)
  have hP : va_P D vwCl (wX2_become cB cI cJ cO h0 h_laws h_ground h_seen h_kind h_hand h_size h_on h_away h_a1 h_a1_laws h_a1_ground h_a1_seen h_a1_kind h_a1_hand h_a1_size h_a1_on h_a1_away g_wallLooks g_a1_gained g_a1_paintedOn g_a1_wallLooks v_count v_nightsPassed v_glances v_draws v_gained v_paintedOn (va_cpy v_a1_laws v_laws (nI 0).toNatClampNeg (nI 0).toNatClampNeg (nI 4).toNatClampNeg) (va_cpy v_a1_ground v_ground (nI 0).toNatClampNeg (nI 0).toNatClampNeg (nI 10).toNatClampNeg) (va_cpy v_a1_seen v_seen (nI 0).toNatClampNeg (nI 0).toNatClampNeg (nI 10).toNatClampNeg) v_kind v_hand v_size v_on v_away v_a1_count v_a1_nightsPassed v_a1_glances v_a1_draws v_a1_laws v_a1_ground v_a1_seen v_a1_kind v_a1_hand v_a1_size v_a1_on v_a1_away) H := hP
  refine lv_aload_n (pc := 44) hx hb dX2_become_44 rfl (lv_at hl 0 rfl) ?_
  refine lv_aload_n (pc := 45) hx hb dX2_become_45 rfl (lv_at hl 1 rfl) ?_
  refine va_get (D := D) (pc := 46) (ci := 2) (v := .int v_a1_count) (C := RX2) (T := TX2) (N := 15) hx hb hts nX2_become_X2 hown hK hP 9 rfl rfl 3 (by decide) (hts _ kX2_become_7) (fun _ h9 => h9) rfl dX2_become_46 ?_
  refine va_put (D := D) (pc := 49) (ci := 2) (v := .int v_a1_count) (ty := .int) (C := RX2) (T := TX2) (N := 15) hx hb hts nX2_become_X2 tyX2 tyX2_ok nmX2 hown hK hP (zD_re hD rfl) hS 0 rfl rfl 3 (by decide) (hts _ kX2_become_7) (fun _ h9 => h9) rfl (tyX2_ok 3 (by decide)) rfl rfl (Nat.le_of_ble_eq_true rfl) dX2_become_49 (fun H locs hP _ hS => ?_)
  have hP : va_P D vwCl (wX2_become cB cI cJ cO h0 h_laws h_ground h_seen h_kind h_hand h_size h_on h_away h_a1 h_a1_laws h_a1_ground h_a1_seen h_a1_kind h_a1_hand h_a1_size h_a1_on h_a1_away g_wallLooks g_a1_gained g_a1_paintedOn g_a1_wallLooks v_a1_count v_nightsPassed v_glances v_draws v_gained v_paintedOn (va_cpy v_a1_laws v_laws (nI 0).toNatClampNeg (nI 0).toNatClampNeg (nI 4).toNatClampNeg) (va_cpy v_a1_ground v_ground (nI 0).toNatClampNeg (nI 0).toNatClampNeg (nI 10).toNatClampNeg) (va_cpy v_a1_seen v_seen (nI 0).toNatClampNeg (nI 0).toNatClampNeg (nI 10).toNatClampNeg) v_kind v_hand v_size v_on v_away v_a1_count v_a1_nightsPassed v_a1_glances v_a1_draws v_a1_laws v_a1_ground v_a1_seen v_a1_kind v_a1_hand v_a1_size v_a1_on v_a1_away) H := hP
  refine lv_aload_n (pc := 52) hx hb dX2_become_52 rfl (lv_at hl 1 rfl) ?_
  refine va_get (D := D) (pc := 53) (ci := 2) (v := .ref h_a1_kind) (C := RX2) (T := TX2) (N := 15) hx hb hts nX2_become_X2 hown hK hP 9 rfl rfl 4 (by decide) (hts _ kX2_become_8) (fun _ h9 => h9) rfl dX2_become_53 ?_
  refine lv_iconst (pc := 56) (v := (nI 0)) hx hb dX2_become_56 (by decide) ?_
  refine lv_aload_n (pc := 57) hx hb dX2_become_57 rfl (lv_at hl 0 rfl) ?_
  refine va_get (D := D) (pc := 58) (ci := 2) (v := .ref h_kind) (C := RX2) (T := TX2) (N := 15) hx hb hts nX2_become_X2 hown hK hP 0 rfl rfl 4 (by decide) (hts _ kX2_become_8) (fun _ h9 => h9) rfl dX2_become_58 ?_
  refine lv_iconst (pc := 61) (v := (nI 0)) hx hb dX2_become_61 (by decide) ?_
  refine lv_bipush (pc := 62) (v := (nI 8)) hx hb dX2_become_62 (by decide) ?_
  refine va_copyi (pc := 64) hx hb (hml.trans hl.1.symm) hown (hts _ kX2_become_1) (hts _ kX2_become_2) (hts _ kX2_become_3) (hts _ kX2_become_4) hK hP (zD_re hD rfl) hS 13 4 1 1 rfl rfl rfl rfl rfl (by decide) (by decide) (by decide) (by decide) (by decide) (fun _ _ => rfl) (Nat.le_of_ble_eq_true rfl) (by decide) dX2_become_64 (fun H locs hP _ hS => ?_)
  have hP : va_P D vwCl (wX2_become cB cI cJ cO h0 h_laws h_ground h_seen h_kind h_hand h_size h_on h_away h_a1 h_a1_laws h_a1_ground h_a1_seen h_a1_kind h_a1_hand h_a1_size h_a1_on h_a1_away g_wallLooks g_a1_gained g_a1_paintedOn g_a1_wallLooks v_a1_count v_nightsPassed v_glances v_draws v_gained v_paintedOn (va_cpy v_a1_laws v_laws (nI 0).toNatClampNeg (nI 0).toNatClampNeg (nI 4).toNatClampNeg) (va_cpy v_a1_ground v_ground (nI 0).toNatClampNeg (nI 0).toNatClampNeg (nI 10).toNatClampNeg) (va_cpy v_a1_seen v_seen (nI 0).toNatClampNeg (nI 0).toNatClampNeg (nI 10).toNatClampNeg) (va_cpy v_a1_kind v_kind (nI 0).toNatClampNeg (nI 0).toNatClampNeg (nI 8).toNatClampNeg) v_hand v_size v_on v_away v_a1_count v_a1_nightsPassed v_a1_glances v_a1_draws v_a1_laws v_a1_ground v_a1_seen v_a1_kind v_a1_hand v_a1_size v_a1_on v_a1_away) H := hP
  refine lv_aload_n (pc := 67) hx hb dX2_become_67 rfl (lv_at hl 1 rfl) ?_
  refine va_get (D := D) (pc := 68) (ci := 2) (v := .ref h_a1_hand) (C := RX2) (T := TX2) (N := 15) hx hb hts nX2_become_X2 hown hK hP 9 rfl rfl 5 (by decide) (hts _ kX2_become_9) (fun _ h9 => h9) rfl dX2_become_68 ?_
  refine lv_iconst (pc := 71) (v := (nI 0)) hx hb dX2_become_71 (by decide) ?_
  refine lv_aload_n (pc := 72) hx hb dX2_become_72 rfl (lv_at hl 0 rfl) ?_
  refine va_get (D := D) (pc := 73) (ci := 2) (v := .ref h_hand) (C := RX2) (T := TX2) (N := 15) hx hb hts nX2_become_X2 hown hK hP 0 rfl rfl 5 (by decide) (hts _ kX2_become_9) (fun _ h9 => h9) rfl dX2_become_73 ?_
  refine lv_iconst (pc := 76) (v := (nI 0)) hx hb dX2_become_76 (by decide) ?_
  refine lv_bipush (pc := 77) (v := (nI 8)) hx hb dX2_become_77 (by decide) ?_
  refine va_copyi (pc := 79) hx hb (hml.trans hl.1.symm) hown (hts _ kX2_become_1) (hts _ kX2_become_2) (hts _ kX2_become_3) (hts _ kX2_become_4) hK hP (zD_re hD rfl) hS 14 5 1 1 rfl rfl rfl rfl rfl (by decide) (by decide) (by decide) (by decide) (by decide) (fun _ _ => rfl) (Nat.le_of_ble_eq_true rfl) (by decide) dX2_become_79 (fun H locs hP _ hS => ?_)
  have hP : va_P D vwCl (wX2_become cB cI cJ cO h0 h_laws h_ground h_seen h_kind h_hand h_size h_on h_away h_a1 h_a1_laws h_a1_ground h_a1_seen h_a1_kind h_a1_hand h_a1_size h_a1_on h_a1_away g_wallLooks g_a1_gained g_a1_paintedOn g_a1_wallLooks v_a1_count v_nightsPassed v_glances v_draws v_gained v_paintedOn (va_cpy v_a1_laws v_laws (nI 0).toNatClampNeg (nI 0).toNatClampNeg (nI 4).toNatClampNeg) (va_cpy v_a1_ground v_ground (nI 0).toNatClampNeg (nI 0).toNatClampNeg (nI 10).toNatClampNeg) (va_cpy v_a1_seen v_seen (nI 0).toNatClampNeg (nI 0).toNatClampNeg (nI 10).toNatClampNeg) (va_cpy v_a1_kind v_kind (nI 0).toNatClampNeg (nI 0).toNatClampNeg (nI 8).toNatClampNeg) (va_cpy v_a1_hand v_hand (nI 0).toNatClampNeg (nI 0).toNatClampNeg (nI 8).toNatClampNeg) v_size v_on v_away v_a1_count v_a1_nightsPassed v_a1_glances v_a1_draws v_a1_laws v_a1_ground v_a1_seen v_a1_kind v_a1_hand v_a1_size v_a1_on v_a1_away) H := hP
  refine lv_aload_n (pc := 82) hx hb dX2_become_82 rfl (lv_at hl 1 rfl) ?_
  refine va_get (D := D) (pc := 83) (ci := 2) (v := .ref h_a1_size) (C := RX2) (T := TX2) (N := 15) hx hb hts nX2_become_X2 hown hK hP 9 rfl rfl 6 (by decide) (hts _ kX2_become_10) (fun _ h9 => h9) rfl dX2_become_83 ?_
  refine lv_iconst (pc := 86) (v := (nI 0)) hx hb dX2_become_86 (by decide) ?_
  refine lv_aload_n (pc := 87) hx hb dX2_become_87 rfl (lv_at hl 0 rfl) ?_
  refine va_get (D := D) (pc := 88) (ci := 2) (v := .ref h_size) (C := RX2) (T := TX2) (N := 15) hx hb hts nX2_become_X2 hown hK hP 0 rfl rfl 6 (by decide) (hts _ kX2_become_10) (fun _ h9 => h9) rfl dX2_become_88 ?_
  refine lv_iconst (pc := 91) (v := (nI 0)) hx hb dX2_become_91 (by decide) ?_
  refine lv_bipush (pc := 92) (v := (nI 8)) hx hb dX2_become_92 (by decide) ?_
  refine va_copyi (pc := 94) hx hb (hml.trans hl.1.symm) hown (hts _ kX2_become_1) (hts _ kX2_become_2) (hts _ kX2_become_3) (hts _ kX2_become_4) hK hP (zD_re hD rfl) hS 15 6 1 1 rfl rfl rfl rfl rfl (by decide) (by decide) (by decide) (by decide) (by decide) (fun _ _ => rfl) (Nat.le_of_ble_eq_true rfl) (by decide) dX2_become_94 (fun H locs hP _ hS => ?_)
  have hP : va_P D vwCl (wX2_become cB cI cJ cO h0 h_laws h_ground h_seen h_kind h_hand h_size h_on h_away h_a1 h_a1_laws h_a1_ground h_a1_seen h_a1_kind h_a1_hand h_a1_size h_a1_on h_a1_away g_wallLooks g_a1_gained g_a1_paintedOn g_a1_wallLooks v_a1_count v_nightsPassed v_glances v_draws v_gained v_paintedOn (va_cpy v_a1_laws v_laws (nI 0).toNatClampNeg (nI 0).toNatClampNeg (nI 4).toNatClampNeg) (va_cpy v_a1_ground v_ground (nI 0).toNatClampNeg (nI 0).toNatClampNeg (nI 10).toNatClampNeg) (va_cpy v_a1_seen v_seen (nI 0).toNatClampNeg (nI 0).toNatClampNeg (nI 10).toNatClampNeg) (va_cpy v_a1_kind v_kind (nI 0).toNatClampNeg (nI 0).toNatClampNeg (nI 8).toNatClampNeg) (va_cpy v_a1_hand v_hand (nI 0).toNatClampNeg (nI 0).toNatClampNeg (nI 8).toNatClampNeg) (va_cpy v_a1_size v_size (nI 0).toNatClampNeg (nI 0).toNatClampNeg (nI 8).toNatClampNeg) v_on v_away v_a1_count v_a1_nightsPassed v_a1_glances v_a1_draws v_a1_laws v_a1_ground v_a1_seen v_a1_kind v_a1_hand v_a1_size v_a1_on v_a1_away) H := hP
  refine lv_aload_n (pc := 97) hx hb dX2_become_97 rfl (lv_at hl 1 rfl) ?_
  refine va_get (D := D) (pc := 98) (ci := 2) (v := .ref h_a1_on) (C := RX2) (T := TX2) (N := 15) hx hb hts nX2_become_X2 hown hK hP 9 rfl rfl 7 (by decide) (hts _ kX2_become_11) (fun _ h9 => h9) rfl dX2_become_98 ?_
  refine lv_iconst (pc := 101) (v := (nI 0)) hx hb dX2_become_101 (by decide) ?_
  refine lv_aload_n (pc := 102) hx hb dX2_become_102 rfl (lv_at hl 0 rfl) ?_
  refine va_get (D := D) (pc := 103) (ci := 2) (v := .ref h_on) (C := RX2) (T := TX2) (N := 15) hx hb hts nX2_become_X2 hown hK hP 0 rfl rfl 7 (by decide) (hts _ kX2_become_11) (fun _ h9 => h9) rfl dX2_become_103 ?_
  refine lv_iconst (pc := 106) (v := (nI 0)) hx hb dX2_become_106 (by decide) ?_
  refine lv_bipush (pc := 107) (v := (nI 8)) hx hb dX2_become_107 (by decide) ?_
  refine va_copyi (pc := 109) hx hb (hml.trans hl.1.symm) hown (hts _ kX2_become_1) (hts _ kX2_become_2) (hts _ kX2_become_3) (hts _ kX2_become_4) hK hP (zD_re hD rfl) hS 16 7 1 1 rfl rfl rfl rfl rfl (by decide) (by decide) (by decide) (by decide) (by decide) (fun _ _ => rfl) (Nat.le_of_ble_eq_true rfl) (by decide) dX2_become_109 (fun H locs hP _ hS => ?_)
  have hP : va_P D vwCl (wX2_become cB cI cJ cO h0 h_laws h_ground h_seen h_kind h_hand h_size h_on h_away h_a1 h_a1_laws h_a1_ground h_a1_seen h_a1_kind h_a1_hand h_a1_size h_a1_on h_a1_away g_wallLooks g_a1_gained g_a1_paintedOn g_a1_wallLooks v_a1_count v_nightsPassed v_glances v_draws v_gained v_paintedOn (va_cpy v_a1_laws v_laws (nI 0).toNatClampNeg (nI 0).toNatClampNeg (nI 4).toNatClampNeg) (va_cpy v_a1_ground v_ground (nI 0).toNatClampNeg (nI 0).toNatClampNeg (nI 10).toNatClampNeg) (va_cpy v_a1_seen v_seen (nI 0).toNatClampNeg (nI 0).toNatClampNeg (nI 10).toNatClampNeg) (va_cpy v_a1_kind v_kind (nI 0).toNatClampNeg (nI 0).toNatClampNeg (nI 8).toNatClampNeg) (va_cpy v_a1_hand v_hand (nI 0).toNatClampNeg (nI 0).toNatClampNeg (nI 8).toNatClampNeg) (va_cpy v_a1_size v_size (nI 0).toNatClampNeg (nI 0).toNatClampNeg (nI 8).toNatClampNeg) (va_cpy v_a1_on v_on (nI 0).toNatClampNeg (nI 0).toNatClampNeg (nI 8).toNatClampNeg) v_away v_a1_count v_a1_nightsPassed v_a1_glances v_a1_draws v_a1_laws v_a1_ground v_a1_seen v_a1_kind v_a1_hand v_a1_size v_a1_on v_a1_away) H := hP
  refine lv_aload_n (pc := 112) hx hb dX2_become_112 rfl (lv_at hl 1 rfl) ?_
  refine va_get (D := D) (pc := 113) (ci := 2) (v := .ref h_a1_away) (C := RX2) (T := TX2) (N := 15) hx hb hts nX2_become_X2 hown hK hP 9 rfl rfl 8 (by decide) (hts _ kX2_become_12) (fun _ h9 => h9) rfl dX2_become_113 ?_
  refine lv_iconst (pc := 116) (v := (nI 0)) hx hb dX2_become_116 (by decide) ?_
  refine lv_aload_n (pc := 117) hx hb dX2_become_117 rfl (lv_at hl 0 rfl) ?_
  refine va_get (D := D) (pc := 118) (ci := 2) (v := .ref h_away) (C := RX2) (T := TX2) (N := 15) hx hb hts nX2_become_X2 hown hK hP 0 rfl rfl 8 (by decide) (hts _ kX2_become_12) (fun _ h9 => h9) rfl dX2_become_118 ?_
  refine lv_iconst (pc := 121) (v := (nI 0)) hx hb dX2_become_121 (by decide) ?_
  refine lv_bipush (pc := 122) (v := (nI 8)) hx hb dX2_become_122 (by decide) ?_
  refine va_copyi (pc := 124) hx hb (hml.trans hl.1.symm) hown (hts _ kX2_become_1) (hts _ kX2_become_2) (hts _ kX2_become_3) (hts _ kX2_become_4) hK hP (zD_re hD rfl) hS 17 8 1 1 rfl rfl rfl rfl rfl (by decide) (by decide) (by decide) (by decide) (by decide) (fun _ _ => rfl) (Nat.le_of_ble_eq_true rfl) (by decide) dX2_become_124 (fun H locs hP _ hS => ?_)
  have hP : va_P D vwCl (wX2_become cB cI cJ cO h0 h_laws h_ground h_seen h_kind h_hand h_size h_on h_away h_a1 h_a1_laws h_a1_ground h_a1_seen h_a1_kind h_a1_hand h_a1_size h_a1_on h_a1_away g_wallLooks g_a1_gained g_a1_paintedOn g_a1_wallLooks v_a1_count v_nightsPassed v_glances v_draws v_gained v_paintedOn (va_cpy v_a1_laws v_laws (nI 0).toNatClampNeg (nI 0).toNatClampNeg (nI 4).toNatClampNeg) (va_cpy v_a1_ground v_ground (nI 0).toNatClampNeg (nI 0).toNatClampNeg (nI 10).toNatClampNeg) (va_cpy v_a1_seen v_seen (nI 0).toNatClampNeg (nI 0).toNatClampNeg (nI 10).toNatClampNeg) (va_cpy v_a1_kind v_kind (nI 0).toNatClampNeg (nI 0).toNatClampNeg (nI 8).toNatClampNeg) (va_cpy v_a1_hand v_hand (nI 0).toNatClampNeg (nI 0).toNatClampNeg (nI 8).toNatClampNeg) (va_cpy v_a1_size v_size (nI 0).toNatClampNeg (nI 0).toNatClampNeg (nI 8).toNatClampNeg) (va_cpy v_a1_on v_on (nI 0).toNatClampNeg (nI 0).toNatClampNeg (nI 8).toNatClampNeg) (va_cpy v_a1_away v_away (nI 0).toNatClampNeg (nI 0).toNatClampNeg (nI 8).toNatClampNeg) v_a1_count v_a1_nightsPassed v_a1_glances v_a1_draws v_a1_laws v_a1_ground v_a1_seen v_a1_kind v_a1_hand v_a1_size v_a1_on v_a1_away) H := hP
  refine lv_aload_n (pc := 127) hx hb dX2_become_127 rfl (lv_at hl 0 rfl) ?_
  refine lv_aload_n (pc := 128) hx hb dX2_become_128 rfl (lv_at hl 1 rfl) ?_
  refine va_get (D := D) (pc := 129) (ci := 2) (v := .int v_a1_nightsPassed) (C := RX2) (T := TX2) (N := 15) hx hb hts nX2_become_X2 hown hK hP 9 rfl rfl 9 (by decide) (hts _ kX2_become_13) (fun _ h9 => h9) rfl dX2_become_129 ?_
  refine va_put (D := D) (pc := 132) (ci := 2) (v := .int v_a1_nightsPassed) (ty := .int) (C := RX2) (T := TX2) (N := 15) hx hb hts nX2_become_X2 tyX2 tyX2_ok nmX2 hown hK hP (zD_re hD rfl) hS 0 rfl rfl 9 (by decide) (hts _ kX2_become_13) (fun _ h9 => h9) rfl (tyX2_ok 9 (by decide)) rfl rfl (Nat.le_of_ble_eq_true rfl) dX2_become_132 (fun H locs hP _ hS => ?_)
  have hP : va_P D vwCl (wX2_become cB cI cJ cO h0 h_laws h_ground h_seen h_kind h_hand h_size h_on h_away h_a1 h_a1_laws h_a1_ground h_a1_seen h_a1_kind h_a1_hand h_a1_size h_a1_on h_a1_away g_wallLooks g_a1_gained g_a1_paintedOn g_a1_wallLooks v_a1_count v_a1_nightsPassed v_glances v_draws v_gained v_paintedOn (va_cpy v_a1_laws v_laws (nI 0).toNatClampNeg (nI 0).toNatClampNeg (nI 4).toNatClampNeg) (va_cpy v_a1_ground v_ground (nI 0).toNatClampNeg (nI 0).toNatClampNeg (nI 10).toNatClampNeg) (va_cpy v_a1_seen v_seen (nI 0).toNatClampNeg (nI 0).toNatClampNeg (nI 10).toNatClampNeg) (va_cpy v_a1_kind v_kind (nI 0).toNatClampNeg (nI 0).toNatClampNeg (nI 8).toNatClampNeg) (va_cpy v_a1_hand v_hand (nI 0).toNatClampNeg (nI 0).toNatClampNeg (nI 8).toNatClampNeg) (va_cpy v_a1_size v_size (nI 0).toNatClampNeg (nI 0).toNatClampNeg (nI 8).toNatClampNeg) (va_cpy v_a1_on v_on (nI 0).toNatClampNeg (nI 0).toNatClampNeg (nI 8).toNatClampNeg) (va_cpy v_a1_away v_away (nI 0).toNatClampNeg (nI 0).toNatClampNeg (nI 8).toNatClampNeg) v_a1_count v_a1_nightsPassed v_a1_glances v_a1_draws v_a1_laws v_a1_ground v_a1_seen v_a1_kind v_a1_hand v_a1_size v_a1_on v_a1_away) H := hP
  refine lv_aload_n (pc := 135) hx hb dX2_become_135 rfl (lv_at hl 0 rfl) ?_
  refine lv_aload_n (pc := 136) hx hb dX2_become_136 rfl (lv_at hl 1 rfl) ?_
  refine va_get (D := D) (pc := 137) (ci := 2) (v := .int v_a1_glances) (C := RX2) (T := TX2) (N := 15) hx hb hts nX2_become_X2 hown hK hP 9 rfl rfl 10 (by decide) (hts _ kX2_become_14) (fun _ h9 => h9) rfl dX2_become_137 ?_
  refine va_put (D := D) (pc := 140) (ci := 2) (v := .int v_a1_glances) (ty := .int) (C := RX2) (T := TX2) (N := 15) hx hb hts nX2_become_X2 tyX2 tyX2_ok nmX2 hown hK hP (zD_re hD rfl) hS 0 rfl rfl 10 (by decide) (hts _ kX2_become_14) (fun _ h9 => h9) rfl (tyX2_ok 10 (by decide)) rfl rfl (Nat.le_of_ble_eq_true rfl) dX2_become_140 (fun H locs hP _ hS => ?_)
  have hP : va_P D vwCl (wX2_become cB cI cJ cO h0 h_laws h_ground h_seen h_kind h_hand h_size h_on h_away h_a1 h_a1_laws h_a1_ground h_a1_seen h_a1_kind h_a1_hand h_a1_size h_a1_on h_a1_away g_wallLooks g_a1_gained g_a1_paintedOn g_a1_wallLooks v_a1_count v_a1_nightsPassed v_a1_glances v_draws v_gained v_paintedOn (va_cpy v_a1_laws v_laws (nI 0).toNatClampNeg (nI 0).toNatClampNeg (nI 4).toNatClampNeg) (va_cpy v_a1_ground v_ground (nI 0).toNatClampNeg (nI 0).toNatClampNeg (nI 10).toNatClampNeg) (va_cpy v_a1_seen v_seen (nI 0).toNatClampNeg (nI 0).toNatClampNeg (nI 10).toNatClampNeg) (va_cpy v_a1_kind v_kind (nI 0).toNatClampNeg (nI 0).toNatClampNeg (nI 8).toNatClampNeg) (va_cpy v_a1_hand v_hand (nI 0).toNatClampNeg (nI 0).toNatClampNeg (nI 8).toNatClampNeg) (va_cpy v_a1_size v_size (nI 0).toNatClampNeg (nI 0).toNatClampNeg (nI 8).toNatClampNeg) (va_cpy v_a1_on v_on (nI 0).toNatClampNeg (nI 0).toNatClampNeg (nI 8).toNatClampNeg) (va_cpy v_a1_away v_away (nI 0).toNatClampNeg (nI 0).toNatClampNeg (nI 8).toNatClampNeg) v_a1_count v_a1_nightsPassed v_a1_glances v_a1_draws v_a1_laws v_a1_ground v_a1_seen v_a1_kind v_a1_hand v_a1_size v_a1_on v_a1_away) H := hP
  refine lv_aload_n (pc := 143) hx hb dX2_become_143 rfl (lv_at hl 0 rfl) ?_
  refine lv_aload_n (pc := 144) hx hb dX2_become_144 rfl (lv_at hl 1 rfl) ?_
  refine va_get (D := D) (pc := 145) (ci := 2) (v := .int v_a1_draws) (C := RX2) (T := TX2) (N := 15) hx hb hts nX2_become_X2 hown hK hP 9 rfl rfl 11 (by decide) (hts _ kX2_become_15) (fun _ h9 => h9) rfl dX2_become_145 ?_
  refine va_put (D := D) (pc := 148) (ci := 2) (v := .int v_a1_draws) (ty := .int) (C := RX2) (T := TX2) (N := 15) hx hb hts nX2_become_X2 tyX2 tyX2_ok nmX2 hown hK hP (zD_re hD rfl) hS 0 rfl rfl 11 (by decide) (hts _ kX2_become_15) (fun _ h9 => h9) rfl (tyX2_ok 11 (by decide)) rfl rfl (Nat.le_of_ble_eq_true rfl) dX2_become_148 (fun H locs hP _ hS => ?_)
  have hP : va_P D vwCl (wX2_become cB cI cJ cO h0 h_laws h_ground h_seen h_kind h_hand h_size h_on h_away h_a1 h_a1_laws h_a1_ground h_a1_seen h_a1_kind h_a1_hand h_a1_size h_a1_on h_a1_away g_wallLooks g_a1_gained g_a1_paintedOn g_a1_wallLooks v_a1_count v_a1_nightsPassed v_a1_glances v_a1_draws v_gained v_paintedOn (va_cpy v_a1_laws v_laws (nI 0).toNatClampNeg (nI 0).toNatClampNeg (nI 4).toNatClampNeg) (va_cpy v_a1_ground v_ground (nI 0).toNatClampNeg (nI 0).toNatClampNeg (nI 10).toNatClampNeg) (va_cpy v_a1_seen v_seen (nI 0).toNatClampNeg (nI 0).toNatClampNeg (nI 10).toNatClampNeg) (va_cpy v_a1_kind v_kind (nI 0).toNatClampNeg (nI 0).toNatClampNeg (nI 8).toNatClampNeg) (va_cpy v_a1_hand v_hand (nI 0).toNatClampNeg (nI 0).toNatClampNeg (nI 8).toNatClampNeg) (va_cpy v_a1_size v_size (nI 0).toNatClampNeg (nI 0).toNatClampNeg (nI 8).toNatClampNeg) (va_cpy v_a1_on v_on (nI 0).toNatClampNeg (nI 0).toNatClampNeg (nI 8).toNatClampNeg) (va_cpy v_a1_away v_away (nI 0).toNatClampNeg (nI 0).toNatClampNeg (nI 8).toNatClampNeg) v_a1_count v_a1_nightsPassed v_a1_glances v_a1_draws v_a1_laws v_a1_ground v_a1_seen v_a1_kind v_a1_hand v_a1_size v_a1_on v_a1_away) H := hP
  refine lv_aload_n (pc := 151) hx hb dX2_become_151 rfl (lv_at hl 0 rfl) ?_
  refine lv_iconst (pc := 152) (v := (nI 0)) hx hb dX2_become_152 (by decide) ?_
  refine va_put (D := D) (pc := 153) (ci := 2) (v := .int (nI 0)) (ty := .int) (C := RX2) (T := TX2) (N := 15) hx hb hts nX2_become_X2 tyX2 tyX2_ok nmX2 hown hK hP (zD_re hD rfl) hS 0 rfl rfl 12 (by decide) (hts _ kX2_become_16) (fun _ h9 => h9) rfl (tyX2_ok 12 (by decide)) rfl rfl (Nat.le_of_ble_eq_true rfl) dX2_become_153 (fun H locs hP _ hS => ?_)
  have hP : va_P D vwCl (wX2_become cB cI cJ cO h0 h_laws h_ground h_seen h_kind h_hand h_size h_on h_away h_a1 h_a1_laws h_a1_ground h_a1_seen h_a1_kind h_a1_hand h_a1_size h_a1_on h_a1_away g_wallLooks g_a1_gained g_a1_paintedOn g_a1_wallLooks v_a1_count v_a1_nightsPassed v_a1_glances v_a1_draws (nI 0) v_paintedOn (va_cpy v_a1_laws v_laws (nI 0).toNatClampNeg (nI 0).toNatClampNeg (nI 4).toNatClampNeg) (va_cpy v_a1_ground v_ground (nI 0).toNatClampNeg (nI 0).toNatClampNeg (nI 10).toNatClampNeg) (va_cpy v_a1_seen v_seen (nI 0).toNatClampNeg (nI 0).toNatClampNeg (nI 10).toNatClampNeg) (va_cpy v_a1_kind v_kind (nI 0).toNatClampNeg (nI 0).toNatClampNeg (nI 8).toNatClampNeg) (va_cpy v_a1_hand v_hand (nI 0).toNatClampNeg (nI 0).toNatClampNeg (nI 8).toNatClampNeg) (va_cpy v_a1_size v_size (nI 0).toNatClampNeg (nI 0).toNatClampNeg (nI 8).toNatClampNeg) (va_cpy v_a1_on v_on (nI 0).toNatClampNeg (nI 0).toNatClampNeg (nI 8).toNatClampNeg) (va_cpy v_a1_away v_away (nI 0).toNatClampNeg (nI 0).toNatClampNeg (nI 8).toNatClampNeg) v_a1_count v_a1_nightsPassed v_a1_glances v_a1_draws v_a1_laws v_a1_ground v_a1_seen v_a1_kind v_a1_hand v_a1_size v_a1_on v_a1_away) H := hP
  refine lv_aload_n (pc := 156) hx hb dX2_become_156 rfl (lv_at hl 0 rfl) ?_
  refine lv_iconst (pc := 157) (v := (nI 0)) hx hb dX2_become_157 (by decide) ?_
  refine va_put (D := D) (pc := 158) (ci := 2) (v := .int (nI 0)) (ty := .int) (C := RX2) (T := TX2) (N := 15) hx hb hts nX2_become_X2 tyX2 tyX2_ok nmX2 hown hK hP (zD_re hD rfl) hS 0 rfl rfl 13 (by decide) (hts _ kX2_become_17) (fun _ h9 => h9) rfl (tyX2_ok 13 (by decide)) rfl rfl (Nat.le_of_ble_eq_true rfl) dX2_become_158 (fun H locs hP _ hS => ?_)
  have hP : va_P D vwCl (wX2_become cB cI cJ cO h0 h_laws h_ground h_seen h_kind h_hand h_size h_on h_away h_a1 h_a1_laws h_a1_ground h_a1_seen h_a1_kind h_a1_hand h_a1_size h_a1_on h_a1_away g_wallLooks g_a1_gained g_a1_paintedOn g_a1_wallLooks v_a1_count v_a1_nightsPassed v_a1_glances v_a1_draws (nI 0) (nI 0) (va_cpy v_a1_laws v_laws (nI 0).toNatClampNeg (nI 0).toNatClampNeg (nI 4).toNatClampNeg) (va_cpy v_a1_ground v_ground (nI 0).toNatClampNeg (nI 0).toNatClampNeg (nI 10).toNatClampNeg) (va_cpy v_a1_seen v_seen (nI 0).toNatClampNeg (nI 0).toNatClampNeg (nI 10).toNatClampNeg) (va_cpy v_a1_kind v_kind (nI 0).toNatClampNeg (nI 0).toNatClampNeg (nI 8).toNatClampNeg) (va_cpy v_a1_hand v_hand (nI 0).toNatClampNeg (nI 0).toNatClampNeg (nI 8).toNatClampNeg) (va_cpy v_a1_size v_size (nI 0).toNatClampNeg (nI 0).toNatClampNeg (nI 8).toNatClampNeg) (va_cpy v_a1_on v_on (nI 0).toNatClampNeg (nI 0).toNatClampNeg (nI 8).toNatClampNeg) (va_cpy v_a1_away v_away (nI 0).toNatClampNeg (nI 0).toNatClampNeg (nI 8).toNatClampNeg) v_a1_count v_a1_nightsPassed v_a1_glances v_a1_draws v_a1_laws v_a1_ground v_a1_seen v_a1_kind v_a1_hand v_a1_size v_a1_on v_a1_away) H := hP
  exact z_vretM (pc := 161) (fun q => (wX2_become cB cI cJ cO h0 h_laws h_ground h_seen h_kind h_hand h_size h_on h_away h_a1 h_a1_laws h_a1_ground h_a1_seen h_a1_kind h_a1_hand h_a1_size h_a1_on h_a1_away g_wallLooks g_a1_gained g_a1_paintedOn g_a1_wallLooks q.1 q.2.1 q.2.2.1 q.2.2.2.1 q.2.2.2.2.1 q.2.2.2.2.2.1 q.2.2.2.2.2.2.1 q.2.2.2.2.2.2.2.1 q.2.2.2.2.2.2.2.2.1 q.2.2.2.2.2.2.2.2.2.1 q.2.2.2.2.2.2.2.2.2.2.1 q.2.2.2.2.2.2.2.2.2.2.2.1 q.2.2.2.2.2.2.2.2.2.2.2.2.1 q.2.2.2.2.2.2.2.2.2.2.2.2.2 v_a1_count v_a1_nightsPassed v_a1_glances v_a1_draws v_a1_laws v_a1_ground v_a1_seen v_a1_kind v_a1_hand v_a1_size v_a1_on v_a1_away)) hx hb hr hlocks hP hS hF hQ dX2_become_161

abbrev rX2_addName : Room := { frames := 0, cells := 0, slots := 0, locals := 0 }
abbrev wX2_addName (cB cI cJ cO : ClassId) (h0 h_kind h_hand h_size h_on h_away : Nat) (g_laws g_ground g_seen g_nightsPassed g_glances g_draws g_gained g_paintedOn g_wallLooks : Value) (v_count : Int32) (v_kind : Nat → Int32) (v_hand : Nat → Int32) (v_size : Nat → Int32) (v_on : Nat → Int32) (v_away : Nat → Int32) : va_W := [(h0, .inr (2, [g_laws, g_ground, g_seen, .int v_count, .ref h_kind, .ref h_hand, .ref h_size, .ref h_on, .ref h_away, g_nightsPassed, g_glances, g_draws, g_gained, g_paintedOn, g_wallLooks])), (h_kind, .inl (cI, 8, .inl v_kind)), (h_hand, .inl (cI, 8, .inl v_hand)), (h_size, .inl (cI, 8, .inl v_size)), (h_on, .inl (cI, 8, .inl v_on)), (h_away, .inl (cI, 8, .inl v_away))]
theorem nX2_addName_X2 : ∀ w ∈ wsX20, w ∈ wsX2_addName := by decide +kernel
theorem kX2_addName_0 : Cond.fieldLink RX2 49 "PaintedWalls$Town" "count" "I" ∈ wsX2_addName := by decide +kernel
theorem kX2_addName_1 : Cond.fieldLink RX2 21 "PaintedWalls$Town" "kind" "[I" ∈ wsX2_addName := by decide +kernel
theorem kX2_addName_2 : Cond.fieldLink RX2 24 "PaintedWalls$Town" "hand" "[I" ∈ wsX2_addName := by decide +kernel
theorem kX2_addName_3 : Cond.fieldLink RX2 27 "PaintedWalls$Town" "size" "[I" ∈ wsX2_addName := by decide +kernel
theorem kX2_addName_4 : Cond.fieldLink RX2 30 "PaintedWalls$Town" "on" "[I" ∈ wsX2_addName := by decide +kernel
theorem kX2_addName_5 : Cond.fieldLink RX2 33 "PaintedWalls$Town" "away" "[I" ∈ wsX2_addName := by decide +kernel
set_option maxHeartbeats 4000000 in
set_option maxRecDepth 100000 in
theorem tX2_addName {l : Launch} {D : va_G} {cB cI cJ cO : ClassId} (h0 h_kind h_hand h_size h_on h_away : Nat) (g_laws g_ground g_seen g_nightsPassed g_glances g_draws g_gained g_paintedOn g_wallLooks : Value) (v_count : Int32) (v_kind : Nat → Int32) (v_hand : Nat → Int32) (v_size : Nat → Int32) (v_on : Nat → Int32) (v_away : Nat → Int32) (x1 : Int32) (x2 : Int32) (x3 : Int32) (x4 : Int32) (r : Int32 × Int32 × (Nat → Int32) × (Nat → Int32) × (Nat → Int32) × (Nat → Int32) × (Nat → Int32)) (hF : fX2_addName v_count v_kind v_hand v_size v_on v_away x1 x2 x3 x4 = some r) : Met l yX2_addName wsX2_addName rX2_addName (zPre D cB cI cJ cO [.ref h0, .int x1, .int x2, .int x3, .int x4] (wX2_addName cB cI cJ cO h0 h_kind h_hand h_size h_on h_away g_laws g_ground g_seen g_nightsPassed g_glances g_draws g_gained g_paintedOn g_wallLooks v_count v_kind v_hand v_size v_on v_away)) (zPM (some (.int r.1)) D (wX2_addName cB cI cJ cO h0 h_kind h_hand h_size h_on h_away g_laws g_ground g_seen g_nightsPassed g_glances g_draws g_gained g_paintedOn g_wallLooks r.2.1 r.2.2.1 r.2.2.2.1 r.2.2.2.2.1 r.2.2.2.2.2.1 r.2.2.2.2.2.2) (zAs [h0, h_kind, h_hand, h_size, h_on, h_away])) 0 0 (zAs [h0, h_kind, h_hand, h_size, h_on, h_away]) := by
  refine zMetM (cc := cX2_addName) (maxL := 5) (ret := (some .boolean)) (lv := [(0, .ref h0), (1, .int x1), (2, .int x2), (3, .int x3), (4, .int x4)]) rfl (by decide) rfl (Nat.le_of_ble_eq_true rfl) rfl ?_
  intro p e s m args below meth c ls Q H locs hQ hx hb hr hml hown hts hlocks hname hP hE hD hS hl
  have hown : s.vm.findClass RX2 = some m.cls := hown
  have hK := hE.1
  unfold fX2_addName at hF
  refine lv_aload_n (pc := 0) hx hb dX2_addName_0 rfl (lv_at hl 0 rfl) ?_
  refine va_get (D := D) (pc := 1) (ci := 2) (v := .int v_count) (C := RX2) (T := TX2) (N := 15) hx hb hts nX2_addName_X2 hown hK hP 0 rfl rfl 3 (by decide) (hts _ kX2_addName_0) (fun _ h9 => h9) rfl dX2_addName_1 ?_
  refine lv_bipush (pc := 4) (v := (nI 8)) hx hb dX2_addName_4 (by decide) ?_
  refine zb_icmp_lt (pc := 6) (tgt := 11) hx hb dX2_addName_6 (by decide) hF (fun c_6 hF => ?_) (fun c_6 hF => ?_)
  · refine lv_aload_n (pc := 11) hx hb dX2_addName_11 rfl (lv_at hl 0 rfl) ?_
    refine va_get (D := D) (pc := 12) (ci := 2) (v := .ref h_kind) (C := RX2) (T := TX2) (N := 15) hx hb hts nX2_addName_X2 hown hK hP 0 rfl rfl 4 (by decide) (hts _ kX2_addName_1) (fun _ h9 => h9) rfl dX2_addName_12 ?_
    refine lv_aload_n (pc := 15) hx hb dX2_addName_15 rfl (lv_at hl 0 rfl) ?_
    refine va_get (D := D) (pc := 16) (ci := 2) (v := .int v_count) (C := RX2) (T := TX2) (N := 15) hx hb hts nX2_addName_X2 hown hK hP 0 rfl rfl 3 (by decide) (hts _ kX2_addName_0) (fun _ h9 => h9) rfl dX2_addName_16 ?_
    refine lv_iload_n (pc := 19) hx hb dX2_addName_19 rfl (lv_at hl 1 rfl) ?_
    refine za_iast (pc := 20) hx hb hK hP (zD_re hD rfl) hS 1 1 rfl rfl dX2_addName_20 hF (fun hF H locs hP hS => ?_)
    have hP : va_P D vwCl (wX2_addName cB cI cJ cO h0 h_kind h_hand h_size h_on h_away g_laws g_ground g_seen g_nightsPassed g_glances g_draws g_gained g_paintedOn g_wallLooks v_count (upd v_kind v_count.toNatClampNeg x1) v_hand v_size v_on v_away) H := hP
    refine lv_aload_n (pc := 21) hx hb dX2_addName_21 rfl (lv_at hl 0 rfl) ?_
    refine va_get (D := D) (pc := 22) (ci := 2) (v := .ref h_hand) (C := RX2) (T := TX2) (N := 15) hx hb hts nX2_addName_X2 hown hK hP 0 rfl rfl 5 (by decide) (hts _ kX2_addName_2) (fun _ h9 => h9) rfl dX2_addName_22 ?_
    refine lv_aload_n (pc := 25) hx hb dX2_addName_25 rfl (lv_at hl 0 rfl) ?_
    refine va_get (D := D) (pc := 26) (ci := 2) (v := .int v_count) (C := RX2) (T := TX2) (N := 15) hx hb hts nX2_addName_X2 hown hK hP 0 rfl rfl 3 (by decide) (hts _ kX2_addName_0) (fun _ h9 => h9) rfl dX2_addName_26 ?_
    refine lv_iload_n (pc := 29) hx hb dX2_addName_29 rfl (lv_at hl 2 rfl) ?_
    refine za_iast (pc := 30) hx hb hK hP (zD_re hD rfl) hS 2 1 rfl rfl dX2_addName_30 hF (fun hF H locs hP hS => ?_)
    have hP : va_P D vwCl (wX2_addName cB cI cJ cO h0 h_kind h_hand h_size h_on h_away g_laws g_ground g_seen g_nightsPassed g_glances g_draws g_gained g_paintedOn g_wallLooks v_count (upd v_kind v_count.toNatClampNeg x1) (upd v_hand v_count.toNatClampNeg x2) v_size v_on v_away) H := hP
    refine lv_aload_n (pc := 31) hx hb dX2_addName_31 rfl (lv_at hl 0 rfl) ?_
    refine va_get (D := D) (pc := 32) (ci := 2) (v := .ref h_size) (C := RX2) (T := TX2) (N := 15) hx hb hts nX2_addName_X2 hown hK hP 0 rfl rfl 6 (by decide) (hts _ kX2_addName_3) (fun _ h9 => h9) rfl dX2_addName_32 ?_
    refine lv_aload_n (pc := 35) hx hb dX2_addName_35 rfl (lv_at hl 0 rfl) ?_
    refine va_get (D := D) (pc := 36) (ci := 2) (v := .int v_count) (C := RX2) (T := TX2) (N := 15) hx hb hts nX2_addName_X2 hown hK hP 0 rfl rfl 3 (by decide) (hts _ kX2_addName_0) (fun _ h9 => h9) rfl dX2_addName_36 ?_
    refine lv_iload_n (pc := 39) hx hb dX2_addName_39 rfl (lv_at hl 3 rfl) ?_
    refine za_iast (pc := 40) hx hb hK hP (zD_re hD rfl) hS 3 1 rfl rfl dX2_addName_40 hF (fun hF H locs hP hS => ?_)
    have hP : va_P D vwCl (wX2_addName cB cI cJ cO h0 h_kind h_hand h_size h_on h_away g_laws g_ground g_seen g_nightsPassed g_glances g_draws g_gained g_paintedOn g_wallLooks v_count (upd v_kind v_count.toNatClampNeg x1) (upd v_hand v_count.toNatClampNeg x2) (upd v_size v_count.toNatClampNeg x3) v_on v_away) H := hP
    refine lv_aload_n (pc := 41) hx hb dX2_addName_41 rfl (lv_at hl 0 rfl) ?_
    refine va_get (D := D) (pc := 42) (ci := 2) (v := .ref h_on) (C := RX2) (T := TX2) (N := 15) hx hb hts nX2_addName_X2 hown hK hP 0 rfl rfl 7 (by decide) (hts _ kX2_addName_4) (fun _ h9 => h9) rfl dX2_addName_42 ?_
    refine lv_aload_n (pc := 45) hx hb dX2_addName_45 rfl (lv_at hl 0 rfl) ?_
    refine va_get (D := D) (pc := 46) (ci := 2) (v := .int v_count) (C := RX2) (T := TX2) (N := 15) hx hb hts nX2_addName_X2 hown hK hP 0 rfl rfl 3 (by decide) (hts _ kX2_addName_0) (fun _ h9 => h9) rfl dX2_addName_46 ?_
    refine lv_iload (pc := 49) hx hb dX2_addName_49 (lv_at hl 4 rfl) ?_
    refine za_iast (pc := 51) hx hb hK hP (zD_re hD rfl) hS 4 1 rfl rfl dX2_addName_51 hF (fun hF H locs hP hS => ?_)
    have hP : va_P D vwCl (wX2_addName cB cI cJ cO h0 h_kind h_hand h_size h_on h_away g_laws g_ground g_seen g_nightsPassed g_glances g_draws g_gained g_paintedOn g_wallLooks v_count (upd v_kind v_count.toNatClampNeg x1) (upd v_hand v_count.toNatClampNeg x2) (upd v_size v_count.toNatClampNeg x3) (upd v_on v_count.toNatClampNeg x4) v_away) H := hP
    refine lv_aload_n (pc := 52) hx hb dX2_addName_52 rfl (lv_at hl 0 rfl) ?_
    refine va_get (D := D) (pc := 53) (ci := 2) (v := .ref h_away) (C := RX2) (T := TX2) (N := 15) hx hb hts nX2_addName_X2 hown hK hP 0 rfl rfl 8 (by decide) (hts _ kX2_addName_5) (fun _ h9 => h9) rfl dX2_addName_53 ?_
    refine lv_aload_n (pc := 56) hx hb dX2_addName_56 rfl (lv_at hl 0 rfl) ?_
    refine va_get (D := D) (pc := 57) (ci := 2) (v := .int v_count) (C := RX2) (T := TX2) (N := 15) hx hb hts nX2_addName_X2 hown hK hP 0 rfl rfl 3 (by decide) (hts _ kX2_addName_0) (fun _ h9 => h9) rfl dX2_addName_57 ?_
    refine lv_iconst (pc := 60) (v := (nI 0)) hx hb dX2_addName_60 (by decide) ?_
    refine za_iast (pc := 61) hx hb hK hP (zD_re hD rfl) hS 5 1 rfl rfl dX2_addName_61 hF (fun hF H locs hP hS => ?_)
    have hP : va_P D vwCl (wX2_addName cB cI cJ cO h0 h_kind h_hand h_size h_on h_away g_laws g_ground g_seen g_nightsPassed g_glances g_draws g_gained g_paintedOn g_wallLooks v_count (upd v_kind v_count.toNatClampNeg x1) (upd v_hand v_count.toNatClampNeg x2) (upd v_size v_count.toNatClampNeg x3) (upd v_on v_count.toNatClampNeg x4) (upd v_away v_count.toNatClampNeg (nI 0))) H := hP
    refine lv_aload_n (pc := 62) hx hb dX2_addName_62 rfl (lv_at hl 0 rfl) ?_
    refine lv_dup (pc := 63) hx hb dX2_addName_63 rfl ?_
    refine va_get (D := D) (pc := 64) (ci := 2) (v := .int v_count) (C := RX2) (T := TX2) (N := 15) hx hb hts nX2_addName_X2 hown hK hP 0 rfl rfl 3 (by decide) (hts _ kX2_addName_0) (fun _ h9 => h9) rfl dX2_addName_64 ?_
    refine lv_iconst (pc := 67) (v := (nI 1)) hx hb dX2_addName_67 (by decide) ?_
    refine lv_iadd (pc := 68) hx hb dX2_addName_68 ?_
    refine va_put (D := D) (pc := 69) (ci := 2) (v := .int (v_count + (nI 1))) (ty := .int) (C := RX2) (T := TX2) (N := 15) hx hb hts nX2_addName_X2 tyX2 tyX2_ok nmX2 hown hK hP (zD_re hD rfl) hS 0 rfl rfl 3 (by decide) (hts _ kX2_addName_0) (fun _ h9 => h9) rfl (tyX2_ok 3 (by decide)) rfl rfl (Nat.le_of_ble_eq_true rfl) dX2_addName_69 (fun H locs hP _ hS => ?_)
    have hP : va_P D vwCl (wX2_addName cB cI cJ cO h0 h_kind h_hand h_size h_on h_away g_laws g_ground g_seen g_nightsPassed g_glances g_draws g_gained g_paintedOn g_wallLooks (v_count + (nI 1)) (upd v_kind v_count.toNatClampNeg x1) (upd v_hand v_count.toNatClampNeg x2) (upd v_size v_count.toNatClampNeg x3) (upd v_on v_count.toNatClampNeg x4) (upd v_away v_count.toNatClampNeg (nI 0))) H := hP
    refine lv_iconst (pc := 72) (v := (nI 1)) hx hb dX2_addName_72 (by decide) ?_
    exact z_zretM (pc := 73) (fun q => q.1) (fun q => (wX2_addName cB cI cJ cO h0 h_kind h_hand h_size h_on h_away g_laws g_ground g_seen g_nightsPassed g_glances g_draws g_gained g_paintedOn g_wallLooks q.2.1 q.2.2.1 q.2.2.2.1 q.2.2.2.2.1 q.2.2.2.2.2.1 q.2.2.2.2.2.2)) hx hb hr hlocks (by decide) hP hS hF rfl hQ dX2_addName_73
  · refine lv_iconst (pc := 9) (v := (nI 0)) hx hb dX2_addName_9 (by decide) ?_
    exact z_zretM (pc := 10) (fun q => q.1) (fun q => (wX2_addName cB cI cJ cO h0 h_kind h_hand h_size h_on h_away g_laws g_ground g_seen g_nightsPassed g_glances g_draws g_gained g_paintedOn g_wallLooks q.2.1 q.2.2.1 q.2.2.2.1 q.2.2.2.2.1 q.2.2.2.2.2.1 q.2.2.2.2.2.2)) hx hb hr hlocks (by decide) hP hS hF rfl hQ dX2_addName_10

abbrev rX2_othersBy : Room := { frames := 0, cells := 0, slots := 0, locals := 0 }
abbrev wX2_othersBy (cB cI cJ cO : ClassId) (h0 h_on : Nat) (g_laws g_ground g_seen g_kind g_hand g_size g_away g_nightsPassed g_glances g_draws g_gained g_paintedOn g_wallLooks : Value) (v_count : Int32) (v_on : Nat → Int32) : va_W := [(h0, .inr (2, [g_laws, g_ground, g_seen, .int v_count, g_kind, g_hand, g_size, .ref h_on, g_away, g_nightsPassed, g_glances, g_draws, g_gained, g_paintedOn, g_wallLooks])), (h_on, .inl (cI, 8, .inl v_on))]
theorem nX2_othersBy_X2 : ∀ w ∈ wsX20, w ∈ wsX2_othersBy := by decide +kernel
theorem kX2_othersBy_0 : Cond.fieldLink RX2 49 "PaintedWalls$Town" "count" "I" ∈ wsX2_othersBy := by decide +kernel
theorem kX2_othersBy_1 : Cond.fieldLink RX2 30 "PaintedWalls$Town" "on" "[I" ∈ wsX2_othersBy := by decide +kernel
set_option maxHeartbeats 4000000 in
set_option maxRecDepth 100000 in
theorem tX2_othersBy {l : Launch} {D : va_G} {cB cI cJ cO : ClassId} (h0 h_on : Nat) (g_laws g_ground g_seen g_kind g_hand g_size g_away g_nightsPassed g_glances g_draws g_gained g_paintedOn g_wallLooks : Value) (v_count : Int32) (v_on : Nat → Int32) (x1 : Int32) (r : Int32) (hF : fX2_othersBy v_count v_on x1 = some r) : Met l yX2_othersBy wsX2_othersBy rX2_othersBy (zPre D cB cI cJ cO [.ref h0, .int x1] (wX2_othersBy cB cI cJ cO h0 h_on g_laws g_ground g_seen g_kind g_hand g_size g_away g_nightsPassed g_glances g_draws g_gained g_paintedOn g_wallLooks v_count v_on)) (zPI (some (.int r))) 0 0 (fun _ => False) := by
  refine zMetP (cc := cX2_othersBy) (maxL := 4) (ret := (some .int)) (lv := [(0, .ref h0), (1, .int x1)]) (by decide) rfl (Nat.le_of_ble_eq_true rfl) rfl ?_
  intro p e s m args below meth c ls Q hQ hx hb hr hml hown hts hlocks hname hP hE hD hl
  have hown : s.vm.findClass RX2 = some m.cls := hown
  have hK := hE.1
  unfold fX2_othersBy at hF
  refine lv_iconst (pc := 0) (v := (-1 : Int32)) hx hb dX2_othersBy_0 (by decide) ?_
  refine lv_istore_n (pc := 1) (lv' := [(2, .int (-1 : Int32)), (0, .ref h0), (1, .int x1)]) hx hb dX2_othersBy_1 rfl hl (by decide) rfl (fun ls hl => ?_)
  refine lv_iconst (pc := 2) (v := (nI 0)) hx hb dX2_othersBy_2 (by decide) ?_
  refine lv_istore_n (pc := 3) (lv' := [(3, .int (nI 0)), (2, .int (-1 : Int32)), (0, .ref h0), (1, .int x1)]) hx hb dX2_othersBy_3 rfl hl (by decide) rfl (fun ls hl => ?_)
  obtain ⟨k_4, hk_4, hF⟩ := z_J hF
  have kk_4 : ∀ (y2_3 : Int32) , k_4 y2_3 = some r → ∀ (ls : Array Slot), lv_has ls 4 [(2, .int y2_3)] → W p l e rX2_othersBy s m args below meth c s.heap [] 0 0 Q (F0 m 36 ls []) := by
    intro y2_3 hF ls hl
    rw [hk_4] at hF
    refine lv_iload_n (pc := 36) hx hb dX2_othersBy_36 rfl (lv_at hl 0 rfl) ?_
    exact z_iret (pc := 37) (fun q => q) hx hb hr hlocks hF rfl hQ dX2_othersBy_37
  have hL_4 : ∀ (n : Nat) (y2_1 : Int32) (y3_2 : Int32) , fX2_othersBy_L4 v_count v_on x1 k_4 n y2_1 y3_2 = some r → ∀ (ls : Array Slot), lv_has ls 4 [(0, .ref h0), (1, .int x1), (2, .int y2_1), (3, .int y3_2)] → W p l e rX2_othersBy s m args below meth c s.heap [] 0 0 Q (F0 m 4 ls []) := by
    intro n
    induction n with
    | zero =>
      intro y2_1 y3_2 hF ls hl
      exact z_no hF
    | succ n ih =>
      intro y2_1 y3_2 hF ls hl
      rw [fX2_othersBy_L4] at hF
      refine lv_iload_n (pc := 4) hx hb dX2_othersBy_4 rfl (lv_at hl 3 rfl) ?_
      refine lv_aload_n (pc := 5) hx hb dX2_othersBy_5 rfl (lv_at hl 0 rfl) ?_
      refine va_get (D := D) (pc := 6) (ci := 2) (v := .int v_count) (C := RX2) (T := TX2) (N := 15) hx hb hts nX2_othersBy_X2 hown hK hP 0 rfl rfl 3 (by decide) (hts _ kX2_othersBy_0) (fun _ h9 => h9) rfl dX2_othersBy_6 ?_
      refine zb_icmp_ge (pc := 9) (tgt := 36) hx hb dX2_othersBy_9 (by decide) hF (fun c_9 hF => ?_) (fun c_9 hF => ?_)
      · exact kk_4 y2_1 hF ls (lv_sub hl [2] rfl)
      · refine lv_aload_n (pc := 12) hx hb dX2_othersBy_12 rfl (lv_at hl 0 rfl) ?_
        refine va_get (D := D) (pc := 13) (ci := 2) (v := .ref h_on) (C := RX2) (T := TX2) (N := 15) hx hb hts nX2_othersBy_X2 hown hK hP 0 rfl rfl 7 (by decide) (hts _ kX2_othersBy_1) (fun _ h9 => h9) rfl dX2_othersBy_13 ?_
        refine lv_iload_n (pc := 16) hx hb dX2_othersBy_16 rfl (lv_at hl 3 rfl) ?_
        refine za_iald (pc := 17) hx hb hK hP 1 1 rfl rfl dX2_othersBy_17 hF (fun hF => ?_)
        refine lv_aload_n (pc := 18) hx hb dX2_othersBy_18 rfl (lv_at hl 0 rfl) ?_
        refine va_get (D := D) (pc := 19) (ci := 2) (v := .ref h_on) (C := RX2) (T := TX2) (N := 15) hx hb hts nX2_othersBy_X2 hown hK hP 0 rfl rfl 7 (by decide) (hts _ kX2_othersBy_1) (fun _ h9 => h9) rfl dX2_othersBy_19 ?_
        refine lv_iload_n (pc := 22) hx hb dX2_othersBy_22 rfl (lv_at hl 1 rfl) ?_
        refine za_iald (pc := 23) hx hb hK hP 1 1 rfl rfl dX2_othersBy_23 hF (fun hF => ?_)
        refine zb_icmp_ne (pc := 24) (tgt := 30) hx hb dX2_othersBy_24 (by decide) hF (fun c_24 hF => ?_) (fun c_24 hF => ?_)
        · refine lv_iinc (pc := 30) (v := (y3_2 + 1)) (lv' := [(3, .int (y3_2 + 1)), (0, .ref h0), (1, .int x1), (2, .int y2_1)]) hx hb dX2_othersBy_30 hl (k := 3) rfl rfl (by decide) rfl (fun ls hl => ?_)
          refine lv_goto (pc := 33) (tgt := 4) hx hb dX2_othersBy_33 (by decide) ?_
          exact ih y2_1 (y3_2 + 1) hF ls (lv_sub hl [1, 2, 3, 0] rfl)
        · refine lv_iinc (pc := 27) (v := (y2_1 + 1)) (lv' := [(2, .int (y2_1 + 1)), (0, .ref h0), (1, .int x1), (3, .int y3_2)]) hx hb dX2_othersBy_27 hl (k := 2) rfl rfl (by decide) rfl (fun ls hl => ?_)
          refine lv_iinc (pc := 30) (v := (y3_2 + 1)) (lv' := [(3, .int (y3_2 + 1)), (2, .int (y2_1 + 1)), (0, .ref h0), (1, .int x1)]) hx hb dX2_othersBy_30 hl (k := 3) rfl rfl (by decide) rfl (fun ls hl => ?_)
          refine lv_goto (pc := 33) (tgt := 4) hx hb dX2_othersBy_33 (by decide) ?_
          exact ih (y2_1 + 1) (y3_2 + 1) hF ls (lv_sub hl [2, 3, 1, 0] rfl)
  exact hL_4 zK (-1 : Int32) (nI 0) hF ls (lv_sub hl [2, 3, 1, 0] rfl)

abbrev rX2_growsOf : Room := { frames := 1, cells := 0, slots := 0, locals := 23 }
abbrev wX2_growsOf (cB cI cJ cO : ClassId) (h0 h_laws h_ground h_kind h_on : Nat) (g_seen g_hand g_size g_away g_nightsPassed g_glances g_draws g_gained g_paintedOn g_wallLooks : Value) (v_count : Int32) (v_laws : Nat → Int32) (v_ground : Nat → Int32) (v_kind : Nat → Int32) (v_on : Nat → Int32) : va_W := [(h0, .inr (2, [.ref h_laws, .ref h_ground, g_seen, .int v_count, .ref h_kind, g_hand, g_size, .ref h_on, g_away, g_nightsPassed, g_glances, g_draws, g_gained, g_paintedOn, g_wallLooks])), (h_laws, .inl (cI, 4, .inl v_laws)), (h_ground, .inl (cI, 10, .inl v_ground)), (h_kind, .inl (cI, 8, .inl v_kind)), (h_on, .inl (cI, 8, .inl v_on))]
theorem nX2_growsOf_X2 : ∀ w ∈ wsX20, w ∈ wsX2_growsOf := by decide +kernel
theorem kX2_growsOf_0 : Cond.fieldLink RX2 30 "PaintedWalls$Town" "on" "[I" ∈ wsX2_growsOf := by decide +kernel
theorem kX2_growsOf_1 : Cond.fieldLink RX2 21 "PaintedWalls$Town" "kind" "[I" ∈ wsX2_growsOf := by decide +kernel
theorem kX2_growsOf_2 : Cond.fieldLink RX2 15 "PaintedWalls$Town" "ground" "[I" ∈ wsX2_growsOf := by decide +kernel
theorem kX2_growsOf_3 : Cond.fieldLink RX2 9 "PaintedWalls$Town" "laws" "[I" ∈ wsX2_growsOf := by decide +kernel
set_option maxHeartbeats 4000000 in
set_option maxRecDepth 100000 in
theorem tX2_growsOf {l : Launch} {D : va_G} {cB cI cJ cO : ClassId} (h0 h_laws h_ground h_kind h_on : Nat) (g_seen g_hand g_size g_away g_nightsPassed g_glances g_draws g_gained g_paintedOn g_wallLooks : Value) (v_count : Int32) (v_laws : Nat → Int32) (v_ground : Nat → Int32) (v_kind : Nat → Int32) (v_on : Nat → Int32) (x1 : Int32) (r : Int32) (hF : fX2_growsOf v_count v_laws v_ground v_kind v_on x1 = some r) : Met l yX2_growsOf wsX2_growsOf rX2_growsOf (zPre D cB cI cJ cO [.ref h0, .int x1] (wX2_growsOf cB cI cJ cO h0 h_laws h_ground h_kind h_on g_seen g_hand g_size g_away g_nightsPassed g_glances g_draws g_gained g_paintedOn g_wallLooks v_count v_laws v_ground v_kind v_on)) (zPI (some (.int r))) 0 0 (fun _ => False) := by
  refine zMetP (cc := cX2_growsOf) (maxL := 3) (ret := (some .int)) (lv := [(0, .ref h0), (1, .int x1)]) (by decide) rfl (Nat.le_of_ble_eq_true rfl) rfl ?_
  intro p e s m args below meth c ls Q hQ hx hb hr hml hown hts hlocks hname hP hE hD hl
  have hown : s.vm.findClass RX2 = some m.cls := hown
  have hK := hE.1
  unfold fX2_growsOf at hF
  refine lv_aload_n (pc := 0) hx hb dX2_growsOf_0 rfl (lv_at hl 0 rfl) ?_
  refine va_get (D := D) (pc := 1) (ci := 2) (v := .ref h_on) (C := RX2) (T := TX2) (N := 15) hx hb hts nX2_growsOf_X2 hown hK hP 0 rfl rfl 7 (by decide) (hts _ kX2_growsOf_0) (fun _ h9 => h9) rfl dX2_growsOf_1 ?_
  refine lv_iload_n (pc := 4) hx hb dX2_growsOf_4 rfl (lv_at hl 1 rfl) ?_
  refine za_iald (pc := 5) hx hb hK hP 4 1 rfl rfl dX2_growsOf_5 hF (fun hF => ?_)
  refine lv_bipush (pc := 6) (v := (nI 10)) hx hb dX2_growsOf_6 (by decide) ?_
  obtain ⟨J_2, hJ_2, hF⟩ := z_J hF
  have kJ_2 : ∀ (t0_1 : Int32) , J_2 t0_1 = some r → ∀ (ls : Array Slot), lv_has ls 3 [(0, .ref h0), (1, .int x1)] → W p l e rX2_growsOf s m args below meth c s.heap [] 0 0 Q (F0 m 36 ls [.int t0_1]) := by
    intro t0_1 hF ls hl
    rw [hJ_2] at hF
    refine lv_istore_n (pc := 36) (lv' := [(2, .int t0_1), (0, .ref h0), (1, .int x1)]) hx hb dX2_growsOf_36 rfl hl (by decide) rfl (fun ls hl => ?_)
    refine lv_aload_n (pc := 37) hx hb dX2_growsOf_37 rfl (lv_at hl 1 rfl) ?_
    refine va_get (D := D) (pc := 38) (ci := 2) (v := .ref h_kind) (C := RX2) (T := TX2) (N := 15) hx hb hts nX2_growsOf_X2 hown hK hP 0 rfl rfl 4 (by decide) (hts _ kX2_growsOf_1) (fun _ h9 => h9) rfl dX2_growsOf_38 ?_
    refine lv_iload_n (pc := 41) hx hb dX2_growsOf_41 rfl (lv_at hl 2 rfl) ?_
    refine za_iald (pc := 42) hx hb hK hP 3 1 rfl rfl dX2_growsOf_42 hF (fun hF => ?_)
    by_cases c_43_1 : (v_kind x1.toNatClampNeg) = nI 1
    · have hF := (z_if _ hF).1 c_43_1
      refine lv_tableIn (pc := 43) (off := 33) (tgt := 76) hx hb dX2_growsOf_43 (by rw [c_43_1]; decide) (by rw [c_43_1]; decide) (by rw [c_43_1]; rfl) (by decide) ?_
      refine lv_iconst (pc := 76) (v := (nI 2)) hx hb dX2_growsOf_76 (by decide) ?_
      refine lv_iload_n (pc := 77) hx hb dX2_growsOf_77 rfl (lv_at hl 0 rfl) ?_
      refine lv_iadd (pc := 78) hx hb dX2_growsOf_78 ?_
      exact z_iret (pc := 79) (fun q => q) hx hb hr hlocks hF rfl hQ dX2_growsOf_79
    · have hF := (z_if _ hF).2 c_43_1
      by_cases c_43_2 : (v_kind x1.toNatClampNeg) = nI 2
      · have hF := (z_if _ hF).1 c_43_2
        refine lv_tableIn (pc := 43) (off := 43) (tgt := 86) hx hb dX2_growsOf_43 (by rw [c_43_2]; decide) (by rw [c_43_2]; decide) (by rw [c_43_2]; rfl) (by decide) ?_
        refine lv_iconst (pc := 86) (v := (nI 2)) hx hb dX2_growsOf_86 (by decide) ?_
        refine lv_aload_n (pc := 87) hx hb dX2_growsOf_87 rfl (lv_at hl 1 rfl) ?_
        refine lv_iload_n (pc := 88) hx hb dX2_growsOf_88 rfl (lv_at hl 2 rfl) ?_
        obtain ⟨u89, hu89, hF⟩ := z_bind hF
        refine zq_call (oc0 := (some (.int u89))) (va_runV (As := [.int x1]) (rest := [.int (nI 2)]) ⟨hx, hb, hml, hown, hts⟩ (tX2_othersBy (l := l) (D := D) (cB := cB) (cI := cI) (cJ := cJ) (cO := cO) h0 h_on (.ref h_laws) (.ref h_ground) g_seen (.ref h_kind) g_hand g_size g_away g_nightsPassed g_glances g_draws g_gained g_paintedOn g_wallLooks v_count v_on x1 u89 hu89) (cwV 1 hts gX2_growsOf_X2_othersBy rfl rfl rfl (by decide +kernel) ⟨Nat.le_of_ble_eq_true rfl, Nat.le_of_ble_eq_true rfl⟩) ⟨zPre_blind, va_recv hK hP (ci := 2) (q0 := 0) rfl rfl, zPre_at hP hE hD [0, 4] rfl rfl⟩ rfl rfl hl.1 rfl (lv_room (Nat.le_of_ble_eq_true rfl)) dX2_growsOf_89 ⟨Nat.zero_le _, Nat.zero_le _⟩) ?_
        refine W.eq (g2 := F0 m 92 ls [.int u89, .int (nI 2)]) rfl ?_
        refine lv_isub (pc := 92) hx hb dX2_growsOf_92 ?_
        exact z_iret (pc := 93) (fun q => q) hx hb hr hlocks hF rfl hQ dX2_growsOf_93
      · have hF := (z_if _ hF).2 c_43_2
        by_cases c_43_3 : (v_kind x1.toNatClampNeg) = nI 3
        · have hF := (z_if _ hF).1 c_43_3
          refine lv_tableIn (pc := 43) (off := 37) (tgt := 80) hx hb dX2_growsOf_43 (by rw [c_43_3]; decide) (by rw [c_43_3]; decide) (by rw [c_43_3]; rfl) (by decide) ?_
          refine lv_iconst (pc := 80) (v := (nI 2)) hx hb dX2_growsOf_80 (by decide) ?_
          refine lv_iload_n (pc := 81) hx hb dX2_growsOf_81 rfl (lv_at hl 0 rfl) ?_
          refine lv_iadd (pc := 82) hx hb dX2_growsOf_82 ?_
          refine lv_iconst (pc := 83) (v := (nI 2)) hx hb dX2_growsOf_83 (by decide) ?_
          refine lv_imul (pc := 84) hx hb dX2_growsOf_84 ?_
          exact z_iret (pc := 85) (fun q => q) hx hb hr hlocks hF rfl hQ dX2_growsOf_85
        · have hF := (z_if _ hF).2 c_43_3
          by_cases c_43_4 : (v_kind x1.toNatClampNeg) = nI 4
          · have hF := (z_if _ hF).1 c_43_4
            refine lv_tableIn (pc := 43) (off := 51) (tgt := 94) hx hb dX2_growsOf_43 (by rw [c_43_4]; decide) (by rw [c_43_4]; decide) (by rw [c_43_4]; rfl) (by decide) ?_
            refine lv_iconst (pc := 94) (v := (nI 2)) hx hb dX2_growsOf_94 (by decide) ?_
            refine lv_aload_n (pc := 95) hx hb dX2_growsOf_95 rfl (lv_at hl 1 rfl) ?_
            refine lv_iload_n (pc := 96) hx hb dX2_growsOf_96 rfl (lv_at hl 2 rfl) ?_
            obtain ⟨u97, hu97, hF⟩ := z_bind hF
            refine zq_call (oc0 := (some (.int u97))) (va_runV (As := [.int x1]) (rest := [.int (nI 2)]) ⟨hx, hb, hml, hown, hts⟩ (tX2_othersBy (l := l) (D := D) (cB := cB) (cI := cI) (cJ := cJ) (cO := cO) h0 h_on (.ref h_laws) (.ref h_ground) g_seen (.ref h_kind) g_hand g_size g_away g_nightsPassed g_glances g_draws g_gained g_paintedOn g_wallLooks v_count v_on x1 u97 hu97) (cwV 1 hts gX2_growsOf_X2_othersBy rfl rfl rfl (by decide +kernel) ⟨Nat.le_of_ble_eq_true rfl, Nat.le_of_ble_eq_true rfl⟩) ⟨zPre_blind, va_recv hK hP (ci := 2) (q0 := 0) rfl rfl, zPre_at hP hE hD [0, 4] rfl rfl⟩ rfl rfl hl.1 rfl (lv_room (Nat.le_of_ble_eq_true rfl)) dX2_growsOf_97 ⟨Nat.zero_le _, Nat.zero_le _⟩) ?_
            refine W.eq (g2 := F0 m 100 ls [.int u97, .int (nI 2)]) rfl ?_
            refine lv_isub (pc := 100) hx hb dX2_growsOf_100 ?_
            refine lv_iconst (pc := 101) (v := (nI 3)) hx hb dX2_growsOf_101 (by decide) ?_
            refine lv_iadd (pc := 102) hx hb dX2_growsOf_102 ?_
            exact z_iret (pc := 103) (fun q => q) hx hb hr hlocks hF rfl hQ dX2_growsOf_103
          · have hF := (z_if _ hF).2 c_43_4
            by_cases c_43_5 : (v_kind x1.toNatClampNeg) = nI 5
            · have hF := (z_if _ hF).1 c_43_5
              refine lv_tableIn (pc := 43) (off := 61) (tgt := 104) hx hb dX2_growsOf_43 (by rw [c_43_5]; decide) (by rw [c_43_5]; decide) (by rw [c_43_5]; rfl) (by decide) ?_
              refine lv_iconst (pc := 104) (v := (nI 0)) hx hb dX2_growsOf_104 (by decide) ?_
              exact z_iret (pc := 105) (fun q => q) hx hb hr hlocks hF rfl hQ dX2_growsOf_105
            · have hF := (z_if _ hF).2 c_43_5
              refine lv_tableOut (pc := 43) (tgt := 106) hx hb dX2_growsOf_43 (by have q0 : ¬ (v_kind x1.toNatClampNeg).toInt = 1 := lv_neT c_43_1 (by decide); have q1 : ¬ (v_kind x1.toNatClampNeg).toInt = 2 := lv_neT c_43_2 (by decide); have q2 : ¬ (v_kind x1.toNatClampNeg).toInt = 3 := lv_neT c_43_3 (by decide); have q3 : ¬ (v_kind x1.toNatClampNeg).toInt = 4 := lv_neT c_43_4 (by decide); have q4 : ¬ (v_kind x1.toNatClampNeg).toInt = 5 := lv_neT c_43_5 (by decide); omega) (by decide) ?_
              refine lv_iconst (pc := 106) (v := (nI 2)) hx hb dX2_growsOf_106 (by decide) ?_
              exact z_iret (pc := 107) (fun q => q) hx hb hr hlocks hF rfl hQ dX2_growsOf_107
  refine zb_icmp_eq (pc := 8) (tgt := 35) hx hb dX2_growsOf_8 (by decide) hF (fun c_8 hF => ?_) (fun c_8 hF => ?_)
  · refine lv_iconst (pc := 35) (v := (nI 0)) hx hb dX2_growsOf_35 (by decide) ?_
    exact kJ_2 (nI 0) hF ls (lv_sub hl [0, 1] rfl)
  · refine lv_aload_n (pc := 11) hx hb dX2_growsOf_11 rfl (lv_at hl 0 rfl) ?_
    refine va_get (D := D) (pc := 12) (ci := 2) (v := .ref h_ground) (C := RX2) (T := TX2) (N := 15) hx hb hts nX2_growsOf_X2 hown hK hP 0 rfl rfl 1 (by decide) (hts _ kX2_growsOf_2) (fun _ h9 => h9) rfl dX2_growsOf_12 ?_
    refine lv_aload_n (pc := 15) hx hb dX2_growsOf_15 rfl (lv_at hl 0 rfl) ?_
    refine va_get (D := D) (pc := 16) (ci := 2) (v := .ref h_on) (C := RX2) (T := TX2) (N := 15) hx hb hts nX2_growsOf_X2 hown hK hP 0 rfl rfl 7 (by decide) (hts _ kX2_growsOf_0) (fun _ h9 => h9) rfl dX2_growsOf_16 ?_
    refine lv_iload_n (pc := 19) hx hb dX2_growsOf_19 rfl (lv_at hl 1 rfl) ?_
    refine za_iald (pc := 20) hx hb hK hP 4 1 rfl rfl dX2_growsOf_20 hF (fun hF => ?_)
    refine za_iald (pc := 21) hx hb hK hP 2 1 rfl rfl dX2_growsOf_21 hF (fun hF => ?_)
    refine lv_iconst (pc := 22) (v := (nI 1)) hx hb dX2_growsOf_22 (by decide) ?_
    refine zb_icmp_ne (pc := 23) (tgt := 35) hx hb dX2_growsOf_23 (by decide) hF (fun c_23 hF => ?_) (fun c_23 hF => ?_)
    · refine lv_iconst (pc := 35) (v := (nI 0)) hx hb dX2_growsOf_35 (by decide) ?_
      exact kJ_2 (nI 0) hF ls (lv_sub hl [0, 1] rfl)
    · refine lv_aload_n (pc := 26) hx hb dX2_growsOf_26 rfl (lv_at hl 0 rfl) ?_
      refine va_get (D := D) (pc := 27) (ci := 2) (v := .ref h_laws) (C := RX2) (T := TX2) (N := 15) hx hb hts nX2_growsOf_X2 hown hK hP 0 rfl rfl 0 (by decide) (hts _ kX2_growsOf_3) (fun _ h9 => h9) rfl dX2_growsOf_27 ?_
      refine lv_iconst (pc := 30) (v := (nI 1)) hx hb dX2_growsOf_30 (by decide) ?_
      refine za_ialdK (pc := 31) (k := 1) hx hb hK hP 1 1 rfl rfl (by decide) (by decide) dX2_growsOf_31 ?_
      refine lv_goto (pc := 32) (tgt := 36) hx hb dX2_growsOf_32 (by decide) ?_
      exact kJ_2 (v_laws 1) hF ls (lv_sub hl [0, 1] rfl)

abbrev rX2_holdsOf : Room := { frames := 1, cells := 0, slots := 0, locals := 23 }
abbrev wX2_holdsOf (cB cI cJ cO : ClassId) (h0 h_laws h_kind h_hand h_size h_on : Nat) (g_ground g_seen g_away g_nightsPassed g_glances g_draws g_gained g_paintedOn g_wallLooks : Value) (v_count : Int32) (v_laws : Nat → Int32) (v_kind : Nat → Int32) (v_hand : Nat → Int32) (v_size : Nat → Int32) (v_on : Nat → Int32) : va_W := [(h0, .inr (2, [.ref h_laws, g_ground, g_seen, .int v_count, .ref h_kind, .ref h_hand, .ref h_size, .ref h_on, g_away, g_nightsPassed, g_glances, g_draws, g_gained, g_paintedOn, g_wallLooks])), (h_laws, .inl (cI, 4, .inl v_laws)), (h_kind, .inl (cI, 8, .inl v_kind)), (h_hand, .inl (cI, 8, .inl v_hand)), (h_size, .inl (cI, 8, .inl v_size)), (h_on, .inl (cI, 8, .inl v_on))]
theorem nX2_holdsOf_X2 : ∀ w ∈ wsX20, w ∈ wsX2_holdsOf := by decide +kernel
theorem kX2_holdsOf_0 : Cond.fieldLink RX2 27 "PaintedWalls$Town" "size" "[I" ∈ wsX2_holdsOf := by decide +kernel
theorem kX2_holdsOf_1 : Cond.fieldLink RX2 21 "PaintedWalls$Town" "kind" "[I" ∈ wsX2_holdsOf := by decide +kernel
theorem kX2_holdsOf_2 : Cond.fieldLink RX2 9 "PaintedWalls$Town" "laws" "[I" ∈ wsX2_holdsOf := by decide +kernel
theorem kX2_holdsOf_3 : Cond.fieldLink RX2 24 "PaintedWalls$Town" "hand" "[I" ∈ wsX2_holdsOf := by decide +kernel
set_option maxHeartbeats 4000000 in
set_option maxRecDepth 100000 in
theorem tX2_holdsOf {l : Launch} {D : va_G} {cB cI cJ cO : ClassId} (h0 h_laws h_kind h_hand h_size h_on : Nat) (g_ground g_seen g_away g_nightsPassed g_glances g_draws g_gained g_paintedOn g_wallLooks : Value) (v_count : Int32) (v_laws : Nat → Int32) (v_kind : Nat → Int32) (v_hand : Nat → Int32) (v_size : Nat → Int32) (v_on : Nat → Int32) (x1 : Int32) (r : Int32) (hF : fX2_holdsOf v_count v_laws v_kind v_hand v_size v_on x1 = some r) : Met l yX2_holdsOf wsX2_holdsOf rX2_holdsOf (zPre D cB cI cJ cO [.ref h0, .int x1] (wX2_holdsOf cB cI cJ cO h0 h_laws h_kind h_hand h_size h_on g_ground g_seen g_away g_nightsPassed g_glances g_draws g_gained g_paintedOn g_wallLooks v_count v_laws v_kind v_hand v_size v_on)) (zPI (some (.int r))) 0 0 (fun _ => False) := by
  refine zMetP (cc := cX2_holdsOf) (maxL := 3) (ret := (some .int)) (lv := [(0, .ref h0), (1, .int x1)]) (by decide) rfl (Nat.le_of_ble_eq_true rfl) rfl ?_
  intro p e s m args below meth c ls Q hQ hx hb hr hml hown hts hlocks hname hP hE hD hl
  have hown : s.vm.findClass RX2 = some m.cls := hown
  have hK := hE.1
  unfold fX2_holdsOf at hF
  refine lv_aload_n (pc := 0) hx hb dX2_holdsOf_0 rfl (lv_at hl 0 rfl) ?_
  refine va_get (D := D) (pc := 1) (ci := 2) (v := .ref h_size) (C := RX2) (T := TX2) (N := 15) hx hb hts nX2_holdsOf_X2 hown hK hP 0 rfl rfl 6 (by decide) (hts _ kX2_holdsOf_0) (fun _ h9 => h9) rfl dX2_holdsOf_1 ?_
  refine lv_iload_n (pc := 4) hx hb dX2_holdsOf_4 rfl (lv_at hl 1 rfl) ?_
  refine za_iald (pc := 5) hx hb hK hP 4 1 rfl rfl dX2_holdsOf_5 hF (fun hF => ?_)
  refine lv_iconst (pc := 6) (v := (nI 2)) hx hb dX2_holdsOf_6 (by decide) ?_
  refine lv_idiv (pc := 7) hx hb dX2_holdsOf_7 (by decide) ?_
  refine lv_istore_n (pc := 8) (lv' := [(2, .int ((v_size x1.toNatClampNeg) / (nI 2))), (0, .ref h0), (1, .int x1)]) hx hb dX2_holdsOf_8 rfl hl (by decide) rfl (fun ls hl => ?_)
  refine lv_aload_n (pc := 9) hx hb dX2_holdsOf_9 rfl (lv_at hl 1 rfl) ?_
  refine va_get (D := D) (pc := 10) (ci := 2) (v := .ref h_kind) (C := RX2) (T := TX2) (N := 15) hx hb hts nX2_holdsOf_X2 hown hK hP 0 rfl rfl 4 (by decide) (hts _ kX2_holdsOf_1) (fun _ h9 => h9) rfl dX2_holdsOf_10 ?_
  refine lv_iload_n (pc := 13) hx hb dX2_holdsOf_13 rfl (lv_at hl 2 rfl) ?_
  refine za_iald (pc := 14) hx hb hK hP 2 1 rfl rfl dX2_holdsOf_14 hF (fun hF => ?_)
  by_cases c_15_1 : (v_kind x1.toNatClampNeg) = nI 1
  · have hF := (z_if _ hF).1 c_15_1
    refine lv_tableIn (pc := 15) (off := 33) (tgt := 48) hx hb dX2_holdsOf_15 (by rw [c_15_1]; decide) (by rw [c_15_1]; decide) (by rw [c_15_1]; rfl) (by decide) ?_
    refine lv_iload_n (pc := 48) hx hb dX2_holdsOf_48 rfl (lv_at hl 0 rfl) ?_
    refine lv_aload_n (pc := 49) hx hb dX2_holdsOf_49 rfl (lv_at hl 1 rfl) ?_
    refine va_get (D := D) (pc := 50) (ci := 2) (v := .ref h_laws) (C := RX2) (T := TX2) (N := 15) hx hb hts nX2_holdsOf_X2 hown hK hP 0 rfl rfl 0 (by decide) (hts _ kX2_holdsOf_2) (fun _ h9 => h9) rfl dX2_holdsOf_50 ?_
    refine lv_iconst (pc := 53) (v := (nI 1)) hx hb dX2_holdsOf_53 (by decide) ?_
    refine za_ialdK (pc := 54) (k := 1) hx hb hK hP 1 1 rfl rfl (by decide) (by decide) dX2_holdsOf_54 ?_
    refine lv_isub (pc := 55) hx hb dX2_holdsOf_55 ?_
    exact z_iret (pc := 56) (fun q => q) hx hb hr hlocks hF rfl hQ dX2_holdsOf_56
  · have hF := (z_if _ hF).2 c_15_1
    by_cases c_15_2 : (v_kind x1.toNatClampNeg) = nI 2
    · have hF := (z_if _ hF).1 c_15_2
      refine lv_tableIn (pc := 15) (off := 58) (tgt := 73) hx hb dX2_holdsOf_15 (by rw [c_15_2]; decide) (by rw [c_15_2]; decide) (by rw [c_15_2]; rfl) (by decide) ?_
      refine lv_iload_n (pc := 73) hx hb dX2_holdsOf_73 rfl (lv_at hl 0 rfl) ?_
      refine lv_iconst (pc := 74) (v := (nI 5)) hx hb dX2_holdsOf_74 (by decide) ?_
      refine lv_iadd (pc := 75) hx hb dX2_holdsOf_75 ?_
      exact z_iret (pc := 76) (fun q => q) hx hb hr hlocks hF rfl hQ dX2_holdsOf_76
    · have hF := (z_if _ hF).2 c_15_2
      by_cases c_15_3 : (v_kind x1.toNatClampNeg) = nI 3
      · have hF := (z_if _ hF).1 c_15_3
        refine lv_tableIn (pc := 15) (off := 42) (tgt := 57) hx hb dX2_holdsOf_15 (by rw [c_15_3]; decide) (by rw [c_15_3]; decide) (by rw [c_15_3]; rfl) (by decide) ?_
        refine lv_iload_n (pc := 57) hx hb dX2_holdsOf_57 rfl (lv_at hl 0 rfl) ?_
        refine lv_aload_n (pc := 58) hx hb dX2_holdsOf_58 rfl (lv_at hl 1 rfl) ?_
        refine va_get (D := D) (pc := 59) (ci := 2) (v := .ref h_laws) (C := RX2) (T := TX2) (N := 15) hx hb hts nX2_holdsOf_X2 hown hK hP 0 rfl rfl 0 (by decide) (hts _ kX2_holdsOf_2) (fun _ h9 => h9) rfl dX2_holdsOf_59 ?_
        refine lv_iconst (pc := 62) (v := (nI 1)) hx hb dX2_holdsOf_62 (by decide) ?_
        refine za_ialdK (pc := 63) (k := 1) hx hb hK hP 1 1 rfl rfl (by decide) (by decide) dX2_holdsOf_63 ?_
        refine lv_isub (pc := 64) hx hb dX2_holdsOf_64 ?_
        refine lv_aload_n (pc := 65) hx hb dX2_holdsOf_65 rfl (lv_at hl 1 rfl) ?_
        refine va_get (D := D) (pc := 66) (ci := 2) (v := .ref h_hand) (C := RX2) (T := TX2) (N := 15) hx hb hts nX2_holdsOf_X2 hown hK hP 0 rfl rfl 5 (by decide) (hts _ kX2_holdsOf_3) (fun _ h9 => h9) rfl dX2_holdsOf_66 ?_
        refine lv_iload_n (pc := 69) hx hb dX2_holdsOf_69 rfl (lv_at hl 2 rfl) ?_
        refine za_iald (pc := 70) hx hb hK hP 3 1 rfl rfl dX2_holdsOf_70 hF (fun hF => ?_)
        refine lv_iadd (pc := 71) hx hb dX2_holdsOf_71 ?_
        exact z_iret (pc := 72) (fun q => q) hx hb hr hlocks hF rfl hQ dX2_holdsOf_72
      · have hF := (z_if _ hF).2 c_15_3
        by_cases c_15_4 : (v_kind x1.toNatClampNeg) = nI 4
        · have hF := (z_if _ hF).1 c_15_4
          refine lv_tableIn (pc := 15) (off := 62) (tgt := 77) hx hb dX2_holdsOf_15 (by rw [c_15_4]; decide) (by rw [c_15_4]; decide) (by rw [c_15_4]; rfl) (by decide) ?_
          refine lv_iload_n (pc := 77) hx hb dX2_holdsOf_77 rfl (lv_at hl 0 rfl) ?_
          refine lv_iconst (pc := 78) (v := (nI 5)) hx hb dX2_holdsOf_78 (by decide) ?_
          refine lv_iadd (pc := 79) hx hb dX2_holdsOf_79 ?_
          refine lv_aload_n (pc := 80) hx hb dX2_holdsOf_80 rfl (lv_at hl 1 rfl) ?_
          refine lv_iload_n (pc := 81) hx hb dX2_holdsOf_81 rfl (lv_at hl 2 rfl) ?_
          obtain ⟨u82, hu82, hF⟩ := z_bind hF
          refine zq_call (oc0 := (some (.int u82))) (va_runV (As := [.int x1]) (rest := [.int (((v_size x1.toNatClampNeg) / (nI 2)) + (nI 5))]) ⟨hx, hb, hml, hown, hts⟩ (tX2_othersBy (l := l) (D := D) (cB := cB) (cI := cI) (cJ := cJ) (cO := cO) h0 h_on (.ref h_laws) g_ground g_seen (.ref h_kind) (.ref h_hand) (.ref h_size) g_away g_nightsPassed g_glances g_draws g_gained g_paintedOn g_wallLooks v_count v_on x1 u82 hu82) (cwV 1 hts gX2_holdsOf_X2_othersBy rfl rfl rfl (by decide +kernel) ⟨Nat.le_of_ble_eq_true rfl, Nat.le_of_ble_eq_true rfl⟩) ⟨zPre_blind, va_recv hK hP (ci := 2) (q0 := 0) rfl rfl, zPre_at hP hE hD [0, 5] rfl rfl⟩ rfl rfl hl.1 rfl (lv_room (Nat.le_of_ble_eq_true rfl)) dX2_holdsOf_82 ⟨Nat.zero_le _, Nat.zero_le _⟩) ?_
          refine W.eq (g2 := F0 m 85 ls [.int u82, .int (((v_size x1.toNatClampNeg) / (nI 2)) + (nI 5))]) rfl ?_
          refine lv_iadd (pc := 85) hx hb dX2_holdsOf_85 ?_
          exact z_iret (pc := 86) (fun q => q) hx hb hr hlocks hF rfl hQ dX2_holdsOf_86
        · have hF := (z_if _ hF).2 c_15_4
          by_cases c_15_5 : (v_kind x1.toNatClampNeg) = nI 5
          · have hF := (z_if _ hF).1 c_15_5
            refine lv_tableIn (pc := 15) (off := 72) (tgt := 87) hx hb dX2_holdsOf_15 (by rw [c_15_5]; decide) (by rw [c_15_5]; decide) (by rw [c_15_5]; rfl) (by decide) ?_
            refine lv_bipush (pc := 87) (v := (nI 99)) hx hb dX2_holdsOf_87 (by decide) ?_
            exact z_iret (pc := 89) (fun q => q) hx hb hr hlocks hF rfl hQ dX2_holdsOf_89
          · have hF := (z_if _ hF).2 c_15_5
            refine lv_tableOut (pc := 15) (tgt := 90) hx hb dX2_holdsOf_15 (by have q0 : ¬ (v_kind x1.toNatClampNeg).toInt = 1 := lv_neT c_15_1 (by decide); have q1 : ¬ (v_kind x1.toNatClampNeg).toInt = 2 := lv_neT c_15_2 (by decide); have q2 : ¬ (v_kind x1.toNatClampNeg).toInt = 3 := lv_neT c_15_3 (by decide); have q3 : ¬ (v_kind x1.toNatClampNeg).toInt = 4 := lv_neT c_15_4 (by decide); have q4 : ¬ (v_kind x1.toNatClampNeg).toInt = 5 := lv_neT c_15_5 (by decide); omega) (by decide) ?_
            refine lv_iload_n (pc := 90) hx hb dX2_holdsOf_90 rfl (lv_at hl 0 rfl) ?_
            exact z_iret (pc := 91) (fun q => q) hx hb hr hlocks hF rfl hQ dX2_holdsOf_91

abbrev rX2_backOf : Room := { frames := 0, cells := 0, slots := 0, locals := 0 }
abbrev wX2_backOf (cB cI cJ cO : ClassId) (h0 h_kind h_hand : Nat) (g_laws g_ground g_seen g_count g_size g_on g_away g_nightsPassed g_glances g_draws g_gained g_paintedOn g_wallLooks : Value) (v_kind : Nat → Int32) (v_hand : Nat → Int32) : va_W := [(h0, .inr (2, [g_laws, g_ground, g_seen, g_count, .ref h_kind, .ref h_hand, g_size, g_on, g_away, g_nightsPassed, g_glances, g_draws, g_gained, g_paintedOn, g_wallLooks])), (h_kind, .inl (cI, 8, .inl v_kind)), (h_hand, .inl (cI, 8, .inl v_hand))]
theorem nX2_backOf_X2 : ∀ w ∈ wsX20, w ∈ wsX2_backOf := by decide +kernel
theorem kX2_backOf_0 : Cond.fieldLink RX2 21 "PaintedWalls$Town" "kind" "[I" ∈ wsX2_backOf := by decide +kernel
theorem kX2_backOf_1 : Cond.fieldLink RX2 24 "PaintedWalls$Town" "hand" "[I" ∈ wsX2_backOf := by decide +kernel
set_option maxHeartbeats 4000000 in
set_option maxRecDepth 100000 in
theorem tX2_backOf {l : Launch} {D : va_G} {cB cI cJ cO : ClassId} (h0 h_kind h_hand : Nat) (g_laws g_ground g_seen g_count g_size g_on g_away g_nightsPassed g_glances g_draws g_gained g_paintedOn g_wallLooks : Value) (v_kind : Nat → Int32) (v_hand : Nat → Int32) (x1 : Int32) (r : Int32) (hF : fX2_backOf v_kind v_hand x1 = some r) : Met l yX2_backOf wsX2_backOf rX2_backOf (zPre D cB cI cJ cO [.ref h0, .int x1] (wX2_backOf cB cI cJ cO h0 h_kind h_hand g_laws g_ground g_seen g_count g_size g_on g_away g_nightsPassed g_glances g_draws g_gained g_paintedOn g_wallLooks v_kind v_hand)) (zPI (some (.int r))) 0 0 (fun _ => False) := by
  refine zMetP (cc := cX2_backOf) (maxL := 2) (ret := (some .int)) (lv := [(0, .ref h0), (1, .int x1)]) (by decide) rfl (Nat.le_of_ble_eq_true rfl) rfl ?_
  intro p e s m args below meth c ls Q hQ hx hb hr hml hown hts hlocks hname hP hE hD hl
  have hown : s.vm.findClass RX2 = some m.cls := hown
  have hK := hE.1
  unfold fX2_backOf at hF
  refine lv_aload_n (pc := 0) hx hb dX2_backOf_0 rfl (lv_at hl 0 rfl) ?_
  refine va_get (D := D) (pc := 1) (ci := 2) (v := .ref h_kind) (C := RX2) (T := TX2) (N := 15) hx hb hts nX2_backOf_X2 hown hK hP 0 rfl rfl 4 (by decide) (hts _ kX2_backOf_0) (fun _ h9 => h9) rfl dX2_backOf_1 ?_
  refine lv_iload_n (pc := 4) hx hb dX2_backOf_4 rfl (lv_at hl 1 rfl) ?_
  refine za_iald (pc := 5) hx hb hK hP 1 1 rfl rfl dX2_backOf_5 hF (fun hF => ?_)
  by_cases c_6_1 : (v_kind x1.toNatClampNeg) = nI 1
  · have hF := (z_if _ hF).1 c_6_1
    refine lv_tableIn (pc := 6) (off := 34) (tgt := 40) hx hb dX2_backOf_6 (by rw [c_6_1]; decide) (by rw [c_6_1]; decide) (by rw [c_6_1]; rfl) (by decide) ?_
    refine lv_iconst (pc := 40) (v := (nI 1)) hx hb dX2_backOf_40 (by decide) ?_
    exact z_iret (pc := 41) (fun q => q) hx hb hr hlocks hF rfl hQ dX2_backOf_41
  · have hF := (z_if _ hF).2 c_6_1
    by_cases c_6_2 : (v_kind x1.toNatClampNeg) = nI 2
    · have hF := (z_if _ hF).1 c_6_2
      refine lv_tableIn (pc := 6) (off := 38) (tgt := 44) hx hb dX2_backOf_6 (by rw [c_6_2]; decide) (by rw [c_6_2]; decide) (by rw [c_6_2]; rfl) (by decide) ?_
      refine lv_iconst (pc := 44) (v := (nI 3)) hx hb dX2_backOf_44 (by decide) ?_
      refine lv_aload_n (pc := 45) hx hb dX2_backOf_45 rfl (lv_at hl 0 rfl) ?_
      refine va_get (D := D) (pc := 46) (ci := 2) (v := .ref h_hand) (C := RX2) (T := TX2) (N := 15) hx hb hts nX2_backOf_X2 hown hK hP 0 rfl rfl 5 (by decide) (hts _ kX2_backOf_1) (fun _ h9 => h9) rfl dX2_backOf_46 ?_
      refine lv_iload_n (pc := 49) hx hb dX2_backOf_49 rfl (lv_at hl 1 rfl) ?_
      refine za_iald (pc := 50) hx hb hK hP 2 1 rfl rfl dX2_backOf_50 hF (fun hF => ?_)
      refine lv_iadd (pc := 51) hx hb dX2_backOf_51 ?_
      exact z_iret (pc := 52) (fun q => q) hx hb hr hlocks hF rfl hQ dX2_backOf_52
    · have hF := (z_if _ hF).2 c_6_2
      by_cases c_6_3 : (v_kind x1.toNatClampNeg) = nI 3
      · have hF := (z_if _ hF).1 c_6_3
        refine lv_tableIn (pc := 6) (off := 36) (tgt := 42) hx hb dX2_backOf_6 (by rw [c_6_3]; decide) (by rw [c_6_3]; decide) (by rw [c_6_3]; rfl) (by decide) ?_
        refine lv_iconst (pc := 42) (v := (nI 1)) hx hb dX2_backOf_42 (by decide) ?_
        exact z_iret (pc := 43) (fun q => q) hx hb hr hlocks hF rfl hQ dX2_backOf_43
      · have hF := (z_if _ hF).2 c_6_3
        by_cases c_6_4 : (v_kind x1.toNatClampNeg) = nI 4
        · have hF := (z_if _ hF).1 c_6_4
          refine lv_tableIn (pc := 6) (off := 47) (tgt := 53) hx hb dX2_backOf_6 (by rw [c_6_4]; decide) (by rw [c_6_4]; decide) (by rw [c_6_4]; rfl) (by decide) ?_
          refine lv_iconst (pc := 53) (v := (nI 3)) hx hb dX2_backOf_53 (by decide) ?_
          refine lv_aload_n (pc := 54) hx hb dX2_backOf_54 rfl (lv_at hl 0 rfl) ?_
          refine va_get (D := D) (pc := 55) (ci := 2) (v := .ref h_hand) (C := RX2) (T := TX2) (N := 15) hx hb hts nX2_backOf_X2 hown hK hP 0 rfl rfl 5 (by decide) (hts _ kX2_backOf_1) (fun _ h9 => h9) rfl dX2_backOf_55 ?_
          refine lv_iload_n (pc := 58) hx hb dX2_backOf_58 rfl (lv_at hl 1 rfl) ?_
          refine za_iald (pc := 59) hx hb hK hP 2 1 rfl rfl dX2_backOf_59 hF (fun hF => ?_)
          refine lv_iadd (pc := 60) hx hb dX2_backOf_60 ?_
          refine lv_iconst (pc := 61) (v := (nI 2)) hx hb dX2_backOf_61 (by decide) ?_
          refine lv_idiv (pc := 62) hx hb dX2_backOf_62 (by decide) ?_
          exact z_iret (pc := 63) (fun q => q) hx hb hr hlocks hF rfl hQ dX2_backOf_63
        · have hF := (z_if _ hF).2 c_6_4
          by_cases c_6_5 : (v_kind x1.toNatClampNeg) = nI 5
          · have hF := (z_if _ hF).1 c_6_5
            refine lv_tableIn (pc := 6) (off := 58) (tgt := 64) hx hb dX2_backOf_6 (by rw [c_6_5]; decide) (by rw [c_6_5]; decide) (by rw [c_6_5]; rfl) (by decide) ?_
            refine lv_bipush (pc := 64) (v := (nI 9)) hx hb dX2_backOf_64 (by decide) ?_
            exact z_iret (pc := 66) (fun q => q) hx hb hr hlocks hF rfl hQ dX2_backOf_66
          · have hF := (z_if _ hF).2 c_6_5
            refine lv_tableOut (pc := 6) (tgt := 67) hx hb dX2_backOf_6 (by have q0 : ¬ (v_kind x1.toNatClampNeg).toInt = 1 := lv_neT c_6_1 (by decide); have q1 : ¬ (v_kind x1.toNatClampNeg).toInt = 2 := lv_neT c_6_2 (by decide); have q2 : ¬ (v_kind x1.toNatClampNeg).toInt = 3 := lv_neT c_6_3 (by decide); have q3 : ¬ (v_kind x1.toNatClampNeg).toInt = 4 := lv_neT c_6_4 (by decide); have q4 : ¬ (v_kind x1.toNatClampNeg).toInt = 5 := lv_neT c_6_5 (by decide); omega) (by decide) ?_
            refine lv_iconst (pc := 67) (v := (nI 3)) hx hb dX2_backOf_67 (by decide) ?_
            exact z_iret (pc := 68) (fun q => q) hx hb hr hlocks hF rfl hQ dX2_backOf_68

abbrev rX2_looksOf : Room := { frames := 0, cells := 0, slots := 0, locals := 0 }
abbrev wX2_looksOf (cB cI cJ cO : ClassId) (h0 h_seen h_size h_on : Nat) (g_laws g_ground g_kind g_hand g_away g_nightsPassed g_glances g_draws g_gained g_paintedOn g_wallLooks : Value) (v_count : Int32) (v_seen : Nat → Int32) (v_size : Nat → Int32) (v_on : Nat → Int32) : va_W := [(h0, .inr (2, [g_laws, g_ground, .ref h_seen, .int v_count, g_kind, g_hand, .ref h_size, .ref h_on, g_away, g_nightsPassed, g_glances, g_draws, g_gained, g_paintedOn, g_wallLooks])), (h_seen, .inl (cI, 10, .inl v_seen)), (h_size, .inl (cI, 8, .inl v_size)), (h_on, .inl (cI, 8, .inl v_on))]
theorem nX2_looksOf_X2 : ∀ w ∈ wsX20, w ∈ wsX2_looksOf := by decide +kernel
theorem kX2_looksOf_0 : Cond.fieldLink RX2 18 "PaintedWalls$Town" "seen" "[I" ∈ wsX2_looksOf := by decide +kernel
theorem kX2_looksOf_1 : Cond.fieldLink RX2 49 "PaintedWalls$Town" "count" "I" ∈ wsX2_looksOf := by decide +kernel
theorem kX2_looksOf_2 : Cond.fieldLink RX2 30 "PaintedWalls$Town" "on" "[I" ∈ wsX2_looksOf := by decide +kernel
theorem kX2_looksOf_3 : Cond.fieldLink RX2 27 "PaintedWalls$Town" "size" "[I" ∈ wsX2_looksOf := by decide +kernel
set_option maxHeartbeats 4000000 in
set_option maxRecDepth 100000 in
theorem tX2_looksOf {l : Launch} {D : va_G} {cB cI cJ cO : ClassId} (h0 h_seen h_size h_on : Nat) (g_laws g_ground g_kind g_hand g_away g_nightsPassed g_glances g_draws g_gained g_paintedOn g_wallLooks : Value) (v_count : Int32) (v_seen : Nat → Int32) (v_size : Nat → Int32) (v_on : Nat → Int32) (x1 : Int32) (r : Int32) (hF : fX2_looksOf v_count v_seen v_size v_on x1 = some r) : Met l yX2_looksOf wsX2_looksOf rX2_looksOf (zPre D cB cI cJ cO [.ref h0, .int x1] (wX2_looksOf cB cI cJ cO h0 h_seen h_size h_on g_laws g_ground g_kind g_hand g_away g_nightsPassed g_glances g_draws g_gained g_paintedOn g_wallLooks v_count v_seen v_size v_on)) (zPI (some (.int r))) 0 0 (fun _ => False) := by
  refine zMetP (cc := cX2_looksOf) (maxL := 4) (ret := (some .int)) (lv := [(0, .ref h0), (1, .int x1)]) (by decide) rfl (Nat.le_of_ble_eq_true rfl) rfl ?_
  intro p e s m args below meth c ls Q hQ hx hb hr hml hown hts hlocks hname hP hE hD hl
  have hown : s.vm.findClass RX2 = some m.cls := hown
  have hK := hE.1
  unfold fX2_looksOf at hF
  refine lv_iconst (pc := 0) (v := (nI 0)) hx hb dX2_looksOf_0 (by decide) ?_
  refine lv_istore_n (pc := 1) (lv' := [(2, .int (nI 0)), (0, .ref h0), (1, .int x1)]) hx hb dX2_looksOf_1 rfl hl (by decide) rfl (fun ls hl => ?_)
  refine lv_iconst (pc := 2) (v := (nI 0)) hx hb dX2_looksOf_2 (by decide) ?_
  refine lv_istore_n (pc := 3) (lv' := [(3, .int (nI 0)), (2, .int (nI 0)), (0, .ref h0), (1, .int x1)]) hx hb dX2_looksOf_3 rfl hl (by decide) rfl (fun ls hl => ?_)
  obtain ⟨k_4, hk_4, hF⟩ := z_J hF
  have kk_4 : ∀ (y2_3 : Int32) , k_4 y2_3 = some r → ∀ (ls : Array Slot), lv_has ls 4 [(0, .ref h0), (1, .int x1), (2, .int y2_3)] → W p l e rX2_looksOf s m args below meth c s.heap [] 0 0 Q (F0 m 37 ls []) := by
    intro y2_3 hF ls hl
    rw [hk_4] at hF
    refine lv_aload_n (pc := 37) hx hb dX2_looksOf_37 rfl (lv_at hl 0 rfl) ?_
    refine va_get (D := D) (pc := 38) (ci := 2) (v := .ref h_seen) (C := RX2) (T := TX2) (N := 15) hx hb hts nX2_looksOf_X2 hown hK hP 0 rfl rfl 2 (by decide) (hts _ kX2_looksOf_0) (fun _ h9 => h9) rfl dX2_looksOf_38 ?_
    refine lv_iload_n (pc := 41) hx hb dX2_looksOf_41 rfl (lv_at hl 1 rfl) ?_
    refine za_iald (pc := 42) hx hb hK hP 1 1 rfl rfl dX2_looksOf_42 hF (fun hF => ?_)
    refine lv_iload_n (pc := 43) hx hb dX2_looksOf_43 rfl (lv_at hl 2 rfl) ?_
    refine lv_imul (pc := 44) hx hb dX2_looksOf_44 ?_
    exact z_iret (pc := 45) (fun q => q) hx hb hr hlocks hF rfl hQ dX2_looksOf_45
  have hL_4 : ∀ (n : Nat) (y2_1 : Int32) (y3_2 : Int32) , fX2_looksOf_L4 v_count v_size v_on x1 k_4 n y2_1 y3_2 = some r → ∀ (ls : Array Slot), lv_has ls 4 [(0, .ref h0), (1, .int x1), (2, .int y2_1), (3, .int y3_2)] → W p l e rX2_looksOf s m args below meth c s.heap [] 0 0 Q (F0 m 4 ls []) := by
    intro n
    induction n with
    | zero =>
      intro y2_1 y3_2 hF ls hl
      exact z_no hF
    | succ n ih =>
      intro y2_1 y3_2 hF ls hl
      rw [fX2_looksOf_L4] at hF
      refine lv_iload_n (pc := 4) hx hb dX2_looksOf_4 rfl (lv_at hl 3 rfl) ?_
      refine lv_aload_n (pc := 5) hx hb dX2_looksOf_5 rfl (lv_at hl 0 rfl) ?_
      refine va_get (D := D) (pc := 6) (ci := 2) (v := .int v_count) (C := RX2) (T := TX2) (N := 15) hx hb hts nX2_looksOf_X2 hown hK hP 0 rfl rfl 3 (by decide) (hts _ kX2_looksOf_1) (fun _ h9 => h9) rfl dX2_looksOf_6 ?_
      refine zb_icmp_ge (pc := 9) (tgt := 37) hx hb dX2_looksOf_9 (by decide) hF (fun c_9 hF => ?_) (fun c_9 hF => ?_)
      · exact kk_4 y2_1 hF ls (lv_sub hl [0, 1, 2] rfl)
      · refine lv_aload_n (pc := 12) hx hb dX2_looksOf_12 rfl (lv_at hl 0 rfl) ?_
        refine va_get (D := D) (pc := 13) (ci := 2) (v := .ref h_on) (C := RX2) (T := TX2) (N := 15) hx hb hts nX2_looksOf_X2 hown hK hP 0 rfl rfl 7 (by decide) (hts _ kX2_looksOf_2) (fun _ h9 => h9) rfl dX2_looksOf_13 ?_
        refine lv_iload_n (pc := 16) hx hb dX2_looksOf_16 rfl (lv_at hl 3 rfl) ?_
        refine za_iald (pc := 17) hx hb hK hP 3 1 rfl rfl dX2_looksOf_17 hF (fun hF => ?_)
        refine lv_iload_n (pc := 18) hx hb dX2_looksOf_18 rfl (lv_at hl 1 rfl) ?_
        refine zb_icmp_ne (pc := 19) (tgt := 31) hx hb dX2_looksOf_19 (by decide) hF (fun c_19 hF => ?_) (fun c_19 hF => ?_)
        · refine lv_iinc (pc := 31) (v := (y3_2 + 1)) (lv' := [(3, .int (y3_2 + 1)), (0, .ref h0), (1, .int x1), (2, .int y2_1)]) hx hb dX2_looksOf_31 hl (k := 3) rfl rfl (by decide) rfl (fun ls hl => ?_)
          refine lv_goto (pc := 34) (tgt := 4) hx hb dX2_looksOf_34 (by decide) ?_
          exact ih y2_1 (y3_2 + 1) hF ls (lv_sub hl [1, 2, 3, 0] rfl)
        · refine lv_iload_n (pc := 22) hx hb dX2_looksOf_22 rfl (lv_at hl 2 rfl) ?_
          refine lv_aload_n (pc := 23) hx hb dX2_looksOf_23 rfl (lv_at hl 0 rfl) ?_
          refine va_get (D := D) (pc := 24) (ci := 2) (v := .ref h_size) (C := RX2) (T := TX2) (N := 15) hx hb hts nX2_looksOf_X2 hown hK hP 0 rfl rfl 6 (by decide) (hts _ kX2_looksOf_3) (fun _ h9 => h9) rfl dX2_looksOf_24 ?_
          refine lv_iload_n (pc := 27) hx hb dX2_looksOf_27 rfl (lv_at hl 3 rfl) ?_
          refine za_iald (pc := 28) hx hb hK hP 2 1 rfl rfl dX2_looksOf_28 hF (fun hF => ?_)
          refine lv_iadd (pc := 29) hx hb dX2_looksOf_29 ?_
          refine lv_istore_n (pc := 30) (lv' := [(2, .int (y2_1 + (v_size y3_2.toNatClampNeg))), (0, .ref h0), (1, .int x1), (3, .int y3_2)]) hx hb dX2_looksOf_30 rfl hl (by decide) rfl (fun ls hl => ?_)
          refine lv_iinc (pc := 31) (v := (y3_2 + 1)) (lv' := [(3, .int (y3_2 + 1)), (2, .int (y2_1 + (v_size y3_2.toNatClampNeg))), (0, .ref h0), (1, .int x1)]) hx hb dX2_looksOf_31 hl (k := 3) rfl rfl (by decide) rfl (fun ls hl => ?_)
          refine lv_goto (pc := 34) (tgt := 4) hx hb dX2_looksOf_34 (by decide) ?_
          exact ih (y2_1 + (v_size y3_2.toNatClampNeg)) (y3_2 + 1) hF ls (lv_sub hl [2, 3, 1, 0] rfl)
  exact hL_4 zK (nI 0) (nI 0) hF ls (lv_sub hl [2, 3, 1, 0] rfl)
