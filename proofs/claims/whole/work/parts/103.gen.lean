abbrev rX3_sortAt : Room := { frames := 0, cells := 0, slots := 0, locals := 0 }
abbrev wX3_sortAt (cB cI cJ cO : ClassId) (h0 h_bytes : Nat) (g_town g_from g_behind g_sort : Value) (v_length : Int32) (v_bytes : Nat → Int32) : va_W := [(h0, .inr (3, [.ref h_bytes, .int v_length, g_town, g_from, g_behind, g_sort])), (h_bytes, .inl (cB, 200, .inl v_bytes))]
theorem nX3_sortAt_X3 : ∀ w ∈ wsX30, w ∈ wsX3_sortAt := by decide +kernel
theorem kX3_sortAt_0 : Cond.fieldLink RX3 21 "PaintedWalls$TownText" "length" "I" ∈ wsX3_sortAt := by decide +kernel
theorem kX3_sortAt_1 : Cond.fieldLink RX3 9 "PaintedWalls$TownText" "bytes" "[B" ∈ wsX3_sortAt := by decide +kernel
set_option maxHeartbeats 4000000 in
set_option maxRecDepth 100000 in
theorem tX3_sortAt {l : Launch} {D : va_G} {cB cI cJ cO : ClassId} (h0 h_bytes : Nat) (g_town g_from g_behind g_sort : Value) (v_length : Int32) (v_bytes : Nat → Int32) (x1 : Int32) (r : Int32) (hF : fX3_sortAt v_length v_bytes x1 = some r) : Met l yX3_sortAt wsX3_sortAt rX3_sortAt (zPre D cB cI cJ cO [.ref h0, .int x1] (wX3_sortAt cB cI cJ cO h0 h_bytes g_town g_from g_behind g_sort v_length v_bytes)) (zPI (some (.int r))) 0 0 (fun _ => False) := by
  refine zMetP (cc := cX3_sortAt) (maxL := 3) (ret := (some .int)) (lv := [(0, .ref h0), (1, .int x1)]) (by decide) rfl (Nat.le_of_ble_eq_true rfl) rfl ?_
  intro p e s m args below meth c ls Q hQ hx hb hr hml hown hts hlocks hname hP hE hD hl
  have hown : s.vm.findClass RX3 = some m.cls := hown
  have hK := hE.1
  unfold fX3_sortAt at hF
  refine lv_iload_n (pc := 0) hx hb dX3_sortAt_0 rfl (lv_at hl 1 rfl) ?_
  refine lv_aload_n (pc := 1) hx hb dX3_sortAt_1 rfl (lv_at hl 0 rfl) ?_
  refine va_get (D := D) (pc := 2) (ci := 3) (v := .int v_length) (C := RX3) (T := TX3) (N := 6) hx hb hts nX3_sortAt_X3 hown hK hP 0 rfl rfl 1 (by decide) (hts _ kX3_sortAt_0) (fun _ h9 => h9) rfl dX3_sortAt_2 ?_
  refine zb_icmp_lt (pc := 5) (tgt := 10) hx hb dX3_sortAt_5 (by decide) hF (fun c_5 hF => ?_) (fun c_5 hF => ?_)
  · refine lv_aload_n (pc := 10) hx hb dX3_sortAt_10 rfl (lv_at hl 0 rfl) ?_
    refine va_get (D := D) (pc := 11) (ci := 3) (v := .ref h_bytes) (C := RX3) (T := TX3) (N := 6) hx hb hts nX3_sortAt_X3 hown hK hP 0 rfl rfl 0 (by decide) (hts _ kX3_sortAt_1) (fun _ h9 => h9) rfl dX3_sortAt_11 ?_
    refine lv_iload_n (pc := 14) hx hb dX3_sortAt_14 rfl (lv_at hl 1 rfl) ?_
    refine za_bald (pc := 15) hx hb hK hP 1 0 rfl rfl dX3_sortAt_15 hF (fun hF => ?_)
    refine lv_istore_n (pc := 16) (lv' := [(2, .int (v_bytes x1.toNatClampNeg)), (0, .ref h0), (1, .int x1)]) hx hb dX3_sortAt_16 rfl hl (by decide) rfl (fun ls hl => ?_)
    refine lv_iload_n (pc := 17) hx hb dX3_sortAt_17 rfl (lv_at hl 0 rfl) ?_
    refine lv_bipush (pc := 18) (v := (nI 97)) hx hb dX3_sortAt_18 (by decide) ?_
    refine zb_icmp_lt (pc := 20) (tgt := 31) hx hb dX3_sortAt_20 (by decide) hF (fun c_20 hF => ?_) (fun c_20 hF => ?_)
    · refine lv_iload_n (pc := 31) hx hb dX3_sortAt_31 rfl (lv_at hl 0 rfl) ?_
      refine lv_bipush (pc := 32) (v := (nI 48)) hx hb dX3_sortAt_32 (by decide) ?_
      refine zb_icmp_lt (pc := 34) (tgt := 47) hx hb dX3_sortAt_34 (by decide) hF (fun c_34 hF => ?_) (fun c_34 hF => ?_)
      · refine lv_iconst (pc := 47) (v := (nI 3)) hx hb dX3_sortAt_47 (by decide) ?_
        exact z_iret (pc := 48) (fun q => q) hx hb hr hlocks hF rfl hQ dX3_sortAt_48
      · refine lv_iload_n (pc := 37) hx hb dX3_sortAt_37 rfl (lv_at hl 0 rfl) ?_
        refine lv_bipush (pc := 38) (v := (nI 57)) hx hb dX3_sortAt_38 (by decide) ?_
        refine zb_icmp_gt (pc := 40) (tgt := 47) hx hb dX3_sortAt_40 (by decide) hF (fun c_40 hF => ?_) (fun c_40 hF => ?_)
        · refine lv_iconst (pc := 47) (v := (nI 3)) hx hb dX3_sortAt_47 (by decide) ?_
          exact z_iret (pc := 48) (fun q => q) hx hb hr hlocks hF rfl hQ dX3_sortAt_48
        · refine lv_iconst (pc := 43) (v := (nI 2)) hx hb dX3_sortAt_43 (by decide) ?_
          refine lv_goto (pc := 44) (tgt := 48) hx hb dX3_sortAt_44 (by decide) ?_
          exact z_iret (pc := 48) (fun q => q) hx hb hr hlocks hF rfl hQ dX3_sortAt_48
    · refine lv_iload_n (pc := 23) hx hb dX3_sortAt_23 rfl (lv_at hl 0 rfl) ?_
      refine lv_bipush (pc := 24) (v := (nI 122)) hx hb dX3_sortAt_24 (by decide) ?_
      refine zb_icmp_gt (pc := 26) (tgt := 31) hx hb dX3_sortAt_26 (by decide) hF (fun c_26 hF => ?_) (fun c_26 hF => ?_)
      · refine lv_iload_n (pc := 31) hx hb dX3_sortAt_31 rfl (lv_at hl 0 rfl) ?_
        refine lv_bipush (pc := 32) (v := (nI 48)) hx hb dX3_sortAt_32 (by decide) ?_
        refine zb_icmp_lt (pc := 34) (tgt := 47) hx hb dX3_sortAt_34 (by decide) hF (fun c_34 hF => ?_) (fun c_34 hF => ?_)
        · refine lv_iconst (pc := 47) (v := (nI 3)) hx hb dX3_sortAt_47 (by decide) ?_
          exact z_iret (pc := 48) (fun q => q) hx hb hr hlocks hF rfl hQ dX3_sortAt_48
        · refine lv_iload_n (pc := 37) hx hb dX3_sortAt_37 rfl (lv_at hl 0 rfl) ?_
          refine lv_bipush (pc := 38) (v := (nI 57)) hx hb dX3_sortAt_38 (by decide) ?_
          refine zb_icmp_gt (pc := 40) (tgt := 47) hx hb dX3_sortAt_40 (by decide) hF (fun c_40 hF => ?_) (fun c_40 hF => ?_)
          · refine lv_iconst (pc := 47) (v := (nI 3)) hx hb dX3_sortAt_47 (by decide) ?_
            exact z_iret (pc := 48) (fun q => q) hx hb hr hlocks hF rfl hQ dX3_sortAt_48
          · refine lv_iconst (pc := 43) (v := (nI 2)) hx hb dX3_sortAt_43 (by decide) ?_
            refine lv_goto (pc := 44) (tgt := 48) hx hb dX3_sortAt_44 (by decide) ?_
            exact z_iret (pc := 48) (fun q => q) hx hb hr hlocks hF rfl hQ dX3_sortAt_48
      · refine lv_iconst (pc := 29) (v := (nI 1)) hx hb dX3_sortAt_29 (by decide) ?_
        exact z_iret (pc := 30) (fun q => q) hx hb hr hlocks hF rfl hQ dX3_sortAt_30
  · refine lv_iconst (pc := 8) (v := (nI 0)) hx hb dX3_sortAt_8 (by decide) ?_
    exact z_iret (pc := 9) (fun q => q) hx hb hr hlocks hF rfl hQ dX3_sortAt_9

abbrev rX3_step : Room := { frames := 1, cells := 0, slots := 0, locals := 22 }
abbrev wX3_step (cB cI cJ cO : ClassId) (h0 h_bytes : Nat) (g_town : Value) (v_length : Int32) (v_from : Int32) (v_behind : Int32) (v_sort : Int32) (v_bytes : Nat → Int32) : va_W := [(h0, .inr (3, [.ref h_bytes, .int v_length, g_town, .int v_from, .int v_behind, .int v_sort])), (h_bytes, .inl (cB, 200, .inl v_bytes))]
theorem nX3_step_X3 : ∀ w ∈ wsX30, w ∈ wsX3_step := by decide +kernel
theorem kX3_step_0 : Cond.fieldLink RX3 134 "PaintedWalls$TownText" "behind" "I" ∈ wsX3_step := by decide +kernel
theorem kX3_step_1 : Cond.fieldLink RX3 59 "PaintedWalls$TownText" "from" "I" ∈ wsX3_step := by decide +kernel
theorem kX3_step_2 : Cond.fieldLink RX3 32 "PaintedWalls$TownText" "sort" "I" ∈ wsX3_step := by decide +kernel
theorem kX3_step_3 : Cond.fieldLink RX3 21 "PaintedWalls$TownText" "length" "I" ∈ wsX3_step := by decide +kernel
theorem kX3_step_4 : Cond.fieldLink RX3 9 "PaintedWalls$TownText" "bytes" "[B" ∈ wsX3_step := by decide +kernel
set_option maxHeartbeats 4000000 in
set_option maxRecDepth 100000 in
theorem tX3_step {l : Launch} {D : va_G} {cB cI cJ cO : ClassId} (h0 h_bytes : Nat) (g_town : Value) (v_length : Int32) (v_from : Int32) (v_behind : Int32) (v_sort : Int32) (v_bytes : Nat → Int32) (r : Int32 × Int32 × Int32) (hF : fX3_step v_length v_from v_behind v_sort v_bytes = some r) : Met l yX3_step wsX3_step rX3_step (zPre D cB cI cJ cO [.ref h0] (wX3_step cB cI cJ cO h0 h_bytes g_town v_length v_from v_behind v_sort v_bytes)) (zPM none D (wX3_step cB cI cJ cO h0 h_bytes g_town v_length r.1 r.2.1 r.2.2 v_bytes) (zAs [h0, h_bytes])) 0 0 (zAs [h0, h_bytes]) := by
  refine zMetM (cc := cX3_step) (maxL := 1) (ret := none) (lv := [(0, .ref h0)]) rfl (by decide) rfl (Nat.le_of_ble_eq_true rfl) rfl ?_
  intro p e s m args below meth c ls Q H locs hQ hx hb hr hml hown hts hlocks hname hP hE hD hS hl
  have hown : s.vm.findClass RX3 = some m.cls := hown
  have hK := hE.1
  unfold fX3_step at hF
  refine lv_aload_n (pc := 0) hx hb dX3_step_0 rfl (lv_at hl 0 rfl) ?_
  refine lv_aload_n (pc := 1) hx hb dX3_step_1 rfl (lv_at hl 0 rfl) ?_
  refine va_get (D := D) (pc := 2) (ci := 3) (v := .int v_behind) (C := RX3) (T := TX3) (N := 6) hx hb hts nX3_step_X3 hown hK hP 0 rfl rfl 4 (by decide) (hts _ kX3_step_0) (fun _ h9 => h9) rfl dX3_step_2 ?_
  refine va_put (D := D) (pc := 5) (ci := 3) (v := .int v_behind) (ty := .int) (C := RX3) (T := TX3) (N := 6) hx hb hts nX3_step_X3 tyX3 tyX3_ok nmX3 hown hK hP (zD_re hD rfl) hS 0 rfl rfl 3 (by decide) (hts _ kX3_step_1) (fun _ h9 => h9) rfl (tyX3_ok 3 (by decide)) rfl rfl (Nat.le_of_ble_eq_true rfl) dX3_step_5 (fun H locs hP _ hS => ?_)
  have hP : va_P D vwCl (wX3_step cB cI cJ cO h0 h_bytes g_town v_length v_behind v_behind v_sort v_bytes) H := hP
  obtain ⟨k_3, hk_3, hF⟩ := z_J hF
  have kk_3 : ∀ (v_from_2 : Int32) , k_3 v_from_2 = some r → ∀ (H : Heap) (locs : List Loc), va_P D vwCl (wX3_step cB cI cJ cO h0 h_bytes g_town v_length v_from_2 v_behind v_sort v_bytes) H → va_S (zAs [h0, h_bytes]) s.heap H locs → ∀ (ls : Array Slot), lv_has ls 1 [(0, .ref h0)] → W p l e rX3_step s m args below meth c H locs 0 0 Q (F0 m 46 ls []) := by
    intro v_from_2 hF H locs hP hS ls hl
    rw [hk_3] at hF
    refine lv_aload_n (pc := 46) hx hb dX3_step_46 rfl (lv_at hl 0 rfl) ?_
    refine lv_aload_n (pc := 47) hx hb dX3_step_47 rfl (lv_at hl 0 rfl) ?_
    refine lv_aload_n (pc := 48) hx hb dX3_step_48 rfl (lv_at hl 0 rfl) ?_
    refine va_get (D := D) (pc := 49) (ci := 3) (v := .int v_from_2) (C := RX3) (T := TX3) (N := 6) hx hb hts nX3_step_X3 hown hK hP 0 rfl rfl 3 (by decide) (hts _ kX3_step_1) (fun _ h9 => h9) rfl dX3_step_49 ?_
    obtain ⟨u52, hu52, hF⟩ := z_bind hF
    refine zq_call (oc0 := (some (.int u52))) (va_runV (As := [.int v_from_2]) (rest := [.ref h0]) ⟨hx, hb, hml, hown, hts⟩ (tX3_sortAt (l := l) (D := D) (cB := cB) (cI := cI) (cJ := cJ) (cO := cO) h0 h_bytes g_town (.int v_from_2) (.int v_behind) (.int v_sort) v_length v_bytes v_from_2 u52 hu52) (cwV 1 hts gX3_step_X3_sortAt rfl rfl rfl (by decide +kernel) ⟨Nat.le_of_ble_eq_true rfl, Nat.le_of_ble_eq_true rfl⟩) ⟨zPre_blind, va_recv hK hP (ci := 3) (q0 := 0) rfl rfl, zPre_at hP hE (zD_re hD rfl) [0, 1] rfl rfl⟩ rfl rfl hl.1 rfl (lv_room (Nat.le_of_ble_eq_true rfl)) dX3_step_52 ⟨Nat.zero_le _, Nat.zero_le _⟩) ?_
    refine W.eq (g2 := F0 m 55 ls [.int u52, .ref h0]) rfl ?_
    refine va_put (D := D) (pc := 55) (ci := 3) (v := .int u52) (ty := .int) (C := RX3) (T := TX3) (N := 6) hx hb hts nX3_step_X3 tyX3 tyX3_ok nmX3 hown hK hP (zD_re hD rfl) hS 0 rfl rfl 5 (by decide) (hts _ kX3_step_2) (fun _ h9 => h9) rfl (tyX3_ok 5 (by decide)) rfl rfl (Nat.le_of_ble_eq_true rfl) dX3_step_55 (fun H locs hP _ hS => ?_)
    have hP : va_P D vwCl (wX3_step cB cI cJ cO h0 h_bytes g_town v_length v_from_2 v_behind u52 v_bytes) H := hP
    refine lv_aload_n (pc := 58) hx hb dX3_step_58 rfl (lv_at hl 0 rfl) ?_
    refine lv_aload_n (pc := 59) hx hb dX3_step_59 rfl (lv_at hl 0 rfl) ?_
    refine va_get (D := D) (pc := 60) (ci := 3) (v := .int v_from_2) (C := RX3) (T := TX3) (N := 6) hx hb hts nX3_step_X3 hown hK hP 0 rfl rfl 3 (by decide) (hts _ kX3_step_1) (fun _ h9 => h9) rfl dX3_step_60 ?_
    refine va_put (D := D) (pc := 63) (ci := 3) (v := .int v_from_2) (ty := .int) (C := RX3) (T := TX3) (N := 6) hx hb hts nX3_step_X3 tyX3 tyX3_ok nmX3 hown hK hP (zD_re hD rfl) hS 0 rfl rfl 4 (by decide) (hts _ kX3_step_0) (fun _ h9 => h9) rfl (tyX3_ok 4 (by decide)) rfl rfl (Nat.le_of_ble_eq_true rfl) dX3_step_63 (fun H locs hP _ hS => ?_)
    have hP : va_P D vwCl (wX3_step cB cI cJ cO h0 h_bytes g_town v_length v_from_2 v_from_2 u52 v_bytes) H := hP
    refine lv_aload_n (pc := 66) hx hb dX3_step_66 rfl (lv_at hl 0 rfl) ?_
    refine va_get (D := D) (pc := 67) (ci := 3) (v := .int u52) (C := RX3) (T := TX3) (N := 6) hx hb hts nX3_step_X3 hown hK hP 0 rfl rfl 5 (by decide) (hts _ kX3_step_2) (fun _ h9 => h9) rfl dX3_step_67 ?_
    refine lv_iconst (pc := 70) (v := (nI 3)) hx hb dX3_step_70 (by decide) ?_
    refine zb_icmp_ne (pc := 71) (tgt := 87) hx hb dX3_step_71 (by decide) hF (fun c_71 hF => ?_) (fun c_71 hF => ?_)
    · refine lv_aload_n (pc := 87) hx hb dX3_step_87 rfl (lv_at hl 0 rfl) ?_
      refine va_get (D := D) (pc := 88) (ci := 3) (v := .int u52) (C := RX3) (T := TX3) (N := 6) hx hb hts nX3_step_X3 hown hK hP 0 rfl rfl 5 (by decide) (hts _ kX3_step_2) (fun _ h9 => h9) rfl dX3_step_88 ?_
      refine zb_if_eq (pc := 91) (tgt := 133) hx hb dX3_step_91 (by decide) hF (fun c_91 hF => ?_) (fun c_91 hF => ?_)
      · exact z_vretM (pc := 133) (fun q => (wX3_step cB cI cJ cO h0 h_bytes g_town v_length q.1 q.2.1 q.2.2 v_bytes)) hx hb hr hlocks hP hS hF hQ dX3_step_133
      · obtain ⟨k_6, hk_6, hF⟩ := z_J hF
        have kk_6 : ∀ (v_behind_5 : Int32) , k_6 v_behind_5 = some r → ∀ (H : Heap) (locs : List Loc), va_P D vwCl (wX3_step cB cI cJ cO h0 h_bytes g_town v_length v_from_2 v_behind_5 u52 v_bytes) H → va_S (zAs [h0, h_bytes]) s.heap H locs → ∀ (ls : Array Slot), lv_has ls 1 [] → W p l e rX3_step s m args below meth c H locs 0 0 Q (F0 m 133 ls []) := by
          intro v_behind_5 hF H locs hP hS ls hl
          rw [hk_6] at hF
          exact z_vretM (pc := 133) (fun q => (wX3_step cB cI cJ cO h0 h_bytes g_town v_length q.1 q.2.1 q.2.2 v_bytes)) hx hb hr hlocks hP hS hF hQ dX3_step_133
        have hL_94 : ∀ (n : Nat) (v_behind_4 : Int32) , fX3_step_L94 v_length v_bytes u52 k_6 n v_behind_4 = some r → ∀ (H : Heap) (locs : List Loc), va_P D vwCl (wX3_step cB cI cJ cO h0 h_bytes g_town v_length v_from_2 v_behind_4 u52 v_bytes) H → va_S (zAs [h0, h_bytes]) s.heap H locs → ∀ (ls : Array Slot), lv_has ls 1 [(0, .ref h0)] → W p l e rX3_step s m args below meth c H locs 0 0 Q (F0 m 94 ls []) := by
          intro n
          induction n with
          | zero =>
            intro v_behind_4 hF H locs hP hS ls hl
            exact z_no hF
          | succ n ih =>
            intro v_behind_4 hF H locs hP hS ls hl
            rw [fX3_step_L94] at hF
            refine lv_aload_n (pc := 94) hx hb dX3_step_94 rfl (lv_at hl 0 rfl) ?_
            refine va_get (D := D) (pc := 95) (ci := 3) (v := .int v_behind_4) (C := RX3) (T := TX3) (N := 6) hx hb hts nX3_step_X3 hown hK hP 0 rfl rfl 4 (by decide) (hts _ kX3_step_0) (fun _ h9 => h9) rfl dX3_step_95 ?_
            refine lv_aload_n (pc := 98) hx hb dX3_step_98 rfl (lv_at hl 0 rfl) ?_
            refine va_get (D := D) (pc := 99) (ci := 3) (v := .int v_length) (C := RX3) (T := TX3) (N := 6) hx hb hts nX3_step_X3 hown hK hP 0 rfl rfl 1 (by decide) (hts _ kX3_step_3) (fun _ h9 => h9) rfl dX3_step_99 ?_
            refine zb_icmp_ge (pc := 102) (tgt := 133) hx hb dX3_step_102 (by decide) hF (fun c_102 hF => ?_) (fun c_102 hF => ?_)
            · exact kk_6 v_behind_4 hF H locs hP hS ls (lv_sub hl [] rfl)
            · refine lv_aload_n (pc := 105) hx hb dX3_step_105 rfl (lv_at hl 0 rfl) ?_
              refine lv_aload_n (pc := 106) hx hb dX3_step_106 rfl (lv_at hl 0 rfl) ?_
              refine va_get (D := D) (pc := 107) (ci := 3) (v := .int v_behind_4) (C := RX3) (T := TX3) (N := 6) hx hb hts nX3_step_X3 hown hK hP 0 rfl rfl 4 (by decide) (hts _ kX3_step_0) (fun _ h9 => h9) rfl dX3_step_107 ?_
              obtain ⟨u110, hu110, hF⟩ := z_bind hF
              refine zq_call (oc0 := (some (.int u110))) (va_runV (As := [.int v_behind_4]) (rest := []) ⟨hx, hb, hml, hown, hts⟩ (tX3_sortAt (l := l) (D := D) (cB := cB) (cI := cI) (cJ := cJ) (cO := cO) h0 h_bytes g_town (.int v_from_2) (.int v_behind_4) (.int u52) v_length v_bytes v_behind_4 u110 hu110) (cwV 1 hts gX3_step_X3_sortAt rfl rfl rfl (by decide +kernel) ⟨Nat.le_of_ble_eq_true rfl, Nat.le_of_ble_eq_true rfl⟩) ⟨zPre_blind, va_recv hK hP (ci := 3) (q0 := 0) rfl rfl, zPre_at hP hE (zD_re hD rfl) [0, 1] rfl rfl⟩ rfl rfl hl.1 rfl (lv_room (Nat.le_of_ble_eq_true rfl)) dX3_step_110 ⟨Nat.zero_le _, Nat.zero_le _⟩) ?_
              refine W.eq (g2 := F0 m 113 ls [.int u110]) rfl ?_
              refine lv_aload_n (pc := 113) hx hb dX3_step_113 rfl (lv_at hl 0 rfl) ?_
              refine va_get (D := D) (pc := 114) (ci := 3) (v := .int u52) (C := RX3) (T := TX3) (N := 6) hx hb hts nX3_step_X3 hown hK hP 0 rfl rfl 5 (by decide) (hts _ kX3_step_2) (fun _ h9 => h9) rfl dX3_step_114 ?_
              refine zb_icmp_ne (pc := 117) (tgt := 133) hx hb dX3_step_117 (by decide) hF (fun c_117 hF => ?_) (fun c_117 hF => ?_)
              · exact kk_6 v_behind_4 hF H locs hP hS ls (lv_sub hl [] rfl)
              · refine lv_aload_n (pc := 120) hx hb dX3_step_120 rfl (lv_at hl 0 rfl) ?_
                refine lv_dup (pc := 121) hx hb dX3_step_121 rfl ?_
                refine va_get (D := D) (pc := 122) (ci := 3) (v := .int v_behind_4) (C := RX3) (T := TX3) (N := 6) hx hb hts nX3_step_X3 hown hK hP 0 rfl rfl 4 (by decide) (hts _ kX3_step_0) (fun _ h9 => h9) rfl dX3_step_122 ?_
                refine lv_iconst (pc := 125) (v := (nI 1)) hx hb dX3_step_125 (by decide) ?_
                refine lv_iadd (pc := 126) hx hb dX3_step_126 ?_
                refine va_put (D := D) (pc := 127) (ci := 3) (v := .int (v_behind_4 + (nI 1))) (ty := .int) (C := RX3) (T := TX3) (N := 6) hx hb hts nX3_step_X3 tyX3 tyX3_ok nmX3 hown hK hP (zD_re hD rfl) hS 0 rfl rfl 4 (by decide) (hts _ kX3_step_0) (fun _ h9 => h9) rfl (tyX3_ok 4 (by decide)) rfl rfl (Nat.le_of_ble_eq_true rfl) dX3_step_127 (fun H locs hP _ hS => ?_)
                have hP : va_P D vwCl (wX3_step cB cI cJ cO h0 h_bytes g_town v_length v_from_2 (v_behind_4 + (nI 1)) u52 v_bytes) H := hP
                refine lv_goto (pc := 130) (tgt := 94) hx hb dX3_step_130 (by decide) ?_
                exact ih (v_behind_4 + (nI 1)) hF H locs hP hS ls (lv_sub hl [0] rfl)
        exact hL_94 zK v_from_2 hF H locs hP hS ls (lv_sub hl [0] rfl)
    · refine lv_aload_n (pc := 74) hx hb dX3_step_74 rfl (lv_at hl 0 rfl) ?_
      refine lv_dup (pc := 75) hx hb dX3_step_75 rfl ?_
      refine va_get (D := D) (pc := 76) (ci := 3) (v := .int v_from_2) (C := RX3) (T := TX3) (N := 6) hx hb hts nX3_step_X3 hown hK hP 0 rfl rfl 4 (by decide) (hts _ kX3_step_0) (fun _ h9 => h9) rfl dX3_step_76 ?_
      refine lv_iconst (pc := 79) (v := (nI 1)) hx hb dX3_step_79 (by decide) ?_
      refine lv_iadd (pc := 80) hx hb dX3_step_80 ?_
      refine va_put (D := D) (pc := 81) (ci := 3) (v := .int (v_from_2 + (nI 1))) (ty := .int) (C := RX3) (T := TX3) (N := 6) hx hb hts nX3_step_X3 tyX3 tyX3_ok nmX3 hown hK hP (zD_re hD rfl) hS 0 rfl rfl 4 (by decide) (hts _ kX3_step_0) (fun _ h9 => h9) rfl (tyX3_ok 4 (by decide)) rfl rfl (Nat.le_of_ble_eq_true rfl) dX3_step_81 (fun H locs hP _ hS => ?_)
      have hP : va_P D vwCl (wX3_step cB cI cJ cO h0 h_bytes g_town v_length v_from_2 (v_from_2 + (nI 1)) u52 v_bytes) H := hP
      refine lv_goto (pc := 84) (tgt := 133) hx hb dX3_step_84 (by decide) ?_
      exact z_vretM (pc := 133) (fun q => (wX3_step cB cI cJ cO h0 h_bytes g_town v_length q.1 q.2.1 q.2.2 v_bytes)) hx hb hr hlocks hP hS hF hQ dX3_step_133
  have hL_8 : ∀ (n : Nat) (v_from_1 : Int32) , fX3_step_L8 v_length v_bytes k_3 n v_from_1 = some r → ∀ (H : Heap) (locs : List Loc), va_P D vwCl (wX3_step cB cI cJ cO h0 h_bytes g_town v_length v_from_1 v_behind v_sort v_bytes) H → va_S (zAs [h0, h_bytes]) s.heap H locs → ∀ (ls : Array Slot), lv_has ls 1 [(0, .ref h0)] → W p l e rX3_step s m args below meth c H locs 0 0 Q (F0 m 8 ls []) := by
    intro n
    induction n with
    | zero =>
      intro v_from_1 hF H locs hP hS ls hl
      exact z_no hF
    | succ n ih =>
      intro v_from_1 hF H locs hP hS ls hl
      rw [fX3_step_L8] at hF
      refine lv_aload_n (pc := 8) hx hb dX3_step_8 rfl (lv_at hl 0 rfl) ?_
      refine va_get (D := D) (pc := 9) (ci := 3) (v := .int v_from_1) (C := RX3) (T := TX3) (N := 6) hx hb hts nX3_step_X3 hown hK hP 0 rfl rfl 3 (by decide) (hts _ kX3_step_1) (fun _ h9 => h9) rfl dX3_step_9 ?_
      refine lv_aload_n (pc := 12) hx hb dX3_step_12 rfl (lv_at hl 0 rfl) ?_
      refine va_get (D := D) (pc := 13) (ci := 3) (v := .int v_length) (C := RX3) (T := TX3) (N := 6) hx hb hts nX3_step_X3 hown hK hP 0 rfl rfl 1 (by decide) (hts _ kX3_step_3) (fun _ h9 => h9) rfl dX3_step_13 ?_
      refine zb_icmp_ge (pc := 16) (tgt := 46) hx hb dX3_step_16 (by decide) hF (fun c_16 hF => ?_) (fun c_16 hF => ?_)
      · exact kk_3 v_from_1 hF H locs hP hS ls (lv_sub hl [0] rfl)
      · refine lv_aload_n (pc := 19) hx hb dX3_step_19 rfl (lv_at hl 0 rfl) ?_
        refine va_get (D := D) (pc := 20) (ci := 3) (v := .ref h_bytes) (C := RX3) (T := TX3) (N := 6) hx hb hts nX3_step_X3 hown hK hP 0 rfl rfl 0 (by decide) (hts _ kX3_step_4) (fun _ h9 => h9) rfl dX3_step_20 ?_
        refine lv_aload_n (pc := 23) hx hb dX3_step_23 rfl (lv_at hl 0 rfl) ?_
        refine va_get (D := D) (pc := 24) (ci := 3) (v := .int v_from_1) (C := RX3) (T := TX3) (N := 6) hx hb hts nX3_step_X3 hown hK hP 0 rfl rfl 3 (by decide) (hts _ kX3_step_1) (fun _ h9 => h9) rfl dX3_step_24 ?_
        refine za_bald (pc := 27) hx hb hK hP 1 0 rfl rfl dX3_step_27 hF (fun hF => ?_)
        refine lv_bipush (pc := 28) (v := (nI 32)) hx hb dX3_step_28 (by decide) ?_
        refine zb_icmp_ne (pc := 30) (tgt := 46) hx hb dX3_step_30 (by decide) hF (fun c_30 hF => ?_) (fun c_30 hF => ?_)
        · exact kk_3 v_from_1 hF H locs hP hS ls (lv_sub hl [0] rfl)
        · refine lv_aload_n (pc := 33) hx hb dX3_step_33 rfl (lv_at hl 0 rfl) ?_
          refine lv_dup (pc := 34) hx hb dX3_step_34 rfl ?_
          refine va_get (D := D) (pc := 35) (ci := 3) (v := .int v_from_1) (C := RX3) (T := TX3) (N := 6) hx hb hts nX3_step_X3 hown hK hP 0 rfl rfl 3 (by decide) (hts _ kX3_step_1) (fun _ h9 => h9) rfl dX3_step_35 ?_
          refine lv_iconst (pc := 38) (v := (nI 1)) hx hb dX3_step_38 (by decide) ?_
          refine lv_iadd (pc := 39) hx hb dX3_step_39 ?_
          refine va_put (D := D) (pc := 40) (ci := 3) (v := .int (v_from_1 + (nI 1))) (ty := .int) (C := RX3) (T := TX3) (N := 6) hx hb hts nX3_step_X3 tyX3 tyX3_ok nmX3 hown hK hP (zD_re hD rfl) hS 0 rfl rfl 3 (by decide) (hts _ kX3_step_1) (fun _ h9 => h9) rfl (tyX3_ok 3 (by decide)) rfl rfl (Nat.le_of_ble_eq_true rfl) dX3_step_40 (fun H locs hP _ hS => ?_)
          have hP : va_P D vwCl (wX3_step cB cI cJ cO h0 h_bytes g_town v_length (v_from_1 + (nI 1)) v_behind v_sort v_bytes) H := hP
          refine lv_goto (pc := 43) (tgt := 8) hx hb dX3_step_43 (by decide) ?_
          exact ih (v_from_1 + (nI 1)) hF H locs hP hS ls (lv_sub hl [0] rfl)
  exact hL_8 zK v_behind hF H locs hP hS ls (lv_sub hl [0] rfl)

abbrev rX3_isWord : Room := { frames := 5, cells := 0, slots := 0, locals := 120 }
abbrev wX3_isWord (cB cI cJ cO : ClassId) (h0 h_bytes : Nat) (g_length g_town : Value) (v_from : Int32) (v_behind : Int32) (v_sort : Int32) (v_bytes : Nat → Int32) : va_W := [(h0, .inr (3, [.ref h_bytes, g_length, g_town, .int v_from, .int v_behind, .int v_sort])), (h_bytes, .inl (cB, 200, .inl v_bytes))]
theorem nX3_isWord_X3 : ∀ w ∈ wsX30, w ∈ wsX3_isWord := by decide +kernel
theorem kX3_isWord_0 : Cond.fieldLink RX3 32 "PaintedWalls$TownText" "sort" "I" ∈ wsX3_isWord := by decide +kernel
theorem kX3_isWord_1 : Cond.fieldLink RX3 134 "PaintedWalls$TownText" "behind" "I" ∈ wsX3_isWord := by decide +kernel
theorem kX3_isWord_2 : Cond.fieldLink RX3 59 "PaintedWalls$TownText" "from" "I" ∈ wsX3_isWord := by decide +kernel
theorem kX3_isWord_3 : Cond.fieldLink RX3 9 "PaintedWalls$TownText" "bytes" "[B" ∈ wsX3_isWord := by decide +kernel
set_option maxHeartbeats 4000000 in
set_option maxRecDepth 100000 in
theorem tX3_isWord {l : Launch} {D : va_G} {cB cI cJ cO : ClassId} {adK adV : Nat → Nat} (h0 h_bytes : Nat) (g_length g_town : Value) (v_from : Int32) (v_behind : Int32) (v_sort : Int32) (v_bytes : Nat → Int32) (x1 : Nat) (r : Int32) (hF : fX3_isWord v_from v_behind v_sort v_bytes x1 = some r) : Met l yX3_isWord wsX3_isWord rX3_isWord (zPreS D cB cI cJ cO adK adV [.ref h0, .ref (adK x1)] (wX3_isWord cB cI cJ cO h0 h_bytes g_length g_town v_from v_behind v_sort v_bytes) [h0, h_bytes]) (zPI (some (.int r))) 0 0 (fun _ => False) := by
  refine zMetPS (cc := cX3_isWord) (maxL := 3) (ret := (some .boolean)) (lv := [(0, .ref h0), (1, .ref (adK x1))]) rfl (by decide) rfl (Nat.le_of_ble_eq_true rfl) rfl ?_
  intro p e s m args below meth c ls Q hQ hx hb hr hml hown hts hlocks hname hP hE hD hS hZ hl
  have hown : s.vm.findClass RX3 = some m.cls := hown
  have hK := hE.1
  unfold fX3_isWord at hF
  refine lv_aload_n (pc := 0) hx hb dX3_isWord_0 rfl (lv_at hl 0 rfl) ?_
  refine va_get (D := D) (pc := 1) (ci := 3) (v := .int v_sort) (C := RX3) (T := TX3) (N := 6) hx hb hts nX3_isWord_X3 hown hK hP 0 rfl rfl 5 (by decide) (hts _ kX3_isWord_0) (fun _ h9 => h9) rfl dX3_isWord_1 ?_
  refine lv_iconst (pc := 4) (v := (nI 1)) hx hb dX3_isWord_4 (by decide) ?_
  refine zb_icmp_ne (pc := 5) (tgt := 24) hx hb dX3_isWord_5 (by decide) hF (fun c_5 hF => ?_) (fun c_5 hF => ?_)
  · refine lv_iconst (pc := 24) (v := (nI 0)) hx hb dX3_isWord_24 (by decide) ?_
    exact z_zret (pc := 25) (fun q => q) hx hb hr hlocks (by decide) hF rfl hQ dX3_isWord_25
  · refine lv_aload_n (pc := 8) hx hb dX3_isWord_8 rfl (lv_at hl 0 rfl) ?_
    refine va_get (D := D) (pc := 9) (ci := 3) (v := .int v_behind) (C := RX3) (T := TX3) (N := 6) hx hb hts nX3_isWord_X3 hown hK hP 0 rfl rfl 4 (by decide) (hts _ kX3_isWord_1) (fun _ h9 => h9) rfl dX3_isWord_9 ?_
    refine lv_aload_n (pc := 12) hx hb dX3_isWord_12 rfl (lv_at hl 0 rfl) ?_
    refine va_get (D := D) (pc := 13) (ci := 3) (v := .int v_from) (C := RX3) (T := TX3) (N := 6) hx hb hts nX3_isWord_X3 hown hK hP 0 rfl rfl 3 (by decide) (hts _ kX3_isWord_2) (fun _ h9 => h9) rfl dX3_isWord_13 ?_
    refine lv_isub (pc := 16) hx hb dX3_isWord_16 ?_
    refine lv_aload_n (pc := 17) hx hb dX3_isWord_17 rfl (lv_at hl 1 rfl) ?_
    obtain ⟨hi_18, hF⟩ := z_g _ hF
    refine zq_call (oc0 := (some (.int (nI (zlen.getD x1 0))))) (va_runV (As := []) (rest := [.int (v_behind - v_from)]) ⟨hx, hb, hml, hown, hts⟩ (tJ0_length (l := l) (D := D) (cB := cB) (cI := cI) (cJ := cJ) (cO := cO) (adK := adK) (adV := adV) x1 (Nat.not_le.mp hi_18)) (cwV 0 hts gX3_isWord_J0_length_8abf5 rfl rfl rfl (by decide +kernel) ⟨Nat.le_of_ble_eq_true rfl, Nat.le_of_ble_eq_true rfl⟩) ⟨zPreS_blind, vk_recv hZ.2.2.2.1 (Nat.not_le.mp hi_18) hS, zPreS_at hP hE (zD_re hD rfl) hZ hS [] rfl rfl rfl⟩ rfl rfl hl.1 rfl (lv_room (Nat.le_of_ble_eq_true rfl)) dX3_isWord_18 ⟨Nat.zero_le _, Nat.zero_le _⟩) ?_
    refine W.eq (g2 := F0 m 21 ls [.int (nI (zlen.getD x1 0)), .int (v_behind - v_from)]) rfl ?_
    refine zb_icmp_eq (pc := 21) (tgt := 26) hx hb dX3_isWord_21 (by decide) hF (fun c_21 hF => ?_) (fun c_21 hF => ?_)
    · refine lv_iconst (pc := 26) (v := (nI 0)) hx hb dX3_isWord_26 (by decide) ?_
      refine lv_istore_n (pc := 27) (lv' := [(2, .int (nI 0)), (0, .ref h0), (1, .ref (adK x1))]) hx hb dX3_isWord_27 rfl hl (by decide) rfl (fun ls hl => ?_)
      obtain ⟨k_2, hk_2, hF⟩ := z_J hF
      have kk_2 : k_2 = some r → ∀ (ls : Array Slot), lv_has ls 3 [] → W p l e rX3_isWord s m args below meth c s.heap [] 0 0 Q (F0 m 55 ls []) := by
        intro  hF ls hl
        rw [hk_2] at hF
        refine lv_iconst (pc := 55) (v := (nI 0)) hx hb dX3_isWord_55 (by decide) ?_
        exact z_zret (pc := 56) (fun q => q) hx hb hr hlocks (by decide) hF rfl hQ dX3_isWord_56
      obtain ⟨k_3, hk_3, hF⟩ := z_J hF
      have kk_3 : k_3 = some r → ∀ (ls : Array Slot), lv_has ls 3 [] → W p l e rX3_isWord s m args below meth c s.heap [] 0 0 Q (F0 m 63 ls []) := by
        intro  hF ls hl
        rw [hk_3] at hF
        refine lv_iconst (pc := 63) (v := (nI 1)) hx hb dX3_isWord_63 (by decide) ?_
        exact z_zret (pc := 64) (fun q => q) hx hb hr hlocks (by decide) hF rfl hQ dX3_isWord_64
      have hL_28 : ∀ (n : Nat) (y2_1 : Int32) , fX3_isWord_L28 v_from v_bytes x1 k_2 k_3 n y2_1 = some r → ∀ (ls : Array Slot), lv_has ls 3 [(0, .ref h0), (1, .ref (adK x1)), (2, .int y2_1)] → W p l e rX3_isWord s m args below meth c s.heap [] 0 0 Q (F0 m 28 ls []) := by
        intro n
        induction n with
        | zero =>
          intro y2_1 hF ls hl
          exact z_no hF
        | succ n ih =>
          intro y2_1 hF ls hl
          rw [fX3_isWord_L28] at hF
          refine lv_iload_n (pc := 28) hx hb dX3_isWord_28 rfl (lv_at hl 2 rfl) ?_
          refine lv_aload_n (pc := 29) hx hb dX3_isWord_29 rfl (lv_at hl 1 rfl) ?_
          obtain ⟨hi_30, hF⟩ := z_g _ hF
          refine zq_call (oc0 := (some (.int (nI (zlen.getD x1 0))))) (va_runV (As := []) (rest := [.int y2_1]) ⟨hx, hb, hml, hown, hts⟩ (tJ0_length (l := l) (D := D) (cB := cB) (cI := cI) (cJ := cJ) (cO := cO) (adK := adK) (adV := adV) x1 (Nat.not_le.mp hi_30)) (cwV 0 hts gX3_isWord_J0_length_8abf5 rfl rfl rfl (by decide +kernel) ⟨Nat.le_of_ble_eq_true rfl, Nat.le_of_ble_eq_true rfl⟩) ⟨zPreS_blind, vk_recv hZ.2.2.2.1 (Nat.not_le.mp hi_30) hS, zPreS_at hP hE (zD_re hD rfl) hZ hS [] rfl rfl rfl⟩ rfl rfl hl.1 rfl (lv_room (Nat.le_of_ble_eq_true rfl)) dX3_isWord_30 ⟨Nat.zero_le _, Nat.zero_le _⟩) ?_
          refine W.eq (g2 := F0 m 33 ls [.int (nI (zlen.getD x1 0)), .int y2_1]) rfl ?_
          refine zb_icmp_ge (pc := 33) (tgt := 63) hx hb dX3_isWord_33 (by decide) hF (fun c_33 hF => ?_) (fun c_33 hF => ?_)
          · exact kk_3  hF ls (lv_sub hl [] rfl)
          · refine lv_aload_n (pc := 36) hx hb dX3_isWord_36 rfl (lv_at hl 0 rfl) ?_
            refine va_get (D := D) (pc := 37) (ci := 3) (v := .ref h_bytes) (C := RX3) (T := TX3) (N := 6) hx hb hts nX3_isWord_X3 hown hK hP 0 rfl rfl 0 (by decide) (hts _ kX3_isWord_3) (fun _ h9 => h9) rfl dX3_isWord_37 ?_
            refine lv_aload_n (pc := 40) hx hb dX3_isWord_40 rfl (lv_at hl 0 rfl) ?_
            refine va_get (D := D) (pc := 41) (ci := 3) (v := .int v_from) (C := RX3) (T := TX3) (N := 6) hx hb hts nX3_isWord_X3 hown hK hP 0 rfl rfl 3 (by decide) (hts _ kX3_isWord_2) (fun _ h9 => h9) rfl dX3_isWord_41 ?_
            refine lv_iload_n (pc := 44) hx hb dX3_isWord_44 rfl (lv_at hl 2 rfl) ?_
            refine lv_iadd (pc := 45) hx hb dX3_isWord_45 ?_
            refine za_bald (pc := 46) hx hb hK hP 1 0 rfl rfl dX3_isWord_46 hF (fun hF => ?_)
            refine lv_aload_n (pc := 47) hx hb dX3_isWord_47 rfl (lv_at hl 1 rfl) ?_
            refine lv_iload_n (pc := 48) hx hb dX3_isWord_48 rfl (lv_at hl 2 rfl) ?_
            obtain ⟨hi_49, hF⟩ := z_g _ hF
            refine zq_call (oc0 := (some (.int ((zbyt.getD x1 []).getD y2_1.toNatClampNeg 0 &&& 255)))) (va_runV (As := [.int y2_1]) (rest := [.int (v_bytes (v_from + y2_1).toNatClampNeg)]) ⟨hx, hb, hml, hown, hts⟩ (tJ0_charAt (l := l) (D := D) (cB := cB) (cI := cI) (cJ := cJ) (cO := cO) (adK := adK) (adV := adV) x1 y2_1 hi_49) (cwV 1 hts gX3_isWord_J0_charAt_5068e rfl rfl rfl (by decide +kernel) ⟨Nat.le_of_ble_eq_true rfl, Nat.le_of_ble_eq_true rfl⟩) ⟨zPreS_blind, vk_recv hZ.2.2.2.1 (Nat.not_le.mp (fun z => hi_49 (Or.inl z))) hS, zPreS_at hP hE (zD_re hD rfl) hZ hS [] rfl rfl rfl⟩ rfl rfl hl.1 rfl (lv_room (Nat.le_of_ble_eq_true rfl)) dX3_isWord_49 ⟨Nat.zero_le _, Nat.zero_le _⟩) ?_
            refine W.eq (g2 := F0 m 52 ls [.int ((zbyt.getD x1 []).getD y2_1.toNatClampNeg 0 &&& 255), .int (v_bytes (v_from + y2_1).toNatClampNeg)]) rfl ?_
            refine zb_icmp_eq (pc := 52) (tgt := 57) hx hb dX3_isWord_52 (by decide) hF (fun c_52 hF => ?_) (fun c_52 hF => ?_)
            · refine lv_iinc (pc := 57) (v := (y2_1 + 1)) (lv' := [(2, .int (y2_1 + 1)), (0, .ref h0), (1, .ref (adK x1))]) hx hb dX3_isWord_57 hl (k := 2) rfl rfl (by decide) rfl (fun ls hl => ?_)
              refine lv_goto (pc := 60) (tgt := 28) hx hb dX3_isWord_60 (by decide) ?_
              exact ih (y2_1 + 1) hF ls (lv_sub hl [1, 2, 0] rfl)
            · exact kk_2  hF ls (lv_sub hl [] rfl)
      exact hL_28 zK (nI 0) hF ls (lv_sub hl [1, 2, 0] rfl)
    · refine lv_iconst (pc := 24) (v := (nI 0)) hx hb dX3_isWord_24 (by decide) ?_
      exact z_zret (pc := 25) (fun q => q) hx hb hr hlocks (by decide) hF rfl hQ dX3_isWord_25

abbrev rX3_kindTold : Room := { frames := 6, cells := 0, slots := 0, locals := 142 }
abbrev wX3_kindTold (cB cI cJ cO : ClassId) (h0 h_bytes : Nat) (g_length g_town : Value) (v_from : Int32) (v_behind : Int32) (v_sort : Int32) (v_bytes : Nat → Int32) : va_W := [(h0, .inr (3, [.ref h_bytes, g_length, g_town, .int v_from, .int v_behind, .int v_sort])), (h_bytes, .inl (cB, 200, .inl v_bytes))]
set_option maxHeartbeats 4000000 in
set_option maxRecDepth 100000 in
theorem tX3_kindTold {l : Launch} {D : va_G} {cB cI cJ cO : ClassId} {adK adV : Nat → Nat} (h0 h_bytes : Nat) (g_length g_town : Value) (v_from : Int32) (v_behind : Int32) (v_sort : Int32) (v_bytes : Nat → Int32) (r : Int32) (hF : fX3_kindTold v_from v_behind v_sort v_bytes = some r) : Met l yX3_kindTold wsX3_kindTold rX3_kindTold (zPreS D cB cI cJ cO adK adV [.ref h0] (wX3_kindTold cB cI cJ cO h0 h_bytes g_length g_town v_from v_behind v_sort v_bytes) [h0, h_bytes]) (zPI (some (.int r))) 0 0 (fun _ => False) := by
  refine zMetPS (cc := cX3_kindTold) (maxL := 1) (ret := (some .int)) (lv := [(0, .ref h0)]) rfl (by decide) rfl (Nat.le_of_ble_eq_true rfl) rfl ?_
  intro p e s m args below meth c ls Q hQ hx hb hr hml hown hts hlocks hname hP hE hD hS hZ hl
  have hown : s.vm.findClass RX3 = some m.cls := hown
  have hK := hE.1
  unfold fX3_kindTold at hF
  refine lv_aload_n (pc := 0) hx hb dX3_kindTold_0 rfl (lv_at hl 0 rfl) ?_
  refine va_ldcS (pc := 1) (q := adK 5) hx hb hown (hZ.2.2.2.2.1 5 (by decide)) dX3_kindTold_1 ?_
  obtain ⟨u3, hu3, hF⟩ := z_bind hF
  refine zq_call (oc0 := (some (.int u3))) (va_runV (As := [.ref (adK 5)]) (rest := []) ⟨hx, hb, hml, hown, hts⟩ (tX3_isWord (l := l) (D := D) (cB := cB) (cI := cI) (cJ := cJ) (cO := cO) (adK := adK) (adV := adV) h0 h_bytes g_length g_town v_from v_behind v_sort v_bytes 5 u3 hu3) (cwV 1 hts gX3_kindTold_X3_isWord rfl rfl rfl (by decide +kernel) ⟨Nat.le_of_ble_eq_true rfl, Nat.le_of_ble_eq_true rfl⟩) ⟨zPreS_blind, va_recv hK hP (ci := 3) (q0 := 0) rfl rfl, zPreS_at hP hE (zD_re hD rfl) hZ hS [0, 1] rfl rfl rfl⟩ rfl rfl hl.1 rfl (lv_room (Nat.le_of_ble_eq_true rfl)) dX3_kindTold_3 ⟨Nat.zero_le _, Nat.zero_le _⟩) ?_
  refine W.eq (g2 := F0 m 6 ls [.int u3]) rfl ?_
  refine zb_if_eq (pc := 6) (tgt := 11) hx hb dX3_kindTold_6 (by decide) hF (fun c_6 hF => ?_) (fun c_6 hF => ?_)
  · refine lv_aload_n (pc := 11) hx hb dX3_kindTold_11 rfl (lv_at hl 0 rfl) ?_
    refine va_ldcS (pc := 12) (q := adK 6) hx hb hown (hZ.2.2.2.2.1 6 (by decide)) dX3_kindTold_12 ?_
    obtain ⟨u14, hu14, hF⟩ := z_bind hF
    refine zq_call (oc0 := (some (.int u14))) (va_runV (As := [.ref (adK 6)]) (rest := []) ⟨hx, hb, hml, hown, hts⟩ (tX3_isWord (l := l) (D := D) (cB := cB) (cI := cI) (cJ := cJ) (cO := cO) (adK := adK) (adV := adV) h0 h_bytes g_length g_town v_from v_behind v_sort v_bytes 6 u14 hu14) (cwV 1 hts gX3_kindTold_X3_isWord rfl rfl rfl (by decide +kernel) ⟨Nat.le_of_ble_eq_true rfl, Nat.le_of_ble_eq_true rfl⟩) ⟨zPreS_blind, va_recv hK hP (ci := 3) (q0 := 0) rfl rfl, zPreS_at hP hE (zD_re hD rfl) hZ hS [0, 1] rfl rfl rfl⟩ rfl rfl hl.1 rfl (lv_room (Nat.le_of_ble_eq_true rfl)) dX3_kindTold_14 ⟨Nat.zero_le _, Nat.zero_le _⟩) ?_
    refine W.eq (g2 := F0 m 17 ls [.int u14]) rfl ?_
    refine zb_if_eq (pc := 17) (tgt := 22) hx hb dX3_kindTold_17 (by decide) hF (fun c_17 hF => ?_) (fun c_17 hF => ?_)
    · refine lv_aload_n (pc := 22) hx hb dX3_kindTold_22 rfl (lv_at hl 0 rfl) ?_
      refine va_ldcS (pc := 23) (q := adK 7) hx hb hown (hZ.2.2.2.2.1 7 (by decide)) dX3_kindTold_23 ?_
      obtain ⟨u25, hu25, hF⟩ := z_bind hF
      refine zq_call (oc0 := (some (.int u25))) (va_runV (As := [.ref (adK 7)]) (rest := []) ⟨hx, hb, hml, hown, hts⟩ (tX3_isWord (l := l) (D := D) (cB := cB) (cI := cI) (cJ := cJ) (cO := cO) (adK := adK) (adV := adV) h0 h_bytes g_length g_town v_from v_behind v_sort v_bytes 7 u25 hu25) (cwV 1 hts gX3_kindTold_X3_isWord rfl rfl rfl (by decide +kernel) ⟨Nat.le_of_ble_eq_true rfl, Nat.le_of_ble_eq_true rfl⟩) ⟨zPreS_blind, va_recv hK hP (ci := 3) (q0 := 0) rfl rfl, zPreS_at hP hE (zD_re hD rfl) hZ hS [0, 1] rfl rfl rfl⟩ rfl rfl hl.1 rfl (lv_room (Nat.le_of_ble_eq_true rfl)) dX3_kindTold_25 ⟨Nat.zero_le _, Nat.zero_le _⟩) ?_
      refine W.eq (g2 := F0 m 28 ls [.int u25]) rfl ?_
      refine zb_if_eq (pc := 28) (tgt := 33) hx hb dX3_kindTold_28 (by decide) hF (fun c_28 hF => ?_) (fun c_28 hF => ?_)
      · refine lv_aload_n (pc := 33) hx hb dX3_kindTold_33 rfl (lv_at hl 0 rfl) ?_
        refine va_ldcS (pc := 34) (q := adK 8) hx hb hown (hZ.2.2.2.2.1 8 (by decide)) dX3_kindTold_34 ?_
        obtain ⟨u36, hu36, hF⟩ := z_bind hF
        refine zq_call (oc0 := (some (.int u36))) (va_runV (As := [.ref (adK 8)]) (rest := []) ⟨hx, hb, hml, hown, hts⟩ (tX3_isWord (l := l) (D := D) (cB := cB) (cI := cI) (cJ := cJ) (cO := cO) (adK := adK) (adV := adV) h0 h_bytes g_length g_town v_from v_behind v_sort v_bytes 8 u36 hu36) (cwV 1 hts gX3_kindTold_X3_isWord rfl rfl rfl (by decide +kernel) ⟨Nat.le_of_ble_eq_true rfl, Nat.le_of_ble_eq_true rfl⟩) ⟨zPreS_blind, va_recv hK hP (ci := 3) (q0 := 0) rfl rfl, zPreS_at hP hE (zD_re hD rfl) hZ hS [0, 1] rfl rfl rfl⟩ rfl rfl hl.1 rfl (lv_room (Nat.le_of_ble_eq_true rfl)) dX3_kindTold_36 ⟨Nat.zero_le _, Nat.zero_le _⟩) ?_
        refine W.eq (g2 := F0 m 39 ls [.int u36]) rfl ?_
        refine zb_if_eq (pc := 39) (tgt := 44) hx hb dX3_kindTold_39 (by decide) hF (fun c_39 hF => ?_) (fun c_39 hF => ?_)
        · refine lv_aload_n (pc := 44) hx hb dX3_kindTold_44 rfl (lv_at hl 0 rfl) ?_
          refine va_ldcS (pc := 45) (q := adK 9) hx hb hown (hZ.2.2.2.2.1 9 (by decide)) dX3_kindTold_45 ?_
          obtain ⟨u47, hu47, hF⟩ := z_bind hF
          refine zq_call (oc0 := (some (.int u47))) (va_runV (As := [.ref (adK 9)]) (rest := []) ⟨hx, hb, hml, hown, hts⟩ (tX3_isWord (l := l) (D := D) (cB := cB) (cI := cI) (cJ := cJ) (cO := cO) (adK := adK) (adV := adV) h0 h_bytes g_length g_town v_from v_behind v_sort v_bytes 9 u47 hu47) (cwV 1 hts gX3_kindTold_X3_isWord rfl rfl rfl (by decide +kernel) ⟨Nat.le_of_ble_eq_true rfl, Nat.le_of_ble_eq_true rfl⟩) ⟨zPreS_blind, va_recv hK hP (ci := 3) (q0 := 0) rfl rfl, zPreS_at hP hE (zD_re hD rfl) hZ hS [0, 1] rfl rfl rfl⟩ rfl rfl hl.1 rfl (lv_room (Nat.le_of_ble_eq_true rfl)) dX3_kindTold_47 ⟨Nat.zero_le _, Nat.zero_le _⟩) ?_
          refine W.eq (g2 := F0 m 50 ls [.int u47]) rfl ?_
          refine zb_if_eq (pc := 50) (tgt := 55) hx hb dX3_kindTold_50 (by decide) hF (fun c_50 hF => ?_) (fun c_50 hF => ?_)
          · refine lv_aload_n (pc := 55) hx hb dX3_kindTold_55 rfl (lv_at hl 0 rfl) ?_
            refine va_ldcS (pc := 56) (q := adK 10) hx hb hown (hZ.2.2.2.2.1 10 (by decide)) dX3_kindTold_56 ?_
            obtain ⟨u58, hu58, hF⟩ := z_bind hF
            refine zq_call (oc0 := (some (.int u58))) (va_runV (As := [.ref (adK 10)]) (rest := []) ⟨hx, hb, hml, hown, hts⟩ (tX3_isWord (l := l) (D := D) (cB := cB) (cI := cI) (cJ := cJ) (cO := cO) (adK := adK) (adV := adV) h0 h_bytes g_length g_town v_from v_behind v_sort v_bytes 10 u58 hu58) (cwV 1 hts gX3_kindTold_X3_isWord rfl rfl rfl (by decide +kernel) ⟨Nat.le_of_ble_eq_true rfl, Nat.le_of_ble_eq_true rfl⟩) ⟨zPreS_blind, va_recv hK hP (ci := 3) (q0 := 0) rfl rfl, zPreS_at hP hE (zD_re hD rfl) hZ hS [0, 1] rfl rfl rfl⟩ rfl rfl hl.1 rfl (lv_room (Nat.le_of_ble_eq_true rfl)) dX3_kindTold_58 ⟨Nat.zero_le _, Nat.zero_le _⟩) ?_
            refine W.eq (g2 := F0 m 61 ls [.int u58]) rfl ?_
            refine zb_if_eq (pc := 61) (tgt := 68) hx hb dX3_kindTold_61 (by decide) hF (fun c_61 hF => ?_) (fun c_61 hF => ?_)
            · refine lv_iconst (pc := 68) (v := (-1 : Int32)) hx hb dX3_kindTold_68 (by decide) ?_
              exact z_iret (pc := 69) (fun q => q) hx hb hr hlocks hF rfl hQ dX3_kindTold_69
            · refine lv_iconst (pc := 64) (v := (nI 5)) hx hb dX3_kindTold_64 (by decide) ?_
              refine lv_goto (pc := 65) (tgt := 69) hx hb dX3_kindTold_65 (by decide) ?_
              exact z_iret (pc := 69) (fun q => q) hx hb hr hlocks hF rfl hQ dX3_kindTold_69
          · refine lv_iconst (pc := 53) (v := (nI 4)) hx hb dX3_kindTold_53 (by decide) ?_
            exact z_iret (pc := 54) (fun q => q) hx hb hr hlocks hF rfl hQ dX3_kindTold_54
        · refine lv_iconst (pc := 42) (v := (nI 3)) hx hb dX3_kindTold_42 (by decide) ?_
          exact z_iret (pc := 43) (fun q => q) hx hb hr hlocks hF rfl hQ dX3_kindTold_43
      · refine lv_iconst (pc := 31) (v := (nI 2)) hx hb dX3_kindTold_31 (by decide) ?_
        exact z_iret (pc := 32) (fun q => q) hx hb hr hlocks hF rfl hQ dX3_kindTold_32
    · refine lv_iconst (pc := 20) (v := (nI 1)) hx hb dX3_kindTold_20 (by decide) ?_
      exact z_iret (pc := 21) (fun q => q) hx hb hr hlocks hF rfl hQ dX3_kindTold_21
  · refine lv_iconst (pc := 9) (v := (nI 0)) hx hb dX3_kindTold_9 (by decide) ?_
    exact z_iret (pc := 10) (fun q => q) hx hb hr hlocks hF rfl hQ dX3_kindTold_10

abbrev rX3_lawTold : Room := { frames := 6, cells := 0, slots := 0, locals := 142 }
abbrev wX3_lawTold (cB cI cJ cO : ClassId) (h0 h_bytes : Nat) (g_length g_town : Value) (v_from : Int32) (v_behind : Int32) (v_sort : Int32) (v_bytes : Nat → Int32) : va_W := [(h0, .inr (3, [.ref h_bytes, g_length, g_town, .int v_from, .int v_behind, .int v_sort])), (h_bytes, .inl (cB, 200, .inl v_bytes))]
set_option maxHeartbeats 4000000 in
set_option maxRecDepth 100000 in
theorem tX3_lawTold {l : Launch} {D : va_G} {cB cI cJ cO : ClassId} {adK adV : Nat → Nat} (h0 h_bytes : Nat) (g_length g_town : Value) (v_from : Int32) (v_behind : Int32) (v_sort : Int32) (v_bytes : Nat → Int32) (r : Int32) (hF : fX3_lawTold v_from v_behind v_sort v_bytes = some r) : Met l yX3_lawTold wsX3_lawTold rX3_lawTold (zPreS D cB cI cJ cO adK adV [.ref h0] (wX3_lawTold cB cI cJ cO h0 h_bytes g_length g_town v_from v_behind v_sort v_bytes) [h0, h_bytes]) (zPI (some (.int r))) 0 0 (fun _ => False) := by
  refine zMetPS (cc := cX3_lawTold) (maxL := 1) (ret := (some .int)) (lv := [(0, .ref h0)]) rfl (by decide) rfl (Nat.le_of_ble_eq_true rfl) rfl ?_
  intro p e s m args below meth c ls Q hQ hx hb hr hml hown hts hlocks hname hP hE hD hS hZ hl
  have hown : s.vm.findClass RX3 = some m.cls := hown
  have hK := hE.1
  unfold fX3_lawTold at hF
  refine lv_aload_n (pc := 0) hx hb dX3_lawTold_0 rfl (lv_at hl 0 rfl) ?_
  refine va_ldcS (pc := 1) (q := adK 14) hx hb hown (hZ.2.2.2.2.1 14 (by decide)) dX3_lawTold_1 ?_
  obtain ⟨u3, hu3, hF⟩ := z_bind hF
  refine zq_call (oc0 := (some (.int u3))) (va_runV (As := [.ref (adK 14)]) (rest := []) ⟨hx, hb, hml, hown, hts⟩ (tX3_isWord (l := l) (D := D) (cB := cB) (cI := cI) (cJ := cJ) (cO := cO) (adK := adK) (adV := adV) h0 h_bytes g_length g_town v_from v_behind v_sort v_bytes 14 u3 hu3) (cwV 1 hts gX3_lawTold_X3_isWord rfl rfl rfl (by decide +kernel) ⟨Nat.le_of_ble_eq_true rfl, Nat.le_of_ble_eq_true rfl⟩) ⟨zPreS_blind, va_recv hK hP (ci := 3) (q0 := 0) rfl rfl, zPreS_at hP hE (zD_re hD rfl) hZ hS [0, 1] rfl rfl rfl⟩ rfl rfl hl.1 rfl (lv_room (Nat.le_of_ble_eq_true rfl)) dX3_lawTold_3 ⟨Nat.zero_le _, Nat.zero_le _⟩) ?_
  refine W.eq (g2 := F0 m 6 ls [.int u3]) rfl ?_
  refine zb_if_eq (pc := 6) (tgt := 11) hx hb dX3_lawTold_6 (by decide) hF (fun c_6 hF => ?_) (fun c_6 hF => ?_)
  · refine lv_aload_n (pc := 11) hx hb dX3_lawTold_11 rfl (lv_at hl 0 rfl) ?_
    refine va_ldcS (pc := 12) (q := adK 15) hx hb hown (hZ.2.2.2.2.1 15 (by decide)) dX3_lawTold_12 ?_
    obtain ⟨u14, hu14, hF⟩ := z_bind hF
    refine zq_call (oc0 := (some (.int u14))) (va_runV (As := [.ref (adK 15)]) (rest := []) ⟨hx, hb, hml, hown, hts⟩ (tX3_isWord (l := l) (D := D) (cB := cB) (cI := cI) (cJ := cJ) (cO := cO) (adK := adK) (adV := adV) h0 h_bytes g_length g_town v_from v_behind v_sort v_bytes 15 u14 hu14) (cwV 1 hts gX3_lawTold_X3_isWord rfl rfl rfl (by decide +kernel) ⟨Nat.le_of_ble_eq_true rfl, Nat.le_of_ble_eq_true rfl⟩) ⟨zPreS_blind, va_recv hK hP (ci := 3) (q0 := 0) rfl rfl, zPreS_at hP hE (zD_re hD rfl) hZ hS [0, 1] rfl rfl rfl⟩ rfl rfl hl.1 rfl (lv_room (Nat.le_of_ble_eq_true rfl)) dX3_lawTold_14 ⟨Nat.zero_le _, Nat.zero_le _⟩) ?_
    refine W.eq (g2 := F0 m 17 ls [.int u14]) rfl ?_
    refine zb_if_eq (pc := 17) (tgt := 22) hx hb dX3_lawTold_17 (by decide) hF (fun c_17 hF => ?_) (fun c_17 hF => ?_)
    · refine lv_aload_n (pc := 22) hx hb dX3_lawTold_22 rfl (lv_at hl 0 rfl) ?_
      refine va_ldcS (pc := 23) (q := adK 16) hx hb hown (hZ.2.2.2.2.1 16 (by decide)) dX3_lawTold_23 ?_
      obtain ⟨u25, hu25, hF⟩ := z_bind hF
      refine zq_call (oc0 := (some (.int u25))) (va_runV (As := [.ref (adK 16)]) (rest := []) ⟨hx, hb, hml, hown, hts⟩ (tX3_isWord (l := l) (D := D) (cB := cB) (cI := cI) (cJ := cJ) (cO := cO) (adK := adK) (adV := adV) h0 h_bytes g_length g_town v_from v_behind v_sort v_bytes 16 u25 hu25) (cwV 1 hts gX3_lawTold_X3_isWord rfl rfl rfl (by decide +kernel) ⟨Nat.le_of_ble_eq_true rfl, Nat.le_of_ble_eq_true rfl⟩) ⟨zPreS_blind, va_recv hK hP (ci := 3) (q0 := 0) rfl rfl, zPreS_at hP hE (zD_re hD rfl) hZ hS [0, 1] rfl rfl rfl⟩ rfl rfl hl.1 rfl (lv_room (Nat.le_of_ble_eq_true rfl)) dX3_lawTold_25 ⟨Nat.zero_le _, Nat.zero_le _⟩) ?_
      refine W.eq (g2 := F0 m 28 ls [.int u25]) rfl ?_
      refine zb_if_eq (pc := 28) (tgt := 33) hx hb dX3_lawTold_28 (by decide) hF (fun c_28 hF => ?_) (fun c_28 hF => ?_)
      · refine lv_aload_n (pc := 33) hx hb dX3_lawTold_33 rfl (lv_at hl 0 rfl) ?_
        refine va_ldcS (pc := 34) (q := adK 17) hx hb hown (hZ.2.2.2.2.1 17 (by decide)) dX3_lawTold_34 ?_
        obtain ⟨u36, hu36, hF⟩ := z_bind hF
        refine zq_call (oc0 := (some (.int u36))) (va_runV (As := [.ref (adK 17)]) (rest := []) ⟨hx, hb, hml, hown, hts⟩ (tX3_isWord (l := l) (D := D) (cB := cB) (cI := cI) (cJ := cJ) (cO := cO) (adK := adK) (adV := adV) h0 h_bytes g_length g_town v_from v_behind v_sort v_bytes 17 u36 hu36) (cwV 1 hts gX3_lawTold_X3_isWord rfl rfl rfl (by decide +kernel) ⟨Nat.le_of_ble_eq_true rfl, Nat.le_of_ble_eq_true rfl⟩) ⟨zPreS_blind, va_recv hK hP (ci := 3) (q0 := 0) rfl rfl, zPreS_at hP hE (zD_re hD rfl) hZ hS [0, 1] rfl rfl rfl⟩ rfl rfl hl.1 rfl (lv_room (Nat.le_of_ble_eq_true rfl)) dX3_lawTold_36 ⟨Nat.zero_le _, Nat.zero_le _⟩) ?_
        refine W.eq (g2 := F0 m 39 ls [.int u36]) rfl ?_
        refine zb_if_eq (pc := 39) (tgt := 46) hx hb dX3_lawTold_39 (by decide) hF (fun c_39 hF => ?_) (fun c_39 hF => ?_)
        · refine lv_iconst (pc := 46) (v := (-1 : Int32)) hx hb dX3_lawTold_46 (by decide) ?_
          exact z_iret (pc := 47) (fun q => q) hx hb hr hlocks hF rfl hQ dX3_lawTold_47
        · refine lv_iconst (pc := 42) (v := (nI 3)) hx hb dX3_lawTold_42 (by decide) ?_
          refine lv_goto (pc := 43) (tgt := 47) hx hb dX3_lawTold_43 (by decide) ?_
          exact z_iret (pc := 47) (fun q => q) hx hb hr hlocks hF rfl hQ dX3_lawTold_47
      · refine lv_iconst (pc := 31) (v := (nI 2)) hx hb dX3_lawTold_31 (by decide) ?_
        exact z_iret (pc := 32) (fun q => q) hx hb hr hlocks hF rfl hQ dX3_lawTold_32
    · refine lv_iconst (pc := 20) (v := (nI 1)) hx hb dX3_lawTold_20 (by decide) ?_
      exact z_iret (pc := 21) (fun q => q) hx hb hr hlocks hF rfl hQ dX3_lawTold_21
  · refine lv_iconst (pc := 9) (v := (nI 0)) hx hb dX3_lawTold_9 (by decide) ?_
    exact z_iret (pc := 10) (fun q => q) hx hb hr hlocks hF rfl hQ dX3_lawTold_10

abbrev rX3_takeWord : Room := { frames := 6, cells := 0, slots := 0, locals := 142 }
abbrev wX3_takeWord (cB cI cJ cO : ClassId) (h0 h_bytes : Nat) (g_town : Value) (v_length : Int32) (v_from : Int32) (v_behind : Int32) (v_sort : Int32) (v_bytes : Nat → Int32) : va_W := [(h0, .inr (3, [.ref h_bytes, .int v_length, g_town, .int v_from, .int v_behind, .int v_sort])), (h_bytes, .inl (cB, 200, .inl v_bytes))]
set_option maxHeartbeats 4000000 in
set_option maxRecDepth 100000 in
theorem tX3_takeWord {l : Launch} {D : va_G} {cB cI cJ cO : ClassId} {adK adV : Nat → Nat} (h0 h_bytes : Nat) (g_town : Value) (v_length : Int32) (v_from : Int32) (v_behind : Int32) (v_sort : Int32) (v_bytes : Nat → Int32) (x1 : Nat) (r : Int32 × Int32 × Int32 × Int32) (hF : fX3_takeWord v_length v_from v_behind v_sort v_bytes x1 = some r) : Met l yX3_takeWord wsX3_takeWord rX3_takeWord (zPreS D cB cI cJ cO adK adV [.ref h0, .ref (adK x1)] (wX3_takeWord cB cI cJ cO h0 h_bytes g_town v_length v_from v_behind v_sort v_bytes) [h0, h_bytes]) (zPM (some (.int r.1)) D (wX3_takeWord cB cI cJ cO h0 h_bytes g_town v_length r.2.1 r.2.2.1 r.2.2.2 v_bytes) (zAs [h0, h_bytes])) 0 0 (zAs [h0, h_bytes]) := by
  refine zMetMS (cc := cX3_takeWord) (maxL := 2) (ret := (some .boolean)) (lv := [(0, .ref h0), (1, .ref (adK x1))]) rfl (by decide) rfl (Nat.le_of_ble_eq_true rfl) rfl ?_
  intro p e s m args below meth c ls Q H locs hQ hx hb hr hml hown hts hlocks hname hP hE hD hS hZ hl
  have hown : s.vm.findClass RX3 = some m.cls := hown
  have hK := hE.1
  unfold fX3_takeWord at hF
  refine lv_aload_n (pc := 0) hx hb dX3_takeWord_0 rfl (lv_at hl 0 rfl) ?_
  refine lv_aload_n (pc := 1) hx hb dX3_takeWord_1 rfl (lv_at hl 1 rfl) ?_
  obtain ⟨u2, hu2, hF⟩ := z_bind hF
  refine zq_call (oc0 := (some (.int u2))) (va_runV (As := [.ref (adK x1)]) (rest := []) ⟨hx, hb, hml, hown, hts⟩ (tX3_isWord (l := l) (D := D) (cB := cB) (cI := cI) (cJ := cJ) (cO := cO) (adK := adK) (adV := adV) h0 h_bytes (.int v_length) g_town v_from v_behind v_sort v_bytes x1 u2 hu2) (cwV 1 hts gX3_takeWord_X3_isWord rfl rfl rfl (by decide +kernel) ⟨Nat.le_of_ble_eq_true rfl, Nat.le_of_ble_eq_true rfl⟩) ⟨zPreS_blind, va_recv hK hP (ci := 3) (q0 := 0) rfl rfl, zPreS_at hP hE (zD_re hD rfl) hZ hS [0, 1] rfl rfl rfl⟩ rfl rfl hl.1 rfl (lv_room (Nat.le_of_ble_eq_true rfl)) dX3_takeWord_2 ⟨Nat.zero_le _, Nat.zero_le _⟩) ?_
  refine W.eq (g2 := F0 m 5 ls [.int u2]) rfl ?_
  refine zb_if_ne (pc := 5) (tgt := 10) hx hb dX3_takeWord_5 (by decide) hF (fun c_5 hF => ?_) (fun c_5 hF => ?_)
  · refine lv_aload_n (pc := 10) hx hb dX3_takeWord_10 rfl (lv_at hl 0 rfl) ?_
    obtain ⟨u11, hu11, hF⟩ := z_bind hF
    refine zq_callM (oc0 := none) (wc := wX3_step cB cI cJ cO h0 h_bytes g_town v_length v_from v_behind v_sort v_bytes) (wc' := wX3_step cB cI cJ cO h0 h_bytes g_town v_length u11.1 u11.2.1 u11.2.2 v_bytes) (ws' := (wX3_takeWord cB cI cJ cO h0 h_bytes g_town v_length u11.1 u11.2.1 u11.2.2 v_bytes)) (va_runV (As := []) (rest := []) ⟨hx, hb, hml, hown, hts⟩ (tX3_step (l := l) (D := D) (cB := cB) (cI := cI) (cJ := cJ) (cO := cO) h0 h_bytes g_town v_length v_from v_behind v_sort v_bytes u11 hu11) (cwV 0 hts gX3_takeWord_X3_step rfl rfl rfl (by decide +kernel) ⟨Nat.le_of_ble_eq_true rfl, Nat.le_of_ble_eq_true rfl⟩) ⟨zPre_blind, va_recv hK hP (ci := 3) (q0 := 0) rfl rfl, zPre_at hP hE (zD_re hD rfl) [0, 1] rfl rfl⟩ rfl rfl hl.1 rfl (lv_room (Nat.le_of_ble_eq_true rfl)) dX3_takeWord_11 ⟨Nat.zero_le _, Nat.zero_le _⟩) rfl hP (zD_re hD rfl) hS [0, 1] rfl rfl [some 0, some 1] rfl rfl rfl rfl (fun H locs hP hS => ?_)
    refine W.eq (g2 := F0 m 14 ls []) rfl ?_
    refine lv_iconst (pc := 14) (v := (nI 1)) hx hb dX3_takeWord_14 (by decide) ?_
    exact z_zretM (pc := 15) (fun q => q.1) (fun q => (wX3_takeWord cB cI cJ cO h0 h_bytes g_town v_length q.2.1 q.2.2.1 q.2.2.2 v_bytes)) hx hb hr hlocks (by decide) hP hS hF rfl hQ dX3_takeWord_15
  · refine lv_iconst (pc := 8) (v := (nI 0)) hx hb dX3_takeWord_8 (by decide) ?_
    exact z_zretM (pc := 9) (fun q => q.1) (fun q => (wX3_takeWord cB cI cJ cO h0 h_bytes g_town v_length q.2.1 q.2.2.1 q.2.2.2 v_bytes)) hx hb hr hlocks (by decide) hP hS hF rfl hQ dX3_takeWord_9

abbrev rX3_takeNumber : Room := { frames := 2, cells := 0, slots := 0, locals := 42 }
abbrev wX3_takeNumber (cB cI cJ cO : ClassId) (h0 h_bytes : Nat) (g_town : Value) (v_length : Int32) (v_from : Int32) (v_behind : Int32) (v_sort : Int32) (v_bytes : Nat → Int32) : va_W := [(h0, .inr (3, [.ref h_bytes, .int v_length, g_town, .int v_from, .int v_behind, .int v_sort])), (h_bytes, .inl (cB, 200, .inl v_bytes))]
theorem nX3_takeNumber_X3 : ∀ w ∈ wsX30, w ∈ wsX3_takeNumber := by decide +kernel
theorem kX3_takeNumber_0 : Cond.fieldLink RX3 32 "PaintedWalls$TownText" "sort" "I" ∈ wsX3_takeNumber := by decide +kernel
theorem kX3_takeNumber_1 : Cond.fieldLink RX3 134 "PaintedWalls$TownText" "behind" "I" ∈ wsX3_takeNumber := by decide +kernel
theorem kX3_takeNumber_2 : Cond.fieldLink RX3 59 "PaintedWalls$TownText" "from" "I" ∈ wsX3_takeNumber := by decide +kernel
theorem kX3_takeNumber_3 : Cond.fieldLink RX3 9 "PaintedWalls$TownText" "bytes" "[B" ∈ wsX3_takeNumber := by decide +kernel
set_option maxHeartbeats 4000000 in
set_option maxRecDepth 100000 in
theorem tX3_takeNumber {l : Launch} {D : va_G} {cB cI cJ cO : ClassId} (h0 h_bytes : Nat) (g_town : Value) (v_length : Int32) (v_from : Int32) (v_behind : Int32) (v_sort : Int32) (v_bytes : Nat → Int32) (x1 : Int32) (r : Int32 × Int32 × Int32 × Int32) (hF : fX3_takeNumber v_length v_from v_behind v_sort v_bytes x1 = some r) : Met l yX3_takeNumber wsX3_takeNumber rX3_takeNumber (zPre D cB cI cJ cO [.ref h0, .int x1] (wX3_takeNumber cB cI cJ cO h0 h_bytes g_town v_length v_from v_behind v_sort v_bytes)) (zPM (some (.int r.1)) D (wX3_takeNumber cB cI cJ cO h0 h_bytes g_town v_length r.2.1 r.2.2.1 r.2.2.2 v_bytes) (zAs [h0, h_bytes])) 0 0 (zAs [h0, h_bytes]) := by
  refine zMetM (cc := cX3_takeNumber) (maxL := 4) (ret := (some .int)) (lv := [(0, .ref h0), (1, .int x1)]) rfl (by decide) rfl (Nat.le_of_ble_eq_true rfl) rfl ?_
  intro p e s m args below meth c ls Q H locs hQ hx hb hr hml hown hts hlocks hname hP hE hD hS hl
  have hown : s.vm.findClass RX3 = some m.cls := hown
  have hK := hE.1
  unfold fX3_takeNumber at hF
  refine lv_aload_n (pc := 0) hx hb dX3_takeNumber_0 rfl (lv_at hl 0 rfl) ?_
  refine va_get (D := D) (pc := 1) (ci := 3) (v := .int v_sort) (C := RX3) (T := TX3) (N := 6) hx hb hts nX3_takeNumber_X3 hown hK hP 0 rfl rfl 5 (by decide) (hts _ kX3_takeNumber_0) (fun _ h9 => h9) rfl dX3_takeNumber_1 ?_
  refine lv_iconst (pc := 4) (v := (nI 2)) hx hb dX3_takeNumber_4 (by decide) ?_
  refine zb_icmp_ne (pc := 5) (tgt := 21) hx hb dX3_takeNumber_5 (by decide) hF (fun c_5 hF => ?_) (fun c_5 hF => ?_)
  · refine lv_iconst (pc := 21) (v := (-1 : Int32)) hx hb dX3_takeNumber_21 (by decide) ?_
    exact z_iretM (pc := 22) (fun q => q.1) (fun q => (wX3_takeNumber cB cI cJ cO h0 h_bytes g_town v_length q.2.1 q.2.2.1 q.2.2.2 v_bytes)) hx hb hr hlocks hP hS hF rfl hQ dX3_takeNumber_22
  · refine lv_aload_n (pc := 8) hx hb dX3_takeNumber_8 rfl (lv_at hl 0 rfl) ?_
    refine va_get (D := D) (pc := 9) (ci := 3) (v := .int v_behind) (C := RX3) (T := TX3) (N := 6) hx hb hts nX3_takeNumber_X3 hown hK hP 0 rfl rfl 4 (by decide) (hts _ kX3_takeNumber_1) (fun _ h9 => h9) rfl dX3_takeNumber_9 ?_
    refine lv_aload_n (pc := 12) hx hb dX3_takeNumber_12 rfl (lv_at hl 0 rfl) ?_
    refine va_get (D := D) (pc := 13) (ci := 3) (v := .int v_from) (C := RX3) (T := TX3) (N := 6) hx hb hts nX3_takeNumber_X3 hown hK hP 0 rfl rfl 3 (by decide) (hts _ kX3_takeNumber_2) (fun _ h9 => h9) rfl dX3_takeNumber_13 ?_
    refine lv_isub (pc := 16) hx hb dX3_takeNumber_16 ?_
    refine lv_iconst (pc := 17) (v := (nI 3)) hx hb dX3_takeNumber_17 (by decide) ?_
    refine zb_icmp_le (pc := 18) (tgt := 23) hx hb dX3_takeNumber_18 (by decide) hF (fun c_18 hF => ?_) (fun c_18 hF => ?_)
    · refine lv_iconst (pc := 23) (v := (nI 0)) hx hb dX3_takeNumber_23 (by decide) ?_
      refine lv_istore_n (pc := 24) (lv' := [(2, .int (nI 0)), (0, .ref h0), (1, .int x1)]) hx hb dX3_takeNumber_24 rfl hl (by decide) rfl (fun ls hl => ?_)
      refine lv_aload_n (pc := 25) hx hb dX3_takeNumber_25 rfl (lv_at hl 1 rfl) ?_
      refine va_get (D := D) (pc := 26) (ci := 3) (v := .int v_from) (C := RX3) (T := TX3) (N := 6) hx hb hts nX3_takeNumber_X3 hown hK hP 0 rfl rfl 3 (by decide) (hts _ kX3_takeNumber_2) (fun _ h9 => h9) rfl dX3_takeNumber_26 ?_
      refine lv_istore_n (pc := 29) (lv' := [(3, .int v_from), (2, .int (nI 0)), (0, .ref h0), (1, .int x1)]) hx hb dX3_takeNumber_29 rfl hl (by decide) rfl (fun ls hl => ?_)
      obtain ⟨k_4, hk_4, hF⟩ := z_J hF
      have kk_4 : ∀ (y2_3 : Int32) , k_4 y2_3 = some r → ∀ (H : Heap) (locs : List Loc), va_P D vwCl (wX3_takeNumber cB cI cJ cO h0 h_bytes g_town v_length v_from v_behind v_sort v_bytes) H → va_S (zAs [h0, h_bytes]) s.heap H locs → ∀ (ls : Array Slot), lv_has ls 4 [(0, .ref h0), (1, .int x1), (2, .int y2_3)] → W p l e rX3_takeNumber s m args below meth c H locs 0 0 Q (F0 m 59 ls []) := by
        intro y2_3 hF H locs hP hS ls hl
        rw [hk_4] at hF
        refine lv_iload_n (pc := 59) hx hb dX3_takeNumber_59 rfl (lv_at hl 2 rfl) ?_
        refine lv_iload_n (pc := 60) hx hb dX3_takeNumber_60 rfl (lv_at hl 1 rfl) ?_
        refine zb_icmp_le (pc := 61) (tgt := 66) hx hb dX3_takeNumber_61 (by decide) hF (fun c_61 hF => ?_) (fun c_61 hF => ?_)
        · refine lv_aload_n (pc := 66) hx hb dX3_takeNumber_66 rfl (lv_at hl 0 rfl) ?_
          obtain ⟨u67, hu67, hF⟩ := z_bind hF
          refine zq_callM (oc0 := none) (wc := wX3_step cB cI cJ cO h0 h_bytes g_town v_length v_from v_behind v_sort v_bytes) (wc' := wX3_step cB cI cJ cO h0 h_bytes g_town v_length u67.1 u67.2.1 u67.2.2 v_bytes) (ws' := (wX3_takeNumber cB cI cJ cO h0 h_bytes g_town v_length u67.1 u67.2.1 u67.2.2 v_bytes)) (va_runV (As := []) (rest := []) ⟨hx, hb, hml, hown, hts⟩ (tX3_step (l := l) (D := D) (cB := cB) (cI := cI) (cJ := cJ) (cO := cO) h0 h_bytes g_town v_length v_from v_behind v_sort v_bytes u67 hu67) (cwV 0 hts gX3_takeNumber_X3_step rfl rfl rfl (by decide +kernel) ⟨Nat.le_of_ble_eq_true rfl, Nat.le_of_ble_eq_true rfl⟩) ⟨zPre_blind, va_recv hK hP (ci := 3) (q0 := 0) rfl rfl, zPre_at hP hE (zD_re hD rfl) [0, 1] rfl rfl⟩ rfl rfl hl.1 rfl (lv_room (Nat.le_of_ble_eq_true rfl)) dX3_takeNumber_67 ⟨Nat.zero_le _, Nat.zero_le _⟩) rfl hP (zD_re hD rfl) hS [0, 1] rfl rfl [some 0, some 1] rfl rfl rfl rfl (fun H locs hP hS => ?_)
          refine W.eq (g2 := F0 m 70 ls []) rfl ?_
          refine lv_iload_n (pc := 70) hx hb dX3_takeNumber_70 rfl (lv_at hl 2 rfl) ?_
          exact z_iretM (pc := 71) (fun q => q.1) (fun q => (wX3_takeNumber cB cI cJ cO h0 h_bytes g_town v_length q.2.1 q.2.2.1 q.2.2.2 v_bytes)) hx hb hr hlocks hP hS hF rfl hQ dX3_takeNumber_71
        · refine lv_iconst (pc := 64) (v := (-1 : Int32)) hx hb dX3_takeNumber_64 (by decide) ?_
          exact z_iretM (pc := 65) (fun q => q.1) (fun q => (wX3_takeNumber cB cI cJ cO h0 h_bytes g_town v_length q.2.1 q.2.2.1 q.2.2.2 v_bytes)) hx hb hr hlocks hP hS hF rfl hQ dX3_takeNumber_65
      have hL_30 : ∀ (n : Nat) (y2_1 : Int32) (y3_2 : Int32) , fX3_takeNumber_L30 v_behind v_bytes k_4 n y2_1 y3_2 = some r → ∀ (H : Heap) (locs : List Loc), va_P D vwCl (wX3_takeNumber cB cI cJ cO h0 h_bytes g_town v_length v_from v_behind v_sort v_bytes) H → va_S (zAs [h0, h_bytes]) s.heap H locs → ∀ (ls : Array Slot), lv_has ls 4 [(0, .ref h0), (1, .int x1), (2, .int y2_1), (3, .int y3_2)] → W p l e rX3_takeNumber s m args below meth c H locs 0 0 Q (F0 m 30 ls []) := by
        intro n
        induction n with
        | zero =>
          intro y2_1 y3_2 hF H locs hP hS ls hl
          exact z_no hF
        | succ n ih =>
          intro y2_1 y3_2 hF H locs hP hS ls hl
          rw [fX3_takeNumber_L30] at hF
          refine lv_iload_n (pc := 30) hx hb dX3_takeNumber_30 rfl (lv_at hl 3 rfl) ?_
          refine lv_aload_n (pc := 31) hx hb dX3_takeNumber_31 rfl (lv_at hl 0 rfl) ?_
          refine va_get (D := D) (pc := 32) (ci := 3) (v := .int v_behind) (C := RX3) (T := TX3) (N := 6) hx hb hts nX3_takeNumber_X3 hown hK hP 0 rfl rfl 4 (by decide) (hts _ kX3_takeNumber_1) (fun _ h9 => h9) rfl dX3_takeNumber_32 ?_
          refine zb_icmp_ge (pc := 35) (tgt := 59) hx hb dX3_takeNumber_35 (by decide) hF (fun c_35 hF => ?_) (fun c_35 hF => ?_)
          · exact kk_4 y2_1 hF H locs hP hS ls (lv_sub hl [0, 1, 2] rfl)
          · refine lv_iload_n (pc := 38) hx hb dX3_takeNumber_38 rfl (lv_at hl 2 rfl) ?_
            refine lv_bipush (pc := 39) (v := (nI 10)) hx hb dX3_takeNumber_39 (by decide) ?_
            refine lv_imul (pc := 41) hx hb dX3_takeNumber_41 ?_
            refine lv_aload_n (pc := 42) hx hb dX3_takeNumber_42 rfl (lv_at hl 0 rfl) ?_
            refine va_get (D := D) (pc := 43) (ci := 3) (v := .ref h_bytes) (C := RX3) (T := TX3) (N := 6) hx hb hts nX3_takeNumber_X3 hown hK hP 0 rfl rfl 0 (by decide) (hts _ kX3_takeNumber_3) (fun _ h9 => h9) rfl dX3_takeNumber_43 ?_
            refine lv_iload_n (pc := 46) hx hb dX3_takeNumber_46 rfl (lv_at hl 3 rfl) ?_
            refine za_bald (pc := 47) hx hb hK hP 1 0 rfl rfl dX3_takeNumber_47 hF (fun hF => ?_)
            refine lv_iadd (pc := 48) hx hb dX3_takeNumber_48 ?_
            refine lv_bipush (pc := 49) (v := (nI 48)) hx hb dX3_takeNumber_49 (by decide) ?_
            refine lv_isub (pc := 51) hx hb dX3_takeNumber_51 ?_
            refine lv_istore_n (pc := 52) (lv' := [(2, .int (((y2_1 * (nI 10)) + (v_bytes y3_2.toNatClampNeg)) - (nI 48))), (0, .ref h0), (1, .int x1), (3, .int y3_2)]) hx hb dX3_takeNumber_52 rfl hl (by decide) rfl (fun ls hl => ?_)
            refine lv_iinc (pc := 53) (v := (y3_2 + 1)) (lv' := [(3, .int (y3_2 + 1)), (2, .int (((y2_1 * (nI 10)) + (v_bytes y3_2.toNatClampNeg)) - (nI 48))), (0, .ref h0), (1, .int x1)]) hx hb dX3_takeNumber_53 hl (k := 3) rfl rfl (by decide) rfl (fun ls hl => ?_)
            refine lv_goto (pc := 56) (tgt := 30) hx hb dX3_takeNumber_56 (by decide) ?_
            exact ih (((y2_1 * (nI 10)) + (v_bytes y3_2.toNatClampNeg)) - (nI 48)) (y3_2 + 1) hF H locs hP hS ls (lv_sub hl [2, 3, 1, 0] rfl)
      exact hL_30 zK (nI 0) v_from hF H locs hP hS ls (lv_sub hl [2, 3, 1, 0] rfl)
    · refine lv_iconst (pc := 21) (v := (-1 : Int32)) hx hb dX3_takeNumber_21 (by decide) ?_
      exact z_iretM (pc := 22) (fun q => q.1) (fun q => (wX3_takeNumber cB cI cJ cO h0 h_bytes g_town v_length q.2.1 q.2.2.1 q.2.2.2 v_bytes)) hx hb hr hlocks hP hS hF rfl hQ dX3_takeNumber_22

abbrev rX3_takeOption : Room := { frames := 7, cells := 0, slots := 0, locals := 163 }
abbrev wX3_takeOption (cB cI cJ cO : ClassId) (h0 h_bytes : Nat) (g_town : Value) (v_length : Int32) (v_from : Int32) (v_behind : Int32) (v_sort : Int32) (v_bytes : Nat → Int32) : va_W := [(h0, .inr (3, [.ref h_bytes, .int v_length, g_town, .int v_from, .int v_behind, .int v_sort])), (h_bytes, .inl (cB, 200, .inl v_bytes))]
set_option maxHeartbeats 4000000 in
set_option maxRecDepth 100000 in
theorem tX3_takeOption {l : Launch} {D : va_G} {cB cI cJ cO : ClassId} {adK adV : Nat → Nat} (h0 h_bytes : Nat) (g_town : Value) (v_length : Int32) (v_from : Int32) (v_behind : Int32) (v_sort : Int32) (v_bytes : Nat → Int32) (x1 : Nat) (x2 : Int32) (x3 : Int32) (r : Int32 × Int32 × Int32 × Int32) (hF : fX3_takeOption v_length v_from v_behind v_sort v_bytes x1 x2 x3 = some r) : Met l yX3_takeOption wsX3_takeOption rX3_takeOption (zPreS D cB cI cJ cO adK adV [.ref h0, .ref (adK x1), .int x2, .int x3] (wX3_takeOption cB cI cJ cO h0 h_bytes g_town v_length v_from v_behind v_sort v_bytes) [h0, h_bytes]) (zPM (some (.int r.1)) D (wX3_takeOption cB cI cJ cO h0 h_bytes g_town v_length r.2.1 r.2.2.1 r.2.2.2 v_bytes) (zAs [h0, h_bytes])) 0 0 (zAs [h0, h_bytes]) := by
  refine zMetMS (cc := cX3_takeOption) (maxL := 4) (ret := (some .int)) (lv := [(0, .ref h0), (1, .ref (adK x1)), (2, .int x2), (3, .int x3)]) rfl (by decide) rfl (Nat.le_of_ble_eq_true rfl) rfl ?_
  intro p e s m args below meth c ls Q H locs hQ hx hb hr hml hown hts hlocks hname hP hE hD hS hZ hl
  have hown : s.vm.findClass RX3 = some m.cls := hown
  have hK := hE.1
  unfold fX3_takeOption at hF
  refine lv_aload_n (pc := 0) hx hb dX3_takeOption_0 rfl (lv_at hl 0 rfl) ?_
  refine lv_aload_n (pc := 1) hx hb dX3_takeOption_1 rfl (lv_at hl 1 rfl) ?_
  obtain ⟨u2, hu2, hF⟩ := z_bind hF
  refine zq_callM (oc0 := (some (.int u2.1))) (wc := wX3_takeWord cB cI cJ cO h0 h_bytes g_town v_length v_from v_behind v_sort v_bytes) (wc' := wX3_takeWord cB cI cJ cO h0 h_bytes g_town v_length u2.2.1 u2.2.2.1 u2.2.2.2 v_bytes) (ws' := (wX3_takeOption cB cI cJ cO h0 h_bytes g_town v_length u2.2.1 u2.2.2.1 u2.2.2.2 v_bytes)) (va_runV (As := [.ref (adK x1)]) (rest := []) ⟨hx, hb, hml, hown, hts⟩ (tX3_takeWord (l := l) (D := D) (cB := cB) (cI := cI) (cJ := cJ) (cO := cO) (adK := adK) (adV := adV) h0 h_bytes g_town v_length v_from v_behind v_sort v_bytes x1 u2 hu2) (cwV 1 hts gX3_takeOption_X3_takeWord rfl rfl rfl (by decide +kernel) ⟨Nat.le_of_ble_eq_true rfl, Nat.le_of_ble_eq_true rfl⟩) ⟨zPreS_blind, va_recv hK hP (ci := 3) (q0 := 0) rfl rfl, zPreS_at hP hE (zD_re hD rfl) hZ hS [0, 1] rfl rfl rfl⟩ rfl rfl hl.1 rfl (lv_room (Nat.le_of_ble_eq_true rfl)) dX3_takeOption_2 ⟨Nat.zero_le _, Nat.zero_le _⟩) rfl hP (zD_re hD rfl) hS [0, 1] rfl rfl [some 0, some 1] rfl rfl rfl rfl (fun H locs hP hS => ?_)
  refine W.eq (g2 := F0 m 5 ls [.int u2.1]) rfl ?_
  refine zb_if_eq (pc := 5) (tgt := 16) hx hb dX3_takeOption_5 (by decide) hF (fun c_5 hF => ?_) (fun c_5 hF => ?_)
  · refine lv_iload_n (pc := 16) hx hb dX3_takeOption_16 rfl (lv_at hl 3 rfl) ?_
    exact z_iretM (pc := 17) (fun q => q.1) (fun q => (wX3_takeOption cB cI cJ cO h0 h_bytes g_town v_length q.2.1 q.2.2.1 q.2.2.2 v_bytes)) hx hb hr hlocks hP hS hF rfl hQ dX3_takeOption_17
  · refine lv_aload_n (pc := 8) hx hb dX3_takeOption_8 rfl (lv_at hl 0 rfl) ?_
    refine lv_iload_n (pc := 9) hx hb dX3_takeOption_9 rfl (lv_at hl 2 rfl) ?_
    obtain ⟨u10, hu10, hF⟩ := z_bind hF
    refine zq_callM (oc0 := (some (.int u10.1))) (wc := wX3_takeNumber cB cI cJ cO h0 h_bytes g_town v_length u2.2.1 u2.2.2.1 u2.2.2.2 v_bytes) (wc' := wX3_takeNumber cB cI cJ cO h0 h_bytes g_town v_length u10.2.1 u10.2.2.1 u10.2.2.2 v_bytes) (ws' := (wX3_takeOption cB cI cJ cO h0 h_bytes g_town v_length u10.2.1 u10.2.2.1 u10.2.2.2 v_bytes)) (va_runV (As := [.int x2]) (rest := []) ⟨hx, hb, hml, hown, hts⟩ (tX3_takeNumber (l := l) (D := D) (cB := cB) (cI := cI) (cJ := cJ) (cO := cO) h0 h_bytes g_town v_length u2.2.1 u2.2.2.1 u2.2.2.2 v_bytes x2 u10 hu10) (cwV 1 hts gX3_takeOption_X3_takeNumber rfl rfl rfl (by decide +kernel) ⟨Nat.le_of_ble_eq_true rfl, Nat.le_of_ble_eq_true rfl⟩) ⟨zPre_blind, va_recv hK hP (ci := 3) (q0 := 0) rfl rfl, zPre_at hP hE (zD_re hD rfl) [0, 1] rfl rfl⟩ rfl rfl hl.1 rfl (lv_room (Nat.le_of_ble_eq_true rfl)) dX3_takeOption_10 ⟨Nat.zero_le _, Nat.zero_le _⟩) rfl hP (zD_re hD rfl) hS [0, 1] rfl rfl [some 0, some 1] rfl rfl rfl rfl (fun H locs hP hS => ?_)
    refine W.eq (g2 := F0 m 13 ls [.int u10.1]) rfl ?_
    refine lv_goto (pc := 13) (tgt := 17) hx hb dX3_takeOption_13 (by decide) ?_
    exact z_iretM (pc := 17) (fun q => q.1) (fun q => (wX3_takeOption cB cI cJ cO h0 h_bytes g_town v_length q.2.1 q.2.2.1 q.2.2.2 v_bytes)) hx hb hr hlocks hP hS hF rfl hQ dX3_takeOption_17

abbrev rX3_takeEnd : Room := { frames := 2, cells := 0, slots := 0, locals := 42 }
abbrev wX3_takeEnd (cB cI cJ cO : ClassId) (h0 h_bytes : Nat) (g_town : Value) (v_length : Int32) (v_from : Int32) (v_behind : Int32) (v_sort : Int32) (v_bytes : Nat → Int32) : va_W := [(h0, .inr (3, [.ref h_bytes, .int v_length, g_town, .int v_from, .int v_behind, .int v_sort])), (h_bytes, .inl (cB, 200, .inl v_bytes))]
theorem nX3_takeEnd_X3 : ∀ w ∈ wsX30, w ∈ wsX3_takeEnd := by decide +kernel
theorem kX3_takeEnd_0 : Cond.fieldLink RX3 32 "PaintedWalls$TownText" "sort" "I" ∈ wsX3_takeEnd := by decide +kernel
theorem kX3_takeEnd_1 : Cond.fieldLink RX3 9 "PaintedWalls$TownText" "bytes" "[B" ∈ wsX3_takeEnd := by decide +kernel
theorem kX3_takeEnd_2 : Cond.fieldLink RX3 59 "PaintedWalls$TownText" "from" "I" ∈ wsX3_takeEnd := by decide +kernel
set_option maxHeartbeats 4000000 in
set_option maxRecDepth 100000 in
theorem tX3_takeEnd {l : Launch} {D : va_G} {cB cI cJ cO : ClassId} (h0 h_bytes : Nat) (g_town : Value) (v_length : Int32) (v_from : Int32) (v_behind : Int32) (v_sort : Int32) (v_bytes : Nat → Int32) (r : Int32 × Int32 × Int32 × Int32) (hF : fX3_takeEnd v_length v_from v_behind v_sort v_bytes = some r) : Met l yX3_takeEnd wsX3_takeEnd rX3_takeEnd (zPre D cB cI cJ cO [.ref h0] (wX3_takeEnd cB cI cJ cO h0 h_bytes g_town v_length v_from v_behind v_sort v_bytes)) (zPM (some (.int r.1)) D (wX3_takeEnd cB cI cJ cO h0 h_bytes g_town v_length r.2.1 r.2.2.1 r.2.2.2 v_bytes) (zAs [h0, h_bytes])) 0 0 (zAs [h0, h_bytes]) := by
  refine zMetM (cc := cX3_takeEnd) (maxL := 1) (ret := (some .boolean)) (lv := [(0, .ref h0)]) rfl (by decide) rfl (Nat.le_of_ble_eq_true rfl) rfl ?_
  intro p e s m args below meth c ls Q H locs hQ hx hb hr hml hown hts hlocks hname hP hE hD hS hl
  have hown : s.vm.findClass RX3 = some m.cls := hown
  have hK := hE.1
  unfold fX3_takeEnd at hF
  refine lv_aload_n (pc := 0) hx hb dX3_takeEnd_0 rfl (lv_at hl 0 rfl) ?_
  refine va_get (D := D) (pc := 1) (ci := 3) (v := .int v_sort) (C := RX3) (T := TX3) (N := 6) hx hb hts nX3_takeEnd_X3 hown hK hP 0 rfl rfl 5 (by decide) (hts _ kX3_takeEnd_0) (fun _ h9 => h9) rfl dX3_takeEnd_1 ?_
  refine lv_iconst (pc := 4) (v := (nI 3)) hx hb dX3_takeEnd_4 (by decide) ?_
  refine zb_icmp_ne (pc := 5) (tgt := 22) hx hb dX3_takeEnd_5 (by decide) hF (fun c_5 hF => ?_) (fun c_5 hF => ?_)
  · refine lv_iconst (pc := 22) (v := (nI 0)) hx hb dX3_takeEnd_22 (by decide) ?_
    exact z_zretM (pc := 23) (fun q => q.1) (fun q => (wX3_takeEnd cB cI cJ cO h0 h_bytes g_town v_length q.2.1 q.2.2.1 q.2.2.2 v_bytes)) hx hb hr hlocks (by decide) hP hS hF rfl hQ dX3_takeEnd_23
  · refine lv_aload_n (pc := 8) hx hb dX3_takeEnd_8 rfl (lv_at hl 0 rfl) ?_
    refine va_get (D := D) (pc := 9) (ci := 3) (v := .ref h_bytes) (C := RX3) (T := TX3) (N := 6) hx hb hts nX3_takeEnd_X3 hown hK hP 0 rfl rfl 0 (by decide) (hts _ kX3_takeEnd_1) (fun _ h9 => h9) rfl dX3_takeEnd_9 ?_
    refine lv_aload_n (pc := 12) hx hb dX3_takeEnd_12 rfl (lv_at hl 0 rfl) ?_
    refine va_get (D := D) (pc := 13) (ci := 3) (v := .int v_from) (C := RX3) (T := TX3) (N := 6) hx hb hts nX3_takeEnd_X3 hown hK hP 0 rfl rfl 3 (by decide) (hts _ kX3_takeEnd_2) (fun _ h9 => h9) rfl dX3_takeEnd_13 ?_
    refine za_bald (pc := 16) hx hb hK hP 1 0 rfl rfl dX3_takeEnd_16 hF (fun hF => ?_)
    refine lv_bipush (pc := 17) (v := (nI 59)) hx hb dX3_takeEnd_17 (by decide) ?_
    refine zb_icmp_eq (pc := 19) (tgt := 24) hx hb dX3_takeEnd_19 (by decide) hF (fun c_19 hF => ?_) (fun c_19 hF => ?_)
    · refine lv_aload_n (pc := 24) hx hb dX3_takeEnd_24 rfl (lv_at hl 0 rfl) ?_
      obtain ⟨u25, hu25, hF⟩ := z_bind hF
      refine zq_callM (oc0 := none) (wc := wX3_step cB cI cJ cO h0 h_bytes g_town v_length v_from v_behind v_sort v_bytes) (wc' := wX3_step cB cI cJ cO h0 h_bytes g_town v_length u25.1 u25.2.1 u25.2.2 v_bytes) (ws' := (wX3_takeEnd cB cI cJ cO h0 h_bytes g_town v_length u25.1 u25.2.1 u25.2.2 v_bytes)) (va_runV (As := []) (rest := []) ⟨hx, hb, hml, hown, hts⟩ (tX3_step (l := l) (D := D) (cB := cB) (cI := cI) (cJ := cJ) (cO := cO) h0 h_bytes g_town v_length v_from v_behind v_sort v_bytes u25 hu25) (cwV 0 hts gX3_takeEnd_X3_step rfl rfl rfl (by decide +kernel) ⟨Nat.le_of_ble_eq_true rfl, Nat.le_of_ble_eq_true rfl⟩) ⟨zPre_blind, va_recv hK hP (ci := 3) (q0 := 0) rfl rfl, zPre_at hP hE (zD_re hD rfl) [0, 1] rfl rfl⟩ rfl rfl hl.1 rfl (lv_room (Nat.le_of_ble_eq_true rfl)) dX3_takeEnd_25 ⟨Nat.zero_le _, Nat.zero_le _⟩) rfl hP (zD_re hD rfl) hS [0, 1] rfl rfl [some 0, some 1] rfl rfl rfl rfl (fun H locs hP hS => ?_)
      refine W.eq (g2 := F0 m 28 ls []) rfl ?_
      refine lv_iconst (pc := 28) (v := (nI 1)) hx hb dX3_takeEnd_28 (by decide) ?_
      exact z_zretM (pc := 29) (fun q => q.1) (fun q => (wX3_takeEnd cB cI cJ cO h0 h_bytes g_town v_length q.2.1 q.2.2.1 q.2.2.2 v_bytes)) hx hb hr hlocks (by decide) hP hS hF rfl hQ dX3_takeEnd_29
    · refine lv_iconst (pc := 22) (v := (nI 0)) hx hb dX3_takeEnd_22 (by decide) ?_
      exact z_zretM (pc := 23) (fun q => q.1) (fun q => (wX3_takeEnd cB cI cJ cO h0 h_bytes g_town v_length q.2.1 q.2.2.1 q.2.2.2 v_bytes)) hx hb hr hlocks (by decide) hP hS hF rfl hQ dX3_takeEnd_23

abbrev rX3_readName : Room := { frames := 8, cells := 0, slots := 0, locals := 186 }
abbrev wX3_readName (cB cI cJ cO : ClassId) (h0 h_bytes h_town h_town_kind h_town_hand h_town_size h_town_on h_town_away : Nat) (g_town_laws g_town_ground g_town_seen g_town_nightsPassed g_town_glances g_town_draws g_town_gained g_town_paintedOn g_town_wallLooks : Value) (v_length : Int32) (v_from : Int32) (v_behind : Int32) (v_sort : Int32) (v_bytes : Nat → Int32) (v_town_count : Int32) (v_town_kind : Nat → Int32) (v_town_hand : Nat → Int32) (v_town_size : Nat → Int32) (v_town_on : Nat → Int32) (v_town_away : Nat → Int32) : va_W := [(h0, .inr (3, [.ref h_bytes, .int v_length, .ref h_town, .int v_from, .int v_behind, .int v_sort])), (h_bytes, .inl (cB, 200, .inl v_bytes)), (h_town, .inr (2, [g_town_laws, g_town_ground, g_town_seen, .int v_town_count, .ref h_town_kind, .ref h_town_hand, .ref h_town_size, .ref h_town_on, .ref h_town_away, g_town_nightsPassed, g_town_glances, g_town_draws, g_town_gained, g_town_paintedOn, g_town_wallLooks])), (h_town_kind, .inl (cI, 8, .inl v_town_kind)), (h_town_hand, .inl (cI, 8, .inl v_town_hand)), (h_town_size, .inl (cI, 8, .inl v_town_size)), (h_town_on, .inl (cI, 8, .inl v_town_on)), (h_town_away, .inl (cI, 8, .inl v_town_away))]
theorem nX3_readName_X3 : ∀ w ∈ wsX30, w ∈ wsX3_readName := by decide +kernel
theorem nX3_readName_X2 : ∀ w ∈ wsX20, w ∈ wsX3_readName := by decide +kernel
theorem kX3_readName_0 : Cond.fieldLink RX3 25 "PaintedWalls$TownText" "town" "LPaintedWalls$Town;" ∈ wsX3_readName := by decide +kernel
theorem kX3_readName_1 : Cond.fieldLink RX3 62 "PaintedWalls$Town" "count" "I" ∈ wsX3_readName := by decide +kernel
set_option maxHeartbeats 4000000 in
set_option maxRecDepth 100000 in
theorem tX3_readName {l : Launch} {D : va_G} {cB cI cJ cO : ClassId} {adK adV : Nat → Nat} (h0 h_bytes h_town h_town_kind h_town_hand h_town_size h_town_on h_town_away : Nat) (g_town_laws g_town_ground g_town_seen g_town_nightsPassed g_town_glances g_town_draws g_town_gained g_town_paintedOn g_town_wallLooks : Value) (v_length : Int32) (v_from : Int32) (v_behind : Int32) (v_sort : Int32) (v_bytes : Nat → Int32) (v_town_count : Int32) (v_town_kind : Nat → Int32) (v_town_hand : Nat → Int32) (v_town_size : Nat → Int32) (v_town_on : Nat → Int32) (v_town_away : Nat → Int32) (x1 : Int32) (r : Int32 × Int32 × Int32 × Int32 × Int32 × (Nat → Int32) × (Nat → Int32) × (Nat → Int32) × (Nat → Int32) × (Nat → Int32)) (hF : fX3_readName v_length v_from v_behind v_sort v_bytes v_town_count v_town_kind v_town_hand v_town_size v_town_on v_town_away x1 = some r) : Met l yX3_readName wsX3_readName rX3_readName (zPreS D cB cI cJ cO adK adV [.ref h0, .int x1] (wX3_readName cB cI cJ cO h0 h_bytes h_town h_town_kind h_town_hand h_town_size h_town_on h_town_away g_town_laws g_town_ground g_town_seen g_town_nightsPassed g_town_glances g_town_draws g_town_gained g_town_paintedOn g_town_wallLooks v_length v_from v_behind v_sort v_bytes v_town_count v_town_kind v_town_hand v_town_size v_town_on v_town_away) [h0, h_bytes, h_town, h_town_kind, h_town_hand, h_town_size, h_town_on, h_town_away]) (zPM (some (.int r.1)) D (wX3_readName cB cI cJ cO h0 h_bytes h_town h_town_kind h_town_hand h_town_size h_town_on h_town_away g_town_laws g_town_ground g_town_seen g_town_nightsPassed g_town_glances g_town_draws g_town_gained g_town_paintedOn g_town_wallLooks v_length r.2.1 r.2.2.1 r.2.2.2.1 v_bytes r.2.2.2.2.1 r.2.2.2.2.2.1 r.2.2.2.2.2.2.1 r.2.2.2.2.2.2.2.1 r.2.2.2.2.2.2.2.2.1 r.2.2.2.2.2.2.2.2.2) (zAs [h0, h_bytes, h_town, h_town_kind, h_town_hand, h_town_size, h_town_on, h_town_away])) 0 0 (zAs [h0, h_bytes, h_town, h_town_kind, h_town_hand, h_town_size, h_town_on, h_town_away]) := by
  refine zMetMS (cc := cX3_readName) (maxL := 5) (ret := (some .boolean)) (lv := [(0, .ref h0), (1, .int x1)]) rfl (by decide) rfl (Nat.le_of_ble_eq_true rfl) rfl ?_
  intro p e s m args below meth c ls Q H locs hQ hx hb hr hml hown hts hlocks hname hP hE hD hS hZ hl
  have hown : s.vm.findClass RX3 = some m.cls := hown
  have hK := hE.1
  unfold fX3_readName at hF
  refine lv_aload_n (pc := 0) hx hb dX3_readName_0 rfl (lv_at hl 0 rfl) ?_
  refine va_get (D := D) (pc := 1) (ci := 3) (v := .ref h_town) (C := RX3) (T := TX3) (N := 6) hx hb hts nX3_readName_X3 hown hK hP 0 rfl rfl 2 (by decide) (hts _ kX3_readName_0) (fun _ h9 => h9) rfl dX3_readName_1 ?_
  refine va_get (D := D) (pc := 4) (ci := 2) (v := .int v_town_count) (C := RX2) (T := TX2) (N := 15) hx hb hts nX3_readName_X2 hown hK hP 2 rfl rfl 3 (by decide) (hts _ kX3_readName_1) (fun _ h9 => h9) rfl dX3_readName_4 ?_
  refine lv_bipush (pc := 7) (v := (nI 8)) hx hb dX3_readName_7 (by decide) ?_
  refine zb_icmp_lt (pc := 9) (tgt := 14) hx hb dX3_readName_9 (by decide) hF (fun c_9 hF => ?_) (fun c_9 hF => ?_)
  · refine lv_aload_n (pc := 14) hx hb dX3_readName_14 rfl (lv_at hl 0 rfl) ?_
    obtain ⟨u15, hu15, hF⟩ := z_bind hF
    refine zq_callM (oc0 := none) (wc := wX3_step cB cI cJ cO h0 h_bytes (.ref h_town) v_length v_from v_behind v_sort v_bytes) (wc' := wX3_step cB cI cJ cO h0 h_bytes (.ref h_town) v_length u15.1 u15.2.1 u15.2.2 v_bytes) (ws' := (wX3_readName cB cI cJ cO h0 h_bytes h_town h_town_kind h_town_hand h_town_size h_town_on h_town_away g_town_laws g_town_ground g_town_seen g_town_nightsPassed g_town_glances g_town_draws g_town_gained g_town_paintedOn g_town_wallLooks v_length u15.1 u15.2.1 u15.2.2 v_bytes v_town_count v_town_kind v_town_hand v_town_size v_town_on v_town_away)) (va_runV (As := []) (rest := []) ⟨hx, hb, hml, hown, hts⟩ (tX3_step (l := l) (D := D) (cB := cB) (cI := cI) (cJ := cJ) (cO := cO) h0 h_bytes (.ref h_town) v_length v_from v_behind v_sort v_bytes u15 hu15) (cwV 0 hts gX3_readName_X3_step rfl rfl rfl (by decide +kernel) ⟨Nat.le_of_ble_eq_true rfl, Nat.le_of_ble_eq_true rfl⟩) ⟨zPre_blind, va_recv hK hP (ci := 3) (q0 := 0) rfl rfl, zPre_at hP hE (zD_re hD rfl) [0, 1] rfl rfl⟩ rfl rfl hl.1 rfl (lv_room (Nat.le_of_ble_eq_true rfl)) dX3_readName_15 ⟨Nat.zero_le _, Nat.zero_le _⟩) rfl hP (zD_re hD rfl) hS [0, 1] rfl rfl [some 0, some 1, none, none, none, none, none, none] rfl rfl rfl rfl (fun H locs hP hS => ?_)
    refine W.eq (g2 := F0 m 18 ls []) rfl ?_
    refine lv_aload_n (pc := 18) hx hb dX3_readName_18 rfl (lv_at hl 0 rfl) ?_
    refine va_ldcS (pc := 19) (q := adK 1) hx hb hown (hZ.2.2.2.2.1 1 (by decide)) dX3_readName_19 ?_
    obtain ⟨u21, hu21, hF⟩ := z_bind hF
    refine zq_callM (oc0 := (some (.int u21.1))) (wc := wX3_takeWord cB cI cJ cO h0 h_bytes (.ref h_town) v_length u15.1 u15.2.1 u15.2.2 v_bytes) (wc' := wX3_takeWord cB cI cJ cO h0 h_bytes (.ref h_town) v_length u21.2.1 u21.2.2.1 u21.2.2.2 v_bytes) (ws' := (wX3_readName cB cI cJ cO h0 h_bytes h_town h_town_kind h_town_hand h_town_size h_town_on h_town_away g_town_laws g_town_ground g_town_seen g_town_nightsPassed g_town_glances g_town_draws g_town_gained g_town_paintedOn g_town_wallLooks v_length u21.2.1 u21.2.2.1 u21.2.2.2 v_bytes v_town_count v_town_kind v_town_hand v_town_size v_town_on v_town_away)) (va_runV (As := [.ref (adK 1)]) (rest := []) ⟨hx, hb, hml, hown, hts⟩ (tX3_takeWord (l := l) (D := D) (cB := cB) (cI := cI) (cJ := cJ) (cO := cO) (adK := adK) (adV := adV) h0 h_bytes (.ref h_town) v_length u15.1 u15.2.1 u15.2.2 v_bytes 1 u21 hu21) (cwV 1 hts gX3_readName_X3_takeWord rfl rfl rfl (by decide +kernel) ⟨Nat.le_of_ble_eq_true rfl, Nat.le_of_ble_eq_true rfl⟩) ⟨zPreS_blind, va_recv hK hP (ci := 3) (q0 := 0) rfl rfl, zPreS_at hP hE (zD_re hD rfl) hZ hS [0, 1] rfl rfl rfl⟩ rfl rfl hl.1 rfl (lv_room (Nat.le_of_ble_eq_true rfl)) dX3_readName_21 ⟨Nat.zero_le _, Nat.zero_le _⟩) rfl hP (zD_re hD rfl) hS [0, 1] rfl rfl [some 0, some 1, none, none, none, none, none, none] rfl rfl rfl rfl (fun H locs hP hS => ?_)
    refine W.eq (g2 := F0 m 24 ls [.int u21.1]) rfl ?_
    refine zb_if_ne (pc := 24) (tgt := 29) hx hb dX3_readName_24 (by decide) hF (fun c_24 hF => ?_) (fun c_24 hF => ?_)
    · refine lv_aload_n (pc := 29) hx hb dX3_readName_29 rfl (lv_at hl 0 rfl) ?_
      refine lv_bipush (pc := 30) (v := (nI 9)) hx hb dX3_readName_30 (by decide) ?_
      obtain ⟨u32, hu32, hF⟩ := z_bind hF
      refine zq_callM (oc0 := (some (.int u32.1))) (wc := wX3_takeNumber cB cI cJ cO h0 h_bytes (.ref h_town) v_length u21.2.1 u21.2.2.1 u21.2.2.2 v_bytes) (wc' := wX3_takeNumber cB cI cJ cO h0 h_bytes (.ref h_town) v_length u32.2.1 u32.2.2.1 u32.2.2.2 v_bytes) (ws' := (wX3_readName cB cI cJ cO h0 h_bytes h_town h_town_kind h_town_hand h_town_size h_town_on h_town_away g_town_laws g_town_ground g_town_seen g_town_nightsPassed g_town_glances g_town_draws g_town_gained g_town_paintedOn g_town_wallLooks v_length u32.2.1 u32.2.2.1 u32.2.2.2 v_bytes v_town_count v_town_kind v_town_hand v_town_size v_town_on v_town_away)) (va_runV (As := [.int (nI 9)]) (rest := []) ⟨hx, hb, hml, hown, hts⟩ (tX3_takeNumber (l := l) (D := D) (cB := cB) (cI := cI) (cJ := cJ) (cO := cO) h0 h_bytes (.ref h_town) v_length u21.2.1 u21.2.2.1 u21.2.2.2 v_bytes (nI 9) u32 hu32) (cwV 1 hts gX3_readName_X3_takeNumber rfl rfl rfl (by decide +kernel) ⟨Nat.le_of_ble_eq_true rfl, Nat.le_of_ble_eq_true rfl⟩) ⟨zPre_blind, va_recv hK hP (ci := 3) (q0 := 0) rfl rfl, zPre_at hP hE (zD_re hD rfl) [0, 1] rfl rfl⟩ rfl rfl hl.1 rfl (lv_room (Nat.le_of_ble_eq_true rfl)) dX3_readName_32 ⟨Nat.zero_le _, Nat.zero_le _⟩) rfl hP (zD_re hD rfl) hS [0, 1] rfl rfl [some 0, some 1, none, none, none, none, none, none] rfl rfl rfl rfl (fun H locs hP hS => ?_)
      refine W.eq (g2 := F0 m 35 ls [.int u32.1]) rfl ?_
      refine lv_istore_n (pc := 35) (lv' := [(2, .int u32.1), (0, .ref h0), (1, .int x1)]) hx hb dX3_readName_35 rfl hl (by decide) rfl (fun ls hl => ?_)
      refine lv_iload_n (pc := 36) hx hb dX3_readName_36 rfl (lv_at hl 0 rfl) ?_
      refine zb_if_ge (pc := 37) (tgt := 42) hx hb dX3_readName_37 (by decide) hF (fun c_37 hF => ?_) (fun c_37 hF => ?_)
      · refine lv_aload_n (pc := 42) hx hb dX3_readName_42 rfl (lv_at hl 1 rfl) ?_
        refine va_ldcS (pc := 43) (q := adK 2) hx hb hown (hZ.2.2.2.2.1 2 (by decide)) dX3_readName_43 ?_
        refine lv_bipush (pc := 45) (v := (nI 9)) hx hb dX3_readName_45 (by decide) ?_
        refine lv_iconst (pc := 47) (v := (nI 0)) hx hb dX3_readName_47 (by decide) ?_
        obtain ⟨u48, hu48, hF⟩ := z_bind hF
        refine zq_callM (oc0 := (some (.int u48.1))) (wc := wX3_takeOption cB cI cJ cO h0 h_bytes (.ref h_town) v_length u32.2.1 u32.2.2.1 u32.2.2.2 v_bytes) (wc' := wX3_takeOption cB cI cJ cO h0 h_bytes (.ref h_town) v_length u48.2.1 u48.2.2.1 u48.2.2.2 v_bytes) (ws' := (wX3_readName cB cI cJ cO h0 h_bytes h_town h_town_kind h_town_hand h_town_size h_town_on h_town_away g_town_laws g_town_ground g_town_seen g_town_nightsPassed g_town_glances g_town_draws g_town_gained g_town_paintedOn g_town_wallLooks v_length u48.2.1 u48.2.2.1 u48.2.2.2 v_bytes v_town_count v_town_kind v_town_hand v_town_size v_town_on v_town_away)) (va_runV (As := [.ref (adK 2), .int (nI 9), .int (nI 0)]) (rest := []) ⟨hx, hb, hml, hown, hts⟩ (tX3_takeOption (l := l) (D := D) (cB := cB) (cI := cI) (cJ := cJ) (cO := cO) (adK := adK) (adV := adV) h0 h_bytes (.ref h_town) v_length u32.2.1 u32.2.2.1 u32.2.2.2 v_bytes 2 (nI 9) (nI 0) u48 hu48) (cwV 3 hts gX3_readName_X3_takeOption rfl rfl rfl (by decide +kernel) ⟨Nat.le_of_ble_eq_true rfl, Nat.le_of_ble_eq_true rfl⟩) ⟨zPreS_blind, va_recv hK hP (ci := 3) (q0 := 0) rfl rfl, zPreS_at hP hE (zD_re hD rfl) hZ hS [0, 1] rfl rfl rfl⟩ rfl rfl hl.1 rfl (lv_room (Nat.le_of_ble_eq_true rfl)) dX3_readName_48 ⟨Nat.zero_le _, Nat.zero_le _⟩) rfl hP (zD_re hD rfl) hS [0, 1] rfl rfl [some 0, some 1, none, none, none, none, none, none] rfl rfl rfl rfl (fun H locs hP hS => ?_)
        refine W.eq (g2 := F0 m 51 ls [.int u48.1]) rfl ?_
        refine lv_istore_n (pc := 51) (lv' := [(3, .int u48.1), (2, .int u32.1), (0, .ref h0), (1, .int x1)]) hx hb dX3_readName_51 rfl hl (by decide) rfl (fun ls hl => ?_)
        refine lv_iload_n (pc := 52) hx hb dX3_readName_52 rfl (lv_at hl 0 rfl) ?_
        refine zb_if_ge (pc := 53) (tgt := 58) hx hb dX3_readName_53 (by decide) hF (fun c_53 hF => ?_) (fun c_53 hF => ?_)
        · refine lv_aload_n (pc := 58) hx hb dX3_readName_58 rfl (lv_at hl 2 rfl) ?_
          refine va_ldcS (pc := 59) (q := adK 3) hx hb hown (hZ.2.2.2.2.1 3 (by decide)) dX3_readName_59 ?_
          refine lv_bipush (pc := 61) (v := (nI 99)) hx hb dX3_readName_61 (by decide) ?_
          refine lv_iconst (pc := 63) (v := (nI 5)) hx hb dX3_readName_63 (by decide) ?_
          obtain ⟨u64, hu64, hF⟩ := z_bind hF
          refine zq_callM (oc0 := (some (.int u64.1))) (wc := wX3_takeOption cB cI cJ cO h0 h_bytes (.ref h_town) v_length u48.2.1 u48.2.2.1 u48.2.2.2 v_bytes) (wc' := wX3_takeOption cB cI cJ cO h0 h_bytes (.ref h_town) v_length u64.2.1 u64.2.2.1 u64.2.2.2 v_bytes) (ws' := (wX3_readName cB cI cJ cO h0 h_bytes h_town h_town_kind h_town_hand h_town_size h_town_on h_town_away g_town_laws g_town_ground g_town_seen g_town_nightsPassed g_town_glances g_town_draws g_town_gained g_town_paintedOn g_town_wallLooks v_length u64.2.1 u64.2.2.1 u64.2.2.2 v_bytes v_town_count v_town_kind v_town_hand v_town_size v_town_on v_town_away)) (va_runV (As := [.ref (adK 3), .int (nI 99), .int (nI 5)]) (rest := []) ⟨hx, hb, hml, hown, hts⟩ (tX3_takeOption (l := l) (D := D) (cB := cB) (cI := cI) (cJ := cJ) (cO := cO) (adK := adK) (adV := adV) h0 h_bytes (.ref h_town) v_length u48.2.1 u48.2.2.1 u48.2.2.2 v_bytes 3 (nI 99) (nI 5) u64 hu64) (cwV 3 hts gX3_readName_X3_takeOption rfl rfl rfl (by decide +kernel) ⟨Nat.le_of_ble_eq_true rfl, Nat.le_of_ble_eq_true rfl⟩) ⟨zPreS_blind, va_recv hK hP (ci := 3) (q0 := 0) rfl rfl, zPreS_at hP hE (zD_re hD rfl) hZ hS [0, 1] rfl rfl rfl⟩ rfl rfl hl.1 rfl (lv_room (Nat.le_of_ble_eq_true rfl)) dX3_readName_64 ⟨Nat.zero_le _, Nat.zero_le _⟩) rfl hP (zD_re hD rfl) hS [0, 1] rfl rfl [some 0, some 1, none, none, none, none, none, none] rfl rfl rfl rfl (fun H locs hP hS => ?_)
          refine W.eq (g2 := F0 m 67 ls [.int u64.1]) rfl ?_
          refine lv_istore (pc := 67) (lv' := [(4, .int u64.1), (3, .int u48.1), (2, .int u32.1), (0, .ref h0), (1, .int x1)]) hx hb dX3_readName_67 hl (by decide) rfl (fun ls hl => ?_)
          refine lv_iload (pc := 69) hx hb dX3_readName_69 (lv_at hl 0 rfl) ?_
          refine zb_if_lt (pc := 71) (tgt := 100) hx hb dX3_readName_71 (by decide) hF (fun c_71 hF => ?_) (fun c_71 hF => ?_)
          · refine lv_iconst (pc := 100) (v := (nI 0)) hx hb dX3_readName_100 (by decide) ?_
            exact z_zretM (pc := 101) (fun q => q.1) (fun q => (wX3_readName cB cI cJ cO h0 h_bytes h_town h_town_kind h_town_hand h_town_size h_town_on h_town_away g_town_laws g_town_ground g_town_seen g_town_nightsPassed g_town_glances g_town_draws g_town_gained g_town_paintedOn g_town_wallLooks v_length q.2.1 q.2.2.1 q.2.2.2.1 v_bytes q.2.2.2.2.1 q.2.2.2.2.2.1 q.2.2.2.2.2.2.1 q.2.2.2.2.2.2.2.1 q.2.2.2.2.2.2.2.2.1 q.2.2.2.2.2.2.2.2.2)) hx hb hr hlocks (by decide) hP hS hF rfl hQ dX3_readName_101
          · refine lv_aload_n (pc := 74) hx hb dX3_readName_74 rfl (lv_at hl 3 rfl) ?_
            obtain ⟨u75, hu75, hF⟩ := z_bind hF
            refine zq_callM (oc0 := (some (.int u75.1))) (wc := wX3_takeEnd cB cI cJ cO h0 h_bytes (.ref h_town) v_length u64.2.1 u64.2.2.1 u64.2.2.2 v_bytes) (wc' := wX3_takeEnd cB cI cJ cO h0 h_bytes (.ref h_town) v_length u75.2.1 u75.2.2.1 u75.2.2.2 v_bytes) (ws' := (wX3_readName cB cI cJ cO h0 h_bytes h_town h_town_kind h_town_hand h_town_size h_town_on h_town_away g_town_laws g_town_ground g_town_seen g_town_nightsPassed g_town_glances g_town_draws g_town_gained g_town_paintedOn g_town_wallLooks v_length u75.2.1 u75.2.2.1 u75.2.2.2 v_bytes v_town_count v_town_kind v_town_hand v_town_size v_town_on v_town_away)) (va_runV (As := []) (rest := []) ⟨hx, hb, hml, hown, hts⟩ (tX3_takeEnd (l := l) (D := D) (cB := cB) (cI := cI) (cJ := cJ) (cO := cO) h0 h_bytes (.ref h_town) v_length u64.2.1 u64.2.2.1 u64.2.2.2 v_bytes u75 hu75) (cwV 0 hts gX3_readName_X3_takeEnd rfl rfl rfl (by decide +kernel) ⟨Nat.le_of_ble_eq_true rfl, Nat.le_of_ble_eq_true rfl⟩) ⟨zPre_blind, va_recv hK hP (ci := 3) (q0 := 0) rfl rfl, zPre_at hP hE (zD_re hD rfl) [0, 1] rfl rfl⟩ rfl rfl hl.1 rfl (lv_room (Nat.le_of_ble_eq_true rfl)) dX3_readName_75 ⟨Nat.zero_le _, Nat.zero_le _⟩) rfl hP (zD_re hD rfl) hS [0, 1] rfl rfl [some 0, some 1, none, none, none, none, none, none] rfl rfl rfl rfl (fun H locs hP hS => ?_)
            refine W.eq (g2 := F0 m 78 ls [.int u75.1]) rfl ?_
            refine zb_if_eq (pc := 78) (tgt := 100) hx hb dX3_readName_78 (by decide) hF (fun c_78 hF => ?_) (fun c_78 hF => ?_)
            · refine lv_iconst (pc := 100) (v := (nI 0)) hx hb dX3_readName_100 (by decide) ?_
              exact z_zretM (pc := 101) (fun q => q.1) (fun q => (wX3_readName cB cI cJ cO h0 h_bytes h_town h_town_kind h_town_hand h_town_size h_town_on h_town_away g_town_laws g_town_ground g_town_seen g_town_nightsPassed g_town_glances g_town_draws g_town_gained g_town_paintedOn g_town_wallLooks v_length q.2.1 q.2.2.1 q.2.2.2.1 v_bytes q.2.2.2.2.1 q.2.2.2.2.2.1 q.2.2.2.2.2.2.1 q.2.2.2.2.2.2.2.1 q.2.2.2.2.2.2.2.2.1 q.2.2.2.2.2.2.2.2.2)) hx hb hr hlocks (by decide) hP hS hF rfl hQ dX3_readName_101
            · refine lv_aload_n (pc := 81) hx hb dX3_readName_81 rfl (lv_at hl 3 rfl) ?_
              refine va_get (D := D) (pc := 82) (ci := 3) (v := .ref h_town) (C := RX3) (T := TX3) (N := 6) hx hb hts nX3_readName_X3 hown hK hP 0 rfl rfl 2 (by decide) (hts _ kX3_readName_0) (fun _ h9 => h9) rfl dX3_readName_82 ?_
              refine lv_iload_n (pc := 85) hx hb dX3_readName_85 rfl (lv_at hl 4 rfl) ?_
              refine lv_iload_n (pc := 86) hx hb dX3_readName_86 rfl (lv_at hl 1 rfl) ?_
              refine lv_iload (pc := 87) hx hb dX3_readName_87 (lv_at hl 0 rfl) ?_
              refine lv_iload_n (pc := 89) hx hb dX3_readName_89 rfl (lv_at hl 2 rfl) ?_
              obtain ⟨u90, hu90, hF⟩ := z_bind hF
              refine zq_callM (oc0 := (some (.int u90.1))) (wc := wX2_addName cB cI cJ cO h_town h_town_kind h_town_hand h_town_size h_town_on h_town_away g_town_laws g_town_ground g_town_seen g_town_nightsPassed g_town_glances g_town_draws g_town_gained g_town_paintedOn g_town_wallLooks v_town_count v_town_kind v_town_hand v_town_size v_town_on v_town_away) (wc' := wX2_addName cB cI cJ cO h_town h_town_kind h_town_hand h_town_size h_town_on h_town_away g_town_laws g_town_ground g_town_seen g_town_nightsPassed g_town_glances g_town_draws g_town_gained g_town_paintedOn g_town_wallLooks u90.2.1 u90.2.2.1 u90.2.2.2.1 u90.2.2.2.2.1 u90.2.2.2.2.2.1 u90.2.2.2.2.2.2) (ws' := (wX3_readName cB cI cJ cO h0 h_bytes h_town h_town_kind h_town_hand h_town_size h_town_on h_town_away g_town_laws g_town_ground g_town_seen g_town_nightsPassed g_town_glances g_town_draws g_town_gained g_town_paintedOn g_town_wallLooks v_length u75.2.1 u75.2.2.1 u75.2.2.2 v_bytes u90.2.1 u90.2.2.1 u90.2.2.2.1 u90.2.2.2.2.1 u90.2.2.2.2.2.1 u90.2.2.2.2.2.2)) (va_runV (As := [.int x1, .int u48.1, .int u64.1, .int u32.1]) (rest := []) ⟨hx, hb, hml, hown, hts⟩ (tX2_addName (l := l) (D := D) (cB := cB) (cI := cI) (cJ := cJ) (cO := cO) h_town h_town_kind h_town_hand h_town_size h_town_on h_town_away g_town_laws g_town_ground g_town_seen g_town_nightsPassed g_town_glances g_town_draws g_town_gained g_town_paintedOn g_town_wallLooks v_town_count v_town_kind v_town_hand v_town_size v_town_on v_town_away x1 u48.1 u64.1 u32.1 u90 hu90) (cwV 4 hts gX3_readName_X2_addName rfl rfl rfl (by decide +kernel) ⟨Nat.le_of_ble_eq_true rfl, Nat.le_of_ble_eq_true rfl⟩) ⟨zPre_blind, va_recv hK hP (ci := 2) (q0 := 2) rfl rfl, zPre_at hP hE (zD_re hD rfl) [2, 3, 4, 5, 6, 7] rfl rfl⟩ rfl rfl hl.1 rfl (lv_room (Nat.le_of_ble_eq_true rfl)) dX3_readName_90 ⟨Nat.zero_le _, Nat.zero_le _⟩) rfl hP (zD_re hD rfl) hS [2, 3, 4, 5, 6, 7] rfl rfl [none, none, some 0, some 1, some 2, some 3, some 4, some 5] rfl rfl rfl rfl (fun H locs hP hS => ?_)
              refine W.eq (g2 := F0 m 93 ls [.int u90.1]) rfl ?_
              refine zb_if_eq (pc := 93) (tgt := 100) hx hb dX3_readName_93 (by decide) hF (fun c_93 hF => ?_) (fun c_93 hF => ?_)
              · refine lv_iconst (pc := 100) (v := (nI 0)) hx hb dX3_readName_100 (by decide) ?_
                exact z_zretM (pc := 101) (fun q => q.1) (fun q => (wX3_readName cB cI cJ cO h0 h_bytes h_town h_town_kind h_town_hand h_town_size h_town_on h_town_away g_town_laws g_town_ground g_town_seen g_town_nightsPassed g_town_glances g_town_draws g_town_gained g_town_paintedOn g_town_wallLooks v_length q.2.1 q.2.2.1 q.2.2.2.1 v_bytes q.2.2.2.2.1 q.2.2.2.2.2.1 q.2.2.2.2.2.2.1 q.2.2.2.2.2.2.2.1 q.2.2.2.2.2.2.2.2.1 q.2.2.2.2.2.2.2.2.2)) hx hb hr hlocks (by decide) hP hS hF rfl hQ dX3_readName_101
              · refine lv_iconst (pc := 96) (v := (nI 1)) hx hb dX3_readName_96 (by decide) ?_
                refine lv_goto (pc := 97) (tgt := 101) hx hb dX3_readName_97 (by decide) ?_
                exact z_zretM (pc := 101) (fun q => q.1) (fun q => (wX3_readName cB cI cJ cO h0 h_bytes h_town h_town_kind h_town_hand h_town_size h_town_on h_town_away g_town_laws g_town_ground g_town_seen g_town_nightsPassed g_town_glances g_town_draws g_town_gained g_town_paintedOn g_town_wallLooks v_length q.2.1 q.2.2.1 q.2.2.2.1 v_bytes q.2.2.2.2.1 q.2.2.2.2.2.1 q.2.2.2.2.2.2.1 q.2.2.2.2.2.2.2.1 q.2.2.2.2.2.2.2.2.1 q.2.2.2.2.2.2.2.2.2)) hx hb hr hlocks (by decide) hP hS hF rfl hQ dX3_readName_101
        · refine lv_iconst (pc := 56) (v := (nI 0)) hx hb dX3_readName_56 (by decide) ?_
          exact z_zretM (pc := 57) (fun q => q.1) (fun q => (wX3_readName cB cI cJ cO h0 h_bytes h_town h_town_kind h_town_hand h_town_size h_town_on h_town_away g_town_laws g_town_ground g_town_seen g_town_nightsPassed g_town_glances g_town_draws g_town_gained g_town_paintedOn g_town_wallLooks v_length q.2.1 q.2.2.1 q.2.2.2.1 v_bytes q.2.2.2.2.1 q.2.2.2.2.2.1 q.2.2.2.2.2.2.1 q.2.2.2.2.2.2.2.1 q.2.2.2.2.2.2.2.2.1 q.2.2.2.2.2.2.2.2.2)) hx hb hr hlocks (by decide) hP hS hF rfl hQ dX3_readName_57
      · refine lv_iconst (pc := 40) (v := (nI 0)) hx hb dX3_readName_40 (by decide) ?_
        exact z_zretM (pc := 41) (fun q => q.1) (fun q => (wX3_readName cB cI cJ cO h0 h_bytes h_town h_town_kind h_town_hand h_town_size h_town_on h_town_away g_town_laws g_town_ground g_town_seen g_town_nightsPassed g_town_glances g_town_draws g_town_gained g_town_paintedOn g_town_wallLooks v_length q.2.1 q.2.2.1 q.2.2.2.1 v_bytes q.2.2.2.2.1 q.2.2.2.2.2.1 q.2.2.2.2.2.2.1 q.2.2.2.2.2.2.2.1 q.2.2.2.2.2.2.2.2.1 q.2.2.2.2.2.2.2.2.2)) hx hb hr hlocks (by decide) hP hS hF rfl hQ dX3_readName_41
    · refine lv_iconst (pc := 27) (v := (nI 0)) hx hb dX3_readName_27 (by decide) ?_
      exact z_zretM (pc := 28) (fun q => q.1) (fun q => (wX3_readName cB cI cJ cO h0 h_bytes h_town h_town_kind h_town_hand h_town_size h_town_on h_town_away g_town_laws g_town_ground g_town_seen g_town_nightsPassed g_town_glances g_town_draws g_town_gained g_town_paintedOn g_town_wallLooks v_length q.2.1 q.2.2.1 q.2.2.2.1 v_bytes q.2.2.2.2.1 q.2.2.2.2.2.1 q.2.2.2.2.2.2.1 q.2.2.2.2.2.2.2.1 q.2.2.2.2.2.2.2.2.1 q.2.2.2.2.2.2.2.2.2)) hx hb hr hlocks (by decide) hP hS hF rfl hQ dX3_readName_28
  · refine lv_iconst (pc := 12) (v := (nI 0)) hx hb dX3_readName_12 (by decide) ?_
    exact z_zretM (pc := 13) (fun q => q.1) (fun q => (wX3_readName cB cI cJ cO h0 h_bytes h_town h_town_kind h_town_hand h_town_size h_town_on h_town_away g_town_laws g_town_ground g_town_seen g_town_nightsPassed g_town_glances g_town_draws g_town_gained g_town_paintedOn g_town_wallLooks v_length q.2.1 q.2.2.1 q.2.2.2.1 v_bytes q.2.2.2.2.1 q.2.2.2.2.2.1 q.2.2.2.2.2.2.1 q.2.2.2.2.2.2.2.1 q.2.2.2.2.2.2.2.2.1 q.2.2.2.2.2.2.2.2.2)) hx hb hr hlocks (by decide) hP hS hF rfl hQ dX3_readName_13

abbrev rX3_readLaw : Room := { frames := 3, cells := 0, slots := 0, locals := 65 }
abbrev wX3_readLaw (cB cI cJ cO : ClassId) (h0 h_bytes h_town h_town_laws : Nat) (g_town_ground g_town_seen g_town_count g_town_kind g_town_hand g_town_size g_town_on g_town_away g_town_nightsPassed g_town_glances g_town_draws g_town_gained g_town_paintedOn g_town_wallLooks : Value) (v_length : Int32) (v_from : Int32) (v_behind : Int32) (v_sort : Int32) (v_bytes : Nat → Int32) (v_town_laws : Nat → Int32) : va_W := [(h0, .inr (3, [.ref h_bytes, .int v_length, .ref h_town, .int v_from, .int v_behind, .int v_sort])), (h_bytes, .inl (cB, 200, .inl v_bytes)), (h_town, .inr (2, [.ref h_town_laws, g_town_ground, g_town_seen, g_town_count, g_town_kind, g_town_hand, g_town_size, g_town_on, g_town_away, g_town_nightsPassed, g_town_glances, g_town_draws, g_town_gained, g_town_paintedOn, g_town_wallLooks])), (h_town_laws, .inl (cI, 4, .inl v_town_laws))]
theorem nX3_readLaw_X3 : ∀ w ∈ wsX30, w ∈ wsX3_readLaw := by decide +kernel
theorem nX3_readLaw_X2 : ∀ w ∈ wsX20, w ∈ wsX3_readLaw := by decide +kernel
theorem kX3_readLaw_0 : Cond.fieldLink RX3 25 "PaintedWalls$TownText" "town" "LPaintedWalls$Town;" ∈ wsX3_readLaw := by decide +kernel
theorem kX3_readLaw_1 : Cond.fieldLink RX3 105 "PaintedWalls$Town" "laws" "[I" ∈ wsX3_readLaw := by decide +kernel
set_option maxHeartbeats 4000000 in
set_option maxRecDepth 100000 in
theorem tX3_readLaw {l : Launch} {D : va_G} {cB cI cJ cO : ClassId} {adK adV : Nat → Nat} (h0 h_bytes h_town h_town_laws : Nat) (g_town_ground g_town_seen g_town_count g_town_kind g_town_hand g_town_size g_town_on g_town_away g_town_nightsPassed g_town_glances g_town_draws g_town_gained g_town_paintedOn g_town_wallLooks : Value) (v_length : Int32) (v_from : Int32) (v_behind : Int32) (v_sort : Int32) (v_bytes : Nat → Int32) (v_town_laws : Nat → Int32) (x1 : Int32) (r : Int32 × Int32 × Int32 × Int32 × (Nat → Int32)) (hF : fX3_readLaw v_length v_from v_behind v_sort v_bytes v_town_laws x1 = some r) : Met l yX3_readLaw wsX3_readLaw rX3_readLaw (zPreS D cB cI cJ cO adK adV [.ref h0, .int x1] (wX3_readLaw cB cI cJ cO h0 h_bytes h_town h_town_laws g_town_ground g_town_seen g_town_count g_town_kind g_town_hand g_town_size g_town_on g_town_away g_town_nightsPassed g_town_glances g_town_draws g_town_gained g_town_paintedOn g_town_wallLooks v_length v_from v_behind v_sort v_bytes v_town_laws) [h0, h_bytes, h_town, h_town_laws]) (zPM (some (.int r.1)) D (wX3_readLaw cB cI cJ cO h0 h_bytes h_town h_town_laws g_town_ground g_town_seen g_town_count g_town_kind g_town_hand g_town_size g_town_on g_town_away g_town_nightsPassed g_town_glances g_town_draws g_town_gained g_town_paintedOn g_town_wallLooks v_length r.2.1 r.2.2.1 r.2.2.2.1 v_bytes r.2.2.2.2) (zAs [h0, h_bytes, h_town, h_town_laws])) 0 0 (zAs [h0, h_bytes, h_town, h_town_laws]) := by
  refine zMetMS (cc := cX3_readLaw) (maxL := 3) (ret := (some .boolean)) (lv := [(0, .ref h0), (1, .int x1)]) rfl (by decide) rfl (Nat.le_of_ble_eq_true rfl) rfl ?_
  intro p e s m args below meth c ls Q H locs hQ hx hb hr hml hown hts hlocks hname hP hE hD hS hZ hl
  have hown : s.vm.findClass RX3 = some m.cls := hown
  have hK := hE.1
  unfold fX3_readLaw at hF
  refine lv_aload_n (pc := 0) hx hb dX3_readLaw_0 rfl (lv_at hl 0 rfl) ?_
  obtain ⟨u1, hu1, hF⟩ := z_bind hF
  refine zq_callM (oc0 := none) (wc := wX3_step cB cI cJ cO h0 h_bytes (.ref h_town) v_length v_from v_behind v_sort v_bytes) (wc' := wX3_step cB cI cJ cO h0 h_bytes (.ref h_town) v_length u1.1 u1.2.1 u1.2.2 v_bytes) (ws' := (wX3_readLaw cB cI cJ cO h0 h_bytes h_town h_town_laws g_town_ground g_town_seen g_town_count g_town_kind g_town_hand g_town_size g_town_on g_town_away g_town_nightsPassed g_town_glances g_town_draws g_town_gained g_town_paintedOn g_town_wallLooks v_length u1.1 u1.2.1 u1.2.2 v_bytes v_town_laws)) (va_runV (As := []) (rest := []) ⟨hx, hb, hml, hown, hts⟩ (tX3_step (l := l) (D := D) (cB := cB) (cI := cI) (cJ := cJ) (cO := cO) h0 h_bytes (.ref h_town) v_length v_from v_behind v_sort v_bytes u1 hu1) (cwV 0 hts gX3_readLaw_X3_step rfl rfl rfl (by decide +kernel) ⟨Nat.le_of_ble_eq_true rfl, Nat.le_of_ble_eq_true rfl⟩) ⟨zPre_blind, va_recv hK hP (ci := 3) (q0 := 0) rfl rfl, zPre_at hP hE (zD_re hD rfl) [0, 1] rfl rfl⟩ rfl rfl hl.1 rfl (lv_room (Nat.le_of_ble_eq_true rfl)) dX3_readLaw_1 ⟨Nat.zero_le _, Nat.zero_le _⟩) rfl hP (zD_re hD rfl) hS [0, 1] rfl rfl [some 0, some 1, none, none] rfl rfl rfl rfl (fun H locs hP hS => ?_)
  refine W.eq (g2 := F0 m 4 ls []) rfl ?_
  refine lv_aload_n (pc := 4) hx hb dX3_readLaw_4 rfl (lv_at hl 0 rfl) ?_
  obtain ⟨t_MOST_LAWS, hz_MOST_LAWS, ht_MOST_LAWS⟩ := hZ.2.1
  refine va_getsN (pc := 5) hx hb hz_MOST_LAWS hS hown (va_Nw.use rfl hE.2.2.2.2.2.1) (fun _ h9 => h9) dX3_readLaw_5 ?_
  refine lv_iload_n (pc := 8) hx hb dX3_readLaw_8 rfl (lv_at hl 1 rfl) ?_
  refine za_ti (pc := 9) hx hb ht_MOST_LAWS hS dX3_readLaw_9 hF (fun hF => ?_)
  obtain ⟨u10, hu10, hF⟩ := z_bind hF
  refine zq_callM (oc0 := (some (.int u10.1))) (wc := wX3_takeNumber cB cI cJ cO h0 h_bytes (.ref h_town) v_length u1.1 u1.2.1 u1.2.2 v_bytes) (wc' := wX3_takeNumber cB cI cJ cO h0 h_bytes (.ref h_town) v_length u10.2.1 u10.2.2.1 u10.2.2.2 v_bytes) (ws' := (wX3_readLaw cB cI cJ cO h0 h_bytes h_town h_town_laws g_town_ground g_town_seen g_town_count g_town_kind g_town_hand g_town_size g_town_on g_town_away g_town_nightsPassed g_town_glances g_town_draws g_town_gained g_town_paintedOn g_town_wallLooks v_length u10.2.1 u10.2.2.1 u10.2.2.2 v_bytes v_town_laws)) (va_runV (As := [.int (zf_most x1.toNatClampNeg)]) (rest := []) ⟨hx, hb, hml, hown, hts⟩ (tX3_takeNumber (l := l) (D := D) (cB := cB) (cI := cI) (cJ := cJ) (cO := cO) h0 h_bytes (.ref h_town) v_length u1.1 u1.2.1 u1.2.2 v_bytes (zf_most x1.toNatClampNeg) u10 hu10) (cwV 1 hts gX3_readLaw_X3_takeNumber rfl rfl rfl (by decide +kernel) ⟨Nat.le_of_ble_eq_true rfl, Nat.le_of_ble_eq_true rfl⟩) ⟨zPre_blind, va_recv hK hP (ci := 3) (q0 := 0) rfl rfl, zPre_at hP hE (zD_re hD rfl) [0, 1] rfl rfl⟩ rfl rfl hl.1 rfl (lv_room (Nat.le_of_ble_eq_true rfl)) dX3_readLaw_10 ⟨Nat.zero_le _, Nat.zero_le _⟩) rfl hP (zD_re hD rfl) hS [0, 1] rfl rfl [some 0, some 1, none, none] rfl rfl rfl rfl (fun H locs hP hS => ?_)
  refine W.eq (g2 := F0 m 13 ls [.int u10.1]) rfl ?_
  refine lv_istore_n (pc := 13) (lv' := [(2, .int u10.1), (0, .ref h0), (1, .int x1)]) hx hb dX3_readLaw_13 rfl hl (by decide) rfl (fun ls hl => ?_)
  refine lv_iload_n (pc := 14) hx hb dX3_readLaw_14 rfl (lv_at hl 0 rfl) ?_
  refine zb_if_lt (pc := 15) (tgt := 25) hx hb dX3_readLaw_15 (by decide) hF (fun c_15 hF => ?_) (fun c_15 hF => ?_)
  · refine lv_iconst (pc := 25) (v := (nI 0)) hx hb dX3_readLaw_25 (by decide) ?_
    exact z_zretM (pc := 26) (fun q => q.1) (fun q => (wX3_readLaw cB cI cJ cO h0 h_bytes h_town h_town_laws g_town_ground g_town_seen g_town_count g_town_kind g_town_hand g_town_size g_town_on g_town_away g_town_nightsPassed g_town_glances g_town_draws g_town_gained g_town_paintedOn g_town_wallLooks v_length q.2.1 q.2.2.1 q.2.2.2.1 v_bytes q.2.2.2.2)) hx hb hr hlocks (by decide) hP hS hF rfl hQ dX3_readLaw_26
  · refine lv_aload_n (pc := 18) hx hb dX3_readLaw_18 rfl (lv_at hl 1 rfl) ?_
    obtain ⟨u19, hu19, hF⟩ := z_bind hF
    refine zq_callM (oc0 := (some (.int u19.1))) (wc := wX3_takeEnd cB cI cJ cO h0 h_bytes (.ref h_town) v_length u10.2.1 u10.2.2.1 u10.2.2.2 v_bytes) (wc' := wX3_takeEnd cB cI cJ cO h0 h_bytes (.ref h_town) v_length u19.2.1 u19.2.2.1 u19.2.2.2 v_bytes) (ws' := (wX3_readLaw cB cI cJ cO h0 h_bytes h_town h_town_laws g_town_ground g_town_seen g_town_count g_town_kind g_town_hand g_town_size g_town_on g_town_away g_town_nightsPassed g_town_glances g_town_draws g_town_gained g_town_paintedOn g_town_wallLooks v_length u19.2.1 u19.2.2.1 u19.2.2.2 v_bytes v_town_laws)) (va_runV (As := []) (rest := []) ⟨hx, hb, hml, hown, hts⟩ (tX3_takeEnd (l := l) (D := D) (cB := cB) (cI := cI) (cJ := cJ) (cO := cO) h0 h_bytes (.ref h_town) v_length u10.2.1 u10.2.2.1 u10.2.2.2 v_bytes u19 hu19) (cwV 0 hts gX3_readLaw_X3_takeEnd rfl rfl rfl (by decide +kernel) ⟨Nat.le_of_ble_eq_true rfl, Nat.le_of_ble_eq_true rfl⟩) ⟨zPre_blind, va_recv hK hP (ci := 3) (q0 := 0) rfl rfl, zPre_at hP hE (zD_re hD rfl) [0, 1] rfl rfl⟩ rfl rfl hl.1 rfl (lv_room (Nat.le_of_ble_eq_true rfl)) dX3_readLaw_19 ⟨Nat.zero_le _, Nat.zero_le _⟩) rfl hP (zD_re hD rfl) hS [0, 1] rfl rfl [some 0, some 1, none, none] rfl rfl rfl rfl (fun H locs hP hS => ?_)
    refine W.eq (g2 := F0 m 22 ls [.int u19.1]) rfl ?_
    refine zb_if_ne (pc := 22) (tgt := 27) hx hb dX3_readLaw_22 (by decide) hF (fun c_22 hF => ?_) (fun c_22 hF => ?_)
    · refine lv_aload_n (pc := 27) hx hb dX3_readLaw_27 rfl (lv_at hl 1 rfl) ?_
      refine va_get (D := D) (pc := 28) (ci := 3) (v := .ref h_town) (C := RX3) (T := TX3) (N := 6) hx hb hts nX3_readLaw_X3 hown hK hP 0 rfl rfl 2 (by decide) (hts _ kX3_readLaw_0) (fun _ h9 => h9) rfl dX3_readLaw_28 ?_
      refine va_get (D := D) (pc := 31) (ci := 2) (v := .ref h_town_laws) (C := RX2) (T := TX2) (N := 15) hx hb hts nX3_readLaw_X2 hown hK hP 2 rfl rfl 0 (by decide) (hts _ kX3_readLaw_1) (fun _ h9 => h9) rfl dX3_readLaw_31 ?_
      refine lv_iload_n (pc := 34) hx hb dX3_readLaw_34 rfl (lv_at hl 2 rfl) ?_
      refine lv_iload_n (pc := 35) hx hb dX3_readLaw_35 rfl (lv_at hl 0 rfl) ?_
      refine za_iast (pc := 36) hx hb hK hP (zD_re hD rfl) hS 3 1 rfl rfl dX3_readLaw_36 hF (fun hF H locs hP hS => ?_)
      have hP : va_P D vwCl (wX3_readLaw cB cI cJ cO h0 h_bytes h_town h_town_laws g_town_ground g_town_seen g_town_count g_town_kind g_town_hand g_town_size g_town_on g_town_away g_town_nightsPassed g_town_glances g_town_draws g_town_gained g_town_paintedOn g_town_wallLooks v_length u19.2.1 u19.2.2.1 u19.2.2.2 v_bytes (upd v_town_laws x1.toNatClampNeg u10.1)) H := hP
      refine lv_iconst (pc := 37) (v := (nI 1)) hx hb dX3_readLaw_37 (by decide) ?_
      exact z_zretM (pc := 38) (fun q => q.1) (fun q => (wX3_readLaw cB cI cJ cO h0 h_bytes h_town h_town_laws g_town_ground g_town_seen g_town_count g_town_kind g_town_hand g_town_size g_town_on g_town_away g_town_nightsPassed g_town_glances g_town_draws g_town_gained g_town_paintedOn g_town_wallLooks v_length q.2.1 q.2.2.1 q.2.2.2.1 v_bytes q.2.2.2.2)) hx hb hr hlocks (by decide) hP hS hF rfl hQ dX3_readLaw_38
    · refine lv_iconst (pc := 25) (v := (nI 0)) hx hb dX3_readLaw_25 (by decide) ?_
      exact z_zretM (pc := 26) (fun q => q.1) (fun q => (wX3_readLaw cB cI cJ cO h0 h_bytes h_town h_town_laws g_town_ground g_town_seen g_town_count g_town_kind g_town_hand g_town_size g_town_on g_town_away g_town_nightsPassed g_town_glances g_town_draws g_town_gained g_town_paintedOn g_town_wallLooks v_length q.2.1 q.2.2.1 q.2.2.2.1 v_bytes q.2.2.2.2)) hx hb hr hlocks (by decide) hP hS hF rfl hQ dX3_readLaw_26

abbrev rX3_groundTold : Room := { frames := 6, cells := 0, slots := 0, locals := 142 }
abbrev wX3_groundTold (cB cI cJ cO : ClassId) (h0 h_bytes : Nat) (g_length g_town : Value) (v_from : Int32) (v_behind : Int32) (v_sort : Int32) (v_bytes : Nat → Int32) : va_W := [(h0, .inr (3, [.ref h_bytes, g_length, g_town, .int v_from, .int v_behind, .int v_sort])), (h_bytes, .inl (cB, 200, .inl v_bytes))]
set_option maxHeartbeats 4000000 in
set_option maxRecDepth 100000 in
theorem tX3_groundTold {l : Launch} {D : va_G} {cB cI cJ cO : ClassId} {adK adV : Nat → Nat} (h0 h_bytes : Nat) (g_length g_town : Value) (v_from : Int32) (v_behind : Int32) (v_sort : Int32) (v_bytes : Nat → Int32) (r : Int32) (hF : fX3_groundTold v_from v_behind v_sort v_bytes = some r) : Met l yX3_groundTold wsX3_groundTold rX3_groundTold (zPreS D cB cI cJ cO adK adV [.ref h0] (wX3_groundTold cB cI cJ cO h0 h_bytes g_length g_town v_from v_behind v_sort v_bytes) [h0, h_bytes]) (zPI (some (.int r))) 0 0 (fun _ => False) := by
  refine zMetPS (cc := cX3_groundTold) (maxL := 1) (ret := (some .int)) (lv := [(0, .ref h0)]) rfl (by decide) rfl (Nat.le_of_ble_eq_true rfl) rfl ?_
  intro p e s m args below meth c ls Q hQ hx hb hr hml hown hts hlocks hname hP hE hD hS hZ hl
  have hown : s.vm.findClass RX3 = some m.cls := hown
  have hK := hE.1
  unfold fX3_groundTold at hF
  refine lv_aload_n (pc := 0) hx hb dX3_groundTold_0 rfl (lv_at hl 0 rfl) ?_
  refine va_ldcS (pc := 1) (q := adK 11) hx hb hown (hZ.2.2.2.2.1 11 (by decide)) dX3_groundTold_1 ?_
  obtain ⟨u3, hu3, hF⟩ := z_bind hF
  refine zq_call (oc0 := (some (.int u3))) (va_runV (As := [.ref (adK 11)]) (rest := []) ⟨hx, hb, hml, hown, hts⟩ (tX3_isWord (l := l) (D := D) (cB := cB) (cI := cI) (cJ := cJ) (cO := cO) (adK := adK) (adV := adV) h0 h_bytes g_length g_town v_from v_behind v_sort v_bytes 11 u3 hu3) (cwV 1 hts gX3_groundTold_X3_isWord rfl rfl rfl (by decide +kernel) ⟨Nat.le_of_ble_eq_true rfl, Nat.le_of_ble_eq_true rfl⟩) ⟨zPreS_blind, va_recv hK hP (ci := 3) (q0 := 0) rfl rfl, zPreS_at hP hE (zD_re hD rfl) hZ hS [0, 1] rfl rfl rfl⟩ rfl rfl hl.1 rfl (lv_room (Nat.le_of_ble_eq_true rfl)) dX3_groundTold_3 ⟨Nat.zero_le _, Nat.zero_le _⟩) ?_
  refine W.eq (g2 := F0 m 6 ls [.int u3]) rfl ?_
  refine zb_if_eq (pc := 6) (tgt := 11) hx hb dX3_groundTold_6 (by decide) hF (fun c_6 hF => ?_) (fun c_6 hF => ?_)
  · refine lv_aload_n (pc := 11) hx hb dX3_groundTold_11 rfl (lv_at hl 0 rfl) ?_
    refine va_ldcS (pc := 12) (q := adK 12) hx hb hown (hZ.2.2.2.2.1 12 (by decide)) dX3_groundTold_12 ?_
    obtain ⟨u14, hu14, hF⟩ := z_bind hF
    refine zq_call (oc0 := (some (.int u14))) (va_runV (As := [.ref (adK 12)]) (rest := []) ⟨hx, hb, hml, hown, hts⟩ (tX3_isWord (l := l) (D := D) (cB := cB) (cI := cI) (cJ := cJ) (cO := cO) (adK := adK) (adV := adV) h0 h_bytes g_length g_town v_from v_behind v_sort v_bytes 12 u14 hu14) (cwV 1 hts gX3_groundTold_X3_isWord rfl rfl rfl (by decide +kernel) ⟨Nat.le_of_ble_eq_true rfl, Nat.le_of_ble_eq_true rfl⟩) ⟨zPreS_blind, va_recv hK hP (ci := 3) (q0 := 0) rfl rfl, zPreS_at hP hE (zD_re hD rfl) hZ hS [0, 1] rfl rfl rfl⟩ rfl rfl hl.1 rfl (lv_room (Nat.le_of_ble_eq_true rfl)) dX3_groundTold_14 ⟨Nat.zero_le _, Nat.zero_le _⟩) ?_
    refine W.eq (g2 := F0 m 17 ls [.int u14]) rfl ?_
    refine zb_if_eq (pc := 17) (tgt := 22) hx hb dX3_groundTold_17 (by decide) hF (fun c_17 hF => ?_) (fun c_17 hF => ?_)
    · refine lv_aload_n (pc := 22) hx hb dX3_groundTold_22 rfl (lv_at hl 0 rfl) ?_
      refine va_ldcS (pc := 23) (q := adK 13) hx hb hown (hZ.2.2.2.2.1 13 (by decide)) dX3_groundTold_23 ?_
      obtain ⟨u25, hu25, hF⟩ := z_bind hF
      refine zq_call (oc0 := (some (.int u25))) (va_runV (As := [.ref (adK 13)]) (rest := []) ⟨hx, hb, hml, hown, hts⟩ (tX3_isWord (l := l) (D := D) (cB := cB) (cI := cI) (cJ := cJ) (cO := cO) (adK := adK) (adV := adV) h0 h_bytes g_length g_town v_from v_behind v_sort v_bytes 13 u25 hu25) (cwV 1 hts gX3_groundTold_X3_isWord rfl rfl rfl (by decide +kernel) ⟨Nat.le_of_ble_eq_true rfl, Nat.le_of_ble_eq_true rfl⟩) ⟨zPreS_blind, va_recv hK hP (ci := 3) (q0 := 0) rfl rfl, zPreS_at hP hE (zD_re hD rfl) hZ hS [0, 1] rfl rfl rfl⟩ rfl rfl hl.1 rfl (lv_room (Nat.le_of_ble_eq_true rfl)) dX3_groundTold_25 ⟨Nat.zero_le _, Nat.zero_le _⟩) ?_
      refine W.eq (g2 := F0 m 28 ls [.int u25]) rfl ?_
      refine zb_if_eq (pc := 28) (tgt := 35) hx hb dX3_groundTold_28 (by decide) hF (fun c_28 hF => ?_) (fun c_28 hF => ?_)
      · refine lv_iconst (pc := 35) (v := (-1 : Int32)) hx hb dX3_groundTold_35 (by decide) ?_
        exact z_iret (pc := 36) (fun q => q) hx hb hr hlocks hF rfl hQ dX3_groundTold_36
      · refine lv_iconst (pc := 31) (v := (nI 2)) hx hb dX3_groundTold_31 (by decide) ?_
        refine lv_goto (pc := 32) (tgt := 36) hx hb dX3_groundTold_32 (by decide) ?_
        exact z_iret (pc := 36) (fun q => q) hx hb hr hlocks hF rfl hQ dX3_groundTold_36
    · refine lv_iconst (pc := 20) (v := (nI 1)) hx hb dX3_groundTold_20 (by decide) ?_
      exact z_iret (pc := 21) (fun q => q) hx hb hr hlocks hF rfl hQ dX3_groundTold_21
  · refine lv_iconst (pc := 9) (v := (nI 0)) hx hb dX3_groundTold_9 (by decide) ?_
    exact z_iret (pc := 10) (fun q => q) hx hb hr hlocks hF rfl hQ dX3_groundTold_10

abbrev rX3_readWall : Room := { frames := 8, cells := 0, slots := 0, locals := 186 }
abbrev wX3_readWall (cB cI cJ cO : ClassId) (h0 h_bytes h_town h_town_ground h_town_seen : Nat) (g_town_laws g_town_count g_town_kind g_town_hand g_town_size g_town_on g_town_away g_town_nightsPassed g_town_glances g_town_draws g_town_gained g_town_paintedOn g_town_wallLooks : Value) (v_length : Int32) (v_from : Int32) (v_behind : Int32) (v_sort : Int32) (v_bytes : Nat → Int32) (v_town_ground : Nat → Int32) (v_town_seen : Nat → Int32) : va_W := [(h0, .inr (3, [.ref h_bytes, .int v_length, .ref h_town, .int v_from, .int v_behind, .int v_sort])), (h_bytes, .inl (cB, 200, .inl v_bytes)), (h_town, .inr (2, [g_town_laws, .ref h_town_ground, .ref h_town_seen, g_town_count, g_town_kind, g_town_hand, g_town_size, g_town_on, g_town_away, g_town_nightsPassed, g_town_glances, g_town_draws, g_town_gained, g_town_paintedOn, g_town_wallLooks])), (h_town_ground, .inl (cI, 10, .inl v_town_ground)), (h_town_seen, .inl (cI, 10, .inl v_town_seen))]
theorem nX3_readWall_X3 : ∀ w ∈ wsX30, w ∈ wsX3_readWall := by decide +kernel
theorem nX3_readWall_X2 : ∀ w ∈ wsX20, w ∈ wsX3_readWall := by decide +kernel
theorem kX3_readWall_0 : Cond.fieldLink RX3 25 "PaintedWalls$TownText" "town" "LPaintedWalls$Town;" ∈ wsX3_readWall := by decide +kernel
theorem kX3_readWall_1 : Cond.fieldLink RX3 96 "PaintedWalls$Town" "seen" "[I" ∈ wsX3_readWall := by decide +kernel
theorem kX3_readWall_2 : Cond.fieldLink RX3 99 "PaintedWalls$Town" "ground" "[I" ∈ wsX3_readWall := by decide +kernel
set_option maxHeartbeats 4000000 in
set_option maxRecDepth 100000 in
theorem tX3_readWall {l : Launch} {D : va_G} {cB cI cJ cO : ClassId} {adK adV : Nat → Nat} (h0 h_bytes h_town h_town_ground h_town_seen : Nat) (g_town_laws g_town_count g_town_kind g_town_hand g_town_size g_town_on g_town_away g_town_nightsPassed g_town_glances g_town_draws g_town_gained g_town_paintedOn g_town_wallLooks : Value) (v_length : Int32) (v_from : Int32) (v_behind : Int32) (v_sort : Int32) (v_bytes : Nat → Int32) (v_town_ground : Nat → Int32) (v_town_seen : Nat → Int32) (r : Int32 × Int32 × Int32 × Int32 × (Nat → Int32) × (Nat → Int32)) (hF : fX3_readWall v_length v_from v_behind v_sort v_bytes v_town_ground v_town_seen = some r) : Met l yX3_readWall wsX3_readWall rX3_readWall (zPreS D cB cI cJ cO adK adV [.ref h0] (wX3_readWall cB cI cJ cO h0 h_bytes h_town h_town_ground h_town_seen g_town_laws g_town_count g_town_kind g_town_hand g_town_size g_town_on g_town_away g_town_nightsPassed g_town_glances g_town_draws g_town_gained g_town_paintedOn g_town_wallLooks v_length v_from v_behind v_sort v_bytes v_town_ground v_town_seen) [h0, h_bytes, h_town, h_town_ground, h_town_seen]) (zPM (some (.int r.1)) D (wX3_readWall cB cI cJ cO h0 h_bytes h_town h_town_ground h_town_seen g_town_laws g_town_count g_town_kind g_town_hand g_town_size g_town_on g_town_away g_town_nightsPassed g_town_glances g_town_draws g_town_gained g_town_paintedOn g_town_wallLooks v_length r.2.1 r.2.2.1 r.2.2.2.1 v_bytes r.2.2.2.2.1 r.2.2.2.2.2) (zAs [h0, h_bytes, h_town, h_town_ground, h_town_seen])) 0 0 (zAs [h0, h_bytes, h_town, h_town_ground, h_town_seen]) := by
  refine zMetMS (cc := cX3_readWall) (maxL := 4) (ret := (some .boolean)) (lv := [(0, .ref h0)]) rfl (by decide) rfl (Nat.le_of_ble_eq_true rfl) rfl ?_
  intro p e s m args below meth c ls Q H locs hQ hx hb hr hml hown hts hlocks hname hP hE hD hS hZ hl
  have hown : s.vm.findClass RX3 = some m.cls := hown
  have hK := hE.1
  unfold fX3_readWall at hF
  refine lv_aload_n (pc := 0) hx hb dX3_readWall_0 rfl (lv_at hl 0 rfl) ?_
  obtain ⟨u1, hu1, hF⟩ := z_bind hF
  refine zq_callM (oc0 := none) (wc := wX3_step cB cI cJ cO h0 h_bytes (.ref h_town) v_length v_from v_behind v_sort v_bytes) (wc' := wX3_step cB cI cJ cO h0 h_bytes (.ref h_town) v_length u1.1 u1.2.1 u1.2.2 v_bytes) (ws' := (wX3_readWall cB cI cJ cO h0 h_bytes h_town h_town_ground h_town_seen g_town_laws g_town_count g_town_kind g_town_hand g_town_size g_town_on g_town_away g_town_nightsPassed g_town_glances g_town_draws g_town_gained g_town_paintedOn g_town_wallLooks v_length u1.1 u1.2.1 u1.2.2 v_bytes v_town_ground v_town_seen)) (va_runV (As := []) (rest := []) ⟨hx, hb, hml, hown, hts⟩ (tX3_step (l := l) (D := D) (cB := cB) (cI := cI) (cJ := cJ) (cO := cO) h0 h_bytes (.ref h_town) v_length v_from v_behind v_sort v_bytes u1 hu1) (cwV 0 hts gX3_readWall_X3_step rfl rfl rfl (by decide +kernel) ⟨Nat.le_of_ble_eq_true rfl, Nat.le_of_ble_eq_true rfl⟩) ⟨zPre_blind, va_recv hK hP (ci := 3) (q0 := 0) rfl rfl, zPre_at hP hE (zD_re hD rfl) [0, 1] rfl rfl⟩ rfl rfl hl.1 rfl (lv_room (Nat.le_of_ble_eq_true rfl)) dX3_readWall_1 ⟨Nat.zero_le _, Nat.zero_le _⟩) rfl hP (zD_re hD rfl) hS [0, 1] rfl rfl [some 0, some 1, none, none, none] rfl rfl rfl rfl (fun H locs hP hS => ?_)
  refine W.eq (g2 := F0 m 4 ls []) rfl ?_
  refine lv_aload_n (pc := 4) hx hb dX3_readWall_4 rfl (lv_at hl 0 rfl) ?_
  refine lv_bipush (pc := 5) (v := (nI 9)) hx hb dX3_readWall_5 (by decide) ?_
  obtain ⟨u7, hu7, hF⟩ := z_bind hF
  refine zq_callM (oc0 := (some (.int u7.1))) (wc := wX3_takeNumber cB cI cJ cO h0 h_bytes (.ref h_town) v_length u1.1 u1.2.1 u1.2.2 v_bytes) (wc' := wX3_takeNumber cB cI cJ cO h0 h_bytes (.ref h_town) v_length u7.2.1 u7.2.2.1 u7.2.2.2 v_bytes) (ws' := (wX3_readWall cB cI cJ cO h0 h_bytes h_town h_town_ground h_town_seen g_town_laws g_town_count g_town_kind g_town_hand g_town_size g_town_on g_town_away g_town_nightsPassed g_town_glances g_town_draws g_town_gained g_town_paintedOn g_town_wallLooks v_length u7.2.1 u7.2.2.1 u7.2.2.2 v_bytes v_town_ground v_town_seen)) (va_runV (As := [.int (nI 9)]) (rest := []) ⟨hx, hb, hml, hown, hts⟩ (tX3_takeNumber (l := l) (D := D) (cB := cB) (cI := cI) (cJ := cJ) (cO := cO) h0 h_bytes (.ref h_town) v_length u1.1 u1.2.1 u1.2.2 v_bytes (nI 9) u7 hu7) (cwV 1 hts gX3_readWall_X3_takeNumber rfl rfl rfl (by decide +kernel) ⟨Nat.le_of_ble_eq_true rfl, Nat.le_of_ble_eq_true rfl⟩) ⟨zPre_blind, va_recv hK hP (ci := 3) (q0 := 0) rfl rfl, zPre_at hP hE (zD_re hD rfl) [0, 1] rfl rfl⟩ rfl rfl hl.1 rfl (lv_room (Nat.le_of_ble_eq_true rfl)) dX3_readWall_7 ⟨Nat.zero_le _, Nat.zero_le _⟩) rfl hP (zD_re hD rfl) hS [0, 1] rfl rfl [some 0, some 1, none, none, none] rfl rfl rfl rfl (fun H locs hP hS => ?_)
  refine W.eq (g2 := F0 m 10 ls [.int u7.1]) rfl ?_
  refine lv_istore_n (pc := 10) (lv' := [(1, .int u7.1), (0, .ref h0)]) hx hb dX3_readWall_10 rfl hl (by decide) rfl (fun ls hl => ?_)
  refine lv_iload_n (pc := 11) hx hb dX3_readWall_11 rfl (lv_at hl 0 rfl) ?_
  refine zb_if_ge (pc := 12) (tgt := 17) hx hb dX3_readWall_12 (by decide) hF (fun c_12 hF => ?_) (fun c_12 hF => ?_)
  · refine lv_aload_n (pc := 17) hx hb dX3_readWall_17 rfl (lv_at hl 1 rfl) ?_
    obtain ⟨u18, hu18, hF⟩ := z_bind hF
    refine zq_call (oc0 := (some (.int u18))) (va_runV (As := []) (rest := []) ⟨hx, hb, hml, hown, hts⟩ (tX3_groundTold (l := l) (D := D) (cB := cB) (cI := cI) (cJ := cJ) (cO := cO) (adK := adK) (adV := adV) h0 h_bytes (.int v_length) (.ref h_town) u7.2.1 u7.2.2.1 u7.2.2.2 v_bytes u18 hu18) (cwV 0 hts gX3_readWall_X3_groundTold rfl rfl rfl (by decide +kernel) ⟨Nat.le_of_ble_eq_true rfl, Nat.le_of_ble_eq_true rfl⟩) ⟨zPreS_blind, va_recv hK hP (ci := 3) (q0 := 0) rfl rfl, zPreS_at hP hE (zD_re hD rfl) hZ hS [0, 1] rfl rfl rfl⟩ rfl rfl hl.1 rfl (lv_room (Nat.le_of_ble_eq_true rfl)) dX3_readWall_18 ⟨Nat.zero_le _, Nat.zero_le _⟩) ?_
    refine W.eq (g2 := F0 m 21 ls [.int u18]) rfl ?_
    refine lv_istore_n (pc := 21) (lv' := [(2, .int u18), (1, .int u7.1), (0, .ref h0)]) hx hb dX3_readWall_21 rfl hl (by decide) rfl (fun ls hl => ?_)
    refine lv_iload_n (pc := 22) hx hb dX3_readWall_22 rfl (lv_at hl 0 rfl) ?_
    refine zb_if_ge (pc := 23) (tgt := 28) hx hb dX3_readWall_23 (by decide) hF (fun c_23 hF => ?_) (fun c_23 hF => ?_)
    · refine lv_aload_n (pc := 28) hx hb dX3_readWall_28 rfl (lv_at hl 2 rfl) ?_
      obtain ⟨u29, hu29, hF⟩ := z_bind hF
      refine zq_callM (oc0 := none) (wc := wX3_step cB cI cJ cO h0 h_bytes (.ref h_town) v_length u7.2.1 u7.2.2.1 u7.2.2.2 v_bytes) (wc' := wX3_step cB cI cJ cO h0 h_bytes (.ref h_town) v_length u29.1 u29.2.1 u29.2.2 v_bytes) (ws' := (wX3_readWall cB cI cJ cO h0 h_bytes h_town h_town_ground h_town_seen g_town_laws g_town_count g_town_kind g_town_hand g_town_size g_town_on g_town_away g_town_nightsPassed g_town_glances g_town_draws g_town_gained g_town_paintedOn g_town_wallLooks v_length u29.1 u29.2.1 u29.2.2 v_bytes v_town_ground v_town_seen)) (va_runV (As := []) (rest := []) ⟨hx, hb, hml, hown, hts⟩ (tX3_step (l := l) (D := D) (cB := cB) (cI := cI) (cJ := cJ) (cO := cO) h0 h_bytes (.ref h_town) v_length u7.2.1 u7.2.2.1 u7.2.2.2 v_bytes u29 hu29) (cwV 0 hts gX3_readWall_X3_step rfl rfl rfl (by decide +kernel) ⟨Nat.le_of_ble_eq_true rfl, Nat.le_of_ble_eq_true rfl⟩) ⟨zPre_blind, va_recv hK hP (ci := 3) (q0 := 0) rfl rfl, zPre_at hP hE (zD_re hD rfl) [0, 1] rfl rfl⟩ rfl rfl hl.1 rfl (lv_room (Nat.le_of_ble_eq_true rfl)) dX3_readWall_29 ⟨Nat.zero_le _, Nat.zero_le _⟩) rfl hP (zD_re hD rfl) hS [0, 1] rfl rfl [some 0, some 1, none, none, none] rfl rfl rfl rfl (fun H locs hP hS => ?_)
      refine W.eq (g2 := F0 m 32 ls []) rfl ?_
      refine lv_aload_n (pc := 32) hx hb dX3_readWall_32 rfl (lv_at hl 2 rfl) ?_
      refine va_ldcS (pc := 33) (q := adK 4) hx hb hown (hZ.2.2.2.2.1 4 (by decide)) dX3_readWall_33 ?_
      refine lv_bipush (pc := 35) (v := (nI 9)) hx hb dX3_readWall_35 (by decide) ?_
      refine lv_aload_n (pc := 37) hx hb dX3_readWall_37 rfl (lv_at hl 2 rfl) ?_
      refine va_get (D := D) (pc := 38) (ci := 3) (v := .ref h_town) (C := RX3) (T := TX3) (N := 6) hx hb hts nX3_readWall_X3 hown hK hP 0 rfl rfl 2 (by decide) (hts _ kX3_readWall_0) (fun _ h9 => h9) rfl dX3_readWall_38 ?_
      refine va_get (D := D) (pc := 41) (ci := 2) (v := .ref h_town_seen) (C := RX2) (T := TX2) (N := 15) hx hb hts nX3_readWall_X2 hown hK hP 2 rfl rfl 2 (by decide) (hts _ kX3_readWall_1) (fun _ h9 => h9) rfl dX3_readWall_41 ?_
      refine lv_iload_n (pc := 44) hx hb dX3_readWall_44 rfl (lv_at hl 1 rfl) ?_
      refine za_iald (pc := 45) hx hb hK hP 4 1 rfl rfl dX3_readWall_45 hF (fun hF => ?_)
      obtain ⟨u46, hu46, hF⟩ := z_bind hF
      refine zq_callM (oc0 := (some (.int u46.1))) (wc := wX3_takeOption cB cI cJ cO h0 h_bytes (.ref h_town) v_length u29.1 u29.2.1 u29.2.2 v_bytes) (wc' := wX3_takeOption cB cI cJ cO h0 h_bytes (.ref h_town) v_length u46.2.1 u46.2.2.1 u46.2.2.2 v_bytes) (ws' := (wX3_readWall cB cI cJ cO h0 h_bytes h_town h_town_ground h_town_seen g_town_laws g_town_count g_town_kind g_town_hand g_town_size g_town_on g_town_away g_town_nightsPassed g_town_glances g_town_draws g_town_gained g_town_paintedOn g_town_wallLooks v_length u46.2.1 u46.2.2.1 u46.2.2.2 v_bytes v_town_ground v_town_seen)) (va_runV (As := [.ref (adK 4), .int (nI 9), .int (v_town_seen u7.1.toNatClampNeg)]) (rest := []) ⟨hx, hb, hml, hown, hts⟩ (tX3_takeOption (l := l) (D := D) (cB := cB) (cI := cI) (cJ := cJ) (cO := cO) (adK := adK) (adV := adV) h0 h_bytes (.ref h_town) v_length u29.1 u29.2.1 u29.2.2 v_bytes 4 (nI 9) (v_town_seen u7.1.toNatClampNeg) u46 hu46) (cwV 3 hts gX3_readWall_X3_takeOption rfl rfl rfl (by decide +kernel) ⟨Nat.le_of_ble_eq_true rfl, Nat.le_of_ble_eq_true rfl⟩) ⟨zPreS_blind, va_recv hK hP (ci := 3) (q0 := 0) rfl rfl, zPreS_at hP hE (zD_re hD rfl) hZ hS [0, 1] rfl rfl rfl⟩ rfl rfl hl.1 rfl (lv_room (Nat.le_of_ble_eq_true rfl)) dX3_readWall_46 ⟨Nat.zero_le _, Nat.zero_le _⟩) rfl hP (zD_re hD rfl) hS [0, 1] rfl rfl [some 0, some 1, none, none, none] rfl rfl rfl rfl (fun H locs hP hS => ?_)
      refine W.eq (g2 := F0 m 49 ls [.int u46.1]) rfl ?_
      refine lv_istore_n (pc := 49) (lv' := [(3, .int u46.1), (2, .int u18), (1, .int u7.1), (0, .ref h0)]) hx hb dX3_readWall_49 rfl hl (by decide) rfl (fun ls hl => ?_)
      refine lv_iload_n (pc := 50) hx hb dX3_readWall_50 rfl (lv_at hl 0 rfl) ?_
      refine zb_if_lt (pc := 51) (tgt := 61) hx hb dX3_readWall_51 (by decide) hF (fun c_51 hF => ?_) (fun c_51 hF => ?_)
      · refine lv_iconst (pc := 61) (v := (nI 0)) hx hb dX3_readWall_61 (by decide) ?_
        exact z_zretM (pc := 62) (fun q => q.1) (fun q => (wX3_readWall cB cI cJ cO h0 h_bytes h_town h_town_ground h_town_seen g_town_laws g_town_count g_town_kind g_town_hand g_town_size g_town_on g_town_away g_town_nightsPassed g_town_glances g_town_draws g_town_gained g_town_paintedOn g_town_wallLooks v_length q.2.1 q.2.2.1 q.2.2.2.1 v_bytes q.2.2.2.2.1 q.2.2.2.2.2)) hx hb hr hlocks (by decide) hP hS hF rfl hQ dX3_readWall_62
      · refine lv_aload_n (pc := 54) hx hb dX3_readWall_54 rfl (lv_at hl 3 rfl) ?_
        obtain ⟨u55, hu55, hF⟩ := z_bind hF
        refine zq_callM (oc0 := (some (.int u55.1))) (wc := wX3_takeEnd cB cI cJ cO h0 h_bytes (.ref h_town) v_length u46.2.1 u46.2.2.1 u46.2.2.2 v_bytes) (wc' := wX3_takeEnd cB cI cJ cO h0 h_bytes (.ref h_town) v_length u55.2.1 u55.2.2.1 u55.2.2.2 v_bytes) (ws' := (wX3_readWall cB cI cJ cO h0 h_bytes h_town h_town_ground h_town_seen g_town_laws g_town_count g_town_kind g_town_hand g_town_size g_town_on g_town_away g_town_nightsPassed g_town_glances g_town_draws g_town_gained g_town_paintedOn g_town_wallLooks v_length u55.2.1 u55.2.2.1 u55.2.2.2 v_bytes v_town_ground v_town_seen)) (va_runV (As := []) (rest := []) ⟨hx, hb, hml, hown, hts⟩ (tX3_takeEnd (l := l) (D := D) (cB := cB) (cI := cI) (cJ := cJ) (cO := cO) h0 h_bytes (.ref h_town) v_length u46.2.1 u46.2.2.1 u46.2.2.2 v_bytes u55 hu55) (cwV 0 hts gX3_readWall_X3_takeEnd rfl rfl rfl (by decide +kernel) ⟨Nat.le_of_ble_eq_true rfl, Nat.le_of_ble_eq_true rfl⟩) ⟨zPre_blind, va_recv hK hP (ci := 3) (q0 := 0) rfl rfl, zPre_at hP hE (zD_re hD rfl) [0, 1] rfl rfl⟩ rfl rfl hl.1 rfl (lv_room (Nat.le_of_ble_eq_true rfl)) dX3_readWall_55 ⟨Nat.zero_le _, Nat.zero_le _⟩) rfl hP (zD_re hD rfl) hS [0, 1] rfl rfl [some 0, some 1, none, none, none] rfl rfl rfl rfl (fun H locs hP hS => ?_)
        refine W.eq (g2 := F0 m 58 ls [.int u55.1]) rfl ?_
        refine zb_if_ne (pc := 58) (tgt := 63) hx hb dX3_readWall_58 (by decide) hF (fun c_58 hF => ?_) (fun c_58 hF => ?_)
        · refine lv_aload_n (pc := 63) hx hb dX3_readWall_63 rfl (lv_at hl 3 rfl) ?_
          refine va_get (D := D) (pc := 64) (ci := 3) (v := .ref h_town) (C := RX3) (T := TX3) (N := 6) hx hb hts nX3_readWall_X3 hown hK hP 0 rfl rfl 2 (by decide) (hts _ kX3_readWall_0) (fun _ h9 => h9) rfl dX3_readWall_64 ?_
          refine va_get (D := D) (pc := 67) (ci := 2) (v := .ref h_town_ground) (C := RX2) (T := TX2) (N := 15) hx hb hts nX3_readWall_X2 hown hK hP 2 rfl rfl 1 (by decide) (hts _ kX3_readWall_2) (fun _ h9 => h9) rfl dX3_readWall_67 ?_
          refine lv_iload_n (pc := 70) hx hb dX3_readWall_70 rfl (lv_at hl 2 rfl) ?_
          refine lv_iload_n (pc := 71) hx hb dX3_readWall_71 rfl (lv_at hl 1 rfl) ?_
          refine za_iast (pc := 72) hx hb hK hP (zD_re hD rfl) hS 3 1 rfl rfl dX3_readWall_72 hF (fun hF H locs hP hS => ?_)
          have hP : va_P D vwCl (wX3_readWall cB cI cJ cO h0 h_bytes h_town h_town_ground h_town_seen g_town_laws g_town_count g_town_kind g_town_hand g_town_size g_town_on g_town_away g_town_nightsPassed g_town_glances g_town_draws g_town_gained g_town_paintedOn g_town_wallLooks v_length u55.2.1 u55.2.2.1 u55.2.2.2 v_bytes (upd v_town_ground u7.1.toNatClampNeg u18) v_town_seen) H := hP
          refine lv_aload_n (pc := 73) hx hb dX3_readWall_73 rfl (lv_at hl 3 rfl) ?_
          refine va_get (D := D) (pc := 74) (ci := 3) (v := .ref h_town) (C := RX3) (T := TX3) (N := 6) hx hb hts nX3_readWall_X3 hown hK hP 0 rfl rfl 2 (by decide) (hts _ kX3_readWall_0) (fun _ h9 => h9) rfl dX3_readWall_74 ?_
          refine va_get (D := D) (pc := 77) (ci := 2) (v := .ref h_town_seen) (C := RX2) (T := TX2) (N := 15) hx hb hts nX3_readWall_X2 hown hK hP 2 rfl rfl 2 (by decide) (hts _ kX3_readWall_1) (fun _ h9 => h9) rfl dX3_readWall_77 ?_
          refine lv_iload_n (pc := 80) hx hb dX3_readWall_80 rfl (lv_at hl 2 rfl) ?_
          refine lv_iload_n (pc := 81) hx hb dX3_readWall_81 rfl (lv_at hl 0 rfl) ?_
          refine za_iast (pc := 82) hx hb hK hP (zD_re hD rfl) hS 4 1 rfl rfl dX3_readWall_82 hF (fun hF H locs hP hS => ?_)
          have hP : va_P D vwCl (wX3_readWall cB cI cJ cO h0 h_bytes h_town h_town_ground h_town_seen g_town_laws g_town_count g_town_kind g_town_hand g_town_size g_town_on g_town_away g_town_nightsPassed g_town_glances g_town_draws g_town_gained g_town_paintedOn g_town_wallLooks v_length u55.2.1 u55.2.2.1 u55.2.2.2 v_bytes (upd v_town_ground u7.1.toNatClampNeg u18) (upd v_town_seen u7.1.toNatClampNeg u46.1)) H := hP
          refine lv_iconst (pc := 83) (v := (nI 1)) hx hb dX3_readWall_83 (by decide) ?_
          exact z_zretM (pc := 84) (fun q => q.1) (fun q => (wX3_readWall cB cI cJ cO h0 h_bytes h_town h_town_ground h_town_seen g_town_laws g_town_count g_town_kind g_town_hand g_town_size g_town_on g_town_away g_town_nightsPassed g_town_glances g_town_draws g_town_gained g_town_paintedOn g_town_wallLooks v_length q.2.1 q.2.2.1 q.2.2.2.1 v_bytes q.2.2.2.2.1 q.2.2.2.2.2)) hx hb hr hlocks (by decide) hP hS hF rfl hQ dX3_readWall_84
        · refine lv_iconst (pc := 61) (v := (nI 0)) hx hb dX3_readWall_61 (by decide) ?_
          exact z_zretM (pc := 62) (fun q => q.1) (fun q => (wX3_readWall cB cI cJ cO h0 h_bytes h_town h_town_ground h_town_seen g_town_laws g_town_count g_town_kind g_town_hand g_town_size g_town_on g_town_away g_town_nightsPassed g_town_glances g_town_draws g_town_gained g_town_paintedOn g_town_wallLooks v_length q.2.1 q.2.2.1 q.2.2.2.1 v_bytes q.2.2.2.2.1 q.2.2.2.2.2)) hx hb hr hlocks (by decide) hP hS hF rfl hQ dX3_readWall_62
    · refine lv_iconst (pc := 26) (v := (nI 0)) hx hb dX3_readWall_26 (by decide) ?_
      exact z_zretM (pc := 27) (fun q => q.1) (fun q => (wX3_readWall cB cI cJ cO h0 h_bytes h_town h_town_ground h_town_seen g_town_laws g_town_count g_town_kind g_town_hand g_town_size g_town_on g_town_away g_town_nightsPassed g_town_glances g_town_draws g_town_gained g_town_paintedOn g_town_wallLooks v_length q.2.1 q.2.2.1 q.2.2.2.1 v_bytes q.2.2.2.2.1 q.2.2.2.2.2)) hx hb hr hlocks (by decide) hP hS hF rfl hQ dX3_readWall_27
  · refine lv_iconst (pc := 15) (v := (nI 0)) hx hb dX3_readWall_15 (by decide) ?_
    exact z_zretM (pc := 16) (fun q => q.1) (fun q => (wX3_readWall cB cI cJ cO h0 h_bytes h_town h_town_ground h_town_seen g_town_laws g_town_count g_town_kind g_town_hand g_town_size g_town_on g_town_away g_town_nightsPassed g_town_glances g_town_draws g_town_gained g_town_paintedOn g_town_wallLooks v_length q.2.1 q.2.2.1 q.2.2.2.1 v_bytes q.2.2.2.2.1 q.2.2.2.2.2)) hx hb hr hlocks (by decide) hP hS hF rfl hQ dX3_readWall_16

abbrev rX3_faultOfAll : Room := { frames := 9, cells := 0, slots := 0, locals := 210 }
abbrev wX3_faultOfAll (cB cI cJ cO : ClassId) (h0 h_bytes h_town h_town_laws h_town_ground h_town_seen h_town_kind h_town_hand h_town_size h_town_on h_town_away : Nat) (g_town_nightsPassed g_town_glances g_town_draws g_town_gained g_town_paintedOn g_town_wallLooks : Value) (v_length : Int32) (v_from : Int32) (v_behind : Int32) (v_sort : Int32) (v_bytes : Nat → Int32) (v_town_count : Int32) (v_town_laws : Nat → Int32) (v_town_ground : Nat → Int32) (v_town_seen : Nat → Int32) (v_town_kind : Nat → Int32) (v_town_hand : Nat → Int32) (v_town_size : Nat → Int32) (v_town_on : Nat → Int32) (v_town_away : Nat → Int32) : va_W := [(h0, .inr (3, [.ref h_bytes, .int v_length, .ref h_town, .int v_from, .int v_behind, .int v_sort])), (h_bytes, .inl (cB, 200, .inl v_bytes)), (h_town, .inr (2, [.ref h_town_laws, .ref h_town_ground, .ref h_town_seen, .int v_town_count, .ref h_town_kind, .ref h_town_hand, .ref h_town_size, .ref h_town_on, .ref h_town_away, g_town_nightsPassed, g_town_glances, g_town_draws, g_town_gained, g_town_paintedOn, g_town_wallLooks])), (h_town_laws, .inl (cI, 4, .inl v_town_laws)), (h_town_ground, .inl (cI, 10, .inl v_town_ground)), (h_town_seen, .inl (cI, 10, .inl v_town_seen)), (h_town_kind, .inl (cI, 8, .inl v_town_kind)), (h_town_hand, .inl (cI, 8, .inl v_town_hand)), (h_town_size, .inl (cI, 8, .inl v_town_size)), (h_town_on, .inl (cI, 8, .inl v_town_on)), (h_town_away, .inl (cI, 8, .inl v_town_away))]
theorem nX3_faultOfAll_X3 : ∀ w ∈ wsX30, w ∈ wsX3_faultOfAll := by decide +kernel
theorem kX3_faultOfAll_0 : Cond.fieldLink RX3 59 "PaintedWalls$TownText" "from" "I" ∈ wsX3_faultOfAll := by decide +kernel
theorem kX3_faultOfAll_1 : Cond.fieldLink RX3 32 "PaintedWalls$TownText" "sort" "I" ∈ wsX3_faultOfAll := by decide +kernel
set_option maxHeartbeats 4000000 in
set_option maxRecDepth 100000 in
theorem tX3_faultOfAll {l : Launch} {D : va_G} {cB cI cJ cO : ClassId} {adK adV : Nat → Nat} (h0 h_bytes h_town h_town_laws h_town_ground h_town_seen h_town_kind h_town_hand h_town_size h_town_on h_town_away : Nat) (g_town_nightsPassed g_town_glances g_town_draws g_town_gained g_town_paintedOn g_town_wallLooks : Value) (v_length : Int32) (v_from : Int32) (v_behind : Int32) (v_sort : Int32) (v_bytes : Nat → Int32) (v_town_count : Int32) (v_town_laws : Nat → Int32) (v_town_ground : Nat → Int32) (v_town_seen : Nat → Int32) (v_town_kind : Nat → Int32) (v_town_hand : Nat → Int32) (v_town_size : Nat → Int32) (v_town_on : Nat → Int32) (v_town_away : Nat → Int32) (r : Int32 × Int32 × Int32 × Int32 × Int32 × (Nat → Int32) × (Nat → Int32) × (Nat → Int32) × (Nat → Int32) × (Nat → Int32) × (Nat → Int32) × (Nat → Int32) × (Nat → Int32)) (hF : fX3_faultOfAll v_length v_from v_behind v_sort v_bytes v_town_count v_town_laws v_town_ground v_town_seen v_town_kind v_town_hand v_town_size v_town_on v_town_away = some r) : Met l yX3_faultOfAll wsX3_faultOfAll rX3_faultOfAll (zPreS D cB cI cJ cO adK adV [.ref h0] (wX3_faultOfAll cB cI cJ cO h0 h_bytes h_town h_town_laws h_town_ground h_town_seen h_town_kind h_town_hand h_town_size h_town_on h_town_away g_town_nightsPassed g_town_glances g_town_draws g_town_gained g_town_paintedOn g_town_wallLooks v_length v_from v_behind v_sort v_bytes v_town_count v_town_laws v_town_ground v_town_seen v_town_kind v_town_hand v_town_size v_town_on v_town_away) [h0, h_bytes, h_town, h_town_laws, h_town_ground, h_town_seen, h_town_kind, h_town_hand, h_town_size, h_town_on, h_town_away]) (zPM (some (.int r.1)) D (wX3_faultOfAll cB cI cJ cO h0 h_bytes h_town h_town_laws h_town_ground h_town_seen h_town_kind h_town_hand h_town_size h_town_on h_town_away g_town_nightsPassed g_town_glances g_town_draws g_town_gained g_town_paintedOn g_town_wallLooks v_length r.2.1 r.2.2.1 r.2.2.2.1 v_bytes r.2.2.2.2.1 r.2.2.2.2.2.1 r.2.2.2.2.2.2.1 r.2.2.2.2.2.2.2.1 r.2.2.2.2.2.2.2.2.1 r.2.2.2.2.2.2.2.2.2.1 r.2.2.2.2.2.2.2.2.2.2.1 r.2.2.2.2.2.2.2.2.2.2.2.1 r.2.2.2.2.2.2.2.2.2.2.2.2) (zAs [h0, h_bytes, h_town, h_town_laws, h_town_ground, h_town_seen, h_town_kind, h_town_hand, h_town_size, h_town_on, h_town_away])) 0 0 (zAs [h0, h_bytes, h_town, h_town_laws, h_town_ground, h_town_seen, h_town_kind, h_town_hand, h_town_size, h_town_on, h_town_away]) := by
  refine zMetMS (cc := cX3_faultOfAll) (maxL := 5) (ret := (some .int)) (lv := [(0, .ref h0)]) rfl (by decide) rfl (Nat.le_of_ble_eq_true rfl) rfl ?_
  intro p e s m args below meth c ls Q H locs hQ hx hb hr hml hown hts hlocks hname hP hE hD hS hZ hl
  have hown : s.vm.findClass RX3 = some m.cls := hown
  have hK := hE.1
  unfold fX3_faultOfAll at hF
  refine lv_aload_n (pc := 0) hx hb dX3_faultOfAll_0 rfl (lv_at hl 0 rfl) ?_
  obtain ⟨u1, hu1, hF⟩ := z_bind hF
  refine zq_callM (oc0 := none) (wc := wX3_step cB cI cJ cO h0 h_bytes (.ref h_town) v_length v_from v_behind v_sort v_bytes) (wc' := wX3_step cB cI cJ cO h0 h_bytes (.ref h_town) v_length u1.1 u1.2.1 u1.2.2 v_bytes) (ws' := (wX3_faultOfAll cB cI cJ cO h0 h_bytes h_town h_town_laws h_town_ground h_town_seen h_town_kind h_town_hand h_town_size h_town_on h_town_away g_town_nightsPassed g_town_glances g_town_draws g_town_gained g_town_paintedOn g_town_wallLooks v_length u1.1 u1.2.1 u1.2.2 v_bytes v_town_count v_town_laws v_town_ground v_town_seen v_town_kind v_town_hand v_town_size v_town_on v_town_away)) (va_runV (As := []) (rest := []) ⟨hx, hb, hml, hown, hts⟩ (tX3_step (l := l) (D := D) (cB := cB) (cI := cI) (cJ := cJ) (cO := cO) h0 h_bytes (.ref h_town) v_length v_from v_behind v_sort v_bytes u1 hu1) (cwV 0 hts gX3_faultOfAll_X3_step rfl rfl rfl (by decide +kernel) ⟨Nat.le_of_ble_eq_true rfl, Nat.le_of_ble_eq_true rfl⟩) ⟨zPre_blind, va_recv hK hP (ci := 3) (q0 := 0) rfl rfl, zPre_at hP hE (zD_re hD rfl) [0, 1] rfl rfl⟩ rfl rfl hl.1 rfl (lv_room (Nat.le_of_ble_eq_true rfl)) dX3_faultOfAll_1 ⟨Nat.zero_le _, Nat.zero_le _⟩) rfl hP (zD_re hD rfl) hS [0, 1] rfl rfl [some 0, some 1, none, none, none, none, none, none, none, none, none] rfl rfl rfl rfl (fun H locs hP hS => ?_)
  refine W.eq (g2 := F0 m 4 ls []) rfl ?_
  refine lv_iconst (pc := 4) (v := (nI 0)) hx hb dX3_faultOfAll_4 (by decide) ?_
  refine lv_istore_n (pc := 5) (lv' := [(1, .int (nI 0)), (0, .ref h0)]) hx hb dX3_faultOfAll_5 rfl hl (by decide) rfl (fun ls hl => ?_)
  obtain ⟨k_26, hk_26, hF⟩ := z_J hF
  have kk_26 : ∀ (v_from_14 : Int32) (v_behind_15 : Int32) (v_sort_16 : Int32) (v_town_count_17 : Int32) (v_town_laws_18 : Nat → Int32) (v_town_ground_19 : Nat → Int32) (v_town_seen_20 : Nat → Int32) (v_town_kind_21 : Nat → Int32) (v_town_hand_22 : Nat → Int32) (v_town_size_23 : Nat → Int32) (v_town_on_24 : Nat → Int32) (v_town_away_25 : Nat → Int32) , k_26 v_from_14 v_behind_15 v_sort_16 v_town_count_17 v_town_laws_18 v_town_ground_19 v_town_seen_20 v_town_kind_21 v_town_hand_22 v_town_size_23 v_town_on_24 v_town_away_25 = some r → ∀ (H : Heap) (locs : List Loc), va_P D vwCl (wX3_faultOfAll cB cI cJ cO h0 h_bytes h_town h_town_laws h_town_ground h_town_seen h_town_kind h_town_hand h_town_size h_town_on h_town_away g_town_nightsPassed g_town_glances g_town_draws g_town_gained g_town_paintedOn g_town_wallLooks v_length v_from_14 v_behind_15 v_sort_16 v_bytes v_town_count_17 v_town_laws_18 v_town_ground_19 v_town_seen_20 v_town_kind_21 v_town_hand_22 v_town_size_23 v_town_on_24 v_town_away_25) H → va_S (zAs [h0, h_bytes, h_town, h_town_laws, h_town_ground, h_town_seen, h_town_kind, h_town_hand, h_town_size, h_town_on, h_town_away]) s.heap H locs → ∀ (ls : Array Slot), lv_has ls 5 [(0, .ref h0)] → W p l e rX3_faultOfAll s m args below meth c H locs 0 0 Q (F0 m 86 ls []) := by
    intro v_from_14 v_behind_15 v_sort_16 v_town_count_17 v_town_laws_18 v_town_ground_19 v_town_seen_20 v_town_kind_21 v_town_hand_22 v_town_size_23 v_town_on_24 v_town_away_25 hF H locs hP hS ls hl
    rw [hk_26] at hF
    refine lv_aload_n (pc := 86) hx hb dX3_faultOfAll_86 rfl (lv_at hl 0 rfl) ?_
    refine va_get (D := D) (pc := 87) (ci := 3) (v := .int v_from_14) (C := RX3) (T := TX3) (N := 6) hx hb hts nX3_faultOfAll_X3 hown hK hP 0 rfl rfl 3 (by decide) (hts _ kX3_faultOfAll_0) (fun _ h9 => h9) rfl dX3_faultOfAll_87 ?_
    exact z_iretM (pc := 90) (fun q => q.1) (fun q => (wX3_faultOfAll cB cI cJ cO h0 h_bytes h_town h_town_laws h_town_ground h_town_seen h_town_kind h_town_hand h_town_size h_town_on h_town_away g_town_nightsPassed g_town_glances g_town_draws g_town_gained g_town_paintedOn g_town_wallLooks v_length q.2.1 q.2.2.1 q.2.2.2.1 v_bytes q.2.2.2.2.1 q.2.2.2.2.2.1 q.2.2.2.2.2.2.1 q.2.2.2.2.2.2.2.1 q.2.2.2.2.2.2.2.2.1 q.2.2.2.2.2.2.2.2.2.1 q.2.2.2.2.2.2.2.2.2.2.1 q.2.2.2.2.2.2.2.2.2.2.2.1 q.2.2.2.2.2.2.2.2.2.2.2.2)) hx hb hr hlocks hP hS hF rfl hQ dX3_faultOfAll_90
  obtain ⟨k_39, hk_39, hF⟩ := z_J hF
  have kk_39 : ∀ (v_from_27 : Int32) (v_behind_28 : Int32) (v_sort_29 : Int32) (v_town_count_30 : Int32) (v_town_laws_31 : Nat → Int32) (v_town_ground_32 : Nat → Int32) (v_town_seen_33 : Nat → Int32) (v_town_kind_34 : Nat → Int32) (v_town_hand_35 : Nat → Int32) (v_town_size_36 : Nat → Int32) (v_town_on_37 : Nat → Int32) (v_town_away_38 : Nat → Int32) , k_39 v_from_27 v_behind_28 v_sort_29 v_town_count_30 v_town_laws_31 v_town_ground_32 v_town_seen_33 v_town_kind_34 v_town_hand_35 v_town_size_36 v_town_on_37 v_town_away_38 = some r → ∀ (H : Heap) (locs : List Loc), va_P D vwCl (wX3_faultOfAll cB cI cJ cO h0 h_bytes h_town h_town_laws h_town_ground h_town_seen h_town_kind h_town_hand h_town_size h_town_on h_town_away g_town_nightsPassed g_town_glances g_town_draws g_town_gained g_town_paintedOn g_town_wallLooks v_length v_from_27 v_behind_28 v_sort_29 v_bytes v_town_count_30 v_town_laws_31 v_town_ground_32 v_town_seen_33 v_town_kind_34 v_town_hand_35 v_town_size_36 v_town_on_37 v_town_away_38) H → va_S (zAs [h0, h_bytes, h_town, h_town_laws, h_town_ground, h_town_seen, h_town_kind, h_town_hand, h_town_size, h_town_on, h_town_away]) s.heap H locs → ∀ (ls : Array Slot), lv_has ls 5 [] → W p l e rX3_faultOfAll s m args below meth c H locs 0 0 Q (F0 m 97 ls []) := by
    intro v_from_27 v_behind_28 v_sort_29 v_town_count_30 v_town_laws_31 v_town_ground_32 v_town_seen_33 v_town_kind_34 v_town_hand_35 v_town_size_36 v_town_on_37 v_town_away_38 hF H locs hP hS ls hl
    rw [hk_39] at hF
    refine lv_iconst (pc := 97) (v := (-1 : Int32)) hx hb dX3_faultOfAll_97 (by decide) ?_
    exact z_iretM (pc := 98) (fun q => q.1) (fun q => (wX3_faultOfAll cB cI cJ cO h0 h_bytes h_town h_town_laws h_town_ground h_town_seen h_town_kind h_town_hand h_town_size h_town_on h_town_away g_town_nightsPassed g_town_glances g_town_draws g_town_gained g_town_paintedOn g_town_wallLooks v_length q.2.1 q.2.2.1 q.2.2.2.1 v_bytes q.2.2.2.2.1 q.2.2.2.2.2.1 q.2.2.2.2.2.2.1 q.2.2.2.2.2.2.2.1 q.2.2.2.2.2.2.2.2.1 q.2.2.2.2.2.2.2.2.2.1 q.2.2.2.2.2.2.2.2.2.2.1 q.2.2.2.2.2.2.2.2.2.2.2.1 q.2.2.2.2.2.2.2.2.2.2.2.2)) hx hb hr hlocks hP hS hF rfl hQ dX3_faultOfAll_98
  have hL_6 : ∀ (n : Nat) (y1_1 : Int32) (v_from_2 : Int32) (v_behind_3 : Int32) (v_sort_4 : Int32) (v_town_count_5 : Int32) (v_town_laws_6 : Nat → Int32) (v_town_ground_7 : Nat → Int32) (v_town_seen_8 : Nat → Int32) (v_town_kind_9 : Nat → Int32) (v_town_hand_10 : Nat → Int32) (v_town_size_11 : Nat → Int32) (v_town_on_12 : Nat → Int32) (v_town_away_13 : Nat → Int32) , fX3_faultOfAll_L6 v_length v_bytes k_26 k_39 n y1_1 v_from_2 v_behind_3 v_sort_4 v_town_count_5 v_town_laws_6 v_town_ground_7 v_town_seen_8 v_town_kind_9 v_town_hand_10 v_town_size_11 v_town_on_12 v_town_away_13 = some r → ∀ (H : Heap) (locs : List Loc), va_P D vwCl (wX3_faultOfAll cB cI cJ cO h0 h_bytes h_town h_town_laws h_town_ground h_town_seen h_town_kind h_town_hand h_town_size h_town_on h_town_away g_town_nightsPassed g_town_glances g_town_draws g_town_gained g_town_paintedOn g_town_wallLooks v_length v_from_2 v_behind_3 v_sort_4 v_bytes v_town_count_5 v_town_laws_6 v_town_ground_7 v_town_seen_8 v_town_kind_9 v_town_hand_10 v_town_size_11 v_town_on_12 v_town_away_13) H → va_S (zAs [h0, h_bytes, h_town, h_town_laws, h_town_ground, h_town_seen, h_town_kind, h_town_hand, h_town_size, h_town_on, h_town_away]) s.heap H locs → ∀ (ls : Array Slot), lv_has ls 5 [(0, .ref h0), (1, .int y1_1)] → W p l e rX3_faultOfAll s m args below meth c H locs 0 0 Q (F0 m 6 ls []) := by
    intro n
    induction n with
    | zero =>
      intro y1_1 v_from_2 v_behind_3 v_sort_4 v_town_count_5 v_town_laws_6 v_town_ground_7 v_town_seen_8 v_town_kind_9 v_town_hand_10 v_town_size_11 v_town_on_12 v_town_away_13 hF H locs hP hS ls hl
      exact z_no hF
    | succ n ih =>
      intro y1_1 v_from_2 v_behind_3 v_sort_4 v_town_count_5 v_town_laws_6 v_town_ground_7 v_town_seen_8 v_town_kind_9 v_town_hand_10 v_town_size_11 v_town_on_12 v_town_away_13 hF H locs hP hS ls hl
      rw [fX3_faultOfAll_L6] at hF
      refine lv_iload_n (pc := 6) hx hb dX3_faultOfAll_6 rfl (lv_at hl 1 rfl) ?_
      refine lv_sipush (pc := 7) (v := (nI 200)) hx hb dX3_faultOfAll_7 (by decide) ?_
      refine zb_icmp_ge (pc := 10) (tgt := 97) hx hb dX3_faultOfAll_10 (by decide) hF (fun c_10 hF => ?_) (fun c_10 hF => ?_)
      · exact kk_39 v_from_2 v_behind_3 v_sort_4 v_town_count_5 v_town_laws_6 v_town_ground_7 v_town_seen_8 v_town_kind_9 v_town_hand_10 v_town_size_11 v_town_on_12 v_town_away_13 hF H locs hP hS ls (lv_sub hl [] rfl)
      · refine lv_aload_n (pc := 13) hx hb dX3_faultOfAll_13 rfl (lv_at hl 0 rfl) ?_
        refine va_get (D := D) (pc := 14) (ci := 3) (v := .int v_sort_4) (C := RX3) (T := TX3) (N := 6) hx hb hts nX3_faultOfAll_X3 hown hK hP 0 rfl rfl 5 (by decide) (hts _ kX3_faultOfAll_1) (fun _ h9 => h9) rfl dX3_faultOfAll_14 ?_
        refine zb_if_eq (pc := 17) (tgt := 97) hx hb dX3_faultOfAll_17 (by decide) hF (fun c_17 hF => ?_) (fun c_17 hF => ?_)
        · exact kk_39 v_from_2 v_behind_3 v_sort_4 v_town_count_5 v_town_laws_6 v_town_ground_7 v_town_seen_8 v_town_kind_9 v_town_hand_10 v_town_size_11 v_town_on_12 v_town_away_13 hF H locs hP hS ls (lv_sub hl [] rfl)
        · refine lv_aload_n (pc := 20) hx hb dX3_faultOfAll_20 rfl (lv_at hl 0 rfl) ?_
          obtain ⟨u21, hu21, hF⟩ := z_bind hF
          refine zq_call (oc0 := (some (.int u21))) (va_runV (As := []) (rest := []) ⟨hx, hb, hml, hown, hts⟩ (tX3_kindTold (l := l) (D := D) (cB := cB) (cI := cI) (cJ := cJ) (cO := cO) (adK := adK) (adV := adV) h0 h_bytes (.int v_length) (.ref h_town) v_from_2 v_behind_3 v_sort_4 v_bytes u21 hu21) (cwV 0 hts gX3_faultOfAll_X3_kindTold rfl rfl rfl (by decide +kernel) ⟨Nat.le_of_ble_eq_true rfl, Nat.le_of_ble_eq_true rfl⟩) ⟨zPreS_blind, va_recv hK hP (ci := 3) (q0 := 0) rfl rfl, zPreS_at hP hE (zD_re hD rfl) hZ hS [0, 1] rfl rfl rfl⟩ rfl rfl hl.1 rfl (lv_room (Nat.le_of_ble_eq_true rfl)) dX3_faultOfAll_21 ⟨Nat.zero_le _, Nat.zero_le _⟩) ?_
          refine W.eq (g2 := F0 m 24 ls [.int u21]) rfl ?_
          refine lv_istore_n (pc := 24) (lv' := [(2, .int u21), (0, .ref h0), (1, .int y1_1)]) hx hb dX3_faultOfAll_24 rfl hl (by decide) rfl (fun ls hl => ?_)
          refine lv_aload_n (pc := 25) hx hb dX3_faultOfAll_25 rfl (lv_at hl 1 rfl) ?_
          obtain ⟨u26, hu26, hF⟩ := z_bind hF
          refine zq_call (oc0 := (some (.int u26))) (va_runV (As := []) (rest := []) ⟨hx, hb, hml, hown, hts⟩ (tX3_lawTold (l := l) (D := D) (cB := cB) (cI := cI) (cJ := cJ) (cO := cO) (adK := adK) (adV := adV) h0 h_bytes (.int v_length) (.ref h_town) v_from_2 v_behind_3 v_sort_4 v_bytes u26 hu26) (cwV 0 hts gX3_faultOfAll_X3_lawTold rfl rfl rfl (by decide +kernel) ⟨Nat.le_of_ble_eq_true rfl, Nat.le_of_ble_eq_true rfl⟩) ⟨zPreS_blind, va_recv hK hP (ci := 3) (q0 := 0) rfl rfl, zPreS_at hP hE (zD_re hD rfl) hZ hS [0, 1] rfl rfl rfl⟩ rfl rfl hl.1 rfl (lv_room (Nat.le_of_ble_eq_true rfl)) dX3_faultOfAll_26 ⟨Nat.zero_le _, Nat.zero_le _⟩) ?_
          refine W.eq (g2 := F0 m 29 ls [.int u26]) rfl ?_
          refine lv_istore_n (pc := 29) (lv' := [(3, .int u26), (2, .int u21), (0, .ref h0), (1, .int y1_1)]) hx hb dX3_faultOfAll_29 rfl hl (by decide) rfl (fun ls hl => ?_)
          refine lv_iload_n (pc := 30) hx hb dX3_faultOfAll_30 rfl (lv_at hl 1 rfl) ?_
          refine zb_if_lt (pc := 31) (tgt := 44) hx hb dX3_faultOfAll_31 (by decide) hF (fun c_31 hF => ?_) (fun c_31 hF => ?_)
          · refine lv_iload_n (pc := 44) hx hb dX3_faultOfAll_44 rfl (lv_at hl 0 rfl) ?_
            refine zb_if_lt (pc := 45) (tgt := 58) hx hb dX3_faultOfAll_45 (by decide) hF (fun c_45 hF => ?_) (fun c_45 hF => ?_)
            · refine lv_aload_n (pc := 58) hx hb dX3_faultOfAll_58 rfl (lv_at hl 2 rfl) ?_
              refine va_ldcS (pc := 59) (q := adK 0) hx hb hown (hZ.2.2.2.2.1 0 (by decide)) dX3_faultOfAll_59 ?_
              obtain ⟨u61, hu61, hF⟩ := z_bind hF
              refine zq_call (oc0 := (some (.int u61))) (va_runV (As := [.ref (adK 0)]) (rest := []) ⟨hx, hb, hml, hown, hts⟩ (tX3_isWord (l := l) (D := D) (cB := cB) (cI := cI) (cJ := cJ) (cO := cO) (adK := adK) (adV := adV) h0 h_bytes (.int v_length) (.ref h_town) v_from_2 v_behind_3 v_sort_4 v_bytes 0 u61 hu61) (cwV 1 hts gX3_faultOfAll_X3_isWord rfl rfl rfl (by decide +kernel) ⟨Nat.le_of_ble_eq_true rfl, Nat.le_of_ble_eq_true rfl⟩) ⟨zPreS_blind, va_recv hK hP (ci := 3) (q0 := 0) rfl rfl, zPreS_at hP hE (zD_re hD rfl) hZ hS [0, 1] rfl rfl rfl⟩ rfl rfl hl.1 rfl (lv_room (Nat.le_of_ble_eq_true rfl)) dX3_faultOfAll_61 ⟨Nat.zero_le _, Nat.zero_le _⟩) ?_
              refine W.eq (g2 := F0 m 64 ls [.int u61]) rfl ?_
              refine zb_if_eq (pc := 64) (tgt := 78) hx hb dX3_faultOfAll_64 (by decide) hF (fun c_64 hF => ?_) (fun c_64 hF => ?_)
              · refine lv_iconst (pc := 78) (v := (nI 0)) hx hb dX3_faultOfAll_78 (by decide) ?_
                refine lv_istore (pc := 79) (lv' := [(4, .int (nI 0)), (3, .int u26), (2, .int u21), (0, .ref h0), (1, .int y1_1)]) hx hb dX3_faultOfAll_79 hl (by decide) rfl (fun ls hl => ?_)
                refine lv_iload (pc := 81) hx hb dX3_faultOfAll_81 (lv_at hl 0 rfl) ?_
                refine zb_if_ne (pc := 83) (tgt := 91) hx hb dX3_faultOfAll_83 (by decide) hF (fun c_83 hF => ?_) (fun c_83 hF => ?_)
                · refine lv_iinc (pc := 91) (v := (y1_1 + 1)) (lv' := [(1, .int (y1_1 + 1)), (4, .int (nI 0)), (3, .int u26), (2, .int u21), (0, .ref h0)]) hx hb dX3_faultOfAll_91 hl (k := 4) rfl rfl (by decide) rfl (fun ls hl => ?_)
                  refine lv_goto (pc := 94) (tgt := 6) hx hb dX3_faultOfAll_94 (by decide) ?_
                  exact ih (y1_1 + 1) v_from_2 v_behind_3 v_sort_4 v_town_count_5 v_town_laws_6 v_town_ground_7 v_town_seen_8 v_town_kind_9 v_town_hand_10 v_town_size_11 v_town_on_12 v_town_away_13 hF H locs hP hS ls (lv_sub hl [4, 0] rfl)
                · exact kk_26 v_from_2 v_behind_3 v_sort_4 v_town_count_5 v_town_laws_6 v_town_ground_7 v_town_seen_8 v_town_kind_9 v_town_hand_10 v_town_size_11 v_town_on_12 v_town_away_13 hF H locs hP hS ls (lv_sub hl [3] rfl)
              · refine lv_aload_n (pc := 67) hx hb dX3_faultOfAll_67 rfl (lv_at hl 2 rfl) ?_
                obtain ⟨u68, hu68, hF⟩ := z_bind hF
                refine zq_callM (oc0 := (some (.int u68.1))) (wc := wX3_readWall cB cI cJ cO h0 h_bytes h_town h_town_ground h_town_seen (.ref h_town_laws) (.int v_town_count_5) (.ref h_town_kind) (.ref h_town_hand) (.ref h_town_size) (.ref h_town_on) (.ref h_town_away) g_town_nightsPassed g_town_glances g_town_draws g_town_gained g_town_paintedOn g_town_wallLooks v_length v_from_2 v_behind_3 v_sort_4 v_bytes v_town_ground_7 v_town_seen_8) (wc' := wX3_readWall cB cI cJ cO h0 h_bytes h_town h_town_ground h_town_seen (.ref h_town_laws) (.int v_town_count_5) (.ref h_town_kind) (.ref h_town_hand) (.ref h_town_size) (.ref h_town_on) (.ref h_town_away) g_town_nightsPassed g_town_glances g_town_draws g_town_gained g_town_paintedOn g_town_wallLooks v_length u68.2.1 u68.2.2.1 u68.2.2.2.1 v_bytes u68.2.2.2.2.1 u68.2.2.2.2.2) (ws' := (wX3_faultOfAll cB cI cJ cO h0 h_bytes h_town h_town_laws h_town_ground h_town_seen h_town_kind h_town_hand h_town_size h_town_on h_town_away g_town_nightsPassed g_town_glances g_town_draws g_town_gained g_town_paintedOn g_town_wallLooks v_length u68.2.1 u68.2.2.1 u68.2.2.2.1 v_bytes v_town_count_5 v_town_laws_6 u68.2.2.2.2.1 u68.2.2.2.2.2 v_town_kind_9 v_town_hand_10 v_town_size_11 v_town_on_12 v_town_away_13)) (va_runV (As := []) (rest := []) ⟨hx, hb, hml, hown, hts⟩ (tX3_readWall (l := l) (D := D) (cB := cB) (cI := cI) (cJ := cJ) (cO := cO) (adK := adK) (adV := adV) h0 h_bytes h_town h_town_ground h_town_seen (.ref h_town_laws) (.int v_town_count_5) (.ref h_town_kind) (.ref h_town_hand) (.ref h_town_size) (.ref h_town_on) (.ref h_town_away) g_town_nightsPassed g_town_glances g_town_draws g_town_gained g_town_paintedOn g_town_wallLooks v_length v_from_2 v_behind_3 v_sort_4 v_bytes v_town_ground_7 v_town_seen_8 u68 hu68) (cwV 0 hts gX3_faultOfAll_X3_readWall rfl rfl rfl (by decide +kernel) ⟨Nat.le_of_ble_eq_true rfl, Nat.le_of_ble_eq_true rfl⟩) ⟨zPreS_blind, va_recv hK hP (ci := 3) (q0 := 0) rfl rfl, zPreS_at hP hE (zD_re hD rfl) hZ hS [0, 1, 2, 4, 5] rfl rfl rfl⟩ rfl rfl hl.1 rfl (lv_room (Nat.le_of_ble_eq_true rfl)) dX3_faultOfAll_68 ⟨Nat.zero_le _, Nat.zero_le _⟩) rfl hP (zD_re hD rfl) hS [0, 1, 2, 4, 5] rfl rfl [some 0, some 1, some 2, none, some 3, some 4, none, none, none, none, none] rfl rfl rfl rfl (fun H locs hP hS => ?_)
                refine W.eq (g2 := F0 m 71 ls [.int u68.1]) rfl ?_
                refine zb_if_eq (pc := 71) (tgt := 78) hx hb dX3_faultOfAll_71 (by decide) hF (fun c_71 hF => ?_) (fun c_71 hF => ?_)
                · refine lv_iconst (pc := 78) (v := (nI 0)) hx hb dX3_faultOfAll_78 (by decide) ?_
                  refine lv_istore (pc := 79) (lv' := [(4, .int (nI 0)), (3, .int u26), (2, .int u21), (0, .ref h0), (1, .int y1_1)]) hx hb dX3_faultOfAll_79 hl (by decide) rfl (fun ls hl => ?_)
                  refine lv_iload (pc := 81) hx hb dX3_faultOfAll_81 (lv_at hl 0 rfl) ?_
                  refine zb_if_ne (pc := 83) (tgt := 91) hx hb dX3_faultOfAll_83 (by decide) hF (fun c_83 hF => ?_) (fun c_83 hF => ?_)
                  · refine lv_iinc (pc := 91) (v := (y1_1 + 1)) (lv' := [(1, .int (y1_1 + 1)), (4, .int (nI 0)), (3, .int u26), (2, .int u21), (0, .ref h0)]) hx hb dX3_faultOfAll_91 hl (k := 4) rfl rfl (by decide) rfl (fun ls hl => ?_)
                    refine lv_goto (pc := 94) (tgt := 6) hx hb dX3_faultOfAll_94 (by decide) ?_
                    exact ih (y1_1 + 1) u68.2.1 u68.2.2.1 u68.2.2.2.1 v_town_count_5 v_town_laws_6 u68.2.2.2.2.1 u68.2.2.2.2.2 v_town_kind_9 v_town_hand_10 v_town_size_11 v_town_on_12 v_town_away_13 hF H locs hP hS ls (lv_sub hl [4, 0] rfl)
                  · exact kk_26 u68.2.1 u68.2.2.1 u68.2.2.2.1 v_town_count_5 v_town_laws_6 u68.2.2.2.2.1 u68.2.2.2.2.2 v_town_kind_9 v_town_hand_10 v_town_size_11 v_town_on_12 v_town_away_13 hF H locs hP hS ls (lv_sub hl [3] rfl)
                · refine lv_iconst (pc := 74) (v := (nI 1)) hx hb dX3_faultOfAll_74 (by decide) ?_
                  refine lv_goto (pc := 75) (tgt := 79) hx hb dX3_faultOfAll_75 (by decide) ?_
                  refine lv_istore (pc := 79) (lv' := [(4, .int (nI 1)), (3, .int u26), (2, .int u21), (0, .ref h0), (1, .int y1_1)]) hx hb dX3_faultOfAll_79 hl (by decide) rfl (fun ls hl => ?_)
                  refine lv_iload (pc := 81) hx hb dX3_faultOfAll_81 (lv_at hl 0 rfl) ?_
                  refine zb_if_ne (pc := 83) (tgt := 91) hx hb dX3_faultOfAll_83 (by decide) hF (fun c_83 hF => ?_) (fun c_83 hF => ?_)
                  · refine lv_iinc (pc := 91) (v := (y1_1 + 1)) (lv' := [(1, .int (y1_1 + 1)), (4, .int (nI 1)), (3, .int u26), (2, .int u21), (0, .ref h0)]) hx hb dX3_faultOfAll_91 hl (k := 4) rfl rfl (by decide) rfl (fun ls hl => ?_)
                    refine lv_goto (pc := 94) (tgt := 6) hx hb dX3_faultOfAll_94 (by decide) ?_
                    exact ih (y1_1 + 1) u68.2.1 u68.2.2.1 u68.2.2.2.1 v_town_count_5 v_town_laws_6 u68.2.2.2.2.1 u68.2.2.2.2.2 v_town_kind_9 v_town_hand_10 v_town_size_11 v_town_on_12 v_town_away_13 hF H locs hP hS ls (lv_sub hl [4, 0] rfl)
                  · exact kk_26 u68.2.1 u68.2.2.1 u68.2.2.2.1 v_town_count_5 v_town_laws_6 u68.2.2.2.2.1 u68.2.2.2.2.2 v_town_kind_9 v_town_hand_10 v_town_size_11 v_town_on_12 v_town_away_13 hF H locs hP hS ls (lv_sub hl [3] rfl)
            · refine lv_aload_n (pc := 48) hx hb dX3_faultOfAll_48 rfl (lv_at hl 2 rfl) ?_
              refine lv_iload_n (pc := 49) hx hb dX3_faultOfAll_49 rfl (lv_at hl 0 rfl) ?_
              obtain ⟨u50, hu50, hF⟩ := z_bind hF
              refine zq_callM (oc0 := (some (.int u50.1))) (wc := wX3_readLaw cB cI cJ cO h0 h_bytes h_town h_town_laws (.ref h_town_ground) (.ref h_town_seen) (.int v_town_count_5) (.ref h_town_kind) (.ref h_town_hand) (.ref h_town_size) (.ref h_town_on) (.ref h_town_away) g_town_nightsPassed g_town_glances g_town_draws g_town_gained g_town_paintedOn g_town_wallLooks v_length v_from_2 v_behind_3 v_sort_4 v_bytes v_town_laws_6) (wc' := wX3_readLaw cB cI cJ cO h0 h_bytes h_town h_town_laws (.ref h_town_ground) (.ref h_town_seen) (.int v_town_count_5) (.ref h_town_kind) (.ref h_town_hand) (.ref h_town_size) (.ref h_town_on) (.ref h_town_away) g_town_nightsPassed g_town_glances g_town_draws g_town_gained g_town_paintedOn g_town_wallLooks v_length u50.2.1 u50.2.2.1 u50.2.2.2.1 v_bytes u50.2.2.2.2) (ws' := (wX3_faultOfAll cB cI cJ cO h0 h_bytes h_town h_town_laws h_town_ground h_town_seen h_town_kind h_town_hand h_town_size h_town_on h_town_away g_town_nightsPassed g_town_glances g_town_draws g_town_gained g_town_paintedOn g_town_wallLooks v_length u50.2.1 u50.2.2.1 u50.2.2.2.1 v_bytes v_town_count_5 u50.2.2.2.2 v_town_ground_7 v_town_seen_8 v_town_kind_9 v_town_hand_10 v_town_size_11 v_town_on_12 v_town_away_13)) (va_runV (As := [.int u26]) (rest := []) ⟨hx, hb, hml, hown, hts⟩ (tX3_readLaw (l := l) (D := D) (cB := cB) (cI := cI) (cJ := cJ) (cO := cO) (adK := adK) (adV := adV) h0 h_bytes h_town h_town_laws (.ref h_town_ground) (.ref h_town_seen) (.int v_town_count_5) (.ref h_town_kind) (.ref h_town_hand) (.ref h_town_size) (.ref h_town_on) (.ref h_town_away) g_town_nightsPassed g_town_glances g_town_draws g_town_gained g_town_paintedOn g_town_wallLooks v_length v_from_2 v_behind_3 v_sort_4 v_bytes v_town_laws_6 u26 u50 hu50) (cwV 1 hts gX3_faultOfAll_X3_readLaw rfl rfl rfl (by decide +kernel) ⟨Nat.le_of_ble_eq_true rfl, Nat.le_of_ble_eq_true rfl⟩) ⟨zPreS_blind, va_recv hK hP (ci := 3) (q0 := 0) rfl rfl, zPreS_at hP hE (zD_re hD rfl) hZ hS [0, 1, 2, 3] rfl rfl rfl⟩ rfl rfl hl.1 rfl (lv_room (Nat.le_of_ble_eq_true rfl)) dX3_faultOfAll_50 ⟨Nat.zero_le _, Nat.zero_le _⟩) rfl hP (zD_re hD rfl) hS [0, 1, 2, 3] rfl rfl [some 0, some 1, some 2, some 3, none, none, none, none, none, none, none] rfl rfl rfl rfl (fun H locs hP hS => ?_)
              refine W.eq (g2 := F0 m 53 ls [.int u50.1]) rfl ?_
              refine lv_istore (pc := 53) (lv' := [(4, .int u50.1), (3, .int u26), (2, .int u21), (0, .ref h0), (1, .int y1_1)]) hx hb dX3_faultOfAll_53 hl (by decide) rfl (fun ls hl => ?_)
              refine lv_goto (pc := 55) (tgt := 81) hx hb dX3_faultOfAll_55 (by decide) ?_
              refine lv_iload (pc := 81) hx hb dX3_faultOfAll_81 (lv_at hl 0 rfl) ?_
              refine zb_if_ne (pc := 83) (tgt := 91) hx hb dX3_faultOfAll_83 (by decide) hF (fun c_83 hF => ?_) (fun c_83 hF => ?_)
              · refine lv_iinc (pc := 91) (v := (y1_1 + 1)) (lv' := [(1, .int (y1_1 + 1)), (4, .int u50.1), (3, .int u26), (2, .int u21), (0, .ref h0)]) hx hb dX3_faultOfAll_91 hl (k := 4) rfl rfl (by decide) rfl (fun ls hl => ?_)
                refine lv_goto (pc := 94) (tgt := 6) hx hb dX3_faultOfAll_94 (by decide) ?_
                exact ih (y1_1 + 1) u50.2.1 u50.2.2.1 u50.2.2.2.1 v_town_count_5 u50.2.2.2.2 v_town_ground_7 v_town_seen_8 v_town_kind_9 v_town_hand_10 v_town_size_11 v_town_on_12 v_town_away_13 hF H locs hP hS ls (lv_sub hl [4, 0] rfl)
              · exact kk_26 u50.2.1 u50.2.2.1 u50.2.2.2.1 v_town_count_5 u50.2.2.2.2 v_town_ground_7 v_town_seen_8 v_town_kind_9 v_town_hand_10 v_town_size_11 v_town_on_12 v_town_away_13 hF H locs hP hS ls (lv_sub hl [3] rfl)
          · refine lv_aload_n (pc := 34) hx hb dX3_faultOfAll_34 rfl (lv_at hl 2 rfl) ?_
            refine lv_iload_n (pc := 35) hx hb dX3_faultOfAll_35 rfl (lv_at hl 1 rfl) ?_
            obtain ⟨u36, hu36, hF⟩ := z_bind hF
            refine zq_callM (oc0 := (some (.int u36.1))) (wc := wX3_readName cB cI cJ cO h0 h_bytes h_town h_town_kind h_town_hand h_town_size h_town_on h_town_away (.ref h_town_laws) (.ref h_town_ground) (.ref h_town_seen) g_town_nightsPassed g_town_glances g_town_draws g_town_gained g_town_paintedOn g_town_wallLooks v_length v_from_2 v_behind_3 v_sort_4 v_bytes v_town_count_5 v_town_kind_9 v_town_hand_10 v_town_size_11 v_town_on_12 v_town_away_13) (wc' := wX3_readName cB cI cJ cO h0 h_bytes h_town h_town_kind h_town_hand h_town_size h_town_on h_town_away (.ref h_town_laws) (.ref h_town_ground) (.ref h_town_seen) g_town_nightsPassed g_town_glances g_town_draws g_town_gained g_town_paintedOn g_town_wallLooks v_length u36.2.1 u36.2.2.1 u36.2.2.2.1 v_bytes u36.2.2.2.2.1 u36.2.2.2.2.2.1 u36.2.2.2.2.2.2.1 u36.2.2.2.2.2.2.2.1 u36.2.2.2.2.2.2.2.2.1 u36.2.2.2.2.2.2.2.2.2) (ws' := (wX3_faultOfAll cB cI cJ cO h0 h_bytes h_town h_town_laws h_town_ground h_town_seen h_town_kind h_town_hand h_town_size h_town_on h_town_away g_town_nightsPassed g_town_glances g_town_draws g_town_gained g_town_paintedOn g_town_wallLooks v_length u36.2.1 u36.2.2.1 u36.2.2.2.1 v_bytes u36.2.2.2.2.1 v_town_laws_6 v_town_ground_7 v_town_seen_8 u36.2.2.2.2.2.1 u36.2.2.2.2.2.2.1 u36.2.2.2.2.2.2.2.1 u36.2.2.2.2.2.2.2.2.1 u36.2.2.2.2.2.2.2.2.2)) (va_runV (As := [.int u21]) (rest := []) ⟨hx, hb, hml, hown, hts⟩ (tX3_readName (l := l) (D := D) (cB := cB) (cI := cI) (cJ := cJ) (cO := cO) (adK := adK) (adV := adV) h0 h_bytes h_town h_town_kind h_town_hand h_town_size h_town_on h_town_away (.ref h_town_laws) (.ref h_town_ground) (.ref h_town_seen) g_town_nightsPassed g_town_glances g_town_draws g_town_gained g_town_paintedOn g_town_wallLooks v_length v_from_2 v_behind_3 v_sort_4 v_bytes v_town_count_5 v_town_kind_9 v_town_hand_10 v_town_size_11 v_town_on_12 v_town_away_13 u21 u36 hu36) (cwV 1 hts gX3_faultOfAll_X3_readName rfl rfl rfl (by decide +kernel) ⟨Nat.le_of_ble_eq_true rfl, Nat.le_of_ble_eq_true rfl⟩) ⟨zPreS_blind, va_recv hK hP (ci := 3) (q0 := 0) rfl rfl, zPreS_at hP hE (zD_re hD rfl) hZ hS [0, 1, 2, 6, 7, 8, 9, 10] rfl rfl rfl⟩ rfl rfl hl.1 rfl (lv_room (Nat.le_of_ble_eq_true rfl)) dX3_faultOfAll_36 ⟨Nat.zero_le _, Nat.zero_le _⟩) rfl hP (zD_re hD rfl) hS [0, 1, 2, 6, 7, 8, 9, 10] rfl rfl [some 0, some 1, some 2, none, none, none, some 3, some 4, some 5, some 6, some 7] rfl rfl rfl rfl (fun H locs hP hS => ?_)
            refine W.eq (g2 := F0 m 39 ls [.int u36.1]) rfl ?_
            refine lv_istore (pc := 39) (lv' := [(4, .int u36.1), (3, .int u26), (2, .int u21), (0, .ref h0), (1, .int y1_1)]) hx hb dX3_faultOfAll_39 hl (by decide) rfl (fun ls hl => ?_)
            refine lv_goto (pc := 41) (tgt := 81) hx hb dX3_faultOfAll_41 (by decide) ?_
            refine lv_iload (pc := 81) hx hb dX3_faultOfAll_81 (lv_at hl 0 rfl) ?_
            refine zb_if_ne (pc := 83) (tgt := 91) hx hb dX3_faultOfAll_83 (by decide) hF (fun c_83 hF => ?_) (fun c_83 hF => ?_)
            · refine lv_iinc (pc := 91) (v := (y1_1 + 1)) (lv' := [(1, .int (y1_1 + 1)), (4, .int u36.1), (3, .int u26), (2, .int u21), (0, .ref h0)]) hx hb dX3_faultOfAll_91 hl (k := 4) rfl rfl (by decide) rfl (fun ls hl => ?_)
              refine lv_goto (pc := 94) (tgt := 6) hx hb dX3_faultOfAll_94 (by decide) ?_
              exact ih (y1_1 + 1) u36.2.1 u36.2.2.1 u36.2.2.2.1 u36.2.2.2.2.1 v_town_laws_6 v_town_ground_7 v_town_seen_8 u36.2.2.2.2.2.1 u36.2.2.2.2.2.2.1 u36.2.2.2.2.2.2.2.1 u36.2.2.2.2.2.2.2.2.1 u36.2.2.2.2.2.2.2.2.2 hF H locs hP hS ls (lv_sub hl [4, 0] rfl)
            · exact kk_26 u36.2.1 u36.2.2.1 u36.2.2.2.1 u36.2.2.2.2.1 v_town_laws_6 v_town_ground_7 v_town_seen_8 u36.2.2.2.2.2.1 u36.2.2.2.2.2.2.1 u36.2.2.2.2.2.2.2.1 u36.2.2.2.2.2.2.2.2.1 u36.2.2.2.2.2.2.2.2.2 hF H locs hP hS ls (lv_sub hl [3] rfl)
  exact hL_6 zK (nI 0) u1.1 u1.2.1 u1.2.2 v_town_count v_town_laws v_town_ground v_town_seen v_town_kind v_town_hand v_town_size v_town_on v_town_away hF H locs hP hS ls (lv_sub hl [1, 0] rfl)

abbrev rX4_feed : Room := { frames := 0, cells := 0, slots := 0, locals := 0 }
abbrev wX4_feed (cB cI cJ cO : ClassId) (h0 h_tape : Nat) (g_now g_tried g_told g_kept g_isKept g_rows g_rowCount g_sheets g_shelfHolds g_shelfNames g_shelfRows g_thing g_mattering : Value) (v_taped : Int32) (v_tape : Nat → Int32) : va_W := [(h0, .inr (4, [g_now, g_tried, g_told, g_kept, g_isKept, .ref h_tape, .int v_taped, g_rows, g_rowCount, g_sheets, g_shelfHolds, g_shelfNames, g_shelfRows, g_thing, g_mattering])), (h_tape, .inl (cB, 200, .inl v_tape))]
theorem nX4_feed_X4 : ∀ w ∈ wsX40, w ∈ wsX4_feed := by decide +kernel
theorem kX4_feed_0 : Cond.fieldLink RX4 33 "PaintedWalls" "taped" "I" ∈ wsX4_feed := by decide +kernel
theorem kX4_feed_1 : Cond.fieldLink RX4 29 "PaintedWalls" "tape" "[B" ∈ wsX4_feed := by decide +kernel
set_option maxHeartbeats 4000000 in
set_option maxRecDepth 100000 in
theorem tX4_feed {l : Launch} {D : va_G} {cB cI cJ cO : ClassId} (h0 h_tape : Nat) (g_now g_tried g_told g_kept g_isKept g_rows g_rowCount g_sheets g_shelfHolds g_shelfNames g_shelfRows g_thing g_mattering : Value) (v_taped : Int32) (v_tape : Nat → Int32) (x1 : Int64) (x3 : Int32) (r : Int32 × Int32 × (Nat → Int32)) (hF : fX4_feed v_taped v_tape x1 x3 = some r) : Met l yX4_feed wsX4_feed rX4_feed (zPre D cB cI cJ cO [.ref h0, .long x1, .int x3] (wX4_feed cB cI cJ cO h0 h_tape g_now g_tried g_told g_kept g_isKept g_rows g_rowCount g_sheets g_shelfHolds g_shelfNames g_shelfRows g_thing g_mattering v_taped v_tape)) (zPM (some (.int r.1)) D (wX4_feed cB cI cJ cO h0 h_tape g_now g_tried g_told g_kept g_isKept g_rows g_rowCount g_sheets g_shelfHolds g_shelfNames g_shelfRows g_thing g_mattering r.2.1 r.2.2) (zAs [h0, h_tape])) 0 0 (zAs [h0, h_tape]) := by
  refine zMetM (cc := cX4_feed) (maxL := 5) (ret := (some .int)) (lv := [(0, .ref h0), (1, .long x1), (3, .int x3)]) rfl (by decide) rfl (Nat.le_of_ble_eq_true rfl) rfl ?_
  intro p e s m args below meth c ls Q H locs hQ hx hb hr hml hown hts hlocks hname hP hE hD hS hl
  have hown : s.vm.findClass RX4 = some m.cls := hown
  have hK := hE.1
  unfold fX4_feed at hF
  refine lv_iload_n (pc := 0) hx hb dX4_feed_0 rfl (lv_at hl 2 rfl) ?_
  refine lv_iconst (pc := 1) (v := (nI 1)) hx hb dX4_feed_1 (by decide) ?_
  refine zb_icmp_lt (pc := 2) (tgt := 11) hx hb dX4_feed_2 (by decide) hF (fun c_2 hF => ?_) (fun c_2 hF => ?_)
  · refine lv_iconst (pc := 11) (v := (-1 : Int32)) hx hb dX4_feed_11 (by decide) ?_
    exact z_iretM (pc := 12) (fun q => q.1) (fun q => (wX4_feed cB cI cJ cO h0 h_tape g_now g_tried g_told g_kept g_isKept g_rows g_rowCount g_sheets g_shelfHolds g_shelfNames g_shelfRows g_thing g_mattering q.2.1 q.2.2)) hx hb hr hlocks hP hS hF rfl hQ dX4_feed_12
  · refine lv_iload_n (pc := 5) hx hb dX4_feed_5 rfl (lv_at hl 2 rfl) ?_
    refine lv_bipush (pc := 6) (v := (nI 8)) hx hb dX4_feed_6 (by decide) ?_
    refine zb_icmp_le (pc := 8) (tgt := 13) hx hb dX4_feed_8 (by decide) hF (fun c_8 hF => ?_) (fun c_8 hF => ?_)
    · refine lv_iload_n (pc := 13) hx hb dX4_feed_13 rfl (lv_at hl 2 rfl) ?_
      refine lv_sipush (pc := 14) (v := (nI 200)) hx hb dX4_feed_14 (by decide) ?_
      refine lv_aload_n (pc := 17) hx hb dX4_feed_17 rfl (lv_at hl 0 rfl) ?_
      refine va_get (D := D) (pc := 18) (ci := 4) (v := .int v_taped) (C := RX4) (T := TX4) (N := 15) hx hb hts nX4_feed_X4 hown hK hP 0 rfl rfl 6 (by decide) (hts _ kX4_feed_0) (fun _ h9 => h9) rfl dX4_feed_18 ?_
      refine lv_isub (pc := 21) hx hb dX4_feed_21 ?_
      refine zb_icmp_le (pc := 22) (tgt := 28) hx hb dX4_feed_22 (by decide) hF (fun c_22 hF => ?_) (fun c_22 hF => ?_)
      · refine lv_iconst (pc := 28) (v := (nI 0)) hx hb dX4_feed_28 (by decide) ?_
        refine lv_istore (pc := 29) (lv' := [(4, .int (nI 0)), (0, .ref h0), (1, .long x1), (3, .int x3)]) hx hb dX4_feed_29 hl (by decide) rfl (fun ls hl => ?_)
        obtain ⟨k_4, hk_4, hF⟩ := z_J hF
        have kk_4 : ∀ (v_tape_3 : Nat → Int32) , k_4 v_tape_3 = some r → ∀ (H : Heap) (locs : List Loc), va_P D vwCl (wX4_feed cB cI cJ cO h0 h_tape g_now g_tried g_told g_kept g_isKept g_rows g_rowCount g_sheets g_shelfHolds g_shelfNames g_shelfRows g_thing g_mattering v_taped v_tape_3) H → va_S (zAs [h0, h_tape]) s.heap H locs → ∀ (ls : Array Slot), lv_has ls 5 [(0, .ref h0), (3, .int x3)] → W p l e rX4_feed s m args below meth c H locs 0 0 Q (F0 m 64 ls []) := by
          intro v_tape_3 hF H locs hP hS ls hl
          rw [hk_4] at hF
          refine lv_aload_n (pc := 64) hx hb dX4_feed_64 rfl (lv_at hl 0 rfl) ?_
          refine lv_dup (pc := 65) hx hb dX4_feed_65 rfl ?_
          refine va_get (D := D) (pc := 66) (ci := 4) (v := .int v_taped) (C := RX4) (T := TX4) (N := 15) hx hb hts nX4_feed_X4 hown hK hP 0 rfl rfl 6 (by decide) (hts _ kX4_feed_0) (fun _ h9 => h9) rfl dX4_feed_66 ?_
          refine lv_iload_n (pc := 69) hx hb dX4_feed_69 rfl (lv_at hl 1 rfl) ?_
          refine lv_iadd (pc := 70) hx hb dX4_feed_70 ?_
          refine va_put (D := D) (pc := 71) (ci := 4) (v := .int (v_taped + x3)) (ty := .int) (C := RX4) (T := TX4) (N := 15) hx hb hts nX4_feed_X4 tyX4 tyX4_ok nmX4 hown hK hP (zD_re hD rfl) hS 0 rfl rfl 6 (by decide) (hts _ kX4_feed_0) (fun _ h9 => h9) rfl (tyX4_ok 6 (by decide)) rfl rfl (Nat.le_of_ble_eq_true rfl) dX4_feed_71 (fun H locs hP _ hS => ?_)
          have hP : va_P D vwCl (wX4_feed cB cI cJ cO h0 h_tape g_now g_tried g_told g_kept g_isKept g_rows g_rowCount g_sheets g_shelfHolds g_shelfNames g_shelfRows g_thing g_mattering (v_taped + x3) v_tape_3) H := hP
          refine lv_aload_n (pc := 74) hx hb dX4_feed_74 rfl (lv_at hl 0 rfl) ?_
          refine va_get (D := D) (pc := 75) (ci := 4) (v := .int (v_taped + x3)) (C := RX4) (T := TX4) (N := 15) hx hb hts nX4_feed_X4 hown hK hP 0 rfl rfl 6 (by decide) (hts _ kX4_feed_0) (fun _ h9 => h9) rfl dX4_feed_75 ?_
          exact z_iretM (pc := 78) (fun q => q.1) (fun q => (wX4_feed cB cI cJ cO h0 h_tape g_now g_tried g_told g_kept g_isKept g_rows g_rowCount g_sheets g_shelfHolds g_shelfNames g_shelfRows g_thing g_mattering q.2.1 q.2.2)) hx hb hr hlocks hP hS hF rfl hQ dX4_feed_78
        have hL_31 : ∀ (n : Nat) (y4_1 : Int32) (v_tape_2 : Nat → Int32) , fX4_feed_L31 v_taped x1 x3 k_4 n y4_1 v_tape_2 = some r → ∀ (H : Heap) (locs : List Loc), va_P D vwCl (wX4_feed cB cI cJ cO h0 h_tape g_now g_tried g_told g_kept g_isKept g_rows g_rowCount g_sheets g_shelfHolds g_shelfNames g_shelfRows g_thing g_mattering v_taped v_tape_2) H → va_S (zAs [h0, h_tape]) s.heap H locs → ∀ (ls : Array Slot), lv_has ls 5 [(0, .ref h0), (1, .long x1), (3, .int x3), (4, .int y4_1)] → W p l e rX4_feed s m args below meth c H locs 0 0 Q (F0 m 31 ls []) := by
          intro n
          induction n with
          | zero =>
            intro y4_1 v_tape_2 hF H locs hP hS ls hl
            exact z_no hF
          | succ n ih =>
            intro y4_1 v_tape_2 hF H locs hP hS ls hl
            rw [fX4_feed_L31] at hF
            refine lv_iload (pc := 31) hx hb dX4_feed_31 (lv_at hl 3 rfl) ?_
            refine lv_iload_n (pc := 33) hx hb dX4_feed_33 rfl (lv_at hl 2 rfl) ?_
            refine zb_icmp_ge (pc := 34) (tgt := 64) hx hb dX4_feed_34 (by decide) hF (fun c_34 hF => ?_) (fun c_34 hF => ?_)
            · exact kk_4 v_tape_2 hF H locs hP hS ls (lv_sub hl [0, 2] rfl)
            · refine lv_aload_n (pc := 37) hx hb dX4_feed_37 rfl (lv_at hl 0 rfl) ?_
              refine va_get (D := D) (pc := 38) (ci := 4) (v := .ref h_tape) (C := RX4) (T := TX4) (N := 15) hx hb hts nX4_feed_X4 hown hK hP 0 rfl rfl 5 (by decide) (hts _ kX4_feed_1) (fun _ h9 => h9) rfl dX4_feed_38 ?_
              refine lv_aload_n (pc := 41) hx hb dX4_feed_41 rfl (lv_at hl 0 rfl) ?_
              refine va_get (D := D) (pc := 42) (ci := 4) (v := .int v_taped) (C := RX4) (T := TX4) (N := 15) hx hb hts nX4_feed_X4 hown hK hP 0 rfl rfl 6 (by decide) (hts _ kX4_feed_0) (fun _ h9 => h9) rfl dX4_feed_42 ?_
              refine lv_iload (pc := 45) hx hb dX4_feed_45 (lv_at hl 3 rfl) ?_
              refine lv_iadd (pc := 47) hx hb dX4_feed_47 ?_
              refine lv_lload_n (pc := 48) hx hb dX4_feed_48 rfl (lv_at hl 1 rfl) ?_
              refine lv_bipush (pc := 49) (v := (nI 8)) hx hb dX4_feed_49 (by decide) ?_
              refine lv_iload (pc := 51) hx hb dX4_feed_51 (lv_at hl 3 rfl) ?_
              refine lv_imul (pc := 53) hx hb dX4_feed_53 ?_
              refine lv_lushr (pc := 54) (v := ((x1.toUInt64 >>> (((nI 8) * y4_1).toInt64.toUInt64 &&& Int64.toUInt64 63)).toInt64)) hx hb dX4_feed_54 rfl ?_
              refine lv_l2i (pc := 55) (v := ((x1.toUInt64 >>> (((nI 8) * y4_1).toInt64.toUInt64 &&& Int64.toUInt64 63)).toInt64).toInt32) hx hb dX4_feed_55 rfl ?_
              refine lv_i2b (pc := 56) (v := (((x1.toUInt64 >>> (((nI 8) * y4_1).toInt64.toUInt64 &&& Int64.toUInt64 63)).toInt64).toInt32).toInt8.toInt32) hx hb dX4_feed_56 rfl ?_
              refine za_bast (pc := 57) hx hb hK hP (zD_re hD rfl) hS 1 0 rfl rfl dX4_feed_57 hF (fun hF H locs hP hS => ?_)
              have hP : va_P D vwCl (wX4_feed cB cI cJ cO h0 h_tape g_now g_tried g_told g_kept g_isKept g_rows g_rowCount g_sheets g_shelfHolds g_shelfNames g_shelfRows g_thing g_mattering v_taped (upd v_tape_2 (v_taped + y4_1).toNatClampNeg (vp_nar .byte ((((x1.toUInt64 >>> (((nI 8) * y4_1).toInt64.toUInt64 &&& Int64.toUInt64 63)).toInt64).toInt32).toInt8.toInt32)))) H := hP
              refine lv_iinc (pc := 58) (v := (y4_1 + 1)) (lv' := [(4, .int (y4_1 + 1)), (0, .ref h0), (1, .long x1), (3, .int x3)]) hx hb dX4_feed_58 hl (k := 3) rfl rfl (by decide) rfl (fun ls hl => ?_)
              refine lv_goto (pc := 61) (tgt := 31) hx hb dX4_feed_61 (by decide) ?_
              exact ih (y4_1 + 1) (upd v_tape_2 (v_taped + y4_1).toNatClampNeg (vp_nar .byte ((((x1.toUInt64 >>> (((nI 8) * y4_1).toInt64.toUInt64 &&& Int64.toUInt64 63)).toInt64).toInt32).toInt8.toInt32))) hF H locs hP hS ls (lv_sub hl [1, 2, 3, 0] rfl)
        exact hL_31 zK (nI 0) v_tape hF H locs hP hS ls (lv_sub hl [1, 2, 3, 0] rfl)
      · refine lv_bipush (pc := 25) (v := (-2 : Int32)) hx hb dX4_feed_25 (by decide) ?_
        exact z_iretM (pc := 27) (fun q => q.1) (fun q => (wX4_feed cB cI cJ cO h0 h_tape g_now g_tried g_told g_kept g_isKept g_rows g_rowCount g_sheets g_shelfHolds g_shelfNames g_shelfRows g_thing g_mattering q.2.1 q.2.2)) hx hb hr hlocks hP hS hF rfl hQ dX4_feed_27
    · refine lv_iconst (pc := 11) (v := (-1 : Int32)) hx hb dX4_feed_11 (by decide) ?_
      exact z_iretM (pc := 12) (fun q => q.1) (fun q => (wX4_feed cB cI cJ cO h0 h_tape g_now g_tried g_told g_kept g_isKept g_rows g_rowCount g_sheets g_shelfHolds g_shelfNames g_shelfRows g_thing g_mattering q.2.1 q.2.2)) hx hb hr hlocks hP hS hF rfl hQ dX4_feed_12

abbrev rX4_set : Room := { frames := 1, cells := 0, slots := 0, locals := 21 }
abbrev wX4_set (cB cI cJ cO : ClassId) (h0 h_now h_now_laws : Nat) (g_tried g_told g_kept g_isKept g_tape g_taped g_rows g_rowCount g_sheets g_shelfHolds g_shelfNames g_shelfRows g_thing g_mattering g_now_ground g_now_seen g_now_count g_now_kind g_now_hand g_now_size g_now_on g_now_away g_now_nightsPassed g_now_glances g_now_draws g_now_gained g_now_paintedOn g_now_wallLooks : Value) (v_now_laws : Nat → Int32) : va_W := [(h0, .inr (4, [.ref h_now, g_tried, g_told, g_kept, g_isKept, g_tape, g_taped, g_rows, g_rowCount, g_sheets, g_shelfHolds, g_shelfNames, g_shelfRows, g_thing, g_mattering])), (h_now, .inr (2, [.ref h_now_laws, g_now_ground, g_now_seen, g_now_count, g_now_kind, g_now_hand, g_now_size, g_now_on, g_now_away, g_now_nightsPassed, g_now_glances, g_now_draws, g_now_gained, g_now_paintedOn, g_now_wallLooks])), (h_now_laws, .inl (cI, 4, .inl v_now_laws))]
theorem nX4_set_X4 : ∀ w ∈ wsX40, w ∈ wsX4_set := by decide +kernel
theorem nX4_set_X2 : ∀ w ∈ wsX20, w ∈ wsX4_set := by decide +kernel
theorem kX4_set_0 : Cond.fieldLink RX4 95 "PaintedWalls" "MOST_LAWS" "[I" ∈ wsX4_set := by decide +kernel
theorem kX4_set_1 : Cond.fieldLink RX4 12 "PaintedWalls" "now" "LPaintedWalls$Town;" ∈ wsX4_set := by decide +kernel
theorem kX4_set_2 : Cond.fieldLink RX4 98 "PaintedWalls$Town" "laws" "[I" ∈ wsX4_set := by decide +kernel
set_option maxHeartbeats 4000000 in
set_option maxRecDepth 100000 in
theorem tX4_set {l : Launch} {D : va_G} {cB cI cJ cO : ClassId} {adK adV : Nat → Nat} (h0 h_now h_now_laws : Nat) (g_tried g_told g_kept g_isKept g_tape g_taped g_rows g_rowCount g_sheets g_shelfHolds g_shelfNames g_shelfRows g_thing g_mattering g_now_ground g_now_seen g_now_count g_now_kind g_now_hand g_now_size g_now_on g_now_away g_now_nightsPassed g_now_glances g_now_draws g_now_gained g_now_paintedOn g_now_wallLooks : Value) (v_now_laws : Nat → Int32) (x1 : Int32) (x2 : Int32) (r : Int32 × (Nat → Int32)) (hF : fX4_set v_now_laws x1 x2 = some r) : Met l yX4_set wsX4_set rX4_set (zPreS D cB cI cJ cO adK adV [.ref h0, .int x1, .int x2] (wX4_set cB cI cJ cO h0 h_now h_now_laws g_tried g_told g_kept g_isKept g_tape g_taped g_rows g_rowCount g_sheets g_shelfHolds g_shelfNames g_shelfRows g_thing g_mattering g_now_ground g_now_seen g_now_count g_now_kind g_now_hand g_now_size g_now_on g_now_away g_now_nightsPassed g_now_glances g_now_draws g_now_gained g_now_paintedOn g_now_wallLooks v_now_laws) [h0, h_now, h_now_laws]) (zPM (some (.int r.1)) D (wX4_set cB cI cJ cO h0 h_now h_now_laws g_tried g_told g_kept g_isKept g_tape g_taped g_rows g_rowCount g_sheets g_shelfHolds g_shelfNames g_shelfRows g_thing g_mattering g_now_ground g_now_seen g_now_count g_now_kind g_now_hand g_now_size g_now_on g_now_away g_now_nightsPassed g_now_glances g_now_draws g_now_gained g_now_paintedOn g_now_wallLooks r.2) (zAs [h0, h_now, h_now_laws])) 0 0 (zAs [h0, h_now, h_now_laws]) := by
  refine zMetMS (cc := cX4_set) (maxL := 4) (ret := (some .int)) (lv := [(0, .ref h0), (1, .int x1), (2, .int x2)]) rfl (by decide) rfl (Nat.le_of_ble_eq_true rfl) rfl ?_
  intro p e s m args below meth c ls Q H locs hQ hx hb hr hml hown hts hlocks hname hP hE hD hS hZ hl
  have hown : s.vm.findClass RX4 = some m.cls := hown
  have hK := hE.1
  unfold fX4_set at hF
  refine lv_iload_n (pc := 0) hx hb dX4_set_0 rfl (lv_at hl 1 rfl) ?_
  refine lv_iconst (pc := 1) (v := (nI 4)) hx hb dX4_set_1 (by decide) ?_
  obtain ⟨u2, hu2, hF⟩ := z_bind hF
  refine zq_call (oc0 := (some (.int u2))) (va_runS (As := [.int x1, .int (nI 4)]) (rest := []) ⟨hx, hb, hml, hown, hts⟩ (tX4_isBelow (l := l) (D := D) (cB := cB) (cI := cI) (cJ := cJ) (cO := cO) x1 (nI 4) u2 hu2) (va_cwS 2 hts gX4_set_X4_isBelow rfl rfl rfl (by decide +kernel) ⟨Nat.le_of_ble_eq_true rfl, Nat.le_of_ble_eq_true rfl⟩) ⟨zPre_blind, zPre_at hP hE (zD_re hD rfl) [] rfl rfl⟩ rfl rfl hl.1 rfl (lv_room (Nat.le_of_ble_eq_true rfl)) dX4_set_2 ⟨Nat.zero_le _, Nat.zero_le _⟩) ?_
  refine W.eq (g2 := F0 m 5 ls [.int u2]) rfl ?_
  refine zb_if_eq (pc := 5) (tgt := 21) hx hb dX4_set_5 (by decide) hF (fun c_5 hF => ?_) (fun c_5 hF => ?_)
  · refine lv_iconst (pc := 21) (v := (-1 : Int32)) hx hb dX4_set_21 (by decide) ?_
    exact z_iretM (pc := 22) (fun q => q.1) (fun q => (wX4_set cB cI cJ cO h0 h_now h_now_laws g_tried g_told g_kept g_isKept g_tape g_taped g_rows g_rowCount g_sheets g_shelfHolds g_shelfNames g_shelfRows g_thing g_mattering g_now_ground g_now_seen g_now_count g_now_kind g_now_hand g_now_size g_now_on g_now_away g_now_nightsPassed g_now_glances g_now_draws g_now_gained g_now_paintedOn g_now_wallLooks q.2)) hx hb hr hlocks hP hS hF rfl hQ dX4_set_22
  · refine lv_iload_n (pc := 8) hx hb dX4_set_8 rfl (lv_at hl 2 rfl) ?_
    refine zb_if_lt (pc := 9) (tgt := 21) hx hb dX4_set_9 (by decide) hF (fun c_9 hF => ?_) (fun c_9 hF => ?_)
    · refine lv_iconst (pc := 21) (v := (-1 : Int32)) hx hb dX4_set_21 (by decide) ?_
      exact z_iretM (pc := 22) (fun q => q.1) (fun q => (wX4_set cB cI cJ cO h0 h_now h_now_laws g_tried g_told g_kept g_isKept g_tape g_taped g_rows g_rowCount g_sheets g_shelfHolds g_shelfNames g_shelfRows g_thing g_mattering g_now_ground g_now_seen g_now_count g_now_kind g_now_hand g_now_size g_now_on g_now_away g_now_nightsPassed g_now_glances g_now_draws g_now_gained g_now_paintedOn g_now_wallLooks q.2)) hx hb hr hlocks hP hS hF rfl hQ dX4_set_22
    · refine lv_iload_n (pc := 12) hx hb dX4_set_12 rfl (lv_at hl 2 rfl) ?_
      obtain ⟨t_MOST_LAWS, hz_MOST_LAWS, ht_MOST_LAWS⟩ := hZ.2.1
      refine va_gets (pc := 13) hx hb hz_MOST_LAWS hS hown (hts _ kX4_set_0) (fun _ h9 => h9) dX4_set_13 ?_
      refine lv_iload_n (pc := 16) hx hb dX4_set_16 rfl (lv_at hl 1 rfl) ?_
      refine za_ti (pc := 17) hx hb ht_MOST_LAWS hS dX4_set_17 hF (fun hF => ?_)
      refine zb_icmp_le (pc := 18) (tgt := 23) hx hb dX4_set_18 (by decide) hF (fun c_18 hF => ?_) (fun c_18 hF => ?_)
      · refine lv_aload_n (pc := 23) hx hb dX4_set_23 rfl (lv_at hl 0 rfl) ?_
        refine va_get (D := D) (pc := 24) (ci := 4) (v := .ref h_now) (C := RX4) (T := TX4) (N := 15) hx hb hts nX4_set_X4 hown hK hP 0 rfl rfl 0 (by decide) (hts _ kX4_set_1) (fun _ h9 => h9) rfl dX4_set_24 ?_
        refine va_get (D := D) (pc := 27) (ci := 2) (v := .ref h_now_laws) (C := RX2) (T := TX2) (N := 15) hx hb hts nX4_set_X2 hown hK hP 1 rfl rfl 0 (by decide) (hts _ kX4_set_2) (fun _ h9 => h9) rfl dX4_set_27 ?_
        refine lv_iload_n (pc := 30) hx hb dX4_set_30 rfl (lv_at hl 1 rfl) ?_
        refine za_iald (pc := 31) hx hb hK hP 2 1 rfl rfl dX4_set_31 hF (fun hF => ?_)
        refine lv_istore_n (pc := 32) (lv' := [(3, .int (v_now_laws x1.toNatClampNeg)), (0, .ref h0), (1, .int x1), (2, .int x2)]) hx hb dX4_set_32 rfl hl (by decide) rfl (fun ls hl => ?_)
        refine lv_aload_n (pc := 33) hx hb dX4_set_33 rfl (lv_at hl 1 rfl) ?_
        refine va_get (D := D) (pc := 34) (ci := 4) (v := .ref h_now) (C := RX4) (T := TX4) (N := 15) hx hb hts nX4_set_X4 hown hK hP 0 rfl rfl 0 (by decide) (hts _ kX4_set_1) (fun _ h9 => h9) rfl dX4_set_34 ?_
        refine va_get (D := D) (pc := 37) (ci := 2) (v := .ref h_now_laws) (C := RX2) (T := TX2) (N := 15) hx hb hts nX4_set_X2 hown hK hP 1 rfl rfl 0 (by decide) (hts _ kX4_set_2) (fun _ h9 => h9) rfl dX4_set_37 ?_
        refine lv_iload_n (pc := 40) hx hb dX4_set_40 rfl (lv_at hl 2 rfl) ?_
        refine lv_iload_n (pc := 41) hx hb dX4_set_41 rfl (lv_at hl 3 rfl) ?_
        refine za_iast (pc := 42) hx hb hK hP (zD_re hD rfl) hS 2 1 rfl rfl dX4_set_42 hF (fun hF H locs hP hS => ?_)
        have hP : va_P D vwCl (wX4_set cB cI cJ cO h0 h_now h_now_laws g_tried g_told g_kept g_isKept g_tape g_taped g_rows g_rowCount g_sheets g_shelfHolds g_shelfNames g_shelfRows g_thing g_mattering g_now_ground g_now_seen g_now_count g_now_kind g_now_hand g_now_size g_now_on g_now_away g_now_nightsPassed g_now_glances g_now_draws g_now_gained g_now_paintedOn g_now_wallLooks (upd v_now_laws x1.toNatClampNeg x2)) H := hP
        refine lv_iload_n (pc := 43) hx hb dX4_set_43 rfl (lv_at hl 0 rfl) ?_
        exact z_iretM (pc := 44) (fun q => q.1) (fun q => (wX4_set cB cI cJ cO h0 h_now h_now_laws g_tried g_told g_kept g_isKept g_tape g_taped g_rows g_rowCount g_sheets g_shelfHolds g_shelfNames g_shelfRows g_thing g_mattering g_now_ground g_now_seen g_now_count g_now_kind g_now_hand g_now_size g_now_on g_now_away g_now_nightsPassed g_now_glances g_now_draws g_now_gained g_now_paintedOn g_now_wallLooks q.2)) hx hb hr hlocks hP hS hF rfl hQ dX4_set_44
      · refine lv_iconst (pc := 21) (v := (-1 : Int32)) hx hb dX4_set_21 (by decide) ?_
        exact z_iretM (pc := 22) (fun q => q.1) (fun q => (wX4_set cB cI cJ cO h0 h_now h_now_laws g_tried g_told g_kept g_isKept g_tape g_taped g_rows g_rowCount g_sheets g_shelfHolds g_shelfNames g_shelfRows g_thing g_mattering g_now_ground g_now_seen g_now_count g_now_kind g_now_hand g_now_size g_now_on g_now_away g_now_nightsPassed g_now_glances g_now_draws g_now_gained g_now_paintedOn g_now_wallLooks q.2)) hx hb hr hlocks hP hS hF rfl hQ dX4_set_22

abbrev rX4_lawOf : Room := { frames := 1, cells := 0, slots := 0, locals := 21 }
abbrev wX4_lawOf (cB cI cJ cO : ClassId) (h0 h_now h_now_laws : Nat) (g_tried g_told g_kept g_isKept g_tape g_taped g_rows g_rowCount g_sheets g_shelfHolds g_shelfNames g_shelfRows g_thing g_mattering g_now_ground g_now_seen g_now_count g_now_kind g_now_hand g_now_size g_now_on g_now_away g_now_nightsPassed g_now_glances g_now_draws g_now_gained g_now_paintedOn g_now_wallLooks : Value) (v_now_laws : Nat → Int32) : va_W := [(h0, .inr (4, [.ref h_now, g_tried, g_told, g_kept, g_isKept, g_tape, g_taped, g_rows, g_rowCount, g_sheets, g_shelfHolds, g_shelfNames, g_shelfRows, g_thing, g_mattering])), (h_now, .inr (2, [.ref h_now_laws, g_now_ground, g_now_seen, g_now_count, g_now_kind, g_now_hand, g_now_size, g_now_on, g_now_away, g_now_nightsPassed, g_now_glances, g_now_draws, g_now_gained, g_now_paintedOn, g_now_wallLooks])), (h_now_laws, .inl (cI, 4, .inl v_now_laws))]
theorem nX4_lawOf_X4 : ∀ w ∈ wsX40, w ∈ wsX4_lawOf := by decide +kernel
theorem nX4_lawOf_X2 : ∀ w ∈ wsX20, w ∈ wsX4_lawOf := by decide +kernel
theorem kX4_lawOf_0 : Cond.fieldLink RX4 12 "PaintedWalls" "now" "LPaintedWalls$Town;" ∈ wsX4_lawOf := by decide +kernel
theorem kX4_lawOf_1 : Cond.fieldLink RX4 98 "PaintedWalls$Town" "laws" "[I" ∈ wsX4_lawOf := by decide +kernel
set_option maxHeartbeats 4000000 in
set_option maxRecDepth 100000 in
theorem tX4_lawOf {l : Launch} {D : va_G} {cB cI cJ cO : ClassId} (h0 h_now h_now_laws : Nat) (g_tried g_told g_kept g_isKept g_tape g_taped g_rows g_rowCount g_sheets g_shelfHolds g_shelfNames g_shelfRows g_thing g_mattering g_now_ground g_now_seen g_now_count g_now_kind g_now_hand g_now_size g_now_on g_now_away g_now_nightsPassed g_now_glances g_now_draws g_now_gained g_now_paintedOn g_now_wallLooks : Value) (v_now_laws : Nat → Int32) (x1 : Int32) (r : Int32) (hF : fX4_lawOf v_now_laws x1 = some r) : Met l yX4_lawOf wsX4_lawOf rX4_lawOf (zPre D cB cI cJ cO [.ref h0, .int x1] (wX4_lawOf cB cI cJ cO h0 h_now h_now_laws g_tried g_told g_kept g_isKept g_tape g_taped g_rows g_rowCount g_sheets g_shelfHolds g_shelfNames g_shelfRows g_thing g_mattering g_now_ground g_now_seen g_now_count g_now_kind g_now_hand g_now_size g_now_on g_now_away g_now_nightsPassed g_now_glances g_now_draws g_now_gained g_now_paintedOn g_now_wallLooks v_now_laws)) (zPI (some (.int r))) 0 0 (fun _ => False) := by
  refine zMetP (cc := cX4_lawOf) (maxL := 2) (ret := (some .int)) (lv := [(0, .ref h0), (1, .int x1)]) (by decide) rfl (Nat.le_of_ble_eq_true rfl) rfl ?_
  intro p e s m args below meth c ls Q hQ hx hb hr hml hown hts hlocks hname hP hE hD hl
  have hown : s.vm.findClass RX4 = some m.cls := hown
  have hK := hE.1
  unfold fX4_lawOf at hF
  refine lv_iload_n (pc := 0) hx hb dX4_lawOf_0 rfl (lv_at hl 1 rfl) ?_
  refine lv_iconst (pc := 1) (v := (nI 4)) hx hb dX4_lawOf_1 (by decide) ?_
  obtain ⟨u2, hu2, hF⟩ := z_bind hF
  refine zq_call (oc0 := (some (.int u2))) (va_runS (As := [.int x1, .int (nI 4)]) (rest := []) ⟨hx, hb, hml, hown, hts⟩ (tX4_isBelow (l := l) (D := D) (cB := cB) (cI := cI) (cJ := cJ) (cO := cO) x1 (nI 4) u2 hu2) (va_cwS 2 hts gX4_lawOf_X4_isBelow rfl rfl rfl (by decide +kernel) ⟨Nat.le_of_ble_eq_true rfl, Nat.le_of_ble_eq_true rfl⟩) ⟨zPre_blind, zPre_at hP hE hD [] rfl rfl⟩ rfl rfl hl.1 rfl (lv_room (Nat.le_of_ble_eq_true rfl)) dX4_lawOf_2 ⟨Nat.zero_le _, Nat.zero_le _⟩) ?_
  refine W.eq (g2 := F0 m 5 ls [.int u2]) rfl ?_
  refine zb_if_eq (pc := 5) (tgt := 20) hx hb dX4_lawOf_5 (by decide) hF (fun c_5 hF => ?_) (fun c_5 hF => ?_)
  · refine lv_iconst (pc := 20) (v := (-1 : Int32)) hx hb dX4_lawOf_20 (by decide) ?_
    exact z_iret (pc := 21) (fun q => q) hx hb hr hlocks hF rfl hQ dX4_lawOf_21
  · refine lv_aload_n (pc := 8) hx hb dX4_lawOf_8 rfl (lv_at hl 0 rfl) ?_
    refine va_get (D := D) (pc := 9) (ci := 4) (v := .ref h_now) (C := RX4) (T := TX4) (N := 15) hx hb hts nX4_lawOf_X4 hown hK hP 0 rfl rfl 0 (by decide) (hts _ kX4_lawOf_0) (fun _ h9 => h9) rfl dX4_lawOf_9 ?_
    refine va_get (D := D) (pc := 12) (ci := 2) (v := .ref h_now_laws) (C := RX2) (T := TX2) (N := 15) hx hb hts nX4_lawOf_X2 hown hK hP 1 rfl rfl 0 (by decide) (hts _ kX4_lawOf_1) (fun _ h9 => h9) rfl dX4_lawOf_12 ?_
    refine lv_iload_n (pc := 15) hx hb dX4_lawOf_15 rfl (lv_at hl 1 rfl) ?_
    refine za_iald (pc := 16) hx hb hK hP 2 1 rfl rfl dX4_lawOf_16 hF (fun hF => ?_)
    refine lv_goto (pc := 17) (tgt := 21) hx hb dX4_lawOf_17 (by decide) ?_
    exact z_iret (pc := 21) (fun q => q) hx hb hr hlocks hF rfl hQ dX4_lawOf_21
