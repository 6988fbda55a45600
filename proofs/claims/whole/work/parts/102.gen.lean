abbrev rX2_looksOfAll : Room := { frames := 0, cells := 0, slots := 0, locals := 0 }
abbrev wX2_looksOfAll (cB cI cJ cO : ClassId) (h0 h_seen h_size h_on : Nat) (g_laws g_ground g_kind g_hand g_away g_nightsPassed g_glances g_draws g_gained g_paintedOn g_wallLooks : Value) (v_count : Int32) (v_seen : Nat → Int32) (v_size : Nat → Int32) (v_on : Nat → Int32) : va_W := [(h0, .inr (2, [g_laws, g_ground, .ref h_seen, .int v_count, g_kind, g_hand, .ref h_size, .ref h_on, g_away, g_nightsPassed, g_glances, g_draws, g_gained, g_paintedOn, g_wallLooks])), (h_seen, .inl (cI, 10, .inl v_seen)), (h_size, .inl (cI, 8, .inl v_size)), (h_on, .inl (cI, 8, .inl v_on))]
theorem nX2_looksOfAll_X2 : ∀ w ∈ wsX20, w ∈ wsX2_looksOfAll := by decide +kernel
theorem kX2_looksOfAll_0 : Cond.fieldLink RX2 49 "PaintedWalls$Town" "count" "I" ∈ wsX2_looksOfAll := by decide +kernel
theorem kX2_looksOfAll_1 : Cond.fieldLink RX2 30 "PaintedWalls$Town" "on" "[I" ∈ wsX2_looksOfAll := by decide +kernel
theorem kX2_looksOfAll_2 : Cond.fieldLink RX2 18 "PaintedWalls$Town" "seen" "[I" ∈ wsX2_looksOfAll := by decide +kernel
theorem kX2_looksOfAll_3 : Cond.fieldLink RX2 27 "PaintedWalls$Town" "size" "[I" ∈ wsX2_looksOfAll := by decide +kernel
set_option maxHeartbeats 4000000 in
set_option maxRecDepth 100000 in
theorem tX2_looksOfAll {l : Launch} {D : va_G} {cB cI cJ cO : ClassId} (h0 h_seen h_size h_on : Nat) (g_laws g_ground g_kind g_hand g_away g_nightsPassed g_glances g_draws g_gained g_paintedOn g_wallLooks : Value) (v_count : Int32) (v_seen : Nat → Int32) (v_size : Nat → Int32) (v_on : Nat → Int32) (r : Int32) (hF : fX2_looksOfAll v_count v_seen v_size v_on = some r) : Met l yX2_looksOfAll wsX2_looksOfAll rX2_looksOfAll (zPre D cB cI cJ cO [.ref h0] (wX2_looksOfAll cB cI cJ cO h0 h_seen h_size h_on g_laws g_ground g_kind g_hand g_away g_nightsPassed g_glances g_draws g_gained g_paintedOn g_wallLooks v_count v_seen v_size v_on)) (zPI (some (.int r))) 0 0 (fun _ => False) := by
  refine zMetP (cc := cX2_looksOfAll) (maxL := 3) (ret := (some .int)) (lv := [(0, .ref h0)]) (by decide) rfl (Nat.le_of_ble_eq_true rfl) rfl ?_
  intro p e s m args below meth c ls Q hQ hx hb hr hml hown hts hlocks hname hP hE hD hl
  have hown : s.vm.findClass RX2 = some m.cls := hown
  have hK := hE.1
  unfold fX2_looksOfAll at hF
  refine lv_iconst (pc := 0) (v := (nI 0)) hx hb dX2_looksOfAll_0 (by decide) ?_
  refine lv_istore_n (pc := 1) (lv' := [(1, .int (nI 0)), (0, .ref h0)]) hx hb dX2_looksOfAll_1 rfl hl (by decide) rfl (fun ls hl => ?_)
  refine lv_iconst (pc := 2) (v := (nI 0)) hx hb dX2_looksOfAll_2 (by decide) ?_
  refine lv_istore_n (pc := 3) (lv' := [(2, .int (nI 0)), (1, .int (nI 0)), (0, .ref h0)]) hx hb dX2_looksOfAll_3 rfl hl (by decide) rfl (fun ls hl => ?_)
  obtain ⟨k_4, hk_4, hF⟩ := z_J hF
  have kk_4 : ∀ (y1_3 : Int32) , k_4 y1_3 = some r → ∀ (ls : Array Slot), lv_has ls 3 [(1, .int y1_3)] → W p l e rX2_looksOfAll s m args below meth c s.heap [] 0 0 Q (F0 m 50 ls []) := by
    intro y1_3 hF ls hl
    rw [hk_4] at hF
    refine lv_iload_n (pc := 50) hx hb dX2_looksOfAll_50 rfl (lv_at hl 0 rfl) ?_
    exact z_iret (pc := 51) (fun q => q) hx hb hr hlocks hF rfl hQ dX2_looksOfAll_51
  have hL_4 : ∀ (n : Nat) (y1_1 : Int32) (y2_2 : Int32) , fX2_looksOfAll_L4 v_count v_seen v_size v_on k_4 n y1_1 y2_2 = some r → ∀ (ls : Array Slot), lv_has ls 3 [(0, .ref h0), (1, .int y1_1), (2, .int y2_2)] → W p l e rX2_looksOfAll s m args below meth c s.heap [] 0 0 Q (F0 m 4 ls []) := by
    intro n
    induction n with
    | zero =>
      intro y1_1 y2_2 hF ls hl
      exact z_no hF
    | succ n ih =>
      intro y1_1 y2_2 hF ls hl
      rw [fX2_looksOfAll_L4] at hF
      refine lv_iload_n (pc := 4) hx hb dX2_looksOfAll_4 rfl (lv_at hl 2 rfl) ?_
      refine lv_aload_n (pc := 5) hx hb dX2_looksOfAll_5 rfl (lv_at hl 0 rfl) ?_
      refine va_get (D := D) (pc := 6) (ci := 2) (v := .int v_count) (C := RX2) (T := TX2) (N := 15) hx hb hts nX2_looksOfAll_X2 hown hK hP 0 rfl rfl 3 (by decide) (hts _ kX2_looksOfAll_0) (fun _ h9 => h9) rfl dX2_looksOfAll_6 ?_
      refine zb_icmp_ge (pc := 9) (tgt := 50) hx hb dX2_looksOfAll_9 (by decide) hF (fun c_9 hF => ?_) (fun c_9 hF => ?_)
      · exact kk_4 y1_1 hF ls (lv_sub hl [1] rfl)
      · refine lv_aload_n (pc := 12) hx hb dX2_looksOfAll_12 rfl (lv_at hl 0 rfl) ?_
        refine va_get (D := D) (pc := 13) (ci := 2) (v := .ref h_on) (C := RX2) (T := TX2) (N := 15) hx hb hts nX2_looksOfAll_X2 hown hK hP 0 rfl rfl 7 (by decide) (hts _ kX2_looksOfAll_1) (fun _ h9 => h9) rfl dX2_looksOfAll_13 ?_
        refine lv_iload_n (pc := 16) hx hb dX2_looksOfAll_16 rfl (lv_at hl 2 rfl) ?_
        refine za_iald (pc := 17) hx hb hK hP 3 1 rfl rfl dX2_looksOfAll_17 hF (fun hF => ?_)
        refine lv_bipush (pc := 18) (v := (nI 10)) hx hb dX2_looksOfAll_18 (by decide) ?_
        refine zb_icmp_eq (pc := 20) (tgt := 44) hx hb dX2_looksOfAll_20 (by decide) hF (fun c_20 hF => ?_) (fun c_20 hF => ?_)
        · refine lv_iinc (pc := 44) (v := (y2_2 + 1)) (lv' := [(2, .int (y2_2 + 1)), (0, .ref h0), (1, .int y1_1)]) hx hb dX2_looksOfAll_44 hl (k := 2) rfl rfl (by decide) rfl (fun ls hl => ?_)
          refine lv_goto (pc := 47) (tgt := 4) hx hb dX2_looksOfAll_47 (by decide) ?_
          exact ih y1_1 (y2_2 + 1) hF ls (lv_sub hl [1, 2, 0] rfl)
        · refine lv_iload_n (pc := 23) hx hb dX2_looksOfAll_23 rfl (lv_at hl 1 rfl) ?_
          refine lv_aload_n (pc := 24) hx hb dX2_looksOfAll_24 rfl (lv_at hl 0 rfl) ?_
          refine va_get (D := D) (pc := 25) (ci := 2) (v := .ref h_seen) (C := RX2) (T := TX2) (N := 15) hx hb hts nX2_looksOfAll_X2 hown hK hP 0 rfl rfl 2 (by decide) (hts _ kX2_looksOfAll_2) (fun _ h9 => h9) rfl dX2_looksOfAll_25 ?_
          refine lv_aload_n (pc := 28) hx hb dX2_looksOfAll_28 rfl (lv_at hl 0 rfl) ?_
          refine va_get (D := D) (pc := 29) (ci := 2) (v := .ref h_on) (C := RX2) (T := TX2) (N := 15) hx hb hts nX2_looksOfAll_X2 hown hK hP 0 rfl rfl 7 (by decide) (hts _ kX2_looksOfAll_1) (fun _ h9 => h9) rfl dX2_looksOfAll_29 ?_
          refine lv_iload_n (pc := 32) hx hb dX2_looksOfAll_32 rfl (lv_at hl 2 rfl) ?_
          refine za_iald (pc := 33) hx hb hK hP 3 1 rfl rfl dX2_looksOfAll_33 hF (fun hF => ?_)
          refine za_iald (pc := 34) hx hb hK hP 1 1 rfl rfl dX2_looksOfAll_34 hF (fun hF => ?_)
          refine lv_aload_n (pc := 35) hx hb dX2_looksOfAll_35 rfl (lv_at hl 0 rfl) ?_
          refine va_get (D := D) (pc := 36) (ci := 2) (v := .ref h_size) (C := RX2) (T := TX2) (N := 15) hx hb hts nX2_looksOfAll_X2 hown hK hP 0 rfl rfl 6 (by decide) (hts _ kX2_looksOfAll_3) (fun _ h9 => h9) rfl dX2_looksOfAll_36 ?_
          refine lv_iload_n (pc := 39) hx hb dX2_looksOfAll_39 rfl (lv_at hl 2 rfl) ?_
          refine za_iald (pc := 40) hx hb hK hP 2 1 rfl rfl dX2_looksOfAll_40 hF (fun hF => ?_)
          refine lv_imul (pc := 41) hx hb dX2_looksOfAll_41 ?_
          refine lv_iadd (pc := 42) hx hb dX2_looksOfAll_42 ?_
          refine lv_istore_n (pc := 43) (lv' := [(1, .int (y1_1 + ((v_seen (v_on y2_2.toNatClampNeg).toNatClampNeg) * (v_size y2_2.toNatClampNeg)))), (0, .ref h0), (2, .int y2_2)]) hx hb dX2_looksOfAll_43 rfl hl (by decide) rfl (fun ls hl => ?_)
          refine lv_iinc (pc := 44) (v := (y2_2 + 1)) (lv' := [(2, .int (y2_2 + 1)), (1, .int (y1_1 + ((v_seen (v_on y2_2.toNatClampNeg).toNatClampNeg) * (v_size y2_2.toNatClampNeg)))), (0, .ref h0)]) hx hb dX2_looksOfAll_44 hl (k := 2) rfl rfl (by decide) rfl (fun ls hl => ?_)
          refine lv_goto (pc := 47) (tgt := 4) hx hb dX2_looksOfAll_47 (by decide) ?_
          exact ih (y1_1 + ((v_seen (v_on y2_2.toNatClampNeg).toNatClampNeg) * (v_size y2_2.toNatClampNeg))) (y2_2 + 1) hF ls (lv_sub hl [2, 1, 0] rfl)
  exact hL_4 zK (nI 0) (nI 0) hF ls (lv_sub hl [2, 1, 0] rfl)

abbrev rX2_wallsLookedAt : Room := { frames := 1, cells := 0, slots := 0, locals := 23 }
abbrev wX2_wallsLookedAt (cB cI cJ cO : ClassId) (h0 h_seen h_size h_on : Nat) (g_laws g_ground g_kind g_hand g_away g_nightsPassed g_glances g_draws g_gained g_paintedOn g_wallLooks : Value) (v_count : Int32) (v_seen : Nat → Int32) (v_size : Nat → Int32) (v_on : Nat → Int32) : va_W := [(h0, .inr (2, [g_laws, g_ground, .ref h_seen, .int v_count, g_kind, g_hand, .ref h_size, .ref h_on, g_away, g_nightsPassed, g_glances, g_draws, g_gained, g_paintedOn, g_wallLooks])), (h_seen, .inl (cI, 10, .inl v_seen)), (h_size, .inl (cI, 8, .inl v_size)), (h_on, .inl (cI, 8, .inl v_on))]
set_option maxHeartbeats 4000000 in
set_option maxRecDepth 100000 in
theorem tX2_wallsLookedAt {l : Launch} {D : va_G} {cB cI cJ cO : ClassId} (h0 h_seen h_size h_on : Nat) (g_laws g_ground g_kind g_hand g_away g_nightsPassed g_glances g_draws g_gained g_paintedOn g_wallLooks : Value) (v_count : Int32) (v_seen : Nat → Int32) (v_size : Nat → Int32) (v_on : Nat → Int32) (r : Int32) (hF : fX2_wallsLookedAt v_count v_seen v_size v_on = some r) : Met l yX2_wallsLookedAt wsX2_wallsLookedAt rX2_wallsLookedAt (zPre D cB cI cJ cO [.ref h0] (wX2_wallsLookedAt cB cI cJ cO h0 h_seen h_size h_on g_laws g_ground g_kind g_hand g_away g_nightsPassed g_glances g_draws g_gained g_paintedOn g_wallLooks v_count v_seen v_size v_on)) (zPI (some (.int r))) 0 0 (fun _ => False) := by
  refine zMetP (cc := cX2_wallsLookedAt) (maxL := 3) (ret := (some .int)) (lv := [(0, .ref h0)]) (by decide) rfl (Nat.le_of_ble_eq_true rfl) rfl ?_
  intro p e s m args below meth c ls Q hQ hx hb hr hml hown hts hlocks hname hP hE hD hl
  have hown : s.vm.findClass RX2 = some m.cls := hown
  have hK := hE.1
  unfold fX2_wallsLookedAt at hF
  refine lv_iconst (pc := 0) (v := (nI 0)) hx hb dX2_wallsLookedAt_0 (by decide) ?_
  refine lv_istore_n (pc := 1) (lv' := [(1, .int (nI 0)), (0, .ref h0)]) hx hb dX2_wallsLookedAt_1 rfl hl (by decide) rfl (fun ls hl => ?_)
  refine lv_iconst (pc := 2) (v := (nI 0)) hx hb dX2_wallsLookedAt_2 (by decide) ?_
  refine lv_istore_n (pc := 3) (lv' := [(2, .int (nI 0)), (1, .int (nI 0)), (0, .ref h0)]) hx hb dX2_wallsLookedAt_3 rfl hl (by decide) rfl (fun ls hl => ?_)
  obtain ⟨k_4, hk_4, hF⟩ := z_J hF
  have kk_4 : ∀ (y1_3 : Int32) , k_4 y1_3 = some r → ∀ (ls : Array Slot), lv_has ls 3 [(1, .int y1_3)] → W p l e rX2_wallsLookedAt s m args below meth c s.heap [] 0 0 Q (F0 m 27 ls []) := by
    intro y1_3 hF ls hl
    rw [hk_4] at hF
    refine lv_iload_n (pc := 27) hx hb dX2_wallsLookedAt_27 rfl (lv_at hl 0 rfl) ?_
    exact z_iret (pc := 28) (fun q => q) hx hb hr hlocks hF rfl hQ dX2_wallsLookedAt_28
  have hL_4 : ∀ (n : Nat) (y1_1 : Int32) (y2_2 : Int32) , fX2_wallsLookedAt_L4 v_count v_seen v_size v_on k_4 n y1_1 y2_2 = some r → ∀ (ls : Array Slot), lv_has ls 3 [(0, .ref h0), (1, .int y1_1), (2, .int y2_2)] → W p l e rX2_wallsLookedAt s m args below meth c s.heap [] 0 0 Q (F0 m 4 ls []) := by
    intro n
    induction n with
    | zero =>
      intro y1_1 y2_2 hF ls hl
      exact z_no hF
    | succ n ih =>
      intro y1_1 y2_2 hF ls hl
      rw [fX2_wallsLookedAt_L4] at hF
      refine lv_iload_n (pc := 4) hx hb dX2_wallsLookedAt_4 rfl (lv_at hl 2 rfl) ?_
      refine lv_bipush (pc := 5) (v := (nI 10)) hx hb dX2_wallsLookedAt_5 (by decide) ?_
      refine zb_icmp_ge (pc := 7) (tgt := 27) hx hb dX2_wallsLookedAt_7 (by decide) hF (fun c_7 hF => ?_) (fun c_7 hF => ?_)
      · exact kk_4 y1_1 hF ls (lv_sub hl [1] rfl)
      · refine lv_aload_n (pc := 10) hx hb dX2_wallsLookedAt_10 rfl (lv_at hl 0 rfl) ?_
        refine lv_iload_n (pc := 11) hx hb dX2_wallsLookedAt_11 rfl (lv_at hl 2 rfl) ?_
        obtain ⟨u12, hu12, hF⟩ := z_bind hF
        refine zq_call (oc0 := (some (.int u12))) (va_runV (As := [.int y2_2]) (rest := []) ⟨hx, hb, hml, hown, hts⟩ (tX2_looksOf (l := l) (D := D) (cB := cB) (cI := cI) (cJ := cJ) (cO := cO) h0 h_seen h_size h_on g_laws g_ground g_kind g_hand g_away g_nightsPassed g_glances g_draws g_gained g_paintedOn g_wallLooks v_count v_seen v_size v_on y2_2 u12 hu12) (cwV 1 hts gX2_wallsLookedAt_X2_looksOf rfl rfl rfl (by decide +kernel) ⟨Nat.le_of_ble_eq_true rfl, Nat.le_of_ble_eq_true rfl⟩) ⟨zPre_blind, va_recv hK hP (ci := 2) (q0 := 0) rfl rfl, zPre_at hP hE hD [0, 1, 2, 3] rfl rfl⟩ rfl rfl hl.1 rfl (lv_room (Nat.le_of_ble_eq_true rfl)) dX2_wallsLookedAt_12 ⟨Nat.zero_le _, Nat.zero_le _⟩) ?_
        refine W.eq (g2 := F0 m 15 ls [.int u12]) rfl ?_
        refine zb_if_le (pc := 15) (tgt := 21) hx hb dX2_wallsLookedAt_15 (by decide) hF (fun c_15 hF => ?_) (fun c_15 hF => ?_)
        · refine lv_iinc (pc := 21) (v := (y2_2 + 1)) (lv' := [(2, .int (y2_2 + 1)), (0, .ref h0), (1, .int y1_1)]) hx hb dX2_wallsLookedAt_21 hl (k := 2) rfl rfl (by decide) rfl (fun ls hl => ?_)
          refine lv_goto (pc := 24) (tgt := 4) hx hb dX2_wallsLookedAt_24 (by decide) ?_
          exact ih y1_1 (y2_2 + 1) hF ls (lv_sub hl [1, 2, 0] rfl)
        · refine lv_iinc (pc := 18) (v := (y1_1 + 1)) (lv' := [(1, .int (y1_1 + 1)), (0, .ref h0), (2, .int y2_2)]) hx hb dX2_wallsLookedAt_18 hl (k := 1) rfl rfl (by decide) rfl (fun ls hl => ?_)
          refine lv_iinc (pc := 21) (v := (y2_2 + 1)) (lv' := [(2, .int (y2_2 + 1)), (1, .int (y1_1 + 1)), (0, .ref h0)]) hx hb dX2_wallsLookedAt_21 hl (k := 2) rfl rfl (by decide) rfl (fun ls hl => ?_)
          refine lv_goto (pc := 24) (tgt := 4) hx hb dX2_wallsLookedAt_24 (by decide) ?_
          exact ih (y1_1 + 1) (y2_2 + 1) hF ls (lv_sub hl [2, 1, 0] rfl)
  exact hL_4 zK (nI 0) (nI 0) hF ls (lv_sub hl [2, 1, 0] rfl)

abbrev rX2_namesOn : Room := { frames := 0, cells := 0, slots := 0, locals := 0 }
abbrev wX2_namesOn (cB cI cJ cO : ClassId) (h0 h_on : Nat) (g_laws g_ground g_seen g_kind g_hand g_size g_away g_nightsPassed g_glances g_draws g_gained g_paintedOn g_wallLooks : Value) (v_count : Int32) (v_on : Nat → Int32) : va_W := [(h0, .inr (2, [g_laws, g_ground, g_seen, .int v_count, g_kind, g_hand, g_size, .ref h_on, g_away, g_nightsPassed, g_glances, g_draws, g_gained, g_paintedOn, g_wallLooks])), (h_on, .inl (cI, 8, .inl v_on))]
theorem nX2_namesOn_X2 : ∀ w ∈ wsX20, w ∈ wsX2_namesOn := by decide +kernel
theorem kX2_namesOn_0 : Cond.fieldLink RX2 49 "PaintedWalls$Town" "count" "I" ∈ wsX2_namesOn := by decide +kernel
theorem kX2_namesOn_1 : Cond.fieldLink RX2 30 "PaintedWalls$Town" "on" "[I" ∈ wsX2_namesOn := by decide +kernel
set_option maxHeartbeats 4000000 in
set_option maxRecDepth 100000 in
theorem tX2_namesOn {l : Launch} {D : va_G} {cB cI cJ cO : ClassId} (h0 h_on : Nat) (g_laws g_ground g_seen g_kind g_hand g_size g_away g_nightsPassed g_glances g_draws g_gained g_paintedOn g_wallLooks : Value) (v_count : Int32) (v_on : Nat → Int32) (x1 : Int32) (r : Int32) (hF : fX2_namesOn v_count v_on x1 = some r) : Met l yX2_namesOn wsX2_namesOn rX2_namesOn (zPre D cB cI cJ cO [.ref h0, .int x1] (wX2_namesOn cB cI cJ cO h0 h_on g_laws g_ground g_seen g_kind g_hand g_size g_away g_nightsPassed g_glances g_draws g_gained g_paintedOn g_wallLooks v_count v_on)) (zPI (some (.int r))) 0 0 (fun _ => False) := by
  refine zMetP (cc := cX2_namesOn) (maxL := 4) (ret := (some .int)) (lv := [(0, .ref h0), (1, .int x1)]) (by decide) rfl (Nat.le_of_ble_eq_true rfl) rfl ?_
  intro p e s m args below meth c ls Q hQ hx hb hr hml hown hts hlocks hname hP hE hD hl
  have hown : s.vm.findClass RX2 = some m.cls := hown
  have hK := hE.1
  unfold fX2_namesOn at hF
  refine lv_iconst (pc := 0) (v := (nI 0)) hx hb dX2_namesOn_0 (by decide) ?_
  refine lv_istore_n (pc := 1) (lv' := [(2, .int (nI 0)), (0, .ref h0), (1, .int x1)]) hx hb dX2_namesOn_1 rfl hl (by decide) rfl (fun ls hl => ?_)
  refine lv_iconst (pc := 2) (v := (nI 0)) hx hb dX2_namesOn_2 (by decide) ?_
  refine lv_istore_n (pc := 3) (lv' := [(3, .int (nI 0)), (2, .int (nI 0)), (0, .ref h0), (1, .int x1)]) hx hb dX2_namesOn_3 rfl hl (by decide) rfl (fun ls hl => ?_)
  obtain ⟨k_4, hk_4, hF⟩ := z_J hF
  have kk_4 : ∀ (y2_3 : Int32) , k_4 y2_3 = some r → ∀ (ls : Array Slot), lv_has ls 4 [(2, .int y2_3)] → W p l e rX2_namesOn s m args below meth c s.heap [] 0 0 Q (F0 m 34 ls []) := by
    intro y2_3 hF ls hl
    rw [hk_4] at hF
    refine lv_iload_n (pc := 34) hx hb dX2_namesOn_34 rfl (lv_at hl 0 rfl) ?_
    exact z_iret (pc := 35) (fun q => q) hx hb hr hlocks hF rfl hQ dX2_namesOn_35
  have hL_4 : ∀ (n : Nat) (y2_1 : Int32) (y3_2 : Int32) , fX2_namesOn_L4 v_count v_on x1 k_4 n y2_1 y3_2 = some r → ∀ (ls : Array Slot), lv_has ls 4 [(0, .ref h0), (1, .int x1), (2, .int y2_1), (3, .int y3_2)] → W p l e rX2_namesOn s m args below meth c s.heap [] 0 0 Q (F0 m 4 ls []) := by
    intro n
    induction n with
    | zero =>
      intro y2_1 y3_2 hF ls hl
      exact z_no hF
    | succ n ih =>
      intro y2_1 y3_2 hF ls hl
      rw [fX2_namesOn_L4] at hF
      refine lv_iload_n (pc := 4) hx hb dX2_namesOn_4 rfl (lv_at hl 3 rfl) ?_
      refine lv_aload_n (pc := 5) hx hb dX2_namesOn_5 rfl (lv_at hl 0 rfl) ?_
      refine va_get (D := D) (pc := 6) (ci := 2) (v := .int v_count) (C := RX2) (T := TX2) (N := 15) hx hb hts nX2_namesOn_X2 hown hK hP 0 rfl rfl 3 (by decide) (hts _ kX2_namesOn_0) (fun _ h9 => h9) rfl dX2_namesOn_6 ?_
      refine zb_icmp_ge (pc := 9) (tgt := 34) hx hb dX2_namesOn_9 (by decide) hF (fun c_9 hF => ?_) (fun c_9 hF => ?_)
      · exact kk_4 y2_1 hF ls (lv_sub hl [2] rfl)
      · refine lv_aload_n (pc := 12) hx hb dX2_namesOn_12 rfl (lv_at hl 0 rfl) ?_
        refine va_get (D := D) (pc := 13) (ci := 2) (v := .ref h_on) (C := RX2) (T := TX2) (N := 15) hx hb hts nX2_namesOn_X2 hown hK hP 0 rfl rfl 7 (by decide) (hts _ kX2_namesOn_1) (fun _ h9 => h9) rfl dX2_namesOn_13 ?_
        refine lv_iload_n (pc := 16) hx hb dX2_namesOn_16 rfl (lv_at hl 3 rfl) ?_
        refine za_iald (pc := 17) hx hb hK hP 1 1 rfl rfl dX2_namesOn_17 hF (fun hF => ?_)
        refine lv_iload_n (pc := 18) hx hb dX2_namesOn_18 rfl (lv_at hl 1 rfl) ?_
        refine zb_icmp_ne (pc := 19) (tgt := 28) hx hb dX2_namesOn_19 (by decide) hF (fun c_19 hF => ?_) (fun c_19 hF => ?_)
        · refine lv_iinc (pc := 28) (v := (y3_2 + 1)) (lv' := [(3, .int (y3_2 + 1)), (0, .ref h0), (1, .int x1), (2, .int y2_1)]) hx hb dX2_namesOn_28 hl (k := 3) rfl rfl (by decide) rfl (fun ls hl => ?_)
          refine lv_goto (pc := 31) (tgt := 4) hx hb dX2_namesOn_31 (by decide) ?_
          exact ih y2_1 (y3_2 + 1) hF ls (lv_sub hl [1, 2, 3, 0] rfl)
        · refine lv_iload_n (pc := 22) hx hb dX2_namesOn_22 rfl (lv_at hl 2 rfl) ?_
          refine lv_iconst (pc := 23) (v := (nI 1)) hx hb dX2_namesOn_23 (by decide) ?_
          refine lv_iload_n (pc := 24) hx hb dX2_namesOn_24 rfl (lv_at hl 3 rfl) ?_
          refine lv_ishl (pc := 25) hx hb dX2_namesOn_25 ?_
          refine lv_ior (pc := 26) hx hb dX2_namesOn_26 ?_
          refine lv_istore_n (pc := 27) (lv' := [(2, .int (y2_1 ||| ((nI 1) <<< (y3_2 &&& 31)))), (0, .ref h0), (1, .int x1), (3, .int y3_2)]) hx hb dX2_namesOn_27 rfl hl (by decide) rfl (fun ls hl => ?_)
          refine lv_iinc (pc := 28) (v := (y3_2 + 1)) (lv' := [(3, .int (y3_2 + 1)), (2, .int (y2_1 ||| ((nI 1) <<< (y3_2 &&& 31)))), (0, .ref h0), (1, .int x1)]) hx hb dX2_namesOn_28 hl (k := 3) rfl rfl (by decide) rfl (fun ls hl => ?_)
          refine lv_goto (pc := 31) (tgt := 4) hx hb dX2_namesOn_31 (by decide) ?_
          exact ih (y2_1 ||| ((nI 1) <<< (y3_2 &&& 31))) (y3_2 + 1) hF ls (lv_sub hl [2, 3, 1, 0] rfl)
  exact hL_4 zK (nI 0) (nI 0) hF ls (lv_sub hl [2, 3, 1, 0] rfl)

abbrev rX2_namesByHand : Room := { frames := 0, cells := 0, slots := 0, locals := 0 }
abbrev wX2_namesByHand (cB cI cJ cO : ClassId) (h0 h_hand : Nat) (g_laws g_ground g_seen g_kind g_size g_on g_away g_nightsPassed g_glances g_draws g_gained g_paintedOn g_wallLooks : Value) (v_count : Int32) (v_hand : Nat → Int32) : va_W := [(h0, .inr (2, [g_laws, g_ground, g_seen, .int v_count, g_kind, .ref h_hand, g_size, g_on, g_away, g_nightsPassed, g_glances, g_draws, g_gained, g_paintedOn, g_wallLooks])), (h_hand, .inl (cI, 8, .inl v_hand))]
theorem nX2_namesByHand_X2 : ∀ w ∈ wsX20, w ∈ wsX2_namesByHand := by decide +kernel
theorem kX2_namesByHand_0 : Cond.fieldLink RX2 49 "PaintedWalls$Town" "count" "I" ∈ wsX2_namesByHand := by decide +kernel
theorem kX2_namesByHand_1 : Cond.fieldLink RX2 24 "PaintedWalls$Town" "hand" "[I" ∈ wsX2_namesByHand := by decide +kernel
set_option maxHeartbeats 4000000 in
set_option maxRecDepth 100000 in
theorem tX2_namesByHand {l : Launch} {D : va_G} {cB cI cJ cO : ClassId} (h0 h_hand : Nat) (g_laws g_ground g_seen g_kind g_size g_on g_away g_nightsPassed g_glances g_draws g_gained g_paintedOn g_wallLooks : Value) (v_count : Int32) (v_hand : Nat → Int32) (x1 : Int32) (r : Int32) (hF : fX2_namesByHand v_count v_hand x1 = some r) : Met l yX2_namesByHand wsX2_namesByHand rX2_namesByHand (zPre D cB cI cJ cO [.ref h0, .int x1] (wX2_namesByHand cB cI cJ cO h0 h_hand g_laws g_ground g_seen g_kind g_size g_on g_away g_nightsPassed g_glances g_draws g_gained g_paintedOn g_wallLooks v_count v_hand)) (zPI (some (.int r))) 0 0 (fun _ => False) := by
  refine zMetP (cc := cX2_namesByHand) (maxL := 4) (ret := (some .int)) (lv := [(0, .ref h0), (1, .int x1)]) (by decide) rfl (Nat.le_of_ble_eq_true rfl) rfl ?_
  intro p e s m args below meth c ls Q hQ hx hb hr hml hown hts hlocks hname hP hE hD hl
  have hown : s.vm.findClass RX2 = some m.cls := hown
  have hK := hE.1
  unfold fX2_namesByHand at hF
  refine lv_iconst (pc := 0) (v := (nI 0)) hx hb dX2_namesByHand_0 (by decide) ?_
  refine lv_istore_n (pc := 1) (lv' := [(2, .int (nI 0)), (0, .ref h0), (1, .int x1)]) hx hb dX2_namesByHand_1 rfl hl (by decide) rfl (fun ls hl => ?_)
  refine lv_iconst (pc := 2) (v := (nI 0)) hx hb dX2_namesByHand_2 (by decide) ?_
  refine lv_istore_n (pc := 3) (lv' := [(3, .int (nI 0)), (2, .int (nI 0)), (0, .ref h0), (1, .int x1)]) hx hb dX2_namesByHand_3 rfl hl (by decide) rfl (fun ls hl => ?_)
  obtain ⟨k_4, hk_4, hF⟩ := z_J hF
  have kk_4 : ∀ (y2_3 : Int32) , k_4 y2_3 = some r → ∀ (ls : Array Slot), lv_has ls 4 [(2, .int y2_3)] → W p l e rX2_namesByHand s m args below meth c s.heap [] 0 0 Q (F0 m 34 ls []) := by
    intro y2_3 hF ls hl
    rw [hk_4] at hF
    refine lv_iload_n (pc := 34) hx hb dX2_namesByHand_34 rfl (lv_at hl 0 rfl) ?_
    exact z_iret (pc := 35) (fun q => q) hx hb hr hlocks hF rfl hQ dX2_namesByHand_35
  have hL_4 : ∀ (n : Nat) (y2_1 : Int32) (y3_2 : Int32) , fX2_namesByHand_L4 v_count v_hand x1 k_4 n y2_1 y3_2 = some r → ∀ (ls : Array Slot), lv_has ls 4 [(0, .ref h0), (1, .int x1), (2, .int y2_1), (3, .int y3_2)] → W p l e rX2_namesByHand s m args below meth c s.heap [] 0 0 Q (F0 m 4 ls []) := by
    intro n
    induction n with
    | zero =>
      intro y2_1 y3_2 hF ls hl
      exact z_no hF
    | succ n ih =>
      intro y2_1 y3_2 hF ls hl
      rw [fX2_namesByHand_L4] at hF
      refine lv_iload_n (pc := 4) hx hb dX2_namesByHand_4 rfl (lv_at hl 3 rfl) ?_
      refine lv_aload_n (pc := 5) hx hb dX2_namesByHand_5 rfl (lv_at hl 0 rfl) ?_
      refine va_get (D := D) (pc := 6) (ci := 2) (v := .int v_count) (C := RX2) (T := TX2) (N := 15) hx hb hts nX2_namesByHand_X2 hown hK hP 0 rfl rfl 3 (by decide) (hts _ kX2_namesByHand_0) (fun _ h9 => h9) rfl dX2_namesByHand_6 ?_
      refine zb_icmp_ge (pc := 9) (tgt := 34) hx hb dX2_namesByHand_9 (by decide) hF (fun c_9 hF => ?_) (fun c_9 hF => ?_)
      · exact kk_4 y2_1 hF ls (lv_sub hl [2] rfl)
      · refine lv_aload_n (pc := 12) hx hb dX2_namesByHand_12 rfl (lv_at hl 0 rfl) ?_
        refine va_get (D := D) (pc := 13) (ci := 2) (v := .ref h_hand) (C := RX2) (T := TX2) (N := 15) hx hb hts nX2_namesByHand_X2 hown hK hP 0 rfl rfl 5 (by decide) (hts _ kX2_namesByHand_1) (fun _ h9 => h9) rfl dX2_namesByHand_13 ?_
        refine lv_iload_n (pc := 16) hx hb dX2_namesByHand_16 rfl (lv_at hl 3 rfl) ?_
        refine za_iald (pc := 17) hx hb hK hP 1 1 rfl rfl dX2_namesByHand_17 hF (fun hF => ?_)
        refine lv_iload_n (pc := 18) hx hb dX2_namesByHand_18 rfl (lv_at hl 1 rfl) ?_
        refine zb_icmp_ne (pc := 19) (tgt := 28) hx hb dX2_namesByHand_19 (by decide) hF (fun c_19 hF => ?_) (fun c_19 hF => ?_)
        · refine lv_iinc (pc := 28) (v := (y3_2 + 1)) (lv' := [(3, .int (y3_2 + 1)), (0, .ref h0), (1, .int x1), (2, .int y2_1)]) hx hb dX2_namesByHand_28 hl (k := 3) rfl rfl (by decide) rfl (fun ls hl => ?_)
          refine lv_goto (pc := 31) (tgt := 4) hx hb dX2_namesByHand_31 (by decide) ?_
          exact ih y2_1 (y3_2 + 1) hF ls (lv_sub hl [1, 2, 3, 0] rfl)
        · refine lv_iload_n (pc := 22) hx hb dX2_namesByHand_22 rfl (lv_at hl 2 rfl) ?_
          refine lv_iconst (pc := 23) (v := (nI 1)) hx hb dX2_namesByHand_23 (by decide) ?_
          refine lv_iload_n (pc := 24) hx hb dX2_namesByHand_24 rfl (lv_at hl 3 rfl) ?_
          refine lv_ishl (pc := 25) hx hb dX2_namesByHand_25 ?_
          refine lv_ior (pc := 26) hx hb dX2_namesByHand_26 ?_
          refine lv_istore_n (pc := 27) (lv' := [(2, .int (y2_1 ||| ((nI 1) <<< (y3_2 &&& 31)))), (0, .ref h0), (1, .int x1), (3, .int y3_2)]) hx hb dX2_namesByHand_27 rfl hl (by decide) rfl (fun ls hl => ?_)
          refine lv_iinc (pc := 28) (v := (y3_2 + 1)) (lv' := [(3, .int (y3_2 + 1)), (2, .int (y2_1 ||| ((nI 1) <<< (y3_2 &&& 31)))), (0, .ref h0), (1, .int x1)]) hx hb dX2_namesByHand_28 hl (k := 3) rfl rfl (by decide) rfl (fun ls hl => ?_)
          refine lv_goto (pc := 31) (tgt := 4) hx hb dX2_namesByHand_31 (by decide) ?_
          exact ih (y2_1 ||| ((nI 1) <<< (y3_2 &&& 31))) (y3_2 + 1) hF ls (lv_sub hl [2, 3, 1, 0] rfl)
  exact hL_4 zK (nI 0) (nI 0) hF ls (lv_sub hl [2, 3, 1, 0] rfl)

abbrev rX2_handCount : Room := { frames := 1, cells := 0, slots := 0, locals := 20 }
abbrev wX2_handCount (cB cI cJ cO : ClassId) (h0 h_hand : Nat) (g_laws g_ground g_seen g_kind g_size g_on g_away g_nightsPassed g_glances g_draws g_gained g_paintedOn g_wallLooks : Value) (v_count : Int32) (v_hand : Nat → Int32) : va_W := [(h0, .inr (2, [g_laws, g_ground, g_seen, .int v_count, g_kind, .ref h_hand, g_size, g_on, g_away, g_nightsPassed, g_glances, g_draws, g_gained, g_paintedOn, g_wallLooks])), (h_hand, .inl (cI, 8, .inl v_hand))]
theorem nX2_handCount_X2 : ∀ w ∈ wsX20, w ∈ wsX2_handCount := by decide +kernel
theorem kX2_handCount_0 : Cond.fieldLink RX2 49 "PaintedWalls$Town" "count" "I" ∈ wsX2_handCount := by decide +kernel
theorem kX2_handCount_1 : Cond.fieldLink RX2 24 "PaintedWalls$Town" "hand" "[I" ∈ wsX2_handCount := by decide +kernel
set_option maxHeartbeats 4000000 in
set_option maxRecDepth 100000 in
theorem tX2_handCount {l : Launch} {D : va_G} {cB cI cJ cO : ClassId} (h0 h_hand : Nat) (g_laws g_ground g_seen g_kind g_size g_on g_away g_nightsPassed g_glances g_draws g_gained g_paintedOn g_wallLooks : Value) (v_count : Int32) (v_hand : Nat → Int32) (r : Int32) (hF : fX2_handCount v_count v_hand = some r) : Met l yX2_handCount wsX2_handCount rX2_handCount (zPre D cB cI cJ cO [.ref h0] (wX2_handCount cB cI cJ cO h0 h_hand g_laws g_ground g_seen g_kind g_size g_on g_away g_nightsPassed g_glances g_draws g_gained g_paintedOn g_wallLooks v_count v_hand)) (zPI (some (.int r))) 0 0 (fun _ => False) := by
  refine zMetP (cc := cX2_handCount) (maxL := 3) (ret := (some .int)) (lv := [(0, .ref h0)]) (by decide) rfl (Nat.le_of_ble_eq_true rfl) rfl ?_
  intro p e s m args below meth c ls Q hQ hx hb hr hml hown hts hlocks hname hP hE hD hl
  have hown : s.vm.findClass RX2 = some m.cls := hown
  have hK := hE.1
  unfold fX2_handCount at hF
  refine lv_iconst (pc := 0) (v := (nI 0)) hx hb dX2_handCount_0 (by decide) ?_
  refine lv_istore_n (pc := 1) (lv' := [(1, .int (nI 0)), (0, .ref h0)]) hx hb dX2_handCount_1 rfl hl (by decide) rfl (fun ls hl => ?_)
  refine lv_iconst (pc := 2) (v := (nI 0)) hx hb dX2_handCount_2 (by decide) ?_
  refine lv_istore_n (pc := 3) (lv' := [(2, .int (nI 0)), (1, .int (nI 0)), (0, .ref h0)]) hx hb dX2_handCount_3 rfl hl (by decide) rfl (fun ls hl => ?_)
  obtain ⟨k_4, hk_4, hF⟩ := z_J hF
  have kk_4 : ∀ (y1_3 : Int32) , k_4 y1_3 = some r → ∀ (ls : Array Slot), lv_has ls 3 [(1, .int y1_3)] → W p l e rX2_handCount s m args below meth c s.heap [] 0 0 Q (F0 m 29 ls []) := by
    intro y1_3 hF ls hl
    rw [hk_4] at hF
    refine lv_iload_n (pc := 29) hx hb dX2_handCount_29 rfl (lv_at hl 0 rfl) ?_
    obtain ⟨u30, hu30, hF⟩ := z_bind hF
    refine zq_call (oc0 := (some (.int u30))) (va_runS (As := [.int y1_3]) (rest := []) ⟨hx, hb, hml, hown, hts⟩ (tJ6_bitCount_0f7a4 (l := l) (D := D) (cB := cB) (cI := cI) (cJ := cJ) (cO := cO) y1_3 u30 hu30) (va_cwS 1 hts gX2_handCount_J6_bitCount_0f7a4 rfl rfl rfl (by decide +kernel) ⟨Nat.le_of_ble_eq_true rfl, Nat.le_of_ble_eq_true rfl⟩) ⟨zPre_blind, zPre_at hP hE hD [] rfl rfl⟩ rfl rfl hl.1 rfl (lv_room (Nat.le_of_ble_eq_true rfl)) dX2_handCount_30 ⟨Nat.zero_le _, Nat.zero_le _⟩) ?_
    refine W.eq (g2 := F0 m 33 ls [.int u30]) rfl ?_
    exact z_iret (pc := 33) (fun q => q) hx hb hr hlocks hF rfl hQ dX2_handCount_33
  have hL_4 : ∀ (n : Nat) (y1_1 : Int32) (y2_2 : Int32) , fX2_handCount_L4 v_count v_hand k_4 n y1_1 y2_2 = some r → ∀ (ls : Array Slot), lv_has ls 3 [(0, .ref h0), (1, .int y1_1), (2, .int y2_2)] → W p l e rX2_handCount s m args below meth c s.heap [] 0 0 Q (F0 m 4 ls []) := by
    intro n
    induction n with
    | zero =>
      intro y1_1 y2_2 hF ls hl
      exact z_no hF
    | succ n ih =>
      intro y1_1 y2_2 hF ls hl
      rw [fX2_handCount_L4] at hF
      refine lv_iload_n (pc := 4) hx hb dX2_handCount_4 rfl (lv_at hl 2 rfl) ?_
      refine lv_aload_n (pc := 5) hx hb dX2_handCount_5 rfl (lv_at hl 0 rfl) ?_
      refine va_get (D := D) (pc := 6) (ci := 2) (v := .int v_count) (C := RX2) (T := TX2) (N := 15) hx hb hts nX2_handCount_X2 hown hK hP 0 rfl rfl 3 (by decide) (hts _ kX2_handCount_0) (fun _ h9 => h9) rfl dX2_handCount_6 ?_
      refine zb_icmp_ge (pc := 9) (tgt := 29) hx hb dX2_handCount_9 (by decide) hF (fun c_9 hF => ?_) (fun c_9 hF => ?_)
      · exact kk_4 y1_1 hF ls (lv_sub hl [1] rfl)
      · refine lv_iload_n (pc := 12) hx hb dX2_handCount_12 rfl (lv_at hl 1 rfl) ?_
        refine lv_iconst (pc := 13) (v := (nI 1)) hx hb dX2_handCount_13 (by decide) ?_
        refine lv_aload_n (pc := 14) hx hb dX2_handCount_14 rfl (lv_at hl 0 rfl) ?_
        refine va_get (D := D) (pc := 15) (ci := 2) (v := .ref h_hand) (C := RX2) (T := TX2) (N := 15) hx hb hts nX2_handCount_X2 hown hK hP 0 rfl rfl 5 (by decide) (hts _ kX2_handCount_1) (fun _ h9 => h9) rfl dX2_handCount_15 ?_
        refine lv_iload_n (pc := 18) hx hb dX2_handCount_18 rfl (lv_at hl 2 rfl) ?_
        refine za_iald (pc := 19) hx hb hK hP 1 1 rfl rfl dX2_handCount_19 hF (fun hF => ?_)
        refine lv_ishl (pc := 20) hx hb dX2_handCount_20 ?_
        refine lv_ior (pc := 21) hx hb dX2_handCount_21 ?_
        refine lv_istore_n (pc := 22) (lv' := [(1, .int (y1_1 ||| ((nI 1) <<< ((v_hand y2_2.toNatClampNeg) &&& 31)))), (0, .ref h0), (2, .int y2_2)]) hx hb dX2_handCount_22 rfl hl (by decide) rfl (fun ls hl => ?_)
        refine lv_iinc (pc := 23) (v := (y2_2 + 1)) (lv' := [(2, .int (y2_2 + 1)), (1, .int (y1_1 ||| ((nI 1) <<< ((v_hand y2_2.toNatClampNeg) &&& 31)))), (0, .ref h0)]) hx hb dX2_handCount_23 hl (k := 2) rfl rfl (by decide) rfl (fun ls hl => ?_)
        refine lv_goto (pc := 26) (tgt := 4) hx hb dX2_handCount_26 (by decide) ?_
        exact ih (y1_1 ||| ((nI 1) <<< ((v_hand y2_2.toNatClampNeg) &&& 31))) (y2_2 + 1) hF ls (lv_sub hl [2, 1, 0] rfl)
  exact hL_4 zK (nI 0) (nI 0) hF ls (lv_sub hl [2, 1, 0] rfl)

abbrev rX2_wallsInUse : Room := { frames := 0, cells := 0, slots := 0, locals := 0 }
abbrev wX2_wallsInUse (cB cI cJ cO : ClassId) (h0 h_on : Nat) (g_laws g_ground g_seen g_kind g_hand g_size g_away g_nightsPassed g_glances g_draws g_gained g_paintedOn g_wallLooks : Value) (v_count : Int32) (v_on : Nat → Int32) : va_W := [(h0, .inr (2, [g_laws, g_ground, g_seen, .int v_count, g_kind, g_hand, g_size, .ref h_on, g_away, g_nightsPassed, g_glances, g_draws, g_gained, g_paintedOn, g_wallLooks])), (h_on, .inl (cI, 8, .inl v_on))]
theorem nX2_wallsInUse_X2 : ∀ w ∈ wsX20, w ∈ wsX2_wallsInUse := by decide +kernel
theorem kX2_wallsInUse_0 : Cond.fieldLink RX2 49 "PaintedWalls$Town" "count" "I" ∈ wsX2_wallsInUse := by decide +kernel
theorem kX2_wallsInUse_1 : Cond.fieldLink RX2 30 "PaintedWalls$Town" "on" "[I" ∈ wsX2_wallsInUse := by decide +kernel
set_option maxHeartbeats 4000000 in
set_option maxRecDepth 100000 in
theorem tX2_wallsInUse {l : Launch} {D : va_G} {cB cI cJ cO : ClassId} (h0 h_on : Nat) (g_laws g_ground g_seen g_kind g_hand g_size g_away g_nightsPassed g_glances g_draws g_gained g_paintedOn g_wallLooks : Value) (v_count : Int32) (v_on : Nat → Int32) (r : Int32) (hF : fX2_wallsInUse v_count v_on = some r) : Met l yX2_wallsInUse wsX2_wallsInUse rX2_wallsInUse (zPre D cB cI cJ cO [.ref h0] (wX2_wallsInUse cB cI cJ cO h0 h_on g_laws g_ground g_seen g_kind g_hand g_size g_away g_nightsPassed g_glances g_draws g_gained g_paintedOn g_wallLooks v_count v_on)) (zPI (some (.int r))) 0 0 (fun _ => False) := by
  refine zMetP (cc := cX2_wallsInUse) (maxL := 3) (ret := (some .int)) (lv := [(0, .ref h0)]) (by decide) rfl (Nat.le_of_ble_eq_true rfl) rfl ?_
  intro p e s m args below meth c ls Q hQ hx hb hr hml hown hts hlocks hname hP hE hD hl
  have hown : s.vm.findClass RX2 = some m.cls := hown
  have hK := hE.1
  unfold fX2_wallsInUse at hF
  refine lv_iconst (pc := 0) (v := (nI 0)) hx hb dX2_wallsInUse_0 (by decide) ?_
  refine lv_istore_n (pc := 1) (lv' := [(1, .int (nI 0)), (0, .ref h0)]) hx hb dX2_wallsInUse_1 rfl hl (by decide) rfl (fun ls hl => ?_)
  refine lv_iconst (pc := 2) (v := (nI 0)) hx hb dX2_wallsInUse_2 (by decide) ?_
  refine lv_istore_n (pc := 3) (lv' := [(2, .int (nI 0)), (1, .int (nI 0)), (0, .ref h0)]) hx hb dX2_wallsInUse_3 rfl hl (by decide) rfl (fun ls hl => ?_)
  obtain ⟨k_4, hk_4, hF⟩ := z_J hF
  have kk_4 : ∀ (y1_3 : Int32) , k_4 y1_3 = some r → ∀ (ls : Array Slot), lv_has ls 3 [(1, .int y1_3)] → W p l e rX2_wallsInUse s m args below meth c s.heap [] 0 0 Q (F0 m 40 ls []) := by
    intro y1_3 hF ls hl
    rw [hk_4] at hF
    refine lv_iload_n (pc := 40) hx hb dX2_wallsInUse_40 rfl (lv_at hl 0 rfl) ?_
    exact z_iret (pc := 41) (fun q => q) hx hb hr hlocks hF rfl hQ dX2_wallsInUse_41
  have hL_4 : ∀ (n : Nat) (y1_1 : Int32) (y2_2 : Int32) , fX2_wallsInUse_L4 v_count v_on k_4 n y1_1 y2_2 = some r → ∀ (ls : Array Slot), lv_has ls 3 [(0, .ref h0), (1, .int y1_1), (2, .int y2_2)] → W p l e rX2_wallsInUse s m args below meth c s.heap [] 0 0 Q (F0 m 4 ls []) := by
    intro n
    induction n with
    | zero =>
      intro y1_1 y2_2 hF ls hl
      exact z_no hF
    | succ n ih =>
      intro y1_1 y2_2 hF ls hl
      rw [fX2_wallsInUse_L4] at hF
      refine lv_iload_n (pc := 4) hx hb dX2_wallsInUse_4 rfl (lv_at hl 2 rfl) ?_
      refine lv_aload_n (pc := 5) hx hb dX2_wallsInUse_5 rfl (lv_at hl 0 rfl) ?_
      refine va_get (D := D) (pc := 6) (ci := 2) (v := .int v_count) (C := RX2) (T := TX2) (N := 15) hx hb hts nX2_wallsInUse_X2 hown hK hP 0 rfl rfl 3 (by decide) (hts _ kX2_wallsInUse_0) (fun _ h9 => h9) rfl dX2_wallsInUse_6 ?_
      refine zb_icmp_ge (pc := 9) (tgt := 40) hx hb dX2_wallsInUse_9 (by decide) hF (fun c_9 hF => ?_) (fun c_9 hF => ?_)
      · exact kk_4 y1_1 hF ls (lv_sub hl [1] rfl)
      · refine lv_aload_n (pc := 12) hx hb dX2_wallsInUse_12 rfl (lv_at hl 0 rfl) ?_
        refine va_get (D := D) (pc := 13) (ci := 2) (v := .ref h_on) (C := RX2) (T := TX2) (N := 15) hx hb hts nX2_wallsInUse_X2 hown hK hP 0 rfl rfl 7 (by decide) (hts _ kX2_wallsInUse_1) (fun _ h9 => h9) rfl dX2_wallsInUse_13 ?_
        refine lv_iload_n (pc := 16) hx hb dX2_wallsInUse_16 rfl (lv_at hl 2 rfl) ?_
        refine za_iald (pc := 17) hx hb hK hP 1 1 rfl rfl dX2_wallsInUse_17 hF (fun hF => ?_)
        refine lv_bipush (pc := 18) (v := (nI 10)) hx hb dX2_wallsInUse_18 (by decide) ?_
        refine zb_icmp_eq (pc := 20) (tgt := 34) hx hb dX2_wallsInUse_20 (by decide) hF (fun c_20 hF => ?_) (fun c_20 hF => ?_)
        · refine lv_iinc (pc := 34) (v := (y2_2 + 1)) (lv' := [(2, .int (y2_2 + 1)), (0, .ref h0), (1, .int y1_1)]) hx hb dX2_wallsInUse_34 hl (k := 2) rfl rfl (by decide) rfl (fun ls hl => ?_)
          refine lv_goto (pc := 37) (tgt := 4) hx hb dX2_wallsInUse_37 (by decide) ?_
          exact ih y1_1 (y2_2 + 1) hF ls (lv_sub hl [1, 2, 0] rfl)
        · refine lv_iload_n (pc := 23) hx hb dX2_wallsInUse_23 rfl (lv_at hl 1 rfl) ?_
          refine lv_iconst (pc := 24) (v := (nI 1)) hx hb dX2_wallsInUse_24 (by decide) ?_
          refine lv_aload_n (pc := 25) hx hb dX2_wallsInUse_25 rfl (lv_at hl 0 rfl) ?_
          refine va_get (D := D) (pc := 26) (ci := 2) (v := .ref h_on) (C := RX2) (T := TX2) (N := 15) hx hb hts nX2_wallsInUse_X2 hown hK hP 0 rfl rfl 7 (by decide) (hts _ kX2_wallsInUse_1) (fun _ h9 => h9) rfl dX2_wallsInUse_26 ?_
          refine lv_iload_n (pc := 29) hx hb dX2_wallsInUse_29 rfl (lv_at hl 2 rfl) ?_
          refine za_iald (pc := 30) hx hb hK hP 1 1 rfl rfl dX2_wallsInUse_30 hF (fun hF => ?_)
          refine lv_ishl (pc := 31) hx hb dX2_wallsInUse_31 ?_
          refine lv_ior (pc := 32) hx hb dX2_wallsInUse_32 ?_
          refine lv_istore_n (pc := 33) (lv' := [(1, .int (y1_1 ||| ((nI 1) <<< ((v_on y2_2.toNatClampNeg) &&& 31)))), (0, .ref h0), (2, .int y2_2)]) hx hb dX2_wallsInUse_33 rfl hl (by decide) rfl (fun ls hl => ?_)
          refine lv_iinc (pc := 34) (v := (y2_2 + 1)) (lv' := [(2, .int (y2_2 + 1)), (1, .int (y1_1 ||| ((nI 1) <<< ((v_on y2_2.toNatClampNeg) &&& 31)))), (0, .ref h0)]) hx hb dX2_wallsInUse_34 hl (k := 2) rfl rfl (by decide) rfl (fun ls hl => ?_)
          refine lv_goto (pc := 37) (tgt := 4) hx hb dX2_wallsInUse_37 (by decide) ?_
          exact ih (y1_1 ||| ((nI 1) <<< ((v_on y2_2.toNatClampNeg) &&& 31))) (y2_2 + 1) hF ls (lv_sub hl [2, 1, 0] rfl)
  exact hL_4 zK (nI 0) (nI 0) hF ls (lv_sub hl [2, 1, 0] rfl)

abbrev rX2_wallsOfGround : Room := { frames := 0, cells := 0, slots := 0, locals := 0 }
abbrev wX2_wallsOfGround (cB cI cJ cO : ClassId) (h0 h_ground : Nat) (g_laws g_seen g_count g_kind g_hand g_size g_on g_away g_nightsPassed g_glances g_draws g_gained g_paintedOn g_wallLooks : Value) (v_ground : Nat → Int32) : va_W := [(h0, .inr (2, [g_laws, .ref h_ground, g_seen, g_count, g_kind, g_hand, g_size, g_on, g_away, g_nightsPassed, g_glances, g_draws, g_gained, g_paintedOn, g_wallLooks])), (h_ground, .inl (cI, 10, .inl v_ground))]
theorem nX2_wallsOfGround_X2 : ∀ w ∈ wsX20, w ∈ wsX2_wallsOfGround := by decide +kernel
theorem kX2_wallsOfGround_0 : Cond.fieldLink RX2 15 "PaintedWalls$Town" "ground" "[I" ∈ wsX2_wallsOfGround := by decide +kernel
set_option maxHeartbeats 4000000 in
set_option maxRecDepth 100000 in
theorem tX2_wallsOfGround {l : Launch} {D : va_G} {cB cI cJ cO : ClassId} (h0 h_ground : Nat) (g_laws g_seen g_count g_kind g_hand g_size g_on g_away g_nightsPassed g_glances g_draws g_gained g_paintedOn g_wallLooks : Value) (v_ground : Nat → Int32) (x1 : Int32) (r : Int32) (hF : fX2_wallsOfGround v_ground x1 = some r) : Met l yX2_wallsOfGround wsX2_wallsOfGround rX2_wallsOfGround (zPre D cB cI cJ cO [.ref h0, .int x1] (wX2_wallsOfGround cB cI cJ cO h0 h_ground g_laws g_seen g_count g_kind g_hand g_size g_on g_away g_nightsPassed g_glances g_draws g_gained g_paintedOn g_wallLooks v_ground)) (zPI (some (.int r))) 0 0 (fun _ => False) := by
  refine zMetP (cc := cX2_wallsOfGround) (maxL := 4) (ret := (some .int)) (lv := [(0, .ref h0), (1, .int x1)]) (by decide) rfl (Nat.le_of_ble_eq_true rfl) rfl ?_
  intro p e s m args below meth c ls Q hQ hx hb hr hml hown hts hlocks hname hP hE hD hl
  have hown : s.vm.findClass RX2 = some m.cls := hown
  have hK := hE.1
  unfold fX2_wallsOfGround at hF
  refine lv_iconst (pc := 0) (v := (nI 0)) hx hb dX2_wallsOfGround_0 (by decide) ?_
  refine lv_istore_n (pc := 1) (lv' := [(2, .int (nI 0)), (0, .ref h0), (1, .int x1)]) hx hb dX2_wallsOfGround_1 rfl hl (by decide) rfl (fun ls hl => ?_)
  refine lv_iconst (pc := 2) (v := (nI 0)) hx hb dX2_wallsOfGround_2 (by decide) ?_
  refine lv_istore_n (pc := 3) (lv' := [(3, .int (nI 0)), (2, .int (nI 0)), (0, .ref h0), (1, .int x1)]) hx hb dX2_wallsOfGround_3 rfl hl (by decide) rfl (fun ls hl => ?_)
  obtain ⟨k_4, hk_4, hF⟩ := z_J hF
  have kk_4 : ∀ (y2_3 : Int32) , k_4 y2_3 = some r → ∀ (ls : Array Slot), lv_has ls 4 [(2, .int y2_3)] → W p l e rX2_wallsOfGround s m args below meth c s.heap [] 0 0 Q (F0 m 32 ls []) := by
    intro y2_3 hF ls hl
    rw [hk_4] at hF
    refine lv_iload_n (pc := 32) hx hb dX2_wallsOfGround_32 rfl (lv_at hl 0 rfl) ?_
    exact z_iret (pc := 33) (fun q => q) hx hb hr hlocks hF rfl hQ dX2_wallsOfGround_33
  have hL_4 : ∀ (n : Nat) (y2_1 : Int32) (y3_2 : Int32) , fX2_wallsOfGround_L4 v_ground x1 k_4 n y2_1 y3_2 = some r → ∀ (ls : Array Slot), lv_has ls 4 [(0, .ref h0), (1, .int x1), (2, .int y2_1), (3, .int y3_2)] → W p l e rX2_wallsOfGround s m args below meth c s.heap [] 0 0 Q (F0 m 4 ls []) := by
    intro n
    induction n with
    | zero =>
      intro y2_1 y3_2 hF ls hl
      exact z_no hF
    | succ n ih =>
      intro y2_1 y3_2 hF ls hl
      rw [fX2_wallsOfGround_L4] at hF
      refine lv_iload_n (pc := 4) hx hb dX2_wallsOfGround_4 rfl (lv_at hl 3 rfl) ?_
      refine lv_bipush (pc := 5) (v := (nI 10)) hx hb dX2_wallsOfGround_5 (by decide) ?_
      refine zb_icmp_ge (pc := 7) (tgt := 32) hx hb dX2_wallsOfGround_7 (by decide) hF (fun c_7 hF => ?_) (fun c_7 hF => ?_)
      · exact kk_4 y2_1 hF ls (lv_sub hl [2] rfl)
      · refine lv_aload_n (pc := 10) hx hb dX2_wallsOfGround_10 rfl (lv_at hl 0 rfl) ?_
        refine va_get (D := D) (pc := 11) (ci := 2) (v := .ref h_ground) (C := RX2) (T := TX2) (N := 15) hx hb hts nX2_wallsOfGround_X2 hown hK hP 0 rfl rfl 1 (by decide) (hts _ kX2_wallsOfGround_0) (fun _ h9 => h9) rfl dX2_wallsOfGround_11 ?_
        refine lv_iload_n (pc := 14) hx hb dX2_wallsOfGround_14 rfl (lv_at hl 3 rfl) ?_
        refine za_iald (pc := 15) hx hb hK hP 1 1 rfl rfl dX2_wallsOfGround_15 hF (fun hF => ?_)
        refine lv_iload_n (pc := 16) hx hb dX2_wallsOfGround_16 rfl (lv_at hl 1 rfl) ?_
        refine zb_icmp_ne (pc := 17) (tgt := 26) hx hb dX2_wallsOfGround_17 (by decide) hF (fun c_17 hF => ?_) (fun c_17 hF => ?_)
        · refine lv_iinc (pc := 26) (v := (y3_2 + 1)) (lv' := [(3, .int (y3_2 + 1)), (0, .ref h0), (1, .int x1), (2, .int y2_1)]) hx hb dX2_wallsOfGround_26 hl (k := 3) rfl rfl (by decide) rfl (fun ls hl => ?_)
          refine lv_goto (pc := 29) (tgt := 4) hx hb dX2_wallsOfGround_29 (by decide) ?_
          exact ih y2_1 (y3_2 + 1) hF ls (lv_sub hl [1, 2, 3, 0] rfl)
        · refine lv_iload_n (pc := 20) hx hb dX2_wallsOfGround_20 rfl (lv_at hl 2 rfl) ?_
          refine lv_iconst (pc := 21) (v := (nI 1)) hx hb dX2_wallsOfGround_21 (by decide) ?_
          refine lv_iload_n (pc := 22) hx hb dX2_wallsOfGround_22 rfl (lv_at hl 3 rfl) ?_
          refine lv_ishl (pc := 23) hx hb dX2_wallsOfGround_23 ?_
          refine lv_ior (pc := 24) hx hb dX2_wallsOfGround_24 ?_
          refine lv_istore_n (pc := 25) (lv' := [(2, .int (y2_1 ||| ((nI 1) <<< (y3_2 &&& 31)))), (0, .ref h0), (1, .int x1), (3, .int y3_2)]) hx hb dX2_wallsOfGround_25 rfl hl (by decide) rfl (fun ls hl => ?_)
          refine lv_iinc (pc := 26) (v := (y3_2 + 1)) (lv' := [(3, .int (y3_2 + 1)), (2, .int (y2_1 ||| ((nI 1) <<< (y3_2 &&& 31)))), (0, .ref h0), (1, .int x1)]) hx hb dX2_wallsOfGround_26 hl (k := 3) rfl rfl (by decide) rfl (fun ls hl => ?_)
          refine lv_goto (pc := 29) (tgt := 4) hx hb dX2_wallsOfGround_29 (by decide) ?_
          exact ih (y2_1 ||| ((nI 1) <<< (y3_2 &&& 31))) (y3_2 + 1) hF ls (lv_sub hl [2, 3, 1, 0] rfl)
  exact hL_4 zK (nI 0) (nI 0) hF ls (lv_sub hl [2, 3, 1, 0] rfl)

abbrev rX2_cleanWall : Room := { frames := 2, cells := 0, slots := 0, locals := 45 }
abbrev wX2_cleanWall (cB cI cJ cO : ClassId) (h0 h_laws h_ground h_kind h_hand h_size h_on h_away : Nat) (g_seen g_nightsPassed g_glances g_draws g_gained g_paintedOn g_wallLooks : Value) (v_count : Int32) (v_laws : Nat → Int32) (v_ground : Nat → Int32) (v_kind : Nat → Int32) (v_hand : Nat → Int32) (v_size : Nat → Int32) (v_on : Nat → Int32) (v_away : Nat → Int32) : va_W := [(h0, .inr (2, [.ref h_laws, .ref h_ground, g_seen, .int v_count, .ref h_kind, .ref h_hand, .ref h_size, .ref h_on, .ref h_away, g_nightsPassed, g_glances, g_draws, g_gained, g_paintedOn, g_wallLooks])), (h_laws, .inl (cI, 4, .inl v_laws)), (h_ground, .inl (cI, 10, .inl v_ground)), (h_kind, .inl (cI, 8, .inl v_kind)), (h_hand, .inl (cI, 8, .inl v_hand)), (h_size, .inl (cI, 8, .inl v_size)), (h_on, .inl (cI, 8, .inl v_on)), (h_away, .inl (cI, 8, .inl v_away))]
theorem nX2_cleanWall_X2 : ∀ w ∈ wsX20, w ∈ wsX2_cleanWall := by decide +kernel
theorem kX2_cleanWall_0 : Cond.fieldLink RX2 15 "PaintedWalls$Town" "ground" "[I" ∈ wsX2_cleanWall := by decide +kernel
theorem kX2_cleanWall_1 : Cond.fieldLink RX2 49 "PaintedWalls$Town" "count" "I" ∈ wsX2_cleanWall := by decide +kernel
theorem kX2_cleanWall_2 : Cond.fieldLink RX2 30 "PaintedWalls$Town" "on" "[I" ∈ wsX2_cleanWall := by decide +kernel
theorem kX2_cleanWall_3 : Cond.fieldLink RX2 33 "PaintedWalls$Town" "away" "[I" ∈ wsX2_cleanWall := by decide +kernel
theorem kX2_cleanWall_4 : Cond.fieldLink RX2 9 "PaintedWalls$Town" "laws" "[I" ∈ wsX2_cleanWall := by decide +kernel
theorem kX2_cleanWall_5 : Cond.fieldLink RX2 21 "PaintedWalls$Town" "kind" "[I" ∈ wsX2_cleanWall := by decide +kernel
set_option maxHeartbeats 4000000 in
set_option maxRecDepth 100000 in
theorem tX2_cleanWall {l : Launch} {D : va_G} {cB cI cJ cO : ClassId} (h0 h_laws h_ground h_kind h_hand h_size h_on h_away : Nat) (g_seen g_nightsPassed g_glances g_draws g_gained g_paintedOn g_wallLooks : Value) (v_count : Int32) (v_laws : Nat → Int32) (v_ground : Nat → Int32) (v_kind : Nat → Int32) (v_hand : Nat → Int32) (v_size : Nat → Int32) (v_on : Nat → Int32) (v_away : Nat → Int32) (x1 : Int32) (r : Int32 × (Nat → Int32) × (Nat → Int32) × (Nat → Int32)) (hF : fX2_cleanWall v_count v_laws v_ground v_kind v_hand v_size v_on v_away x1 = some r) : Met l yX2_cleanWall wsX2_cleanWall rX2_cleanWall (zPre D cB cI cJ cO [.ref h0, .int x1] (wX2_cleanWall cB cI cJ cO h0 h_laws h_ground h_kind h_hand h_size h_on h_away g_seen g_nightsPassed g_glances g_draws g_gained g_paintedOn g_wallLooks v_count v_laws v_ground v_kind v_hand v_size v_on v_away)) (zPM (some (.int r.1)) D (wX2_cleanWall cB cI cJ cO h0 h_laws h_ground h_kind h_hand h_size h_on h_away g_seen g_nightsPassed g_glances g_draws g_gained g_paintedOn g_wallLooks v_count v_laws r.2.1 v_kind v_hand v_size r.2.2.1 r.2.2.2) (zAs [h0, h_laws, h_ground, h_kind, h_hand, h_size, h_on, h_away])) 0 0 (zAs [h0, h_laws, h_ground, h_kind, h_hand, h_size, h_on, h_away]) := by
  refine zMetM (cc := cX2_cleanWall) (maxL := 5) (ret := (some .int)) (lv := [(0, .ref h0), (1, .int x1)]) rfl (by decide) rfl (Nat.le_of_ble_eq_true rfl) rfl ?_
  intro p e s m args below meth c ls Q H locs hQ hx hb hr hml hown hts hlocks hname hP hE hD hS hl
  have hown : s.vm.findClass RX2 = some m.cls := hown
  have hK := hE.1
  unfold fX2_cleanWall at hF
  refine lv_aload_n (pc := 0) hx hb dX2_cleanWall_0 rfl (lv_at hl 0 rfl) ?_
  refine va_get (D := D) (pc := 1) (ci := 2) (v := .ref h_ground) (C := RX2) (T := TX2) (N := 15) hx hb hts nX2_cleanWall_X2 hown hK hP 0 rfl rfl 1 (by decide) (hts _ kX2_cleanWall_0) (fun _ h9 => h9) rfl dX2_cleanWall_1 ?_
  refine lv_iload_n (pc := 4) hx hb dX2_cleanWall_4 rfl (lv_at hl 1 rfl) ?_
  refine za_iald (pc := 5) hx hb hK hP 2 1 rfl rfl dX2_cleanWall_5 hF (fun hF => ?_)
  refine lv_iconst (pc := 6) (v := (nI 2)) hx hb dX2_cleanWall_6 (by decide) ?_
  obtain ⟨J_2, hJ_2, hF⟩ := z_J hF
  have kJ_2 : ∀ (t0_1 : Int32) , J_2 t0_1 = some r → ∀ (H : Heap) (locs : List Loc), va_P D vwCl (wX2_cleanWall cB cI cJ cO h0 h_laws h_ground h_kind h_hand h_size h_on h_away g_seen g_nightsPassed g_glances g_draws g_gained g_paintedOn g_wallLooks v_count v_laws v_ground v_kind v_hand v_size v_on v_away) H → va_S (zAs [h0, h_laws, h_ground, h_kind, h_hand, h_size, h_on, h_away]) s.heap H locs → ∀ (ls : Array Slot), lv_has ls 5 [(0, .ref h0), (1, .int x1)] → W p l e rX2_cleanWall s m args below meth c H locs 0 0 Q (F0 m 15 ls [.int t0_1]) := by
    intro t0_1 hF H locs hP hS ls hl
    rw [hJ_2] at hF
    refine lv_istore_n (pc := 15) (lv' := [(2, .int t0_1), (0, .ref h0), (1, .int x1)]) hx hb dX2_cleanWall_15 rfl hl (by decide) rfl (fun ls hl => ?_)
    refine lv_iconst (pc := 16) (v := (nI 0)) hx hb dX2_cleanWall_16 (by decide) ?_
    refine lv_istore_n (pc := 17) (lv' := [(3, .int (nI 0)), (2, .int t0_1), (0, .ref h0), (1, .int x1)]) hx hb dX2_cleanWall_17 rfl hl (by decide) rfl (fun ls hl => ?_)
    refine lv_iconst (pc := 18) (v := (nI 0)) hx hb dX2_cleanWall_18 (by decide) ?_
    refine lv_istore (pc := 19) (lv' := [(4, .int (nI 0)), (3, .int (nI 0)), (2, .int t0_1), (0, .ref h0), (1, .int x1)]) hx hb dX2_cleanWall_19 hl (by decide) rfl (fun ls hl => ?_)
    obtain ⟨k_6, hk_6, hF⟩ := z_J hF
    have kk_6 : ∀ (y3_5 : Int32) , k_6 y3_5 = some r → ∀ (H : Heap) (locs : List Loc), va_P D vwCl (wX2_cleanWall cB cI cJ cO h0 h_laws h_ground h_kind h_hand h_size h_on h_away g_seen g_nightsPassed g_glances g_draws g_gained g_paintedOn g_wallLooks v_count v_laws v_ground v_kind v_hand v_size v_on v_away) H → va_S (zAs [h0, h_laws, h_ground, h_kind, h_hand, h_size, h_on, h_away]) s.heap H locs → ∀ (ls : Array Slot), lv_has ls 5 [(0, .ref h0), (1, .int x1), (2, .int t0_1), (3, .int y3_5)] → W p l e rX2_cleanWall s m args below meth c H locs 0 0 Q (F0 m 87 ls []) := by
      intro y3_5 hF H locs hP hS ls hl
      rw [hk_6] at hF
      refine lv_iconst (pc := 87) (v := (nI 0)) hx hb dX2_cleanWall_87 (by decide) ?_
      refine lv_istore (pc := 88) (lv' := [(4, .int (nI 0)), (0, .ref h0), (1, .int x1), (2, .int t0_1), (3, .int y3_5)]) hx hb dX2_cleanWall_88 hl (by decide) rfl (fun ls hl => ?_)
      obtain ⟨k_12, hk_12, hF⟩ := z_J hF
      have kk_12 : ∀ (v_on_10 : Nat → Int32) (v_away_11 : Nat → Int32) , k_12 v_on_10 v_away_11 = some r → ∀ (H : Heap) (locs : List Loc), va_P D vwCl (wX2_cleanWall cB cI cJ cO h0 h_laws h_ground h_kind h_hand h_size h_on h_away g_seen g_nightsPassed g_glances g_draws g_gained g_paintedOn g_wallLooks v_count v_laws v_ground v_kind v_hand v_size v_on_10 v_away_11) H → va_S (zAs [h0, h_laws, h_ground, h_kind, h_hand, h_size, h_on, h_away]) s.heap H locs → ∀ (ls : Array Slot), lv_has ls 5 [(0, .ref h0), (1, .int x1), (2, .int t0_1), (3, .int y3_5)] → W p l e rX2_cleanWall s m args below meth c H locs 0 0 Q (F0 m 131 ls []) := by
        intro v_on_10 v_away_11 hF H locs hP hS ls hl
        rw [hk_12] at hF
        refine lv_iload_n (pc := 131) hx hb dX2_cleanWall_131 rfl (lv_at hl 2 rfl) ?_
        refine zb_if_ne (pc := 132) (tgt := 142) hx hb dX2_cleanWall_132 (by decide) hF (fun c_132 hF => ?_) (fun c_132 hF => ?_)
        · refine lv_iload_n (pc := 142) hx hb dX2_cleanWall_142 rfl (lv_at hl 3 rfl) ?_
          obtain ⟨u143, hu143, hF⟩ := z_bind hF
          refine zq_call (oc0 := (some (.int u143))) (va_runS (As := [.int y3_5]) (rest := []) ⟨hx, hb, hml, hown, hts⟩ (tJ6_bitCount_0f7a4 (l := l) (D := D) (cB := cB) (cI := cI) (cJ := cJ) (cO := cO) y3_5 u143 hu143) (va_cwS 1 hts gX2_cleanWall_J6_bitCount_0f7a4 rfl rfl rfl (by decide +kernel) ⟨Nat.le_of_ble_eq_true rfl, Nat.le_of_ble_eq_true rfl⟩) ⟨zPre_blind, zPre_at hP hE (zD_re hD rfl) [] rfl rfl⟩ rfl rfl hl.1 rfl (lv_room (Nat.le_of_ble_eq_true rfl)) dX2_cleanWall_143 ⟨Nat.zero_le _, Nat.zero_le _⟩) ?_
          refine W.eq (g2 := F0 m 146 ls [.int u143]) rfl ?_
          exact z_iretM (pc := 146) (fun q => q.1) (fun q => (wX2_cleanWall cB cI cJ cO h0 h_laws h_ground h_kind h_hand h_size h_on h_away g_seen g_nightsPassed g_glances g_draws g_gained g_paintedOn g_wallLooks v_count v_laws q.2.1 v_kind v_hand v_size q.2.2.1 q.2.2.2)) hx hb hr hlocks hP hS hF rfl hQ dX2_cleanWall_146
        · refine lv_aload_n (pc := 135) hx hb dX2_cleanWall_135 rfl (lv_at hl 0 rfl) ?_
          refine va_get (D := D) (pc := 136) (ci := 2) (v := .ref h_ground) (C := RX2) (T := TX2) (N := 15) hx hb hts nX2_cleanWall_X2 hown hK hP 0 rfl rfl 1 (by decide) (hts _ kX2_cleanWall_0) (fun _ h9 => h9) rfl dX2_cleanWall_136 ?_
          refine lv_iload_n (pc := 139) hx hb dX2_cleanWall_139 rfl (lv_at hl 1 rfl) ?_
          refine lv_iconst (pc := 140) (v := (nI 1)) hx hb dX2_cleanWall_140 (by decide) ?_
          refine za_iast (pc := 141) hx hb hK hP (zD_re hD rfl) hS 2 1 rfl rfl dX2_cleanWall_141 hF (fun hF H locs hP hS => ?_)
          have hP : va_P D vwCl (wX2_cleanWall cB cI cJ cO h0 h_laws h_ground h_kind h_hand h_size h_on h_away g_seen g_nightsPassed g_glances g_draws g_gained g_paintedOn g_wallLooks v_count v_laws (upd v_ground x1.toNatClampNeg (nI 1)) v_kind v_hand v_size v_on_10 v_away_11) H := hP
          refine lv_iload_n (pc := 142) hx hb dX2_cleanWall_142 rfl (lv_at hl 3 rfl) ?_
          obtain ⟨u143_13, hu143_13, hF⟩ := z_bind hF
          refine zq_call (oc0 := (some (.int u143_13))) (va_runS (As := [.int y3_5]) (rest := []) ⟨hx, hb, hml, hown, hts⟩ (tJ6_bitCount_0f7a4 (l := l) (D := D) (cB := cB) (cI := cI) (cJ := cJ) (cO := cO) y3_5 u143_13 hu143_13) (va_cwS 1 hts gX2_cleanWall_J6_bitCount_0f7a4 rfl rfl rfl (by decide +kernel) ⟨Nat.le_of_ble_eq_true rfl, Nat.le_of_ble_eq_true rfl⟩) ⟨zPre_blind, zPre_at hP hE (zD_re hD rfl) [] rfl rfl⟩ rfl rfl hl.1 rfl (lv_room (Nat.le_of_ble_eq_true rfl)) dX2_cleanWall_143 ⟨Nat.zero_le _, Nat.zero_le _⟩) ?_
          refine W.eq (g2 := F0 m 146 ls [.int u143_13]) rfl ?_
          exact z_iretM (pc := 146) (fun q => q.1) (fun q => (wX2_cleanWall cB cI cJ cO h0 h_laws h_ground h_kind h_hand h_size h_on h_away g_seen g_nightsPassed g_glances g_draws g_gained g_paintedOn g_wallLooks v_count v_laws q.2.1 v_kind v_hand v_size q.2.2.1 q.2.2.2)) hx hb hr hlocks hP hS hF rfl hQ dX2_cleanWall_146
      have hL_90 : ∀ (n : Nat) (y4_7 : Int32) (v_on_8 : Nat → Int32) (v_away_9 : Nat → Int32) , fX2_cleanWall_L90 v_count y3_5 k_12 n y4_7 v_on_8 v_away_9 = some r → ∀ (H : Heap) (locs : List Loc), va_P D vwCl (wX2_cleanWall cB cI cJ cO h0 h_laws h_ground h_kind h_hand h_size h_on h_away g_seen g_nightsPassed g_glances g_draws g_gained g_paintedOn g_wallLooks v_count v_laws v_ground v_kind v_hand v_size v_on_8 v_away_9) H → va_S (zAs [h0, h_laws, h_ground, h_kind, h_hand, h_size, h_on, h_away]) s.heap H locs → ∀ (ls : Array Slot), lv_has ls 5 [(0, .ref h0), (1, .int x1), (2, .int t0_1), (3, .int y3_5), (4, .int y4_7)] → W p l e rX2_cleanWall s m args below meth c H locs 0 0 Q (F0 m 90 ls []) := by
        intro n
        induction n with
        | zero =>
          intro y4_7 v_on_8 v_away_9 hF H locs hP hS ls hl
          exact z_no hF
        | succ n ih =>
          intro y4_7 v_on_8 v_away_9 hF H locs hP hS ls hl
          rw [fX2_cleanWall_L90] at hF
          refine lv_iload (pc := 90) hx hb dX2_cleanWall_90 (lv_at hl 4 rfl) ?_
          refine lv_aload_n (pc := 92) hx hb dX2_cleanWall_92 rfl (lv_at hl 0 rfl) ?_
          refine va_get (D := D) (pc := 93) (ci := 2) (v := .int v_count) (C := RX2) (T := TX2) (N := 15) hx hb hts nX2_cleanWall_X2 hown hK hP 0 rfl rfl 3 (by decide) (hts _ kX2_cleanWall_1) (fun _ h9 => h9) rfl dX2_cleanWall_93 ?_
          refine zb_icmp_ge (pc := 96) (tgt := 131) hx hb dX2_cleanWall_96 (by decide) hF (fun c_96 hF => ?_) (fun c_96 hF => ?_)
          · exact kk_12 v_on_8 v_away_9 hF H locs hP hS ls (lv_sub hl [0, 1, 2, 3] rfl)
          · refine lv_iload_n (pc := 99) hx hb dX2_cleanWall_99 rfl (lv_at hl 3 rfl) ?_
            refine lv_iload (pc := 100) hx hb dX2_cleanWall_100 (lv_at hl 4 rfl) ?_
            refine lv_ishr (pc := 102) hx hb dX2_cleanWall_102 ?_
            refine lv_iconst (pc := 103) (v := (nI 1)) hx hb dX2_cleanWall_103 (by decide) ?_
            refine lv_iand (pc := 104) hx hb dX2_cleanWall_104 ?_
            refine zb_if_eq (pc := 105) (tgt := 125) hx hb dX2_cleanWall_105 (by decide) hF (fun c_105 hF => ?_) (fun c_105 hF => ?_)
            · refine lv_iinc (pc := 125) (v := (y4_7 + 1)) (lv' := [(4, .int (y4_7 + 1)), (0, .ref h0), (1, .int x1), (2, .int t0_1), (3, .int y3_5)]) hx hb dX2_cleanWall_125 hl (k := 4) rfl rfl (by decide) rfl (fun ls hl => ?_)
              refine lv_goto (pc := 128) (tgt := 90) hx hb dX2_cleanWall_128 (by decide) ?_
              exact ih (y4_7 + 1) v_on_8 v_away_9 hF H locs hP hS ls (lv_sub hl [1, 2, 3, 4, 0] rfl)
            · refine lv_aload_n (pc := 108) hx hb dX2_cleanWall_108 rfl (lv_at hl 0 rfl) ?_
              refine va_get (D := D) (pc := 109) (ci := 2) (v := .ref h_on) (C := RX2) (T := TX2) (N := 15) hx hb hts nX2_cleanWall_X2 hown hK hP 0 rfl rfl 7 (by decide) (hts _ kX2_cleanWall_2) (fun _ h9 => h9) rfl dX2_cleanWall_109 ?_
              refine lv_iload (pc := 112) hx hb dX2_cleanWall_112 (lv_at hl 4 rfl) ?_
              refine lv_bipush (pc := 114) (v := (nI 10)) hx hb dX2_cleanWall_114 (by decide) ?_
              refine za_iast (pc := 116) hx hb hK hP (zD_re hD rfl) hS 6 1 rfl rfl dX2_cleanWall_116 hF (fun hF H locs hP hS => ?_)
              have hP : va_P D vwCl (wX2_cleanWall cB cI cJ cO h0 h_laws h_ground h_kind h_hand h_size h_on h_away g_seen g_nightsPassed g_glances g_draws g_gained g_paintedOn g_wallLooks v_count v_laws v_ground v_kind v_hand v_size (upd v_on_8 y4_7.toNatClampNeg (nI 10)) v_away_9) H := hP
              refine lv_aload_n (pc := 117) hx hb dX2_cleanWall_117 rfl (lv_at hl 0 rfl) ?_
              refine va_get (D := D) (pc := 118) (ci := 2) (v := .ref h_away) (C := RX2) (T := TX2) (N := 15) hx hb hts nX2_cleanWall_X2 hown hK hP 0 rfl rfl 8 (by decide) (hts _ kX2_cleanWall_3) (fun _ h9 => h9) rfl dX2_cleanWall_118 ?_
              refine lv_iload (pc := 121) hx hb dX2_cleanWall_121 (lv_at hl 4 rfl) ?_
              refine lv_iconst (pc := 123) (v := (nI 0)) hx hb dX2_cleanWall_123 (by decide) ?_
              refine za_iast (pc := 124) hx hb hK hP (zD_re hD rfl) hS 7 1 rfl rfl dX2_cleanWall_124 hF (fun hF H locs hP hS => ?_)
              have hP : va_P D vwCl (wX2_cleanWall cB cI cJ cO h0 h_laws h_ground h_kind h_hand h_size h_on h_away g_seen g_nightsPassed g_glances g_draws g_gained g_paintedOn g_wallLooks v_count v_laws v_ground v_kind v_hand v_size (upd v_on_8 y4_7.toNatClampNeg (nI 10)) (upd v_away_9 y4_7.toNatClampNeg (nI 0))) H := hP
              refine lv_iinc (pc := 125) (v := (y4_7 + 1)) (lv' := [(4, .int (y4_7 + 1)), (0, .ref h0), (1, .int x1), (2, .int t0_1), (3, .int y3_5)]) hx hb dX2_cleanWall_125 hl (k := 4) rfl rfl (by decide) rfl (fun ls hl => ?_)
              refine lv_goto (pc := 128) (tgt := 90) hx hb dX2_cleanWall_128 (by decide) ?_
              exact ih (y4_7 + 1) (upd v_on_8 y4_7.toNatClampNeg (nI 10)) (upd v_away_9 y4_7.toNatClampNeg (nI 0)) hF H locs hP hS ls (lv_sub hl [1, 2, 3, 4, 0] rfl)
      exact hL_90 zK (nI 0) v_on v_away hF H locs hP hS ls (lv_sub hl [1, 2, 3, 4, 0] rfl)
    have hL_21 : ∀ (n : Nat) (y3_3 : Int32) (y4_4 : Int32) , fX2_cleanWall_L21 v_count v_laws v_kind v_hand v_size v_on x1 t0_1 k_6 n y3_3 y4_4 = some r → ∀ (H : Heap) (locs : List Loc), va_P D vwCl (wX2_cleanWall cB cI cJ cO h0 h_laws h_ground h_kind h_hand h_size h_on h_away g_seen g_nightsPassed g_glances g_draws g_gained g_paintedOn g_wallLooks v_count v_laws v_ground v_kind v_hand v_size v_on v_away) H → va_S (zAs [h0, h_laws, h_ground, h_kind, h_hand, h_size, h_on, h_away]) s.heap H locs → ∀ (ls : Array Slot), lv_has ls 5 [(0, .ref h0), (1, .int x1), (2, .int t0_1), (3, .int y3_3), (4, .int y4_4)] → W p l e rX2_cleanWall s m args below meth c H locs 0 0 Q (F0 m 21 ls []) := by
      intro n
      induction n with
      | zero =>
        intro y3_3 y4_4 hF H locs hP hS ls hl
        exact z_no hF
      | succ n ih =>
        intro y3_3 y4_4 hF H locs hP hS ls hl
        rw [fX2_cleanWall_L21] at hF
        refine lv_iload (pc := 21) hx hb dX2_cleanWall_21 (lv_at hl 4 rfl) ?_
        refine lv_aload_n (pc := 23) hx hb dX2_cleanWall_23 rfl (lv_at hl 0 rfl) ?_
        refine va_get (D := D) (pc := 24) (ci := 2) (v := .int v_count) (C := RX2) (T := TX2) (N := 15) hx hb hts nX2_cleanWall_X2 hown hK hP 0 rfl rfl 3 (by decide) (hts _ kX2_cleanWall_1) (fun _ h9 => h9) rfl dX2_cleanWall_24 ?_
        refine zb_icmp_ge (pc := 27) (tgt := 87) hx hb dX2_cleanWall_27 (by decide) hF (fun c_27 hF => ?_) (fun c_27 hF => ?_)
        · exact kk_6 y3_3 hF H locs hP hS ls (lv_sub hl [0, 1, 2, 3] rfl)
        · refine lv_aload_n (pc := 30) hx hb dX2_cleanWall_30 rfl (lv_at hl 0 rfl) ?_
          refine va_get (D := D) (pc := 31) (ci := 2) (v := .ref h_on) (C := RX2) (T := TX2) (N := 15) hx hb hts nX2_cleanWall_X2 hown hK hP 0 rfl rfl 7 (by decide) (hts _ kX2_cleanWall_2) (fun _ h9 => h9) rfl dX2_cleanWall_31 ?_
          refine lv_iload (pc := 34) hx hb dX2_cleanWall_34 (lv_at hl 4 rfl) ?_
          refine za_iald (pc := 36) hx hb hK hP 6 1 rfl rfl dX2_cleanWall_36 hF (fun hF => ?_)
          refine lv_iload_n (pc := 37) hx hb dX2_cleanWall_37 rfl (lv_at hl 1 rfl) ?_
          refine zb_icmp_ne (pc := 38) (tgt := 81) hx hb dX2_cleanWall_38 (by decide) hF (fun c_38 hF => ?_) (fun c_38 hF => ?_)
          · refine lv_iinc (pc := 81) (v := (y4_4 + 1)) (lv' := [(4, .int (y4_4 + 1)), (0, .ref h0), (1, .int x1), (2, .int t0_1), (3, .int y3_3)]) hx hb dX2_cleanWall_81 hl (k := 4) rfl rfl (by decide) rfl (fun ls hl => ?_)
            refine lv_goto (pc := 84) (tgt := 21) hx hb dX2_cleanWall_84 (by decide) ?_
            exact ih y3_3 (y4_4 + 1) hF H locs hP hS ls (lv_sub hl [1, 2, 3, 4, 0] rfl)
          · refine lv_iload_n (pc := 41) hx hb dX2_cleanWall_41 rfl (lv_at hl 2 rfl) ?_
            refine zb_if_eq (pc := 42) (tgt := 59) hx hb dX2_cleanWall_42 (by decide) hF (fun c_42 hF => ?_) (fun c_42 hF => ?_)
            · refine lv_aload_n (pc := 59) hx hb dX2_cleanWall_59 rfl (lv_at hl 0 rfl) ?_
              refine lv_iload (pc := 60) hx hb dX2_cleanWall_60 (lv_at hl 4 rfl) ?_
              obtain ⟨u62, hu62, hF⟩ := z_bind hF
              refine zq_call (oc0 := (some (.int u62))) (va_runV (As := [.int y4_4]) (rest := []) ⟨hx, hb, hml, hown, hts⟩ (tX2_holdsOf (l := l) (D := D) (cB := cB) (cI := cI) (cJ := cJ) (cO := cO) h0 h_laws h_kind h_hand h_size h_on (.ref h_ground) g_seen (.ref h_away) g_nightsPassed g_glances g_draws g_gained g_paintedOn g_wallLooks v_count v_laws v_kind v_hand v_size v_on y4_4 u62 hu62) (cwV 1 hts gX2_cleanWall_X2_holdsOf rfl rfl rfl (by decide +kernel) ⟨Nat.le_of_ble_eq_true rfl, Nat.le_of_ble_eq_true rfl⟩) ⟨zPre_blind, va_recv hK hP (ci := 2) (q0 := 0) rfl rfl, zPre_at hP hE (zD_re hD rfl) [0, 1, 3, 4, 5, 6] rfl rfl⟩ rfl rfl hl.1 rfl (lv_room (Nat.le_of_ble_eq_true rfl)) dX2_cleanWall_62 ⟨Nat.zero_le _, Nat.zero_le _⟩) ?_
              refine W.eq (g2 := F0 m 65 ls [.int u62]) rfl ?_
              refine lv_aload_n (pc := 65) hx hb dX2_cleanWall_65 rfl (lv_at hl 0 rfl) ?_
              refine va_get (D := D) (pc := 66) (ci := 2) (v := .ref h_laws) (C := RX2) (T := TX2) (N := 15) hx hb hts nX2_cleanWall_X2 hown hK hP 0 rfl rfl 0 (by decide) (hts _ kX2_cleanWall_4) (fun _ h9 => h9) rfl dX2_cleanWall_66 ?_
              refine lv_iconst (pc := 69) (v := (nI 2)) hx hb dX2_cleanWall_69 (by decide) ?_
              refine za_ialdK (pc := 70) (k := 2) hx hb hK hP 1 1 rfl rfl (by decide) (by decide) dX2_cleanWall_70 ?_
              refine zb_icmp_gt (pc := 71) (tgt := 81) hx hb dX2_cleanWall_71 (by decide) hF (fun c_71 hF => ?_) (fun c_71 hF => ?_)
              · refine lv_iinc (pc := 81) (v := (y4_4 + 1)) (lv' := [(4, .int (y4_4 + 1)), (0, .ref h0), (1, .int x1), (2, .int t0_1), (3, .int y3_3)]) hx hb dX2_cleanWall_81 hl (k := 4) rfl rfl (by decide) rfl (fun ls hl => ?_)
                refine lv_goto (pc := 84) (tgt := 21) hx hb dX2_cleanWall_84 (by decide) ?_
                exact ih y3_3 (y4_4 + 1) hF H locs hP hS ls (lv_sub hl [1, 2, 3, 4, 0] rfl)
              · refine lv_iload_n (pc := 74) hx hb dX2_cleanWall_74 rfl (lv_at hl 3 rfl) ?_
                refine lv_iconst (pc := 75) (v := (nI 1)) hx hb dX2_cleanWall_75 (by decide) ?_
                refine lv_iload (pc := 76) hx hb dX2_cleanWall_76 (lv_at hl 4 rfl) ?_
                refine lv_ishl (pc := 78) hx hb dX2_cleanWall_78 ?_
                refine lv_ior (pc := 79) hx hb dX2_cleanWall_79 ?_
                refine lv_istore_n (pc := 80) (lv' := [(3, .int (y3_3 ||| ((nI 1) <<< (y4_4 &&& 31)))), (0, .ref h0), (1, .int x1), (2, .int t0_1), (4, .int y4_4)]) hx hb dX2_cleanWall_80 rfl hl (by decide) rfl (fun ls hl => ?_)
                refine lv_iinc (pc := 81) (v := (y4_4 + 1)) (lv' := [(4, .int (y4_4 + 1)), (3, .int (y3_3 ||| ((nI 1) <<< (y4_4 &&& 31)))), (0, .ref h0), (1, .int x1), (2, .int t0_1)]) hx hb dX2_cleanWall_81 hl (k := 4) rfl rfl (by decide) rfl (fun ls hl => ?_)
                refine lv_goto (pc := 84) (tgt := 21) hx hb dX2_cleanWall_84 (by decide) ?_
                exact ih (y3_3 ||| ((nI 1) <<< (y4_4 &&& 31))) (y4_4 + 1) hF H locs hP hS ls (lv_sub hl [2, 3, 4, 1, 0] rfl)
            · refine lv_aload_n (pc := 45) hx hb dX2_cleanWall_45 rfl (lv_at hl 0 rfl) ?_
              refine va_get (D := D) (pc := 46) (ci := 2) (v := .ref h_kind) (C := RX2) (T := TX2) (N := 15) hx hb hts nX2_cleanWall_X2 hown hK hP 0 rfl rfl 4 (by decide) (hts _ kX2_cleanWall_5) (fun _ h9 => h9) rfl dX2_cleanWall_46 ?_
              refine lv_iload (pc := 49) hx hb dX2_cleanWall_49 (lv_at hl 4 rfl) ?_
              refine za_iald (pc := 51) hx hb hK hP 3 1 rfl rfl dX2_cleanWall_51 hF (fun hF => ?_)
              refine lv_iconst (pc := 52) (v := (nI 5)) hx hb dX2_cleanWall_52 (by decide) ?_
              refine zb_icmp_eq (pc := 53) (tgt := 81) hx hb dX2_cleanWall_53 (by decide) hF (fun c_53 hF => ?_) (fun c_53 hF => ?_)
              · refine lv_iinc (pc := 81) (v := (y4_4 + 1)) (lv' := [(4, .int (y4_4 + 1)), (0, .ref h0), (1, .int x1), (2, .int t0_1), (3, .int y3_3)]) hx hb dX2_cleanWall_81 hl (k := 4) rfl rfl (by decide) rfl (fun ls hl => ?_)
                refine lv_goto (pc := 84) (tgt := 21) hx hb dX2_cleanWall_84 (by decide) ?_
                exact ih y3_3 (y4_4 + 1) hF H locs hP hS ls (lv_sub hl [1, 2, 3, 4, 0] rfl)
              · refine lv_goto (pc := 56) (tgt := 74) hx hb dX2_cleanWall_56 (by decide) ?_
                refine lv_iload_n (pc := 74) hx hb dX2_cleanWall_74 rfl (lv_at hl 3 rfl) ?_
                refine lv_iconst (pc := 75) (v := (nI 1)) hx hb dX2_cleanWall_75 (by decide) ?_
                refine lv_iload (pc := 76) hx hb dX2_cleanWall_76 (lv_at hl 4 rfl) ?_
                refine lv_ishl (pc := 78) hx hb dX2_cleanWall_78 ?_
                refine lv_ior (pc := 79) hx hb dX2_cleanWall_79 ?_
                refine lv_istore_n (pc := 80) (lv' := [(3, .int (y3_3 ||| ((nI 1) <<< (y4_4 &&& 31)))), (0, .ref h0), (1, .int x1), (2, .int t0_1), (4, .int y4_4)]) hx hb dX2_cleanWall_80 rfl hl (by decide) rfl (fun ls hl => ?_)
                refine lv_iinc (pc := 81) (v := (y4_4 + 1)) (lv' := [(4, .int (y4_4 + 1)), (3, .int (y3_3 ||| ((nI 1) <<< (y4_4 &&& 31)))), (0, .ref h0), (1, .int x1), (2, .int t0_1)]) hx hb dX2_cleanWall_81 hl (k := 4) rfl rfl (by decide) rfl (fun ls hl => ?_)
                refine lv_goto (pc := 84) (tgt := 21) hx hb dX2_cleanWall_84 (by decide) ?_
                exact ih (y3_3 ||| ((nI 1) <<< (y4_4 &&& 31))) (y4_4 + 1) hF H locs hP hS ls (lv_sub hl [2, 3, 4, 1, 0] rfl)
    exact hL_21 zK (nI 0) (nI 0) hF H locs hP hS ls (lv_sub hl [3, 4, 2, 1, 0] rfl)
  refine zb_icmp_ne (pc := 7) (tgt := 14) hx hb dX2_cleanWall_7 (by decide) hF (fun c_7 hF => ?_) (fun c_7 hF => ?_)
  · refine lv_iconst (pc := 14) (v := (nI 0)) hx hb dX2_cleanWall_14 (by decide) ?_
    exact kJ_2 (nI 0) hF H locs hP hS ls (lv_sub hl [0, 1] rfl)
  · refine lv_iconst (pc := 10) (v := (nI 1)) hx hb dX2_cleanWall_10 (by decide) ?_
    refine lv_goto (pc := 11) (tgt := 15) hx hb dX2_cleanWall_11 (by decide) ?_
    exact kJ_2 (nI 1) hF H locs hP hS ls (lv_sub hl [0, 1] rfl)

abbrev rX2_comeBack : Room := { frames := 1, cells := 0, slots := 0, locals := 24 }
abbrev wX2_comeBack (cB cI cJ cO : ClassId) (h0 h_kind h_hand h_size h_on h_away : Nat) (g_laws g_ground g_seen g_glances g_draws g_gained g_paintedOn g_wallLooks : Value) (v_count : Int32) (v_nightsPassed : Int32) (v_kind : Nat → Int32) (v_hand : Nat → Int32) (v_size : Nat → Int32) (v_on : Nat → Int32) (v_away : Nat → Int32) : va_W := [(h0, .inr (2, [g_laws, g_ground, g_seen, .int v_count, .ref h_kind, .ref h_hand, .ref h_size, .ref h_on, .ref h_away, .int v_nightsPassed, g_glances, g_draws, g_gained, g_paintedOn, g_wallLooks])), (h_kind, .inl (cI, 8, .inl v_kind)), (h_hand, .inl (cI, 8, .inl v_hand)), (h_size, .inl (cI, 8, .inl v_size)), (h_on, .inl (cI, 8, .inl v_on)), (h_away, .inl (cI, 8, .inl v_away))]
theorem nX2_comeBack_X2 : ∀ w ∈ wsX20, w ∈ wsX2_comeBack := by decide +kernel
theorem kX2_comeBack_0 : Cond.fieldLink RX2 49 "PaintedWalls$Town" "count" "I" ∈ wsX2_comeBack := by decide +kernel
theorem kX2_comeBack_1 : Cond.fieldLink RX2 30 "PaintedWalls$Town" "on" "[I" ∈ wsX2_comeBack := by decide +kernel
theorem kX2_comeBack_2 : Cond.fieldLink RX2 33 "PaintedWalls$Town" "away" "[I" ∈ wsX2_comeBack := by decide +kernel
theorem kX2_comeBack_3 : Cond.methodLink RX2 102 Lib.Math.min.name ∈ wsX2_comeBack := by decide +kernel
theorem kX2_comeBack_4 : Cond.static Lib.Math.min.name ∈ wsX2_comeBack := by decide +kernel
theorem kX2_comeBack_5 : Cond.initialized "java/lang/Math" ∈ wsX2_comeBack := by decide +kernel
theorem kX2_comeBack_6 : Cond.code Lib.Math.min.name Lib.Math.min.code 2 (some .int) ∈ wsX2_comeBack := by decide +kernel
theorem kX2_comeBack_7 : Cond.fieldLink RX2 24 "PaintedWalls$Town" "hand" "[I" ∈ wsX2_comeBack := by decide +kernel
theorem kX2_comeBack_8 : Cond.fieldLink RX2 52 "PaintedWalls$Town" "nightsPassed" "I" ∈ wsX2_comeBack := by decide +kernel
theorem kX2_comeBack_9 : Cond.fieldLink RX2 27 "PaintedWalls$Town" "size" "[I" ∈ wsX2_comeBack := by decide +kernel
set_option maxHeartbeats 4000000 in
set_option maxRecDepth 100000 in
theorem tX2_comeBack {l : Launch} {D : va_G} {cB cI cJ cO : ClassId} (h0 h_kind h_hand h_size h_on h_away : Nat) (g_laws g_ground g_seen g_glances g_draws g_gained g_paintedOn g_wallLooks : Value) (v_count : Int32) (v_nightsPassed : Int32) (v_kind : Nat → Int32) (v_hand : Nat → Int32) (v_size : Nat → Int32) (v_on : Nat → Int32) (v_away : Nat → Int32) (r : (Nat → Int32) × (Nat → Int32) × (Nat → Int32)) (hF : fX2_comeBack v_count v_nightsPassed v_kind v_hand v_size v_on v_away = some r) : Met l yX2_comeBack wsX2_comeBack rX2_comeBack (zPre D cB cI cJ cO [.ref h0] (wX2_comeBack cB cI cJ cO h0 h_kind h_hand h_size h_on h_away g_laws g_ground g_seen g_glances g_draws g_gained g_paintedOn g_wallLooks v_count v_nightsPassed v_kind v_hand v_size v_on v_away)) (zPM none D (wX2_comeBack cB cI cJ cO h0 h_kind h_hand h_size h_on h_away g_laws g_ground g_seen g_glances g_draws g_gained g_paintedOn g_wallLooks v_count v_nightsPassed v_kind v_hand r.1 r.2.1 r.2.2) (zAs [h0, h_kind, h_hand, h_size, h_on, h_away])) 0 0 (zAs [h0, h_kind, h_hand, h_size, h_on, h_away]) := by
  refine zMetM (cc := cX2_comeBack) (maxL := 2) (ret := none) (lv := [(0, .ref h0)]) rfl (by decide) rfl (Nat.le_of_ble_eq_true rfl) rfl ?_
  intro p e s m args below meth c ls Q H locs hQ hx hb hr hml hown hts hlocks hname hP hE hD hS hl
  have hown : s.vm.findClass RX2 = some m.cls := hown
  have hK := hE.1
  unfold fX2_comeBack at hF
  refine lv_iconst (pc := 0) (v := (nI 0)) hx hb dX2_comeBack_0 (by decide) ?_
  refine lv_istore_n (pc := 1) (lv' := [(1, .int (nI 0)), (0, .ref h0)]) hx hb dX2_comeBack_1 rfl hl (by decide) rfl (fun ls hl => ?_)
  obtain ⟨k_8, hk_8, hF⟩ := z_J hF
  have kk_8 : ∀ (v_size_5 : Nat → Int32) (v_on_6 : Nat → Int32) (v_away_7 : Nat → Int32) , k_8 v_size_5 v_on_6 v_away_7 = some r → ∀ (H : Heap) (locs : List Loc), va_P D vwCl (wX2_comeBack cB cI cJ cO h0 h_kind h_hand h_size h_on h_away g_laws g_ground g_seen g_glances g_draws g_gained g_paintedOn g_wallLooks v_count v_nightsPassed v_kind v_hand v_size_5 v_on_6 v_away_7) H → va_S (zAs [h0, h_kind, h_hand, h_size, h_on, h_away]) s.heap H locs → ∀ (ls : Array Slot), lv_has ls 2 [] → W p l e rX2_comeBack s m args below meth c H locs 0 0 Q (F0 m 94 ls []) := by
    intro v_size_5 v_on_6 v_away_7 hF H locs hP hS ls hl
    rw [hk_8] at hF
    exact z_vretM (pc := 94) (fun q => (wX2_comeBack cB cI cJ cO h0 h_kind h_hand h_size h_on h_away g_laws g_ground g_seen g_glances g_draws g_gained g_paintedOn g_wallLooks v_count v_nightsPassed v_kind v_hand q.1 q.2.1 q.2.2)) hx hb hr hlocks hP hS hF hQ dX2_comeBack_94
  have hL_2 : ∀ (n : Nat) (y1_1 : Int32) (v_size_2 : Nat → Int32) (v_on_3 : Nat → Int32) (v_away_4 : Nat → Int32) , fX2_comeBack_L2 v_count v_nightsPassed v_kind v_hand k_8 n y1_1 v_size_2 v_on_3 v_away_4 = some r → ∀ (H : Heap) (locs : List Loc), va_P D vwCl (wX2_comeBack cB cI cJ cO h0 h_kind h_hand h_size h_on h_away g_laws g_ground g_seen g_glances g_draws g_gained g_paintedOn g_wallLooks v_count v_nightsPassed v_kind v_hand v_size_2 v_on_3 v_away_4) H → va_S (zAs [h0, h_kind, h_hand, h_size, h_on, h_away]) s.heap H locs → ∀ (ls : Array Slot), lv_has ls 2 [(0, .ref h0), (1, .int y1_1)] → W p l e rX2_comeBack s m args below meth c H locs 0 0 Q (F0 m 2 ls []) := by
    intro n
    induction n with
    | zero =>
      intro y1_1 v_size_2 v_on_3 v_away_4 hF H locs hP hS ls hl
      exact z_no hF
    | succ n ih =>
      intro y1_1 v_size_2 v_on_3 v_away_4 hF H locs hP hS ls hl
      rw [fX2_comeBack_L2] at hF
      refine lv_iload_n (pc := 2) hx hb dX2_comeBack_2 rfl (lv_at hl 1 rfl) ?_
      refine lv_aload_n (pc := 3) hx hb dX2_comeBack_3 rfl (lv_at hl 0 rfl) ?_
      refine va_get (D := D) (pc := 4) (ci := 2) (v := .int v_count) (C := RX2) (T := TX2) (N := 15) hx hb hts nX2_comeBack_X2 hown hK hP 0 rfl rfl 3 (by decide) (hts _ kX2_comeBack_0) (fun _ h9 => h9) rfl dX2_comeBack_4 ?_
      refine zb_icmp_ge (pc := 7) (tgt := 94) hx hb dX2_comeBack_7 (by decide) hF (fun c_7 hF => ?_) (fun c_7 hF => ?_)
      · exact kk_8 v_size_2 v_on_3 v_away_4 hF H locs hP hS ls (lv_sub hl [] rfl)
      · refine lv_aload_n (pc := 10) hx hb dX2_comeBack_10 rfl (lv_at hl 0 rfl) ?_
        refine va_get (D := D) (pc := 11) (ci := 2) (v := .ref h_on) (C := RX2) (T := TX2) (N := 15) hx hb hts nX2_comeBack_X2 hown hK hP 0 rfl rfl 7 (by decide) (hts _ kX2_comeBack_1) (fun _ h9 => h9) rfl dX2_comeBack_11 ?_
        refine lv_iload_n (pc := 14) hx hb dX2_comeBack_14 rfl (lv_at hl 1 rfl) ?_
        refine za_iald (pc := 15) hx hb hK hP 4 1 rfl rfl dX2_comeBack_15 hF (fun hF => ?_)
        refine lv_bipush (pc := 16) (v := (nI 10)) hx hb dX2_comeBack_16 (by decide) ?_
        refine zb_icmp_ne (pc := 18) (tgt := 88) hx hb dX2_comeBack_18 (by decide) hF (fun c_18 hF => ?_) (fun c_18 hF => ?_)
        · refine lv_iinc (pc := 88) (v := (y1_1 + 1)) (lv' := [(1, .int (y1_1 + 1)), (0, .ref h0)]) hx hb dX2_comeBack_88 hl (k := 1) rfl rfl (by decide) rfl (fun ls hl => ?_)
          refine lv_goto (pc := 91) (tgt := 2) hx hb dX2_comeBack_91 (by decide) ?_
          exact ih (y1_1 + 1) v_size_2 v_on_3 v_away_4 hF H locs hP hS ls (lv_sub hl [1, 0] rfl)
        · refine lv_aload_n (pc := 21) hx hb dX2_comeBack_21 rfl (lv_at hl 0 rfl) ?_
          refine va_get (D := D) (pc := 22) (ci := 2) (v := .ref h_away) (C := RX2) (T := TX2) (N := 15) hx hb hts nX2_comeBack_X2 hown hK hP 0 rfl rfl 8 (by decide) (hts _ kX2_comeBack_2) (fun _ h9 => h9) rfl dX2_comeBack_22 ?_
          refine lv_iload_n (pc := 25) hx hb dX2_comeBack_25 rfl (lv_at hl 1 rfl) ?_
          refine lv_bipush (pc := 26) (v := (nI 99)) hx hb dX2_comeBack_26 (by decide) ?_
          refine lv_aload_n (pc := 28) hx hb dX2_comeBack_28 rfl (lv_at hl 0 rfl) ?_
          refine va_get (D := D) (pc := 29) (ci := 2) (v := .ref h_away) (C := RX2) (T := TX2) (N := 15) hx hb hts nX2_comeBack_X2 hown hK hP 0 rfl rfl 8 (by decide) (hts _ kX2_comeBack_2) (fun _ h9 => h9) rfl dX2_comeBack_29 ?_
          refine lv_iload_n (pc := 32) hx hb dX2_comeBack_32 rfl (lv_at hl 1 rfl) ?_
          refine za_iald (pc := 33) hx hb hK hP 5 1 rfl rfl dX2_comeBack_33 hF (fun hF => ?_)
          refine lv_iconst (pc := 34) (v := (nI 1)) hx hb dX2_comeBack_34 (by decide) ?_
          refine lv_iadd (pc := 35) hx hb dX2_comeBack_35 ?_
          refine va_mmin (pc := 36) hx hb (hml.trans hl.1.symm) hown (hts _ kX2_comeBack_3) (hts _ kX2_comeBack_4) (hts _ kX2_comeBack_5) (hts _ kX2_comeBack_6) (Nat.le_of_ble_eq_true rfl) (Nat.le_of_ble_eq_true rfl) (Nat.zero_le _) (Nat.zero_le _) dX2_comeBack_36 ?_
          refine za_iast (pc := 39) hx hb hK hP (zD_re hD rfl) hS 5 1 rfl rfl dX2_comeBack_39 hF (fun hF H locs hP hS => ?_)
          have hP : va_P D vwCl (wX2_comeBack cB cI cJ cO h0 h_kind h_hand h_size h_on h_away g_laws g_ground g_seen g_glances g_draws g_gained g_paintedOn g_wallLooks v_count v_nightsPassed v_kind v_hand v_size_2 v_on_3 (upd v_away_4 y1_1.toNatClampNeg (if ((v_away_4 y1_1.toNatClampNeg) + (nI 1)) < (nI 99) then ((v_away_4 y1_1.toNatClampNeg) + (nI 1)) else (nI 99)))) H := hP
          refine lv_aload_n (pc := 40) hx hb dX2_comeBack_40 rfl (lv_at hl 0 rfl) ?_
          refine va_get (D := D) (pc := 41) (ci := 2) (v := .ref h_away) (C := RX2) (T := TX2) (N := 15) hx hb hts nX2_comeBack_X2 hown hK hP 0 rfl rfl 8 (by decide) (hts _ kX2_comeBack_2) (fun _ h9 => h9) rfl dX2_comeBack_41 ?_
          refine lv_iload_n (pc := 44) hx hb dX2_comeBack_44 rfl (lv_at hl 1 rfl) ?_
          refine za_iald (pc := 45) hx hb hK hP 5 1 rfl rfl dX2_comeBack_45 hF (fun hF => ?_)
          refine lv_aload_n (pc := 46) hx hb dX2_comeBack_46 rfl (lv_at hl 0 rfl) ?_
          refine lv_iload_n (pc := 47) hx hb dX2_comeBack_47 rfl (lv_at hl 1 rfl) ?_
          obtain ⟨u48, hu48, hF⟩ := z_bind hF
          refine zq_call (oc0 := (some (.int u48))) (va_runV (As := [.int y1_1]) (rest := [.int ((upd v_away_4 y1_1.toNatClampNeg (if ((v_away_4 y1_1.toNatClampNeg) + (nI 1)) < (nI 99) then ((v_away_4 y1_1.toNatClampNeg) + (nI 1)) else (nI 99))) y1_1.toNatClampNeg)]) ⟨hx, hb, hml, hown, hts⟩ (tX2_backOf (l := l) (D := D) (cB := cB) (cI := cI) (cJ := cJ) (cO := cO) h0 h_kind h_hand g_laws g_ground g_seen (.int v_count) (.ref h_size) (.ref h_on) (.ref h_away) (.int v_nightsPassed) g_glances g_draws g_gained g_paintedOn g_wallLooks v_kind v_hand y1_1 u48 hu48) (cwV 1 hts gX2_comeBack_X2_backOf rfl rfl rfl (by decide +kernel) ⟨Nat.le_of_ble_eq_true rfl, Nat.le_of_ble_eq_true rfl⟩) ⟨zPre_blind, va_recv hK hP (ci := 2) (q0 := 0) rfl rfl, zPre_at hP hE (zD_re hD rfl) [0, 1, 2] rfl rfl⟩ rfl rfl hl.1 rfl (lv_room (Nat.le_of_ble_eq_true rfl)) dX2_comeBack_48 ⟨Nat.zero_le _, Nat.zero_le _⟩) ?_
          refine W.eq (g2 := F0 m 51 ls [.int u48, .int ((upd v_away_4 y1_1.toNatClampNeg (if ((v_away_4 y1_1.toNatClampNeg) + (nI 1)) < (nI 99) then ((v_away_4 y1_1.toNatClampNeg) + (nI 1)) else (nI 99))) y1_1.toNatClampNeg)]) rfl ?_
          refine zb_icmp_lt (pc := 51) (tgt := 88) hx hb dX2_comeBack_51 (by decide) hF (fun c_51 hF => ?_) (fun c_51 hF => ?_)
          · refine lv_iinc (pc := 88) (v := (y1_1 + 1)) (lv' := [(1, .int (y1_1 + 1)), (0, .ref h0)]) hx hb dX2_comeBack_88 hl (k := 1) rfl rfl (by decide) rfl (fun ls hl => ?_)
            refine lv_goto (pc := 91) (tgt := 2) hx hb dX2_comeBack_91 (by decide) ?_
            exact ih (y1_1 + 1) v_size_2 v_on_3 (upd v_away_4 y1_1.toNatClampNeg (if ((v_away_4 y1_1.toNatClampNeg) + (nI 1)) < (nI 99) then ((v_away_4 y1_1.toNatClampNeg) + (nI 1)) else (nI 99))) hF H locs hP hS ls (lv_sub hl [1, 0] rfl)
          · refine lv_aload_n (pc := 54) hx hb dX2_comeBack_54 rfl (lv_at hl 0 rfl) ?_
            refine va_get (D := D) (pc := 55) (ci := 2) (v := .ref h_on) (C := RX2) (T := TX2) (N := 15) hx hb hts nX2_comeBack_X2 hown hK hP 0 rfl rfl 7 (by decide) (hts _ kX2_comeBack_1) (fun _ h9 => h9) rfl dX2_comeBack_55 ?_
            refine lv_iload_n (pc := 58) hx hb dX2_comeBack_58 rfl (lv_at hl 1 rfl) ?_
            refine lv_aload_n (pc := 59) hx hb dX2_comeBack_59 rfl (lv_at hl 0 rfl) ?_
            refine va_get (D := D) (pc := 60) (ci := 2) (v := .ref h_hand) (C := RX2) (T := TX2) (N := 15) hx hb hts nX2_comeBack_X2 hown hK hP 0 rfl rfl 5 (by decide) (hts _ kX2_comeBack_7) (fun _ h9 => h9) rfl dX2_comeBack_60 ?_
            refine lv_iload_n (pc := 63) hx hb dX2_comeBack_63 rfl (lv_at hl 1 rfl) ?_
            refine za_iald (pc := 64) hx hb hK hP 2 1 rfl rfl dX2_comeBack_64 hF (fun hF => ?_)
            refine lv_aload_n (pc := 65) hx hb dX2_comeBack_65 rfl (lv_at hl 0 rfl) ?_
            refine va_get (D := D) (pc := 66) (ci := 2) (v := .int v_nightsPassed) (C := RX2) (T := TX2) (N := 15) hx hb hts nX2_comeBack_X2 hown hK hP 0 rfl rfl 9 (by decide) (hts _ kX2_comeBack_8) (fun _ h9 => h9) rfl dX2_comeBack_66 ?_
            refine lv_iadd (pc := 69) hx hb dX2_comeBack_69 ?_
            refine lv_bipush (pc := 70) (v := (nI 10)) hx hb dX2_comeBack_70 (by decide) ?_
            refine lv_irem (pc := 72) hx hb dX2_comeBack_72 (by decide) ?_
            refine za_iast (pc := 73) hx hb hK hP (zD_re hD rfl) hS 4 1 rfl rfl dX2_comeBack_73 hF (fun hF H locs hP hS => ?_)
            have hP : va_P D vwCl (wX2_comeBack cB cI cJ cO h0 h_kind h_hand h_size h_on h_away g_laws g_ground g_seen g_glances g_draws g_gained g_paintedOn g_wallLooks v_count v_nightsPassed v_kind v_hand v_size_2 (upd v_on_3 y1_1.toNatClampNeg (((v_hand y1_1.toNatClampNeg) + v_nightsPassed) - ((v_hand y1_1.toNatClampNeg) + v_nightsPassed) / (nI 10) * (nI 10))) (upd v_away_4 y1_1.toNatClampNeg (if ((v_away_4 y1_1.toNatClampNeg) + (nI 1)) < (nI 99) then ((v_away_4 y1_1.toNatClampNeg) + (nI 1)) else (nI 99)))) H := hP
            refine lv_aload_n (pc := 74) hx hb dX2_comeBack_74 rfl (lv_at hl 0 rfl) ?_
            refine va_get (D := D) (pc := 75) (ci := 2) (v := .ref h_away) (C := RX2) (T := TX2) (N := 15) hx hb hts nX2_comeBack_X2 hown hK hP 0 rfl rfl 8 (by decide) (hts _ kX2_comeBack_2) (fun _ h9 => h9) rfl dX2_comeBack_75 ?_
            refine lv_iload_n (pc := 78) hx hb dX2_comeBack_78 rfl (lv_at hl 1 rfl) ?_
            refine lv_iconst (pc := 79) (v := (nI 0)) hx hb dX2_comeBack_79 (by decide) ?_
            refine za_iast (pc := 80) hx hb hK hP (zD_re hD rfl) hS 5 1 rfl rfl dX2_comeBack_80 hF (fun hF H locs hP hS => ?_)
            have hP : va_P D vwCl (wX2_comeBack cB cI cJ cO h0 h_kind h_hand h_size h_on h_away g_laws g_ground g_seen g_glances g_draws g_gained g_paintedOn g_wallLooks v_count v_nightsPassed v_kind v_hand v_size_2 (upd v_on_3 y1_1.toNatClampNeg (((v_hand y1_1.toNatClampNeg) + v_nightsPassed) - ((v_hand y1_1.toNatClampNeg) + v_nightsPassed) / (nI 10) * (nI 10))) (upd (upd v_away_4 y1_1.toNatClampNeg (if ((v_away_4 y1_1.toNatClampNeg) + (nI 1)) < (nI 99) then ((v_away_4 y1_1.toNatClampNeg) + (nI 1)) else (nI 99))) y1_1.toNatClampNeg (nI 0))) H := hP
            refine lv_aload_n (pc := 81) hx hb dX2_comeBack_81 rfl (lv_at hl 0 rfl) ?_
            refine va_get (D := D) (pc := 82) (ci := 2) (v := .ref h_size) (C := RX2) (T := TX2) (N := 15) hx hb hts nX2_comeBack_X2 hown hK hP 0 rfl rfl 6 (by decide) (hts _ kX2_comeBack_9) (fun _ h9 => h9) rfl dX2_comeBack_82 ?_
            refine lv_iload_n (pc := 85) hx hb dX2_comeBack_85 rfl (lv_at hl 1 rfl) ?_
            refine lv_iconst (pc := 86) (v := (nI 5)) hx hb dX2_comeBack_86 (by decide) ?_
            refine za_iast (pc := 87) hx hb hK hP (zD_re hD rfl) hS 3 1 rfl rfl dX2_comeBack_87 hF (fun hF H locs hP hS => ?_)
            have hP : va_P D vwCl (wX2_comeBack cB cI cJ cO h0 h_kind h_hand h_size h_on h_away g_laws g_ground g_seen g_glances g_draws g_gained g_paintedOn g_wallLooks v_count v_nightsPassed v_kind v_hand (upd v_size_2 y1_1.toNatClampNeg (nI 5)) (upd v_on_3 y1_1.toNatClampNeg (((v_hand y1_1.toNatClampNeg) + v_nightsPassed) - ((v_hand y1_1.toNatClampNeg) + v_nightsPassed) / (nI 10) * (nI 10))) (upd (upd v_away_4 y1_1.toNatClampNeg (if ((v_away_4 y1_1.toNatClampNeg) + (nI 1)) < (nI 99) then ((v_away_4 y1_1.toNatClampNeg) + (nI 1)) else (nI 99))) y1_1.toNatClampNeg (nI 0))) H := hP
            refine lv_iinc (pc := 88) (v := (y1_1 + 1)) (lv' := [(1, .int (y1_1 + 1)), (0, .ref h0)]) hx hb dX2_comeBack_88 hl (k := 1) rfl rfl (by decide) rfl (fun ls hl => ?_)
            refine lv_goto (pc := 91) (tgt := 2) hx hb dX2_comeBack_91 (by decide) ?_
            exact ih (y1_1 + 1) (upd v_size_2 y1_1.toNatClampNeg (nI 5)) (upd v_on_3 y1_1.toNatClampNeg (((v_hand y1_1.toNatClampNeg) + v_nightsPassed) - ((v_hand y1_1.toNatClampNeg) + v_nightsPassed) / (nI 10) * (nI 10))) (upd (upd v_away_4 y1_1.toNatClampNeg (if ((v_away_4 y1_1.toNatClampNeg) + (nI 1)) < (nI 99) then ((v_away_4 y1_1.toNatClampNeg) + (nI 1)) else (nI 99))) y1_1.toNatClampNeg (nI 0)) hF H locs hP hS ls (lv_sub hl [1, 0] rfl)
  exact hL_2 zK (nI 0) v_size v_on v_away hF H locs hP hS ls (lv_sub hl [1, 0] rfl)

abbrev rX4_heldSize : Room := { frames := 1, cells := 0, slots := 0, locals := 24 }
theorem kX4_heldSize_0 : Cond.methodLink RX4 276 Lib.Math.min.name ∈ wsX4_heldSize := by decide +kernel
theorem kX4_heldSize_1 : Cond.static Lib.Math.min.name ∈ wsX4_heldSize := by decide +kernel
theorem kX4_heldSize_2 : Cond.initialized "java/lang/Math" ∈ wsX4_heldSize := by decide +kernel
theorem kX4_heldSize_3 : Cond.code Lib.Math.min.name Lib.Math.min.code 2 (some .int) ∈ wsX4_heldSize := by decide +kernel
theorem kX4_heldSize_4 : Cond.methodLink RX4 281 Lib.Math.max.name ∈ wsX4_heldSize := by decide +kernel
theorem kX4_heldSize_5 : Cond.static Lib.Math.max.name ∈ wsX4_heldSize := by decide +kernel
theorem kX4_heldSize_6 : Cond.code Lib.Math.max.name Lib.Math.max.code 2 (some .int) ∈ wsX4_heldSize := by decide +kernel
set_option maxHeartbeats 4000000 in
set_option maxRecDepth 100000 in
theorem tX4_heldSize {l : Launch} {D : va_G} {cB cI cJ cO : ClassId} (x0 : Int32) (r : Int32) (hF : fX4_heldSize x0 = some r) : Met l yX4_heldSize wsX4_heldSize rX4_heldSize (zPre D cB cI cJ cO [.int x0] ([] : va_W)) (zPI (some (.int r))) 0 0 (fun _ => False) := by
  refine zMetP (cc := cX4_heldSize) (maxL := 1) (ret := (some .int)) (lv := [(0, .int x0)]) (by decide) rfl (Nat.le_of_ble_eq_true rfl) rfl ?_
  intro p e s m args below meth c ls Q hQ hx hb hr hml hown hts hlocks hname hP hE hD hl
  have hown : s.vm.findClass RX4 = some m.cls := hown
  have hK := hE.1
  unfold fX4_heldSize at hF
  refine lv_iconst (pc := 0) (v := (nI 0)) hx hb dX4_heldSize_0 (by decide) ?_
  refine lv_bipush (pc := 1) (v := (nI 99)) hx hb dX4_heldSize_1 (by decide) ?_
  refine lv_iload_n (pc := 3) hx hb dX4_heldSize_3 rfl (lv_at hl 0 rfl) ?_
  refine va_mmin (pc := 4) hx hb (hml.trans hl.1.symm) hown (hts _ kX4_heldSize_0) (hts _ kX4_heldSize_1) (hts _ kX4_heldSize_2) (hts _ kX4_heldSize_3) (Nat.le_of_ble_eq_true rfl) (Nat.le_of_ble_eq_true rfl) (Nat.zero_le _) (Nat.zero_le _) dX4_heldSize_4 ?_
  refine va_mmax (pc := 7) hx hb (hml.trans hl.1.symm) hown (hts _ kX4_heldSize_4) (hts _ kX4_heldSize_5) (hts _ kX4_heldSize_2) (hts _ kX4_heldSize_6) (Nat.le_of_ble_eq_true rfl) (Nat.le_of_ble_eq_true rfl) (Nat.zero_le _) (Nat.zero_le _) dX4_heldSize_7 ?_
  exact z_iret (pc := 10) (fun q => q) hx hb hr hlocks hF rfl hQ dX4_heldSize_10

abbrev rX2_growAll : Room := { frames := 2, cells := 0, slots := 0, locals := 45 }
abbrev wX2_growAll (cB cI cJ cO : ClassId) (h0 h_laws h_ground h_kind h_size h_on : Nat) (g_seen g_hand g_away g_nightsPassed g_glances g_draws g_gained g_wallLooks : Value) (v_count : Int32) (v_paintedOn : Int32) (v_laws : Nat → Int32) (v_ground : Nat → Int32) (v_kind : Nat → Int32) (v_size : Nat → Int32) (v_on : Nat → Int32) : va_W := [(h0, .inr (2, [.ref h_laws, .ref h_ground, g_seen, .int v_count, .ref h_kind, g_hand, .ref h_size, .ref h_on, g_away, g_nightsPassed, g_glances, g_draws, g_gained, .int v_paintedOn, g_wallLooks])), (h_laws, .inl (cI, 4, .inl v_laws)), (h_ground, .inl (cI, 10, .inl v_ground)), (h_kind, .inl (cI, 8, .inl v_kind)), (h_size, .inl (cI, 8, .inl v_size)), (h_on, .inl (cI, 8, .inl v_on))]
theorem nX2_growAll_X2 : ∀ w ∈ wsX20, w ∈ wsX2_growAll := by decide +kernel
theorem kX2_growAll_0 : Cond.fieldLink RX2 49 "PaintedWalls$Town" "count" "I" ∈ wsX2_growAll := by decide +kernel
theorem kX2_growAll_1 : Cond.fieldLink RX2 30 "PaintedWalls$Town" "on" "[I" ∈ wsX2_growAll := by decide +kernel
theorem kX2_growAll_2 : Cond.fieldLink RX2 27 "PaintedWalls$Town" "size" "[I" ∈ wsX2_growAll := by decide +kernel
theorem kX2_growAll_3 : Cond.initialized RX4 ∈ wsX2_growAll := by decide +kernel
theorem kX2_growAll_4 : Cond.static yX4_heldSize ∈ wsX2_growAll := by decide +kernel
theorem kX2_growAll_5 : Cond.fieldLink RX2 61 "PaintedWalls$Town" "paintedOn" "I" ∈ wsX2_growAll := by decide +kernel
set_option maxHeartbeats 4000000 in
set_option maxRecDepth 100000 in
theorem tX2_growAll {l : Launch} {D : va_G} {cB cI cJ cO : ClassId} (h0 h_laws h_ground h_kind h_size h_on : Nat) (g_seen g_hand g_away g_nightsPassed g_glances g_draws g_gained g_wallLooks : Value) (v_count : Int32) (v_paintedOn : Int32) (v_laws : Nat → Int32) (v_ground : Nat → Int32) (v_kind : Nat → Int32) (v_size : Nat → Int32) (v_on : Nat → Int32) (r : Int32 × (Nat → Int32)) (hF : fX2_growAll v_count v_paintedOn v_laws v_ground v_kind v_size v_on = some r) : Met l yX2_growAll wsX2_growAll rX2_growAll (zPre D cB cI cJ cO [.ref h0] (wX2_growAll cB cI cJ cO h0 h_laws h_ground h_kind h_size h_on g_seen g_hand g_away g_nightsPassed g_glances g_draws g_gained g_wallLooks v_count v_paintedOn v_laws v_ground v_kind v_size v_on)) (zPM none D (wX2_growAll cB cI cJ cO h0 h_laws h_ground h_kind h_size h_on g_seen g_hand g_away g_nightsPassed g_glances g_draws g_gained g_wallLooks v_count r.1 v_laws v_ground v_kind r.2 v_on) (zAs [h0, h_laws, h_ground, h_kind, h_size, h_on])) 0 0 (zAs [h0, h_laws, h_ground, h_kind, h_size, h_on]) := by
  refine zMetM (cc := cX2_growAll) (maxL := 2) (ret := none) (lv := [(0, .ref h0)]) rfl (by decide) rfl (Nat.le_of_ble_eq_true rfl) rfl ?_
  intro p e s m args below meth c ls Q H locs hQ hx hb hr hml hown hts hlocks hname hP hE hD hS hl
  have hown : s.vm.findClass RX2 = some m.cls := hown
  have hK := hE.1
  unfold fX2_growAll at hF
  refine lv_iconst (pc := 0) (v := (nI 0)) hx hb dX2_growAll_0 (by decide) ?_
  refine lv_istore_n (pc := 1) (lv' := [(1, .int (nI 0)), (0, .ref h0)]) hx hb dX2_growAll_1 rfl hl (by decide) rfl (fun ls hl => ?_)
  obtain ⟨k_6, hk_6, hF⟩ := z_J hF
  have kk_6 : ∀ (v_paintedOn_4 : Int32) (v_size_5 : Nat → Int32) , k_6 v_paintedOn_4 v_size_5 = some r → ∀ (H : Heap) (locs : List Loc), va_P D vwCl (wX2_growAll cB cI cJ cO h0 h_laws h_ground h_kind h_size h_on g_seen g_hand g_away g_nightsPassed g_glances g_draws g_gained g_wallLooks v_count v_paintedOn_4 v_laws v_ground v_kind v_size_5 v_on) H → va_S (zAs [h0, h_laws, h_ground, h_kind, h_size, h_on]) s.heap H locs → ∀ (ls : Array Slot), lv_has ls 2 [] → W p l e rX2_growAll s m args below meth c H locs 0 0 Q (F0 m 65 ls []) := by
    intro v_paintedOn_4 v_size_5 hF H locs hP hS ls hl
    rw [hk_6] at hF
    exact z_vretM (pc := 65) (fun q => (wX2_growAll cB cI cJ cO h0 h_laws h_ground h_kind h_size h_on g_seen g_hand g_away g_nightsPassed g_glances g_draws g_gained g_wallLooks v_count q.1 v_laws v_ground v_kind q.2 v_on)) hx hb hr hlocks hP hS hF hQ dX2_growAll_65
  have hL_2 : ∀ (n : Nat) (y1_1 : Int32) (v_paintedOn_2 : Int32) (v_size_3 : Nat → Int32) , fX2_growAll_L2 v_count v_laws v_ground v_kind v_on k_6 n y1_1 v_paintedOn_2 v_size_3 = some r → ∀ (H : Heap) (locs : List Loc), va_P D vwCl (wX2_growAll cB cI cJ cO h0 h_laws h_ground h_kind h_size h_on g_seen g_hand g_away g_nightsPassed g_glances g_draws g_gained g_wallLooks v_count v_paintedOn_2 v_laws v_ground v_kind v_size_3 v_on) H → va_S (zAs [h0, h_laws, h_ground, h_kind, h_size, h_on]) s.heap H locs → ∀ (ls : Array Slot), lv_has ls 2 [(0, .ref h0), (1, .int y1_1)] → W p l e rX2_growAll s m args below meth c H locs 0 0 Q (F0 m 2 ls []) := by
    intro n
    induction n with
    | zero =>
      intro y1_1 v_paintedOn_2 v_size_3 hF H locs hP hS ls hl
      exact z_no hF
    | succ n ih =>
      intro y1_1 v_paintedOn_2 v_size_3 hF H locs hP hS ls hl
      rw [fX2_growAll_L2] at hF
      refine lv_iload_n (pc := 2) hx hb dX2_growAll_2 rfl (lv_at hl 1 rfl) ?_
      refine lv_aload_n (pc := 3) hx hb dX2_growAll_3 rfl (lv_at hl 0 rfl) ?_
      refine va_get (D := D) (pc := 4) (ci := 2) (v := .int v_count) (C := RX2) (T := TX2) (N := 15) hx hb hts nX2_growAll_X2 hown hK hP 0 rfl rfl 3 (by decide) (hts _ kX2_growAll_0) (fun _ h9 => h9) rfl dX2_growAll_4 ?_
      refine zb_icmp_ge (pc := 7) (tgt := 65) hx hb dX2_growAll_7 (by decide) hF (fun c_7 hF => ?_) (fun c_7 hF => ?_)
      · exact kk_6 v_paintedOn_2 v_size_3 hF H locs hP hS ls (lv_sub hl [] rfl)
      · refine lv_aload_n (pc := 10) hx hb dX2_growAll_10 rfl (lv_at hl 0 rfl) ?_
        refine va_get (D := D) (pc := 11) (ci := 2) (v := .ref h_on) (C := RX2) (T := TX2) (N := 15) hx hb hts nX2_growAll_X2 hown hK hP 0 rfl rfl 7 (by decide) (hts _ kX2_growAll_1) (fun _ h9 => h9) rfl dX2_growAll_11 ?_
        refine lv_iload_n (pc := 14) hx hb dX2_growAll_14 rfl (lv_at hl 1 rfl) ?_
        refine za_iald (pc := 15) hx hb hK hP 5 1 rfl rfl dX2_growAll_15 hF (fun hF => ?_)
        refine lv_bipush (pc := 16) (v := (nI 10)) hx hb dX2_growAll_16 (by decide) ?_
        refine zb_icmp_eq (pc := 18) (tgt := 59) hx hb dX2_growAll_18 (by decide) hF (fun c_18 hF => ?_) (fun c_18 hF => ?_)
        · refine lv_iinc (pc := 59) (v := (y1_1 + 1)) (lv' := [(1, .int (y1_1 + 1)), (0, .ref h0)]) hx hb dX2_growAll_59 hl (k := 1) rfl rfl (by decide) rfl (fun ls hl => ?_)
          refine lv_goto (pc := 62) (tgt := 2) hx hb dX2_growAll_62 (by decide) ?_
          exact ih (y1_1 + 1) v_paintedOn_2 v_size_3 hF H locs hP hS ls (lv_sub hl [1, 0] rfl)
        · refine lv_aload_n (pc := 21) hx hb dX2_growAll_21 rfl (lv_at hl 0 rfl) ?_
          refine va_get (D := D) (pc := 22) (ci := 2) (v := .ref h_size) (C := RX2) (T := TX2) (N := 15) hx hb hts nX2_growAll_X2 hown hK hP 0 rfl rfl 6 (by decide) (hts _ kX2_growAll_2) (fun _ h9 => h9) rfl dX2_growAll_22 ?_
          refine lv_iload_n (pc := 25) hx hb dX2_growAll_25 rfl (lv_at hl 1 rfl) ?_
          refine lv_aload_n (pc := 26) hx hb dX2_growAll_26 rfl (lv_at hl 0 rfl) ?_
          refine va_get (D := D) (pc := 27) (ci := 2) (v := .ref h_size) (C := RX2) (T := TX2) (N := 15) hx hb hts nX2_growAll_X2 hown hK hP 0 rfl rfl 6 (by decide) (hts _ kX2_growAll_2) (fun _ h9 => h9) rfl dX2_growAll_27 ?_
          refine lv_iload_n (pc := 30) hx hb dX2_growAll_30 rfl (lv_at hl 1 rfl) ?_
          refine za_iald (pc := 31) hx hb hK hP 4 1 rfl rfl dX2_growAll_31 hF (fun hF => ?_)
          refine lv_aload_n (pc := 32) hx hb dX2_growAll_32 rfl (lv_at hl 0 rfl) ?_
          refine lv_iload_n (pc := 33) hx hb dX2_growAll_33 rfl (lv_at hl 1 rfl) ?_
          obtain ⟨u34, hu34, hF⟩ := z_bind hF
          refine zq_call (oc0 := (some (.int u34))) (va_runV (As := [.int y1_1]) (rest := [.int (v_size_3 y1_1.toNatClampNeg), .int y1_1, .ref h_size]) ⟨hx, hb, hml, hown, hts⟩ (tX2_growsOf (l := l) (D := D) (cB := cB) (cI := cI) (cJ := cJ) (cO := cO) h0 h_laws h_ground h_kind h_on g_seen g_hand (.ref h_size) g_away g_nightsPassed g_glances g_draws g_gained (.int v_paintedOn_2) g_wallLooks v_count v_laws v_ground v_kind v_on y1_1 u34 hu34) (cwV 1 hts gX2_growAll_X2_growsOf rfl rfl rfl (by decide +kernel) ⟨Nat.le_of_ble_eq_true rfl, Nat.le_of_ble_eq_true rfl⟩) ⟨zPre_blind, va_recv hK hP (ci := 2) (q0 := 0) rfl rfl, zPre_at hP hE (zD_re hD rfl) [0, 1, 2, 3, 5] rfl rfl⟩ rfl rfl hl.1 rfl (lv_room (Nat.le_of_ble_eq_true rfl)) dX2_growAll_34 ⟨Nat.zero_le _, Nat.zero_le _⟩) ?_
          refine W.eq (g2 := F0 m 37 ls [.int u34, .int (v_size_3 y1_1.toNatClampNeg), .int y1_1, .ref h_size]) rfl ?_
          refine lv_iadd (pc := 37) hx hb dX2_growAll_37 ?_
          obtain ⟨u38, hu38, hF⟩ := z_bind hF
          refine zq_call (oc0 := (some (.int u38))) (va_runSN (As := [.int ((v_size_3 y1_1.toNatClampNeg) + u34)]) (rest := [.int y1_1, .ref h_size]) ⟨hx, hb, hml, hown, hts⟩ (tX4_heldSize (l := l) (D := D) (cB := cB) (cI := cI) (cJ := cJ) (cO := cO) ((v_size_3 y1_1.toNatClampNeg) + u34) u38 hu38) ⟨va_cnB 1 hts gX2_growAll_X4_heldSize_n114 rfl rfl rfl hE.2.2.1 (hts _ kX2_growAll_3) (by decide +kernel) ⟨Nat.le_of_ble_eq_true rfl, Nat.le_of_ble_eq_true rfl⟩, (hts _ kX2_growAll_4), trivial⟩ ⟨zPre_blind, zPre_at hP hE (zD_re hD rfl) [] rfl rfl⟩ rfl rfl hl.1 rfl (lv_room (Nat.le_of_ble_eq_true rfl)) dX2_growAll_38 ⟨Nat.zero_le _, Nat.zero_le _⟩) ?_
          refine W.eq (g2 := F0 m 41 ls [.int u38, .int y1_1, .ref h_size]) rfl ?_
          refine za_iast (pc := 41) hx hb hK hP (zD_re hD rfl) hS 4 1 rfl rfl dX2_growAll_41 hF (fun hF H locs hP hS => ?_)
          have hP : va_P D vwCl (wX2_growAll cB cI cJ cO h0 h_laws h_ground h_kind h_size h_on g_seen g_hand g_away g_nightsPassed g_glances g_draws g_gained g_wallLooks v_count v_paintedOn_2 v_laws v_ground v_kind (upd v_size_3 y1_1.toNatClampNeg u38) v_on) H := hP
          refine lv_aload_n (pc := 42) hx hb dX2_growAll_42 rfl (lv_at hl 0 rfl) ?_
          refine lv_dup (pc := 43) hx hb dX2_growAll_43 rfl ?_
          refine va_get (D := D) (pc := 44) (ci := 2) (v := .int v_paintedOn_2) (C := RX2) (T := TX2) (N := 15) hx hb hts nX2_growAll_X2 hown hK hP 0 rfl rfl 13 (by decide) (hts _ kX2_growAll_5) (fun _ h9 => h9) rfl dX2_growAll_44 ?_
          refine lv_iconst (pc := 47) (v := (nI 1)) hx hb dX2_growAll_47 (by decide) ?_
          refine lv_aload_n (pc := 48) hx hb dX2_growAll_48 rfl (lv_at hl 0 rfl) ?_
          refine va_get (D := D) (pc := 49) (ci := 2) (v := .ref h_on) (C := RX2) (T := TX2) (N := 15) hx hb hts nX2_growAll_X2 hown hK hP 0 rfl rfl 7 (by decide) (hts _ kX2_growAll_1) (fun _ h9 => h9) rfl dX2_growAll_49 ?_
          refine lv_iload_n (pc := 52) hx hb dX2_growAll_52 rfl (lv_at hl 1 rfl) ?_
          refine za_iald (pc := 53) hx hb hK hP 5 1 rfl rfl dX2_growAll_53 hF (fun hF => ?_)
          refine lv_ishl (pc := 54) hx hb dX2_growAll_54 ?_
          refine lv_ior (pc := 55) hx hb dX2_growAll_55 ?_
          refine va_put (D := D) (pc := 56) (ci := 2) (v := .int (v_paintedOn_2 ||| ((nI 1) <<< ((v_on y1_1.toNatClampNeg) &&& 31)))) (ty := .int) (C := RX2) (T := TX2) (N := 15) hx hb hts nX2_growAll_X2 tyX2 tyX2_ok nmX2 hown hK hP (zD_re hD rfl) hS 0 rfl rfl 13 (by decide) (hts _ kX2_growAll_5) (fun _ h9 => h9) rfl (tyX2_ok 13 (by decide)) rfl rfl (Nat.le_of_ble_eq_true rfl) dX2_growAll_56 (fun H locs hP _ hS => ?_)
          have hP : va_P D vwCl (wX2_growAll cB cI cJ cO h0 h_laws h_ground h_kind h_size h_on g_seen g_hand g_away g_nightsPassed g_glances g_draws g_gained g_wallLooks v_count (v_paintedOn_2 ||| ((nI 1) <<< ((v_on y1_1.toNatClampNeg) &&& 31))) v_laws v_ground v_kind (upd v_size_3 y1_1.toNatClampNeg u38) v_on) H := hP
          refine lv_iinc (pc := 59) (v := (y1_1 + 1)) (lv' := [(1, .int (y1_1 + 1)), (0, .ref h0)]) hx hb dX2_growAll_59 hl (k := 1) rfl rfl (by decide) rfl (fun ls hl => ?_)
          refine lv_goto (pc := 62) (tgt := 2) hx hb dX2_growAll_62 (by decide) ?_
          exact ih (y1_1 + 1) (v_paintedOn_2 ||| ((nI 1) <<< ((v_on y1_1.toNatClampNeg) &&& 31))) (upd v_size_3 y1_1.toNatClampNeg u38) hF H locs hP hS ls (lv_sub hl [1, 0] rfl)
  exact hL_2 zK (nI 0) v_paintedOn v_size hF H locs hP hS ls (lv_sub hl [1, 0] rfl)

abbrev rX2_busiestWall : Room := { frames := 0, cells := 0, slots := 0, locals := 0 }
abbrev wX2_busiestWall (cB cI cJ cO : ClassId) (h0 h_seen h_size h_on h_wallLooks : Nat) (g_laws g_ground g_kind g_hand g_away g_nightsPassed g_glances g_draws g_gained g_paintedOn : Value) (v_count : Int32) (v_seen : Nat → Int32) (v_size : Nat → Int32) (v_on : Nat → Int32) (v_wallLooks : Nat → Int32) : va_W := [(h0, .inr (2, [g_laws, g_ground, .ref h_seen, .int v_count, g_kind, g_hand, .ref h_size, .ref h_on, g_away, g_nightsPassed, g_glances, g_draws, g_gained, g_paintedOn, .ref h_wallLooks])), (h_seen, .inl (cI, 10, .inl v_seen)), (h_size, .inl (cI, 8, .inl v_size)), (h_on, .inl (cI, 8, .inl v_on)), (h_wallLooks, .inl (cI, 10, .inl v_wallLooks))]
theorem nX2_busiestWall_X2 : ∀ w ∈ wsX20, w ∈ wsX2_busiestWall := by decide +kernel
theorem kX2_busiestWall_0 : Cond.fieldLink RX2 40 "PaintedWalls$Town" "wallLooks" "[I" ∈ wsX2_busiestWall := by decide +kernel
theorem kX2_busiestWall_1 : Cond.fieldLink RX2 49 "PaintedWalls$Town" "count" "I" ∈ wsX2_busiestWall := by decide +kernel
theorem kX2_busiestWall_2 : Cond.fieldLink RX2 30 "PaintedWalls$Town" "on" "[I" ∈ wsX2_busiestWall := by decide +kernel
theorem kX2_busiestWall_3 : Cond.fieldLink RX2 18 "PaintedWalls$Town" "seen" "[I" ∈ wsX2_busiestWall := by decide +kernel
theorem kX2_busiestWall_4 : Cond.fieldLink RX2 27 "PaintedWalls$Town" "size" "[I" ∈ wsX2_busiestWall := by decide +kernel
set_option maxHeartbeats 4000000 in
set_option maxRecDepth 100000 in
theorem tX2_busiestWall {l : Launch} {D : va_G} {cB cI cJ cO : ClassId} (h0 h_seen h_size h_on h_wallLooks : Nat) (g_laws g_ground g_kind g_hand g_away g_nightsPassed g_glances g_draws g_gained g_paintedOn : Value) (v_count : Int32) (v_seen : Nat → Int32) (v_size : Nat → Int32) (v_on : Nat → Int32) (v_wallLooks : Nat → Int32) (r : Int32 × (Nat → Int32)) (hF : fX2_busiestWall v_count v_seen v_size v_on v_wallLooks = some r) : Met l yX2_busiestWall wsX2_busiestWall rX2_busiestWall (zPre D cB cI cJ cO [.ref h0] (wX2_busiestWall cB cI cJ cO h0 h_seen h_size h_on h_wallLooks g_laws g_ground g_kind g_hand g_away g_nightsPassed g_glances g_draws g_gained g_paintedOn v_count v_seen v_size v_on v_wallLooks)) (zPM (some (.int r.1)) D (wX2_busiestWall cB cI cJ cO h0 h_seen h_size h_on h_wallLooks g_laws g_ground g_kind g_hand g_away g_nightsPassed g_glances g_draws g_gained g_paintedOn v_count v_seen v_size v_on r.2) (zAs [h0, h_seen, h_size, h_on, h_wallLooks])) 0 0 (zAs [h0, h_seen, h_size, h_on, h_wallLooks]) := by
  refine zMetM (cc := cX2_busiestWall) (maxL := 4) (ret := (some .int)) (lv := [(0, .ref h0)]) rfl (by decide) rfl (Nat.le_of_ble_eq_true rfl) rfl ?_
  intro p e s m args below meth c ls Q H locs hQ hx hb hr hml hown hts hlocks hname hP hE hD hS hl
  have hown : s.vm.findClass RX2 = some m.cls := hown
  have hK := hE.1
  unfold fX2_busiestWall at hF
  refine lv_iconst (pc := 0) (v := (nI 0)) hx hb dX2_busiestWall_0 (by decide) ?_
  refine lv_istore_n (pc := 1) (lv' := [(1, .int (nI 0)), (0, .ref h0)]) hx hb dX2_busiestWall_1 rfl hl (by decide) rfl (fun ls hl => ?_)
  obtain ⟨k_4, hk_4, hF⟩ := z_J hF
  have kk_4 : ∀ (v_wallLooks_3 : Nat → Int32) , k_4 v_wallLooks_3 = some r → ∀ (H : Heap) (locs : List Loc), va_P D vwCl (wX2_busiestWall cB cI cJ cO h0 h_seen h_size h_on h_wallLooks g_laws g_ground g_kind g_hand g_away g_nightsPassed g_glances g_draws g_gained g_paintedOn v_count v_seen v_size v_on v_wallLooks_3) H → va_S (zAs [h0, h_seen, h_size, h_on, h_wallLooks]) s.heap H locs → ∀ (ls : Array Slot), lv_has ls 4 [(0, .ref h0)] → W p l e rX2_busiestWall s m args below meth c H locs 0 0 Q (F0 m 21 ls []) := by
    intro v_wallLooks_3 hF H locs hP hS ls hl
    rw [hk_4] at hF
    refine lv_iconst (pc := 21) (v := (nI 0)) hx hb dX2_busiestWall_21 (by decide) ?_
    refine lv_istore_n (pc := 22) (lv' := [(1, .int (nI 0)), (0, .ref h0)]) hx hb dX2_busiestWall_22 rfl hl (by decide) rfl (fun ls hl => ?_)
    obtain ⟨k_8, hk_8, hF⟩ := z_J hF
    have kk_8 : ∀ (v_wallLooks_7 : Nat → Int32) , k_8 v_wallLooks_7 = some r → ∀ (H : Heap) (locs : List Loc), va_P D vwCl (wX2_busiestWall cB cI cJ cO h0 h_seen h_size h_on h_wallLooks g_laws g_ground g_kind g_hand g_away g_nightsPassed g_glances g_draws g_gained g_paintedOn v_count v_seen v_size v_on v_wallLooks_7) H → va_S (zAs [h0, h_seen, h_size, h_on, h_wallLooks]) s.heap H locs → ∀ (ls : Array Slot), lv_has ls 4 [(0, .ref h0)] → W p l e rX2_busiestWall s m args below meth c H locs 0 0 Q (F0 m 80 ls []) := by
      intro v_wallLooks_7 hF H locs hP hS ls hl
      rw [hk_8] at hF
      refine lv_iconst (pc := 80) (v := (-1 : Int32)) hx hb dX2_busiestWall_80 (by decide) ?_
      refine lv_istore_n (pc := 81) (lv' := [(1, .int (-1 : Int32)), (0, .ref h0)]) hx hb dX2_busiestWall_81 rfl hl (by decide) rfl (fun ls hl => ?_)
      refine lv_iconst (pc := 82) (v := (nI 0)) hx hb dX2_busiestWall_82 (by decide) ?_
      refine lv_istore_n (pc := 83) (lv' := [(2, .int (nI 0)), (1, .int (-1 : Int32)), (0, .ref h0)]) hx hb dX2_busiestWall_83 rfl hl (by decide) rfl (fun ls hl => ?_)
      refine lv_iconst (pc := 84) (v := (nI 0)) hx hb dX2_busiestWall_84 (by decide) ?_
      refine lv_istore_n (pc := 85) (lv' := [(3, .int (nI 0)), (2, .int (nI 0)), (1, .int (-1 : Int32)), (0, .ref h0)]) hx hb dX2_busiestWall_85 rfl hl (by decide) rfl (fun ls hl => ?_)
      obtain ⟨k_13, hk_13, hF⟩ := z_J hF
      have kk_13 : ∀ (y1_12 : Int32) , k_13 y1_12 = some r → ∀ (H : Heap) (locs : List Loc), va_P D vwCl (wX2_busiestWall cB cI cJ cO h0 h_seen h_size h_on h_wallLooks g_laws g_ground g_kind g_hand g_away g_nightsPassed g_glances g_draws g_gained g_paintedOn v_count v_seen v_size v_on v_wallLooks_7) H → va_S (zAs [h0, h_seen, h_size, h_on, h_wallLooks]) s.heap H locs → ∀ (ls : Array Slot), lv_has ls 4 [(1, .int y1_12)] → W p l e rX2_busiestWall s m args below meth c H locs 0 0 Q (F0 m 117 ls []) := by
        intro y1_12 hF H locs hP hS ls hl
        rw [hk_13] at hF
        refine lv_iload_n (pc := 117) hx hb dX2_busiestWall_117 rfl (lv_at hl 0 rfl) ?_
        exact z_iretM (pc := 118) (fun q => q.1) (fun q => (wX2_busiestWall cB cI cJ cO h0 h_seen h_size h_on h_wallLooks g_laws g_ground g_kind g_hand g_away g_nightsPassed g_glances g_draws g_gained g_paintedOn v_count v_seen v_size v_on q.2)) hx hb hr hlocks hP hS hF rfl hQ dX2_busiestWall_118
      have hL_86 : ∀ (n : Nat) (y1_9 : Int32) (y2_10 : Int32) (y3_11 : Int32) , fX2_busiestWall_L86 v_wallLooks_7 k_13 n y1_9 y2_10 y3_11 = some r → ∀ (H : Heap) (locs : List Loc), va_P D vwCl (wX2_busiestWall cB cI cJ cO h0 h_seen h_size h_on h_wallLooks g_laws g_ground g_kind g_hand g_away g_nightsPassed g_glances g_draws g_gained g_paintedOn v_count v_seen v_size v_on v_wallLooks_7) H → va_S (zAs [h0, h_seen, h_size, h_on, h_wallLooks]) s.heap H locs → ∀ (ls : Array Slot), lv_has ls 4 [(0, .ref h0), (1, .int y1_9), (2, .int y2_10), (3, .int y3_11)] → W p l e rX2_busiestWall s m args below meth c H locs 0 0 Q (F0 m 86 ls []) := by
        intro n
        induction n with
        | zero =>
          intro y1_9 y2_10 y3_11 hF H locs hP hS ls hl
          exact z_no hF
        | succ n ih =>
          intro y1_9 y2_10 y3_11 hF H locs hP hS ls hl
          rw [fX2_busiestWall_L86] at hF
          refine lv_iload_n (pc := 86) hx hb dX2_busiestWall_86 rfl (lv_at hl 3 rfl) ?_
          refine lv_bipush (pc := 87) (v := (nI 10)) hx hb dX2_busiestWall_87 (by decide) ?_
          refine zb_icmp_ge (pc := 89) (tgt := 117) hx hb dX2_busiestWall_89 (by decide) hF (fun c_89 hF => ?_) (fun c_89 hF => ?_)
          · exact kk_13 y1_9 hF H locs hP hS ls (lv_sub hl [1] rfl)
          · refine lv_aload_n (pc := 92) hx hb dX2_busiestWall_92 rfl (lv_at hl 0 rfl) ?_
            refine va_get (D := D) (pc := 93) (ci := 2) (v := .ref h_wallLooks) (C := RX2) (T := TX2) (N := 15) hx hb hts nX2_busiestWall_X2 hown hK hP 0 rfl rfl 14 (by decide) (hts _ kX2_busiestWall_0) (fun _ h9 => h9) rfl dX2_busiestWall_93 ?_
            refine lv_iload_n (pc := 96) hx hb dX2_busiestWall_96 rfl (lv_at hl 3 rfl) ?_
            refine za_iald (pc := 97) hx hb hK hP 4 1 rfl rfl dX2_busiestWall_97 hF (fun hF => ?_)
            refine lv_iload_n (pc := 98) hx hb dX2_busiestWall_98 rfl (lv_at hl 2 rfl) ?_
            refine zb_icmp_le (pc := 99) (tgt := 111) hx hb dX2_busiestWall_99 (by decide) hF (fun c_99 hF => ?_) (fun c_99 hF => ?_)
            · refine lv_iinc (pc := 111) (v := (y3_11 + 1)) (lv' := [(3, .int (y3_11 + 1)), (0, .ref h0), (1, .int y1_9), (2, .int y2_10)]) hx hb dX2_busiestWall_111 hl (k := 3) rfl rfl (by decide) rfl (fun ls hl => ?_)
              refine lv_goto (pc := 114) (tgt := 86) hx hb dX2_busiestWall_114 (by decide) ?_
              exact ih y1_9 y2_10 (y3_11 + 1) hF H locs hP hS ls (lv_sub hl [1, 2, 3, 0] rfl)
            · refine lv_aload_n (pc := 102) hx hb dX2_busiestWall_102 rfl (lv_at hl 0 rfl) ?_
              refine va_get (D := D) (pc := 103) (ci := 2) (v := .ref h_wallLooks) (C := RX2) (T := TX2) (N := 15) hx hb hts nX2_busiestWall_X2 hown hK hP 0 rfl rfl 14 (by decide) (hts _ kX2_busiestWall_0) (fun _ h9 => h9) rfl dX2_busiestWall_103 ?_
              refine lv_iload_n (pc := 106) hx hb dX2_busiestWall_106 rfl (lv_at hl 3 rfl) ?_
              refine za_iald (pc := 107) hx hb hK hP 4 1 rfl rfl dX2_busiestWall_107 hF (fun hF => ?_)
              refine lv_istore_n (pc := 108) (lv' := [(2, .int (v_wallLooks_7 y3_11.toNatClampNeg)), (0, .ref h0), (1, .int y1_9), (3, .int y3_11)]) hx hb dX2_busiestWall_108 rfl hl (by decide) rfl (fun ls hl => ?_)
              refine lv_iload_n (pc := 109) hx hb dX2_busiestWall_109 rfl (lv_at hl 3 rfl) ?_
              refine lv_istore_n (pc := 110) (lv' := [(1, .int y3_11), (2, .int (v_wallLooks_7 y3_11.toNatClampNeg)), (0, .ref h0), (3, .int y3_11)]) hx hb dX2_busiestWall_110 rfl hl (by decide) rfl (fun ls hl => ?_)
              refine lv_iinc (pc := 111) (v := (y3_11 + 1)) (lv' := [(3, .int (y3_11 + 1)), (1, .int y3_11), (2, .int (v_wallLooks_7 y3_11.toNatClampNeg)), (0, .ref h0)]) hx hb dX2_busiestWall_111 hl (k := 3) rfl rfl (by decide) rfl (fun ls hl => ?_)
              refine lv_goto (pc := 114) (tgt := 86) hx hb dX2_busiestWall_114 (by decide) ?_
              exact ih y3_11 (v_wallLooks_7 y3_11.toNatClampNeg) (y3_11 + 1) hF H locs hP hS ls (lv_sub hl [3, 1, 2, 0] rfl)
      exact hL_86 zK (-1 : Int32) (nI 0) (nI 0) hF H locs hP hS ls (lv_sub hl [3, 2, 1, 0] rfl)
    have hL_23 : ∀ (n : Nat) (y1_5 : Int32) (v_wallLooks_6 : Nat → Int32) , fX2_busiestWall_L23 v_count v_seen v_size v_on k_8 n y1_5 v_wallLooks_6 = some r → ∀ (H : Heap) (locs : List Loc), va_P D vwCl (wX2_busiestWall cB cI cJ cO h0 h_seen h_size h_on h_wallLooks g_laws g_ground g_kind g_hand g_away g_nightsPassed g_glances g_draws g_gained g_paintedOn v_count v_seen v_size v_on v_wallLooks_6) H → va_S (zAs [h0, h_seen, h_size, h_on, h_wallLooks]) s.heap H locs → ∀ (ls : Array Slot), lv_has ls 4 [(0, .ref h0), (1, .int y1_5)] → W p l e rX2_busiestWall s m args below meth c H locs 0 0 Q (F0 m 23 ls []) := by
      intro n
      induction n with
      | zero =>
        intro y1_5 v_wallLooks_6 hF H locs hP hS ls hl
        exact z_no hF
      | succ n ih =>
        intro y1_5 v_wallLooks_6 hF H locs hP hS ls hl
        rw [fX2_busiestWall_L23] at hF
        refine lv_iload_n (pc := 23) hx hb dX2_busiestWall_23 rfl (lv_at hl 1 rfl) ?_
        refine lv_aload_n (pc := 24) hx hb dX2_busiestWall_24 rfl (lv_at hl 0 rfl) ?_
        refine va_get (D := D) (pc := 25) (ci := 2) (v := .int v_count) (C := RX2) (T := TX2) (N := 15) hx hb hts nX2_busiestWall_X2 hown hK hP 0 rfl rfl 3 (by decide) (hts _ kX2_busiestWall_1) (fun _ h9 => h9) rfl dX2_busiestWall_25 ?_
        refine zb_icmp_ge (pc := 28) (tgt := 80) hx hb dX2_busiestWall_28 (by decide) hF (fun c_28 hF => ?_) (fun c_28 hF => ?_)
        · exact kk_8 v_wallLooks_6 hF H locs hP hS ls (lv_sub hl [0] rfl)
        · refine lv_aload_n (pc := 31) hx hb dX2_busiestWall_31 rfl (lv_at hl 0 rfl) ?_
          refine va_get (D := D) (pc := 32) (ci := 2) (v := .ref h_on) (C := RX2) (T := TX2) (N := 15) hx hb hts nX2_busiestWall_X2 hown hK hP 0 rfl rfl 7 (by decide) (hts _ kX2_busiestWall_2) (fun _ h9 => h9) rfl dX2_busiestWall_32 ?_
          refine lv_iload_n (pc := 35) hx hb dX2_busiestWall_35 rfl (lv_at hl 1 rfl) ?_
          refine za_iald (pc := 36) hx hb hK hP 3 1 rfl rfl dX2_busiestWall_36 hF (fun hF => ?_)
          refine lv_bipush (pc := 37) (v := (nI 10)) hx hb dX2_busiestWall_37 (by decide) ?_
          refine zb_icmp_eq (pc := 39) (tgt := 74) hx hb dX2_busiestWall_39 (by decide) hF (fun c_39 hF => ?_) (fun c_39 hF => ?_)
          · refine lv_iinc (pc := 74) (v := (y1_5 + 1)) (lv' := [(1, .int (y1_5 + 1)), (0, .ref h0)]) hx hb dX2_busiestWall_74 hl (k := 1) rfl rfl (by decide) rfl (fun ls hl => ?_)
            refine lv_goto (pc := 77) (tgt := 23) hx hb dX2_busiestWall_77 (by decide) ?_
            exact ih (y1_5 + 1) v_wallLooks_6 hF H locs hP hS ls (lv_sub hl [1, 0] rfl)
          · refine lv_aload_n (pc := 42) hx hb dX2_busiestWall_42 rfl (lv_at hl 0 rfl) ?_
            refine va_get (D := D) (pc := 43) (ci := 2) (v := .ref h_wallLooks) (C := RX2) (T := TX2) (N := 15) hx hb hts nX2_busiestWall_X2 hown hK hP 0 rfl rfl 14 (by decide) (hts _ kX2_busiestWall_0) (fun _ h9 => h9) rfl dX2_busiestWall_43 ?_
            refine lv_aload_n (pc := 46) hx hb dX2_busiestWall_46 rfl (lv_at hl 0 rfl) ?_
            refine va_get (D := D) (pc := 47) (ci := 2) (v := .ref h_on) (C := RX2) (T := TX2) (N := 15) hx hb hts nX2_busiestWall_X2 hown hK hP 0 rfl rfl 7 (by decide) (hts _ kX2_busiestWall_2) (fun _ h9 => h9) rfl dX2_busiestWall_47 ?_
            refine lv_iload_n (pc := 50) hx hb dX2_busiestWall_50 rfl (lv_at hl 1 rfl) ?_
            refine za_iald (pc := 51) hx hb hK hP 3 1 rfl rfl dX2_busiestWall_51 hF (fun hF => ?_)
            refine lv_dup2_11 (pc := 52) hx hb dX2_busiestWall_52 rfl rfl ?_
            refine za_iald (pc := 53) hx hb hK hP 4 1 rfl rfl dX2_busiestWall_53 hF (fun hF => ?_)
            refine lv_aload_n (pc := 54) hx hb dX2_busiestWall_54 rfl (lv_at hl 0 rfl) ?_
            refine va_get (D := D) (pc := 55) (ci := 2) (v := .ref h_seen) (C := RX2) (T := TX2) (N := 15) hx hb hts nX2_busiestWall_X2 hown hK hP 0 rfl rfl 2 (by decide) (hts _ kX2_busiestWall_3) (fun _ h9 => h9) rfl dX2_busiestWall_55 ?_
            refine lv_aload_n (pc := 58) hx hb dX2_busiestWall_58 rfl (lv_at hl 0 rfl) ?_
            refine va_get (D := D) (pc := 59) (ci := 2) (v := .ref h_on) (C := RX2) (T := TX2) (N := 15) hx hb hts nX2_busiestWall_X2 hown hK hP 0 rfl rfl 7 (by decide) (hts _ kX2_busiestWall_2) (fun _ h9 => h9) rfl dX2_busiestWall_59 ?_
            refine lv_iload_n (pc := 62) hx hb dX2_busiestWall_62 rfl (lv_at hl 1 rfl) ?_
            refine za_iald (pc := 63) hx hb hK hP 3 1 rfl rfl dX2_busiestWall_63 hF (fun hF => ?_)
            refine za_iald (pc := 64) hx hb hK hP 1 1 rfl rfl dX2_busiestWall_64 hF (fun hF => ?_)
            refine lv_aload_n (pc := 65) hx hb dX2_busiestWall_65 rfl (lv_at hl 0 rfl) ?_
            refine va_get (D := D) (pc := 66) (ci := 2) (v := .ref h_size) (C := RX2) (T := TX2) (N := 15) hx hb hts nX2_busiestWall_X2 hown hK hP 0 rfl rfl 6 (by decide) (hts _ kX2_busiestWall_4) (fun _ h9 => h9) rfl dX2_busiestWall_66 ?_
            refine lv_iload_n (pc := 69) hx hb dX2_busiestWall_69 rfl (lv_at hl 1 rfl) ?_
            refine za_iald (pc := 70) hx hb hK hP 2 1 rfl rfl dX2_busiestWall_70 hF (fun hF => ?_)
            refine lv_imul (pc := 71) hx hb dX2_busiestWall_71 ?_
            refine lv_iadd (pc := 72) hx hb dX2_busiestWall_72 ?_
            refine za_iast (pc := 73) hx hb hK hP (zD_re hD rfl) hS 4 1 rfl rfl dX2_busiestWall_73 hF (fun hF H locs hP hS => ?_)
            have hP : va_P D vwCl (wX2_busiestWall cB cI cJ cO h0 h_seen h_size h_on h_wallLooks g_laws g_ground g_kind g_hand g_away g_nightsPassed g_glances g_draws g_gained g_paintedOn v_count v_seen v_size v_on (upd v_wallLooks_6 (v_on y1_5.toNatClampNeg).toNatClampNeg ((v_wallLooks_6 (v_on y1_5.toNatClampNeg).toNatClampNeg) + ((v_seen (v_on y1_5.toNatClampNeg).toNatClampNeg) * (v_size y1_5.toNatClampNeg))))) H := hP
            refine lv_iinc (pc := 74) (v := (y1_5 + 1)) (lv' := [(1, .int (y1_5 + 1)), (0, .ref h0)]) hx hb dX2_busiestWall_74 hl (k := 1) rfl rfl (by decide) rfl (fun ls hl => ?_)
            refine lv_goto (pc := 77) (tgt := 23) hx hb dX2_busiestWall_77 (by decide) ?_
            exact ih (y1_5 + 1) (upd v_wallLooks_6 (v_on y1_5.toNatClampNeg).toNatClampNeg ((v_wallLooks_6 (v_on y1_5.toNatClampNeg).toNatClampNeg) + ((v_seen (v_on y1_5.toNatClampNeg).toNatClampNeg) * (v_size y1_5.toNatClampNeg)))) hF H locs hP hS ls (lv_sub hl [1, 0] rfl)
    exact hL_23 zK (nI 0) v_wallLooks_3 hF H locs hP hS ls (lv_sub hl [1, 0] rfl)
  have hL_2 : ∀ (n : Nat) (y1_1 : Int32) (v_wallLooks_2 : Nat → Int32) , fX2_busiestWall_L2 k_4 n y1_1 v_wallLooks_2 = some r → ∀ (H : Heap) (locs : List Loc), va_P D vwCl (wX2_busiestWall cB cI cJ cO h0 h_seen h_size h_on h_wallLooks g_laws g_ground g_kind g_hand g_away g_nightsPassed g_glances g_draws g_gained g_paintedOn v_count v_seen v_size v_on v_wallLooks_2) H → va_S (zAs [h0, h_seen, h_size, h_on, h_wallLooks]) s.heap H locs → ∀ (ls : Array Slot), lv_has ls 4 [(0, .ref h0), (1, .int y1_1)] → W p l e rX2_busiestWall s m args below meth c H locs 0 0 Q (F0 m 2 ls []) := by
    intro n
    induction n with
    | zero =>
      intro y1_1 v_wallLooks_2 hF H locs hP hS ls hl
      exact z_no hF
    | succ n ih =>
      intro y1_1 v_wallLooks_2 hF H locs hP hS ls hl
      rw [fX2_busiestWall_L2] at hF
      refine lv_iload_n (pc := 2) hx hb dX2_busiestWall_2 rfl (lv_at hl 1 rfl) ?_
      refine lv_bipush (pc := 3) (v := (nI 10)) hx hb dX2_busiestWall_3 (by decide) ?_
      refine zb_icmp_ge (pc := 5) (tgt := 21) hx hb dX2_busiestWall_5 (by decide) hF (fun c_5 hF => ?_) (fun c_5 hF => ?_)
      · exact kk_4 v_wallLooks_2 hF H locs hP hS ls (lv_sub hl [0] rfl)
      · refine lv_aload_n (pc := 8) hx hb dX2_busiestWall_8 rfl (lv_at hl 0 rfl) ?_
        refine va_get (D := D) (pc := 9) (ci := 2) (v := .ref h_wallLooks) (C := RX2) (T := TX2) (N := 15) hx hb hts nX2_busiestWall_X2 hown hK hP 0 rfl rfl 14 (by decide) (hts _ kX2_busiestWall_0) (fun _ h9 => h9) rfl dX2_busiestWall_9 ?_
        refine lv_iload_n (pc := 12) hx hb dX2_busiestWall_12 rfl (lv_at hl 1 rfl) ?_
        refine lv_iconst (pc := 13) (v := (nI 0)) hx hb dX2_busiestWall_13 (by decide) ?_
        refine za_iast (pc := 14) hx hb hK hP (zD_re hD rfl) hS 4 1 rfl rfl dX2_busiestWall_14 hF (fun hF H locs hP hS => ?_)
        have hP : va_P D vwCl (wX2_busiestWall cB cI cJ cO h0 h_seen h_size h_on h_wallLooks g_laws g_ground g_kind g_hand g_away g_nightsPassed g_glances g_draws g_gained g_paintedOn v_count v_seen v_size v_on (upd v_wallLooks_2 y1_1.toNatClampNeg (nI 0))) H := hP
        refine lv_iinc (pc := 15) (v := (y1_1 + 1)) (lv' := [(1, .int (y1_1 + 1)), (0, .ref h0)]) hx hb dX2_busiestWall_15 hl (k := 1) rfl rfl (by decide) rfl (fun ls hl => ?_)
        refine lv_goto (pc := 18) (tgt := 2) hx hb dX2_busiestWall_18 (by decide) ?_
        exact ih (y1_1 + 1) (upd v_wallLooks_2 y1_1.toNatClampNeg (nI 0)) hF H locs hP hS ls (lv_sub hl [1, 0] rfl)
  exact hL_2 zK (nI 0) v_wallLooks hF H locs hP hS ls (lv_sub hl [1, 0] rfl)

abbrev rX2_passNight : Room := { frames := 3, cells := 0, slots := 0, locals := 69 }
abbrev wX2_passNight (cB cI cJ cO : ClassId) (h0 h_laws h_ground h_seen h_kind h_hand h_size h_on h_away h_wallLooks : Nat) (g_draws : Value) (v_count : Int32) (v_nightsPassed : Int32) (v_glances : Int32) (v_gained : Int32) (v_paintedOn : Int32) (v_laws : Nat → Int32) (v_ground : Nat → Int32) (v_seen : Nat → Int32) (v_kind : Nat → Int32) (v_hand : Nat → Int32) (v_size : Nat → Int32) (v_on : Nat → Int32) (v_away : Nat → Int32) (v_wallLooks : Nat → Int32) : va_W := [(h0, .inr (2, [.ref h_laws, .ref h_ground, .ref h_seen, .int v_count, .ref h_kind, .ref h_hand, .ref h_size, .ref h_on, .ref h_away, .int v_nightsPassed, .int v_glances, g_draws, .int v_gained, .int v_paintedOn, .ref h_wallLooks])), (h_laws, .inl (cI, 4, .inl v_laws)), (h_ground, .inl (cI, 10, .inl v_ground)), (h_seen, .inl (cI, 10, .inl v_seen)), (h_kind, .inl (cI, 8, .inl v_kind)), (h_hand, .inl (cI, 8, .inl v_hand)), (h_size, .inl (cI, 8, .inl v_size)), (h_on, .inl (cI, 8, .inl v_on)), (h_away, .inl (cI, 8, .inl v_away)), (h_wallLooks, .inl (cI, 10, .inl v_wallLooks))]
theorem nX2_passNight_X2 : ∀ w ∈ wsX20, w ∈ wsX2_passNight := by decide +kernel
theorem kX2_passNight_0 : Cond.fieldLink RX2 52 "PaintedWalls$Town" "nightsPassed" "I" ∈ wsX2_passNight := by decide +kernel
theorem kX2_passNight_1 : Cond.constant RX2 101 (nI 99999) ∈ wsX2_passNight := by decide +kernel
theorem kX2_passNight_2 : Cond.fieldLink RX2 55 "PaintedWalls$Town" "glances" "I" ∈ wsX2_passNight := by decide +kernel
theorem kX2_passNight_3 : Cond.methodLink RX2 102 Lib.Math.min.name ∈ wsX2_passNight := by decide +kernel
theorem kX2_passNight_4 : Cond.static Lib.Math.min.name ∈ wsX2_passNight := by decide +kernel
theorem kX2_passNight_5 : Cond.initialized "java/lang/Math" ∈ wsX2_passNight := by decide +kernel
theorem kX2_passNight_6 : Cond.code Lib.Math.min.name Lib.Math.min.code 2 (some .int) ∈ wsX2_passNight := by decide +kernel
theorem kX2_passNight_7 : Cond.fieldLink RX2 58 "PaintedWalls$Town" "gained" "I" ∈ wsX2_passNight := by decide +kernel
theorem kX2_passNight_8 : Cond.fieldLink RX2 9 "PaintedWalls$Town" "laws" "[I" ∈ wsX2_passNight := by decide +kernel
set_option maxHeartbeats 4000000 in
set_option maxRecDepth 100000 in
theorem tX2_passNight {l : Launch} {D : va_G} {cB cI cJ cO : ClassId} (h0 h_laws h_ground h_seen h_kind h_hand h_size h_on h_away h_wallLooks : Nat) (g_draws : Value) (v_count : Int32) (v_nightsPassed : Int32) (v_glances : Int32) (v_gained : Int32) (v_paintedOn : Int32) (v_laws : Nat → Int32) (v_ground : Nat → Int32) (v_seen : Nat → Int32) (v_kind : Nat → Int32) (v_hand : Nat → Int32) (v_size : Nat → Int32) (v_on : Nat → Int32) (v_away : Nat → Int32) (v_wallLooks : Nat → Int32) (r : Int32 × Int32 × Int32 × Int32 × (Nat → Int32) × (Nat → Int32) × (Nat → Int32) × (Nat → Int32) × (Nat → Int32)) (hF : fX2_passNight v_count v_nightsPassed v_glances v_gained v_paintedOn v_laws v_ground v_seen v_kind v_hand v_size v_on v_away v_wallLooks = some r) : Met l yX2_passNight wsX2_passNight rX2_passNight (zPre D cB cI cJ cO [.ref h0] (wX2_passNight cB cI cJ cO h0 h_laws h_ground h_seen h_kind h_hand h_size h_on h_away h_wallLooks g_draws v_count v_nightsPassed v_glances v_gained v_paintedOn v_laws v_ground v_seen v_kind v_hand v_size v_on v_away v_wallLooks)) (zPM none D (wX2_passNight cB cI cJ cO h0 h_laws h_ground h_seen h_kind h_hand h_size h_on h_away h_wallLooks g_draws v_count r.1 r.2.1 r.2.2.1 r.2.2.2.1 v_laws r.2.2.2.2.1 v_seen v_kind v_hand r.2.2.2.2.2.1 r.2.2.2.2.2.2.1 r.2.2.2.2.2.2.2.1 r.2.2.2.2.2.2.2.2) (zAs [h0, h_laws, h_ground, h_seen, h_kind, h_hand, h_size, h_on, h_away, h_wallLooks])) 0 0 (zAs [h0, h_laws, h_ground, h_seen, h_kind, h_hand, h_size, h_on, h_away, h_wallLooks]) := by
  refine zMetM (cc := cX2_passNight) (maxL := 3) (ret := none) (lv := [(0, .ref h0)]) rfl (by decide) rfl (Nat.le_of_ble_eq_true rfl) rfl ?_
  intro p e s m args below meth c ls Q H locs hQ hx hb hr hml hown hts hlocks hname hP hE hD hS hl
  have hown : s.vm.findClass RX2 = some m.cls := hown
  have hK := hE.1
  unfold fX2_passNight at hF
  refine lv_aload_n (pc := 0) hx hb dX2_passNight_0 rfl (lv_at hl 0 rfl) ?_
  obtain ⟨u1, hu1, hF⟩ := z_bind hF
  refine zq_callM (oc0 := none) (wc := wX2_comeBack cB cI cJ cO h0 h_kind h_hand h_size h_on h_away (.ref h_laws) (.ref h_ground) (.ref h_seen) (.int v_glances) g_draws (.int v_gained) (.int v_paintedOn) (.ref h_wallLooks) v_count v_nightsPassed v_kind v_hand v_size v_on v_away) (wc' := wX2_comeBack cB cI cJ cO h0 h_kind h_hand h_size h_on h_away (.ref h_laws) (.ref h_ground) (.ref h_seen) (.int v_glances) g_draws (.int v_gained) (.int v_paintedOn) (.ref h_wallLooks) v_count v_nightsPassed v_kind v_hand u1.1 u1.2.1 u1.2.2) (ws' := (wX2_passNight cB cI cJ cO h0 h_laws h_ground h_seen h_kind h_hand h_size h_on h_away h_wallLooks g_draws v_count v_nightsPassed v_glances v_gained v_paintedOn v_laws v_ground v_seen v_kind v_hand u1.1 u1.2.1 u1.2.2 v_wallLooks)) (va_runV (As := []) (rest := []) ⟨hx, hb, hml, hown, hts⟩ (tX2_comeBack (l := l) (D := D) (cB := cB) (cI := cI) (cJ := cJ) (cO := cO) h0 h_kind h_hand h_size h_on h_away (.ref h_laws) (.ref h_ground) (.ref h_seen) (.int v_glances) g_draws (.int v_gained) (.int v_paintedOn) (.ref h_wallLooks) v_count v_nightsPassed v_kind v_hand v_size v_on v_away u1 hu1) (cwV 0 hts gX2_passNight_X2_comeBack rfl rfl rfl (by decide +kernel) ⟨Nat.le_of_ble_eq_true rfl, Nat.le_of_ble_eq_true rfl⟩) ⟨zPre_blind, va_recv hK hP (ci := 2) (q0 := 0) rfl rfl, zPre_at hP hE (zD_re hD rfl) [0, 4, 5, 6, 7, 8] rfl rfl⟩ rfl rfl hl.1 rfl (lv_room (Nat.le_of_ble_eq_true rfl)) dX2_passNight_1 ⟨Nat.zero_le _, Nat.zero_le _⟩) rfl hP (zD_re hD rfl) hS [0, 4, 5, 6, 7, 8] rfl rfl [some 0, none, none, none, some 1, some 2, some 3, some 4, some 5, none] rfl rfl rfl rfl (fun H locs hP hS => ?_)
  refine W.eq (g2 := F0 m 4 ls []) rfl ?_
  refine lv_aload_n (pc := 4) hx hb dX2_passNight_4 rfl (lv_at hl 0 rfl) ?_
  obtain ⟨u5, hu5, hF⟩ := z_bind hF
  refine zq_callM (oc0 := none) (wc := wX2_growAll cB cI cJ cO h0 h_laws h_ground h_kind h_size h_on (.ref h_seen) (.ref h_hand) (.ref h_away) (.int v_nightsPassed) (.int v_glances) g_draws (.int v_gained) (.ref h_wallLooks) v_count v_paintedOn v_laws v_ground v_kind u1.1 u1.2.1) (wc' := wX2_growAll cB cI cJ cO h0 h_laws h_ground h_kind h_size h_on (.ref h_seen) (.ref h_hand) (.ref h_away) (.int v_nightsPassed) (.int v_glances) g_draws (.int v_gained) (.ref h_wallLooks) v_count u5.1 v_laws v_ground v_kind u5.2 u1.2.1) (ws' := (wX2_passNight cB cI cJ cO h0 h_laws h_ground h_seen h_kind h_hand h_size h_on h_away h_wallLooks g_draws v_count v_nightsPassed v_glances v_gained u5.1 v_laws v_ground v_seen v_kind v_hand u5.2 u1.2.1 u1.2.2 v_wallLooks)) (va_runV (As := []) (rest := []) ⟨hx, hb, hml, hown, hts⟩ (tX2_growAll (l := l) (D := D) (cB := cB) (cI := cI) (cJ := cJ) (cO := cO) h0 h_laws h_ground h_kind h_size h_on (.ref h_seen) (.ref h_hand) (.ref h_away) (.int v_nightsPassed) (.int v_glances) g_draws (.int v_gained) (.ref h_wallLooks) v_count v_paintedOn v_laws v_ground v_kind u1.1 u1.2.1 u5 hu5) (cwV 0 hts gX2_passNight_X2_growAll rfl rfl rfl (by decide +kernel) ⟨Nat.le_of_ble_eq_true rfl, Nat.le_of_ble_eq_true rfl⟩) ⟨zPre_blind, va_recv hK hP (ci := 2) (q0 := 0) rfl rfl, zPre_at hP hE (zD_re hD rfl) [0, 1, 2, 4, 6, 7] rfl rfl⟩ rfl rfl hl.1 rfl (lv_room (Nat.le_of_ble_eq_true rfl)) dX2_passNight_5 ⟨Nat.zero_le _, Nat.zero_le _⟩) rfl hP (zD_re hD rfl) hS [0, 1, 2, 4, 6, 7] rfl rfl [some 0, some 1, some 2, none, some 3, none, some 4, some 5, none, none] rfl rfl rfl rfl (fun H locs hP hS => ?_)
  refine W.eq (g2 := F0 m 8 ls []) rfl ?_
  refine lv_iconst (pc := 8) (v := (nI 0)) hx hb dX2_passNight_8 (by decide) ?_
  refine lv_istore_n (pc := 9) (lv' := [(1, .int (nI 0)), (0, .ref h0)]) hx hb dX2_passNight_9 rfl hl (by decide) rfl (fun ls hl => ?_)
  obtain ⟨k_10, hk_10, hF⟩ := z_J hF
  have kk_10 : ∀ (v_ground_6 : Nat → Int32) (v_on_7 : Nat → Int32) (v_away_8 : Nat → Int32) (v_wallLooks_9 : Nat → Int32) , k_10 v_ground_6 v_on_7 v_away_8 v_wallLooks_9 = some r → ∀ (H : Heap) (locs : List Loc), va_P D vwCl (wX2_passNight cB cI cJ cO h0 h_laws h_ground h_seen h_kind h_hand h_size h_on h_away h_wallLooks g_draws v_count v_nightsPassed v_glances v_gained u5.1 v_laws v_ground_6 v_seen v_kind v_hand u5.2 v_on_7 v_away_8 v_wallLooks_9) H → va_S (zAs [h0, h_laws, h_ground, h_seen, h_kind, h_hand, h_size, h_on, h_away, h_wallLooks]) s.heap H locs → ∀ (ls : Array Slot), lv_has ls 3 [(0, .ref h0)] → W p l e rX2_passNight s m args below meth c H locs 0 0 Q (F0 m 29 ls []) := by
    intro v_ground_6 v_on_7 v_away_8 v_wallLooks_9 hF H locs hP hS ls hl
    rw [hk_10] at hF
    refine lv_goto (pc := 29) (tgt := 44) hx hb dX2_passNight_29 (by decide) ?_
    refine lv_aload_n (pc := 44) hx hb dX2_passNight_44 rfl (lv_at hl 0 rfl) ?_
    refine lv_dup (pc := 45) hx hb dX2_passNight_45 rfl ?_
    refine va_get (D := D) (pc := 46) (ci := 2) (v := .int v_nightsPassed) (C := RX2) (T := TX2) (N := 15) hx hb hts nX2_passNight_X2 hown hK hP 0 rfl rfl 9 (by decide) (hts _ kX2_passNight_0) (fun _ h9 => h9) rfl dX2_passNight_46 ?_
    refine lv_iconst (pc := 49) (v := (nI 1)) hx hb dX2_passNight_49 (by decide) ?_
    refine lv_iadd (pc := 50) hx hb dX2_passNight_50 ?_
    refine va_put (D := D) (pc := 51) (ci := 2) (v := .int (v_nightsPassed + (nI 1))) (ty := .int) (C := RX2) (T := TX2) (N := 15) hx hb hts nX2_passNight_X2 tyX2 tyX2_ok nmX2 hown hK hP (zD_re hD rfl) hS 0 rfl rfl 9 (by decide) (hts _ kX2_passNight_0) (fun _ h9 => h9) rfl (tyX2_ok 9 (by decide)) rfl rfl (Nat.le_of_ble_eq_true rfl) dX2_passNight_51 (fun H locs hP _ hS => ?_)
    have hP : va_P D vwCl (wX2_passNight cB cI cJ cO h0 h_laws h_ground h_seen h_kind h_hand h_size h_on h_away h_wallLooks g_draws v_count (v_nightsPassed + (nI 1)) v_glances v_gained u5.1 v_laws v_ground_6 v_seen v_kind v_hand u5.2 v_on_7 v_away_8 v_wallLooks_9) H := hP
    refine lv_aload_n (pc := 54) hx hb dX2_passNight_54 rfl (lv_at hl 0 rfl) ?_
    obtain ⟨u55, hu55, hF⟩ := z_bind hF
    refine zq_call (oc0 := (some (.int u55))) (va_runV (As := []) (rest := []) ⟨hx, hb, hml, hown, hts⟩ (tX2_looksOfAll (l := l) (D := D) (cB := cB) (cI := cI) (cJ := cJ) (cO := cO) h0 h_seen h_size h_on (.ref h_laws) (.ref h_ground) (.ref h_kind) (.ref h_hand) (.ref h_away) (.int (v_nightsPassed + (nI 1))) (.int v_glances) g_draws (.int v_gained) (.int u5.1) (.ref h_wallLooks) v_count v_seen u5.2 v_on_7 u55 hu55) (cwV 0 hts gX2_passNight_X2_looksOfAll rfl rfl rfl (by decide +kernel) ⟨Nat.le_of_ble_eq_true rfl, Nat.le_of_ble_eq_true rfl⟩) ⟨zPre_blind, va_recv hK hP (ci := 2) (q0 := 0) rfl rfl, zPre_at hP hE (zD_re hD rfl) [0, 3, 6, 7] rfl rfl⟩ rfl rfl hl.1 rfl (lv_room (Nat.le_of_ble_eq_true rfl)) dX2_passNight_55 ⟨Nat.zero_le _, Nat.zero_le _⟩) ?_
    refine W.eq (g2 := F0 m 58 ls [.int u55]) rfl ?_
    refine lv_istore_n (pc := 58) (lv' := [(1, .int u55), (0, .ref h0)]) hx hb dX2_passNight_58 rfl hl (by decide) rfl (fun ls hl => ?_)
    refine lv_aload_n (pc := 59) hx hb dX2_passNight_59 rfl (lv_at hl 1 rfl) ?_
    refine lv_ldc (pc := 60) hx hb hown (hts _ kX2_passNight_1) dX2_passNight_60 ?_
    refine lv_aload_n (pc := 62) hx hb dX2_passNight_62 rfl (lv_at hl 1 rfl) ?_
    refine va_get (D := D) (pc := 63) (ci := 2) (v := .int v_glances) (C := RX2) (T := TX2) (N := 15) hx hb hts nX2_passNight_X2 hown hK hP 0 rfl rfl 10 (by decide) (hts _ kX2_passNight_2) (fun _ h9 => h9) rfl dX2_passNight_63 ?_
    refine lv_iload_n (pc := 66) hx hb dX2_passNight_66 rfl (lv_at hl 0 rfl) ?_
    refine lv_iadd (pc := 67) hx hb dX2_passNight_67 ?_
    refine va_mmin (pc := 68) hx hb (hml.trans hl.1.symm) hown (hts _ kX2_passNight_3) (hts _ kX2_passNight_4) (hts _ kX2_passNight_5) (hts _ kX2_passNight_6) (Nat.le_of_ble_eq_true rfl) (Nat.le_of_ble_eq_true rfl) (Nat.zero_le _) (Nat.zero_le _) dX2_passNight_68 ?_
    refine va_put (D := D) (pc := 71) (ci := 2) (v := .int (if (v_glances + u55) < (nI 99999) then (v_glances + u55) else (nI 99999))) (ty := .int) (C := RX2) (T := TX2) (N := 15) hx hb hts nX2_passNight_X2 tyX2 tyX2_ok nmX2 hown hK hP (zD_re hD rfl) hS 0 rfl rfl 10 (by decide) (hts _ kX2_passNight_2) (fun _ h9 => h9) rfl (tyX2_ok 10 (by decide)) rfl rfl (Nat.le_of_ble_eq_true rfl) dX2_passNight_71 (fun H locs hP _ hS => ?_)
    have hP : va_P D vwCl (wX2_passNight cB cI cJ cO h0 h_laws h_ground h_seen h_kind h_hand h_size h_on h_away h_wallLooks g_draws v_count (v_nightsPassed + (nI 1)) (if (v_glances + u55) < (nI 99999) then (v_glances + u55) else (nI 99999)) v_gained u5.1 v_laws v_ground_6 v_seen v_kind v_hand u5.2 v_on_7 v_away_8 v_wallLooks_9) H := hP
    refine lv_aload_n (pc := 74) hx hb dX2_passNight_74 rfl (lv_at hl 1 rfl) ?_
    refine lv_dup (pc := 75) hx hb dX2_passNight_75 rfl ?_
    refine va_get (D := D) (pc := 76) (ci := 2) (v := .int v_gained) (C := RX2) (T := TX2) (N := 15) hx hb hts nX2_passNight_X2 hown hK hP 0 rfl rfl 12 (by decide) (hts _ kX2_passNight_7) (fun _ h9 => h9) rfl dX2_passNight_76 ?_
    refine lv_iload_n (pc := 79) hx hb dX2_passNight_79 rfl (lv_at hl 0 rfl) ?_
    refine lv_iadd (pc := 80) hx hb dX2_passNight_80 ?_
    refine va_put (D := D) (pc := 81) (ci := 2) (v := .int (v_gained + u55)) (ty := .int) (C := RX2) (T := TX2) (N := 15) hx hb hts nX2_passNight_X2 tyX2 tyX2_ok nmX2 hown hK hP (zD_re hD rfl) hS 0 rfl rfl 12 (by decide) (hts _ kX2_passNight_7) (fun _ h9 => h9) rfl (tyX2_ok 12 (by decide)) rfl rfl (Nat.le_of_ble_eq_true rfl) dX2_passNight_81 (fun H locs hP _ hS => ?_)
    have hP : va_P D vwCl (wX2_passNight cB cI cJ cO h0 h_laws h_ground h_seen h_kind h_hand h_size h_on h_away h_wallLooks g_draws v_count (v_nightsPassed + (nI 1)) (if (v_glances + u55) < (nI 99999) then (v_glances + u55) else (nI 99999)) (v_gained + u55) u5.1 v_laws v_ground_6 v_seen v_kind v_hand u5.2 v_on_7 v_away_8 v_wallLooks_9) H := hP
    exact z_vretM (pc := 84) (fun q => (wX2_passNight cB cI cJ cO h0 h_laws h_ground h_seen h_kind h_hand h_size h_on h_away h_wallLooks g_draws v_count q.1 q.2.1 q.2.2.1 q.2.2.2.1 v_laws q.2.2.2.2.1 v_seen v_kind v_hand q.2.2.2.2.2.1 q.2.2.2.2.2.2.1 q.2.2.2.2.2.2.2.1 q.2.2.2.2.2.2.2.2)) hx hb hr hlocks hP hS hF hQ dX2_passNight_84
  obtain ⟨k_15, hk_15, hF⟩ := z_J hF
  have kk_15 : ∀ (v_ground_11 : Nat → Int32) (v_on_12 : Nat → Int32) (v_away_13 : Nat → Int32) (v_wallLooks_14 : Nat → Int32) , k_15 v_ground_11 v_on_12 v_away_13 v_wallLooks_14 = some r → ∀ (H : Heap) (locs : List Loc), va_P D vwCl (wX2_passNight cB cI cJ cO h0 h_laws h_ground h_seen h_kind h_hand h_size h_on h_away h_wallLooks g_draws v_count v_nightsPassed v_glances v_gained u5.1 v_laws v_ground_11 v_seen v_kind v_hand u5.2 v_on_12 v_away_13 v_wallLooks_14) H → va_S (zAs [h0, h_laws, h_ground, h_seen, h_kind, h_hand, h_size, h_on, h_away, h_wallLooks]) s.heap H locs → ∀ (ls : Array Slot), lv_has ls 3 [(0, .ref h0)] → W p l e rX2_passNight s m args below meth c H locs 0 0 Q (F0 m 44 ls []) := by
    intro v_ground_11 v_on_12 v_away_13 v_wallLooks_14 hF H locs hP hS ls hl
    rw [hk_15] at hF
    refine lv_aload_n (pc := 44) hx hb dX2_passNight_44 rfl (lv_at hl 0 rfl) ?_
    refine lv_dup (pc := 45) hx hb dX2_passNight_45 rfl ?_
    refine va_get (D := D) (pc := 46) (ci := 2) (v := .int v_nightsPassed) (C := RX2) (T := TX2) (N := 15) hx hb hts nX2_passNight_X2 hown hK hP 0 rfl rfl 9 (by decide) (hts _ kX2_passNight_0) (fun _ h9 => h9) rfl dX2_passNight_46 ?_
    refine lv_iconst (pc := 49) (v := (nI 1)) hx hb dX2_passNight_49 (by decide) ?_
    refine lv_iadd (pc := 50) hx hb dX2_passNight_50 ?_
    refine va_put (D := D) (pc := 51) (ci := 2) (v := .int (v_nightsPassed + (nI 1))) (ty := .int) (C := RX2) (T := TX2) (N := 15) hx hb hts nX2_passNight_X2 tyX2 tyX2_ok nmX2 hown hK hP (zD_re hD rfl) hS 0 rfl rfl 9 (by decide) (hts _ kX2_passNight_0) (fun _ h9 => h9) rfl (tyX2_ok 9 (by decide)) rfl rfl (Nat.le_of_ble_eq_true rfl) dX2_passNight_51 (fun H locs hP _ hS => ?_)
    have hP : va_P D vwCl (wX2_passNight cB cI cJ cO h0 h_laws h_ground h_seen h_kind h_hand h_size h_on h_away h_wallLooks g_draws v_count (v_nightsPassed + (nI 1)) v_glances v_gained u5.1 v_laws v_ground_11 v_seen v_kind v_hand u5.2 v_on_12 v_away_13 v_wallLooks_14) H := hP
    refine lv_aload_n (pc := 54) hx hb dX2_passNight_54 rfl (lv_at hl 0 rfl) ?_
    obtain ⟨u55_16, hu55_16, hF⟩ := z_bind hF
    refine zq_call (oc0 := (some (.int u55_16))) (va_runV (As := []) (rest := []) ⟨hx, hb, hml, hown, hts⟩ (tX2_looksOfAll (l := l) (D := D) (cB := cB) (cI := cI) (cJ := cJ) (cO := cO) h0 h_seen h_size h_on (.ref h_laws) (.ref h_ground) (.ref h_kind) (.ref h_hand) (.ref h_away) (.int (v_nightsPassed + (nI 1))) (.int v_glances) g_draws (.int v_gained) (.int u5.1) (.ref h_wallLooks) v_count v_seen u5.2 v_on_12 u55_16 hu55_16) (cwV 0 hts gX2_passNight_X2_looksOfAll rfl rfl rfl (by decide +kernel) ⟨Nat.le_of_ble_eq_true rfl, Nat.le_of_ble_eq_true rfl⟩) ⟨zPre_blind, va_recv hK hP (ci := 2) (q0 := 0) rfl rfl, zPre_at hP hE (zD_re hD rfl) [0, 3, 6, 7] rfl rfl⟩ rfl rfl hl.1 rfl (lv_room (Nat.le_of_ble_eq_true rfl)) dX2_passNight_55 ⟨Nat.zero_le _, Nat.zero_le _⟩) ?_
    refine W.eq (g2 := F0 m 58 ls [.int u55_16]) rfl ?_
    refine lv_istore_n (pc := 58) (lv' := [(1, .int u55_16), (0, .ref h0)]) hx hb dX2_passNight_58 rfl hl (by decide) rfl (fun ls hl => ?_)
    refine lv_aload_n (pc := 59) hx hb dX2_passNight_59 rfl (lv_at hl 1 rfl) ?_
    refine lv_ldc (pc := 60) hx hb hown (hts _ kX2_passNight_1) dX2_passNight_60 ?_
    refine lv_aload_n (pc := 62) hx hb dX2_passNight_62 rfl (lv_at hl 1 rfl) ?_
    refine va_get (D := D) (pc := 63) (ci := 2) (v := .int v_glances) (C := RX2) (T := TX2) (N := 15) hx hb hts nX2_passNight_X2 hown hK hP 0 rfl rfl 10 (by decide) (hts _ kX2_passNight_2) (fun _ h9 => h9) rfl dX2_passNight_63 ?_
    refine lv_iload_n (pc := 66) hx hb dX2_passNight_66 rfl (lv_at hl 0 rfl) ?_
    refine lv_iadd (pc := 67) hx hb dX2_passNight_67 ?_
    refine va_mmin (pc := 68) hx hb (hml.trans hl.1.symm) hown (hts _ kX2_passNight_3) (hts _ kX2_passNight_4) (hts _ kX2_passNight_5) (hts _ kX2_passNight_6) (Nat.le_of_ble_eq_true rfl) (Nat.le_of_ble_eq_true rfl) (Nat.zero_le _) (Nat.zero_le _) dX2_passNight_68 ?_
    refine va_put (D := D) (pc := 71) (ci := 2) (v := .int (if (v_glances + u55_16) < (nI 99999) then (v_glances + u55_16) else (nI 99999))) (ty := .int) (C := RX2) (T := TX2) (N := 15) hx hb hts nX2_passNight_X2 tyX2 tyX2_ok nmX2 hown hK hP (zD_re hD rfl) hS 0 rfl rfl 10 (by decide) (hts _ kX2_passNight_2) (fun _ h9 => h9) rfl (tyX2_ok 10 (by decide)) rfl rfl (Nat.le_of_ble_eq_true rfl) dX2_passNight_71 (fun H locs hP _ hS => ?_)
    have hP : va_P D vwCl (wX2_passNight cB cI cJ cO h0 h_laws h_ground h_seen h_kind h_hand h_size h_on h_away h_wallLooks g_draws v_count (v_nightsPassed + (nI 1)) (if (v_glances + u55_16) < (nI 99999) then (v_glances + u55_16) else (nI 99999)) v_gained u5.1 v_laws v_ground_11 v_seen v_kind v_hand u5.2 v_on_12 v_away_13 v_wallLooks_14) H := hP
    refine lv_aload_n (pc := 74) hx hb dX2_passNight_74 rfl (lv_at hl 1 rfl) ?_
    refine lv_dup (pc := 75) hx hb dX2_passNight_75 rfl ?_
    refine va_get (D := D) (pc := 76) (ci := 2) (v := .int v_gained) (C := RX2) (T := TX2) (N := 15) hx hb hts nX2_passNight_X2 hown hK hP 0 rfl rfl 12 (by decide) (hts _ kX2_passNight_7) (fun _ h9 => h9) rfl dX2_passNight_76 ?_
    refine lv_iload_n (pc := 79) hx hb dX2_passNight_79 rfl (lv_at hl 0 rfl) ?_
    refine lv_iadd (pc := 80) hx hb dX2_passNight_80 ?_
    refine va_put (D := D) (pc := 81) (ci := 2) (v := .int (v_gained + u55_16)) (ty := .int) (C := RX2) (T := TX2) (N := 15) hx hb hts nX2_passNight_X2 tyX2 tyX2_ok nmX2 hown hK hP (zD_re hD rfl) hS 0 rfl rfl 12 (by decide) (hts _ kX2_passNight_7) (fun _ h9 => h9) rfl (tyX2_ok 12 (by decide)) rfl rfl (Nat.le_of_ble_eq_true rfl) dX2_passNight_81 (fun H locs hP _ hS => ?_)
    have hP : va_P D vwCl (wX2_passNight cB cI cJ cO h0 h_laws h_ground h_seen h_kind h_hand h_size h_on h_away h_wallLooks g_draws v_count (v_nightsPassed + (nI 1)) (if (v_glances + u55_16) < (nI 99999) then (v_glances + u55_16) else (nI 99999)) (v_gained + u55_16) u5.1 v_laws v_ground_11 v_seen v_kind v_hand u5.2 v_on_12 v_away_13 v_wallLooks_14) H := hP
    exact z_vretM (pc := 84) (fun q => (wX2_passNight cB cI cJ cO h0 h_laws h_ground h_seen h_kind h_hand h_size h_on h_away h_wallLooks g_draws v_count q.1 q.2.1 q.2.2.1 q.2.2.2.1 v_laws q.2.2.2.2.1 v_seen v_kind v_hand q.2.2.2.2.2.1 q.2.2.2.2.2.2.1 q.2.2.2.2.2.2.2.1 q.2.2.2.2.2.2.2.2)) hx hb hr hlocks hP hS hF hQ dX2_passNight_84
  have hL_10 : ∀ (n : Nat) (y1_1 : Int32) (v_ground_2 : Nat → Int32) (v_on_3 : Nat → Int32) (v_away_4 : Nat → Int32) (v_wallLooks_5 : Nat → Int32) , fX2_passNight_L10 v_count v_laws v_seen v_kind v_hand u5 k_10 k_15 n y1_1 v_ground_2 v_on_3 v_away_4 v_wallLooks_5 = some r → ∀ (H : Heap) (locs : List Loc), va_P D vwCl (wX2_passNight cB cI cJ cO h0 h_laws h_ground h_seen h_kind h_hand h_size h_on h_away h_wallLooks g_draws v_count v_nightsPassed v_glances v_gained u5.1 v_laws v_ground_2 v_seen v_kind v_hand u5.2 v_on_3 v_away_4 v_wallLooks_5) H → va_S (zAs [h0, h_laws, h_ground, h_seen, h_kind, h_hand, h_size, h_on, h_away, h_wallLooks]) s.heap H locs → ∀ (ls : Array Slot), lv_has ls 3 [(0, .ref h0), (1, .int y1_1)] → W p l e rX2_passNight s m args below meth c H locs 0 0 Q (F0 m 10 ls []) := by
    intro n
    induction n with
    | zero =>
      intro y1_1 v_ground_2 v_on_3 v_away_4 v_wallLooks_5 hF H locs hP hS ls hl
      exact z_no hF
    | succ n ih =>
      intro y1_1 v_ground_2 v_on_3 v_away_4 v_wallLooks_5 hF H locs hP hS ls hl
      rw [fX2_passNight_L10] at hF
      refine lv_iload_n (pc := 10) hx hb dX2_passNight_10 rfl (lv_at hl 1 rfl) ?_
      refine lv_aload_n (pc := 11) hx hb dX2_passNight_11 rfl (lv_at hl 0 rfl) ?_
      refine va_get (D := D) (pc := 12) (ci := 2) (v := .ref h_laws) (C := RX2) (T := TX2) (N := 15) hx hb hts nX2_passNight_X2 hown hK hP 0 rfl rfl 0 (by decide) (hts _ kX2_passNight_8) (fun _ h9 => h9) rfl dX2_passNight_12 ?_
      refine lv_iconst (pc := 15) (v := (nI 0)) hx hb dX2_passNight_15 (by decide) ?_
      refine za_ialdK (pc := 16) (k := 0) hx hb hK hP 1 1 rfl rfl (by decide) (by decide) dX2_passNight_16 ?_
      refine zb_icmp_ge (pc := 17) (tgt := 44) hx hb dX2_passNight_17 (by decide) hF (fun c_17 hF => ?_) (fun c_17 hF => ?_)
      · exact kk_15 v_ground_2 v_on_3 v_away_4 v_wallLooks_5 hF H locs hP hS ls (lv_sub hl [0] rfl)
      · refine lv_aload_n (pc := 20) hx hb dX2_passNight_20 rfl (lv_at hl 0 rfl) ?_
        obtain ⟨u21, hu21, hF⟩ := z_bind hF
        refine zq_callM (oc0 := (some (.int u21.1))) (wc := wX2_busiestWall cB cI cJ cO h0 h_seen h_size h_on h_wallLooks (.ref h_laws) (.ref h_ground) (.ref h_kind) (.ref h_hand) (.ref h_away) (.int v_nightsPassed) (.int v_glances) g_draws (.int v_gained) (.int u5.1) v_count v_seen u5.2 v_on_3 v_wallLooks_5) (wc' := wX2_busiestWall cB cI cJ cO h0 h_seen h_size h_on h_wallLooks (.ref h_laws) (.ref h_ground) (.ref h_kind) (.ref h_hand) (.ref h_away) (.int v_nightsPassed) (.int v_glances) g_draws (.int v_gained) (.int u5.1) v_count v_seen u5.2 v_on_3 u21.2) (ws' := (wX2_passNight cB cI cJ cO h0 h_laws h_ground h_seen h_kind h_hand h_size h_on h_away h_wallLooks g_draws v_count v_nightsPassed v_glances v_gained u5.1 v_laws v_ground_2 v_seen v_kind v_hand u5.2 v_on_3 v_away_4 u21.2)) (va_runV (As := []) (rest := []) ⟨hx, hb, hml, hown, hts⟩ (tX2_busiestWall (l := l) (D := D) (cB := cB) (cI := cI) (cJ := cJ) (cO := cO) h0 h_seen h_size h_on h_wallLooks (.ref h_laws) (.ref h_ground) (.ref h_kind) (.ref h_hand) (.ref h_away) (.int v_nightsPassed) (.int v_glances) g_draws (.int v_gained) (.int u5.1) v_count v_seen u5.2 v_on_3 v_wallLooks_5 u21 hu21) (cwV 0 hts gX2_passNight_X2_busiestWall rfl rfl rfl (by decide +kernel) ⟨Nat.le_of_ble_eq_true rfl, Nat.le_of_ble_eq_true rfl⟩) ⟨zPre_blind, va_recv hK hP (ci := 2) (q0 := 0) rfl rfl, zPre_at hP hE (zD_re hD rfl) [0, 3, 6, 7, 9] rfl rfl⟩ rfl rfl hl.1 rfl (lv_room (Nat.le_of_ble_eq_true rfl)) dX2_passNight_21 ⟨Nat.zero_le _, Nat.zero_le _⟩) rfl hP (zD_re hD rfl) hS [0, 3, 6, 7, 9] rfl rfl [some 0, none, none, some 1, none, none, some 2, some 3, none, some 4] rfl rfl rfl rfl (fun H locs hP hS => ?_)
        refine W.eq (g2 := F0 m 24 ls [.int u21.1]) rfl ?_
        refine lv_istore_n (pc := 24) (lv' := [(2, .int u21.1), (0, .ref h0), (1, .int y1_1)]) hx hb dX2_passNight_24 rfl hl (by decide) rfl (fun ls hl => ?_)
        refine lv_iload_n (pc := 25) hx hb dX2_passNight_25 rfl (lv_at hl 0 rfl) ?_
        refine zb_if_ge (pc := 26) (tgt := 32) hx hb dX2_passNight_26 (by decide) hF (fun c_26 hF => ?_) (fun c_26 hF => ?_)
        · refine lv_aload_n (pc := 32) hx hb dX2_passNight_32 rfl (lv_at hl 1 rfl) ?_
          refine lv_iload_n (pc := 33) hx hb dX2_passNight_33 rfl (lv_at hl 0 rfl) ?_
          obtain ⟨u34, hu34, hF⟩ := z_bind hF
          refine zq_callM (oc0 := (some (.int u34.1))) (wc := wX2_cleanWall cB cI cJ cO h0 h_laws h_ground h_kind h_hand h_size h_on h_away (.ref h_seen) (.int v_nightsPassed) (.int v_glances) g_draws (.int v_gained) (.int u5.1) (.ref h_wallLooks) v_count v_laws v_ground_2 v_kind v_hand u5.2 v_on_3 v_away_4) (wc' := wX2_cleanWall cB cI cJ cO h0 h_laws h_ground h_kind h_hand h_size h_on h_away (.ref h_seen) (.int v_nightsPassed) (.int v_glances) g_draws (.int v_gained) (.int u5.1) (.ref h_wallLooks) v_count v_laws u34.2.1 v_kind v_hand u5.2 u34.2.2.1 u34.2.2.2) (ws' := (wX2_passNight cB cI cJ cO h0 h_laws h_ground h_seen h_kind h_hand h_size h_on h_away h_wallLooks g_draws v_count v_nightsPassed v_glances v_gained u5.1 v_laws u34.2.1 v_seen v_kind v_hand u5.2 u34.2.2.1 u34.2.2.2 u21.2)) (va_runV (As := [.int u21.1]) (rest := []) ⟨hx, hb, hml, hown, hts⟩ (tX2_cleanWall (l := l) (D := D) (cB := cB) (cI := cI) (cJ := cJ) (cO := cO) h0 h_laws h_ground h_kind h_hand h_size h_on h_away (.ref h_seen) (.int v_nightsPassed) (.int v_glances) g_draws (.int v_gained) (.int u5.1) (.ref h_wallLooks) v_count v_laws v_ground_2 v_kind v_hand u5.2 v_on_3 v_away_4 u21.1 u34 hu34) (cwV 1 hts gX2_passNight_X2_cleanWall rfl rfl rfl (by decide +kernel) ⟨Nat.le_of_ble_eq_true rfl, Nat.le_of_ble_eq_true rfl⟩) ⟨zPre_blind, va_recv hK hP (ci := 2) (q0 := 0) rfl rfl, zPre_at hP hE (zD_re hD rfl) [0, 1, 2, 4, 5, 6, 7, 8] rfl rfl⟩ rfl rfl hl.1 rfl (lv_room (Nat.le_of_ble_eq_true rfl)) dX2_passNight_34 ⟨Nat.zero_le _, Nat.zero_le _⟩) rfl hP (zD_re hD rfl) hS [0, 1, 2, 4, 5, 6, 7, 8] rfl rfl [some 0, some 1, some 2, none, some 3, some 4, some 5, some 6, some 7, none] rfl rfl rfl rfl (fun H locs hP hS => ?_)
          refine W.eq (g2 := F0 m 37 ls [.int u34.1]) rfl ?_
          refine lv_pop (pc := 37) hx hb dX2_passNight_37 rfl ?_
          refine lv_iinc (pc := 38) (v := (y1_1 + 1)) (lv' := [(1, .int (y1_1 + 1)), (2, .int u21.1), (0, .ref h0)]) hx hb dX2_passNight_38 hl (k := 2) rfl rfl (by decide) rfl (fun ls hl => ?_)
          refine lv_goto (pc := 41) (tgt := 10) hx hb dX2_passNight_41 (by decide) ?_
          exact ih (y1_1 + 1) u34.2.1 u34.2.2.1 u34.2.2.2 u21.2 hF H locs hP hS ls (lv_sub hl [2, 0] rfl)
        · exact kk_10 v_ground_2 v_on_3 v_away_4 u21.2 hF H locs hP hS ls (lv_sub hl [1] rfl)
  exact hL_10 zK (nI 0) v_ground u1.2.1 u1.2.2 v_wallLooks hF H locs hP hS ls (lv_sub hl [1, 0] rfl)

abbrev rX2_draw : Room := { frames := 0, cells := 0, slots := 0, locals := 0 }
abbrev wX2_draw (cB cI cJ cO : ClassId) (h0 : Nat) (g_laws g_ground g_seen g_count g_kind g_hand g_size g_on g_away g_nightsPassed g_glances g_gained g_paintedOn g_wallLooks : Value) (v_draws : Int32) : va_W := [(h0, .inr (2, [g_laws, g_ground, g_seen, g_count, g_kind, g_hand, g_size, g_on, g_away, g_nightsPassed, g_glances, .int v_draws, g_gained, g_paintedOn, g_wallLooks]))]
theorem nX2_draw_X2 : ∀ w ∈ wsX20, w ∈ wsX2_draw := by decide +kernel
theorem kX2_draw_0 : Cond.fieldLink RX2 36 "PaintedWalls$Town" "draws" "I" ∈ wsX2_draw := by decide +kernel
theorem kX2_draw_1 : Cond.constant RX2 123 (nI 1103515245) ∈ wsX2_draw := by decide +kernel
set_option maxHeartbeats 4000000 in
set_option maxRecDepth 100000 in
theorem tX2_draw {l : Launch} {D : va_G} {cB cI cJ cO : ClassId} (h0 : Nat) (g_laws g_ground g_seen g_count g_kind g_hand g_size g_on g_away g_nightsPassed g_glances g_gained g_paintedOn g_wallLooks : Value) (v_draws : Int32) (r : Int32 × Int32) (hF : fX2_draw v_draws = some r) : Met l yX2_draw wsX2_draw rX2_draw (zPre D cB cI cJ cO [.ref h0] (wX2_draw cB cI cJ cO h0 g_laws g_ground g_seen g_count g_kind g_hand g_size g_on g_away g_nightsPassed g_glances g_gained g_paintedOn g_wallLooks v_draws)) (zPM (some (.int r.1)) D (wX2_draw cB cI cJ cO h0 g_laws g_ground g_seen g_count g_kind g_hand g_size g_on g_away g_nightsPassed g_glances g_gained g_paintedOn g_wallLooks r.2) (zAs [h0])) 0 0 (zAs [h0]) := by
  refine zMetM (cc := cX2_draw) (maxL := 1) (ret := (some .int)) (lv := [(0, .ref h0)]) rfl (by decide) rfl (Nat.le_of_ble_eq_true rfl) rfl ?_
  intro p e s m args below meth c ls Q H locs hQ hx hb hr hml hown hts hlocks hname hP hE hD hS hl
  have hown : s.vm.findClass RX2 = some m.cls := hown
  have hK := hE.1
  unfold fX2_draw at hF
  refine lv_aload_n (pc := 0) hx hb dX2_draw_0 rfl (lv_at hl 0 rfl) ?_
  refine lv_aload_n (pc := 1) hx hb dX2_draw_1 rfl (lv_at hl 0 rfl) ?_
  refine va_get (D := D) (pc := 2) (ci := 2) (v := .int v_draws) (C := RX2) (T := TX2) (N := 15) hx hb hts nX2_draw_X2 hown hK hP 0 rfl rfl 11 (by decide) (hts _ kX2_draw_0) (fun _ h9 => h9) rfl dX2_draw_2 ?_
  refine lv_ldc (pc := 5) hx hb hown (hts _ kX2_draw_1) dX2_draw_5 ?_
  refine lv_imul (pc := 7) hx hb dX2_draw_7 ?_
  refine lv_sipush (pc := 8) (v := (nI 12345)) hx hb dX2_draw_8 (by decide) ?_
  refine lv_iadd (pc := 11) hx hb dX2_draw_11 ?_
  refine va_put (D := D) (pc := 12) (ci := 2) (v := .int ((v_draws * (nI 1103515245)) + (nI 12345))) (ty := .int) (C := RX2) (T := TX2) (N := 15) hx hb hts nX2_draw_X2 tyX2 tyX2_ok nmX2 hown hK hP (zD_re hD rfl) hS 0 rfl rfl 11 (by decide) (hts _ kX2_draw_0) (fun _ h9 => h9) rfl (tyX2_ok 11 (by decide)) rfl rfl (Nat.le_of_ble_eq_true rfl) dX2_draw_12 (fun H locs hP _ hS => ?_)
  have hP : va_P D vwCl (wX2_draw cB cI cJ cO h0 g_laws g_ground g_seen g_count g_kind g_hand g_size g_on g_away g_nightsPassed g_glances g_gained g_paintedOn g_wallLooks ((v_draws * (nI 1103515245)) + (nI 12345))) H := hP
  refine lv_aload_n (pc := 15) hx hb dX2_draw_15 rfl (lv_at hl 0 rfl) ?_
  refine va_get (D := D) (pc := 16) (ci := 2) (v := .int ((v_draws * (nI 1103515245)) + (nI 12345))) (C := RX2) (T := TX2) (N := 15) hx hb hts nX2_draw_X2 hown hK hP 0 rfl rfl 11 (by decide) (hts _ kX2_draw_0) (fun _ h9 => h9) rfl dX2_draw_16 ?_
  refine lv_bipush (pc := 19) (v := (nI 16)) hx hb dX2_draw_19 (by decide) ?_
  refine lv_iushr (pc := 21) (v := ((((v_draws * (nI 1103515245)) + (nI 12345)).toUInt32 >>> ((nI 16).toUInt32 &&& Int32.toUInt32 31)).toInt32)) hx hb dX2_draw_21 rfl ?_
  exact z_iretM (pc := 22) (fun q => q.1) (fun q => (wX2_draw cB cI cJ cO h0 g_laws g_ground g_seen g_count g_kind g_hand g_size g_on g_away g_nightsPassed g_glances g_gained g_paintedOn g_wallLooks q.2)) hx hb hr hlocks hP hS hF rfl hQ dX2_draw_22

abbrev rX2_passNightByDraws : Room := { frames := 4, cells := 0, slots := 0, locals := 91 }
abbrev wX2_passNightByDraws (cB cI cJ cO : ClassId) (h0 h_laws h_ground h_seen h_kind h_hand h_size h_on h_away h_wallLooks : Nat) (v_count : Int32) (v_nightsPassed : Int32) (v_glances : Int32) (v_draws : Int32) (v_gained : Int32) (v_paintedOn : Int32) (v_laws : Nat → Int32) (v_ground : Nat → Int32) (v_seen : Nat → Int32) (v_kind : Nat → Int32) (v_hand : Nat → Int32) (v_size : Nat → Int32) (v_on : Nat → Int32) (v_away : Nat → Int32) (v_wallLooks : Nat → Int32) : va_W := [(h0, .inr (2, [.ref h_laws, .ref h_ground, .ref h_seen, .int v_count, .ref h_kind, .ref h_hand, .ref h_size, .ref h_on, .ref h_away, .int v_nightsPassed, .int v_glances, .int v_draws, .int v_gained, .int v_paintedOn, .ref h_wallLooks])), (h_laws, .inl (cI, 4, .inl v_laws)), (h_ground, .inl (cI, 10, .inl v_ground)), (h_seen, .inl (cI, 10, .inl v_seen)), (h_kind, .inl (cI, 8, .inl v_kind)), (h_hand, .inl (cI, 8, .inl v_hand)), (h_size, .inl (cI, 8, .inl v_size)), (h_on, .inl (cI, 8, .inl v_on)), (h_away, .inl (cI, 8, .inl v_away)), (h_wallLooks, .inl (cI, 10, .inl v_wallLooks))]
theorem nX2_passNightByDraws_X2 : ∀ w ∈ wsX20, w ∈ wsX2_passNightByDraws := by decide +kernel
theorem kX2_passNightByDraws_0 : Cond.fieldLink RX2 49 "PaintedWalls$Town" "count" "I" ∈ wsX2_passNightByDraws := by decide +kernel
theorem kX2_passNightByDraws_1 : Cond.fieldLink RX2 9 "PaintedWalls$Town" "laws" "[I" ∈ wsX2_passNightByDraws := by decide +kernel
theorem kX2_passNightByDraws_2 : Cond.fieldLink RX2 27 "PaintedWalls$Town" "size" "[I" ∈ wsX2_passNightByDraws := by decide +kernel
set_option maxHeartbeats 4000000 in
set_option maxRecDepth 100000 in
theorem tX2_passNightByDraws {l : Launch} {D : va_G} {cB cI cJ cO : ClassId} (h0 h_laws h_ground h_seen h_kind h_hand h_size h_on h_away h_wallLooks : Nat) (v_count : Int32) (v_nightsPassed : Int32) (v_glances : Int32) (v_draws : Int32) (v_gained : Int32) (v_paintedOn : Int32) (v_laws : Nat → Int32) (v_ground : Nat → Int32) (v_seen : Nat → Int32) (v_kind : Nat → Int32) (v_hand : Nat → Int32) (v_size : Nat → Int32) (v_on : Nat → Int32) (v_away : Nat → Int32) (v_wallLooks : Nat → Int32) (r : Int32 × Int32 × Int32 × Int32 × Int32 × (Nat → Int32) × (Nat → Int32) × (Nat → Int32) × (Nat → Int32) × (Nat → Int32)) (hF : fX2_passNightByDraws v_count v_nightsPassed v_glances v_draws v_gained v_paintedOn v_laws v_ground v_seen v_kind v_hand v_size v_on v_away v_wallLooks = some r) : Met l yX2_passNightByDraws wsX2_passNightByDraws rX2_passNightByDraws (zPre D cB cI cJ cO [.ref h0] (wX2_passNightByDraws cB cI cJ cO h0 h_laws h_ground h_seen h_kind h_hand h_size h_on h_away h_wallLooks v_count v_nightsPassed v_glances v_draws v_gained v_paintedOn v_laws v_ground v_seen v_kind v_hand v_size v_on v_away v_wallLooks)) (zPM none D (wX2_passNightByDraws cB cI cJ cO h0 h_laws h_ground h_seen h_kind h_hand h_size h_on h_away h_wallLooks v_count r.1 r.2.1 r.2.2.1 r.2.2.2.1 r.2.2.2.2.1 v_laws r.2.2.2.2.2.1 v_seen v_kind v_hand r.2.2.2.2.2.2.1 r.2.2.2.2.2.2.2.1 r.2.2.2.2.2.2.2.2.1 r.2.2.2.2.2.2.2.2.2) (zAs [h0, h_laws, h_ground, h_seen, h_kind, h_hand, h_size, h_on, h_away, h_wallLooks])) 0 0 (zAs [h0, h_laws, h_ground, h_seen, h_kind, h_hand, h_size, h_on, h_away, h_wallLooks]) := by
  refine zMetM (cc := cX2_passNightByDraws) (maxL := 2) (ret := none) (lv := [(0, .ref h0)]) rfl (by decide) rfl (Nat.le_of_ble_eq_true rfl) rfl ?_
  intro p e s m args below meth c ls Q H locs hQ hx hb hr hml hown hts hlocks hname hP hE hD hS hl
  have hown : s.vm.findClass RX2 = some m.cls := hown
  have hK := hE.1
  unfold fX2_passNightByDraws at hF
  refine lv_aload_n (pc := 0) hx hb dX2_passNightByDraws_0 rfl (lv_at hl 0 rfl) ?_
  refine va_get (D := D) (pc := 1) (ci := 2) (v := .int v_count) (C := RX2) (T := TX2) (N := 15) hx hb hts nX2_passNightByDraws_X2 hown hK hP 0 rfl rfl 3 (by decide) (hts _ kX2_passNightByDraws_0) (fun _ h9 => h9) rfl dX2_passNightByDraws_1 ?_
  refine zb_if_le (pc := 4) (tgt := 47) hx hb dX2_passNightByDraws_4 (by decide) hF (fun c_4 hF => ?_) (fun c_4 hF => ?_)
  · refine lv_aload_n (pc := 47) hx hb dX2_passNightByDraws_47 rfl (lv_at hl 0 rfl) ?_
    obtain ⟨u48, hu48, hF⟩ := z_bind hF
    refine zq_callM (oc0 := none) (wc := wX2_passNight cB cI cJ cO h0 h_laws h_ground h_seen h_kind h_hand h_size h_on h_away h_wallLooks (.int v_draws) v_count v_nightsPassed v_glances v_gained v_paintedOn v_laws v_ground v_seen v_kind v_hand v_size v_on v_away v_wallLooks) (wc' := wX2_passNight cB cI cJ cO h0 h_laws h_ground h_seen h_kind h_hand h_size h_on h_away h_wallLooks (.int v_draws) v_count u48.1 u48.2.1 u48.2.2.1 u48.2.2.2.1 v_laws u48.2.2.2.2.1 v_seen v_kind v_hand u48.2.2.2.2.2.1 u48.2.2.2.2.2.2.1 u48.2.2.2.2.2.2.2.1 u48.2.2.2.2.2.2.2.2) (ws' := (wX2_passNightByDraws cB cI cJ cO h0 h_laws h_ground h_seen h_kind h_hand h_size h_on h_away h_wallLooks v_count u48.1 u48.2.1 v_draws u48.2.2.1 u48.2.2.2.1 v_laws u48.2.2.2.2.1 v_seen v_kind v_hand u48.2.2.2.2.2.1 u48.2.2.2.2.2.2.1 u48.2.2.2.2.2.2.2.1 u48.2.2.2.2.2.2.2.2)) (va_runV (As := []) (rest := []) ⟨hx, hb, hml, hown, hts⟩ (tX2_passNight (l := l) (D := D) (cB := cB) (cI := cI) (cJ := cJ) (cO := cO) h0 h_laws h_ground h_seen h_kind h_hand h_size h_on h_away h_wallLooks (.int v_draws) v_count v_nightsPassed v_glances v_gained v_paintedOn v_laws v_ground v_seen v_kind v_hand v_size v_on v_away v_wallLooks u48 hu48) (cwV 0 hts gX2_passNightByDraws_X2_passNight rfl rfl rfl (by decide +kernel) ⟨Nat.le_of_ble_eq_true rfl, Nat.le_of_ble_eq_true rfl⟩) ⟨zPre_blind, va_recv hK hP (ci := 2) (q0 := 0) rfl rfl, zPre_at hP hE (zD_re hD rfl) [0, 1, 2, 3, 4, 5, 6, 7, 8, 9] rfl rfl⟩ rfl rfl hl.1 rfl (lv_room (Nat.le_of_ble_eq_true rfl)) dX2_passNightByDraws_48 ⟨Nat.zero_le _, Nat.zero_le _⟩) rfl hP (zD_re hD rfl) hS [0, 1, 2, 3, 4, 5, 6, 7, 8, 9] rfl rfl [some 0, some 1, some 2, some 3, some 4, some 5, some 6, some 7, some 8, some 9] rfl rfl rfl rfl (fun H locs hP hS => ?_)
    refine W.eq (g2 := F0 m 51 ls []) rfl ?_
    exact z_vretM (pc := 51) (fun q => (wX2_passNightByDraws cB cI cJ cO h0 h_laws h_ground h_seen h_kind h_hand h_size h_on h_away h_wallLooks v_count q.1 q.2.1 q.2.2.1 q.2.2.2.1 q.2.2.2.2.1 v_laws q.2.2.2.2.2.1 v_seen v_kind v_hand q.2.2.2.2.2.2.1 q.2.2.2.2.2.2.2.1 q.2.2.2.2.2.2.2.2.1 q.2.2.2.2.2.2.2.2.2)) hx hb hr hlocks hP hS hF hQ dX2_passNightByDraws_51
  · refine lv_aload_n (pc := 7) hx hb dX2_passNightByDraws_7 rfl (lv_at hl 0 rfl) ?_
    obtain ⟨u8, hu8, hF⟩ := z_bind hF
    refine zq_callM (oc0 := (some (.int u8.1))) (wc := wX2_draw cB cI cJ cO h0 (.ref h_laws) (.ref h_ground) (.ref h_seen) (.int v_count) (.ref h_kind) (.ref h_hand) (.ref h_size) (.ref h_on) (.ref h_away) (.int v_nightsPassed) (.int v_glances) (.int v_gained) (.int v_paintedOn) (.ref h_wallLooks) v_draws) (wc' := wX2_draw cB cI cJ cO h0 (.ref h_laws) (.ref h_ground) (.ref h_seen) (.int v_count) (.ref h_kind) (.ref h_hand) (.ref h_size) (.ref h_on) (.ref h_away) (.int v_nightsPassed) (.int v_glances) (.int v_gained) (.int v_paintedOn) (.ref h_wallLooks) u8.2) (ws' := (wX2_passNightByDraws cB cI cJ cO h0 h_laws h_ground h_seen h_kind h_hand h_size h_on h_away h_wallLooks v_count v_nightsPassed v_glances u8.2 v_gained v_paintedOn v_laws v_ground v_seen v_kind v_hand v_size v_on v_away v_wallLooks)) (va_runV (As := []) (rest := []) ⟨hx, hb, hml, hown, hts⟩ (tX2_draw (l := l) (D := D) (cB := cB) (cI := cI) (cJ := cJ) (cO := cO) h0 (.ref h_laws) (.ref h_ground) (.ref h_seen) (.int v_count) (.ref h_kind) (.ref h_hand) (.ref h_size) (.ref h_on) (.ref h_away) (.int v_nightsPassed) (.int v_glances) (.int v_gained) (.int v_paintedOn) (.ref h_wallLooks) v_draws u8 hu8) (cwV 0 hts gX2_passNightByDraws_X2_draw rfl rfl rfl (by decide +kernel) ⟨Nat.le_of_ble_eq_true rfl, Nat.le_of_ble_eq_true rfl⟩) ⟨zPre_blind, va_recv hK hP (ci := 2) (q0 := 0) rfl rfl, zPre_at hP hE (zD_re hD rfl) [0] rfl rfl⟩ rfl rfl hl.1 rfl (lv_room (Nat.le_of_ble_eq_true rfl)) dX2_passNightByDraws_8 ⟨Nat.zero_le _, Nat.zero_le _⟩) rfl hP (zD_re hD rfl) hS [0] rfl rfl [some 0, none, none, none, none, none, none, none, none, none] rfl rfl rfl rfl (fun H locs hP hS => ?_)
    refine W.eq (g2 := F0 m 11 ls [.int u8.1]) rfl ?_
    refine lv_aload_n (pc := 11) hx hb dX2_passNightByDraws_11 rfl (lv_at hl 0 rfl) ?_
    refine va_get (D := D) (pc := 12) (ci := 2) (v := .int v_count) (C := RX2) (T := TX2) (N := 15) hx hb hts nX2_passNightByDraws_X2 hown hK hP 0 rfl rfl 3 (by decide) (hts _ kX2_passNightByDraws_0) (fun _ h9 => h9) rfl dX2_passNightByDraws_12 ?_
    refine za_irem (pc := 15) hx hb dX2_passNightByDraws_15 hF (fun hF => ?_)
    refine lv_istore_n (pc := 16) (lv' := [(1, .int (u8.1 - u8.1 / v_count * v_count)), (0, .ref h0)]) hx hb dX2_passNightByDraws_16 rfl hl (by decide) rfl (fun ls hl => ?_)
    refine lv_aload_n (pc := 17) hx hb dX2_passNightByDraws_17 rfl (lv_at hl 1 rfl) ?_
    obtain ⟨u18, hu18, hF⟩ := z_bind hF
    refine zq_callM (oc0 := (some (.int u18.1))) (wc := wX2_draw cB cI cJ cO h0 (.ref h_laws) (.ref h_ground) (.ref h_seen) (.int v_count) (.ref h_kind) (.ref h_hand) (.ref h_size) (.ref h_on) (.ref h_away) (.int v_nightsPassed) (.int v_glances) (.int v_gained) (.int v_paintedOn) (.ref h_wallLooks) u8.2) (wc' := wX2_draw cB cI cJ cO h0 (.ref h_laws) (.ref h_ground) (.ref h_seen) (.int v_count) (.ref h_kind) (.ref h_hand) (.ref h_size) (.ref h_on) (.ref h_away) (.int v_nightsPassed) (.int v_glances) (.int v_gained) (.int v_paintedOn) (.ref h_wallLooks) u18.2) (ws' := (wX2_passNightByDraws cB cI cJ cO h0 h_laws h_ground h_seen h_kind h_hand h_size h_on h_away h_wallLooks v_count v_nightsPassed v_glances u18.2 v_gained v_paintedOn v_laws v_ground v_seen v_kind v_hand v_size v_on v_away v_wallLooks)) (va_runV (As := []) (rest := []) ⟨hx, hb, hml, hown, hts⟩ (tX2_draw (l := l) (D := D) (cB := cB) (cI := cI) (cJ := cJ) (cO := cO) h0 (.ref h_laws) (.ref h_ground) (.ref h_seen) (.int v_count) (.ref h_kind) (.ref h_hand) (.ref h_size) (.ref h_on) (.ref h_away) (.int v_nightsPassed) (.int v_glances) (.int v_gained) (.int v_paintedOn) (.ref h_wallLooks) u8.2 u18 hu18) (cwV 0 hts gX2_passNightByDraws_X2_draw rfl rfl rfl (by decide +kernel) ⟨Nat.le_of_ble_eq_true rfl, Nat.le_of_ble_eq_true rfl⟩) ⟨zPre_blind, va_recv hK hP (ci := 2) (q0 := 0) rfl rfl, zPre_at hP hE (zD_re hD rfl) [0] rfl rfl⟩ rfl rfl hl.1 rfl (lv_room (Nat.le_of_ble_eq_true rfl)) dX2_passNightByDraws_18 ⟨Nat.zero_le _, Nat.zero_le _⟩) rfl hP (zD_re hD rfl) hS [0] rfl rfl [some 0, none, none, none, none, none, none, none, none, none] rfl rfl rfl rfl (fun H locs hP hS => ?_)
    refine W.eq (g2 := F0 m 21 ls [.int u18.1]) rfl ?_
    refine lv_bipush (pc := 21) (v := (nI 100)) hx hb dX2_passNightByDraws_21 (by decide) ?_
    refine lv_irem (pc := 23) hx hb dX2_passNightByDraws_23 (by decide) ?_
    refine lv_aload_n (pc := 24) hx hb dX2_passNightByDraws_24 rfl (lv_at hl 1 rfl) ?_
    refine va_get (D := D) (pc := 25) (ci := 2) (v := .ref h_laws) (C := RX2) (T := TX2) (N := 15) hx hb hts nX2_passNightByDraws_X2 hown hK hP 0 rfl rfl 0 (by decide) (hts _ kX2_passNightByDraws_1) (fun _ h9 => h9) rfl dX2_passNightByDraws_25 ?_
    refine lv_iconst (pc := 28) (v := (nI 3)) hx hb dX2_passNightByDraws_28 (by decide) ?_
    refine za_ialdK (pc := 29) (k := 3) hx hb hK hP 1 1 rfl rfl (by decide) (by decide) dX2_passNightByDraws_29 ?_
    refine zb_icmp_ge (pc := 30) (tgt := 47) hx hb dX2_passNightByDraws_30 (by decide) hF (fun c_30 hF => ?_) (fun c_30 hF => ?_)
    · refine lv_aload_n (pc := 47) hx hb dX2_passNightByDraws_47 rfl (lv_at hl 1 rfl) ?_
      obtain ⟨u48_1, hu48_1, hF⟩ := z_bind hF
      refine zq_callM (oc0 := none) (wc := wX2_passNight cB cI cJ cO h0 h_laws h_ground h_seen h_kind h_hand h_size h_on h_away h_wallLooks (.int u18.2) v_count v_nightsPassed v_glances v_gained v_paintedOn v_laws v_ground v_seen v_kind v_hand v_size v_on v_away v_wallLooks) (wc' := wX2_passNight cB cI cJ cO h0 h_laws h_ground h_seen h_kind h_hand h_size h_on h_away h_wallLooks (.int u18.2) v_count u48_1.1 u48_1.2.1 u48_1.2.2.1 u48_1.2.2.2.1 v_laws u48_1.2.2.2.2.1 v_seen v_kind v_hand u48_1.2.2.2.2.2.1 u48_1.2.2.2.2.2.2.1 u48_1.2.2.2.2.2.2.2.1 u48_1.2.2.2.2.2.2.2.2) (ws' := (wX2_passNightByDraws cB cI cJ cO h0 h_laws h_ground h_seen h_kind h_hand h_size h_on h_away h_wallLooks v_count u48_1.1 u48_1.2.1 u18.2 u48_1.2.2.1 u48_1.2.2.2.1 v_laws u48_1.2.2.2.2.1 v_seen v_kind v_hand u48_1.2.2.2.2.2.1 u48_1.2.2.2.2.2.2.1 u48_1.2.2.2.2.2.2.2.1 u48_1.2.2.2.2.2.2.2.2)) (va_runV (As := []) (rest := []) ⟨hx, hb, hml, hown, hts⟩ (tX2_passNight (l := l) (D := D) (cB := cB) (cI := cI) (cJ := cJ) (cO := cO) h0 h_laws h_ground h_seen h_kind h_hand h_size h_on h_away h_wallLooks (.int u18.2) v_count v_nightsPassed v_glances v_gained v_paintedOn v_laws v_ground v_seen v_kind v_hand v_size v_on v_away v_wallLooks u48_1 hu48_1) (cwV 0 hts gX2_passNightByDraws_X2_passNight rfl rfl rfl (by decide +kernel) ⟨Nat.le_of_ble_eq_true rfl, Nat.le_of_ble_eq_true rfl⟩) ⟨zPre_blind, va_recv hK hP (ci := 2) (q0 := 0) rfl rfl, zPre_at hP hE (zD_re hD rfl) [0, 1, 2, 3, 4, 5, 6, 7, 8, 9] rfl rfl⟩ rfl rfl hl.1 rfl (lv_room (Nat.le_of_ble_eq_true rfl)) dX2_passNightByDraws_48 ⟨Nat.zero_le _, Nat.zero_le _⟩) rfl hP (zD_re hD rfl) hS [0, 1, 2, 3, 4, 5, 6, 7, 8, 9] rfl rfl [some 0, some 1, some 2, some 3, some 4, some 5, some 6, some 7, some 8, some 9] rfl rfl rfl rfl (fun H locs hP hS => ?_)
      refine W.eq (g2 := F0 m 51 ls []) rfl ?_
      exact z_vretM (pc := 51) (fun q => (wX2_passNightByDraws cB cI cJ cO h0 h_laws h_ground h_seen h_kind h_hand h_size h_on h_away h_wallLooks v_count q.1 q.2.1 q.2.2.1 q.2.2.2.1 q.2.2.2.2.1 v_laws q.2.2.2.2.2.1 v_seen v_kind v_hand q.2.2.2.2.2.2.1 q.2.2.2.2.2.2.2.1 q.2.2.2.2.2.2.2.2.1 q.2.2.2.2.2.2.2.2.2)) hx hb hr hlocks hP hS hF hQ dX2_passNightByDraws_51
    · refine lv_aload_n (pc := 33) hx hb dX2_passNightByDraws_33 rfl (lv_at hl 1 rfl) ?_
      refine va_get (D := D) (pc := 34) (ci := 2) (v := .ref h_size) (C := RX2) (T := TX2) (N := 15) hx hb hts nX2_passNightByDraws_X2 hown hK hP 0 rfl rfl 6 (by decide) (hts _ kX2_passNightByDraws_2) (fun _ h9 => h9) rfl dX2_passNightByDraws_34 ?_
      refine lv_iload_n (pc := 37) hx hb dX2_passNightByDraws_37 rfl (lv_at hl 0 rfl) ?_
      refine lv_aload_n (pc := 38) hx hb dX2_passNightByDraws_38 rfl (lv_at hl 1 rfl) ?_
      refine va_get (D := D) (pc := 39) (ci := 2) (v := .ref h_size) (C := RX2) (T := TX2) (N := 15) hx hb hts nX2_passNightByDraws_X2 hown hK hP 0 rfl rfl 6 (by decide) (hts _ kX2_passNightByDraws_2) (fun _ h9 => h9) rfl dX2_passNightByDraws_39 ?_
      refine lv_iload_n (pc := 42) hx hb dX2_passNightByDraws_42 rfl (lv_at hl 0 rfl) ?_
      refine za_iald (pc := 43) hx hb hK hP 6 1 rfl rfl dX2_passNightByDraws_43 hF (fun hF => ?_)
      refine lv_iconst (pc := 44) (v := (nI 2)) hx hb dX2_passNightByDraws_44 (by decide) ?_
      refine lv_idiv (pc := 45) hx hb dX2_passNightByDraws_45 (by decide) ?_
      refine za_iast (pc := 46) hx hb hK hP (zD_re hD rfl) hS 6 1 rfl rfl dX2_passNightByDraws_46 hF (fun hF H locs hP hS => ?_)
      have hP : va_P D vwCl (wX2_passNightByDraws cB cI cJ cO h0 h_laws h_ground h_seen h_kind h_hand h_size h_on h_away h_wallLooks v_count v_nightsPassed v_glances u18.2 v_gained v_paintedOn v_laws v_ground v_seen v_kind v_hand (upd v_size (u8.1 - u8.1 / v_count * v_count).toNatClampNeg ((v_size (u8.1 - u8.1 / v_count * v_count).toNatClampNeg) / (nI 2))) v_on v_away v_wallLooks) H := hP
      refine lv_aload_n (pc := 47) hx hb dX2_passNightByDraws_47 rfl (lv_at hl 1 rfl) ?_
      obtain ⟨u48_2, hu48_2, hF⟩ := z_bind hF
      refine zq_callM (oc0 := none) (wc := wX2_passNight cB cI cJ cO h0 h_laws h_ground h_seen h_kind h_hand h_size h_on h_away h_wallLooks (.int u18.2) v_count v_nightsPassed v_glances v_gained v_paintedOn v_laws v_ground v_seen v_kind v_hand (upd v_size (u8.1 - u8.1 / v_count * v_count).toNatClampNeg ((v_size (u8.1 - u8.1 / v_count * v_count).toNatClampNeg) / (nI 2))) v_on v_away v_wallLooks) (wc' := wX2_passNight cB cI cJ cO h0 h_laws h_ground h_seen h_kind h_hand h_size h_on h_away h_wallLooks (.int u18.2) v_count u48_2.1 u48_2.2.1 u48_2.2.2.1 u48_2.2.2.2.1 v_laws u48_2.2.2.2.2.1 v_seen v_kind v_hand u48_2.2.2.2.2.2.1 u48_2.2.2.2.2.2.2.1 u48_2.2.2.2.2.2.2.2.1 u48_2.2.2.2.2.2.2.2.2) (ws' := (wX2_passNightByDraws cB cI cJ cO h0 h_laws h_ground h_seen h_kind h_hand h_size h_on h_away h_wallLooks v_count u48_2.1 u48_2.2.1 u18.2 u48_2.2.2.1 u48_2.2.2.2.1 v_laws u48_2.2.2.2.2.1 v_seen v_kind v_hand u48_2.2.2.2.2.2.1 u48_2.2.2.2.2.2.2.1 u48_2.2.2.2.2.2.2.2.1 u48_2.2.2.2.2.2.2.2.2)) (va_runV (As := []) (rest := []) ⟨hx, hb, hml, hown, hts⟩ (tX2_passNight (l := l) (D := D) (cB := cB) (cI := cI) (cJ := cJ) (cO := cO) h0 h_laws h_ground h_seen h_kind h_hand h_size h_on h_away h_wallLooks (.int u18.2) v_count v_nightsPassed v_glances v_gained v_paintedOn v_laws v_ground v_seen v_kind v_hand (upd v_size (u8.1 - u8.1 / v_count * v_count).toNatClampNeg ((v_size (u8.1 - u8.1 / v_count * v_count).toNatClampNeg) / (nI 2))) v_on v_away v_wallLooks u48_2 hu48_2) (cwV 0 hts gX2_passNightByDraws_X2_passNight rfl rfl rfl (by decide +kernel) ⟨Nat.le_of_ble_eq_true rfl, Nat.le_of_ble_eq_true rfl⟩) ⟨zPre_blind, va_recv hK hP (ci := 2) (q0 := 0) rfl rfl, zPre_at hP hE (zD_re hD rfl) [0, 1, 2, 3, 4, 5, 6, 7, 8, 9] rfl rfl⟩ rfl rfl hl.1 rfl (lv_room (Nat.le_of_ble_eq_true rfl)) dX2_passNightByDraws_48 ⟨Nat.zero_le _, Nat.zero_le _⟩) rfl hP (zD_re hD rfl) hS [0, 1, 2, 3, 4, 5, 6, 7, 8, 9] rfl rfl [some 0, some 1, some 2, some 3, some 4, some 5, some 6, some 7, some 8, some 9] rfl rfl rfl rfl (fun H locs hP hS => ?_)
      refine W.eq (g2 := F0 m 51 ls []) rfl ?_
      exact z_vretM (pc := 51) (fun q => (wX2_passNightByDraws cB cI cJ cO h0 h_laws h_ground h_seen h_kind h_hand h_size h_on h_away h_wallLooks v_count q.1 q.2.1 q.2.2.1 q.2.2.2.1 q.2.2.2.2.1 v_laws q.2.2.2.2.2.1 v_seen v_kind v_hand q.2.2.2.2.2.2.1 q.2.2.2.2.2.2.2.1 q.2.2.2.2.2.2.2.2.1 q.2.2.2.2.2.2.2.2.2)) hx hb hr hlocks hP hS hF hQ dX2_passNightByDraws_51

abbrev rX2_gainedBy : Room := { frames := 4, cells := 0, slots := 0, locals := 91 }
abbrev wX2_gainedBy (cB cI cJ cO : ClassId) (h0 h_laws h_ground h_seen h_kind h_hand h_size h_on h_away h_wallLooks : Nat) (g_draws : Value) (v_count : Int32) (v_nightsPassed : Int32) (v_glances : Int32) (v_gained : Int32) (v_paintedOn : Int32) (v_laws : Nat → Int32) (v_ground : Nat → Int32) (v_seen : Nat → Int32) (v_kind : Nat → Int32) (v_hand : Nat → Int32) (v_size : Nat → Int32) (v_on : Nat → Int32) (v_away : Nat → Int32) (v_wallLooks : Nat → Int32) : va_W := [(h0, .inr (2, [.ref h_laws, .ref h_ground, .ref h_seen, .int v_count, .ref h_kind, .ref h_hand, .ref h_size, .ref h_on, .ref h_away, .int v_nightsPassed, .int v_glances, g_draws, .int v_gained, .int v_paintedOn, .ref h_wallLooks])), (h_laws, .inl (cI, 4, .inl v_laws)), (h_ground, .inl (cI, 10, .inl v_ground)), (h_seen, .inl (cI, 10, .inl v_seen)), (h_kind, .inl (cI, 8, .inl v_kind)), (h_hand, .inl (cI, 8, .inl v_hand)), (h_size, .inl (cI, 8, .inl v_size)), (h_on, .inl (cI, 8, .inl v_on)), (h_away, .inl (cI, 8, .inl v_away)), (h_wallLooks, .inl (cI, 10, .inl v_wallLooks))]
theorem nX2_gainedBy_X2 : ∀ w ∈ wsX20, w ∈ wsX2_gainedBy := by decide +kernel
theorem kX2_gainedBy_0 : Cond.fieldLink RX2 58 "PaintedWalls$Town" "gained" "I" ∈ wsX2_gainedBy := by decide +kernel
set_option maxHeartbeats 4000000 in
set_option maxRecDepth 100000 in
theorem tX2_gainedBy {l : Launch} {D : va_G} {cB cI cJ cO : ClassId} (h0 h_laws h_ground h_seen h_kind h_hand h_size h_on h_away h_wallLooks : Nat) (g_draws : Value) (v_count : Int32) (v_nightsPassed : Int32) (v_glances : Int32) (v_gained : Int32) (v_paintedOn : Int32) (v_laws : Nat → Int32) (v_ground : Nat → Int32) (v_seen : Nat → Int32) (v_kind : Nat → Int32) (v_hand : Nat → Int32) (v_size : Nat → Int32) (v_on : Nat → Int32) (v_away : Nat → Int32) (v_wallLooks : Nat → Int32) (x1 : Int32) (r : Int32 × Int32 × Int32 × Int32 × Int32 × (Nat → Int32) × (Nat → Int32) × (Nat → Int32) × (Nat → Int32) × (Nat → Int32)) (hF : fX2_gainedBy v_count v_nightsPassed v_glances v_gained v_paintedOn v_laws v_ground v_seen v_kind v_hand v_size v_on v_away v_wallLooks x1 = some r) : Met l yX2_gainedBy wsX2_gainedBy rX2_gainedBy (zPre D cB cI cJ cO [.ref h0, .int x1] (wX2_gainedBy cB cI cJ cO h0 h_laws h_ground h_seen h_kind h_hand h_size h_on h_away h_wallLooks g_draws v_count v_nightsPassed v_glances v_gained v_paintedOn v_laws v_ground v_seen v_kind v_hand v_size v_on v_away v_wallLooks)) (zPM (some (.int r.1)) D (wX2_gainedBy cB cI cJ cO h0 h_laws h_ground h_seen h_kind h_hand h_size h_on h_away h_wallLooks g_draws v_count r.2.1 r.2.2.1 r.2.2.2.1 r.2.2.2.2.1 v_laws r.2.2.2.2.2.1 v_seen v_kind v_hand r.2.2.2.2.2.2.1 r.2.2.2.2.2.2.2.1 r.2.2.2.2.2.2.2.2.1 r.2.2.2.2.2.2.2.2.2) (zAs [h0, h_laws, h_ground, h_seen, h_kind, h_hand, h_size, h_on, h_away, h_wallLooks])) 0 0 (zAs [h0, h_laws, h_ground, h_seen, h_kind, h_hand, h_size, h_on, h_away, h_wallLooks]) := by
  refine zMetM (cc := cX2_gainedBy) (maxL := 3) (ret := (some .int)) (lv := [(0, .ref h0), (1, .int x1)]) rfl (by decide) rfl (Nat.le_of_ble_eq_true rfl) rfl ?_
  intro p e s m args below meth c ls Q H locs hQ hx hb hr hml hown hts hlocks hname hP hE hD hS hl
  have hown : s.vm.findClass RX2 = some m.cls := hown
  have hK := hE.1
  unfold fX2_gainedBy at hF
  refine lv_iconst (pc := 0) (v := (nI 0)) hx hb dX2_gainedBy_0 (by decide) ?_
  refine lv_istore_n (pc := 1) (lv' := [(2, .int (nI 0)), (0, .ref h0), (1, .int x1)]) hx hb dX2_gainedBy_1 rfl hl (by decide) rfl (fun ls hl => ?_)
  obtain ⟨k_20, hk_20, hF⟩ := z_J hF
  have kk_20 : ∀ (v_nightsPassed_11 : Int32) (v_glances_12 : Int32) (v_gained_13 : Int32) (v_paintedOn_14 : Int32) (v_ground_15 : Nat → Int32) (v_size_16 : Nat → Int32) (v_on_17 : Nat → Int32) (v_away_18 : Nat → Int32) (v_wallLooks_19 : Nat → Int32) , k_20 v_nightsPassed_11 v_glances_12 v_gained_13 v_paintedOn_14 v_ground_15 v_size_16 v_on_17 v_away_18 v_wallLooks_19 = some r → ∀ (H : Heap) (locs : List Loc), va_P D vwCl (wX2_gainedBy cB cI cJ cO h0 h_laws h_ground h_seen h_kind h_hand h_size h_on h_away h_wallLooks g_draws v_count v_nightsPassed_11 v_glances_12 v_gained_13 v_paintedOn_14 v_laws v_ground_15 v_seen v_kind v_hand v_size_16 v_on_17 v_away_18 v_wallLooks_19) H → va_S (zAs [h0, h_laws, h_ground, h_seen, h_kind, h_hand, h_size, h_on, h_away, h_wallLooks]) s.heap H locs → ∀ (ls : Array Slot), lv_has ls 3 [(0, .ref h0)] → W p l e rX2_gainedBy s m args below meth c H locs 0 0 Q (F0 m 17 ls []) := by
    intro v_nightsPassed_11 v_glances_12 v_gained_13 v_paintedOn_14 v_ground_15 v_size_16 v_on_17 v_away_18 v_wallLooks_19 hF H locs hP hS ls hl
    rw [hk_20] at hF
    refine lv_aload_n (pc := 17) hx hb dX2_gainedBy_17 rfl (lv_at hl 0 rfl) ?_
    refine va_get (D := D) (pc := 18) (ci := 2) (v := .int v_gained_13) (C := RX2) (T := TX2) (N := 15) hx hb hts nX2_gainedBy_X2 hown hK hP 0 rfl rfl 12 (by decide) (hts _ kX2_gainedBy_0) (fun _ h9 => h9) rfl dX2_gainedBy_18 ?_
    exact z_iretM (pc := 21) (fun q => q.1) (fun q => (wX2_gainedBy cB cI cJ cO h0 h_laws h_ground h_seen h_kind h_hand h_size h_on h_away h_wallLooks g_draws v_count q.2.1 q.2.2.1 q.2.2.2.1 q.2.2.2.2.1 v_laws q.2.2.2.2.2.1 v_seen v_kind v_hand q.2.2.2.2.2.2.1 q.2.2.2.2.2.2.2.1 q.2.2.2.2.2.2.2.2.1 q.2.2.2.2.2.2.2.2.2)) hx hb hr hlocks hP hS hF rfl hQ dX2_gainedBy_21
  have hL_2 : ∀ (n : Nat) (y2_1 : Int32) (v_nightsPassed_2 : Int32) (v_glances_3 : Int32) (v_gained_4 : Int32) (v_paintedOn_5 : Int32) (v_ground_6 : Nat → Int32) (v_size_7 : Nat → Int32) (v_on_8 : Nat → Int32) (v_away_9 : Nat → Int32) (v_wallLooks_10 : Nat → Int32) , fX2_gainedBy_L2 v_count v_laws v_seen v_kind v_hand x1 k_20 n y2_1 v_nightsPassed_2 v_glances_3 v_gained_4 v_paintedOn_5 v_ground_6 v_size_7 v_on_8 v_away_9 v_wallLooks_10 = some r → ∀ (H : Heap) (locs : List Loc), va_P D vwCl (wX2_gainedBy cB cI cJ cO h0 h_laws h_ground h_seen h_kind h_hand h_size h_on h_away h_wallLooks g_draws v_count v_nightsPassed_2 v_glances_3 v_gained_4 v_paintedOn_5 v_laws v_ground_6 v_seen v_kind v_hand v_size_7 v_on_8 v_away_9 v_wallLooks_10) H → va_S (zAs [h0, h_laws, h_ground, h_seen, h_kind, h_hand, h_size, h_on, h_away, h_wallLooks]) s.heap H locs → ∀ (ls : Array Slot), lv_has ls 3 [(0, .ref h0), (1, .int x1), (2, .int y2_1)] → W p l e rX2_gainedBy s m args below meth c H locs 0 0 Q (F0 m 2 ls []) := by
    intro n
    induction n with
    | zero =>
      intro y2_1 v_nightsPassed_2 v_glances_3 v_gained_4 v_paintedOn_5 v_ground_6 v_size_7 v_on_8 v_away_9 v_wallLooks_10 hF H locs hP hS ls hl
      exact z_no hF
    | succ n ih =>
      intro y2_1 v_nightsPassed_2 v_glances_3 v_gained_4 v_paintedOn_5 v_ground_6 v_size_7 v_on_8 v_away_9 v_wallLooks_10 hF H locs hP hS ls hl
      rw [fX2_gainedBy_L2] at hF
      refine lv_iload_n (pc := 2) hx hb dX2_gainedBy_2 rfl (lv_at hl 2 rfl) ?_
      refine lv_iload_n (pc := 3) hx hb dX2_gainedBy_3 rfl (lv_at hl 1 rfl) ?_
      refine zb_icmp_ge (pc := 4) (tgt := 17) hx hb dX2_gainedBy_4 (by decide) hF (fun c_4 hF => ?_) (fun c_4 hF => ?_)
      · exact kk_20 v_nightsPassed_2 v_glances_3 v_gained_4 v_paintedOn_5 v_ground_6 v_size_7 v_on_8 v_away_9 v_wallLooks_10 hF H locs hP hS ls (lv_sub hl [0] rfl)
      · refine lv_aload_n (pc := 7) hx hb dX2_gainedBy_7 rfl (lv_at hl 0 rfl) ?_
        obtain ⟨u8, hu8, hF⟩ := z_bind hF
        refine zq_callM (oc0 := none) (wc := wX2_passNight cB cI cJ cO h0 h_laws h_ground h_seen h_kind h_hand h_size h_on h_away h_wallLooks g_draws v_count v_nightsPassed_2 v_glances_3 v_gained_4 v_paintedOn_5 v_laws v_ground_6 v_seen v_kind v_hand v_size_7 v_on_8 v_away_9 v_wallLooks_10) (wc' := wX2_passNight cB cI cJ cO h0 h_laws h_ground h_seen h_kind h_hand h_size h_on h_away h_wallLooks g_draws v_count u8.1 u8.2.1 u8.2.2.1 u8.2.2.2.1 v_laws u8.2.2.2.2.1 v_seen v_kind v_hand u8.2.2.2.2.2.1 u8.2.2.2.2.2.2.1 u8.2.2.2.2.2.2.2.1 u8.2.2.2.2.2.2.2.2) (ws' := (wX2_gainedBy cB cI cJ cO h0 h_laws h_ground h_seen h_kind h_hand h_size h_on h_away h_wallLooks g_draws v_count u8.1 u8.2.1 u8.2.2.1 u8.2.2.2.1 v_laws u8.2.2.2.2.1 v_seen v_kind v_hand u8.2.2.2.2.2.1 u8.2.2.2.2.2.2.1 u8.2.2.2.2.2.2.2.1 u8.2.2.2.2.2.2.2.2)) (va_runV (As := []) (rest := []) ⟨hx, hb, hml, hown, hts⟩ (tX2_passNight (l := l) (D := D) (cB := cB) (cI := cI) (cJ := cJ) (cO := cO) h0 h_laws h_ground h_seen h_kind h_hand h_size h_on h_away h_wallLooks g_draws v_count v_nightsPassed_2 v_glances_3 v_gained_4 v_paintedOn_5 v_laws v_ground_6 v_seen v_kind v_hand v_size_7 v_on_8 v_away_9 v_wallLooks_10 u8 hu8) (cwV 0 hts gX2_gainedBy_X2_passNight rfl rfl rfl (by decide +kernel) ⟨Nat.le_of_ble_eq_true rfl, Nat.le_of_ble_eq_true rfl⟩) ⟨zPre_blind, va_recv hK hP (ci := 2) (q0 := 0) rfl rfl, zPre_at hP hE (zD_re hD rfl) [0, 1, 2, 3, 4, 5, 6, 7, 8, 9] rfl rfl⟩ rfl rfl hl.1 rfl (lv_room (Nat.le_of_ble_eq_true rfl)) dX2_gainedBy_8 ⟨Nat.zero_le _, Nat.zero_le _⟩) rfl hP (zD_re hD rfl) hS [0, 1, 2, 3, 4, 5, 6, 7, 8, 9] rfl rfl [some 0, some 1, some 2, some 3, some 4, some 5, some 6, some 7, some 8, some 9] rfl rfl rfl rfl (fun H locs hP hS => ?_)
        refine W.eq (g2 := F0 m 11 ls []) rfl ?_
        refine lv_iinc (pc := 11) (v := (y2_1 + 1)) (lv' := [(2, .int (y2_1 + 1)), (0, .ref h0), (1, .int x1)]) hx hb dX2_gainedBy_11 hl (k := 2) rfl rfl (by decide) rfl (fun ls hl => ?_)
        refine lv_goto (pc := 14) (tgt := 2) hx hb dX2_gainedBy_14 (by decide) ?_
        exact ih (y2_1 + 1) u8.1 u8.2.1 u8.2.2.1 u8.2.2.2.1 u8.2.2.2.2.1 u8.2.2.2.2.2.1 u8.2.2.2.2.2.2.1 u8.2.2.2.2.2.2.2.1 u8.2.2.2.2.2.2.2.2 hF H locs hP hS ls (lv_sub hl [1, 2, 0] rfl)
  exact hL_2 zK (nI 0) v_nightsPassed v_glances v_gained v_paintedOn v_ground v_size v_on v_away v_wallLooks hF H locs hP hS ls (lv_sub hl [1, 2, 0] rfl)

abbrev rX2_gainsAtMost : Room := { frames := 4, cells := 0, slots := 0, locals := 91 }
abbrev wX2_gainsAtMost (cB cI cJ cO : ClassId) (h0 h_laws h_ground h_seen h_kind h_hand h_size h_on h_away h_wallLooks : Nat) (g_draws : Value) (v_count : Int32) (v_nightsPassed : Int32) (v_glances : Int32) (v_gained : Int32) (v_paintedOn : Int32) (v_laws : Nat → Int32) (v_ground : Nat → Int32) (v_seen : Nat → Int32) (v_kind : Nat → Int32) (v_hand : Nat → Int32) (v_size : Nat → Int32) (v_on : Nat → Int32) (v_away : Nat → Int32) (v_wallLooks : Nat → Int32) : va_W := [(h0, .inr (2, [.ref h_laws, .ref h_ground, .ref h_seen, .int v_count, .ref h_kind, .ref h_hand, .ref h_size, .ref h_on, .ref h_away, .int v_nightsPassed, .int v_glances, g_draws, .int v_gained, .int v_paintedOn, .ref h_wallLooks])), (h_laws, .inl (cI, 4, .inl v_laws)), (h_ground, .inl (cI, 10, .inl v_ground)), (h_seen, .inl (cI, 10, .inl v_seen)), (h_kind, .inl (cI, 8, .inl v_kind)), (h_hand, .inl (cI, 8, .inl v_hand)), (h_size, .inl (cI, 8, .inl v_size)), (h_on, .inl (cI, 8, .inl v_on)), (h_away, .inl (cI, 8, .inl v_away)), (h_wallLooks, .inl (cI, 10, .inl v_wallLooks))]
theorem nX2_gainsAtMost_X2 : ∀ w ∈ wsX20, w ∈ wsX2_gainsAtMost := by decide +kernel
theorem kX2_gainsAtMost_0 : Cond.fieldLink RX2 58 "PaintedWalls$Town" "gained" "I" ∈ wsX2_gainsAtMost := by decide +kernel
set_option maxHeartbeats 4000000 in
set_option maxRecDepth 100000 in
theorem tX2_gainsAtMost {l : Launch} {D : va_G} {cB cI cJ cO : ClassId} (h0 h_laws h_ground h_seen h_kind h_hand h_size h_on h_away h_wallLooks : Nat) (g_draws : Value) (v_count : Int32) (v_nightsPassed : Int32) (v_glances : Int32) (v_gained : Int32) (v_paintedOn : Int32) (v_laws : Nat → Int32) (v_ground : Nat → Int32) (v_seen : Nat → Int32) (v_kind : Nat → Int32) (v_hand : Nat → Int32) (v_size : Nat → Int32) (v_on : Nat → Int32) (v_away : Nat → Int32) (v_wallLooks : Nat → Int32) (x1 : Int32) (x2 : Int32) (r : Int32 × Int32 × Int32 × Int32 × Int32 × (Nat → Int32) × (Nat → Int32) × (Nat → Int32) × (Nat → Int32) × (Nat → Int32)) (hF : fX2_gainsAtMost v_count v_nightsPassed v_glances v_gained v_paintedOn v_laws v_ground v_seen v_kind v_hand v_size v_on v_away v_wallLooks x1 x2 = some r) : Met l yX2_gainsAtMost wsX2_gainsAtMost rX2_gainsAtMost (zPre D cB cI cJ cO [.ref h0, .int x1, .int x2] (wX2_gainsAtMost cB cI cJ cO h0 h_laws h_ground h_seen h_kind h_hand h_size h_on h_away h_wallLooks g_draws v_count v_nightsPassed v_glances v_gained v_paintedOn v_laws v_ground v_seen v_kind v_hand v_size v_on v_away v_wallLooks)) (zPM (some (.int r.1)) D (wX2_gainsAtMost cB cI cJ cO h0 h_laws h_ground h_seen h_kind h_hand h_size h_on h_away h_wallLooks g_draws v_count r.2.1 r.2.2.1 r.2.2.2.1 r.2.2.2.2.1 v_laws r.2.2.2.2.2.1 v_seen v_kind v_hand r.2.2.2.2.2.2.1 r.2.2.2.2.2.2.2.1 r.2.2.2.2.2.2.2.2.1 r.2.2.2.2.2.2.2.2.2) (zAs [h0, h_laws, h_ground, h_seen, h_kind, h_hand, h_size, h_on, h_away, h_wallLooks])) 0 0 (zAs [h0, h_laws, h_ground, h_seen, h_kind, h_hand, h_size, h_on, h_away, h_wallLooks]) := by
  refine zMetM (cc := cX2_gainsAtMost) (maxL := 4) (ret := (some .boolean)) (lv := [(0, .ref h0), (1, .int x1), (2, .int x2)]) rfl (by decide) rfl (Nat.le_of_ble_eq_true rfl) rfl ?_
  intro p e s m args below meth c ls Q H locs hQ hx hb hr hml hown hts hlocks hname hP hE hD hS hl
  have hown : s.vm.findClass RX2 = some m.cls := hown
  have hK := hE.1
  unfold fX2_gainsAtMost at hF
  refine lv_iconst (pc := 0) (v := (nI 0)) hx hb dX2_gainsAtMost_0 (by decide) ?_
  refine lv_istore_n (pc := 1) (lv' := [(3, .int (nI 0)), (0, .ref h0), (1, .int x1), (2, .int x2)]) hx hb dX2_gainsAtMost_1 rfl hl (by decide) rfl (fun ls hl => ?_)
  obtain ⟨k_20, hk_20, hF⟩ := z_J hF
  have kk_20 : ∀ (v_nightsPassed_11 : Int32) (v_glances_12 : Int32) (v_gained_13 : Int32) (v_paintedOn_14 : Int32) (v_ground_15 : Nat → Int32) (v_size_16 : Nat → Int32) (v_on_17 : Nat → Int32) (v_away_18 : Nat → Int32) (v_wallLooks_19 : Nat → Int32) , k_20 v_nightsPassed_11 v_glances_12 v_gained_13 v_paintedOn_14 v_ground_15 v_size_16 v_on_17 v_away_18 v_wallLooks_19 = some r → ∀ (H : Heap) (locs : List Loc), va_P D vwCl (wX2_gainsAtMost cB cI cJ cO h0 h_laws h_ground h_seen h_kind h_hand h_size h_on h_away h_wallLooks g_draws v_count v_nightsPassed_11 v_glances_12 v_gained_13 v_paintedOn_14 v_laws v_ground_15 v_seen v_kind v_hand v_size_16 v_on_17 v_away_18 v_wallLooks_19) H → va_S (zAs [h0, h_laws, h_ground, h_seen, h_kind, h_hand, h_size, h_on, h_away, h_wallLooks]) s.heap H locs → ∀ (ls : Array Slot), lv_has ls 4 [(0, .ref h0), (2, .int x2)] → W p l e rX2_gainsAtMost s m args below meth c H locs 0 0 Q (F0 m 25 ls []) := by
    intro v_nightsPassed_11 v_glances_12 v_gained_13 v_paintedOn_14 v_ground_15 v_size_16 v_on_17 v_away_18 v_wallLooks_19 hF H locs hP hS ls hl
    rw [hk_20] at hF
    refine lv_aload_n (pc := 25) hx hb dX2_gainsAtMost_25 rfl (lv_at hl 0 rfl) ?_
    refine va_get (D := D) (pc := 26) (ci := 2) (v := .int v_gained_13) (C := RX2) (T := TX2) (N := 15) hx hb hts nX2_gainsAtMost_X2 hown hK hP 0 rfl rfl 12 (by decide) (hts _ kX2_gainsAtMost_0) (fun _ h9 => h9) rfl dX2_gainsAtMost_26 ?_
    refine lv_iload_n (pc := 29) hx hb dX2_gainsAtMost_29 rfl (lv_at hl 1 rfl) ?_
    refine zb_icmp_gt (pc := 30) (tgt := 37) hx hb dX2_gainsAtMost_30 (by decide) hF (fun c_30 hF => ?_) (fun c_30 hF => ?_)
    · refine lv_iconst (pc := 37) (v := (nI 0)) hx hb dX2_gainsAtMost_37 (by decide) ?_
      exact z_zretM (pc := 38) (fun q => q.1) (fun q => (wX2_gainsAtMost cB cI cJ cO h0 h_laws h_ground h_seen h_kind h_hand h_size h_on h_away h_wallLooks g_draws v_count q.2.1 q.2.2.1 q.2.2.2.1 q.2.2.2.2.1 v_laws q.2.2.2.2.2.1 v_seen v_kind v_hand q.2.2.2.2.2.2.1 q.2.2.2.2.2.2.2.1 q.2.2.2.2.2.2.2.2.1 q.2.2.2.2.2.2.2.2.2)) hx hb hr hlocks (by decide) hP hS hF rfl hQ dX2_gainsAtMost_38
    · refine lv_iconst (pc := 33) (v := (nI 1)) hx hb dX2_gainsAtMost_33 (by decide) ?_
      refine lv_goto (pc := 34) (tgt := 38) hx hb dX2_gainsAtMost_34 (by decide) ?_
      exact z_zretM (pc := 38) (fun q => q.1) (fun q => (wX2_gainsAtMost cB cI cJ cO h0 h_laws h_ground h_seen h_kind h_hand h_size h_on h_away h_wallLooks g_draws v_count q.2.1 q.2.2.1 q.2.2.2.1 q.2.2.2.2.1 v_laws q.2.2.2.2.2.1 v_seen v_kind v_hand q.2.2.2.2.2.2.1 q.2.2.2.2.2.2.2.1 q.2.2.2.2.2.2.2.2.1 q.2.2.2.2.2.2.2.2.2)) hx hb hr hlocks (by decide) hP hS hF rfl hQ dX2_gainsAtMost_38
  have hL_2 : ∀ (n : Nat) (y3_1 : Int32) (v_nightsPassed_2 : Int32) (v_glances_3 : Int32) (v_gained_4 : Int32) (v_paintedOn_5 : Int32) (v_ground_6 : Nat → Int32) (v_size_7 : Nat → Int32) (v_on_8 : Nat → Int32) (v_away_9 : Nat → Int32) (v_wallLooks_10 : Nat → Int32) , fX2_gainsAtMost_L2 v_count v_laws v_seen v_kind v_hand x1 x2 k_20 n y3_1 v_nightsPassed_2 v_glances_3 v_gained_4 v_paintedOn_5 v_ground_6 v_size_7 v_on_8 v_away_9 v_wallLooks_10 = some r → ∀ (H : Heap) (locs : List Loc), va_P D vwCl (wX2_gainsAtMost cB cI cJ cO h0 h_laws h_ground h_seen h_kind h_hand h_size h_on h_away h_wallLooks g_draws v_count v_nightsPassed_2 v_glances_3 v_gained_4 v_paintedOn_5 v_laws v_ground_6 v_seen v_kind v_hand v_size_7 v_on_8 v_away_9 v_wallLooks_10) H → va_S (zAs [h0, h_laws, h_ground, h_seen, h_kind, h_hand, h_size, h_on, h_away, h_wallLooks]) s.heap H locs → ∀ (ls : Array Slot), lv_has ls 4 [(0, .ref h0), (1, .int x1), (2, .int x2), (3, .int y3_1)] → W p l e rX2_gainsAtMost s m args below meth c H locs 0 0 Q (F0 m 2 ls []) := by
    intro n
    induction n with
    | zero =>
      intro y3_1 v_nightsPassed_2 v_glances_3 v_gained_4 v_paintedOn_5 v_ground_6 v_size_7 v_on_8 v_away_9 v_wallLooks_10 hF H locs hP hS ls hl
      exact z_no hF
    | succ n ih =>
      intro y3_1 v_nightsPassed_2 v_glances_3 v_gained_4 v_paintedOn_5 v_ground_6 v_size_7 v_on_8 v_away_9 v_wallLooks_10 hF H locs hP hS ls hl
      rw [fX2_gainsAtMost_L2] at hF
      refine lv_iload_n (pc := 2) hx hb dX2_gainsAtMost_2 rfl (lv_at hl 3 rfl) ?_
      refine lv_iload_n (pc := 3) hx hb dX2_gainsAtMost_3 rfl (lv_at hl 1 rfl) ?_
      refine zb_icmp_ge (pc := 4) (tgt := 25) hx hb dX2_gainsAtMost_4 (by decide) hF (fun c_4 hF => ?_) (fun c_4 hF => ?_)
      · exact kk_20 v_nightsPassed_2 v_glances_3 v_gained_4 v_paintedOn_5 v_ground_6 v_size_7 v_on_8 v_away_9 v_wallLooks_10 hF H locs hP hS ls (lv_sub hl [0, 2] rfl)
      · refine lv_aload_n (pc := 7) hx hb dX2_gainsAtMost_7 rfl (lv_at hl 0 rfl) ?_
        refine va_get (D := D) (pc := 8) (ci := 2) (v := .int v_gained_4) (C := RX2) (T := TX2) (N := 15) hx hb hts nX2_gainsAtMost_X2 hown hK hP 0 rfl rfl 12 (by decide) (hts _ kX2_gainsAtMost_0) (fun _ h9 => h9) rfl dX2_gainsAtMost_8 ?_
        refine lv_iload_n (pc := 11) hx hb dX2_gainsAtMost_11 rfl (lv_at hl 2 rfl) ?_
        refine zb_icmp_gt (pc := 12) (tgt := 25) hx hb dX2_gainsAtMost_12 (by decide) hF (fun c_12 hF => ?_) (fun c_12 hF => ?_)
        · exact kk_20 v_nightsPassed_2 v_glances_3 v_gained_4 v_paintedOn_5 v_ground_6 v_size_7 v_on_8 v_away_9 v_wallLooks_10 hF H locs hP hS ls (lv_sub hl [0, 2] rfl)
        · refine lv_aload_n (pc := 15) hx hb dX2_gainsAtMost_15 rfl (lv_at hl 0 rfl) ?_
          obtain ⟨u16, hu16, hF⟩ := z_bind hF
          refine zq_callM (oc0 := none) (wc := wX2_passNight cB cI cJ cO h0 h_laws h_ground h_seen h_kind h_hand h_size h_on h_away h_wallLooks g_draws v_count v_nightsPassed_2 v_glances_3 v_gained_4 v_paintedOn_5 v_laws v_ground_6 v_seen v_kind v_hand v_size_7 v_on_8 v_away_9 v_wallLooks_10) (wc' := wX2_passNight cB cI cJ cO h0 h_laws h_ground h_seen h_kind h_hand h_size h_on h_away h_wallLooks g_draws v_count u16.1 u16.2.1 u16.2.2.1 u16.2.2.2.1 v_laws u16.2.2.2.2.1 v_seen v_kind v_hand u16.2.2.2.2.2.1 u16.2.2.2.2.2.2.1 u16.2.2.2.2.2.2.2.1 u16.2.2.2.2.2.2.2.2) (ws' := (wX2_gainsAtMost cB cI cJ cO h0 h_laws h_ground h_seen h_kind h_hand h_size h_on h_away h_wallLooks g_draws v_count u16.1 u16.2.1 u16.2.2.1 u16.2.2.2.1 v_laws u16.2.2.2.2.1 v_seen v_kind v_hand u16.2.2.2.2.2.1 u16.2.2.2.2.2.2.1 u16.2.2.2.2.2.2.2.1 u16.2.2.2.2.2.2.2.2)) (va_runV (As := []) (rest := []) ⟨hx, hb, hml, hown, hts⟩ (tX2_passNight (l := l) (D := D) (cB := cB) (cI := cI) (cJ := cJ) (cO := cO) h0 h_laws h_ground h_seen h_kind h_hand h_size h_on h_away h_wallLooks g_draws v_count v_nightsPassed_2 v_glances_3 v_gained_4 v_paintedOn_5 v_laws v_ground_6 v_seen v_kind v_hand v_size_7 v_on_8 v_away_9 v_wallLooks_10 u16 hu16) (cwV 0 hts gX2_gainsAtMost_X2_passNight rfl rfl rfl (by decide +kernel) ⟨Nat.le_of_ble_eq_true rfl, Nat.le_of_ble_eq_true rfl⟩) ⟨zPre_blind, va_recv hK hP (ci := 2) (q0 := 0) rfl rfl, zPre_at hP hE (zD_re hD rfl) [0, 1, 2, 3, 4, 5, 6, 7, 8, 9] rfl rfl⟩ rfl rfl hl.1 rfl (lv_room (Nat.le_of_ble_eq_true rfl)) dX2_gainsAtMost_16 ⟨Nat.zero_le _, Nat.zero_le _⟩) rfl hP (zD_re hD rfl) hS [0, 1, 2, 3, 4, 5, 6, 7, 8, 9] rfl rfl [some 0, some 1, some 2, some 3, some 4, some 5, some 6, some 7, some 8, some 9] rfl rfl rfl rfl (fun H locs hP hS => ?_)
          refine W.eq (g2 := F0 m 19 ls []) rfl ?_
          refine lv_iinc (pc := 19) (v := (y3_1 + 1)) (lv' := [(3, .int (y3_1 + 1)), (0, .ref h0), (1, .int x1), (2, .int x2)]) hx hb dX2_gainsAtMost_19 hl (k := 3) rfl rfl (by decide) rfl (fun ls hl => ?_)
          refine lv_goto (pc := 22) (tgt := 2) hx hb dX2_gainsAtMost_22 (by decide) ?_
          exact ih (y3_1 + 1) u16.1 u16.2.1 u16.2.2.1 u16.2.2.2.1 u16.2.2.2.2.1 u16.2.2.2.2.2.1 u16.2.2.2.2.2.2.1 u16.2.2.2.2.2.2.2.1 u16.2.2.2.2.2.2.2.2 hF H locs hP hS ls (lv_sub hl [1, 2, 3, 0] rfl)
  exact hL_2 zK (nI 0) v_nightsPassed v_glances v_gained v_paintedOn v_ground v_size v_on v_away v_wallLooks hF H locs hP hS ls (lv_sub hl [1, 2, 3, 0] rfl)
