abbrev rX4_many : Room := { frames := 2, cells := 0, slots := 0, locals := 45 }
abbrev wX4_many (cB cI cJ cO : ClassId) (h0 h_now h_now_seen h_now_hand h_now_size h_now_on h_thing : Nat) (g_tried g_told g_kept g_isKept g_tape g_rows g_sheets g_shelfHolds g_shelfNames g_shelfRows g_mattering g_now_laws g_now_ground g_now_kind g_now_away g_now_nightsPassed g_now_glances g_now_draws g_now_gained g_now_paintedOn g_now_wallLooks g_thing_bodies g_thing_isBroken g_thing_kind g_thing_number g_thing_hand g_thing_isFresh g_thing_isCovered : Value) (v_taped : Int32) (v_rowCount : Int32) (v_now_count : Int32) (v_now_seen : Nat → Int32) (v_now_hand : Nat → Int32) (v_now_size : Nat → Int32) (v_now_on : Nat → Int32) (v_thing_traced : Int32) : va_W := [(h0, .inr (4, [.ref h_now, g_tried, g_told, g_kept, g_isKept, g_tape, .int v_taped, g_rows, .int v_rowCount, g_sheets, g_shelfHolds, g_shelfNames, g_shelfRows, .ref h_thing, g_mattering])), (h_now, .inr (2, [g_now_laws, g_now_ground, .ref h_now_seen, .int v_now_count, g_now_kind, .ref h_now_hand, .ref h_now_size, .ref h_now_on, g_now_away, g_now_nightsPassed, g_now_glances, g_now_draws, g_now_gained, g_now_paintedOn, g_now_wallLooks])), (h_now_seen, .inl (cI, 10, .inl v_now_seen)), (h_now_hand, .inl (cI, 8, .inl v_now_hand)), (h_now_size, .inl (cI, 8, .inl v_now_size)), (h_now_on, .inl (cI, 8, .inl v_now_on)), (h_thing, .inr (1, [g_thing_bodies, .int v_thing_traced, g_thing_isBroken, g_thing_kind, g_thing_number, g_thing_hand, g_thing_isFresh, g_thing_isCovered]))]
theorem nX4_many_X4 : ∀ w ∈ wsX40, w ∈ wsX4_many := by decide +kernel
theorem nX4_many_X2 : ∀ w ∈ wsX20, w ∈ wsX4_many := by decide +kernel
theorem nX4_many_X1 : ∀ w ∈ wsX10, w ∈ wsX4_many := by decide +kernel
theorem kX4_many_0 : Cond.fieldLink RX4 12 "PaintedWalls" "now" "LPaintedWalls$Town;" ∈ wsX4_many := by decide +kernel
theorem kX4_many_1 : Cond.fieldLink RX4 88 "PaintedWalls$Town" "count" "I" ∈ wsX4_many := by decide +kernel
theorem kX4_many_2 : Cond.fieldLink RX4 41 "PaintedWalls" "rowCount" "I" ∈ wsX4_many := by decide +kernel
theorem kX4_many_3 : Cond.fieldLink RX4 33 "PaintedWalls" "taped" "I" ∈ wsX4_many := by decide +kernel
theorem kX4_many_4 : Cond.fieldLink RX4 62 "PaintedWalls" "thing" "LPaintedWalls$Thing;" ∈ wsX4_many := by decide +kernel
theorem kX4_many_5 : Cond.fieldLink RX4 246 "PaintedWalls$Thing" "traced" "I" ∈ wsX4_many := by decide +kernel
set_option maxHeartbeats 4000000 in
set_option maxRecDepth 100000 in
theorem tX4_many {l : Launch} {D : va_G} {cB cI cJ cO : ClassId} (h0 h_now h_now_seen h_now_hand h_now_size h_now_on h_thing : Nat) (g_tried g_told g_kept g_isKept g_tape g_rows g_sheets g_shelfHolds g_shelfNames g_shelfRows g_mattering g_now_laws g_now_ground g_now_kind g_now_away g_now_nightsPassed g_now_glances g_now_draws g_now_gained g_now_paintedOn g_now_wallLooks g_thing_bodies g_thing_isBroken g_thing_kind g_thing_number g_thing_hand g_thing_isFresh g_thing_isCovered : Value) (v_taped : Int32) (v_rowCount : Int32) (v_now_count : Int32) (v_now_seen : Nat → Int32) (v_now_hand : Nat → Int32) (v_now_size : Nat → Int32) (v_now_on : Nat → Int32) (v_thing_traced : Int32) (x1 : Int32) (r : Int32) (hF : fX4_many v_taped v_rowCount v_now_count v_now_seen v_now_hand v_now_size v_now_on v_thing_traced x1 = some r) : Met l yX4_many wsX4_many rX4_many (zPre D cB cI cJ cO [.ref h0, .int x1] (wX4_many cB cI cJ cO h0 h_now h_now_seen h_now_hand h_now_size h_now_on h_thing g_tried g_told g_kept g_isKept g_tape g_rows g_sheets g_shelfHolds g_shelfNames g_shelfRows g_mattering g_now_laws g_now_ground g_now_kind g_now_away g_now_nightsPassed g_now_glances g_now_draws g_now_gained g_now_paintedOn g_now_wallLooks g_thing_bodies g_thing_isBroken g_thing_kind g_thing_number g_thing_hand g_thing_isFresh g_thing_isCovered v_taped v_rowCount v_now_count v_now_seen v_now_hand v_now_size v_now_on v_thing_traced)) (zPI (some (.int r))) 0 0 (fun _ => False) := by
  refine zMetP (cc := cX4_many) (maxL := 2) (ret := (some .int)) (lv := [(0, .ref h0), (1, .int x1)]) (by decide) rfl (Nat.le_of_ble_eq_true rfl) rfl ?_
  intro p e s m args below meth c ls Q hQ hx hb hr hml hown hts hlocks hname hP hE hD hl
  have hown : s.vm.findClass RX4 = some m.cls := hown
  have hK := hE.1
  unfold fX4_many at hF
  refine lv_iload_n (pc := 0) hx hb dX4_many_0 rfl (lv_at hl 1 rfl) ?_
  by_cases c_1_0 : x1 = nI 0
  · have hF := (z_if _ hF).1 c_1_0
    refine lv_tableIn (pc := 1) (off := 43) (tgt := 44) hx hb dX4_many_1 (by rw [c_1_0]; decide) (by rw [c_1_0]; decide) (by rw [c_1_0]; rfl) (by decide) ?_
    refine lv_aload_n (pc := 44) hx hb dX4_many_44 rfl (lv_at hl 0 rfl) ?_
    refine va_get (D := D) (pc := 45) (ci := 4) (v := .ref h_now) (C := RX4) (T := TX4) (N := 15) hx hb hts nX4_many_X4 hown hK hP 0 rfl rfl 0 (by decide) (hts _ kX4_many_0) (fun _ h9 => h9) rfl dX4_many_45 ?_
    refine va_get (D := D) (pc := 48) (ci := 2) (v := .int v_now_count) (C := RX2) (T := TX2) (N := 15) hx hb hts nX4_many_X2 hown hK hP 1 rfl rfl 3 (by decide) (hts _ kX4_many_1) (fun _ h9 => h9) rfl dX4_many_48 ?_
    exact z_iret (pc := 51) (fun q => q) hx hb hr hlocks hF rfl hQ dX4_many_51
  · have hF := (z_if _ hF).2 c_1_0
    by_cases c_1_1 : x1 = nI 1
    · have hF := (z_if _ hF).1 c_1_1
      refine lv_tableIn (pc := 1) (off := 51) (tgt := 52) hx hb dX4_many_1 (by rw [c_1_1]; decide) (by rw [c_1_1]; decide) (by rw [c_1_1]; rfl) (by decide) ?_
      refine lv_aload_n (pc := 52) hx hb dX4_many_52 rfl (lv_at hl 0 rfl) ?_
      refine va_get (D := D) (pc := 53) (ci := 4) (v := .ref h_now) (C := RX4) (T := TX4) (N := 15) hx hb hts nX4_many_X4 hown hK hP 0 rfl rfl 0 (by decide) (hts _ kX4_many_0) (fun _ h9 => h9) rfl dX4_many_53 ?_
      refine lv_bipush (pc := 56) (v := (nI 10)) hx hb dX4_many_56 (by decide) ?_
      obtain ⟨u58, hu58, hF⟩ := z_bind hF
      refine zq_call (oc0 := (some (.int u58))) (va_runV (As := [.int (nI 10)]) (rest := []) ⟨hx, hb, hml, hown, hts⟩ (tX2_namesOn (l := l) (D := D) (cB := cB) (cI := cI) (cJ := cJ) (cO := cO) h_now h_now_on g_now_laws g_now_ground (.ref h_now_seen) g_now_kind (.ref h_now_hand) (.ref h_now_size) g_now_away g_now_nightsPassed g_now_glances g_now_draws g_now_gained g_now_paintedOn g_now_wallLooks v_now_count v_now_on (nI 10) u58 hu58) (cwV 1 hts gX4_many_X2_namesOn rfl rfl rfl (by decide +kernel) ⟨Nat.le_of_ble_eq_true rfl, Nat.le_of_ble_eq_true rfl⟩) ⟨zPre_blind, va_recv hK hP (ci := 2) (q0 := 1) rfl rfl, zPre_at hP hE hD [1, 5] rfl rfl⟩ rfl rfl hl.1 rfl (lv_room (Nat.le_of_ble_eq_true rfl)) dX4_many_58 ⟨Nat.zero_le _, Nat.zero_le _⟩) ?_
      refine W.eq (g2 := F0 m 61 ls [.int u58]) rfl ?_
      obtain ⟨u61, hu61, hF⟩ := z_bind hF
      refine zq_call (oc0 := (some (.int u61))) (va_runS (As := [.int u58]) (rest := []) ⟨hx, hb, hml, hown, hts⟩ (tJ6_bitCount_0f7a4 (l := l) (D := D) (cB := cB) (cI := cI) (cJ := cJ) (cO := cO) u58 u61 hu61) (va_cwS 1 hts gX4_many_J6_bitCount_0f7a4 rfl rfl rfl (by decide +kernel) ⟨Nat.le_of_ble_eq_true rfl, Nat.le_of_ble_eq_true rfl⟩) ⟨zPre_blind, zPre_at hP hE hD [] rfl rfl⟩ rfl rfl hl.1 rfl (lv_room (Nat.le_of_ble_eq_true rfl)) dX4_many_61 ⟨Nat.zero_le _, Nat.zero_le _⟩) ?_
      refine W.eq (g2 := F0 m 64 ls [.int u61]) rfl ?_
      exact z_iret (pc := 64) (fun q => q) hx hb hr hlocks hF rfl hQ dX4_many_64
    · have hF := (z_if _ hF).2 c_1_1
      by_cases c_1_2 : x1 = nI 2
      · have hF := (z_if _ hF).1 c_1_2
        refine lv_tableIn (pc := 1) (off := 64) (tgt := 65) hx hb dX4_many_1 (by rw [c_1_2]; decide) (by rw [c_1_2]; decide) (by rw [c_1_2]; rfl) (by decide) ?_
        refine lv_aload_n (pc := 65) hx hb dX4_many_65 rfl (lv_at hl 0 rfl) ?_
        refine va_get (D := D) (pc := 66) (ci := 4) (v := .ref h_now) (C := RX4) (T := TX4) (N := 15) hx hb hts nX4_many_X4 hown hK hP 0 rfl rfl 0 (by decide) (hts _ kX4_many_0) (fun _ h9 => h9) rfl dX4_many_66 ?_
        obtain ⟨u69, hu69, hF⟩ := z_bind hF
        refine zq_call (oc0 := (some (.int u69))) (va_runV (As := []) (rest := []) ⟨hx, hb, hml, hown, hts⟩ (tX2_wallsLookedAt (l := l) (D := D) (cB := cB) (cI := cI) (cJ := cJ) (cO := cO) h_now h_now_seen h_now_size h_now_on g_now_laws g_now_ground g_now_kind (.ref h_now_hand) g_now_away g_now_nightsPassed g_now_glances g_now_draws g_now_gained g_now_paintedOn g_now_wallLooks v_now_count v_now_seen v_now_size v_now_on u69 hu69) (cwV 0 hts gX4_many_X2_wallsLookedAt rfl rfl rfl (by decide +kernel) ⟨Nat.le_of_ble_eq_true rfl, Nat.le_of_ble_eq_true rfl⟩) ⟨zPre_blind, va_recv hK hP (ci := 2) (q0 := 1) rfl rfl, zPre_at hP hE hD [1, 2, 4, 5] rfl rfl⟩ rfl rfl hl.1 rfl (lv_room (Nat.le_of_ble_eq_true rfl)) dX4_many_69 ⟨Nat.zero_le _, Nat.zero_le _⟩) ?_
        refine W.eq (g2 := F0 m 72 ls [.int u69]) rfl ?_
        exact z_iret (pc := 72) (fun q => q) hx hb hr hlocks hF rfl hQ dX4_many_72
      · have hF := (z_if _ hF).2 c_1_2
        by_cases c_1_3 : x1 = nI 3
        · have hF := (z_if _ hF).1 c_1_3
          refine lv_tableIn (pc := 1) (off := 72) (tgt := 73) hx hb dX4_many_1 (by rw [c_1_3]; decide) (by rw [c_1_3]; decide) (by rw [c_1_3]; rfl) (by decide) ?_
          refine lv_aload_n (pc := 73) hx hb dX4_many_73 rfl (lv_at hl 0 rfl) ?_
          refine va_get (D := D) (pc := 74) (ci := 4) (v := .ref h_now) (C := RX4) (T := TX4) (N := 15) hx hb hts nX4_many_X4 hown hK hP 0 rfl rfl 0 (by decide) (hts _ kX4_many_0) (fun _ h9 => h9) rfl dX4_many_74 ?_
          obtain ⟨u77, hu77, hF⟩ := z_bind hF
          refine zq_call (oc0 := (some (.int u77))) (va_runV (As := []) (rest := []) ⟨hx, hb, hml, hown, hts⟩ (tX2_handCount (l := l) (D := D) (cB := cB) (cI := cI) (cJ := cJ) (cO := cO) h_now h_now_hand g_now_laws g_now_ground (.ref h_now_seen) g_now_kind (.ref h_now_size) (.ref h_now_on) g_now_away g_now_nightsPassed g_now_glances g_now_draws g_now_gained g_now_paintedOn g_now_wallLooks v_now_count v_now_hand u77 hu77) (cwV 0 hts gX4_many_X2_handCount rfl rfl rfl (by decide +kernel) ⟨Nat.le_of_ble_eq_true rfl, Nat.le_of_ble_eq_true rfl⟩) ⟨zPre_blind, va_recv hK hP (ci := 2) (q0 := 1) rfl rfl, zPre_at hP hE hD [1, 3] rfl rfl⟩ rfl rfl hl.1 rfl (lv_room (Nat.le_of_ble_eq_true rfl)) dX4_many_77 ⟨Nat.zero_le _, Nat.zero_le _⟩) ?_
          refine W.eq (g2 := F0 m 80 ls [.int u77]) rfl ?_
          exact z_iret (pc := 80) (fun q => q) hx hb hr hlocks hF rfl hQ dX4_many_80
        · have hF := (z_if _ hF).2 c_1_3
          by_cases c_1_4 : x1 = nI 4
          · have hF := (z_if _ hF).1 c_1_4
            refine lv_tableIn (pc := 1) (off := 80) (tgt := 81) hx hb dX4_many_1 (by rw [c_1_4]; decide) (by rw [c_1_4]; decide) (by rw [c_1_4]; rfl) (by decide) ?_
            refine lv_aload_n (pc := 81) hx hb dX4_many_81 rfl (lv_at hl 0 rfl) ?_
            refine va_get (D := D) (pc := 82) (ci := 4) (v := .int v_rowCount) (C := RX4) (T := TX4) (N := 15) hx hb hts nX4_many_X4 hown hK hP 0 rfl rfl 8 (by decide) (hts _ kX4_many_2) (fun _ h9 => h9) rfl dX4_many_82 ?_
            exact z_iret (pc := 85) (fun q => q) hx hb hr hlocks hF rfl hQ dX4_many_85
          · have hF := (z_if _ hF).2 c_1_4
            by_cases c_1_5 : x1 = nI 5
            · have hF := (z_if _ hF).1 c_1_5
              refine lv_tableIn (pc := 1) (off := 85) (tgt := 86) hx hb dX4_many_1 (by rw [c_1_5]; decide) (by rw [c_1_5]; decide) (by rw [c_1_5]; rfl) (by decide) ?_
              refine lv_aload_n (pc := 86) hx hb dX4_many_86 rfl (lv_at hl 0 rfl) ?_
              refine va_get (D := D) (pc := 87) (ci := 4) (v := .int v_taped) (C := RX4) (T := TX4) (N := 15) hx hb hts nX4_many_X4 hown hK hP 0 rfl rfl 6 (by decide) (hts _ kX4_many_3) (fun _ h9 => h9) rfl dX4_many_87 ?_
              exact z_iret (pc := 90) (fun q => q) hx hb hr hlocks hF rfl hQ dX4_many_90
            · have hF := (z_if _ hF).2 c_1_5
              by_cases c_1_6 : x1 = nI 6
              · have hF := (z_if _ hF).1 c_1_6
                refine lv_tableIn (pc := 1) (off := 90) (tgt := 91) hx hb dX4_many_1 (by rw [c_1_6]; decide) (by rw [c_1_6]; decide) (by rw [c_1_6]; rfl) (by decide) ?_
                refine lv_aload_n (pc := 91) hx hb dX4_many_91 rfl (lv_at hl 0 rfl) ?_
                refine va_get (D := D) (pc := 92) (ci := 4) (v := .ref h_thing) (C := RX4) (T := TX4) (N := 15) hx hb hts nX4_many_X4 hown hK hP 0 rfl rfl 13 (by decide) (hts _ kX4_many_4) (fun _ h9 => h9) rfl dX4_many_92 ?_
                refine va_get (D := D) (pc := 95) (ci := 1) (v := .int v_thing_traced) (C := RX1) (T := TX1) (N := 8) hx hb hts nX4_many_X1 hown hK hP 6 rfl rfl 1 (by decide) (hts _ kX4_many_5) (fun _ h9 => h9) rfl dX4_many_95 ?_
                exact z_iret (pc := 98) (fun q => q) hx hb hr hlocks hF rfl hQ dX4_many_98
              · have hF := (z_if _ hF).2 c_1_6
                refine lv_tableOut (pc := 1) (tgt := 99) hx hb dX4_many_1 (by have q0 : ¬ x1.toInt = 0 := lv_neT c_1_0 (by decide); have q1 : ¬ x1.toInt = 1 := lv_neT c_1_1 (by decide); have q2 : ¬ x1.toInt = 2 := lv_neT c_1_2 (by decide); have q3 : ¬ x1.toInt = 3 := lv_neT c_1_3 (by decide); have q4 : ¬ x1.toInt = 4 := lv_neT c_1_4 (by decide); have q5 : ¬ x1.toInt = 5 := lv_neT c_1_5 (by decide); have q6 : ¬ x1.toInt = 6 := lv_neT c_1_6 (by decide); omega) (by decide) ?_
                refine lv_iconst (pc := 99) (v := (-1 : Int32)) hx hb dX4_many_99 (by decide) ?_
                exact z_iret (pc := 100) (fun q => q) hx hb hr hlocks hF rfl hQ dX4_many_100

abbrev rX4_keep : Room := { frames := 2, cells := 0, slots := 0, locals := 81 }
abbrev wX4_keep (cB cI cJ cO : ClassId) (h0 h_now h_now_laws h_now_ground h_now_seen h_now_kind h_now_hand h_now_size h_now_on h_now_away h_kept h_kept_laws h_kept_ground h_kept_seen h_kept_kind h_kept_hand h_kept_size h_kept_on h_kept_away : Nat) (g_tried g_told g_tape g_taped g_rows g_rowCount g_sheets g_shelfHolds g_shelfNames g_shelfRows g_thing g_mattering g_now_gained g_now_paintedOn g_now_wallLooks g_kept_wallLooks : Value) (v_isKept : Int32) (v_now_count : Int32) (v_now_nightsPassed : Int32) (v_now_glances : Int32) (v_now_draws : Int32) (v_now_laws : Nat → Int32) (v_now_ground : Nat → Int32) (v_now_seen : Nat → Int32) (v_now_kind : Nat → Int32) (v_now_hand : Nat → Int32) (v_now_size : Nat → Int32) (v_now_on : Nat → Int32) (v_now_away : Nat → Int32) (v_kept_count : Int32) (v_kept_nightsPassed : Int32) (v_kept_glances : Int32) (v_kept_draws : Int32) (v_kept_gained : Int32) (v_kept_paintedOn : Int32) (v_kept_laws : Nat → Int32) (v_kept_ground : Nat → Int32) (v_kept_seen : Nat → Int32) (v_kept_kind : Nat → Int32) (v_kept_hand : Nat → Int32) (v_kept_size : Nat → Int32) (v_kept_on : Nat → Int32) (v_kept_away : Nat → Int32) : va_W := [(h0, .inr (4, [.ref h_now, g_tried, g_told, .ref h_kept, .int v_isKept, g_tape, g_taped, g_rows, g_rowCount, g_sheets, g_shelfHolds, g_shelfNames, g_shelfRows, g_thing, g_mattering])), (h_now, .inr (2, [.ref h_now_laws, .ref h_now_ground, .ref h_now_seen, .int v_now_count, .ref h_now_kind, .ref h_now_hand, .ref h_now_size, .ref h_now_on, .ref h_now_away, .int v_now_nightsPassed, .int v_now_glances, .int v_now_draws, g_now_gained, g_now_paintedOn, g_now_wallLooks])), (h_now_laws, .inl (cI, 4, .inl v_now_laws)), (h_now_ground, .inl (cI, 10, .inl v_now_ground)), (h_now_seen, .inl (cI, 10, .inl v_now_seen)), (h_now_kind, .inl (cI, 8, .inl v_now_kind)), (h_now_hand, .inl (cI, 8, .inl v_now_hand)), (h_now_size, .inl (cI, 8, .inl v_now_size)), (h_now_on, .inl (cI, 8, .inl v_now_on)), (h_now_away, .inl (cI, 8, .inl v_now_away)), (h_kept, .inr (2, [.ref h_kept_laws, .ref h_kept_ground, .ref h_kept_seen, .int v_kept_count, .ref h_kept_kind, .ref h_kept_hand, .ref h_kept_size, .ref h_kept_on, .ref h_kept_away, .int v_kept_nightsPassed, .int v_kept_glances, .int v_kept_draws, .int v_kept_gained, .int v_kept_paintedOn, g_kept_wallLooks])), (h_kept_laws, .inl (cI, 4, .inl v_kept_laws)), (h_kept_ground, .inl (cI, 10, .inl v_kept_ground)), (h_kept_seen, .inl (cI, 10, .inl v_kept_seen)), (h_kept_kind, .inl (cI, 8, .inl v_kept_kind)), (h_kept_hand, .inl (cI, 8, .inl v_kept_hand)), (h_kept_size, .inl (cI, 8, .inl v_kept_size)), (h_kept_on, .inl (cI, 8, .inl v_kept_on)), (h_kept_away, .inl (cI, 8, .inl v_kept_away))]
theorem nX4_keep_X4 : ∀ w ∈ wsX40, w ∈ wsX4_keep := by decide +kernel
theorem kX4_keep_0 : Cond.fieldLink RX4 22 "PaintedWalls" "kept" "LPaintedWalls$Town;" ∈ wsX4_keep := by decide +kernel
theorem kX4_keep_1 : Cond.fieldLink RX4 12 "PaintedWalls" "now" "LPaintedWalls$Town;" ∈ wsX4_keep := by decide +kernel
theorem kX4_keep_2 : Cond.fieldLink RX4 25 "PaintedWalls" "isKept" "Z" ∈ wsX4_keep := by decide +kernel
set_option maxHeartbeats 4000000 in
set_option maxRecDepth 100000 in
theorem tX4_keep {l : Launch} {D : va_G} {cB cI cJ cO : ClassId} (h0 h_now h_now_laws h_now_ground h_now_seen h_now_kind h_now_hand h_now_size h_now_on h_now_away h_kept h_kept_laws h_kept_ground h_kept_seen h_kept_kind h_kept_hand h_kept_size h_kept_on h_kept_away : Nat) (g_tried g_told g_tape g_taped g_rows g_rowCount g_sheets g_shelfHolds g_shelfNames g_shelfRows g_thing g_mattering g_now_gained g_now_paintedOn g_now_wallLooks g_kept_wallLooks : Value) (v_isKept : Int32) (v_now_count : Int32) (v_now_nightsPassed : Int32) (v_now_glances : Int32) (v_now_draws : Int32) (v_now_laws : Nat → Int32) (v_now_ground : Nat → Int32) (v_now_seen : Nat → Int32) (v_now_kind : Nat → Int32) (v_now_hand : Nat → Int32) (v_now_size : Nat → Int32) (v_now_on : Nat → Int32) (v_now_away : Nat → Int32) (v_kept_count : Int32) (v_kept_nightsPassed : Int32) (v_kept_glances : Int32) (v_kept_draws : Int32) (v_kept_gained : Int32) (v_kept_paintedOn : Int32) (v_kept_laws : Nat → Int32) (v_kept_ground : Nat → Int32) (v_kept_seen : Nat → Int32) (v_kept_kind : Nat → Int32) (v_kept_hand : Nat → Int32) (v_kept_size : Nat → Int32) (v_kept_on : Nat → Int32) (v_kept_away : Nat → Int32) (r : Int32 × Int32 × Int32 × Int32 × Int32 × Int32 × Int32 × Int32 × (Nat → Int32) × (Nat → Int32) × (Nat → Int32) × (Nat → Int32) × (Nat → Int32) × (Nat → Int32) × (Nat → Int32) × (Nat → Int32)) (hF : fX4_keep v_isKept v_now_count v_now_nightsPassed v_now_glances v_now_draws v_now_laws v_now_ground v_now_seen v_now_kind v_now_hand v_now_size v_now_on v_now_away v_kept_count v_kept_nightsPassed v_kept_glances v_kept_draws v_kept_gained v_kept_paintedOn v_kept_laws v_kept_ground v_kept_seen v_kept_kind v_kept_hand v_kept_size v_kept_on v_kept_away = some r) : Met l yX4_keep wsX4_keep rX4_keep (zPre D cB cI cJ cO [.ref h0] (wX4_keep cB cI cJ cO h0 h_now h_now_laws h_now_ground h_now_seen h_now_kind h_now_hand h_now_size h_now_on h_now_away h_kept h_kept_laws h_kept_ground h_kept_seen h_kept_kind h_kept_hand h_kept_size h_kept_on h_kept_away g_tried g_told g_tape g_taped g_rows g_rowCount g_sheets g_shelfHolds g_shelfNames g_shelfRows g_thing g_mattering g_now_gained g_now_paintedOn g_now_wallLooks g_kept_wallLooks v_isKept v_now_count v_now_nightsPassed v_now_glances v_now_draws v_now_laws v_now_ground v_now_seen v_now_kind v_now_hand v_now_size v_now_on v_now_away v_kept_count v_kept_nightsPassed v_kept_glances v_kept_draws v_kept_gained v_kept_paintedOn v_kept_laws v_kept_ground v_kept_seen v_kept_kind v_kept_hand v_kept_size v_kept_on v_kept_away)) (zPM (some (.int r.1)) D (wX4_keep cB cI cJ cO h0 h_now h_now_laws h_now_ground h_now_seen h_now_kind h_now_hand h_now_size h_now_on h_now_away h_kept h_kept_laws h_kept_ground h_kept_seen h_kept_kind h_kept_hand h_kept_size h_kept_on h_kept_away g_tried g_told g_tape g_taped g_rows g_rowCount g_sheets g_shelfHolds g_shelfNames g_shelfRows g_thing g_mattering g_now_gained g_now_paintedOn g_now_wallLooks g_kept_wallLooks r.2.1 v_now_count v_now_nightsPassed v_now_glances v_now_draws v_now_laws v_now_ground v_now_seen v_now_kind v_now_hand v_now_size v_now_on v_now_away r.2.2.1 r.2.2.2.1 r.2.2.2.2.1 r.2.2.2.2.2.1 r.2.2.2.2.2.2.1 r.2.2.2.2.2.2.2.1 r.2.2.2.2.2.2.2.2.1 r.2.2.2.2.2.2.2.2.2.1 r.2.2.2.2.2.2.2.2.2.2.1 r.2.2.2.2.2.2.2.2.2.2.2.1 r.2.2.2.2.2.2.2.2.2.2.2.2.1 r.2.2.2.2.2.2.2.2.2.2.2.2.2.1 r.2.2.2.2.2.2.2.2.2.2.2.2.2.2.1 r.2.2.2.2.2.2.2.2.2.2.2.2.2.2.2) (zAs [h0, h_now, h_now_laws, h_now_ground, h_now_seen, h_now_kind, h_now_hand, h_now_size, h_now_on, h_now_away, h_kept, h_kept_laws, h_kept_ground, h_kept_seen, h_kept_kind, h_kept_hand, h_kept_size, h_kept_on, h_kept_away])) 0 0 (zAs [h0, h_now, h_now_laws, h_now_ground, h_now_seen, h_now_kind, h_now_hand, h_now_size, h_now_on, h_now_away, h_kept, h_kept_laws, h_kept_ground, h_kept_seen, h_kept_kind, h_kept_hand, h_kept_size, h_kept_on, h_kept_away]) := by
  refine zMetM (cc := cX4_keep) (maxL := 1) (ret := (some .int)) (lv := [(0, .ref h0)]) rfl (by decide) rfl (Nat.le_of_ble_eq_true rfl) rfl ?_
  intro p e s m args below meth c ls Q H locs hQ hx hb hr hml hown hts hlocks hname hP hE hD hS hl
  have hown : s.vm.findClass RX4 = some m.cls := hown
  have hK := hE.1
  unfold fX4_keep at hF
  refine lv_aload_n (pc := 0) hx hb dX4_keep_0 rfl (lv_at hl 0 rfl) ?_
  refine va_get (D := D) (pc := 1) (ci := 4) (v := .ref h_kept) (C := RX4) (T := TX4) (N := 15) hx hb hts nX4_keep_X4 hown hK hP 0 rfl rfl 3 (by decide) (hts _ kX4_keep_0) (fun _ h9 => h9) rfl dX4_keep_1 ?_
  refine lv_aload_n (pc := 4) hx hb dX4_keep_4 rfl (lv_at hl 0 rfl) ?_
  refine va_get (D := D) (pc := 5) (ci := 4) (v := .ref h_now) (C := RX4) (T := TX4) (N := 15) hx hb hts nX4_keep_X4 hown hK hP 0 rfl rfl 0 (by decide) (hts _ kX4_keep_1) (fun _ h9 => h9) rfl dX4_keep_5 ?_
  obtain ⟨u8, hu8, hF⟩ := z_bind hF
  refine zq_callM (oc0 := none) (wc := wX2_become cB cI cJ cO h_kept h_kept_laws h_kept_ground h_kept_seen h_kept_kind h_kept_hand h_kept_size h_kept_on h_kept_away h_now h_now_laws h_now_ground h_now_seen h_now_kind h_now_hand h_now_size h_now_on h_now_away g_kept_wallLooks g_now_gained g_now_paintedOn g_now_wallLooks v_kept_count v_kept_nightsPassed v_kept_glances v_kept_draws v_kept_gained v_kept_paintedOn v_kept_laws v_kept_ground v_kept_seen v_kept_kind v_kept_hand v_kept_size v_kept_on v_kept_away v_now_count v_now_nightsPassed v_now_glances v_now_draws v_now_laws v_now_ground v_now_seen v_now_kind v_now_hand v_now_size v_now_on v_now_away) (wc' := wX2_become cB cI cJ cO h_kept h_kept_laws h_kept_ground h_kept_seen h_kept_kind h_kept_hand h_kept_size h_kept_on h_kept_away h_now h_now_laws h_now_ground h_now_seen h_now_kind h_now_hand h_now_size h_now_on h_now_away g_kept_wallLooks g_now_gained g_now_paintedOn g_now_wallLooks u8.1 u8.2.1 u8.2.2.1 u8.2.2.2.1 u8.2.2.2.2.1 u8.2.2.2.2.2.1 u8.2.2.2.2.2.2.1 u8.2.2.2.2.2.2.2.1 u8.2.2.2.2.2.2.2.2.1 u8.2.2.2.2.2.2.2.2.2.1 u8.2.2.2.2.2.2.2.2.2.2.1 u8.2.2.2.2.2.2.2.2.2.2.2.1 u8.2.2.2.2.2.2.2.2.2.2.2.2.1 u8.2.2.2.2.2.2.2.2.2.2.2.2.2 v_now_count v_now_nightsPassed v_now_glances v_now_draws v_now_laws v_now_ground v_now_seen v_now_kind v_now_hand v_now_size v_now_on v_now_away) (ws' := (wX4_keep cB cI cJ cO h0 h_now h_now_laws h_now_ground h_now_seen h_now_kind h_now_hand h_now_size h_now_on h_now_away h_kept h_kept_laws h_kept_ground h_kept_seen h_kept_kind h_kept_hand h_kept_size h_kept_on h_kept_away g_tried g_told g_tape g_taped g_rows g_rowCount g_sheets g_shelfHolds g_shelfNames g_shelfRows g_thing g_mattering g_now_gained g_now_paintedOn g_now_wallLooks g_kept_wallLooks v_isKept v_now_count v_now_nightsPassed v_now_glances v_now_draws v_now_laws v_now_ground v_now_seen v_now_kind v_now_hand v_now_size v_now_on v_now_away u8.1 u8.2.1 u8.2.2.1 u8.2.2.2.1 u8.2.2.2.2.1 u8.2.2.2.2.2.1 u8.2.2.2.2.2.2.1 u8.2.2.2.2.2.2.2.1 u8.2.2.2.2.2.2.2.2.1 u8.2.2.2.2.2.2.2.2.2.1 u8.2.2.2.2.2.2.2.2.2.2.1 u8.2.2.2.2.2.2.2.2.2.2.2.1 u8.2.2.2.2.2.2.2.2.2.2.2.2.1 u8.2.2.2.2.2.2.2.2.2.2.2.2.2)) (va_runV (As := [.ref h_now]) (rest := []) ⟨hx, hb, hml, hown, hts⟩ (tX2_become (l := l) (D := D) (cB := cB) (cI := cI) (cJ := cJ) (cO := cO) h_kept h_kept_laws h_kept_ground h_kept_seen h_kept_kind h_kept_hand h_kept_size h_kept_on h_kept_away h_now h_now_laws h_now_ground h_now_seen h_now_kind h_now_hand h_now_size h_now_on h_now_away g_kept_wallLooks g_now_gained g_now_paintedOn g_now_wallLooks v_kept_count v_kept_nightsPassed v_kept_glances v_kept_draws v_kept_gained v_kept_paintedOn v_kept_laws v_kept_ground v_kept_seen v_kept_kind v_kept_hand v_kept_size v_kept_on v_kept_away v_now_count v_now_nightsPassed v_now_glances v_now_draws v_now_laws v_now_ground v_now_seen v_now_kind v_now_hand v_now_size v_now_on v_now_away u8 hu8) (cwV 1 hts gX4_keep_X2_become rfl rfl rfl (by decide +kernel) ⟨Nat.le_of_ble_eq_true rfl, Nat.le_of_ble_eq_true rfl⟩) ⟨zPre_blind, va_recv hK hP (ci := 2) (q0 := 10) rfl rfl, zPre_at hP hE (zD_re hD rfl) [10, 11, 12, 13, 14, 15, 16, 17, 18, 1, 2, 3, 4, 5, 6, 7, 8, 9] rfl rfl⟩ rfl rfl hl.1 rfl (lv_room (Nat.le_of_ble_eq_true rfl)) dX4_keep_8 ⟨Nat.zero_le _, Nat.zero_le _⟩) rfl hP (zD_re hD rfl) hS [10, 11, 12, 13, 14, 15, 16, 17, 18, 1, 2, 3, 4, 5, 6, 7, 8, 9] rfl rfl [none, some 9, some 10, some 11, some 12, some 13, some 14, some 15, some 16, some 17, some 0, some 1, some 2, some 3, some 4, some 5, some 6, some 7, some 8] rfl rfl rfl rfl (fun H locs hP hS => ?_)
  refine W.eq (g2 := F0 m 11 ls []) rfl ?_
  refine lv_aload_n (pc := 11) hx hb dX4_keep_11 rfl (lv_at hl 0 rfl) ?_
  refine lv_iconst (pc := 12) (v := (nI 1)) hx hb dX4_keep_12 (by decide) ?_
  refine va_put (D := D) (pc := 13) (ci := 4) (v := .int (nI 1)) (ty := .boolean) (C := RX4) (T := TX4) (N := 15) hx hb hts nX4_keep_X4 tyX4 tyX4_ok nmX4 hown hK hP (zD_re hD rfl) hS 0 rfl rfl 4 (by decide) (hts _ kX4_keep_2) (fun _ h9 => h9) rfl (tyX4_ok 4 (by decide)) rfl rfl (Nat.le_of_ble_eq_true rfl) dX4_keep_13 (fun H locs hP _ hS => ?_)
  have hP : va_P D vwCl (wX4_keep cB cI cJ cO h0 h_now h_now_laws h_now_ground h_now_seen h_now_kind h_now_hand h_now_size h_now_on h_now_away h_kept h_kept_laws h_kept_ground h_kept_seen h_kept_kind h_kept_hand h_kept_size h_kept_on h_kept_away g_tried g_told g_tape g_taped g_rows g_rowCount g_sheets g_shelfHolds g_shelfNames g_shelfRows g_thing g_mattering g_now_gained g_now_paintedOn g_now_wallLooks g_kept_wallLooks (nI 1) v_now_count v_now_nightsPassed v_now_glances v_now_draws v_now_laws v_now_ground v_now_seen v_now_kind v_now_hand v_now_size v_now_on v_now_away u8.1 u8.2.1 u8.2.2.1 u8.2.2.2.1 u8.2.2.2.2.1 u8.2.2.2.2.2.1 u8.2.2.2.2.2.2.1 u8.2.2.2.2.2.2.2.1 u8.2.2.2.2.2.2.2.2.1 u8.2.2.2.2.2.2.2.2.2.1 u8.2.2.2.2.2.2.2.2.2.2.1 u8.2.2.2.2.2.2.2.2.2.2.2.1 u8.2.2.2.2.2.2.2.2.2.2.2.2.1 u8.2.2.2.2.2.2.2.2.2.2.2.2.2) H := hP
  refine lv_iconst (pc := 16) (v := (nI 1)) hx hb dX4_keep_16 (by decide) ?_
  exact z_iretM (pc := 17) (fun q => q.1) (fun q => (wX4_keep cB cI cJ cO h0 h_now h_now_laws h_now_ground h_now_seen h_now_kind h_now_hand h_now_size h_now_on h_now_away h_kept h_kept_laws h_kept_ground h_kept_seen h_kept_kind h_kept_hand h_kept_size h_kept_on h_kept_away g_tried g_told g_tape g_taped g_rows g_rowCount g_sheets g_shelfHolds g_shelfNames g_shelfRows g_thing g_mattering g_now_gained g_now_paintedOn g_now_wallLooks g_kept_wallLooks q.2.1 v_now_count v_now_nightsPassed v_now_glances v_now_draws v_now_laws v_now_ground v_now_seen v_now_kind v_now_hand v_now_size v_now_on v_now_away q.2.2.1 q.2.2.2.1 q.2.2.2.2.1 q.2.2.2.2.2.1 q.2.2.2.2.2.2.1 q.2.2.2.2.2.2.2.1 q.2.2.2.2.2.2.2.2.1 q.2.2.2.2.2.2.2.2.2.1 q.2.2.2.2.2.2.2.2.2.2.1 q.2.2.2.2.2.2.2.2.2.2.2.1 q.2.2.2.2.2.2.2.2.2.2.2.2.1 q.2.2.2.2.2.2.2.2.2.2.2.2.2.1 q.2.2.2.2.2.2.2.2.2.2.2.2.2.2.1 q.2.2.2.2.2.2.2.2.2.2.2.2.2.2.2)) hx hb hr hlocks hP hS hF rfl hQ dX4_keep_17

abbrev rX4_again : Room := { frames := 2, cells := 0, slots := 0, locals := 81 }
abbrev wX4_again (cB cI cJ cO : ClassId) (h0 h_now h_now_laws h_now_ground h_now_seen h_now_kind h_now_hand h_now_size h_now_on h_now_away h_kept h_kept_laws h_kept_ground h_kept_seen h_kept_kind h_kept_hand h_kept_size h_kept_on h_kept_away : Nat) (g_tried g_told g_tape g_taped g_rows g_rowCount g_sheets g_shelfHolds g_shelfNames g_shelfRows g_thing g_mattering g_now_wallLooks g_kept_gained g_kept_paintedOn g_kept_wallLooks : Value) (v_isKept : Int32) (v_now_count : Int32) (v_now_nightsPassed : Int32) (v_now_glances : Int32) (v_now_draws : Int32) (v_now_gained : Int32) (v_now_paintedOn : Int32) (v_now_laws : Nat → Int32) (v_now_ground : Nat → Int32) (v_now_seen : Nat → Int32) (v_now_kind : Nat → Int32) (v_now_hand : Nat → Int32) (v_now_size : Nat → Int32) (v_now_on : Nat → Int32) (v_now_away : Nat → Int32) (v_kept_count : Int32) (v_kept_nightsPassed : Int32) (v_kept_glances : Int32) (v_kept_draws : Int32) (v_kept_laws : Nat → Int32) (v_kept_ground : Nat → Int32) (v_kept_seen : Nat → Int32) (v_kept_kind : Nat → Int32) (v_kept_hand : Nat → Int32) (v_kept_size : Nat → Int32) (v_kept_on : Nat → Int32) (v_kept_away : Nat → Int32) : va_W := [(h0, .inr (4, [.ref h_now, g_tried, g_told, .ref h_kept, .int v_isKept, g_tape, g_taped, g_rows, g_rowCount, g_sheets, g_shelfHolds, g_shelfNames, g_shelfRows, g_thing, g_mattering])), (h_now, .inr (2, [.ref h_now_laws, .ref h_now_ground, .ref h_now_seen, .int v_now_count, .ref h_now_kind, .ref h_now_hand, .ref h_now_size, .ref h_now_on, .ref h_now_away, .int v_now_nightsPassed, .int v_now_glances, .int v_now_draws, .int v_now_gained, .int v_now_paintedOn, g_now_wallLooks])), (h_now_laws, .inl (cI, 4, .inl v_now_laws)), (h_now_ground, .inl (cI, 10, .inl v_now_ground)), (h_now_seen, .inl (cI, 10, .inl v_now_seen)), (h_now_kind, .inl (cI, 8, .inl v_now_kind)), (h_now_hand, .inl (cI, 8, .inl v_now_hand)), (h_now_size, .inl (cI, 8, .inl v_now_size)), (h_now_on, .inl (cI, 8, .inl v_now_on)), (h_now_away, .inl (cI, 8, .inl v_now_away)), (h_kept, .inr (2, [.ref h_kept_laws, .ref h_kept_ground, .ref h_kept_seen, .int v_kept_count, .ref h_kept_kind, .ref h_kept_hand, .ref h_kept_size, .ref h_kept_on, .ref h_kept_away, .int v_kept_nightsPassed, .int v_kept_glances, .int v_kept_draws, g_kept_gained, g_kept_paintedOn, g_kept_wallLooks])), (h_kept_laws, .inl (cI, 4, .inl v_kept_laws)), (h_kept_ground, .inl (cI, 10, .inl v_kept_ground)), (h_kept_seen, .inl (cI, 10, .inl v_kept_seen)), (h_kept_kind, .inl (cI, 8, .inl v_kept_kind)), (h_kept_hand, .inl (cI, 8, .inl v_kept_hand)), (h_kept_size, .inl (cI, 8, .inl v_kept_size)), (h_kept_on, .inl (cI, 8, .inl v_kept_on)), (h_kept_away, .inl (cI, 8, .inl v_kept_away))]
theorem nX4_again_X4 : ∀ w ∈ wsX40, w ∈ wsX4_again := by decide +kernel
theorem nX4_again_X2 : ∀ w ∈ wsX20, w ∈ wsX4_again := by decide +kernel
theorem kX4_again_0 : Cond.fieldLink RX4 25 "PaintedWalls" "isKept" "Z" ∈ wsX4_again := by decide +kernel
theorem kX4_again_1 : Cond.fieldLink RX4 12 "PaintedWalls" "now" "LPaintedWalls$Town;" ∈ wsX4_again := by decide +kernel
theorem kX4_again_2 : Cond.fieldLink RX4 22 "PaintedWalls" "kept" "LPaintedWalls$Town;" ∈ wsX4_again := by decide +kernel
theorem kX4_again_3 : Cond.fieldLink RX4 88 "PaintedWalls$Town" "count" "I" ∈ wsX4_again := by decide +kernel
set_option maxHeartbeats 4000000 in
set_option maxRecDepth 100000 in
theorem tX4_again {l : Launch} {D : va_G} {cB cI cJ cO : ClassId} (h0 h_now h_now_laws h_now_ground h_now_seen h_now_kind h_now_hand h_now_size h_now_on h_now_away h_kept h_kept_laws h_kept_ground h_kept_seen h_kept_kind h_kept_hand h_kept_size h_kept_on h_kept_away : Nat) (g_tried g_told g_tape g_taped g_rows g_rowCount g_sheets g_shelfHolds g_shelfNames g_shelfRows g_thing g_mattering g_now_wallLooks g_kept_gained g_kept_paintedOn g_kept_wallLooks : Value) (v_isKept : Int32) (v_now_count : Int32) (v_now_nightsPassed : Int32) (v_now_glances : Int32) (v_now_draws : Int32) (v_now_gained : Int32) (v_now_paintedOn : Int32) (v_now_laws : Nat → Int32) (v_now_ground : Nat → Int32) (v_now_seen : Nat → Int32) (v_now_kind : Nat → Int32) (v_now_hand : Nat → Int32) (v_now_size : Nat → Int32) (v_now_on : Nat → Int32) (v_now_away : Nat → Int32) (v_kept_count : Int32) (v_kept_nightsPassed : Int32) (v_kept_glances : Int32) (v_kept_draws : Int32) (v_kept_laws : Nat → Int32) (v_kept_ground : Nat → Int32) (v_kept_seen : Nat → Int32) (v_kept_kind : Nat → Int32) (v_kept_hand : Nat → Int32) (v_kept_size : Nat → Int32) (v_kept_on : Nat → Int32) (v_kept_away : Nat → Int32) (r : Int32 × Int32 × Int32 × Int32 × Int32 × Int32 × Int32 × (Nat → Int32) × (Nat → Int32) × (Nat → Int32) × (Nat → Int32) × (Nat → Int32) × (Nat → Int32) × (Nat → Int32) × (Nat → Int32)) (hF : fX4_again v_isKept v_now_count v_now_nightsPassed v_now_glances v_now_draws v_now_gained v_now_paintedOn v_now_laws v_now_ground v_now_seen v_now_kind v_now_hand v_now_size v_now_on v_now_away v_kept_count v_kept_nightsPassed v_kept_glances v_kept_draws v_kept_laws v_kept_ground v_kept_seen v_kept_kind v_kept_hand v_kept_size v_kept_on v_kept_away = some r) : Met l yX4_again wsX4_again rX4_again (zPre D cB cI cJ cO [.ref h0] (wX4_again cB cI cJ cO h0 h_now h_now_laws h_now_ground h_now_seen h_now_kind h_now_hand h_now_size h_now_on h_now_away h_kept h_kept_laws h_kept_ground h_kept_seen h_kept_kind h_kept_hand h_kept_size h_kept_on h_kept_away g_tried g_told g_tape g_taped g_rows g_rowCount g_sheets g_shelfHolds g_shelfNames g_shelfRows g_thing g_mattering g_now_wallLooks g_kept_gained g_kept_paintedOn g_kept_wallLooks v_isKept v_now_count v_now_nightsPassed v_now_glances v_now_draws v_now_gained v_now_paintedOn v_now_laws v_now_ground v_now_seen v_now_kind v_now_hand v_now_size v_now_on v_now_away v_kept_count v_kept_nightsPassed v_kept_glances v_kept_draws v_kept_laws v_kept_ground v_kept_seen v_kept_kind v_kept_hand v_kept_size v_kept_on v_kept_away)) (zPM (some (.int r.1)) D (wX4_again cB cI cJ cO h0 h_now h_now_laws h_now_ground h_now_seen h_now_kind h_now_hand h_now_size h_now_on h_now_away h_kept h_kept_laws h_kept_ground h_kept_seen h_kept_kind h_kept_hand h_kept_size h_kept_on h_kept_away g_tried g_told g_tape g_taped g_rows g_rowCount g_sheets g_shelfHolds g_shelfNames g_shelfRows g_thing g_mattering g_now_wallLooks g_kept_gained g_kept_paintedOn g_kept_wallLooks v_isKept r.2.1 r.2.2.1 r.2.2.2.1 r.2.2.2.2.1 r.2.2.2.2.2.1 r.2.2.2.2.2.2.1 r.2.2.2.2.2.2.2.1 r.2.2.2.2.2.2.2.2.1 r.2.2.2.2.2.2.2.2.2.1 r.2.2.2.2.2.2.2.2.2.2.1 r.2.2.2.2.2.2.2.2.2.2.2.1 r.2.2.2.2.2.2.2.2.2.2.2.2.1 r.2.2.2.2.2.2.2.2.2.2.2.2.2.1 r.2.2.2.2.2.2.2.2.2.2.2.2.2.2 v_kept_count v_kept_nightsPassed v_kept_glances v_kept_draws v_kept_laws v_kept_ground v_kept_seen v_kept_kind v_kept_hand v_kept_size v_kept_on v_kept_away) (zAs [h0, h_now, h_now_laws, h_now_ground, h_now_seen, h_now_kind, h_now_hand, h_now_size, h_now_on, h_now_away, h_kept, h_kept_laws, h_kept_ground, h_kept_seen, h_kept_kind, h_kept_hand, h_kept_size, h_kept_on, h_kept_away])) 0 0 (zAs [h0, h_now, h_now_laws, h_now_ground, h_now_seen, h_now_kind, h_now_hand, h_now_size, h_now_on, h_now_away, h_kept, h_kept_laws, h_kept_ground, h_kept_seen, h_kept_kind, h_kept_hand, h_kept_size, h_kept_on, h_kept_away]) := by
  refine zMetM (cc := cX4_again) (maxL := 1) (ret := (some .int)) (lv := [(0, .ref h0)]) rfl (by decide) rfl (Nat.le_of_ble_eq_true rfl) rfl ?_
  intro p e s m args below meth c ls Q H locs hQ hx hb hr hml hown hts hlocks hname hP hE hD hS hl
  have hown : s.vm.findClass RX4 = some m.cls := hown
  have hK := hE.1
  unfold fX4_again at hF
  refine lv_aload_n (pc := 0) hx hb dX4_again_0 rfl (lv_at hl 0 rfl) ?_
  refine va_get (D := D) (pc := 1) (ci := 4) (v := .int v_isKept) (C := RX4) (T := TX4) (N := 15) hx hb hts nX4_again_X4 hown hK hP 0 rfl rfl 4 (by decide) (hts _ kX4_again_0) (fun _ h9 => h9) rfl dX4_again_1 ?_
  refine zb_if_ne (pc := 4) (tgt := 10) hx hb dX4_again_4 (by decide) hF (fun c_4 hF => ?_) (fun c_4 hF => ?_)
  · refine lv_aload_n (pc := 10) hx hb dX4_again_10 rfl (lv_at hl 0 rfl) ?_
    refine va_get (D := D) (pc := 11) (ci := 4) (v := .ref h_now) (C := RX4) (T := TX4) (N := 15) hx hb hts nX4_again_X4 hown hK hP 0 rfl rfl 0 (by decide) (hts _ kX4_again_1) (fun _ h9 => h9) rfl dX4_again_11 ?_
    refine lv_aload_n (pc := 14) hx hb dX4_again_14 rfl (lv_at hl 0 rfl) ?_
    refine va_get (D := D) (pc := 15) (ci := 4) (v := .ref h_kept) (C := RX4) (T := TX4) (N := 15) hx hb hts nX4_again_X4 hown hK hP 0 rfl rfl 3 (by decide) (hts _ kX4_again_2) (fun _ h9 => h9) rfl dX4_again_15 ?_
    obtain ⟨u18, hu18, hF⟩ := z_bind hF
    refine zq_callM (oc0 := none) (wc := wX2_become cB cI cJ cO h_now h_now_laws h_now_ground h_now_seen h_now_kind h_now_hand h_now_size h_now_on h_now_away h_kept h_kept_laws h_kept_ground h_kept_seen h_kept_kind h_kept_hand h_kept_size h_kept_on h_kept_away g_now_wallLooks g_kept_gained g_kept_paintedOn g_kept_wallLooks v_now_count v_now_nightsPassed v_now_glances v_now_draws v_now_gained v_now_paintedOn v_now_laws v_now_ground v_now_seen v_now_kind v_now_hand v_now_size v_now_on v_now_away v_kept_count v_kept_nightsPassed v_kept_glances v_kept_draws v_kept_laws v_kept_ground v_kept_seen v_kept_kind v_kept_hand v_kept_size v_kept_on v_kept_away) (wc' := wX2_become cB cI cJ cO h_now h_now_laws h_now_ground h_now_seen h_now_kind h_now_hand h_now_size h_now_on h_now_away h_kept h_kept_laws h_kept_ground h_kept_seen h_kept_kind h_kept_hand h_kept_size h_kept_on h_kept_away g_now_wallLooks g_kept_gained g_kept_paintedOn g_kept_wallLooks u18.1 u18.2.1 u18.2.2.1 u18.2.2.2.1 u18.2.2.2.2.1 u18.2.2.2.2.2.1 u18.2.2.2.2.2.2.1 u18.2.2.2.2.2.2.2.1 u18.2.2.2.2.2.2.2.2.1 u18.2.2.2.2.2.2.2.2.2.1 u18.2.2.2.2.2.2.2.2.2.2.1 u18.2.2.2.2.2.2.2.2.2.2.2.1 u18.2.2.2.2.2.2.2.2.2.2.2.2.1 u18.2.2.2.2.2.2.2.2.2.2.2.2.2 v_kept_count v_kept_nightsPassed v_kept_glances v_kept_draws v_kept_laws v_kept_ground v_kept_seen v_kept_kind v_kept_hand v_kept_size v_kept_on v_kept_away) (ws' := (wX4_again cB cI cJ cO h0 h_now h_now_laws h_now_ground h_now_seen h_now_kind h_now_hand h_now_size h_now_on h_now_away h_kept h_kept_laws h_kept_ground h_kept_seen h_kept_kind h_kept_hand h_kept_size h_kept_on h_kept_away g_tried g_told g_tape g_taped g_rows g_rowCount g_sheets g_shelfHolds g_shelfNames g_shelfRows g_thing g_mattering g_now_wallLooks g_kept_gained g_kept_paintedOn g_kept_wallLooks v_isKept u18.1 u18.2.1 u18.2.2.1 u18.2.2.2.1 u18.2.2.2.2.1 u18.2.2.2.2.2.1 u18.2.2.2.2.2.2.1 u18.2.2.2.2.2.2.2.1 u18.2.2.2.2.2.2.2.2.1 u18.2.2.2.2.2.2.2.2.2.1 u18.2.2.2.2.2.2.2.2.2.2.1 u18.2.2.2.2.2.2.2.2.2.2.2.1 u18.2.2.2.2.2.2.2.2.2.2.2.2.1 u18.2.2.2.2.2.2.2.2.2.2.2.2.2 v_kept_count v_kept_nightsPassed v_kept_glances v_kept_draws v_kept_laws v_kept_ground v_kept_seen v_kept_kind v_kept_hand v_kept_size v_kept_on v_kept_away)) (va_runV (As := [.ref h_kept]) (rest := []) ⟨hx, hb, hml, hown, hts⟩ (tX2_become (l := l) (D := D) (cB := cB) (cI := cI) (cJ := cJ) (cO := cO) h_now h_now_laws h_now_ground h_now_seen h_now_kind h_now_hand h_now_size h_now_on h_now_away h_kept h_kept_laws h_kept_ground h_kept_seen h_kept_kind h_kept_hand h_kept_size h_kept_on h_kept_away g_now_wallLooks g_kept_gained g_kept_paintedOn g_kept_wallLooks v_now_count v_now_nightsPassed v_now_glances v_now_draws v_now_gained v_now_paintedOn v_now_laws v_now_ground v_now_seen v_now_kind v_now_hand v_now_size v_now_on v_now_away v_kept_count v_kept_nightsPassed v_kept_glances v_kept_draws v_kept_laws v_kept_ground v_kept_seen v_kept_kind v_kept_hand v_kept_size v_kept_on v_kept_away u18 hu18) (cwV 1 hts gX4_again_X2_become rfl rfl rfl (by decide +kernel) ⟨Nat.le_of_ble_eq_true rfl, Nat.le_of_ble_eq_true rfl⟩) ⟨zPre_blind, va_recv hK hP (ci := 2) (q0 := 1) rfl rfl, zPre_at hP hE (zD_re hD rfl) [1, 2, 3, 4, 5, 6, 7, 8, 9, 10, 11, 12, 13, 14, 15, 16, 17, 18] rfl rfl⟩ rfl rfl hl.1 rfl (lv_room (Nat.le_of_ble_eq_true rfl)) dX4_again_18 ⟨Nat.zero_le _, Nat.zero_le _⟩) rfl hP (zD_re hD rfl) hS [1, 2, 3, 4, 5, 6, 7, 8, 9, 10, 11, 12, 13, 14, 15, 16, 17, 18] rfl rfl [none, some 0, some 1, some 2, some 3, some 4, some 5, some 6, some 7, some 8, some 9, some 10, some 11, some 12, some 13, some 14, some 15, some 16, some 17] rfl rfl rfl rfl (fun H locs hP hS => ?_)
    refine W.eq (g2 := F0 m 21 ls []) rfl ?_
    refine lv_aload_n (pc := 21) hx hb dX4_again_21 rfl (lv_at hl 0 rfl) ?_
    refine va_get (D := D) (pc := 22) (ci := 4) (v := .ref h_now) (C := RX4) (T := TX4) (N := 15) hx hb hts nX4_again_X4 hown hK hP 0 rfl rfl 0 (by decide) (hts _ kX4_again_1) (fun _ h9 => h9) rfl dX4_again_22 ?_
    refine va_get (D := D) (pc := 25) (ci := 2) (v := .int u18.1) (C := RX2) (T := TX2) (N := 15) hx hb hts nX4_again_X2 hown hK hP 1 rfl rfl 3 (by decide) (hts _ kX4_again_3) (fun _ h9 => h9) rfl dX4_again_25 ?_
    exact z_iretM (pc := 28) (fun q => q.1) (fun q => (wX4_again cB cI cJ cO h0 h_now h_now_laws h_now_ground h_now_seen h_now_kind h_now_hand h_now_size h_now_on h_now_away h_kept h_kept_laws h_kept_ground h_kept_seen h_kept_kind h_kept_hand h_kept_size h_kept_on h_kept_away g_tried g_told g_tape g_taped g_rows g_rowCount g_sheets g_shelfHolds g_shelfNames g_shelfRows g_thing g_mattering g_now_wallLooks g_kept_gained g_kept_paintedOn g_kept_wallLooks v_isKept q.2.1 q.2.2.1 q.2.2.2.1 q.2.2.2.2.1 q.2.2.2.2.2.1 q.2.2.2.2.2.2.1 q.2.2.2.2.2.2.2.1 q.2.2.2.2.2.2.2.2.1 q.2.2.2.2.2.2.2.2.2.1 q.2.2.2.2.2.2.2.2.2.2.1 q.2.2.2.2.2.2.2.2.2.2.2.1 q.2.2.2.2.2.2.2.2.2.2.2.2.1 q.2.2.2.2.2.2.2.2.2.2.2.2.2.1 q.2.2.2.2.2.2.2.2.2.2.2.2.2.2 v_kept_count v_kept_nightsPassed v_kept_glances v_kept_draws v_kept_laws v_kept_ground v_kept_seen v_kept_kind v_kept_hand v_kept_size v_kept_on v_kept_away)) hx hb hr hlocks hP hS hF rfl hQ dX4_again_28
  · refine lv_bipush (pc := 7) (v := (-3 : Int32)) hx hb dX4_again_7 (by decide) ?_
    exact z_iretM (pc := 9) (fun q => q.1) (fun q => (wX4_again cB cI cJ cO h0 h_now h_now_laws h_now_ground h_now_seen h_now_kind h_now_hand h_now_size h_now_on h_now_away h_kept h_kept_laws h_kept_ground h_kept_seen h_kept_kind h_kept_hand h_kept_size h_kept_on h_kept_away g_tried g_told g_tape g_taped g_rows g_rowCount g_sheets g_shelfHolds g_shelfNames g_shelfRows g_thing g_mattering g_now_wallLooks g_kept_gained g_kept_paintedOn g_kept_wallLooks v_isKept q.2.1 q.2.2.1 q.2.2.2.1 q.2.2.2.2.1 q.2.2.2.2.2.1 q.2.2.2.2.2.2.1 q.2.2.2.2.2.2.2.1 q.2.2.2.2.2.2.2.2.1 q.2.2.2.2.2.2.2.2.2.1 q.2.2.2.2.2.2.2.2.2.2.1 q.2.2.2.2.2.2.2.2.2.2.2.1 q.2.2.2.2.2.2.2.2.2.2.2.2.1 q.2.2.2.2.2.2.2.2.2.2.2.2.2.1 q.2.2.2.2.2.2.2.2.2.2.2.2.2.2 v_kept_count v_kept_nightsPassed v_kept_glances v_kept_draws v_kept_laws v_kept_ground v_kept_seen v_kept_kind v_kept_hand v_kept_size v_kept_on v_kept_away)) hx hb hr hlocks hP hS hF rfl hQ dX4_again_9

abbrev rX5_begins : Room := { frames := 0, cells := 0, slots := 0, locals := 0 }
abbrev wX5_begins (cB cI cJ cO : ClassId) (h_a0 : Nat) (v_a0 : Nat → Int32) : va_W := [(h_a0, .inl (cI, 68, .inl v_a0))]
set_option maxHeartbeats 4000000 in
set_option maxRecDepth 100000 in
theorem tX5_begins {l : Launch} {D : va_G} {cB cI cJ cO : ClassId} (h_a0 : Nat) (v_a0 : Nat → Int32) (r : (Nat → Int32)) (hF : fX5_begins v_a0 = some r) : Met l yX5_begins wsX5_begins rX5_begins (zPre D cB cI cJ cO [.ref h_a0] (wX5_begins cB cI cJ cO h_a0 v_a0)) (zPM none D (wX5_begins cB cI cJ cO h_a0 r) (zAs [h_a0])) 0 0 (zAs [h_a0]) := by
  refine zMetM (cc := cX5_begins) (maxL := 2) (ret := none) (lv := [(0, .ref h_a0)]) rfl (by decide) rfl (Nat.le_of_ble_eq_true rfl) rfl ?_
  intro p e s m args below meth c ls Q H locs hQ hx hb hr hml hown hts hlocks hname hP hE hD hS hl
  have hown : s.vm.findClass RX5 = some m.cls := hown
  have hK := hE.1
  unfold fX5_begins at hF
  refine lv_iconst (pc := 0) (v := (nI 0)) hx hb dX5_begins_0 (by decide) ?_
  refine lv_istore_n (pc := 1) (lv' := [(1, .int (nI 0)), (0, .ref h_a0)]) hx hb dX5_begins_1 rfl hl (by decide) rfl (fun ls hl => ?_)
  obtain ⟨k_4, hk_4, hF⟩ := z_J hF
  have kk_4 : ∀ (v_a0_3 : Nat → Int32) , k_4 v_a0_3 = some r → ∀ (H : Heap) (locs : List Loc), va_P D vwCl (wX5_begins cB cI cJ cO h_a0 v_a0_3) H → va_S (zAs [h_a0]) s.heap H locs → ∀ (ls : Array Slot), lv_has ls 2 [(0, .ref h_a0)] → W p l e rX5_begins s m args below meth c H locs 0 0 Q (F0 m 18 ls []) := by
    intro v_a0_3 hF H locs hP hS ls hl
    rw [hk_4] at hF
    refine lv_aload_n (pc := 18) hx hb dX5_begins_18 rfl (lv_at hl 0 rfl) ?_
    refine lv_iconst (pc := 19) (v := (nI 0)) hx hb dX5_begins_19 (by decide) ?_
    refine lv_iconst (pc := 20) (v := (nI 1)) hx hb dX5_begins_20 (by decide) ?_
    refine za_iastK (pc := 21) (k := 0) hx hb hK hP (zD_re hD rfl) hS 0 1 rfl rfl (by decide) (by decide) dX5_begins_21 (fun H locs hP hS => ?_)
    have hP : va_P D vwCl (wX5_begins cB cI cJ cO h_a0 (upd v_a0_3 0 (nI 1))) H := hP
    refine lv_aload_n (pc := 22) hx hb dX5_begins_22 rfl (lv_at hl 0 rfl) ?_
    refine lv_iconst (pc := 23) (v := (nI 1)) hx hb dX5_begins_23 (by decide) ?_
    refine lv_iconst (pc := 24) (v := (nI 2)) hx hb dX5_begins_24 (by decide) ?_
    refine za_iastK (pc := 25) (k := 1) hx hb hK hP (zD_re hD rfl) hS 0 1 rfl rfl (by decide) (by decide) dX5_begins_25 (fun H locs hP hS => ?_)
    have hP : va_P D vwCl (wX5_begins cB cI cJ cO h_a0 (upd (upd v_a0_3 0 (nI 1)) 1 (nI 2))) H := hP
    refine lv_aload_n (pc := 26) hx hb dX5_begins_26 rfl (lv_at hl 0 rfl) ?_
    refine lv_iconst (pc := 27) (v := (nI 2)) hx hb dX5_begins_27 (by decide) ?_
    refine lv_bipush (pc := 28) (v := (nI 30)) hx hb dX5_begins_28 (by decide) ?_
    refine za_iastK (pc := 30) (k := 2) hx hb hK hP (zD_re hD rfl) hS 0 1 rfl rfl (by decide) (by decide) dX5_begins_30 (fun H locs hP hS => ?_)
    have hP : va_P D vwCl (wX5_begins cB cI cJ cO h_a0 (upd (upd (upd v_a0_3 0 (nI 1)) 1 (nI 2)) 2 (nI 30))) H := hP
    refine lv_aload_n (pc := 31) hx hb dX5_begins_31 rfl (lv_at hl 0 rfl) ?_
    refine lv_iconst (pc := 32) (v := (nI 3)) hx hb dX5_begins_32 (by decide) ?_
    refine lv_bipush (pc := 33) (v := (nI 20)) hx hb dX5_begins_33 (by decide) ?_
    refine za_iastK (pc := 35) (k := 3) hx hb hK hP (zD_re hD rfl) hS 0 1 rfl rfl (by decide) (by decide) dX5_begins_35 (fun H locs hP hS => ?_)
    have hP : va_P D vwCl (wX5_begins cB cI cJ cO h_a0 (upd (upd (upd (upd v_a0_3 0 (nI 1)) 1 (nI 2)) 2 (nI 30)) 3 (nI 20))) H := hP
    refine lv_iconst (pc := 36) (v := (nI 0)) hx hb dX5_begins_36 (by decide) ?_
    refine lv_istore_n (pc := 37) (lv' := [(1, .int (nI 0)), (0, .ref h_a0)]) hx hb dX5_begins_37 rfl hl (by decide) rfl (fun ls hl => ?_)
    obtain ⟨k_8, hk_8, hF⟩ := z_J hF
    have kk_8 : ∀ (v_a0_7 : Nat → Int32) , k_8 v_a0_7 = some r → ∀ (H : Heap) (locs : List Loc), va_P D vwCl (wX5_begins cB cI cJ cO h_a0 v_a0_7) H → va_S (zAs [h_a0]) s.heap H locs → ∀ (ls : Array Slot), lv_has ls 2 [] → W p l e rX5_begins s m args below meth c H locs 0 0 Q (F0 m 61 ls []) := by
      intro v_a0_7 hF H locs hP hS ls hl
      rw [hk_8] at hF
      exact z_vretM (pc := 61) (fun q => (wX5_begins cB cI cJ cO h_a0 q)) hx hb hr hlocks hP hS hF hQ dX5_begins_61
    have hL_38 : ∀ (n : Nat) (y1_5 : Int32) (v_a0_6 : Nat → Int32) , fX5_begins_L38 k_8 n y1_5 v_a0_6 = some r → ∀ (H : Heap) (locs : List Loc), va_P D vwCl (wX5_begins cB cI cJ cO h_a0 v_a0_6) H → va_S (zAs [h_a0]) s.heap H locs → ∀ (ls : Array Slot), lv_has ls 2 [(0, .ref h_a0), (1, .int y1_5)] → W p l e rX5_begins s m args below meth c H locs 0 0 Q (F0 m 38 ls []) := by
      intro n
      induction n with
      | zero =>
        intro y1_5 v_a0_6 hF H locs hP hS ls hl
        exact z_no hF
      | succ n ih =>
        intro y1_5 v_a0_6 hF H locs hP hS ls hl
        rw [fX5_begins_L38] at hF
        refine lv_iload_n (pc := 38) hx hb dX5_begins_38 rfl (lv_at hl 1 rfl) ?_
        refine lv_bipush (pc := 39) (v := (nI 10)) hx hb dX5_begins_39 (by decide) ?_
        refine zb_icmp_ge (pc := 41) (tgt := 61) hx hb dX5_begins_41 (by decide) hF (fun c_41 hF => ?_) (fun c_41 hF => ?_)
        · exact kk_8 v_a0_6 hF H locs hP hS ls (lv_sub hl [] rfl)
        · refine lv_aload_n (pc := 44) hx hb dX5_begins_44 rfl (lv_at hl 0 rfl) ?_
          refine lv_bipush (pc := 45) (v := (nI 8)) hx hb dX5_begins_45 (by decide) ?_
          refine lv_iconst (pc := 47) (v := (nI 2)) hx hb dX5_begins_47 (by decide) ?_
          refine lv_iload_n (pc := 48) hx hb dX5_begins_48 rfl (lv_at hl 1 rfl) ?_
          refine lv_imul (pc := 49) hx hb dX5_begins_49 ?_
          refine lv_iadd (pc := 50) hx hb dX5_begins_50 ?_
          refine lv_iconst (pc := 51) (v := (nI 1)) hx hb dX5_begins_51 (by decide) ?_
          refine lv_iadd (pc := 52) hx hb dX5_begins_52 ?_
          refine lv_iconst (pc := 53) (v := (nI 3)) hx hb dX5_begins_53 (by decide) ?_
          refine za_iast (pc := 54) hx hb hK hP (zD_re hD rfl) hS 0 1 rfl rfl dX5_begins_54 hF (fun hF H locs hP hS => ?_)
          have hP : va_P D vwCl (wX5_begins cB cI cJ cO h_a0 (upd v_a0_6 (((nI 8) + ((nI 2) * y1_5)) + (nI 1)).toNatClampNeg (nI 3))) H := hP
          refine lv_iinc (pc := 55) (v := (y1_5 + 1)) (lv' := [(1, .int (y1_5 + 1)), (0, .ref h_a0)]) hx hb dX5_begins_55 hl (k := 1) rfl rfl (by decide) rfl (fun ls hl => ?_)
          refine lv_goto (pc := 58) (tgt := 38) hx hb dX5_begins_58 (by decide) ?_
          exact ih (y1_5 + 1) (upd v_a0_6 (((nI 8) + ((nI 2) * y1_5)) + (nI 1)).toNatClampNeg (nI 3)) hF H locs hP hS ls (lv_sub hl [1, 0] rfl)
    exact hL_38 zK (nI 0) (upd (upd (upd (upd v_a0_3 0 (nI 1)) 1 (nI 2)) 2 (nI 30)) 3 (nI 20)) hF H locs hP hS ls (lv_sub hl [1, 0] rfl)
  have hL_2 : ∀ (n : Nat) (y1_1 : Int32) (v_a0_2 : Nat → Int32) , fX5_begins_L2 k_4 n y1_1 v_a0_2 = some r → ∀ (H : Heap) (locs : List Loc), va_P D vwCl (wX5_begins cB cI cJ cO h_a0 v_a0_2) H → va_S (zAs [h_a0]) s.heap H locs → ∀ (ls : Array Slot), lv_has ls 2 [(0, .ref h_a0), (1, .int y1_1)] → W p l e rX5_begins s m args below meth c H locs 0 0 Q (F0 m 2 ls []) := by
    intro n
    induction n with
    | zero =>
      intro y1_1 v_a0_2 hF H locs hP hS ls hl
      exact z_no hF
    | succ n ih =>
      intro y1_1 v_a0_2 hF H locs hP hS ls hl
      rw [fX5_begins_L2] at hF
      refine lv_iload_n (pc := 2) hx hb dX5_begins_2 rfl (lv_at hl 1 rfl) ?_
      refine lv_bipush (pc := 3) (v := (nI 68)) hx hb dX5_begins_3 (by decide) ?_
      refine zb_icmp_ge (pc := 5) (tgt := 18) hx hb dX5_begins_5 (by decide) hF (fun c_5 hF => ?_) (fun c_5 hF => ?_)
      · exact kk_4 v_a0_2 hF H locs hP hS ls (lv_sub hl [0] rfl)
      · refine lv_aload_n (pc := 8) hx hb dX5_begins_8 rfl (lv_at hl 0 rfl) ?_
        refine lv_iload_n (pc := 9) hx hb dX5_begins_9 rfl (lv_at hl 1 rfl) ?_
        refine lv_iconst (pc := 10) (v := (nI 0)) hx hb dX5_begins_10 (by decide) ?_
        refine za_iast (pc := 11) hx hb hK hP (zD_re hD rfl) hS 0 1 rfl rfl dX5_begins_11 hF (fun hF H locs hP hS => ?_)
        have hP : va_P D vwCl (wX5_begins cB cI cJ cO h_a0 (upd v_a0_2 y1_1.toNatClampNeg (nI 0))) H := hP
        refine lv_iinc (pc := 12) (v := (y1_1 + 1)) (lv' := [(1, .int (y1_1 + 1)), (0, .ref h_a0)]) hx hb dX5_begins_12 hl (k := 1) rfl rfl (by decide) rfl (fun ls hl => ?_)
        refine lv_goto (pc := 15) (tgt := 2) hx hb dX5_begins_15 (by decide) ?_
        exact ih (y1_1 + 1) (upd v_a0_2 y1_1.toNatClampNeg (nI 0)) hF H locs hP hS ls (lv_sub hl [1, 0] rfl)
  exact hL_2 zK (nI 0) v_a0 hF H locs hP hS ls (lv_sub hl [1, 0] rfl)

abbrev rX5_in : Room := { frames := 0, cells := 0, slots := 0, locals := 0 }
set_option maxHeartbeats 4000000 in
set_option maxRecDepth 100000 in
theorem tX5_in {l : Launch} {D : va_G} {cB cI cJ cO : ClassId} (x0 : Int32) (x1 : Int32) (x2 : Int32) (r : Int32) (hF : fX5_in x0 x1 x2 = some r) : Met l yX5_in wsX5_in rX5_in (zPre D cB cI cJ cO [.int x0, .int x1, .int x2] ([] : va_W)) (zPI (some (.int r))) 0 0 (fun _ => False) := by
  refine zMetP (cc := cX5_in) (maxL := 3) (ret := (some .boolean)) (lv := [(0, .int x0), (1, .int x1), (2, .int x2)]) (by decide) rfl (Nat.le_of_ble_eq_true rfl) rfl ?_
  intro p e s m args below meth c ls Q hQ hx hb hr hml hown hts hlocks hname hP hE hD hl
  have hown : s.vm.findClass RX5 = some m.cls := hown
  have hK := hE.1
  unfold fX5_in at hF
  refine lv_iload_n (pc := 0) hx hb dX5_in_0 rfl (lv_at hl 0 rfl) ?_
  refine lv_iload_n (pc := 1) hx hb dX5_in_1 rfl (lv_at hl 1 rfl) ?_
  refine zb_icmp_lt (pc := 2) (tgt := 14) hx hb dX5_in_2 (by decide) hF (fun c_2 hF => ?_) (fun c_2 hF => ?_)
  · refine lv_iconst (pc := 14) (v := (nI 0)) hx hb dX5_in_14 (by decide) ?_
    exact z_zret (pc := 15) (fun q => q) hx hb hr hlocks (by decide) hF rfl hQ dX5_in_15
  · refine lv_iload_n (pc := 5) hx hb dX5_in_5 rfl (lv_at hl 0 rfl) ?_
    refine lv_iload_n (pc := 6) hx hb dX5_in_6 rfl (lv_at hl 2 rfl) ?_
    refine zb_icmp_gt (pc := 7) (tgt := 14) hx hb dX5_in_7 (by decide) hF (fun c_7 hF => ?_) (fun c_7 hF => ?_)
    · refine lv_iconst (pc := 14) (v := (nI 0)) hx hb dX5_in_14 (by decide) ?_
      exact z_zret (pc := 15) (fun q => q) hx hb hr hlocks (by decide) hF rfl hQ dX5_in_15
    · refine lv_iconst (pc := 10) (v := (nI 1)) hx hb dX5_in_10 (by decide) ?_
      refine lv_goto (pc := 11) (tgt := 15) hx hb dX5_in_11 (by decide) ?_
      exact z_zret (pc := 15) (fun q => q) hx hb hr hlocks (by decide) hF rfl hQ dX5_in_15

abbrev rX5_held : Room := { frames := 0, cells := 0, slots := 0, locals := 0 }
set_option maxHeartbeats 4000000 in
set_option maxRecDepth 100000 in
theorem tX5_held {l : Launch} {D : va_G} {cB cI cJ cO : ClassId} (x0 : Int32) (x1 : Int32) (x2 : Int32) (r : Int32) (hF : fX5_held x0 x1 x2 = some r) : Met l yX5_held wsX5_held rX5_held (zPre D cB cI cJ cO [.int x0, .int x1, .int x2] ([] : va_W)) (zPI (some (.int r))) 0 0 (fun _ => False) := by
  refine zMetP (cc := cX5_held) (maxL := 3) (ret := (some .int)) (lv := [(0, .int x0), (1, .int x1), (2, .int x2)]) (by decide) rfl (Nat.le_of_ble_eq_true rfl) rfl ?_
  intro p e s m args below meth c ls Q hQ hx hb hr hml hown hts hlocks hname hP hE hD hl
  have hown : s.vm.findClass RX5 = some m.cls := hown
  have hK := hE.1
  unfold fX5_held at hF
  refine lv_iload_n (pc := 0) hx hb dX5_held_0 rfl (lv_at hl 0 rfl) ?_
  refine lv_iload_n (pc := 1) hx hb dX5_held_1 rfl (lv_at hl 1 rfl) ?_
  refine zb_icmp_ge (pc := 2) (tgt := 9) hx hb dX5_held_2 (by decide) hF (fun c_2 hF => ?_) (fun c_2 hF => ?_)
  · refine lv_iload_n (pc := 9) hx hb dX5_held_9 rfl (lv_at hl 0 rfl) ?_
    refine lv_iload_n (pc := 10) hx hb dX5_held_10 rfl (lv_at hl 2 rfl) ?_
    refine zb_icmp_le (pc := 11) (tgt := 18) hx hb dX5_held_11 (by decide) hF (fun c_11 hF => ?_) (fun c_11 hF => ?_)
    · refine lv_iload_n (pc := 18) hx hb dX5_held_18 rfl (lv_at hl 0 rfl) ?_
      exact z_iret (pc := 19) (fun q => q) hx hb hr hlocks hF rfl hQ dX5_held_19
    · refine lv_iload_n (pc := 14) hx hb dX5_held_14 rfl (lv_at hl 2 rfl) ?_
      refine lv_goto (pc := 15) (tgt := 19) hx hb dX5_held_15 (by decide) ?_
      exact z_iret (pc := 19) (fun q => q) hx hb hr hlocks hF rfl hQ dX5_held_19
  · refine lv_iload_n (pc := 5) hx hb dX5_held_5 rfl (lv_at hl 1 rfl) ?_
    refine lv_goto (pc := 6) (tgt := 19) hx hb dX5_held_6 (by decide) ?_
    exact z_iret (pc := 19) (fun q => q) hx hb hr hlocks hF rfl hQ dX5_held_19

abbrev rX5_moveAll : Room := { frames := 0, cells := 0, slots := 0, locals := 0 }
abbrev wX5_moveAll (cB cI cJ cO : ClassId) (h_a0 h_a1 : Nat) (v_a0 : Nat → Int32) (v_a1 : Nat → Int32) : va_W := [(h_a0, .inl (cI, 68, .inl v_a0)), (h_a1, .inl (cI, 68, .inl v_a1))]
set_option maxHeartbeats 4000000 in
set_option maxRecDepth 100000 in
theorem tX5_moveAll {l : Launch} {D : va_G} {cB cI cJ cO : ClassId} (h_a0 h_a1 : Nat) (v_a0 : Nat → Int32) (v_a1 : Nat → Int32) (r : (Nat → Int32)) (hF : fX5_moveAll v_a0 v_a1 = some r) : Met l yX5_moveAll wsX5_moveAll rX5_moveAll (zPre D cB cI cJ cO [.ref h_a0, .ref h_a1] (wX5_moveAll cB cI cJ cO h_a0 h_a1 v_a0 v_a1)) (zPM none D (wX5_moveAll cB cI cJ cO h_a0 h_a1 v_a0 r) (zAs [h_a0, h_a1])) 0 0 (zAs [h_a0, h_a1]) := by
  refine zMetM (cc := cX5_moveAll) (maxL := 3) (ret := none) (lv := [(0, .ref h_a0), (1, .ref h_a1)]) rfl (by decide) rfl (Nat.le_of_ble_eq_true rfl) rfl ?_
  intro p e s m args below meth c ls Q H locs hQ hx hb hr hml hown hts hlocks hname hP hE hD hS hl
  have hown : s.vm.findClass RX5 = some m.cls := hown
  have hK := hE.1
  unfold fX5_moveAll at hF
  refine lv_iconst (pc := 0) (v := (nI 0)) hx hb dX5_moveAll_0 (by decide) ?_
  refine lv_istore_n (pc := 1) (lv' := [(2, .int (nI 0)), (0, .ref h_a0), (1, .ref h_a1)]) hx hb dX5_moveAll_1 rfl hl (by decide) rfl (fun ls hl => ?_)
  obtain ⟨k_4, hk_4, hF⟩ := z_J hF
  have kk_4 : ∀ (v_a1_3 : Nat → Int32) , k_4 v_a1_3 = some r → ∀ (H : Heap) (locs : List Loc), va_P D vwCl (wX5_moveAll cB cI cJ cO h_a0 h_a1 v_a0 v_a1_3) H → va_S (zAs [h_a0, h_a1]) s.heap H locs → ∀ (ls : Array Slot), lv_has ls 3 [] → W p l e rX5_moveAll s m args below meth c H locs 0 0 Q (F0 m 20 ls []) := by
    intro v_a1_3 hF H locs hP hS ls hl
    rw [hk_4] at hF
    exact z_vretM (pc := 20) (fun q => (wX5_moveAll cB cI cJ cO h_a0 h_a1 v_a0 q)) hx hb hr hlocks hP hS hF hQ dX5_moveAll_20
  have hL_2 : ∀ (n : Nat) (y2_1 : Int32) (v_a1_2 : Nat → Int32) , fX5_moveAll_L2 v_a0 k_4 n y2_1 v_a1_2 = some r → ∀ (H : Heap) (locs : List Loc), va_P D vwCl (wX5_moveAll cB cI cJ cO h_a0 h_a1 v_a0 v_a1_2) H → va_S (zAs [h_a0, h_a1]) s.heap H locs → ∀ (ls : Array Slot), lv_has ls 3 [(0, .ref h_a0), (1, .ref h_a1), (2, .int y2_1)] → W p l e rX5_moveAll s m args below meth c H locs 0 0 Q (F0 m 2 ls []) := by
    intro n
    induction n with
    | zero =>
      intro y2_1 v_a1_2 hF H locs hP hS ls hl
      exact z_no hF
    | succ n ih =>
      intro y2_1 v_a1_2 hF H locs hP hS ls hl
      rw [fX5_moveAll_L2] at hF
      refine lv_iload_n (pc := 2) hx hb dX5_moveAll_2 rfl (lv_at hl 2 rfl) ?_
      refine lv_bipush (pc := 3) (v := (nI 68)) hx hb dX5_moveAll_3 (by decide) ?_
      refine zb_icmp_ge (pc := 5) (tgt := 20) hx hb dX5_moveAll_5 (by decide) hF (fun c_5 hF => ?_) (fun c_5 hF => ?_)
      · exact kk_4 v_a1_2 hF H locs hP hS ls (lv_sub hl [] rfl)
      · refine lv_aload_n (pc := 8) hx hb dX5_moveAll_8 rfl (lv_at hl 1 rfl) ?_
        refine lv_iload_n (pc := 9) hx hb dX5_moveAll_9 rfl (lv_at hl 2 rfl) ?_
        refine lv_aload_n (pc := 10) hx hb dX5_moveAll_10 rfl (lv_at hl 0 rfl) ?_
        refine lv_iload_n (pc := 11) hx hb dX5_moveAll_11 rfl (lv_at hl 2 rfl) ?_
        refine za_iald (pc := 12) hx hb hK hP 0 1 rfl rfl dX5_moveAll_12 hF (fun hF => ?_)
        refine za_iast (pc := 13) hx hb hK hP (zD_re hD rfl) hS 1 1 rfl rfl dX5_moveAll_13 hF (fun hF H locs hP hS => ?_)
        have hP : va_P D vwCl (wX5_moveAll cB cI cJ cO h_a0 h_a1 v_a0 (upd v_a1_2 y2_1.toNatClampNeg (v_a0 y2_1.toNatClampNeg))) H := hP
        refine lv_iinc (pc := 14) (v := (y2_1 + 1)) (lv' := [(2, .int (y2_1 + 1)), (0, .ref h_a0), (1, .ref h_a1)]) hx hb dX5_moveAll_14 hl (k := 2) rfl rfl (by decide) rfl (fun ls hl => ?_)
        refine lv_goto (pc := 17) (tgt := 2) hx hb dX5_moveAll_17 (by decide) ?_
        exact ih (y2_1 + 1) (upd v_a1_2 y2_1.toNatClampNeg (v_a0 y2_1.toNatClampNeg)) hF H locs hP hS ls (lv_sub hl [1, 2, 0] rfl)
  exact hL_2 zK (nI 0) v_a1 hF H locs hP hS ls (lv_sub hl [1, 2, 0] rfl)

abbrev rX5_isOne : Room := { frames := 1, cells := 0, slots := 0, locals := 22 }
abbrev wX5_isOne (cB cI cJ cO : ClassId) (h0 h_row : Nat) (g_fresh g_kept g_tried g_isKept g_viewed g_tape g_tapeMany g_sort g_begins g_tokenEnds g_word g_value g_good g_growing g_rows g_must g_rowMany g_sorts g_sizes g_sheets g_holds g_heldNumber g_heldSize g_kind g_number g_ownHand g_traced g_bodies g_isParted : Value) (v_row : Nat → Int32) : va_W := [(h0, .inr (5, [.ref h_row, g_fresh, g_kept, g_tried, g_isKept, g_viewed, g_tape, g_tapeMany, g_sort, g_begins, g_tokenEnds, g_word, g_value, g_good, g_growing, g_rows, g_must, g_rowMany, g_sorts, g_sizes, g_sheets, g_holds, g_heldNumber, g_heldSize, g_kind, g_number, g_ownHand, g_traced, g_bodies, g_isParted])), (h_row, .inl (cI, 68, .inl v_row))]
theorem nX5_isOne_X5 : ∀ w ∈ wsX50, w ∈ wsX5_isOne := by decide +kernel
theorem kX5_isOne_0 : Cond.fieldLink RX5 7 "PaintedWallsModel" "row" "[I" ∈ wsX5_isOne := by decide +kernel
set_option maxHeartbeats 4000000 in
set_option maxRecDepth 100000 in
theorem tX5_isOne {l : Launch} {D : va_G} {cB cI cJ cO : ClassId} (h0 h_row : Nat) (g_fresh g_kept g_tried g_isKept g_viewed g_tape g_tapeMany g_sort g_begins g_tokenEnds g_word g_value g_good g_growing g_rows g_must g_rowMany g_sorts g_sizes g_sheets g_holds g_heldNumber g_heldSize g_kind g_number g_ownHand g_traced g_bodies g_isParted : Value) (v_row : Nat → Int32) (x1 : Int32) (r : Int32) (hF : fX5_isOne v_row x1 = some r) : Met l yX5_isOne wsX5_isOne rX5_isOne (zPre D cB cI cJ cO [.ref h0, .int x1] (wX5_isOne cB cI cJ cO h0 h_row g_fresh g_kept g_tried g_isKept g_viewed g_tape g_tapeMany g_sort g_begins g_tokenEnds g_word g_value g_good g_growing g_rows g_must g_rowMany g_sorts g_sizes g_sheets g_holds g_heldNumber g_heldSize g_kind g_number g_ownHand g_traced g_bodies g_isParted v_row)) (zPI (some (.int r))) 0 0 (fun _ => False) := by
  refine zMetP (cc := cX5_isOne) (maxL := 2) (ret := (some .boolean)) (lv := [(0, .ref h0), (1, .int x1)]) (by decide) rfl (Nat.le_of_ble_eq_true rfl) rfl ?_
  intro p e s m args below meth c ls Q hQ hx hb hr hml hown hts hlocks hname hP hE hD hl
  have hown : s.vm.findClass RX5 = some m.cls := hown
  have hK := hE.1
  unfold fX5_isOne at hF
  refine lv_iload_n (pc := 0) hx hb dX5_isOne_0 rfl (lv_at hl 1 rfl) ?_
  refine lv_iconst (pc := 1) (v := (nI 0)) hx hb dX5_isOne_1 (by decide) ?_
  refine lv_aload_n (pc := 2) hx hb dX5_isOne_2 rfl (lv_at hl 0 rfl) ?_
  refine va_get (D := D) (pc := 3) (ci := 5) (v := .ref h_row) (C := RX5) (T := TX5) (N := 30) hx hb hts nX5_isOne_X5 hown hK hP 0 rfl rfl 0 (by decide) (hts _ kX5_isOne_0) (fun _ h9 => h9) rfl dX5_isOne_3 ?_
  refine lv_bipush (pc := 6) (v := (nI 6)) hx hb dX5_isOne_6 (by decide) ?_
  refine za_ialdK (pc := 8) (k := 6) hx hb hK hP 1 1 rfl rfl (by decide) (by decide) dX5_isOne_8 ?_
  refine lv_iconst (pc := 9) (v := (nI 1)) hx hb dX5_isOne_9 (by decide) ?_
  refine lv_isub (pc := 10) hx hb dX5_isOne_10 ?_
  obtain ⟨u11, hu11, hF⟩ := z_bind hF
  refine zq_call (oc0 := (some (.int u11))) (va_runS (As := [.int x1, .int (nI 0), .int ((v_row 6) - (nI 1))]) (rest := []) ⟨hx, hb, hml, hown, hts⟩ (tX5_in (l := l) (D := D) (cB := cB) (cI := cI) (cJ := cJ) (cO := cO) x1 (nI 0) ((v_row 6) - (nI 1)) u11 hu11) (va_cwS 3 hts gX5_isOne_X5_in rfl rfl rfl (by decide +kernel) ⟨Nat.le_of_ble_eq_true rfl, Nat.le_of_ble_eq_true rfl⟩) ⟨zPre_blind, zPre_at hP hE hD [] rfl rfl⟩ rfl rfl hl.1 rfl (lv_room (Nat.le_of_ble_eq_true rfl)) dX5_isOne_11 ⟨Nat.zero_le _, Nat.zero_le _⟩) ?_
  refine W.eq (g2 := F0 m 14 ls [.int u11]) rfl ?_
  obtain ⟨hz, hF⟩ := z_h _ hF
  exact z_zret (pc := 14) (fun q => q) hx hb hr hlocks hz hF rfl hQ dX5_isOne_14

abbrev rX5_its : Room := { frames := 0, cells := 0, slots := 0, locals := 0 }
abbrev wX5_its (cB cI cJ cO : ClassId) (h0 h_row : Nat) (g_fresh g_kept g_tried g_isKept g_viewed g_tape g_tapeMany g_sort g_begins g_tokenEnds g_word g_value g_good g_growing g_rows g_must g_rowMany g_sorts g_sizes g_sheets g_holds g_heldNumber g_heldSize g_kind g_number g_ownHand g_traced g_bodies g_isParted : Value) (v_row : Nat → Int32) : va_W := [(h0, .inr (5, [.ref h_row, g_fresh, g_kept, g_tried, g_isKept, g_viewed, g_tape, g_tapeMany, g_sort, g_begins, g_tokenEnds, g_word, g_value, g_good, g_growing, g_rows, g_must, g_rowMany, g_sorts, g_sizes, g_sheets, g_holds, g_heldNumber, g_heldSize, g_kind, g_number, g_ownHand, g_traced, g_bodies, g_isParted])), (h_row, .inl (cI, 68, .inl v_row))]
theorem nX5_its_X5 : ∀ w ∈ wsX50, w ∈ wsX5_its := by decide +kernel
theorem kX5_its_0 : Cond.fieldLink RX5 7 "PaintedWallsModel" "row" "[I" ∈ wsX5_its := by decide +kernel
set_option maxHeartbeats 4000000 in
set_option maxRecDepth 100000 in
theorem tX5_its {l : Launch} {D : va_G} {cB cI cJ cO : ClassId} (h0 h_row : Nat) (g_fresh g_kept g_tried g_isKept g_viewed g_tape g_tapeMany g_sort g_begins g_tokenEnds g_word g_value g_good g_growing g_rows g_must g_rowMany g_sorts g_sizes g_sheets g_holds g_heldNumber g_heldSize g_kind g_number g_ownHand g_traced g_bodies g_isParted : Value) (v_row : Nat → Int32) (x1 : Int32) (x2 : Int32) (r : Int32) (hF : fX5_its v_row x1 x2 = some r) : Met l yX5_its wsX5_its rX5_its (zPre D cB cI cJ cO [.ref h0, .int x1, .int x2] (wX5_its cB cI cJ cO h0 h_row g_fresh g_kept g_tried g_isKept g_viewed g_tape g_tapeMany g_sort g_begins g_tokenEnds g_word g_value g_good g_growing g_rows g_must g_rowMany g_sorts g_sizes g_sheets g_holds g_heldNumber g_heldSize g_kind g_number g_ownHand g_traced g_bodies g_isParted v_row)) (zPI (some (.int r))) 0 0 (fun _ => False) := by
  refine zMetP (cc := cX5_its) (maxL := 3) (ret := (some .int)) (lv := [(0, .ref h0), (1, .int x1), (2, .int x2)]) (by decide) rfl (Nat.le_of_ble_eq_true rfl) rfl ?_
  intro p e s m args below meth c ls Q hQ hx hb hr hml hown hts hlocks hname hP hE hD hl
  have hown : s.vm.findClass RX5 = some m.cls := hown
  have hK := hE.1
  unfold fX5_its at hF
  refine lv_aload_n (pc := 0) hx hb dX5_its_0 rfl (lv_at hl 0 rfl) ?_
  refine va_get (D := D) (pc := 1) (ci := 5) (v := .ref h_row) (C := RX5) (T := TX5) (N := 30) hx hb hts nX5_its_X5 hown hK hP 0 rfl rfl 0 (by decide) (hts _ kX5_its_0) (fun _ h9 => h9) rfl dX5_its_1 ?_
  refine lv_bipush (pc := 4) (v := (nI 28)) hx hb dX5_its_4 (by decide) ?_
  refine lv_iconst (pc := 6) (v := (nI 5)) hx hb dX5_its_6 (by decide) ?_
  refine lv_iload_n (pc := 7) hx hb dX5_its_7 rfl (lv_at hl 1 rfl) ?_
  refine lv_imul (pc := 8) hx hb dX5_its_8 ?_
  refine lv_iadd (pc := 9) hx hb dX5_its_9 ?_
  refine lv_iload_n (pc := 10) hx hb dX5_its_10 rfl (lv_at hl 2 rfl) ?_
  refine lv_iadd (pc := 11) hx hb dX5_its_11 ?_
  refine za_iald (pc := 12) hx hb hK hP 1 1 rfl rfl dX5_its_12 hF (fun hF => ?_)
  exact z_iret (pc := 13) (fun q => q) hx hb hr hlocks hF rfl hQ dX5_its_13

abbrev rX5_sets : Room := { frames := 0, cells := 0, slots := 0, locals := 0 }
abbrev wX5_sets (cB cI cJ cO : ClassId) (h0 h_row : Nat) (g_fresh g_kept g_tried g_isKept g_viewed g_tape g_tapeMany g_sort g_begins g_tokenEnds g_word g_value g_good g_growing g_rows g_must g_rowMany g_sorts g_sizes g_sheets g_holds g_heldNumber g_heldSize g_kind g_number g_ownHand g_traced g_bodies g_isParted : Value) (v_row : Nat → Int32) : va_W := [(h0, .inr (5, [.ref h_row, g_fresh, g_kept, g_tried, g_isKept, g_viewed, g_tape, g_tapeMany, g_sort, g_begins, g_tokenEnds, g_word, g_value, g_good, g_growing, g_rows, g_must, g_rowMany, g_sorts, g_sizes, g_sheets, g_holds, g_heldNumber, g_heldSize, g_kind, g_number, g_ownHand, g_traced, g_bodies, g_isParted])), (h_row, .inl (cI, 68, .inl v_row))]
theorem nX5_sets_X5 : ∀ w ∈ wsX50, w ∈ wsX5_sets := by decide +kernel
theorem kX5_sets_0 : Cond.fieldLink RX5 7 "PaintedWallsModel" "row" "[I" ∈ wsX5_sets := by decide +kernel
set_option maxHeartbeats 4000000 in
set_option maxRecDepth 100000 in
theorem tX5_sets {l : Launch} {D : va_G} {cB cI cJ cO : ClassId} (h0 h_row : Nat) (g_fresh g_kept g_tried g_isKept g_viewed g_tape g_tapeMany g_sort g_begins g_tokenEnds g_word g_value g_good g_growing g_rows g_must g_rowMany g_sorts g_sizes g_sheets g_holds g_heldNumber g_heldSize g_kind g_number g_ownHand g_traced g_bodies g_isParted : Value) (v_row : Nat → Int32) (x1 : Int32) (x2 : Int32) (x3 : Int32) (r : (Nat → Int32)) (hF : fX5_sets v_row x1 x2 x3 = some r) : Met l yX5_sets wsX5_sets rX5_sets (zPre D cB cI cJ cO [.ref h0, .int x1, .int x2, .int x3] (wX5_sets cB cI cJ cO h0 h_row g_fresh g_kept g_tried g_isKept g_viewed g_tape g_tapeMany g_sort g_begins g_tokenEnds g_word g_value g_good g_growing g_rows g_must g_rowMany g_sorts g_sizes g_sheets g_holds g_heldNumber g_heldSize g_kind g_number g_ownHand g_traced g_bodies g_isParted v_row)) (zPM none D (wX5_sets cB cI cJ cO h0 h_row g_fresh g_kept g_tried g_isKept g_viewed g_tape g_tapeMany g_sort g_begins g_tokenEnds g_word g_value g_good g_growing g_rows g_must g_rowMany g_sorts g_sizes g_sheets g_holds g_heldNumber g_heldSize g_kind g_number g_ownHand g_traced g_bodies g_isParted r) (zAs [h0, h_row])) 0 0 (zAs [h0, h_row]) := by
  refine zMetM (cc := cX5_sets) (maxL := 4) (ret := none) (lv := [(0, .ref h0), (1, .int x1), (2, .int x2), (3, .int x3)]) rfl (by decide) rfl (Nat.le_of_ble_eq_true rfl) rfl ?_
  intro p e s m args below meth c ls Q H locs hQ hx hb hr hml hown hts hlocks hname hP hE hD hS hl
  have hown : s.vm.findClass RX5 = some m.cls := hown
  have hK := hE.1
  unfold fX5_sets at hF
  refine lv_aload_n (pc := 0) hx hb dX5_sets_0 rfl (lv_at hl 0 rfl) ?_
  refine va_get (D := D) (pc := 1) (ci := 5) (v := .ref h_row) (C := RX5) (T := TX5) (N := 30) hx hb hts nX5_sets_X5 hown hK hP 0 rfl rfl 0 (by decide) (hts _ kX5_sets_0) (fun _ h9 => h9) rfl dX5_sets_1 ?_
  refine lv_bipush (pc := 4) (v := (nI 28)) hx hb dX5_sets_4 (by decide) ?_
  refine lv_iconst (pc := 6) (v := (nI 5)) hx hb dX5_sets_6 (by decide) ?_
  refine lv_iload_n (pc := 7) hx hb dX5_sets_7 rfl (lv_at hl 1 rfl) ?_
  refine lv_imul (pc := 8) hx hb dX5_sets_8 ?_
  refine lv_iadd (pc := 9) hx hb dX5_sets_9 ?_
  refine lv_iload_n (pc := 10) hx hb dX5_sets_10 rfl (lv_at hl 2 rfl) ?_
  refine lv_iadd (pc := 11) hx hb dX5_sets_11 ?_
  refine lv_iload_n (pc := 12) hx hb dX5_sets_12 rfl (lv_at hl 3 rfl) ?_
  refine za_iast (pc := 13) hx hb hK hP (zD_re hD rfl) hS 1 1 rfl rfl dX5_sets_13 hF (fun hF H locs hP hS => ?_)
  have hP : va_P D vwCl (wX5_sets cB cI cJ cO h0 h_row g_fresh g_kept g_tried g_isKept g_viewed g_tape g_tapeMany g_sort g_begins g_tokenEnds g_word g_value g_good g_growing g_rows g_must g_rowMany g_sorts g_sizes g_sheets g_holds g_heldNumber g_heldSize g_kind g_number g_ownHand g_traced g_bodies g_isParted (upd v_row (((nI 28) + ((nI 5) * x1)) + x2).toNatClampNeg x3)) H := hP
  exact z_vretM (pc := 14) (fun q => (wX5_sets cB cI cJ cO h0 h_row g_fresh g_kept g_tried g_isKept g_viewed g_tape g_tapeMany g_sort g_begins g_tokenEnds g_word g_value g_good g_growing g_rows g_must g_rowMany g_sorts g_sizes g_sheets g_holds g_heldNumber g_heldSize g_kind g_number g_ownHand g_traced g_bodies g_isParted q)) hx hb hr hlocks hP hS hF hQ dX5_sets_14

abbrev rX5_isWall : Room := { frames := 1, cells := 0, slots := 0, locals := 22 }
set_option maxHeartbeats 4000000 in
set_option maxRecDepth 100000 in
theorem tX5_isWall {l : Launch} {D : va_G} {cB cI cJ cO : ClassId} (x0 : Int32) (r : Int32) (hF : fX5_isWall x0 = some r) : Met l yX5_isWall wsX5_isWall rX5_isWall (zPre D cB cI cJ cO [.int x0] ([] : va_W)) (zPI (some (.int r))) 0 0 (fun _ => False) := by
  refine zMetP (cc := cX5_isWall) (maxL := 1) (ret := (some .boolean)) (lv := [(0, .int x0)]) (by decide) rfl (Nat.le_of_ble_eq_true rfl) rfl ?_
  intro p e s m args below meth c ls Q hQ hx hb hr hml hown hts hlocks hname hP hE hD hl
  have hown : s.vm.findClass RX5 = some m.cls := hown
  have hK := hE.1
  unfold fX5_isWall at hF
  refine lv_iload_n (pc := 0) hx hb dX5_isWall_0 rfl (lv_at hl 0 rfl) ?_
  refine lv_iconst (pc := 1) (v := (nI 0)) hx hb dX5_isWall_1 (by decide) ?_
  refine lv_bipush (pc := 2) (v := (nI 9)) hx hb dX5_isWall_2 (by decide) ?_
  obtain ⟨u4, hu4, hF⟩ := z_bind hF
  refine zq_call (oc0 := (some (.int u4))) (va_runS (As := [.int x0, .int (nI 0), .int (nI 9)]) (rest := []) ⟨hx, hb, hml, hown, hts⟩ (tX5_in (l := l) (D := D) (cB := cB) (cI := cI) (cJ := cJ) (cO := cO) x0 (nI 0) (nI 9) u4 hu4) (va_cwS 3 hts gX5_isWall_X5_in rfl rfl rfl (by decide +kernel) ⟨Nat.le_of_ble_eq_true rfl, Nat.le_of_ble_eq_true rfl⟩) ⟨zPre_blind, zPre_at hP hE hD [] rfl rfl⟩ rfl rfl hl.1 rfl (lv_room (Nat.le_of_ble_eq_true rfl)) dX5_isWall_4 ⟨Nat.zero_le _, Nat.zero_le _⟩) ?_
  refine W.eq (g2 := F0 m 7 ls [.int u4]) rfl ?_
  obtain ⟨hz, hF⟩ := z_h _ hF
  exact z_zret (pc := 7) (fun q => q) hx hb hr hlocks hz hF rfl hQ dX5_isWall_7

abbrev rX5_ground : Room := { frames := 0, cells := 0, slots := 0, locals := 0 }
abbrev wX5_ground (cB cI cJ cO : ClassId) (h0 h_row : Nat) (g_fresh g_kept g_tried g_isKept g_viewed g_tape g_tapeMany g_sort g_begins g_tokenEnds g_word g_value g_good g_growing g_rows g_must g_rowMany g_sorts g_sizes g_sheets g_holds g_heldNumber g_heldSize g_kind g_number g_ownHand g_traced g_bodies g_isParted : Value) (v_row : Nat → Int32) : va_W := [(h0, .inr (5, [.ref h_row, g_fresh, g_kept, g_tried, g_isKept, g_viewed, g_tape, g_tapeMany, g_sort, g_begins, g_tokenEnds, g_word, g_value, g_good, g_growing, g_rows, g_must, g_rowMany, g_sorts, g_sizes, g_sheets, g_holds, g_heldNumber, g_heldSize, g_kind, g_number, g_ownHand, g_traced, g_bodies, g_isParted])), (h_row, .inl (cI, 68, .inl v_row))]
theorem nX5_ground_X5 : ∀ w ∈ wsX50, w ∈ wsX5_ground := by decide +kernel
theorem kX5_ground_0 : Cond.fieldLink RX5 7 "PaintedWallsModel" "row" "[I" ∈ wsX5_ground := by decide +kernel
set_option maxHeartbeats 4000000 in
set_option maxRecDepth 100000 in
theorem tX5_ground {l : Launch} {D : va_G} {cB cI cJ cO : ClassId} (h0 h_row : Nat) (g_fresh g_kept g_tried g_isKept g_viewed g_tape g_tapeMany g_sort g_begins g_tokenEnds g_word g_value g_good g_growing g_rows g_must g_rowMany g_sorts g_sizes g_sheets g_holds g_heldNumber g_heldSize g_kind g_number g_ownHand g_traced g_bodies g_isParted : Value) (v_row : Nat → Int32) (x1 : Int32) (r : Int32) (hF : fX5_ground v_row x1 = some r) : Met l yX5_ground wsX5_ground rX5_ground (zPre D cB cI cJ cO [.ref h0, .int x1] (wX5_ground cB cI cJ cO h0 h_row g_fresh g_kept g_tried g_isKept g_viewed g_tape g_tapeMany g_sort g_begins g_tokenEnds g_word g_value g_good g_growing g_rows g_must g_rowMany g_sorts g_sizes g_sheets g_holds g_heldNumber g_heldSize g_kind g_number g_ownHand g_traced g_bodies g_isParted v_row)) (zPI (some (.int r))) 0 0 (fun _ => False) := by
  refine zMetP (cc := cX5_ground) (maxL := 2) (ret := (some .int)) (lv := [(0, .ref h0), (1, .int x1)]) (by decide) rfl (Nat.le_of_ble_eq_true rfl) rfl ?_
  intro p e s m args below meth c ls Q hQ hx hb hr hml hown hts hlocks hname hP hE hD hl
  have hown : s.vm.findClass RX5 = some m.cls := hown
  have hK := hE.1
  unfold fX5_ground at hF
  refine lv_aload_n (pc := 0) hx hb dX5_ground_0 rfl (lv_at hl 0 rfl) ?_
  refine va_get (D := D) (pc := 1) (ci := 5) (v := .ref h_row) (C := RX5) (T := TX5) (N := 30) hx hb hts nX5_ground_X5 hown hK hP 0 rfl rfl 0 (by decide) (hts _ kX5_ground_0) (fun _ h9 => h9) rfl dX5_ground_1 ?_
  refine lv_bipush (pc := 4) (v := (nI 8)) hx hb dX5_ground_4 (by decide) ?_
  refine lv_iconst (pc := 6) (v := (nI 2)) hx hb dX5_ground_6 (by decide) ?_
  refine lv_iload_n (pc := 7) hx hb dX5_ground_7 rfl (lv_at hl 1 rfl) ?_
  refine lv_imul (pc := 8) hx hb dX5_ground_8 ?_
  refine lv_iadd (pc := 9) hx hb dX5_ground_9 ?_
  refine za_iald (pc := 10) hx hb hK hP 1 1 rfl rfl dX5_ground_10 hF (fun hF => ?_)
  exact z_iret (pc := 11) (fun q => q) hx hb hr hlocks hF rfl hQ dX5_ground_11

abbrev rX5_becomes : Room := { frames := 0, cells := 0, slots := 0, locals := 0 }
abbrev wX5_becomes (cB cI cJ cO : ClassId) (h0 h_row : Nat) (g_fresh g_kept g_tried g_isKept g_viewed g_tape g_tapeMany g_sort g_begins g_tokenEnds g_word g_value g_good g_growing g_rows g_must g_rowMany g_sorts g_sizes g_sheets g_holds g_heldNumber g_heldSize g_kind g_number g_ownHand g_traced g_bodies g_isParted : Value) (v_row : Nat → Int32) : va_W := [(h0, .inr (5, [.ref h_row, g_fresh, g_kept, g_tried, g_isKept, g_viewed, g_tape, g_tapeMany, g_sort, g_begins, g_tokenEnds, g_word, g_value, g_good, g_growing, g_rows, g_must, g_rowMany, g_sorts, g_sizes, g_sheets, g_holds, g_heldNumber, g_heldSize, g_kind, g_number, g_ownHand, g_traced, g_bodies, g_isParted])), (h_row, .inl (cI, 68, .inl v_row))]
theorem nX5_becomes_X5 : ∀ w ∈ wsX50, w ∈ wsX5_becomes := by decide +kernel
theorem kX5_becomes_0 : Cond.fieldLink RX5 7 "PaintedWallsModel" "row" "[I" ∈ wsX5_becomes := by decide +kernel
set_option maxHeartbeats 4000000 in
set_option maxRecDepth 100000 in
theorem tX5_becomes {l : Launch} {D : va_G} {cB cI cJ cO : ClassId} (h0 h_row : Nat) (g_fresh g_kept g_tried g_isKept g_viewed g_tape g_tapeMany g_sort g_begins g_tokenEnds g_word g_value g_good g_growing g_rows g_must g_rowMany g_sorts g_sizes g_sheets g_holds g_heldNumber g_heldSize g_kind g_number g_ownHand g_traced g_bodies g_isParted : Value) (v_row : Nat → Int32) (x1 : Int32) (x2 : Int32) (r : Int32 × (Nat → Int32)) (hF : fX5_becomes v_row x1 x2 = some r) : Met l yX5_becomes wsX5_becomes rX5_becomes (zPre D cB cI cJ cO [.ref h0, .int x1, .int x2] (wX5_becomes cB cI cJ cO h0 h_row g_fresh g_kept g_tried g_isKept g_viewed g_tape g_tapeMany g_sort g_begins g_tokenEnds g_word g_value g_good g_growing g_rows g_must g_rowMany g_sorts g_sizes g_sheets g_holds g_heldNumber g_heldSize g_kind g_number g_ownHand g_traced g_bodies g_isParted v_row)) (zPM (some (.int r.1)) D (wX5_becomes cB cI cJ cO h0 h_row g_fresh g_kept g_tried g_isKept g_viewed g_tape g_tapeMany g_sort g_begins g_tokenEnds g_word g_value g_good g_growing g_rows g_must g_rowMany g_sorts g_sizes g_sheets g_holds g_heldNumber g_heldSize g_kind g_number g_ownHand g_traced g_bodies g_isParted r.2) (zAs [h0, h_row])) 0 0 (zAs [h0, h_row]) := by
  refine zMetM (cc := cX5_becomes) (maxL := 4) (ret := (some .int)) (lv := [(0, .ref h0), (1, .int x1), (2, .int x2)]) rfl (by decide) rfl (Nat.le_of_ble_eq_true rfl) rfl ?_
  intro p e s m args below meth c ls Q H locs hQ hx hb hr hml hown hts hlocks hname hP hE hD hS hl
  have hown : s.vm.findClass RX5 = some m.cls := hown
  have hK := hE.1
  unfold fX5_becomes at hF
  refine lv_aload_n (pc := 0) hx hb dX5_becomes_0 rfl (lv_at hl 0 rfl) ?_
  refine va_get (D := D) (pc := 1) (ci := 5) (v := .ref h_row) (C := RX5) (T := TX5) (N := 30) hx hb hts nX5_becomes_X5 hown hK hP 0 rfl rfl 0 (by decide) (hts _ kX5_becomes_0) (fun _ h9 => h9) rfl dX5_becomes_1 ?_
  refine lv_iload_n (pc := 4) hx hb dX5_becomes_4 rfl (lv_at hl 1 rfl) ?_
  refine za_iald (pc := 5) hx hb hK hP 1 1 rfl rfl dX5_becomes_5 hF (fun hF => ?_)
  refine lv_istore_n (pc := 6) (lv' := [(3, .int (v_row x1.toNatClampNeg)), (0, .ref h0), (1, .int x1), (2, .int x2)]) hx hb dX5_becomes_6 rfl hl (by decide) rfl (fun ls hl => ?_)
  refine lv_aload_n (pc := 7) hx hb dX5_becomes_7 rfl (lv_at hl 1 rfl) ?_
  refine va_get (D := D) (pc := 8) (ci := 5) (v := .ref h_row) (C := RX5) (T := TX5) (N := 30) hx hb hts nX5_becomes_X5 hown hK hP 0 rfl rfl 0 (by decide) (hts _ kX5_becomes_0) (fun _ h9 => h9) rfl dX5_becomes_8 ?_
  refine lv_iload_n (pc := 11) hx hb dX5_becomes_11 rfl (lv_at hl 2 rfl) ?_
  refine lv_iload_n (pc := 12) hx hb dX5_becomes_12 rfl (lv_at hl 3 rfl) ?_
  refine za_iast (pc := 13) hx hb hK hP (zD_re hD rfl) hS 1 1 rfl rfl dX5_becomes_13 hF (fun hF H locs hP hS => ?_)
  have hP : va_P D vwCl (wX5_becomes cB cI cJ cO h0 h_row g_fresh g_kept g_tried g_isKept g_viewed g_tape g_tapeMany g_sort g_begins g_tokenEnds g_word g_value g_good g_growing g_rows g_must g_rowMany g_sorts g_sizes g_sheets g_holds g_heldNumber g_heldSize g_kind g_number g_ownHand g_traced g_bodies g_isParted (upd v_row x1.toNatClampNeg x2)) H := hP
  refine lv_iload_n (pc := 14) hx hb dX5_becomes_14 rfl (lv_at hl 0 rfl) ?_
  exact z_iretM (pc := 15) (fun q => q.1) (fun q => (wX5_becomes cB cI cJ cO h0 h_row g_fresh g_kept g_tried g_isKept g_viewed g_tape g_tapeMany g_sort g_begins g_tokenEnds g_word g_value g_good g_growing g_rows g_must g_rowMany g_sorts g_sizes g_sheets g_holds g_heldNumber g_heldSize g_kind g_number g_ownHand g_traced g_bodies g_isParted q.2)) hx hb hr hlocks hP hS hF rfl hQ dX5_becomes_15

abbrev rX5_ones : Room := { frames := 0, cells := 0, slots := 0, locals := 0 }
set_option maxHeartbeats 4000000 in
set_option maxRecDepth 100000 in
theorem tX5_ones {l : Launch} {D : va_G} {cB cI cJ cO : ClassId} (x0 : Int32) (r : Int32) (hF : fX5_ones x0 = some r) : Met l yX5_ones wsX5_ones rX5_ones (zPre D cB cI cJ cO [.int x0] ([] : va_W)) (zPI (some (.int r))) 0 0 (fun _ => False) := by
  refine zMetP (cc := cX5_ones) (maxL := 3) (ret := (some .int)) (lv := [(0, .int x0)]) (by decide) rfl (Nat.le_of_ble_eq_true rfl) rfl ?_
  intro p e s m args below meth c ls Q hQ hx hb hr hml hown hts hlocks hname hP hE hD hl
  have hown : s.vm.findClass RX5 = some m.cls := hown
  have hK := hE.1
  unfold fX5_ones at hF
  refine lv_iconst (pc := 0) (v := (nI 0)) hx hb dX5_ones_0 (by decide) ?_
  refine lv_istore_n (pc := 1) (lv' := [(1, .int (nI 0)), (0, .int x0)]) hx hb dX5_ones_1 rfl hl (by decide) rfl (fun ls hl => ?_)
  refine lv_iload_n (pc := 2) hx hb dX5_ones_2 rfl (lv_at hl 1 rfl) ?_
  refine lv_istore_n (pc := 3) (lv' := [(2, .int x0), (1, .int (nI 0)), (0, .int x0)]) hx hb dX5_ones_3 rfl hl (by decide) rfl (fun ls hl => ?_)
  obtain ⟨k_4, hk_4, hF⟩ := z_J hF
  have kk_4 : ∀ (y1_3 : Int32) , k_4 y1_3 = some r → ∀ (ls : Array Slot), lv_has ls 3 [(1, .int y1_3)] → W p l e rX5_ones s m args below meth c s.heap [] 0 0 Q (F0 m 20 ls []) := by
    intro y1_3 hF ls hl
    rw [hk_4] at hF
    refine lv_iload_n (pc := 20) hx hb dX5_ones_20 rfl (lv_at hl 0 rfl) ?_
    exact z_iret (pc := 21) (fun q => q) hx hb hr hlocks hF rfl hQ dX5_ones_21
  have hL_4 : ∀ (n : Nat) (y1_1 : Int32) (y2_2 : Int32) , fX5_ones_L4 k_4 n y1_1 y2_2 = some r → ∀ (ls : Array Slot), lv_has ls 3 [(1, .int y1_1), (2, .int y2_2)] → W p l e rX5_ones s m args below meth c s.heap [] 0 0 Q (F0 m 4 ls []) := by
    intro n
    induction n with
    | zero =>
      intro y1_1 y2_2 hF ls hl
      exact z_no hF
    | succ n ih =>
      intro y1_1 y2_2 hF ls hl
      rw [fX5_ones_L4] at hF
      refine lv_iload_n (pc := 4) hx hb dX5_ones_4 rfl (lv_at hl 1 rfl) ?_
      refine zb_if_eq (pc := 5) (tgt := 20) hx hb dX5_ones_5 (by decide) hF (fun c_5 hF => ?_) (fun c_5 hF => ?_)
      · exact kk_4 y1_1 hF ls (lv_sub hl [0] rfl)
      · refine lv_iinc (pc := 8) (v := (y1_1 + 1)) (lv' := [(1, .int (y1_1 + 1)), (2, .int y2_2)]) hx hb dX5_ones_8 hl (k := 0) rfl rfl (by decide) rfl (fun ls hl => ?_)
        refine lv_iload_n (pc := 11) hx hb dX5_ones_11 rfl (lv_at hl 1 rfl) ?_
        refine lv_iload_n (pc := 12) hx hb dX5_ones_12 rfl (lv_at hl 1 rfl) ?_
        refine lv_iconst (pc := 13) (v := (nI 1)) hx hb dX5_ones_13 (by decide) ?_
        refine lv_isub (pc := 14) hx hb dX5_ones_14 ?_
        refine lv_iand (pc := 15) hx hb dX5_ones_15 ?_
        refine lv_istore_n (pc := 16) (lv' := [(2, .int (y2_2 &&& (y2_2 - (nI 1)))), (1, .int (y1_1 + 1))]) hx hb dX5_ones_16 rfl hl (by decide) rfl (fun ls hl => ?_)
        refine lv_goto (pc := 17) (tgt := 4) hx hb dX5_ones_17 (by decide) ?_
        exact ih (y1_1 + 1) (y2_2 &&& (y2_2 - (nI 1))) hF ls (lv_sub hl [1, 0] rfl)
  exact hL_4 zK (nI 0) x0 hF ls (lv_sub hl [1, 0] rfl)

abbrev rX5_feed : Room := { frames := 1, cells := 0, slots := 0, locals := 22 }
abbrev wX5_feed (cB cI cJ cO : ClassId) (h0 h_tape : Nat) (g_row g_fresh g_kept g_tried g_isKept g_viewed g_sort g_begins g_tokenEnds g_word g_value g_good g_growing g_rows g_must g_rowMany g_sorts g_sizes g_sheets g_holds g_heldNumber g_heldSize g_kind g_number g_ownHand g_traced g_bodies g_isParted : Value) (v_tapeMany : Int32) (v_tape : Nat → Int32) : va_W := [(h0, .inr (5, [g_row, g_fresh, g_kept, g_tried, g_isKept, g_viewed, .ref h_tape, .int v_tapeMany, g_sort, g_begins, g_tokenEnds, g_word, g_value, g_good, g_growing, g_rows, g_must, g_rowMany, g_sorts, g_sizes, g_sheets, g_holds, g_heldNumber, g_heldSize, g_kind, g_number, g_ownHand, g_traced, g_bodies, g_isParted])), (h_tape, .inl (cI, 200, .inl v_tape))]
theorem nX5_feed_X5 : ∀ w ∈ wsX50, w ∈ wsX5_feed := by decide +kernel
theorem kX5_feed_0 : Cond.fieldLink RX5 64 "PaintedWallsModel" "tapeMany" "I" ∈ wsX5_feed := by decide +kernel
theorem kX5_feed_1 : Cond.fieldLink RX5 22 "PaintedWallsModel" "tape" "[I" ∈ wsX5_feed := by decide +kernel
theorem kX5_feed_2 : Cond.constantLong RX5 68 (lN 255) ∈ wsX5_feed := by decide +kernel
set_option maxHeartbeats 4000000 in
set_option maxRecDepth 100000 in
theorem tX5_feed {l : Launch} {D : va_G} {cB cI cJ cO : ClassId} (h0 h_tape : Nat) (g_row g_fresh g_kept g_tried g_isKept g_viewed g_sort g_begins g_tokenEnds g_word g_value g_good g_growing g_rows g_must g_rowMany g_sorts g_sizes g_sheets g_holds g_heldNumber g_heldSize g_kind g_number g_ownHand g_traced g_bodies g_isParted : Value) (v_tapeMany : Int32) (v_tape : Nat → Int32) (x1 : Int64) (x3 : Int32) (r : Int32 × Int32 × (Nat → Int32)) (hF : fX5_feed v_tapeMany v_tape x1 x3 = some r) : Met l yX5_feed wsX5_feed rX5_feed (zPre D cB cI cJ cO [.ref h0, .long x1, .int x3] (wX5_feed cB cI cJ cO h0 h_tape g_row g_fresh g_kept g_tried g_isKept g_viewed g_sort g_begins g_tokenEnds g_word g_value g_good g_growing g_rows g_must g_rowMany g_sorts g_sizes g_sheets g_holds g_heldNumber g_heldSize g_kind g_number g_ownHand g_traced g_bodies g_isParted v_tapeMany v_tape)) (zPM (some (.int r.1)) D (wX5_feed cB cI cJ cO h0 h_tape g_row g_fresh g_kept g_tried g_isKept g_viewed g_sort g_begins g_tokenEnds g_word g_value g_good g_growing g_rows g_must g_rowMany g_sorts g_sizes g_sheets g_holds g_heldNumber g_heldSize g_kind g_number g_ownHand g_traced g_bodies g_isParted r.2.1 r.2.2) (zAs [h0, h_tape])) 0 0 (zAs [h0, h_tape]) := by
  refine zMetM (cc := cX5_feed) (maxL := 5) (ret := (some .int)) (lv := [(0, .ref h0), (1, .long x1), (3, .int x3)]) rfl (by decide) rfl (Nat.le_of_ble_eq_true rfl) rfl ?_
  intro p e s m args below meth c ls Q H locs hQ hx hb hr hml hown hts hlocks hname hP hE hD hS hl
  have hown : s.vm.findClass RX5 = some m.cls := hown
  have hK := hE.1
  unfold fX5_feed at hF
  refine lv_iload_n (pc := 0) hx hb dX5_feed_0 rfl (lv_at hl 2 rfl) ?_
  refine lv_iconst (pc := 1) (v := (nI 1)) hx hb dX5_feed_1 (by decide) ?_
  refine lv_bipush (pc := 2) (v := (nI 8)) hx hb dX5_feed_2 (by decide) ?_
  obtain ⟨u4, hu4, hF⟩ := z_bind hF
  refine zq_call (oc0 := (some (.int u4))) (va_runS (As := [.int x3, .int (nI 1), .int (nI 8)]) (rest := []) ⟨hx, hb, hml, hown, hts⟩ (tX5_in (l := l) (D := D) (cB := cB) (cI := cI) (cJ := cJ) (cO := cO) x3 (nI 1) (nI 8) u4 hu4) (va_cwS 3 hts gX5_feed_X5_in rfl rfl rfl (by decide +kernel) ⟨Nat.le_of_ble_eq_true rfl, Nat.le_of_ble_eq_true rfl⟩) ⟨zPre_blind, zPre_at hP hE (zD_re hD rfl) [] rfl rfl⟩ rfl rfl hl.1 rfl (lv_room (Nat.le_of_ble_eq_true rfl)) dX5_feed_4 ⟨Nat.zero_le _, Nat.zero_le _⟩) ?_
  refine W.eq (g2 := F0 m 7 ls [.int u4]) rfl ?_
  refine zb_if_ne (pc := 7) (tgt := 12) hx hb dX5_feed_7 (by decide) hF (fun c_7 hF => ?_) (fun c_7 hF => ?_)
  · refine lv_aload_n (pc := 12) hx hb dX5_feed_12 rfl (lv_at hl 0 rfl) ?_
    refine va_get (D := D) (pc := 13) (ci := 5) (v := .int v_tapeMany) (C := RX5) (T := TX5) (N := 30) hx hb hts nX5_feed_X5 hown hK hP 0 rfl rfl 7 (by decide) (hts _ kX5_feed_0) (fun _ h9 => h9) rfl dX5_feed_13 ?_
    refine lv_iload_n (pc := 16) hx hb dX5_feed_16 rfl (lv_at hl 2 rfl) ?_
    refine lv_iadd (pc := 17) hx hb dX5_feed_17 ?_
    refine lv_sipush (pc := 18) (v := (nI 200)) hx hb dX5_feed_18 (by decide) ?_
    refine zb_icmp_le (pc := 21) (tgt := 27) hx hb dX5_feed_21 (by decide) hF (fun c_21 hF => ?_) (fun c_21 hF => ?_)
    · refine lv_iconst (pc := 27) (v := (nI 0)) hx hb dX5_feed_27 (by decide) ?_
      refine lv_istore (pc := 28) (lv' := [(4, .int (nI 0)), (0, .ref h0), (1, .long x1), (3, .int x3)]) hx hb dX5_feed_28 hl (by decide) rfl (fun ls hl => ?_)
      obtain ⟨k_6, hk_6, hF⟩ := z_J hF
      have kk_6 : ∀ (v_tapeMany_4 : Int32) (v_tape_5 : Nat → Int32) , k_6 v_tapeMany_4 v_tape_5 = some r → ∀ (H : Heap) (locs : List Loc), va_P D vwCl (wX5_feed cB cI cJ cO h0 h_tape g_row g_fresh g_kept g_tried g_isKept g_viewed g_sort g_begins g_tokenEnds g_word g_value g_good g_growing g_rows g_must g_rowMany g_sorts g_sizes g_sheets g_holds g_heldNumber g_heldSize g_kind g_number g_ownHand g_traced g_bodies g_isParted v_tapeMany_4 v_tape_5) H → va_S (zAs [h0, h_tape]) s.heap H locs → ∀ (ls : Array Slot), lv_has ls 5 [(0, .ref h0)] → W p l e rX5_feed s m args below meth c H locs 0 0 Q (F0 m 73 ls []) := by
        intro v_tapeMany_4 v_tape_5 hF H locs hP hS ls hl
        rw [hk_6] at hF
        refine lv_aload_n (pc := 73) hx hb dX5_feed_73 rfl (lv_at hl 0 rfl) ?_
        refine va_get (D := D) (pc := 74) (ci := 5) (v := .int v_tapeMany_4) (C := RX5) (T := TX5) (N := 30) hx hb hts nX5_feed_X5 hown hK hP 0 rfl rfl 7 (by decide) (hts _ kX5_feed_0) (fun _ h9 => h9) rfl dX5_feed_74 ?_
        exact z_iretM (pc := 77) (fun q => q.1) (fun q => (wX5_feed cB cI cJ cO h0 h_tape g_row g_fresh g_kept g_tried g_isKept g_viewed g_sort g_begins g_tokenEnds g_word g_value g_good g_growing g_rows g_must g_rowMany g_sorts g_sizes g_sheets g_holds g_heldNumber g_heldSize g_kind g_number g_ownHand g_traced g_bodies g_isParted q.2.1 q.2.2)) hx hb hr hlocks hP hS hF rfl hQ dX5_feed_77
      have hL_30 : ∀ (n : Nat) (y4_1 : Int32) (v_tapeMany_2 : Int32) (v_tape_3 : Nat → Int32) , fX5_feed_L30 x1 x3 k_6 n y4_1 v_tapeMany_2 v_tape_3 = some r → ∀ (H : Heap) (locs : List Loc), va_P D vwCl (wX5_feed cB cI cJ cO h0 h_tape g_row g_fresh g_kept g_tried g_isKept g_viewed g_sort g_begins g_tokenEnds g_word g_value g_good g_growing g_rows g_must g_rowMany g_sorts g_sizes g_sheets g_holds g_heldNumber g_heldSize g_kind g_number g_ownHand g_traced g_bodies g_isParted v_tapeMany_2 v_tape_3) H → va_S (zAs [h0, h_tape]) s.heap H locs → ∀ (ls : Array Slot), lv_has ls 5 [(0, .ref h0), (1, .long x1), (3, .int x3), (4, .int y4_1)] → W p l e rX5_feed s m args below meth c H locs 0 0 Q (F0 m 30 ls []) := by
        intro n
        induction n with
        | zero =>
          intro y4_1 v_tapeMany_2 v_tape_3 hF H locs hP hS ls hl
          exact z_no hF
        | succ n ih =>
          intro y4_1 v_tapeMany_2 v_tape_3 hF H locs hP hS ls hl
          rw [fX5_feed_L30] at hF
          refine lv_iload (pc := 30) hx hb dX5_feed_30 (lv_at hl 3 rfl) ?_
          refine lv_iload_n (pc := 32) hx hb dX5_feed_32 rfl (lv_at hl 2 rfl) ?_
          refine zb_icmp_ge (pc := 33) (tgt := 73) hx hb dX5_feed_33 (by decide) hF (fun c_33 hF => ?_) (fun c_33 hF => ?_)
          · exact kk_6 v_tapeMany_2 v_tape_3 hF H locs hP hS ls (lv_sub hl [0] rfl)
          · refine lv_aload_n (pc := 36) hx hb dX5_feed_36 rfl (lv_at hl 0 rfl) ?_
            refine va_get (D := D) (pc := 37) (ci := 5) (v := .ref h_tape) (C := RX5) (T := TX5) (N := 30) hx hb hts nX5_feed_X5 hown hK hP 0 rfl rfl 6 (by decide) (hts _ kX5_feed_1) (fun _ h9 => h9) rfl dX5_feed_37 ?_
            refine lv_aload_n (pc := 40) hx hb dX5_feed_40 rfl (lv_at hl 0 rfl) ?_
            refine va_get (D := D) (pc := 41) (ci := 5) (v := .int v_tapeMany_2) (C := RX5) (T := TX5) (N := 30) hx hb hts nX5_feed_X5 hown hK hP 0 rfl rfl 7 (by decide) (hts _ kX5_feed_0) (fun _ h9 => h9) rfl dX5_feed_41 ?_
            refine lv_lload_n (pc := 44) hx hb dX5_feed_44 rfl (lv_at hl 1 rfl) ?_
            refine lv_bipush (pc := 45) (v := (nI 8)) hx hb dX5_feed_45 (by decide) ?_
            refine lv_iload (pc := 47) hx hb dX5_feed_47 (lv_at hl 3 rfl) ?_
            refine lv_imul (pc := 49) hx hb dX5_feed_49 ?_
            refine lv_lshr (pc := 50) (v := (x1 >>> (((nI 8) * y4_1).toInt64 &&& 63))) hx hb dX5_feed_50 rfl ?_
            refine lv_ldc2 (pc := 51) hx hb hown (hts _ kX5_feed_2) dX5_feed_51 ?_
            refine lv_land (pc := 54) hx hb dX5_feed_54 ?_
            refine lv_l2i (pc := 55) (v := ((x1 >>> (((nI 8) * y4_1).toInt64 &&& 63)) &&& (lN 255)).toInt32) hx hb dX5_feed_55 rfl ?_
            refine za_iast (pc := 56) hx hb hK hP (zD_re hD rfl) hS 1 1 rfl rfl dX5_feed_56 hF (fun hF H locs hP hS => ?_)
            have hP : va_P D vwCl (wX5_feed cB cI cJ cO h0 h_tape g_row g_fresh g_kept g_tried g_isKept g_viewed g_sort g_begins g_tokenEnds g_word g_value g_good g_growing g_rows g_must g_rowMany g_sorts g_sizes g_sheets g_holds g_heldNumber g_heldSize g_kind g_number g_ownHand g_traced g_bodies g_isParted v_tapeMany_2 (upd v_tape_3 v_tapeMany_2.toNatClampNeg (((x1 >>> (((nI 8) * y4_1).toInt64 &&& 63)) &&& (lN 255)).toInt32))) H := hP
            refine lv_aload_n (pc := 57) hx hb dX5_feed_57 rfl (lv_at hl 0 rfl) ?_
            refine lv_dup (pc := 58) hx hb dX5_feed_58 rfl ?_
            refine va_get (D := D) (pc := 59) (ci := 5) (v := .int v_tapeMany_2) (C := RX5) (T := TX5) (N := 30) hx hb hts nX5_feed_X5 hown hK hP 0 rfl rfl 7 (by decide) (hts _ kX5_feed_0) (fun _ h9 => h9) rfl dX5_feed_59 ?_
            refine lv_iconst (pc := 62) (v := (nI 1)) hx hb dX5_feed_62 (by decide) ?_
            refine lv_iadd (pc := 63) hx hb dX5_feed_63 ?_
            refine va_put (D := D) (pc := 64) (ci := 5) (v := .int (v_tapeMany_2 + (nI 1))) (ty := .int) (C := RX5) (T := TX5) (N := 30) hx hb hts nX5_feed_X5 tyX5 tyX5_ok nmX5 hown hK hP (zD_re hD rfl) hS 0 rfl rfl 7 (by decide) (hts _ kX5_feed_0) (fun _ h9 => h9) rfl (tyX5_ok 7 (by decide)) rfl rfl (Nat.le_of_ble_eq_true rfl) dX5_feed_64 (fun H locs hP _ hS => ?_)
            have hP : va_P D vwCl (wX5_feed cB cI cJ cO h0 h_tape g_row g_fresh g_kept g_tried g_isKept g_viewed g_sort g_begins g_tokenEnds g_word g_value g_good g_growing g_rows g_must g_rowMany g_sorts g_sizes g_sheets g_holds g_heldNumber g_heldSize g_kind g_number g_ownHand g_traced g_bodies g_isParted (v_tapeMany_2 + (nI 1)) (upd v_tape_3 v_tapeMany_2.toNatClampNeg (((x1 >>> (((nI 8) * y4_1).toInt64 &&& 63)) &&& (lN 255)).toInt32))) H := hP
            refine lv_iinc (pc := 67) (v := (y4_1 + 1)) (lv' := [(4, .int (y4_1 + 1)), (0, .ref h0), (1, .long x1), (3, .int x3)]) hx hb dX5_feed_67 hl (k := 3) rfl rfl (by decide) rfl (fun ls hl => ?_)
            refine lv_goto (pc := 70) (tgt := 30) hx hb dX5_feed_70 (by decide) ?_
            exact ih (y4_1 + 1) (v_tapeMany_2 + (nI 1)) (upd v_tape_3 v_tapeMany_2.toNatClampNeg (((x1 >>> (((nI 8) * y4_1).toInt64 &&& 63)) &&& (lN 255)).toInt32)) hF H locs hP hS ls (lv_sub hl [1, 2, 3, 0] rfl)
      exact hL_30 zK (nI 0) v_tapeMany v_tape hF H locs hP hS ls (lv_sub hl [1, 2, 3, 0] rfl)
    · refine lv_bipush (pc := 24) (v := (-2 : Int32)) hx hb dX5_feed_24 (by decide) ?_
      exact z_iretM (pc := 26) (fun q => q.1) (fun q => (wX5_feed cB cI cJ cO h0 h_tape g_row g_fresh g_kept g_tried g_isKept g_viewed g_sort g_begins g_tokenEnds g_word g_value g_good g_growing g_rows g_must g_rowMany g_sorts g_sizes g_sheets g_holds g_heldNumber g_heldSize g_kind g_number g_ownHand g_traced g_bodies g_isParted q.2.1 q.2.2)) hx hb hr hlocks hP hS hF rfl hQ dX5_feed_26
  · refine lv_iconst (pc := 10) (v := (-1 : Int32)) hx hb dX5_feed_10 (by decide) ?_
    exact z_iretM (pc := 11) (fun q => q.1) (fun q => (wX5_feed cB cI cJ cO h0 h_tape g_row g_fresh g_kept g_tried g_isKept g_viewed g_sort g_begins g_tokenEnds g_word g_value g_good g_growing g_rows g_must g_rowMany g_sorts g_sizes g_sheets g_holds g_heldNumber g_heldSize g_kind g_number g_ownHand g_traced g_bodies g_isParted q.2.1 q.2.2)) hx hb hr hlocks hP hS hF rfl hQ dX5_feed_11

abbrev rX5_byteAt : Room := { frames := 0, cells := 0, slots := 0, locals := 0 }
abbrev wX5_byteAt (cB cI cJ cO : ClassId) (h0 h_tape : Nat) (g_row g_fresh g_kept g_tried g_isKept g_viewed g_sort g_begins g_tokenEnds g_word g_value g_good g_growing g_rows g_must g_rowMany g_sorts g_sizes g_sheets g_holds g_heldNumber g_heldSize g_kind g_number g_ownHand g_traced g_bodies g_isParted : Value) (v_tapeMany : Int32) (v_tape : Nat → Int32) : va_W := [(h0, .inr (5, [g_row, g_fresh, g_kept, g_tried, g_isKept, g_viewed, .ref h_tape, .int v_tapeMany, g_sort, g_begins, g_tokenEnds, g_word, g_value, g_good, g_growing, g_rows, g_must, g_rowMany, g_sorts, g_sizes, g_sheets, g_holds, g_heldNumber, g_heldSize, g_kind, g_number, g_ownHand, g_traced, g_bodies, g_isParted])), (h_tape, .inl (cI, 200, .inl v_tape))]
theorem nX5_byteAt_X5 : ∀ w ∈ wsX50, w ∈ wsX5_byteAt := by decide +kernel
theorem kX5_byteAt_0 : Cond.fieldLink RX5 64 "PaintedWallsModel" "tapeMany" "I" ∈ wsX5_byteAt := by decide +kernel
theorem kX5_byteAt_1 : Cond.fieldLink RX5 22 "PaintedWallsModel" "tape" "[I" ∈ wsX5_byteAt := by decide +kernel
set_option maxHeartbeats 4000000 in
set_option maxRecDepth 100000 in
theorem tX5_byteAt {l : Launch} {D : va_G} {cB cI cJ cO : ClassId} (h0 h_tape : Nat) (g_row g_fresh g_kept g_tried g_isKept g_viewed g_sort g_begins g_tokenEnds g_word g_value g_good g_growing g_rows g_must g_rowMany g_sorts g_sizes g_sheets g_holds g_heldNumber g_heldSize g_kind g_number g_ownHand g_traced g_bodies g_isParted : Value) (v_tapeMany : Int32) (v_tape : Nat → Int32) (x1 : Int32) (r : Int32) (hF : fX5_byteAt v_tapeMany v_tape x1 = some r) : Met l yX5_byteAt wsX5_byteAt rX5_byteAt (zPre D cB cI cJ cO [.ref h0, .int x1] (wX5_byteAt cB cI cJ cO h0 h_tape g_row g_fresh g_kept g_tried g_isKept g_viewed g_sort g_begins g_tokenEnds g_word g_value g_good g_growing g_rows g_must g_rowMany g_sorts g_sizes g_sheets g_holds g_heldNumber g_heldSize g_kind g_number g_ownHand g_traced g_bodies g_isParted v_tapeMany v_tape)) (zPI (some (.int r))) 0 0 (fun _ => False) := by
  refine zMetP (cc := cX5_byteAt) (maxL := 2) (ret := (some .int)) (lv := [(0, .ref h0), (1, .int x1)]) (by decide) rfl (Nat.le_of_ble_eq_true rfl) rfl ?_
  intro p e s m args below meth c ls Q hQ hx hb hr hml hown hts hlocks hname hP hE hD hl
  have hown : s.vm.findClass RX5 = some m.cls := hown
  have hK := hE.1
  unfold fX5_byteAt at hF
  refine lv_iload_n (pc := 0) hx hb dX5_byteAt_0 rfl (lv_at hl 1 rfl) ?_
  refine lv_aload_n (pc := 1) hx hb dX5_byteAt_1 rfl (lv_at hl 0 rfl) ?_
  refine va_get (D := D) (pc := 2) (ci := 5) (v := .int v_tapeMany) (C := RX5) (T := TX5) (N := 30) hx hb hts nX5_byteAt_X5 hown hK hP 0 rfl rfl 7 (by decide) (hts _ kX5_byteAt_0) (fun _ h9 => h9) rfl dX5_byteAt_2 ?_
  refine zb_icmp_ge (pc := 5) (tgt := 17) hx hb dX5_byteAt_5 (by decide) hF (fun c_5 hF => ?_) (fun c_5 hF => ?_)
  · refine lv_iconst (pc := 17) (v := (-1 : Int32)) hx hb dX5_byteAt_17 (by decide) ?_
    exact z_iret (pc := 18) (fun q => q) hx hb hr hlocks hF rfl hQ dX5_byteAt_18
  · refine lv_aload_n (pc := 8) hx hb dX5_byteAt_8 rfl (lv_at hl 0 rfl) ?_
    refine va_get (D := D) (pc := 9) (ci := 5) (v := .ref h_tape) (C := RX5) (T := TX5) (N := 30) hx hb hts nX5_byteAt_X5 hown hK hP 0 rfl rfl 6 (by decide) (hts _ kX5_byteAt_1) (fun _ h9 => h9) rfl dX5_byteAt_9 ?_
    refine lv_iload_n (pc := 12) hx hb dX5_byteAt_12 rfl (lv_at hl 1 rfl) ?_
    refine za_iald (pc := 13) hx hb hK hP 1 1 rfl rfl dX5_byteAt_13 hF (fun hF => ?_)
    refine lv_goto (pc := 14) (tgt := 18) hx hb dX5_byteAt_14 (by decide) ?_
    exact z_iret (pc := 18) (fun q => q) hx hb hr hlocks hF rfl hQ dX5_byteAt_18

abbrev rX5_isLetter : Room := { frames := 1, cells := 0, slots := 0, locals := 22 }
set_option maxHeartbeats 4000000 in
set_option maxRecDepth 100000 in
theorem tX5_isLetter {l : Launch} {D : va_G} {cB cI cJ cO : ClassId} (x0 : Int32) (r : Int32) (hF : fX5_isLetter x0 = some r) : Met l yX5_isLetter wsX5_isLetter rX5_isLetter (zPre D cB cI cJ cO [.int x0] ([] : va_W)) (zPI (some (.int r))) 0 0 (fun _ => False) := by
  refine zMetP (cc := cX5_isLetter) (maxL := 1) (ret := (some .boolean)) (lv := [(0, .int x0)]) (by decide) rfl (Nat.le_of_ble_eq_true rfl) rfl ?_
  intro p e s m args below meth c ls Q hQ hx hb hr hml hown hts hlocks hname hP hE hD hl
  have hown : s.vm.findClass RX5 = some m.cls := hown
  have hK := hE.1
  unfold fX5_isLetter at hF
  refine lv_iload_n (pc := 0) hx hb dX5_isLetter_0 rfl (lv_at hl 0 rfl) ?_
  refine lv_bipush (pc := 1) (v := (nI 97)) hx hb dX5_isLetter_1 (by decide) ?_
  refine lv_bipush (pc := 3) (v := (nI 122)) hx hb dX5_isLetter_3 (by decide) ?_
  obtain ⟨u5, hu5, hF⟩ := z_bind hF
  refine zq_call (oc0 := (some (.int u5))) (va_runS (As := [.int x0, .int (nI 97), .int (nI 122)]) (rest := []) ⟨hx, hb, hml, hown, hts⟩ (tX5_in (l := l) (D := D) (cB := cB) (cI := cI) (cJ := cJ) (cO := cO) x0 (nI 97) (nI 122) u5 hu5) (va_cwS 3 hts gX5_isLetter_X5_in rfl rfl rfl (by decide +kernel) ⟨Nat.le_of_ble_eq_true rfl, Nat.le_of_ble_eq_true rfl⟩) ⟨zPre_blind, zPre_at hP hE hD [] rfl rfl⟩ rfl rfl hl.1 rfl (lv_room (Nat.le_of_ble_eq_true rfl)) dX5_isLetter_5 ⟨Nat.zero_le _, Nat.zero_le _⟩) ?_
  refine W.eq (g2 := F0 m 8 ls [.int u5]) rfl ?_
  obtain ⟨hz, hF⟩ := z_h _ hF
  exact z_zret (pc := 8) (fun q => q) hx hb hr hlocks hz hF rfl hQ dX5_isLetter_8

abbrev rX5_isDigit : Room := { frames := 1, cells := 0, slots := 0, locals := 22 }
set_option maxHeartbeats 4000000 in
set_option maxRecDepth 100000 in
theorem tX5_isDigit {l : Launch} {D : va_G} {cB cI cJ cO : ClassId} (x0 : Int32) (r : Int32) (hF : fX5_isDigit x0 = some r) : Met l yX5_isDigit wsX5_isDigit rX5_isDigit (zPre D cB cI cJ cO [.int x0] ([] : va_W)) (zPI (some (.int r))) 0 0 (fun _ => False) := by
  refine zMetP (cc := cX5_isDigit) (maxL := 1) (ret := (some .boolean)) (lv := [(0, .int x0)]) (by decide) rfl (Nat.le_of_ble_eq_true rfl) rfl ?_
  intro p e s m args below meth c ls Q hQ hx hb hr hml hown hts hlocks hname hP hE hD hl
  have hown : s.vm.findClass RX5 = some m.cls := hown
  have hK := hE.1
  unfold fX5_isDigit at hF
  refine lv_iload_n (pc := 0) hx hb dX5_isDigit_0 rfl (lv_at hl 0 rfl) ?_
  refine lv_bipush (pc := 1) (v := (nI 48)) hx hb dX5_isDigit_1 (by decide) ?_
  refine lv_bipush (pc := 3) (v := (nI 57)) hx hb dX5_isDigit_3 (by decide) ?_
  obtain ⟨u5, hu5, hF⟩ := z_bind hF
  refine zq_call (oc0 := (some (.int u5))) (va_runS (As := [.int x0, .int (nI 48), .int (nI 57)]) (rest := []) ⟨hx, hb, hml, hown, hts⟩ (tX5_in (l := l) (D := D) (cB := cB) (cI := cI) (cJ := cJ) (cO := cO) x0 (nI 48) (nI 57) u5 hu5) (va_cwS 3 hts gX5_isDigit_X5_in rfl rfl rfl (by decide +kernel) ⟨Nat.le_of_ble_eq_true rfl, Nat.le_of_ble_eq_true rfl⟩) ⟨zPre_blind, zPre_at hP hE hD [] rfl rfl⟩ rfl rfl hl.1 rfl (lv_room (Nat.le_of_ble_eq_true rfl)) dX5_isDigit_5 ⟨Nat.zero_le _, Nat.zero_le _⟩) ?_
  refine W.eq (g2 := F0 m 8 ls [.int u5]) rfl ?_
  obtain ⟨hz, hF⟩ := z_h _ hF
  exact z_zret (pc := 8) (fun q => q) hx hb hr hlocks hz hF rfl hQ dX5_isDigit_8

abbrev rX5_advance : Room := { frames := 2, cells := 0, slots := 0, locals := 42 }
abbrev wX5_advance (cB cI cJ cO : ClassId) (h0 h_tape : Nat) (g_row g_fresh g_kept g_tried g_isKept g_viewed g_good g_growing g_rows g_must g_rowMany g_sorts g_sizes g_sheets g_holds g_heldNumber g_heldSize g_kind g_number g_ownHand g_traced g_bodies g_isParted : Value) (v_tapeMany : Int32) (v_sort : Int32) (v_begins : Int32) (v_tokenEnds : Int32) (v_word : Int64) (v_value : Int32) (v_tape : Nat → Int32) : va_W := [(h0, .inr (5, [g_row, g_fresh, g_kept, g_tried, g_isKept, g_viewed, .ref h_tape, .int v_tapeMany, .int v_sort, .int v_begins, .int v_tokenEnds, .long v_word, .int v_value, g_good, g_growing, g_rows, g_must, g_rowMany, g_sorts, g_sizes, g_sheets, g_holds, g_heldNumber, g_heldSize, g_kind, g_number, g_ownHand, g_traced, g_bodies, g_isParted])), (h_tape, .inl (cI, 200, .inl v_tape))]
theorem nX5_advance_X5 : ∀ w ∈ wsX50, w ∈ wsX5_advance := by decide +kernel
theorem kX5_advance_0 : Cond.fieldLink RX5 70 "PaintedWallsModel" "tokenEnds" "I" ∈ wsX5_advance := by decide +kernel
theorem kX5_advance_1 : Cond.fieldLink RX5 73 "PaintedWallsModel" "begins" "I" ∈ wsX5_advance := by decide +kernel
theorem kX5_advance_2 : Cond.fieldLink RX5 86 "PaintedWallsModel" "sort" "I" ∈ wsX5_advance := by decide +kernel
theorem kX5_advance_3 : Cond.fieldLink RX5 89 "PaintedWallsModel" "word" "J" ∈ wsX5_advance := by decide +kernel
theorem kX5_advance_4 : Cond.fieldLink RX5 93 "PaintedWallsModel" "value" "I" ∈ wsX5_advance := by decide +kernel
theorem kX5_advance_5 : Cond.constantLong RX5 100 (-1 : Int64) ∈ wsX5_advance := by decide +kernel
theorem kX5_advance_6 : Cond.constantLong RX5 96 (lN 27) ∈ wsX5_advance := by decide +kernel
theorem kX5_advance_7 : Cond.constantLong RX5 98 (lN 96) ∈ wsX5_advance := by decide +kernel
set_option maxHeartbeats 4000000 in
set_option maxRecDepth 100000 in
theorem tX5_advance {l : Launch} {D : va_G} {cB cI cJ cO : ClassId} (h0 h_tape : Nat) (g_row g_fresh g_kept g_tried g_isKept g_viewed g_good g_growing g_rows g_must g_rowMany g_sorts g_sizes g_sheets g_holds g_heldNumber g_heldSize g_kind g_number g_ownHand g_traced g_bodies g_isParted : Value) (v_tapeMany : Int32) (v_sort : Int32) (v_begins : Int32) (v_tokenEnds : Int32) (v_word : Int64) (v_value : Int32) (v_tape : Nat → Int32) (r : Int32 × Int32 × Int32 × Int64 × Int32) (hF : fX5_advance v_tapeMany v_sort v_begins v_tokenEnds v_word v_value v_tape = some r) : Met l yX5_advance wsX5_advance rX5_advance (zPre D cB cI cJ cO [.ref h0] (wX5_advance cB cI cJ cO h0 h_tape g_row g_fresh g_kept g_tried g_isKept g_viewed g_good g_growing g_rows g_must g_rowMany g_sorts g_sizes g_sheets g_holds g_heldNumber g_heldSize g_kind g_number g_ownHand g_traced g_bodies g_isParted v_tapeMany v_sort v_begins v_tokenEnds v_word v_value v_tape)) (zPM none D (wX5_advance cB cI cJ cO h0 h_tape g_row g_fresh g_kept g_tried g_isKept g_viewed g_good g_growing g_rows g_must g_rowMany g_sorts g_sizes g_sheets g_holds g_heldNumber g_heldSize g_kind g_number g_ownHand g_traced g_bodies g_isParted v_tapeMany r.1 r.2.1 r.2.2.1 r.2.2.2.1 r.2.2.2.2 v_tape) (zAs [h0, h_tape])) 0 0 (zAs [h0, h_tape]) := by
  refine zMetM (cc := cX5_advance) (maxL := 2) (ret := none) (lv := [(0, .ref h0)]) rfl (by decide) rfl (Nat.le_of_ble_eq_true rfl) rfl ?_
  intro p e s m args below meth c ls Q H locs hQ hx hb hr hml hown hts hlocks hname hP hE hD hS hl
  have hown : s.vm.findClass RX5 = some m.cls := hown
  have hK := hE.1
  unfold fX5_advance at hF
  refine lv_aload_n (pc := 0) hx hb dX5_advance_0 rfl (lv_at hl 0 rfl) ?_
  refine lv_aload_n (pc := 1) hx hb dX5_advance_1 rfl (lv_at hl 0 rfl) ?_
  refine va_get (D := D) (pc := 2) (ci := 5) (v := .int v_tokenEnds) (C := RX5) (T := TX5) (N := 30) hx hb hts nX5_advance_X5 hown hK hP 0 rfl rfl 10 (by decide) (hts _ kX5_advance_0) (fun _ h9 => h9) rfl dX5_advance_2 ?_
  refine va_put (D := D) (pc := 5) (ci := 5) (v := .int v_tokenEnds) (ty := .int) (C := RX5) (T := TX5) (N := 30) hx hb hts nX5_advance_X5 tyX5 tyX5_ok nmX5 hown hK hP (zD_re hD rfl) hS 0 rfl rfl 9 (by decide) (hts _ kX5_advance_1) (fun _ h9 => h9) rfl (tyX5_ok 9 (by decide)) rfl rfl (Nat.le_of_ble_eq_true rfl) dX5_advance_5 (fun H locs hP _ hS => ?_)
  have hP : va_P D vwCl (wX5_advance cB cI cJ cO h0 h_tape g_row g_fresh g_kept g_tried g_isKept g_viewed g_good g_growing g_rows g_must g_rowMany g_sorts g_sizes g_sheets g_holds g_heldNumber g_heldSize g_kind g_number g_ownHand g_traced g_bodies g_isParted v_tapeMany v_sort v_tokenEnds v_tokenEnds v_word v_value v_tape) H := hP
  obtain ⟨k_3, hk_3, hF⟩ := z_J hF
  have kk_3 : ∀ (v_begins_2 : Int32) , k_3 v_begins_2 = some r → ∀ (H : Heap) (locs : List Loc), va_P D vwCl (wX5_advance cB cI cJ cO h0 h_tape g_row g_fresh g_kept g_tried g_isKept g_viewed g_good g_growing g_rows g_must g_rowMany g_sorts g_sizes g_sheets g_holds g_heldNumber g_heldSize g_kind g_number g_ownHand g_traced g_bodies g_isParted v_tapeMany v_sort v_begins_2 v_tokenEnds v_word v_value v_tape) H → va_S (zAs [h0, h_tape]) s.heap H locs → ∀ (ls : Array Slot), lv_has ls 2 [(0, .ref h0)] → W p l e rX5_advance s m args below meth c H locs 0 0 Q (F0 m 34 ls []) := by
    intro v_begins_2 hF H locs hP hS ls hl
    rw [hk_3] at hF
    refine lv_aload_n (pc := 34) hx hb dX5_advance_34 rfl (lv_at hl 0 rfl) ?_
    refine lv_aload_n (pc := 35) hx hb dX5_advance_35 rfl (lv_at hl 0 rfl) ?_
    refine va_get (D := D) (pc := 36) (ci := 5) (v := .int v_begins_2) (C := RX5) (T := TX5) (N := 30) hx hb hts nX5_advance_X5 hown hK hP 0 rfl rfl 9 (by decide) (hts _ kX5_advance_1) (fun _ h9 => h9) rfl dX5_advance_36 ?_
    refine va_put (D := D) (pc := 39) (ci := 5) (v := .int v_begins_2) (ty := .int) (C := RX5) (T := TX5) (N := 30) hx hb hts nX5_advance_X5 tyX5 tyX5_ok nmX5 hown hK hP (zD_re hD rfl) hS 0 rfl rfl 10 (by decide) (hts _ kX5_advance_0) (fun _ h9 => h9) rfl (tyX5_ok 10 (by decide)) rfl rfl (Nat.le_of_ble_eq_true rfl) dX5_advance_39 (fun H locs hP _ hS => ?_)
    have hP : va_P D vwCl (wX5_advance cB cI cJ cO h0 h_tape g_row g_fresh g_kept g_tried g_isKept g_viewed g_good g_growing g_rows g_must g_rowMany g_sorts g_sizes g_sheets g_holds g_heldNumber g_heldSize g_kind g_number g_ownHand g_traced g_bodies g_isParted v_tapeMany v_sort v_begins_2 v_begins_2 v_word v_value v_tape) H := hP
    refine lv_aload_n (pc := 42) hx hb dX5_advance_42 rfl (lv_at hl 0 rfl) ?_
    refine lv_aload_n (pc := 43) hx hb dX5_advance_43 rfl (lv_at hl 0 rfl) ?_
    refine va_get (D := D) (pc := 44) (ci := 5) (v := .int v_begins_2) (C := RX5) (T := TX5) (N := 30) hx hb hts nX5_advance_X5 hown hK hP 0 rfl rfl 9 (by decide) (hts _ kX5_advance_1) (fun _ h9 => h9) rfl dX5_advance_44 ?_
    obtain ⟨u47, hu47, hF⟩ := z_bind hF
    refine zq_call (oc0 := (some (.int u47))) (va_runV (As := [.int v_begins_2]) (rest := []) ⟨hx, hb, hml, hown, hts⟩ (tX5_byteAt (l := l) (D := D) (cB := cB) (cI := cI) (cJ := cJ) (cO := cO) h0 h_tape g_row g_fresh g_kept g_tried g_isKept g_viewed (.int v_sort) (.int v_begins_2) (.int v_begins_2) (.long v_word) (.int v_value) g_good g_growing g_rows g_must g_rowMany g_sorts g_sizes g_sheets g_holds g_heldNumber g_heldSize g_kind g_number g_ownHand g_traced g_bodies g_isParted v_tapeMany v_tape v_begins_2 u47 hu47) (cwV 1 hts gX5_advance_X5_byteAt rfl rfl rfl (by decide +kernel) ⟨Nat.le_of_ble_eq_true rfl, Nat.le_of_ble_eq_true rfl⟩) ⟨zPre_blind, va_recv hK hP (ci := 5) (q0 := 0) rfl rfl, zPre_at hP hE (zD_re hD rfl) [0, 1] rfl rfl⟩ rfl rfl hl.1 rfl (lv_room (Nat.le_of_ble_eq_true rfl)) dX5_advance_47 ⟨Nat.zero_le _, Nat.zero_le _⟩) ?_
    refine W.eq (g2 := F0 m 50 ls [.int u47]) rfl ?_
    refine lv_istore_n (pc := 50) (lv' := [(1, .int u47), (0, .ref h0)]) hx hb dX5_advance_50 rfl hl (by decide) rfl (fun ls hl => ?_)
    refine lv_aload_n (pc := 51) hx hb dX5_advance_51 rfl (lv_at hl 1 rfl) ?_
    refine lv_iload_n (pc := 52) hx hb dX5_advance_52 rfl (lv_at hl 0 rfl) ?_
    obtain ⟨J_5, hJ_5, hF⟩ := z_J hF
    have kJ_5 : ∀ (t1_4 : Int32) , J_5 t1_4 = some r → ∀ (H : Heap) (locs : List Loc), va_P D vwCl (wX5_advance cB cI cJ cO h0 h_tape g_row g_fresh g_kept g_tried g_isKept g_viewed g_good g_growing g_rows g_must g_rowMany g_sorts g_sizes g_sheets g_holds g_heldNumber g_heldSize g_kind g_number g_ownHand g_traced g_bodies g_isParted v_tapeMany v_sort v_begins_2 v_begins_2 v_word v_value v_tape) H → va_S (zAs [h0, h_tape]) s.heap H locs → ∀ (ls : Array Slot), lv_has ls 2 [(0, .ref h0), (1, .int u47)] → W p l e rX5_advance s m args below meth c H locs 0 0 Q (F0 m 83 ls [.int t1_4, .ref h0]) := by
      intro t1_4 hF H locs hP hS ls hl
      rw [hJ_5] at hF
      refine va_put (D := D) (pc := 83) (ci := 5) (v := .int t1_4) (ty := .int) (C := RX5) (T := TX5) (N := 30) hx hb hts nX5_advance_X5 tyX5 tyX5_ok nmX5 hown hK hP (zD_re hD rfl) hS 0 rfl rfl 8 (by decide) (hts _ kX5_advance_2) (fun _ h9 => h9) rfl (tyX5_ok 8 (by decide)) rfl rfl (Nat.le_of_ble_eq_true rfl) dX5_advance_83 (fun H locs hP _ hS => ?_)
      have hP : va_P D vwCl (wX5_advance cB cI cJ cO h0 h_tape g_row g_fresh g_kept g_tried g_isKept g_viewed g_good g_growing g_rows g_must g_rowMany g_sorts g_sizes g_sheets g_holds g_heldNumber g_heldSize g_kind g_number g_ownHand g_traced g_bodies g_isParted v_tapeMany t1_4 v_begins_2 v_begins_2 v_word v_value v_tape) H := hP
      refine lv_aload_n (pc := 86) hx hb dX5_advance_86 rfl (lv_at hl 0 rfl) ?_
      refine lv_lconst (pc := 87) (v := (lN 0)) hx hb dX5_advance_87 (by decide) ?_
      refine va_put (D := D) (pc := 88) (ci := 5) (v := .long (lN 0)) (ty := .long) (C := RX5) (T := TX5) (N := 30) hx hb hts nX5_advance_X5 tyX5 tyX5_ok nmX5 hown hK hP (zD_re hD rfl) hS 0 rfl rfl 11 (by decide) (hts _ kX5_advance_3) (fun _ h9 => h9) rfl (tyX5_ok 11 (by decide)) rfl rfl (Nat.le_of_ble_eq_true rfl) dX5_advance_88 (fun H locs hP _ hS => ?_)
      have hP : va_P D vwCl (wX5_advance cB cI cJ cO h0 h_tape g_row g_fresh g_kept g_tried g_isKept g_viewed g_good g_growing g_rows g_must g_rowMany g_sorts g_sizes g_sheets g_holds g_heldNumber g_heldSize g_kind g_number g_ownHand g_traced g_bodies g_isParted v_tapeMany t1_4 v_begins_2 v_begins_2 (lN 0) v_value v_tape) H := hP
      refine lv_aload_n (pc := 91) hx hb dX5_advance_91 rfl (lv_at hl 0 rfl) ?_
      refine lv_aload_n (pc := 92) hx hb dX5_advance_92 rfl (lv_at hl 0 rfl) ?_
      refine va_get (D := D) (pc := 93) (ci := 5) (v := .int t1_4) (C := RX5) (T := TX5) (N := 30) hx hb hts nX5_advance_X5 hown hK hP 0 rfl rfl 8 (by decide) (hts _ kX5_advance_2) (fun _ h9 => h9) rfl dX5_advance_93 ?_
      refine lv_iconst (pc := 96) (v := (nI 2)) hx hb dX5_advance_96 (by decide) ?_
      obtain ⟨J_7, hJ_7, hF⟩ := z_J hF
      have kJ_7 : ∀ (t1_6 : Int32) , J_7 t1_6 = some r → ∀ (H : Heap) (locs : List Loc), va_P D vwCl (wX5_advance cB cI cJ cO h0 h_tape g_row g_fresh g_kept g_tried g_isKept g_viewed g_good g_growing g_rows g_must g_rowMany g_sorts g_sizes g_sheets g_holds g_heldNumber g_heldSize g_kind g_number g_ownHand g_traced g_bodies g_isParted v_tapeMany t1_4 v_begins_2 v_begins_2 (lN 0) v_value v_tape) H → va_S (zAs [h0, h_tape]) s.heap H locs → ∀ (ls : Array Slot), lv_has ls 2 [(0, .ref h0)] → W p l e rX5_advance s m args below meth c H locs 0 0 Q (F0 m 105 ls [.int t1_6, .ref h0]) := by
        intro t1_6 hF H locs hP hS ls hl
        rw [hJ_7] at hF
        refine va_put (D := D) (pc := 105) (ci := 5) (v := .int t1_6) (ty := .int) (C := RX5) (T := TX5) (N := 30) hx hb hts nX5_advance_X5 tyX5 tyX5_ok nmX5 hown hK hP (zD_re hD rfl) hS 0 rfl rfl 12 (by decide) (hts _ kX5_advance_4) (fun _ h9 => h9) rfl (tyX5_ok 12 (by decide)) rfl rfl (Nat.le_of_ble_eq_true rfl) dX5_advance_105 (fun H locs hP _ hS => ?_)
        have hP : va_P D vwCl (wX5_advance cB cI cJ cO h0 h_tape g_row g_fresh g_kept g_tried g_isKept g_viewed g_good g_growing g_rows g_must g_rowMany g_sorts g_sizes g_sheets g_holds g_heldNumber g_heldSize g_kind g_number g_ownHand g_traced g_bodies g_isParted v_tapeMany t1_4 v_begins_2 v_begins_2 (lN 0) t1_6 v_tape) H := hP
        refine lv_aload_n (pc := 108) hx hb dX5_advance_108 rfl (lv_at hl 0 rfl) ?_
        refine va_get (D := D) (pc := 109) (ci := 5) (v := .int t1_4) (C := RX5) (T := TX5) (N := 30) hx hb hts nX5_advance_X5 hown hK hP 0 rfl rfl 8 (by decide) (hts _ kX5_advance_2) (fun _ h9 => h9) rfl dX5_advance_109 ?_
        refine lv_iconst (pc := 112) (v := (nI 3)) hx hb dX5_advance_112 (by decide) ?_
        obtain ⟨J_9, hJ_9, hF⟩ := z_J hF
        have kJ_9 : ∀ (v_tokenEnds_8 : Int32) , J_9 v_tokenEnds_8 = some r → ∀ (H : Heap) (locs : List Loc), va_P D vwCl (wX5_advance cB cI cJ cO h0 h_tape g_row g_fresh g_kept g_tried g_isKept g_viewed g_good g_growing g_rows g_must g_rowMany g_sorts g_sizes g_sheets g_holds g_heldNumber g_heldSize g_kind g_number g_ownHand g_traced g_bodies g_isParted v_tapeMany t1_4 v_begins_2 v_tokenEnds_8 (lN 0) t1_6 v_tape) H → va_S (zAs [h0, h_tape]) s.heap H locs → ∀ (ls : Array Slot), lv_has ls 2 [(0, .ref h0)] → W p l e rX5_advance s m args below meth c H locs 0 0 Q (F0 m 126 ls []) := by
          intro v_tokenEnds_8 hF H locs hP hS ls hl
          rw [hJ_9] at hF
          obtain ⟨k_14, hk_14, hF⟩ := z_J hF
          have kk_14 : ∀ (v_tokenEnds_12 : Int32) (v_word_13 : Int64) , k_14 v_tokenEnds_12 v_word_13 = some r → ∀ (H : Heap) (locs : List Loc), va_P D vwCl (wX5_advance cB cI cJ cO h0 h_tape g_row g_fresh g_kept g_tried g_isKept g_viewed g_good g_growing g_rows g_must g_rowMany g_sorts g_sizes g_sheets g_holds g_heldNumber g_heldSize g_kind g_number g_ownHand g_traced g_bodies g_isParted v_tapeMany t1_4 v_begins_2 v_tokenEnds_12 v_word_13 t1_6 v_tape) H → va_S (zAs [h0, h_tape]) s.heap H locs → ∀ (ls : Array Slot), lv_has ls 2 [(0, .ref h0)] → W p l e rX5_advance s m args below meth c H locs 0 0 Q (F0 m 207 ls []) := by
            intro v_tokenEnds_12 v_word_13 hF H locs hP hS ls hl
            rw [hk_14] at hF
            obtain ⟨k_19, hk_19, hF⟩ := z_J hF
            have kk_19 : ∀ (v_tokenEnds_17 : Int32) (v_value_18 : Int32) , k_19 v_tokenEnds_17 v_value_18 = some r → ∀ (H : Heap) (locs : List Loc), va_P D vwCl (wX5_advance cB cI cJ cO h0 h_tape g_row g_fresh g_kept g_tried g_isKept g_viewed g_good g_growing g_rows g_must g_rowMany g_sorts g_sizes g_sheets g_holds g_heldNumber g_heldSize g_kind g_number g_ownHand g_traced g_bodies g_isParted v_tapeMany t1_4 v_begins_2 v_tokenEnds_17 v_word_13 v_value_18 v_tape) H → va_S (zAs [h0, h_tape]) s.heap H locs → ∀ (ls : Array Slot), lv_has ls 2 [] → W p l e rX5_advance s m args below meth c H locs 0 0 Q (F0 m 282 ls []) := by
              intro v_tokenEnds_17 v_value_18 hF H locs hP hS ls hl
              rw [hk_19] at hF
              exact z_vretM (pc := 282) (fun q => (wX5_advance cB cI cJ cO h0 h_tape g_row g_fresh g_kept g_tried g_isKept g_viewed g_good g_growing g_rows g_must g_rowMany g_sorts g_sizes g_sheets g_holds g_heldNumber g_heldSize g_kind g_number g_ownHand g_traced g_bodies g_isParted v_tapeMany q.1 q.2.1 q.2.2.1 q.2.2.2.1 q.2.2.2.2 v_tape)) hx hb hr hlocks hP hS hF hQ dX5_advance_282
            have hL_207 : ∀ (n : Nat) (v_tokenEnds_15 : Int32) (v_value_16 : Int32) , fX5_advance_L207 v_tapeMany v_tape v_begins_2 t1_4 k_19 n v_tokenEnds_15 v_value_16 = some r → ∀ (H : Heap) (locs : List Loc), va_P D vwCl (wX5_advance cB cI cJ cO h0 h_tape g_row g_fresh g_kept g_tried g_isKept g_viewed g_good g_growing g_rows g_must g_rowMany g_sorts g_sizes g_sheets g_holds g_heldNumber g_heldSize g_kind g_number g_ownHand g_traced g_bodies g_isParted v_tapeMany t1_4 v_begins_2 v_tokenEnds_15 v_word_13 v_value_16 v_tape) H → va_S (zAs [h0, h_tape]) s.heap H locs → ∀ (ls : Array Slot), lv_has ls 2 [(0, .ref h0)] → W p l e rX5_advance s m args below meth c H locs 0 0 Q (F0 m 207 ls []) := by
              intro n
              induction n with
              | zero =>
                intro v_tokenEnds_15 v_value_16 hF H locs hP hS ls hl
                exact z_no hF
              | succ n ih =>
                intro v_tokenEnds_15 v_value_16 hF H locs hP hS ls hl
                rw [fX5_advance_L207] at hF
                refine lv_aload_n (pc := 207) hx hb dX5_advance_207 rfl (lv_at hl 0 rfl) ?_
                refine va_get (D := D) (pc := 208) (ci := 5) (v := .int t1_4) (C := RX5) (T := TX5) (N := 30) hx hb hts nX5_advance_X5 hown hK hP 0 rfl rfl 8 (by decide) (hts _ kX5_advance_2) (fun _ h9 => h9) rfl dX5_advance_208 ?_
                refine lv_iconst (pc := 211) (v := (nI 2)) hx hb dX5_advance_211 (by decide) ?_
                refine zb_icmp_ne (pc := 212) (tgt := 282) hx hb dX5_advance_212 (by decide) hF (fun c_212 hF => ?_) (fun c_212 hF => ?_)
                · exact kk_19 v_tokenEnds_15 v_value_16 hF H locs hP hS ls (lv_sub hl [] rfl)
                · refine lv_aload_n (pc := 215) hx hb dX5_advance_215 rfl (lv_at hl 0 rfl) ?_
                  refine lv_aload_n (pc := 216) hx hb dX5_advance_216 rfl (lv_at hl 0 rfl) ?_
                  refine va_get (D := D) (pc := 217) (ci := 5) (v := .int v_tokenEnds_15) (C := RX5) (T := TX5) (N := 30) hx hb hts nX5_advance_X5 hown hK hP 0 rfl rfl 10 (by decide) (hts _ kX5_advance_0) (fun _ h9 => h9) rfl dX5_advance_217 ?_
                  obtain ⟨u220, hu220, hF⟩ := z_bind hF
                  refine zq_call (oc0 := (some (.int u220))) (va_runV (As := [.int v_tokenEnds_15]) (rest := []) ⟨hx, hb, hml, hown, hts⟩ (tX5_byteAt (l := l) (D := D) (cB := cB) (cI := cI) (cJ := cJ) (cO := cO) h0 h_tape g_row g_fresh g_kept g_tried g_isKept g_viewed (.int t1_4) (.int v_begins_2) (.int v_tokenEnds_15) (.long v_word_13) (.int v_value_16) g_good g_growing g_rows g_must g_rowMany g_sorts g_sizes g_sheets g_holds g_heldNumber g_heldSize g_kind g_number g_ownHand g_traced g_bodies g_isParted v_tapeMany v_tape v_tokenEnds_15 u220 hu220) (cwV 1 hts gX5_advance_X5_byteAt rfl rfl rfl (by decide +kernel) ⟨Nat.le_of_ble_eq_true rfl, Nat.le_of_ble_eq_true rfl⟩) ⟨zPre_blind, va_recv hK hP (ci := 5) (q0 := 0) rfl rfl, zPre_at hP hE (zD_re hD rfl) [0, 1] rfl rfl⟩ rfl rfl hl.1 rfl (lv_room (Nat.le_of_ble_eq_true rfl)) dX5_advance_220 ⟨Nat.zero_le _, Nat.zero_le _⟩) ?_
                  refine W.eq (g2 := F0 m 223 ls [.int u220]) rfl ?_
                  obtain ⟨u223, hu223, hF⟩ := z_bind hF
                  refine zq_call (oc0 := (some (.int u223))) (va_runS (As := [.int u220]) (rest := []) ⟨hx, hb, hml, hown, hts⟩ (tX5_isDigit (l := l) (D := D) (cB := cB) (cI := cI) (cJ := cJ) (cO := cO) u220 u223 hu223) (va_cwS 1 hts gX5_advance_X5_isDigit rfl rfl rfl (by decide +kernel) ⟨Nat.le_of_ble_eq_true rfl, Nat.le_of_ble_eq_true rfl⟩) ⟨zPre_blind, zPre_at hP hE (zD_re hD rfl) [] rfl rfl⟩ rfl rfl hl.1 rfl (lv_room (Nat.le_of_ble_eq_true rfl)) dX5_advance_223 ⟨Nat.zero_le _, Nat.zero_le _⟩) ?_
                  refine W.eq (g2 := F0 m 226 ls [.int u223]) rfl ?_
                  refine zb_if_eq (pc := 226) (tgt := 282) hx hb dX5_advance_226 (by decide) hF (fun c_226 hF => ?_) (fun c_226 hF => ?_)
                  · exact kk_19 v_tokenEnds_15 v_value_16 hF H locs hP hS ls (lv_sub hl [] rfl)
                  · refine lv_aload_n (pc := 229) hx hb dX5_advance_229 rfl (lv_at hl 0 rfl) ?_
                    refine lv_aload_n (pc := 230) hx hb dX5_advance_230 rfl (lv_at hl 0 rfl) ?_
                    refine va_get (D := D) (pc := 231) (ci := 5) (v := .int v_tokenEnds_15) (C := RX5) (T := TX5) (N := 30) hx hb hts nX5_advance_X5 hown hK hP 0 rfl rfl 10 (by decide) (hts _ kX5_advance_0) (fun _ h9 => h9) rfl dX5_advance_231 ?_
                    refine lv_aload_n (pc := 234) hx hb dX5_advance_234 rfl (lv_at hl 0 rfl) ?_
                    refine va_get (D := D) (pc := 235) (ci := 5) (v := .int v_begins_2) (C := RX5) (T := TX5) (N := 30) hx hb hts nX5_advance_X5 hown hK hP 0 rfl rfl 9 (by decide) (hts _ kX5_advance_1) (fun _ h9 => h9) rfl dX5_advance_235 ?_
                    refine lv_isub (pc := 238) hx hb dX5_advance_238 ?_
                    refine lv_iconst (pc := 239) (v := (nI 3)) hx hb dX5_advance_239 (by decide) ?_
                    refine zb_icmp_ge (pc := 240) (tgt := 265) hx hb dX5_advance_240 (by decide) hF (fun c_240 hF => ?_) (fun c_240 hF => ?_)
                    · refine lv_iconst (pc := 265) (v := (-1 : Int32)) hx hb dX5_advance_265 (by decide) ?_
                      refine va_put (D := D) (pc := 266) (ci := 5) (v := .int (-1 : Int32)) (ty := .int) (C := RX5) (T := TX5) (N := 30) hx hb hts nX5_advance_X5 tyX5 tyX5_ok nmX5 hown hK hP (zD_re hD rfl) hS 0 rfl rfl 12 (by decide) (hts _ kX5_advance_4) (fun _ h9 => h9) rfl (tyX5_ok 12 (by decide)) rfl rfl (Nat.le_of_ble_eq_true rfl) dX5_advance_266 (fun H locs hP _ hS => ?_)
                      have hP : va_P D vwCl (wX5_advance cB cI cJ cO h0 h_tape g_row g_fresh g_kept g_tried g_isKept g_viewed g_good g_growing g_rows g_must g_rowMany g_sorts g_sizes g_sheets g_holds g_heldNumber g_heldSize g_kind g_number g_ownHand g_traced g_bodies g_isParted v_tapeMany t1_4 v_begins_2 v_tokenEnds_15 v_word_13 (-1 : Int32) v_tape) H := hP
                      refine lv_aload_n (pc := 269) hx hb dX5_advance_269 rfl (lv_at hl 0 rfl) ?_
                      refine lv_dup (pc := 270) hx hb dX5_advance_270 rfl ?_
                      refine va_get (D := D) (pc := 271) (ci := 5) (v := .int v_tokenEnds_15) (C := RX5) (T := TX5) (N := 30) hx hb hts nX5_advance_X5 hown hK hP 0 rfl rfl 10 (by decide) (hts _ kX5_advance_0) (fun _ h9 => h9) rfl dX5_advance_271 ?_
                      refine lv_iconst (pc := 274) (v := (nI 1)) hx hb dX5_advance_274 (by decide) ?_
                      refine lv_iadd (pc := 275) hx hb dX5_advance_275 ?_
                      refine va_put (D := D) (pc := 276) (ci := 5) (v := .int (v_tokenEnds_15 + (nI 1))) (ty := .int) (C := RX5) (T := TX5) (N := 30) hx hb hts nX5_advance_X5 tyX5 tyX5_ok nmX5 hown hK hP (zD_re hD rfl) hS 0 rfl rfl 10 (by decide) (hts _ kX5_advance_0) (fun _ h9 => h9) rfl (tyX5_ok 10 (by decide)) rfl rfl (Nat.le_of_ble_eq_true rfl) dX5_advance_276 (fun H locs hP _ hS => ?_)
                      have hP : va_P D vwCl (wX5_advance cB cI cJ cO h0 h_tape g_row g_fresh g_kept g_tried g_isKept g_viewed g_good g_growing g_rows g_must g_rowMany g_sorts g_sizes g_sheets g_holds g_heldNumber g_heldSize g_kind g_number g_ownHand g_traced g_bodies g_isParted v_tapeMany t1_4 v_begins_2 (v_tokenEnds_15 + (nI 1)) v_word_13 (-1 : Int32) v_tape) H := hP
                      refine lv_goto (pc := 279) (tgt := 207) hx hb dX5_advance_279 (by decide) ?_
                      exact ih (v_tokenEnds_15 + (nI 1)) (-1 : Int32) hF H locs hP hS ls (lv_sub hl [0] rfl)
                    · refine lv_bipush (pc := 243) (v := (nI 10)) hx hb dX5_advance_243 (by decide) ?_
                      refine lv_aload_n (pc := 245) hx hb dX5_advance_245 rfl (lv_at hl 0 rfl) ?_
                      refine va_get (D := D) (pc := 246) (ci := 5) (v := .int v_value_16) (C := RX5) (T := TX5) (N := 30) hx hb hts nX5_advance_X5 hown hK hP 0 rfl rfl 12 (by decide) (hts _ kX5_advance_4) (fun _ h9 => h9) rfl dX5_advance_246 ?_
                      refine lv_imul (pc := 249) hx hb dX5_advance_249 ?_
                      refine lv_aload_n (pc := 250) hx hb dX5_advance_250 rfl (lv_at hl 0 rfl) ?_
                      refine lv_aload_n (pc := 251) hx hb dX5_advance_251 rfl (lv_at hl 0 rfl) ?_
                      refine va_get (D := D) (pc := 252) (ci := 5) (v := .int v_tokenEnds_15) (C := RX5) (T := TX5) (N := 30) hx hb hts nX5_advance_X5 hown hK hP 0 rfl rfl 10 (by decide) (hts _ kX5_advance_0) (fun _ h9 => h9) rfl dX5_advance_252 ?_
                      obtain ⟨u255, hu255, hF⟩ := z_bind hF
                      refine zq_call (oc0 := (some (.int u255))) (va_runV (As := [.int v_tokenEnds_15]) (rest := [.int ((nI 10) * v_value_16), .ref h0]) ⟨hx, hb, hml, hown, hts⟩ (tX5_byteAt (l := l) (D := D) (cB := cB) (cI := cI) (cJ := cJ) (cO := cO) h0 h_tape g_row g_fresh g_kept g_tried g_isKept g_viewed (.int t1_4) (.int v_begins_2) (.int v_tokenEnds_15) (.long v_word_13) (.int v_value_16) g_good g_growing g_rows g_must g_rowMany g_sorts g_sizes g_sheets g_holds g_heldNumber g_heldSize g_kind g_number g_ownHand g_traced g_bodies g_isParted v_tapeMany v_tape v_tokenEnds_15 u255 hu255) (cwV 1 hts gX5_advance_X5_byteAt rfl rfl rfl (by decide +kernel) ⟨Nat.le_of_ble_eq_true rfl, Nat.le_of_ble_eq_true rfl⟩) ⟨zPre_blind, va_recv hK hP (ci := 5) (q0 := 0) rfl rfl, zPre_at hP hE (zD_re hD rfl) [0, 1] rfl rfl⟩ rfl rfl hl.1 rfl (lv_room (Nat.le_of_ble_eq_true rfl)) dX5_advance_255 ⟨Nat.zero_le _, Nat.zero_le _⟩) ?_
                      refine W.eq (g2 := F0 m 258 ls [.int u255, .int ((nI 10) * v_value_16), .ref h0]) rfl ?_
                      refine lv_iadd (pc := 258) hx hb dX5_advance_258 ?_
                      refine lv_bipush (pc := 259) (v := (nI 48)) hx hb dX5_advance_259 (by decide) ?_
                      refine lv_isub (pc := 261) hx hb dX5_advance_261 ?_
                      refine lv_goto (pc := 262) (tgt := 266) hx hb dX5_advance_262 (by decide) ?_
                      refine va_put (D := D) (pc := 266) (ci := 5) (v := .int ((((nI 10) * v_value_16) + u255) - (nI 48))) (ty := .int) (C := RX5) (T := TX5) (N := 30) hx hb hts nX5_advance_X5 tyX5 tyX5_ok nmX5 hown hK hP (zD_re hD rfl) hS 0 rfl rfl 12 (by decide) (hts _ kX5_advance_4) (fun _ h9 => h9) rfl (tyX5_ok 12 (by decide)) rfl rfl (Nat.le_of_ble_eq_true rfl) dX5_advance_266 (fun H locs hP _ hS => ?_)
                      have hP : va_P D vwCl (wX5_advance cB cI cJ cO h0 h_tape g_row g_fresh g_kept g_tried g_isKept g_viewed g_good g_growing g_rows g_must g_rowMany g_sorts g_sizes g_sheets g_holds g_heldNumber g_heldSize g_kind g_number g_ownHand g_traced g_bodies g_isParted v_tapeMany t1_4 v_begins_2 v_tokenEnds_15 v_word_13 ((((nI 10) * v_value_16) + u255) - (nI 48)) v_tape) H := hP
                      refine lv_aload_n (pc := 269) hx hb dX5_advance_269 rfl (lv_at hl 0 rfl) ?_
                      refine lv_dup (pc := 270) hx hb dX5_advance_270 rfl ?_
                      refine va_get (D := D) (pc := 271) (ci := 5) (v := .int v_tokenEnds_15) (C := RX5) (T := TX5) (N := 30) hx hb hts nX5_advance_X5 hown hK hP 0 rfl rfl 10 (by decide) (hts _ kX5_advance_0) (fun _ h9 => h9) rfl dX5_advance_271 ?_
                      refine lv_iconst (pc := 274) (v := (nI 1)) hx hb dX5_advance_274 (by decide) ?_
                      refine lv_iadd (pc := 275) hx hb dX5_advance_275 ?_
                      refine va_put (D := D) (pc := 276) (ci := 5) (v := .int (v_tokenEnds_15 + (nI 1))) (ty := .int) (C := RX5) (T := TX5) (N := 30) hx hb hts nX5_advance_X5 tyX5 tyX5_ok nmX5 hown hK hP (zD_re hD rfl) hS 0 rfl rfl 10 (by decide) (hts _ kX5_advance_0) (fun _ h9 => h9) rfl (tyX5_ok 10 (by decide)) rfl rfl (Nat.le_of_ble_eq_true rfl) dX5_advance_276 (fun H locs hP _ hS => ?_)
                      have hP : va_P D vwCl (wX5_advance cB cI cJ cO h0 h_tape g_row g_fresh g_kept g_tried g_isKept g_viewed g_good g_growing g_rows g_must g_rowMany g_sorts g_sizes g_sheets g_holds g_heldNumber g_heldSize g_kind g_number g_ownHand g_traced g_bodies g_isParted v_tapeMany t1_4 v_begins_2 (v_tokenEnds_15 + (nI 1)) v_word_13 ((((nI 10) * v_value_16) + u255) - (nI 48)) v_tape) H := hP
                      refine lv_goto (pc := 279) (tgt := 207) hx hb dX5_advance_279 (by decide) ?_
                      exact ih (v_tokenEnds_15 + (nI 1)) ((((nI 10) * v_value_16) + u255) - (nI 48)) hF H locs hP hS ls (lv_sub hl [0] rfl)
            exact hL_207 zK v_tokenEnds_12 t1_6 hF H locs hP hS ls (lv_sub hl [0] rfl)
          have hL_126 : ∀ (n : Nat) (v_tokenEnds_10 : Int32) (v_word_11 : Int64) , fX5_advance_L126 v_tapeMany v_tape v_begins_2 t1_4 k_14 n v_tokenEnds_10 v_word_11 = some r → ∀ (H : Heap) (locs : List Loc), va_P D vwCl (wX5_advance cB cI cJ cO h0 h_tape g_row g_fresh g_kept g_tried g_isKept g_viewed g_good g_growing g_rows g_must g_rowMany g_sorts g_sizes g_sheets g_holds g_heldNumber g_heldSize g_kind g_number g_ownHand g_traced g_bodies g_isParted v_tapeMany t1_4 v_begins_2 v_tokenEnds_10 v_word_11 t1_6 v_tape) H → va_S (zAs [h0, h_tape]) s.heap H locs → ∀ (ls : Array Slot), lv_has ls 2 [(0, .ref h0)] → W p l e rX5_advance s m args below meth c H locs 0 0 Q (F0 m 126 ls []) := by
            intro n
            induction n with
            | zero =>
              intro v_tokenEnds_10 v_word_11 hF H locs hP hS ls hl
              exact z_no hF
            | succ n ih =>
              intro v_tokenEnds_10 v_word_11 hF H locs hP hS ls hl
              rw [fX5_advance_L126] at hF
              refine lv_aload_n (pc := 126) hx hb dX5_advance_126 rfl (lv_at hl 0 rfl) ?_
              refine va_get (D := D) (pc := 127) (ci := 5) (v := .int t1_4) (C := RX5) (T := TX5) (N := 30) hx hb hts nX5_advance_X5 hown hK hP 0 rfl rfl 8 (by decide) (hts _ kX5_advance_2) (fun _ h9 => h9) rfl dX5_advance_127 ?_
              refine lv_iconst (pc := 130) (v := (nI 1)) hx hb dX5_advance_130 (by decide) ?_
              refine zb_icmp_ne (pc := 131) (tgt := 207) hx hb dX5_advance_131 (by decide) hF (fun c_131 hF => ?_) (fun c_131 hF => ?_)
              · exact kk_14 v_tokenEnds_10 v_word_11 hF H locs hP hS ls (lv_sub hl [0] rfl)
              · refine lv_aload_n (pc := 134) hx hb dX5_advance_134 rfl (lv_at hl 0 rfl) ?_
                refine lv_aload_n (pc := 135) hx hb dX5_advance_135 rfl (lv_at hl 0 rfl) ?_
                refine va_get (D := D) (pc := 136) (ci := 5) (v := .int v_tokenEnds_10) (C := RX5) (T := TX5) (N := 30) hx hb hts nX5_advance_X5 hown hK hP 0 rfl rfl 10 (by decide) (hts _ kX5_advance_0) (fun _ h9 => h9) rfl dX5_advance_136 ?_
                obtain ⟨u139, hu139, hF⟩ := z_bind hF
                refine zq_call (oc0 := (some (.int u139))) (va_runV (As := [.int v_tokenEnds_10]) (rest := []) ⟨hx, hb, hml, hown, hts⟩ (tX5_byteAt (l := l) (D := D) (cB := cB) (cI := cI) (cJ := cJ) (cO := cO) h0 h_tape g_row g_fresh g_kept g_tried g_isKept g_viewed (.int t1_4) (.int v_begins_2) (.int v_tokenEnds_10) (.long v_word_11) (.int t1_6) g_good g_growing g_rows g_must g_rowMany g_sorts g_sizes g_sheets g_holds g_heldNumber g_heldSize g_kind g_number g_ownHand g_traced g_bodies g_isParted v_tapeMany v_tape v_tokenEnds_10 u139 hu139) (cwV 1 hts gX5_advance_X5_byteAt rfl rfl rfl (by decide +kernel) ⟨Nat.le_of_ble_eq_true rfl, Nat.le_of_ble_eq_true rfl⟩) ⟨zPre_blind, va_recv hK hP (ci := 5) (q0 := 0) rfl rfl, zPre_at hP hE (zD_re hD rfl) [0, 1] rfl rfl⟩ rfl rfl hl.1 rfl (lv_room (Nat.le_of_ble_eq_true rfl)) dX5_advance_139 ⟨Nat.zero_le _, Nat.zero_le _⟩) ?_
                refine W.eq (g2 := F0 m 142 ls [.int u139]) rfl ?_
                obtain ⟨u142, hu142, hF⟩ := z_bind hF
                refine zq_call (oc0 := (some (.int u142))) (va_runS (As := [.int u139]) (rest := []) ⟨hx, hb, hml, hown, hts⟩ (tX5_isLetter (l := l) (D := D) (cB := cB) (cI := cI) (cJ := cJ) (cO := cO) u139 u142 hu142) (va_cwS 1 hts gX5_advance_X5_isLetter rfl rfl rfl (by decide +kernel) ⟨Nat.le_of_ble_eq_true rfl, Nat.le_of_ble_eq_true rfl⟩) ⟨zPre_blind, zPre_at hP hE (zD_re hD rfl) [] rfl rfl⟩ rfl rfl hl.1 rfl (lv_room (Nat.le_of_ble_eq_true rfl)) dX5_advance_142 ⟨Nat.zero_le _, Nat.zero_le _⟩) ?_
                refine W.eq (g2 := F0 m 145 ls [.int u142]) rfl ?_
                refine zb_if_eq (pc := 145) (tgt := 207) hx hb dX5_advance_145 (by decide) hF (fun c_145 hF => ?_) (fun c_145 hF => ?_)
                · exact kk_14 v_tokenEnds_10 v_word_11 hF H locs hP hS ls (lv_sub hl [0] rfl)
                · refine lv_aload_n (pc := 148) hx hb dX5_advance_148 rfl (lv_at hl 0 rfl) ?_
                  refine lv_aload_n (pc := 149) hx hb dX5_advance_149 rfl (lv_at hl 0 rfl) ?_
                  refine va_get (D := D) (pc := 150) (ci := 5) (v := .int v_tokenEnds_10) (C := RX5) (T := TX5) (N := 30) hx hb hts nX5_advance_X5 hown hK hP 0 rfl rfl 10 (by decide) (hts _ kX5_advance_0) (fun _ h9 => h9) rfl dX5_advance_150 ?_
                  refine lv_aload_n (pc := 153) hx hb dX5_advance_153 rfl (lv_at hl 0 rfl) ?_
                  refine va_get (D := D) (pc := 154) (ci := 5) (v := .int v_begins_2) (C := RX5) (T := TX5) (N := 30) hx hb hts nX5_advance_X5 hown hK hP 0 rfl rfl 9 (by decide) (hts _ kX5_advance_1) (fun _ h9 => h9) rfl dX5_advance_154 ?_
                  refine lv_isub (pc := 157) hx hb dX5_advance_157 ?_
                  refine lv_bipush (pc := 158) (v := (nI 9)) hx hb dX5_advance_158 (by decide) ?_
                  refine zb_icmp_ge (pc := 160) (tgt := 188) hx hb dX5_advance_160 (by decide) hF (fun c_160 hF => ?_) (fun c_160 hF => ?_)
                  · refine lv_ldc2 (pc := 188) hx hb hown (hts _ kX5_advance_5) dX5_advance_188 ?_
                    refine va_put (D := D) (pc := 191) (ci := 5) (v := .long (-1 : Int64)) (ty := .long) (C := RX5) (T := TX5) (N := 30) hx hb hts nX5_advance_X5 tyX5 tyX5_ok nmX5 hown hK hP (zD_re hD rfl) hS 0 rfl rfl 11 (by decide) (hts _ kX5_advance_3) (fun _ h9 => h9) rfl (tyX5_ok 11 (by decide)) rfl rfl (Nat.le_of_ble_eq_true rfl) dX5_advance_191 (fun H locs hP _ hS => ?_)
                    have hP : va_P D vwCl (wX5_advance cB cI cJ cO h0 h_tape g_row g_fresh g_kept g_tried g_isKept g_viewed g_good g_growing g_rows g_must g_rowMany g_sorts g_sizes g_sheets g_holds g_heldNumber g_heldSize g_kind g_number g_ownHand g_traced g_bodies g_isParted v_tapeMany t1_4 v_begins_2 v_tokenEnds_10 (-1 : Int64) t1_6 v_tape) H := hP
                    refine lv_aload_n (pc := 194) hx hb dX5_advance_194 rfl (lv_at hl 0 rfl) ?_
                    refine lv_dup (pc := 195) hx hb dX5_advance_195 rfl ?_
                    refine va_get (D := D) (pc := 196) (ci := 5) (v := .int v_tokenEnds_10) (C := RX5) (T := TX5) (N := 30) hx hb hts nX5_advance_X5 hown hK hP 0 rfl rfl 10 (by decide) (hts _ kX5_advance_0) (fun _ h9 => h9) rfl dX5_advance_196 ?_
                    refine lv_iconst (pc := 199) (v := (nI 1)) hx hb dX5_advance_199 (by decide) ?_
                    refine lv_iadd (pc := 200) hx hb dX5_advance_200 ?_
                    refine va_put (D := D) (pc := 201) (ci := 5) (v := .int (v_tokenEnds_10 + (nI 1))) (ty := .int) (C := RX5) (T := TX5) (N := 30) hx hb hts nX5_advance_X5 tyX5 tyX5_ok nmX5 hown hK hP (zD_re hD rfl) hS 0 rfl rfl 10 (by decide) (hts _ kX5_advance_0) (fun _ h9 => h9) rfl (tyX5_ok 10 (by decide)) rfl rfl (Nat.le_of_ble_eq_true rfl) dX5_advance_201 (fun H locs hP _ hS => ?_)
                    have hP : va_P D vwCl (wX5_advance cB cI cJ cO h0 h_tape g_row g_fresh g_kept g_tried g_isKept g_viewed g_good g_growing g_rows g_must g_rowMany g_sorts g_sizes g_sheets g_holds g_heldNumber g_heldSize g_kind g_number g_ownHand g_traced g_bodies g_isParted v_tapeMany t1_4 v_begins_2 (v_tokenEnds_10 + (nI 1)) (-1 : Int64) t1_6 v_tape) H := hP
                    refine lv_goto (pc := 204) (tgt := 126) hx hb dX5_advance_204 (by decide) ?_
                    exact ih (v_tokenEnds_10 + (nI 1)) (-1 : Int64) hF H locs hP hS ls (lv_sub hl [0] rfl)
                  · refine lv_ldc2 (pc := 163) hx hb hown (hts _ kX5_advance_6) dX5_advance_163 ?_
                    refine lv_aload_n (pc := 166) hx hb dX5_advance_166 rfl (lv_at hl 0 rfl) ?_
                    refine va_get (D := D) (pc := 167) (ci := 5) (v := .long v_word_11) (C := RX5) (T := TX5) (N := 30) hx hb hts nX5_advance_X5 hown hK hP 0 rfl rfl 11 (by decide) (hts _ kX5_advance_3) (fun _ h9 => h9) rfl dX5_advance_167 ?_
                    refine lv_lmul (pc := 170) hx hb dX5_advance_170 ?_
                    refine lv_aload_n (pc := 171) hx hb dX5_advance_171 rfl (lv_at hl 0 rfl) ?_
                    refine lv_aload_n (pc := 172) hx hb dX5_advance_172 rfl (lv_at hl 0 rfl) ?_
                    refine va_get (D := D) (pc := 173) (ci := 5) (v := .int v_tokenEnds_10) (C := RX5) (T := TX5) (N := 30) hx hb hts nX5_advance_X5 hown hK hP 0 rfl rfl 10 (by decide) (hts _ kX5_advance_0) (fun _ h9 => h9) rfl dX5_advance_173 ?_
                    obtain ⟨u176, hu176, hF⟩ := z_bind hF
                    refine zq_call (oc0 := (some (.int u176))) (va_runV (As := [.int v_tokenEnds_10]) (rest := [.long ((lN 27) * v_word_11), .ref h0]) ⟨hx, hb, hml, hown, hts⟩ (tX5_byteAt (l := l) (D := D) (cB := cB) (cI := cI) (cJ := cJ) (cO := cO) h0 h_tape g_row g_fresh g_kept g_tried g_isKept g_viewed (.int t1_4) (.int v_begins_2) (.int v_tokenEnds_10) (.long v_word_11) (.int t1_6) g_good g_growing g_rows g_must g_rowMany g_sorts g_sizes g_sheets g_holds g_heldNumber g_heldSize g_kind g_number g_ownHand g_traced g_bodies g_isParted v_tapeMany v_tape v_tokenEnds_10 u176 hu176) (cwV 1 hts gX5_advance_X5_byteAt rfl rfl rfl (by decide +kernel) ⟨Nat.le_of_ble_eq_true rfl, Nat.le_of_ble_eq_true rfl⟩) ⟨zPre_blind, va_recv hK hP (ci := 5) (q0 := 0) rfl rfl, zPre_at hP hE (zD_re hD rfl) [0, 1] rfl rfl⟩ rfl rfl hl.1 rfl (lv_room (Nat.le_of_ble_eq_true rfl)) dX5_advance_176 ⟨Nat.zero_le _, Nat.zero_le _⟩) ?_
                    refine W.eq (g2 := F0 m 179 ls [.int u176, .long ((lN 27) * v_word_11), .ref h0]) rfl ?_
                    refine lv_i2l (pc := 179) (v := u176.toInt64) hx hb dX5_advance_179 rfl ?_
                    refine lv_ladd (pc := 180) hx hb dX5_advance_180 ?_
                    refine lv_ldc2 (pc := 181) hx hb hown (hts _ kX5_advance_7) dX5_advance_181 ?_
                    refine lv_lsub (pc := 184) hx hb dX5_advance_184 ?_
                    refine lv_goto (pc := 185) (tgt := 191) hx hb dX5_advance_185 (by decide) ?_
                    refine va_put (D := D) (pc := 191) (ci := 5) (v := .long ((((lN 27) * v_word_11) + (u176.toInt64)) - (lN 96))) (ty := .long) (C := RX5) (T := TX5) (N := 30) hx hb hts nX5_advance_X5 tyX5 tyX5_ok nmX5 hown hK hP (zD_re hD rfl) hS 0 rfl rfl 11 (by decide) (hts _ kX5_advance_3) (fun _ h9 => h9) rfl (tyX5_ok 11 (by decide)) rfl rfl (Nat.le_of_ble_eq_true rfl) dX5_advance_191 (fun H locs hP _ hS => ?_)
                    have hP : va_P D vwCl (wX5_advance cB cI cJ cO h0 h_tape g_row g_fresh g_kept g_tried g_isKept g_viewed g_good g_growing g_rows g_must g_rowMany g_sorts g_sizes g_sheets g_holds g_heldNumber g_heldSize g_kind g_number g_ownHand g_traced g_bodies g_isParted v_tapeMany t1_4 v_begins_2 v_tokenEnds_10 ((((lN 27) * v_word_11) + (u176.toInt64)) - (lN 96)) t1_6 v_tape) H := hP
                    refine lv_aload_n (pc := 194) hx hb dX5_advance_194 rfl (lv_at hl 0 rfl) ?_
                    refine lv_dup (pc := 195) hx hb dX5_advance_195 rfl ?_
                    refine va_get (D := D) (pc := 196) (ci := 5) (v := .int v_tokenEnds_10) (C := RX5) (T := TX5) (N := 30) hx hb hts nX5_advance_X5 hown hK hP 0 rfl rfl 10 (by decide) (hts _ kX5_advance_0) (fun _ h9 => h9) rfl dX5_advance_196 ?_
                    refine lv_iconst (pc := 199) (v := (nI 1)) hx hb dX5_advance_199 (by decide) ?_
                    refine lv_iadd (pc := 200) hx hb dX5_advance_200 ?_
                    refine va_put (D := D) (pc := 201) (ci := 5) (v := .int (v_tokenEnds_10 + (nI 1))) (ty := .int) (C := RX5) (T := TX5) (N := 30) hx hb hts nX5_advance_X5 tyX5 tyX5_ok nmX5 hown hK hP (zD_re hD rfl) hS 0 rfl rfl 10 (by decide) (hts _ kX5_advance_0) (fun _ h9 => h9) rfl (tyX5_ok 10 (by decide)) rfl rfl (Nat.le_of_ble_eq_true rfl) dX5_advance_201 (fun H locs hP _ hS => ?_)
                    have hP : va_P D vwCl (wX5_advance cB cI cJ cO h0 h_tape g_row g_fresh g_kept g_tried g_isKept g_viewed g_good g_growing g_rows g_must g_rowMany g_sorts g_sizes g_sheets g_holds g_heldNumber g_heldSize g_kind g_number g_ownHand g_traced g_bodies g_isParted v_tapeMany t1_4 v_begins_2 (v_tokenEnds_10 + (nI 1)) ((((lN 27) * v_word_11) + (u176.toInt64)) - (lN 96)) t1_6 v_tape) H := hP
                    refine lv_goto (pc := 204) (tgt := 126) hx hb dX5_advance_204 (by decide) ?_
                    exact ih (v_tokenEnds_10 + (nI 1)) ((((lN 27) * v_word_11) + (u176.toInt64)) - (lN 96)) hF H locs hP hS ls (lv_sub hl [0] rfl)
          exact hL_126 zK v_tokenEnds_8 (lN 0) hF H locs hP hS ls (lv_sub hl [0] rfl)
        refine zb_icmp_ne (pc := 113) (tgt := 126) hx hb dX5_advance_113 (by decide) hF (fun c_113 hF => ?_) (fun c_113 hF => ?_)
        · exact kJ_9 v_begins_2 hF H locs hP hS ls (lv_sub hl [0] rfl)
        · refine lv_aload_n (pc := 116) hx hb dX5_advance_116 rfl (lv_at hl 0 rfl) ?_
          refine lv_dup (pc := 117) hx hb dX5_advance_117 rfl ?_
          refine va_get (D := D) (pc := 118) (ci := 5) (v := .int v_begins_2) (C := RX5) (T := TX5) (N := 30) hx hb hts nX5_advance_X5 hown hK hP 0 rfl rfl 10 (by decide) (hts _ kX5_advance_0) (fun _ h9 => h9) rfl dX5_advance_118 ?_
          refine lv_iconst (pc := 121) (v := (nI 1)) hx hb dX5_advance_121 (by decide) ?_
          refine lv_iadd (pc := 122) hx hb dX5_advance_122 ?_
          refine va_put (D := D) (pc := 123) (ci := 5) (v := .int (v_begins_2 + (nI 1))) (ty := .int) (C := RX5) (T := TX5) (N := 30) hx hb hts nX5_advance_X5 tyX5 tyX5_ok nmX5 hown hK hP (zD_re hD rfl) hS 0 rfl rfl 10 (by decide) (hts _ kX5_advance_0) (fun _ h9 => h9) rfl (tyX5_ok 10 (by decide)) rfl rfl (Nat.le_of_ble_eq_true rfl) dX5_advance_123 (fun H locs hP _ hS => ?_)
          have hP : va_P D vwCl (wX5_advance cB cI cJ cO h0 h_tape g_row g_fresh g_kept g_tried g_isKept g_viewed g_good g_growing g_rows g_must g_rowMany g_sorts g_sizes g_sheets g_holds g_heldNumber g_heldSize g_kind g_number g_ownHand g_traced g_bodies g_isParted v_tapeMany t1_4 v_begins_2 (v_begins_2 + (nI 1)) (lN 0) t1_6 v_tape) H := hP
          exact kJ_9 (v_begins_2 + (nI 1)) hF H locs hP hS ls (lv_sub hl [0] rfl)
      refine zb_icmp_ne (pc := 97) (tgt := 104) hx hb dX5_advance_97 (by decide) hF (fun c_97 hF => ?_) (fun c_97 hF => ?_)
      · refine lv_iload_n (pc := 104) hx hb dX5_advance_104 rfl (lv_at hl 1 rfl) ?_
        exact kJ_7 u47 hF H locs hP hS ls (lv_sub hl [0] rfl)
      · refine lv_iconst (pc := 100) (v := (nI 0)) hx hb dX5_advance_100 (by decide) ?_
        refine lv_goto (pc := 101) (tgt := 105) hx hb dX5_advance_101 (by decide) ?_
        exact kJ_7 (nI 0) hF H locs hP hS ls (lv_sub hl [0] rfl)
    refine zb_if_ge (pc := 53) (tgt := 60) hx hb dX5_advance_53 (by decide) hF (fun c_53 hF => ?_) (fun c_53 hF => ?_)
    · refine lv_iload_n (pc := 60) hx hb dX5_advance_60 rfl (lv_at hl 0 rfl) ?_
      obtain ⟨u61, hu61, hF⟩ := z_bind hF
      refine zq_call (oc0 := (some (.int u61))) (va_runS (As := [.int u47]) (rest := [.ref h0]) ⟨hx, hb, hml, hown, hts⟩ (tX5_isLetter (l := l) (D := D) (cB := cB) (cI := cI) (cJ := cJ) (cO := cO) u47 u61 hu61) (va_cwS 1 hts gX5_advance_X5_isLetter rfl rfl rfl (by decide +kernel) ⟨Nat.le_of_ble_eq_true rfl, Nat.le_of_ble_eq_true rfl⟩) ⟨zPre_blind, zPre_at hP hE (zD_re hD rfl) [] rfl rfl⟩ rfl rfl hl.1 rfl (lv_room (Nat.le_of_ble_eq_true rfl)) dX5_advance_61 ⟨Nat.zero_le _, Nat.zero_le _⟩) ?_
      refine W.eq (g2 := F0 m 64 ls [.int u61, .ref h0]) rfl ?_
      refine zb_if_eq (pc := 64) (tgt := 71) hx hb dX5_advance_64 (by decide) hF (fun c_64 hF => ?_) (fun c_64 hF => ?_)
      · refine lv_iload_n (pc := 71) hx hb dX5_advance_71 rfl (lv_at hl 0 rfl) ?_
        obtain ⟨u72, hu72, hF⟩ := z_bind hF
        refine zq_call (oc0 := (some (.int u72))) (va_runS (As := [.int u47]) (rest := [.ref h0]) ⟨hx, hb, hml, hown, hts⟩ (tX5_isDigit (l := l) (D := D) (cB := cB) (cI := cI) (cJ := cJ) (cO := cO) u47 u72 hu72) (va_cwS 1 hts gX5_advance_X5_isDigit rfl rfl rfl (by decide +kernel) ⟨Nat.le_of_ble_eq_true rfl, Nat.le_of_ble_eq_true rfl⟩) ⟨zPre_blind, zPre_at hP hE (zD_re hD rfl) [] rfl rfl⟩ rfl rfl hl.1 rfl (lv_room (Nat.le_of_ble_eq_true rfl)) dX5_advance_72 ⟨Nat.zero_le _, Nat.zero_le _⟩) ?_
        refine W.eq (g2 := F0 m 75 ls [.int u72, .ref h0]) rfl ?_
        refine zb_if_eq (pc := 75) (tgt := 82) hx hb dX5_advance_75 (by decide) hF (fun c_75 hF => ?_) (fun c_75 hF => ?_)
        · refine lv_iconst (pc := 82) (v := (nI 3)) hx hb dX5_advance_82 (by decide) ?_
          exact kJ_5 (nI 3) hF H locs hP hS ls (lv_sub hl [1, 0] rfl)
        · refine lv_iconst (pc := 78) (v := (nI 2)) hx hb dX5_advance_78 (by decide) ?_
          refine lv_goto (pc := 79) (tgt := 83) hx hb dX5_advance_79 (by decide) ?_
          exact kJ_5 (nI 2) hF H locs hP hS ls (lv_sub hl [1, 0] rfl)
      · refine lv_iconst (pc := 67) (v := (nI 1)) hx hb dX5_advance_67 (by decide) ?_
        refine lv_goto (pc := 68) (tgt := 83) hx hb dX5_advance_68 (by decide) ?_
        exact kJ_5 (nI 1) hF H locs hP hS ls (lv_sub hl [1, 0] rfl)
    · refine lv_iconst (pc := 56) (v := (nI 0)) hx hb dX5_advance_56 (by decide) ?_
      refine lv_goto (pc := 57) (tgt := 83) hx hb dX5_advance_57 (by decide) ?_
      exact kJ_5 (nI 0) hF H locs hP hS ls (lv_sub hl [1, 0] rfl)
  have hL_8 : ∀ (n : Nat) (v_begins_1 : Int32) , fX5_advance_L8 v_tapeMany v_tape k_3 n v_begins_1 = some r → ∀ (H : Heap) (locs : List Loc), va_P D vwCl (wX5_advance cB cI cJ cO h0 h_tape g_row g_fresh g_kept g_tried g_isKept g_viewed g_good g_growing g_rows g_must g_rowMany g_sorts g_sizes g_sheets g_holds g_heldNumber g_heldSize g_kind g_number g_ownHand g_traced g_bodies g_isParted v_tapeMany v_sort v_begins_1 v_tokenEnds v_word v_value v_tape) H → va_S (zAs [h0, h_tape]) s.heap H locs → ∀ (ls : Array Slot), lv_has ls 2 [(0, .ref h0)] → W p l e rX5_advance s m args below meth c H locs 0 0 Q (F0 m 8 ls []) := by
    intro n
    induction n with
    | zero =>
      intro v_begins_1 hF H locs hP hS ls hl
      exact z_no hF
    | succ n ih =>
      intro v_begins_1 hF H locs hP hS ls hl
      rw [fX5_advance_L8] at hF
      refine lv_aload_n (pc := 8) hx hb dX5_advance_8 rfl (lv_at hl 0 rfl) ?_
      refine lv_aload_n (pc := 9) hx hb dX5_advance_9 rfl (lv_at hl 0 rfl) ?_
      refine va_get (D := D) (pc := 10) (ci := 5) (v := .int v_begins_1) (C := RX5) (T := TX5) (N := 30) hx hb hts nX5_advance_X5 hown hK hP 0 rfl rfl 9 (by decide) (hts _ kX5_advance_1) (fun _ h9 => h9) rfl dX5_advance_10 ?_
      obtain ⟨u13, hu13, hF⟩ := z_bind hF
      refine zq_call (oc0 := (some (.int u13))) (va_runV (As := [.int v_begins_1]) (rest := []) ⟨hx, hb, hml, hown, hts⟩ (tX5_byteAt (l := l) (D := D) (cB := cB) (cI := cI) (cJ := cJ) (cO := cO) h0 h_tape g_row g_fresh g_kept g_tried g_isKept g_viewed (.int v_sort) (.int v_begins_1) (.int v_tokenEnds) (.long v_word) (.int v_value) g_good g_growing g_rows g_must g_rowMany g_sorts g_sizes g_sheets g_holds g_heldNumber g_heldSize g_kind g_number g_ownHand g_traced g_bodies g_isParted v_tapeMany v_tape v_begins_1 u13 hu13) (cwV 1 hts gX5_advance_X5_byteAt rfl rfl rfl (by decide +kernel) ⟨Nat.le_of_ble_eq_true rfl, Nat.le_of_ble_eq_true rfl⟩) ⟨zPre_blind, va_recv hK hP (ci := 5) (q0 := 0) rfl rfl, zPre_at hP hE (zD_re hD rfl) [0, 1] rfl rfl⟩ rfl rfl hl.1 rfl (lv_room (Nat.le_of_ble_eq_true rfl)) dX5_advance_13 ⟨Nat.zero_le _, Nat.zero_le _⟩) ?_
      refine W.eq (g2 := F0 m 16 ls [.int u13]) rfl ?_
      refine lv_bipush (pc := 16) (v := (nI 32)) hx hb dX5_advance_16 (by decide) ?_
      refine zb_icmp_ne (pc := 18) (tgt := 34) hx hb dX5_advance_18 (by decide) hF (fun c_18 hF => ?_) (fun c_18 hF => ?_)
      · exact kk_3 v_begins_1 hF H locs hP hS ls (lv_sub hl [0] rfl)
      · refine lv_aload_n (pc := 21) hx hb dX5_advance_21 rfl (lv_at hl 0 rfl) ?_
        refine lv_dup (pc := 22) hx hb dX5_advance_22 rfl ?_
        refine va_get (D := D) (pc := 23) (ci := 5) (v := .int v_begins_1) (C := RX5) (T := TX5) (N := 30) hx hb hts nX5_advance_X5 hown hK hP 0 rfl rfl 9 (by decide) (hts _ kX5_advance_1) (fun _ h9 => h9) rfl dX5_advance_23 ?_
        refine lv_iconst (pc := 26) (v := (nI 1)) hx hb dX5_advance_26 (by decide) ?_
        refine lv_iadd (pc := 27) hx hb dX5_advance_27 ?_
        refine va_put (D := D) (pc := 28) (ci := 5) (v := .int (v_begins_1 + (nI 1))) (ty := .int) (C := RX5) (T := TX5) (N := 30) hx hb hts nX5_advance_X5 tyX5 tyX5_ok nmX5 hown hK hP (zD_re hD rfl) hS 0 rfl rfl 9 (by decide) (hts _ kX5_advance_1) (fun _ h9 => h9) rfl (tyX5_ok 9 (by decide)) rfl rfl (Nat.le_of_ble_eq_true rfl) dX5_advance_28 (fun H locs hP _ hS => ?_)
        have hP : va_P D vwCl (wX5_advance cB cI cJ cO h0 h_tape g_row g_fresh g_kept g_tried g_isKept g_viewed g_good g_growing g_rows g_must g_rowMany g_sorts g_sizes g_sheets g_holds g_heldNumber g_heldSize g_kind g_number g_ownHand g_traced g_bodies g_isParted v_tapeMany v_sort (v_begins_1 + (nI 1)) v_tokenEnds v_word v_value v_tape) H := hP
        refine lv_goto (pc := 31) (tgt := 8) hx hb dX5_advance_31 (by decide) ?_
        exact ih (v_begins_1 + (nI 1)) hF H locs hP hS ls (lv_sub hl [0] rfl)
  exact hL_8 zK v_tokenEnds hF H locs hP hS ls (lv_sub hl [0] rfl)

abbrev rX5_isWord : Room := { frames := 0, cells := 0, slots := 0, locals := 0 }
abbrev wX5_isWord (cB cI cJ cO : ClassId) (h0 : Nat) (g_row g_fresh g_kept g_tried g_isKept g_viewed g_tape g_tapeMany g_begins g_tokenEnds g_value g_good g_growing g_rows g_must g_rowMany g_sorts g_sizes g_sheets g_holds g_heldNumber g_heldSize g_kind g_number g_ownHand g_traced g_bodies g_isParted : Value) (v_sort : Int32) (v_word : Int64) : va_W := [(h0, .inr (5, [g_row, g_fresh, g_kept, g_tried, g_isKept, g_viewed, g_tape, g_tapeMany, .int v_sort, g_begins, g_tokenEnds, .long v_word, g_value, g_good, g_growing, g_rows, g_must, g_rowMany, g_sorts, g_sizes, g_sheets, g_holds, g_heldNumber, g_heldSize, g_kind, g_number, g_ownHand, g_traced, g_bodies, g_isParted]))]
theorem nX5_isWord_X5 : ∀ w ∈ wsX50, w ∈ wsX5_isWord := by decide +kernel
theorem kX5_isWord_0 : Cond.fieldLink RX5 86 "PaintedWallsModel" "sort" "I" ∈ wsX5_isWord := by decide +kernel
theorem kX5_isWord_1 : Cond.fieldLink RX5 89 "PaintedWallsModel" "word" "J" ∈ wsX5_isWord := by decide +kernel
set_option maxHeartbeats 4000000 in
set_option maxRecDepth 100000 in
theorem tX5_isWord {l : Launch} {D : va_G} {cB cI cJ cO : ClassId} (h0 : Nat) (g_row g_fresh g_kept g_tried g_isKept g_viewed g_tape g_tapeMany g_begins g_tokenEnds g_value g_good g_growing g_rows g_must g_rowMany g_sorts g_sizes g_sheets g_holds g_heldNumber g_heldSize g_kind g_number g_ownHand g_traced g_bodies g_isParted : Value) (v_sort : Int32) (v_word : Int64) (x1 : Int64) (r : Int32) (hF : fX5_isWord v_sort v_word x1 = some r) : Met l yX5_isWord wsX5_isWord rX5_isWord (zPre D cB cI cJ cO [.ref h0, .long x1] (wX5_isWord cB cI cJ cO h0 g_row g_fresh g_kept g_tried g_isKept g_viewed g_tape g_tapeMany g_begins g_tokenEnds g_value g_good g_growing g_rows g_must g_rowMany g_sorts g_sizes g_sheets g_holds g_heldNumber g_heldSize g_kind g_number g_ownHand g_traced g_bodies g_isParted v_sort v_word)) (zPI (some (.int r))) 0 0 (fun _ => False) := by
  refine zMetP (cc := cX5_isWord) (maxL := 3) (ret := (some .boolean)) (lv := [(0, .ref h0), (1, .long x1)]) (by decide) rfl (Nat.le_of_ble_eq_true rfl) rfl ?_
  intro p e s m args below meth c ls Q hQ hx hb hr hml hown hts hlocks hname hP hE hD hl
  have hown : s.vm.findClass RX5 = some m.cls := hown
  have hK := hE.1
  unfold fX5_isWord at hF
  refine lv_aload_n (pc := 0) hx hb dX5_isWord_0 rfl (lv_at hl 0 rfl) ?_
  refine va_get (D := D) (pc := 1) (ci := 5) (v := .int v_sort) (C := RX5) (T := TX5) (N := 30) hx hb hts nX5_isWord_X5 hown hK hP 0 rfl rfl 8 (by decide) (hts _ kX5_isWord_0) (fun _ h9 => h9) rfl dX5_isWord_1 ?_
  refine lv_iconst (pc := 4) (v := (nI 1)) hx hb dX5_isWord_4 (by decide) ?_
  refine zb_icmp_ne (pc := 5) (tgt := 21) hx hb dX5_isWord_5 (by decide) hF (fun c_5 hF => ?_) (fun c_5 hF => ?_)
  · refine lv_iconst (pc := 21) (v := (nI 0)) hx hb dX5_isWord_21 (by decide) ?_
    exact z_zret (pc := 22) (fun q => q) hx hb hr hlocks (by decide) hF rfl hQ dX5_isWord_22
  · refine lv_aload_n (pc := 8) hx hb dX5_isWord_8 rfl (lv_at hl 0 rfl) ?_
    refine va_get (D := D) (pc := 9) (ci := 5) (v := .long v_word) (C := RX5) (T := TX5) (N := 30) hx hb hts nX5_isWord_X5 hown hK hP 0 rfl rfl 11 (by decide) (hts _ kX5_isWord_1) (fun _ h9 => h9) rfl dX5_isWord_9 ?_
    refine lv_lload_n (pc := 12) hx hb dX5_isWord_12 rfl (lv_at hl 1 rfl) ?_
    refine W.lcmp (pc := 13) hx hb dX5_isWord_13 ?_
    refine zb_if_ne (pc := 14) (tgt := 21) hx hb dX5_isWord_14 (by decide) hF (fun c_14 hF => ?_) (fun c_14 hF => ?_)
    · refine lv_iconst (pc := 21) (v := (nI 0)) hx hb dX5_isWord_21 (by decide) ?_
      exact z_zret (pc := 22) (fun q => q) hx hb hr hlocks (by decide) hF rfl hQ dX5_isWord_22
    · refine lv_iconst (pc := 17) (v := (nI 1)) hx hb dX5_isWord_17 (by decide) ?_
      refine lv_goto (pc := 18) (tgt := 22) hx hb dX5_isWord_18 (by decide) ?_
      exact z_zret (pc := 22) (fun q => q) hx hb hr hlocks (by decide) hF rfl hQ dX5_isWord_22

abbrev rX5_isMark : Room := { frames := 0, cells := 0, slots := 0, locals := 0 }
abbrev wX5_isMark (cB cI cJ cO : ClassId) (h0 : Nat) (g_row g_fresh g_kept g_tried g_isKept g_viewed g_tape g_tapeMany g_begins g_tokenEnds g_word g_good g_growing g_rows g_must g_rowMany g_sorts g_sizes g_sheets g_holds g_heldNumber g_heldSize g_kind g_number g_ownHand g_traced g_bodies g_isParted : Value) (v_sort : Int32) (v_value : Int32) : va_W := [(h0, .inr (5, [g_row, g_fresh, g_kept, g_tried, g_isKept, g_viewed, g_tape, g_tapeMany, .int v_sort, g_begins, g_tokenEnds, g_word, .int v_value, g_good, g_growing, g_rows, g_must, g_rowMany, g_sorts, g_sizes, g_sheets, g_holds, g_heldNumber, g_heldSize, g_kind, g_number, g_ownHand, g_traced, g_bodies, g_isParted]))]
theorem nX5_isMark_X5 : ∀ w ∈ wsX50, w ∈ wsX5_isMark := by decide +kernel
theorem kX5_isMark_0 : Cond.fieldLink RX5 86 "PaintedWallsModel" "sort" "I" ∈ wsX5_isMark := by decide +kernel
theorem kX5_isMark_1 : Cond.fieldLink RX5 93 "PaintedWallsModel" "value" "I" ∈ wsX5_isMark := by decide +kernel
set_option maxHeartbeats 4000000 in
set_option maxRecDepth 100000 in
theorem tX5_isMark {l : Launch} {D : va_G} {cB cI cJ cO : ClassId} (h0 : Nat) (g_row g_fresh g_kept g_tried g_isKept g_viewed g_tape g_tapeMany g_begins g_tokenEnds g_word g_good g_growing g_rows g_must g_rowMany g_sorts g_sizes g_sheets g_holds g_heldNumber g_heldSize g_kind g_number g_ownHand g_traced g_bodies g_isParted : Value) (v_sort : Int32) (v_value : Int32) (x1 : Int32) (r : Int32) (hF : fX5_isMark v_sort v_value x1 = some r) : Met l yX5_isMark wsX5_isMark rX5_isMark (zPre D cB cI cJ cO [.ref h0, .int x1] (wX5_isMark cB cI cJ cO h0 g_row g_fresh g_kept g_tried g_isKept g_viewed g_tape g_tapeMany g_begins g_tokenEnds g_word g_good g_growing g_rows g_must g_rowMany g_sorts g_sizes g_sheets g_holds g_heldNumber g_heldSize g_kind g_number g_ownHand g_traced g_bodies g_isParted v_sort v_value)) (zPI (some (.int r))) 0 0 (fun _ => False) := by
  refine zMetP (cc := cX5_isMark) (maxL := 2) (ret := (some .boolean)) (lv := [(0, .ref h0), (1, .int x1)]) (by decide) rfl (Nat.le_of_ble_eq_true rfl) rfl ?_
  intro p e s m args below meth c ls Q hQ hx hb hr hml hown hts hlocks hname hP hE hD hl
  have hown : s.vm.findClass RX5 = some m.cls := hown
  have hK := hE.1
  unfold fX5_isMark at hF
  refine lv_aload_n (pc := 0) hx hb dX5_isMark_0 rfl (lv_at hl 0 rfl) ?_
  refine va_get (D := D) (pc := 1) (ci := 5) (v := .int v_sort) (C := RX5) (T := TX5) (N := 30) hx hb hts nX5_isMark_X5 hown hK hP 0 rfl rfl 8 (by decide) (hts _ kX5_isMark_0) (fun _ h9 => h9) rfl dX5_isMark_1 ?_
  refine lv_iconst (pc := 4) (v := (nI 3)) hx hb dX5_isMark_4 (by decide) ?_
  refine zb_icmp_ne (pc := 5) (tgt := 20) hx hb dX5_isMark_5 (by decide) hF (fun c_5 hF => ?_) (fun c_5 hF => ?_)
  · refine lv_iconst (pc := 20) (v := (nI 0)) hx hb dX5_isMark_20 (by decide) ?_
    exact z_zret (pc := 21) (fun q => q) hx hb hr hlocks (by decide) hF rfl hQ dX5_isMark_21
  · refine lv_aload_n (pc := 8) hx hb dX5_isMark_8 rfl (lv_at hl 0 rfl) ?_
    refine va_get (D := D) (pc := 9) (ci := 5) (v := .int v_value) (C := RX5) (T := TX5) (N := 30) hx hb hts nX5_isMark_X5 hown hK hP 0 rfl rfl 12 (by decide) (hts _ kX5_isMark_1) (fun _ h9 => h9) rfl dX5_isMark_9 ?_
    refine lv_iload_n (pc := 12) hx hb dX5_isMark_12 rfl (lv_at hl 1 rfl) ?_
    refine zb_icmp_ne (pc := 13) (tgt := 20) hx hb dX5_isMark_13 (by decide) hF (fun c_13 hF => ?_) (fun c_13 hF => ?_)
    · refine lv_iconst (pc := 20) (v := (nI 0)) hx hb dX5_isMark_20 (by decide) ?_
      exact z_zret (pc := 21) (fun q => q) hx hb hr hlocks (by decide) hF rfl hQ dX5_isMark_21
    · refine lv_iconst (pc := 16) (v := (nI 1)) hx hb dX5_isMark_16 (by decide) ?_
      refine lv_goto (pc := 17) (tgt := 21) hx hb dX5_isMark_17 (by decide) ?_
      exact z_zret (pc := 21) (fun q => q) hx hb hr hlocks (by decide) hF rfl hQ dX5_isMark_21

abbrev rX5_kindHere : Room := { frames := 1, cells := 0, slots := 0, locals := 22 }
abbrev wX5_kindHere (cB cI cJ cO : ClassId) (h0 : Nat) (g_row g_fresh g_kept g_tried g_isKept g_viewed g_tape g_tapeMany g_begins g_tokenEnds g_value g_good g_growing g_rows g_must g_rowMany g_sorts g_sizes g_sheets g_holds g_heldNumber g_heldSize g_kind g_number g_ownHand g_traced g_bodies g_isParted : Value) (v_sort : Int32) (v_word : Int64) : va_W := [(h0, .inr (5, [g_row, g_fresh, g_kept, g_tried, g_isKept, g_viewed, g_tape, g_tapeMany, .int v_sort, g_begins, g_tokenEnds, .long v_word, g_value, g_good, g_growing, g_rows, g_must, g_rowMany, g_sorts, g_sizes, g_sheets, g_holds, g_heldNumber, g_heldSize, g_kind, g_number, g_ownHand, g_traced, g_bodies, g_isParted]))]
theorem kX5_kindHere_0 : Cond.constantLong RX5 102 (lN 276647) ∈ wsX5_kindHere := by decide +kernel
theorem kX5_kindHere_1 : Cond.constantLong RX5 108 (lN 3547106) ∈ wsX5_kindHere := by decide +kernel
theorem kX5_kindHere_2 : Cond.constantLong RX5 110 (lN 1389298450) ∈ wsX5_kindHere := by decide +kernel
theorem kX5_kindHere_3 : Cond.constantLong RX5 112 (lN 7827392695) ∈ wsX5_kindHere := by decide +kernel
theorem kX5_kindHere_4 : Cond.constantLong RX5 114 (lN 4085951) ∈ wsX5_kindHere := by decide +kernel
theorem kX5_kindHere_5 : Cond.constantLong RX5 116 (lN 220610) ∈ wsX5_kindHere := by decide +kernel
set_option maxHeartbeats 4000000 in
set_option maxRecDepth 100000 in
theorem tX5_kindHere {l : Launch} {D : va_G} {cB cI cJ cO : ClassId} (h0 : Nat) (g_row g_fresh g_kept g_tried g_isKept g_viewed g_tape g_tapeMany g_begins g_tokenEnds g_value g_good g_growing g_rows g_must g_rowMany g_sorts g_sizes g_sheets g_holds g_heldNumber g_heldSize g_kind g_number g_ownHand g_traced g_bodies g_isParted : Value) (v_sort : Int32) (v_word : Int64) (r : Int32) (hF : fX5_kindHere v_sort v_word = some r) : Met l yX5_kindHere wsX5_kindHere rX5_kindHere (zPre D cB cI cJ cO [.ref h0] (wX5_kindHere cB cI cJ cO h0 g_row g_fresh g_kept g_tried g_isKept g_viewed g_tape g_tapeMany g_begins g_tokenEnds g_value g_good g_growing g_rows g_must g_rowMany g_sorts g_sizes g_sheets g_holds g_heldNumber g_heldSize g_kind g_number g_ownHand g_traced g_bodies g_isParted v_sort v_word)) (zPI (some (.int r))) 0 0 (fun _ => False) := by
  refine zMetP (cc := cX5_kindHere) (maxL := 1) (ret := (some .int)) (lv := [(0, .ref h0)]) (by decide) rfl (Nat.le_of_ble_eq_true rfl) rfl ?_
  intro p e s m args below meth c ls Q hQ hx hb hr hml hown hts hlocks hname hP hE hD hl
  have hown : s.vm.findClass RX5 = some m.cls := hown
  have hK := hE.1
  unfold fX5_kindHere at hF
  refine lv_aload_n (pc := 0) hx hb dX5_kindHere_0 rfl (lv_at hl 0 rfl) ?_
  refine lv_ldc2 (pc := 1) hx hb hown (hts _ kX5_kindHere_0) dX5_kindHere_1 ?_
  obtain ⟨u4, hu4, hF⟩ := z_bind hF
  refine zq_call (oc0 := (some (.int u4))) (va_runV (As := [.long (lN 276647)]) (rest := []) ⟨hx, hb, hml, hown, hts⟩ (tX5_isWord (l := l) (D := D) (cB := cB) (cI := cI) (cJ := cJ) (cO := cO) h0 g_row g_fresh g_kept g_tried g_isKept g_viewed g_tape g_tapeMany g_begins g_tokenEnds g_value g_good g_growing g_rows g_must g_rowMany g_sorts g_sizes g_sheets g_holds g_heldNumber g_heldSize g_kind g_number g_ownHand g_traced g_bodies g_isParted v_sort v_word (lN 276647) u4 hu4) (cwV 1 hts gX5_kindHere_X5_isWord rfl rfl rfl (by decide +kernel) ⟨Nat.le_of_ble_eq_true rfl, Nat.le_of_ble_eq_true rfl⟩) ⟨zPre_blind, va_recv hK hP (ci := 5) (q0 := 0) rfl rfl, zPre_at hP hE hD [0] rfl rfl⟩ rfl rfl hl.1 rfl (lv_room (Nat.le_of_ble_eq_true rfl)) dX5_kindHere_4 ⟨Nat.zero_le _, Nat.zero_le _⟩) ?_
  refine W.eq (g2 := F0 m 7 ls [.int u4]) rfl ?_
  refine zb_if_eq (pc := 7) (tgt := 14) hx hb dX5_kindHere_7 (by decide) hF (fun c_7 hF => ?_) (fun c_7 hF => ?_)
  · refine lv_aload_n (pc := 14) hx hb dX5_kindHere_14 rfl (lv_at hl 0 rfl) ?_
    refine lv_ldc2 (pc := 15) hx hb hown (hts _ kX5_kindHere_1) dX5_kindHere_15 ?_
    obtain ⟨u18, hu18, hF⟩ := z_bind hF
    refine zq_call (oc0 := (some (.int u18))) (va_runV (As := [.long (lN 3547106)]) (rest := []) ⟨hx, hb, hml, hown, hts⟩ (tX5_isWord (l := l) (D := D) (cB := cB) (cI := cI) (cJ := cJ) (cO := cO) h0 g_row g_fresh g_kept g_tried g_isKept g_viewed g_tape g_tapeMany g_begins g_tokenEnds g_value g_good g_growing g_rows g_must g_rowMany g_sorts g_sizes g_sheets g_holds g_heldNumber g_heldSize g_kind g_number g_ownHand g_traced g_bodies g_isParted v_sort v_word (lN 3547106) u18 hu18) (cwV 1 hts gX5_kindHere_X5_isWord rfl rfl rfl (by decide +kernel) ⟨Nat.le_of_ble_eq_true rfl, Nat.le_of_ble_eq_true rfl⟩) ⟨zPre_blind, va_recv hK hP (ci := 5) (q0 := 0) rfl rfl, zPre_at hP hE hD [0] rfl rfl⟩ rfl rfl hl.1 rfl (lv_room (Nat.le_of_ble_eq_true rfl)) dX5_kindHere_18 ⟨Nat.zero_le _, Nat.zero_le _⟩) ?_
    refine W.eq (g2 := F0 m 21 ls [.int u18]) rfl ?_
    refine zb_if_eq (pc := 21) (tgt := 28) hx hb dX5_kindHere_21 (by decide) hF (fun c_21 hF => ?_) (fun c_21 hF => ?_)
    · refine lv_aload_n (pc := 28) hx hb dX5_kindHere_28 rfl (lv_at hl 0 rfl) ?_
      refine lv_ldc2 (pc := 29) hx hb hown (hts _ kX5_kindHere_2) dX5_kindHere_29 ?_
      obtain ⟨u32, hu32, hF⟩ := z_bind hF
      refine zq_call (oc0 := (some (.int u32))) (va_runV (As := [.long (lN 1389298450)]) (rest := []) ⟨hx, hb, hml, hown, hts⟩ (tX5_isWord (l := l) (D := D) (cB := cB) (cI := cI) (cJ := cJ) (cO := cO) h0 g_row g_fresh g_kept g_tried g_isKept g_viewed g_tape g_tapeMany g_begins g_tokenEnds g_value g_good g_growing g_rows g_must g_rowMany g_sorts g_sizes g_sheets g_holds g_heldNumber g_heldSize g_kind g_number g_ownHand g_traced g_bodies g_isParted v_sort v_word (lN 1389298450) u32 hu32) (cwV 1 hts gX5_kindHere_X5_isWord rfl rfl rfl (by decide +kernel) ⟨Nat.le_of_ble_eq_true rfl, Nat.le_of_ble_eq_true rfl⟩) ⟨zPre_blind, va_recv hK hP (ci := 5) (q0 := 0) rfl rfl, zPre_at hP hE hD [0] rfl rfl⟩ rfl rfl hl.1 rfl (lv_room (Nat.le_of_ble_eq_true rfl)) dX5_kindHere_32 ⟨Nat.zero_le _, Nat.zero_le _⟩) ?_
      refine W.eq (g2 := F0 m 35 ls [.int u32]) rfl ?_
      refine zb_if_eq (pc := 35) (tgt := 42) hx hb dX5_kindHere_35 (by decide) hF (fun c_35 hF => ?_) (fun c_35 hF => ?_)
      · refine lv_aload_n (pc := 42) hx hb dX5_kindHere_42 rfl (lv_at hl 0 rfl) ?_
        refine lv_ldc2 (pc := 43) hx hb hown (hts _ kX5_kindHere_3) dX5_kindHere_43 ?_
        obtain ⟨u46, hu46, hF⟩ := z_bind hF
        refine zq_call (oc0 := (some (.int u46))) (va_runV (As := [.long (lN 7827392695)]) (rest := []) ⟨hx, hb, hml, hown, hts⟩ (tX5_isWord (l := l) (D := D) (cB := cB) (cI := cI) (cJ := cJ) (cO := cO) h0 g_row g_fresh g_kept g_tried g_isKept g_viewed g_tape g_tapeMany g_begins g_tokenEnds g_value g_good g_growing g_rows g_must g_rowMany g_sorts g_sizes g_sheets g_holds g_heldNumber g_heldSize g_kind g_number g_ownHand g_traced g_bodies g_isParted v_sort v_word (lN 7827392695) u46 hu46) (cwV 1 hts gX5_kindHere_X5_isWord rfl rfl rfl (by decide +kernel) ⟨Nat.le_of_ble_eq_true rfl, Nat.le_of_ble_eq_true rfl⟩) ⟨zPre_blind, va_recv hK hP (ci := 5) (q0 := 0) rfl rfl, zPre_at hP hE hD [0] rfl rfl⟩ rfl rfl hl.1 rfl (lv_room (Nat.le_of_ble_eq_true rfl)) dX5_kindHere_46 ⟨Nat.zero_le _, Nat.zero_le _⟩) ?_
        refine W.eq (g2 := F0 m 49 ls [.int u46]) rfl ?_
        refine zb_if_eq (pc := 49) (tgt := 56) hx hb dX5_kindHere_49 (by decide) hF (fun c_49 hF => ?_) (fun c_49 hF => ?_)
        · refine lv_aload_n (pc := 56) hx hb dX5_kindHere_56 rfl (lv_at hl 0 rfl) ?_
          refine lv_ldc2 (pc := 57) hx hb hown (hts _ kX5_kindHere_4) dX5_kindHere_57 ?_
          obtain ⟨u60, hu60, hF⟩ := z_bind hF
          refine zq_call (oc0 := (some (.int u60))) (va_runV (As := [.long (lN 4085951)]) (rest := []) ⟨hx, hb, hml, hown, hts⟩ (tX5_isWord (l := l) (D := D) (cB := cB) (cI := cI) (cJ := cJ) (cO := cO) h0 g_row g_fresh g_kept g_tried g_isKept g_viewed g_tape g_tapeMany g_begins g_tokenEnds g_value g_good g_growing g_rows g_must g_rowMany g_sorts g_sizes g_sheets g_holds g_heldNumber g_heldSize g_kind g_number g_ownHand g_traced g_bodies g_isParted v_sort v_word (lN 4085951) u60 hu60) (cwV 1 hts gX5_kindHere_X5_isWord rfl rfl rfl (by decide +kernel) ⟨Nat.le_of_ble_eq_true rfl, Nat.le_of_ble_eq_true rfl⟩) ⟨zPre_blind, va_recv hK hP (ci := 5) (q0 := 0) rfl rfl, zPre_at hP hE hD [0] rfl rfl⟩ rfl rfl hl.1 rfl (lv_room (Nat.le_of_ble_eq_true rfl)) dX5_kindHere_60 ⟨Nat.zero_le _, Nat.zero_le _⟩) ?_
          refine W.eq (g2 := F0 m 63 ls [.int u60]) rfl ?_
          refine zb_if_eq (pc := 63) (tgt := 70) hx hb dX5_kindHere_63 (by decide) hF (fun c_63 hF => ?_) (fun c_63 hF => ?_)
          · refine lv_aload_n (pc := 70) hx hb dX5_kindHere_70 rfl (lv_at hl 0 rfl) ?_
            refine lv_ldc2 (pc := 71) hx hb hown (hts _ kX5_kindHere_5) dX5_kindHere_71 ?_
            obtain ⟨u74, hu74, hF⟩ := z_bind hF
            refine zq_call (oc0 := (some (.int u74))) (va_runV (As := [.long (lN 220610)]) (rest := []) ⟨hx, hb, hml, hown, hts⟩ (tX5_isWord (l := l) (D := D) (cB := cB) (cI := cI) (cJ := cJ) (cO := cO) h0 g_row g_fresh g_kept g_tried g_isKept g_viewed g_tape g_tapeMany g_begins g_tokenEnds g_value g_good g_growing g_rows g_must g_rowMany g_sorts g_sizes g_sheets g_holds g_heldNumber g_heldSize g_kind g_number g_ownHand g_traced g_bodies g_isParted v_sort v_word (lN 220610) u74 hu74) (cwV 1 hts gX5_kindHere_X5_isWord rfl rfl rfl (by decide +kernel) ⟨Nat.le_of_ble_eq_true rfl, Nat.le_of_ble_eq_true rfl⟩) ⟨zPre_blind, va_recv hK hP (ci := 5) (q0 := 0) rfl rfl, zPre_at hP hE hD [0] rfl rfl⟩ rfl rfl hl.1 rfl (lv_room (Nat.le_of_ble_eq_true rfl)) dX5_kindHere_74 ⟨Nat.zero_le _, Nat.zero_le _⟩) ?_
            refine W.eq (g2 := F0 m 77 ls [.int u74]) rfl ?_
            refine zb_if_eq (pc := 77) (tgt := 84) hx hb dX5_kindHere_77 (by decide) hF (fun c_77 hF => ?_) (fun c_77 hF => ?_)
            · refine lv_iconst (pc := 84) (v := (-1 : Int32)) hx hb dX5_kindHere_84 (by decide) ?_
              exact z_iret (pc := 85) (fun q => q) hx hb hr hlocks hF rfl hQ dX5_kindHere_85
            · refine lv_iconst (pc := 80) (v := (nI 5)) hx hb dX5_kindHere_80 (by decide) ?_
              refine lv_goto (pc := 81) (tgt := 85) hx hb dX5_kindHere_81 (by decide) ?_
              exact z_iret (pc := 85) (fun q => q) hx hb hr hlocks hF rfl hQ dX5_kindHere_85
          · refine lv_iconst (pc := 66) (v := (nI 4)) hx hb dX5_kindHere_66 (by decide) ?_
            refine lv_goto (pc := 67) (tgt := 85) hx hb dX5_kindHere_67 (by decide) ?_
            exact z_iret (pc := 85) (fun q => q) hx hb hr hlocks hF rfl hQ dX5_kindHere_85
        · refine lv_iconst (pc := 52) (v := (nI 3)) hx hb dX5_kindHere_52 (by decide) ?_
          refine lv_goto (pc := 53) (tgt := 85) hx hb dX5_kindHere_53 (by decide) ?_
          exact z_iret (pc := 85) (fun q => q) hx hb hr hlocks hF rfl hQ dX5_kindHere_85
      · refine lv_iconst (pc := 38) (v := (nI 2)) hx hb dX5_kindHere_38 (by decide) ?_
        refine lv_goto (pc := 39) (tgt := 85) hx hb dX5_kindHere_39 (by decide) ?_
        exact z_iret (pc := 85) (fun q => q) hx hb hr hlocks hF rfl hQ dX5_kindHere_85
    · refine lv_iconst (pc := 24) (v := (nI 1)) hx hb dX5_kindHere_24 (by decide) ?_
      refine lv_goto (pc := 25) (tgt := 85) hx hb dX5_kindHere_25 (by decide) ?_
      exact z_iret (pc := 85) (fun q => q) hx hb hr hlocks hF rfl hQ dX5_kindHere_85
  · refine lv_iconst (pc := 10) (v := (nI 0)) hx hb dX5_kindHere_10 (by decide) ?_
    refine lv_goto (pc := 11) (tgt := 85) hx hb dX5_kindHere_11 (by decide) ?_
    exact z_iret (pc := 85) (fun q => q) hx hb hr hlocks hF rfl hQ dX5_kindHere_85

abbrev rX5_lawHere : Room := { frames := 1, cells := 0, slots := 0, locals := 22 }
abbrev wX5_lawHere (cB cI cJ cO : ClassId) (h0 : Nat) (g_row g_fresh g_kept g_tried g_isKept g_viewed g_tape g_tapeMany g_begins g_tokenEnds g_value g_good g_growing g_rows g_must g_rowMany g_sorts g_sizes g_sheets g_holds g_heldNumber g_heldSize g_kind g_number g_ownHand g_traced g_bodies g_isParted : Value) (v_sort : Int32) (v_word : Int64) : va_W := [(h0, .inr (5, [g_row, g_fresh, g_kept, g_tried, g_isKept, g_viewed, g_tape, g_tapeMany, .int v_sort, g_begins, g_tokenEnds, .long v_word, g_value, g_good, g_growing, g_rows, g_must, g_rowMany, g_sorts, g_sizes, g_sheets, g_holds, g_heldNumber, g_heldSize, g_kind, g_number, g_ownHand, g_traced, g_bodies, g_isParted]))]
theorem kX5_lawHere_0 : Cond.constantLong RX5 118 (lN 1077983065) ∈ wsX5_lawHere := by decide +kernel
theorem kX5_lawHere_1 : Cond.constantLong RX5 120 (lN 251996) ∈ wsX5_lawHere := by decide +kernel
theorem kX5_lawHere_2 : Cond.constantLong RX5 122 (lN 10170119) ∈ wsX5_lawHere := by decide +kernel
theorem kX5_lawHere_3 : Cond.constantLong RX5 124 (lN 121788) ∈ wsX5_lawHere := by decide +kernel
set_option maxHeartbeats 4000000 in
set_option maxRecDepth 100000 in
theorem tX5_lawHere {l : Launch} {D : va_G} {cB cI cJ cO : ClassId} (h0 : Nat) (g_row g_fresh g_kept g_tried g_isKept g_viewed g_tape g_tapeMany g_begins g_tokenEnds g_value g_good g_growing g_rows g_must g_rowMany g_sorts g_sizes g_sheets g_holds g_heldNumber g_heldSize g_kind g_number g_ownHand g_traced g_bodies g_isParted : Value) (v_sort : Int32) (v_word : Int64) (r : Int32) (hF : fX5_lawHere v_sort v_word = some r) : Met l yX5_lawHere wsX5_lawHere rX5_lawHere (zPre D cB cI cJ cO [.ref h0] (wX5_lawHere cB cI cJ cO h0 g_row g_fresh g_kept g_tried g_isKept g_viewed g_tape g_tapeMany g_begins g_tokenEnds g_value g_good g_growing g_rows g_must g_rowMany g_sorts g_sizes g_sheets g_holds g_heldNumber g_heldSize g_kind g_number g_ownHand g_traced g_bodies g_isParted v_sort v_word)) (zPI (some (.int r))) 0 0 (fun _ => False) := by
  refine zMetP (cc := cX5_lawHere) (maxL := 1) (ret := (some .int)) (lv := [(0, .ref h0)]) (by decide) rfl (Nat.le_of_ble_eq_true rfl) rfl ?_
  intro p e s m args below meth c ls Q hQ hx hb hr hml hown hts hlocks hname hP hE hD hl
  have hown : s.vm.findClass RX5 = some m.cls := hown
  have hK := hE.1
  unfold fX5_lawHere at hF
  refine lv_aload_n (pc := 0) hx hb dX5_lawHere_0 rfl (lv_at hl 0 rfl) ?_
  refine lv_ldc2 (pc := 1) hx hb hown (hts _ kX5_lawHere_0) dX5_lawHere_1 ?_
  obtain ⟨u4, hu4, hF⟩ := z_bind hF
  refine zq_call (oc0 := (some (.int u4))) (va_runV (As := [.long (lN 1077983065)]) (rest := []) ⟨hx, hb, hml, hown, hts⟩ (tX5_isWord (l := l) (D := D) (cB := cB) (cI := cI) (cJ := cJ) (cO := cO) h0 g_row g_fresh g_kept g_tried g_isKept g_viewed g_tape g_tapeMany g_begins g_tokenEnds g_value g_good g_growing g_rows g_must g_rowMany g_sorts g_sizes g_sheets g_holds g_heldNumber g_heldSize g_kind g_number g_ownHand g_traced g_bodies g_isParted v_sort v_word (lN 1077983065) u4 hu4) (cwV 1 hts gX5_lawHere_X5_isWord rfl rfl rfl (by decide +kernel) ⟨Nat.le_of_ble_eq_true rfl, Nat.le_of_ble_eq_true rfl⟩) ⟨zPre_blind, va_recv hK hP (ci := 5) (q0 := 0) rfl rfl, zPre_at hP hE hD [0] rfl rfl⟩ rfl rfl hl.1 rfl (lv_room (Nat.le_of_ble_eq_true rfl)) dX5_lawHere_4 ⟨Nat.zero_le _, Nat.zero_le _⟩) ?_
  refine W.eq (g2 := F0 m 7 ls [.int u4]) rfl ?_
  refine zb_if_eq (pc := 7) (tgt := 14) hx hb dX5_lawHere_7 (by decide) hF (fun c_7 hF => ?_) (fun c_7 hF => ?_)
  · refine lv_aload_n (pc := 14) hx hb dX5_lawHere_14 rfl (lv_at hl 0 rfl) ?_
    refine lv_ldc2 (pc := 15) hx hb hown (hts _ kX5_lawHere_1) dX5_lawHere_15 ?_
    obtain ⟨u18, hu18, hF⟩ := z_bind hF
    refine zq_call (oc0 := (some (.int u18))) (va_runV (As := [.long (lN 251996)]) (rest := []) ⟨hx, hb, hml, hown, hts⟩ (tX5_isWord (l := l) (D := D) (cB := cB) (cI := cI) (cJ := cJ) (cO := cO) h0 g_row g_fresh g_kept g_tried g_isKept g_viewed g_tape g_tapeMany g_begins g_tokenEnds g_value g_good g_growing g_rows g_must g_rowMany g_sorts g_sizes g_sheets g_holds g_heldNumber g_heldSize g_kind g_number g_ownHand g_traced g_bodies g_isParted v_sort v_word (lN 251996) u18 hu18) (cwV 1 hts gX5_lawHere_X5_isWord rfl rfl rfl (by decide +kernel) ⟨Nat.le_of_ble_eq_true rfl, Nat.le_of_ble_eq_true rfl⟩) ⟨zPre_blind, va_recv hK hP (ci := 5) (q0 := 0) rfl rfl, zPre_at hP hE hD [0] rfl rfl⟩ rfl rfl hl.1 rfl (lv_room (Nat.le_of_ble_eq_true rfl)) dX5_lawHere_18 ⟨Nat.zero_le _, Nat.zero_le _⟩) ?_
    refine W.eq (g2 := F0 m 21 ls [.int u18]) rfl ?_
    refine zb_if_eq (pc := 21) (tgt := 28) hx hb dX5_lawHere_21 (by decide) hF (fun c_21 hF => ?_) (fun c_21 hF => ?_)
    · refine lv_aload_n (pc := 28) hx hb dX5_lawHere_28 rfl (lv_at hl 0 rfl) ?_
      refine lv_ldc2 (pc := 29) hx hb hown (hts _ kX5_lawHere_2) dX5_lawHere_29 ?_
      obtain ⟨u32, hu32, hF⟩ := z_bind hF
      refine zq_call (oc0 := (some (.int u32))) (va_runV (As := [.long (lN 10170119)]) (rest := []) ⟨hx, hb, hml, hown, hts⟩ (tX5_isWord (l := l) (D := D) (cB := cB) (cI := cI) (cJ := cJ) (cO := cO) h0 g_row g_fresh g_kept g_tried g_isKept g_viewed g_tape g_tapeMany g_begins g_tokenEnds g_value g_good g_growing g_rows g_must g_rowMany g_sorts g_sizes g_sheets g_holds g_heldNumber g_heldSize g_kind g_number g_ownHand g_traced g_bodies g_isParted v_sort v_word (lN 10170119) u32 hu32) (cwV 1 hts gX5_lawHere_X5_isWord rfl rfl rfl (by decide +kernel) ⟨Nat.le_of_ble_eq_true rfl, Nat.le_of_ble_eq_true rfl⟩) ⟨zPre_blind, va_recv hK hP (ci := 5) (q0 := 0) rfl rfl, zPre_at hP hE hD [0] rfl rfl⟩ rfl rfl hl.1 rfl (lv_room (Nat.le_of_ble_eq_true rfl)) dX5_lawHere_32 ⟨Nat.zero_le _, Nat.zero_le _⟩) ?_
      refine W.eq (g2 := F0 m 35 ls [.int u32]) rfl ?_
      refine zb_if_eq (pc := 35) (tgt := 42) hx hb dX5_lawHere_35 (by decide) hF (fun c_35 hF => ?_) (fun c_35 hF => ?_)
      · refine lv_aload_n (pc := 42) hx hb dX5_lawHere_42 rfl (lv_at hl 0 rfl) ?_
        refine lv_ldc2 (pc := 43) hx hb hown (hts _ kX5_lawHere_3) dX5_lawHere_43 ?_
        obtain ⟨u46, hu46, hF⟩ := z_bind hF
        refine zq_call (oc0 := (some (.int u46))) (va_runV (As := [.long (lN 121788)]) (rest := []) ⟨hx, hb, hml, hown, hts⟩ (tX5_isWord (l := l) (D := D) (cB := cB) (cI := cI) (cJ := cJ) (cO := cO) h0 g_row g_fresh g_kept g_tried g_isKept g_viewed g_tape g_tapeMany g_begins g_tokenEnds g_value g_good g_growing g_rows g_must g_rowMany g_sorts g_sizes g_sheets g_holds g_heldNumber g_heldSize g_kind g_number g_ownHand g_traced g_bodies g_isParted v_sort v_word (lN 121788) u46 hu46) (cwV 1 hts gX5_lawHere_X5_isWord rfl rfl rfl (by decide +kernel) ⟨Nat.le_of_ble_eq_true rfl, Nat.le_of_ble_eq_true rfl⟩) ⟨zPre_blind, va_recv hK hP (ci := 5) (q0 := 0) rfl rfl, zPre_at hP hE hD [0] rfl rfl⟩ rfl rfl hl.1 rfl (lv_room (Nat.le_of_ble_eq_true rfl)) dX5_lawHere_46 ⟨Nat.zero_le _, Nat.zero_le _⟩) ?_
        refine W.eq (g2 := F0 m 49 ls [.int u46]) rfl ?_
        refine zb_if_eq (pc := 49) (tgt := 56) hx hb dX5_lawHere_49 (by decide) hF (fun c_49 hF => ?_) (fun c_49 hF => ?_)
        · refine lv_iconst (pc := 56) (v := (-1 : Int32)) hx hb dX5_lawHere_56 (by decide) ?_
          exact z_iret (pc := 57) (fun q => q) hx hb hr hlocks hF rfl hQ dX5_lawHere_57
        · refine lv_iconst (pc := 52) (v := (nI 3)) hx hb dX5_lawHere_52 (by decide) ?_
          refine lv_goto (pc := 53) (tgt := 57) hx hb dX5_lawHere_53 (by decide) ?_
          exact z_iret (pc := 57) (fun q => q) hx hb hr hlocks hF rfl hQ dX5_lawHere_57
      · refine lv_iconst (pc := 38) (v := (nI 2)) hx hb dX5_lawHere_38 (by decide) ?_
        refine lv_goto (pc := 39) (tgt := 57) hx hb dX5_lawHere_39 (by decide) ?_
        exact z_iret (pc := 57) (fun q => q) hx hb hr hlocks hF rfl hQ dX5_lawHere_57
    · refine lv_iconst (pc := 24) (v := (nI 1)) hx hb dX5_lawHere_24 (by decide) ?_
      refine lv_goto (pc := 25) (tgt := 57) hx hb dX5_lawHere_25 (by decide) ?_
      exact z_iret (pc := 57) (fun q => q) hx hb hr hlocks hF rfl hQ dX5_lawHere_57
  · refine lv_iconst (pc := 10) (v := (nI 0)) hx hb dX5_lawHere_10 (by decide) ?_
    refine lv_goto (pc := 11) (tgt := 57) hx hb dX5_lawHere_11 (by decide) ?_
    exact z_iret (pc := 57) (fun q => q) hx hb hr hlocks hF rfl hQ dX5_lawHere_57

abbrev rX5_groundHere : Room := { frames := 1, cells := 0, slots := 0, locals := 22 }
abbrev wX5_groundHere (cB cI cJ cO : ClassId) (h0 : Nat) (g_row g_fresh g_kept g_tried g_isKept g_viewed g_tape g_tapeMany g_begins g_tokenEnds g_value g_good g_growing g_rows g_must g_rowMany g_sorts g_sizes g_sheets g_holds g_heldNumber g_heldSize g_kind g_number g_ownHand g_traced g_bodies g_isParted : Value) (v_sort : Int32) (v_word : Int64) : va_W := [(h0, .inr (5, [g_row, g_fresh, g_kept, g_tried, g_isKept, g_viewed, g_tape, g_tapeMany, .int v_sort, g_begins, g_tokenEnds, .long v_word, g_value, g_good, g_growing, g_rows, g_must, g_rowMany, g_sorts, g_sizes, g_sheets, g_holds, g_heldNumber, g_heldSize, g_kind, g_number, g_ownHand, g_traced, g_bodies, g_isParted]))]
theorem kX5_groundHere_0 : Cond.constantLong RX5 126 (lN 11263) ∈ wsX5_groundHere := by decide +kernel
theorem kX5_groundHere_1 : Cond.constantLong RX5 128 (lN 151063) ∈ wsX5_groundHere := by decide +kernel
theorem kX5_groundHere_2 : Cond.constantLong RX5 130 (lN 16818) ∈ wsX5_groundHere := by decide +kernel
set_option maxHeartbeats 4000000 in
set_option maxRecDepth 100000 in
theorem tX5_groundHere {l : Launch} {D : va_G} {cB cI cJ cO : ClassId} (h0 : Nat) (g_row g_fresh g_kept g_tried g_isKept g_viewed g_tape g_tapeMany g_begins g_tokenEnds g_value g_good g_growing g_rows g_must g_rowMany g_sorts g_sizes g_sheets g_holds g_heldNumber g_heldSize g_kind g_number g_ownHand g_traced g_bodies g_isParted : Value) (v_sort : Int32) (v_word : Int64) (r : Int32) (hF : fX5_groundHere v_sort v_word = some r) : Met l yX5_groundHere wsX5_groundHere rX5_groundHere (zPre D cB cI cJ cO [.ref h0] (wX5_groundHere cB cI cJ cO h0 g_row g_fresh g_kept g_tried g_isKept g_viewed g_tape g_tapeMany g_begins g_tokenEnds g_value g_good g_growing g_rows g_must g_rowMany g_sorts g_sizes g_sheets g_holds g_heldNumber g_heldSize g_kind g_number g_ownHand g_traced g_bodies g_isParted v_sort v_word)) (zPI (some (.int r))) 0 0 (fun _ => False) := by
  refine zMetP (cc := cX5_groundHere) (maxL := 1) (ret := (some .int)) (lv := [(0, .ref h0)]) (by decide) rfl (Nat.le_of_ble_eq_true rfl) rfl ?_
  intro p e s m args below meth c ls Q hQ hx hb hr hml hown hts hlocks hname hP hE hD hl
  have hown : s.vm.findClass RX5 = some m.cls := hown
  have hK := hE.1
  unfold fX5_groundHere at hF
  refine lv_aload_n (pc := 0) hx hb dX5_groundHere_0 rfl (lv_at hl 0 rfl) ?_
  refine lv_ldc2 (pc := 1) hx hb hown (hts _ kX5_groundHere_0) dX5_groundHere_1 ?_
  obtain ⟨u4, hu4, hF⟩ := z_bind hF
  refine zq_call (oc0 := (some (.int u4))) (va_runV (As := [.long (lN 11263)]) (rest := []) ⟨hx, hb, hml, hown, hts⟩ (tX5_isWord (l := l) (D := D) (cB := cB) (cI := cI) (cJ := cJ) (cO := cO) h0 g_row g_fresh g_kept g_tried g_isKept g_viewed g_tape g_tapeMany g_begins g_tokenEnds g_value g_good g_growing g_rows g_must g_rowMany g_sorts g_sizes g_sheets g_holds g_heldNumber g_heldSize g_kind g_number g_ownHand g_traced g_bodies g_isParted v_sort v_word (lN 11263) u4 hu4) (cwV 1 hts gX5_groundHere_X5_isWord rfl rfl rfl (by decide +kernel) ⟨Nat.le_of_ble_eq_true rfl, Nat.le_of_ble_eq_true rfl⟩) ⟨zPre_blind, va_recv hK hP (ci := 5) (q0 := 0) rfl rfl, zPre_at hP hE hD [0] rfl rfl⟩ rfl rfl hl.1 rfl (lv_room (Nat.le_of_ble_eq_true rfl)) dX5_groundHere_4 ⟨Nat.zero_le _, Nat.zero_le _⟩) ?_
  refine W.eq (g2 := F0 m 7 ls [.int u4]) rfl ?_
  refine zb_if_eq (pc := 7) (tgt := 14) hx hb dX5_groundHere_7 (by decide) hF (fun c_7 hF => ?_) (fun c_7 hF => ?_)
  · refine lv_aload_n (pc := 14) hx hb dX5_groundHere_14 rfl (lv_at hl 0 rfl) ?_
    refine lv_ldc2 (pc := 15) hx hb hown (hts _ kX5_groundHere_1) dX5_groundHere_15 ?_
    obtain ⟨u18, hu18, hF⟩ := z_bind hF
    refine zq_call (oc0 := (some (.int u18))) (va_runV (As := [.long (lN 151063)]) (rest := []) ⟨hx, hb, hml, hown, hts⟩ (tX5_isWord (l := l) (D := D) (cB := cB) (cI := cI) (cJ := cJ) (cO := cO) h0 g_row g_fresh g_kept g_tried g_isKept g_viewed g_tape g_tapeMany g_begins g_tokenEnds g_value g_good g_growing g_rows g_must g_rowMany g_sorts g_sizes g_sheets g_holds g_heldNumber g_heldSize g_kind g_number g_ownHand g_traced g_bodies g_isParted v_sort v_word (lN 151063) u18 hu18) (cwV 1 hts gX5_groundHere_X5_isWord rfl rfl rfl (by decide +kernel) ⟨Nat.le_of_ble_eq_true rfl, Nat.le_of_ble_eq_true rfl⟩) ⟨zPre_blind, va_recv hK hP (ci := 5) (q0 := 0) rfl rfl, zPre_at hP hE hD [0] rfl rfl⟩ rfl rfl hl.1 rfl (lv_room (Nat.le_of_ble_eq_true rfl)) dX5_groundHere_18 ⟨Nat.zero_le _, Nat.zero_le _⟩) ?_
    refine W.eq (g2 := F0 m 21 ls [.int u18]) rfl ?_
    refine zb_if_eq (pc := 21) (tgt := 28) hx hb dX5_groundHere_21 (by decide) hF (fun c_21 hF => ?_) (fun c_21 hF => ?_)
    · refine lv_aload_n (pc := 28) hx hb dX5_groundHere_28 rfl (lv_at hl 0 rfl) ?_
      refine lv_ldc2 (pc := 29) hx hb hown (hts _ kX5_groundHere_2) dX5_groundHere_29 ?_
      obtain ⟨u32, hu32, hF⟩ := z_bind hF
      refine zq_call (oc0 := (some (.int u32))) (va_runV (As := [.long (lN 16818)]) (rest := []) ⟨hx, hb, hml, hown, hts⟩ (tX5_isWord (l := l) (D := D) (cB := cB) (cI := cI) (cJ := cJ) (cO := cO) h0 g_row g_fresh g_kept g_tried g_isKept g_viewed g_tape g_tapeMany g_begins g_tokenEnds g_value g_good g_growing g_rows g_must g_rowMany g_sorts g_sizes g_sheets g_holds g_heldNumber g_heldSize g_kind g_number g_ownHand g_traced g_bodies g_isParted v_sort v_word (lN 16818) u32 hu32) (cwV 1 hts gX5_groundHere_X5_isWord rfl rfl rfl (by decide +kernel) ⟨Nat.le_of_ble_eq_true rfl, Nat.le_of_ble_eq_true rfl⟩) ⟨zPre_blind, va_recv hK hP (ci := 5) (q0 := 0) rfl rfl, zPre_at hP hE hD [0] rfl rfl⟩ rfl rfl hl.1 rfl (lv_room (Nat.le_of_ble_eq_true rfl)) dX5_groundHere_32 ⟨Nat.zero_le _, Nat.zero_le _⟩) ?_
      refine W.eq (g2 := F0 m 35 ls [.int u32]) rfl ?_
      refine zb_if_eq (pc := 35) (tgt := 42) hx hb dX5_groundHere_35 (by decide) hF (fun c_35 hF => ?_) (fun c_35 hF => ?_)
      · refine lv_iconst (pc := 42) (v := (-1 : Int32)) hx hb dX5_groundHere_42 (by decide) ?_
        exact z_iret (pc := 43) (fun q => q) hx hb hr hlocks hF rfl hQ dX5_groundHere_43
      · refine lv_iconst (pc := 38) (v := (nI 2)) hx hb dX5_groundHere_38 (by decide) ?_
        refine lv_goto (pc := 39) (tgt := 43) hx hb dX5_groundHere_39 (by decide) ?_
        exact z_iret (pc := 43) (fun q => q) hx hb hr hlocks hF rfl hQ dX5_groundHere_43
    · refine lv_iconst (pc := 24) (v := (nI 1)) hx hb dX5_groundHere_24 (by decide) ?_
      refine lv_goto (pc := 25) (tgt := 43) hx hb dX5_groundHere_25 (by decide) ?_
      exact z_iret (pc := 43) (fun q => q) hx hb hr hlocks hF rfl hQ dX5_groundHere_43
  · refine lv_iconst (pc := 10) (v := (nI 0)) hx hb dX5_groundHere_10 (by decide) ?_
    refine lv_goto (pc := 11) (tgt := 43) hx hb dX5_groundHere_11 (by decide) ?_
    exact z_iret (pc := 43) (fun q => q) hx hb hr hlocks hF rfl hQ dX5_groundHere_43
