abbrev rX4_minds_S : Room := { frames := 2, cells := 0, slots := 0, locals := 44 }
abbrev wX4_minds_S (cB cI cJ cO : ClassId) (h0 h_now h_now_size h_sheets h_it h_it_values n_it : Nat) (g_tried g_told g_kept g_isKept g_tape g_taped g_rows g_rowCount g_shelfHolds g_shelfNames g_shelfRows g_thing g_mattering g_now_laws g_now_ground g_now_seen g_now_kind g_now_hand g_now_on g_now_away g_now_nightsPassed g_now_glances g_now_draws g_now_gained g_now_paintedOn g_now_wallLooks : Value) (v_now_count : Int32) (v_now_size : Nat → Int32) (v_sheets : Nat → Option Nat) (v_it_sort : Int32) (v_it_length : Int32) (v_it_values : Nat → Int32) : va_W := [(h0, .inr (4, [.ref h_now, g_tried, g_told, g_kept, g_isKept, g_tape, g_taped, g_rows, g_rowCount, .ref h_sheets, g_shelfHolds, g_shelfNames, g_shelfRows, g_thing, g_mattering])), (h_now, .inr (2, [g_now_laws, g_now_ground, g_now_seen, .int v_now_count, g_now_kind, g_now_hand, .ref h_now_size, g_now_on, g_now_away, g_now_nightsPassed, g_now_glances, g_now_draws, g_now_gained, g_now_paintedOn, g_now_wallLooks])), (h_now_size, .inl (cI, 8, .inl v_now_size)), (h_sheets, .inl (cO, 4, .inr (.inr (.inr (.inr v_sheets))))), (h_it, .inr (0, [.int v_it_sort, .int v_it_length, .ref h_it_values])), (h_it_values, .inl (cI, n_it, .inl v_it_values))]
theorem nX4_minds_S_X4 : ∀ w ∈ wsX40, w ∈ wsX4_minds := by decide +kernel
theorem nX4_minds_S_X2 : ∀ w ∈ wsX20, w ∈ wsX4_minds := by decide +kernel
theorem nX4_minds_S_X0 : ∀ w ∈ wsX00, w ∈ wsX4_minds := by decide +kernel
theorem kX4_minds_S_0 : Cond.fieldLink RX4 12 "PaintedWalls" "now" "LPaintedWalls$Town;" ∈ wsX4_minds := by decide +kernel
theorem kX4_minds_S_1 : Cond.fieldLink RX4 88 "PaintedWalls$Town" "count" "I" ∈ wsX4_minds := by decide +kernel
theorem kX4_minds_S_2 : Cond.fieldLink RX4 46 "PaintedWalls" "sheets" "[LPaintedWalls$Items;" ∈ wsX4_minds := by decide +kernel
theorem kX4_minds_S_3 : Cond.fieldLink RX4 228 "PaintedWalls$Items" "sort" "I" ∈ wsX4_minds := by decide +kernel
theorem kX4_minds_S_4 : Cond.fieldLink RX4 210 "PaintedWalls$Items" "length" "I" ∈ wsX4_minds := by decide +kernel
theorem kX4_minds_S_5 : Cond.fieldLink RX4 115 "PaintedWalls$Town" "size" "[I" ∈ wsX4_minds := by decide +kernel
theorem kX4_minds_S_6 : Cond.fieldLink RX4 213 "PaintedWalls$Items" "values" "[I" ∈ wsX4_minds := by decide +kernel
set_option maxHeartbeats 4000000 in
set_option maxRecDepth 100000 in
theorem tX4_minds_S {l : Launch} {D : va_G} {cB cI cJ cO : ClassId} (h0 h_now h_now_size h_sheets h_it h_it_values n_it : Nat) (g_tried g_told g_kept g_isKept g_tape g_taped g_rows g_rowCount g_shelfHolds g_shelfNames g_shelfRows g_thing g_mattering g_now_laws g_now_ground g_now_seen g_now_kind g_now_hand g_now_on g_now_away g_now_nightsPassed g_now_glances g_now_draws g_now_gained g_now_paintedOn g_now_wallLooks : Value) (v_now_count : Int32) (v_now_size : Nat → Int32) (v_sheets : Nat → Option Nat) (v_it_sort : Int32) (v_it_length : Int32) (v_it_values : Nat → Int32) (x1 : Int32) (x2 : Int32) (x3 : Int32) (x4 : Int32) (r : Int32 × (Nat → Int32)) (hF : fX4_minds_S v_now_count v_now_size v_sheets v_it_sort v_it_length v_it_values h_it n_it x1 x2 x3 x4 = some r) : Met l yX4_minds wsX4_minds rX4_minds_S (zPre D cB cI cJ cO [.ref h0, .int x1, .int x2, .int x3, .int x4] (wX4_minds_S cB cI cJ cO h0 h_now h_now_size h_sheets h_it h_it_values n_it g_tried g_told g_kept g_isKept g_tape g_taped g_rows g_rowCount g_shelfHolds g_shelfNames g_shelfRows g_thing g_mattering g_now_laws g_now_ground g_now_seen g_now_kind g_now_hand g_now_on g_now_away g_now_nightsPassed g_now_glances g_now_draws g_now_gained g_now_paintedOn g_now_wallLooks v_now_count v_now_size v_sheets v_it_sort v_it_length v_it_values)) (zPM (some (.int r.1)) D (wX4_minds_S cB cI cJ cO h0 h_now h_now_size h_sheets h_it h_it_values n_it g_tried g_told g_kept g_isKept g_tape g_taped g_rows g_rowCount g_shelfHolds g_shelfNames g_shelfRows g_thing g_mattering g_now_laws g_now_ground g_now_seen g_now_kind g_now_hand g_now_on g_now_away g_now_nightsPassed g_now_glances g_now_draws g_now_gained g_now_paintedOn g_now_wallLooks v_now_count r.2 v_sheets v_it_sort v_it_length v_it_values) (zAs [h0, h_now, h_now_size, h_sheets, h_it, h_it_values])) 0 0 (zAs [h0, h_now, h_now_size, h_sheets, h_it, h_it_values]) := by
  refine zMetM (cc := cX4_minds) (maxL := 7) (ret := (some .int)) (lv := [(0, .ref h0), (1, .int x1), (2, .int x2), (3, .int x3), (4, .int x4)]) rfl (by decide) rfl (Nat.le_of_ble_eq_true rfl) rfl ?_
  intro p e s m args below meth c ls Q H locs hQ hx hb hr hml hown hts hlocks hname hP hE hD hS hl
  have hown : s.vm.findClass RX4 = some m.cls := hown
  have hK := hE.1
  unfold fX4_minds_S at hF
  refine lv_iload_n (pc := 0) hx hb dX4_minds_0 rfl (lv_at hl 1 rfl) ?_
  refine lv_iconst (pc := 1) (v := (nI 4)) hx hb dX4_minds_1 (by decide) ?_
  obtain ⟨u2, hu2, hF⟩ := z_bind hF
  refine zq_call (oc0 := (some (.int u2))) (va_runS (As := [.int x1, .int (nI 4)]) (rest := []) ⟨hx, hb, hml, hown, hts⟩ (tX4_isBelow (l := l) (D := D) (cB := cB) (cI := cI) (cJ := cJ) (cO := cO) x1 (nI 4) u2 hu2) (va_cwS 2 hts gX4_minds_X4_isBelow rfl rfl rfl (by decide +kernel) ⟨Nat.le_of_ble_eq_true rfl, Nat.le_of_ble_eq_true rfl⟩) ⟨zPre_blind, zPre_at hP hE (zD_re hD rfl) [] rfl rfl⟩ rfl rfl hl.1 rfl (lv_room (Nat.le_of_ble_eq_true rfl)) dX4_minds_2 ⟨Nat.zero_le _, Nat.zero_le _⟩) ?_
  refine W.eq (g2 := F0 m 5 ls [.int u2]) rfl ?_
  refine zb_if_eq (pc := 5) (tgt := 42) hx hb dX4_minds_5 (by decide) hF (fun c_5 hF => ?_) (fun c_5 hF => ?_)
  · refine lv_iconst (pc := 42) (v := (-1 : Int32)) hx hb dX4_minds_42 (by decide) ?_
    exact z_iretM (pc := 43) (fun q => q.1) (fun q => (wX4_minds_S cB cI cJ cO h0 h_now h_now_size h_sheets h_it h_it_values n_it g_tried g_told g_kept g_isKept g_tape g_taped g_rows g_rowCount g_shelfHolds g_shelfNames g_shelfRows g_thing g_mattering g_now_laws g_now_ground g_now_seen g_now_kind g_now_hand g_now_on g_now_away g_now_nightsPassed g_now_glances g_now_draws g_now_gained g_now_paintedOn g_now_wallLooks v_now_count q.2 v_sheets v_it_sort v_it_length v_it_values)) hx hb hr hlocks hP hS hF rfl hQ dX4_minds_43
  · refine lv_aload_n (pc := 8) hx hb dX4_minds_8 rfl (lv_at hl 0 rfl) ?_
    refine lv_iload_n (pc := 9) hx hb dX4_minds_9 rfl (lv_at hl 3 rfl) ?_
    obtain ⟨u10, hu10, hF⟩ := z_bind hF
    refine zq_call (oc0 := (some (.int u10))) (va_runV (As := [.int x3]) (rest := []) ⟨hx, hb, hml, hown, hts⟩ (tX4_isName (l := l) (D := D) (cB := cB) (cI := cI) (cJ := cJ) (cO := cO) h0 h_now g_tried g_told g_kept g_isKept g_tape g_taped g_rows g_rowCount (.ref h_sheets) g_shelfHolds g_shelfNames g_shelfRows g_thing g_mattering g_now_laws g_now_ground g_now_seen g_now_kind g_now_hand (.ref h_now_size) g_now_on g_now_away g_now_nightsPassed g_now_glances g_now_draws g_now_gained g_now_paintedOn g_now_wallLooks v_now_count x3 u10 hu10) (cwV 1 hts gX4_minds_X4_isName rfl rfl rfl (by decide +kernel) ⟨Nat.le_of_ble_eq_true rfl, Nat.le_of_ble_eq_true rfl⟩) ⟨zPre_blind, va_recv hK hP (ci := 4) (q0 := 0) rfl rfl, zPre_at hP hE (zD_re hD rfl) [0, 1] rfl rfl⟩ rfl rfl hl.1 rfl (lv_room (Nat.le_of_ble_eq_true rfl)) dX4_minds_10 ⟨Nat.zero_le _, Nat.zero_le _⟩) ?_
    refine W.eq (g2 := F0 m 13 ls [.int u10]) rfl ?_
    refine zb_if_eq (pc := 13) (tgt := 42) hx hb dX4_minds_13 (by decide) hF (fun c_13 hF => ?_) (fun c_13 hF => ?_)
    · refine lv_iconst (pc := 42) (v := (-1 : Int32)) hx hb dX4_minds_42 (by decide) ?_
      exact z_iretM (pc := 43) (fun q => q.1) (fun q => (wX4_minds_S cB cI cJ cO h0 h_now h_now_size h_sheets h_it h_it_values n_it g_tried g_told g_kept g_isKept g_tape g_taped g_rows g_rowCount g_shelfHolds g_shelfNames g_shelfRows g_thing g_mattering g_now_laws g_now_ground g_now_seen g_now_kind g_now_hand g_now_on g_now_away g_now_nightsPassed g_now_glances g_now_draws g_now_gained g_now_paintedOn g_now_wallLooks v_now_count q.2 v_sheets v_it_sort v_it_length v_it_values)) hx hb hr hlocks hP hS hF rfl hQ dX4_minds_43
    · refine lv_iload (pc := 16) hx hb dX4_minds_16 (lv_at hl 4 rfl) ?_
      refine zb_if_lt (pc := 18) (tgt := 42) hx hb dX4_minds_18 (by decide) hF (fun c_18 hF => ?_) (fun c_18 hF => ?_)
      · refine lv_iconst (pc := 42) (v := (-1 : Int32)) hx hb dX4_minds_42 (by decide) ?_
        exact z_iretM (pc := 43) (fun q => q.1) (fun q => (wX4_minds_S cB cI cJ cO h0 h_now h_now_size h_sheets h_it h_it_values n_it g_tried g_told g_kept g_isKept g_tape g_taped g_rows g_rowCount g_shelfHolds g_shelfNames g_shelfRows g_thing g_mattering g_now_laws g_now_ground g_now_seen g_now_kind g_now_hand g_now_on g_now_away g_now_nightsPassed g_now_glances g_now_draws g_now_gained g_now_paintedOn g_now_wallLooks v_now_count q.2 v_sheets v_it_sort v_it_length v_it_values)) hx hb hr hlocks hP hS hF rfl hQ dX4_minds_43
      · refine lv_iload (pc := 21) hx hb dX4_minds_21 (lv_at hl 4 rfl) ?_
        refine lv_bipush (pc := 23) (v := (nI 8)) hx hb dX4_minds_23 (by decide) ?_
        refine zb_icmp_gt (pc := 25) (tgt := 42) hx hb dX4_minds_25 (by decide) hF (fun c_25 hF => ?_) (fun c_25 hF => ?_)
        · refine lv_iconst (pc := 42) (v := (-1 : Int32)) hx hb dX4_minds_42 (by decide) ?_
          exact z_iretM (pc := 43) (fun q => q.1) (fun q => (wX4_minds_S cB cI cJ cO h0 h_now h_now_size h_sheets h_it h_it_values n_it g_tried g_told g_kept g_isKept g_tape g_taped g_rows g_rowCount g_shelfHolds g_shelfNames g_shelfRows g_thing g_mattering g_now_laws g_now_ground g_now_seen g_now_kind g_now_hand g_now_on g_now_away g_now_nightsPassed g_now_glances g_now_draws g_now_gained g_now_paintedOn g_now_wallLooks v_now_count q.2 v_sheets v_it_sort v_it_length v_it_values)) hx hb hr hlocks hP hS hF rfl hQ dX4_minds_43
        · refine lv_iload (pc := 28) hx hb dX4_minds_28 (lv_at hl 4 rfl) ?_
          refine lv_aload_n (pc := 30) hx hb dX4_minds_30 rfl (lv_at hl 0 rfl) ?_
          refine va_get (D := D) (pc := 31) (ci := 4) (v := .ref h_now) (C := RX4) (T := TX4) (N := 15) hx hb hts nX4_minds_S_X4 hown hK hP 0 rfl rfl 0 (by decide) (hts _ kX4_minds_S_0) (fun _ h9 => h9) rfl dX4_minds_31 ?_
          refine va_get (D := D) (pc := 34) (ci := 2) (v := .int v_now_count) (C := RX2) (T := TX2) (N := 15) hx hb hts nX4_minds_S_X2 hown hK hP 1 rfl rfl 3 (by decide) (hts _ kX4_minds_S_1) (fun _ h9 => h9) rfl dX4_minds_34 ?_
          refine lv_iload_n (pc := 37) hx hb dX4_minds_37 rfl (lv_at hl 3 rfl) ?_
          refine lv_isub (pc := 38) hx hb dX4_minds_38 ?_
          refine zb_icmp_le (pc := 39) (tgt := 44) hx hb dX4_minds_39 (by decide) hF (fun c_39 hF => ?_) (fun c_39 hF => ?_)
          · refine lv_aload_n (pc := 44) hx hb dX4_minds_44 rfl (lv_at hl 0 rfl) ?_
            refine va_get (D := D) (pc := 45) (ci := 4) (v := .ref h_sheets) (C := RX4) (T := TX4) (N := 15) hx hb hts nX4_minds_S_X4 hown hK hP 0 rfl rfl 9 (by decide) (hts _ kX4_minds_S_2) (fun _ h9 => h9) rfl dX4_minds_45 ?_
            refine lv_iload_n (pc := 48) hx hb dX4_minds_48 rfl (lv_at hl 1 rfl) ?_
            refine za_aldS (pc := 49) hx hb hK hP 3 3 rfl rfl dX4_minds_49 hF (fun hF => ?_) (fun hF => ?_)
            · refine lv_astoreN (pc := 50) (lv' := [(5, .null), (0, .ref h0), (1, .int x1), (2, .int x2), (3, .int x3), (4, .int x4)]) hx hb dX4_minds_50 hl (by decide) rfl (fun ls hl => ?_)
              refine lv_aloadN (pc := 52) hx hb dX4_minds_52 (lv_at hl 0 rfl) ?_
              refine lv_ifnonnullN (pc := 54) hx hb dX4_minds_54 ?_
              refine lv_bipush (pc := 57) (v := (-11 : Int32)) hx hb dX4_minds_57 (by decide) ?_
              exact z_iretM (pc := 59) (fun q => q.1) (fun q => (wX4_minds_S cB cI cJ cO h0 h_now h_now_size h_sheets h_it h_it_values n_it g_tried g_told g_kept g_isKept g_tape g_taped g_rows g_rowCount g_shelfHolds g_shelfNames g_shelfRows g_thing g_mattering g_now_laws g_now_ground g_now_seen g_now_kind g_now_hand g_now_on g_now_away g_now_nightsPassed g_now_glances g_now_draws g_now_gained g_now_paintedOn g_now_wallLooks v_now_count q.2 v_sheets v_it_sort v_it_length v_it_values)) hx hb hr hlocks hP hS hF rfl hQ dX4_minds_59
            · refine lv_astore (pc := 50) (lv' := [(5, .ref h_it), (0, .ref h0), (1, .int x1), (2, .int x2), (3, .int x3), (4, .int x4)]) hx hb dX4_minds_50 hl (by decide) rfl (fun ls hl => ?_)
              refine lv_aload (pc := 52) hx hb dX4_minds_52 (lv_at hl 0 rfl) ?_
              refine lv_ifnonnull (pc := 54) (tgt := 60) hx hb dX4_minds_54 (by decide) ?_
              refine lv_aload (pc := 60) hx hb dX4_minds_60 (lv_at hl 0 rfl) ?_
              refine va_get (D := D) (pc := 62) (ci := 0) (v := .int v_it_sort) (C := RX0) (T := TX0) (N := 3) hx hb hts nX4_minds_S_X0 hown hK hP 4 rfl rfl 0 (by decide) (hts _ kX4_minds_S_3) (fun _ h9 => h9) rfl dX4_minds_62 ?_
              refine zb_if_eq (pc := 65) (tgt := 71) hx hb dX4_minds_65 (by decide) hF (fun c_65 hF => ?_) (fun c_65 hF => ?_)
              · refine lv_iload_n (pc := 71) hx hb dX4_minds_71 rfl (lv_at hl 3 rfl) ?_
                refine zb_if_lt (pc := 72) (tgt := 96) hx hb dX4_minds_72 (by decide) hF (fun c_72 hF => ?_) (fun c_72 hF => ?_)
                · refine lv_bipush (pc := 96) (v := (-12 : Int32)) hx hb dX4_minds_96 (by decide) ?_
                  exact z_iretM (pc := 98) (fun q => q.1) (fun q => (wX4_minds_S cB cI cJ cO h0 h_now h_now_size h_sheets h_it h_it_values n_it g_tried g_told g_kept g_isKept g_tape g_taped g_rows g_rowCount g_shelfHolds g_shelfNames g_shelfRows g_thing g_mattering g_now_laws g_now_ground g_now_seen g_now_kind g_now_hand g_now_on g_now_away g_now_nightsPassed g_now_glances g_now_draws g_now_gained g_now_paintedOn g_now_wallLooks v_now_count q.2 v_sheets v_it_sort v_it_length v_it_values)) hx hb hr hlocks hP hS hF rfl hQ dX4_minds_98
                · refine lv_iload_n (pc := 75) hx hb dX4_minds_75 rfl (lv_at hl 3 rfl) ?_
                  refine lv_aload (pc := 76) hx hb dX4_minds_76 (lv_at hl 0 rfl) ?_
                  refine va_get (D := D) (pc := 78) (ci := 0) (v := .int v_it_length) (C := RX0) (T := TX0) (N := 3) hx hb hts nX4_minds_S_X0 hown hK hP 4 rfl rfl 1 (by decide) (hts _ kX4_minds_S_4) (fun _ h9 => h9) rfl dX4_minds_78 ?_
                  refine zb_icmp_gt (pc := 81) (tgt := 96) hx hb dX4_minds_81 (by decide) hF (fun c_81 hF => ?_) (fun c_81 hF => ?_)
                  · refine lv_bipush (pc := 96) (v := (-12 : Int32)) hx hb dX4_minds_96 (by decide) ?_
                    exact z_iretM (pc := 98) (fun q => q.1) (fun q => (wX4_minds_S cB cI cJ cO h0 h_now h_now_size h_sheets h_it h_it_values n_it g_tried g_told g_kept g_isKept g_tape g_taped g_rows g_rowCount g_shelfHolds g_shelfNames g_shelfRows g_thing g_mattering g_now_laws g_now_ground g_now_seen g_now_kind g_now_hand g_now_on g_now_away g_now_nightsPassed g_now_glances g_now_draws g_now_gained g_now_paintedOn g_now_wallLooks v_now_count q.2 v_sheets v_it_sort v_it_length v_it_values)) hx hb hr hlocks hP hS hF rfl hQ dX4_minds_98
                  · refine lv_iload (pc := 84) hx hb dX4_minds_84 (lv_at hl 5 rfl) ?_
                    refine lv_aload (pc := 86) hx hb dX4_minds_86 (lv_at hl 0 rfl) ?_
                    refine va_get (D := D) (pc := 88) (ci := 0) (v := .int v_it_length) (C := RX0) (T := TX0) (N := 3) hx hb hts nX4_minds_S_X0 hown hK hP 4 rfl rfl 1 (by decide) (hts _ kX4_minds_S_4) (fun _ h9 => h9) rfl dX4_minds_88 ?_
                    refine lv_iload_n (pc := 91) hx hb dX4_minds_91 rfl (lv_at hl 3 rfl) ?_
                    refine lv_isub (pc := 92) hx hb dX4_minds_92 ?_
                    refine zb_icmp_le (pc := 93) (tgt := 99) hx hb dX4_minds_93 (by decide) hF (fun c_93 hF => ?_) (fun c_93 hF => ?_)
                    · refine lv_iconst (pc := 99) (v := (nI 0)) hx hb dX4_minds_99 (by decide) ?_
                      refine lv_istore (pc := 100) (lv' := [(6, .int (nI 0)), (5, .ref h_it), (0, .ref h0), (1, .int x1), (2, .int x2), (3, .int x3), (4, .int x4)]) hx hb dX4_minds_100 hl (by decide) rfl (fun ls hl => ?_)
                      obtain ⟨k_4, hk_4, hF⟩ := z_J hF
                      have kk_4 : ∀ (v_now_size_3 : Nat → Int32) , k_4 v_now_size_3 = some r → ∀ (H : Heap) (locs : List Loc), va_P D vwCl (wX4_minds_S cB cI cJ cO h0 h_now h_now_size h_sheets h_it h_it_values n_it g_tried g_told g_kept g_isKept g_tape g_taped g_rows g_rowCount g_shelfHolds g_shelfNames g_shelfRows g_thing g_mattering g_now_laws g_now_ground g_now_seen g_now_kind g_now_hand g_now_on g_now_away g_now_nightsPassed g_now_glances g_now_draws g_now_gained g_now_paintedOn g_now_wallLooks v_now_count v_now_size_3 v_sheets v_it_sort v_it_length v_it_values) H → va_S (zAs [h0, h_now, h_now_size, h_sheets, h_it, h_it_values]) s.heap H locs → ∀ (ls : Array Slot), lv_has ls 7 [(4, .int x4)] → W p l e rX4_minds_S s m args below meth c H locs 0 0 Q (F0 m 140 ls []) := by
                        intro v_now_size_3 hF H locs hP hS ls hl
                        rw [hk_4] at hF
                        refine lv_iload (pc := 140) hx hb dX4_minds_140 (lv_at hl 0 rfl) ?_
                        exact z_iretM (pc := 142) (fun q => q.1) (fun q => (wX4_minds_S cB cI cJ cO h0 h_now h_now_size h_sheets h_it h_it_values n_it g_tried g_told g_kept g_isKept g_tape g_taped g_rows g_rowCount g_shelfHolds g_shelfNames g_shelfRows g_thing g_mattering g_now_laws g_now_ground g_now_seen g_now_kind g_now_hand g_now_on g_now_away g_now_nightsPassed g_now_glances g_now_draws g_now_gained g_now_paintedOn g_now_wallLooks v_now_count q.2 v_sheets v_it_sort v_it_length v_it_values)) hx hb hr hlocks hP hS hF rfl hQ dX4_minds_142
                      have hL_102 : ∀ (n : Nat) (y6_1 : Int32) (v_now_size_2 : Nat → Int32) , fX4_minds_S_L102 v_it_values n_it x2 x3 x4 k_4 n y6_1 v_now_size_2 = some r → ∀ (H : Heap) (locs : List Loc), va_P D vwCl (wX4_minds_S cB cI cJ cO h0 h_now h_now_size h_sheets h_it h_it_values n_it g_tried g_told g_kept g_isKept g_tape g_taped g_rows g_rowCount g_shelfHolds g_shelfNames g_shelfRows g_thing g_mattering g_now_laws g_now_ground g_now_seen g_now_kind g_now_hand g_now_on g_now_away g_now_nightsPassed g_now_glances g_now_draws g_now_gained g_now_paintedOn g_now_wallLooks v_now_count v_now_size_2 v_sheets v_it_sort v_it_length v_it_values) H → va_S (zAs [h0, h_now, h_now_size, h_sheets, h_it, h_it_values]) s.heap H locs → ∀ (ls : Array Slot), lv_has ls 7 [(0, .ref h0), (2, .int x2), (3, .int x3), (4, .int x4), (5, .ref h_it), (6, .int y6_1)] → W p l e rX4_minds_S s m args below meth c H locs 0 0 Q (F0 m 102 ls []) := by
                        intro n
                        induction n with
                        | zero =>
                          intro y6_1 v_now_size_2 hF H locs hP hS ls hl
                          exact z_no hF
                        | succ n ih =>
                          intro y6_1 v_now_size_2 hF H locs hP hS ls hl
                          rw [fX4_minds_S_L102] at hF
                          refine lv_iload (pc := 102) hx hb dX4_minds_102 (lv_at hl 5 rfl) ?_
                          refine lv_iload (pc := 104) hx hb dX4_minds_104 (lv_at hl 3 rfl) ?_
                          refine zb_icmp_ge (pc := 106) (tgt := 140) hx hb dX4_minds_106 (by decide) hF (fun c_106 hF => ?_) (fun c_106 hF => ?_)
                          · exact kk_4 v_now_size_2 hF H locs hP hS ls (lv_sub hl [3] rfl)
                          · refine lv_aload_n (pc := 109) hx hb dX4_minds_109 rfl (lv_at hl 0 rfl) ?_
                            refine va_get (D := D) (pc := 110) (ci := 4) (v := .ref h_now) (C := RX4) (T := TX4) (N := 15) hx hb hts nX4_minds_S_X4 hown hK hP 0 rfl rfl 0 (by decide) (hts _ kX4_minds_S_0) (fun _ h9 => h9) rfl dX4_minds_110 ?_
                            refine va_get (D := D) (pc := 113) (ci := 2) (v := .ref h_now_size) (C := RX2) (T := TX2) (N := 15) hx hb hts nX4_minds_S_X2 hown hK hP 1 rfl rfl 6 (by decide) (hts _ kX4_minds_S_5) (fun _ h9 => h9) rfl dX4_minds_113 ?_
                            refine lv_iload_n (pc := 116) hx hb dX4_minds_116 rfl (lv_at hl 2 rfl) ?_
                            refine lv_iload (pc := 117) hx hb dX4_minds_117 (lv_at hl 5 rfl) ?_
                            refine lv_iadd (pc := 119) hx hb dX4_minds_119 ?_
                            refine lv_aload (pc := 120) hx hb dX4_minds_120 (lv_at hl 4 rfl) ?_
                            refine va_get (D := D) (pc := 122) (ci := 0) (v := .ref h_it_values) (C := RX0) (T := TX0) (N := 3) hx hb hts nX4_minds_S_X0 hown hK hP 4 rfl rfl 2 (by decide) (hts _ kX4_minds_S_6) (fun _ h9 => h9) rfl dX4_minds_122 ?_
                            refine lv_iload_n (pc := 125) hx hb dX4_minds_125 rfl (lv_at hl 1 rfl) ?_
                            refine lv_iload (pc := 126) hx hb dX4_minds_126 (lv_at hl 5 rfl) ?_
                            refine lv_iadd (pc := 128) hx hb dX4_minds_128 ?_
                            refine za_iald (pc := 129) hx hb hK hP 5 1 rfl rfl dX4_minds_129 hF (fun hF => ?_)
                            obtain ⟨u130, hu130, hF⟩ := z_bind hF
                            refine zq_call (oc0 := (some (.int u130))) (va_runS (As := [.int (v_it_values (x2 + y6_1).toNatClampNeg)]) (rest := [.int (x3 + y6_1), .ref h_now_size]) ⟨hx, hb, hml, hown, hts⟩ (tX4_heldSize (l := l) (D := D) (cB := cB) (cI := cI) (cJ := cJ) (cO := cO) (v_it_values (x2 + y6_1).toNatClampNeg) u130 hu130) (va_cwS 1 hts gX4_minds_X4_heldSize rfl rfl rfl (by decide +kernel) ⟨Nat.le_of_ble_eq_true rfl, Nat.le_of_ble_eq_true rfl⟩) ⟨zPre_blind, zPre_at hP hE (zD_re hD rfl) [] rfl rfl⟩ rfl rfl hl.1 rfl (lv_room (Nat.le_of_ble_eq_true rfl)) dX4_minds_130 ⟨Nat.zero_le _, Nat.zero_le _⟩) ?_
                            refine W.eq (g2 := F0 m 133 ls [.int u130, .int (x3 + y6_1), .ref h_now_size]) rfl ?_
                            refine za_iast (pc := 133) hx hb hK hP (zD_re hD rfl) hS 2 1 rfl rfl dX4_minds_133 hF (fun hF H locs hP hS => ?_)
                            have hP : va_P D vwCl (wX4_minds_S cB cI cJ cO h0 h_now h_now_size h_sheets h_it h_it_values n_it g_tried g_told g_kept g_isKept g_tape g_taped g_rows g_rowCount g_shelfHolds g_shelfNames g_shelfRows g_thing g_mattering g_now_laws g_now_ground g_now_seen g_now_kind g_now_hand g_now_on g_now_away g_now_nightsPassed g_now_glances g_now_draws g_now_gained g_now_paintedOn g_now_wallLooks v_now_count (upd v_now_size_2 (x3 + y6_1).toNatClampNeg u130) v_sheets v_it_sort v_it_length v_it_values) H := hP
                            refine lv_iinc (pc := 134) (v := (y6_1 + 1)) (lv' := [(6, .int (y6_1 + 1)), (0, .ref h0), (2, .int x2), (3, .int x3), (4, .int x4), (5, .ref h_it)]) hx hb dX4_minds_134 hl (k := 5) rfl rfl (by decide) rfl (fun ls hl => ?_)
                            refine lv_goto (pc := 137) (tgt := 102) hx hb dX4_minds_137 (by decide) ?_
                            exact ih (y6_1 + 1) (upd v_now_size_2 (x3 + y6_1).toNatClampNeg u130) hF H locs hP hS ls (lv_sub hl [1, 2, 3, 4, 5, 0] rfl)
                      exact hL_102 zK (nI 0) v_now_size hF H locs hP hS ls (lv_sub hl [2, 4, 5, 6, 1, 0] rfl)
                    · refine lv_bipush (pc := 96) (v := (-12 : Int32)) hx hb dX4_minds_96 (by decide) ?_
                      exact z_iretM (pc := 98) (fun q => q.1) (fun q => (wX4_minds_S cB cI cJ cO h0 h_now h_now_size h_sheets h_it h_it_values n_it g_tried g_told g_kept g_isKept g_tape g_taped g_rows g_rowCount g_shelfHolds g_shelfNames g_shelfRows g_thing g_mattering g_now_laws g_now_ground g_now_seen g_now_kind g_now_hand g_now_on g_now_away g_now_nightsPassed g_now_glances g_now_draws g_now_gained g_now_paintedOn g_now_wallLooks v_now_count q.2 v_sheets v_it_sort v_it_length v_it_values)) hx hb hr hlocks hP hS hF rfl hQ dX4_minds_98
              · refine lv_bipush (pc := 68) (v := (-13 : Int32)) hx hb dX4_minds_68 (by decide) ?_
                exact z_iretM (pc := 70) (fun q => q.1) (fun q => (wX4_minds_S cB cI cJ cO h0 h_now h_now_size h_sheets h_it h_it_values n_it g_tried g_told g_kept g_isKept g_tape g_taped g_rows g_rowCount g_shelfHolds g_shelfNames g_shelfRows g_thing g_mattering g_now_laws g_now_ground g_now_seen g_now_kind g_now_hand g_now_on g_now_away g_now_nightsPassed g_now_glances g_now_draws g_now_gained g_now_paintedOn g_now_wallLooks v_now_count q.2 v_sheets v_it_sort v_it_length v_it_values)) hx hb hr hlocks hP hS hF rfl hQ dX4_minds_70
          · refine lv_iconst (pc := 42) (v := (-1 : Int32)) hx hb dX4_minds_42 (by decide) ?_
            exact z_iretM (pc := 43) (fun q => q.1) (fun q => (wX4_minds_S cB cI cJ cO h0 h_now h_now_size h_sheets h_it h_it_values n_it g_tried g_told g_kept g_isKept g_tape g_taped g_rows g_rowCount g_shelfHolds g_shelfNames g_shelfRows g_thing g_mattering g_now_laws g_now_ground g_now_seen g_now_kind g_now_hand g_now_on g_now_away g_now_nightsPassed g_now_glances g_now_draws g_now_gained g_now_paintedOn g_now_wallLooks v_now_count q.2 v_sheets v_it_sort v_it_length v_it_values)) hx hb hr hlocks hP hS hF rfl hQ dX4_minds_43

abbrev rX4_minds_N : Room := { frames := 2, cells := 0, slots := 0, locals := 44 }
abbrev wX4_minds_N (cB cI cJ cO : ClassId) (h0 h_now h_now_size h_sheets : Nat) (g_tried g_told g_kept g_isKept g_tape g_taped g_rows g_rowCount g_shelfHolds g_shelfNames g_shelfRows g_thing g_mattering g_now_laws g_now_ground g_now_seen g_now_kind g_now_hand g_now_on g_now_away g_now_nightsPassed g_now_glances g_now_draws g_now_gained g_now_paintedOn g_now_wallLooks : Value) (v_now_count : Int32) (v_now_size : Nat → Int32) (v_sheets : Nat → Option Nat) : va_W := [(h0, .inr (4, [.ref h_now, g_tried, g_told, g_kept, g_isKept, g_tape, g_taped, g_rows, g_rowCount, .ref h_sheets, g_shelfHolds, g_shelfNames, g_shelfRows, g_thing, g_mattering])), (h_now, .inr (2, [g_now_laws, g_now_ground, g_now_seen, .int v_now_count, g_now_kind, g_now_hand, .ref h_now_size, g_now_on, g_now_away, g_now_nightsPassed, g_now_glances, g_now_draws, g_now_gained, g_now_paintedOn, g_now_wallLooks])), (h_now_size, .inl (cI, 8, .inl v_now_size)), (h_sheets, .inl (cO, 4, .inr (.inr (.inr (.inr v_sheets)))))]
theorem nX4_minds_N_X4 : ∀ w ∈ wsX40, w ∈ wsX4_minds := by decide +kernel
theorem nX4_minds_N_X2 : ∀ w ∈ wsX20, w ∈ wsX4_minds := by decide +kernel
theorem kX4_minds_N_0 : Cond.fieldLink RX4 12 "PaintedWalls" "now" "LPaintedWalls$Town;" ∈ wsX4_minds := by decide +kernel
theorem kX4_minds_N_1 : Cond.fieldLink RX4 88 "PaintedWalls$Town" "count" "I" ∈ wsX4_minds := by decide +kernel
theorem kX4_minds_N_2 : Cond.fieldLink RX4 46 "PaintedWalls" "sheets" "[LPaintedWalls$Items;" ∈ wsX4_minds := by decide +kernel
set_option maxHeartbeats 4000000 in
set_option maxRecDepth 100000 in
theorem tX4_minds_N {l : Launch} {D : va_G} {cB cI cJ cO : ClassId} (h0 h_now h_now_size h_sheets : Nat) (g_tried g_told g_kept g_isKept g_tape g_taped g_rows g_rowCount g_shelfHolds g_shelfNames g_shelfRows g_thing g_mattering g_now_laws g_now_ground g_now_seen g_now_kind g_now_hand g_now_on g_now_away g_now_nightsPassed g_now_glances g_now_draws g_now_gained g_now_paintedOn g_now_wallLooks : Value) (v_now_count : Int32) (v_now_size : Nat → Int32) (v_sheets : Nat → Option Nat) (x1 : Int32) (x2 : Int32) (x3 : Int32) (x4 : Int32) (r : Int32 × (Nat → Int32)) (hF : fX4_minds_N v_now_count v_now_size v_sheets x1 x2 x3 x4 = some r) : Met l yX4_minds wsX4_minds rX4_minds_N (zPre D cB cI cJ cO [.ref h0, .int x1, .int x2, .int x3, .int x4] (wX4_minds_N cB cI cJ cO h0 h_now h_now_size h_sheets g_tried g_told g_kept g_isKept g_tape g_taped g_rows g_rowCount g_shelfHolds g_shelfNames g_shelfRows g_thing g_mattering g_now_laws g_now_ground g_now_seen g_now_kind g_now_hand g_now_on g_now_away g_now_nightsPassed g_now_glances g_now_draws g_now_gained g_now_paintedOn g_now_wallLooks v_now_count v_now_size v_sheets)) (zPM (some (.int r.1)) D (wX4_minds_N cB cI cJ cO h0 h_now h_now_size h_sheets g_tried g_told g_kept g_isKept g_tape g_taped g_rows g_rowCount g_shelfHolds g_shelfNames g_shelfRows g_thing g_mattering g_now_laws g_now_ground g_now_seen g_now_kind g_now_hand g_now_on g_now_away g_now_nightsPassed g_now_glances g_now_draws g_now_gained g_now_paintedOn g_now_wallLooks v_now_count r.2 v_sheets) (zAs [h0, h_now, h_now_size, h_sheets])) 0 0 (zAs [h0, h_now, h_now_size, h_sheets]) := by
  refine zMetM (cc := cX4_minds) (maxL := 7) (ret := (some .int)) (lv := [(0, .ref h0), (1, .int x1), (2, .int x2), (3, .int x3), (4, .int x4)]) rfl (by decide) rfl (Nat.le_of_ble_eq_true rfl) rfl ?_
  intro p e s m args below meth c ls Q H locs hQ hx hb hr hml hown hts hlocks hname hP hE hD hS hl
  have hown : s.vm.findClass RX4 = some m.cls := hown
  have hK := hE.1
  unfold fX4_minds_N at hF
  refine lv_iload_n (pc := 0) hx hb dX4_minds_0 rfl (lv_at hl 1 rfl) ?_
  refine lv_iconst (pc := 1) (v := (nI 4)) hx hb dX4_minds_1 (by decide) ?_
  obtain ⟨u2, hu2, hF⟩ := z_bind hF
  refine zq_call (oc0 := (some (.int u2))) (va_runS (As := [.int x1, .int (nI 4)]) (rest := []) ⟨hx, hb, hml, hown, hts⟩ (tX4_isBelow (l := l) (D := D) (cB := cB) (cI := cI) (cJ := cJ) (cO := cO) x1 (nI 4) u2 hu2) (va_cwS 2 hts gX4_minds_X4_isBelow rfl rfl rfl (by decide +kernel) ⟨Nat.le_of_ble_eq_true rfl, Nat.le_of_ble_eq_true rfl⟩) ⟨zPre_blind, zPre_at hP hE (zD_re hD rfl) [] rfl rfl⟩ rfl rfl hl.1 rfl (lv_room (Nat.le_of_ble_eq_true rfl)) dX4_minds_2 ⟨Nat.zero_le _, Nat.zero_le _⟩) ?_
  refine W.eq (g2 := F0 m 5 ls [.int u2]) rfl ?_
  refine zb_if_eq (pc := 5) (tgt := 42) hx hb dX4_minds_5 (by decide) hF (fun c_5 hF => ?_) (fun c_5 hF => ?_)
  · refine lv_iconst (pc := 42) (v := (-1 : Int32)) hx hb dX4_minds_42 (by decide) ?_
    exact z_iretM (pc := 43) (fun q => q.1) (fun q => (wX4_minds_N cB cI cJ cO h0 h_now h_now_size h_sheets g_tried g_told g_kept g_isKept g_tape g_taped g_rows g_rowCount g_shelfHolds g_shelfNames g_shelfRows g_thing g_mattering g_now_laws g_now_ground g_now_seen g_now_kind g_now_hand g_now_on g_now_away g_now_nightsPassed g_now_glances g_now_draws g_now_gained g_now_paintedOn g_now_wallLooks v_now_count q.2 v_sheets)) hx hb hr hlocks hP hS hF rfl hQ dX4_minds_43
  · refine lv_aload_n (pc := 8) hx hb dX4_minds_8 rfl (lv_at hl 0 rfl) ?_
    refine lv_iload_n (pc := 9) hx hb dX4_minds_9 rfl (lv_at hl 3 rfl) ?_
    obtain ⟨u10, hu10, hF⟩ := z_bind hF
    refine zq_call (oc0 := (some (.int u10))) (va_runV (As := [.int x3]) (rest := []) ⟨hx, hb, hml, hown, hts⟩ (tX4_isName (l := l) (D := D) (cB := cB) (cI := cI) (cJ := cJ) (cO := cO) h0 h_now g_tried g_told g_kept g_isKept g_tape g_taped g_rows g_rowCount (.ref h_sheets) g_shelfHolds g_shelfNames g_shelfRows g_thing g_mattering g_now_laws g_now_ground g_now_seen g_now_kind g_now_hand (.ref h_now_size) g_now_on g_now_away g_now_nightsPassed g_now_glances g_now_draws g_now_gained g_now_paintedOn g_now_wallLooks v_now_count x3 u10 hu10) (cwV 1 hts gX4_minds_X4_isName rfl rfl rfl (by decide +kernel) ⟨Nat.le_of_ble_eq_true rfl, Nat.le_of_ble_eq_true rfl⟩) ⟨zPre_blind, va_recv hK hP (ci := 4) (q0 := 0) rfl rfl, zPre_at hP hE (zD_re hD rfl) [0, 1] rfl rfl⟩ rfl rfl hl.1 rfl (lv_room (Nat.le_of_ble_eq_true rfl)) dX4_minds_10 ⟨Nat.zero_le _, Nat.zero_le _⟩) ?_
    refine W.eq (g2 := F0 m 13 ls [.int u10]) rfl ?_
    refine zb_if_eq (pc := 13) (tgt := 42) hx hb dX4_minds_13 (by decide) hF (fun c_13 hF => ?_) (fun c_13 hF => ?_)
    · refine lv_iconst (pc := 42) (v := (-1 : Int32)) hx hb dX4_minds_42 (by decide) ?_
      exact z_iretM (pc := 43) (fun q => q.1) (fun q => (wX4_minds_N cB cI cJ cO h0 h_now h_now_size h_sheets g_tried g_told g_kept g_isKept g_tape g_taped g_rows g_rowCount g_shelfHolds g_shelfNames g_shelfRows g_thing g_mattering g_now_laws g_now_ground g_now_seen g_now_kind g_now_hand g_now_on g_now_away g_now_nightsPassed g_now_glances g_now_draws g_now_gained g_now_paintedOn g_now_wallLooks v_now_count q.2 v_sheets)) hx hb hr hlocks hP hS hF rfl hQ dX4_minds_43
    · refine lv_iload (pc := 16) hx hb dX4_minds_16 (lv_at hl 4 rfl) ?_
      refine zb_if_lt (pc := 18) (tgt := 42) hx hb dX4_minds_18 (by decide) hF (fun c_18 hF => ?_) (fun c_18 hF => ?_)
      · refine lv_iconst (pc := 42) (v := (-1 : Int32)) hx hb dX4_minds_42 (by decide) ?_
        exact z_iretM (pc := 43) (fun q => q.1) (fun q => (wX4_minds_N cB cI cJ cO h0 h_now h_now_size h_sheets g_tried g_told g_kept g_isKept g_tape g_taped g_rows g_rowCount g_shelfHolds g_shelfNames g_shelfRows g_thing g_mattering g_now_laws g_now_ground g_now_seen g_now_kind g_now_hand g_now_on g_now_away g_now_nightsPassed g_now_glances g_now_draws g_now_gained g_now_paintedOn g_now_wallLooks v_now_count q.2 v_sheets)) hx hb hr hlocks hP hS hF rfl hQ dX4_minds_43
      · refine lv_iload (pc := 21) hx hb dX4_minds_21 (lv_at hl 4 rfl) ?_
        refine lv_bipush (pc := 23) (v := (nI 8)) hx hb dX4_minds_23 (by decide) ?_
        refine zb_icmp_gt (pc := 25) (tgt := 42) hx hb dX4_minds_25 (by decide) hF (fun c_25 hF => ?_) (fun c_25 hF => ?_)
        · refine lv_iconst (pc := 42) (v := (-1 : Int32)) hx hb dX4_minds_42 (by decide) ?_
          exact z_iretM (pc := 43) (fun q => q.1) (fun q => (wX4_minds_N cB cI cJ cO h0 h_now h_now_size h_sheets g_tried g_told g_kept g_isKept g_tape g_taped g_rows g_rowCount g_shelfHolds g_shelfNames g_shelfRows g_thing g_mattering g_now_laws g_now_ground g_now_seen g_now_kind g_now_hand g_now_on g_now_away g_now_nightsPassed g_now_glances g_now_draws g_now_gained g_now_paintedOn g_now_wallLooks v_now_count q.2 v_sheets)) hx hb hr hlocks hP hS hF rfl hQ dX4_minds_43
        · refine lv_iload (pc := 28) hx hb dX4_minds_28 (lv_at hl 4 rfl) ?_
          refine lv_aload_n (pc := 30) hx hb dX4_minds_30 rfl (lv_at hl 0 rfl) ?_
          refine va_get (D := D) (pc := 31) (ci := 4) (v := .ref h_now) (C := RX4) (T := TX4) (N := 15) hx hb hts nX4_minds_N_X4 hown hK hP 0 rfl rfl 0 (by decide) (hts _ kX4_minds_N_0) (fun _ h9 => h9) rfl dX4_minds_31 ?_
          refine va_get (D := D) (pc := 34) (ci := 2) (v := .int v_now_count) (C := RX2) (T := TX2) (N := 15) hx hb hts nX4_minds_N_X2 hown hK hP 1 rfl rfl 3 (by decide) (hts _ kX4_minds_N_1) (fun _ h9 => h9) rfl dX4_minds_34 ?_
          refine lv_iload_n (pc := 37) hx hb dX4_minds_37 rfl (lv_at hl 3 rfl) ?_
          refine lv_isub (pc := 38) hx hb dX4_minds_38 ?_
          refine zb_icmp_le (pc := 39) (tgt := 44) hx hb dX4_minds_39 (by decide) hF (fun c_39 hF => ?_) (fun c_39 hF => ?_)
          · refine lv_aload_n (pc := 44) hx hb dX4_minds_44 rfl (lv_at hl 0 rfl) ?_
            refine va_get (D := D) (pc := 45) (ci := 4) (v := .ref h_sheets) (C := RX4) (T := TX4) (N := 15) hx hb hts nX4_minds_N_X4 hown hK hP 0 rfl rfl 9 (by decide) (hts _ kX4_minds_N_2) (fun _ h9 => h9) rfl dX4_minds_45 ?_
            refine lv_iload_n (pc := 48) hx hb dX4_minds_48 rfl (lv_at hl 1 rfl) ?_
            refine za_aldN (pc := 49) hx hb hK hP 3 3 rfl rfl dX4_minds_49 hF (fun hF => ?_)
            refine lv_astoreN (pc := 50) (lv' := [(5, .null), (0, .ref h0), (1, .int x1), (2, .int x2), (3, .int x3), (4, .int x4)]) hx hb dX4_minds_50 hl (by decide) rfl (fun ls hl => ?_)
            refine lv_aloadN (pc := 52) hx hb dX4_minds_52 (lv_at hl 0 rfl) ?_
            refine lv_ifnonnullN (pc := 54) hx hb dX4_minds_54 ?_
            refine lv_bipush (pc := 57) (v := (-11 : Int32)) hx hb dX4_minds_57 (by decide) ?_
            exact z_iretM (pc := 59) (fun q => q.1) (fun q => (wX4_minds_N cB cI cJ cO h0 h_now h_now_size h_sheets g_tried g_told g_kept g_isKept g_tape g_taped g_rows g_rowCount g_shelfHolds g_shelfNames g_shelfRows g_thing g_mattering g_now_laws g_now_ground g_now_seen g_now_kind g_now_hand g_now_on g_now_away g_now_nightsPassed g_now_glances g_now_draws g_now_gained g_now_paintedOn g_now_wallLooks v_now_count q.2 v_sheets)) hx hb hr hlocks hP hS hF rfl hQ dX4_minds_59
          · refine lv_iconst (pc := 42) (v := (-1 : Int32)) hx hb dX4_minds_42 (by decide) ?_
            exact z_iretM (pc := 43) (fun q => q.1) (fun q => (wX4_minds_N cB cI cJ cO h0 h_now h_now_size h_sheets g_tried g_told g_kept g_isKept g_tape g_taped g_rows g_rowCount g_shelfHolds g_shelfNames g_shelfRows g_thing g_mattering g_now_laws g_now_ground g_now_seen g_now_kind g_now_hand g_now_on g_now_away g_now_nightsPassed g_now_glances g_now_draws g_now_gained g_now_paintedOn g_now_wallLooks v_now_count q.2 v_sheets)) hx hb hr hlocks hP hS hF rfl hQ dX4_minds_43

abbrev rX4_narrowed : Room := { frames := 0, cells := 0, slots := 0, locals := 0 }
set_option maxHeartbeats 4000000 in
set_option maxRecDepth 100000 in
theorem tX4_narrowed {l : Launch} {D : va_G} {cB cI cJ cO : ClassId} (x0 : Int32) (x1 : Int32) (r : Int32) (hF : fX4_narrowed x0 x1 = some r) : Met l yX4_narrowed wsX4_narrowed rX4_narrowed (zPre D cB cI cJ cO [.int x0, .int x1] ([] : va_W)) (zPI (some (.int r))) 0 0 (fun _ => False) := by
  refine zMetP (cc := cX4_narrowed) (maxL := 2) (ret := (some .int)) (lv := [(0, .int x0), (1, .int x1)]) (by decide) rfl (Nat.le_of_ble_eq_true rfl) rfl ?_
  intro p e s m args below meth c ls Q hQ hx hb hr hml hown hts hlocks hname hP hE hD hl
  have hown : s.vm.findClass RX4 = some m.cls := hown
  have hK := hE.1
  unfold fX4_narrowed at hF
  refine lv_iload_n (pc := 0) hx hb dX4_narrowed_0 rfl (lv_at hl 0 rfl) ?_
  refine zb_if_ne (pc := 1) (tgt := 7) hx hb dX4_narrowed_1 (by decide) hF (fun c_1 hF => ?_) (fun c_1 hF => ?_)
  · refine lv_iload_n (pc := 7) hx hb dX4_narrowed_7 rfl (lv_at hl 0 rfl) ?_
    refine lv_iconst (pc := 8) (v := (nI 1)) hx hb dX4_narrowed_8 (by decide) ?_
    refine zb_icmp_ne (pc := 9) (tgt := 17) hx hb dX4_narrowed_9 (by decide) hF (fun c_9 hF => ?_) (fun c_9 hF => ?_)
    · refine lv_iload_n (pc := 17) hx hb dX4_narrowed_17 rfl (lv_at hl 1 rfl) ?_
      exact z_iret (pc := 18) (fun q => q) hx hb hr hlocks hF rfl hQ dX4_narrowed_18
    · refine lv_iload_n (pc := 12) hx hb dX4_narrowed_12 rfl (lv_at hl 1 rfl) ?_
      refine lv_i2s (pc := 13) (v := x1.toInt16.toInt32) hx hb dX4_narrowed_13 rfl ?_
      refine lv_goto (pc := 14) (tgt := 18) hx hb dX4_narrowed_14 (by decide) ?_
      exact z_iret (pc := 18) (fun q => q) hx hb hr hlocks hF rfl hQ dX4_narrowed_18
  · refine lv_iload_n (pc := 4) hx hb dX4_narrowed_4 rfl (lv_at hl 1 rfl) ?_
    refine lv_i2b (pc := 5) (v := x1.toInt8.toInt32) hx hb dX4_narrowed_5 rfl ?_
    exact z_iret (pc := 6) (fun q => q) hx hb hr hlocks hF rfl hQ dX4_narrowed_6

abbrev rX4_put_S : Room := { frames := 1, cells := 0, slots := 0, locals := 21 }
abbrev wX4_put_S (cB cI cJ cO : ClassId) (h0 h_sheets h_it h_it_values n_it : Nat) (g_now g_tried g_told g_kept g_isKept g_tape g_taped g_rows g_rowCount g_shelfHolds g_shelfNames g_shelfRows g_thing g_mattering : Value) (v_sheets : Nat → Option Nat) (v_it_sort : Int32) (v_it_length : Int32) (v_it_values : Nat → Int32) : va_W := [(h0, .inr (4, [g_now, g_tried, g_told, g_kept, g_isKept, g_tape, g_taped, g_rows, g_rowCount, .ref h_sheets, g_shelfHolds, g_shelfNames, g_shelfRows, g_thing, g_mattering])), (h_sheets, .inl (cO, 4, .inr (.inr (.inr (.inr v_sheets))))), (h_it, .inr (0, [.int v_it_sort, .int v_it_length, .ref h_it_values])), (h_it_values, .inl (cI, n_it, .inl v_it_values))]
theorem nX4_put_S_X4 : ∀ w ∈ wsX40, w ∈ wsX4_put := by decide +kernel
theorem nX4_put_S_X0 : ∀ w ∈ wsX00, w ∈ wsX4_put := by decide +kernel
theorem kX4_put_S_0 : Cond.fieldLink RX4 46 "PaintedWalls" "sheets" "[LPaintedWalls$Items;" ∈ wsX4_put := by decide +kernel
theorem kX4_put_S_1 : Cond.fieldLink RX4 210 "PaintedWalls$Items" "length" "I" ∈ wsX4_put := by decide +kernel
theorem kX4_put_S_2 : Cond.fieldLink RX4 213 "PaintedWalls$Items" "values" "[I" ∈ wsX4_put := by decide +kernel
theorem kX4_put_S_3 : Cond.fieldLink RX4 228 "PaintedWalls$Items" "sort" "I" ∈ wsX4_put := by decide +kernel
set_option maxHeartbeats 4000000 in
set_option maxRecDepth 100000 in
theorem tX4_put_S {l : Launch} {D : va_G} {cB cI cJ cO : ClassId} (h0 h_sheets h_it h_it_values n_it : Nat) (g_now g_tried g_told g_kept g_isKept g_tape g_taped g_rows g_rowCount g_shelfHolds g_shelfNames g_shelfRows g_thing g_mattering : Value) (v_sheets : Nat → Option Nat) (v_it_sort : Int32) (v_it_length : Int32) (v_it_values : Nat → Int32) (x1 : Int32) (x2 : Int32) (x3 : Int32) (r : Int32 × (Nat → Int32)) (hF : fX4_put_S v_sheets v_it_sort v_it_length v_it_values h_it n_it x1 x2 x3 = some r) : Met l yX4_put wsX4_put rX4_put_S (zPre D cB cI cJ cO [.ref h0, .int x1, .int x2, .int x3] (wX4_put_S cB cI cJ cO h0 h_sheets h_it h_it_values n_it g_now g_tried g_told g_kept g_isKept g_tape g_taped g_rows g_rowCount g_shelfHolds g_shelfNames g_shelfRows g_thing g_mattering v_sheets v_it_sort v_it_length v_it_values)) (zPM (some (.int r.1)) D (wX4_put_S cB cI cJ cO h0 h_sheets h_it h_it_values n_it g_now g_tried g_told g_kept g_isKept g_tape g_taped g_rows g_rowCount g_shelfHolds g_shelfNames g_shelfRows g_thing g_mattering v_sheets v_it_sort v_it_length r.2) (zAs [h0, h_sheets, h_it, h_it_values])) 0 0 (zAs [h0, h_sheets, h_it, h_it_values]) := by
  refine zMetM (cc := cX4_put) (maxL := 5) (ret := (some .int)) (lv := [(0, .ref h0), (1, .int x1), (2, .int x2), (3, .int x3)]) rfl (by decide) rfl (Nat.le_of_ble_eq_true rfl) rfl ?_
  intro p e s m args below meth c ls Q H locs hQ hx hb hr hml hown hts hlocks hname hP hE hD hS hl
  have hown : s.vm.findClass RX4 = some m.cls := hown
  have hK := hE.1
  unfold fX4_put_S at hF
  refine lv_iload_n (pc := 0) hx hb dX4_put_0 rfl (lv_at hl 1 rfl) ?_
  refine lv_iconst (pc := 1) (v := (nI 4)) hx hb dX4_put_1 (by decide) ?_
  obtain ⟨u2, hu2, hF⟩ := z_bind hF
  refine zq_call (oc0 := (some (.int u2))) (va_runS (As := [.int x1, .int (nI 4)]) (rest := []) ⟨hx, hb, hml, hown, hts⟩ (tX4_isBelow (l := l) (D := D) (cB := cB) (cI := cI) (cJ := cJ) (cO := cO) x1 (nI 4) u2 hu2) (va_cwS 2 hts gX4_put_X4_isBelow rfl rfl rfl (by decide +kernel) ⟨Nat.le_of_ble_eq_true rfl, Nat.le_of_ble_eq_true rfl⟩) ⟨zPre_blind, zPre_at hP hE (zD_re hD rfl) [] rfl rfl⟩ rfl rfl hl.1 rfl (lv_room (Nat.le_of_ble_eq_true rfl)) dX4_put_2 ⟨Nat.zero_le _, Nat.zero_le _⟩) ?_
  refine W.eq (g2 := F0 m 5 ls [.int u2]) rfl ?_
  refine zb_if_ne (pc := 5) (tgt := 10) hx hb dX4_put_5 (by decide) hF (fun c_5 hF => ?_) (fun c_5 hF => ?_)
  · refine lv_aload_n (pc := 10) hx hb dX4_put_10 rfl (lv_at hl 0 rfl) ?_
    refine va_get (D := D) (pc := 11) (ci := 4) (v := .ref h_sheets) (C := RX4) (T := TX4) (N := 15) hx hb hts nX4_put_S_X4 hown hK hP 0 rfl rfl 9 (by decide) (hts _ kX4_put_S_0) (fun _ h9 => h9) rfl dX4_put_11 ?_
    refine lv_iload_n (pc := 14) hx hb dX4_put_14 rfl (lv_at hl 1 rfl) ?_
    refine za_aldS (pc := 15) hx hb hK hP 1 3 rfl rfl dX4_put_15 hF (fun hF => ?_) (fun hF => ?_)
    · refine lv_astoreN (pc := 16) (lv' := [(4, .null), (0, .ref h0), (1, .int x1), (2, .int x2), (3, .int x3)]) hx hb dX4_put_16 hl (by decide) rfl (fun ls hl => ?_)
      refine lv_aloadN (pc := 18) hx hb dX4_put_18 (lv_at hl 0 rfl) ?_
      refine lv_ifnonnullN (pc := 20) hx hb dX4_put_20 ?_
      refine lv_bipush (pc := 23) (v := (-11 : Int32)) hx hb dX4_put_23 (by decide) ?_
      exact z_iretM (pc := 25) (fun q => q.1) (fun q => (wX4_put_S cB cI cJ cO h0 h_sheets h_it h_it_values n_it g_now g_tried g_told g_kept g_isKept g_tape g_taped g_rows g_rowCount g_shelfHolds g_shelfNames g_shelfRows g_thing g_mattering v_sheets v_it_sort v_it_length q.2)) hx hb hr hlocks hP hS hF rfl hQ dX4_put_25
    · refine lv_astore (pc := 16) (lv' := [(4, .ref h_it), (0, .ref h0), (1, .int x1), (2, .int x2), (3, .int x3)]) hx hb dX4_put_16 hl (by decide) rfl (fun ls hl => ?_)
      refine lv_aload (pc := 18) hx hb dX4_put_18 (lv_at hl 0 rfl) ?_
      refine lv_ifnonnull (pc := 20) (tgt := 26) hx hb dX4_put_20 (by decide) ?_
      refine lv_iload_n (pc := 26) hx hb dX4_put_26 rfl (lv_at hl 3 rfl) ?_
      refine lv_aload (pc := 27) hx hb dX4_put_27 (lv_at hl 0 rfl) ?_
      refine va_get (D := D) (pc := 29) (ci := 0) (v := .int v_it_length) (C := RX0) (T := TX0) (N := 3) hx hb hts nX4_put_S_X0 hown hK hP 2 rfl rfl 1 (by decide) (hts _ kX4_put_S_1) (fun _ h9 => h9) rfl dX4_put_29 ?_
      obtain ⟨u32, hu32, hF⟩ := z_bind hF
      refine zq_call (oc0 := (some (.int u32))) (va_runS (As := [.int x2, .int v_it_length]) (rest := []) ⟨hx, hb, hml, hown, hts⟩ (tX4_isBelow (l := l) (D := D) (cB := cB) (cI := cI) (cJ := cJ) (cO := cO) x2 v_it_length u32 hu32) (va_cwS 2 hts gX4_put_X4_isBelow rfl rfl rfl (by decide +kernel) ⟨Nat.le_of_ble_eq_true rfl, Nat.le_of_ble_eq_true rfl⟩) ⟨zPre_blind, zPre_at hP hE (zD_re hD rfl) [] rfl rfl⟩ rfl rfl hl.1 rfl (lv_room (Nat.le_of_ble_eq_true rfl)) dX4_put_32 ⟨Nat.zero_le _, Nat.zero_le _⟩) ?_
      refine W.eq (g2 := F0 m 35 ls [.int u32]) rfl ?_
      refine zb_if_ne (pc := 35) (tgt := 41) hx hb dX4_put_35 (by decide) hF (fun c_35 hF => ?_) (fun c_35 hF => ?_)
      · refine lv_aload (pc := 41) hx hb dX4_put_41 (lv_at hl 0 rfl) ?_
        refine va_get (D := D) (pc := 43) (ci := 0) (v := .ref h_it_values) (C := RX0) (T := TX0) (N := 3) hx hb hts nX4_put_S_X0 hown hK hP 2 rfl rfl 2 (by decide) (hts _ kX4_put_S_2) (fun _ h9 => h9) rfl dX4_put_43 ?_
        refine lv_iload_n (pc := 46) hx hb dX4_put_46 rfl (lv_at hl 3 rfl) ?_
        refine lv_aload (pc := 47) hx hb dX4_put_47 (lv_at hl 0 rfl) ?_
        refine va_get (D := D) (pc := 49) (ci := 0) (v := .int v_it_sort) (C := RX0) (T := TX0) (N := 3) hx hb hts nX4_put_S_X0 hown hK hP 2 rfl rfl 0 (by decide) (hts _ kX4_put_S_3) (fun _ h9 => h9) rfl dX4_put_49 ?_
        refine lv_iload_n (pc := 52) hx hb dX4_put_52 rfl (lv_at hl 4 rfl) ?_
        obtain ⟨u53, hu53, hF⟩ := z_bind hF
        refine zq_call (oc0 := (some (.int u53))) (va_runS (As := [.int v_it_sort, .int x3]) (rest := [.int x2, .ref h_it_values]) ⟨hx, hb, hml, hown, hts⟩ (tX4_narrowed (l := l) (D := D) (cB := cB) (cI := cI) (cJ := cJ) (cO := cO) v_it_sort x3 u53 hu53) (va_cwS 2 hts gX4_put_X4_narrowed rfl rfl rfl (by decide +kernel) ⟨Nat.le_of_ble_eq_true rfl, Nat.le_of_ble_eq_true rfl⟩) ⟨zPre_blind, zPre_at hP hE (zD_re hD rfl) [] rfl rfl⟩ rfl rfl hl.1 rfl (lv_room (Nat.le_of_ble_eq_true rfl)) dX4_put_53 ⟨Nat.zero_le _, Nat.zero_le _⟩) ?_
        refine W.eq (g2 := F0 m 56 ls [.int u53, .int x2, .ref h_it_values]) rfl ?_
        refine za_iast (pc := 56) hx hb hK hP (zD_re hD rfl) hS 3 1 rfl rfl dX4_put_56 hF (fun hF H locs hP hS => ?_)
        have hP : va_P D vwCl (wX4_put_S cB cI cJ cO h0 h_sheets h_it h_it_values n_it g_now g_tried g_told g_kept g_isKept g_tape g_taped g_rows g_rowCount g_shelfHolds g_shelfNames g_shelfRows g_thing g_mattering v_sheets v_it_sort v_it_length (upd v_it_values x2.toNatClampNeg u53)) H := hP
        refine lv_iconst (pc := 57) (v := (nI 1)) hx hb dX4_put_57 (by decide) ?_
        exact z_iretM (pc := 58) (fun q => q.1) (fun q => (wX4_put_S cB cI cJ cO h0 h_sheets h_it h_it_values n_it g_now g_tried g_told g_kept g_isKept g_tape g_taped g_rows g_rowCount g_shelfHolds g_shelfNames g_shelfRows g_thing g_mattering v_sheets v_it_sort v_it_length q.2)) hx hb hr hlocks hP hS hF rfl hQ dX4_put_58
      · refine lv_bipush (pc := 38) (v := (-12 : Int32)) hx hb dX4_put_38 (by decide) ?_
        exact z_iretM (pc := 40) (fun q => q.1) (fun q => (wX4_put_S cB cI cJ cO h0 h_sheets h_it h_it_values n_it g_now g_tried g_told g_kept g_isKept g_tape g_taped g_rows g_rowCount g_shelfHolds g_shelfNames g_shelfRows g_thing g_mattering v_sheets v_it_sort v_it_length q.2)) hx hb hr hlocks hP hS hF rfl hQ dX4_put_40
  · refine lv_iconst (pc := 8) (v := (-1 : Int32)) hx hb dX4_put_8 (by decide) ?_
    exact z_iretM (pc := 9) (fun q => q.1) (fun q => (wX4_put_S cB cI cJ cO h0 h_sheets h_it h_it_values n_it g_now g_tried g_told g_kept g_isKept g_tape g_taped g_rows g_rowCount g_shelfHolds g_shelfNames g_shelfRows g_thing g_mattering v_sheets v_it_sort v_it_length q.2)) hx hb hr hlocks hP hS hF rfl hQ dX4_put_9

abbrev rX4_put_N : Room := { frames := 1, cells := 0, slots := 0, locals := 21 }
abbrev wX4_put_N (cB cI cJ cO : ClassId) (h0 h_sheets : Nat) (g_now g_tried g_told g_kept g_isKept g_tape g_taped g_rows g_rowCount g_shelfHolds g_shelfNames g_shelfRows g_thing g_mattering : Value) (v_sheets : Nat → Option Nat) : va_W := [(h0, .inr (4, [g_now, g_tried, g_told, g_kept, g_isKept, g_tape, g_taped, g_rows, g_rowCount, .ref h_sheets, g_shelfHolds, g_shelfNames, g_shelfRows, g_thing, g_mattering])), (h_sheets, .inl (cO, 4, .inr (.inr (.inr (.inr v_sheets)))))]
theorem nX4_put_N_X4 : ∀ w ∈ wsX40, w ∈ wsX4_put := by decide +kernel
theorem kX4_put_N_0 : Cond.fieldLink RX4 46 "PaintedWalls" "sheets" "[LPaintedWalls$Items;" ∈ wsX4_put := by decide +kernel
set_option maxHeartbeats 4000000 in
set_option maxRecDepth 100000 in
theorem tX4_put_N {l : Launch} {D : va_G} {cB cI cJ cO : ClassId} (h0 h_sheets : Nat) (g_now g_tried g_told g_kept g_isKept g_tape g_taped g_rows g_rowCount g_shelfHolds g_shelfNames g_shelfRows g_thing g_mattering : Value) (v_sheets : Nat → Option Nat) (x1 : Int32) (x2 : Int32) (x3 : Int32) (r : Int32) (hF : fX4_put_N v_sheets x1 x2 x3 = some r) : Met l yX4_put wsX4_put rX4_put_N (zPre D cB cI cJ cO [.ref h0, .int x1, .int x2, .int x3] (wX4_put_N cB cI cJ cO h0 h_sheets g_now g_tried g_told g_kept g_isKept g_tape g_taped g_rows g_rowCount g_shelfHolds g_shelfNames g_shelfRows g_thing g_mattering v_sheets)) (zPI (some (.int r))) 0 0 (fun _ => False) := by
  refine zMetP (cc := cX4_put) (maxL := 5) (ret := (some .int)) (lv := [(0, .ref h0), (1, .int x1), (2, .int x2), (3, .int x3)]) (by decide) rfl (Nat.le_of_ble_eq_true rfl) rfl ?_
  intro p e s m args below meth c ls Q hQ hx hb hr hml hown hts hlocks hname hP hE hD hl
  have hown : s.vm.findClass RX4 = some m.cls := hown
  have hK := hE.1
  unfold fX4_put_N at hF
  refine lv_iload_n (pc := 0) hx hb dX4_put_0 rfl (lv_at hl 1 rfl) ?_
  refine lv_iconst (pc := 1) (v := (nI 4)) hx hb dX4_put_1 (by decide) ?_
  obtain ⟨u2, hu2, hF⟩ := z_bind hF
  refine zq_call (oc0 := (some (.int u2))) (va_runS (As := [.int x1, .int (nI 4)]) (rest := []) ⟨hx, hb, hml, hown, hts⟩ (tX4_isBelow (l := l) (D := D) (cB := cB) (cI := cI) (cJ := cJ) (cO := cO) x1 (nI 4) u2 hu2) (va_cwS 2 hts gX4_put_X4_isBelow rfl rfl rfl (by decide +kernel) ⟨Nat.le_of_ble_eq_true rfl, Nat.le_of_ble_eq_true rfl⟩) ⟨zPre_blind, zPre_at hP hE hD [] rfl rfl⟩ rfl rfl hl.1 rfl (lv_room (Nat.le_of_ble_eq_true rfl)) dX4_put_2 ⟨Nat.zero_le _, Nat.zero_le _⟩) ?_
  refine W.eq (g2 := F0 m 5 ls [.int u2]) rfl ?_
  refine zb_if_ne (pc := 5) (tgt := 10) hx hb dX4_put_5 (by decide) hF (fun c_5 hF => ?_) (fun c_5 hF => ?_)
  · refine lv_aload_n (pc := 10) hx hb dX4_put_10 rfl (lv_at hl 0 rfl) ?_
    refine va_get (D := D) (pc := 11) (ci := 4) (v := .ref h_sheets) (C := RX4) (T := TX4) (N := 15) hx hb hts nX4_put_N_X4 hown hK hP 0 rfl rfl 9 (by decide) (hts _ kX4_put_N_0) (fun _ h9 => h9) rfl dX4_put_11 ?_
    refine lv_iload_n (pc := 14) hx hb dX4_put_14 rfl (lv_at hl 1 rfl) ?_
    refine za_aldN (pc := 15) hx hb hK hP 1 3 rfl rfl dX4_put_15 hF (fun hF => ?_)
    refine lv_astoreN (pc := 16) (lv' := [(4, .null), (0, .ref h0), (1, .int x1), (2, .int x2), (3, .int x3)]) hx hb dX4_put_16 hl (by decide) rfl (fun ls hl => ?_)
    refine lv_aloadN (pc := 18) hx hb dX4_put_18 (lv_at hl 0 rfl) ?_
    refine lv_ifnonnullN (pc := 20) hx hb dX4_put_20 ?_
    refine lv_bipush (pc := 23) (v := (-11 : Int32)) hx hb dX4_put_23 (by decide) ?_
    exact z_iret (pc := 25) (fun q => q) hx hb hr hlocks hF rfl hQ dX4_put_25
  · refine lv_iconst (pc := 8) (v := (-1 : Int32)) hx hb dX4_put_8 (by decide) ?_
    exact z_iret (pc := 9) (fun q => q) hx hb hr hlocks hF rfl hQ dX4_put_9

abbrev rX4_item_S : Room := { frames := 1, cells := 0, slots := 0, locals := 21 }
abbrev wX4_item_S (cB cI cJ cO : ClassId) (h0 h_sheets h_it h_it_values n_it : Nat) (g_now g_tried g_told g_kept g_isKept g_tape g_taped g_rows g_rowCount g_shelfHolds g_shelfNames g_shelfRows g_thing g_mattering : Value) (v_sheets : Nat → Option Nat) (v_it_sort : Int32) (v_it_length : Int32) (v_it_values : Nat → Int32) : va_W := [(h0, .inr (4, [g_now, g_tried, g_told, g_kept, g_isKept, g_tape, g_taped, g_rows, g_rowCount, .ref h_sheets, g_shelfHolds, g_shelfNames, g_shelfRows, g_thing, g_mattering])), (h_sheets, .inl (cO, 4, .inr (.inr (.inr (.inr v_sheets))))), (h_it, .inr (0, [.int v_it_sort, .int v_it_length, .ref h_it_values])), (h_it_values, .inl (cI, n_it, .inl v_it_values))]
theorem nX4_item_S_X4 : ∀ w ∈ wsX40, w ∈ wsX4_item := by decide +kernel
theorem nX4_item_S_X0 : ∀ w ∈ wsX00, w ∈ wsX4_item := by decide +kernel
theorem kX4_item_S_0 : Cond.fieldLink RX4 46 "PaintedWalls" "sheets" "[LPaintedWalls$Items;" ∈ wsX4_item := by decide +kernel
theorem kX4_item_S_1 : Cond.fieldLink RX4 228 "PaintedWalls$Items" "sort" "I" ∈ wsX4_item := by decide +kernel
theorem kX4_item_S_2 : Cond.fieldLink RX4 210 "PaintedWalls$Items" "length" "I" ∈ wsX4_item := by decide +kernel
theorem kX4_item_S_3 : Cond.fieldLink RX4 213 "PaintedWalls$Items" "values" "[I" ∈ wsX4_item := by decide +kernel
set_option maxHeartbeats 4000000 in
set_option maxRecDepth 100000 in
theorem tX4_item_S {l : Launch} {D : va_G} {cB cI cJ cO : ClassId} (h0 h_sheets h_it h_it_values n_it : Nat) (g_now g_tried g_told g_kept g_isKept g_tape g_taped g_rows g_rowCount g_shelfHolds g_shelfNames g_shelfRows g_thing g_mattering : Value) (v_sheets : Nat → Option Nat) (v_it_sort : Int32) (v_it_length : Int32) (v_it_values : Nat → Int32) (x1 : Int32) (x2 : Int32) (x3 : Int32) (r : Int32) (hF : fX4_item_S v_sheets v_it_sort v_it_length v_it_values h_it n_it x1 x2 x3 = some r) : Met l yX4_item wsX4_item rX4_item_S (zPre D cB cI cJ cO [.ref h0, .int x1, .int x2, .int x3] (wX4_item_S cB cI cJ cO h0 h_sheets h_it h_it_values n_it g_now g_tried g_told g_kept g_isKept g_tape g_taped g_rows g_rowCount g_shelfHolds g_shelfNames g_shelfRows g_thing g_mattering v_sheets v_it_sort v_it_length v_it_values)) (zPI (some (.int r))) 0 0 (fun _ => False) := by
  refine zMetP (cc := cX4_item) (maxL := 5) (ret := (some .int)) (lv := [(0, .ref h0), (1, .int x1), (2, .int x2), (3, .int x3)]) (by decide) rfl (Nat.le_of_ble_eq_true rfl) rfl ?_
  intro p e s m args below meth c ls Q hQ hx hb hr hml hown hts hlocks hname hP hE hD hl
  have hown : s.vm.findClass RX4 = some m.cls := hown
  have hK := hE.1
  unfold fX4_item_S at hF
  refine lv_iload_n (pc := 0) hx hb dX4_item_0 rfl (lv_at hl 1 rfl) ?_
  refine lv_iconst (pc := 1) (v := (nI 4)) hx hb dX4_item_1 (by decide) ?_
  obtain ⟨u2, hu2, hF⟩ := z_bind hF
  refine zq_call (oc0 := (some (.int u2))) (va_runS (As := [.int x1, .int (nI 4)]) (rest := []) ⟨hx, hb, hml, hown, hts⟩ (tX4_isBelow (l := l) (D := D) (cB := cB) (cI := cI) (cJ := cJ) (cO := cO) x1 (nI 4) u2 hu2) (va_cwS 2 hts gX4_item_X4_isBelow rfl rfl rfl (by decide +kernel) ⟨Nat.le_of_ble_eq_true rfl, Nat.le_of_ble_eq_true rfl⟩) ⟨zPre_blind, zPre_at hP hE hD [] rfl rfl⟩ rfl rfl hl.1 rfl (lv_room (Nat.le_of_ble_eq_true rfl)) dX4_item_2 ⟨Nat.zero_le _, Nat.zero_le _⟩) ?_
  refine W.eq (g2 := F0 m 5 ls [.int u2]) rfl ?_
  refine zb_if_eq (pc := 5) (tgt := 16) hx hb dX4_item_5 (by decide) hF (fun c_5 hF => ?_) (fun c_5 hF => ?_)
  · refine lv_iconst (pc := 16) (v := (-1 : Int32)) hx hb dX4_item_16 (by decide) ?_
    exact z_iret (pc := 17) (fun q => q) hx hb hr hlocks hF rfl hQ dX4_item_17
  · refine lv_iload_n (pc := 8) hx hb dX4_item_8 rfl (lv_at hl 2 rfl) ?_
    refine lv_iconst (pc := 9) (v := (nI 4)) hx hb dX4_item_9 (by decide) ?_
    obtain ⟨u10, hu10, hF⟩ := z_bind hF
    refine zq_call (oc0 := (some (.int u10))) (va_runS (As := [.int x2, .int (nI 4)]) (rest := []) ⟨hx, hb, hml, hown, hts⟩ (tX4_isBelow (l := l) (D := D) (cB := cB) (cI := cI) (cJ := cJ) (cO := cO) x2 (nI 4) u10 hu10) (va_cwS 2 hts gX4_item_X4_isBelow rfl rfl rfl (by decide +kernel) ⟨Nat.le_of_ble_eq_true rfl, Nat.le_of_ble_eq_true rfl⟩) ⟨zPre_blind, zPre_at hP hE hD [] rfl rfl⟩ rfl rfl hl.1 rfl (lv_room (Nat.le_of_ble_eq_true rfl)) dX4_item_10 ⟨Nat.zero_le _, Nat.zero_le _⟩) ?_
    refine W.eq (g2 := F0 m 13 ls [.int u10]) rfl ?_
    refine zb_if_ne (pc := 13) (tgt := 18) hx hb dX4_item_13 (by decide) hF (fun c_13 hF => ?_) (fun c_13 hF => ?_)
    · refine lv_aload_n (pc := 18) hx hb dX4_item_18 rfl (lv_at hl 0 rfl) ?_
      refine va_get (D := D) (pc := 19) (ci := 4) (v := .ref h_sheets) (C := RX4) (T := TX4) (N := 15) hx hb hts nX4_item_S_X4 hown hK hP 0 rfl rfl 9 (by decide) (hts _ kX4_item_S_0) (fun _ h9 => h9) rfl dX4_item_19 ?_
      refine lv_iload_n (pc := 22) hx hb dX4_item_22 rfl (lv_at hl 1 rfl) ?_
      refine za_aldS (pc := 23) hx hb hK hP 1 3 rfl rfl dX4_item_23 hF (fun hF => ?_) (fun hF => ?_)
      · refine lv_astoreN (pc := 24) (lv' := [(4, .null), (0, .ref h0), (1, .int x1), (2, .int x2), (3, .int x3)]) hx hb dX4_item_24 hl (by decide) rfl (fun ls hl => ?_)
        refine lv_aloadN (pc := 26) hx hb dX4_item_26 (lv_at hl 0 rfl) ?_
        refine lv_ifnonnullN (pc := 28) hx hb dX4_item_28 ?_
        refine lv_bipush (pc := 31) (v := (-11 : Int32)) hx hb dX4_item_31 (by decide) ?_
        exact z_iret (pc := 33) (fun q => q) hx hb hr hlocks hF rfl hQ dX4_item_33
      · refine lv_astore (pc := 24) (lv' := [(4, .ref h_it), (0, .ref h0), (1, .int x1), (2, .int x2), (3, .int x3)]) hx hb dX4_item_24 hl (by decide) rfl (fun ls hl => ?_)
        refine lv_aload (pc := 26) hx hb dX4_item_26 (lv_at hl 0 rfl) ?_
        refine lv_ifnonnull (pc := 28) (tgt := 34) hx hb dX4_item_28 (by decide) ?_
        refine lv_aload (pc := 34) hx hb dX4_item_34 (lv_at hl 0 rfl) ?_
        refine va_get (D := D) (pc := 36) (ci := 0) (v := .int v_it_sort) (C := RX0) (T := TX0) (N := 3) hx hb hts nX4_item_S_X0 hown hK hP 2 rfl rfl 0 (by decide) (hts _ kX4_item_S_1) (fun _ h9 => h9) rfl dX4_item_36 ?_
        refine lv_iload_n (pc := 39) hx hb dX4_item_39 rfl (lv_at hl 3 rfl) ?_
        refine zb_icmp_eq (pc := 40) (tgt := 46) hx hb dX4_item_40 (by decide) hF (fun c_40 hF => ?_) (fun c_40 hF => ?_)
        · refine lv_iload_n (pc := 46) hx hb dX4_item_46 rfl (lv_at hl 4 rfl) ?_
          refine lv_aload (pc := 47) hx hb dX4_item_47 (lv_at hl 0 rfl) ?_
          refine va_get (D := D) (pc := 49) (ci := 0) (v := .int v_it_length) (C := RX0) (T := TX0) (N := 3) hx hb hts nX4_item_S_X0 hown hK hP 2 rfl rfl 1 (by decide) (hts _ kX4_item_S_2) (fun _ h9 => h9) rfl dX4_item_49 ?_
          obtain ⟨u52, hu52, hF⟩ := z_bind hF
          refine zq_call (oc0 := (some (.int u52))) (va_runS (As := [.int x3, .int v_it_length]) (rest := []) ⟨hx, hb, hml, hown, hts⟩ (tX4_isBelow (l := l) (D := D) (cB := cB) (cI := cI) (cJ := cJ) (cO := cO) x3 v_it_length u52 hu52) (va_cwS 2 hts gX4_item_X4_isBelow rfl rfl rfl (by decide +kernel) ⟨Nat.le_of_ble_eq_true rfl, Nat.le_of_ble_eq_true rfl⟩) ⟨zPre_blind, zPre_at hP hE hD [] rfl rfl⟩ rfl rfl hl.1 rfl (lv_room (Nat.le_of_ble_eq_true rfl)) dX4_item_52 ⟨Nat.zero_le _, Nat.zero_le _⟩) ?_
          refine W.eq (g2 := F0 m 55 ls [.int u52]) rfl ?_
          refine zb_if_eq (pc := 55) (tgt := 68) hx hb dX4_item_55 (by decide) hF (fun c_55 hF => ?_) (fun c_55 hF => ?_)
          · refine lv_bipush (pc := 68) (v := (-12 : Int32)) hx hb dX4_item_68 (by decide) ?_
            exact z_iret (pc := 70) (fun q => q) hx hb hr hlocks hF rfl hQ dX4_item_70
          · refine lv_aload (pc := 58) hx hb dX4_item_58 (lv_at hl 0 rfl) ?_
            refine va_get (D := D) (pc := 60) (ci := 0) (v := .ref h_it_values) (C := RX0) (T := TX0) (N := 3) hx hb hts nX4_item_S_X0 hown hK hP 2 rfl rfl 2 (by decide) (hts _ kX4_item_S_3) (fun _ h9 => h9) rfl dX4_item_60 ?_
            refine lv_iload_n (pc := 63) hx hb dX4_item_63 rfl (lv_at hl 4 rfl) ?_
            refine za_iald (pc := 64) hx hb hK hP 3 1 rfl rfl dX4_item_64 hF (fun hF => ?_)
            refine lv_goto (pc := 65) (tgt := 70) hx hb dX4_item_65 (by decide) ?_
            exact z_iret (pc := 70) (fun q => q) hx hb hr hlocks hF rfl hQ dX4_item_70
        · refine lv_bipush (pc := 43) (v := (-13 : Int32)) hx hb dX4_item_43 (by decide) ?_
          exact z_iret (pc := 45) (fun q => q) hx hb hr hlocks hF rfl hQ dX4_item_45
    · refine lv_iconst (pc := 16) (v := (-1 : Int32)) hx hb dX4_item_16 (by decide) ?_
      exact z_iret (pc := 17) (fun q => q) hx hb hr hlocks hF rfl hQ dX4_item_17

abbrev rX4_item_N : Room := { frames := 1, cells := 0, slots := 0, locals := 21 }
abbrev wX4_item_N (cB cI cJ cO : ClassId) (h0 h_sheets : Nat) (g_now g_tried g_told g_kept g_isKept g_tape g_taped g_rows g_rowCount g_shelfHolds g_shelfNames g_shelfRows g_thing g_mattering : Value) (v_sheets : Nat → Option Nat) : va_W := [(h0, .inr (4, [g_now, g_tried, g_told, g_kept, g_isKept, g_tape, g_taped, g_rows, g_rowCount, .ref h_sheets, g_shelfHolds, g_shelfNames, g_shelfRows, g_thing, g_mattering])), (h_sheets, .inl (cO, 4, .inr (.inr (.inr (.inr v_sheets)))))]
theorem nX4_item_N_X4 : ∀ w ∈ wsX40, w ∈ wsX4_item := by decide +kernel
theorem kX4_item_N_0 : Cond.fieldLink RX4 46 "PaintedWalls" "sheets" "[LPaintedWalls$Items;" ∈ wsX4_item := by decide +kernel
set_option maxHeartbeats 4000000 in
set_option maxRecDepth 100000 in
theorem tX4_item_N {l : Launch} {D : va_G} {cB cI cJ cO : ClassId} (h0 h_sheets : Nat) (g_now g_tried g_told g_kept g_isKept g_tape g_taped g_rows g_rowCount g_shelfHolds g_shelfNames g_shelfRows g_thing g_mattering : Value) (v_sheets : Nat → Option Nat) (x1 : Int32) (x2 : Int32) (x3 : Int32) (r : Int32) (hF : fX4_item_N v_sheets x1 x2 x3 = some r) : Met l yX4_item wsX4_item rX4_item_N (zPre D cB cI cJ cO [.ref h0, .int x1, .int x2, .int x3] (wX4_item_N cB cI cJ cO h0 h_sheets g_now g_tried g_told g_kept g_isKept g_tape g_taped g_rows g_rowCount g_shelfHolds g_shelfNames g_shelfRows g_thing g_mattering v_sheets)) (zPI (some (.int r))) 0 0 (fun _ => False) := by
  refine zMetP (cc := cX4_item) (maxL := 5) (ret := (some .int)) (lv := [(0, .ref h0), (1, .int x1), (2, .int x2), (3, .int x3)]) (by decide) rfl (Nat.le_of_ble_eq_true rfl) rfl ?_
  intro p e s m args below meth c ls Q hQ hx hb hr hml hown hts hlocks hname hP hE hD hl
  have hown : s.vm.findClass RX4 = some m.cls := hown
  have hK := hE.1
  unfold fX4_item_N at hF
  refine lv_iload_n (pc := 0) hx hb dX4_item_0 rfl (lv_at hl 1 rfl) ?_
  refine lv_iconst (pc := 1) (v := (nI 4)) hx hb dX4_item_1 (by decide) ?_
  obtain ⟨u2, hu2, hF⟩ := z_bind hF
  refine zq_call (oc0 := (some (.int u2))) (va_runS (As := [.int x1, .int (nI 4)]) (rest := []) ⟨hx, hb, hml, hown, hts⟩ (tX4_isBelow (l := l) (D := D) (cB := cB) (cI := cI) (cJ := cJ) (cO := cO) x1 (nI 4) u2 hu2) (va_cwS 2 hts gX4_item_X4_isBelow rfl rfl rfl (by decide +kernel) ⟨Nat.le_of_ble_eq_true rfl, Nat.le_of_ble_eq_true rfl⟩) ⟨zPre_blind, zPre_at hP hE hD [] rfl rfl⟩ rfl rfl hl.1 rfl (lv_room (Nat.le_of_ble_eq_true rfl)) dX4_item_2 ⟨Nat.zero_le _, Nat.zero_le _⟩) ?_
  refine W.eq (g2 := F0 m 5 ls [.int u2]) rfl ?_
  refine zb_if_eq (pc := 5) (tgt := 16) hx hb dX4_item_5 (by decide) hF (fun c_5 hF => ?_) (fun c_5 hF => ?_)
  · refine lv_iconst (pc := 16) (v := (-1 : Int32)) hx hb dX4_item_16 (by decide) ?_
    exact z_iret (pc := 17) (fun q => q) hx hb hr hlocks hF rfl hQ dX4_item_17
  · refine lv_iload_n (pc := 8) hx hb dX4_item_8 rfl (lv_at hl 2 rfl) ?_
    refine lv_iconst (pc := 9) (v := (nI 4)) hx hb dX4_item_9 (by decide) ?_
    obtain ⟨u10, hu10, hF⟩ := z_bind hF
    refine zq_call (oc0 := (some (.int u10))) (va_runS (As := [.int x2, .int (nI 4)]) (rest := []) ⟨hx, hb, hml, hown, hts⟩ (tX4_isBelow (l := l) (D := D) (cB := cB) (cI := cI) (cJ := cJ) (cO := cO) x2 (nI 4) u10 hu10) (va_cwS 2 hts gX4_item_X4_isBelow rfl rfl rfl (by decide +kernel) ⟨Nat.le_of_ble_eq_true rfl, Nat.le_of_ble_eq_true rfl⟩) ⟨zPre_blind, zPre_at hP hE hD [] rfl rfl⟩ rfl rfl hl.1 rfl (lv_room (Nat.le_of_ble_eq_true rfl)) dX4_item_10 ⟨Nat.zero_le _, Nat.zero_le _⟩) ?_
    refine W.eq (g2 := F0 m 13 ls [.int u10]) rfl ?_
    refine zb_if_ne (pc := 13) (tgt := 18) hx hb dX4_item_13 (by decide) hF (fun c_13 hF => ?_) (fun c_13 hF => ?_)
    · refine lv_aload_n (pc := 18) hx hb dX4_item_18 rfl (lv_at hl 0 rfl) ?_
      refine va_get (D := D) (pc := 19) (ci := 4) (v := .ref h_sheets) (C := RX4) (T := TX4) (N := 15) hx hb hts nX4_item_N_X4 hown hK hP 0 rfl rfl 9 (by decide) (hts _ kX4_item_N_0) (fun _ h9 => h9) rfl dX4_item_19 ?_
      refine lv_iload_n (pc := 22) hx hb dX4_item_22 rfl (lv_at hl 1 rfl) ?_
      refine za_aldN (pc := 23) hx hb hK hP 1 3 rfl rfl dX4_item_23 hF (fun hF => ?_)
      refine lv_astoreN (pc := 24) (lv' := [(4, .null), (0, .ref h0), (1, .int x1), (2, .int x2), (3, .int x3)]) hx hb dX4_item_24 hl (by decide) rfl (fun ls hl => ?_)
      refine lv_aloadN (pc := 26) hx hb dX4_item_26 (lv_at hl 0 rfl) ?_
      refine lv_ifnonnullN (pc := 28) hx hb dX4_item_28 ?_
      refine lv_bipush (pc := 31) (v := (-11 : Int32)) hx hb dX4_item_31 (by decide) ?_
      exact z_iret (pc := 33) (fun q => q) hx hb hr hlocks hF rfl hQ dX4_item_33
    · refine lv_iconst (pc := 16) (v := (-1 : Int32)) hx hb dX4_item_16 (by decide) ?_
      exact z_iret (pc := 17) (fun q => q) hx hb hr hlocks hF rfl hQ dX4_item_17

abbrev rX4_shelf_S : Room := { frames := 2, cells := 0, slots := 0, locals := 42 }
abbrev wX4_shelf_S (cB cI cJ cO : ClassId) (h0 h_now h_sheets h_shelfHolds h_shelfNames h_shelfRows h_it : Nat) (g_tried g_told g_kept g_isKept g_tape g_taped g_rows g_rowCount g_thing g_mattering g_now_laws g_now_ground g_now_seen g_now_kind g_now_hand g_now_size g_now_on g_now_away g_now_nightsPassed g_now_glances g_now_draws g_now_gained g_now_paintedOn g_now_wallLooks g_it_sort g_it_length g_it_values : Value) (v_now_count : Int32) (v_sheets : Nat → Option Nat) (v_shelfHolds : Nat → Int32) (v_shelfNames : Nat → Int32) (v_shelfRows : Nat → Option Nat) : va_W := [(h0, .inr (4, [.ref h_now, g_tried, g_told, g_kept, g_isKept, g_tape, g_taped, g_rows, g_rowCount, .ref h_sheets, .ref h_shelfHolds, .ref h_shelfNames, .ref h_shelfRows, g_thing, g_mattering])), (h_now, .inr (2, [g_now_laws, g_now_ground, g_now_seen, .int v_now_count, g_now_kind, g_now_hand, g_now_size, g_now_on, g_now_away, g_now_nightsPassed, g_now_glances, g_now_draws, g_now_gained, g_now_paintedOn, g_now_wallLooks])), (h_sheets, .inl (cO, 4, .inr (.inr (.inr (.inr v_sheets))))), (h_shelfHolds, .inl (cI, 4, .inl v_shelfHolds)), (h_shelfNames, .inl (cI, 4, .inl v_shelfNames)), (h_shelfRows, .inl (cO, 4, .inr (.inr (.inr (.inr v_shelfRows))))), (h_it, .inr (0, [g_it_sort, g_it_length, g_it_values]))]
theorem nX4_shelf_S_X4 : ∀ w ∈ wsX40, w ∈ wsX4_shelf := by decide +kernel
theorem kX4_shelf_S_0 : Cond.fieldLink RX4 50 "PaintedWalls" "shelfHolds" "[I" ∈ wsX4_shelf := by decide +kernel
theorem kX4_shelf_S_1 : Cond.fieldLink RX4 46 "PaintedWalls" "sheets" "[LPaintedWalls$Items;" ∈ wsX4_shelf := by decide +kernel
theorem kX4_shelf_S_2 : Cond.fieldLink RX4 56 "PaintedWalls" "shelfRows" "[LPaintedWalls$Items;" ∈ wsX4_shelf := by decide +kernel
theorem kX4_shelf_S_3 : Cond.fieldLink RX4 53 "PaintedWalls" "shelfNames" "[I" ∈ wsX4_shelf := by decide +kernel
set_option maxHeartbeats 4000000 in
set_option maxRecDepth 100000 in
theorem tX4_shelf_S {l : Launch} {D : va_G} {cB cI cJ cO : ClassId} (h0 h_now h_sheets h_shelfHolds h_shelfNames h_shelfRows h_it : Nat) (g_tried g_told g_kept g_isKept g_tape g_taped g_rows g_rowCount g_thing g_mattering g_now_laws g_now_ground g_now_seen g_now_kind g_now_hand g_now_size g_now_on g_now_away g_now_nightsPassed g_now_glances g_now_draws g_now_gained g_now_paintedOn g_now_wallLooks g_it_sort g_it_length g_it_values : Value) (v_now_count : Int32) (v_sheets : Nat → Option Nat) (v_shelfHolds : Nat → Int32) (v_shelfNames : Nat → Int32) (v_shelfRows : Nat → Option Nat) (x1 : Int32) (x2 : Int32) (x3 : Int32) (r : Int32 × (Nat → Int32) × (Nat → Int32) × (Nat → Option Nat)) (hF : fX4_shelf_S v_now_count v_sheets v_shelfHolds v_shelfNames v_shelfRows h_it x1 x2 x3 = some r) : Met l yX4_shelf wsX4_shelf rX4_shelf_S (zPre D cB cI cJ cO [.ref h0, .int x1, .int x2, .int x3] (wX4_shelf_S cB cI cJ cO h0 h_now h_sheets h_shelfHolds h_shelfNames h_shelfRows h_it g_tried g_told g_kept g_isKept g_tape g_taped g_rows g_rowCount g_thing g_mattering g_now_laws g_now_ground g_now_seen g_now_kind g_now_hand g_now_size g_now_on g_now_away g_now_nightsPassed g_now_glances g_now_draws g_now_gained g_now_paintedOn g_now_wallLooks g_it_sort g_it_length g_it_values v_now_count v_sheets v_shelfHolds v_shelfNames v_shelfRows)) (zPM (some (.int r.1)) D (wX4_shelf_S cB cI cJ cO h0 h_now h_sheets h_shelfHolds h_shelfNames h_shelfRows h_it g_tried g_told g_kept g_isKept g_tape g_taped g_rows g_rowCount g_thing g_mattering g_now_laws g_now_ground g_now_seen g_now_kind g_now_hand g_now_size g_now_on g_now_away g_now_nightsPassed g_now_glances g_now_draws g_now_gained g_now_paintedOn g_now_wallLooks g_it_sort g_it_length g_it_values v_now_count v_sheets r.2.1 r.2.2.1 r.2.2.2) (zAs [h0, h_now, h_sheets, h_shelfHolds, h_shelfNames, h_shelfRows, h_it])) 0 0 (zAs [h0, h_now, h_sheets, h_shelfHolds, h_shelfNames, h_shelfRows, h_it]) := by
  refine zMetM (cc := cX4_shelf) (maxL := 4) (ret := (some .int)) (lv := [(0, .ref h0), (1, .int x1), (2, .int x2), (3, .int x3)]) rfl (by decide) rfl (Nat.le_of_ble_eq_true rfl) rfl ?_
  intro p e s m args below meth c ls Q H locs hQ hx hb hr hml hown hts hlocks hname hP hE hD hS hl
  have hown : s.vm.findClass RX4 = some m.cls := hown
  have hK := hE.1
  unfold fX4_shelf_S at hF
  refine lv_iload_n (pc := 0) hx hb dX4_shelf_0 rfl (lv_at hl 1 rfl) ?_
  refine lv_iconst (pc := 1) (v := (nI 4)) hx hb dX4_shelf_1 (by decide) ?_
  obtain ⟨u2, hu2, hF⟩ := z_bind hF
  refine zq_call (oc0 := (some (.int u2))) (va_runS (As := [.int x1, .int (nI 4)]) (rest := []) ⟨hx, hb, hml, hown, hts⟩ (tX4_isBelow (l := l) (D := D) (cB := cB) (cI := cI) (cJ := cJ) (cO := cO) x1 (nI 4) u2 hu2) (va_cwS 2 hts gX4_shelf_X4_isBelow rfl rfl rfl (by decide +kernel) ⟨Nat.le_of_ble_eq_true rfl, Nat.le_of_ble_eq_true rfl⟩) ⟨zPre_blind, zPre_at hP hE (zD_re hD rfl) [] rfl rfl⟩ rfl rfl hl.1 rfl (lv_room (Nat.le_of_ble_eq_true rfl)) dX4_shelf_2 ⟨Nat.zero_le _, Nat.zero_le _⟩) ?_
  refine W.eq (g2 := F0 m 5 ls [.int u2]) rfl ?_
  refine zb_if_ne (pc := 5) (tgt := 10) hx hb dX4_shelf_5 (by decide) hF (fun c_5 hF => ?_) (fun c_5 hF => ?_)
  · refine lv_iload_n (pc := 10) hx hb dX4_shelf_10 rfl (lv_at hl 2 rfl) ?_
    obtain ⟨J_1, hJ_1, hF⟩ := z_J hF
    have kJ_1 : J_1 = some r → ∀ (H : Heap) (locs : List Loc), va_P D vwCl (wX4_shelf_S cB cI cJ cO h0 h_now h_sheets h_shelfHolds h_shelfNames h_shelfRows h_it g_tried g_told g_kept g_isKept g_tape g_taped g_rows g_rowCount g_thing g_mattering g_now_laws g_now_ground g_now_seen g_now_kind g_now_hand g_now_size g_now_on g_now_away g_now_nightsPassed g_now_glances g_now_draws g_now_gained g_now_paintedOn g_now_wallLooks g_it_sort g_it_length g_it_values v_now_count v_sheets v_shelfHolds v_shelfNames v_shelfRows) H → va_S (zAs [h0, h_now, h_sheets, h_shelfHolds, h_shelfNames, h_shelfRows, h_it]) s.heap H locs → ∀ (ls : Array Slot), lv_has ls 4 [(0, .ref h0), (1, .int x1), (2, .int x2), (3, .int x3)] → W p l e rX4_shelf_S s m args below meth c H locs 0 0 Q (F0 m 39 ls []) := by
      intro  hF H locs hP hS ls hl
      rw [hJ_1] at hF
      refine lv_iload_n (pc := 39) hx hb dX4_shelf_39 rfl (lv_at hl 2 rfl) ?_
      refine lv_iconst (pc := 40) (v := (nI 1)) hx hb dX4_shelf_40 (by decide) ?_
      refine zb_icmp_ne (pc := 41) (tgt := 87) hx hb dX4_shelf_41 (by decide) hF (fun c_41 hF => ?_) (fun c_41 hF => ?_)
      · refine lv_iload_n (pc := 87) hx hb dX4_shelf_87 rfl (lv_at hl 2 rfl) ?_
        refine lv_iconst (pc := 88) (v := (nI 2)) hx hb dX4_shelf_88 (by decide) ?_
        refine zb_icmp_ne (pc := 89) (tgt := 102) hx hb dX4_shelf_89 (by decide) hF (fun c_89 hF => ?_) (fun c_89 hF => ?_)
        · refine lv_iconst (pc := 102) (v := (-1 : Int32)) hx hb dX4_shelf_102 (by decide) ?_
          exact z_iretM (pc := 103) (fun q => q.1) (fun q => (wX4_shelf_S cB cI cJ cO h0 h_now h_sheets h_shelfHolds h_shelfNames h_shelfRows h_it g_tried g_told g_kept g_isKept g_tape g_taped g_rows g_rowCount g_thing g_mattering g_now_laws g_now_ground g_now_seen g_now_kind g_now_hand g_now_size g_now_on g_now_away g_now_nightsPassed g_now_glances g_now_draws g_now_gained g_now_paintedOn g_now_wallLooks g_it_sort g_it_length g_it_values v_now_count v_sheets q.2.1 q.2.2.1 q.2.2.2)) hx hb hr hlocks hP hS hF rfl hQ dX4_shelf_103
        · refine lv_aload_n (pc := 92) hx hb dX4_shelf_92 rfl (lv_at hl 0 rfl) ?_
          refine va_get (D := D) (pc := 93) (ci := 4) (v := .ref h_shelfHolds) (C := RX4) (T := TX4) (N := 15) hx hb hts nX4_shelf_S_X4 hown hK hP 0 rfl rfl 10 (by decide) (hts _ kX4_shelf_S_0) (fun _ h9 => h9) rfl dX4_shelf_93 ?_
          refine lv_iload_n (pc := 96) hx hb dX4_shelf_96 rfl (lv_at hl 1 rfl) ?_
          refine lv_iconst (pc := 97) (v := (nI 0)) hx hb dX4_shelf_97 (by decide) ?_
          refine za_iast (pc := 98) hx hb hK hP (zD_re hD rfl) hS 3 1 rfl rfl dX4_shelf_98 hF (fun hF H locs hP hS => ?_)
          have hP : va_P D vwCl (wX4_shelf_S cB cI cJ cO h0 h_now h_sheets h_shelfHolds h_shelfNames h_shelfRows h_it g_tried g_told g_kept g_isKept g_tape g_taped g_rows g_rowCount g_thing g_mattering g_now_laws g_now_ground g_now_seen g_now_kind g_now_hand g_now_size g_now_on g_now_away g_now_nightsPassed g_now_glances g_now_draws g_now_gained g_now_paintedOn g_now_wallLooks g_it_sort g_it_length g_it_values v_now_count v_sheets (upd v_shelfHolds x1.toNatClampNeg (nI 0)) v_shelfNames v_shelfRows) H := hP
          refine lv_goto (pc := 99) (tgt := 104) hx hb dX4_shelf_99 (by decide) ?_
          refine lv_iconst (pc := 104) (v := (nI 1)) hx hb dX4_shelf_104 (by decide) ?_
          exact z_iretM (pc := 105) (fun q => q.1) (fun q => (wX4_shelf_S cB cI cJ cO h0 h_now h_sheets h_shelfHolds h_shelfNames h_shelfRows h_it g_tried g_told g_kept g_isKept g_tape g_taped g_rows g_rowCount g_thing g_mattering g_now_laws g_now_ground g_now_seen g_now_kind g_now_hand g_now_size g_now_on g_now_away g_now_nightsPassed g_now_glances g_now_draws g_now_gained g_now_paintedOn g_now_wallLooks g_it_sort g_it_length g_it_values v_now_count v_sheets q.2.1 q.2.2.1 q.2.2.2)) hx hb hr hlocks hP hS hF rfl hQ dX4_shelf_105
      · refine lv_iload_n (pc := 44) hx hb dX4_shelf_44 rfl (lv_at hl 3 rfl) ?_
        refine lv_iconst (pc := 45) (v := (nI 4)) hx hb dX4_shelf_45 (by decide) ?_
        obtain ⟨u46, hu46, hF⟩ := z_bind hF
        refine zq_call (oc0 := (some (.int u46))) (va_runS (As := [.int x3, .int (nI 4)]) (rest := []) ⟨hx, hb, hml, hown, hts⟩ (tX4_isBelow (l := l) (D := D) (cB := cB) (cI := cI) (cJ := cJ) (cO := cO) x3 (nI 4) u46 hu46) (va_cwS 2 hts gX4_shelf_X4_isBelow rfl rfl rfl (by decide +kernel) ⟨Nat.le_of_ble_eq_true rfl, Nat.le_of_ble_eq_true rfl⟩) ⟨zPre_blind, zPre_at hP hE (zD_re hD rfl) [] rfl rfl⟩ rfl rfl hl.1 rfl (lv_room (Nat.le_of_ble_eq_true rfl)) dX4_shelf_46 ⟨Nat.zero_le _, Nat.zero_le _⟩) ?_
        refine W.eq (g2 := F0 m 49 ls [.int u46]) rfl ?_
        refine zb_if_eq (pc := 49) (tgt := 87) hx hb dX4_shelf_49 (by decide) hF (fun c_49 hF => ?_) (fun c_49 hF => ?_)
        · refine lv_iload_n (pc := 87) hx hb dX4_shelf_87 rfl (lv_at hl 2 rfl) ?_
          refine lv_iconst (pc := 88) (v := (nI 2)) hx hb dX4_shelf_88 (by decide) ?_
          refine zb_icmp_ne (pc := 89) (tgt := 102) hx hb dX4_shelf_89 (by decide) hF (fun c_89 hF => ?_) (fun c_89 hF => ?_)
          · refine lv_iconst (pc := 102) (v := (-1 : Int32)) hx hb dX4_shelf_102 (by decide) ?_
            exact z_iretM (pc := 103) (fun q => q.1) (fun q => (wX4_shelf_S cB cI cJ cO h0 h_now h_sheets h_shelfHolds h_shelfNames h_shelfRows h_it g_tried g_told g_kept g_isKept g_tape g_taped g_rows g_rowCount g_thing g_mattering g_now_laws g_now_ground g_now_seen g_now_kind g_now_hand g_now_size g_now_on g_now_away g_now_nightsPassed g_now_glances g_now_draws g_now_gained g_now_paintedOn g_now_wallLooks g_it_sort g_it_length g_it_values v_now_count v_sheets q.2.1 q.2.2.1 q.2.2.2)) hx hb hr hlocks hP hS hF rfl hQ dX4_shelf_103
          · refine lv_aload_n (pc := 92) hx hb dX4_shelf_92 rfl (lv_at hl 0 rfl) ?_
            refine va_get (D := D) (pc := 93) (ci := 4) (v := .ref h_shelfHolds) (C := RX4) (T := TX4) (N := 15) hx hb hts nX4_shelf_S_X4 hown hK hP 0 rfl rfl 10 (by decide) (hts _ kX4_shelf_S_0) (fun _ h9 => h9) rfl dX4_shelf_93 ?_
            refine lv_iload_n (pc := 96) hx hb dX4_shelf_96 rfl (lv_at hl 1 rfl) ?_
            refine lv_iconst (pc := 97) (v := (nI 0)) hx hb dX4_shelf_97 (by decide) ?_
            refine za_iast (pc := 98) hx hb hK hP (zD_re hD rfl) hS 3 1 rfl rfl dX4_shelf_98 hF (fun hF H locs hP hS => ?_)
            have hP : va_P D vwCl (wX4_shelf_S cB cI cJ cO h0 h_now h_sheets h_shelfHolds h_shelfNames h_shelfRows h_it g_tried g_told g_kept g_isKept g_tape g_taped g_rows g_rowCount g_thing g_mattering g_now_laws g_now_ground g_now_seen g_now_kind g_now_hand g_now_size g_now_on g_now_away g_now_nightsPassed g_now_glances g_now_draws g_now_gained g_now_paintedOn g_now_wallLooks g_it_sort g_it_length g_it_values v_now_count v_sheets (upd v_shelfHolds x1.toNatClampNeg (nI 0)) v_shelfNames v_shelfRows) H := hP
            refine lv_goto (pc := 99) (tgt := 104) hx hb dX4_shelf_99 (by decide) ?_
            refine lv_iconst (pc := 104) (v := (nI 1)) hx hb dX4_shelf_104 (by decide) ?_
            exact z_iretM (pc := 105) (fun q => q.1) (fun q => (wX4_shelf_S cB cI cJ cO h0 h_now h_sheets h_shelfHolds h_shelfNames h_shelfRows h_it g_tried g_told g_kept g_isKept g_tape g_taped g_rows g_rowCount g_thing g_mattering g_now_laws g_now_ground g_now_seen g_now_kind g_now_hand g_now_size g_now_on g_now_away g_now_nightsPassed g_now_glances g_now_draws g_now_gained g_now_paintedOn g_now_wallLooks g_it_sort g_it_length g_it_values v_now_count v_sheets q.2.1 q.2.2.1 q.2.2.2)) hx hb hr hlocks hP hS hF rfl hQ dX4_shelf_105
        · refine lv_aload_n (pc := 52) hx hb dX4_shelf_52 rfl (lv_at hl 0 rfl) ?_
          refine va_get (D := D) (pc := 53) (ci := 4) (v := .ref h_shelfHolds) (C := RX4) (T := TX4) (N := 15) hx hb hts nX4_shelf_S_X4 hown hK hP 0 rfl rfl 10 (by decide) (hts _ kX4_shelf_S_0) (fun _ h9 => h9) rfl dX4_shelf_53 ?_
          refine lv_iload_n (pc := 56) hx hb dX4_shelf_56 rfl (lv_at hl 1 rfl) ?_
          refine lv_aload_n (pc := 57) hx hb dX4_shelf_57 rfl (lv_at hl 0 rfl) ?_
          refine va_get (D := D) (pc := 58) (ci := 4) (v := .ref h_sheets) (C := RX4) (T := TX4) (N := 15) hx hb hts nX4_shelf_S_X4 hown hK hP 0 rfl rfl 9 (by decide) (hts _ kX4_shelf_S_1) (fun _ h9 => h9) rfl dX4_shelf_58 ?_
          refine lv_iload_n (pc := 61) hx hb dX4_shelf_61 rfl (lv_at hl 3 rfl) ?_
          refine za_aldS (pc := 62) hx hb hK hP 2 3 rfl rfl dX4_shelf_62 hF (fun hF => ?_) (fun hF => ?_)
          · refine lv_ifnonnullN (pc := 63) hx hb dX4_shelf_63 ?_
            refine lv_iconst (pc := 66) (v := (nI 0)) hx hb dX4_shelf_66 (by decide) ?_
            refine lv_goto (pc := 67) (tgt := 71) hx hb dX4_shelf_67 (by decide) ?_
            refine za_iast (pc := 71) hx hb hK hP (zD_re hD rfl) hS 3 1 rfl rfl dX4_shelf_71 hF (fun hF H locs hP hS => ?_)
            have hP : va_P D vwCl (wX4_shelf_S cB cI cJ cO h0 h_now h_sheets h_shelfHolds h_shelfNames h_shelfRows h_it g_tried g_told g_kept g_isKept g_tape g_taped g_rows g_rowCount g_thing g_mattering g_now_laws g_now_ground g_now_seen g_now_kind g_now_hand g_now_size g_now_on g_now_away g_now_nightsPassed g_now_glances g_now_draws g_now_gained g_now_paintedOn g_now_wallLooks g_it_sort g_it_length g_it_values v_now_count v_sheets (upd v_shelfHolds x1.toNatClampNeg (nI 0)) v_shelfNames v_shelfRows) H := hP
            refine lv_aload_n (pc := 72) hx hb dX4_shelf_72 rfl (lv_at hl 0 rfl) ?_
            refine va_get (D := D) (pc := 73) (ci := 4) (v := .ref h_shelfRows) (C := RX4) (T := TX4) (N := 15) hx hb hts nX4_shelf_S_X4 hown hK hP 0 rfl rfl 12 (by decide) (hts _ kX4_shelf_S_2) (fun _ h9 => h9) rfl dX4_shelf_73 ?_
            refine lv_iload_n (pc := 76) hx hb dX4_shelf_76 rfl (lv_at hl 1 rfl) ?_
            refine lv_aload_n (pc := 77) hx hb dX4_shelf_77 rfl (lv_at hl 0 rfl) ?_
            refine va_get (D := D) (pc := 78) (ci := 4) (v := .ref h_sheets) (C := RX4) (T := TX4) (N := 15) hx hb hts nX4_shelf_S_X4 hown hK hP 0 rfl rfl 9 (by decide) (hts _ kX4_shelf_S_1) (fun _ h9 => h9) rfl dX4_shelf_78 ?_
            refine lv_iload_n (pc := 81) hx hb dX4_shelf_81 rfl (lv_at hl 3 rfl) ?_
            refine za_aldS (pc := 82) hx hb hK hP 2 3 rfl rfl dX4_shelf_82 hF (fun hF => ?_) (fun hF => ?_)
            · refine za_astN (pc := 83) hx hb hK hP (zD_re hD rfl) hS 5 3 rfl rfl dX4_shelf_83 hF (fun hF H locs hP hS => ?_)
              have hP : va_P D vwCl (wX4_shelf_S cB cI cJ cO h0 h_now h_sheets h_shelfHolds h_shelfNames h_shelfRows h_it g_tried g_told g_kept g_isKept g_tape g_taped g_rows g_rowCount g_thing g_mattering g_now_laws g_now_ground g_now_seen g_now_kind g_now_hand g_now_size g_now_on g_now_away g_now_nightsPassed g_now_glances g_now_draws g_now_gained g_now_paintedOn g_now_wallLooks g_it_sort g_it_length g_it_values v_now_count v_sheets (upd v_shelfHolds x1.toNatClampNeg (nI 0)) v_shelfNames (va_up v_shelfRows x1.toNatClampNeg none)) H := hP
              refine lv_goto (pc := 84) (tgt := 104) hx hb dX4_shelf_84 (by decide) ?_
              refine lv_iconst (pc := 104) (v := (nI 1)) hx hb dX4_shelf_104 (by decide) ?_
              exact z_iretM (pc := 105) (fun q => q.1) (fun q => (wX4_shelf_S cB cI cJ cO h0 h_now h_sheets h_shelfHolds h_shelfNames h_shelfRows h_it g_tried g_told g_kept g_isKept g_tape g_taped g_rows g_rowCount g_thing g_mattering g_now_laws g_now_ground g_now_seen g_now_kind g_now_hand g_now_size g_now_on g_now_away g_now_nightsPassed g_now_glances g_now_draws g_now_gained g_now_paintedOn g_now_wallLooks g_it_sort g_it_length g_it_values v_now_count v_sheets q.2.1 q.2.2.1 q.2.2.2)) hx hb hr hlocks hP hS hF rfl hQ dX4_shelf_105
            · refine za_astR (pc := 83) hx hb hK hP (zD_re hD rfl) hS 5 3 6 0 rfl rfl rfl rfl dX4_shelf_83 hF (fun hF H locs hP hS => ?_)
              have hP : va_P D vwCl (wX4_shelf_S cB cI cJ cO h0 h_now h_sheets h_shelfHolds h_shelfNames h_shelfRows h_it g_tried g_told g_kept g_isKept g_tape g_taped g_rows g_rowCount g_thing g_mattering g_now_laws g_now_ground g_now_seen g_now_kind g_now_hand g_now_size g_now_on g_now_away g_now_nightsPassed g_now_glances g_now_draws g_now_gained g_now_paintedOn g_now_wallLooks g_it_sort g_it_length g_it_values v_now_count v_sheets (upd v_shelfHolds x1.toNatClampNeg (nI 0)) v_shelfNames (va_up v_shelfRows x1.toNatClampNeg (some h_it))) H := hP
              refine lv_goto (pc := 84) (tgt := 104) hx hb dX4_shelf_84 (by decide) ?_
              refine lv_iconst (pc := 104) (v := (nI 1)) hx hb dX4_shelf_104 (by decide) ?_
              exact z_iretM (pc := 105) (fun q => q.1) (fun q => (wX4_shelf_S cB cI cJ cO h0 h_now h_sheets h_shelfHolds h_shelfNames h_shelfRows h_it g_tried g_told g_kept g_isKept g_tape g_taped g_rows g_rowCount g_thing g_mattering g_now_laws g_now_ground g_now_seen g_now_kind g_now_hand g_now_size g_now_on g_now_away g_now_nightsPassed g_now_glances g_now_draws g_now_gained g_now_paintedOn g_now_wallLooks g_it_sort g_it_length g_it_values v_now_count v_sheets q.2.1 q.2.2.1 q.2.2.2)) hx hb hr hlocks hP hS hF rfl hQ dX4_shelf_105
          · refine lv_ifnonnull (pc := 63) (tgt := 70) hx hb dX4_shelf_63 (by decide) ?_
            refine lv_iconst (pc := 70) (v := (nI 2)) hx hb dX4_shelf_70 (by decide) ?_
            refine za_iast (pc := 71) hx hb hK hP (zD_re hD rfl) hS 3 1 rfl rfl dX4_shelf_71 hF (fun hF H locs hP hS => ?_)
            have hP : va_P D vwCl (wX4_shelf_S cB cI cJ cO h0 h_now h_sheets h_shelfHolds h_shelfNames h_shelfRows h_it g_tried g_told g_kept g_isKept g_tape g_taped g_rows g_rowCount g_thing g_mattering g_now_laws g_now_ground g_now_seen g_now_kind g_now_hand g_now_size g_now_on g_now_away g_now_nightsPassed g_now_glances g_now_draws g_now_gained g_now_paintedOn g_now_wallLooks g_it_sort g_it_length g_it_values v_now_count v_sheets (upd v_shelfHolds x1.toNatClampNeg (nI 2)) v_shelfNames v_shelfRows) H := hP
            refine lv_aload_n (pc := 72) hx hb dX4_shelf_72 rfl (lv_at hl 0 rfl) ?_
            refine va_get (D := D) (pc := 73) (ci := 4) (v := .ref h_shelfRows) (C := RX4) (T := TX4) (N := 15) hx hb hts nX4_shelf_S_X4 hown hK hP 0 rfl rfl 12 (by decide) (hts _ kX4_shelf_S_2) (fun _ h9 => h9) rfl dX4_shelf_73 ?_
            refine lv_iload_n (pc := 76) hx hb dX4_shelf_76 rfl (lv_at hl 1 rfl) ?_
            refine lv_aload_n (pc := 77) hx hb dX4_shelf_77 rfl (lv_at hl 0 rfl) ?_
            refine va_get (D := D) (pc := 78) (ci := 4) (v := .ref h_sheets) (C := RX4) (T := TX4) (N := 15) hx hb hts nX4_shelf_S_X4 hown hK hP 0 rfl rfl 9 (by decide) (hts _ kX4_shelf_S_1) (fun _ h9 => h9) rfl dX4_shelf_78 ?_
            refine lv_iload_n (pc := 81) hx hb dX4_shelf_81 rfl (lv_at hl 3 rfl) ?_
            refine za_aldS (pc := 82) hx hb hK hP 2 3 rfl rfl dX4_shelf_82 hF (fun hF => ?_) (fun hF => ?_)
            · refine za_astN (pc := 83) hx hb hK hP (zD_re hD rfl) hS 5 3 rfl rfl dX4_shelf_83 hF (fun hF H locs hP hS => ?_)
              have hP : va_P D vwCl (wX4_shelf_S cB cI cJ cO h0 h_now h_sheets h_shelfHolds h_shelfNames h_shelfRows h_it g_tried g_told g_kept g_isKept g_tape g_taped g_rows g_rowCount g_thing g_mattering g_now_laws g_now_ground g_now_seen g_now_kind g_now_hand g_now_size g_now_on g_now_away g_now_nightsPassed g_now_glances g_now_draws g_now_gained g_now_paintedOn g_now_wallLooks g_it_sort g_it_length g_it_values v_now_count v_sheets (upd v_shelfHolds x1.toNatClampNeg (nI 2)) v_shelfNames (va_up v_shelfRows x1.toNatClampNeg none)) H := hP
              refine lv_goto (pc := 84) (tgt := 104) hx hb dX4_shelf_84 (by decide) ?_
              refine lv_iconst (pc := 104) (v := (nI 1)) hx hb dX4_shelf_104 (by decide) ?_
              exact z_iretM (pc := 105) (fun q => q.1) (fun q => (wX4_shelf_S cB cI cJ cO h0 h_now h_sheets h_shelfHolds h_shelfNames h_shelfRows h_it g_tried g_told g_kept g_isKept g_tape g_taped g_rows g_rowCount g_thing g_mattering g_now_laws g_now_ground g_now_seen g_now_kind g_now_hand g_now_size g_now_on g_now_away g_now_nightsPassed g_now_glances g_now_draws g_now_gained g_now_paintedOn g_now_wallLooks g_it_sort g_it_length g_it_values v_now_count v_sheets q.2.1 q.2.2.1 q.2.2.2)) hx hb hr hlocks hP hS hF rfl hQ dX4_shelf_105
            · refine za_astR (pc := 83) hx hb hK hP (zD_re hD rfl) hS 5 3 6 0 rfl rfl rfl rfl dX4_shelf_83 hF (fun hF H locs hP hS => ?_)
              have hP : va_P D vwCl (wX4_shelf_S cB cI cJ cO h0 h_now h_sheets h_shelfHolds h_shelfNames h_shelfRows h_it g_tried g_told g_kept g_isKept g_tape g_taped g_rows g_rowCount g_thing g_mattering g_now_laws g_now_ground g_now_seen g_now_kind g_now_hand g_now_size g_now_on g_now_away g_now_nightsPassed g_now_glances g_now_draws g_now_gained g_now_paintedOn g_now_wallLooks g_it_sort g_it_length g_it_values v_now_count v_sheets (upd v_shelfHolds x1.toNatClampNeg (nI 2)) v_shelfNames (va_up v_shelfRows x1.toNatClampNeg (some h_it))) H := hP
              refine lv_goto (pc := 84) (tgt := 104) hx hb dX4_shelf_84 (by decide) ?_
              refine lv_iconst (pc := 104) (v := (nI 1)) hx hb dX4_shelf_104 (by decide) ?_
              exact z_iretM (pc := 105) (fun q => q.1) (fun q => (wX4_shelf_S cB cI cJ cO h0 h_now h_sheets h_shelfHolds h_shelfNames h_shelfRows h_it g_tried g_told g_kept g_isKept g_tape g_taped g_rows g_rowCount g_thing g_mattering g_now_laws g_now_ground g_now_seen g_now_kind g_now_hand g_now_size g_now_on g_now_away g_now_nightsPassed g_now_glances g_now_draws g_now_gained g_now_paintedOn g_now_wallLooks g_it_sort g_it_length g_it_values v_now_count v_sheets q.2.1 q.2.2.1 q.2.2.2)) hx hb hr hlocks hP hS hF rfl hQ dX4_shelf_105
    refine zb_if_ne (pc := 11) (tgt := 39) hx hb dX4_shelf_11 (by decide) hF (fun c_11 hF => ?_) (fun c_11 hF => ?_)
    · exact kJ_1  hF H locs hP hS ls (lv_sub hl [0, 1, 2, 3] rfl)
    · refine lv_aload_n (pc := 14) hx hb dX4_shelf_14 rfl (lv_at hl 0 rfl) ?_
      refine lv_iload_n (pc := 15) hx hb dX4_shelf_15 rfl (lv_at hl 3 rfl) ?_
      obtain ⟨u16, hu16, hF⟩ := z_bind hF
      refine zq_call (oc0 := (some (.int u16))) (va_runV (As := [.int x3]) (rest := []) ⟨hx, hb, hml, hown, hts⟩ (tX4_isName (l := l) (D := D) (cB := cB) (cI := cI) (cJ := cJ) (cO := cO) h0 h_now g_tried g_told g_kept g_isKept g_tape g_taped g_rows g_rowCount (.ref h_sheets) (.ref h_shelfHolds) (.ref h_shelfNames) (.ref h_shelfRows) g_thing g_mattering g_now_laws g_now_ground g_now_seen g_now_kind g_now_hand g_now_size g_now_on g_now_away g_now_nightsPassed g_now_glances g_now_draws g_now_gained g_now_paintedOn g_now_wallLooks v_now_count x3 u16 hu16) (cwV 1 hts gX4_shelf_X4_isName rfl rfl rfl (by decide +kernel) ⟨Nat.le_of_ble_eq_true rfl, Nat.le_of_ble_eq_true rfl⟩) ⟨zPre_blind, va_recv hK hP (ci := 4) (q0 := 0) rfl rfl, zPre_at hP hE (zD_re hD rfl) [0, 1] rfl rfl⟩ rfl rfl hl.1 rfl (lv_room (Nat.le_of_ble_eq_true rfl)) dX4_shelf_16 ⟨Nat.zero_le _, Nat.zero_le _⟩) ?_
      refine W.eq (g2 := F0 m 19 ls [.int u16]) rfl ?_
      refine zb_if_eq (pc := 19) (tgt := 39) hx hb dX4_shelf_19 (by decide) hF (fun c_19 hF => ?_) (fun c_19 hF => ?_)
      · exact kJ_1  hF H locs hP hS ls (lv_sub hl [0, 1, 2, 3] rfl)
      · refine lv_aload_n (pc := 22) hx hb dX4_shelf_22 rfl (lv_at hl 0 rfl) ?_
        refine va_get (D := D) (pc := 23) (ci := 4) (v := .ref h_shelfHolds) (C := RX4) (T := TX4) (N := 15) hx hb hts nX4_shelf_S_X4 hown hK hP 0 rfl rfl 10 (by decide) (hts _ kX4_shelf_S_0) (fun _ h9 => h9) rfl dX4_shelf_23 ?_
        refine lv_iload_n (pc := 26) hx hb dX4_shelf_26 rfl (lv_at hl 1 rfl) ?_
        refine lv_iconst (pc := 27) (v := (nI 1)) hx hb dX4_shelf_27 (by decide) ?_
        refine za_iast (pc := 28) hx hb hK hP (zD_re hD rfl) hS 3 1 rfl rfl dX4_shelf_28 hF (fun hF H locs hP hS => ?_)
        have hP : va_P D vwCl (wX4_shelf_S cB cI cJ cO h0 h_now h_sheets h_shelfHolds h_shelfNames h_shelfRows h_it g_tried g_told g_kept g_isKept g_tape g_taped g_rows g_rowCount g_thing g_mattering g_now_laws g_now_ground g_now_seen g_now_kind g_now_hand g_now_size g_now_on g_now_away g_now_nightsPassed g_now_glances g_now_draws g_now_gained g_now_paintedOn g_now_wallLooks g_it_sort g_it_length g_it_values v_now_count v_sheets (upd v_shelfHolds x1.toNatClampNeg (nI 1)) v_shelfNames v_shelfRows) H := hP
        refine lv_aload_n (pc := 29) hx hb dX4_shelf_29 rfl (lv_at hl 0 rfl) ?_
        refine va_get (D := D) (pc := 30) (ci := 4) (v := .ref h_shelfNames) (C := RX4) (T := TX4) (N := 15) hx hb hts nX4_shelf_S_X4 hown hK hP 0 rfl rfl 11 (by decide) (hts _ kX4_shelf_S_3) (fun _ h9 => h9) rfl dX4_shelf_30 ?_
        refine lv_iload_n (pc := 33) hx hb dX4_shelf_33 rfl (lv_at hl 1 rfl) ?_
        refine lv_iload_n (pc := 34) hx hb dX4_shelf_34 rfl (lv_at hl 3 rfl) ?_
        refine za_iast (pc := 35) hx hb hK hP (zD_re hD rfl) hS 4 1 rfl rfl dX4_shelf_35 hF (fun hF H locs hP hS => ?_)
        have hP : va_P D vwCl (wX4_shelf_S cB cI cJ cO h0 h_now h_sheets h_shelfHolds h_shelfNames h_shelfRows h_it g_tried g_told g_kept g_isKept g_tape g_taped g_rows g_rowCount g_thing g_mattering g_now_laws g_now_ground g_now_seen g_now_kind g_now_hand g_now_size g_now_on g_now_away g_now_nightsPassed g_now_glances g_now_draws g_now_gained g_now_paintedOn g_now_wallLooks g_it_sort g_it_length g_it_values v_now_count v_sheets (upd v_shelfHolds x1.toNatClampNeg (nI 1)) (upd v_shelfNames x1.toNatClampNeg x3) v_shelfRows) H := hP
        refine lv_goto (pc := 36) (tgt := 104) hx hb dX4_shelf_36 (by decide) ?_
        refine lv_iconst (pc := 104) (v := (nI 1)) hx hb dX4_shelf_104 (by decide) ?_
        exact z_iretM (pc := 105) (fun q => q.1) (fun q => (wX4_shelf_S cB cI cJ cO h0 h_now h_sheets h_shelfHolds h_shelfNames h_shelfRows h_it g_tried g_told g_kept g_isKept g_tape g_taped g_rows g_rowCount g_thing g_mattering g_now_laws g_now_ground g_now_seen g_now_kind g_now_hand g_now_size g_now_on g_now_away g_now_nightsPassed g_now_glances g_now_draws g_now_gained g_now_paintedOn g_now_wallLooks g_it_sort g_it_length g_it_values v_now_count v_sheets q.2.1 q.2.2.1 q.2.2.2)) hx hb hr hlocks hP hS hF rfl hQ dX4_shelf_105
  · refine lv_iconst (pc := 8) (v := (-1 : Int32)) hx hb dX4_shelf_8 (by decide) ?_
    exact z_iretM (pc := 9) (fun q => q.1) (fun q => (wX4_shelf_S cB cI cJ cO h0 h_now h_sheets h_shelfHolds h_shelfNames h_shelfRows h_it g_tried g_told g_kept g_isKept g_tape g_taped g_rows g_rowCount g_thing g_mattering g_now_laws g_now_ground g_now_seen g_now_kind g_now_hand g_now_size g_now_on g_now_away g_now_nightsPassed g_now_glances g_now_draws g_now_gained g_now_paintedOn g_now_wallLooks g_it_sort g_it_length g_it_values v_now_count v_sheets q.2.1 q.2.2.1 q.2.2.2)) hx hb hr hlocks hP hS hF rfl hQ dX4_shelf_9

abbrev rX4_shelf_N : Room := { frames := 2, cells := 0, slots := 0, locals := 42 }
abbrev wX4_shelf_N (cB cI cJ cO : ClassId) (h0 h_now h_sheets h_shelfHolds h_shelfNames h_shelfRows : Nat) (g_tried g_told g_kept g_isKept g_tape g_taped g_rows g_rowCount g_thing g_mattering g_now_laws g_now_ground g_now_seen g_now_kind g_now_hand g_now_size g_now_on g_now_away g_now_nightsPassed g_now_glances g_now_draws g_now_gained g_now_paintedOn g_now_wallLooks : Value) (v_now_count : Int32) (v_sheets : Nat → Option Nat) (v_shelfHolds : Nat → Int32) (v_shelfNames : Nat → Int32) (v_shelfRows : Nat → Option Nat) : va_W := [(h0, .inr (4, [.ref h_now, g_tried, g_told, g_kept, g_isKept, g_tape, g_taped, g_rows, g_rowCount, .ref h_sheets, .ref h_shelfHolds, .ref h_shelfNames, .ref h_shelfRows, g_thing, g_mattering])), (h_now, .inr (2, [g_now_laws, g_now_ground, g_now_seen, .int v_now_count, g_now_kind, g_now_hand, g_now_size, g_now_on, g_now_away, g_now_nightsPassed, g_now_glances, g_now_draws, g_now_gained, g_now_paintedOn, g_now_wallLooks])), (h_sheets, .inl (cO, 4, .inr (.inr (.inr (.inr v_sheets))))), (h_shelfHolds, .inl (cI, 4, .inl v_shelfHolds)), (h_shelfNames, .inl (cI, 4, .inl v_shelfNames)), (h_shelfRows, .inl (cO, 4, .inr (.inr (.inr (.inr v_shelfRows)))))]
theorem nX4_shelf_N_X4 : ∀ w ∈ wsX40, w ∈ wsX4_shelf := by decide +kernel
theorem kX4_shelf_N_0 : Cond.fieldLink RX4 50 "PaintedWalls" "shelfHolds" "[I" ∈ wsX4_shelf := by decide +kernel
theorem kX4_shelf_N_1 : Cond.fieldLink RX4 46 "PaintedWalls" "sheets" "[LPaintedWalls$Items;" ∈ wsX4_shelf := by decide +kernel
theorem kX4_shelf_N_2 : Cond.fieldLink RX4 56 "PaintedWalls" "shelfRows" "[LPaintedWalls$Items;" ∈ wsX4_shelf := by decide +kernel
theorem kX4_shelf_N_3 : Cond.fieldLink RX4 53 "PaintedWalls" "shelfNames" "[I" ∈ wsX4_shelf := by decide +kernel
set_option maxHeartbeats 4000000 in
set_option maxRecDepth 100000 in
theorem tX4_shelf_N {l : Launch} {D : va_G} {cB cI cJ cO : ClassId} (h0 h_now h_sheets h_shelfHolds h_shelfNames h_shelfRows : Nat) (g_tried g_told g_kept g_isKept g_tape g_taped g_rows g_rowCount g_thing g_mattering g_now_laws g_now_ground g_now_seen g_now_kind g_now_hand g_now_size g_now_on g_now_away g_now_nightsPassed g_now_glances g_now_draws g_now_gained g_now_paintedOn g_now_wallLooks : Value) (v_now_count : Int32) (v_sheets : Nat → Option Nat) (v_shelfHolds : Nat → Int32) (v_shelfNames : Nat → Int32) (v_shelfRows : Nat → Option Nat) (x1 : Int32) (x2 : Int32) (x3 : Int32) (r : Int32 × (Nat → Int32) × (Nat → Int32) × (Nat → Option Nat)) (hF : fX4_shelf_N v_now_count v_sheets v_shelfHolds v_shelfNames v_shelfRows x1 x2 x3 = some r) : Met l yX4_shelf wsX4_shelf rX4_shelf_N (zPre D cB cI cJ cO [.ref h0, .int x1, .int x2, .int x3] (wX4_shelf_N cB cI cJ cO h0 h_now h_sheets h_shelfHolds h_shelfNames h_shelfRows g_tried g_told g_kept g_isKept g_tape g_taped g_rows g_rowCount g_thing g_mattering g_now_laws g_now_ground g_now_seen g_now_kind g_now_hand g_now_size g_now_on g_now_away g_now_nightsPassed g_now_glances g_now_draws g_now_gained g_now_paintedOn g_now_wallLooks v_now_count v_sheets v_shelfHolds v_shelfNames v_shelfRows)) (zPM (some (.int r.1)) D (wX4_shelf_N cB cI cJ cO h0 h_now h_sheets h_shelfHolds h_shelfNames h_shelfRows g_tried g_told g_kept g_isKept g_tape g_taped g_rows g_rowCount g_thing g_mattering g_now_laws g_now_ground g_now_seen g_now_kind g_now_hand g_now_size g_now_on g_now_away g_now_nightsPassed g_now_glances g_now_draws g_now_gained g_now_paintedOn g_now_wallLooks v_now_count v_sheets r.2.1 r.2.2.1 r.2.2.2) (zAs [h0, h_now, h_sheets, h_shelfHolds, h_shelfNames, h_shelfRows])) 0 0 (zAs [h0, h_now, h_sheets, h_shelfHolds, h_shelfNames, h_shelfRows]) := by
  refine zMetM (cc := cX4_shelf) (maxL := 4) (ret := (some .int)) (lv := [(0, .ref h0), (1, .int x1), (2, .int x2), (3, .int x3)]) rfl (by decide) rfl (Nat.le_of_ble_eq_true rfl) rfl ?_
  intro p e s m args below meth c ls Q H locs hQ hx hb hr hml hown hts hlocks hname hP hE hD hS hl
  have hown : s.vm.findClass RX4 = some m.cls := hown
  have hK := hE.1
  unfold fX4_shelf_N at hF
  refine lv_iload_n (pc := 0) hx hb dX4_shelf_0 rfl (lv_at hl 1 rfl) ?_
  refine lv_iconst (pc := 1) (v := (nI 4)) hx hb dX4_shelf_1 (by decide) ?_
  obtain ⟨u2, hu2, hF⟩ := z_bind hF
  refine zq_call (oc0 := (some (.int u2))) (va_runS (As := [.int x1, .int (nI 4)]) (rest := []) ⟨hx, hb, hml, hown, hts⟩ (tX4_isBelow (l := l) (D := D) (cB := cB) (cI := cI) (cJ := cJ) (cO := cO) x1 (nI 4) u2 hu2) (va_cwS 2 hts gX4_shelf_X4_isBelow rfl rfl rfl (by decide +kernel) ⟨Nat.le_of_ble_eq_true rfl, Nat.le_of_ble_eq_true rfl⟩) ⟨zPre_blind, zPre_at hP hE (zD_re hD rfl) [] rfl rfl⟩ rfl rfl hl.1 rfl (lv_room (Nat.le_of_ble_eq_true rfl)) dX4_shelf_2 ⟨Nat.zero_le _, Nat.zero_le _⟩) ?_
  refine W.eq (g2 := F0 m 5 ls [.int u2]) rfl ?_
  refine zb_if_ne (pc := 5) (tgt := 10) hx hb dX4_shelf_5 (by decide) hF (fun c_5 hF => ?_) (fun c_5 hF => ?_)
  · refine lv_iload_n (pc := 10) hx hb dX4_shelf_10 rfl (lv_at hl 2 rfl) ?_
    obtain ⟨J_1, hJ_1, hF⟩ := z_J hF
    have kJ_1 : J_1 = some r → ∀ (H : Heap) (locs : List Loc), va_P D vwCl (wX4_shelf_N cB cI cJ cO h0 h_now h_sheets h_shelfHolds h_shelfNames h_shelfRows g_tried g_told g_kept g_isKept g_tape g_taped g_rows g_rowCount g_thing g_mattering g_now_laws g_now_ground g_now_seen g_now_kind g_now_hand g_now_size g_now_on g_now_away g_now_nightsPassed g_now_glances g_now_draws g_now_gained g_now_paintedOn g_now_wallLooks v_now_count v_sheets v_shelfHolds v_shelfNames v_shelfRows) H → va_S (zAs [h0, h_now, h_sheets, h_shelfHolds, h_shelfNames, h_shelfRows]) s.heap H locs → ∀ (ls : Array Slot), lv_has ls 4 [(0, .ref h0), (1, .int x1), (2, .int x2), (3, .int x3)] → W p l e rX4_shelf_N s m args below meth c H locs 0 0 Q (F0 m 39 ls []) := by
      intro  hF H locs hP hS ls hl
      rw [hJ_1] at hF
      refine lv_iload_n (pc := 39) hx hb dX4_shelf_39 rfl (lv_at hl 2 rfl) ?_
      refine lv_iconst (pc := 40) (v := (nI 1)) hx hb dX4_shelf_40 (by decide) ?_
      refine zb_icmp_ne (pc := 41) (tgt := 87) hx hb dX4_shelf_41 (by decide) hF (fun c_41 hF => ?_) (fun c_41 hF => ?_)
      · refine lv_iload_n (pc := 87) hx hb dX4_shelf_87 rfl (lv_at hl 2 rfl) ?_
        refine lv_iconst (pc := 88) (v := (nI 2)) hx hb dX4_shelf_88 (by decide) ?_
        refine zb_icmp_ne (pc := 89) (tgt := 102) hx hb dX4_shelf_89 (by decide) hF (fun c_89 hF => ?_) (fun c_89 hF => ?_)
        · refine lv_iconst (pc := 102) (v := (-1 : Int32)) hx hb dX4_shelf_102 (by decide) ?_
          exact z_iretM (pc := 103) (fun q => q.1) (fun q => (wX4_shelf_N cB cI cJ cO h0 h_now h_sheets h_shelfHolds h_shelfNames h_shelfRows g_tried g_told g_kept g_isKept g_tape g_taped g_rows g_rowCount g_thing g_mattering g_now_laws g_now_ground g_now_seen g_now_kind g_now_hand g_now_size g_now_on g_now_away g_now_nightsPassed g_now_glances g_now_draws g_now_gained g_now_paintedOn g_now_wallLooks v_now_count v_sheets q.2.1 q.2.2.1 q.2.2.2)) hx hb hr hlocks hP hS hF rfl hQ dX4_shelf_103
        · refine lv_aload_n (pc := 92) hx hb dX4_shelf_92 rfl (lv_at hl 0 rfl) ?_
          refine va_get (D := D) (pc := 93) (ci := 4) (v := .ref h_shelfHolds) (C := RX4) (T := TX4) (N := 15) hx hb hts nX4_shelf_N_X4 hown hK hP 0 rfl rfl 10 (by decide) (hts _ kX4_shelf_N_0) (fun _ h9 => h9) rfl dX4_shelf_93 ?_
          refine lv_iload_n (pc := 96) hx hb dX4_shelf_96 rfl (lv_at hl 1 rfl) ?_
          refine lv_iconst (pc := 97) (v := (nI 0)) hx hb dX4_shelf_97 (by decide) ?_
          refine za_iast (pc := 98) hx hb hK hP (zD_re hD rfl) hS 3 1 rfl rfl dX4_shelf_98 hF (fun hF H locs hP hS => ?_)
          have hP : va_P D vwCl (wX4_shelf_N cB cI cJ cO h0 h_now h_sheets h_shelfHolds h_shelfNames h_shelfRows g_tried g_told g_kept g_isKept g_tape g_taped g_rows g_rowCount g_thing g_mattering g_now_laws g_now_ground g_now_seen g_now_kind g_now_hand g_now_size g_now_on g_now_away g_now_nightsPassed g_now_glances g_now_draws g_now_gained g_now_paintedOn g_now_wallLooks v_now_count v_sheets (upd v_shelfHolds x1.toNatClampNeg (nI 0)) v_shelfNames v_shelfRows) H := hP
          refine lv_goto (pc := 99) (tgt := 104) hx hb dX4_shelf_99 (by decide) ?_
          refine lv_iconst (pc := 104) (v := (nI 1)) hx hb dX4_shelf_104 (by decide) ?_
          exact z_iretM (pc := 105) (fun q => q.1) (fun q => (wX4_shelf_N cB cI cJ cO h0 h_now h_sheets h_shelfHolds h_shelfNames h_shelfRows g_tried g_told g_kept g_isKept g_tape g_taped g_rows g_rowCount g_thing g_mattering g_now_laws g_now_ground g_now_seen g_now_kind g_now_hand g_now_size g_now_on g_now_away g_now_nightsPassed g_now_glances g_now_draws g_now_gained g_now_paintedOn g_now_wallLooks v_now_count v_sheets q.2.1 q.2.2.1 q.2.2.2)) hx hb hr hlocks hP hS hF rfl hQ dX4_shelf_105
      · refine lv_iload_n (pc := 44) hx hb dX4_shelf_44 rfl (lv_at hl 3 rfl) ?_
        refine lv_iconst (pc := 45) (v := (nI 4)) hx hb dX4_shelf_45 (by decide) ?_
        obtain ⟨u46, hu46, hF⟩ := z_bind hF
        refine zq_call (oc0 := (some (.int u46))) (va_runS (As := [.int x3, .int (nI 4)]) (rest := []) ⟨hx, hb, hml, hown, hts⟩ (tX4_isBelow (l := l) (D := D) (cB := cB) (cI := cI) (cJ := cJ) (cO := cO) x3 (nI 4) u46 hu46) (va_cwS 2 hts gX4_shelf_X4_isBelow rfl rfl rfl (by decide +kernel) ⟨Nat.le_of_ble_eq_true rfl, Nat.le_of_ble_eq_true rfl⟩) ⟨zPre_blind, zPre_at hP hE (zD_re hD rfl) [] rfl rfl⟩ rfl rfl hl.1 rfl (lv_room (Nat.le_of_ble_eq_true rfl)) dX4_shelf_46 ⟨Nat.zero_le _, Nat.zero_le _⟩) ?_
        refine W.eq (g2 := F0 m 49 ls [.int u46]) rfl ?_
        refine zb_if_eq (pc := 49) (tgt := 87) hx hb dX4_shelf_49 (by decide) hF (fun c_49 hF => ?_) (fun c_49 hF => ?_)
        · refine lv_iload_n (pc := 87) hx hb dX4_shelf_87 rfl (lv_at hl 2 rfl) ?_
          refine lv_iconst (pc := 88) (v := (nI 2)) hx hb dX4_shelf_88 (by decide) ?_
          refine zb_icmp_ne (pc := 89) (tgt := 102) hx hb dX4_shelf_89 (by decide) hF (fun c_89 hF => ?_) (fun c_89 hF => ?_)
          · refine lv_iconst (pc := 102) (v := (-1 : Int32)) hx hb dX4_shelf_102 (by decide) ?_
            exact z_iretM (pc := 103) (fun q => q.1) (fun q => (wX4_shelf_N cB cI cJ cO h0 h_now h_sheets h_shelfHolds h_shelfNames h_shelfRows g_tried g_told g_kept g_isKept g_tape g_taped g_rows g_rowCount g_thing g_mattering g_now_laws g_now_ground g_now_seen g_now_kind g_now_hand g_now_size g_now_on g_now_away g_now_nightsPassed g_now_glances g_now_draws g_now_gained g_now_paintedOn g_now_wallLooks v_now_count v_sheets q.2.1 q.2.2.1 q.2.2.2)) hx hb hr hlocks hP hS hF rfl hQ dX4_shelf_103
          · refine lv_aload_n (pc := 92) hx hb dX4_shelf_92 rfl (lv_at hl 0 rfl) ?_
            refine va_get (D := D) (pc := 93) (ci := 4) (v := .ref h_shelfHolds) (C := RX4) (T := TX4) (N := 15) hx hb hts nX4_shelf_N_X4 hown hK hP 0 rfl rfl 10 (by decide) (hts _ kX4_shelf_N_0) (fun _ h9 => h9) rfl dX4_shelf_93 ?_
            refine lv_iload_n (pc := 96) hx hb dX4_shelf_96 rfl (lv_at hl 1 rfl) ?_
            refine lv_iconst (pc := 97) (v := (nI 0)) hx hb dX4_shelf_97 (by decide) ?_
            refine za_iast (pc := 98) hx hb hK hP (zD_re hD rfl) hS 3 1 rfl rfl dX4_shelf_98 hF (fun hF H locs hP hS => ?_)
            have hP : va_P D vwCl (wX4_shelf_N cB cI cJ cO h0 h_now h_sheets h_shelfHolds h_shelfNames h_shelfRows g_tried g_told g_kept g_isKept g_tape g_taped g_rows g_rowCount g_thing g_mattering g_now_laws g_now_ground g_now_seen g_now_kind g_now_hand g_now_size g_now_on g_now_away g_now_nightsPassed g_now_glances g_now_draws g_now_gained g_now_paintedOn g_now_wallLooks v_now_count v_sheets (upd v_shelfHolds x1.toNatClampNeg (nI 0)) v_shelfNames v_shelfRows) H := hP
            refine lv_goto (pc := 99) (tgt := 104) hx hb dX4_shelf_99 (by decide) ?_
            refine lv_iconst (pc := 104) (v := (nI 1)) hx hb dX4_shelf_104 (by decide) ?_
            exact z_iretM (pc := 105) (fun q => q.1) (fun q => (wX4_shelf_N cB cI cJ cO h0 h_now h_sheets h_shelfHolds h_shelfNames h_shelfRows g_tried g_told g_kept g_isKept g_tape g_taped g_rows g_rowCount g_thing g_mattering g_now_laws g_now_ground g_now_seen g_now_kind g_now_hand g_now_size g_now_on g_now_away g_now_nightsPassed g_now_glances g_now_draws g_now_gained g_now_paintedOn g_now_wallLooks v_now_count v_sheets q.2.1 q.2.2.1 q.2.2.2)) hx hb hr hlocks hP hS hF rfl hQ dX4_shelf_105
        · refine lv_aload_n (pc := 52) hx hb dX4_shelf_52 rfl (lv_at hl 0 rfl) ?_
          refine va_get (D := D) (pc := 53) (ci := 4) (v := .ref h_shelfHolds) (C := RX4) (T := TX4) (N := 15) hx hb hts nX4_shelf_N_X4 hown hK hP 0 rfl rfl 10 (by decide) (hts _ kX4_shelf_N_0) (fun _ h9 => h9) rfl dX4_shelf_53 ?_
          refine lv_iload_n (pc := 56) hx hb dX4_shelf_56 rfl (lv_at hl 1 rfl) ?_
          refine lv_aload_n (pc := 57) hx hb dX4_shelf_57 rfl (lv_at hl 0 rfl) ?_
          refine va_get (D := D) (pc := 58) (ci := 4) (v := .ref h_sheets) (C := RX4) (T := TX4) (N := 15) hx hb hts nX4_shelf_N_X4 hown hK hP 0 rfl rfl 9 (by decide) (hts _ kX4_shelf_N_1) (fun _ h9 => h9) rfl dX4_shelf_58 ?_
          refine lv_iload_n (pc := 61) hx hb dX4_shelf_61 rfl (lv_at hl 3 rfl) ?_
          refine za_aldN (pc := 62) hx hb hK hP 2 3 rfl rfl dX4_shelf_62 hF (fun hF => ?_)
          refine lv_ifnonnullN (pc := 63) hx hb dX4_shelf_63 ?_
          refine lv_iconst (pc := 66) (v := (nI 0)) hx hb dX4_shelf_66 (by decide) ?_
          refine lv_goto (pc := 67) (tgt := 71) hx hb dX4_shelf_67 (by decide) ?_
          refine za_iast (pc := 71) hx hb hK hP (zD_re hD rfl) hS 3 1 rfl rfl dX4_shelf_71 hF (fun hF H locs hP hS => ?_)
          have hP : va_P D vwCl (wX4_shelf_N cB cI cJ cO h0 h_now h_sheets h_shelfHolds h_shelfNames h_shelfRows g_tried g_told g_kept g_isKept g_tape g_taped g_rows g_rowCount g_thing g_mattering g_now_laws g_now_ground g_now_seen g_now_kind g_now_hand g_now_size g_now_on g_now_away g_now_nightsPassed g_now_glances g_now_draws g_now_gained g_now_paintedOn g_now_wallLooks v_now_count v_sheets (upd v_shelfHolds x1.toNatClampNeg (nI 0)) v_shelfNames v_shelfRows) H := hP
          refine lv_aload_n (pc := 72) hx hb dX4_shelf_72 rfl (lv_at hl 0 rfl) ?_
          refine va_get (D := D) (pc := 73) (ci := 4) (v := .ref h_shelfRows) (C := RX4) (T := TX4) (N := 15) hx hb hts nX4_shelf_N_X4 hown hK hP 0 rfl rfl 12 (by decide) (hts _ kX4_shelf_N_2) (fun _ h9 => h9) rfl dX4_shelf_73 ?_
          refine lv_iload_n (pc := 76) hx hb dX4_shelf_76 rfl (lv_at hl 1 rfl) ?_
          refine lv_aload_n (pc := 77) hx hb dX4_shelf_77 rfl (lv_at hl 0 rfl) ?_
          refine va_get (D := D) (pc := 78) (ci := 4) (v := .ref h_sheets) (C := RX4) (T := TX4) (N := 15) hx hb hts nX4_shelf_N_X4 hown hK hP 0 rfl rfl 9 (by decide) (hts _ kX4_shelf_N_1) (fun _ h9 => h9) rfl dX4_shelf_78 ?_
          refine lv_iload_n (pc := 81) hx hb dX4_shelf_81 rfl (lv_at hl 3 rfl) ?_
          refine za_aldN (pc := 82) hx hb hK hP 2 3 rfl rfl dX4_shelf_82 hF (fun hF => ?_)
          refine za_astN (pc := 83) hx hb hK hP (zD_re hD rfl) hS 5 3 rfl rfl dX4_shelf_83 hF (fun hF H locs hP hS => ?_)
          have hP : va_P D vwCl (wX4_shelf_N cB cI cJ cO h0 h_now h_sheets h_shelfHolds h_shelfNames h_shelfRows g_tried g_told g_kept g_isKept g_tape g_taped g_rows g_rowCount g_thing g_mattering g_now_laws g_now_ground g_now_seen g_now_kind g_now_hand g_now_size g_now_on g_now_away g_now_nightsPassed g_now_glances g_now_draws g_now_gained g_now_paintedOn g_now_wallLooks v_now_count v_sheets (upd v_shelfHolds x1.toNatClampNeg (nI 0)) v_shelfNames (va_up v_shelfRows x1.toNatClampNeg none)) H := hP
          refine lv_goto (pc := 84) (tgt := 104) hx hb dX4_shelf_84 (by decide) ?_
          refine lv_iconst (pc := 104) (v := (nI 1)) hx hb dX4_shelf_104 (by decide) ?_
          exact z_iretM (pc := 105) (fun q => q.1) (fun q => (wX4_shelf_N cB cI cJ cO h0 h_now h_sheets h_shelfHolds h_shelfNames h_shelfRows g_tried g_told g_kept g_isKept g_tape g_taped g_rows g_rowCount g_thing g_mattering g_now_laws g_now_ground g_now_seen g_now_kind g_now_hand g_now_size g_now_on g_now_away g_now_nightsPassed g_now_glances g_now_draws g_now_gained g_now_paintedOn g_now_wallLooks v_now_count v_sheets q.2.1 q.2.2.1 q.2.2.2)) hx hb hr hlocks hP hS hF rfl hQ dX4_shelf_105
    refine zb_if_ne (pc := 11) (tgt := 39) hx hb dX4_shelf_11 (by decide) hF (fun c_11 hF => ?_) (fun c_11 hF => ?_)
    · exact kJ_1  hF H locs hP hS ls (lv_sub hl [0, 1, 2, 3] rfl)
    · refine lv_aload_n (pc := 14) hx hb dX4_shelf_14 rfl (lv_at hl 0 rfl) ?_
      refine lv_iload_n (pc := 15) hx hb dX4_shelf_15 rfl (lv_at hl 3 rfl) ?_
      obtain ⟨u16, hu16, hF⟩ := z_bind hF
      refine zq_call (oc0 := (some (.int u16))) (va_runV (As := [.int x3]) (rest := []) ⟨hx, hb, hml, hown, hts⟩ (tX4_isName (l := l) (D := D) (cB := cB) (cI := cI) (cJ := cJ) (cO := cO) h0 h_now g_tried g_told g_kept g_isKept g_tape g_taped g_rows g_rowCount (.ref h_sheets) (.ref h_shelfHolds) (.ref h_shelfNames) (.ref h_shelfRows) g_thing g_mattering g_now_laws g_now_ground g_now_seen g_now_kind g_now_hand g_now_size g_now_on g_now_away g_now_nightsPassed g_now_glances g_now_draws g_now_gained g_now_paintedOn g_now_wallLooks v_now_count x3 u16 hu16) (cwV 1 hts gX4_shelf_X4_isName rfl rfl rfl (by decide +kernel) ⟨Nat.le_of_ble_eq_true rfl, Nat.le_of_ble_eq_true rfl⟩) ⟨zPre_blind, va_recv hK hP (ci := 4) (q0 := 0) rfl rfl, zPre_at hP hE (zD_re hD rfl) [0, 1] rfl rfl⟩ rfl rfl hl.1 rfl (lv_room (Nat.le_of_ble_eq_true rfl)) dX4_shelf_16 ⟨Nat.zero_le _, Nat.zero_le _⟩) ?_
      refine W.eq (g2 := F0 m 19 ls [.int u16]) rfl ?_
      refine zb_if_eq (pc := 19) (tgt := 39) hx hb dX4_shelf_19 (by decide) hF (fun c_19 hF => ?_) (fun c_19 hF => ?_)
      · exact kJ_1  hF H locs hP hS ls (lv_sub hl [0, 1, 2, 3] rfl)
      · refine lv_aload_n (pc := 22) hx hb dX4_shelf_22 rfl (lv_at hl 0 rfl) ?_
        refine va_get (D := D) (pc := 23) (ci := 4) (v := .ref h_shelfHolds) (C := RX4) (T := TX4) (N := 15) hx hb hts nX4_shelf_N_X4 hown hK hP 0 rfl rfl 10 (by decide) (hts _ kX4_shelf_N_0) (fun _ h9 => h9) rfl dX4_shelf_23 ?_
        refine lv_iload_n (pc := 26) hx hb dX4_shelf_26 rfl (lv_at hl 1 rfl) ?_
        refine lv_iconst (pc := 27) (v := (nI 1)) hx hb dX4_shelf_27 (by decide) ?_
        refine za_iast (pc := 28) hx hb hK hP (zD_re hD rfl) hS 3 1 rfl rfl dX4_shelf_28 hF (fun hF H locs hP hS => ?_)
        have hP : va_P D vwCl (wX4_shelf_N cB cI cJ cO h0 h_now h_sheets h_shelfHolds h_shelfNames h_shelfRows g_tried g_told g_kept g_isKept g_tape g_taped g_rows g_rowCount g_thing g_mattering g_now_laws g_now_ground g_now_seen g_now_kind g_now_hand g_now_size g_now_on g_now_away g_now_nightsPassed g_now_glances g_now_draws g_now_gained g_now_paintedOn g_now_wallLooks v_now_count v_sheets (upd v_shelfHolds x1.toNatClampNeg (nI 1)) v_shelfNames v_shelfRows) H := hP
        refine lv_aload_n (pc := 29) hx hb dX4_shelf_29 rfl (lv_at hl 0 rfl) ?_
        refine va_get (D := D) (pc := 30) (ci := 4) (v := .ref h_shelfNames) (C := RX4) (T := TX4) (N := 15) hx hb hts nX4_shelf_N_X4 hown hK hP 0 rfl rfl 11 (by decide) (hts _ kX4_shelf_N_3) (fun _ h9 => h9) rfl dX4_shelf_30 ?_
        refine lv_iload_n (pc := 33) hx hb dX4_shelf_33 rfl (lv_at hl 1 rfl) ?_
        refine lv_iload_n (pc := 34) hx hb dX4_shelf_34 rfl (lv_at hl 3 rfl) ?_
        refine za_iast (pc := 35) hx hb hK hP (zD_re hD rfl) hS 4 1 rfl rfl dX4_shelf_35 hF (fun hF H locs hP hS => ?_)
        have hP : va_P D vwCl (wX4_shelf_N cB cI cJ cO h0 h_now h_sheets h_shelfHolds h_shelfNames h_shelfRows g_tried g_told g_kept g_isKept g_tape g_taped g_rows g_rowCount g_thing g_mattering g_now_laws g_now_ground g_now_seen g_now_kind g_now_hand g_now_size g_now_on g_now_away g_now_nightsPassed g_now_glances g_now_draws g_now_gained g_now_paintedOn g_now_wallLooks v_now_count v_sheets (upd v_shelfHolds x1.toNatClampNeg (nI 1)) (upd v_shelfNames x1.toNatClampNeg x3) v_shelfRows) H := hP
        refine lv_goto (pc := 36) (tgt := 104) hx hb dX4_shelf_36 (by decide) ?_
        refine lv_iconst (pc := 104) (v := (nI 1)) hx hb dX4_shelf_104 (by decide) ?_
        exact z_iretM (pc := 105) (fun q => q.1) (fun q => (wX4_shelf_N cB cI cJ cO h0 h_now h_sheets h_shelfHolds h_shelfNames h_shelfRows g_tried g_told g_kept g_isKept g_tape g_taped g_rows g_rowCount g_thing g_mattering g_now_laws g_now_ground g_now_seen g_now_kind g_now_hand g_now_size g_now_on g_now_away g_now_nightsPassed g_now_glances g_now_draws g_now_gained g_now_paintedOn g_now_wallLooks v_now_count v_sheets q.2.1 q.2.2.1 q.2.2.2)) hx hb hr hlocks hP hS hF rfl hQ dX4_shelf_105
  · refine lv_iconst (pc := 8) (v := (-1 : Int32)) hx hb dX4_shelf_8 (by decide) ?_
    exact z_iretM (pc := 9) (fun q => q.1) (fun q => (wX4_shelf_N cB cI cJ cO h0 h_now h_sheets h_shelfHolds h_shelfNames h_shelfRows g_tried g_told g_kept g_isKept g_tape g_taped g_rows g_rowCount g_thing g_mattering g_now_laws g_now_ground g_now_seen g_now_kind g_now_hand g_now_size g_now_on g_now_away g_now_nightsPassed g_now_glances g_now_draws g_now_gained g_now_paintedOn g_now_wallLooks v_now_count v_sheets q.2.1 q.2.2.1 q.2.2.2)) hx hb hr hlocks hP hS hF rfl hQ dX4_shelf_9

abbrev rX4_isNameOn : Room := { frames := 2, cells := 0, slots := 0, locals := 42 }
abbrev wX4_isNameOn (cB cI cJ cO : ClassId) (h0 h_now h_shelfHolds h_shelfNames : Nat) (g_tried g_told g_kept g_isKept g_tape g_taped g_rows g_rowCount g_sheets g_shelfRows g_thing g_mattering g_now_laws g_now_ground g_now_seen g_now_kind g_now_hand g_now_size g_now_on g_now_away g_now_nightsPassed g_now_glances g_now_draws g_now_gained g_now_paintedOn g_now_wallLooks : Value) (v_now_count : Int32) (v_shelfHolds : Nat → Int32) (v_shelfNames : Nat → Int32) : va_W := [(h0, .inr (4, [.ref h_now, g_tried, g_told, g_kept, g_isKept, g_tape, g_taped, g_rows, g_rowCount, g_sheets, .ref h_shelfHolds, .ref h_shelfNames, g_shelfRows, g_thing, g_mattering])), (h_now, .inr (2, [g_now_laws, g_now_ground, g_now_seen, .int v_now_count, g_now_kind, g_now_hand, g_now_size, g_now_on, g_now_away, g_now_nightsPassed, g_now_glances, g_now_draws, g_now_gained, g_now_paintedOn, g_now_wallLooks])), (h_shelfHolds, .inl (cI, 4, .inl v_shelfHolds)), (h_shelfNames, .inl (cI, 4, .inl v_shelfNames))]
theorem nX4_isNameOn_X4 : ∀ w ∈ wsX40, w ∈ wsX4_isNameOn := by decide +kernel
theorem kX4_isNameOn_0 : Cond.fieldLink RX4 50 "PaintedWalls" "shelfHolds" "[I" ∈ wsX4_isNameOn := by decide +kernel
theorem kX4_isNameOn_1 : Cond.fieldLink RX4 53 "PaintedWalls" "shelfNames" "[I" ∈ wsX4_isNameOn := by decide +kernel
set_option maxHeartbeats 4000000 in
set_option maxRecDepth 100000 in
theorem tX4_isNameOn {l : Launch} {D : va_G} {cB cI cJ cO : ClassId} (h0 h_now h_shelfHolds h_shelfNames : Nat) (g_tried g_told g_kept g_isKept g_tape g_taped g_rows g_rowCount g_sheets g_shelfRows g_thing g_mattering g_now_laws g_now_ground g_now_seen g_now_kind g_now_hand g_now_size g_now_on g_now_away g_now_nightsPassed g_now_glances g_now_draws g_now_gained g_now_paintedOn g_now_wallLooks : Value) (v_now_count : Int32) (v_shelfHolds : Nat → Int32) (v_shelfNames : Nat → Int32) (x1 : Int32) (r : Int32) (hF : fX4_isNameOn v_now_count v_shelfHolds v_shelfNames x1 = some r) : Met l yX4_isNameOn wsX4_isNameOn rX4_isNameOn (zPre D cB cI cJ cO [.ref h0, .int x1] (wX4_isNameOn cB cI cJ cO h0 h_now h_shelfHolds h_shelfNames g_tried g_told g_kept g_isKept g_tape g_taped g_rows g_rowCount g_sheets g_shelfRows g_thing g_mattering g_now_laws g_now_ground g_now_seen g_now_kind g_now_hand g_now_size g_now_on g_now_away g_now_nightsPassed g_now_glances g_now_draws g_now_gained g_now_paintedOn g_now_wallLooks v_now_count v_shelfHolds v_shelfNames)) (zPI (some (.int r))) 0 0 (fun _ => False) := by
  refine zMetP (cc := cX4_isNameOn) (maxL := 2) (ret := (some .boolean)) (lv := [(0, .ref h0), (1, .int x1)]) (by decide) rfl (Nat.le_of_ble_eq_true rfl) rfl ?_
  intro p e s m args below meth c ls Q hQ hx hb hr hml hown hts hlocks hname hP hE hD hl
  have hown : s.vm.findClass RX4 = some m.cls := hown
  have hK := hE.1
  unfold fX4_isNameOn at hF
  refine lv_aload_n (pc := 0) hx hb dX4_isNameOn_0 rfl (lv_at hl 0 rfl) ?_
  refine va_get (D := D) (pc := 1) (ci := 4) (v := .ref h_shelfHolds) (C := RX4) (T := TX4) (N := 15) hx hb hts nX4_isNameOn_X4 hown hK hP 0 rfl rfl 10 (by decide) (hts _ kX4_isNameOn_0) (fun _ h9 => h9) rfl dX4_isNameOn_1 ?_
  refine lv_iload_n (pc := 4) hx hb dX4_isNameOn_4 rfl (lv_at hl 1 rfl) ?_
  refine za_iald (pc := 5) hx hb hK hP 2 1 rfl rfl dX4_isNameOn_5 hF (fun hF => ?_)
  refine lv_iconst (pc := 6) (v := (nI 1)) hx hb dX4_isNameOn_6 (by decide) ?_
  refine zb_icmp_ne (pc := 7) (tgt := 27) hx hb dX4_isNameOn_7 (by decide) hF (fun c_7 hF => ?_) (fun c_7 hF => ?_)
  · refine lv_iconst (pc := 27) (v := (nI 0)) hx hb dX4_isNameOn_27 (by decide) ?_
    exact z_zret (pc := 28) (fun q => q) hx hb hr hlocks (by decide) hF rfl hQ dX4_isNameOn_28
  · refine lv_aload_n (pc := 10) hx hb dX4_isNameOn_10 rfl (lv_at hl 0 rfl) ?_
    refine lv_aload_n (pc := 11) hx hb dX4_isNameOn_11 rfl (lv_at hl 0 rfl) ?_
    refine va_get (D := D) (pc := 12) (ci := 4) (v := .ref h_shelfNames) (C := RX4) (T := TX4) (N := 15) hx hb hts nX4_isNameOn_X4 hown hK hP 0 rfl rfl 11 (by decide) (hts _ kX4_isNameOn_1) (fun _ h9 => h9) rfl dX4_isNameOn_12 ?_
    refine lv_iload_n (pc := 15) hx hb dX4_isNameOn_15 rfl (lv_at hl 1 rfl) ?_
    refine za_iald (pc := 16) hx hb hK hP 3 1 rfl rfl dX4_isNameOn_16 hF (fun hF => ?_)
    obtain ⟨u17, hu17, hF⟩ := z_bind hF
    refine zq_call (oc0 := (some (.int u17))) (va_runV (As := [.int (v_shelfNames x1.toNatClampNeg)]) (rest := []) ⟨hx, hb, hml, hown, hts⟩ (tX4_isName (l := l) (D := D) (cB := cB) (cI := cI) (cJ := cJ) (cO := cO) h0 h_now g_tried g_told g_kept g_isKept g_tape g_taped g_rows g_rowCount g_sheets (.ref h_shelfHolds) (.ref h_shelfNames) g_shelfRows g_thing g_mattering g_now_laws g_now_ground g_now_seen g_now_kind g_now_hand g_now_size g_now_on g_now_away g_now_nightsPassed g_now_glances g_now_draws g_now_gained g_now_paintedOn g_now_wallLooks v_now_count (v_shelfNames x1.toNatClampNeg) u17 hu17) (cwV 1 hts gX4_isNameOn_X4_isName rfl rfl rfl (by decide +kernel) ⟨Nat.le_of_ble_eq_true rfl, Nat.le_of_ble_eq_true rfl⟩) ⟨zPre_blind, va_recv hK hP (ci := 4) (q0 := 0) rfl rfl, zPre_at hP hE hD [0, 1] rfl rfl⟩ rfl rfl hl.1 rfl (lv_room (Nat.le_of_ble_eq_true rfl)) dX4_isNameOn_17 ⟨Nat.zero_le _, Nat.zero_le _⟩) ?_
    refine W.eq (g2 := F0 m 20 ls [.int u17]) rfl ?_
    refine zb_if_eq (pc := 20) (tgt := 27) hx hb dX4_isNameOn_20 (by decide) hF (fun c_20 hF => ?_) (fun c_20 hF => ?_)
    · refine lv_iconst (pc := 27) (v := (nI 0)) hx hb dX4_isNameOn_27 (by decide) ?_
      exact z_zret (pc := 28) (fun q => q) hx hb hr hlocks (by decide) hF rfl hQ dX4_isNameOn_28
    · refine lv_iconst (pc := 23) (v := (nI 1)) hx hb dX4_isNameOn_23 (by decide) ?_
      refine lv_goto (pc := 24) (tgt := 28) hx hb dX4_isNameOn_24 (by decide) ?_
      exact z_zret (pc := 28) (fun q => q) hx hb hr hlocks (by decide) hF rfl hQ dX4_isNameOn_28

abbrev rX4_taken_S : Room := { frames := 3, cells := 0, slots := 0, locals := 63 }
abbrev wX4_taken_S (cB cI cJ cO : ClassId) (h0 h_now h_now_kind h_shelfHolds h_shelfNames h_shelfRows h_it : Nat) (g_tried g_told g_kept g_isKept g_tape g_taped g_rows g_rowCount g_sheets g_thing g_mattering g_now_laws g_now_ground g_now_seen g_now_hand g_now_size g_now_on g_now_away g_now_nightsPassed g_now_glances g_now_draws g_now_gained g_now_paintedOn g_now_wallLooks g_it_values : Value) (v_now_count : Int32) (v_now_kind : Nat → Int32) (v_shelfHolds : Nat → Int32) (v_shelfNames : Nat → Int32) (v_shelfRows : Nat → Option Nat) (v_it_sort : Int32) (v_it_length : Int32) : va_W := [(h0, .inr (4, [.ref h_now, g_tried, g_told, g_kept, g_isKept, g_tape, g_taped, g_rows, g_rowCount, g_sheets, .ref h_shelfHolds, .ref h_shelfNames, .ref h_shelfRows, g_thing, g_mattering])), (h_now, .inr (2, [g_now_laws, g_now_ground, g_now_seen, .int v_now_count, .ref h_now_kind, g_now_hand, g_now_size, g_now_on, g_now_away, g_now_nightsPassed, g_now_glances, g_now_draws, g_now_gained, g_now_paintedOn, g_now_wallLooks])), (h_now_kind, .inl (cI, 8, .inl v_now_kind)), (h_shelfHolds, .inl (cI, 4, .inl v_shelfHolds)), (h_shelfNames, .inl (cI, 4, .inl v_shelfNames)), (h_shelfRows, .inl (cO, 4, .inr (.inr (.inr (.inr v_shelfRows))))), (h_it, .inr (0, [.int v_it_sort, .int v_it_length, g_it_values]))]
theorem nX4_taken_S_X4 : ∀ w ∈ wsX40, w ∈ wsX4_taken := by decide +kernel
theorem nX4_taken_S_X0 : ∀ w ∈ wsX00, w ∈ wsX4_taken := by decide +kernel
theorem nX4_taken_S_X2 : ∀ w ∈ wsX20, w ∈ wsX4_taken := by decide +kernel
theorem kX4_taken_S_0 : Cond.fieldLink RX4 56 "PaintedWalls" "shelfRows" "[LPaintedWalls$Items;" ∈ wsX4_taken := by decide +kernel
theorem kX4_taken_S_1 : Cond.fieldLink RX4 50 "PaintedWalls" "shelfHolds" "[I" ∈ wsX4_taken := by decide +kernel
theorem kX4_taken_S_2 : Cond.fieldLink RX4 228 "PaintedWalls$Items" "sort" "I" ∈ wsX4_taken := by decide +kernel
theorem kX4_taken_S_3 : Cond.fieldLink RX4 210 "PaintedWalls$Items" "length" "I" ∈ wsX4_taken := by decide +kernel
theorem kX4_taken_S_4 : Cond.fieldLink RX4 53 "PaintedWalls" "shelfNames" "[I" ∈ wsX4_taken := by decide +kernel
theorem kX4_taken_S_5 : Cond.fieldLink RX4 12 "PaintedWalls" "now" "LPaintedWalls$Town;" ∈ wsX4_taken := by decide +kernel
theorem kX4_taken_S_6 : Cond.fieldLink RX4 109 "PaintedWalls$Town" "kind" "[I" ∈ wsX4_taken := by decide +kernel
set_option maxHeartbeats 4000000 in
set_option maxRecDepth 100000 in
theorem tX4_taken_S {l : Launch} {D : va_G} {cB cI cJ cO : ClassId} {adK adV : Nat → Nat} (h0 h_now h_now_kind h_shelfHolds h_shelfNames h_shelfRows h_it : Nat) (g_tried g_told g_kept g_isKept g_tape g_taped g_rows g_rowCount g_sheets g_thing g_mattering g_now_laws g_now_ground g_now_seen g_now_hand g_now_size g_now_on g_now_away g_now_nightsPassed g_now_glances g_now_draws g_now_gained g_now_paintedOn g_now_wallLooks g_it_values : Value) (v_now_count : Int32) (v_now_kind : Nat → Int32) (v_shelfHolds : Nat → Int32) (v_shelfNames : Nat → Int32) (v_shelfRows : Nat → Option Nat) (v_it_sort : Int32) (v_it_length : Int32) (x1 : Int32) (x2 : Int32) (r : Int32) (hF : fX4_taken_S v_now_count v_now_kind v_shelfHolds v_shelfNames v_shelfRows v_it_sort v_it_length h_it x1 x2 = some r) : Met l yX4_taken wsX4_taken rX4_taken_S (zPreS D cB cI cJ cO adK adV [.ref h0, .int x1, .int x2] (wX4_taken_S cB cI cJ cO h0 h_now h_now_kind h_shelfHolds h_shelfNames h_shelfRows h_it g_tried g_told g_kept g_isKept g_tape g_taped g_rows g_rowCount g_sheets g_thing g_mattering g_now_laws g_now_ground g_now_seen g_now_hand g_now_size g_now_on g_now_away g_now_nightsPassed g_now_glances g_now_draws g_now_gained g_now_paintedOn g_now_wallLooks g_it_values v_now_count v_now_kind v_shelfHolds v_shelfNames v_shelfRows v_it_sort v_it_length) [h0, h_now, h_now_kind, h_shelfHolds, h_shelfNames, h_shelfRows, h_it]) (zPI (some (.int r))) 0 0 (fun _ => False) := by
  refine zMetPS (cc := cX4_taken) (maxL := 5) (ret := (some .int)) (lv := [(0, .ref h0), (1, .int x1), (2, .int x2)]) rfl (by decide) rfl (Nat.le_of_ble_eq_true rfl) rfl ?_
  intro p e s m args below meth c ls Q hQ hx hb hr hml hown hts hlocks hname hP hE hD hS hZ hl
  have hown : s.vm.findClass RX4 = some m.cls := hown
  have hK := hE.1
  unfold fX4_taken_S at hF
  refine lv_iload_n (pc := 0) hx hb dX4_taken_0 rfl (lv_at hl 2 rfl) ?_
  refine lv_bipush (pc := 1) (v := (nI 6)) hx hb dX4_taken_1 (by decide) ?_
  obtain ⟨u3, hu3, hF⟩ := z_bind hF
  refine zq_call (oc0 := (some (.int u3))) (va_runS (As := [.int x2, .int (nI 6)]) (rest := []) ⟨hx, hb, hml, hown, hts⟩ (tX4_isBelow (l := l) (D := D) (cB := cB) (cI := cI) (cJ := cJ) (cO := cO) x2 (nI 6) u3 hu3) (va_cwS 2 hts gX4_taken_X4_isBelow rfl rfl rfl (by decide +kernel) ⟨Nat.le_of_ble_eq_true rfl, Nat.le_of_ble_eq_true rfl⟩) ⟨zPre_blind, zPre_at hP hE (zD_re hD rfl) [] rfl rfl⟩ rfl rfl hl.1 rfl (lv_room (Nat.le_of_ble_eq_true rfl)) dX4_taken_3 ⟨Nat.zero_le _, Nat.zero_le _⟩) ?_
  refine W.eq (g2 := F0 m 6 ls [.int u3]) rfl ?_
  refine lv_istore_n (pc := 6) (lv' := [(3, .int u3), (0, .ref h0), (1, .int x1), (2, .int x2)]) hx hb dX4_taken_6 rfl hl (by decide) rfl (fun ls hl => ?_)
  refine lv_iload_n (pc := 7) hx hb dX4_taken_7 rfl (lv_at hl 2 rfl) ?_
  refine lv_iconst (pc := 8) (v := (nI 4)) hx hb dX4_taken_8 (by decide) ?_
  obtain ⟨u9, hu9, hF⟩ := z_bind hF
  refine zq_call (oc0 := (some (.int u9))) (va_runS (As := [.int x1, .int (nI 4)]) (rest := []) ⟨hx, hb, hml, hown, hts⟩ (tX4_isBelow (l := l) (D := D) (cB := cB) (cI := cI) (cJ := cJ) (cO := cO) x1 (nI 4) u9 hu9) (va_cwS 2 hts gX4_taken_X4_isBelow rfl rfl rfl (by decide +kernel) ⟨Nat.le_of_ble_eq_true rfl, Nat.le_of_ble_eq_true rfl⟩) ⟨zPre_blind, zPre_at hP hE (zD_re hD rfl) [] rfl rfl⟩ rfl rfl hl.1 rfl (lv_room (Nat.le_of_ble_eq_true rfl)) dX4_taken_9 ⟨Nat.zero_le _, Nat.zero_le _⟩) ?_
  refine W.eq (g2 := F0 m 12 ls [.int u9]) rfl ?_
  refine zb_if_eq (pc := 12) (tgt := 30) hx hb dX4_taken_12 (by decide) hF (fun c_12 hF => ?_) (fun c_12 hF => ?_)
  · refine lv_iconst (pc := 30) (v := (-1 : Int32)) hx hb dX4_taken_30 (by decide) ?_
    exact z_iret (pc := 31) (fun q => q) hx hb hr hlocks hF rfl hQ dX4_taken_31
  · refine lv_iload_n (pc := 15) hx hb dX4_taken_15 rfl (lv_at hl 0 rfl) ?_
    obtain ⟨J_1, hJ_1, hF⟩ := z_J hF
    have kJ_1 : J_1 = some r → ∀ (ls : Array Slot), lv_has ls 5 [(0, .ref h0), (1, .int x1), (2, .int x2), (3, .int u3)] → W p l e rX4_taken_S s m args below meth c s.heap [] 0 0 Q (F0 m 32 ls []) := by
      intro  hF ls hl
      rw [hJ_1] at hF
      refine lv_aload_n (pc := 32) hx hb dX4_taken_32 rfl (lv_at hl 0 rfl) ?_
      refine lv_iload_n (pc := 33) hx hb dX4_taken_33 rfl (lv_at hl 1 rfl) ?_
      obtain ⟨u34, hu34, hF⟩ := z_bind hF
      refine zq_call (oc0 := (some (.int u34))) (va_runV (As := [.int x1]) (rest := []) ⟨hx, hb, hml, hown, hts⟩ (tX4_isNameOn (l := l) (D := D) (cB := cB) (cI := cI) (cJ := cJ) (cO := cO) h0 h_now h_shelfHolds h_shelfNames g_tried g_told g_kept g_isKept g_tape g_taped g_rows g_rowCount g_sheets (.ref h_shelfRows) g_thing g_mattering g_now_laws g_now_ground g_now_seen (.ref h_now_kind) g_now_hand g_now_size g_now_on g_now_away g_now_nightsPassed g_now_glances g_now_draws g_now_gained g_now_paintedOn g_now_wallLooks v_now_count v_shelfHolds v_shelfNames x1 u34 hu34) (cwV 1 hts gX4_taken_X4_isNameOn rfl rfl rfl (by decide +kernel) ⟨Nat.le_of_ble_eq_true rfl, Nat.le_of_ble_eq_true rfl⟩) ⟨zPre_blind, va_recv hK hP (ci := 4) (q0 := 0) rfl rfl, zPre_at hP hE (zD_re hD rfl) [0, 1, 3, 4] rfl rfl⟩ rfl rfl hl.1 rfl (lv_room (Nat.le_of_ble_eq_true rfl)) dX4_taken_34 ⟨Nat.zero_le _, Nat.zero_le _⟩) ?_
      refine W.eq (g2 := F0 m 37 ls [.int u34]) rfl ?_
      refine zb_if_eq (pc := 37) (tgt := 77) hx hb dX4_taken_37 (by decide) hF (fun c_37 hF => ?_) (fun c_37 hF => ?_)
      · refine lv_aload_n (pc := 77) hx hb dX4_taken_77 rfl (lv_at hl 0 rfl) ?_
        refine va_get (D := D) (pc := 78) (ci := 4) (v := .ref h_shelfRows) (C := RX4) (T := TX4) (N := 15) hx hb hts nX4_taken_S_X4 hown hK hP 0 rfl rfl 12 (by decide) (hts _ kX4_taken_S_0) (fun _ h9 => h9) rfl dX4_taken_78 ?_
        refine lv_iload_n (pc := 81) hx hb dX4_taken_81 rfl (lv_at hl 1 rfl) ?_
        refine za_aldS (pc := 82) hx hb hK hP 5 3 rfl rfl dX4_taken_82 hF (fun hF => ?_) (fun hF => ?_)
        · refine lv_astoreN (pc := 83) (lv' := [(4, .null), (0, .ref h0), (1, .int x1), (2, .int x2), (3, .int u3)]) hx hb dX4_taken_83 hl (by decide) rfl (fun ls hl => ?_)
          refine lv_aload_n (pc := 85) hx hb dX4_taken_85 rfl (lv_at hl 1 rfl) ?_
          refine va_get (D := D) (pc := 86) (ci := 4) (v := .ref h_shelfHolds) (C := RX4) (T := TX4) (N := 15) hx hb hts nX4_taken_S_X4 hown hK hP 0 rfl rfl 10 (by decide) (hts _ kX4_taken_S_1) (fun _ h9 => h9) rfl dX4_taken_86 ?_
          refine lv_iload_n (pc := 89) hx hb dX4_taken_89 rfl (lv_at hl 2 rfl) ?_
          refine za_iald (pc := 90) hx hb hK hP 3 1 rfl rfl dX4_taken_90 hF (fun hF => ?_)
          refine lv_iconst (pc := 91) (v := (nI 2)) hx hb dX4_taken_91 (by decide) ?_
          refine zb_icmp_ne (pc := 92) (tgt := 100) hx hb dX4_taken_92 (by decide) hF (fun c_92 hF => ?_) (fun c_92 hF => ?_)
          · refine lv_bipush (pc := 100) (v := (-11 : Int32)) hx hb dX4_taken_100 (by decide) ?_
            exact z_iret (pc := 102) (fun q => q) hx hb hr hlocks hF rfl hQ dX4_taken_102
          · refine lv_aloadN (pc := 95) hx hb dX4_taken_95 (lv_at hl 0 rfl) ?_
            refine lv_ifnonnullN (pc := 97) hx hb dX4_taken_97 ?_
            refine lv_bipush (pc := 100) (v := (-11 : Int32)) hx hb dX4_taken_100 (by decide) ?_
            exact z_iret (pc := 102) (fun q => q) hx hb hr hlocks hF rfl hQ dX4_taken_102
        · refine lv_astore (pc := 83) (lv' := [(4, .ref h_it), (0, .ref h0), (1, .int x1), (2, .int x2), (3, .int u3)]) hx hb dX4_taken_83 hl (by decide) rfl (fun ls hl => ?_)
          refine lv_aload_n (pc := 85) hx hb dX4_taken_85 rfl (lv_at hl 1 rfl) ?_
          refine va_get (D := D) (pc := 86) (ci := 4) (v := .ref h_shelfHolds) (C := RX4) (T := TX4) (N := 15) hx hb hts nX4_taken_S_X4 hown hK hP 0 rfl rfl 10 (by decide) (hts _ kX4_taken_S_1) (fun _ h9 => h9) rfl dX4_taken_86 ?_
          refine lv_iload_n (pc := 89) hx hb dX4_taken_89 rfl (lv_at hl 2 rfl) ?_
          refine za_iald (pc := 90) hx hb hK hP 3 1 rfl rfl dX4_taken_90 hF (fun hF => ?_)
          refine lv_iconst (pc := 91) (v := (nI 2)) hx hb dX4_taken_91 (by decide) ?_
          refine zb_icmp_ne (pc := 92) (tgt := 100) hx hb dX4_taken_92 (by decide) hF (fun c_92 hF => ?_) (fun c_92 hF => ?_)
          · refine lv_bipush (pc := 100) (v := (-11 : Int32)) hx hb dX4_taken_100 (by decide) ?_
            exact z_iret (pc := 102) (fun q => q) hx hb hr hlocks hF rfl hQ dX4_taken_102
          · refine lv_aload (pc := 95) hx hb dX4_taken_95 (lv_at hl 0 rfl) ?_
            refine lv_ifnonnull (pc := 97) (tgt := 103) hx hb dX4_taken_97 (by decide) ?_
            refine lv_aload (pc := 103) hx hb dX4_taken_103 (lv_at hl 0 rfl) ?_
            refine va_get (D := D) (pc := 105) (ci := 0) (v := .int v_it_sort) (C := RX0) (T := TX0) (N := 3) hx hb hts nX4_taken_S_X0 hown hK hP 6 rfl rfl 0 (by decide) (hts _ kX4_taken_S_2) (fun _ h9 => h9) rfl dX4_taken_105 ?_
            refine lv_iload_n (pc := 108) hx hb dX4_taken_108 rfl (lv_at hl 3 rfl) ?_
            refine lv_bipush (pc := 109) (v := (nI 10)) hx hb dX4_taken_109 (by decide) ?_
            refine lv_isub (pc := 111) hx hb dX4_taken_111 ?_
            refine zb_icmp_ne (pc := 112) (tgt := 123) hx hb dX4_taken_112 (by decide) hF (fun c_112 hF => ?_) (fun c_112 hF => ?_)
            · refine lv_bipush (pc := 123) (v := (-13 : Int32)) hx hb dX4_taken_123 (by decide) ?_
              exact z_iret (pc := 125) (fun q => q) hx hb hr hlocks hF rfl hQ dX4_taken_125
            · refine lv_aload (pc := 115) hx hb dX4_taken_115 (lv_at hl 0 rfl) ?_
              refine va_get (D := D) (pc := 117) (ci := 0) (v := .int v_it_length) (C := RX0) (T := TX0) (N := 3) hx hb hts nX4_taken_S_X0 hown hK hP 6 rfl rfl 1 (by decide) (hts _ kX4_taken_S_3) (fun _ h9 => h9) rfl dX4_taken_117 ?_
              refine lv_goto (pc := 120) (tgt := 125) hx hb dX4_taken_120 (by decide) ?_
              exact z_iret (pc := 125) (fun q => q) hx hb hr hlocks hF rfl hQ dX4_taken_125
      · refine lv_aload_n (pc := 40) hx hb dX4_taken_40 rfl (lv_at hl 0 rfl) ?_
        refine va_get (D := D) (pc := 41) (ci := 4) (v := .ref h_shelfNames) (C := RX4) (T := TX4) (N := 15) hx hb hts nX4_taken_S_X4 hown hK hP 0 rfl rfl 11 (by decide) (hts _ kX4_taken_S_4) (fun _ h9 => h9) rfl dX4_taken_41 ?_
        refine lv_iload_n (pc := 44) hx hb dX4_taken_44 rfl (lv_at hl 1 rfl) ?_
        refine za_iald (pc := 45) hx hb hK hP 4 1 rfl rfl dX4_taken_45 hF (fun hF => ?_)
        refine lv_istore (pc := 46) (lv' := [(4, .int (v_shelfNames x1.toNatClampNeg)), (0, .ref h0), (1, .int x1), (2, .int x2), (3, .int u3)]) hx hb dX4_taken_46 hl (by decide) rfl (fun ls hl => ?_)
        refine lv_iload_n (pc := 48) hx hb dX4_taken_48 rfl (lv_at hl 4 rfl) ?_
        refine zb_if_eq (pc := 49) (tgt := 74) hx hb dX4_taken_49 (by decide) hF (fun c_49 hF => ?_) (fun c_49 hF => ?_)
        · refine lv_bipush (pc := 74) (v := (-13 : Int32)) hx hb dX4_taken_74 (by decide) ?_
          exact z_iret (pc := 76) (fun q => q) hx hb hr hlocks hF rfl hQ dX4_taken_76
        · refine lv_aload_n (pc := 52) hx hb dX4_taken_52 rfl (lv_at hl 1 rfl) ?_
          refine va_get (D := D) (pc := 53) (ci := 4) (v := .ref h_now) (C := RX4) (T := TX4) (N := 15) hx hb hts nX4_taken_S_X4 hown hK hP 0 rfl rfl 0 (by decide) (hts _ kX4_taken_S_5) (fun _ h9 => h9) rfl dX4_taken_53 ?_
          refine va_get (D := D) (pc := 56) (ci := 2) (v := .ref h_now_kind) (C := RX2) (T := TX2) (N := 15) hx hb hts nX4_taken_S_X2 hown hK hP 1 rfl rfl 4 (by decide) (hts _ kX4_taken_S_6) (fun _ h9 => h9) rfl dX4_taken_56 ?_
          refine lv_iload (pc := 59) hx hb dX4_taken_59 (lv_at hl 0 rfl) ?_
          refine za_iald (pc := 61) hx hb hK hP 2 1 rfl rfl dX4_taken_61 hF (fun hF => ?_)
          refine lv_iload_n (pc := 62) hx hb dX4_taken_62 rfl (lv_at hl 3 rfl) ?_
          obtain ⟨u63, hu63, hF⟩ := z_bind hF
          refine zq_call (oc0 := (some (.int u63))) (va_runS (As := [.int (v_now_kind (v_shelfNames x1.toNatClampNeg).toNatClampNeg), .int x2]) (rest := []) ⟨hx, hb, hml, hown, hts⟩ (tX4_isUnder (l := l) (D := D) (cB := cB) (cI := cI) (cJ := cJ) (cO := cO) (adK := adK) (adV := adV) (v_now_kind (v_shelfNames x1.toNatClampNeg).toNatClampNeg) x2 u63 hu63) (va_cwS 2 hts gX4_taken_X4_isUnder rfl rfl rfl (by decide +kernel) ⟨Nat.le_of_ble_eq_true rfl, Nat.le_of_ble_eq_true rfl⟩) ⟨zPreS_blind, zPreS_at hP hE (zD_re hD rfl) hZ hS [] rfl rfl rfl⟩ rfl rfl hl.1 rfl (lv_room (Nat.le_of_ble_eq_true rfl)) dX4_taken_63 ⟨Nat.zero_le _, Nat.zero_le _⟩) ?_
          refine W.eq (g2 := F0 m 66 ls [.int u63]) rfl ?_
          refine zb_if_eq (pc := 66) (tgt := 74) hx hb dX4_taken_66 (by decide) hF (fun c_66 hF => ?_) (fun c_66 hF => ?_)
          · refine lv_bipush (pc := 74) (v := (-13 : Int32)) hx hb dX4_taken_74 (by decide) ?_
            exact z_iret (pc := 76) (fun q => q) hx hb hr hlocks hF rfl hQ dX4_taken_76
          · refine lv_iload (pc := 69) hx hb dX4_taken_69 (lv_at hl 0 rfl) ?_
            refine lv_goto (pc := 71) (tgt := 76) hx hb dX4_taken_71 (by decide) ?_
            exact z_iret (pc := 76) (fun q => q) hx hb hr hlocks hF rfl hQ dX4_taken_76
    refine zb_if_ne (pc := 16) (tgt := 32) hx hb dX4_taken_16 (by decide) hF (fun c_16 hF => ?_) (fun c_16 hF => ?_)
    · exact kJ_1  hF ls (lv_sub hl [1, 2, 3, 0] rfl)
    · refine lv_iload_n (pc := 19) hx hb dX4_taken_19 rfl (lv_at hl 3 rfl) ?_
      refine lv_bipush (pc := 20) (v := (nI 10)) hx hb dX4_taken_20 (by decide) ?_
      refine lv_isub (pc := 22) hx hb dX4_taken_22 ?_
      refine lv_iconst (pc := 23) (v := (nI 4)) hx hb dX4_taken_23 (by decide) ?_
      obtain ⟨u24, hu24, hF⟩ := z_bind hF
      refine zq_call (oc0 := (some (.int u24))) (va_runS (As := [.int (x2 - (nI 10)), .int (nI 4)]) (rest := []) ⟨hx, hb, hml, hown, hts⟩ (tX4_isBelow (l := l) (D := D) (cB := cB) (cI := cI) (cJ := cJ) (cO := cO) (x2 - (nI 10)) (nI 4) u24 hu24) (va_cwS 2 hts gX4_taken_X4_isBelow rfl rfl rfl (by decide +kernel) ⟨Nat.le_of_ble_eq_true rfl, Nat.le_of_ble_eq_true rfl⟩) ⟨zPre_blind, zPre_at hP hE (zD_re hD rfl) [] rfl rfl⟩ rfl rfl hl.1 rfl (lv_room (Nat.le_of_ble_eq_true rfl)) dX4_taken_24 ⟨Nat.zero_le _, Nat.zero_le _⟩) ?_
      refine W.eq (g2 := F0 m 27 ls [.int u24]) rfl ?_
      refine zb_if_ne (pc := 27) (tgt := 32) hx hb dX4_taken_27 (by decide) hF (fun c_27 hF => ?_) (fun c_27 hF => ?_)
      · exact kJ_1  hF ls (lv_sub hl [1, 2, 3, 0] rfl)
      · refine lv_iconst (pc := 30) (v := (-1 : Int32)) hx hb dX4_taken_30 (by decide) ?_
        exact z_iret (pc := 31) (fun q => q) hx hb hr hlocks hF rfl hQ dX4_taken_31

abbrev rX4_taken_N : Room := { frames := 3, cells := 0, slots := 0, locals := 63 }
abbrev wX4_taken_N (cB cI cJ cO : ClassId) (h0 h_now h_now_kind h_shelfHolds h_shelfNames h_shelfRows : Nat) (g_tried g_told g_kept g_isKept g_tape g_taped g_rows g_rowCount g_sheets g_thing g_mattering g_now_laws g_now_ground g_now_seen g_now_hand g_now_size g_now_on g_now_away g_now_nightsPassed g_now_glances g_now_draws g_now_gained g_now_paintedOn g_now_wallLooks : Value) (v_now_count : Int32) (v_now_kind : Nat → Int32) (v_shelfHolds : Nat → Int32) (v_shelfNames : Nat → Int32) (v_shelfRows : Nat → Option Nat) : va_W := [(h0, .inr (4, [.ref h_now, g_tried, g_told, g_kept, g_isKept, g_tape, g_taped, g_rows, g_rowCount, g_sheets, .ref h_shelfHolds, .ref h_shelfNames, .ref h_shelfRows, g_thing, g_mattering])), (h_now, .inr (2, [g_now_laws, g_now_ground, g_now_seen, .int v_now_count, .ref h_now_kind, g_now_hand, g_now_size, g_now_on, g_now_away, g_now_nightsPassed, g_now_glances, g_now_draws, g_now_gained, g_now_paintedOn, g_now_wallLooks])), (h_now_kind, .inl (cI, 8, .inl v_now_kind)), (h_shelfHolds, .inl (cI, 4, .inl v_shelfHolds)), (h_shelfNames, .inl (cI, 4, .inl v_shelfNames)), (h_shelfRows, .inl (cO, 4, .inr (.inr (.inr (.inr v_shelfRows)))))]
theorem nX4_taken_N_X4 : ∀ w ∈ wsX40, w ∈ wsX4_taken := by decide +kernel
theorem nX4_taken_N_X2 : ∀ w ∈ wsX20, w ∈ wsX4_taken := by decide +kernel
theorem kX4_taken_N_0 : Cond.fieldLink RX4 56 "PaintedWalls" "shelfRows" "[LPaintedWalls$Items;" ∈ wsX4_taken := by decide +kernel
theorem kX4_taken_N_1 : Cond.fieldLink RX4 50 "PaintedWalls" "shelfHolds" "[I" ∈ wsX4_taken := by decide +kernel
theorem kX4_taken_N_2 : Cond.fieldLink RX4 53 "PaintedWalls" "shelfNames" "[I" ∈ wsX4_taken := by decide +kernel
theorem kX4_taken_N_3 : Cond.fieldLink RX4 12 "PaintedWalls" "now" "LPaintedWalls$Town;" ∈ wsX4_taken := by decide +kernel
theorem kX4_taken_N_4 : Cond.fieldLink RX4 109 "PaintedWalls$Town" "kind" "[I" ∈ wsX4_taken := by decide +kernel
set_option maxHeartbeats 4000000 in
set_option maxRecDepth 100000 in
theorem tX4_taken_N {l : Launch} {D : va_G} {cB cI cJ cO : ClassId} {adK adV : Nat → Nat} (h0 h_now h_now_kind h_shelfHolds h_shelfNames h_shelfRows : Nat) (g_tried g_told g_kept g_isKept g_tape g_taped g_rows g_rowCount g_sheets g_thing g_mattering g_now_laws g_now_ground g_now_seen g_now_hand g_now_size g_now_on g_now_away g_now_nightsPassed g_now_glances g_now_draws g_now_gained g_now_paintedOn g_now_wallLooks : Value) (v_now_count : Int32) (v_now_kind : Nat → Int32) (v_shelfHolds : Nat → Int32) (v_shelfNames : Nat → Int32) (v_shelfRows : Nat → Option Nat) (x1 : Int32) (x2 : Int32) (r : Int32) (hF : fX4_taken_N v_now_count v_now_kind v_shelfHolds v_shelfNames v_shelfRows x1 x2 = some r) : Met l yX4_taken wsX4_taken rX4_taken_N (zPreS D cB cI cJ cO adK adV [.ref h0, .int x1, .int x2] (wX4_taken_N cB cI cJ cO h0 h_now h_now_kind h_shelfHolds h_shelfNames h_shelfRows g_tried g_told g_kept g_isKept g_tape g_taped g_rows g_rowCount g_sheets g_thing g_mattering g_now_laws g_now_ground g_now_seen g_now_hand g_now_size g_now_on g_now_away g_now_nightsPassed g_now_glances g_now_draws g_now_gained g_now_paintedOn g_now_wallLooks v_now_count v_now_kind v_shelfHolds v_shelfNames v_shelfRows) [h0, h_now, h_now_kind, h_shelfHolds, h_shelfNames, h_shelfRows]) (zPI (some (.int r))) 0 0 (fun _ => False) := by
  refine zMetPS (cc := cX4_taken) (maxL := 5) (ret := (some .int)) (lv := [(0, .ref h0), (1, .int x1), (2, .int x2)]) rfl (by decide) rfl (Nat.le_of_ble_eq_true rfl) rfl ?_
  intro p e s m args below meth c ls Q hQ hx hb hr hml hown hts hlocks hname hP hE hD hS hZ hl
  have hown : s.vm.findClass RX4 = some m.cls := hown
  have hK := hE.1
  unfold fX4_taken_N at hF
  refine lv_iload_n (pc := 0) hx hb dX4_taken_0 rfl (lv_at hl 2 rfl) ?_
  refine lv_bipush (pc := 1) (v := (nI 6)) hx hb dX4_taken_1 (by decide) ?_
  obtain ⟨u3, hu3, hF⟩ := z_bind hF
  refine zq_call (oc0 := (some (.int u3))) (va_runS (As := [.int x2, .int (nI 6)]) (rest := []) ⟨hx, hb, hml, hown, hts⟩ (tX4_isBelow (l := l) (D := D) (cB := cB) (cI := cI) (cJ := cJ) (cO := cO) x2 (nI 6) u3 hu3) (va_cwS 2 hts gX4_taken_X4_isBelow rfl rfl rfl (by decide +kernel) ⟨Nat.le_of_ble_eq_true rfl, Nat.le_of_ble_eq_true rfl⟩) ⟨zPre_blind, zPre_at hP hE (zD_re hD rfl) [] rfl rfl⟩ rfl rfl hl.1 rfl (lv_room (Nat.le_of_ble_eq_true rfl)) dX4_taken_3 ⟨Nat.zero_le _, Nat.zero_le _⟩) ?_
  refine W.eq (g2 := F0 m 6 ls [.int u3]) rfl ?_
  refine lv_istore_n (pc := 6) (lv' := [(3, .int u3), (0, .ref h0), (1, .int x1), (2, .int x2)]) hx hb dX4_taken_6 rfl hl (by decide) rfl (fun ls hl => ?_)
  refine lv_iload_n (pc := 7) hx hb dX4_taken_7 rfl (lv_at hl 2 rfl) ?_
  refine lv_iconst (pc := 8) (v := (nI 4)) hx hb dX4_taken_8 (by decide) ?_
  obtain ⟨u9, hu9, hF⟩ := z_bind hF
  refine zq_call (oc0 := (some (.int u9))) (va_runS (As := [.int x1, .int (nI 4)]) (rest := []) ⟨hx, hb, hml, hown, hts⟩ (tX4_isBelow (l := l) (D := D) (cB := cB) (cI := cI) (cJ := cJ) (cO := cO) x1 (nI 4) u9 hu9) (va_cwS 2 hts gX4_taken_X4_isBelow rfl rfl rfl (by decide +kernel) ⟨Nat.le_of_ble_eq_true rfl, Nat.le_of_ble_eq_true rfl⟩) ⟨zPre_blind, zPre_at hP hE (zD_re hD rfl) [] rfl rfl⟩ rfl rfl hl.1 rfl (lv_room (Nat.le_of_ble_eq_true rfl)) dX4_taken_9 ⟨Nat.zero_le _, Nat.zero_le _⟩) ?_
  refine W.eq (g2 := F0 m 12 ls [.int u9]) rfl ?_
  refine zb_if_eq (pc := 12) (tgt := 30) hx hb dX4_taken_12 (by decide) hF (fun c_12 hF => ?_) (fun c_12 hF => ?_)
  · refine lv_iconst (pc := 30) (v := (-1 : Int32)) hx hb dX4_taken_30 (by decide) ?_
    exact z_iret (pc := 31) (fun q => q) hx hb hr hlocks hF rfl hQ dX4_taken_31
  · refine lv_iload_n (pc := 15) hx hb dX4_taken_15 rfl (lv_at hl 0 rfl) ?_
    obtain ⟨J_1, hJ_1, hF⟩ := z_J hF
    have kJ_1 : J_1 = some r → ∀ (ls : Array Slot), lv_has ls 5 [(0, .ref h0), (1, .int x1), (2, .int x2), (3, .int u3)] → W p l e rX4_taken_N s m args below meth c s.heap [] 0 0 Q (F0 m 32 ls []) := by
      intro  hF ls hl
      rw [hJ_1] at hF
      refine lv_aload_n (pc := 32) hx hb dX4_taken_32 rfl (lv_at hl 0 rfl) ?_
      refine lv_iload_n (pc := 33) hx hb dX4_taken_33 rfl (lv_at hl 1 rfl) ?_
      obtain ⟨u34, hu34, hF⟩ := z_bind hF
      refine zq_call (oc0 := (some (.int u34))) (va_runV (As := [.int x1]) (rest := []) ⟨hx, hb, hml, hown, hts⟩ (tX4_isNameOn (l := l) (D := D) (cB := cB) (cI := cI) (cJ := cJ) (cO := cO) h0 h_now h_shelfHolds h_shelfNames g_tried g_told g_kept g_isKept g_tape g_taped g_rows g_rowCount g_sheets (.ref h_shelfRows) g_thing g_mattering g_now_laws g_now_ground g_now_seen (.ref h_now_kind) g_now_hand g_now_size g_now_on g_now_away g_now_nightsPassed g_now_glances g_now_draws g_now_gained g_now_paintedOn g_now_wallLooks v_now_count v_shelfHolds v_shelfNames x1 u34 hu34) (cwV 1 hts gX4_taken_X4_isNameOn rfl rfl rfl (by decide +kernel) ⟨Nat.le_of_ble_eq_true rfl, Nat.le_of_ble_eq_true rfl⟩) ⟨zPre_blind, va_recv hK hP (ci := 4) (q0 := 0) rfl rfl, zPre_at hP hE (zD_re hD rfl) [0, 1, 3, 4] rfl rfl⟩ rfl rfl hl.1 rfl (lv_room (Nat.le_of_ble_eq_true rfl)) dX4_taken_34 ⟨Nat.zero_le _, Nat.zero_le _⟩) ?_
      refine W.eq (g2 := F0 m 37 ls [.int u34]) rfl ?_
      refine zb_if_eq (pc := 37) (tgt := 77) hx hb dX4_taken_37 (by decide) hF (fun c_37 hF => ?_) (fun c_37 hF => ?_)
      · refine lv_aload_n (pc := 77) hx hb dX4_taken_77 rfl (lv_at hl 0 rfl) ?_
        refine va_get (D := D) (pc := 78) (ci := 4) (v := .ref h_shelfRows) (C := RX4) (T := TX4) (N := 15) hx hb hts nX4_taken_N_X4 hown hK hP 0 rfl rfl 12 (by decide) (hts _ kX4_taken_N_0) (fun _ h9 => h9) rfl dX4_taken_78 ?_
        refine lv_iload_n (pc := 81) hx hb dX4_taken_81 rfl (lv_at hl 1 rfl) ?_
        refine za_aldN (pc := 82) hx hb hK hP 5 3 rfl rfl dX4_taken_82 hF (fun hF => ?_)
        refine lv_astoreN (pc := 83) (lv' := [(4, .null), (0, .ref h0), (1, .int x1), (2, .int x2), (3, .int u3)]) hx hb dX4_taken_83 hl (by decide) rfl (fun ls hl => ?_)
        refine lv_aload_n (pc := 85) hx hb dX4_taken_85 rfl (lv_at hl 1 rfl) ?_
        refine va_get (D := D) (pc := 86) (ci := 4) (v := .ref h_shelfHolds) (C := RX4) (T := TX4) (N := 15) hx hb hts nX4_taken_N_X4 hown hK hP 0 rfl rfl 10 (by decide) (hts _ kX4_taken_N_1) (fun _ h9 => h9) rfl dX4_taken_86 ?_
        refine lv_iload_n (pc := 89) hx hb dX4_taken_89 rfl (lv_at hl 2 rfl) ?_
        refine za_iald (pc := 90) hx hb hK hP 3 1 rfl rfl dX4_taken_90 hF (fun hF => ?_)
        refine lv_iconst (pc := 91) (v := (nI 2)) hx hb dX4_taken_91 (by decide) ?_
        refine zb_icmp_ne (pc := 92) (tgt := 100) hx hb dX4_taken_92 (by decide) hF (fun c_92 hF => ?_) (fun c_92 hF => ?_)
        · refine lv_bipush (pc := 100) (v := (-11 : Int32)) hx hb dX4_taken_100 (by decide) ?_
          exact z_iret (pc := 102) (fun q => q) hx hb hr hlocks hF rfl hQ dX4_taken_102
        · refine lv_aloadN (pc := 95) hx hb dX4_taken_95 (lv_at hl 0 rfl) ?_
          refine lv_ifnonnullN (pc := 97) hx hb dX4_taken_97 ?_
          refine lv_bipush (pc := 100) (v := (-11 : Int32)) hx hb dX4_taken_100 (by decide) ?_
          exact z_iret (pc := 102) (fun q => q) hx hb hr hlocks hF rfl hQ dX4_taken_102
      · refine lv_aload_n (pc := 40) hx hb dX4_taken_40 rfl (lv_at hl 0 rfl) ?_
        refine va_get (D := D) (pc := 41) (ci := 4) (v := .ref h_shelfNames) (C := RX4) (T := TX4) (N := 15) hx hb hts nX4_taken_N_X4 hown hK hP 0 rfl rfl 11 (by decide) (hts _ kX4_taken_N_2) (fun _ h9 => h9) rfl dX4_taken_41 ?_
        refine lv_iload_n (pc := 44) hx hb dX4_taken_44 rfl (lv_at hl 1 rfl) ?_
        refine za_iald (pc := 45) hx hb hK hP 4 1 rfl rfl dX4_taken_45 hF (fun hF => ?_)
        refine lv_istore (pc := 46) (lv' := [(4, .int (v_shelfNames x1.toNatClampNeg)), (0, .ref h0), (1, .int x1), (2, .int x2), (3, .int u3)]) hx hb dX4_taken_46 hl (by decide) rfl (fun ls hl => ?_)
        refine lv_iload_n (pc := 48) hx hb dX4_taken_48 rfl (lv_at hl 4 rfl) ?_
        refine zb_if_eq (pc := 49) (tgt := 74) hx hb dX4_taken_49 (by decide) hF (fun c_49 hF => ?_) (fun c_49 hF => ?_)
        · refine lv_bipush (pc := 74) (v := (-13 : Int32)) hx hb dX4_taken_74 (by decide) ?_
          exact z_iret (pc := 76) (fun q => q) hx hb hr hlocks hF rfl hQ dX4_taken_76
        · refine lv_aload_n (pc := 52) hx hb dX4_taken_52 rfl (lv_at hl 1 rfl) ?_
          refine va_get (D := D) (pc := 53) (ci := 4) (v := .ref h_now) (C := RX4) (T := TX4) (N := 15) hx hb hts nX4_taken_N_X4 hown hK hP 0 rfl rfl 0 (by decide) (hts _ kX4_taken_N_3) (fun _ h9 => h9) rfl dX4_taken_53 ?_
          refine va_get (D := D) (pc := 56) (ci := 2) (v := .ref h_now_kind) (C := RX2) (T := TX2) (N := 15) hx hb hts nX4_taken_N_X2 hown hK hP 1 rfl rfl 4 (by decide) (hts _ kX4_taken_N_4) (fun _ h9 => h9) rfl dX4_taken_56 ?_
          refine lv_iload (pc := 59) hx hb dX4_taken_59 (lv_at hl 0 rfl) ?_
          refine za_iald (pc := 61) hx hb hK hP 2 1 rfl rfl dX4_taken_61 hF (fun hF => ?_)
          refine lv_iload_n (pc := 62) hx hb dX4_taken_62 rfl (lv_at hl 3 rfl) ?_
          obtain ⟨u63, hu63, hF⟩ := z_bind hF
          refine zq_call (oc0 := (some (.int u63))) (va_runS (As := [.int (v_now_kind (v_shelfNames x1.toNatClampNeg).toNatClampNeg), .int x2]) (rest := []) ⟨hx, hb, hml, hown, hts⟩ (tX4_isUnder (l := l) (D := D) (cB := cB) (cI := cI) (cJ := cJ) (cO := cO) (adK := adK) (adV := adV) (v_now_kind (v_shelfNames x1.toNatClampNeg).toNatClampNeg) x2 u63 hu63) (va_cwS 2 hts gX4_taken_X4_isUnder rfl rfl rfl (by decide +kernel) ⟨Nat.le_of_ble_eq_true rfl, Nat.le_of_ble_eq_true rfl⟩) ⟨zPreS_blind, zPreS_at hP hE (zD_re hD rfl) hZ hS [] rfl rfl rfl⟩ rfl rfl hl.1 rfl (lv_room (Nat.le_of_ble_eq_true rfl)) dX4_taken_63 ⟨Nat.zero_le _, Nat.zero_le _⟩) ?_
          refine W.eq (g2 := F0 m 66 ls [.int u63]) rfl ?_
          refine zb_if_eq (pc := 66) (tgt := 74) hx hb dX4_taken_66 (by decide) hF (fun c_66 hF => ?_) (fun c_66 hF => ?_)
          · refine lv_bipush (pc := 74) (v := (-13 : Int32)) hx hb dX4_taken_74 (by decide) ?_
            exact z_iret (pc := 76) (fun q => q) hx hb hr hlocks hF rfl hQ dX4_taken_76
          · refine lv_iload (pc := 69) hx hb dX4_taken_69 (lv_at hl 0 rfl) ?_
            refine lv_goto (pc := 71) (tgt := 76) hx hb dX4_taken_71 (by decide) ?_
            exact z_iret (pc := 76) (fun q => q) hx hb hr hlocks hF rfl hQ dX4_taken_76
    refine zb_if_ne (pc := 16) (tgt := 32) hx hb dX4_taken_16 (by decide) hF (fun c_16 hF => ?_) (fun c_16 hF => ?_)
    · exact kJ_1  hF ls (lv_sub hl [1, 2, 3, 0] rfl)
    · refine lv_iload_n (pc := 19) hx hb dX4_taken_19 rfl (lv_at hl 3 rfl) ?_
      refine lv_bipush (pc := 20) (v := (nI 10)) hx hb dX4_taken_20 (by decide) ?_
      refine lv_isub (pc := 22) hx hb dX4_taken_22 ?_
      refine lv_iconst (pc := 23) (v := (nI 4)) hx hb dX4_taken_23 (by decide) ?_
      obtain ⟨u24, hu24, hF⟩ := z_bind hF
      refine zq_call (oc0 := (some (.int u24))) (va_runS (As := [.int (x2 - (nI 10)), .int (nI 4)]) (rest := []) ⟨hx, hb, hml, hown, hts⟩ (tX4_isBelow (l := l) (D := D) (cB := cB) (cI := cI) (cJ := cJ) (cO := cO) (x2 - (nI 10)) (nI 4) u24 hu24) (va_cwS 2 hts gX4_taken_X4_isBelow rfl rfl rfl (by decide +kernel) ⟨Nat.le_of_ble_eq_true rfl, Nat.le_of_ble_eq_true rfl⟩) ⟨zPre_blind, zPre_at hP hE (zD_re hD rfl) [] rfl rfl⟩ rfl rfl hl.1 rfl (lv_room (Nat.le_of_ble_eq_true rfl)) dX4_taken_24 ⟨Nat.zero_le _, Nat.zero_le _⟩) ?_
      refine W.eq (g2 := F0 m 27 ls [.int u24]) rfl ?_
      refine zb_if_ne (pc := 27) (tgt := 32) hx hb dX4_taken_27 (by decide) hF (fun c_27 hF => ?_) (fun c_27 hF => ?_)
      · exact kJ_1  hF ls (lv_sub hl [1, 2, 3, 0] rfl)
      · refine lv_iconst (pc := 30) (v := (-1 : Int32)) hx hb dX4_taken_30 (by decide) ?_
        exact z_iret (pc := 31) (fun q => q) hx hb hr hlocks hF rfl hQ dX4_taken_31

abbrev rX4_act : Room := { frames := 4, cells := 0, slots := 0, locals := 89 }
abbrev wX4_act (cB cI cJ cO : ClassId) (h0 h_now h_now_kind h_now_hand h_shelfHolds h_shelfNames h_thing h_thing_bodies : Nat) (g_tried g_told g_kept g_isKept g_tape g_taped g_rows g_rowCount g_sheets g_shelfRows g_mattering g_now_laws g_now_ground g_now_seen g_now_size g_now_on g_now_away g_now_nightsPassed g_now_glances g_now_draws g_now_gained g_now_paintedOn g_now_wallLooks : Value) (v_now_count : Int32) (v_now_kind : Nat → Int32) (v_now_hand : Nat → Int32) (v_shelfHolds : Nat → Int32) (v_shelfNames : Nat → Int32) (v_thing_traced : Int32) (v_thing_isBroken : Int32) (v_thing_kind : Int32) (v_thing_number : Int32) (v_thing_hand : Int32) (v_thing_isFresh : Int32) (v_thing_isCovered : Int32) (v_thing_bodies : Nat → Int32) : va_W := [(h0, .inr (4, [.ref h_now, g_tried, g_told, g_kept, g_isKept, g_tape, g_taped, g_rows, g_rowCount, g_sheets, .ref h_shelfHolds, .ref h_shelfNames, g_shelfRows, .ref h_thing, g_mattering])), (h_now, .inr (2, [g_now_laws, g_now_ground, g_now_seen, .int v_now_count, .ref h_now_kind, .ref h_now_hand, g_now_size, g_now_on, g_now_away, g_now_nightsPassed, g_now_glances, g_now_draws, g_now_gained, g_now_paintedOn, g_now_wallLooks])), (h_now_kind, .inl (cI, 8, .inl v_now_kind)), (h_now_hand, .inl (cI, 8, .inl v_now_hand)), (h_shelfHolds, .inl (cI, 4, .inl v_shelfHolds)), (h_shelfNames, .inl (cI, 4, .inl v_shelfNames)), (h_thing, .inr (1, [.ref h_thing_bodies, .int v_thing_traced, .int v_thing_isBroken, .int v_thing_kind, .int v_thing_number, .int v_thing_hand, .int v_thing_isFresh, .int v_thing_isCovered])), (h_thing_bodies, .inl (cI, 30, .inl v_thing_bodies))]
theorem nX4_act_X4 : ∀ w ∈ wsX40, w ∈ wsX4_act := by decide +kernel
theorem nX4_act_X1 : ∀ w ∈ wsX10, w ∈ wsX4_act := by decide +kernel
theorem nX4_act_X2 : ∀ w ∈ wsX20, w ∈ wsX4_act := by decide +kernel
theorem kX4_act_0 : Cond.fieldLink RX4 62 "PaintedWalls" "thing" "LPaintedWalls$Thing;" ∈ wsX4_act := by decide +kernel
theorem kX4_act_1 : Cond.fieldLink RX4 246 "PaintedWalls$Thing" "traced" "I" ∈ wsX4_act := by decide +kernel
theorem kX4_act_2 : Cond.fieldLink RX4 53 "PaintedWalls" "shelfNames" "[I" ∈ wsX4_act := by decide +kernel
theorem kX4_act_3 : Cond.fieldLink RX4 12 "PaintedWalls" "now" "LPaintedWalls$Town;" ∈ wsX4_act := by decide +kernel
theorem kX4_act_4 : Cond.fieldLink RX4 109 "PaintedWalls$Town" "kind" "[I" ∈ wsX4_act := by decide +kernel
theorem kX4_act_5 : Cond.fieldLink RX4 112 "PaintedWalls$Town" "hand" "[I" ∈ wsX4_act := by decide +kernel
theorem kX4_act_6 : Cond.fieldLink RX4 264 "PaintedWalls$Thing" "isBroken" "Z" ∈ wsX4_act := by decide +kernel
set_option maxHeartbeats 4000000 in
set_option maxRecDepth 100000 in
theorem tX4_act {l : Launch} {D : va_G} {cB cI cJ cO : ClassId} {adK adV : Nat → Nat} (h0 h_now h_now_kind h_now_hand h_shelfHolds h_shelfNames h_thing h_thing_bodies : Nat) (g_tried g_told g_kept g_isKept g_tape g_taped g_rows g_rowCount g_sheets g_shelfRows g_mattering g_now_laws g_now_ground g_now_seen g_now_size g_now_on g_now_away g_now_nightsPassed g_now_glances g_now_draws g_now_gained g_now_paintedOn g_now_wallLooks : Value) (v_now_count : Int32) (v_now_kind : Nat → Int32) (v_now_hand : Nat → Int32) (v_shelfHolds : Nat → Int32) (v_shelfNames : Nat → Int32) (v_thing_traced : Int32) (v_thing_isBroken : Int32) (v_thing_kind : Int32) (v_thing_number : Int32) (v_thing_hand : Int32) (v_thing_isFresh : Int32) (v_thing_isCovered : Int32) (v_thing_bodies : Nat → Int32) (x1 : Int32) (x2 : Int32) (x3 : Int32) (r : Int32 × Int32 × Int32 × Int32 × Int32 × Int32 × Int32 × Int32 × (Nat → Int32)) (hF : fX4_act v_now_count v_now_kind v_now_hand v_shelfHolds v_shelfNames v_thing_traced v_thing_isBroken v_thing_kind v_thing_number v_thing_hand v_thing_isFresh v_thing_isCovered v_thing_bodies x1 x2 x3 = some r) : Met l yX4_act wsX4_act rX4_act (zPreS D cB cI cJ cO adK adV [.ref h0, .int x1, .int x2, .int x3] (wX4_act cB cI cJ cO h0 h_now h_now_kind h_now_hand h_shelfHolds h_shelfNames h_thing h_thing_bodies g_tried g_told g_kept g_isKept g_tape g_taped g_rows g_rowCount g_sheets g_shelfRows g_mattering g_now_laws g_now_ground g_now_seen g_now_size g_now_on g_now_away g_now_nightsPassed g_now_glances g_now_draws g_now_gained g_now_paintedOn g_now_wallLooks v_now_count v_now_kind v_now_hand v_shelfHolds v_shelfNames v_thing_traced v_thing_isBroken v_thing_kind v_thing_number v_thing_hand v_thing_isFresh v_thing_isCovered v_thing_bodies) [h0, h_now, h_now_kind, h_now_hand, h_shelfHolds, h_shelfNames, h_thing, h_thing_bodies]) (zPM (some (.int r.1)) D (wX4_act cB cI cJ cO h0 h_now h_now_kind h_now_hand h_shelfHolds h_shelfNames h_thing h_thing_bodies g_tried g_told g_kept g_isKept g_tape g_taped g_rows g_rowCount g_sheets g_shelfRows g_mattering g_now_laws g_now_ground g_now_seen g_now_size g_now_on g_now_away g_now_nightsPassed g_now_glances g_now_draws g_now_gained g_now_paintedOn g_now_wallLooks v_now_count v_now_kind v_now_hand v_shelfHolds v_shelfNames r.2.1 r.2.2.1 r.2.2.2.1 r.2.2.2.2.1 r.2.2.2.2.2.1 r.2.2.2.2.2.2.1 r.2.2.2.2.2.2.2.1 r.2.2.2.2.2.2.2.2) (zAs [h0, h_now, h_now_kind, h_now_hand, h_shelfHolds, h_shelfNames, h_thing, h_thing_bodies])) 0 0 (zAs [h0, h_now, h_now_kind, h_now_hand, h_shelfHolds, h_shelfNames, h_thing, h_thing_bodies]) := by
  refine zMetMS (cc := cX4_act) (maxL := 6) (ret := (some .int)) (lv := [(0, .ref h0), (1, .int x1), (2, .int x2), (3, .int x3)]) rfl (by decide) rfl (Nat.le_of_ble_eq_true rfl) rfl ?_
  intro p e s m args below meth c ls Q H locs hQ hx hb hr hml hown hts hlocks hname hP hE hD hS hZ hl
  have hown : s.vm.findClass RX4 = some m.cls := hown
  have hK := hE.1
  unfold fX4_act at hF
  refine lv_aload_n (pc := 0) hx hb dX4_act_0 rfl (lv_at hl 0 rfl) ?_
  refine va_get (D := D) (pc := 1) (ci := 4) (v := .ref h_thing) (C := RX4) (T := TX4) (N := 15) hx hb hts nX4_act_X4 hown hK hP 0 rfl rfl 13 (by decide) (hts _ kX4_act_0) (fun _ h9 => h9) rfl dX4_act_1 ?_
  refine lv_iconst (pc := 4) (v := (nI 0)) hx hb dX4_act_4 (by decide) ?_
  refine va_put (D := D) (pc := 5) (ci := 1) (v := .int (nI 0)) (ty := .int) (C := RX1) (T := TX1) (N := 8) hx hb hts nX4_act_X1 tyX1 tyX1_ok nmX1 hown hK hP (zD_re hD rfl) hS 6 rfl rfl 1 (by decide) (hts _ kX4_act_1) (fun _ h9 => h9) rfl (tyX1_ok 1 (by decide)) rfl rfl (Nat.le_of_ble_eq_true rfl) dX4_act_5 (fun H locs hP _ hS => ?_)
  have hP : va_P D vwCl (wX4_act cB cI cJ cO h0 h_now h_now_kind h_now_hand h_shelfHolds h_shelfNames h_thing h_thing_bodies g_tried g_told g_kept g_isKept g_tape g_taped g_rows g_rowCount g_sheets g_shelfRows g_mattering g_now_laws g_now_ground g_now_seen g_now_size g_now_on g_now_away g_now_nightsPassed g_now_glances g_now_draws g_now_gained g_now_paintedOn g_now_wallLooks v_now_count v_now_kind v_now_hand v_shelfHolds v_shelfNames (nI 0) v_thing_isBroken v_thing_kind v_thing_number v_thing_hand v_thing_isFresh v_thing_isCovered v_thing_bodies) H := hP
  refine lv_iload_n (pc := 8) hx hb dX4_act_8 rfl (lv_at hl 1 rfl) ?_
  refine lv_iconst (pc := 9) (v := (nI 4)) hx hb dX4_act_9 (by decide) ?_
  obtain ⟨u10, hu10, hF⟩ := z_bind hF
  refine zq_call (oc0 := (some (.int u10))) (va_runS (As := [.int x1, .int (nI 4)]) (rest := []) ⟨hx, hb, hml, hown, hts⟩ (tX4_isBelow (l := l) (D := D) (cB := cB) (cI := cI) (cJ := cJ) (cO := cO) x1 (nI 4) u10 hu10) (va_cwS 2 hts gX4_act_X4_isBelow rfl rfl rfl (by decide +kernel) ⟨Nat.le_of_ble_eq_true rfl, Nat.le_of_ble_eq_true rfl⟩) ⟨zPre_blind, zPre_at hP hE (zD_re hD rfl) [] rfl rfl⟩ rfl rfl hl.1 rfl (lv_room (Nat.le_of_ble_eq_true rfl)) dX4_act_10 ⟨Nat.zero_le _, Nat.zero_le _⟩) ?_
  refine W.eq (g2 := F0 m 13 ls [.int u10]) rfl ?_
  refine zb_if_eq (pc := 13) (tgt := 32) hx hb dX4_act_13 (by decide) hF (fun c_13 hF => ?_) (fun c_13 hF => ?_)
  · refine lv_iconst (pc := 32) (v := (nI 0)) hx hb dX4_act_32 (by decide) ?_
    exact z_iretM (pc := 33) (fun q => q.1) (fun q => (wX4_act cB cI cJ cO h0 h_now h_now_kind h_now_hand h_shelfHolds h_shelfNames h_thing h_thing_bodies g_tried g_told g_kept g_isKept g_tape g_taped g_rows g_rowCount g_sheets g_shelfRows g_mattering g_now_laws g_now_ground g_now_seen g_now_size g_now_on g_now_away g_now_nightsPassed g_now_glances g_now_draws g_now_gained g_now_paintedOn g_now_wallLooks v_now_count v_now_kind v_now_hand v_shelfHolds v_shelfNames q.2.1 q.2.2.1 q.2.2.2.1 q.2.2.2.2.1 q.2.2.2.2.2.1 q.2.2.2.2.2.2.1 q.2.2.2.2.2.2.2.1 q.2.2.2.2.2.2.2.2)) hx hb hr hlocks hP hS hF rfl hQ dX4_act_33
  · refine lv_iload_n (pc := 16) hx hb dX4_act_16 rfl (lv_at hl 2 rfl) ?_
    refine lv_iconst (pc := 17) (v := (nI 4)) hx hb dX4_act_17 (by decide) ?_
    obtain ⟨u18, hu18, hF⟩ := z_bind hF
    refine zq_call (oc0 := (some (.int u18))) (va_runS (As := [.int x2, .int (nI 4)]) (rest := []) ⟨hx, hb, hml, hown, hts⟩ (tX4_isBelow (l := l) (D := D) (cB := cB) (cI := cI) (cJ := cJ) (cO := cO) x2 (nI 4) u18 hu18) (va_cwS 2 hts gX4_act_X4_isBelow rfl rfl rfl (by decide +kernel) ⟨Nat.le_of_ble_eq_true rfl, Nat.le_of_ble_eq_true rfl⟩) ⟨zPre_blind, zPre_at hP hE (zD_re hD rfl) [] rfl rfl⟩ rfl rfl hl.1 rfl (lv_room (Nat.le_of_ble_eq_true rfl)) dX4_act_18 ⟨Nat.zero_le _, Nat.zero_le _⟩) ?_
    refine W.eq (g2 := F0 m 21 ls [.int u18]) rfl ?_
    refine zb_if_eq (pc := 21) (tgt := 32) hx hb dX4_act_21 (by decide) hF (fun c_21 hF => ?_) (fun c_21 hF => ?_)
    · refine lv_iconst (pc := 32) (v := (nI 0)) hx hb dX4_act_32 (by decide) ?_
      exact z_iretM (pc := 33) (fun q => q.1) (fun q => (wX4_act cB cI cJ cO h0 h_now h_now_kind h_now_hand h_shelfHolds h_shelfNames h_thing h_thing_bodies g_tried g_told g_kept g_isKept g_tape g_taped g_rows g_rowCount g_sheets g_shelfRows g_mattering g_now_laws g_now_ground g_now_seen g_now_size g_now_on g_now_away g_now_nightsPassed g_now_glances g_now_draws g_now_gained g_now_paintedOn g_now_wallLooks v_now_count v_now_kind v_now_hand v_shelfHolds v_shelfNames q.2.1 q.2.2.1 q.2.2.2.1 q.2.2.2.2.1 q.2.2.2.2.2.1 q.2.2.2.2.2.2.1 q.2.2.2.2.2.2.2.1 q.2.2.2.2.2.2.2.2)) hx hb hr hlocks hP hS hF rfl hQ dX4_act_33
    · refine lv_aload_n (pc := 24) hx hb dX4_act_24 rfl (lv_at hl 0 rfl) ?_
      refine lv_iload_n (pc := 25) hx hb dX4_act_25 rfl (lv_at hl 1 rfl) ?_
      obtain ⟨u26, hu26, hF⟩ := z_bind hF
      refine zq_call (oc0 := (some (.int u26))) (va_runV (As := [.int x1]) (rest := []) ⟨hx, hb, hml, hown, hts⟩ (tX4_isNameOn (l := l) (D := D) (cB := cB) (cI := cI) (cJ := cJ) (cO := cO) h0 h_now h_shelfHolds h_shelfNames g_tried g_told g_kept g_isKept g_tape g_taped g_rows g_rowCount g_sheets g_shelfRows (.ref h_thing) g_mattering g_now_laws g_now_ground g_now_seen (.ref h_now_kind) (.ref h_now_hand) g_now_size g_now_on g_now_away g_now_nightsPassed g_now_glances g_now_draws g_now_gained g_now_paintedOn g_now_wallLooks v_now_count v_shelfHolds v_shelfNames x1 u26 hu26) (cwV 1 hts gX4_act_X4_isNameOn rfl rfl rfl (by decide +kernel) ⟨Nat.le_of_ble_eq_true rfl, Nat.le_of_ble_eq_true rfl⟩) ⟨zPre_blind, va_recv hK hP (ci := 4) (q0 := 0) rfl rfl, zPre_at hP hE (zD_re hD rfl) [0, 1, 4, 5] rfl rfl⟩ rfl rfl hl.1 rfl (lv_room (Nat.le_of_ble_eq_true rfl)) dX4_act_26 ⟨Nat.zero_le _, Nat.zero_le _⟩) ?_
      refine W.eq (g2 := F0 m 29 ls [.int u26]) rfl ?_
      refine zb_if_ne (pc := 29) (tgt := 34) hx hb dX4_act_29 (by decide) hF (fun c_29 hF => ?_) (fun c_29 hF => ?_)
      · refine lv_aload_n (pc := 34) hx hb dX4_act_34 rfl (lv_at hl 0 rfl) ?_
        refine va_get (D := D) (pc := 35) (ci := 4) (v := .ref h_shelfNames) (C := RX4) (T := TX4) (N := 15) hx hb hts nX4_act_X4 hown hK hP 0 rfl rfl 11 (by decide) (hts _ kX4_act_2) (fun _ h9 => h9) rfl dX4_act_35 ?_
        refine lv_iload_n (pc := 38) hx hb dX4_act_38 rfl (lv_at hl 1 rfl) ?_
        refine za_iald (pc := 39) hx hb hK hP 5 1 rfl rfl dX4_act_39 hF (fun hF => ?_)
        refine lv_istore (pc := 40) (lv' := [(4, .int (v_shelfNames x1.toNatClampNeg)), (0, .ref h0), (1, .int x1), (2, .int x2), (3, .int x3)]) hx hb dX4_act_40 hl (by decide) rfl (fun ls hl => ?_)
        refine lv_aload_n (pc := 42) hx hb dX4_act_42 rfl (lv_at hl 1 rfl) ?_
        refine va_get (D := D) (pc := 43) (ci := 4) (v := .ref h_thing) (C := RX4) (T := TX4) (N := 15) hx hb hts nX4_act_X4 hown hK hP 0 rfl rfl 13 (by decide) (hts _ kX4_act_0) (fun _ h9 => h9) rfl dX4_act_43 ?_
        refine lv_aload_n (pc := 46) hx hb dX4_act_46 rfl (lv_at hl 1 rfl) ?_
        refine va_get (D := D) (pc := 47) (ci := 4) (v := .ref h_now) (C := RX4) (T := TX4) (N := 15) hx hb hts nX4_act_X4 hown hK hP 0 rfl rfl 0 (by decide) (hts _ kX4_act_3) (fun _ h9 => h9) rfl dX4_act_47 ?_
        refine va_get (D := D) (pc := 50) (ci := 2) (v := .ref h_now_kind) (C := RX2) (T := TX2) (N := 15) hx hb hts nX4_act_X2 hown hK hP 1 rfl rfl 4 (by decide) (hts _ kX4_act_4) (fun _ h9 => h9) rfl dX4_act_50 ?_
        refine lv_iload (pc := 53) hx hb dX4_act_53 (lv_at hl 0 rfl) ?_
        refine za_iald (pc := 55) hx hb hK hP 2 1 rfl rfl dX4_act_55 hF (fun hF => ?_)
        refine lv_iload (pc := 56) hx hb dX4_act_56 (lv_at hl 0 rfl) ?_
        refine lv_aload_n (pc := 58) hx hb dX4_act_58 rfl (lv_at hl 1 rfl) ?_
        refine va_get (D := D) (pc := 59) (ci := 4) (v := .ref h_now) (C := RX4) (T := TX4) (N := 15) hx hb hts nX4_act_X4 hown hK hP 0 rfl rfl 0 (by decide) (hts _ kX4_act_3) (fun _ h9 => h9) rfl dX4_act_59 ?_
        refine va_get (D := D) (pc := 62) (ci := 2) (v := .ref h_now_hand) (C := RX2) (T := TX2) (N := 15) hx hb hts nX4_act_X2 hown hK hP 1 rfl rfl 5 (by decide) (hts _ kX4_act_5) (fun _ h9 => h9) rfl dX4_act_62 ?_
        refine lv_iload (pc := 65) hx hb dX4_act_65 (lv_at hl 0 rfl) ?_
        refine za_iald (pc := 67) hx hb hK hP 3 1 rfl rfl dX4_act_67 hF (fun hF => ?_)
        obtain ⟨u68, hu68, hF⟩ := z_bind hF
        refine zq_callM (oc0 := none) (wc := wX1_become cB cI cJ cO h_thing (.ref h_thing_bodies) (.int (nI 0)) v_thing_isBroken v_thing_kind v_thing_number v_thing_hand v_thing_isFresh v_thing_isCovered) (wc' := wX1_become cB cI cJ cO h_thing (.ref h_thing_bodies) (.int (nI 0)) u68.1 u68.2.1 u68.2.2.1 u68.2.2.2.1 u68.2.2.2.2.1 u68.2.2.2.2.2) (ws' := (wX4_act cB cI cJ cO h0 h_now h_now_kind h_now_hand h_shelfHolds h_shelfNames h_thing h_thing_bodies g_tried g_told g_kept g_isKept g_tape g_taped g_rows g_rowCount g_sheets g_shelfRows g_mattering g_now_laws g_now_ground g_now_seen g_now_size g_now_on g_now_away g_now_nightsPassed g_now_glances g_now_draws g_now_gained g_now_paintedOn g_now_wallLooks v_now_count v_now_kind v_now_hand v_shelfHolds v_shelfNames (nI 0) u68.1 u68.2.1 u68.2.2.1 u68.2.2.2.1 u68.2.2.2.2.1 u68.2.2.2.2.2 v_thing_bodies)) (va_runV (As := [.int (v_now_kind (v_shelfNames x1.toNatClampNeg).toNatClampNeg), .int (v_shelfNames x1.toNatClampNeg), .int (v_now_hand (v_shelfNames x1.toNatClampNeg).toNatClampNeg)]) (rest := []) ⟨hx, hb, hml, hown, hts⟩ (tX1_become (l := l) (D := D) (cB := cB) (cI := cI) (cJ := cJ) (cO := cO) (adK := adK) (adV := adV) h_thing (.ref h_thing_bodies) (.int (nI 0)) v_thing_isBroken v_thing_kind v_thing_number v_thing_hand v_thing_isFresh v_thing_isCovered (v_now_kind (v_shelfNames x1.toNatClampNeg).toNatClampNeg) (v_shelfNames x1.toNatClampNeg) (v_now_hand (v_shelfNames x1.toNatClampNeg).toNatClampNeg) u68 hu68) (cwV 3 hts gX4_act_X1_become rfl rfl rfl (by decide +kernel) ⟨Nat.le_of_ble_eq_true rfl, Nat.le_of_ble_eq_true rfl⟩) ⟨zPreS_blind, va_recv hK hP (ci := 1) (q0 := 6) rfl rfl, zPreS_at hP hE (zD_re hD rfl) hZ hS [6] rfl rfl rfl⟩ rfl rfl hl.1 rfl (lv_room (Nat.le_of_ble_eq_true rfl)) dX4_act_68 ⟨Nat.zero_le _, Nat.zero_le _⟩) rfl hP (zD_re hD rfl) hS [6] rfl rfl [none, none, none, none, none, none, some 0, none] rfl rfl rfl rfl (fun H locs hP hS => ?_)
        refine W.eq (g2 := F0 m 71 ls []) rfl ?_
        refine lv_iload_n (pc := 71) hx hb dX4_act_71 rfl (lv_at hl 3 rfl) ?_
        by_cases c_72_0 : x2 = nI 0
        · have hF := (z_if _ hF).1 c_72_0
          refine lv_tableIn (pc := 72) (off := 28) (tgt := 100) hx hb dX4_act_72 (by rw [c_72_0]; decide) (by rw [c_72_0]; decide) (by rw [c_72_0]; rfl) (by decide) ?_
          refine lv_aload_n (pc := 100) hx hb dX4_act_100 rfl (lv_at hl 1 rfl) ?_
          refine va_get (D := D) (pc := 101) (ci := 4) (v := .ref h_thing) (C := RX4) (T := TX4) (N := 15) hx hb hts nX4_act_X4 hown hK hP 0 rfl rfl 13 (by decide) (hts _ kX4_act_0) (fun _ h9 => h9) rfl dX4_act_101 ?_
          refine lv_iload_n (pc := 104) hx hb dX4_act_104 rfl (lv_at hl 4 rfl) ?_
          obtain ⟨u105, hu105, hF⟩ := z_bind hF
          refine zq_callM (oc0 := (some (.int u105.1))) (wc := wX1_sprays cB cI cJ cO h_thing h_thing_bodies (.int u68.1) (.int u68.2.2.2.2.1) (nI 0) u68.2.1 u68.2.2.1 u68.2.2.2.1 u68.2.2.2.2.2 v_thing_bodies) (wc' := wX1_sprays cB cI cJ cO h_thing h_thing_bodies (.int u68.1) (.int u68.2.2.2.2.1) u105.2.1 u68.2.1 u68.2.2.1 u68.2.2.2.1 u68.2.2.2.2.2 u105.2.2) (ws' := (wX4_act cB cI cJ cO h0 h_now h_now_kind h_now_hand h_shelfHolds h_shelfNames h_thing h_thing_bodies g_tried g_told g_kept g_isKept g_tape g_taped g_rows g_rowCount g_sheets g_shelfRows g_mattering g_now_laws g_now_ground g_now_seen g_now_size g_now_on g_now_away g_now_nightsPassed g_now_glances g_now_draws g_now_gained g_now_paintedOn g_now_wallLooks v_now_count v_now_kind v_now_hand v_shelfHolds v_shelfNames u105.2.1 u68.1 u68.2.1 u68.2.2.1 u68.2.2.2.1 u68.2.2.2.2.1 u68.2.2.2.2.2 u105.2.2)) (va_runV (As := [.int x3]) (rest := []) ⟨hx, hb, hml, hown, hts⟩ (tX1_sprays (l := l) (D := D) (cB := cB) (cI := cI) (cJ := cJ) (cO := cO) h_thing h_thing_bodies (.int u68.1) (.int u68.2.2.2.2.1) (nI 0) u68.2.1 u68.2.2.1 u68.2.2.2.1 u68.2.2.2.2.2 v_thing_bodies x3 u105 hu105) (cwV 1 hts gX4_act_X1_sprays rfl rfl rfl (by decide +kernel) ⟨Nat.le_of_ble_eq_true rfl, Nat.le_of_ble_eq_true rfl⟩) ⟨zPre_blind, va_recv hK hP (ci := 1) (q0 := 6) rfl rfl, zPre_at hP hE (zD_re hD rfl) [6, 7] rfl rfl⟩ rfl rfl hl.1 rfl (lv_room (Nat.le_of_ble_eq_true rfl)) dX4_act_105 ⟨Nat.zero_le _, Nat.zero_le _⟩) rfl hP (zD_re hD rfl) hS [6, 7] rfl rfl [none, none, none, none, none, none, some 0, some 1] rfl rfl rfl rfl (fun H locs hP hS => ?_)
          refine W.eq (g2 := F0 m 108 ls [.int u105.1]) rfl ?_
          refine lv_istore (pc := 108) (lv' := [(5, .int u105.1), (4, .int (v_shelfNames x1.toNatClampNeg)), (0, .ref h0), (1, .int x1), (2, .int x2), (3, .int x3)]) hx hb dX4_act_108 hl (by decide) rfl (fun ls hl => ?_)
          refine lv_goto (pc := 110) (tgt := 149) hx hb dX4_act_110 (by decide) ?_
          refine lv_aload_n (pc := 149) hx hb dX4_act_149 rfl (lv_at hl 2 rfl) ?_
          refine va_get (D := D) (pc := 150) (ci := 4) (v := .ref h_thing) (C := RX4) (T := TX4) (N := 15) hx hb hts nX4_act_X4 hown hK hP 0 rfl rfl 13 (by decide) (hts _ kX4_act_0) (fun _ h9 => h9) rfl dX4_act_150 ?_
          refine va_get (D := D) (pc := 153) (ci := 1) (v := .int u68.1) (C := RX1) (T := TX1) (N := 8) hx hb hts nX4_act_X1 hown hK hP 6 rfl rfl 2 (by decide) (hts _ kX4_act_6) (fun _ h9 => h9) rfl dX4_act_153 ?_
          refine zb_if_eq (pc := 156) (tgt := 164) hx hb dX4_act_156 (by decide) hF (fun c_156 hF => ?_) (fun c_156 hF => ?_)
          · refine lv_iload (pc := 164) hx hb dX4_act_164 (lv_at hl 0 rfl) ?_
            exact z_iretM (pc := 166) (fun q => q.1) (fun q => (wX4_act cB cI cJ cO h0 h_now h_now_kind h_now_hand h_shelfHolds h_shelfNames h_thing h_thing_bodies g_tried g_told g_kept g_isKept g_tape g_taped g_rows g_rowCount g_sheets g_shelfRows g_mattering g_now_laws g_now_ground g_now_seen g_now_size g_now_on g_now_away g_now_nightsPassed g_now_glances g_now_draws g_now_gained g_now_paintedOn g_now_wallLooks v_now_count v_now_kind v_now_hand v_shelfHolds v_shelfNames q.2.1 q.2.2.1 q.2.2.2.1 q.2.2.2.2.1 q.2.2.2.2.2.1 q.2.2.2.2.2.2.1 q.2.2.2.2.2.2.2.1 q.2.2.2.2.2.2.2.2)) hx hb hr hlocks hP hS hF rfl hQ dX4_act_166
          · refine lv_bipush (pc := 159) (v := (-15 : Int32)) hx hb dX4_act_159 (by decide) ?_
            refine lv_goto (pc := 161) (tgt := 166) hx hb dX4_act_161 (by decide) ?_
            exact z_iretM (pc := 166) (fun q => q.1) (fun q => (wX4_act cB cI cJ cO h0 h_now h_now_kind h_now_hand h_shelfHolds h_shelfNames h_thing h_thing_bodies g_tried g_told g_kept g_isKept g_tape g_taped g_rows g_rowCount g_sheets g_shelfRows g_mattering g_now_laws g_now_ground g_now_seen g_now_size g_now_on g_now_away g_now_nightsPassed g_now_glances g_now_draws g_now_gained g_now_paintedOn g_now_wallLooks v_now_count v_now_kind v_now_hand v_shelfHolds v_shelfNames q.2.1 q.2.2.1 q.2.2.2.1 q.2.2.2.2.1 q.2.2.2.2.2.1 q.2.2.2.2.2.2.1 q.2.2.2.2.2.2.2.1 q.2.2.2.2.2.2.2.2)) hx hb hr hlocks hP hS hF rfl hQ dX4_act_166
        · have hF := (z_if _ hF).2 c_72_0
          by_cases c_72_1 : x2 = nI 1
          · have hF := (z_if _ hF).1 c_72_1
            refine lv_tableIn (pc := 72) (off := 41) (tgt := 113) hx hb dX4_act_72 (by rw [c_72_1]; decide) (by rw [c_72_1]; decide) (by rw [c_72_1]; rfl) (by decide) ?_
            refine lv_aload_n (pc := 113) hx hb dX4_act_113 rfl (lv_at hl 1 rfl) ?_
            refine va_get (D := D) (pc := 114) (ci := 4) (v := .ref h_thing) (C := RX4) (T := TX4) (N := 15) hx hb hts nX4_act_X4 hown hK hP 0 rfl rfl 13 (by decide) (hts _ kX4_act_0) (fun _ h9 => h9) rfl dX4_act_114 ?_
            refine lv_iload_n (pc := 117) hx hb dX4_act_117 rfl (lv_at hl 4 rfl) ?_
            obtain ⟨u118, hu118, hF⟩ := z_bind hF
            refine zq_callM (oc0 := (some (.int u118.1))) (wc := wX1_drips cB cI cJ cO h_thing h_thing_bodies (.int u68.1) (nI 0) u68.2.1 u68.2.2.1 u68.2.2.2.1 u68.2.2.2.2.1 u68.2.2.2.2.2 v_thing_bodies) (wc' := wX1_drips cB cI cJ cO h_thing h_thing_bodies (.int u68.1) u118.2.1 u68.2.1 u68.2.2.1 u68.2.2.2.1 u68.2.2.2.2.1 u68.2.2.2.2.2 u118.2.2) (ws' := (wX4_act cB cI cJ cO h0 h_now h_now_kind h_now_hand h_shelfHolds h_shelfNames h_thing h_thing_bodies g_tried g_told g_kept g_isKept g_tape g_taped g_rows g_rowCount g_sheets g_shelfRows g_mattering g_now_laws g_now_ground g_now_seen g_now_size g_now_on g_now_away g_now_nightsPassed g_now_glances g_now_draws g_now_gained g_now_paintedOn g_now_wallLooks v_now_count v_now_kind v_now_hand v_shelfHolds v_shelfNames u118.2.1 u68.1 u68.2.1 u68.2.2.1 u68.2.2.2.1 u68.2.2.2.2.1 u68.2.2.2.2.2 u118.2.2)) (va_runV (As := [.int x3]) (rest := []) ⟨hx, hb, hml, hown, hts⟩ (tX1_drips (l := l) (D := D) (cB := cB) (cI := cI) (cJ := cJ) (cO := cO) h_thing h_thing_bodies (.int u68.1) (nI 0) u68.2.1 u68.2.2.1 u68.2.2.2.1 u68.2.2.2.2.1 u68.2.2.2.2.2 v_thing_bodies x3 u118 hu118) (cwV 1 hts gX4_act_X1_drips rfl rfl rfl (by decide +kernel) ⟨Nat.le_of_ble_eq_true rfl, Nat.le_of_ble_eq_true rfl⟩) ⟨zPre_blind, va_recv hK hP (ci := 1) (q0 := 6) rfl rfl, zPre_at hP hE (zD_re hD rfl) [6, 7] rfl rfl⟩ rfl rfl hl.1 rfl (lv_room (Nat.le_of_ble_eq_true rfl)) dX4_act_118 ⟨Nat.zero_le _, Nat.zero_le _⟩) rfl hP (zD_re hD rfl) hS [6, 7] rfl rfl [none, none, none, none, none, none, some 0, some 1] rfl rfl rfl rfl (fun H locs hP hS => ?_)
            refine W.eq (g2 := F0 m 121 ls [.int u118.1]) rfl ?_
            refine lv_istore (pc := 121) (lv' := [(5, .int u118.1), (4, .int (v_shelfNames x1.toNatClampNeg)), (0, .ref h0), (1, .int x1), (2, .int x2), (3, .int x3)]) hx hb dX4_act_121 hl (by decide) rfl (fun ls hl => ?_)
            refine lv_goto (pc := 123) (tgt := 149) hx hb dX4_act_123 (by decide) ?_
            refine lv_aload_n (pc := 149) hx hb dX4_act_149 rfl (lv_at hl 2 rfl) ?_
            refine va_get (D := D) (pc := 150) (ci := 4) (v := .ref h_thing) (C := RX4) (T := TX4) (N := 15) hx hb hts nX4_act_X4 hown hK hP 0 rfl rfl 13 (by decide) (hts _ kX4_act_0) (fun _ h9 => h9) rfl dX4_act_150 ?_
            refine va_get (D := D) (pc := 153) (ci := 1) (v := .int u68.1) (C := RX1) (T := TX1) (N := 8) hx hb hts nX4_act_X1 hown hK hP 6 rfl rfl 2 (by decide) (hts _ kX4_act_6) (fun _ h9 => h9) rfl dX4_act_153 ?_
            refine zb_if_eq (pc := 156) (tgt := 164) hx hb dX4_act_156 (by decide) hF (fun c_156 hF => ?_) (fun c_156 hF => ?_)
            · refine lv_iload (pc := 164) hx hb dX4_act_164 (lv_at hl 0 rfl) ?_
              exact z_iretM (pc := 166) (fun q => q.1) (fun q => (wX4_act cB cI cJ cO h0 h_now h_now_kind h_now_hand h_shelfHolds h_shelfNames h_thing h_thing_bodies g_tried g_told g_kept g_isKept g_tape g_taped g_rows g_rowCount g_sheets g_shelfRows g_mattering g_now_laws g_now_ground g_now_seen g_now_size g_now_on g_now_away g_now_nightsPassed g_now_glances g_now_draws g_now_gained g_now_paintedOn g_now_wallLooks v_now_count v_now_kind v_now_hand v_shelfHolds v_shelfNames q.2.1 q.2.2.1 q.2.2.2.1 q.2.2.2.2.1 q.2.2.2.2.2.1 q.2.2.2.2.2.2.1 q.2.2.2.2.2.2.2.1 q.2.2.2.2.2.2.2.2)) hx hb hr hlocks hP hS hF rfl hQ dX4_act_166
            · refine lv_bipush (pc := 159) (v := (-15 : Int32)) hx hb dX4_act_159 (by decide) ?_
              refine lv_goto (pc := 161) (tgt := 166) hx hb dX4_act_161 (by decide) ?_
              exact z_iretM (pc := 166) (fun q => q.1) (fun q => (wX4_act cB cI cJ cO h0 h_now h_now_kind h_now_hand h_shelfHolds h_shelfNames h_thing h_thing_bodies g_tried g_told g_kept g_isKept g_tape g_taped g_rows g_rowCount g_sheets g_shelfRows g_mattering g_now_laws g_now_ground g_now_seen g_now_size g_now_on g_now_away g_now_nightsPassed g_now_glances g_now_draws g_now_gained g_now_paintedOn g_now_wallLooks v_now_count v_now_kind v_now_hand v_shelfHolds v_shelfNames q.2.1 q.2.2.1 q.2.2.2.1 q.2.2.2.2.1 q.2.2.2.2.2.1 q.2.2.2.2.2.2.1 q.2.2.2.2.2.2.2.1 q.2.2.2.2.2.2.2.2)) hx hb hr hlocks hP hS hF rfl hQ dX4_act_166
          · have hF := (z_if _ hF).2 c_72_1
            by_cases c_72_2 : x2 = nI 2
            · have hF := (z_if _ hF).1 c_72_2
              refine lv_tableIn (pc := 72) (off := 54) (tgt := 126) hx hb dX4_act_72 (by rw [c_72_2]; decide) (by rw [c_72_2]; decide) (by rw [c_72_2]; rfl) (by decide) ?_
              refine lv_aload_n (pc := 126) hx hb dX4_act_126 rfl (lv_at hl 1 rfl) ?_
              refine va_get (D := D) (pc := 127) (ci := 4) (v := .ref h_thing) (C := RX4) (T := TX4) (N := 15) hx hb hts nX4_act_X4 hown hK hP 0 rfl rfl 13 (by decide) (hts _ kX4_act_0) (fun _ h9 => h9) rfl dX4_act_127 ?_
              refine lv_iload_n (pc := 130) hx hb dX4_act_130 rfl (lv_at hl 4 rfl) ?_
              obtain ⟨u131, hu131, hF⟩ := z_bind hF
              refine zq_callM (oc0 := (some (.int u131.1))) (wc := wX1_parts cB cI cJ cO h_thing h_thing_bodies (.int u68.2.2.2.2.1) (nI 0) u68.1 u68.2.1 u68.2.2.1 u68.2.2.2.1 u68.2.2.2.2.2 v_thing_bodies) (wc' := wX1_parts cB cI cJ cO h_thing h_thing_bodies (.int u68.2.2.2.2.1) u131.2.1 u131.2.2.1 u68.2.1 u68.2.2.1 u68.2.2.2.1 u68.2.2.2.2.2 u131.2.2.2) (ws' := (wX4_act cB cI cJ cO h0 h_now h_now_kind h_now_hand h_shelfHolds h_shelfNames h_thing h_thing_bodies g_tried g_told g_kept g_isKept g_tape g_taped g_rows g_rowCount g_sheets g_shelfRows g_mattering g_now_laws g_now_ground g_now_seen g_now_size g_now_on g_now_away g_now_nightsPassed g_now_glances g_now_draws g_now_gained g_now_paintedOn g_now_wallLooks v_now_count v_now_kind v_now_hand v_shelfHolds v_shelfNames u131.2.1 u131.2.2.1 u68.2.1 u68.2.2.1 u68.2.2.2.1 u68.2.2.2.2.1 u68.2.2.2.2.2 u131.2.2.2)) (va_runV (As := [.int x3]) (rest := []) ⟨hx, hb, hml, hown, hts⟩ (tX1_parts (l := l) (D := D) (cB := cB) (cI := cI) (cJ := cJ) (cO := cO) h_thing h_thing_bodies (.int u68.2.2.2.2.1) (nI 0) u68.1 u68.2.1 u68.2.2.1 u68.2.2.2.1 u68.2.2.2.2.2 v_thing_bodies x3 u131 hu131) (cwV 1 hts gX4_act_X1_parts rfl rfl rfl (by decide +kernel) ⟨Nat.le_of_ble_eq_true rfl, Nat.le_of_ble_eq_true rfl⟩) ⟨zPre_blind, va_recv hK hP (ci := 1) (q0 := 6) rfl rfl, zPre_at hP hE (zD_re hD rfl) [6, 7] rfl rfl⟩ rfl rfl hl.1 rfl (lv_room (Nat.le_of_ble_eq_true rfl)) dX4_act_131 ⟨Nat.zero_le _, Nat.zero_le _⟩) rfl hP (zD_re hD rfl) hS [6, 7] rfl rfl [none, none, none, none, none, none, some 0, some 1] rfl rfl rfl rfl (fun H locs hP hS => ?_)
              refine W.eq (g2 := F0 m 134 ls [.int u131.1]) rfl ?_
              refine lv_istore (pc := 134) (lv' := [(5, .int u131.1), (4, .int (v_shelfNames x1.toNatClampNeg)), (0, .ref h0), (1, .int x1), (2, .int x2), (3, .int x3)]) hx hb dX4_act_134 hl (by decide) rfl (fun ls hl => ?_)
              refine lv_goto (pc := 136) (tgt := 149) hx hb dX4_act_136 (by decide) ?_
              refine lv_aload_n (pc := 149) hx hb dX4_act_149 rfl (lv_at hl 2 rfl) ?_
              refine va_get (D := D) (pc := 150) (ci := 4) (v := .ref h_thing) (C := RX4) (T := TX4) (N := 15) hx hb hts nX4_act_X4 hown hK hP 0 rfl rfl 13 (by decide) (hts _ kX4_act_0) (fun _ h9 => h9) rfl dX4_act_150 ?_
              refine va_get (D := D) (pc := 153) (ci := 1) (v := .int u131.2.2.1) (C := RX1) (T := TX1) (N := 8) hx hb hts nX4_act_X1 hown hK hP 6 rfl rfl 2 (by decide) (hts _ kX4_act_6) (fun _ h9 => h9) rfl dX4_act_153 ?_
              refine zb_if_eq (pc := 156) (tgt := 164) hx hb dX4_act_156 (by decide) hF (fun c_156 hF => ?_) (fun c_156 hF => ?_)
              · refine lv_iload (pc := 164) hx hb dX4_act_164 (lv_at hl 0 rfl) ?_
                exact z_iretM (pc := 166) (fun q => q.1) (fun q => (wX4_act cB cI cJ cO h0 h_now h_now_kind h_now_hand h_shelfHolds h_shelfNames h_thing h_thing_bodies g_tried g_told g_kept g_isKept g_tape g_taped g_rows g_rowCount g_sheets g_shelfRows g_mattering g_now_laws g_now_ground g_now_seen g_now_size g_now_on g_now_away g_now_nightsPassed g_now_glances g_now_draws g_now_gained g_now_paintedOn g_now_wallLooks v_now_count v_now_kind v_now_hand v_shelfHolds v_shelfNames q.2.1 q.2.2.1 q.2.2.2.1 q.2.2.2.2.1 q.2.2.2.2.2.1 q.2.2.2.2.2.2.1 q.2.2.2.2.2.2.2.1 q.2.2.2.2.2.2.2.2)) hx hb hr hlocks hP hS hF rfl hQ dX4_act_166
              · refine lv_bipush (pc := 159) (v := (-15 : Int32)) hx hb dX4_act_159 (by decide) ?_
                refine lv_goto (pc := 161) (tgt := 166) hx hb dX4_act_161 (by decide) ?_
                exact z_iretM (pc := 166) (fun q => q.1) (fun q => (wX4_act cB cI cJ cO h0 h_now h_now_kind h_now_hand h_shelfHolds h_shelfNames h_thing h_thing_bodies g_tried g_told g_kept g_isKept g_tape g_taped g_rows g_rowCount g_sheets g_shelfRows g_mattering g_now_laws g_now_ground g_now_seen g_now_size g_now_on g_now_away g_now_nightsPassed g_now_glances g_now_draws g_now_gained g_now_paintedOn g_now_wallLooks v_now_count v_now_kind v_now_hand v_shelfHolds v_shelfNames q.2.1 q.2.2.1 q.2.2.2.1 q.2.2.2.2.1 q.2.2.2.2.2.1 q.2.2.2.2.2.2.1 q.2.2.2.2.2.2.2.1 q.2.2.2.2.2.2.2.2)) hx hb hr hlocks hP hS hF rfl hQ dX4_act_166
            · have hF := (z_if _ hF).2 c_72_2
              refine lv_tableOut (pc := 72) (tgt := 139) hx hb dX4_act_72 (by have q0 : ¬ x2.toInt = 0 := lv_neT c_72_0 (by decide); have q1 : ¬ x2.toInt = 1 := lv_neT c_72_1 (by decide); have q2 : ¬ x2.toInt = 2 := lv_neT c_72_2 (by decide); omega) (by decide) ?_
              refine lv_aload_n (pc := 139) hx hb dX4_act_139 rfl (lv_at hl 1 rfl) ?_
              refine va_get (D := D) (pc := 140) (ci := 4) (v := .ref h_thing) (C := RX4) (T := TX4) (N := 15) hx hb hts nX4_act_X4 hown hK hP 0 rfl rfl 13 (by decide) (hts _ kX4_act_0) (fun _ h9 => h9) rfl dX4_act_140 ?_
              refine lv_iload_n (pc := 143) hx hb dX4_act_143 rfl (lv_at hl 4 rfl) ?_
              obtain ⟨u144, hu144, hF⟩ := z_bind hF
              refine zq_callM (oc0 := (some (.int u144.1))) (wc := wX1_fades cB cI cJ cO h_thing h_thing_bodies (nI 0) u68.1 u68.2.1 u68.2.2.1 u68.2.2.2.1 u68.2.2.2.2.1 u68.2.2.2.2.2 v_thing_bodies) (wc' := wX1_fades cB cI cJ cO h_thing h_thing_bodies u144.2.1 u144.2.2.1 u68.2.1 u68.2.2.1 u68.2.2.2.1 u68.2.2.2.2.1 u68.2.2.2.2.2 u144.2.2.2) (ws' := (wX4_act cB cI cJ cO h0 h_now h_now_kind h_now_hand h_shelfHolds h_shelfNames h_thing h_thing_bodies g_tried g_told g_kept g_isKept g_tape g_taped g_rows g_rowCount g_sheets g_shelfRows g_mattering g_now_laws g_now_ground g_now_seen g_now_size g_now_on g_now_away g_now_nightsPassed g_now_glances g_now_draws g_now_gained g_now_paintedOn g_now_wallLooks v_now_count v_now_kind v_now_hand v_shelfHolds v_shelfNames u144.2.1 u144.2.2.1 u68.2.1 u68.2.2.1 u68.2.2.2.1 u68.2.2.2.2.1 u68.2.2.2.2.2 u144.2.2.2)) (va_runV (As := [.int x3]) (rest := []) ⟨hx, hb, hml, hown, hts⟩ (tX1_fades (l := l) (D := D) (cB := cB) (cI := cI) (cJ := cJ) (cO := cO) h_thing h_thing_bodies (nI 0) u68.1 u68.2.1 u68.2.2.1 u68.2.2.2.1 u68.2.2.2.2.1 u68.2.2.2.2.2 v_thing_bodies x3 u144 hu144) (cwV 1 hts gX4_act_X1_fades rfl rfl rfl (by decide +kernel) ⟨Nat.le_of_ble_eq_true rfl, Nat.le_of_ble_eq_true rfl⟩) ⟨zPre_blind, va_recv hK hP (ci := 1) (q0 := 6) rfl rfl, zPre_at hP hE (zD_re hD rfl) [6, 7] rfl rfl⟩ rfl rfl hl.1 rfl (lv_room (Nat.le_of_ble_eq_true rfl)) dX4_act_144 ⟨Nat.zero_le _, Nat.zero_le _⟩) rfl hP (zD_re hD rfl) hS [6, 7] rfl rfl [none, none, none, none, none, none, some 0, some 1] rfl rfl rfl rfl (fun H locs hP hS => ?_)
              refine W.eq (g2 := F0 m 147 ls [.int u144.1]) rfl ?_
              refine lv_istore (pc := 147) (lv' := [(5, .int u144.1), (4, .int (v_shelfNames x1.toNatClampNeg)), (0, .ref h0), (1, .int x1), (2, .int x2), (3, .int x3)]) hx hb dX4_act_147 hl (by decide) rfl (fun ls hl => ?_)
              refine lv_aload_n (pc := 149) hx hb dX4_act_149 rfl (lv_at hl 2 rfl) ?_
              refine va_get (D := D) (pc := 150) (ci := 4) (v := .ref h_thing) (C := RX4) (T := TX4) (N := 15) hx hb hts nX4_act_X4 hown hK hP 0 rfl rfl 13 (by decide) (hts _ kX4_act_0) (fun _ h9 => h9) rfl dX4_act_150 ?_
              refine va_get (D := D) (pc := 153) (ci := 1) (v := .int u144.2.2.1) (C := RX1) (T := TX1) (N := 8) hx hb hts nX4_act_X1 hown hK hP 6 rfl rfl 2 (by decide) (hts _ kX4_act_6) (fun _ h9 => h9) rfl dX4_act_153 ?_
              refine zb_if_eq (pc := 156) (tgt := 164) hx hb dX4_act_156 (by decide) hF (fun c_156 hF => ?_) (fun c_156 hF => ?_)
              · refine lv_iload (pc := 164) hx hb dX4_act_164 (lv_at hl 0 rfl) ?_
                exact z_iretM (pc := 166) (fun q => q.1) (fun q => (wX4_act cB cI cJ cO h0 h_now h_now_kind h_now_hand h_shelfHolds h_shelfNames h_thing h_thing_bodies g_tried g_told g_kept g_isKept g_tape g_taped g_rows g_rowCount g_sheets g_shelfRows g_mattering g_now_laws g_now_ground g_now_seen g_now_size g_now_on g_now_away g_now_nightsPassed g_now_glances g_now_draws g_now_gained g_now_paintedOn g_now_wallLooks v_now_count v_now_kind v_now_hand v_shelfHolds v_shelfNames q.2.1 q.2.2.1 q.2.2.2.1 q.2.2.2.2.1 q.2.2.2.2.2.1 q.2.2.2.2.2.2.1 q.2.2.2.2.2.2.2.1 q.2.2.2.2.2.2.2.2)) hx hb hr hlocks hP hS hF rfl hQ dX4_act_166
              · refine lv_bipush (pc := 159) (v := (-15 : Int32)) hx hb dX4_act_159 (by decide) ?_
                refine lv_goto (pc := 161) (tgt := 166) hx hb dX4_act_161 (by decide) ?_
                exact z_iretM (pc := 166) (fun q => q.1) (fun q => (wX4_act cB cI cJ cO h0 h_now h_now_kind h_now_hand h_shelfHolds h_shelfNames h_thing h_thing_bodies g_tried g_told g_kept g_isKept g_tape g_taped g_rows g_rowCount g_sheets g_shelfRows g_mattering g_now_laws g_now_ground g_now_seen g_now_size g_now_on g_now_away g_now_nightsPassed g_now_glances g_now_draws g_now_gained g_now_paintedOn g_now_wallLooks v_now_count v_now_kind v_now_hand v_shelfHolds v_shelfNames q.2.1 q.2.2.1 q.2.2.2.1 q.2.2.2.2.1 q.2.2.2.2.2.1 q.2.2.2.2.2.2.1 q.2.2.2.2.2.2.2.1 q.2.2.2.2.2.2.2.2)) hx hb hr hlocks hP hS hF rfl hQ dX4_act_166
      · refine lv_iconst (pc := 32) (v := (nI 0)) hx hb dX4_act_32 (by decide) ?_
        exact z_iretM (pc := 33) (fun q => q.1) (fun q => (wX4_act cB cI cJ cO h0 h_now h_now_kind h_now_hand h_shelfHolds h_shelfNames h_thing h_thing_bodies g_tried g_told g_kept g_isKept g_tape g_taped g_rows g_rowCount g_sheets g_shelfRows g_mattering g_now_laws g_now_ground g_now_seen g_now_size g_now_on g_now_away g_now_nightsPassed g_now_glances g_now_draws g_now_gained g_now_paintedOn g_now_wallLooks v_now_count v_now_kind v_now_hand v_shelfHolds v_shelfNames q.2.1 q.2.2.1 q.2.2.2.1 q.2.2.2.2.1 q.2.2.2.2.2.1 q.2.2.2.2.2.2.1 q.2.2.2.2.2.2.2.1 q.2.2.2.2.2.2.2.2)) hx hb hr hlocks hP hS hF rfl hQ dX4_act_33

abbrev rX4_trace : Room := { frames := 1, cells := 0, slots := 0, locals := 21 }
abbrev wX4_trace (cB cI cJ cO : ClassId) (h0 h_thing h_thing_bodies : Nat) (g_now g_tried g_told g_kept g_isKept g_tape g_taped g_rows g_rowCount g_sheets g_shelfHolds g_shelfNames g_shelfRows g_mattering g_thing_isBroken g_thing_kind g_thing_number g_thing_hand g_thing_isFresh g_thing_isCovered : Value) (v_thing_traced : Int32) (v_thing_bodies : Nat → Int32) : va_W := [(h0, .inr (4, [g_now, g_tried, g_told, g_kept, g_isKept, g_tape, g_taped, g_rows, g_rowCount, g_sheets, g_shelfHolds, g_shelfNames, g_shelfRows, .ref h_thing, g_mattering])), (h_thing, .inr (1, [.ref h_thing_bodies, .int v_thing_traced, g_thing_isBroken, g_thing_kind, g_thing_number, g_thing_hand, g_thing_isFresh, g_thing_isCovered])), (h_thing_bodies, .inl (cI, 30, .inl v_thing_bodies))]
theorem nX4_trace_X4 : ∀ w ∈ wsX40, w ∈ wsX4_trace := by decide +kernel
theorem nX4_trace_X1 : ∀ w ∈ wsX10, w ∈ wsX4_trace := by decide +kernel
theorem kX4_trace_0 : Cond.fieldLink RX4 62 "PaintedWalls" "thing" "LPaintedWalls$Thing;" ∈ wsX4_trace := by decide +kernel
theorem kX4_trace_1 : Cond.fieldLink RX4 246 "PaintedWalls$Thing" "traced" "I" ∈ wsX4_trace := by decide +kernel
theorem kX4_trace_2 : Cond.fieldLink RX4 267 "PaintedWalls$Thing" "bodies" "[I" ∈ wsX4_trace := by decide +kernel
set_option maxHeartbeats 4000000 in
set_option maxRecDepth 100000 in
theorem tX4_trace {l : Launch} {D : va_G} {cB cI cJ cO : ClassId} (h0 h_thing h_thing_bodies : Nat) (g_now g_tried g_told g_kept g_isKept g_tape g_taped g_rows g_rowCount g_sheets g_shelfHolds g_shelfNames g_shelfRows g_mattering g_thing_isBroken g_thing_kind g_thing_number g_thing_hand g_thing_isFresh g_thing_isCovered : Value) (v_thing_traced : Int32) (v_thing_bodies : Nat → Int32) (x1 : Int32) (r : Int32) (hF : fX4_trace v_thing_traced v_thing_bodies x1 = some r) : Met l yX4_trace wsX4_trace rX4_trace (zPre D cB cI cJ cO [.ref h0, .int x1] (wX4_trace cB cI cJ cO h0 h_thing h_thing_bodies g_now g_tried g_told g_kept g_isKept g_tape g_taped g_rows g_rowCount g_sheets g_shelfHolds g_shelfNames g_shelfRows g_mattering g_thing_isBroken g_thing_kind g_thing_number g_thing_hand g_thing_isFresh g_thing_isCovered v_thing_traced v_thing_bodies)) (zPI (some (.int r))) 0 0 (fun _ => False) := by
  refine zMetP (cc := cX4_trace) (maxL := 2) (ret := (some .int)) (lv := [(0, .ref h0), (1, .int x1)]) (by decide) rfl (Nat.le_of_ble_eq_true rfl) rfl ?_
  intro p e s m args below meth c ls Q hQ hx hb hr hml hown hts hlocks hname hP hE hD hl
  have hown : s.vm.findClass RX4 = some m.cls := hown
  have hK := hE.1
  unfold fX4_trace at hF
  refine lv_iload_n (pc := 0) hx hb dX4_trace_0 rfl (lv_at hl 1 rfl) ?_
  refine lv_aload_n (pc := 1) hx hb dX4_trace_1 rfl (lv_at hl 0 rfl) ?_
  refine va_get (D := D) (pc := 2) (ci := 4) (v := .ref h_thing) (C := RX4) (T := TX4) (N := 15) hx hb hts nX4_trace_X4 hown hK hP 0 rfl rfl 13 (by decide) (hts _ kX4_trace_0) (fun _ h9 => h9) rfl dX4_trace_2 ?_
  refine va_get (D := D) (pc := 5) (ci := 1) (v := .int v_thing_traced) (C := RX1) (T := TX1) (N := 8) hx hb hts nX4_trace_X1 hown hK hP 1 rfl rfl 1 (by decide) (hts _ kX4_trace_1) (fun _ h9 => h9) rfl dX4_trace_5 ?_
  obtain ⟨u8, hu8, hF⟩ := z_bind hF
  refine zq_call (oc0 := (some (.int u8))) (va_runS (As := [.int x1, .int v_thing_traced]) (rest := []) ⟨hx, hb, hml, hown, hts⟩ (tX4_isBelow (l := l) (D := D) (cB := cB) (cI := cI) (cJ := cJ) (cO := cO) x1 v_thing_traced u8 hu8) (va_cwS 2 hts gX4_trace_X4_isBelow rfl rfl rfl (by decide +kernel) ⟨Nat.le_of_ble_eq_true rfl, Nat.le_of_ble_eq_true rfl⟩) ⟨zPre_blind, zPre_at hP hE hD [] rfl rfl⟩ rfl rfl hl.1 rfl (lv_room (Nat.le_of_ble_eq_true rfl)) dX4_trace_8 ⟨Nat.zero_le _, Nat.zero_le _⟩) ?_
  refine W.eq (g2 := F0 m 11 ls [.int u8]) rfl ?_
  refine zb_if_eq (pc := 11) (tgt := 26) hx hb dX4_trace_11 (by decide) hF (fun c_11 hF => ?_) (fun c_11 hF => ?_)
  · refine lv_bipush (pc := 26) (v := (-3 : Int32)) hx hb dX4_trace_26 (by decide) ?_
    exact z_iret (pc := 28) (fun q => q) hx hb hr hlocks hF rfl hQ dX4_trace_28
  · refine lv_aload_n (pc := 14) hx hb dX4_trace_14 rfl (lv_at hl 0 rfl) ?_
    refine va_get (D := D) (pc := 15) (ci := 4) (v := .ref h_thing) (C := RX4) (T := TX4) (N := 15) hx hb hts nX4_trace_X4 hown hK hP 0 rfl rfl 13 (by decide) (hts _ kX4_trace_0) (fun _ h9 => h9) rfl dX4_trace_15 ?_
    refine va_get (D := D) (pc := 18) (ci := 1) (v := .ref h_thing_bodies) (C := RX1) (T := TX1) (N := 8) hx hb hts nX4_trace_X1 hown hK hP 1 rfl rfl 0 (by decide) (hts _ kX4_trace_2) (fun _ h9 => h9) rfl dX4_trace_18 ?_
    refine lv_iload_n (pc := 21) hx hb dX4_trace_21 rfl (lv_at hl 1 rfl) ?_
    refine za_iald (pc := 22) hx hb hK hP 2 1 rfl rfl dX4_trace_22 hF (fun hF => ?_)
    refine lv_goto (pc := 23) (tgt := 28) hx hb dX4_trace_23 (by decide) ?_
    exact z_iret (pc := 28) (fun q => q) hx hb hr hlocks hF rfl hQ dX4_trace_28
