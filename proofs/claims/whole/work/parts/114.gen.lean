abbrev rX5_hope : Room := { frames := 1, cells := 0, slots := 0, locals := 30 }
abbrev wX5_hope (cB cI cJ cO : ClassId) (h0 h_row : Nat) (g_fresh g_kept g_tried g_isKept g_viewed g_tape g_tapeMany g_sort g_begins g_tokenEnds g_word g_value g_good g_growing g_rows g_must g_rowMany g_sorts g_sizes g_sheets g_holds g_heldNumber g_heldSize g_kind g_number g_ownHand g_traced g_bodies g_isParted : Value) (v_row : Nat → Int32) : va_W := [(h0, .inr (5, [.ref h_row, g_fresh, g_kept, g_tried, g_isKept, g_viewed, g_tape, g_tapeMany, g_sort, g_begins, g_tokenEnds, g_word, g_value, g_good, g_growing, g_rows, g_must, g_rowMany, g_sorts, g_sizes, g_sheets, g_holds, g_heldNumber, g_heldSize, g_kind, g_number, g_ownHand, g_traced, g_bodies, g_isParted])), (h_row, .inl (cI, 68, .inl v_row))]
theorem nX5_hope_X5 : ∀ w ∈ wsX50, w ∈ wsX5_hope := by decide +kernel
theorem kX5_hope_0 : Cond.constantLong RX5 100 (-1 : Int64) ∈ wsX5_hope := by decide +kernel
theorem kX5_hope_1 : Cond.fieldLink RX5 7 "PaintedWallsModel" "row" "[I" ∈ wsX5_hope := by decide +kernel
theorem kX5_hope_2 : Cond.constantLong RX5 311 (lN 100) ∈ wsX5_hope := by decide +kernel
set_option maxHeartbeats 4000000 in
set_option maxRecDepth 100000 in
theorem tX5_hope {l : Launch} {D : va_G} {cB cI cJ cO : ClassId} (h0 h_row : Nat) (g_fresh g_kept g_tried g_isKept g_viewed g_tape g_tapeMany g_sort g_begins g_tokenEnds g_word g_value g_good g_growing g_rows g_must g_rowMany g_sorts g_sizes g_sheets g_holds g_heldNumber g_heldSize g_kind g_number g_ownHand g_traced g_bodies g_isParted : Value) (v_row : Nat → Int32) (x1 : Int32) (x2 : Int32) (r : Int64) (hF : fX5_hope v_row x1 x2 = some r) : Met l yX5_hope wsX5_hope rX5_hope (zPre D cB cI cJ cO [.ref h0, .int x1, .int x2] (wX5_hope cB cI cJ cO h0 h_row g_fresh g_kept g_tried g_isKept g_viewed g_tape g_tapeMany g_sort g_begins g_tokenEnds g_word g_value g_good g_growing g_rows g_must g_rowMany g_sorts g_sizes g_sheets g_holds g_heldNumber g_heldSize g_kind g_number g_ownHand g_traced g_bodies g_isParted v_row)) (zPI (some (.long r))) 0 0 (fun _ => False) := by
  refine zMetP (cc := cX5_hope) (maxL := 3) (ret := (some .long)) (lv := [(0, .ref h0), (1, .int x1), (2, .int x2)]) (by decide) rfl (Nat.le_of_ble_eq_true rfl) rfl ?_
  intro p e s m args below meth c ls Q hQ hx hb hr hml hown hts hlocks hname hP hE hD hl
  have hown : s.vm.findClass RX5 = some m.cls := hown
  have hK := hE.1
  unfold fX5_hope at hF
  refine lv_iload_n (pc := 0) hx hb dX5_hope_0 rfl (lv_at hl 1 rfl) ?_
  refine lv_iconst (pc := 1) (v := (nI 0)) hx hb dX5_hope_1 (by decide) ?_
  refine lv_bipush (pc := 2) (v := (nI 99)) hx hb dX5_hope_2 (by decide) ?_
  obtain ⟨u4, hu4, hF⟩ := z_bind hF
  refine zq_call (oc0 := (some (.int u4))) (va_runS (As := [.int x1, .int (nI 0), .int (nI 99)]) (rest := []) ⟨hx, hb, hml, hown, hts⟩ (tX5_in (l := l) (D := D) (cB := cB) (cI := cI) (cJ := cJ) (cO := cO) x1 (nI 0) (nI 99) u4 hu4) (va_cwS 3 hts gX5_hope_X5_in rfl rfl rfl (by decide +kernel) ⟨Nat.le_of_ble_eq_true rfl, Nat.le_of_ble_eq_true rfl⟩) ⟨zPre_blind, zPre_at hP hE hD [] rfl rfl⟩ rfl rfl hl.1 rfl (lv_room (Nat.le_of_ble_eq_true rfl)) dX5_hope_4 ⟨Nat.zero_le _, Nat.zero_le _⟩) ?_
  refine W.eq (g2 := F0 m 7 ls [.int u4]) rfl ?_
  refine zb_if_eq (pc := 7) (tgt := 39) hx hb dX5_hope_7 (by decide) hF (fun c_7 hF => ?_) (fun c_7 hF => ?_)
  · refine lv_ldc2 (pc := 39) hx hb hown (hts _ kX5_hope_0) dX5_hope_39 ?_
    exact z_lret (pc := 42) (fun q => q) hx hb hr hlocks hF rfl hQ dX5_hope_42
  · refine lv_iload_n (pc := 10) hx hb dX5_hope_10 rfl (lv_at hl 2 rfl) ?_
    refine lv_iconst (pc := 11) (v := (nI 0)) hx hb dX5_hope_11 (by decide) ?_
    refine lv_iconst (pc := 12) (v := (nI 1)) hx hb dX5_hope_12 (by decide) ?_
    obtain ⟨u13, hu13, hF⟩ := z_bind hF
    refine zq_call (oc0 := (some (.int u13))) (va_runS (As := [.int x2, .int (nI 0), .int (nI 1)]) (rest := []) ⟨hx, hb, hml, hown, hts⟩ (tX5_in (l := l) (D := D) (cB := cB) (cI := cI) (cJ := cJ) (cO := cO) x2 (nI 0) (nI 1) u13 hu13) (va_cwS 3 hts gX5_hope_X5_in rfl rfl rfl (by decide +kernel) ⟨Nat.le_of_ble_eq_true rfl, Nat.le_of_ble_eq_true rfl⟩) ⟨zPre_blind, zPre_at hP hE hD [] rfl rfl⟩ rfl rfl hl.1 rfl (lv_room (Nat.le_of_ble_eq_true rfl)) dX5_hope_13 ⟨Nat.zero_le _, Nat.zero_le _⟩) ?_
    refine W.eq (g2 := F0 m 16 ls [.int u13]) rfl ?_
    refine zb_if_eq (pc := 16) (tgt := 39) hx hb dX5_hope_16 (by decide) hF (fun c_16 hF => ?_) (fun c_16 hF => ?_)
    · refine lv_ldc2 (pc := 39) hx hb hown (hts _ kX5_hope_0) dX5_hope_39 ?_
      exact z_lret (pc := 42) (fun q => q) hx hb hr hlocks hF rfl hQ dX5_hope_42
    · refine lv_iload_n (pc := 19) hx hb dX5_hope_19 rfl (lv_at hl 1 rfl) ?_
      refine lv_i2l (pc := 20) (v := x1.toInt64) hx hb dX5_hope_20 rfl ?_
      refine lv_aload_n (pc := 21) hx hb dX5_hope_21 rfl (lv_at hl 0 rfl) ?_
      refine va_get (D := D) (pc := 22) (ci := 5) (v := .ref h_row) (C := RX5) (T := TX5) (N := 30) hx hb hts nX5_hope_X5 hown hK hP 0 rfl rfl 0 (by decide) (hts _ kX5_hope_1) (fun _ h9 => h9) rfl dX5_hope_22 ?_
      refine lv_iconst (pc := 25) (v := (nI 3)) hx hb dX5_hope_25 (by decide) ?_
      refine za_ialdK (pc := 26) (k := 3) hx hb hK hP 1 1 rfl rfl (by decide) (by decide) dX5_hope_26 ?_
      refine lv_i2l (pc := 27) (v := (v_row 3).toInt64) hx hb dX5_hope_27 rfl ?_
      refine lv_lmul (pc := 28) hx hb dX5_hope_28 ?_
      refine lv_ldc2 (pc := 29) hx hb hown (hts _ kX5_hope_2) dX5_hope_29 ?_
      refine lv_iload_n (pc := 32) hx hb dX5_hope_32 rfl (lv_at hl 2 rfl) ?_
      obtain ⟨u33, hu33, hF⟩ := z_bind hF
      refine zq_call (oc0 := (some (.long u33))) (va_runS (As := [.long ((x1.toInt64) * ((v_row 3).toInt64)), .long (lN 100), .int x2]) (rest := []) ⟨hx, hb, hml, hown, hts⟩ (tX5_lowest (l := l) (D := D) (cB := cB) (cI := cI) (cJ := cJ) (cO := cO) ((x1.toInt64) * ((v_row 3).toInt64)) (lN 100) x2 u33 hu33) (va_cwS 3 hts gX5_hope_X5_lowest rfl rfl rfl (by decide +kernel) ⟨Nat.le_of_ble_eq_true rfl, Nat.le_of_ble_eq_true rfl⟩) ⟨zPre_blind, zPre_at hP hE hD [] rfl rfl⟩ rfl rfl hl.1 rfl (lv_room (Nat.le_of_ble_eq_true rfl)) dX5_hope_33 ⟨Nat.zero_le _, Nat.zero_le _⟩) ?_
      refine W.eq (g2 := F0 m 36 ls [.long u33]) rfl ?_
      refine lv_goto (pc := 36) (tgt := 42) hx hb dX5_hope_36 (by decide) ?_
      exact z_lret (pc := 42) (fun q => q) hx hb hr hlocks hF rfl hQ dX5_hope_42

abbrev rX5_findRows : Room := { frames := 7, cells := 0, slots := 0, locals := 156 }
abbrev wX5_findRows (cB cI cJ cO : ClassId) (h0 h_row h_tried h_growing h_must : Nat) (g_fresh g_kept g_isKept g_tape g_tapeMany g_sort g_begins g_tokenEnds g_word g_value g_good g_rows g_rowMany g_sorts g_sizes g_sheets g_holds g_heldNumber g_heldSize g_kind g_number g_ownHand g_traced g_bodies g_isParted : Value) (v_viewed : Int32) (v_row : Nat → Int32) (v_tried : Nat → Int32) (v_growing : Nat → Int32) (v_must : Nat → Int32) : va_W := [(h0, .inr (5, [.ref h_row, g_fresh, g_kept, .ref h_tried, g_isKept, .int v_viewed, g_tape, g_tapeMany, g_sort, g_begins, g_tokenEnds, g_word, g_value, g_good, .ref h_growing, g_rows, .ref h_must, g_rowMany, g_sorts, g_sizes, g_sheets, g_holds, g_heldNumber, g_heldSize, g_kind, g_number, g_ownHand, g_traced, g_bodies, g_isParted])), (h_row, .inl (cI, 68, .inl v_row)), (h_tried, .inl (cI, 68, .inl v_tried)), (h_growing, .inl (cI, 8, .inl v_growing)), (h_must, .inl (cI, 30, .inl v_must))]
theorem nX5_findRows_X5 : ∀ w ∈ wsX50, w ∈ wsX5_findRows := by decide +kernel
theorem kX5_findRows_0 : Cond.fieldLink RX5 7 "PaintedWallsModel" "row" "[I" ∈ wsX5_findRows := by decide +kernel
theorem kX5_findRows_1 : Cond.fieldLink RX5 19 "PaintedWallsModel" "tried" "[I" ∈ wsX5_findRows := by decide +kernel
theorem kX5_findRows_2 : Cond.fieldLink RX5 31 "PaintedWallsModel" "must" "[I" ∈ wsX5_findRows := by decide +kernel
set_option maxHeartbeats 4000000 in
set_option maxRecDepth 100000 in
theorem tX5_findRows {l : Launch} {D : va_G} {cB cI cJ cO : ClassId} (h0 h_row h_tried h_growing h_must : Nat) (g_fresh g_kept g_isKept g_tape g_tapeMany g_sort g_begins g_tokenEnds g_word g_value g_good g_rows g_rowMany g_sorts g_sizes g_sheets g_holds g_heldNumber g_heldSize g_kind g_number g_ownHand g_traced g_bodies g_isParted : Value) (v_viewed : Int32) (v_row : Nat → Int32) (v_tried : Nat → Int32) (v_growing : Nat → Int32) (v_must : Nat → Int32) (x1 : Int32) (x2 : Int32) (r : Int32 × (Nat → Int32) × (Nat → Int32) × (Nat → Int32) × (Nat → Int32)) (hF : fX5_findRows v_viewed v_row v_tried v_growing v_must x1 x2 = some r) : Met l yX5_findRows wsX5_findRows rX5_findRows (zPre D cB cI cJ cO [.ref h0, .int x1, .int x2] (wX5_findRows cB cI cJ cO h0 h_row h_tried h_growing h_must g_fresh g_kept g_isKept g_tape g_tapeMany g_sort g_begins g_tokenEnds g_word g_value g_good g_rows g_rowMany g_sorts g_sizes g_sheets g_holds g_heldNumber g_heldSize g_kind g_number g_ownHand g_traced g_bodies g_isParted v_viewed v_row v_tried v_growing v_must)) (zPM none D (wX5_findRows cB cI cJ cO h0 h_row h_tried h_growing h_must g_fresh g_kept g_isKept g_tape g_tapeMany g_sort g_begins g_tokenEnds g_word g_value g_good g_rows g_rowMany g_sorts g_sizes g_sheets g_holds g_heldNumber g_heldSize g_kind g_number g_ownHand g_traced g_bodies g_isParted r.1 r.2.1 r.2.2.1 r.2.2.2.1 r.2.2.2.2) (zAs [h0, h_row, h_tried, h_growing, h_must])) 0 0 (zAs [h0, h_row, h_tried, h_growing, h_must]) := by
  refine zMetM (cc := cX5_findRows) (maxL := 4) (ret := none) (lv := [(0, .ref h0), (1, .int x1), (2, .int x2)]) rfl (by decide) rfl (Nat.le_of_ble_eq_true rfl) rfl ?_
  intro p e s m args below meth c ls Q H locs hQ hx hb hr hml hown hts hlocks hname hP hE hD hS hl
  have hown : s.vm.findClass RX5 = some m.cls := hown
  have hK := hE.1
  unfold fX5_findRows at hF
  refine lv_aload_n (pc := 0) hx hb dX5_findRows_0 rfl (lv_at hl 0 rfl) ?_
  refine va_get (D := D) (pc := 1) (ci := 5) (v := .ref h_row) (C := RX5) (T := TX5) (N := 30) hx hb hts nX5_findRows_X5 hown hK hP 0 rfl rfl 0 (by decide) (hts _ kX5_findRows_0) (fun _ h9 => h9) rfl dX5_findRows_1 ?_
  refine lv_aload_n (pc := 4) hx hb dX5_findRows_4 rfl (lv_at hl 0 rfl) ?_
  refine va_get (D := D) (pc := 5) (ci := 5) (v := .ref h_tried) (C := RX5) (T := TX5) (N := 30) hx hb hts nX5_findRows_X5 hown hK hP 0 rfl rfl 3 (by decide) (hts _ kX5_findRows_1) (fun _ h9 => h9) rfl dX5_findRows_5 ?_
  obtain ⟨u8, hu8, hF⟩ := z_bind hF
  refine zq_callM (oc0 := none) (wc := wX5_moveAll cB cI cJ cO h_row h_tried v_row v_tried) (wc' := wX5_moveAll cB cI cJ cO h_row h_tried v_row u8) (ws' := (wX5_findRows cB cI cJ cO h0 h_row h_tried h_growing h_must g_fresh g_kept g_isKept g_tape g_tapeMany g_sort g_begins g_tokenEnds g_word g_value g_good g_rows g_rowMany g_sorts g_sizes g_sheets g_holds g_heldNumber g_heldSize g_kind g_number g_ownHand g_traced g_bodies g_isParted v_viewed v_row u8 v_growing v_must)) (va_runS (As := [.ref h_row, .ref h_tried]) (rest := []) ⟨hx, hb, hml, hown, hts⟩ (tX5_moveAll (l := l) (D := D) (cB := cB) (cI := cI) (cJ := cJ) (cO := cO) h_row h_tried v_row v_tried u8 hu8) (va_cwS 2 hts gX5_findRows_X5_moveAll rfl rfl rfl (by decide +kernel) ⟨Nat.le_of_ble_eq_true rfl, Nat.le_of_ble_eq_true rfl⟩) ⟨zPre_blind, zPre_at hP hE (zD_re hD rfl) [1, 2] rfl rfl⟩ rfl rfl hl.1 rfl (lv_room (Nat.le_of_ble_eq_true rfl)) dX5_findRows_8 ⟨Nat.zero_le _, Nat.zero_le _⟩) rfl hP (zD_re hD rfl) hS [1, 2] rfl rfl [none, some 0, some 1, none, none] rfl rfl rfl rfl (fun H locs hP hS => ?_)
  refine W.eq (g2 := F0 m 11 ls []) rfl ?_
  refine lv_iconst (pc := 11) (v := (nI 0)) hx hb dX5_findRows_11 (by decide) ?_
  refine lv_istore_n (pc := 12) (lv' := [(3, .int (nI 0)), (0, .ref h0), (1, .int x1), (2, .int x2)]) hx hb dX5_findRows_12 rfl hl (by decide) rfl (fun ls hl => ?_)
  obtain ⟨k_10, hk_10, hF⟩ := z_J hF
  have kk_10 : ∀ (v_viewed_6 : Int32) (v_row_7 : Nat → Int32) (v_growing_8 : Nat → Int32) (v_must_9 : Nat → Int32) , k_10 v_viewed_6 v_row_7 v_growing_8 v_must_9 = some r → ∀ (H : Heap) (locs : List Loc), va_P D vwCl (wX5_findRows cB cI cJ cO h0 h_row h_tried h_growing h_must g_fresh g_kept g_isKept g_tape g_tapeMany g_sort g_begins g_tokenEnds g_word g_value g_good g_rows g_rowMany g_sorts g_sizes g_sheets g_holds g_heldNumber g_heldSize g_kind g_number g_ownHand g_traced g_bodies g_isParted v_viewed_6 v_row_7 u8 v_growing_8 v_must_9) H → va_S (zAs [h0, h_row, h_tried, h_growing, h_must]) s.heap H locs → ∀ (ls : Array Slot), lv_has ls 4 [(0, .ref h0)] → W p l e rX5_findRows s m args below meth c H locs 0 0 Q (F0 m 72 ls []) := by
    intro v_viewed_6 v_row_7 v_growing_8 v_must_9 hF H locs hP hS ls hl
    rw [hk_10] at hF
    refine lv_aload_n (pc := 72) hx hb dX5_findRows_72 rfl (lv_at hl 0 rfl) ?_
    refine va_get (D := D) (pc := 73) (ci := 5) (v := .ref h_tried) (C := RX5) (T := TX5) (N := 30) hx hb hts nX5_findRows_X5 hown hK hP 0 rfl rfl 3 (by decide) (hts _ kX5_findRows_1) (fun _ h9 => h9) rfl dX5_findRows_73 ?_
    refine lv_aload_n (pc := 76) hx hb dX5_findRows_76 rfl (lv_at hl 0 rfl) ?_
    refine va_get (D := D) (pc := 77) (ci := 5) (v := .ref h_row) (C := RX5) (T := TX5) (N := 30) hx hb hts nX5_findRows_X5 hown hK hP 0 rfl rfl 0 (by decide) (hts _ kX5_findRows_0) (fun _ h9 => h9) rfl dX5_findRows_77 ?_
    obtain ⟨u80, hu80, hF⟩ := z_bind hF
    refine zq_callM (oc0 := none) (wc := wX5_moveAll cB cI cJ cO h_tried h_row u8 v_row_7) (wc' := wX5_moveAll cB cI cJ cO h_tried h_row u8 u80) (ws' := (wX5_findRows cB cI cJ cO h0 h_row h_tried h_growing h_must g_fresh g_kept g_isKept g_tape g_tapeMany g_sort g_begins g_tokenEnds g_word g_value g_good g_rows g_rowMany g_sorts g_sizes g_sheets g_holds g_heldNumber g_heldSize g_kind g_number g_ownHand g_traced g_bodies g_isParted v_viewed_6 u80 u8 v_growing_8 v_must_9)) (va_runS (As := [.ref h_tried, .ref h_row]) (rest := []) ⟨hx, hb, hml, hown, hts⟩ (tX5_moveAll (l := l) (D := D) (cB := cB) (cI := cI) (cJ := cJ) (cO := cO) h_tried h_row u8 v_row_7 u80 hu80) (va_cwS 2 hts gX5_findRows_X5_moveAll rfl rfl rfl (by decide +kernel) ⟨Nat.le_of_ble_eq_true rfl, Nat.le_of_ble_eq_true rfl⟩) ⟨zPre_blind, zPre_at hP hE (zD_re hD rfl) [2, 1] rfl rfl⟩ rfl rfl hl.1 rfl (lv_room (Nat.le_of_ble_eq_true rfl)) dX5_findRows_80 ⟨Nat.zero_le _, Nat.zero_le _⟩) rfl hP (zD_re hD rfl) hS [2, 1] rfl rfl [none, some 1, some 0, none, none] rfl rfl rfl rfl (fun H locs hP hS => ?_)
    refine W.eq (g2 := F0 m 83 ls []) rfl ?_
    exact z_vretM (pc := 83) (fun q => (wX5_findRows cB cI cJ cO h0 h_row h_tried h_growing h_must g_fresh g_kept g_isKept g_tape g_tapeMany g_sort g_begins g_tokenEnds g_word g_value g_good g_rows g_rowMany g_sorts g_sizes g_sheets g_holds g_heldNumber g_heldSize g_kind g_number g_ownHand g_traced g_bodies g_isParted q.1 q.2.1 q.2.2.1 q.2.2.2.1 q.2.2.2.2)) hx hb hr hlocks hP hS hF hQ dX5_findRows_83
  have hL_13 : ∀ (n : Nat) (y3_1 : Int32) (v_viewed_2 : Int32) (v_row_3 : Nat → Int32) (v_growing_4 : Nat → Int32) (v_must_5 : Nat → Int32) , fX5_findRows_L13 x1 x2 k_10 n y3_1 v_viewed_2 v_row_3 v_growing_4 v_must_5 = some r → ∀ (H : Heap) (locs : List Loc), va_P D vwCl (wX5_findRows cB cI cJ cO h0 h_row h_tried h_growing h_must g_fresh g_kept g_isKept g_tape g_tapeMany g_sort g_begins g_tokenEnds g_word g_value g_good g_rows g_rowMany g_sorts g_sizes g_sheets g_holds g_heldNumber g_heldSize g_kind g_number g_ownHand g_traced g_bodies g_isParted v_viewed_2 v_row_3 u8 v_growing_4 v_must_5) H → va_S (zAs [h0, h_row, h_tried, h_growing, h_must]) s.heap H locs → ∀ (ls : Array Slot), lv_has ls 4 [(0, .ref h0), (1, .int x1), (2, .int x2), (3, .int y3_1)] → W p l e rX5_findRows s m args below meth c H locs 0 0 Q (F0 m 13 ls []) := by
    intro n
    induction n with
    | zero =>
      intro y3_1 v_viewed_2 v_row_3 v_growing_4 v_must_5 hF H locs hP hS ls hl
      exact z_no hF
    | succ n ih =>
      intro y3_1 v_viewed_2 v_row_3 v_growing_4 v_must_5 hF H locs hP hS ls hl
      rw [fX5_findRows_L13] at hF
      refine lv_iload_n (pc := 13) hx hb dX5_findRows_13 rfl (lv_at hl 3 rfl) ?_
      refine lv_iload_n (pc := 14) hx hb dX5_findRows_14 rfl (lv_at hl 2 rfl) ?_
      refine zb_icmp_ge (pc := 15) (tgt := 72) hx hb dX5_findRows_15 (by decide) hF (fun c_15 hF => ?_) (fun c_15 hF => ?_)
      · exact kk_10 v_viewed_2 v_row_3 v_growing_4 v_must_5 hF H locs hP hS ls (lv_sub hl [0] rfl)
      · refine lv_aload_n (pc := 18) hx hb dX5_findRows_18 rfl (lv_at hl 0 rfl) ?_
        obtain ⟨u19, hu19, hF⟩ := z_bind hF
        refine zq_callM (oc0 := none) (wc := wX5_nightGoes cB cI cJ cO h0 h_row h_growing g_fresh g_kept (.ref h_tried) g_isKept g_tape g_tapeMany g_sort g_begins g_tokenEnds g_word g_value g_good g_rows (.ref h_must) g_rowMany g_sorts g_sizes g_sheets g_holds g_heldNumber g_heldSize g_kind g_number g_ownHand g_traced g_bodies g_isParted v_viewed_2 v_row_3 v_growing_4) (wc' := wX5_nightGoes cB cI cJ cO h0 h_row h_growing g_fresh g_kept (.ref h_tried) g_isKept g_tape g_tapeMany g_sort g_begins g_tokenEnds g_word g_value g_good g_rows (.ref h_must) g_rowMany g_sorts g_sizes g_sheets g_holds g_heldNumber g_heldSize g_kind g_number g_ownHand g_traced g_bodies g_isParted u19.1 u19.2.1 u19.2.2) (ws' := (wX5_findRows cB cI cJ cO h0 h_row h_tried h_growing h_must g_fresh g_kept g_isKept g_tape g_tapeMany g_sort g_begins g_tokenEnds g_word g_value g_good g_rows g_rowMany g_sorts g_sizes g_sheets g_holds g_heldNumber g_heldSize g_kind g_number g_ownHand g_traced g_bodies g_isParted u19.1 u19.2.1 u8 u19.2.2 v_must_5)) (va_runV (As := []) (rest := []) ⟨hx, hb, hml, hown, hts⟩ (tX5_nightGoes (l := l) (D := D) (cB := cB) (cI := cI) (cJ := cJ) (cO := cO) h0 h_row h_growing g_fresh g_kept (.ref h_tried) g_isKept g_tape g_tapeMany g_sort g_begins g_tokenEnds g_word g_value g_good g_rows (.ref h_must) g_rowMany g_sorts g_sizes g_sheets g_holds g_heldNumber g_heldSize g_kind g_number g_ownHand g_traced g_bodies g_isParted v_viewed_2 v_row_3 v_growing_4 u19 hu19) (cwV 0 hts gX5_findRows_X5_nightGoes rfl rfl rfl (by decide +kernel) ⟨Nat.le_of_ble_eq_true rfl, Nat.le_of_ble_eq_true rfl⟩) ⟨zPre_blind, va_recv hK hP (ci := 5) (q0 := 0) rfl rfl, zPre_at hP hE (zD_re hD rfl) [0, 1, 3] rfl rfl⟩ rfl rfl hl.1 rfl (lv_room (Nat.le_of_ble_eq_true rfl)) dX5_findRows_19 ⟨Nat.zero_le _, Nat.zero_le _⟩) rfl hP (zD_re hD rfl) hS [0, 1, 3] rfl rfl [some 0, some 1, none, some 2, none] rfl rfl rfl rfl (fun H locs hP hS => ?_)
        refine W.eq (g2 := F0 m 22 ls []) rfl ?_
        refine lv_aload_n (pc := 22) hx hb dX5_findRows_22 rfl (lv_at hl 0 rfl) ?_
        refine va_get (D := D) (pc := 23) (ci := 5) (v := .ref h_must) (C := RX5) (T := TX5) (N := 30) hx hb hts nX5_findRows_X5 hown hK hP 0 rfl rfl 16 (by decide) (hts _ kX5_findRows_2) (fun _ h9 => h9) rfl dX5_findRows_23 ?_
        refine lv_iconst (pc := 26) (v := (nI 3)) hx hb dX5_findRows_26 (by decide) ?_
        refine lv_iload_n (pc := 27) hx hb dX5_findRows_27 rfl (lv_at hl 3 rfl) ?_
        refine lv_imul (pc := 28) hx hb dX5_findRows_28 ?_
        refine lv_aload_n (pc := 29) hx hb dX5_findRows_29 rfl (lv_at hl 0 rfl) ?_
        refine lv_iload_n (pc := 30) hx hb dX5_findRows_30 rfl (lv_at hl 1 rfl) ?_
        refine lv_iconst (pc := 31) (v := (nI 3)) hx hb dX5_findRows_31 (by decide) ?_
        obtain ⟨u32, hu32, hF⟩ := z_bind hF
        refine zq_call (oc0 := (some (.int u32))) (va_runV (As := [.int x1, .int (nI 3)]) (rest := [.int ((nI 3) * y3_1), .ref h_must]) ⟨hx, hb, hml, hown, hts⟩ (tX5_its (l := l) (D := D) (cB := cB) (cI := cI) (cJ := cJ) (cO := cO) h0 h_row g_fresh g_kept (.ref h_tried) g_isKept (.int u19.1) g_tape g_tapeMany g_sort g_begins g_tokenEnds g_word g_value g_good (.ref h_growing) g_rows (.ref h_must) g_rowMany g_sorts g_sizes g_sheets g_holds g_heldNumber g_heldSize g_kind g_number g_ownHand g_traced g_bodies g_isParted u19.2.1 x1 (nI 3) u32 hu32) (cwV 2 hts gX5_findRows_X5_its rfl rfl rfl (by decide +kernel) ⟨Nat.le_of_ble_eq_true rfl, Nat.le_of_ble_eq_true rfl⟩) ⟨zPre_blind, va_recv hK hP (ci := 5) (q0 := 0) rfl rfl, zPre_at hP hE (zD_re hD rfl) [0, 1] rfl rfl⟩ rfl rfl hl.1 rfl (lv_room (Nat.le_of_ble_eq_true rfl)) dX5_findRows_32 ⟨Nat.zero_le _, Nat.zero_le _⟩) ?_
        refine W.eq (g2 := F0 m 35 ls [.int u32, .int ((nI 3) * y3_1), .ref h_must]) rfl ?_
        refine za_iast (pc := 35) hx hb hK hP (zD_re hD rfl) hS 4 1 rfl rfl dX5_findRows_35 hF (fun hF H locs hP hS => ?_)
        have hP : va_P D vwCl (wX5_findRows cB cI cJ cO h0 h_row h_tried h_growing h_must g_fresh g_kept g_isKept g_tape g_tapeMany g_sort g_begins g_tokenEnds g_word g_value g_good g_rows g_rowMany g_sorts g_sizes g_sheets g_holds g_heldNumber g_heldSize g_kind g_number g_ownHand g_traced g_bodies g_isParted u19.1 u19.2.1 u8 u19.2.2 (upd v_must_5 ((nI 3) * y3_1).toNatClampNeg u32)) H := hP
        refine lv_aload_n (pc := 36) hx hb dX5_findRows_36 rfl (lv_at hl 0 rfl) ?_
        refine va_get (D := D) (pc := 37) (ci := 5) (v := .ref h_must) (C := RX5) (T := TX5) (N := 30) hx hb hts nX5_findRows_X5 hown hK hP 0 rfl rfl 16 (by decide) (hts _ kX5_findRows_2) (fun _ h9 => h9) rfl dX5_findRows_37 ?_
        refine lv_iconst (pc := 40) (v := (nI 3)) hx hb dX5_findRows_40 (by decide) ?_
        refine lv_iload_n (pc := 41) hx hb dX5_findRows_41 rfl (lv_at hl 3 rfl) ?_
        refine lv_imul (pc := 42) hx hb dX5_findRows_42 ?_
        refine lv_iconst (pc := 43) (v := (nI 1)) hx hb dX5_findRows_43 (by decide) ?_
        refine lv_iadd (pc := 44) hx hb dX5_findRows_44 ?_
        refine lv_aload_n (pc := 45) hx hb dX5_findRows_45 rfl (lv_at hl 0 rfl) ?_
        refine lv_iload_n (pc := 46) hx hb dX5_findRows_46 rfl (lv_at hl 1 rfl) ?_
        refine lv_iconst (pc := 47) (v := (nI 2)) hx hb dX5_findRows_47 (by decide) ?_
        obtain ⟨u48, hu48, hF⟩ := z_bind hF
        refine zq_call (oc0 := (some (.int u48))) (va_runV (As := [.int x1, .int (nI 2)]) (rest := [.int (((nI 3) * y3_1) + (nI 1)), .ref h_must]) ⟨hx, hb, hml, hown, hts⟩ (tX5_its (l := l) (D := D) (cB := cB) (cI := cI) (cJ := cJ) (cO := cO) h0 h_row g_fresh g_kept (.ref h_tried) g_isKept (.int u19.1) g_tape g_tapeMany g_sort g_begins g_tokenEnds g_word g_value g_good (.ref h_growing) g_rows (.ref h_must) g_rowMany g_sorts g_sizes g_sheets g_holds g_heldNumber g_heldSize g_kind g_number g_ownHand g_traced g_bodies g_isParted u19.2.1 x1 (nI 2) u48 hu48) (cwV 2 hts gX5_findRows_X5_its rfl rfl rfl (by decide +kernel) ⟨Nat.le_of_ble_eq_true rfl, Nat.le_of_ble_eq_true rfl⟩) ⟨zPre_blind, va_recv hK hP (ci := 5) (q0 := 0) rfl rfl, zPre_at hP hE (zD_re hD rfl) [0, 1] rfl rfl⟩ rfl rfl hl.1 rfl (lv_room (Nat.le_of_ble_eq_true rfl)) dX5_findRows_48 ⟨Nat.zero_le _, Nat.zero_le _⟩) ?_
        refine W.eq (g2 := F0 m 51 ls [.int u48, .int (((nI 3) * y3_1) + (nI 1)), .ref h_must]) rfl ?_
        refine za_iast (pc := 51) hx hb hK hP (zD_re hD rfl) hS 4 1 rfl rfl dX5_findRows_51 hF (fun hF H locs hP hS => ?_)
        have hP : va_P D vwCl (wX5_findRows cB cI cJ cO h0 h_row h_tried h_growing h_must g_fresh g_kept g_isKept g_tape g_tapeMany g_sort g_begins g_tokenEnds g_word g_value g_good g_rows g_rowMany g_sorts g_sizes g_sheets g_holds g_heldNumber g_heldSize g_kind g_number g_ownHand g_traced g_bodies g_isParted u19.1 u19.2.1 u8 u19.2.2 (upd (upd v_must_5 ((nI 3) * y3_1).toNatClampNeg u32) (((nI 3) * y3_1) + (nI 1)).toNatClampNeg u48)) H := hP
        refine lv_aload_n (pc := 52) hx hb dX5_findRows_52 rfl (lv_at hl 0 rfl) ?_
        refine va_get (D := D) (pc := 53) (ci := 5) (v := .ref h_must) (C := RX5) (T := TX5) (N := 30) hx hb hts nX5_findRows_X5 hown hK hP 0 rfl rfl 16 (by decide) (hts _ kX5_findRows_2) (fun _ h9 => h9) rfl dX5_findRows_53 ?_
        refine lv_iconst (pc := 56) (v := (nI 3)) hx hb dX5_findRows_56 (by decide) ?_
        refine lv_iload_n (pc := 57) hx hb dX5_findRows_57 rfl (lv_at hl 3 rfl) ?_
        refine lv_imul (pc := 58) hx hb dX5_findRows_58 ?_
        refine lv_iconst (pc := 59) (v := (nI 2)) hx hb dX5_findRows_59 (by decide) ?_
        refine lv_iadd (pc := 60) hx hb dX5_findRows_60 ?_
        refine lv_aload_n (pc := 61) hx hb dX5_findRows_61 rfl (lv_at hl 0 rfl) ?_
        obtain ⟨u62, hu62, hF⟩ := z_bind hF
        refine zq_call (oc0 := (some (.int u62))) (va_runV (As := []) (rest := [.int (((nI 3) * y3_1) + (nI 2)), .ref h_must]) ⟨hx, hb, hml, hown, hts⟩ (tX5_looksOfAll (l := l) (D := D) (cB := cB) (cI := cI) (cJ := cJ) (cO := cO) h0 h_row g_fresh g_kept (.ref h_tried) g_isKept (.int u19.1) g_tape g_tapeMany g_sort g_begins g_tokenEnds g_word g_value g_good (.ref h_growing) g_rows (.ref h_must) g_rowMany g_sorts g_sizes g_sheets g_holds g_heldNumber g_heldSize g_kind g_number g_ownHand g_traced g_bodies g_isParted u19.2.1 u62 hu62) (cwV 0 hts gX5_findRows_X5_looksOfAll rfl rfl rfl (by decide +kernel) ⟨Nat.le_of_ble_eq_true rfl, Nat.le_of_ble_eq_true rfl⟩) ⟨zPre_blind, va_recv hK hP (ci := 5) (q0 := 0) rfl rfl, zPre_at hP hE (zD_re hD rfl) [0, 1] rfl rfl⟩ rfl rfl hl.1 rfl (lv_room (Nat.le_of_ble_eq_true rfl)) dX5_findRows_62 ⟨Nat.zero_le _, Nat.zero_le _⟩) ?_
        refine W.eq (g2 := F0 m 65 ls [.int u62, .int (((nI 3) * y3_1) + (nI 2)), .ref h_must]) rfl ?_
        refine za_iast (pc := 65) hx hb hK hP (zD_re hD rfl) hS 4 1 rfl rfl dX5_findRows_65 hF (fun hF H locs hP hS => ?_)
        have hP : va_P D vwCl (wX5_findRows cB cI cJ cO h0 h_row h_tried h_growing h_must g_fresh g_kept g_isKept g_tape g_tapeMany g_sort g_begins g_tokenEnds g_word g_value g_good g_rows g_rowMany g_sorts g_sizes g_sheets g_holds g_heldNumber g_heldSize g_kind g_number g_ownHand g_traced g_bodies g_isParted u19.1 u19.2.1 u8 u19.2.2 (upd (upd (upd v_must_5 ((nI 3) * y3_1).toNatClampNeg u32) (((nI 3) * y3_1) + (nI 1)).toNatClampNeg u48) (((nI 3) * y3_1) + (nI 2)).toNatClampNeg u62)) H := hP
        refine lv_iinc (pc := 66) (v := (y3_1 + 1)) (lv' := [(3, .int (y3_1 + 1)), (0, .ref h0), (1, .int x1), (2, .int x2)]) hx hb dX5_findRows_66 hl (k := 3) rfl rfl (by decide) rfl (fun ls hl => ?_)
        refine lv_goto (pc := 69) (tgt := 13) hx hb dX5_findRows_69 (by decide) ?_
        exact ih (y3_1 + 1) u19.1 u19.2.1 u19.2.2 (upd (upd (upd v_must_5 ((nI 3) * y3_1).toNatClampNeg u32) (((nI 3) * y3_1) + (nI 1)).toNatClampNeg u48) (((nI 3) * y3_1) + (nI 2)).toNatClampNeg u62) hF H locs hP hS ls (lv_sub hl [1, 2, 3, 0] rfl)
  exact hL_13 zK (nI 0) v_viewed v_row v_growing v_must hF H locs hP hS ls (lv_sub hl [1, 2, 3, 0] rfl)

abbrev rX5_prove : Room := { frames := 8, cells := 0, slots := 0, locals := 179 }
abbrev wX5_prove (cB cI cJ cO : ClassId) (h0 h_row h_tried h_growing h_rows h_must : Nat) (g_fresh g_kept g_isKept g_tape g_tapeMany g_sort g_begins g_tokenEnds g_word g_value g_good g_sorts g_sizes g_sheets g_holds g_heldNumber g_heldSize g_kind g_number g_ownHand g_traced g_bodies g_isParted : Value) (v_viewed : Int32) (v_rowMany : Int32) (v_row : Nat → Int32) (v_tried : Nat → Int32) (v_growing : Nat → Int32) (v_rows : Nat → Int32) (v_must : Nat → Int32) : va_W := [(h0, .inr (5, [.ref h_row, g_fresh, g_kept, .ref h_tried, g_isKept, .int v_viewed, g_tape, g_tapeMany, g_sort, g_begins, g_tokenEnds, g_word, g_value, g_good, .ref h_growing, .ref h_rows, .ref h_must, .int v_rowMany, g_sorts, g_sizes, g_sheets, g_holds, g_heldNumber, g_heldSize, g_kind, g_number, g_ownHand, g_traced, g_bodies, g_isParted])), (h_row, .inl (cI, 68, .inl v_row)), (h_tried, .inl (cI, 68, .inl v_tried)), (h_growing, .inl (cI, 8, .inl v_growing)), (h_rows, .inl (cI, 30, .inl v_rows)), (h_must, .inl (cI, 30, .inl v_must))]
theorem nX5_prove_X5 : ∀ w ∈ wsX50, w ∈ wsX5_prove := by decide +kernel
theorem kX5_prove_0 : Cond.fieldLink RX5 190 "PaintedWallsModel" "rowMany" "I" ∈ wsX5_prove := by decide +kernel
theorem kX5_prove_1 : Cond.fieldLink RX5 28 "PaintedWallsModel" "rows" "[I" ∈ wsX5_prove := by decide +kernel
theorem kX5_prove_2 : Cond.fieldLink RX5 31 "PaintedWallsModel" "must" "[I" ∈ wsX5_prove := by decide +kernel
set_option maxHeartbeats 4000000 in
set_option maxRecDepth 100000 in
theorem tX5_prove {l : Launch} {D : va_G} {cB cI cJ cO : ClassId} (h0 h_row h_tried h_growing h_rows h_must : Nat) (g_fresh g_kept g_isKept g_tape g_tapeMany g_sort g_begins g_tokenEnds g_word g_value g_good g_sorts g_sizes g_sheets g_holds g_heldNumber g_heldSize g_kind g_number g_ownHand g_traced g_bodies g_isParted : Value) (v_viewed : Int32) (v_rowMany : Int32) (v_row : Nat → Int32) (v_tried : Nat → Int32) (v_growing : Nat → Int32) (v_rows : Nat → Int32) (v_must : Nat → Int32) (x1 : Int32) (x2 : Int32) (r : Int32 × Int32 × Int32 × (Nat → Int32) × (Nat → Int32) × (Nat → Int32) × (Nat → Int32) × (Nat → Int32)) (hF : fX5_prove v_viewed v_rowMany v_row v_tried v_growing v_rows v_must x1 x2 = some r) : Met l yX5_prove wsX5_prove rX5_prove (zPre D cB cI cJ cO [.ref h0, .int x1, .int x2] (wX5_prove cB cI cJ cO h0 h_row h_tried h_growing h_rows h_must g_fresh g_kept g_isKept g_tape g_tapeMany g_sort g_begins g_tokenEnds g_word g_value g_good g_sorts g_sizes g_sheets g_holds g_heldNumber g_heldSize g_kind g_number g_ownHand g_traced g_bodies g_isParted v_viewed v_rowMany v_row v_tried v_growing v_rows v_must)) (zPM (some (.int r.1)) D (wX5_prove cB cI cJ cO h0 h_row h_tried h_growing h_rows h_must g_fresh g_kept g_isKept g_tape g_tapeMany g_sort g_begins g_tokenEnds g_word g_value g_good g_sorts g_sizes g_sheets g_holds g_heldNumber g_heldSize g_kind g_number g_ownHand g_traced g_bodies g_isParted r.2.1 r.2.2.1 r.2.2.2.1 r.2.2.2.2.1 r.2.2.2.2.2.1 r.2.2.2.2.2.2.1 r.2.2.2.2.2.2.2) (zAs [h0, h_row, h_tried, h_growing, h_rows, h_must])) 0 0 (zAs [h0, h_row, h_tried, h_growing, h_rows, h_must]) := by
  refine zMetM (cc := cX5_prove) (maxL := 4) (ret := (some .int)) (lv := [(0, .ref h0), (1, .int x1), (2, .int x2)]) rfl (by decide) rfl (Nat.le_of_ble_eq_true rfl) rfl ?_
  intro p e s m args below meth c ls Q H locs hQ hx hb hr hml hown hts hlocks hname hP hE hD hS hl
  have hown : s.vm.findClass RX5 = some m.cls := hown
  have hK := hE.1
  unfold fX5_prove at hF
  refine lv_aload_n (pc := 0) hx hb dX5_prove_0 rfl (lv_at hl 0 rfl) ?_
  refine lv_iload_n (pc := 1) hx hb dX5_prove_1 rfl (lv_at hl 1 rfl) ?_
  obtain ⟨u2, hu2, hF⟩ := z_bind hF
  refine zq_call (oc0 := (some (.int u2))) (va_runV (As := [.int x1]) (rest := []) ⟨hx, hb, hml, hown, hts⟩ (tX5_isOne (l := l) (D := D) (cB := cB) (cI := cI) (cJ := cJ) (cO := cO) h0 h_row g_fresh g_kept (.ref h_tried) g_isKept (.int v_viewed) g_tape g_tapeMany g_sort g_begins g_tokenEnds g_word g_value g_good (.ref h_growing) (.ref h_rows) (.ref h_must) (.int v_rowMany) g_sorts g_sizes g_sheets g_holds g_heldNumber g_heldSize g_kind g_number g_ownHand g_traced g_bodies g_isParted v_row x1 u2 hu2) (cwV 1 hts gX5_prove_X5_isOne rfl rfl rfl (by decide +kernel) ⟨Nat.le_of_ble_eq_true rfl, Nat.le_of_ble_eq_true rfl⟩) ⟨zPre_blind, va_recv hK hP (ci := 5) (q0 := 0) rfl rfl, zPre_at hP hE (zD_re hD rfl) [0, 1] rfl rfl⟩ rfl rfl hl.1 rfl (lv_room (Nat.le_of_ble_eq_true rfl)) dX5_prove_2 ⟨Nat.zero_le _, Nat.zero_le _⟩) ?_
  refine W.eq (g2 := F0 m 5 ls [.int u2]) rfl ?_
  refine zb_if_eq (pc := 5) (tgt := 18) hx hb dX5_prove_5 (by decide) hF (fun c_5 hF => ?_) (fun c_5 hF => ?_)
  · refine lv_iconst (pc := 18) (v := (-1 : Int32)) hx hb dX5_prove_18 (by decide) ?_
    exact z_iretM (pc := 19) (fun q => q.1) (fun q => (wX5_prove cB cI cJ cO h0 h_row h_tried h_growing h_rows h_must g_fresh g_kept g_isKept g_tape g_tapeMany g_sort g_begins g_tokenEnds g_word g_value g_good g_sorts g_sizes g_sheets g_holds g_heldNumber g_heldSize g_kind g_number g_ownHand g_traced g_bodies g_isParted q.2.1 q.2.2.1 q.2.2.2.1 q.2.2.2.2.1 q.2.2.2.2.2.1 q.2.2.2.2.2.2.1 q.2.2.2.2.2.2.2)) hx hb hr hlocks hP hS hF rfl hQ dX5_prove_19
  · refine lv_iload_n (pc := 8) hx hb dX5_prove_8 rfl (lv_at hl 2 rfl) ?_
    refine lv_iconst (pc := 9) (v := (nI 1)) hx hb dX5_prove_9 (by decide) ?_
    refine lv_bipush (pc := 10) (v := (nI 10)) hx hb dX5_prove_10 (by decide) ?_
    obtain ⟨u12, hu12, hF⟩ := z_bind hF
    refine zq_call (oc0 := (some (.int u12))) (va_runS (As := [.int x2, .int (nI 1), .int (nI 10)]) (rest := []) ⟨hx, hb, hml, hown, hts⟩ (tX5_in (l := l) (D := D) (cB := cB) (cI := cI) (cJ := cJ) (cO := cO) x2 (nI 1) (nI 10) u12 hu12) (va_cwS 3 hts gX5_prove_X5_in rfl rfl rfl (by decide +kernel) ⟨Nat.le_of_ble_eq_true rfl, Nat.le_of_ble_eq_true rfl⟩) ⟨zPre_blind, zPre_at hP hE (zD_re hD rfl) [] rfl rfl⟩ rfl rfl hl.1 rfl (lv_room (Nat.le_of_ble_eq_true rfl)) dX5_prove_12 ⟨Nat.zero_le _, Nat.zero_le _⟩) ?_
    refine W.eq (g2 := F0 m 15 ls [.int u12]) rfl ?_
    refine zb_if_ne (pc := 15) (tgt := 20) hx hb dX5_prove_15 (by decide) hF (fun c_15 hF => ?_) (fun c_15 hF => ?_)
    · refine lv_aload_n (pc := 20) hx hb dX5_prove_20 rfl (lv_at hl 0 rfl) ?_
      refine lv_iload_n (pc := 21) hx hb dX5_prove_21 rfl (lv_at hl 1 rfl) ?_
      refine lv_iload_n (pc := 22) hx hb dX5_prove_22 rfl (lv_at hl 2 rfl) ?_
      obtain ⟨u23, hu23, hF⟩ := z_bind hF
      refine zq_callM (oc0 := none) (wc := wX5_findRows cB cI cJ cO h0 h_row h_tried h_growing h_must g_fresh g_kept g_isKept g_tape g_tapeMany g_sort g_begins g_tokenEnds g_word g_value g_good (.ref h_rows) (.int v_rowMany) g_sorts g_sizes g_sheets g_holds g_heldNumber g_heldSize g_kind g_number g_ownHand g_traced g_bodies g_isParted v_viewed v_row v_tried v_growing v_must) (wc' := wX5_findRows cB cI cJ cO h0 h_row h_tried h_growing h_must g_fresh g_kept g_isKept g_tape g_tapeMany g_sort g_begins g_tokenEnds g_word g_value g_good (.ref h_rows) (.int v_rowMany) g_sorts g_sizes g_sheets g_holds g_heldNumber g_heldSize g_kind g_number g_ownHand g_traced g_bodies g_isParted u23.1 u23.2.1 u23.2.2.1 u23.2.2.2.1 u23.2.2.2.2) (ws' := (wX5_prove cB cI cJ cO h0 h_row h_tried h_growing h_rows h_must g_fresh g_kept g_isKept g_tape g_tapeMany g_sort g_begins g_tokenEnds g_word g_value g_good g_sorts g_sizes g_sheets g_holds g_heldNumber g_heldSize g_kind g_number g_ownHand g_traced g_bodies g_isParted u23.1 v_rowMany u23.2.1 u23.2.2.1 u23.2.2.2.1 v_rows u23.2.2.2.2)) (va_runV (As := [.int x1, .int x2]) (rest := []) ⟨hx, hb, hml, hown, hts⟩ (tX5_findRows (l := l) (D := D) (cB := cB) (cI := cI) (cJ := cJ) (cO := cO) h0 h_row h_tried h_growing h_must g_fresh g_kept g_isKept g_tape g_tapeMany g_sort g_begins g_tokenEnds g_word g_value g_good (.ref h_rows) (.int v_rowMany) g_sorts g_sizes g_sheets g_holds g_heldNumber g_heldSize g_kind g_number g_ownHand g_traced g_bodies g_isParted v_viewed v_row v_tried v_growing v_must x1 x2 u23 hu23) (cwV 2 hts gX5_prove_X5_findRows rfl rfl rfl (by decide +kernel) ⟨Nat.le_of_ble_eq_true rfl, Nat.le_of_ble_eq_true rfl⟩) ⟨zPre_blind, va_recv hK hP (ci := 5) (q0 := 0) rfl rfl, zPre_at hP hE (zD_re hD rfl) [0, 1, 2, 3, 5] rfl rfl⟩ rfl rfl hl.1 rfl (lv_room (Nat.le_of_ble_eq_true rfl)) dX5_prove_23 ⟨Nat.zero_le _, Nat.zero_le _⟩) rfl hP (zD_re hD rfl) hS [0, 1, 2, 3, 5] rfl rfl [some 0, some 1, some 2, some 3, none, some 4] rfl rfl rfl rfl (fun H locs hP hS => ?_)
      refine W.eq (g2 := F0 m 26 ls []) rfl ?_
      refine lv_aload_n (pc := 26) hx hb dX5_prove_26 rfl (lv_at hl 0 rfl) ?_
      refine lv_iload_n (pc := 27) hx hb dX5_prove_27 rfl (lv_at hl 2 rfl) ?_
      refine va_put (D := D) (pc := 28) (ci := 5) (v := .int x2) (ty := .int) (C := RX5) (T := TX5) (N := 30) hx hb hts nX5_prove_X5 tyX5 tyX5_ok nmX5 hown hK hP (zD_re hD rfl) hS 0 rfl rfl 17 (by decide) (hts _ kX5_prove_0) (fun _ h9 => h9) rfl (tyX5_ok 17 (by decide)) rfl rfl (Nat.le_of_ble_eq_true rfl) dX5_prove_28 (fun H locs hP _ hS => ?_)
      have hP : va_P D vwCl (wX5_prove cB cI cJ cO h0 h_row h_tried h_growing h_rows h_must g_fresh g_kept g_isKept g_tape g_tapeMany g_sort g_begins g_tokenEnds g_word g_value g_good g_sorts g_sizes g_sheets g_holds g_heldNumber g_heldSize g_kind g_number g_ownHand g_traced g_bodies g_isParted u23.1 x2 u23.2.1 u23.2.2.1 u23.2.2.2.1 v_rows u23.2.2.2.2) H := hP
      refine lv_iconst (pc := 31) (v := (nI 0)) hx hb dX5_prove_31 (by decide) ?_
      refine lv_istore_n (pc := 32) (lv' := [(3, .int (nI 0)), (0, .ref h0), (1, .int x1), (2, .int x2)]) hx hb dX5_prove_32 rfl hl (by decide) rfl (fun ls hl => ?_)
      obtain ⟨k_4, hk_4, hF⟩ := z_J hF
      have kk_4 : ∀ (v_rows_3 : Nat → Int32) , k_4 v_rows_3 = some r → ∀ (H : Heap) (locs : List Loc), va_P D vwCl (wX5_prove cB cI cJ cO h0 h_row h_tried h_growing h_rows h_must g_fresh g_kept g_isKept g_tape g_tapeMany g_sort g_begins g_tokenEnds g_word g_value g_good g_sorts g_sizes g_sheets g_holds g_heldNumber g_heldSize g_kind g_number g_ownHand g_traced g_bodies g_isParted u23.1 x2 u23.2.1 u23.2.2.1 u23.2.2.2.1 v_rows_3 u23.2.2.2.2) H → va_S (zAs [h0, h_row, h_tried, h_growing, h_rows, h_must]) s.heap H locs → ∀ (ls : Array Slot), lv_has ls 4 [(2, .int x2)] → W p l e rX5_prove s m args below meth c H locs 0 0 Q (F0 m 58 ls []) := by
        intro v_rows_3 hF H locs hP hS ls hl
        rw [hk_4] at hF
        refine lv_iload_n (pc := 58) hx hb dX5_prove_58 rfl (lv_at hl 0 rfl) ?_
        exact z_iretM (pc := 59) (fun q => q.1) (fun q => (wX5_prove cB cI cJ cO h0 h_row h_tried h_growing h_rows h_must g_fresh g_kept g_isKept g_tape g_tapeMany g_sort g_begins g_tokenEnds g_word g_value g_good g_sorts g_sizes g_sheets g_holds g_heldNumber g_heldSize g_kind g_number g_ownHand g_traced g_bodies g_isParted q.2.1 q.2.2.1 q.2.2.2.1 q.2.2.2.2.1 q.2.2.2.2.2.1 q.2.2.2.2.2.2.1 q.2.2.2.2.2.2.2)) hx hb hr hlocks hP hS hF rfl hQ dX5_prove_59
      have hL_33 : ∀ (n : Nat) (y3_1 : Int32) (v_rows_2 : Nat → Int32) , fX5_prove_L33 x2 u23 k_4 n y3_1 v_rows_2 = some r → ∀ (H : Heap) (locs : List Loc), va_P D vwCl (wX5_prove cB cI cJ cO h0 h_row h_tried h_growing h_rows h_must g_fresh g_kept g_isKept g_tape g_tapeMany g_sort g_begins g_tokenEnds g_word g_value g_good g_sorts g_sizes g_sheets g_holds g_heldNumber g_heldSize g_kind g_number g_ownHand g_traced g_bodies g_isParted u23.1 x2 u23.2.1 u23.2.2.1 u23.2.2.2.1 v_rows_2 u23.2.2.2.2) H → va_S (zAs [h0, h_row, h_tried, h_growing, h_rows, h_must]) s.heap H locs → ∀ (ls : Array Slot), lv_has ls 4 [(0, .ref h0), (2, .int x2), (3, .int y3_1)] → W p l e rX5_prove s m args below meth c H locs 0 0 Q (F0 m 33 ls []) := by
        intro n
        induction n with
        | zero =>
          intro y3_1 v_rows_2 hF H locs hP hS ls hl
          exact z_no hF
        | succ n ih =>
          intro y3_1 v_rows_2 hF H locs hP hS ls hl
          rw [fX5_prove_L33] at hF
          refine lv_iload_n (pc := 33) hx hb dX5_prove_33 rfl (lv_at hl 2 rfl) ?_
          refine lv_iconst (pc := 34) (v := (nI 3)) hx hb dX5_prove_34 (by decide) ?_
          refine lv_iload_n (pc := 35) hx hb dX5_prove_35 rfl (lv_at hl 1 rfl) ?_
          refine lv_imul (pc := 36) hx hb dX5_prove_36 ?_
          refine zb_icmp_ge (pc := 37) (tgt := 58) hx hb dX5_prove_37 (by decide) hF (fun c_37 hF => ?_) (fun c_37 hF => ?_)
          · exact kk_4 v_rows_2 hF H locs hP hS ls (lv_sub hl [1] rfl)
          · refine lv_aload_n (pc := 40) hx hb dX5_prove_40 rfl (lv_at hl 0 rfl) ?_
            refine va_get (D := D) (pc := 41) (ci := 5) (v := .ref h_rows) (C := RX5) (T := TX5) (N := 30) hx hb hts nX5_prove_X5 hown hK hP 0 rfl rfl 15 (by decide) (hts _ kX5_prove_1) (fun _ h9 => h9) rfl dX5_prove_41 ?_
            refine lv_iload_n (pc := 44) hx hb dX5_prove_44 rfl (lv_at hl 2 rfl) ?_
            refine lv_aload_n (pc := 45) hx hb dX5_prove_45 rfl (lv_at hl 0 rfl) ?_
            refine va_get (D := D) (pc := 46) (ci := 5) (v := .ref h_must) (C := RX5) (T := TX5) (N := 30) hx hb hts nX5_prove_X5 hown hK hP 0 rfl rfl 16 (by decide) (hts _ kX5_prove_2) (fun _ h9 => h9) rfl dX5_prove_46 ?_
            refine lv_iload_n (pc := 49) hx hb dX5_prove_49 rfl (lv_at hl 2 rfl) ?_
            refine za_iald (pc := 50) hx hb hK hP 5 1 rfl rfl dX5_prove_50 hF (fun hF => ?_)
            refine za_iast (pc := 51) hx hb hK hP (zD_re hD rfl) hS 4 1 rfl rfl dX5_prove_51 hF (fun hF H locs hP hS => ?_)
            have hP : va_P D vwCl (wX5_prove cB cI cJ cO h0 h_row h_tried h_growing h_rows h_must g_fresh g_kept g_isKept g_tape g_tapeMany g_sort g_begins g_tokenEnds g_word g_value g_good g_sorts g_sizes g_sheets g_holds g_heldNumber g_heldSize g_kind g_number g_ownHand g_traced g_bodies g_isParted u23.1 x2 u23.2.1 u23.2.2.1 u23.2.2.2.1 (upd v_rows_2 y3_1.toNatClampNeg (u23.2.2.2.2 y3_1.toNatClampNeg)) u23.2.2.2.2) H := hP
            refine lv_iinc (pc := 52) (v := (y3_1 + 1)) (lv' := [(3, .int (y3_1 + 1)), (0, .ref h0), (2, .int x2)]) hx hb dX5_prove_52 hl (k := 2) rfl rfl (by decide) rfl (fun ls hl => ?_)
            refine lv_goto (pc := 55) (tgt := 33) hx hb dX5_prove_55 (by decide) ?_
            exact ih (y3_1 + 1) (upd v_rows_2 y3_1.toNatClampNeg (u23.2.2.2.2 y3_1.toNatClampNeg)) hF H locs hP hS ls (lv_sub hl [1, 2, 0] rfl)
      exact hL_33 zK (nI 0) v_rows hF H locs hP hS ls (lv_sub hl [1, 3, 0] rfl)
    · refine lv_iconst (pc := 18) (v := (-1 : Int32)) hx hb dX5_prove_18 (by decide) ?_
      exact z_iretM (pc := 19) (fun q => q.1) (fun q => (wX5_prove cB cI cJ cO h0 h_row h_tried h_growing h_rows h_must g_fresh g_kept g_isKept g_tape g_tapeMany g_sort g_begins g_tokenEnds g_word g_value g_good g_sorts g_sizes g_sheets g_holds g_heldNumber g_heldSize g_kind g_number g_ownHand g_traced g_bodies g_isParted q.2.1 q.2.2.1 q.2.2.2.1 q.2.2.2.2.1 q.2.2.2.2.2.1 q.2.2.2.2.2.2.1 q.2.2.2.2.2.2.2)) hx hb hr hlocks hP hS hF rfl hQ dX5_prove_19

abbrev rX5_isRow : Room := { frames := 1, cells := 0, slots := 0, locals := 22 }
abbrev wX5_isRow (cB cI cJ cO : ClassId) (h0 : Nat) (g_row g_fresh g_kept g_tried g_isKept g_viewed g_tape g_tapeMany g_sort g_begins g_tokenEnds g_word g_value g_good g_growing g_rows g_must g_sorts g_sizes g_sheets g_holds g_heldNumber g_heldSize g_kind g_number g_ownHand g_traced g_bodies g_isParted : Value) (v_rowMany : Int32) : va_W := [(h0, .inr (5, [g_row, g_fresh, g_kept, g_tried, g_isKept, g_viewed, g_tape, g_tapeMany, g_sort, g_begins, g_tokenEnds, g_word, g_value, g_good, g_growing, g_rows, g_must, .int v_rowMany, g_sorts, g_sizes, g_sheets, g_holds, g_heldNumber, g_heldSize, g_kind, g_number, g_ownHand, g_traced, g_bodies, g_isParted]))]
theorem nX5_isRow_X5 : ∀ w ∈ wsX50, w ∈ wsX5_isRow := by decide +kernel
theorem kX5_isRow_0 : Cond.fieldLink RX5 190 "PaintedWallsModel" "rowMany" "I" ∈ wsX5_isRow := by decide +kernel
set_option maxHeartbeats 4000000 in
set_option maxRecDepth 100000 in
theorem tX5_isRow {l : Launch} {D : va_G} {cB cI cJ cO : ClassId} (h0 : Nat) (g_row g_fresh g_kept g_tried g_isKept g_viewed g_tape g_tapeMany g_sort g_begins g_tokenEnds g_word g_value g_good g_growing g_rows g_must g_sorts g_sizes g_sheets g_holds g_heldNumber g_heldSize g_kind g_number g_ownHand g_traced g_bodies g_isParted : Value) (v_rowMany : Int32) (x1 : Int32) (x2 : Int32) (r : Int32) (hF : fX5_isRow v_rowMany x1 x2 = some r) : Met l yX5_isRow wsX5_isRow rX5_isRow (zPre D cB cI cJ cO [.ref h0, .int x1, .int x2] (wX5_isRow cB cI cJ cO h0 g_row g_fresh g_kept g_tried g_isKept g_viewed g_tape g_tapeMany g_sort g_begins g_tokenEnds g_word g_value g_good g_growing g_rows g_must g_sorts g_sizes g_sheets g_holds g_heldNumber g_heldSize g_kind g_number g_ownHand g_traced g_bodies g_isParted v_rowMany)) (zPI (some (.int r))) 0 0 (fun _ => False) := by
  refine zMetP (cc := cX5_isRow) (maxL := 3) (ret := (some .boolean)) (lv := [(0, .ref h0), (1, .int x1), (2, .int x2)]) (by decide) rfl (Nat.le_of_ble_eq_true rfl) rfl ?_
  intro p e s m args below meth c ls Q hQ hx hb hr hml hown hts hlocks hname hP hE hD hl
  have hown : s.vm.findClass RX5 = some m.cls := hown
  have hK := hE.1
  unfold fX5_isRow at hF
  refine lv_iload_n (pc := 0) hx hb dX5_isRow_0 rfl (lv_at hl 1 rfl) ?_
  refine lv_iconst (pc := 1) (v := (nI 0)) hx hb dX5_isRow_1 (by decide) ?_
  refine lv_aload_n (pc := 2) hx hb dX5_isRow_2 rfl (lv_at hl 0 rfl) ?_
  refine va_get (D := D) (pc := 3) (ci := 5) (v := .int v_rowMany) (C := RX5) (T := TX5) (N := 30) hx hb hts nX5_isRow_X5 hown hK hP 0 rfl rfl 17 (by decide) (hts _ kX5_isRow_0) (fun _ h9 => h9) rfl dX5_isRow_3 ?_
  refine lv_iconst (pc := 6) (v := (nI 1)) hx hb dX5_isRow_6 (by decide) ?_
  refine lv_isub (pc := 7) hx hb dX5_isRow_7 ?_
  obtain ⟨u8, hu8, hF⟩ := z_bind hF
  refine zq_call (oc0 := (some (.int u8))) (va_runS (As := [.int x1, .int (nI 0), .int (v_rowMany - (nI 1))]) (rest := []) ⟨hx, hb, hml, hown, hts⟩ (tX5_in (l := l) (D := D) (cB := cB) (cI := cI) (cJ := cJ) (cO := cO) x1 (nI 0) (v_rowMany - (nI 1)) u8 hu8) (va_cwS 3 hts gX5_isRow_X5_in rfl rfl rfl (by decide +kernel) ⟨Nat.le_of_ble_eq_true rfl, Nat.le_of_ble_eq_true rfl⟩) ⟨zPre_blind, zPre_at hP hE hD [] rfl rfl⟩ rfl rfl hl.1 rfl (lv_room (Nat.le_of_ble_eq_true rfl)) dX5_isRow_8 ⟨Nat.zero_le _, Nat.zero_le _⟩) ?_
  refine W.eq (g2 := F0 m 11 ls [.int u8]) rfl ?_
  refine zb_if_eq (pc := 11) (tgt := 27) hx hb dX5_isRow_11 (by decide) hF (fun c_11 hF => ?_) (fun c_11 hF => ?_)
  · refine lv_iconst (pc := 27) (v := (nI 0)) hx hb dX5_isRow_27 (by decide) ?_
    exact z_zret (pc := 28) (fun q => q) hx hb hr hlocks (by decide) hF rfl hQ dX5_isRow_28
  · refine lv_iload_n (pc := 14) hx hb dX5_isRow_14 rfl (lv_at hl 2 rfl) ?_
    refine lv_iconst (pc := 15) (v := (nI 0)) hx hb dX5_isRow_15 (by decide) ?_
    refine lv_iconst (pc := 16) (v := (nI 2)) hx hb dX5_isRow_16 (by decide) ?_
    obtain ⟨u17, hu17, hF⟩ := z_bind hF
    refine zq_call (oc0 := (some (.int u17))) (va_runS (As := [.int x2, .int (nI 0), .int (nI 2)]) (rest := []) ⟨hx, hb, hml, hown, hts⟩ (tX5_in (l := l) (D := D) (cB := cB) (cI := cI) (cJ := cJ) (cO := cO) x2 (nI 0) (nI 2) u17 hu17) (va_cwS 3 hts gX5_isRow_X5_in rfl rfl rfl (by decide +kernel) ⟨Nat.le_of_ble_eq_true rfl, Nat.le_of_ble_eq_true rfl⟩) ⟨zPre_blind, zPre_at hP hE hD [] rfl rfl⟩ rfl rfl hl.1 rfl (lv_room (Nat.le_of_ble_eq_true rfl)) dX5_isRow_17 ⟨Nat.zero_le _, Nat.zero_le _⟩) ?_
    refine W.eq (g2 := F0 m 20 ls [.int u17]) rfl ?_
    refine zb_if_eq (pc := 20) (tgt := 27) hx hb dX5_isRow_20 (by decide) hF (fun c_20 hF => ?_) (fun c_20 hF => ?_)
    · refine lv_iconst (pc := 27) (v := (nI 0)) hx hb dX5_isRow_27 (by decide) ?_
      exact z_zret (pc := 28) (fun q => q) hx hb hr hlocks (by decide) hF rfl hQ dX5_isRow_28
    · refine lv_iconst (pc := 23) (v := (nI 1)) hx hb dX5_isRow_23 (by decide) ?_
      refine lv_goto (pc := 24) (tgt := 28) hx hb dX5_isRow_24 (by decide) ?_
      exact z_zret (pc := 28) (fun q => q) hx hb hr hlocks (by decide) hF rfl hQ dX5_isRow_28

abbrev rX5_row : Room := { frames := 2, cells := 0, slots := 0, locals := 44 }
abbrev wX5_row (cB cI cJ cO : ClassId) (h0 h_rows : Nat) (g_row g_fresh g_kept g_tried g_isKept g_viewed g_tape g_tapeMany g_sort g_begins g_tokenEnds g_word g_value g_good g_growing g_must g_sorts g_sizes g_sheets g_holds g_heldNumber g_heldSize g_kind g_number g_ownHand g_traced g_bodies g_isParted : Value) (v_rowMany : Int32) (v_rows : Nat → Int32) : va_W := [(h0, .inr (5, [g_row, g_fresh, g_kept, g_tried, g_isKept, g_viewed, g_tape, g_tapeMany, g_sort, g_begins, g_tokenEnds, g_word, g_value, g_good, g_growing, .ref h_rows, g_must, .int v_rowMany, g_sorts, g_sizes, g_sheets, g_holds, g_heldNumber, g_heldSize, g_kind, g_number, g_ownHand, g_traced, g_bodies, g_isParted])), (h_rows, .inl (cI, 30, .inl v_rows))]
theorem nX5_row_X5 : ∀ w ∈ wsX50, w ∈ wsX5_row := by decide +kernel
theorem kX5_row_0 : Cond.fieldLink RX5 28 "PaintedWallsModel" "rows" "[I" ∈ wsX5_row := by decide +kernel
set_option maxHeartbeats 4000000 in
set_option maxRecDepth 100000 in
theorem tX5_row {l : Launch} {D : va_G} {cB cI cJ cO : ClassId} (h0 h_rows : Nat) (g_row g_fresh g_kept g_tried g_isKept g_viewed g_tape g_tapeMany g_sort g_begins g_tokenEnds g_word g_value g_good g_growing g_must g_sorts g_sizes g_sheets g_holds g_heldNumber g_heldSize g_kind g_number g_ownHand g_traced g_bodies g_isParted : Value) (v_rowMany : Int32) (v_rows : Nat → Int32) (x1 : Int32) (x2 : Int32) (r : Int32) (hF : fX5_row v_rowMany v_rows x1 x2 = some r) : Met l yX5_row wsX5_row rX5_row (zPre D cB cI cJ cO [.ref h0, .int x1, .int x2] (wX5_row cB cI cJ cO h0 h_rows g_row g_fresh g_kept g_tried g_isKept g_viewed g_tape g_tapeMany g_sort g_begins g_tokenEnds g_word g_value g_good g_growing g_must g_sorts g_sizes g_sheets g_holds g_heldNumber g_heldSize g_kind g_number g_ownHand g_traced g_bodies g_isParted v_rowMany v_rows)) (zPI (some (.int r))) 0 0 (fun _ => False) := by
  refine zMetP (cc := cX5_row) (maxL := 3) (ret := (some .int)) (lv := [(0, .ref h0), (1, .int x1), (2, .int x2)]) (by decide) rfl (Nat.le_of_ble_eq_true rfl) rfl ?_
  intro p e s m args below meth c ls Q hQ hx hb hr hml hown hts hlocks hname hP hE hD hl
  have hown : s.vm.findClass RX5 = some m.cls := hown
  have hK := hE.1
  unfold fX5_row at hF
  refine lv_aload_n (pc := 0) hx hb dX5_row_0 rfl (lv_at hl 0 rfl) ?_
  refine lv_iload_n (pc := 1) hx hb dX5_row_1 rfl (lv_at hl 1 rfl) ?_
  refine lv_iload_n (pc := 2) hx hb dX5_row_2 rfl (lv_at hl 2 rfl) ?_
  obtain ⟨u3, hu3, hF⟩ := z_bind hF
  refine zq_call (oc0 := (some (.int u3))) (va_runV (As := [.int x1, .int x2]) (rest := []) ⟨hx, hb, hml, hown, hts⟩ (tX5_isRow (l := l) (D := D) (cB := cB) (cI := cI) (cJ := cJ) (cO := cO) h0 g_row g_fresh g_kept g_tried g_isKept g_viewed g_tape g_tapeMany g_sort g_begins g_tokenEnds g_word g_value g_good g_growing (.ref h_rows) g_must g_sorts g_sizes g_sheets g_holds g_heldNumber g_heldSize g_kind g_number g_ownHand g_traced g_bodies g_isParted v_rowMany x1 x2 u3 hu3) (cwV 2 hts gX5_row_X5_isRow rfl rfl rfl (by decide +kernel) ⟨Nat.le_of_ble_eq_true rfl, Nat.le_of_ble_eq_true rfl⟩) ⟨zPre_blind, va_recv hK hP (ci := 5) (q0 := 0) rfl rfl, zPre_at hP hE hD [0] rfl rfl⟩ rfl rfl hl.1 rfl (lv_room (Nat.le_of_ble_eq_true rfl)) dX5_row_3 ⟨Nat.zero_le _, Nat.zero_le _⟩) ?_
  refine W.eq (g2 := F0 m 6 ls [.int u3]) rfl ?_
  refine zb_if_eq (pc := 6) (tgt := 22) hx hb dX5_row_6 (by decide) hF (fun c_6 hF => ?_) (fun c_6 hF => ?_)
  · refine lv_bipush (pc := 22) (v := (-9 : Int32)) hx hb dX5_row_22 (by decide) ?_
    exact z_iret (pc := 24) (fun q => q) hx hb hr hlocks hF rfl hQ dX5_row_24
  · refine lv_aload_n (pc := 9) hx hb dX5_row_9 rfl (lv_at hl 0 rfl) ?_
    refine va_get (D := D) (pc := 10) (ci := 5) (v := .ref h_rows) (C := RX5) (T := TX5) (N := 30) hx hb hts nX5_row_X5 hown hK hP 0 rfl rfl 15 (by decide) (hts _ kX5_row_0) (fun _ h9 => h9) rfl dX5_row_10 ?_
    refine lv_iconst (pc := 13) (v := (nI 3)) hx hb dX5_row_13 (by decide) ?_
    refine lv_iload_n (pc := 14) hx hb dX5_row_14 rfl (lv_at hl 1 rfl) ?_
    refine lv_imul (pc := 15) hx hb dX5_row_15 ?_
    refine lv_iload_n (pc := 16) hx hb dX5_row_16 rfl (lv_at hl 2 rfl) ?_
    refine lv_iadd (pc := 17) hx hb dX5_row_17 ?_
    refine za_iald (pc := 18) hx hb hK hP 1 1 rfl rfl dX5_row_18 hF (fun hF => ?_)
    refine lv_goto (pc := 19) (tgt := 24) hx hb dX5_row_19 (by decide) ?_
    exact z_iret (pc := 24) (fun q => q) hx hb hr hlocks hF rfl hQ dX5_row_24

abbrev rX5_alterRow : Room := { frames := 2, cells := 0, slots := 0, locals := 44 }
abbrev wX5_alterRow (cB cI cJ cO : ClassId) (h0 h_rows : Nat) (g_row g_fresh g_kept g_tried g_isKept g_viewed g_tape g_tapeMany g_sort g_begins g_tokenEnds g_word g_value g_good g_growing g_must g_sorts g_sizes g_sheets g_holds g_heldNumber g_heldSize g_kind g_number g_ownHand g_traced g_bodies g_isParted : Value) (v_rowMany : Int32) (v_rows : Nat → Int32) : va_W := [(h0, .inr (5, [g_row, g_fresh, g_kept, g_tried, g_isKept, g_viewed, g_tape, g_tapeMany, g_sort, g_begins, g_tokenEnds, g_word, g_value, g_good, g_growing, .ref h_rows, g_must, .int v_rowMany, g_sorts, g_sizes, g_sheets, g_holds, g_heldNumber, g_heldSize, g_kind, g_number, g_ownHand, g_traced, g_bodies, g_isParted])), (h_rows, .inl (cI, 30, .inl v_rows))]
theorem nX5_alterRow_X5 : ∀ w ∈ wsX50, w ∈ wsX5_alterRow := by decide +kernel
theorem kX5_alterRow_0 : Cond.fieldLink RX5 28 "PaintedWallsModel" "rows" "[I" ∈ wsX5_alterRow := by decide +kernel
set_option maxHeartbeats 4000000 in
set_option maxRecDepth 100000 in
theorem tX5_alterRow {l : Launch} {D : va_G} {cB cI cJ cO : ClassId} (h0 h_rows : Nat) (g_row g_fresh g_kept g_tried g_isKept g_viewed g_tape g_tapeMany g_sort g_begins g_tokenEnds g_word g_value g_good g_growing g_must g_sorts g_sizes g_sheets g_holds g_heldNumber g_heldSize g_kind g_number g_ownHand g_traced g_bodies g_isParted : Value) (v_rowMany : Int32) (v_rows : Nat → Int32) (x1 : Int32) (x2 : Int32) (x3 : Int32) (r : Int32 × (Nat → Int32)) (hF : fX5_alterRow v_rowMany v_rows x1 x2 x3 = some r) : Met l yX5_alterRow wsX5_alterRow rX5_alterRow (zPre D cB cI cJ cO [.ref h0, .int x1, .int x2, .int x3] (wX5_alterRow cB cI cJ cO h0 h_rows g_row g_fresh g_kept g_tried g_isKept g_viewed g_tape g_tapeMany g_sort g_begins g_tokenEnds g_word g_value g_good g_growing g_must g_sorts g_sizes g_sheets g_holds g_heldNumber g_heldSize g_kind g_number g_ownHand g_traced g_bodies g_isParted v_rowMany v_rows)) (zPM (some (.int r.1)) D (wX5_alterRow cB cI cJ cO h0 h_rows g_row g_fresh g_kept g_tried g_isKept g_viewed g_tape g_tapeMany g_sort g_begins g_tokenEnds g_word g_value g_good g_growing g_must g_sorts g_sizes g_sheets g_holds g_heldNumber g_heldSize g_kind g_number g_ownHand g_traced g_bodies g_isParted v_rowMany r.2) (zAs [h0, h_rows])) 0 0 (zAs [h0, h_rows]) := by
  refine zMetM (cc := cX5_alterRow) (maxL := 5) (ret := (some .int)) (lv := [(0, .ref h0), (1, .int x1), (2, .int x2), (3, .int x3)]) rfl (by decide) rfl (Nat.le_of_ble_eq_true rfl) rfl ?_
  intro p e s m args below meth c ls Q H locs hQ hx hb hr hml hown hts hlocks hname hP hE hD hS hl
  have hown : s.vm.findClass RX5 = some m.cls := hown
  have hK := hE.1
  unfold fX5_alterRow at hF
  refine lv_aload_n (pc := 0) hx hb dX5_alterRow_0 rfl (lv_at hl 0 rfl) ?_
  refine lv_iload_n (pc := 1) hx hb dX5_alterRow_1 rfl (lv_at hl 1 rfl) ?_
  refine lv_iload_n (pc := 2) hx hb dX5_alterRow_2 rfl (lv_at hl 2 rfl) ?_
  obtain ⟨u3, hu3, hF⟩ := z_bind hF
  refine zq_call (oc0 := (some (.int u3))) (va_runV (As := [.int x1, .int x2]) (rest := []) ⟨hx, hb, hml, hown, hts⟩ (tX5_isRow (l := l) (D := D) (cB := cB) (cI := cI) (cJ := cJ) (cO := cO) h0 g_row g_fresh g_kept g_tried g_isKept g_viewed g_tape g_tapeMany g_sort g_begins g_tokenEnds g_word g_value g_good g_growing (.ref h_rows) g_must g_sorts g_sizes g_sheets g_holds g_heldNumber g_heldSize g_kind g_number g_ownHand g_traced g_bodies g_isParted v_rowMany x1 x2 u3 hu3) (cwV 2 hts gX5_alterRow_X5_isRow rfl rfl rfl (by decide +kernel) ⟨Nat.le_of_ble_eq_true rfl, Nat.le_of_ble_eq_true rfl⟩) ⟨zPre_blind, va_recv hK hP (ci := 5) (q0 := 0) rfl rfl, zPre_at hP hE (zD_re hD rfl) [0] rfl rfl⟩ rfl rfl hl.1 rfl (lv_room (Nat.le_of_ble_eq_true rfl)) dX5_alterRow_3 ⟨Nat.zero_le _, Nat.zero_le _⟩) ?_
  refine W.eq (g2 := F0 m 6 ls [.int u3]) rfl ?_
  refine zb_if_ne (pc := 6) (tgt := 12) hx hb dX5_alterRow_6 (by decide) hF (fun c_6 hF => ?_) (fun c_6 hF => ?_)
  · refine lv_aload_n (pc := 12) hx hb dX5_alterRow_12 rfl (lv_at hl 0 rfl) ?_
    refine va_get (D := D) (pc := 13) (ci := 5) (v := .ref h_rows) (C := RX5) (T := TX5) (N := 30) hx hb hts nX5_alterRow_X5 hown hK hP 0 rfl rfl 15 (by decide) (hts _ kX5_alterRow_0) (fun _ h9 => h9) rfl dX5_alterRow_13 ?_
    refine lv_iconst (pc := 16) (v := (nI 3)) hx hb dX5_alterRow_16 (by decide) ?_
    refine lv_iload_n (pc := 17) hx hb dX5_alterRow_17 rfl (lv_at hl 1 rfl) ?_
    refine lv_imul (pc := 18) hx hb dX5_alterRow_18 ?_
    refine lv_iload_n (pc := 19) hx hb dX5_alterRow_19 rfl (lv_at hl 2 rfl) ?_
    refine lv_iadd (pc := 20) hx hb dX5_alterRow_20 ?_
    refine za_iald (pc := 21) hx hb hK hP 1 1 rfl rfl dX5_alterRow_21 hF (fun hF => ?_)
    refine lv_istore (pc := 22) (lv' := [(4, .int (v_rows (((nI 3) * x1) + x2).toNatClampNeg)), (0, .ref h0), (1, .int x1), (2, .int x2), (3, .int x3)]) hx hb dX5_alterRow_22 hl (by decide) rfl (fun ls hl => ?_)
    refine lv_aload_n (pc := 24) hx hb dX5_alterRow_24 rfl (lv_at hl 1 rfl) ?_
    refine va_get (D := D) (pc := 25) (ci := 5) (v := .ref h_rows) (C := RX5) (T := TX5) (N := 30) hx hb hts nX5_alterRow_X5 hown hK hP 0 rfl rfl 15 (by decide) (hts _ kX5_alterRow_0) (fun _ h9 => h9) rfl dX5_alterRow_25 ?_
    refine lv_iconst (pc := 28) (v := (nI 3)) hx hb dX5_alterRow_28 (by decide) ?_
    refine lv_iload_n (pc := 29) hx hb dX5_alterRow_29 rfl (lv_at hl 2 rfl) ?_
    refine lv_imul (pc := 30) hx hb dX5_alterRow_30 ?_
    refine lv_iload_n (pc := 31) hx hb dX5_alterRow_31 rfl (lv_at hl 3 rfl) ?_
    refine lv_iadd (pc := 32) hx hb dX5_alterRow_32 ?_
    refine lv_iload_n (pc := 33) hx hb dX5_alterRow_33 rfl (lv_at hl 4 rfl) ?_
    refine za_iast (pc := 34) hx hb hK hP (zD_re hD rfl) hS 1 1 rfl rfl dX5_alterRow_34 hF (fun hF H locs hP hS => ?_)
    have hP : va_P D vwCl (wX5_alterRow cB cI cJ cO h0 h_rows g_row g_fresh g_kept g_tried g_isKept g_viewed g_tape g_tapeMany g_sort g_begins g_tokenEnds g_word g_value g_good g_growing g_must g_sorts g_sizes g_sheets g_holds g_heldNumber g_heldSize g_kind g_number g_ownHand g_traced g_bodies g_isParted v_rowMany (upd v_rows (((nI 3) * x1) + x2).toNatClampNeg x3)) H := hP
    refine lv_iload (pc := 35) hx hb dX5_alterRow_35 (lv_at hl 0 rfl) ?_
    exact z_iretM (pc := 37) (fun q => q.1) (fun q => (wX5_alterRow cB cI cJ cO h0 h_rows g_row g_fresh g_kept g_tried g_isKept g_viewed g_tape g_tapeMany g_sort g_begins g_tokenEnds g_word g_value g_good g_growing g_must g_sorts g_sizes g_sheets g_holds g_heldNumber g_heldSize g_kind g_number g_ownHand g_traced g_bodies g_isParted v_rowMany q.2)) hx hb hr hlocks hP hS hF rfl hQ dX5_alterRow_37
  · refine lv_bipush (pc := 9) (v := (-9 : Int32)) hx hb dX5_alterRow_9 (by decide) ?_
    exact z_iretM (pc := 11) (fun q => q.1) (fun q => (wX5_alterRow cB cI cJ cO h0 h_rows g_row g_fresh g_kept g_tried g_isKept g_viewed g_tape g_tapeMany g_sort g_begins g_tokenEnds g_word g_value g_good g_growing g_must g_sorts g_sizes g_sheets g_holds g_heldNumber g_heldSize g_kind g_number g_ownHand g_traced g_bodies g_isParted v_rowMany q.2)) hx hb hr hlocks hP hS hF rfl hQ dX5_alterRow_11

abbrev rX5_judge : Room := { frames := 8, cells := 0, slots := 0, locals := 179 }
abbrev wX5_judge (cB cI cJ cO : ClassId) (h0 h_row h_tried h_growing h_rows h_must : Nat) (g_fresh g_kept g_isKept g_tape g_tapeMany g_sort g_begins g_tokenEnds g_word g_value g_good g_sorts g_sizes g_sheets g_holds g_heldNumber g_heldSize g_kind g_number g_ownHand g_traced g_bodies g_isParted : Value) (v_viewed : Int32) (v_rowMany : Int32) (v_row : Nat → Int32) (v_tried : Nat → Int32) (v_growing : Nat → Int32) (v_rows : Nat → Int32) (v_must : Nat → Int32) : va_W := [(h0, .inr (5, [.ref h_row, g_fresh, g_kept, .ref h_tried, g_isKept, .int v_viewed, g_tape, g_tapeMany, g_sort, g_begins, g_tokenEnds, g_word, g_value, g_good, .ref h_growing, .ref h_rows, .ref h_must, .int v_rowMany, g_sorts, g_sizes, g_sheets, g_holds, g_heldNumber, g_heldSize, g_kind, g_number, g_ownHand, g_traced, g_bodies, g_isParted])), (h_row, .inl (cI, 68, .inl v_row)), (h_tried, .inl (cI, 68, .inl v_tried)), (h_growing, .inl (cI, 8, .inl v_growing)), (h_rows, .inl (cI, 30, .inl v_rows)), (h_must, .inl (cI, 30, .inl v_must))]
theorem nX5_judge_X5 : ∀ w ∈ wsX50, w ∈ wsX5_judge := by decide +kernel
theorem kX5_judge_0 : Cond.fieldLink RX5 190 "PaintedWallsModel" "rowMany" "I" ∈ wsX5_judge := by decide +kernel
theorem kX5_judge_1 : Cond.fieldLink RX5 28 "PaintedWallsModel" "rows" "[I" ∈ wsX5_judge := by decide +kernel
theorem kX5_judge_2 : Cond.fieldLink RX5 31 "PaintedWallsModel" "must" "[I" ∈ wsX5_judge := by decide +kernel
set_option maxHeartbeats 4000000 in
set_option maxRecDepth 100000 in
theorem tX5_judge {l : Launch} {D : va_G} {cB cI cJ cO : ClassId} (h0 h_row h_tried h_growing h_rows h_must : Nat) (g_fresh g_kept g_isKept g_tape g_tapeMany g_sort g_begins g_tokenEnds g_word g_value g_good g_sorts g_sizes g_sheets g_holds g_heldNumber g_heldSize g_kind g_number g_ownHand g_traced g_bodies g_isParted : Value) (v_viewed : Int32) (v_rowMany : Int32) (v_row : Nat → Int32) (v_tried : Nat → Int32) (v_growing : Nat → Int32) (v_rows : Nat → Int32) (v_must : Nat → Int32) (x1 : Int32) (r : Int32 × Int32 × (Nat → Int32) × (Nat → Int32) × (Nat → Int32) × (Nat → Int32)) (hF : fX5_judge v_viewed v_rowMany v_row v_tried v_growing v_rows v_must x1 = some r) : Met l yX5_judge wsX5_judge rX5_judge (zPre D cB cI cJ cO [.ref h0, .int x1] (wX5_judge cB cI cJ cO h0 h_row h_tried h_growing h_rows h_must g_fresh g_kept g_isKept g_tape g_tapeMany g_sort g_begins g_tokenEnds g_word g_value g_good g_sorts g_sizes g_sheets g_holds g_heldNumber g_heldSize g_kind g_number g_ownHand g_traced g_bodies g_isParted v_viewed v_rowMany v_row v_tried v_growing v_rows v_must)) (zPM (some (.int r.1)) D (wX5_judge cB cI cJ cO h0 h_row h_tried h_growing h_rows h_must g_fresh g_kept g_isKept g_tape g_tapeMany g_sort g_begins g_tokenEnds g_word g_value g_good g_sorts g_sizes g_sheets g_holds g_heldNumber g_heldSize g_kind g_number g_ownHand g_traced g_bodies g_isParted r.2.1 v_rowMany r.2.2.1 r.2.2.2.1 r.2.2.2.2.1 v_rows r.2.2.2.2.2) (zAs [h0, h_row, h_tried, h_growing, h_rows, h_must])) 0 0 (zAs [h0, h_row, h_tried, h_growing, h_rows, h_must]) := by
  refine zMetM (cc := cX5_judge) (maxL := 3) (ret := (some .int)) (lv := [(0, .ref h0), (1, .int x1)]) rfl (by decide) rfl (Nat.le_of_ble_eq_true rfl) rfl ?_
  intro p e s m args below meth c ls Q H locs hQ hx hb hr hml hown hts hlocks hname hP hE hD hS hl
  have hown : s.vm.findClass RX5 = some m.cls := hown
  have hK := hE.1
  unfold fX5_judge at hF
  refine lv_aload_n (pc := 0) hx hb dX5_judge_0 rfl (lv_at hl 0 rfl) ?_
  refine lv_iload_n (pc := 1) hx hb dX5_judge_1 rfl (lv_at hl 1 rfl) ?_
  obtain ⟨u2, hu2, hF⟩ := z_bind hF
  refine zq_call (oc0 := (some (.int u2))) (va_runV (As := [.int x1]) (rest := []) ⟨hx, hb, hml, hown, hts⟩ (tX5_isOne (l := l) (D := D) (cB := cB) (cI := cI) (cJ := cJ) (cO := cO) h0 h_row g_fresh g_kept (.ref h_tried) g_isKept (.int v_viewed) g_tape g_tapeMany g_sort g_begins g_tokenEnds g_word g_value g_good (.ref h_growing) (.ref h_rows) (.ref h_must) (.int v_rowMany) g_sorts g_sizes g_sheets g_holds g_heldNumber g_heldSize g_kind g_number g_ownHand g_traced g_bodies g_isParted v_row x1 u2 hu2) (cwV 1 hts gX5_judge_X5_isOne rfl rfl rfl (by decide +kernel) ⟨Nat.le_of_ble_eq_true rfl, Nat.le_of_ble_eq_true rfl⟩) ⟨zPre_blind, va_recv hK hP (ci := 5) (q0 := 0) rfl rfl, zPre_at hP hE (zD_re hD rfl) [0, 1] rfl rfl⟩ rfl rfl hl.1 rfl (lv_room (Nat.le_of_ble_eq_true rfl)) dX5_judge_2 ⟨Nat.zero_le _, Nat.zero_le _⟩) ?_
  refine W.eq (g2 := F0 m 5 ls [.int u2]) rfl ?_
  refine zb_if_ne (pc := 5) (tgt := 10) hx hb dX5_judge_5 (by decide) hF (fun c_5 hF => ?_) (fun c_5 hF => ?_)
  · refine lv_aload_n (pc := 10) hx hb dX5_judge_10 rfl (lv_at hl 0 rfl) ?_
    refine lv_iload_n (pc := 11) hx hb dX5_judge_11 rfl (lv_at hl 1 rfl) ?_
    refine lv_aload_n (pc := 12) hx hb dX5_judge_12 rfl (lv_at hl 0 rfl) ?_
    refine va_get (D := D) (pc := 13) (ci := 5) (v := .int v_rowMany) (C := RX5) (T := TX5) (N := 30) hx hb hts nX5_judge_X5 hown hK hP 0 rfl rfl 17 (by decide) (hts _ kX5_judge_0) (fun _ h9 => h9) rfl dX5_judge_13 ?_
    obtain ⟨u16, hu16, hF⟩ := z_bind hF
    refine zq_callM (oc0 := none) (wc := wX5_findRows cB cI cJ cO h0 h_row h_tried h_growing h_must g_fresh g_kept g_isKept g_tape g_tapeMany g_sort g_begins g_tokenEnds g_word g_value g_good (.ref h_rows) (.int v_rowMany) g_sorts g_sizes g_sheets g_holds g_heldNumber g_heldSize g_kind g_number g_ownHand g_traced g_bodies g_isParted v_viewed v_row v_tried v_growing v_must) (wc' := wX5_findRows cB cI cJ cO h0 h_row h_tried h_growing h_must g_fresh g_kept g_isKept g_tape g_tapeMany g_sort g_begins g_tokenEnds g_word g_value g_good (.ref h_rows) (.int v_rowMany) g_sorts g_sizes g_sheets g_holds g_heldNumber g_heldSize g_kind g_number g_ownHand g_traced g_bodies g_isParted u16.1 u16.2.1 u16.2.2.1 u16.2.2.2.1 u16.2.2.2.2) (ws' := (wX5_judge cB cI cJ cO h0 h_row h_tried h_growing h_rows h_must g_fresh g_kept g_isKept g_tape g_tapeMany g_sort g_begins g_tokenEnds g_word g_value g_good g_sorts g_sizes g_sheets g_holds g_heldNumber g_heldSize g_kind g_number g_ownHand g_traced g_bodies g_isParted u16.1 v_rowMany u16.2.1 u16.2.2.1 u16.2.2.2.1 v_rows u16.2.2.2.2)) (va_runV (As := [.int x1, .int v_rowMany]) (rest := []) ⟨hx, hb, hml, hown, hts⟩ (tX5_findRows (l := l) (D := D) (cB := cB) (cI := cI) (cJ := cJ) (cO := cO) h0 h_row h_tried h_growing h_must g_fresh g_kept g_isKept g_tape g_tapeMany g_sort g_begins g_tokenEnds g_word g_value g_good (.ref h_rows) (.int v_rowMany) g_sorts g_sizes g_sheets g_holds g_heldNumber g_heldSize g_kind g_number g_ownHand g_traced g_bodies g_isParted v_viewed v_row v_tried v_growing v_must x1 v_rowMany u16 hu16) (cwV 2 hts gX5_judge_X5_findRows rfl rfl rfl (by decide +kernel) ⟨Nat.le_of_ble_eq_true rfl, Nat.le_of_ble_eq_true rfl⟩) ⟨zPre_blind, va_recv hK hP (ci := 5) (q0 := 0) rfl rfl, zPre_at hP hE (zD_re hD rfl) [0, 1, 2, 3, 5] rfl rfl⟩ rfl rfl hl.1 rfl (lv_room (Nat.le_of_ble_eq_true rfl)) dX5_judge_16 ⟨Nat.zero_le _, Nat.zero_le _⟩) rfl hP (zD_re hD rfl) hS [0, 1, 2, 3, 5] rfl rfl [some 0, some 1, some 2, some 3, none, some 4] rfl rfl rfl rfl (fun H locs hP hS => ?_)
    refine W.eq (g2 := F0 m 19 ls []) rfl ?_
    refine lv_iconst (pc := 19) (v := (nI 0)) hx hb dX5_judge_19 (by decide) ?_
    refine lv_istore_n (pc := 20) (lv' := [(2, .int (nI 0)), (0, .ref h0), (1, .int x1)]) hx hb dX5_judge_20 rfl hl (by decide) rfl (fun ls hl => ?_)
    obtain ⟨k_3, hk_3, hF⟩ := z_J hF
    have kk_3 : ∀ (y2_2 : Int32) , k_3 y2_2 = some r → ∀ (H : Heap) (locs : List Loc), va_P D vwCl (wX5_judge cB cI cJ cO h0 h_row h_tried h_growing h_rows h_must g_fresh g_kept g_isKept g_tape g_tapeMany g_sort g_begins g_tokenEnds g_word g_value g_good g_sorts g_sizes g_sheets g_holds g_heldNumber g_heldSize g_kind g_number g_ownHand g_traced g_bodies g_isParted u16.1 v_rowMany u16.2.1 u16.2.2.1 u16.2.2.2.1 v_rows u16.2.2.2.2) H → va_S (zAs [h0, h_row, h_tried, h_growing, h_rows, h_must]) s.heap H locs → ∀ (ls : Array Slot), lv_has ls 3 [(2, .int y2_2)] → W p l e rX5_judge s m args below meth c H locs 0 0 Q (F0 m 46 ls []) := by
      intro y2_2 hF H locs hP hS ls hl
      rw [hk_3] at hF
      refine lv_iload_n (pc := 46) hx hb dX5_judge_46 rfl (lv_at hl 0 rfl) ?_
      refine lv_iconst (pc := 47) (v := (nI 3)) hx hb dX5_judge_47 (by decide) ?_
      refine lv_idiv (pc := 48) hx hb dX5_judge_48 (by decide) ?_
      refine lv_iconst (pc := 49) (v := (nI 1)) hx hb dX5_judge_49 (by decide) ?_
      refine lv_iadd (pc := 50) hx hb dX5_judge_50 ?_
      exact z_iretM (pc := 51) (fun q => q.1) (fun q => (wX5_judge cB cI cJ cO h0 h_row h_tried h_growing h_rows h_must g_fresh g_kept g_isKept g_tape g_tapeMany g_sort g_begins g_tokenEnds g_word g_value g_good g_sorts g_sizes g_sheets g_holds g_heldNumber g_heldSize g_kind g_number g_ownHand g_traced g_bodies g_isParted q.2.1 v_rowMany q.2.2.1 q.2.2.2.1 q.2.2.2.2.1 v_rows q.2.2.2.2.2)) hx hb hr hlocks hP hS hF rfl hQ dX5_judge_51
    obtain ⟨k_4, hk_4, hF⟩ := z_J hF
    have kk_4 : k_4 = some r → ∀ (H : Heap) (locs : List Loc), va_P D vwCl (wX5_judge cB cI cJ cO h0 h_row h_tried h_growing h_rows h_must g_fresh g_kept g_isKept g_tape g_tapeMany g_sort g_begins g_tokenEnds g_word g_value g_good g_sorts g_sizes g_sheets g_holds g_heldNumber g_heldSize g_kind g_number g_ownHand g_traced g_bodies g_isParted u16.1 v_rowMany u16.2.1 u16.2.2.1 u16.2.2.2.1 v_rows u16.2.2.2.2) H → va_S (zAs [h0, h_row, h_tried, h_growing, h_rows, h_must]) s.heap H locs → ∀ (ls : Array Slot), lv_has ls 3 [] → W p l e rX5_judge s m args below meth c H locs 0 0 Q (F0 m 58 ls []) := by
      intro  hF H locs hP hS ls hl
      rw [hk_4] at hF
      refine lv_iconst (pc := 58) (v := (nI 0)) hx hb dX5_judge_58 (by decide) ?_
      exact z_iretM (pc := 59) (fun q => q.1) (fun q => (wX5_judge cB cI cJ cO h0 h_row h_tried h_growing h_rows h_must g_fresh g_kept g_isKept g_tape g_tapeMany g_sort g_begins g_tokenEnds g_word g_value g_good g_sorts g_sizes g_sheets g_holds g_heldNumber g_heldSize g_kind g_number g_ownHand g_traced g_bodies g_isParted q.2.1 v_rowMany q.2.2.1 q.2.2.2.1 q.2.2.2.2.1 v_rows q.2.2.2.2.2)) hx hb hr hlocks hP hS hF rfl hQ dX5_judge_59
    have hL_21 : ∀ (n : Nat) (y2_1 : Int32) , fX5_judge_L21 v_rowMany v_rows u16 k_3 k_4 n y2_1 = some r → ∀ (H : Heap) (locs : List Loc), va_P D vwCl (wX5_judge cB cI cJ cO h0 h_row h_tried h_growing h_rows h_must g_fresh g_kept g_isKept g_tape g_tapeMany g_sort g_begins g_tokenEnds g_word g_value g_good g_sorts g_sizes g_sheets g_holds g_heldNumber g_heldSize g_kind g_number g_ownHand g_traced g_bodies g_isParted u16.1 v_rowMany u16.2.1 u16.2.2.1 u16.2.2.2.1 v_rows u16.2.2.2.2) H → va_S (zAs [h0, h_row, h_tried, h_growing, h_rows, h_must]) s.heap H locs → ∀ (ls : Array Slot), lv_has ls 3 [(0, .ref h0), (2, .int y2_1)] → W p l e rX5_judge s m args below meth c H locs 0 0 Q (F0 m 21 ls []) := by
      intro n
      induction n with
      | zero =>
        intro y2_1 hF H locs hP hS ls hl
        exact z_no hF
      | succ n ih =>
        intro y2_1 hF H locs hP hS ls hl
        rw [fX5_judge_L21] at hF
        refine lv_iload_n (pc := 21) hx hb dX5_judge_21 rfl (lv_at hl 1 rfl) ?_
        refine lv_iconst (pc := 22) (v := (nI 3)) hx hb dX5_judge_22 (by decide) ?_
        refine lv_aload_n (pc := 23) hx hb dX5_judge_23 rfl (lv_at hl 0 rfl) ?_
        refine va_get (D := D) (pc := 24) (ci := 5) (v := .int v_rowMany) (C := RX5) (T := TX5) (N := 30) hx hb hts nX5_judge_X5 hown hK hP 0 rfl rfl 17 (by decide) (hts _ kX5_judge_0) (fun _ h9 => h9) rfl dX5_judge_24 ?_
        refine lv_imul (pc := 27) hx hb dX5_judge_27 ?_
        refine zb_icmp_ge (pc := 28) (tgt := 58) hx hb dX5_judge_28 (by decide) hF (fun c_28 hF => ?_) (fun c_28 hF => ?_)
        · exact kk_4  hF H locs hP hS ls (lv_sub hl [] rfl)
        · refine lv_aload_n (pc := 31) hx hb dX5_judge_31 rfl (lv_at hl 0 rfl) ?_
          refine va_get (D := D) (pc := 32) (ci := 5) (v := .ref h_rows) (C := RX5) (T := TX5) (N := 30) hx hb hts nX5_judge_X5 hown hK hP 0 rfl rfl 15 (by decide) (hts _ kX5_judge_1) (fun _ h9 => h9) rfl dX5_judge_32 ?_
          refine lv_iload_n (pc := 35) hx hb dX5_judge_35 rfl (lv_at hl 1 rfl) ?_
          refine za_iald (pc := 36) hx hb hK hP 4 1 rfl rfl dX5_judge_36 hF (fun hF => ?_)
          refine lv_aload_n (pc := 37) hx hb dX5_judge_37 rfl (lv_at hl 0 rfl) ?_
          refine va_get (D := D) (pc := 38) (ci := 5) (v := .ref h_must) (C := RX5) (T := TX5) (N := 30) hx hb hts nX5_judge_X5 hown hK hP 0 rfl rfl 16 (by decide) (hts _ kX5_judge_2) (fun _ h9 => h9) rfl dX5_judge_38 ?_
          refine lv_iload_n (pc := 41) hx hb dX5_judge_41 rfl (lv_at hl 1 rfl) ?_
          refine za_iald (pc := 42) hx hb hK hP 5 1 rfl rfl dX5_judge_42 hF (fun hF => ?_)
          refine zb_icmp_eq (pc := 43) (tgt := 52) hx hb dX5_judge_43 (by decide) hF (fun c_43 hF => ?_) (fun c_43 hF => ?_)
          · refine lv_iinc (pc := 52) (v := (y2_1 + 1)) (lv' := [(2, .int (y2_1 + 1)), (0, .ref h0)]) hx hb dX5_judge_52 hl (k := 1) rfl rfl (by decide) rfl (fun ls hl => ?_)
            refine lv_goto (pc := 55) (tgt := 21) hx hb dX5_judge_55 (by decide) ?_
            exact ih (y2_1 + 1) hF H locs hP hS ls (lv_sub hl [1, 0] rfl)
          · exact kk_3 y2_1 hF H locs hP hS ls (lv_sub hl [1] rfl)
    exact hL_21 zK (nI 0) hF H locs hP hS ls (lv_sub hl [1, 0] rfl)
  · refine lv_iconst (pc := 8) (v := (-1 : Int32)) hx hb dX5_judge_8 (by decide) ?_
    exact z_iretM (pc := 9) (fun q => q.1) (fun q => (wX5_judge cB cI cJ cO h0 h_row h_tried h_growing h_rows h_must g_fresh g_kept g_isKept g_tape g_tapeMany g_sort g_begins g_tokenEnds g_word g_value g_good g_sorts g_sizes g_sheets g_holds g_heldNumber g_heldSize g_kind g_number g_ownHand g_traced g_bodies g_isParted q.2.1 v_rowMany q.2.2.1 q.2.2.2.1 q.2.2.2.2.1 v_rows q.2.2.2.2.2)) hx hb hr hlocks hP hS hF rfl hQ dX5_judge_9

abbrev rX5_lacksSort : Room := { frames := 0, cells := 0, slots := 0, locals := 0 }
abbrev wX5_lacksSort (cB cI cJ cO : ClassId) (h0 h_sorts : Nat) (g_row g_fresh g_kept g_tried g_isKept g_viewed g_tape g_tapeMany g_sort g_begins g_tokenEnds g_word g_value g_good g_growing g_rows g_must g_rowMany g_sizes g_sheets g_holds g_heldNumber g_heldSize g_kind g_number g_ownHand g_traced g_bodies g_isParted : Value) (v_sorts : Nat → Int32) : va_W := [(h0, .inr (5, [g_row, g_fresh, g_kept, g_tried, g_isKept, g_viewed, g_tape, g_tapeMany, g_sort, g_begins, g_tokenEnds, g_word, g_value, g_good, g_growing, g_rows, g_must, g_rowMany, .ref h_sorts, g_sizes, g_sheets, g_holds, g_heldNumber, g_heldSize, g_kind, g_number, g_ownHand, g_traced, g_bodies, g_isParted])), (h_sorts, .inl (cI, 4, .inl v_sorts))]
theorem nX5_lacksSort_X5 : ∀ w ∈ wsX50, w ∈ wsX5_lacksSort := by decide +kernel
theorem kX5_lacksSort_0 : Cond.fieldLink RX5 34 "PaintedWallsModel" "sorts" "[I" ∈ wsX5_lacksSort := by decide +kernel
set_option maxHeartbeats 4000000 in
set_option maxRecDepth 100000 in
theorem tX5_lacksSort {l : Launch} {D : va_G} {cB cI cJ cO : ClassId} (h0 h_sorts : Nat) (g_row g_fresh g_kept g_tried g_isKept g_viewed g_tape g_tapeMany g_sort g_begins g_tokenEnds g_word g_value g_good g_growing g_rows g_must g_rowMany g_sizes g_sheets g_holds g_heldNumber g_heldSize g_kind g_number g_ownHand g_traced g_bodies g_isParted : Value) (v_sorts : Nat → Int32) (x1 : Int32) (x2 : Int32) (r : Int32) (hF : fX5_lacksSort v_sorts x1 x2 = some r) : Met l yX5_lacksSort wsX5_lacksSort rX5_lacksSort (zPre D cB cI cJ cO [.ref h0, .int x1, .int x2] (wX5_lacksSort cB cI cJ cO h0 h_sorts g_row g_fresh g_kept g_tried g_isKept g_viewed g_tape g_tapeMany g_sort g_begins g_tokenEnds g_word g_value g_good g_growing g_rows g_must g_rowMany g_sizes g_sheets g_holds g_heldNumber g_heldSize g_kind g_number g_ownHand g_traced g_bodies g_isParted v_sorts)) (zPI (some (.int r))) 0 0 (fun _ => False) := by
  refine zMetP (cc := cX5_lacksSort) (maxL := 3) (ret := (some .int)) (lv := [(0, .ref h0), (1, .int x1), (2, .int x2)]) (by decide) rfl (Nat.le_of_ble_eq_true rfl) rfl ?_
  intro p e s m args below meth c ls Q hQ hx hb hr hml hown hts hlocks hname hP hE hD hl
  have hown : s.vm.findClass RX5 = some m.cls := hown
  have hK := hE.1
  unfold fX5_lacksSort at hF
  refine lv_aload_n (pc := 0) hx hb dX5_lacksSort_0 rfl (lv_at hl 0 rfl) ?_
  refine va_get (D := D) (pc := 1) (ci := 5) (v := .ref h_sorts) (C := RX5) (T := TX5) (N := 30) hx hb hts nX5_lacksSort_X5 hown hK hP 0 rfl rfl 18 (by decide) (hts _ kX5_lacksSort_0) (fun _ h9 => h9) rfl dX5_lacksSort_1 ?_
  refine lv_iload_n (pc := 4) hx hb dX5_lacksSort_4 rfl (lv_at hl 1 rfl) ?_
  refine za_iald (pc := 5) hx hb hK hP 1 1 rfl rfl dX5_lacksSort_5 hF (fun hF => ?_)
  refine zb_if_ge (pc := 6) (tgt := 14) hx hb dX5_lacksSort_6 (by decide) hF (fun c_6 hF => ?_) (fun c_6 hF => ?_)
  · refine lv_aload_n (pc := 14) hx hb dX5_lacksSort_14 rfl (lv_at hl 0 rfl) ?_
    refine va_get (D := D) (pc := 15) (ci := 5) (v := .ref h_sorts) (C := RX5) (T := TX5) (N := 30) hx hb hts nX5_lacksSort_X5 hown hK hP 0 rfl rfl 18 (by decide) (hts _ kX5_lacksSort_0) (fun _ h9 => h9) rfl dX5_lacksSort_15 ?_
    refine lv_iload_n (pc := 18) hx hb dX5_lacksSort_18 rfl (lv_at hl 1 rfl) ?_
    refine za_iald (pc := 19) hx hb hK hP 1 1 rfl rfl dX5_lacksSort_19 hF (fun hF => ?_)
    refine lv_iload_n (pc := 20) hx hb dX5_lacksSort_20 rfl (lv_at hl 2 rfl) ?_
    refine zb_icmp_eq (pc := 21) (tgt := 29) hx hb dX5_lacksSort_21 (by decide) hF (fun c_21 hF => ?_) (fun c_21 hF => ?_)
    · refine lv_iconst (pc := 29) (v := (nI 0)) hx hb dX5_lacksSort_29 (by decide) ?_
      exact z_iret (pc := 30) (fun q => q) hx hb hr hlocks hF rfl hQ dX5_lacksSort_30
    · refine lv_bipush (pc := 24) (v := (-13 : Int32)) hx hb dX5_lacksSort_24 (by decide) ?_
      refine lv_goto (pc := 26) (tgt := 30) hx hb dX5_lacksSort_26 (by decide) ?_
      exact z_iret (pc := 30) (fun q => q) hx hb hr hlocks hF rfl hQ dX5_lacksSort_30
  · refine lv_bipush (pc := 9) (v := (-11 : Int32)) hx hb dX5_lacksSort_9 (by decide) ?_
    refine lv_goto (pc := 11) (tgt := 30) hx hb dX5_lacksSort_11 (by decide) ?_
    exact z_iret (pc := 30) (fun q => q) hx hb hr hlocks hF rfl hQ dX5_lacksSort_30

abbrev rX5_minds : Room := { frames := 2, cells := 0, slots := 0, locals := 43 }
abbrev wX5_minds (cB cI cJ cO : ClassId) (h0 h_row h_sorts h_sizes h_sheets : Nat) (g_fresh g_kept g_tried g_isKept g_viewed g_tape g_tapeMany g_sort g_begins g_tokenEnds g_word g_value g_good g_growing g_rows g_must g_rowMany g_holds g_heldNumber g_heldSize g_kind g_number g_ownHand g_traced g_bodies g_isParted : Value) (v_row : Nat → Int32) (v_sorts : Nat → Int32) (v_sizes : Nat → Int32) (v_sheets : Nat → Int64) : va_W := [(h0, .inr (5, [.ref h_row, g_fresh, g_kept, g_tried, g_isKept, g_viewed, g_tape, g_tapeMany, g_sort, g_begins, g_tokenEnds, g_word, g_value, g_good, g_growing, g_rows, g_must, g_rowMany, .ref h_sorts, .ref h_sizes, .ref h_sheets, g_holds, g_heldNumber, g_heldSize, g_kind, g_number, g_ownHand, g_traced, g_bodies, g_isParted])), (h_row, .inl (cI, 68, .inl v_row)), (h_sorts, .inl (cI, 4, .inl v_sorts)), (h_sizes, .inl (cI, 4, .inl v_sizes)), (h_sheets, .inl (cJ, 160, .inr (.inl v_sheets)))]
theorem nX5_minds_X5 : ∀ w ∈ wsX50, w ∈ wsX5_minds := by decide +kernel
theorem kX5_minds_0 : Cond.fieldLink RX5 7 "PaintedWallsModel" "row" "[I" ∈ wsX5_minds := by decide +kernel
theorem kX5_minds_1 : Cond.fieldLink RX5 37 "PaintedWallsModel" "sizes" "[I" ∈ wsX5_minds := by decide +kernel
theorem kX5_minds_2 : Cond.fieldLink RX5 40 "PaintedWallsModel" "sheets" "[J" ∈ wsX5_minds := by decide +kernel
set_option maxHeartbeats 4000000 in
set_option maxRecDepth 100000 in
theorem tX5_minds {l : Launch} {D : va_G} {cB cI cJ cO : ClassId} (h0 h_row h_sorts h_sizes h_sheets : Nat) (g_fresh g_kept g_tried g_isKept g_viewed g_tape g_tapeMany g_sort g_begins g_tokenEnds g_word g_value g_good g_growing g_rows g_must g_rowMany g_holds g_heldNumber g_heldSize g_kind g_number g_ownHand g_traced g_bodies g_isParted : Value) (v_row : Nat → Int32) (v_sorts : Nat → Int32) (v_sizes : Nat → Int32) (v_sheets : Nat → Int64) (x1 : Int32) (x2 : Int32) (x3 : Int32) (x4 : Int32) (r : Int32 × (Nat → Int32)) (hF : fX5_minds v_row v_sorts v_sizes v_sheets x1 x2 x3 x4 = some r) : Met l yX5_minds wsX5_minds rX5_minds (zPre D cB cI cJ cO [.ref h0, .int x1, .int x2, .int x3, .int x4] (wX5_minds cB cI cJ cO h0 h_row h_sorts h_sizes h_sheets g_fresh g_kept g_tried g_isKept g_viewed g_tape g_tapeMany g_sort g_begins g_tokenEnds g_word g_value g_good g_growing g_rows g_must g_rowMany g_holds g_heldNumber g_heldSize g_kind g_number g_ownHand g_traced g_bodies g_isParted v_row v_sorts v_sizes v_sheets)) (zPM (some (.int r.1)) D (wX5_minds cB cI cJ cO h0 h_row h_sorts h_sizes h_sheets g_fresh g_kept g_tried g_isKept g_viewed g_tape g_tapeMany g_sort g_begins g_tokenEnds g_word g_value g_good g_growing g_rows g_must g_rowMany g_holds g_heldNumber g_heldSize g_kind g_number g_ownHand g_traced g_bodies g_isParted r.2 v_sorts v_sizes v_sheets) (zAs [h0, h_row, h_sorts, h_sizes, h_sheets])) 0 0 (zAs [h0, h_row, h_sorts, h_sizes, h_sheets]) := by
  refine zMetM (cc := cX5_minds) (maxL := 7) (ret := (some .int)) (lv := [(0, .ref h0), (1, .int x1), (2, .int x2), (3, .int x3), (4, .int x4)]) rfl (by decide) rfl (Nat.le_of_ble_eq_true rfl) rfl ?_
  intro p e s m args below meth c ls Q H locs hQ hx hb hr hml hown hts hlocks hname hP hE hD hS hl
  have hown : s.vm.findClass RX5 = some m.cls := hown
  have hK := hE.1
  unfold fX5_minds at hF
  refine lv_iload_n (pc := 0) hx hb dX5_minds_0 rfl (lv_at hl 1 rfl) ?_
  obtain ⟨u1, hu1, hF⟩ := z_bind hF
  refine zq_call (oc0 := (some (.int u1))) (va_runS (As := [.int x1]) (rest := []) ⟨hx, hb, hml, hown, hts⟩ (tX5_isShelf (l := l) (D := D) (cB := cB) (cI := cI) (cJ := cJ) (cO := cO) x1 u1 hu1) (va_cwS 1 hts gX5_minds_X5_isShelf rfl rfl rfl (by decide +kernel) ⟨Nat.le_of_ble_eq_true rfl, Nat.le_of_ble_eq_true rfl⟩) ⟨zPre_blind, zPre_at hP hE (zD_re hD rfl) [] rfl rfl⟩ rfl rfl hl.1 rfl (lv_room (Nat.le_of_ble_eq_true rfl)) dX5_minds_1 ⟨Nat.zero_le _, Nat.zero_le _⟩) ?_
  refine W.eq (g2 := F0 m 4 ls [.int u1]) rfl ?_
  refine zb_if_eq (pc := 4) (tgt := 40) hx hb dX5_minds_4 (by decide) hF (fun c_4 hF => ?_) (fun c_4 hF => ?_)
  · refine lv_iconst (pc := 40) (v := (-1 : Int32)) hx hb dX5_minds_40 (by decide) ?_
    exact z_iretM (pc := 41) (fun q => q.1) (fun q => (wX5_minds cB cI cJ cO h0 h_row h_sorts h_sizes h_sheets g_fresh g_kept g_tried g_isKept g_viewed g_tape g_tapeMany g_sort g_begins g_tokenEnds g_word g_value g_good g_growing g_rows g_must g_rowMany g_holds g_heldNumber g_heldSize g_kind g_number g_ownHand g_traced g_bodies g_isParted q.2 v_sorts v_sizes v_sheets)) hx hb hr hlocks hP hS hF rfl hQ dX5_minds_41
  · refine lv_aload_n (pc := 7) hx hb dX5_minds_7 rfl (lv_at hl 0 rfl) ?_
    refine lv_iload_n (pc := 8) hx hb dX5_minds_8 rfl (lv_at hl 3 rfl) ?_
    obtain ⟨u9, hu9, hF⟩ := z_bind hF
    refine zq_call (oc0 := (some (.int u9))) (va_runV (As := [.int x3]) (rest := []) ⟨hx, hb, hml, hown, hts⟩ (tX5_isOne (l := l) (D := D) (cB := cB) (cI := cI) (cJ := cJ) (cO := cO) h0 h_row g_fresh g_kept g_tried g_isKept g_viewed g_tape g_tapeMany g_sort g_begins g_tokenEnds g_word g_value g_good g_growing g_rows g_must g_rowMany (.ref h_sorts) (.ref h_sizes) (.ref h_sheets) g_holds g_heldNumber g_heldSize g_kind g_number g_ownHand g_traced g_bodies g_isParted v_row x3 u9 hu9) (cwV 1 hts gX5_minds_X5_isOne rfl rfl rfl (by decide +kernel) ⟨Nat.le_of_ble_eq_true rfl, Nat.le_of_ble_eq_true rfl⟩) ⟨zPre_blind, va_recv hK hP (ci := 5) (q0 := 0) rfl rfl, zPre_at hP hE (zD_re hD rfl) [0, 1] rfl rfl⟩ rfl rfl hl.1 rfl (lv_room (Nat.le_of_ble_eq_true rfl)) dX5_minds_9 ⟨Nat.zero_le _, Nat.zero_le _⟩) ?_
    refine W.eq (g2 := F0 m 12 ls [.int u9]) rfl ?_
    refine zb_if_eq (pc := 12) (tgt := 40) hx hb dX5_minds_12 (by decide) hF (fun c_12 hF => ?_) (fun c_12 hF => ?_)
    · refine lv_iconst (pc := 40) (v := (-1 : Int32)) hx hb dX5_minds_40 (by decide) ?_
      exact z_iretM (pc := 41) (fun q => q.1) (fun q => (wX5_minds cB cI cJ cO h0 h_row h_sorts h_sizes h_sheets g_fresh g_kept g_tried g_isKept g_viewed g_tape g_tapeMany g_sort g_begins g_tokenEnds g_word g_value g_good g_growing g_rows g_must g_rowMany g_holds g_heldNumber g_heldSize g_kind g_number g_ownHand g_traced g_bodies g_isParted q.2 v_sorts v_sizes v_sheets)) hx hb hr hlocks hP hS hF rfl hQ dX5_minds_41
    · refine lv_iload (pc := 15) hx hb dX5_minds_15 (lv_at hl 4 rfl) ?_
      refine lv_iconst (pc := 17) (v := (nI 0)) hx hb dX5_minds_17 (by decide) ?_
      refine lv_bipush (pc := 18) (v := (nI 8)) hx hb dX5_minds_18 (by decide) ?_
      obtain ⟨u20, hu20, hF⟩ := z_bind hF
      refine zq_call (oc0 := (some (.int u20))) (va_runS (As := [.int x4, .int (nI 0), .int (nI 8)]) (rest := []) ⟨hx, hb, hml, hown, hts⟩ (tX5_in (l := l) (D := D) (cB := cB) (cI := cI) (cJ := cJ) (cO := cO) x4 (nI 0) (nI 8) u20 hu20) (va_cwS 3 hts gX5_minds_X5_in rfl rfl rfl (by decide +kernel) ⟨Nat.le_of_ble_eq_true rfl, Nat.le_of_ble_eq_true rfl⟩) ⟨zPre_blind, zPre_at hP hE (zD_re hD rfl) [] rfl rfl⟩ rfl rfl hl.1 rfl (lv_room (Nat.le_of_ble_eq_true rfl)) dX5_minds_20 ⟨Nat.zero_le _, Nat.zero_le _⟩) ?_
      refine W.eq (g2 := F0 m 23 ls [.int u20]) rfl ?_
      refine zb_if_eq (pc := 23) (tgt := 40) hx hb dX5_minds_23 (by decide) hF (fun c_23 hF => ?_) (fun c_23 hF => ?_)
      · refine lv_iconst (pc := 40) (v := (-1 : Int32)) hx hb dX5_minds_40 (by decide) ?_
        exact z_iretM (pc := 41) (fun q => q.1) (fun q => (wX5_minds cB cI cJ cO h0 h_row h_sorts h_sizes h_sheets g_fresh g_kept g_tried g_isKept g_viewed g_tape g_tapeMany g_sort g_begins g_tokenEnds g_word g_value g_good g_growing g_rows g_must g_rowMany g_holds g_heldNumber g_heldSize g_kind g_number g_ownHand g_traced g_bodies g_isParted q.2 v_sorts v_sizes v_sheets)) hx hb hr hlocks hP hS hF rfl hQ dX5_minds_41
      · refine lv_iload (pc := 26) hx hb dX5_minds_26 (lv_at hl 4 rfl) ?_
        refine lv_aload_n (pc := 28) hx hb dX5_minds_28 rfl (lv_at hl 0 rfl) ?_
        refine va_get (D := D) (pc := 29) (ci := 5) (v := .ref h_row) (C := RX5) (T := TX5) (N := 30) hx hb hts nX5_minds_X5 hown hK hP 0 rfl rfl 0 (by decide) (hts _ kX5_minds_0) (fun _ h9 => h9) rfl dX5_minds_29 ?_
        refine lv_bipush (pc := 32) (v := (nI 6)) hx hb dX5_minds_32 (by decide) ?_
        refine za_ialdK (pc := 34) (k := 6) hx hb hK hP 1 1 rfl rfl (by decide) (by decide) dX5_minds_34 ?_
        refine lv_iload_n (pc := 35) hx hb dX5_minds_35 rfl (lv_at hl 3 rfl) ?_
        refine lv_isub (pc := 36) hx hb dX5_minds_36 ?_
        refine zb_icmp_le (pc := 37) (tgt := 42) hx hb dX5_minds_37 (by decide) hF (fun c_37 hF => ?_) (fun c_37 hF => ?_)
        · refine lv_aload_n (pc := 42) hx hb dX5_minds_42 rfl (lv_at hl 0 rfl) ?_
          refine lv_iload_n (pc := 43) hx hb dX5_minds_43 rfl (lv_at hl 1 rfl) ?_
          refine lv_iconst (pc := 44) (v := (nI 0)) hx hb dX5_minds_44 (by decide) ?_
          obtain ⟨u45, hu45, hF⟩ := z_bind hF
          refine zq_call (oc0 := (some (.int u45))) (va_runV (As := [.int x1, .int (nI 0)]) (rest := []) ⟨hx, hb, hml, hown, hts⟩ (tX5_lacksSort (l := l) (D := D) (cB := cB) (cI := cI) (cJ := cJ) (cO := cO) h0 h_sorts (.ref h_row) g_fresh g_kept g_tried g_isKept g_viewed g_tape g_tapeMany g_sort g_begins g_tokenEnds g_word g_value g_good g_growing g_rows g_must g_rowMany (.ref h_sizes) (.ref h_sheets) g_holds g_heldNumber g_heldSize g_kind g_number g_ownHand g_traced g_bodies g_isParted v_sorts x1 (nI 0) u45 hu45) (cwV 2 hts gX5_minds_X5_lacksSort rfl rfl rfl (by decide +kernel) ⟨Nat.le_of_ble_eq_true rfl, Nat.le_of_ble_eq_true rfl⟩) ⟨zPre_blind, va_recv hK hP (ci := 5) (q0 := 0) rfl rfl, zPre_at hP hE (zD_re hD rfl) [0, 2] rfl rfl⟩ rfl rfl hl.1 rfl (lv_room (Nat.le_of_ble_eq_true rfl)) dX5_minds_45 ⟨Nat.zero_le _, Nat.zero_le _⟩) ?_
          refine W.eq (g2 := F0 m 48 ls [.int u45]) rfl ?_
          refine lv_istore (pc := 48) (lv' := [(5, .int u45), (0, .ref h0), (1, .int x1), (2, .int x2), (3, .int x3), (4, .int x4)]) hx hb dX5_minds_48 hl (by decide) rfl (fun ls hl => ?_)
          refine lv_iload (pc := 50) hx hb dX5_minds_50 (lv_at hl 0 rfl) ?_
          refine zb_if_eq (pc := 52) (tgt := 58) hx hb dX5_minds_52 (by decide) hF (fun c_52 hF => ?_) (fun c_52 hF => ?_)
          · refine lv_iload_n (pc := 58) hx hb dX5_minds_58 rfl (lv_at hl 3 rfl) ?_
            refine zb_if_lt (pc := 59) (tgt := 75) hx hb dX5_minds_59 (by decide) hF (fun c_59 hF => ?_) (fun c_59 hF => ?_)
            · refine lv_bipush (pc := 75) (v := (-12 : Int32)) hx hb dX5_minds_75 (by decide) ?_
              exact z_iretM (pc := 77) (fun q => q.1) (fun q => (wX5_minds cB cI cJ cO h0 h_row h_sorts h_sizes h_sheets g_fresh g_kept g_tried g_isKept g_viewed g_tape g_tapeMany g_sort g_begins g_tokenEnds g_word g_value g_good g_growing g_rows g_must g_rowMany g_holds g_heldNumber g_heldSize g_kind g_number g_ownHand g_traced g_bodies g_isParted q.2 v_sorts v_sizes v_sheets)) hx hb hr hlocks hP hS hF rfl hQ dX5_minds_77
            · refine lv_iload_n (pc := 62) hx hb dX5_minds_62 rfl (lv_at hl 3 rfl) ?_
              refine lv_aload_n (pc := 63) hx hb dX5_minds_63 rfl (lv_at hl 1 rfl) ?_
              refine va_get (D := D) (pc := 64) (ci := 5) (v := .ref h_sizes) (C := RX5) (T := TX5) (N := 30) hx hb hts nX5_minds_X5 hown hK hP 0 rfl rfl 19 (by decide) (hts _ kX5_minds_1) (fun _ h9 => h9) rfl dX5_minds_64 ?_
              refine lv_iload_n (pc := 67) hx hb dX5_minds_67 rfl (lv_at hl 2 rfl) ?_
              refine za_iald (pc := 68) hx hb hK hP 3 1 rfl rfl dX5_minds_68 hF (fun hF => ?_)
              refine lv_iload (pc := 69) hx hb dX5_minds_69 (lv_at hl 5 rfl) ?_
              refine lv_isub (pc := 71) hx hb dX5_minds_71 ?_
              refine zb_icmp_le (pc := 72) (tgt := 78) hx hb dX5_minds_72 (by decide) hF (fun c_72 hF => ?_) (fun c_72 hF => ?_)
              · refine lv_iconst (pc := 78) (v := (nI 0)) hx hb dX5_minds_78 (by decide) ?_
                refine lv_istore (pc := 79) (lv' := [(6, .int (nI 0)), (5, .int u45), (0, .ref h0), (1, .int x1), (2, .int x2), (3, .int x3), (4, .int x4)]) hx hb dX5_minds_79 hl (by decide) rfl (fun ls hl => ?_)
                obtain ⟨k_4, hk_4, hF⟩ := z_J hF
                have kk_4 : ∀ (v_row_3 : Nat → Int32) , k_4 v_row_3 = some r → ∀ (H : Heap) (locs : List Loc), va_P D vwCl (wX5_minds cB cI cJ cO h0 h_row h_sorts h_sizes h_sheets g_fresh g_kept g_tried g_isKept g_viewed g_tape g_tapeMany g_sort g_begins g_tokenEnds g_word g_value g_good g_growing g_rows g_must g_rowMany g_holds g_heldNumber g_heldSize g_kind g_number g_ownHand g_traced g_bodies g_isParted v_row_3 v_sorts v_sizes v_sheets) H → va_S (zAs [h0, h_row, h_sorts, h_sizes, h_sheets]) s.heap H locs → ∀ (ls : Array Slot), lv_has ls 7 [(4, .int x4)] → W p l e rX5_minds s m args below meth c H locs 0 0 Q (F0 m 124 ls []) := by
                  intro v_row_3 hF H locs hP hS ls hl
                  rw [hk_4] at hF
                  refine lv_iload (pc := 124) hx hb dX5_minds_124 (lv_at hl 0 rfl) ?_
                  exact z_iretM (pc := 126) (fun q => q.1) (fun q => (wX5_minds cB cI cJ cO h0 h_row h_sorts h_sizes h_sheets g_fresh g_kept g_tried g_isKept g_viewed g_tape g_tapeMany g_sort g_begins g_tokenEnds g_word g_value g_good g_growing g_rows g_must g_rowMany g_holds g_heldNumber g_heldSize g_kind g_number g_ownHand g_traced g_bodies g_isParted q.2 v_sorts v_sizes v_sheets)) hx hb hr hlocks hP hS hF rfl hQ dX5_minds_126
                have hL_81 : ∀ (n : Nat) (y6_1 : Int32) (v_row_2 : Nat → Int32) , fX5_minds_L81 v_sheets x1 x2 x3 x4 k_4 n y6_1 v_row_2 = some r → ∀ (H : Heap) (locs : List Loc), va_P D vwCl (wX5_minds cB cI cJ cO h0 h_row h_sorts h_sizes h_sheets g_fresh g_kept g_tried g_isKept g_viewed g_tape g_tapeMany g_sort g_begins g_tokenEnds g_word g_value g_good g_growing g_rows g_must g_rowMany g_holds g_heldNumber g_heldSize g_kind g_number g_ownHand g_traced g_bodies g_isParted v_row_2 v_sorts v_sizes v_sheets) H → va_S (zAs [h0, h_row, h_sorts, h_sizes, h_sheets]) s.heap H locs → ∀ (ls : Array Slot), lv_has ls 7 [(0, .ref h0), (1, .int x1), (2, .int x2), (3, .int x3), (4, .int x4), (6, .int y6_1)] → W p l e rX5_minds s m args below meth c H locs 0 0 Q (F0 m 81 ls []) := by
                  intro n
                  induction n with
                  | zero =>
                    intro y6_1 v_row_2 hF H locs hP hS ls hl
                    exact z_no hF
                  | succ n ih =>
                    intro y6_1 v_row_2 hF H locs hP hS ls hl
                    rw [fX5_minds_L81] at hF
                    refine lv_iload (pc := 81) hx hb dX5_minds_81 (lv_at hl 5 rfl) ?_
                    refine lv_iload (pc := 83) hx hb dX5_minds_83 (lv_at hl 4 rfl) ?_
                    refine zb_icmp_ge (pc := 85) (tgt := 124) hx hb dX5_minds_85 (by decide) hF (fun c_85 hF => ?_) (fun c_85 hF => ?_)
                    · exact kk_4 v_row_2 hF H locs hP hS ls (lv_sub hl [4] rfl)
                    · refine lv_aload_n (pc := 88) hx hb dX5_minds_88 rfl (lv_at hl 0 rfl) ?_
                      refine lv_iload_n (pc := 89) hx hb dX5_minds_89 rfl (lv_at hl 3 rfl) ?_
                      refine lv_iload (pc := 90) hx hb dX5_minds_90 (lv_at hl 5 rfl) ?_
                      refine lv_iadd (pc := 92) hx hb dX5_minds_92 ?_
                      refine lv_iconst (pc := 93) (v := (nI 2)) hx hb dX5_minds_93 (by decide) ?_
                      refine lv_aload_n (pc := 94) hx hb dX5_minds_94 rfl (lv_at hl 0 rfl) ?_
                      refine va_get (D := D) (pc := 95) (ci := 5) (v := .ref h_sheets) (C := RX5) (T := TX5) (N := 30) hx hb hts nX5_minds_X5 hown hK hP 0 rfl rfl 20 (by decide) (hts _ kX5_minds_2) (fun _ h9 => h9) rfl dX5_minds_95 ?_
                      refine lv_bipush (pc := 98) (v := (nI 40)) hx hb dX5_minds_98 (by decide) ?_
                      refine lv_iload_n (pc := 100) hx hb dX5_minds_100 rfl (lv_at hl 1 rfl) ?_
                      refine lv_imul (pc := 101) hx hb dX5_minds_101 ?_
                      refine lv_iload_n (pc := 102) hx hb dX5_minds_102 rfl (lv_at hl 2 rfl) ?_
                      refine lv_iadd (pc := 103) hx hb dX5_minds_103 ?_
                      refine lv_iload (pc := 104) hx hb dX5_minds_104 (lv_at hl 5 rfl) ?_
                      refine lv_iadd (pc := 106) hx hb dX5_minds_106 ?_
                      refine za_lald (pc := 107) hx hb hK hP 4 2 rfl rfl dX5_minds_107 hF (fun hF => ?_)
                      refine lv_l2i (pc := 108) (v := (v_sheets ((((nI 40) * x1) + x2) + y6_1).toNatClampNeg).toInt32) hx hb dX5_minds_108 rfl ?_
                      refine lv_iconst (pc := 109) (v := (nI 0)) hx hb dX5_minds_109 (by decide) ?_
                      refine lv_bipush (pc := 110) (v := (nI 99)) hx hb dX5_minds_110 (by decide) ?_
                      obtain ⟨u112, hu112, hF⟩ := z_bind hF
                      refine zq_call (oc0 := (some (.int u112))) (va_runS (As := [.int ((v_sheets ((((nI 40) * x1) + x2) + y6_1).toNatClampNeg).toInt32), .int (nI 0), .int (nI 99)]) (rest := [.int (nI 2), .int (x3 + y6_1), .ref h0]) ⟨hx, hb, hml, hown, hts⟩ (tX5_held (l := l) (D := D) (cB := cB) (cI := cI) (cJ := cJ) (cO := cO) ((v_sheets ((((nI 40) * x1) + x2) + y6_1).toNatClampNeg).toInt32) (nI 0) (nI 99) u112 hu112) (va_cwS 3 hts gX5_minds_X5_held rfl rfl rfl (by decide +kernel) ⟨Nat.le_of_ble_eq_true rfl, Nat.le_of_ble_eq_true rfl⟩) ⟨zPre_blind, zPre_at hP hE (zD_re hD rfl) [] rfl rfl⟩ rfl rfl hl.1 rfl (lv_room (Nat.le_of_ble_eq_true rfl)) dX5_minds_112 ⟨Nat.zero_le _, Nat.zero_le _⟩) ?_
                      refine W.eq (g2 := F0 m 115 ls [.int u112, .int (nI 2), .int (x3 + y6_1), .ref h0]) rfl ?_
                      obtain ⟨u115, hu115, hF⟩ := z_bind hF
                      refine zq_callM (oc0 := none) (wc := wX5_sets cB cI cJ cO h0 h_row g_fresh g_kept g_tried g_isKept g_viewed g_tape g_tapeMany g_sort g_begins g_tokenEnds g_word g_value g_good g_growing g_rows g_must g_rowMany (.ref h_sorts) (.ref h_sizes) (.ref h_sheets) g_holds g_heldNumber g_heldSize g_kind g_number g_ownHand g_traced g_bodies g_isParted v_row_2) (wc' := wX5_sets cB cI cJ cO h0 h_row g_fresh g_kept g_tried g_isKept g_viewed g_tape g_tapeMany g_sort g_begins g_tokenEnds g_word g_value g_good g_growing g_rows g_must g_rowMany (.ref h_sorts) (.ref h_sizes) (.ref h_sheets) g_holds g_heldNumber g_heldSize g_kind g_number g_ownHand g_traced g_bodies g_isParted u115) (ws' := (wX5_minds cB cI cJ cO h0 h_row h_sorts h_sizes h_sheets g_fresh g_kept g_tried g_isKept g_viewed g_tape g_tapeMany g_sort g_begins g_tokenEnds g_word g_value g_good g_growing g_rows g_must g_rowMany g_holds g_heldNumber g_heldSize g_kind g_number g_ownHand g_traced g_bodies g_isParted u115 v_sorts v_sizes v_sheets)) (va_runV (As := [.int (x3 + y6_1), .int (nI 2), .int u112]) (rest := []) ⟨hx, hb, hml, hown, hts⟩ (tX5_sets (l := l) (D := D) (cB := cB) (cI := cI) (cJ := cJ) (cO := cO) h0 h_row g_fresh g_kept g_tried g_isKept g_viewed g_tape g_tapeMany g_sort g_begins g_tokenEnds g_word g_value g_good g_growing g_rows g_must g_rowMany (.ref h_sorts) (.ref h_sizes) (.ref h_sheets) g_holds g_heldNumber g_heldSize g_kind g_number g_ownHand g_traced g_bodies g_isParted v_row_2 (x3 + y6_1) (nI 2) u112 u115 hu115) (cwV 3 hts gX5_minds_X5_sets rfl rfl rfl (by decide +kernel) ⟨Nat.le_of_ble_eq_true rfl, Nat.le_of_ble_eq_true rfl⟩) ⟨zPre_blind, va_recv hK hP (ci := 5) (q0 := 0) rfl rfl, zPre_at hP hE (zD_re hD rfl) [0, 1] rfl rfl⟩ rfl rfl hl.1 rfl (lv_room (Nat.le_of_ble_eq_true rfl)) dX5_minds_115 ⟨Nat.zero_le _, Nat.zero_le _⟩) rfl hP (zD_re hD rfl) hS [0, 1] rfl rfl [some 0, some 1, none, none, none] rfl rfl rfl rfl (fun H locs hP hS => ?_)
                      refine W.eq (g2 := F0 m 118 ls []) rfl ?_
                      refine lv_iinc (pc := 118) (v := (y6_1 + 1)) (lv' := [(6, .int (y6_1 + 1)), (0, .ref h0), (1, .int x1), (2, .int x2), (3, .int x3), (4, .int x4)]) hx hb dX5_minds_118 hl (k := 5) rfl rfl (by decide) rfl (fun ls hl => ?_)
                      refine lv_goto (pc := 121) (tgt := 81) hx hb dX5_minds_121 (by decide) ?_
                      exact ih (y6_1 + 1) u115 hF H locs hP hS ls (lv_sub hl [1, 2, 3, 4, 5, 0] rfl)
                exact hL_81 zK (nI 0) v_row hF H locs hP hS ls (lv_sub hl [2, 3, 4, 5, 6, 0] rfl)
              · refine lv_bipush (pc := 75) (v := (-12 : Int32)) hx hb dX5_minds_75 (by decide) ?_
                exact z_iretM (pc := 77) (fun q => q.1) (fun q => (wX5_minds cB cI cJ cO h0 h_row h_sorts h_sizes h_sheets g_fresh g_kept g_tried g_isKept g_viewed g_tape g_tapeMany g_sort g_begins g_tokenEnds g_word g_value g_good g_growing g_rows g_must g_rowMany g_holds g_heldNumber g_heldSize g_kind g_number g_ownHand g_traced g_bodies g_isParted q.2 v_sorts v_sizes v_sheets)) hx hb hr hlocks hP hS hF rfl hQ dX5_minds_77
          · refine lv_iload (pc := 55) hx hb dX5_minds_55 (lv_at hl 0 rfl) ?_
            exact z_iretM (pc := 57) (fun q => q.1) (fun q => (wX5_minds cB cI cJ cO h0 h_row h_sorts h_sizes h_sheets g_fresh g_kept g_tried g_isKept g_viewed g_tape g_tapeMany g_sort g_begins g_tokenEnds g_word g_value g_good g_growing g_rows g_must g_rowMany g_holds g_heldNumber g_heldSize g_kind g_number g_ownHand g_traced g_bodies g_isParted q.2 v_sorts v_sizes v_sheets)) hx hb hr hlocks hP hS hF rfl hQ dX5_minds_57
        · refine lv_iconst (pc := 40) (v := (-1 : Int32)) hx hb dX5_minds_40 (by decide) ?_
          exact z_iretM (pc := 41) (fun q => q.1) (fun q => (wX5_minds cB cI cJ cO h0 h_row h_sorts h_sizes h_sheets g_fresh g_kept g_tried g_isKept g_viewed g_tape g_tapeMany g_sort g_begins g_tokenEnds g_word g_value g_good g_growing g_rows g_must g_rowMany g_holds g_heldNumber g_heldSize g_kind g_number g_ownHand g_traced g_bodies g_isParted q.2 v_sorts v_sizes v_sheets)) hx hb hr hlocks hP hS hF rfl hQ dX5_minds_41

abbrev rX5_sheet : Room := { frames := 2, cells := 0, slots := 0, locals := 42 }
abbrev wX5_sheet (cB cI cJ cO : ClassId) (h0 h_sorts h_sizes h_sheets : Nat) (g_row g_fresh g_kept g_tried g_isKept g_viewed g_tape g_tapeMany g_sort g_begins g_tokenEnds g_word g_value g_good g_growing g_rows g_must g_rowMany g_holds g_heldNumber g_heldSize g_kind g_number g_ownHand g_traced g_bodies g_isParted : Value) (v_sorts : Nat → Int32) (v_sizes : Nat → Int32) (v_sheets : Nat → Int64) : va_W := [(h0, .inr (5, [g_row, g_fresh, g_kept, g_tried, g_isKept, g_viewed, g_tape, g_tapeMany, g_sort, g_begins, g_tokenEnds, g_word, g_value, g_good, g_growing, g_rows, g_must, g_rowMany, .ref h_sorts, .ref h_sizes, .ref h_sheets, g_holds, g_heldNumber, g_heldSize, g_kind, g_number, g_ownHand, g_traced, g_bodies, g_isParted])), (h_sorts, .inl (cI, 4, .inl v_sorts)), (h_sizes, .inl (cI, 4, .inl v_sizes)), (h_sheets, .inl (cJ, 160, .inr (.inl v_sheets)))]
theorem nX5_sheet_X5 : ∀ w ∈ wsX50, w ∈ wsX5_sheet := by decide +kernel
theorem kX5_sheet_0 : Cond.fieldLink RX5 34 "PaintedWallsModel" "sorts" "[I" ∈ wsX5_sheet := by decide +kernel
theorem kX5_sheet_1 : Cond.fieldLink RX5 37 "PaintedWallsModel" "sizes" "[I" ∈ wsX5_sheet := by decide +kernel
theorem kX5_sheet_2 : Cond.fieldLink RX5 40 "PaintedWallsModel" "sheets" "[J" ∈ wsX5_sheet := by decide +kernel
set_option maxHeartbeats 4000000 in
set_option maxRecDepth 100000 in
theorem tX5_sheet {l : Launch} {D : va_G} {cB cI cJ cO : ClassId} (h0 h_sorts h_sizes h_sheets : Nat) (g_row g_fresh g_kept g_tried g_isKept g_viewed g_tape g_tapeMany g_sort g_begins g_tokenEnds g_word g_value g_good g_growing g_rows g_must g_rowMany g_holds g_heldNumber g_heldSize g_kind g_number g_ownHand g_traced g_bodies g_isParted : Value) (v_sorts : Nat → Int32) (v_sizes : Nat → Int32) (v_sheets : Nat → Int64) (x1 : Int32) (x2 : Int32) (x3 : Int32) (r : Int32 × (Nat → Int32) × (Nat → Int32) × (Nat → Int64)) (hF : fX5_sheet v_sorts v_sizes v_sheets x1 x2 x3 = some r) : Met l yX5_sheet wsX5_sheet rX5_sheet (zPre D cB cI cJ cO [.ref h0, .int x1, .int x2, .int x3] (wX5_sheet cB cI cJ cO h0 h_sorts h_sizes h_sheets g_row g_fresh g_kept g_tried g_isKept g_viewed g_tape g_tapeMany g_sort g_begins g_tokenEnds g_word g_value g_good g_growing g_rows g_must g_rowMany g_holds g_heldNumber g_heldSize g_kind g_number g_ownHand g_traced g_bodies g_isParted v_sorts v_sizes v_sheets)) (zPM (some (.int r.1)) D (wX5_sheet cB cI cJ cO h0 h_sorts h_sizes h_sheets g_row g_fresh g_kept g_tried g_isKept g_viewed g_tape g_tapeMany g_sort g_begins g_tokenEnds g_word g_value g_good g_growing g_rows g_must g_rowMany g_holds g_heldNumber g_heldSize g_kind g_number g_ownHand g_traced g_bodies g_isParted r.2.1 r.2.2.1 r.2.2.2) (zAs [h0, h_sorts, h_sizes, h_sheets])) 0 0 (zAs [h0, h_sorts, h_sizes, h_sheets]) := by
  refine zMetM (cc := cX5_sheet) (maxL := 5) (ret := (some .int)) (lv := [(0, .ref h0), (1, .int x1), (2, .int x2), (3, .int x3)]) rfl (by decide) rfl (Nat.le_of_ble_eq_true rfl) rfl ?_
  intro p e s m args below meth c ls Q H locs hQ hx hb hr hml hown hts hlocks hname hP hE hD hS hl
  have hown : s.vm.findClass RX5 = some m.cls := hown
  have hK := hE.1
  unfold fX5_sheet at hF
  refine lv_iload_n (pc := 0) hx hb dX5_sheet_0 rfl (lv_at hl 1 rfl) ?_
  obtain ⟨u1, hu1, hF⟩ := z_bind hF
  refine zq_call (oc0 := (some (.int u1))) (va_runS (As := [.int x1]) (rest := []) ⟨hx, hb, hml, hown, hts⟩ (tX5_isShelf (l := l) (D := D) (cB := cB) (cI := cI) (cJ := cJ) (cO := cO) x1 u1 hu1) (va_cwS 1 hts gX5_sheet_X5_isShelf rfl rfl rfl (by decide +kernel) ⟨Nat.le_of_ble_eq_true rfl, Nat.le_of_ble_eq_true rfl⟩) ⟨zPre_blind, zPre_at hP hE (zD_re hD rfl) [] rfl rfl⟩ rfl rfl hl.1 rfl (lv_room (Nat.le_of_ble_eq_true rfl)) dX5_sheet_1 ⟨Nat.zero_le _, Nat.zero_le _⟩) ?_
  refine W.eq (g2 := F0 m 4 ls [.int u1]) rfl ?_
  refine zb_if_eq (pc := 4) (tgt := 26) hx hb dX5_sheet_4 (by decide) hF (fun c_4 hF => ?_) (fun c_4 hF => ?_)
  · refine lv_iconst (pc := 26) (v := (-1 : Int32)) hx hb dX5_sheet_26 (by decide) ?_
    exact z_iretM (pc := 27) (fun q => q.1) (fun q => (wX5_sheet cB cI cJ cO h0 h_sorts h_sizes h_sheets g_row g_fresh g_kept g_tried g_isKept g_viewed g_tape g_tapeMany g_sort g_begins g_tokenEnds g_word g_value g_good g_growing g_rows g_must g_rowMany g_holds g_heldNumber g_heldSize g_kind g_number g_ownHand g_traced g_bodies g_isParted q.2.1 q.2.2.1 q.2.2.2)) hx hb hr hlocks hP hS hF rfl hQ dX5_sheet_27
  · refine lv_iload_n (pc := 7) hx hb dX5_sheet_7 rfl (lv_at hl 2 rfl) ?_
    refine lv_iconst (pc := 8) (v := (-1 : Int32)) hx hb dX5_sheet_8 (by decide) ?_
    refine lv_iconst (pc := 9) (v := (nI 3)) hx hb dX5_sheet_9 (by decide) ?_
    obtain ⟨u10, hu10, hF⟩ := z_bind hF
    refine zq_call (oc0 := (some (.int u10))) (va_runS (As := [.int x2, .int (-1 : Int32), .int (nI 3)]) (rest := []) ⟨hx, hb, hml, hown, hts⟩ (tX5_in (l := l) (D := D) (cB := cB) (cI := cI) (cJ := cJ) (cO := cO) x2 (-1 : Int32) (nI 3) u10 hu10) (va_cwS 3 hts gX5_sheet_X5_in rfl rfl rfl (by decide +kernel) ⟨Nat.le_of_ble_eq_true rfl, Nat.le_of_ble_eq_true rfl⟩) ⟨zPre_blind, zPre_at hP hE (zD_re hD rfl) [] rfl rfl⟩ rfl rfl hl.1 rfl (lv_room (Nat.le_of_ble_eq_true rfl)) dX5_sheet_10 ⟨Nat.zero_le _, Nat.zero_le _⟩) ?_
    refine W.eq (g2 := F0 m 13 ls [.int u10]) rfl ?_
    refine zb_if_eq (pc := 13) (tgt := 26) hx hb dX5_sheet_13 (by decide) hF (fun c_13 hF => ?_) (fun c_13 hF => ?_)
    · refine lv_iconst (pc := 26) (v := (-1 : Int32)) hx hb dX5_sheet_26 (by decide) ?_
      exact z_iretM (pc := 27) (fun q => q.1) (fun q => (wX5_sheet cB cI cJ cO h0 h_sorts h_sizes h_sheets g_row g_fresh g_kept g_tried g_isKept g_viewed g_tape g_tapeMany g_sort g_begins g_tokenEnds g_word g_value g_good g_growing g_rows g_must g_rowMany g_holds g_heldNumber g_heldSize g_kind g_number g_ownHand g_traced g_bodies g_isParted q.2.1 q.2.2.1 q.2.2.2)) hx hb hr hlocks hP hS hF rfl hQ dX5_sheet_27
    · refine lv_iload_n (pc := 16) hx hb dX5_sheet_16 rfl (lv_at hl 2 rfl) ?_
      obtain ⟨J_1, hJ_1, hF⟩ := z_J hF
      have kJ_1 : J_1 = some r → ∀ (H : Heap) (locs : List Loc), va_P D vwCl (wX5_sheet cB cI cJ cO h0 h_sorts h_sizes h_sheets g_row g_fresh g_kept g_tried g_isKept g_viewed g_tape g_tapeMany g_sort g_begins g_tokenEnds g_word g_value g_good g_growing g_rows g_must g_rowMany g_holds g_heldNumber g_heldSize g_kind g_number g_ownHand g_traced g_bodies g_isParted v_sorts v_sizes v_sheets) H → va_S (zAs [h0, h_sorts, h_sizes, h_sheets]) s.heap H locs → ∀ (ls : Array Slot), lv_has ls 5 [(0, .ref h0), (1, .int x1), (2, .int x2), (3, .int x3)] → W p l e rX5_sheet s m args below meth c H locs 0 0 Q (F0 m 28 ls []) := by
        intro  hF H locs hP hS ls hl
        rw [hJ_1] at hF
        refine lv_iload_n (pc := 28) hx hb dX5_sheet_28 rfl (lv_at hl 2 rfl) ?_
        obtain ⟨J_2, hJ_2, hF⟩ := z_J hF
        have kJ_2 : J_2 = some r → ∀ (H : Heap) (locs : List Loc), va_P D vwCl (wX5_sheet cB cI cJ cO h0 h_sorts h_sizes h_sheets g_row g_fresh g_kept g_tried g_isKept g_viewed g_tape g_tapeMany g_sort g_begins g_tokenEnds g_word g_value g_good g_growing g_rows g_must g_rowMany g_holds g_heldNumber g_heldSize g_kind g_number g_ownHand g_traced g_bodies g_isParted v_sorts v_sizes v_sheets) H → va_S (zAs [h0, h_sorts, h_sizes, h_sheets]) s.heap H locs → ∀ (ls : Array Slot), lv_has ls 5 [(0, .ref h0), (1, .int x1), (2, .int x2), (3, .int x3)] → W p l e rX5_sheet s m args below meth c H locs 0 0 Q (F0 m 39 ls []) := by
          intro  hF H locs hP hS ls hl
          rw [hJ_2] at hF
          refine lv_aload_n (pc := 39) hx hb dX5_sheet_39 rfl (lv_at hl 0 rfl) ?_
          refine va_get (D := D) (pc := 40) (ci := 5) (v := .ref h_sorts) (C := RX5) (T := TX5) (N := 30) hx hb hts nX5_sheet_X5 hown hK hP 0 rfl rfl 18 (by decide) (hts _ kX5_sheet_0) (fun _ h9 => h9) rfl dX5_sheet_40 ?_
          refine lv_iload_n (pc := 43) hx hb dX5_sheet_43 rfl (lv_at hl 1 rfl) ?_
          refine lv_iload_n (pc := 44) hx hb dX5_sheet_44 rfl (lv_at hl 2 rfl) ?_
          refine za_iast (pc := 45) hx hb hK hP (zD_re hD rfl) hS 1 1 rfl rfl dX5_sheet_45 hF (fun hF H locs hP hS => ?_)
          have hP : va_P D vwCl (wX5_sheet cB cI cJ cO h0 h_sorts h_sizes h_sheets g_row g_fresh g_kept g_tried g_isKept g_viewed g_tape g_tapeMany g_sort g_begins g_tokenEnds g_word g_value g_good g_growing g_rows g_must g_rowMany g_holds g_heldNumber g_heldSize g_kind g_number g_ownHand g_traced g_bodies g_isParted (upd v_sorts x1.toNatClampNeg x2) v_sizes v_sheets) H := hP
          refine lv_aload_n (pc := 46) hx hb dX5_sheet_46 rfl (lv_at hl 0 rfl) ?_
          refine va_get (D := D) (pc := 47) (ci := 5) (v := .ref h_sizes) (C := RX5) (T := TX5) (N := 30) hx hb hts nX5_sheet_X5 hown hK hP 0 rfl rfl 19 (by decide) (hts _ kX5_sheet_1) (fun _ h9 => h9) rfl dX5_sheet_47 ?_
          refine lv_iload_n (pc := 50) hx hb dX5_sheet_50 rfl (lv_at hl 1 rfl) ?_
          refine lv_iload_n (pc := 51) hx hb dX5_sheet_51 rfl (lv_at hl 2 rfl) ?_
          obtain ⟨J_4, hJ_4, hF⟩ := z_J hF
          have kJ_4 : ∀ (t2_3 : Int32) , J_4 t2_3 = some r → ∀ (H : Heap) (locs : List Loc), va_P D vwCl (wX5_sheet cB cI cJ cO h0 h_sorts h_sizes h_sheets g_row g_fresh g_kept g_tried g_isKept g_viewed g_tape g_tapeMany g_sort g_begins g_tokenEnds g_word g_value g_good g_growing g_rows g_must g_rowMany g_holds g_heldNumber g_heldSize g_kind g_number g_ownHand g_traced g_bodies g_isParted (upd v_sorts x1.toNatClampNeg x2) v_sizes v_sheets) H → va_S (zAs [h0, h_sorts, h_sizes, h_sheets]) s.heap H locs → ∀ (ls : Array Slot), lv_has ls 5 [(0, .ref h0), (1, .int x1)] → W p l e rX5_sheet s m args below meth c H locs 0 0 Q (F0 m 60 ls [.int t2_3, .int x1, .ref h_sizes]) := by
            intro t2_3 hF H locs hP hS ls hl
            rw [hJ_4] at hF
            refine za_iast (pc := 60) hx hb hK hP (zD_re hD rfl) hS 2 1 rfl rfl dX5_sheet_60 hF (fun hF H locs hP hS => ?_)
            have hP : va_P D vwCl (wX5_sheet cB cI cJ cO h0 h_sorts h_sizes h_sheets g_row g_fresh g_kept g_tried g_isKept g_viewed g_tape g_tapeMany g_sort g_begins g_tokenEnds g_word g_value g_good g_growing g_rows g_must g_rowMany g_holds g_heldNumber g_heldSize g_kind g_number g_ownHand g_traced g_bodies g_isParted (upd v_sorts x1.toNatClampNeg x2) (upd v_sizes x1.toNatClampNeg t2_3) v_sheets) H := hP
            refine lv_iconst (pc := 61) (v := (nI 0)) hx hb dX5_sheet_61 (by decide) ?_
            refine lv_istore (pc := 62) (lv' := [(4, .int (nI 0)), (0, .ref h0), (1, .int x1)]) hx hb dX5_sheet_62 hl (by decide) rfl (fun ls hl => ?_)
            obtain ⟨k_8, hk_8, hF⟩ := z_J hF
            have kk_8 : ∀ (v_sheets_7 : Nat → Int64) , k_8 v_sheets_7 = some r → ∀ (H : Heap) (locs : List Loc), va_P D vwCl (wX5_sheet cB cI cJ cO h0 h_sorts h_sizes h_sheets g_row g_fresh g_kept g_tried g_isKept g_viewed g_tape g_tapeMany g_sort g_begins g_tokenEnds g_word g_value g_good g_growing g_rows g_must g_rowMany g_holds g_heldNumber g_heldSize g_kind g_number g_ownHand g_traced g_bodies g_isParted (upd v_sorts x1.toNatClampNeg x2) (upd v_sizes x1.toNatClampNeg t2_3) v_sheets_7) H → va_S (zAs [h0, h_sorts, h_sizes, h_sheets]) s.heap H locs → ∀ (ls : Array Slot), lv_has ls 5 [] → W p l e rX5_sheet s m args below meth c H locs 0 0 Q (F0 m 90 ls []) := by
              intro v_sheets_7 hF H locs hP hS ls hl
              rw [hk_8] at hF
              refine lv_iconst (pc := 90) (v := (nI 1)) hx hb dX5_sheet_90 (by decide) ?_
              exact z_iretM (pc := 91) (fun q => q.1) (fun q => (wX5_sheet cB cI cJ cO h0 h_sorts h_sizes h_sheets g_row g_fresh g_kept g_tried g_isKept g_viewed g_tape g_tapeMany g_sort g_begins g_tokenEnds g_word g_value g_good g_growing g_rows g_must g_rowMany g_holds g_heldNumber g_heldSize g_kind g_number g_ownHand g_traced g_bodies g_isParted q.2.1 q.2.2.1 q.2.2.2)) hx hb hr hlocks hP hS hF rfl hQ dX5_sheet_91
            have hL_64 : ∀ (n : Nat) (y4_5 : Int32) (v_sheets_6 : Nat → Int64) , fX5_sheet_L64 x1 k_8 n y4_5 v_sheets_6 = some r → ∀ (H : Heap) (locs : List Loc), va_P D vwCl (wX5_sheet cB cI cJ cO h0 h_sorts h_sizes h_sheets g_row g_fresh g_kept g_tried g_isKept g_viewed g_tape g_tapeMany g_sort g_begins g_tokenEnds g_word g_value g_good g_growing g_rows g_must g_rowMany g_holds g_heldNumber g_heldSize g_kind g_number g_ownHand g_traced g_bodies g_isParted (upd v_sorts x1.toNatClampNeg x2) (upd v_sizes x1.toNatClampNeg t2_3) v_sheets_6) H → va_S (zAs [h0, h_sorts, h_sizes, h_sheets]) s.heap H locs → ∀ (ls : Array Slot), lv_has ls 5 [(0, .ref h0), (1, .int x1), (4, .int y4_5)] → W p l e rX5_sheet s m args below meth c H locs 0 0 Q (F0 m 64 ls []) := by
              intro n
              induction n with
              | zero =>
                intro y4_5 v_sheets_6 hF H locs hP hS ls hl
                exact z_no hF
              | succ n ih =>
                intro y4_5 v_sheets_6 hF H locs hP hS ls hl
                rw [fX5_sheet_L64] at hF
                refine lv_iload (pc := 64) hx hb dX5_sheet_64 (lv_at hl 2 rfl) ?_
                refine lv_bipush (pc := 66) (v := (nI 40)) hx hb dX5_sheet_66 (by decide) ?_
                refine zb_icmp_ge (pc := 68) (tgt := 90) hx hb dX5_sheet_68 (by decide) hF (fun c_68 hF => ?_) (fun c_68 hF => ?_)
                · exact kk_8 v_sheets_6 hF H locs hP hS ls (lv_sub hl [] rfl)
                · refine lv_aload_n (pc := 71) hx hb dX5_sheet_71 rfl (lv_at hl 0 rfl) ?_
                  refine va_get (D := D) (pc := 72) (ci := 5) (v := .ref h_sheets) (C := RX5) (T := TX5) (N := 30) hx hb hts nX5_sheet_X5 hown hK hP 0 rfl rfl 20 (by decide) (hts _ kX5_sheet_2) (fun _ h9 => h9) rfl dX5_sheet_72 ?_
                  refine lv_bipush (pc := 75) (v := (nI 40)) hx hb dX5_sheet_75 (by decide) ?_
                  refine lv_iload_n (pc := 77) hx hb dX5_sheet_77 rfl (lv_at hl 1 rfl) ?_
                  refine lv_imul (pc := 78) hx hb dX5_sheet_78 ?_
                  refine lv_iload (pc := 79) hx hb dX5_sheet_79 (lv_at hl 2 rfl) ?_
                  refine lv_iadd (pc := 81) hx hb dX5_sheet_81 ?_
                  refine lv_lconst (pc := 82) (v := (lN 0)) hx hb dX5_sheet_82 (by decide) ?_
                  refine za_last (pc := 83) hx hb hK hP (zD_re hD rfl) hS 3 2 rfl rfl dX5_sheet_83 hF (fun hF H locs hP hS => ?_)
                  have hP : va_P D vwCl (wX5_sheet cB cI cJ cO h0 h_sorts h_sizes h_sheets g_row g_fresh g_kept g_tried g_isKept g_viewed g_tape g_tapeMany g_sort g_begins g_tokenEnds g_word g_value g_good g_growing g_rows g_must g_rowMany g_holds g_heldNumber g_heldSize g_kind g_number g_ownHand g_traced g_bodies g_isParted (upd v_sorts x1.toNatClampNeg x2) (upd v_sizes x1.toNatClampNeg t2_3) (vp_updL v_sheets_6 (((nI 40) * x1) + y4_5).toNatClampNeg (lN 0))) H := hP
                  refine lv_iinc (pc := 84) (v := (y4_5 + 1)) (lv' := [(4, .int (y4_5 + 1)), (0, .ref h0), (1, .int x1)]) hx hb dX5_sheet_84 hl (k := 2) rfl rfl (by decide) rfl (fun ls hl => ?_)
                  refine lv_goto (pc := 87) (tgt := 64) hx hb dX5_sheet_87 (by decide) ?_
                  exact ih (y4_5 + 1) (vp_updL v_sheets_6 (((nI 40) * x1) + y4_5).toNatClampNeg (lN 0)) hF H locs hP hS ls (lv_sub hl [1, 2, 0] rfl)
            exact hL_64 zK (nI 0) v_sheets hF H locs hP hS ls (lv_sub hl [1, 2, 0] rfl)
          refine zb_if_ge (pc := 52) (tgt := 59) hx hb dX5_sheet_52 (by decide) hF (fun c_52 hF => ?_) (fun c_52 hF => ?_)
          · refine lv_iload_n (pc := 59) hx hb dX5_sheet_59 rfl (lv_at hl 3 rfl) ?_
            exact kJ_4 x3 hF H locs hP hS ls (lv_sub hl [0, 1] rfl)
          · refine lv_iconst (pc := 55) (v := (nI 0)) hx hb dX5_sheet_55 (by decide) ?_
            refine lv_goto (pc := 56) (tgt := 60) hx hb dX5_sheet_56 (by decide) ?_
            exact kJ_4 (nI 0) hF H locs hP hS ls (lv_sub hl [0, 1] rfl)
        refine zb_if_lt (pc := 29) (tgt := 39) hx hb dX5_sheet_29 (by decide) hF (fun c_29 hF => ?_) (fun c_29 hF => ?_)
        · exact kJ_2  hF H locs hP hS ls (lv_sub hl [0, 1, 2, 3] rfl)
        · refine lv_iload_n (pc := 32) hx hb dX5_sheet_32 rfl (lv_at hl 3 rfl) ?_
          refine zb_if_ge (pc := 33) (tgt := 39) hx hb dX5_sheet_33 (by decide) hF (fun c_33 hF => ?_) (fun c_33 hF => ?_)
          · exact kJ_2  hF H locs hP hS ls (lv_sub hl [0, 1, 2, 3] rfl)
          · refine lv_bipush (pc := 36) (v := (-14 : Int32)) hx hb dX5_sheet_36 (by decide) ?_
            exact z_iretM (pc := 38) (fun q => q.1) (fun q => (wX5_sheet cB cI cJ cO h0 h_sorts h_sizes h_sheets g_row g_fresh g_kept g_tried g_isKept g_viewed g_tape g_tapeMany g_sort g_begins g_tokenEnds g_word g_value g_good g_growing g_rows g_must g_rowMany g_holds g_heldNumber g_heldSize g_kind g_number g_ownHand g_traced g_bodies g_isParted q.2.1 q.2.2.1 q.2.2.2)) hx hb hr hlocks hP hS hF rfl hQ dX5_sheet_38
      refine zb_if_lt (pc := 17) (tgt := 28) hx hb dX5_sheet_17 (by decide) hF (fun c_17 hF => ?_) (fun c_17 hF => ?_)
      · exact kJ_1  hF H locs hP hS ls (lv_sub hl [0, 1, 2, 3] rfl)
      · refine lv_iload_n (pc := 20) hx hb dX5_sheet_20 rfl (lv_at hl 3 rfl) ?_
        refine lv_bipush (pc := 21) (v := (nI 40)) hx hb dX5_sheet_21 (by decide) ?_
        refine zb_icmp_le (pc := 23) (tgt := 28) hx hb dX5_sheet_23 (by decide) hF (fun c_23 hF => ?_) (fun c_23 hF => ?_)
        · exact kJ_1  hF H locs hP hS ls (lv_sub hl [0, 1, 2, 3] rfl)
        · refine lv_iconst (pc := 26) (v := (-1 : Int32)) hx hb dX5_sheet_26 (by decide) ?_
          exact z_iretM (pc := 27) (fun q => q.1) (fun q => (wX5_sheet cB cI cJ cO h0 h_sorts h_sizes h_sheets g_row g_fresh g_kept g_tried g_isKept g_viewed g_tape g_tapeMany g_sort g_begins g_tokenEnds g_word g_value g_good g_growing g_rows g_must g_rowMany g_holds g_heldNumber g_heldSize g_kind g_number g_ownHand g_traced g_bodies g_isParted q.2.1 q.2.2.1 q.2.2.2)) hx hb hr hlocks hP hS hF rfl hQ dX5_sheet_27

abbrev rX5_put : Room := { frames := 2, cells := 0, slots := 0, locals := 42 }
abbrev wX5_put (cB cI cJ cO : ClassId) (h0 h_sorts h_sizes h_sheets : Nat) (g_row g_fresh g_kept g_tried g_isKept g_viewed g_tape g_tapeMany g_sort g_begins g_tokenEnds g_word g_value g_good g_growing g_rows g_must g_rowMany g_holds g_heldNumber g_heldSize g_kind g_number g_ownHand g_traced g_bodies g_isParted : Value) (v_sorts : Nat → Int32) (v_sizes : Nat → Int32) (v_sheets : Nat → Int64) : va_W := [(h0, .inr (5, [g_row, g_fresh, g_kept, g_tried, g_isKept, g_viewed, g_tape, g_tapeMany, g_sort, g_begins, g_tokenEnds, g_word, g_value, g_good, g_growing, g_rows, g_must, g_rowMany, .ref h_sorts, .ref h_sizes, .ref h_sheets, g_holds, g_heldNumber, g_heldSize, g_kind, g_number, g_ownHand, g_traced, g_bodies, g_isParted])), (h_sorts, .inl (cI, 4, .inl v_sorts)), (h_sizes, .inl (cI, 4, .inl v_sizes)), (h_sheets, .inl (cJ, 160, .inr (.inl v_sheets)))]
theorem nX5_put_X5 : ∀ w ∈ wsX50, w ∈ wsX5_put := by decide +kernel
theorem kX5_put_0 : Cond.fieldLink RX5 34 "PaintedWallsModel" "sorts" "[I" ∈ wsX5_put := by decide +kernel
theorem kX5_put_1 : Cond.fieldLink RX5 37 "PaintedWallsModel" "sizes" "[I" ∈ wsX5_put := by decide +kernel
theorem kX5_put_2 : Cond.fieldLink RX5 40 "PaintedWallsModel" "sheets" "[J" ∈ wsX5_put := by decide +kernel
set_option maxHeartbeats 4000000 in
set_option maxRecDepth 100000 in
theorem tX5_put {l : Launch} {D : va_G} {cB cI cJ cO : ClassId} (h0 h_sorts h_sizes h_sheets : Nat) (g_row g_fresh g_kept g_tried g_isKept g_viewed g_tape g_tapeMany g_sort g_begins g_tokenEnds g_word g_value g_good g_growing g_rows g_must g_rowMany g_holds g_heldNumber g_heldSize g_kind g_number g_ownHand g_traced g_bodies g_isParted : Value) (v_sorts : Nat → Int32) (v_sizes : Nat → Int32) (v_sheets : Nat → Int64) (x1 : Int32) (x2 : Int32) (x3 : Int32) (r : Int32 × (Nat → Int64)) (hF : fX5_put v_sorts v_sizes v_sheets x1 x2 x3 = some r) : Met l yX5_put wsX5_put rX5_put (zPre D cB cI cJ cO [.ref h0, .int x1, .int x2, .int x3] (wX5_put cB cI cJ cO h0 h_sorts h_sizes h_sheets g_row g_fresh g_kept g_tried g_isKept g_viewed g_tape g_tapeMany g_sort g_begins g_tokenEnds g_word g_value g_good g_growing g_rows g_must g_rowMany g_holds g_heldNumber g_heldSize g_kind g_number g_ownHand g_traced g_bodies g_isParted v_sorts v_sizes v_sheets)) (zPM (some (.int r.1)) D (wX5_put cB cI cJ cO h0 h_sorts h_sizes h_sheets g_row g_fresh g_kept g_tried g_isKept g_viewed g_tape g_tapeMany g_sort g_begins g_tokenEnds g_word g_value g_good g_growing g_rows g_must g_rowMany g_holds g_heldNumber g_heldSize g_kind g_number g_ownHand g_traced g_bodies g_isParted v_sorts v_sizes r.2) (zAs [h0, h_sorts, h_sizes, h_sheets])) 0 0 (zAs [h0, h_sorts, h_sizes, h_sheets]) := by
  refine zMetM (cc := cX5_put) (maxL := 4) (ret := (some .int)) (lv := [(0, .ref h0), (1, .int x1), (2, .int x2), (3, .int x3)]) rfl (by decide) rfl (Nat.le_of_ble_eq_true rfl) rfl ?_
  intro p e s m args below meth c ls Q H locs hQ hx hb hr hml hown hts hlocks hname hP hE hD hS hl
  have hown : s.vm.findClass RX5 = some m.cls := hown
  have hK := hE.1
  unfold fX5_put at hF
  refine lv_iload_n (pc := 0) hx hb dX5_put_0 rfl (lv_at hl 1 rfl) ?_
  obtain ⟨u1, hu1, hF⟩ := z_bind hF
  refine zq_call (oc0 := (some (.int u1))) (va_runS (As := [.int x1]) (rest := []) ⟨hx, hb, hml, hown, hts⟩ (tX5_isShelf (l := l) (D := D) (cB := cB) (cI := cI) (cJ := cJ) (cO := cO) x1 u1 hu1) (va_cwS 1 hts gX5_put_X5_isShelf rfl rfl rfl (by decide +kernel) ⟨Nat.le_of_ble_eq_true rfl, Nat.le_of_ble_eq_true rfl⟩) ⟨zPre_blind, zPre_at hP hE (zD_re hD rfl) [] rfl rfl⟩ rfl rfl hl.1 rfl (lv_room (Nat.le_of_ble_eq_true rfl)) dX5_put_1 ⟨Nat.zero_le _, Nat.zero_le _⟩) ?_
  refine W.eq (g2 := F0 m 4 ls [.int u1]) rfl ?_
  refine zb_if_ne (pc := 4) (tgt := 9) hx hb dX5_put_4 (by decide) hF (fun c_4 hF => ?_) (fun c_4 hF => ?_)
  · refine lv_aload_n (pc := 9) hx hb dX5_put_9 rfl (lv_at hl 0 rfl) ?_
    refine va_get (D := D) (pc := 10) (ci := 5) (v := .ref h_sorts) (C := RX5) (T := TX5) (N := 30) hx hb hts nX5_put_X5 hown hK hP 0 rfl rfl 18 (by decide) (hts _ kX5_put_0) (fun _ h9 => h9) rfl dX5_put_10 ?_
    refine lv_iload_n (pc := 13) hx hb dX5_put_13 rfl (lv_at hl 1 rfl) ?_
    refine za_iald (pc := 14) hx hb hK hP 1 1 rfl rfl dX5_put_14 hF (fun hF => ?_)
    refine zb_if_ge (pc := 15) (tgt := 21) hx hb dX5_put_15 (by decide) hF (fun c_15 hF => ?_) (fun c_15 hF => ?_)
    · refine lv_iload_n (pc := 21) hx hb dX5_put_21 rfl (lv_at hl 2 rfl) ?_
      refine lv_iconst (pc := 22) (v := (nI 0)) hx hb dX5_put_22 (by decide) ?_
      refine lv_aload_n (pc := 23) hx hb dX5_put_23 rfl (lv_at hl 0 rfl) ?_
      refine va_get (D := D) (pc := 24) (ci := 5) (v := .ref h_sizes) (C := RX5) (T := TX5) (N := 30) hx hb hts nX5_put_X5 hown hK hP 0 rfl rfl 19 (by decide) (hts _ kX5_put_1) (fun _ h9 => h9) rfl dX5_put_24 ?_
      refine lv_iload_n (pc := 27) hx hb dX5_put_27 rfl (lv_at hl 1 rfl) ?_
      refine za_iald (pc := 28) hx hb hK hP 2 1 rfl rfl dX5_put_28 hF (fun hF => ?_)
      refine lv_iconst (pc := 29) (v := (nI 1)) hx hb dX5_put_29 (by decide) ?_
      refine lv_isub (pc := 30) hx hb dX5_put_30 ?_
      obtain ⟨u31, hu31, hF⟩ := z_bind hF
      refine zq_call (oc0 := (some (.int u31))) (va_runS (As := [.int x2, .int (nI 0), .int ((v_sizes x1.toNatClampNeg) - (nI 1))]) (rest := []) ⟨hx, hb, hml, hown, hts⟩ (tX5_in (l := l) (D := D) (cB := cB) (cI := cI) (cJ := cJ) (cO := cO) x2 (nI 0) ((v_sizes x1.toNatClampNeg) - (nI 1)) u31 hu31) (va_cwS 3 hts gX5_put_X5_in rfl rfl rfl (by decide +kernel) ⟨Nat.le_of_ble_eq_true rfl, Nat.le_of_ble_eq_true rfl⟩) ⟨zPre_blind, zPre_at hP hE (zD_re hD rfl) [] rfl rfl⟩ rfl rfl hl.1 rfl (lv_room (Nat.le_of_ble_eq_true rfl)) dX5_put_31 ⟨Nat.zero_le _, Nat.zero_le _⟩) ?_
      refine W.eq (g2 := F0 m 34 ls [.int u31]) rfl ?_
      refine zb_if_ne (pc := 34) (tgt := 40) hx hb dX5_put_34 (by decide) hF (fun c_34 hF => ?_) (fun c_34 hF => ?_)
      · refine lv_aload_n (pc := 40) hx hb dX5_put_40 rfl (lv_at hl 0 rfl) ?_
        refine va_get (D := D) (pc := 41) (ci := 5) (v := .ref h_sheets) (C := RX5) (T := TX5) (N := 30) hx hb hts nX5_put_X5 hown hK hP 0 rfl rfl 20 (by decide) (hts _ kX5_put_2) (fun _ h9 => h9) rfl dX5_put_41 ?_
        refine lv_bipush (pc := 44) (v := (nI 40)) hx hb dX5_put_44 (by decide) ?_
        refine lv_iload_n (pc := 46) hx hb dX5_put_46 rfl (lv_at hl 1 rfl) ?_
        refine lv_imul (pc := 47) hx hb dX5_put_47 ?_
        refine lv_iload_n (pc := 48) hx hb dX5_put_48 rfl (lv_at hl 2 rfl) ?_
        refine lv_iadd (pc := 49) hx hb dX5_put_49 ?_
        refine lv_aload_n (pc := 50) hx hb dX5_put_50 rfl (lv_at hl 0 rfl) ?_
        refine va_get (D := D) (pc := 51) (ci := 5) (v := .ref h_sorts) (C := RX5) (T := TX5) (N := 30) hx hb hts nX5_put_X5 hown hK hP 0 rfl rfl 18 (by decide) (hts _ kX5_put_0) (fun _ h9 => h9) rfl dX5_put_51 ?_
        refine lv_iload_n (pc := 54) hx hb dX5_put_54 rfl (lv_at hl 1 rfl) ?_
        refine za_iald (pc := 55) hx hb hK hP 1 1 rfl rfl dX5_put_55 hF (fun hF => ?_)
        refine zb_if_ne (pc := 56) (tgt := 65) hx hb dX5_put_56 (by decide) hF (fun c_56 hF => ?_) (fun c_56 hF => ?_)
        · refine lv_aload_n (pc := 65) hx hb dX5_put_65 rfl (lv_at hl 0 rfl) ?_
          refine va_get (D := D) (pc := 66) (ci := 5) (v := .ref h_sorts) (C := RX5) (T := TX5) (N := 30) hx hb hts nX5_put_X5 hown hK hP 0 rfl rfl 18 (by decide) (hts _ kX5_put_0) (fun _ h9 => h9) rfl dX5_put_66 ?_
          refine lv_iload_n (pc := 69) hx hb dX5_put_69 rfl (lv_at hl 1 rfl) ?_
          refine za_iald (pc := 70) hx hb hK hP 1 1 rfl rfl dX5_put_70 hF (fun hF => ?_)
          refine lv_iconst (pc := 71) (v := (nI 1)) hx hb dX5_put_71 (by decide) ?_
          refine zb_icmp_ne (pc := 72) (tgt := 81) hx hb dX5_put_72 (by decide) hF (fun c_72 hF => ?_) (fun c_72 hF => ?_)
          · refine lv_iload_n (pc := 81) hx hb dX5_put_81 rfl (lv_at hl 3 rfl) ?_
            refine lv_i2l (pc := 82) (v := x3.toInt64) hx hb dX5_put_82 rfl ?_
            refine za_last (pc := 83) hx hb hK hP (zD_re hD rfl) hS 3 2 rfl rfl dX5_put_83 hF (fun hF H locs hP hS => ?_)
            have hP : va_P D vwCl (wX5_put cB cI cJ cO h0 h_sorts h_sizes h_sheets g_row g_fresh g_kept g_tried g_isKept g_viewed g_tape g_tapeMany g_sort g_begins g_tokenEnds g_word g_value g_good g_growing g_rows g_must g_rowMany g_holds g_heldNumber g_heldSize g_kind g_number g_ownHand g_traced g_bodies g_isParted v_sorts v_sizes (vp_updL v_sheets (((nI 40) * x1) + x2).toNatClampNeg (x3.toInt64))) H := hP
            refine lv_iconst (pc := 84) (v := (nI 1)) hx hb dX5_put_84 (by decide) ?_
            exact z_iretM (pc := 85) (fun q => q.1) (fun q => (wX5_put cB cI cJ cO h0 h_sorts h_sizes h_sheets g_row g_fresh g_kept g_tried g_isKept g_viewed g_tape g_tapeMany g_sort g_begins g_tokenEnds g_word g_value g_good g_growing g_rows g_must g_rowMany g_holds g_heldNumber g_heldSize g_kind g_number g_ownHand g_traced g_bodies g_isParted v_sorts v_sizes q.2)) hx hb hr hlocks hP hS hF rfl hQ dX5_put_85
          · refine lv_iload_n (pc := 75) hx hb dX5_put_75 rfl (lv_at hl 3 rfl) ?_
            refine lv_i2s (pc := 76) (v := x3.toInt16.toInt32) hx hb dX5_put_76 rfl ?_
            refine lv_i2l (pc := 77) (v := (x3.toInt16.toInt32).toInt64) hx hb dX5_put_77 rfl ?_
            refine lv_goto (pc := 78) (tgt := 83) hx hb dX5_put_78 (by decide) ?_
            refine za_last (pc := 83) hx hb hK hP (zD_re hD rfl) hS 3 2 rfl rfl dX5_put_83 hF (fun hF H locs hP hS => ?_)
            have hP : va_P D vwCl (wX5_put cB cI cJ cO h0 h_sorts h_sizes h_sheets g_row g_fresh g_kept g_tried g_isKept g_viewed g_tape g_tapeMany g_sort g_begins g_tokenEnds g_word g_value g_good g_growing g_rows g_must g_rowMany g_holds g_heldNumber g_heldSize g_kind g_number g_ownHand g_traced g_bodies g_isParted v_sorts v_sizes (vp_updL v_sheets (((nI 40) * x1) + x2).toNatClampNeg ((x3.toInt16.toInt32).toInt64))) H := hP
            refine lv_iconst (pc := 84) (v := (nI 1)) hx hb dX5_put_84 (by decide) ?_
            exact z_iretM (pc := 85) (fun q => q.1) (fun q => (wX5_put cB cI cJ cO h0 h_sorts h_sizes h_sheets g_row g_fresh g_kept g_tried g_isKept g_viewed g_tape g_tapeMany g_sort g_begins g_tokenEnds g_word g_value g_good g_growing g_rows g_must g_rowMany g_holds g_heldNumber g_heldSize g_kind g_number g_ownHand g_traced g_bodies g_isParted v_sorts v_sizes q.2)) hx hb hr hlocks hP hS hF rfl hQ dX5_put_85
        · refine lv_iload_n (pc := 59) hx hb dX5_put_59 rfl (lv_at hl 3 rfl) ?_
          refine lv_i2b (pc := 60) (v := x3.toInt8.toInt32) hx hb dX5_put_60 rfl ?_
          refine lv_i2l (pc := 61) (v := (x3.toInt8.toInt32).toInt64) hx hb dX5_put_61 rfl ?_
          refine lv_goto (pc := 62) (tgt := 83) hx hb dX5_put_62 (by decide) ?_
          refine za_last (pc := 83) hx hb hK hP (zD_re hD rfl) hS 3 2 rfl rfl dX5_put_83 hF (fun hF H locs hP hS => ?_)
          have hP : va_P D vwCl (wX5_put cB cI cJ cO h0 h_sorts h_sizes h_sheets g_row g_fresh g_kept g_tried g_isKept g_viewed g_tape g_tapeMany g_sort g_begins g_tokenEnds g_word g_value g_good g_growing g_rows g_must g_rowMany g_holds g_heldNumber g_heldSize g_kind g_number g_ownHand g_traced g_bodies g_isParted v_sorts v_sizes (vp_updL v_sheets (((nI 40) * x1) + x2).toNatClampNeg ((x3.toInt8.toInt32).toInt64))) H := hP
          refine lv_iconst (pc := 84) (v := (nI 1)) hx hb dX5_put_84 (by decide) ?_
          exact z_iretM (pc := 85) (fun q => q.1) (fun q => (wX5_put cB cI cJ cO h0 h_sorts h_sizes h_sheets g_row g_fresh g_kept g_tried g_isKept g_viewed g_tape g_tapeMany g_sort g_begins g_tokenEnds g_word g_value g_good g_growing g_rows g_must g_rowMany g_holds g_heldNumber g_heldSize g_kind g_number g_ownHand g_traced g_bodies g_isParted v_sorts v_sizes q.2)) hx hb hr hlocks hP hS hF rfl hQ dX5_put_85
      · refine lv_bipush (pc := 37) (v := (-12 : Int32)) hx hb dX5_put_37 (by decide) ?_
        exact z_iretM (pc := 39) (fun q => q.1) (fun q => (wX5_put cB cI cJ cO h0 h_sorts h_sizes h_sheets g_row g_fresh g_kept g_tried g_isKept g_viewed g_tape g_tapeMany g_sort g_begins g_tokenEnds g_word g_value g_good g_growing g_rows g_must g_rowMany g_holds g_heldNumber g_heldSize g_kind g_number g_ownHand g_traced g_bodies g_isParted v_sorts v_sizes q.2)) hx hb hr hlocks hP hS hF rfl hQ dX5_put_39
    · refine lv_bipush (pc := 18) (v := (-11 : Int32)) hx hb dX5_put_18 (by decide) ?_
      exact z_iretM (pc := 20) (fun q => q.1) (fun q => (wX5_put cB cI cJ cO h0 h_sorts h_sizes h_sheets g_row g_fresh g_kept g_tried g_isKept g_viewed g_tape g_tapeMany g_sort g_begins g_tokenEnds g_word g_value g_good g_growing g_rows g_must g_rowMany g_holds g_heldNumber g_heldSize g_kind g_number g_ownHand g_traced g_bodies g_isParted v_sorts v_sizes q.2)) hx hb hr hlocks hP hS hF rfl hQ dX5_put_20
  · refine lv_iconst (pc := 7) (v := (-1 : Int32)) hx hb dX5_put_7 (by decide) ?_
    exact z_iretM (pc := 8) (fun q => q.1) (fun q => (wX5_put cB cI cJ cO h0 h_sorts h_sizes h_sheets g_row g_fresh g_kept g_tried g_isKept g_viewed g_tape g_tapeMany g_sort g_begins g_tokenEnds g_word g_value g_good g_growing g_rows g_must g_rowMany g_holds g_heldNumber g_heldSize g_kind g_number g_ownHand g_traced g_bodies g_isParted v_sorts v_sizes q.2)) hx hb hr hlocks hP hS hF rfl hQ dX5_put_8

abbrev rX5_item : Room := { frames := 2, cells := 0, slots := 0, locals := 42 }
abbrev wX5_item (cB cI cJ cO : ClassId) (h0 h_sorts h_sizes h_sheets : Nat) (g_row g_fresh g_kept g_tried g_isKept g_viewed g_tape g_tapeMany g_sort g_begins g_tokenEnds g_word g_value g_good g_growing g_rows g_must g_rowMany g_holds g_heldNumber g_heldSize g_kind g_number g_ownHand g_traced g_bodies g_isParted : Value) (v_sorts : Nat → Int32) (v_sizes : Nat → Int32) (v_sheets : Nat → Int64) : va_W := [(h0, .inr (5, [g_row, g_fresh, g_kept, g_tried, g_isKept, g_viewed, g_tape, g_tapeMany, g_sort, g_begins, g_tokenEnds, g_word, g_value, g_good, g_growing, g_rows, g_must, g_rowMany, .ref h_sorts, .ref h_sizes, .ref h_sheets, g_holds, g_heldNumber, g_heldSize, g_kind, g_number, g_ownHand, g_traced, g_bodies, g_isParted])), (h_sorts, .inl (cI, 4, .inl v_sorts)), (h_sizes, .inl (cI, 4, .inl v_sizes)), (h_sheets, .inl (cJ, 160, .inr (.inl v_sheets)))]
theorem nX5_item_X5 : ∀ w ∈ wsX50, w ∈ wsX5_item := by decide +kernel
theorem kX5_item_0 : Cond.fieldLink RX5 37 "PaintedWallsModel" "sizes" "[I" ∈ wsX5_item := by decide +kernel
theorem kX5_item_1 : Cond.fieldLink RX5 40 "PaintedWallsModel" "sheets" "[J" ∈ wsX5_item := by decide +kernel
set_option maxHeartbeats 4000000 in
set_option maxRecDepth 100000 in
theorem tX5_item {l : Launch} {D : va_G} {cB cI cJ cO : ClassId} (h0 h_sorts h_sizes h_sheets : Nat) (g_row g_fresh g_kept g_tried g_isKept g_viewed g_tape g_tapeMany g_sort g_begins g_tokenEnds g_word g_value g_good g_growing g_rows g_must g_rowMany g_holds g_heldNumber g_heldSize g_kind g_number g_ownHand g_traced g_bodies g_isParted : Value) (v_sorts : Nat → Int32) (v_sizes : Nat → Int32) (v_sheets : Nat → Int64) (x1 : Int32) (x2 : Int32) (x3 : Int32) (r : Int32) (hF : fX5_item v_sorts v_sizes v_sheets x1 x2 x3 = some r) : Met l yX5_item wsX5_item rX5_item (zPre D cB cI cJ cO [.ref h0, .int x1, .int x2, .int x3] (wX5_item cB cI cJ cO h0 h_sorts h_sizes h_sheets g_row g_fresh g_kept g_tried g_isKept g_viewed g_tape g_tapeMany g_sort g_begins g_tokenEnds g_word g_value g_good g_growing g_rows g_must g_rowMany g_holds g_heldNumber g_heldSize g_kind g_number g_ownHand g_traced g_bodies g_isParted v_sorts v_sizes v_sheets)) (zPI (some (.int r))) 0 0 (fun _ => False) := by
  refine zMetP (cc := cX5_item) (maxL := 5) (ret := (some .int)) (lv := [(0, .ref h0), (1, .int x1), (2, .int x2), (3, .int x3)]) (by decide) rfl (Nat.le_of_ble_eq_true rfl) rfl ?_
  intro p e s m args below meth c ls Q hQ hx hb hr hml hown hts hlocks hname hP hE hD hl
  have hown : s.vm.findClass RX5 = some m.cls := hown
  have hK := hE.1
  unfold fX5_item at hF
  refine lv_iload_n (pc := 0) hx hb dX5_item_0 rfl (lv_at hl 1 rfl) ?_
  obtain ⟨u1, hu1, hF⟩ := z_bind hF
  refine zq_call (oc0 := (some (.int u1))) (va_runS (As := [.int x1]) (rest := []) ⟨hx, hb, hml, hown, hts⟩ (tX5_isShelf (l := l) (D := D) (cB := cB) (cI := cI) (cJ := cJ) (cO := cO) x1 u1 hu1) (va_cwS 1 hts gX5_item_X5_isShelf rfl rfl rfl (by decide +kernel) ⟨Nat.le_of_ble_eq_true rfl, Nat.le_of_ble_eq_true rfl⟩) ⟨zPre_blind, zPre_at hP hE hD [] rfl rfl⟩ rfl rfl hl.1 rfl (lv_room (Nat.le_of_ble_eq_true rfl)) dX5_item_1 ⟨Nat.zero_le _, Nat.zero_le _⟩) ?_
  refine W.eq (g2 := F0 m 4 ls [.int u1]) rfl ?_
  refine zb_if_eq (pc := 4) (tgt := 16) hx hb dX5_item_4 (by decide) hF (fun c_4 hF => ?_) (fun c_4 hF => ?_)
  · refine lv_iconst (pc := 16) (v := (-1 : Int32)) hx hb dX5_item_16 (by decide) ?_
    exact z_iret (pc := 17) (fun q => q) hx hb hr hlocks hF rfl hQ dX5_item_17
  · refine lv_iload_n (pc := 7) hx hb dX5_item_7 rfl (lv_at hl 2 rfl) ?_
    refine lv_iconst (pc := 8) (v := (nI 0)) hx hb dX5_item_8 (by decide) ?_
    refine lv_iconst (pc := 9) (v := (nI 3)) hx hb dX5_item_9 (by decide) ?_
    obtain ⟨u10, hu10, hF⟩ := z_bind hF
    refine zq_call (oc0 := (some (.int u10))) (va_runS (As := [.int x2, .int (nI 0), .int (nI 3)]) (rest := []) ⟨hx, hb, hml, hown, hts⟩ (tX5_in (l := l) (D := D) (cB := cB) (cI := cI) (cJ := cJ) (cO := cO) x2 (nI 0) (nI 3) u10 hu10) (va_cwS 3 hts gX5_item_X5_in rfl rfl rfl (by decide +kernel) ⟨Nat.le_of_ble_eq_true rfl, Nat.le_of_ble_eq_true rfl⟩) ⟨zPre_blind, zPre_at hP hE hD [] rfl rfl⟩ rfl rfl hl.1 rfl (lv_room (Nat.le_of_ble_eq_true rfl)) dX5_item_10 ⟨Nat.zero_le _, Nat.zero_le _⟩) ?_
    refine W.eq (g2 := F0 m 13 ls [.int u10]) rfl ?_
    refine zb_if_ne (pc := 13) (tgt := 18) hx hb dX5_item_13 (by decide) hF (fun c_13 hF => ?_) (fun c_13 hF => ?_)
    · refine lv_aload_n (pc := 18) hx hb dX5_item_18 rfl (lv_at hl 0 rfl) ?_
      refine lv_iload_n (pc := 19) hx hb dX5_item_19 rfl (lv_at hl 1 rfl) ?_
      refine lv_iload_n (pc := 20) hx hb dX5_item_20 rfl (lv_at hl 2 rfl) ?_
      obtain ⟨u21, hu21, hF⟩ := z_bind hF
      refine zq_call (oc0 := (some (.int u21))) (va_runV (As := [.int x1, .int x2]) (rest := []) ⟨hx, hb, hml, hown, hts⟩ (tX5_lacksSort (l := l) (D := D) (cB := cB) (cI := cI) (cJ := cJ) (cO := cO) h0 h_sorts g_row g_fresh g_kept g_tried g_isKept g_viewed g_tape g_tapeMany g_sort g_begins g_tokenEnds g_word g_value g_good g_growing g_rows g_must g_rowMany (.ref h_sizes) (.ref h_sheets) g_holds g_heldNumber g_heldSize g_kind g_number g_ownHand g_traced g_bodies g_isParted v_sorts x1 x2 u21 hu21) (cwV 2 hts gX5_item_X5_lacksSort rfl rfl rfl (by decide +kernel) ⟨Nat.le_of_ble_eq_true rfl, Nat.le_of_ble_eq_true rfl⟩) ⟨zPre_blind, va_recv hK hP (ci := 5) (q0 := 0) rfl rfl, zPre_at hP hE hD [0, 1] rfl rfl⟩ rfl rfl hl.1 rfl (lv_room (Nat.le_of_ble_eq_true rfl)) dX5_item_21 ⟨Nat.zero_le _, Nat.zero_le _⟩) ?_
      refine W.eq (g2 := F0 m 24 ls [.int u21]) rfl ?_
      refine lv_istore (pc := 24) (lv' := [(4, .int u21), (0, .ref h0), (1, .int x1), (2, .int x2), (3, .int x3)]) hx hb dX5_item_24 hl (by decide) rfl (fun ls hl => ?_)
      refine lv_iload (pc := 26) hx hb dX5_item_26 (lv_at hl 0 rfl) ?_
      refine zb_if_eq (pc := 28) (tgt := 34) hx hb dX5_item_28 (by decide) hF (fun c_28 hF => ?_) (fun c_28 hF => ?_)
      · refine lv_iload_n (pc := 34) hx hb dX5_item_34 rfl (lv_at hl 4 rfl) ?_
        refine lv_iconst (pc := 35) (v := (nI 0)) hx hb dX5_item_35 (by decide) ?_
        refine lv_aload_n (pc := 36) hx hb dX5_item_36 rfl (lv_at hl 1 rfl) ?_
        refine va_get (D := D) (pc := 37) (ci := 5) (v := .ref h_sizes) (C := RX5) (T := TX5) (N := 30) hx hb hts nX5_item_X5 hown hK hP 0 rfl rfl 19 (by decide) (hts _ kX5_item_0) (fun _ h9 => h9) rfl dX5_item_37 ?_
        refine lv_iload_n (pc := 40) hx hb dX5_item_40 rfl (lv_at hl 2 rfl) ?_
        refine za_iald (pc := 41) hx hb hK hP 2 1 rfl rfl dX5_item_41 hF (fun hF => ?_)
        refine lv_iconst (pc := 42) (v := (nI 1)) hx hb dX5_item_42 (by decide) ?_
        refine lv_isub (pc := 43) hx hb dX5_item_43 ?_
        obtain ⟨u44, hu44, hF⟩ := z_bind hF
        refine zq_call (oc0 := (some (.int u44))) (va_runS (As := [.int x3, .int (nI 0), .int ((v_sizes x1.toNatClampNeg) - (nI 1))]) (rest := []) ⟨hx, hb, hml, hown, hts⟩ (tX5_in (l := l) (D := D) (cB := cB) (cI := cI) (cJ := cJ) (cO := cO) x3 (nI 0) ((v_sizes x1.toNatClampNeg) - (nI 1)) u44 hu44) (va_cwS 3 hts gX5_item_X5_in rfl rfl rfl (by decide +kernel) ⟨Nat.le_of_ble_eq_true rfl, Nat.le_of_ble_eq_true rfl⟩) ⟨zPre_blind, zPre_at hP hE hD [] rfl rfl⟩ rfl rfl hl.1 rfl (lv_room (Nat.le_of_ble_eq_true rfl)) dX5_item_44 ⟨Nat.zero_le _, Nat.zero_le _⟩) ?_
        refine W.eq (g2 := F0 m 47 ls [.int u44]) rfl ?_
        refine zb_if_eq (pc := 47) (tgt := 65) hx hb dX5_item_47 (by decide) hF (fun c_47 hF => ?_) (fun c_47 hF => ?_)
        · refine lv_bipush (pc := 65) (v := (-12 : Int32)) hx hb dX5_item_65 (by decide) ?_
          exact z_iret (pc := 67) (fun q => q) hx hb hr hlocks hF rfl hQ dX5_item_67
        · refine lv_aload_n (pc := 50) hx hb dX5_item_50 rfl (lv_at hl 1 rfl) ?_
          refine va_get (D := D) (pc := 51) (ci := 5) (v := .ref h_sheets) (C := RX5) (T := TX5) (N := 30) hx hb hts nX5_item_X5 hown hK hP 0 rfl rfl 20 (by decide) (hts _ kX5_item_1) (fun _ h9 => h9) rfl dX5_item_51 ?_
          refine lv_bipush (pc := 54) (v := (nI 40)) hx hb dX5_item_54 (by decide) ?_
          refine lv_iload_n (pc := 56) hx hb dX5_item_56 rfl (lv_at hl 2 rfl) ?_
          refine lv_imul (pc := 57) hx hb dX5_item_57 ?_
          refine lv_iload_n (pc := 58) hx hb dX5_item_58 rfl (lv_at hl 4 rfl) ?_
          refine lv_iadd (pc := 59) hx hb dX5_item_59 ?_
          refine za_lald (pc := 60) hx hb hK hP 3 2 rfl rfl dX5_item_60 hF (fun hF => ?_)
          refine lv_l2i (pc := 61) (v := (v_sheets (((nI 40) * x1) + x3).toNatClampNeg).toInt32) hx hb dX5_item_61 rfl ?_
          refine lv_goto (pc := 62) (tgt := 67) hx hb dX5_item_62 (by decide) ?_
          exact z_iret (pc := 67) (fun q => q) hx hb hr hlocks hF rfl hQ dX5_item_67
      · refine lv_iload (pc := 31) hx hb dX5_item_31 (lv_at hl 0 rfl) ?_
        exact z_iret (pc := 33) (fun q => q) hx hb hr hlocks hF rfl hQ dX5_item_33
    · refine lv_iconst (pc := 16) (v := (-1 : Int32)) hx hb dX5_item_16 (by decide) ?_
      exact z_iret (pc := 17) (fun q => q) hx hb hr hlocks hF rfl hQ dX5_item_17

abbrev rX5_isHeld : Room := { frames := 2, cells := 0, slots := 0, locals := 43 }
abbrev wX5_isHeld (cB cI cJ cO : ClassId) (h0 h_row : Nat) (g_fresh g_kept g_tried g_isKept g_viewed g_tape g_tapeMany g_sort g_begins g_tokenEnds g_word g_value g_good g_growing g_rows g_must g_rowMany g_sorts g_sizes g_sheets g_holds g_heldNumber g_heldSize g_kind g_number g_ownHand g_traced g_bodies g_isParted : Value) (v_row : Nat → Int32) : va_W := [(h0, .inr (5, [.ref h_row, g_fresh, g_kept, g_tried, g_isKept, g_viewed, g_tape, g_tapeMany, g_sort, g_begins, g_tokenEnds, g_word, g_value, g_good, g_growing, g_rows, g_must, g_rowMany, g_sorts, g_sizes, g_sheets, g_holds, g_heldNumber, g_heldSize, g_kind, g_number, g_ownHand, g_traced, g_bodies, g_isParted])), (h_row, .inl (cI, 68, .inl v_row))]
set_option maxHeartbeats 4000000 in
set_option maxRecDepth 100000 in
theorem tX5_isHeld {l : Launch} {D : va_G} {cB cI cJ cO : ClassId} (h0 h_row : Nat) (g_fresh g_kept g_tried g_isKept g_viewed g_tape g_tapeMany g_sort g_begins g_tokenEnds g_word g_value g_good g_growing g_rows g_must g_rowMany g_sorts g_sizes g_sheets g_holds g_heldNumber g_heldSize g_kind g_number g_ownHand g_traced g_bodies g_isParted : Value) (v_row : Nat → Int32) (x1 : Int32) (x2 : Int32) (r : Int32) (hF : fX5_isHeld v_row x1 x2 = some r) : Met l yX5_isHeld wsX5_isHeld rX5_isHeld (zPre D cB cI cJ cO [.ref h0, .int x1, .int x2] (wX5_isHeld cB cI cJ cO h0 h_row g_fresh g_kept g_tried g_isKept g_viewed g_tape g_tapeMany g_sort g_begins g_tokenEnds g_word g_value g_good g_growing g_rows g_must g_rowMany g_sorts g_sizes g_sheets g_holds g_heldNumber g_heldSize g_kind g_number g_ownHand g_traced g_bodies g_isParted v_row)) (zPI (some (.int r))) 0 0 (fun _ => False) := by
  refine zMetP (cc := cX5_isHeld) (maxL := 3) (ret := (some .boolean)) (lv := [(0, .ref h0), (1, .int x1), (2, .int x2)]) (by decide) rfl (Nat.le_of_ble_eq_true rfl) rfl ?_
  intro p e s m args below meth c ls Q hQ hx hb hr hml hown hts hlocks hname hP hE hD hl
  have hown : s.vm.findClass RX5 = some m.cls := hown
  have hK := hE.1
  unfold fX5_isHeld at hF
  refine lv_iload_n (pc := 0) hx hb dX5_isHeld_0 rfl (lv_at hl 1 rfl) ?_
  refine zb_if_ne (pc := 1) (tgt := 12) hx hb dX5_isHeld_1 (by decide) hF (fun c_1 hF => ?_) (fun c_1 hF => ?_)
  · refine lv_iload_n (pc := 12) hx hb dX5_isHeld_12 rfl (lv_at hl 1 rfl) ?_
    refine lv_iconst (pc := 13) (v := (nI 1)) hx hb dX5_isHeld_13 (by decide) ?_
    refine zb_icmp_ne (pc := 14) (tgt := 24) hx hb dX5_isHeld_14 (by decide) hF (fun c_14 hF => ?_) (fun c_14 hF => ?_)
    · refine lv_iload_n (pc := 24) hx hb dX5_isHeld_24 rfl (lv_at hl 1 rfl) ?_
      refine lv_iconst (pc := 25) (v := (nI 2)) hx hb dX5_isHeld_25 (by decide) ?_
      refine zb_icmp_ne (pc := 26) (tgt := 33) hx hb dX5_isHeld_26 (by decide) hF (fun c_26 hF => ?_) (fun c_26 hF => ?_)
      · refine lv_iconst (pc := 33) (v := (nI 0)) hx hb dX5_isHeld_33 (by decide) ?_
        exact z_zret (pc := 34) (fun q => q) hx hb hr hlocks (by decide) hF rfl hQ dX5_isHeld_34
      · refine lv_iconst (pc := 29) (v := (nI 1)) hx hb dX5_isHeld_29 (by decide) ?_
        refine lv_goto (pc := 30) (tgt := 34) hx hb dX5_isHeld_30 (by decide) ?_
        exact z_zret (pc := 34) (fun q => q) hx hb hr hlocks (by decide) hF rfl hQ dX5_isHeld_34
    · refine lv_iload_n (pc := 17) hx hb dX5_isHeld_17 rfl (lv_at hl 2 rfl) ?_
      obtain ⟨u18, hu18, hF⟩ := z_bind hF
      refine zq_call (oc0 := (some (.int u18))) (va_runS (As := [.int x2]) (rest := []) ⟨hx, hb, hml, hown, hts⟩ (tX5_isShelf (l := l) (D := D) (cB := cB) (cI := cI) (cJ := cJ) (cO := cO) x2 u18 hu18) (va_cwS 1 hts gX5_isHeld_X5_isShelf rfl rfl rfl (by decide +kernel) ⟨Nat.le_of_ble_eq_true rfl, Nat.le_of_ble_eq_true rfl⟩) ⟨zPre_blind, zPre_at hP hE hD [] rfl rfl⟩ rfl rfl hl.1 rfl (lv_room (Nat.le_of_ble_eq_true rfl)) dX5_isHeld_18 ⟨Nat.zero_le _, Nat.zero_le _⟩) ?_
      refine W.eq (g2 := F0 m 21 ls [.int u18]) rfl ?_
      refine lv_goto (pc := 21) (tgt := 34) hx hb dX5_isHeld_21 (by decide) ?_
      obtain ⟨hz, hF⟩ := z_h _ hF
      exact z_zret (pc := 34) (fun q => q) hx hb hr hlocks hz hF rfl hQ dX5_isHeld_34
  · refine lv_aload_n (pc := 4) hx hb dX5_isHeld_4 rfl (lv_at hl 0 rfl) ?_
    refine lv_iload_n (pc := 5) hx hb dX5_isHeld_5 rfl (lv_at hl 2 rfl) ?_
    obtain ⟨u6, hu6, hF⟩ := z_bind hF
    refine zq_call (oc0 := (some (.int u6))) (va_runV (As := [.int x2]) (rest := []) ⟨hx, hb, hml, hown, hts⟩ (tX5_isOne (l := l) (D := D) (cB := cB) (cI := cI) (cJ := cJ) (cO := cO) h0 h_row g_fresh g_kept g_tried g_isKept g_viewed g_tape g_tapeMany g_sort g_begins g_tokenEnds g_word g_value g_good g_growing g_rows g_must g_rowMany g_sorts g_sizes g_sheets g_holds g_heldNumber g_heldSize g_kind g_number g_ownHand g_traced g_bodies g_isParted v_row x2 u6 hu6) (cwV 1 hts gX5_isHeld_X5_isOne rfl rfl rfl (by decide +kernel) ⟨Nat.le_of_ble_eq_true rfl, Nat.le_of_ble_eq_true rfl⟩) ⟨zPre_blind, va_recv hK hP (ci := 5) (q0 := 0) rfl rfl, zPre_at hP hE hD [0, 1] rfl rfl⟩ rfl rfl hl.1 rfl (lv_room (Nat.le_of_ble_eq_true rfl)) dX5_isHeld_6 ⟨Nat.zero_le _, Nat.zero_le _⟩) ?_
    refine W.eq (g2 := F0 m 9 ls [.int u6]) rfl ?_
    refine lv_goto (pc := 9) (tgt := 34) hx hb dX5_isHeld_9 (by decide) ?_
    obtain ⟨hz, hF⟩ := z_h _ hF
    exact z_zret (pc := 34) (fun q => q) hx hb hr hlocks hz hF rfl hQ dX5_isHeld_34

abbrev rX5_shelf : Room := { frames := 3, cells := 0, slots := 0, locals := 65 }
abbrev wX5_shelf (cB cI cJ cO : ClassId) (h0 h_row h_sorts h_sizes h_holds h_heldNumber h_heldSize : Nat) (g_fresh g_kept g_tried g_isKept g_viewed g_tape g_tapeMany g_sort g_begins g_tokenEnds g_word g_value g_good g_growing g_rows g_must g_rowMany g_sheets g_kind g_number g_ownHand g_traced g_bodies g_isParted : Value) (v_row : Nat → Int32) (v_sorts : Nat → Int32) (v_sizes : Nat → Int32) (v_holds : Nat → Int32) (v_heldNumber : Nat → Int32) (v_heldSize : Nat → Int32) : va_W := [(h0, .inr (5, [.ref h_row, g_fresh, g_kept, g_tried, g_isKept, g_viewed, g_tape, g_tapeMany, g_sort, g_begins, g_tokenEnds, g_word, g_value, g_good, g_growing, g_rows, g_must, g_rowMany, .ref h_sorts, .ref h_sizes, g_sheets, .ref h_holds, .ref h_heldNumber, .ref h_heldSize, g_kind, g_number, g_ownHand, g_traced, g_bodies, g_isParted])), (h_row, .inl (cI, 68, .inl v_row)), (h_sorts, .inl (cI, 4, .inl v_sorts)), (h_sizes, .inl (cI, 4, .inl v_sizes)), (h_holds, .inl (cI, 4, .inl v_holds)), (h_heldNumber, .inl (cI, 4, .inl v_heldNumber)), (h_heldSize, .inl (cI, 4, .inl v_heldSize))]
theorem nX5_shelf_X5 : ∀ w ∈ wsX50, w ∈ wsX5_shelf := by decide +kernel
theorem kX5_shelf_0 : Cond.fieldLink RX5 44 "PaintedWallsModel" "holds" "[I" ∈ wsX5_shelf := by decide +kernel
theorem kX5_shelf_1 : Cond.fieldLink RX5 47 "PaintedWallsModel" "heldNumber" "[I" ∈ wsX5_shelf := by decide +kernel
theorem kX5_shelf_2 : Cond.fieldLink RX5 50 "PaintedWallsModel" "heldSize" "[I" ∈ wsX5_shelf := by decide +kernel
theorem kX5_shelf_3 : Cond.fieldLink RX5 37 "PaintedWallsModel" "sizes" "[I" ∈ wsX5_shelf := by decide +kernel
theorem kX5_shelf_4 : Cond.fieldLink RX5 34 "PaintedWallsModel" "sorts" "[I" ∈ wsX5_shelf := by decide +kernel
set_option maxHeartbeats 4000000 in
set_option maxRecDepth 100000 in
theorem tX5_shelf {l : Launch} {D : va_G} {cB cI cJ cO : ClassId} (h0 h_row h_sorts h_sizes h_holds h_heldNumber h_heldSize : Nat) (g_fresh g_kept g_tried g_isKept g_viewed g_tape g_tapeMany g_sort g_begins g_tokenEnds g_word g_value g_good g_growing g_rows g_must g_rowMany g_sheets g_kind g_number g_ownHand g_traced g_bodies g_isParted : Value) (v_row : Nat → Int32) (v_sorts : Nat → Int32) (v_sizes : Nat → Int32) (v_holds : Nat → Int32) (v_heldNumber : Nat → Int32) (v_heldSize : Nat → Int32) (x1 : Int32) (x2 : Int32) (x3 : Int32) (r : Int32 × (Nat → Int32) × (Nat → Int32) × (Nat → Int32)) (hF : fX5_shelf v_row v_sorts v_sizes v_holds v_heldNumber v_heldSize x1 x2 x3 = some r) : Met l yX5_shelf wsX5_shelf rX5_shelf (zPre D cB cI cJ cO [.ref h0, .int x1, .int x2, .int x3] (wX5_shelf cB cI cJ cO h0 h_row h_sorts h_sizes h_holds h_heldNumber h_heldSize g_fresh g_kept g_tried g_isKept g_viewed g_tape g_tapeMany g_sort g_begins g_tokenEnds g_word g_value g_good g_growing g_rows g_must g_rowMany g_sheets g_kind g_number g_ownHand g_traced g_bodies g_isParted v_row v_sorts v_sizes v_holds v_heldNumber v_heldSize)) (zPM (some (.int r.1)) D (wX5_shelf cB cI cJ cO h0 h_row h_sorts h_sizes h_holds h_heldNumber h_heldSize g_fresh g_kept g_tried g_isKept g_viewed g_tape g_tapeMany g_sort g_begins g_tokenEnds g_word g_value g_good g_growing g_rows g_must g_rowMany g_sheets g_kind g_number g_ownHand g_traced g_bodies g_isParted v_row v_sorts v_sizes r.2.1 r.2.2.1 r.2.2.2) (zAs [h0, h_row, h_sorts, h_sizes, h_holds, h_heldNumber, h_heldSize])) 0 0 (zAs [h0, h_row, h_sorts, h_sizes, h_holds, h_heldNumber, h_heldSize]) := by
  refine zMetM (cc := cX5_shelf) (maxL := 4) (ret := (some .int)) (lv := [(0, .ref h0), (1, .int x1), (2, .int x2), (3, .int x3)]) rfl (by decide) rfl (Nat.le_of_ble_eq_true rfl) rfl ?_
  intro p e s m args below meth c ls Q H locs hQ hx hb hr hml hown hts hlocks hname hP hE hD hS hl
  have hown : s.vm.findClass RX5 = some m.cls := hown
  have hK := hE.1
  unfold fX5_shelf at hF
  refine lv_iload_n (pc := 0) hx hb dX5_shelf_0 rfl (lv_at hl 1 rfl) ?_
  obtain ⟨u1, hu1, hF⟩ := z_bind hF
  refine zq_call (oc0 := (some (.int u1))) (va_runS (As := [.int x1]) (rest := []) ⟨hx, hb, hml, hown, hts⟩ (tX5_isShelf (l := l) (D := D) (cB := cB) (cI := cI) (cJ := cJ) (cO := cO) x1 u1 hu1) (va_cwS 1 hts gX5_shelf_X5_isShelf rfl rfl rfl (by decide +kernel) ⟨Nat.le_of_ble_eq_true rfl, Nat.le_of_ble_eq_true rfl⟩) ⟨zPre_blind, zPre_at hP hE (zD_re hD rfl) [] rfl rfl⟩ rfl rfl hl.1 rfl (lv_room (Nat.le_of_ble_eq_true rfl)) dX5_shelf_1 ⟨Nat.zero_le _, Nat.zero_le _⟩) ?_
  refine W.eq (g2 := F0 m 4 ls [.int u1]) rfl ?_
  refine zb_if_eq (pc := 4) (tgt := 16) hx hb dX5_shelf_4 (by decide) hF (fun c_4 hF => ?_) (fun c_4 hF => ?_)
  · refine lv_iconst (pc := 16) (v := (-1 : Int32)) hx hb dX5_shelf_16 (by decide) ?_
    exact z_iretM (pc := 17) (fun q => q.1) (fun q => (wX5_shelf cB cI cJ cO h0 h_row h_sorts h_sizes h_holds h_heldNumber h_heldSize g_fresh g_kept g_tried g_isKept g_viewed g_tape g_tapeMany g_sort g_begins g_tokenEnds g_word g_value g_good g_growing g_rows g_must g_rowMany g_sheets g_kind g_number g_ownHand g_traced g_bodies g_isParted v_row v_sorts v_sizes q.2.1 q.2.2.1 q.2.2.2)) hx hb hr hlocks hP hS hF rfl hQ dX5_shelf_17
  · refine lv_aload_n (pc := 7) hx hb dX5_shelf_7 rfl (lv_at hl 0 rfl) ?_
    refine lv_iload_n (pc := 8) hx hb dX5_shelf_8 rfl (lv_at hl 2 rfl) ?_
    refine lv_iload_n (pc := 9) hx hb dX5_shelf_9 rfl (lv_at hl 3 rfl) ?_
    obtain ⟨u10, hu10, hF⟩ := z_bind hF
    refine zq_call (oc0 := (some (.int u10))) (va_runV (As := [.int x2, .int x3]) (rest := []) ⟨hx, hb, hml, hown, hts⟩ (tX5_isHeld (l := l) (D := D) (cB := cB) (cI := cI) (cJ := cJ) (cO := cO) h0 h_row g_fresh g_kept g_tried g_isKept g_viewed g_tape g_tapeMany g_sort g_begins g_tokenEnds g_word g_value g_good g_growing g_rows g_must g_rowMany (.ref h_sorts) (.ref h_sizes) g_sheets (.ref h_holds) (.ref h_heldNumber) (.ref h_heldSize) g_kind g_number g_ownHand g_traced g_bodies g_isParted v_row x2 x3 u10 hu10) (cwV 2 hts gX5_shelf_X5_isHeld rfl rfl rfl (by decide +kernel) ⟨Nat.le_of_ble_eq_true rfl, Nat.le_of_ble_eq_true rfl⟩) ⟨zPre_blind, va_recv hK hP (ci := 5) (q0 := 0) rfl rfl, zPre_at hP hE (zD_re hD rfl) [0, 1] rfl rfl⟩ rfl rfl hl.1 rfl (lv_room (Nat.le_of_ble_eq_true rfl)) dX5_shelf_10 ⟨Nat.zero_le _, Nat.zero_le _⟩) ?_
    refine W.eq (g2 := F0 m 13 ls [.int u10]) rfl ?_
    refine zb_if_ne (pc := 13) (tgt := 18) hx hb dX5_shelf_13 (by decide) hF (fun c_13 hF => ?_) (fun c_13 hF => ?_)
    · refine lv_aload_n (pc := 18) hx hb dX5_shelf_18 rfl (lv_at hl 0 rfl) ?_
      refine va_get (D := D) (pc := 19) (ci := 5) (v := .ref h_holds) (C := RX5) (T := TX5) (N := 30) hx hb hts nX5_shelf_X5 hown hK hP 0 rfl rfl 21 (by decide) (hts _ kX5_shelf_0) (fun _ h9 => h9) rfl dX5_shelf_19 ?_
      refine lv_iload_n (pc := 22) hx hb dX5_shelf_22 rfl (lv_at hl 1 rfl) ?_
      refine lv_iload_n (pc := 23) hx hb dX5_shelf_23 rfl (lv_at hl 2 rfl) ?_
      refine lv_iconst (pc := 24) (v := (nI 2)) hx hb dX5_shelf_24 (by decide) ?_
      obtain ⟨J_2, hJ_2, hF⟩ := z_J hF
      have kJ_2 : ∀ (t2_1 : Int32) , J_2 t2_1 = some r → ∀ (H : Heap) (locs : List Loc), va_P D vwCl (wX5_shelf cB cI cJ cO h0 h_row h_sorts h_sizes h_holds h_heldNumber h_heldSize g_fresh g_kept g_tried g_isKept g_viewed g_tape g_tapeMany g_sort g_begins g_tokenEnds g_word g_value g_good g_growing g_rows g_must g_rowMany g_sheets g_kind g_number g_ownHand g_traced g_bodies g_isParted v_row v_sorts v_sizes v_holds v_heldNumber v_heldSize) H → va_S (zAs [h0, h_row, h_sorts, h_sizes, h_holds, h_heldNumber, h_heldSize]) s.heap H locs → ∀ (ls : Array Slot), lv_has ls 4 [(0, .ref h0), (1, .int x1), (2, .int x2), (3, .int x3)] → W p l e rX5_shelf s m args below meth c H locs 0 0 Q (F0 m 47 ls [.int t2_1, .int x1, .ref h_holds]) := by
        intro t2_1 hF H locs hP hS ls hl
        rw [hJ_2] at hF
        refine za_iast (pc := 47) hx hb hK hP (zD_re hD rfl) hS 4 1 rfl rfl dX5_shelf_47 hF (fun hF H locs hP hS => ?_)
        have hP : va_P D vwCl (wX5_shelf cB cI cJ cO h0 h_row h_sorts h_sizes h_holds h_heldNumber h_heldSize g_fresh g_kept g_tried g_isKept g_viewed g_tape g_tapeMany g_sort g_begins g_tokenEnds g_word g_value g_good g_growing g_rows g_must g_rowMany g_sheets g_kind g_number g_ownHand g_traced g_bodies g_isParted v_row v_sorts v_sizes (upd v_holds x1.toNatClampNeg t2_1) v_heldNumber v_heldSize) H := hP
        refine lv_aload_n (pc := 48) hx hb dX5_shelf_48 rfl (lv_at hl 0 rfl) ?_
        refine va_get (D := D) (pc := 49) (ci := 5) (v := .ref h_heldNumber) (C := RX5) (T := TX5) (N := 30) hx hb hts nX5_shelf_X5 hown hK hP 0 rfl rfl 22 (by decide) (hts _ kX5_shelf_1) (fun _ h9 => h9) rfl dX5_shelf_49 ?_
        refine lv_iload_n (pc := 52) hx hb dX5_shelf_52 rfl (lv_at hl 1 rfl) ?_
        refine lv_iload_n (pc := 53) hx hb dX5_shelf_53 rfl (lv_at hl 2 rfl) ?_
        refine lv_iconst (pc := 54) (v := (nI 1)) hx hb dX5_shelf_54 (by decide) ?_
        obtain ⟨J_4, hJ_4, hF⟩ := z_J hF
        have kJ_4 : ∀ (t2_3 : Int32) , J_4 t2_3 = some r → ∀ (H : Heap) (locs : List Loc), va_P D vwCl (wX5_shelf cB cI cJ cO h0 h_row h_sorts h_sizes h_holds h_heldNumber h_heldSize g_fresh g_kept g_tried g_isKept g_viewed g_tape g_tapeMany g_sort g_begins g_tokenEnds g_word g_value g_good g_growing g_rows g_must g_rowMany g_sheets g_kind g_number g_ownHand g_traced g_bodies g_isParted v_row v_sorts v_sizes (upd v_holds x1.toNatClampNeg t2_1) v_heldNumber v_heldSize) H → va_S (zAs [h0, h_row, h_sorts, h_sizes, h_holds, h_heldNumber, h_heldSize]) s.heap H locs → ∀ (ls : Array Slot), lv_has ls 4 [(0, .ref h0), (1, .int x1), (2, .int x2), (3, .int x3)] → W p l e rX5_shelf s m args below meth c H locs 0 0 Q (F0 m 68 ls [.int t2_3, .int x1, .ref h_heldNumber]) := by
          intro t2_3 hF H locs hP hS ls hl
          rw [hJ_4] at hF
          refine za_iast (pc := 68) hx hb hK hP (zD_re hD rfl) hS 5 1 rfl rfl dX5_shelf_68 hF (fun hF H locs hP hS => ?_)
          have hP : va_P D vwCl (wX5_shelf cB cI cJ cO h0 h_row h_sorts h_sizes h_holds h_heldNumber h_heldSize g_fresh g_kept g_tried g_isKept g_viewed g_tape g_tapeMany g_sort g_begins g_tokenEnds g_word g_value g_good g_growing g_rows g_must g_rowMany g_sheets g_kind g_number g_ownHand g_traced g_bodies g_isParted v_row v_sorts v_sizes (upd v_holds x1.toNatClampNeg t2_1) (upd v_heldNumber x1.toNatClampNeg t2_3) v_heldSize) H := hP
          refine lv_aload_n (pc := 69) hx hb dX5_shelf_69 rfl (lv_at hl 0 rfl) ?_
          refine va_get (D := D) (pc := 70) (ci := 5) (v := .ref h_heldSize) (C := RX5) (T := TX5) (N := 30) hx hb hts nX5_shelf_X5 hown hK hP 0 rfl rfl 23 (by decide) (hts _ kX5_shelf_2) (fun _ h9 => h9) rfl dX5_shelf_70 ?_
          refine lv_iload_n (pc := 73) hx hb dX5_shelf_73 rfl (lv_at hl 1 rfl) ?_
          refine lv_iload_n (pc := 74) hx hb dX5_shelf_74 rfl (lv_at hl 2 rfl) ?_
          refine lv_iconst (pc := 75) (v := (nI 1)) hx hb dX5_shelf_75 (by decide) ?_
          refine zb_icmp_ne (pc := 76) (tgt := 88) hx hb dX5_shelf_76 (by decide) hF (fun c_76 hF => ?_) (fun c_76 hF => ?_)
          · refine lv_iconst (pc := 88) (v := (nI 0)) hx hb dX5_shelf_88 (by decide) ?_
            refine za_iast (pc := 89) hx hb hK hP (zD_re hD rfl) hS 6 1 rfl rfl dX5_shelf_89 hF (fun hF H locs hP hS => ?_)
            have hP : va_P D vwCl (wX5_shelf cB cI cJ cO h0 h_row h_sorts h_sizes h_holds h_heldNumber h_heldSize g_fresh g_kept g_tried g_isKept g_viewed g_tape g_tapeMany g_sort g_begins g_tokenEnds g_word g_value g_good g_growing g_rows g_must g_rowMany g_sheets g_kind g_number g_ownHand g_traced g_bodies g_isParted v_row v_sorts v_sizes (upd v_holds x1.toNatClampNeg t2_1) (upd v_heldNumber x1.toNatClampNeg t2_3) (upd v_heldSize x1.toNatClampNeg (nI 0))) H := hP
            refine lv_iconst (pc := 90) (v := (nI 1)) hx hb dX5_shelf_90 (by decide) ?_
            exact z_iretM (pc := 91) (fun q => q.1) (fun q => (wX5_shelf cB cI cJ cO h0 h_row h_sorts h_sizes h_holds h_heldNumber h_heldSize g_fresh g_kept g_tried g_isKept g_viewed g_tape g_tapeMany g_sort g_begins g_tokenEnds g_word g_value g_good g_growing g_rows g_must g_rowMany g_sheets g_kind g_number g_ownHand g_traced g_bodies g_isParted v_row v_sorts v_sizes q.2.1 q.2.2.1 q.2.2.2)) hx hb hr hlocks hP hS hF rfl hQ dX5_shelf_91
          · refine lv_aload_n (pc := 79) hx hb dX5_shelf_79 rfl (lv_at hl 0 rfl) ?_
            refine va_get (D := D) (pc := 80) (ci := 5) (v := .ref h_sizes) (C := RX5) (T := TX5) (N := 30) hx hb hts nX5_shelf_X5 hown hK hP 0 rfl rfl 19 (by decide) (hts _ kX5_shelf_3) (fun _ h9 => h9) rfl dX5_shelf_80 ?_
            refine lv_iload_n (pc := 83) hx hb dX5_shelf_83 rfl (lv_at hl 3 rfl) ?_
            refine za_iald (pc := 84) hx hb hK hP 3 1 rfl rfl dX5_shelf_84 hF (fun hF => ?_)
            refine lv_goto (pc := 85) (tgt := 89) hx hb dX5_shelf_85 (by decide) ?_
            refine za_iast (pc := 89) hx hb hK hP (zD_re hD rfl) hS 6 1 rfl rfl dX5_shelf_89 hF (fun hF H locs hP hS => ?_)
            have hP : va_P D vwCl (wX5_shelf cB cI cJ cO h0 h_row h_sorts h_sizes h_holds h_heldNumber h_heldSize g_fresh g_kept g_tried g_isKept g_viewed g_tape g_tapeMany g_sort g_begins g_tokenEnds g_word g_value g_good g_growing g_rows g_must g_rowMany g_sheets g_kind g_number g_ownHand g_traced g_bodies g_isParted v_row v_sorts v_sizes (upd v_holds x1.toNatClampNeg t2_1) (upd v_heldNumber x1.toNatClampNeg t2_3) (upd v_heldSize x1.toNatClampNeg (v_sizes x3.toNatClampNeg))) H := hP
            refine lv_iconst (pc := 90) (v := (nI 1)) hx hb dX5_shelf_90 (by decide) ?_
            exact z_iretM (pc := 91) (fun q => q.1) (fun q => (wX5_shelf cB cI cJ cO h0 h_row h_sorts h_sizes h_holds h_heldNumber h_heldSize g_fresh g_kept g_tried g_isKept g_viewed g_tape g_tapeMany g_sort g_begins g_tokenEnds g_word g_value g_good g_growing g_rows g_must g_rowMany g_sheets g_kind g_number g_ownHand g_traced g_bodies g_isParted v_row v_sorts v_sizes q.2.1 q.2.2.1 q.2.2.2)) hx hb hr hlocks hP hS hF rfl hQ dX5_shelf_91
        refine zb_icmp_ne (pc := 55) (tgt := 67) hx hb dX5_shelf_55 (by decide) hF (fun c_55 hF => ?_) (fun c_55 hF => ?_)
        · refine lv_iload_n (pc := 67) hx hb dX5_shelf_67 rfl (lv_at hl 3 rfl) ?_
          exact kJ_4 x3 hF H locs hP hS ls (lv_sub hl [0, 1, 2, 3] rfl)
        · refine lv_aload_n (pc := 58) hx hb dX5_shelf_58 rfl (lv_at hl 0 rfl) ?_
          refine va_get (D := D) (pc := 59) (ci := 5) (v := .ref h_sorts) (C := RX5) (T := TX5) (N := 30) hx hb hts nX5_shelf_X5 hown hK hP 0 rfl rfl 18 (by decide) (hts _ kX5_shelf_4) (fun _ h9 => h9) rfl dX5_shelf_59 ?_
          refine lv_iload_n (pc := 62) hx hb dX5_shelf_62 rfl (lv_at hl 3 rfl) ?_
          refine za_iald (pc := 63) hx hb hK hP 2 1 rfl rfl dX5_shelf_63 hF (fun hF => ?_)
          refine lv_goto (pc := 64) (tgt := 68) hx hb dX5_shelf_64 (by decide) ?_
          exact kJ_4 (v_sorts x3.toNatClampNeg) hF H locs hP hS ls (lv_sub hl [0, 1, 2, 3] rfl)
      refine zb_icmp_eq (pc := 25) (tgt := 42) hx hb dX5_shelf_25 (by decide) hF (fun c_25 hF => ?_) (fun c_25 hF => ?_)
      · refine lv_iconst (pc := 42) (v := (-1 : Int32)) hx hb dX5_shelf_42 (by decide) ?_
        refine lv_goto (pc := 43) (tgt := 47) hx hb dX5_shelf_43 (by decide) ?_
        exact kJ_2 (-1 : Int32) hF H locs hP hS ls (lv_sub hl [0, 1, 2, 3] rfl)
      · refine lv_iload_n (pc := 28) hx hb dX5_shelf_28 rfl (lv_at hl 2 rfl) ?_
        refine lv_iconst (pc := 29) (v := (nI 1)) hx hb dX5_shelf_29 (by decide) ?_
        refine zb_icmp_ne (pc := 30) (tgt := 46) hx hb dX5_shelf_30 (by decide) hF (fun c_30 hF => ?_) (fun c_30 hF => ?_)
        · refine lv_iload_n (pc := 46) hx hb dX5_shelf_46 rfl (lv_at hl 2 rfl) ?_
          exact kJ_2 x2 hF H locs hP hS ls (lv_sub hl [0, 1, 2, 3] rfl)
        · refine lv_aload_n (pc := 33) hx hb dX5_shelf_33 rfl (lv_at hl 0 rfl) ?_
          refine va_get (D := D) (pc := 34) (ci := 5) (v := .ref h_sorts) (C := RX5) (T := TX5) (N := 30) hx hb hts nX5_shelf_X5 hown hK hP 0 rfl rfl 18 (by decide) (hts _ kX5_shelf_4) (fun _ h9 => h9) rfl dX5_shelf_34 ?_
          refine lv_iload_n (pc := 37) hx hb dX5_shelf_37 rfl (lv_at hl 3 rfl) ?_
          refine za_iald (pc := 38) hx hb hK hP 2 1 rfl rfl dX5_shelf_38 hF (fun hF => ?_)
          refine zb_if_ge (pc := 39) (tgt := 46) hx hb dX5_shelf_39 (by decide) hF (fun c_39 hF => ?_) (fun c_39 hF => ?_)
          · refine lv_iload_n (pc := 46) hx hb dX5_shelf_46 rfl (lv_at hl 2 rfl) ?_
            exact kJ_2 x2 hF H locs hP hS ls (lv_sub hl [0, 1, 2, 3] rfl)
          · refine lv_iconst (pc := 42) (v := (-1 : Int32)) hx hb dX5_shelf_42 (by decide) ?_
            refine lv_goto (pc := 43) (tgt := 47) hx hb dX5_shelf_43 (by decide) ?_
            exact kJ_2 (-1 : Int32) hF H locs hP hS ls (lv_sub hl [0, 1, 2, 3] rfl)
    · refine lv_iconst (pc := 16) (v := (-1 : Int32)) hx hb dX5_shelf_16 (by decide) ?_
      exact z_iretM (pc := 17) (fun q => q.1) (fun q => (wX5_shelf cB cI cJ cO h0 h_row h_sorts h_sizes h_holds h_heldNumber h_heldSize g_fresh g_kept g_tried g_isKept g_viewed g_tape g_tapeMany g_sort g_begins g_tokenEnds g_word g_value g_good g_growing g_rows g_must g_rowMany g_sheets g_kind g_number g_ownHand g_traced g_bodies g_isParted v_row v_sorts v_sizes q.2.1 q.2.2.1 q.2.2.2)) hx hb hr hlocks hP hS hF rfl hQ dX5_shelf_17

abbrev rX5_kindOn : Room := { frames := 2, cells := 0, slots := 0, locals := 43 }
abbrev wX5_kindOn (cB cI cJ cO : ClassId) (h0 h_row h_holds h_heldNumber : Nat) (g_fresh g_kept g_tried g_isKept g_viewed g_tape g_tapeMany g_sort g_begins g_tokenEnds g_word g_value g_good g_growing g_rows g_must g_rowMany g_sorts g_sizes g_sheets g_heldSize g_kind g_number g_ownHand g_traced g_bodies g_isParted : Value) (v_row : Nat → Int32) (v_holds : Nat → Int32) (v_heldNumber : Nat → Int32) : va_W := [(h0, .inr (5, [.ref h_row, g_fresh, g_kept, g_tried, g_isKept, g_viewed, g_tape, g_tapeMany, g_sort, g_begins, g_tokenEnds, g_word, g_value, g_good, g_growing, g_rows, g_must, g_rowMany, g_sorts, g_sizes, g_sheets, .ref h_holds, .ref h_heldNumber, g_heldSize, g_kind, g_number, g_ownHand, g_traced, g_bodies, g_isParted])), (h_row, .inl (cI, 68, .inl v_row)), (h_holds, .inl (cI, 4, .inl v_holds)), (h_heldNumber, .inl (cI, 4, .inl v_heldNumber))]
theorem nX5_kindOn_X5 : ∀ w ∈ wsX50, w ∈ wsX5_kindOn := by decide +kernel
theorem kX5_kindOn_0 : Cond.fieldLink RX5 44 "PaintedWallsModel" "holds" "[I" ∈ wsX5_kindOn := by decide +kernel
theorem kX5_kindOn_1 : Cond.fieldLink RX5 47 "PaintedWallsModel" "heldNumber" "[I" ∈ wsX5_kindOn := by decide +kernel
set_option maxHeartbeats 4000000 in
set_option maxRecDepth 100000 in
theorem tX5_kindOn {l : Launch} {D : va_G} {cB cI cJ cO : ClassId} (h0 h_row h_holds h_heldNumber : Nat) (g_fresh g_kept g_tried g_isKept g_viewed g_tape g_tapeMany g_sort g_begins g_tokenEnds g_word g_value g_good g_growing g_rows g_must g_rowMany g_sorts g_sizes g_sheets g_heldSize g_kind g_number g_ownHand g_traced g_bodies g_isParted : Value) (v_row : Nat → Int32) (v_holds : Nat → Int32) (v_heldNumber : Nat → Int32) (x1 : Int32) (r : Int32) (hF : fX5_kindOn v_row v_holds v_heldNumber x1 = some r) : Met l yX5_kindOn wsX5_kindOn rX5_kindOn (zPre D cB cI cJ cO [.ref h0, .int x1] (wX5_kindOn cB cI cJ cO h0 h_row h_holds h_heldNumber g_fresh g_kept g_tried g_isKept g_viewed g_tape g_tapeMany g_sort g_begins g_tokenEnds g_word g_value g_good g_growing g_rows g_must g_rowMany g_sorts g_sizes g_sheets g_heldSize g_kind g_number g_ownHand g_traced g_bodies g_isParted v_row v_holds v_heldNumber)) (zPI (some (.int r))) 0 0 (fun _ => False) := by
  refine zMetP (cc := cX5_kindOn) (maxL := 2) (ret := (some .int)) (lv := [(0, .ref h0), (1, .int x1)]) (by decide) rfl (Nat.le_of_ble_eq_true rfl) rfl ?_
  intro p e s m args below meth c ls Q hQ hx hb hr hml hown hts hlocks hname hP hE hD hl
  have hown : s.vm.findClass RX5 = some m.cls := hown
  have hK := hE.1
  unfold fX5_kindOn at hF
  refine lv_aload_n (pc := 0) hx hb dX5_kindOn_0 rfl (lv_at hl 0 rfl) ?_
  refine va_get (D := D) (pc := 1) (ci := 5) (v := .ref h_holds) (C := RX5) (T := TX5) (N := 30) hx hb hts nX5_kindOn_X5 hown hK hP 0 rfl rfl 21 (by decide) (hts _ kX5_kindOn_0) (fun _ h9 => h9) rfl dX5_kindOn_1 ?_
  refine lv_iload_n (pc := 4) hx hb dX5_kindOn_4 rfl (lv_at hl 1 rfl) ?_
  refine za_iald (pc := 5) hx hb hK hP 2 1 rfl rfl dX5_kindOn_5 hF (fun hF => ?_)
  refine zb_if_eq (pc := 6) (tgt := 25) hx hb dX5_kindOn_6 (by decide) hF (fun c_6 hF => ?_) (fun c_6 hF => ?_)
  · refine lv_aload_n (pc := 25) hx hb dX5_kindOn_25 rfl (lv_at hl 0 rfl) ?_
    refine lv_aload_n (pc := 26) hx hb dX5_kindOn_26 rfl (lv_at hl 0 rfl) ?_
    refine va_get (D := D) (pc := 27) (ci := 5) (v := .ref h_heldNumber) (C := RX5) (T := TX5) (N := 30) hx hb hts nX5_kindOn_X5 hown hK hP 0 rfl rfl 22 (by decide) (hts _ kX5_kindOn_1) (fun _ h9 => h9) rfl dX5_kindOn_27 ?_
    refine lv_iload_n (pc := 30) hx hb dX5_kindOn_30 rfl (lv_at hl 1 rfl) ?_
    refine za_iald (pc := 31) hx hb hK hP 3 1 rfl rfl dX5_kindOn_31 hF (fun hF => ?_)
    obtain ⟨u32, hu32, hF⟩ := z_bind hF
    refine zq_call (oc0 := (some (.int u32))) (va_runV (As := [.int (v_heldNumber x1.toNatClampNeg)]) (rest := []) ⟨hx, hb, hml, hown, hts⟩ (tX5_isOne (l := l) (D := D) (cB := cB) (cI := cI) (cJ := cJ) (cO := cO) h0 h_row g_fresh g_kept g_tried g_isKept g_viewed g_tape g_tapeMany g_sort g_begins g_tokenEnds g_word g_value g_good g_growing g_rows g_must g_rowMany g_sorts g_sizes g_sheets (.ref h_holds) (.ref h_heldNumber) g_heldSize g_kind g_number g_ownHand g_traced g_bodies g_isParted v_row (v_heldNumber x1.toNatClampNeg) u32 hu32) (cwV 1 hts gX5_kindOn_X5_isOne rfl rfl rfl (by decide +kernel) ⟨Nat.le_of_ble_eq_true rfl, Nat.le_of_ble_eq_true rfl⟩) ⟨zPre_blind, va_recv hK hP (ci := 5) (q0 := 0) rfl rfl, zPre_at hP hE hD [0, 1] rfl rfl⟩ rfl rfl hl.1 rfl (lv_room (Nat.le_of_ble_eq_true rfl)) dX5_kindOn_32 ⟨Nat.zero_le _, Nat.zero_le _⟩) ?_
    refine W.eq (g2 := F0 m 35 ls [.int u32]) rfl ?_
    refine zb_if_eq (pc := 35) (tgt := 52) hx hb dX5_kindOn_35 (by decide) hF (fun c_35 hF => ?_) (fun c_35 hF => ?_)
    · refine lv_iconst (pc := 52) (v := (-1 : Int32)) hx hb dX5_kindOn_52 (by decide) ?_
      exact z_iret (pc := 53) (fun q => q) hx hb hr hlocks hF rfl hQ dX5_kindOn_53
    · refine lv_aload_n (pc := 38) hx hb dX5_kindOn_38 rfl (lv_at hl 0 rfl) ?_
      refine lv_aload_n (pc := 39) hx hb dX5_kindOn_39 rfl (lv_at hl 0 rfl) ?_
      refine va_get (D := D) (pc := 40) (ci := 5) (v := .ref h_heldNumber) (C := RX5) (T := TX5) (N := 30) hx hb hts nX5_kindOn_X5 hown hK hP 0 rfl rfl 22 (by decide) (hts _ kX5_kindOn_1) (fun _ h9 => h9) rfl dX5_kindOn_40 ?_
      refine lv_iload_n (pc := 43) hx hb dX5_kindOn_43 rfl (lv_at hl 1 rfl) ?_
      refine za_iald (pc := 44) hx hb hK hP 3 1 rfl rfl dX5_kindOn_44 hF (fun hF => ?_)
      refine lv_iconst (pc := 45) (v := (nI 0)) hx hb dX5_kindOn_45 (by decide) ?_
      obtain ⟨u46, hu46, hF⟩ := z_bind hF
      refine zq_call (oc0 := (some (.int u46))) (va_runV (As := [.int (v_heldNumber x1.toNatClampNeg), .int (nI 0)]) (rest := []) ⟨hx, hb, hml, hown, hts⟩ (tX5_its (l := l) (D := D) (cB := cB) (cI := cI) (cJ := cJ) (cO := cO) h0 h_row g_fresh g_kept g_tried g_isKept g_viewed g_tape g_tapeMany g_sort g_begins g_tokenEnds g_word g_value g_good g_growing g_rows g_must g_rowMany g_sorts g_sizes g_sheets (.ref h_holds) (.ref h_heldNumber) g_heldSize g_kind g_number g_ownHand g_traced g_bodies g_isParted v_row (v_heldNumber x1.toNatClampNeg) (nI 0) u46 hu46) (cwV 2 hts gX5_kindOn_X5_its rfl rfl rfl (by decide +kernel) ⟨Nat.le_of_ble_eq_true rfl, Nat.le_of_ble_eq_true rfl⟩) ⟨zPre_blind, va_recv hK hP (ci := 5) (q0 := 0) rfl rfl, zPre_at hP hE hD [0, 1] rfl rfl⟩ rfl rfl hl.1 rfl (lv_room (Nat.le_of_ble_eq_true rfl)) dX5_kindOn_46 ⟨Nat.zero_le _, Nat.zero_le _⟩) ?_
      refine W.eq (g2 := F0 m 49 ls [.int u46]) rfl ?_
      refine lv_goto (pc := 49) (tgt := 53) hx hb dX5_kindOn_49 (by decide) ?_
      exact z_iret (pc := 53) (fun q => q) hx hb hr hlocks hF rfl hQ dX5_kindOn_53
  · refine lv_aload_n (pc := 9) hx hb dX5_kindOn_9 rfl (lv_at hl 0 rfl) ?_
    refine va_get (D := D) (pc := 10) (ci := 5) (v := .ref h_holds) (C := RX5) (T := TX5) (N := 30) hx hb hts nX5_kindOn_X5 hown hK hP 0 rfl rfl 21 (by decide) (hts _ kX5_kindOn_0) (fun _ h9 => h9) rfl dX5_kindOn_10 ?_
    refine lv_iload_n (pc := 13) hx hb dX5_kindOn_13 rfl (lv_at hl 1 rfl) ?_
    refine za_iald (pc := 14) hx hb hK hP 2 1 rfl rfl dX5_kindOn_14 hF (fun hF => ?_)
    refine zb_if_ge (pc := 15) (tgt := 22) hx hb dX5_kindOn_15 (by decide) hF (fun c_15 hF => ?_) (fun c_15 hF => ?_)
    · refine lv_bipush (pc := 22) (v := (nI 9)) hx hb dX5_kindOn_22 (by decide) ?_
      exact z_iret (pc := 24) (fun q => q) hx hb hr hlocks hF rfl hQ dX5_kindOn_24
    · refine lv_iconst (pc := 18) (v := (-1 : Int32)) hx hb dX5_kindOn_18 (by decide) ?_
      refine lv_goto (pc := 19) (tgt := 24) hx hb dX5_kindOn_19 (by decide) ?_
      exact z_iret (pc := 24) (fun q => q) hx hb hr hlocks hF rfl hQ dX5_kindOn_24

abbrev rX5_isUnder : Room := { frames := 0, cells := 0, slots := 0, locals := 0 }
set_option maxHeartbeats 4000000 in
set_option maxRecDepth 100000 in
theorem tX5_isUnder {l : Launch} {D : va_G} {cB cI cJ cO : ClassId} (x0 : Int32) (x1 : Int32) (r : Int32) (hF : fX5_isUnder x0 x1 = some r) : Met l yX5_isUnder wsX5_isUnder rX5_isUnder (zPre D cB cI cJ cO [.int x0, .int x1] ([] : va_W)) (zPI (some (.int r))) 0 0 (fun _ => False) := by
  refine zMetP (cc := cX5_isUnder) (maxL := 2) (ret := (some .boolean)) (lv := [(0, .int x0), (1, .int x1)]) (by decide) rfl (Nat.le_of_ble_eq_true rfl) rfl ?_
  intro p e s m args below meth c ls Q hQ hx hb hr hml hown hts hlocks hname hP hE hD hl
  have hown : s.vm.findClass RX5 = some m.cls := hown
  have hK := hE.1
  unfold fX5_isUnder at hF
  refine lv_iload_n (pc := 0) hx hb dX5_isUnder_0 rfl (lv_at hl 1 rfl) ?_
  refine zb_if_eq (pc := 1) (tgt := 29) hx hb dX5_isUnder_1 (by decide) hF (fun c_1 hF => ?_) (fun c_1 hF => ?_)
  · refine lv_iconst (pc := 29) (v := (nI 1)) hx hb dX5_isUnder_29 (by decide) ?_
    refine lv_goto (pc := 30) (tgt := 34) hx hb dX5_isUnder_30 (by decide) ?_
    exact z_zret (pc := 34) (fun q => q) hx hb hr hlocks (by decide) hF rfl hQ dX5_isUnder_34
  · refine lv_iload_n (pc := 4) hx hb dX5_isUnder_4 rfl (lv_at hl 1 rfl) ?_
    refine lv_iload_n (pc := 5) hx hb dX5_isUnder_5 rfl (lv_at hl 0 rfl) ?_
    refine zb_icmp_eq (pc := 6) (tgt := 29) hx hb dX5_isUnder_6 (by decide) hF (fun c_6 hF => ?_) (fun c_6 hF => ?_)
    · refine lv_iconst (pc := 29) (v := (nI 1)) hx hb dX5_isUnder_29 (by decide) ?_
      refine lv_goto (pc := 30) (tgt := 34) hx hb dX5_isUnder_30 (by decide) ?_
      exact z_zret (pc := 34) (fun q => q) hx hb hr hlocks (by decide) hF rfl hQ dX5_isUnder_34
    · refine lv_iload_n (pc := 9) hx hb dX5_isUnder_9 rfl (lv_at hl 1 rfl) ?_
      refine lv_iconst (pc := 10) (v := (nI 1)) hx hb dX5_isUnder_10 (by decide) ?_
      refine zb_icmp_ne (pc := 11) (tgt := 19) hx hb dX5_isUnder_11 (by decide) hF (fun c_11 hF => ?_) (fun c_11 hF => ?_)
      · refine lv_iload_n (pc := 19) hx hb dX5_isUnder_19 rfl (lv_at hl 1 rfl) ?_
        refine lv_iconst (pc := 20) (v := (nI 2)) hx hb dX5_isUnder_20 (by decide) ?_
        refine zb_icmp_ne (pc := 21) (tgt := 33) hx hb dX5_isUnder_21 (by decide) hF (fun c_21 hF => ?_) (fun c_21 hF => ?_)
        · refine lv_iconst (pc := 33) (v := (nI 0)) hx hb dX5_isUnder_33 (by decide) ?_
          exact z_zret (pc := 34) (fun q => q) hx hb hr hlocks (by decide) hF rfl hQ dX5_isUnder_34
        · refine lv_iload_n (pc := 24) hx hb dX5_isUnder_24 rfl (lv_at hl 0 rfl) ?_
          refine lv_iconst (pc := 25) (v := (nI 4)) hx hb dX5_isUnder_25 (by decide) ?_
          refine zb_icmp_ne (pc := 26) (tgt := 33) hx hb dX5_isUnder_26 (by decide) hF (fun c_26 hF => ?_) (fun c_26 hF => ?_)
          · refine lv_iconst (pc := 33) (v := (nI 0)) hx hb dX5_isUnder_33 (by decide) ?_
            exact z_zret (pc := 34) (fun q => q) hx hb hr hlocks (by decide) hF rfl hQ dX5_isUnder_34
          · refine lv_iconst (pc := 29) (v := (nI 1)) hx hb dX5_isUnder_29 (by decide) ?_
            refine lv_goto (pc := 30) (tgt := 34) hx hb dX5_isUnder_30 (by decide) ?_
            exact z_zret (pc := 34) (fun q => q) hx hb hr hlocks (by decide) hF rfl hQ dX5_isUnder_34
      · refine lv_iload_n (pc := 14) hx hb dX5_isUnder_14 rfl (lv_at hl 0 rfl) ?_
        refine lv_iconst (pc := 15) (v := (nI 3)) hx hb dX5_isUnder_15 (by decide) ?_
        refine zb_icmp_eq (pc := 16) (tgt := 29) hx hb dX5_isUnder_16 (by decide) hF (fun c_16 hF => ?_) (fun c_16 hF => ?_)
        · refine lv_iconst (pc := 29) (v := (nI 1)) hx hb dX5_isUnder_29 (by decide) ?_
          refine lv_goto (pc := 30) (tgt := 34) hx hb dX5_isUnder_30 (by decide) ?_
          exact z_zret (pc := 34) (fun q => q) hx hb hr hlocks (by decide) hF rfl hQ dX5_isUnder_34
        · refine lv_iload_n (pc := 19) hx hb dX5_isUnder_19 rfl (lv_at hl 1 rfl) ?_
          refine lv_iconst (pc := 20) (v := (nI 2)) hx hb dX5_isUnder_20 (by decide) ?_
          refine zb_icmp_ne (pc := 21) (tgt := 33) hx hb dX5_isUnder_21 (by decide) hF (fun c_21 hF => ?_) (fun c_21 hF => ?_)
          · refine lv_iconst (pc := 33) (v := (nI 0)) hx hb dX5_isUnder_33 (by decide) ?_
            exact z_zret (pc := 34) (fun q => q) hx hb hr hlocks (by decide) hF rfl hQ dX5_isUnder_34
          · refine lv_iload_n (pc := 24) hx hb dX5_isUnder_24 rfl (lv_at hl 0 rfl) ?_
            refine lv_iconst (pc := 25) (v := (nI 4)) hx hb dX5_isUnder_25 (by decide) ?_
            refine zb_icmp_ne (pc := 26) (tgt := 33) hx hb dX5_isUnder_26 (by decide) hF (fun c_26 hF => ?_) (fun c_26 hF => ?_)
            · refine lv_iconst (pc := 33) (v := (nI 0)) hx hb dX5_isUnder_33 (by decide) ?_
              exact z_zret (pc := 34) (fun q => q) hx hb hr hlocks (by decide) hF rfl hQ dX5_isUnder_34
            · refine lv_iconst (pc := 29) (v := (nI 1)) hx hb dX5_isUnder_29 (by decide) ?_
              refine lv_goto (pc := 30) (tgt := 34) hx hb dX5_isUnder_30 (by decide) ?_
              exact z_zret (pc := 34) (fun q => q) hx hb hr hlocks (by decide) hF rfl hQ dX5_isUnder_34

abbrev rX5_taken : Room := { frames := 3, cells := 0, slots := 0, locals := 64 }
abbrev wX5_taken (cB cI cJ cO : ClassId) (h0 h_row h_holds h_heldNumber h_heldSize : Nat) (g_fresh g_kept g_tried g_isKept g_viewed g_tape g_tapeMany g_sort g_begins g_tokenEnds g_word g_value g_good g_growing g_rows g_must g_rowMany g_sorts g_sizes g_sheets g_kind g_number g_ownHand g_traced g_bodies g_isParted : Value) (v_row : Nat → Int32) (v_holds : Nat → Int32) (v_heldNumber : Nat → Int32) (v_heldSize : Nat → Int32) : va_W := [(h0, .inr (5, [.ref h_row, g_fresh, g_kept, g_tried, g_isKept, g_viewed, g_tape, g_tapeMany, g_sort, g_begins, g_tokenEnds, g_word, g_value, g_good, g_growing, g_rows, g_must, g_rowMany, g_sorts, g_sizes, g_sheets, .ref h_holds, .ref h_heldNumber, .ref h_heldSize, g_kind, g_number, g_ownHand, g_traced, g_bodies, g_isParted])), (h_row, .inl (cI, 68, .inl v_row)), (h_holds, .inl (cI, 4, .inl v_holds)), (h_heldNumber, .inl (cI, 4, .inl v_heldNumber)), (h_heldSize, .inl (cI, 4, .inl v_heldSize))]
theorem nX5_taken_X5 : ∀ w ∈ wsX50, w ∈ wsX5_taken := by decide +kernel
theorem kX5_taken_0 : Cond.fieldLink RX5 47 "PaintedWallsModel" "heldNumber" "[I" ∈ wsX5_taken := by decide +kernel
theorem kX5_taken_1 : Cond.fieldLink RX5 50 "PaintedWallsModel" "heldSize" "[I" ∈ wsX5_taken := by decide +kernel
set_option maxHeartbeats 4000000 in
set_option maxRecDepth 100000 in
theorem tX5_taken {l : Launch} {D : va_G} {cB cI cJ cO : ClassId} (h0 h_row h_holds h_heldNumber h_heldSize : Nat) (g_fresh g_kept g_tried g_isKept g_viewed g_tape g_tapeMany g_sort g_begins g_tokenEnds g_word g_value g_good g_growing g_rows g_must g_rowMany g_sorts g_sizes g_sheets g_kind g_number g_ownHand g_traced g_bodies g_isParted : Value) (v_row : Nat → Int32) (v_holds : Nat → Int32) (v_heldNumber : Nat → Int32) (v_heldSize : Nat → Int32) (x1 : Int32) (x2 : Int32) (r : Int32) (hF : fX5_taken v_row v_holds v_heldNumber v_heldSize x1 x2 = some r) : Met l yX5_taken wsX5_taken rX5_taken (zPre D cB cI cJ cO [.ref h0, .int x1, .int x2] (wX5_taken cB cI cJ cO h0 h_row h_holds h_heldNumber h_heldSize g_fresh g_kept g_tried g_isKept g_viewed g_tape g_tapeMany g_sort g_begins g_tokenEnds g_word g_value g_good g_growing g_rows g_must g_rowMany g_sorts g_sizes g_sheets g_kind g_number g_ownHand g_traced g_bodies g_isParted v_row v_holds v_heldNumber v_heldSize)) (zPI (some (.int r))) 0 0 (fun _ => False) := by
  refine zMetP (cc := cX5_taken) (maxL := 4) (ret := (some .int)) (lv := [(0, .ref h0), (1, .int x1), (2, .int x2)]) (by decide) rfl (Nat.le_of_ble_eq_true rfl) rfl ?_
  intro p e s m args below meth c ls Q hQ hx hb hr hml hown hts hlocks hname hP hE hD hl
  have hown : s.vm.findClass RX5 = some m.cls := hown
  have hK := hE.1
  unfold fX5_taken at hF
  refine lv_iload_n (pc := 0) hx hb dX5_taken_0 rfl (lv_at hl 1 rfl) ?_
  obtain ⟨u1, hu1, hF⟩ := z_bind hF
  refine zq_call (oc0 := (some (.int u1))) (va_runS (As := [.int x1]) (rest := []) ⟨hx, hb, hml, hown, hts⟩ (tX5_isShelf (l := l) (D := D) (cB := cB) (cI := cI) (cJ := cJ) (cO := cO) x1 u1 hu1) (va_cwS 1 hts gX5_taken_X5_isShelf rfl rfl rfl (by decide +kernel) ⟨Nat.le_of_ble_eq_true rfl, Nat.le_of_ble_eq_true rfl⟩) ⟨zPre_blind, zPre_at hP hE hD [] rfl rfl⟩ rfl rfl hl.1 rfl (lv_room (Nat.le_of_ble_eq_true rfl)) dX5_taken_1 ⟨Nat.zero_le _, Nat.zero_le _⟩) ?_
  refine W.eq (g2 := F0 m 4 ls [.int u1]) rfl ?_
  refine zb_if_eq (pc := 4) (tgt := 27) hx hb dX5_taken_4 (by decide) hF (fun c_4 hF => ?_) (fun c_4 hF => ?_)
  · refine lv_iconst (pc := 27) (v := (-1 : Int32)) hx hb dX5_taken_27 (by decide) ?_
    exact z_iret (pc := 28) (fun q => q) hx hb hr hlocks hF rfl hQ dX5_taken_28
  · refine lv_iload_n (pc := 7) hx hb dX5_taken_7 rfl (lv_at hl 2 rfl) ?_
    refine lv_iconst (pc := 8) (v := (nI 0)) hx hb dX5_taken_8 (by decide) ?_
    refine lv_iconst (pc := 9) (v := (nI 5)) hx hb dX5_taken_9 (by decide) ?_
    obtain ⟨u10, hu10, hF⟩ := z_bind hF
    refine zq_call (oc0 := (some (.int u10))) (va_runS (As := [.int x2, .int (nI 0), .int (nI 5)]) (rest := []) ⟨hx, hb, hml, hown, hts⟩ (tX5_in (l := l) (D := D) (cB := cB) (cI := cI) (cJ := cJ) (cO := cO) x2 (nI 0) (nI 5) u10 hu10) (va_cwS 3 hts gX5_taken_X5_in rfl rfl rfl (by decide +kernel) ⟨Nat.le_of_ble_eq_true rfl, Nat.le_of_ble_eq_true rfl⟩) ⟨zPre_blind, zPre_at hP hE hD [] rfl rfl⟩ rfl rfl hl.1 rfl (lv_room (Nat.le_of_ble_eq_true rfl)) dX5_taken_10 ⟨Nat.zero_le _, Nat.zero_le _⟩) ?_
    refine W.eq (g2 := F0 m 13 ls [.int u10]) rfl ?_
    obtain ⟨J_1, hJ_1, hF⟩ := z_J hF
    have kJ_1 : J_1 = some r → ∀ (ls : Array Slot), lv_has ls 4 [(0, .ref h0), (1, .int x1), (2, .int x2)] → W p l e rX5_taken s m args below meth c s.heap [] 0 0 Q (F0 m 29 ls []) := by
      intro  hF ls hl
      rw [hJ_1] at hF
      refine lv_aload_n (pc := 29) hx hb dX5_taken_29 rfl (lv_at hl 0 rfl) ?_
      refine lv_iload_n (pc := 30) hx hb dX5_taken_30 rfl (lv_at hl 1 rfl) ?_
      obtain ⟨u31, hu31, hF⟩ := z_bind hF
      refine zq_call (oc0 := (some (.int u31))) (va_runV (As := [.int x1]) (rest := []) ⟨hx, hb, hml, hown, hts⟩ (tX5_kindOn (l := l) (D := D) (cB := cB) (cI := cI) (cJ := cJ) (cO := cO) h0 h_row h_holds h_heldNumber g_fresh g_kept g_tried g_isKept g_viewed g_tape g_tapeMany g_sort g_begins g_tokenEnds g_word g_value g_good g_growing g_rows g_must g_rowMany g_sorts g_sizes g_sheets (.ref h_heldSize) g_kind g_number g_ownHand g_traced g_bodies g_isParted v_row v_holds v_heldNumber x1 u31 hu31) (cwV 1 hts gX5_taken_X5_kindOn rfl rfl rfl (by decide +kernel) ⟨Nat.le_of_ble_eq_true rfl, Nat.le_of_ble_eq_true rfl⟩) ⟨zPre_blind, va_recv hK hP (ci := 5) (q0 := 0) rfl rfl, zPre_at hP hE hD [0, 1, 2, 3] rfl rfl⟩ rfl rfl hl.1 rfl (lv_room (Nat.le_of_ble_eq_true rfl)) dX5_taken_31 ⟨Nat.zero_le _, Nat.zero_le _⟩) ?_
      refine W.eq (g2 := F0 m 34 ls [.int u31]) rfl ?_
      refine lv_istore_n (pc := 34) (lv' := [(3, .int u31), (0, .ref h0), (1, .int x1), (2, .int x2)]) hx hb dX5_taken_34 rfl hl (by decide) rfl (fun ls hl => ?_)
      refine lv_iload_n (pc := 35) hx hb dX5_taken_35 rfl (lv_at hl 0 rfl) ?_
      refine zb_if_ge (pc := 36) (tgt := 42) hx hb dX5_taken_36 (by decide) hF (fun c_36 hF => ?_) (fun c_36 hF => ?_)
      · refine lv_iload_n (pc := 42) hx hb dX5_taken_42 rfl (lv_at hl 0 rfl) ?_
        refine lv_bipush (pc := 43) (v := (nI 9)) hx hb dX5_taken_43 (by decide) ?_
        refine zb_icmp_ne (pc := 45) (tgt := 73) hx hb dX5_taken_45 (by decide) hF (fun c_45 hF => ?_) (fun c_45 hF => ?_)
        · refine lv_iload_n (pc := 73) hx hb dX5_taken_73 rfl (lv_at hl 3 rfl) ?_
          refine lv_bipush (pc := 74) (v := (nI 10)) hx hb dX5_taken_74 (by decide) ?_
          refine zb_icmp_ge (pc := 76) (tgt := 96) hx hb dX5_taken_76 (by decide) hF (fun c_76 hF => ?_) (fun c_76 hF => ?_)
          · refine lv_bipush (pc := 96) (v := (-13 : Int32)) hx hb dX5_taken_96 (by decide) ?_
            exact z_iret (pc := 98) (fun q => q) hx hb hr hlocks hF rfl hQ dX5_taken_98
          · refine lv_iload_n (pc := 79) hx hb dX5_taken_79 rfl (lv_at hl 0 rfl) ?_
            refine lv_iload_n (pc := 80) hx hb dX5_taken_80 rfl (lv_at hl 3 rfl) ?_
            obtain ⟨u81, hu81, hF⟩ := z_bind hF
            refine zq_call (oc0 := (some (.int u81))) (va_runS (As := [.int u31, .int x2]) (rest := []) ⟨hx, hb, hml, hown, hts⟩ (tX5_isUnder (l := l) (D := D) (cB := cB) (cI := cI) (cJ := cJ) (cO := cO) u31 x2 u81 hu81) (va_cwS 2 hts gX5_taken_X5_isUnder rfl rfl rfl (by decide +kernel) ⟨Nat.le_of_ble_eq_true rfl, Nat.le_of_ble_eq_true rfl⟩) ⟨zPre_blind, zPre_at hP hE hD [] rfl rfl⟩ rfl rfl hl.1 rfl (lv_room (Nat.le_of_ble_eq_true rfl)) dX5_taken_81 ⟨Nat.zero_le _, Nat.zero_le _⟩) ?_
            refine W.eq (g2 := F0 m 84 ls [.int u81]) rfl ?_
            refine zb_if_eq (pc := 84) (tgt := 96) hx hb dX5_taken_84 (by decide) hF (fun c_84 hF => ?_) (fun c_84 hF => ?_)
            · refine lv_bipush (pc := 96) (v := (-13 : Int32)) hx hb dX5_taken_96 (by decide) ?_
              exact z_iret (pc := 98) (fun q => q) hx hb hr hlocks hF rfl hQ dX5_taken_98
            · refine lv_aload_n (pc := 87) hx hb dX5_taken_87 rfl (lv_at hl 1 rfl) ?_
              refine va_get (D := D) (pc := 88) (ci := 5) (v := .ref h_heldNumber) (C := RX5) (T := TX5) (N := 30) hx hb hts nX5_taken_X5 hown hK hP 0 rfl rfl 22 (by decide) (hts _ kX5_taken_0) (fun _ h9 => h9) rfl dX5_taken_88 ?_
              refine lv_iload_n (pc := 91) hx hb dX5_taken_91 rfl (lv_at hl 2 rfl) ?_
              refine za_iald (pc := 92) hx hb hK hP 3 1 rfl rfl dX5_taken_92 hF (fun hF => ?_)
              refine lv_goto (pc := 93) (tgt := 98) hx hb dX5_taken_93 (by decide) ?_
              exact z_iret (pc := 98) (fun q => q) hx hb hr hlocks hF rfl hQ dX5_taken_98
        · refine lv_iload_n (pc := 48) hx hb dX5_taken_48 rfl (lv_at hl 3 rfl) ?_
          refine lv_bipush (pc := 49) (v := (nI 10)) hx hb dX5_taken_49 (by decide) ?_
          refine lv_aload_n (pc := 51) hx hb dX5_taken_51 rfl (lv_at hl 1 rfl) ?_
          refine va_get (D := D) (pc := 52) (ci := 5) (v := .ref h_heldNumber) (C := RX5) (T := TX5) (N := 30) hx hb hts nX5_taken_X5 hown hK hP 0 rfl rfl 22 (by decide) (hts _ kX5_taken_0) (fun _ h9 => h9) rfl dX5_taken_52 ?_
          refine lv_iload_n (pc := 55) hx hb dX5_taken_55 rfl (lv_at hl 2 rfl) ?_
          refine za_iald (pc := 56) hx hb hK hP 3 1 rfl rfl dX5_taken_56 hF (fun hF => ?_)
          refine lv_iadd (pc := 57) hx hb dX5_taken_57 ?_
          refine zb_icmp_ne (pc := 58) (tgt := 70) hx hb dX5_taken_58 (by decide) hF (fun c_58 hF => ?_) (fun c_58 hF => ?_)
          · refine lv_bipush (pc := 70) (v := (-13 : Int32)) hx hb dX5_taken_70 (by decide) ?_
            exact z_iret (pc := 72) (fun q => q) hx hb hr hlocks hF rfl hQ dX5_taken_72
          · refine lv_aload_n (pc := 61) hx hb dX5_taken_61 rfl (lv_at hl 1 rfl) ?_
            refine va_get (D := D) (pc := 62) (ci := 5) (v := .ref h_heldSize) (C := RX5) (T := TX5) (N := 30) hx hb hts nX5_taken_X5 hown hK hP 0 rfl rfl 23 (by decide) (hts _ kX5_taken_1) (fun _ h9 => h9) rfl dX5_taken_62 ?_
            refine lv_iload_n (pc := 65) hx hb dX5_taken_65 rfl (lv_at hl 2 rfl) ?_
            refine za_iald (pc := 66) hx hb hK hP 4 1 rfl rfl dX5_taken_66 hF (fun hF => ?_)
            refine lv_goto (pc := 67) (tgt := 72) hx hb dX5_taken_67 (by decide) ?_
            exact z_iret (pc := 72) (fun q => q) hx hb hr hlocks hF rfl hQ dX5_taken_72
      · refine lv_bipush (pc := 39) (v := (-11 : Int32)) hx hb dX5_taken_39 (by decide) ?_
        exact z_iret (pc := 41) (fun q => q) hx hb hr hlocks hF rfl hQ dX5_taken_41
    refine zb_if_ne (pc := 13) (tgt := 29) hx hb dX5_taken_13 (by decide) hF (fun c_13 hF => ?_) (fun c_13 hF => ?_)
    · exact kJ_1  hF ls (lv_sub hl [0, 1, 2] rfl)
    · refine lv_iload_n (pc := 16) hx hb dX5_taken_16 rfl (lv_at hl 2 rfl) ?_
      refine lv_bipush (pc := 17) (v := (nI 10)) hx hb dX5_taken_17 (by decide) ?_
      refine lv_bipush (pc := 19) (v := (nI 13)) hx hb dX5_taken_19 (by decide) ?_
      obtain ⟨u21, hu21, hF⟩ := z_bind hF
      refine zq_call (oc0 := (some (.int u21))) (va_runS (As := [.int x2, .int (nI 10), .int (nI 13)]) (rest := []) ⟨hx, hb, hml, hown, hts⟩ (tX5_in (l := l) (D := D) (cB := cB) (cI := cI) (cJ := cJ) (cO := cO) x2 (nI 10) (nI 13) u21 hu21) (va_cwS 3 hts gX5_taken_X5_in rfl rfl rfl (by decide +kernel) ⟨Nat.le_of_ble_eq_true rfl, Nat.le_of_ble_eq_true rfl⟩) ⟨zPre_blind, zPre_at hP hE hD [] rfl rfl⟩ rfl rfl hl.1 rfl (lv_room (Nat.le_of_ble_eq_true rfl)) dX5_taken_21 ⟨Nat.zero_le _, Nat.zero_le _⟩) ?_
      refine W.eq (g2 := F0 m 24 ls [.int u21]) rfl ?_
      refine zb_if_ne (pc := 24) (tgt := 29) hx hb dX5_taken_24 (by decide) hF (fun c_24 hF => ?_) (fun c_24 hF => ?_)
      · exact kJ_1  hF ls (lv_sub hl [0, 1, 2] rfl)
      · refine lv_iconst (pc := 27) (v := (-1 : Int32)) hx hb dX5_taken_27 (by decide) ?_
        exact z_iret (pc := 28) (fun q => q) hx hb hr hlocks hF rfl hQ dX5_taken_28

abbrev rX5_ran : Room := { frames := 0, cells := 0, slots := 0, locals := 0 }
abbrev wX5_ran (cB cI cJ cO : ClassId) (h0 h_traced : Nat) (g_row g_fresh g_kept g_tried g_isKept g_viewed g_tape g_tapeMany g_sort g_begins g_tokenEnds g_word g_value g_good g_growing g_rows g_must g_rowMany g_sorts g_sizes g_sheets g_holds g_heldNumber g_heldSize g_kind g_number g_ownHand g_isParted : Value) (v_bodies : Int32) (v_traced : Nat → Int32) : va_W := [(h0, .inr (5, [g_row, g_fresh, g_kept, g_tried, g_isKept, g_viewed, g_tape, g_tapeMany, g_sort, g_begins, g_tokenEnds, g_word, g_value, g_good, g_growing, g_rows, g_must, g_rowMany, g_sorts, g_sizes, g_sheets, g_holds, g_heldNumber, g_heldSize, g_kind, g_number, g_ownHand, .ref h_traced, .int v_bodies, g_isParted])), (h_traced, .inl (cI, 30, .inl v_traced))]
theorem nX5_ran_X5 : ∀ w ∈ wsX50, w ∈ wsX5_ran := by decide +kernel
theorem kX5_ran_0 : Cond.fieldLink RX5 332 "PaintedWallsModel" "bodies" "I" ∈ wsX5_ran := by decide +kernel
theorem kX5_ran_1 : Cond.fieldLink RX5 53 "PaintedWallsModel" "traced" "[I" ∈ wsX5_ran := by decide +kernel
set_option maxHeartbeats 4000000 in
set_option maxRecDepth 100000 in
theorem tX5_ran {l : Launch} {D : va_G} {cB cI cJ cO : ClassId} (h0 h_traced : Nat) (g_row g_fresh g_kept g_tried g_isKept g_viewed g_tape g_tapeMany g_sort g_begins g_tokenEnds g_word g_value g_good g_growing g_rows g_must g_rowMany g_sorts g_sizes g_sheets g_holds g_heldNumber g_heldSize g_kind g_number g_ownHand g_isParted : Value) (v_bodies : Int32) (v_traced : Nat → Int32) (x1 : Int32) (r : Int32 × (Nat → Int32)) (hF : fX5_ran v_bodies v_traced x1 = some r) : Met l yX5_ran wsX5_ran rX5_ran (zPre D cB cI cJ cO [.ref h0, .int x1] (wX5_ran cB cI cJ cO h0 h_traced g_row g_fresh g_kept g_tried g_isKept g_viewed g_tape g_tapeMany g_sort g_begins g_tokenEnds g_word g_value g_good g_growing g_rows g_must g_rowMany g_sorts g_sizes g_sheets g_holds g_heldNumber g_heldSize g_kind g_number g_ownHand g_isParted v_bodies v_traced)) (zPM none D (wX5_ran cB cI cJ cO h0 h_traced g_row g_fresh g_kept g_tried g_isKept g_viewed g_tape g_tapeMany g_sort g_begins g_tokenEnds g_word g_value g_good g_growing g_rows g_must g_rowMany g_sorts g_sizes g_sheets g_holds g_heldNumber g_heldSize g_kind g_number g_ownHand g_isParted r.1 r.2) (zAs [h0, h_traced])) 0 0 (zAs [h0, h_traced]) := by
  refine zMetM (cc := cX5_ran) (maxL := 2) (ret := none) (lv := [(0, .ref h0), (1, .int x1)]) rfl (by decide) rfl (Nat.le_of_ble_eq_true rfl) rfl ?_
  intro p e s m args below meth c ls Q H locs hQ hx hb hr hml hown hts hlocks hname hP hE hD hS hl
  have hown : s.vm.findClass RX5 = some m.cls := hown
  have hK := hE.1
  unfold fX5_ran at hF
  refine lv_aload_n (pc := 0) hx hb dX5_ran_0 rfl (lv_at hl 0 rfl) ?_
  refine va_get (D := D) (pc := 1) (ci := 5) (v := .int v_bodies) (C := RX5) (T := TX5) (N := 30) hx hb hts nX5_ran_X5 hown hK hP 0 rfl rfl 28 (by decide) (hts _ kX5_ran_0) (fun _ h9 => h9) rfl dX5_ran_1 ?_
  refine lv_bipush (pc := 4) (v := (nI 30)) hx hb dX5_ran_4 (by decide) ?_
  refine zb_icmp_ge (pc := 6) (tgt := 29) hx hb dX5_ran_6 (by decide) hF (fun c_6 hF => ?_) (fun c_6 hF => ?_)
  · exact z_vretM (pc := 29) (fun q => (wX5_ran cB cI cJ cO h0 h_traced g_row g_fresh g_kept g_tried g_isKept g_viewed g_tape g_tapeMany g_sort g_begins g_tokenEnds g_word g_value g_good g_growing g_rows g_must g_rowMany g_sorts g_sizes g_sheets g_holds g_heldNumber g_heldSize g_kind g_number g_ownHand g_isParted q.1 q.2)) hx hb hr hlocks hP hS hF hQ dX5_ran_29
  · refine lv_aload_n (pc := 9) hx hb dX5_ran_9 rfl (lv_at hl 0 rfl) ?_
    refine va_get (D := D) (pc := 10) (ci := 5) (v := .ref h_traced) (C := RX5) (T := TX5) (N := 30) hx hb hts nX5_ran_X5 hown hK hP 0 rfl rfl 27 (by decide) (hts _ kX5_ran_1) (fun _ h9 => h9) rfl dX5_ran_10 ?_
    refine lv_aload_n (pc := 13) hx hb dX5_ran_13 rfl (lv_at hl 0 rfl) ?_
    refine va_get (D := D) (pc := 14) (ci := 5) (v := .int v_bodies) (C := RX5) (T := TX5) (N := 30) hx hb hts nX5_ran_X5 hown hK hP 0 rfl rfl 28 (by decide) (hts _ kX5_ran_0) (fun _ h9 => h9) rfl dX5_ran_14 ?_
    refine lv_iload_n (pc := 17) hx hb dX5_ran_17 rfl (lv_at hl 1 rfl) ?_
    refine za_iast (pc := 18) hx hb hK hP (zD_re hD rfl) hS 1 1 rfl rfl dX5_ran_18 hF (fun hF H locs hP hS => ?_)
    have hP : va_P D vwCl (wX5_ran cB cI cJ cO h0 h_traced g_row g_fresh g_kept g_tried g_isKept g_viewed g_tape g_tapeMany g_sort g_begins g_tokenEnds g_word g_value g_good g_growing g_rows g_must g_rowMany g_sorts g_sizes g_sheets g_holds g_heldNumber g_heldSize g_kind g_number g_ownHand g_isParted v_bodies (upd v_traced v_bodies.toNatClampNeg x1)) H := hP
    refine lv_aload_n (pc := 19) hx hb dX5_ran_19 rfl (lv_at hl 0 rfl) ?_
    refine lv_dup (pc := 20) hx hb dX5_ran_20 rfl ?_
    refine va_get (D := D) (pc := 21) (ci := 5) (v := .int v_bodies) (C := RX5) (T := TX5) (N := 30) hx hb hts nX5_ran_X5 hown hK hP 0 rfl rfl 28 (by decide) (hts _ kX5_ran_0) (fun _ h9 => h9) rfl dX5_ran_21 ?_
    refine lv_iconst (pc := 24) (v := (nI 1)) hx hb dX5_ran_24 (by decide) ?_
    refine lv_iadd (pc := 25) hx hb dX5_ran_25 ?_
    refine va_put (D := D) (pc := 26) (ci := 5) (v := .int (v_bodies + (nI 1))) (ty := .int) (C := RX5) (T := TX5) (N := 30) hx hb hts nX5_ran_X5 tyX5 tyX5_ok nmX5 hown hK hP (zD_re hD rfl) hS 0 rfl rfl 28 (by decide) (hts _ kX5_ran_0) (fun _ h9 => h9) rfl (tyX5_ok 28 (by decide)) rfl rfl (Nat.le_of_ble_eq_true rfl) dX5_ran_26 (fun H locs hP _ hS => ?_)
    have hP : va_P D vwCl (wX5_ran cB cI cJ cO h0 h_traced g_row g_fresh g_kept g_tried g_isKept g_viewed g_tape g_tapeMany g_sort g_begins g_tokenEnds g_word g_value g_good g_growing g_rows g_must g_rowMany g_sorts g_sizes g_sheets g_holds g_heldNumber g_heldSize g_kind g_number g_ownHand g_isParted (v_bodies + (nI 1)) (upd v_traced v_bodies.toNatClampNeg x1)) H := hP
    exact z_vretM (pc := 29) (fun q => (wX5_ran cB cI cJ cO h0 h_traced g_row g_fresh g_kept g_tried g_isKept g_viewed g_tape g_tapeMany g_sort g_begins g_tokenEnds g_word g_value g_good g_growing g_rows g_must g_rowMany g_sorts g_sizes g_sheets g_holds g_heldNumber g_heldSize g_kind g_number g_ownHand g_isParted q.1 q.2)) hx hb hr hlocks hP hS hF hQ dX5_ran_29

abbrev rX5_plainSprays : Room := { frames := 1, cells := 0, slots := 0, locals := 21 }
abbrev wX5_plainSprays (cB cI cJ cO : ClassId) (h0 h_traced : Nat) (g_row g_fresh g_kept g_tried g_isKept g_viewed g_tape g_tapeMany g_sort g_begins g_tokenEnds g_word g_value g_good g_growing g_rows g_must g_rowMany g_sorts g_sizes g_sheets g_holds g_heldNumber g_heldSize g_kind g_ownHand g_isParted : Value) (v_number : Int32) (v_bodies : Int32) (v_traced : Nat → Int32) : va_W := [(h0, .inr (5, [g_row, g_fresh, g_kept, g_tried, g_isKept, g_viewed, g_tape, g_tapeMany, g_sort, g_begins, g_tokenEnds, g_word, g_value, g_good, g_growing, g_rows, g_must, g_rowMany, g_sorts, g_sizes, g_sheets, g_holds, g_heldNumber, g_heldSize, g_kind, .int v_number, g_ownHand, .ref h_traced, .int v_bodies, g_isParted])), (h_traced, .inl (cI, 30, .inl v_traced))]
theorem nX5_plainSprays_X5 : ∀ w ∈ wsX50, w ∈ wsX5_plainSprays := by decide +kernel
theorem kX5_plainSprays_0 : Cond.fieldLink RX5 338 "PaintedWallsModel" "number" "I" ∈ wsX5_plainSprays := by decide +kernel
set_option maxHeartbeats 4000000 in
set_option maxRecDepth 100000 in
theorem tX5_plainSprays {l : Launch} {D : va_G} {cB cI cJ cO : ClassId} (h0 h_traced : Nat) (g_row g_fresh g_kept g_tried g_isKept g_viewed g_tape g_tapeMany g_sort g_begins g_tokenEnds g_word g_value g_good g_growing g_rows g_must g_rowMany g_sorts g_sizes g_sheets g_holds g_heldNumber g_heldSize g_kind g_ownHand g_isParted : Value) (v_number : Int32) (v_bodies : Int32) (v_traced : Nat → Int32) (x1 : Int32) (r : Int32 × Int32 × (Nat → Int32)) (hF : fX5_plainSprays v_number v_bodies v_traced x1 = some r) : Met l yX5_plainSprays wsX5_plainSprays rX5_plainSprays (zPre D cB cI cJ cO [.ref h0, .int x1] (wX5_plainSprays cB cI cJ cO h0 h_traced g_row g_fresh g_kept g_tried g_isKept g_viewed g_tape g_tapeMany g_sort g_begins g_tokenEnds g_word g_value g_good g_growing g_rows g_must g_rowMany g_sorts g_sizes g_sheets g_holds g_heldNumber g_heldSize g_kind g_ownHand g_isParted v_number v_bodies v_traced)) (zPM (some (.int r.1)) D (wX5_plainSprays cB cI cJ cO h0 h_traced g_row g_fresh g_kept g_tried g_isKept g_viewed g_tape g_tapeMany g_sort g_begins g_tokenEnds g_word g_value g_good g_growing g_rows g_must g_rowMany g_sorts g_sizes g_sheets g_holds g_heldNumber g_heldSize g_kind g_ownHand g_isParted v_number r.2.1 r.2.2) (zAs [h0, h_traced])) 0 0 (zAs [h0, h_traced]) := by
  refine zMetM (cc := cX5_plainSprays) (maxL := 2) (ret := (some .int)) (lv := [(0, .ref h0), (1, .int x1)]) rfl (by decide) rfl (Nat.le_of_ble_eq_true rfl) rfl ?_
  intro p e s m args below meth c ls Q H locs hQ hx hb hr hml hown hts hlocks hname hP hE hD hS hl
  have hown : s.vm.findClass RX5 = some m.cls := hown
  have hK := hE.1
  unfold fX5_plainSprays at hF
  refine lv_aload_n (pc := 0) hx hb dX5_plainSprays_0 rfl (lv_at hl 0 rfl) ?_
  refine lv_bipush (pc := 1) (v := (nI 10)) hx hb dX5_plainSprays_1 (by decide) ?_
  obtain ⟨u3, hu3, hF⟩ := z_bind hF
  refine zq_callM (oc0 := none) (wc := wX5_ran cB cI cJ cO h0 h_traced g_row g_fresh g_kept g_tried g_isKept g_viewed g_tape g_tapeMany g_sort g_begins g_tokenEnds g_word g_value g_good g_growing g_rows g_must g_rowMany g_sorts g_sizes g_sheets g_holds g_heldNumber g_heldSize g_kind (.int v_number) g_ownHand g_isParted v_bodies v_traced) (wc' := wX5_ran cB cI cJ cO h0 h_traced g_row g_fresh g_kept g_tried g_isKept g_viewed g_tape g_tapeMany g_sort g_begins g_tokenEnds g_word g_value g_good g_growing g_rows g_must g_rowMany g_sorts g_sizes g_sheets g_holds g_heldNumber g_heldSize g_kind (.int v_number) g_ownHand g_isParted u3.1 u3.2) (ws' := (wX5_plainSprays cB cI cJ cO h0 h_traced g_row g_fresh g_kept g_tried g_isKept g_viewed g_tape g_tapeMany g_sort g_begins g_tokenEnds g_word g_value g_good g_growing g_rows g_must g_rowMany g_sorts g_sizes g_sheets g_holds g_heldNumber g_heldSize g_kind g_ownHand g_isParted v_number u3.1 u3.2)) (va_runV (As := [.int (nI 10)]) (rest := []) ⟨hx, hb, hml, hown, hts⟩ (tX5_ran (l := l) (D := D) (cB := cB) (cI := cI) (cJ := cJ) (cO := cO) h0 h_traced g_row g_fresh g_kept g_tried g_isKept g_viewed g_tape g_tapeMany g_sort g_begins g_tokenEnds g_word g_value g_good g_growing g_rows g_must g_rowMany g_sorts g_sizes g_sheets g_holds g_heldNumber g_heldSize g_kind (.int v_number) g_ownHand g_isParted v_bodies v_traced (nI 10) u3 hu3) (cwV 1 hts gX5_plainSprays_X5_ran rfl rfl rfl (by decide +kernel) ⟨Nat.le_of_ble_eq_true rfl, Nat.le_of_ble_eq_true rfl⟩) ⟨zPre_blind, va_recv hK hP (ci := 5) (q0 := 0) rfl rfl, zPre_at hP hE (zD_re hD rfl) [0, 1] rfl rfl⟩ rfl rfl hl.1 rfl (lv_room (Nat.le_of_ble_eq_true rfl)) dX5_plainSprays_3 ⟨Nat.zero_le _, Nat.zero_le _⟩) rfl hP (zD_re hD rfl) hS [0, 1] rfl rfl [some 0, some 1] rfl rfl rfl rfl (fun H locs hP hS => ?_)
  refine W.eq (g2 := F0 m 6 ls []) rfl ?_
  refine lv_iload_n (pc := 6) hx hb dX5_plainSprays_6 rfl (lv_at hl 1 rfl) ?_
  refine lv_bipush (pc := 7) (v := (nI 7)) hx hb dX5_plainSprays_7 (by decide) ?_
  refine lv_imul (pc := 9) hx hb dX5_plainSprays_9 ?_
  refine lv_aload_n (pc := 10) hx hb dX5_plainSprays_10 rfl (lv_at hl 0 rfl) ?_
  refine va_get (D := D) (pc := 11) (ci := 5) (v := .int v_number) (C := RX5) (T := TX5) (N := 30) hx hb hts nX5_plainSprays_X5 hown hK hP 0 rfl rfl 25 (by decide) (hts _ kX5_plainSprays_0) (fun _ h9 => h9) rfl dX5_plainSprays_11 ?_
  refine lv_iadd (pc := 14) hx hb dX5_plainSprays_14 ?_
  exact z_iretM (pc := 15) (fun q => q.1) (fun q => (wX5_plainSprays cB cI cJ cO h0 h_traced g_row g_fresh g_kept g_tried g_isKept g_viewed g_tape g_tapeMany g_sort g_begins g_tokenEnds g_word g_value g_good g_growing g_rows g_must g_rowMany g_sorts g_sizes g_sheets g_holds g_heldNumber g_heldSize g_kind g_ownHand g_isParted v_number q.2.1 q.2.2)) hx hb hr hlocks hP hS hF rfl hQ dX5_plainSprays_15
