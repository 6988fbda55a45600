abbrev rX5_onWall : Room := { frames := 1, cells := 0, slots := 0, locals := 22 }
abbrev wX5_onWall (cB cI cJ cO : ClassId) (h0 h_row : Nat) (g_fresh g_kept g_tried g_isKept g_viewed g_tape g_tapeMany g_sort g_begins g_tokenEnds g_word g_value g_good g_growing g_rows g_must g_rowMany g_sorts g_sizes g_sheets g_holds g_heldNumber g_heldSize g_kind g_number g_ownHand g_traced g_bodies g_isParted : Value) (v_row : Nat → Int32) : va_W := [(h0, .inr (5, [.ref h_row, g_fresh, g_kept, g_tried, g_isKept, g_viewed, g_tape, g_tapeMany, g_sort, g_begins, g_tokenEnds, g_word, g_value, g_good, g_growing, g_rows, g_must, g_rowMany, g_sorts, g_sizes, g_sheets, g_holds, g_heldNumber, g_heldSize, g_kind, g_number, g_ownHand, g_traced, g_bodies, g_isParted])), (h_row, .inl (cI, 68, .inl v_row))]
theorem nX5_onWall_X5 : ∀ w ∈ wsX50, w ∈ wsX5_onWall := by decide +kernel
theorem kX5_onWall_0 : Cond.fieldLink RX5 7 "PaintedWallsModel" "row" "[I" ∈ wsX5_onWall := by decide +kernel
set_option maxHeartbeats 4000000 in
set_option maxRecDepth 100000 in
theorem tX5_onWall {l : Launch} {D : va_G} {cB cI cJ cO : ClassId} (h0 h_row : Nat) (g_fresh g_kept g_tried g_isKept g_viewed g_tape g_tapeMany g_sort g_begins g_tokenEnds g_word g_value g_good g_growing g_rows g_must g_rowMany g_sorts g_sizes g_sheets g_holds g_heldNumber g_heldSize g_kind g_number g_ownHand g_traced g_bodies g_isParted : Value) (v_row : Nat → Int32) (x1 : Int32) (r : Int32) (hF : fX5_onWall v_row x1 = some r) : Met l yX5_onWall wsX5_onWall rX5_onWall (zPre D cB cI cJ cO [.ref h0, .int x1] (wX5_onWall cB cI cJ cO h0 h_row g_fresh g_kept g_tried g_isKept g_viewed g_tape g_tapeMany g_sort g_begins g_tokenEnds g_word g_value g_good g_growing g_rows g_must g_rowMany g_sorts g_sizes g_sheets g_holds g_heldNumber g_heldSize g_kind g_number g_ownHand g_traced g_bodies g_isParted v_row)) (zPI (some (.int r))) 0 0 (fun _ => False) := by
  refine zMetP (cc := cX5_onWall) (maxL := 4) (ret := (some .int)) (lv := [(0, .ref h0), (1, .int x1)]) (by decide) rfl (Nat.le_of_ble_eq_true rfl) rfl ?_
  intro p e s m args below meth c ls Q hQ hx hb hr hml hown hts hlocks hname hP hE hD hl
  have hown : s.vm.findClass RX5 = some m.cls := hown
  have hK := hE.1
  unfold fX5_onWall at hF
  refine lv_iconst (pc := 0) (v := (nI 0)) hx hb dX5_onWall_0 (by decide) ?_
  refine lv_istore_n (pc := 1) (lv' := [(2, .int (nI 0)), (0, .ref h0), (1, .int x1)]) hx hb dX5_onWall_1 rfl hl (by decide) rfl (fun ls hl => ?_)
  refine lv_iconst (pc := 2) (v := (nI 0)) hx hb dX5_onWall_2 (by decide) ?_
  refine lv_istore_n (pc := 3) (lv' := [(3, .int (nI 0)), (2, .int (nI 0)), (0, .ref h0), (1, .int x1)]) hx hb dX5_onWall_3 rfl hl (by decide) rfl (fun ls hl => ?_)
  obtain ⟨k_4, hk_4, hF⟩ := z_J hF
  have kk_4 : ∀ (y2_3 : Int32) , k_4 y2_3 = some r → ∀ (ls : Array Slot), lv_has ls 4 [(2, .int y2_3)] → W p l e rX5_onWall s m args below meth c s.heap [] 0 0 Q (F0 m 41 ls []) := by
    intro y2_3 hF ls hl
    rw [hk_4] at hF
    refine lv_iload_n (pc := 41) hx hb dX5_onWall_41 rfl (lv_at hl 0 rfl) ?_
    exact z_iret (pc := 42) (fun q => q) hx hb hr hlocks hF rfl hQ dX5_onWall_42
  have hL_4 : ∀ (n : Nat) (y2_1 : Int32) (y3_2 : Int32) , fX5_onWall_L4 v_row x1 k_4 n y2_1 y3_2 = some r → ∀ (ls : Array Slot), lv_has ls 4 [(0, .ref h0), (1, .int x1), (2, .int y2_1), (3, .int y3_2)] → W p l e rX5_onWall s m args below meth c s.heap [] 0 0 Q (F0 m 4 ls []) := by
    intro n
    induction n with
    | zero =>
      intro y2_1 y3_2 hF ls hl
      exact z_no hF
    | succ n ih =>
      intro y2_1 y3_2 hF ls hl
      rw [fX5_onWall_L4] at hF
      refine lv_iload_n (pc := 4) hx hb dX5_onWall_4 rfl (lv_at hl 3 rfl) ?_
      refine lv_aload_n (pc := 5) hx hb dX5_onWall_5 rfl (lv_at hl 0 rfl) ?_
      refine va_get (D := D) (pc := 6) (ci := 5) (v := .ref h_row) (C := RX5) (T := TX5) (N := 30) hx hb hts nX5_onWall_X5 hown hK hP 0 rfl rfl 0 (by decide) (hts _ kX5_onWall_0) (fun _ h9 => h9) rfl dX5_onWall_6 ?_
      refine lv_bipush (pc := 9) (v := (nI 6)) hx hb dX5_onWall_9 (by decide) ?_
      refine za_ialdK (pc := 11) (k := 6) hx hb hK hP 1 1 rfl rfl (by decide) (by decide) dX5_onWall_11 ?_
      refine zb_icmp_ge (pc := 12) (tgt := 41) hx hb dX5_onWall_12 (by decide) hF (fun c_12 hF => ?_) (fun c_12 hF => ?_)
      · exact kk_4 y2_1 hF ls (lv_sub hl [2] rfl)
      · refine lv_iload_n (pc := 15) hx hb dX5_onWall_15 rfl (lv_at hl 2 rfl) ?_
        refine lv_aload_n (pc := 16) hx hb dX5_onWall_16 rfl (lv_at hl 0 rfl) ?_
        refine lv_iload_n (pc := 17) hx hb dX5_onWall_17 rfl (lv_at hl 3 rfl) ?_
        refine lv_iconst (pc := 18) (v := (nI 3)) hx hb dX5_onWall_18 (by decide) ?_
        obtain ⟨u19, hu19, hF⟩ := z_bind hF
        refine zq_call (oc0 := (some (.int u19))) (va_runV (As := [.int y3_2, .int (nI 3)]) (rest := [.int y2_1]) ⟨hx, hb, hml, hown, hts⟩ (tX5_its (l := l) (D := D) (cB := cB) (cI := cI) (cJ := cJ) (cO := cO) h0 h_row g_fresh g_kept g_tried g_isKept g_viewed g_tape g_tapeMany g_sort g_begins g_tokenEnds g_word g_value g_good g_growing g_rows g_must g_rowMany g_sorts g_sizes g_sheets g_holds g_heldNumber g_heldSize g_kind g_number g_ownHand g_traced g_bodies g_isParted v_row y3_2 (nI 3) u19 hu19) (cwV 2 hts gX5_onWall_X5_its rfl rfl rfl (by decide +kernel) ⟨Nat.le_of_ble_eq_true rfl, Nat.le_of_ble_eq_true rfl⟩) ⟨zPre_blind, va_recv hK hP (ci := 5) (q0 := 0) rfl rfl, zPre_at hP hE hD [0, 1] rfl rfl⟩ rfl rfl hl.1 rfl (lv_room (Nat.le_of_ble_eq_true rfl)) dX5_onWall_19 ⟨Nat.zero_le _, Nat.zero_le _⟩) ?_
        refine W.eq (g2 := F0 m 22 ls [.int u19, .int y2_1]) rfl ?_
        refine lv_iload_n (pc := 22) hx hb dX5_onWall_22 rfl (lv_at hl 1 rfl) ?_
        refine zb_icmp_ne (pc := 23) (tgt := 32) hx hb dX5_onWall_23 (by decide) hF (fun c_23 hF => ?_) (fun c_23 hF => ?_)
        · refine lv_iconst (pc := 32) (v := (nI 0)) hx hb dX5_onWall_32 (by decide) ?_
          refine lv_ior (pc := 33) hx hb dX5_onWall_33 ?_
          refine lv_istore_n (pc := 34) (lv' := [(2, .int (y2_1 ||| (nI 0))), (0, .ref h0), (1, .int x1), (3, .int y3_2)]) hx hb dX5_onWall_34 rfl hl (by decide) rfl (fun ls hl => ?_)
          refine lv_iinc (pc := 35) (v := (y3_2 + 1)) (lv' := [(3, .int (y3_2 + 1)), (2, .int (y2_1 ||| (nI 0))), (0, .ref h0), (1, .int x1)]) hx hb dX5_onWall_35 hl (k := 3) rfl rfl (by decide) rfl (fun ls hl => ?_)
          refine lv_goto (pc := 38) (tgt := 4) hx hb dX5_onWall_38 (by decide) ?_
          exact ih (y2_1 ||| (nI 0)) (y3_2 + 1) hF ls (lv_sub hl [2, 3, 1, 0] rfl)
        · refine lv_iconst (pc := 26) (v := (nI 1)) hx hb dX5_onWall_26 (by decide) ?_
          refine lv_iload_n (pc := 27) hx hb dX5_onWall_27 rfl (lv_at hl 3 rfl) ?_
          refine lv_ishl (pc := 28) hx hb dX5_onWall_28 ?_
          refine lv_goto (pc := 29) (tgt := 33) hx hb dX5_onWall_29 (by decide) ?_
          refine lv_ior (pc := 33) hx hb dX5_onWall_33 ?_
          refine lv_istore_n (pc := 34) (lv' := [(2, .int (y2_1 ||| ((nI 1) <<< (y3_2 &&& 31)))), (0, .ref h0), (1, .int x1), (3, .int y3_2)]) hx hb dX5_onWall_34 rfl hl (by decide) rfl (fun ls hl => ?_)
          refine lv_iinc (pc := 35) (v := (y3_2 + 1)) (lv' := [(3, .int (y3_2 + 1)), (2, .int (y2_1 ||| ((nI 1) <<< (y3_2 &&& 31)))), (0, .ref h0), (1, .int x1)]) hx hb dX5_onWall_35 hl (k := 3) rfl rfl (by decide) rfl (fun ls hl => ?_)
          refine lv_goto (pc := 38) (tgt := 4) hx hb dX5_onWall_38 (by decide) ?_
          exact ih (y2_1 ||| ((nI 1) <<< (y3_2 &&& 31))) (y3_2 + 1) hF ls (lv_sub hl [2, 3, 1, 0] rfl)
  exact hL_4 zK (nI 0) (nI 0) hF ls (lv_sub hl [2, 3, 1, 0] rfl)

abbrev rX5_others : Room := { frames := 2, cells := 0, slots := 0, locals := 45 }
abbrev wX5_others (cB cI cJ cO : ClassId) (h0 h_row : Nat) (g_fresh g_kept g_tried g_isKept g_viewed g_tape g_tapeMany g_sort g_begins g_tokenEnds g_word g_value g_good g_growing g_rows g_must g_rowMany g_sorts g_sizes g_sheets g_holds g_heldNumber g_heldSize g_kind g_number g_ownHand g_traced g_bodies g_isParted : Value) (v_row : Nat → Int32) : va_W := [(h0, .inr (5, [.ref h_row, g_fresh, g_kept, g_tried, g_isKept, g_viewed, g_tape, g_tapeMany, g_sort, g_begins, g_tokenEnds, g_word, g_value, g_good, g_growing, g_rows, g_must, g_rowMany, g_sorts, g_sizes, g_sheets, g_holds, g_heldNumber, g_heldSize, g_kind, g_number, g_ownHand, g_traced, g_bodies, g_isParted])), (h_row, .inl (cI, 68, .inl v_row))]
set_option maxHeartbeats 4000000 in
set_option maxRecDepth 100000 in
theorem tX5_others {l : Launch} {D : va_G} {cB cI cJ cO : ClassId} (h0 h_row : Nat) (g_fresh g_kept g_tried g_isKept g_viewed g_tape g_tapeMany g_sort g_begins g_tokenEnds g_word g_value g_good g_growing g_rows g_must g_rowMany g_sorts g_sizes g_sheets g_holds g_heldNumber g_heldSize g_kind g_number g_ownHand g_traced g_bodies g_isParted : Value) (v_row : Nat → Int32) (x1 : Int32) (r : Int32) (hF : fX5_others v_row x1 = some r) : Met l yX5_others wsX5_others rX5_others (zPre D cB cI cJ cO [.ref h0, .int x1] (wX5_others cB cI cJ cO h0 h_row g_fresh g_kept g_tried g_isKept g_viewed g_tape g_tapeMany g_sort g_begins g_tokenEnds g_word g_value g_good g_growing g_rows g_must g_rowMany g_sorts g_sizes g_sheets g_holds g_heldNumber g_heldSize g_kind g_number g_ownHand g_traced g_bodies g_isParted v_row)) (zPI (some (.int r))) 0 0 (fun _ => False) := by
  refine zMetP (cc := cX5_others) (maxL := 2) (ret := (some .int)) (lv := [(0, .ref h0), (1, .int x1)]) (by decide) rfl (Nat.le_of_ble_eq_true rfl) rfl ?_
  intro p e s m args below meth c ls Q hQ hx hb hr hml hown hts hlocks hname hP hE hD hl
  have hown : s.vm.findClass RX5 = some m.cls := hown
  have hK := hE.1
  unfold fX5_others at hF
  refine lv_aload_n (pc := 0) hx hb dX5_others_0 rfl (lv_at hl 0 rfl) ?_
  refine lv_aload_n (pc := 1) hx hb dX5_others_1 rfl (lv_at hl 0 rfl) ?_
  refine lv_iload_n (pc := 2) hx hb dX5_others_2 rfl (lv_at hl 1 rfl) ?_
  refine lv_iconst (pc := 3) (v := (nI 3)) hx hb dX5_others_3 (by decide) ?_
  obtain ⟨u4, hu4, hF⟩ := z_bind hF
  refine zq_call (oc0 := (some (.int u4))) (va_runV (As := [.int x1, .int (nI 3)]) (rest := [.ref h0]) ⟨hx, hb, hml, hown, hts⟩ (tX5_its (l := l) (D := D) (cB := cB) (cI := cI) (cJ := cJ) (cO := cO) h0 h_row g_fresh g_kept g_tried g_isKept g_viewed g_tape g_tapeMany g_sort g_begins g_tokenEnds g_word g_value g_good g_growing g_rows g_must g_rowMany g_sorts g_sizes g_sheets g_holds g_heldNumber g_heldSize g_kind g_number g_ownHand g_traced g_bodies g_isParted v_row x1 (nI 3) u4 hu4) (cwV 2 hts gX5_others_X5_its rfl rfl rfl (by decide +kernel) ⟨Nat.le_of_ble_eq_true rfl, Nat.le_of_ble_eq_true rfl⟩) ⟨zPre_blind, va_recv hK hP (ci := 5) (q0 := 0) rfl rfl, zPre_at hP hE hD [0, 1] rfl rfl⟩ rfl rfl hl.1 rfl (lv_room (Nat.le_of_ble_eq_true rfl)) dX5_others_4 ⟨Nat.zero_le _, Nat.zero_le _⟩) ?_
  refine W.eq (g2 := F0 m 7 ls [.int u4, .ref h0]) rfl ?_
  obtain ⟨u7, hu7, hF⟩ := z_bind hF
  refine zq_call (oc0 := (some (.int u7))) (va_runV (As := [.int u4]) (rest := []) ⟨hx, hb, hml, hown, hts⟩ (tX5_onWall (l := l) (D := D) (cB := cB) (cI := cI) (cJ := cJ) (cO := cO) h0 h_row g_fresh g_kept g_tried g_isKept g_viewed g_tape g_tapeMany g_sort g_begins g_tokenEnds g_word g_value g_good g_growing g_rows g_must g_rowMany g_sorts g_sizes g_sheets g_holds g_heldNumber g_heldSize g_kind g_number g_ownHand g_traced g_bodies g_isParted v_row u4 u7 hu7) (cwV 1 hts gX5_others_X5_onWall rfl rfl rfl (by decide +kernel) ⟨Nat.le_of_ble_eq_true rfl, Nat.le_of_ble_eq_true rfl⟩) ⟨zPre_blind, va_recv hK hP (ci := 5) (q0 := 0) rfl rfl, zPre_at hP hE hD [0, 1] rfl rfl⟩ rfl rfl hl.1 rfl (lv_room (Nat.le_of_ble_eq_true rfl)) dX5_others_7 ⟨Nat.zero_le _, Nat.zero_le _⟩) ?_
  refine W.eq (g2 := F0 m 10 ls [.int u7]) rfl ?_
  obtain ⟨u10, hu10, hF⟩ := z_bind hF
  refine zq_call (oc0 := (some (.int u10))) (va_runS (As := [.int u7]) (rest := []) ⟨hx, hb, hml, hown, hts⟩ (tX5_ones (l := l) (D := D) (cB := cB) (cI := cI) (cJ := cJ) (cO := cO) u7 u10 hu10) (va_cwS 1 hts gX5_others_X5_ones rfl rfl rfl (by decide +kernel) ⟨Nat.le_of_ble_eq_true rfl, Nat.le_of_ble_eq_true rfl⟩) ⟨zPre_blind, zPre_at hP hE hD [] rfl rfl⟩ rfl rfl hl.1 rfl (lv_room (Nat.le_of_ble_eq_true rfl)) dX5_others_10 ⟨Nat.zero_le _, Nat.zero_le _⟩) ?_
  refine W.eq (g2 := F0 m 13 ls [.int u10]) rfl ?_
  refine lv_iconst (pc := 13) (v := (nI 1)) hx hb dX5_others_13 (by decide) ?_
  refine lv_isub (pc := 14) hx hb dX5_others_14 ?_
  exact z_iret (pc := 15) (fun q => q) hx hb hr hlocks hF rfl hQ dX5_others_15

abbrev rX5_grows : Room := { frames := 3, cells := 0, slots := 0, locals := 66 }
abbrev wX5_grows (cB cI cJ cO : ClassId) (h0 h_row : Nat) (g_fresh g_kept g_tried g_isKept g_viewed g_tape g_tapeMany g_sort g_begins g_tokenEnds g_word g_value g_good g_growing g_rows g_must g_rowMany g_sorts g_sizes g_sheets g_holds g_heldNumber g_heldSize g_kind g_number g_ownHand g_traced g_bodies g_isParted : Value) (v_row : Nat → Int32) : va_W := [(h0, .inr (5, [.ref h_row, g_fresh, g_kept, g_tried, g_isKept, g_viewed, g_tape, g_tapeMany, g_sort, g_begins, g_tokenEnds, g_word, g_value, g_good, g_growing, g_rows, g_must, g_rowMany, g_sorts, g_sizes, g_sheets, g_holds, g_heldNumber, g_heldSize, g_kind, g_number, g_ownHand, g_traced, g_bodies, g_isParted])), (h_row, .inl (cI, 68, .inl v_row))]
theorem nX5_grows_X5 : ∀ w ∈ wsX50, w ∈ wsX5_grows := by decide +kernel
theorem kX5_grows_0 : Cond.fieldLink RX5 7 "PaintedWallsModel" "row" "[I" ∈ wsX5_grows := by decide +kernel
set_option maxHeartbeats 4000000 in
set_option maxRecDepth 100000 in
theorem tX5_grows {l : Launch} {D : va_G} {cB cI cJ cO : ClassId} (h0 h_row : Nat) (g_fresh g_kept g_tried g_isKept g_viewed g_tape g_tapeMany g_sort g_begins g_tokenEnds g_word g_value g_good g_growing g_rows g_must g_rowMany g_sorts g_sizes g_sheets g_holds g_heldNumber g_heldSize g_kind g_number g_ownHand g_traced g_bodies g_isParted : Value) (v_row : Nat → Int32) (x1 : Int32) (r : Int32) (hF : fX5_grows v_row x1 = some r) : Met l yX5_grows wsX5_grows rX5_grows (zPre D cB cI cJ cO [.ref h0, .int x1] (wX5_grows cB cI cJ cO h0 h_row g_fresh g_kept g_tried g_isKept g_viewed g_tape g_tapeMany g_sort g_begins g_tokenEnds g_word g_value g_good g_growing g_rows g_must g_rowMany g_sorts g_sizes g_sheets g_holds g_heldNumber g_heldSize g_kind g_number g_ownHand g_traced g_bodies g_isParted v_row)) (zPI (some (.int r))) 0 0 (fun _ => False) := by
  refine zMetP (cc := cX5_grows) (maxL := 3) (ret := (some .int)) (lv := [(0, .ref h0), (1, .int x1)]) (by decide) rfl (Nat.le_of_ble_eq_true rfl) rfl ?_
  intro p e s m args below meth c ls Q hQ hx hb hr hml hown hts hlocks hname hP hE hD hl
  have hown : s.vm.findClass RX5 = some m.cls := hown
  have hK := hE.1
  unfold fX5_grows at hF
  refine lv_aload_n (pc := 0) hx hb dX5_grows_0 rfl (lv_at hl 0 rfl) ?_
  refine lv_aload_n (pc := 1) hx hb dX5_grows_1 rfl (lv_at hl 0 rfl) ?_
  refine lv_iload_n (pc := 2) hx hb dX5_grows_2 rfl (lv_at hl 1 rfl) ?_
  refine lv_iconst (pc := 3) (v := (nI 3)) hx hb dX5_grows_3 (by decide) ?_
  obtain ⟨u4, hu4, hF⟩ := z_bind hF
  refine zq_call (oc0 := (some (.int u4))) (va_runV (As := [.int x1, .int (nI 3)]) (rest := [.ref h0]) ⟨hx, hb, hml, hown, hts⟩ (tX5_its (l := l) (D := D) (cB := cB) (cI := cI) (cJ := cJ) (cO := cO) h0 h_row g_fresh g_kept g_tried g_isKept g_viewed g_tape g_tapeMany g_sort g_begins g_tokenEnds g_word g_value g_good g_growing g_rows g_must g_rowMany g_sorts g_sizes g_sheets g_holds g_heldNumber g_heldSize g_kind g_number g_ownHand g_traced g_bodies g_isParted v_row x1 (nI 3) u4 hu4) (cwV 2 hts gX5_grows_X5_its rfl rfl rfl (by decide +kernel) ⟨Nat.le_of_ble_eq_true rfl, Nat.le_of_ble_eq_true rfl⟩) ⟨zPre_blind, va_recv hK hP (ci := 5) (q0 := 0) rfl rfl, zPre_at hP hE hD [0, 1] rfl rfl⟩ rfl rfl hl.1 rfl (lv_room (Nat.le_of_ble_eq_true rfl)) dX5_grows_4 ⟨Nat.zero_le _, Nat.zero_le _⟩) ?_
  refine W.eq (g2 := F0 m 7 ls [.int u4, .ref h0]) rfl ?_
  obtain ⟨u7, hu7, hF⟩ := z_bind hF
  refine zq_call (oc0 := (some (.int u7))) (va_runV (As := [.int u4]) (rest := []) ⟨hx, hb, hml, hown, hts⟩ (tX5_ground (l := l) (D := D) (cB := cB) (cI := cI) (cJ := cJ) (cO := cO) h0 h_row g_fresh g_kept g_tried g_isKept g_viewed g_tape g_tapeMany g_sort g_begins g_tokenEnds g_word g_value g_good g_growing g_rows g_must g_rowMany g_sorts g_sizes g_sheets g_holds g_heldNumber g_heldSize g_kind g_number g_ownHand g_traced g_bodies g_isParted v_row u4 u7 hu7) (cwV 1 hts gX5_grows_X5_ground rfl rfl rfl (by decide +kernel) ⟨Nat.le_of_ble_eq_true rfl, Nat.le_of_ble_eq_true rfl⟩) ⟨zPre_blind, va_recv hK hP (ci := 5) (q0 := 0) rfl rfl, zPre_at hP hE hD [0, 1] rfl rfl⟩ rfl rfl hl.1 rfl (lv_room (Nat.le_of_ble_eq_true rfl)) dX5_grows_7 ⟨Nat.zero_le _, Nat.zero_le _⟩) ?_
  refine W.eq (g2 := F0 m 10 ls [.int u7]) rfl ?_
  refine lv_iconst (pc := 10) (v := (nI 1)) hx hb dX5_grows_10 (by decide) ?_
  obtain ⟨J_2, hJ_2, hF⟩ := z_J hF
  have kJ_2 : ∀ (t0_1 : Int32) , J_2 t0_1 = some r → ∀ (ls : Array Slot), lv_has ls 3 [(0, .ref h0), (1, .int x1)] → W p l e rX5_grows s m args below meth c s.heap [] 0 0 Q (F0 m 26 ls [.int t0_1]) := by
    intro t0_1 hF ls hl
    rw [hJ_2] at hF
    refine lv_istore_n (pc := 26) (lv' := [(2, .int t0_1), (0, .ref h0), (1, .int x1)]) hx hb dX5_grows_26 rfl hl (by decide) rfl (fun ls hl => ?_)
    refine lv_aload_n (pc := 27) hx hb dX5_grows_27 rfl (lv_at hl 1 rfl) ?_
    refine lv_iload_n (pc := 28) hx hb dX5_grows_28 rfl (lv_at hl 2 rfl) ?_
    refine lv_iconst (pc := 29) (v := (nI 0)) hx hb dX5_grows_29 (by decide) ?_
    obtain ⟨u30, hu30, hF⟩ := z_bind hF
    refine zq_call (oc0 := (some (.int u30))) (va_runV (As := [.int x1, .int (nI 0)]) (rest := []) ⟨hx, hb, hml, hown, hts⟩ (tX5_its (l := l) (D := D) (cB := cB) (cI := cI) (cJ := cJ) (cO := cO) h0 h_row g_fresh g_kept g_tried g_isKept g_viewed g_tape g_tapeMany g_sort g_begins g_tokenEnds g_word g_value g_good g_growing g_rows g_must g_rowMany g_sorts g_sizes g_sheets g_holds g_heldNumber g_heldSize g_kind g_number g_ownHand g_traced g_bodies g_isParted v_row x1 (nI 0) u30 hu30) (cwV 2 hts gX5_grows_X5_its rfl rfl rfl (by decide +kernel) ⟨Nat.le_of_ble_eq_true rfl, Nat.le_of_ble_eq_true rfl⟩) ⟨zPre_blind, va_recv hK hP (ci := 5) (q0 := 0) rfl rfl, zPre_at hP hE hD [0, 1] rfl rfl⟩ rfl rfl hl.1 rfl (lv_room (Nat.le_of_ble_eq_true rfl)) dX5_grows_30 ⟨Nat.zero_le _, Nat.zero_le _⟩) ?_
    refine W.eq (g2 := F0 m 33 ls [.int u30]) rfl ?_
    by_cases c_33_1 : u30 = nI 1
    · have hF := (z_if _ hF).1 c_33_1
      refine lv_tableIn (pc := 33) (off := 35) (tgt := 68) hx hb dX5_grows_33 (by rw [c_33_1]; decide) (by rw [c_33_1]; decide) (by rw [c_33_1]; rfl) (by decide) ?_
      refine lv_iload_n (pc := 68) hx hb dX5_grows_68 rfl (lv_at hl 0 rfl) ?_
      exact z_iret (pc := 69) (fun q => q) hx hb hr hlocks hF rfl hQ dX5_grows_69
    · have hF := (z_if _ hF).2 c_33_1
      by_cases c_33_2 : u30 = nI 2
      · have hF := (z_if _ hF).1 c_33_2
        refine lv_tableIn (pc := 33) (off := 41) (tgt := 74) hx hb dX5_grows_33 (by rw [c_33_2]; decide) (by rw [c_33_2]; decide) (by rw [c_33_2]; rfl) (by decide) ?_
        refine lv_iconst (pc := 74) (v := (nI 2)) hx hb dX5_grows_74 (by decide) ?_
        refine lv_aload_n (pc := 75) hx hb dX5_grows_75 rfl (lv_at hl 1 rfl) ?_
        refine lv_iload_n (pc := 76) hx hb dX5_grows_76 rfl (lv_at hl 2 rfl) ?_
        obtain ⟨u77, hu77, hF⟩ := z_bind hF
        refine zq_call (oc0 := (some (.int u77))) (va_runV (As := [.int x1]) (rest := [.int (nI 2)]) ⟨hx, hb, hml, hown, hts⟩ (tX5_others (l := l) (D := D) (cB := cB) (cI := cI) (cJ := cJ) (cO := cO) h0 h_row g_fresh g_kept g_tried g_isKept g_viewed g_tape g_tapeMany g_sort g_begins g_tokenEnds g_word g_value g_good g_growing g_rows g_must g_rowMany g_sorts g_sizes g_sheets g_holds g_heldNumber g_heldSize g_kind g_number g_ownHand g_traced g_bodies g_isParted v_row x1 u77 hu77) (cwV 1 hts gX5_grows_X5_others rfl rfl rfl (by decide +kernel) ⟨Nat.le_of_ble_eq_true rfl, Nat.le_of_ble_eq_true rfl⟩) ⟨zPre_blind, va_recv hK hP (ci := 5) (q0 := 0) rfl rfl, zPre_at hP hE hD [0, 1] rfl rfl⟩ rfl rfl hl.1 rfl (lv_room (Nat.le_of_ble_eq_true rfl)) dX5_grows_77 ⟨Nat.zero_le _, Nat.zero_le _⟩) ?_
        refine W.eq (g2 := F0 m 80 ls [.int u77, .int (nI 2)]) rfl ?_
        refine lv_isub (pc := 80) hx hb dX5_grows_80 ?_
        exact z_iret (pc := 81) (fun q => q) hx hb hr hlocks hF rfl hQ dX5_grows_81
      · have hF := (z_if _ hF).2 c_33_2
        by_cases c_33_3 : u30 = nI 3
        · have hF := (z_if _ hF).1 c_33_3
          refine lv_tableIn (pc := 33) (off := 37) (tgt := 70) hx hb dX5_grows_33 (by rw [c_33_3]; decide) (by rw [c_33_3]; decide) (by rw [c_33_3]; rfl) (by decide) ?_
          refine lv_iconst (pc := 70) (v := (nI 2)) hx hb dX5_grows_70 (by decide) ?_
          refine lv_iload_n (pc := 71) hx hb dX5_grows_71 rfl (lv_at hl 0 rfl) ?_
          refine lv_imul (pc := 72) hx hb dX5_grows_72 ?_
          exact z_iret (pc := 73) (fun q => q) hx hb hr hlocks hF rfl hQ dX5_grows_73
        · have hF := (z_if _ hF).2 c_33_3
          by_cases c_33_4 : u30 = nI 4
          · have hF := (z_if _ hF).1 c_33_4
            refine lv_tableIn (pc := 33) (off := 49) (tgt := 82) hx hb dX5_grows_33 (by rw [c_33_4]; decide) (by rw [c_33_4]; decide) (by rw [c_33_4]; rfl) (by decide) ?_
            refine lv_iconst (pc := 82) (v := (nI 5)) hx hb dX5_grows_82 (by decide) ?_
            refine lv_aload_n (pc := 83) hx hb dX5_grows_83 rfl (lv_at hl 1 rfl) ?_
            refine lv_iload_n (pc := 84) hx hb dX5_grows_84 rfl (lv_at hl 2 rfl) ?_
            obtain ⟨u85, hu85, hF⟩ := z_bind hF
            refine zq_call (oc0 := (some (.int u85))) (va_runV (As := [.int x1]) (rest := [.int (nI 5)]) ⟨hx, hb, hml, hown, hts⟩ (tX5_others (l := l) (D := D) (cB := cB) (cI := cI) (cJ := cJ) (cO := cO) h0 h_row g_fresh g_kept g_tried g_isKept g_viewed g_tape g_tapeMany g_sort g_begins g_tokenEnds g_word g_value g_good g_growing g_rows g_must g_rowMany g_sorts g_sizes g_sheets g_holds g_heldNumber g_heldSize g_kind g_number g_ownHand g_traced g_bodies g_isParted v_row x1 u85 hu85) (cwV 1 hts gX5_grows_X5_others rfl rfl rfl (by decide +kernel) ⟨Nat.le_of_ble_eq_true rfl, Nat.le_of_ble_eq_true rfl⟩) ⟨zPre_blind, va_recv hK hP (ci := 5) (q0 := 0) rfl rfl, zPre_at hP hE hD [0, 1] rfl rfl⟩ rfl rfl hl.1 rfl (lv_room (Nat.le_of_ble_eq_true rfl)) dX5_grows_85 ⟨Nat.zero_le _, Nat.zero_le _⟩) ?_
            refine W.eq (g2 := F0 m 88 ls [.int u85, .int (nI 5)]) rfl ?_
            refine lv_isub (pc := 88) hx hb dX5_grows_88 ?_
            exact z_iret (pc := 89) (fun q => q) hx hb hr hlocks hF rfl hQ dX5_grows_89
          · have hF := (z_if _ hF).2 c_33_4
            by_cases c_33_5 : u30 = nI 5
            · have hF := (z_if _ hF).1 c_33_5
              refine lv_tableIn (pc := 33) (off := 57) (tgt := 90) hx hb dX5_grows_33 (by rw [c_33_5]; decide) (by rw [c_33_5]; decide) (by rw [c_33_5]; rfl) (by decide) ?_
              refine lv_iconst (pc := 90) (v := (nI 0)) hx hb dX5_grows_90 (by decide) ?_
              exact z_iret (pc := 91) (fun q => q) hx hb hr hlocks hF rfl hQ dX5_grows_91
            · have hF := (z_if _ hF).2 c_33_5
              refine lv_tableOut (pc := 33) (tgt := 92) hx hb dX5_grows_33 (by have q0 : ¬ u30.toInt = 1 := lv_neT c_33_1 (by decide); have q1 : ¬ u30.toInt = 2 := lv_neT c_33_2 (by decide); have q2 : ¬ u30.toInt = 3 := lv_neT c_33_3 (by decide); have q3 : ¬ u30.toInt = 4 := lv_neT c_33_4 (by decide); have q4 : ¬ u30.toInt = 5 := lv_neT c_33_5 (by decide); omega) (by decide) ?_
              refine lv_iconst (pc := 92) (v := (nI 2)) hx hb dX5_grows_92 (by decide) ?_
              exact z_iret (pc := 93) (fun q => q) hx hb hr hlocks hF rfl hQ dX5_grows_93
  refine zb_icmp_ne (pc := 11) (tgt := 25) hx hb dX5_grows_11 (by decide) hF (fun c_11 hF => ?_) (fun c_11 hF => ?_)
  · refine lv_iconst (pc := 25) (v := (nI 2)) hx hb dX5_grows_25 (by decide) ?_
    exact kJ_2 (nI 2) hF ls (lv_sub hl [0, 1] rfl)
  · refine lv_iconst (pc := 14) (v := (nI 2)) hx hb dX5_grows_14 (by decide) ?_
    refine lv_aload_n (pc := 15) hx hb dX5_grows_15 rfl (lv_at hl 0 rfl) ?_
    refine va_get (D := D) (pc := 16) (ci := 5) (v := .ref h_row) (C := RX5) (T := TX5) (N := 30) hx hb hts nX5_grows_X5 hown hK hP 0 rfl rfl 0 (by decide) (hts _ kX5_grows_0) (fun _ h9 => h9) rfl dX5_grows_16 ?_
    refine lv_iconst (pc := 19) (v := (nI 1)) hx hb dX5_grows_19 (by decide) ?_
    refine za_ialdK (pc := 20) (k := 1) hx hb hK hP 1 1 rfl rfl (by decide) (by decide) dX5_grows_20 ?_
    refine lv_iadd (pc := 21) hx hb dX5_grows_21 ?_
    refine lv_goto (pc := 22) (tgt := 26) hx hb dX5_grows_22 (by decide) ?_
    exact kJ_2 ((nI 2) + (v_row 1)) hF ls (lv_sub hl [0, 1] rfl)

abbrev rX5_holds : Room := { frames := 3, cells := 0, slots := 0, locals := 66 }
abbrev wX5_holds (cB cI cJ cO : ClassId) (h0 h_row : Nat) (g_fresh g_kept g_tried g_isKept g_viewed g_tape g_tapeMany g_sort g_begins g_tokenEnds g_word g_value g_good g_growing g_rows g_must g_rowMany g_sorts g_sizes g_sheets g_holds g_heldNumber g_heldSize g_kind g_number g_ownHand g_traced g_bodies g_isParted : Value) (v_row : Nat → Int32) : va_W := [(h0, .inr (5, [.ref h_row, g_fresh, g_kept, g_tried, g_isKept, g_viewed, g_tape, g_tapeMany, g_sort, g_begins, g_tokenEnds, g_word, g_value, g_good, g_growing, g_rows, g_must, g_rowMany, g_sorts, g_sizes, g_sheets, g_holds, g_heldNumber, g_heldSize, g_kind, g_number, g_ownHand, g_traced, g_bodies, g_isParted])), (h_row, .inl (cI, 68, .inl v_row))]
theorem nX5_holds_X5 : ∀ w ∈ wsX50, w ∈ wsX5_holds := by decide +kernel
theorem kX5_holds_0 : Cond.fieldLink RX5 7 "PaintedWallsModel" "row" "[I" ∈ wsX5_holds := by decide +kernel
set_option maxHeartbeats 4000000 in
set_option maxRecDepth 100000 in
theorem tX5_holds {l : Launch} {D : va_G} {cB cI cJ cO : ClassId} (h0 h_row : Nat) (g_fresh g_kept g_tried g_isKept g_viewed g_tape g_tapeMany g_sort g_begins g_tokenEnds g_word g_value g_good g_growing g_rows g_must g_rowMany g_sorts g_sizes g_sheets g_holds g_heldNumber g_heldSize g_kind g_number g_ownHand g_traced g_bodies g_isParted : Value) (v_row : Nat → Int32) (x1 : Int32) (r : Int32) (hF : fX5_holds v_row x1 = some r) : Met l yX5_holds wsX5_holds rX5_holds (zPre D cB cI cJ cO [.ref h0, .int x1] (wX5_holds cB cI cJ cO h0 h_row g_fresh g_kept g_tried g_isKept g_viewed g_tape g_tapeMany g_sort g_begins g_tokenEnds g_word g_value g_good g_growing g_rows g_must g_rowMany g_sorts g_sizes g_sheets g_holds g_heldNumber g_heldSize g_kind g_number g_ownHand g_traced g_bodies g_isParted v_row)) (zPI (some (.int r))) 0 0 (fun _ => False) := by
  refine zMetP (cc := cX5_holds) (maxL := 3) (ret := (some .int)) (lv := [(0, .ref h0), (1, .int x1)]) (by decide) rfl (Nat.le_of_ble_eq_true rfl) rfl ?_
  intro p e s m args below meth c ls Q hQ hx hb hr hml hown hts hlocks hname hP hE hD hl
  have hown : s.vm.findClass RX5 = some m.cls := hown
  have hK := hE.1
  unfold fX5_holds at hF
  refine lv_aload_n (pc := 0) hx hb dX5_holds_0 rfl (lv_at hl 0 rfl) ?_
  refine lv_iload_n (pc := 1) hx hb dX5_holds_1 rfl (lv_at hl 1 rfl) ?_
  refine lv_iconst (pc := 2) (v := (nI 2)) hx hb dX5_holds_2 (by decide) ?_
  obtain ⟨u3, hu3, hF⟩ := z_bind hF
  refine zq_call (oc0 := (some (.int u3))) (va_runV (As := [.int x1, .int (nI 2)]) (rest := []) ⟨hx, hb, hml, hown, hts⟩ (tX5_its (l := l) (D := D) (cB := cB) (cI := cI) (cJ := cJ) (cO := cO) h0 h_row g_fresh g_kept g_tried g_isKept g_viewed g_tape g_tapeMany g_sort g_begins g_tokenEnds g_word g_value g_good g_growing g_rows g_must g_rowMany g_sorts g_sizes g_sheets g_holds g_heldNumber g_heldSize g_kind g_number g_ownHand g_traced g_bodies g_isParted v_row x1 (nI 2) u3 hu3) (cwV 2 hts gX5_holds_X5_its rfl rfl rfl (by decide +kernel) ⟨Nat.le_of_ble_eq_true rfl, Nat.le_of_ble_eq_true rfl⟩) ⟨zPre_blind, va_recv hK hP (ci := 5) (q0 := 0) rfl rfl, zPre_at hP hE hD [0, 1] rfl rfl⟩ rfl rfl hl.1 rfl (lv_room (Nat.le_of_ble_eq_true rfl)) dX5_holds_3 ⟨Nat.zero_le _, Nat.zero_le _⟩) ?_
  refine W.eq (g2 := F0 m 6 ls [.int u3]) rfl ?_
  refine lv_iconst (pc := 6) (v := (nI 2)) hx hb dX5_holds_6 (by decide) ?_
  refine lv_idiv (pc := 7) hx hb dX5_holds_7 (by decide) ?_
  refine lv_istore_n (pc := 8) (lv' := [(2, .int (u3 / (nI 2))), (0, .ref h0), (1, .int x1)]) hx hb dX5_holds_8 rfl hl (by decide) rfl (fun ls hl => ?_)
  refine lv_aload_n (pc := 9) hx hb dX5_holds_9 rfl (lv_at hl 1 rfl) ?_
  refine lv_iload_n (pc := 10) hx hb dX5_holds_10 rfl (lv_at hl 2 rfl) ?_
  refine lv_iconst (pc := 11) (v := (nI 0)) hx hb dX5_holds_11 (by decide) ?_
  obtain ⟨u12, hu12, hF⟩ := z_bind hF
  refine zq_call (oc0 := (some (.int u12))) (va_runV (As := [.int x1, .int (nI 0)]) (rest := []) ⟨hx, hb, hml, hown, hts⟩ (tX5_its (l := l) (D := D) (cB := cB) (cI := cI) (cJ := cJ) (cO := cO) h0 h_row g_fresh g_kept g_tried g_isKept g_viewed g_tape g_tapeMany g_sort g_begins g_tokenEnds g_word g_value g_good g_growing g_rows g_must g_rowMany g_sorts g_sizes g_sheets g_holds g_heldNumber g_heldSize g_kind g_number g_ownHand g_traced g_bodies g_isParted v_row x1 (nI 0) u12 hu12) (cwV 2 hts gX5_holds_X5_its rfl rfl rfl (by decide +kernel) ⟨Nat.le_of_ble_eq_true rfl, Nat.le_of_ble_eq_true rfl⟩) ⟨zPre_blind, va_recv hK hP (ci := 5) (q0 := 0) rfl rfl, zPre_at hP hE hD [0, 1] rfl rfl⟩ rfl rfl hl.1 rfl (lv_room (Nat.le_of_ble_eq_true rfl)) dX5_holds_12 ⟨Nat.zero_le _, Nat.zero_le _⟩) ?_
  refine W.eq (g2 := F0 m 15 ls [.int u12]) rfl ?_
  by_cases c_15_1 : u12 = nI 1
  · have hF := (z_if _ hF).1 c_15_1
    refine lv_tableIn (pc := 15) (off := 33) (tgt := 48) hx hb dX5_holds_15 (by rw [c_15_1]; decide) (by rw [c_15_1]; decide) (by rw [c_15_1]; rfl) (by decide) ?_
    refine lv_iload_n (pc := 48) hx hb dX5_holds_48 rfl (lv_at hl 0 rfl) ?_
    refine lv_aload_n (pc := 49) hx hb dX5_holds_49 rfl (lv_at hl 1 rfl) ?_
    refine va_get (D := D) (pc := 50) (ci := 5) (v := .ref h_row) (C := RX5) (T := TX5) (N := 30) hx hb hts nX5_holds_X5 hown hK hP 0 rfl rfl 0 (by decide) (hts _ kX5_holds_0) (fun _ h9 => h9) rfl dX5_holds_50 ?_
    refine lv_iconst (pc := 53) (v := (nI 1)) hx hb dX5_holds_53 (by decide) ?_
    refine za_ialdK (pc := 54) (k := 1) hx hb hK hP 1 1 rfl rfl (by decide) (by decide) dX5_holds_54 ?_
    refine lv_isub (pc := 55) hx hb dX5_holds_55 ?_
    exact z_iret (pc := 56) (fun q => q) hx hb hr hlocks hF rfl hQ dX5_holds_56
  · have hF := (z_if _ hF).2 c_15_1
    by_cases c_15_2 : u12 = nI 2
    · have hF := (z_if _ hF).1 c_15_2
      refine lv_tableIn (pc := 15) (off := 58) (tgt := 73) hx hb dX5_holds_15 (by rw [c_15_2]; decide) (by rw [c_15_2]; decide) (by rw [c_15_2]; rfl) (by decide) ?_
      refine lv_iload_n (pc := 73) hx hb dX5_holds_73 rfl (lv_at hl 0 rfl) ?_
      refine lv_iconst (pc := 74) (v := (nI 5)) hx hb dX5_holds_74 (by decide) ?_
      refine lv_iadd (pc := 75) hx hb dX5_holds_75 ?_
      exact z_iret (pc := 76) (fun q => q) hx hb hr hlocks hF rfl hQ dX5_holds_76
    · have hF := (z_if _ hF).2 c_15_2
      by_cases c_15_3 : u12 = nI 3
      · have hF := (z_if _ hF).1 c_15_3
        refine lv_tableIn (pc := 15) (off := 42) (tgt := 57) hx hb dX5_holds_15 (by rw [c_15_3]; decide) (by rw [c_15_3]; decide) (by rw [c_15_3]; rfl) (by decide) ?_
        refine lv_iload_n (pc := 57) hx hb dX5_holds_57 rfl (lv_at hl 0 rfl) ?_
        refine lv_aload_n (pc := 58) hx hb dX5_holds_58 rfl (lv_at hl 1 rfl) ?_
        refine va_get (D := D) (pc := 59) (ci := 5) (v := .ref h_row) (C := RX5) (T := TX5) (N := 30) hx hb hts nX5_holds_X5 hown hK hP 0 rfl rfl 0 (by decide) (hts _ kX5_holds_0) (fun _ h9 => h9) rfl dX5_holds_59 ?_
        refine lv_iconst (pc := 62) (v := (nI 1)) hx hb dX5_holds_62 (by decide) ?_
        refine za_ialdK (pc := 63) (k := 1) hx hb hK hP 1 1 rfl rfl (by decide) (by decide) dX5_holds_63 ?_
        refine lv_isub (pc := 64) hx hb dX5_holds_64 ?_
        refine lv_aload_n (pc := 65) hx hb dX5_holds_65 rfl (lv_at hl 1 rfl) ?_
        refine lv_iload_n (pc := 66) hx hb dX5_holds_66 rfl (lv_at hl 2 rfl) ?_
        refine lv_iconst (pc := 67) (v := (nI 1)) hx hb dX5_holds_67 (by decide) ?_
        obtain ⟨u68, hu68, hF⟩ := z_bind hF
        refine zq_call (oc0 := (some (.int u68))) (va_runV (As := [.int x1, .int (nI 1)]) (rest := [.int ((u3 / (nI 2)) - (v_row 1))]) ⟨hx, hb, hml, hown, hts⟩ (tX5_its (l := l) (D := D) (cB := cB) (cI := cI) (cJ := cJ) (cO := cO) h0 h_row g_fresh g_kept g_tried g_isKept g_viewed g_tape g_tapeMany g_sort g_begins g_tokenEnds g_word g_value g_good g_growing g_rows g_must g_rowMany g_sorts g_sizes g_sheets g_holds g_heldNumber g_heldSize g_kind g_number g_ownHand g_traced g_bodies g_isParted v_row x1 (nI 1) u68 hu68) (cwV 2 hts gX5_holds_X5_its rfl rfl rfl (by decide +kernel) ⟨Nat.le_of_ble_eq_true rfl, Nat.le_of_ble_eq_true rfl⟩) ⟨zPre_blind, va_recv hK hP (ci := 5) (q0 := 0) rfl rfl, zPre_at hP hE hD [0, 1] rfl rfl⟩ rfl rfl hl.1 rfl (lv_room (Nat.le_of_ble_eq_true rfl)) dX5_holds_68 ⟨Nat.zero_le _, Nat.zero_le _⟩) ?_
        refine W.eq (g2 := F0 m 71 ls [.int u68, .int ((u3 / (nI 2)) - (v_row 1))]) rfl ?_
        refine lv_iadd (pc := 71) hx hb dX5_holds_71 ?_
        exact z_iret (pc := 72) (fun q => q) hx hb hr hlocks hF rfl hQ dX5_holds_72
      · have hF := (z_if _ hF).2 c_15_3
        by_cases c_15_4 : u12 = nI 4
        · have hF := (z_if _ hF).1 c_15_4
          refine lv_tableIn (pc := 15) (off := 62) (tgt := 77) hx hb dX5_holds_15 (by rw [c_15_4]; decide) (by rw [c_15_4]; decide) (by rw [c_15_4]; rfl) (by decide) ?_
          refine lv_iload_n (pc := 77) hx hb dX5_holds_77 rfl (lv_at hl 0 rfl) ?_
          refine lv_iconst (pc := 78) (v := (nI 5)) hx hb dX5_holds_78 (by decide) ?_
          refine lv_iadd (pc := 79) hx hb dX5_holds_79 ?_
          refine lv_aload_n (pc := 80) hx hb dX5_holds_80 rfl (lv_at hl 1 rfl) ?_
          refine lv_iload_n (pc := 81) hx hb dX5_holds_81 rfl (lv_at hl 2 rfl) ?_
          obtain ⟨u82, hu82, hF⟩ := z_bind hF
          refine zq_call (oc0 := (some (.int u82))) (va_runV (As := [.int x1]) (rest := [.int ((u3 / (nI 2)) + (nI 5))]) ⟨hx, hb, hml, hown, hts⟩ (tX5_others (l := l) (D := D) (cB := cB) (cI := cI) (cJ := cJ) (cO := cO) h0 h_row g_fresh g_kept g_tried g_isKept g_viewed g_tape g_tapeMany g_sort g_begins g_tokenEnds g_word g_value g_good g_growing g_rows g_must g_rowMany g_sorts g_sizes g_sheets g_holds g_heldNumber g_heldSize g_kind g_number g_ownHand g_traced g_bodies g_isParted v_row x1 u82 hu82) (cwV 1 hts gX5_holds_X5_others rfl rfl rfl (by decide +kernel) ⟨Nat.le_of_ble_eq_true rfl, Nat.le_of_ble_eq_true rfl⟩) ⟨zPre_blind, va_recv hK hP (ci := 5) (q0 := 0) rfl rfl, zPre_at hP hE hD [0, 1] rfl rfl⟩ rfl rfl hl.1 rfl (lv_room (Nat.le_of_ble_eq_true rfl)) dX5_holds_82 ⟨Nat.zero_le _, Nat.zero_le _⟩) ?_
          refine W.eq (g2 := F0 m 85 ls [.int u82, .int ((u3 / (nI 2)) + (nI 5))]) rfl ?_
          refine lv_iadd (pc := 85) hx hb dX5_holds_85 ?_
          exact z_iret (pc := 86) (fun q => q) hx hb hr hlocks hF rfl hQ dX5_holds_86
        · have hF := (z_if _ hF).2 c_15_4
          by_cases c_15_5 : u12 = nI 5
          · have hF := (z_if _ hF).1 c_15_5
            refine lv_tableIn (pc := 15) (off := 72) (tgt := 87) hx hb dX5_holds_15 (by rw [c_15_5]; decide) (by rw [c_15_5]; decide) (by rw [c_15_5]; rfl) (by decide) ?_
            refine lv_bipush (pc := 87) (v := (nI 99)) hx hb dX5_holds_87 (by decide) ?_
            exact z_iret (pc := 89) (fun q => q) hx hb hr hlocks hF rfl hQ dX5_holds_89
          · have hF := (z_if _ hF).2 c_15_5
            refine lv_tableOut (pc := 15) (tgt := 90) hx hb dX5_holds_15 (by have q0 : ¬ u12.toInt = 1 := lv_neT c_15_1 (by decide); have q1 : ¬ u12.toInt = 2 := lv_neT c_15_2 (by decide); have q2 : ¬ u12.toInt = 3 := lv_neT c_15_3 (by decide); have q3 : ¬ u12.toInt = 4 := lv_neT c_15_4 (by decide); have q4 : ¬ u12.toInt = 5 := lv_neT c_15_5 (by decide); omega) (by decide) ?_
            refine lv_iload_n (pc := 90) hx hb dX5_holds_90 rfl (lv_at hl 0 rfl) ?_
            exact z_iret (pc := 91) (fun q => q) hx hb hr hlocks hF rfl hQ dX5_holds_91

abbrev rX5_back : Room := { frames := 1, cells := 0, slots := 0, locals := 22 }
abbrev wX5_back (cB cI cJ cO : ClassId) (h0 h_row : Nat) (g_fresh g_kept g_tried g_isKept g_viewed g_tape g_tapeMany g_sort g_begins g_tokenEnds g_word g_value g_good g_growing g_rows g_must g_rowMany g_sorts g_sizes g_sheets g_holds g_heldNumber g_heldSize g_kind g_number g_ownHand g_traced g_bodies g_isParted : Value) (v_row : Nat → Int32) : va_W := [(h0, .inr (5, [.ref h_row, g_fresh, g_kept, g_tried, g_isKept, g_viewed, g_tape, g_tapeMany, g_sort, g_begins, g_tokenEnds, g_word, g_value, g_good, g_growing, g_rows, g_must, g_rowMany, g_sorts, g_sizes, g_sheets, g_holds, g_heldNumber, g_heldSize, g_kind, g_number, g_ownHand, g_traced, g_bodies, g_isParted])), (h_row, .inl (cI, 68, .inl v_row))]
set_option maxHeartbeats 4000000 in
set_option maxRecDepth 100000 in
theorem tX5_back {l : Launch} {D : va_G} {cB cI cJ cO : ClassId} (h0 h_row : Nat) (g_fresh g_kept g_tried g_isKept g_viewed g_tape g_tapeMany g_sort g_begins g_tokenEnds g_word g_value g_good g_growing g_rows g_must g_rowMany g_sorts g_sizes g_sheets g_holds g_heldNumber g_heldSize g_kind g_number g_ownHand g_traced g_bodies g_isParted : Value) (v_row : Nat → Int32) (x1 : Int32) (r : Int32) (hF : fX5_back v_row x1 = some r) : Met l yX5_back wsX5_back rX5_back (zPre D cB cI cJ cO [.ref h0, .int x1] (wX5_back cB cI cJ cO h0 h_row g_fresh g_kept g_tried g_isKept g_viewed g_tape g_tapeMany g_sort g_begins g_tokenEnds g_word g_value g_good g_growing g_rows g_must g_rowMany g_sorts g_sizes g_sheets g_holds g_heldNumber g_heldSize g_kind g_number g_ownHand g_traced g_bodies g_isParted v_row)) (zPI (some (.int r))) 0 0 (fun _ => False) := by
  refine zMetP (cc := cX5_back) (maxL := 2) (ret := (some .int)) (lv := [(0, .ref h0), (1, .int x1)]) (by decide) rfl (Nat.le_of_ble_eq_true rfl) rfl ?_
  intro p e s m args below meth c ls Q hQ hx hb hr hml hown hts hlocks hname hP hE hD hl
  have hown : s.vm.findClass RX5 = some m.cls := hown
  have hK := hE.1
  unfold fX5_back at hF
  refine lv_aload_n (pc := 0) hx hb dX5_back_0 rfl (lv_at hl 0 rfl) ?_
  refine lv_iload_n (pc := 1) hx hb dX5_back_1 rfl (lv_at hl 1 rfl) ?_
  refine lv_iconst (pc := 2) (v := (nI 0)) hx hb dX5_back_2 (by decide) ?_
  obtain ⟨u3, hu3, hF⟩ := z_bind hF
  refine zq_call (oc0 := (some (.int u3))) (va_runV (As := [.int x1, .int (nI 0)]) (rest := []) ⟨hx, hb, hml, hown, hts⟩ (tX5_its (l := l) (D := D) (cB := cB) (cI := cI) (cJ := cJ) (cO := cO) h0 h_row g_fresh g_kept g_tried g_isKept g_viewed g_tape g_tapeMany g_sort g_begins g_tokenEnds g_word g_value g_good g_growing g_rows g_must g_rowMany g_sorts g_sizes g_sheets g_holds g_heldNumber g_heldSize g_kind g_number g_ownHand g_traced g_bodies g_isParted v_row x1 (nI 0) u3 hu3) (cwV 2 hts gX5_back_X5_its rfl rfl rfl (by decide +kernel) ⟨Nat.le_of_ble_eq_true rfl, Nat.le_of_ble_eq_true rfl⟩) ⟨zPre_blind, va_recv hK hP (ci := 5) (q0 := 0) rfl rfl, zPre_at hP hE hD [0, 1] rfl rfl⟩ rfl rfl hl.1 rfl (lv_room (Nat.le_of_ble_eq_true rfl)) dX5_back_3 ⟨Nat.zero_le _, Nat.zero_le _⟩) ?_
  refine W.eq (g2 := F0 m 6 ls [.int u3]) rfl ?_
  by_cases c_6_1 : u3 = nI 1
  · have hF := (z_if _ hF).1 c_6_1
    refine lv_tableIn (pc := 6) (off := 34) (tgt := 40) hx hb dX5_back_6 (by rw [c_6_1]; decide) (by rw [c_6_1]; decide) (by rw [c_6_1]; rfl) (by decide) ?_
    refine lv_iconst (pc := 40) (v := (nI 1)) hx hb dX5_back_40 (by decide) ?_
    exact z_iret (pc := 41) (fun q => q) hx hb hr hlocks hF rfl hQ dX5_back_41
  · have hF := (z_if _ hF).2 c_6_1
    by_cases c_6_2 : u3 = nI 2
    · have hF := (z_if _ hF).1 c_6_2
      refine lv_tableIn (pc := 6) (off := 36) (tgt := 42) hx hb dX5_back_6 (by rw [c_6_2]; decide) (by rw [c_6_2]; decide) (by rw [c_6_2]; rfl) (by decide) ?_
      refine lv_iconst (pc := 42) (v := (nI 3)) hx hb dX5_back_42 (by decide) ?_
      refine lv_aload_n (pc := 43) hx hb dX5_back_43 rfl (lv_at hl 0 rfl) ?_
      refine lv_iload_n (pc := 44) hx hb dX5_back_44 rfl (lv_at hl 1 rfl) ?_
      refine lv_iconst (pc := 45) (v := (nI 1)) hx hb dX5_back_45 (by decide) ?_
      obtain ⟨u46, hu46, hF⟩ := z_bind hF
      refine zq_call (oc0 := (some (.int u46))) (va_runV (As := [.int x1, .int (nI 1)]) (rest := [.int (nI 3)]) ⟨hx, hb, hml, hown, hts⟩ (tX5_its (l := l) (D := D) (cB := cB) (cI := cI) (cJ := cJ) (cO := cO) h0 h_row g_fresh g_kept g_tried g_isKept g_viewed g_tape g_tapeMany g_sort g_begins g_tokenEnds g_word g_value g_good g_growing g_rows g_must g_rowMany g_sorts g_sizes g_sheets g_holds g_heldNumber g_heldSize g_kind g_number g_ownHand g_traced g_bodies g_isParted v_row x1 (nI 1) u46 hu46) (cwV 2 hts gX5_back_X5_its rfl rfl rfl (by decide +kernel) ⟨Nat.le_of_ble_eq_true rfl, Nat.le_of_ble_eq_true rfl⟩) ⟨zPre_blind, va_recv hK hP (ci := 5) (q0 := 0) rfl rfl, zPre_at hP hE hD [0, 1] rfl rfl⟩ rfl rfl hl.1 rfl (lv_room (Nat.le_of_ble_eq_true rfl)) dX5_back_46 ⟨Nat.zero_le _, Nat.zero_le _⟩) ?_
      refine W.eq (g2 := F0 m 49 ls [.int u46, .int (nI 3)]) rfl ?_
      refine lv_iadd (pc := 49) hx hb dX5_back_49 ?_
      exact z_iret (pc := 50) (fun q => q) hx hb hr hlocks hF rfl hQ dX5_back_50
    · have hF := (z_if _ hF).2 c_6_2
      by_cases c_6_3 : u3 = nI 3
      · have hF := (z_if _ hF).1 c_6_3
        refine lv_tableIn (pc := 6) (off := 34) (tgt := 40) hx hb dX5_back_6 (by rw [c_6_3]; decide) (by rw [c_6_3]; decide) (by rw [c_6_3]; rfl) (by decide) ?_
        refine lv_iconst (pc := 40) (v := (nI 1)) hx hb dX5_back_40 (by decide) ?_
        exact z_iret (pc := 41) (fun q => q) hx hb hr hlocks hF rfl hQ dX5_back_41
      · have hF := (z_if _ hF).2 c_6_3
        by_cases c_6_4 : u3 = nI 4
        · have hF := (z_if _ hF).1 c_6_4
          refine lv_tableIn (pc := 6) (off := 45) (tgt := 51) hx hb dX5_back_6 (by rw [c_6_4]; decide) (by rw [c_6_4]; decide) (by rw [c_6_4]; rfl) (by decide) ?_
          refine lv_iconst (pc := 51) (v := (nI 3)) hx hb dX5_back_51 (by decide) ?_
          refine lv_aload_n (pc := 52) hx hb dX5_back_52 rfl (lv_at hl 0 rfl) ?_
          refine lv_iload_n (pc := 53) hx hb dX5_back_53 rfl (lv_at hl 1 rfl) ?_
          refine lv_iconst (pc := 54) (v := (nI 1)) hx hb dX5_back_54 (by decide) ?_
          obtain ⟨u55, hu55, hF⟩ := z_bind hF
          refine zq_call (oc0 := (some (.int u55))) (va_runV (As := [.int x1, .int (nI 1)]) (rest := [.int (nI 3)]) ⟨hx, hb, hml, hown, hts⟩ (tX5_its (l := l) (D := D) (cB := cB) (cI := cI) (cJ := cJ) (cO := cO) h0 h_row g_fresh g_kept g_tried g_isKept g_viewed g_tape g_tapeMany g_sort g_begins g_tokenEnds g_word g_value g_good g_growing g_rows g_must g_rowMany g_sorts g_sizes g_sheets g_holds g_heldNumber g_heldSize g_kind g_number g_ownHand g_traced g_bodies g_isParted v_row x1 (nI 1) u55 hu55) (cwV 2 hts gX5_back_X5_its rfl rfl rfl (by decide +kernel) ⟨Nat.le_of_ble_eq_true rfl, Nat.le_of_ble_eq_true rfl⟩) ⟨zPre_blind, va_recv hK hP (ci := 5) (q0 := 0) rfl rfl, zPre_at hP hE hD [0, 1] rfl rfl⟩ rfl rfl hl.1 rfl (lv_room (Nat.le_of_ble_eq_true rfl)) dX5_back_55 ⟨Nat.zero_le _, Nat.zero_le _⟩) ?_
          refine W.eq (g2 := F0 m 58 ls [.int u55, .int (nI 3)]) rfl ?_
          refine lv_iadd (pc := 58) hx hb dX5_back_58 ?_
          refine lv_iconst (pc := 59) (v := (nI 2)) hx hb dX5_back_59 (by decide) ?_
          refine lv_idiv (pc := 60) hx hb dX5_back_60 (by decide) ?_
          exact z_iret (pc := 61) (fun q => q) hx hb hr hlocks hF rfl hQ dX5_back_61
        · have hF := (z_if _ hF).2 c_6_4
          by_cases c_6_5 : u3 = nI 5
          · have hF := (z_if _ hF).1 c_6_5
            refine lv_tableIn (pc := 6) (off := 56) (tgt := 62) hx hb dX5_back_6 (by rw [c_6_5]; decide) (by rw [c_6_5]; decide) (by rw [c_6_5]; rfl) (by decide) ?_
            refine lv_bipush (pc := 62) (v := (nI 9)) hx hb dX5_back_62 (by decide) ?_
            exact z_iret (pc := 64) (fun q => q) hx hb hr hlocks hF rfl hQ dX5_back_64
          · have hF := (z_if _ hF).2 c_6_5
            refine lv_tableOut (pc := 6) (tgt := 65) hx hb dX5_back_6 (by have q0 : ¬ u3.toInt = 1 := lv_neT c_6_1 (by decide); have q1 : ¬ u3.toInt = 2 := lv_neT c_6_2 (by decide); have q2 : ¬ u3.toInt = 3 := lv_neT c_6_3 (by decide); have q3 : ¬ u3.toInt = 4 := lv_neT c_6_4 (by decide); have q4 : ¬ u3.toInt = 5 := lv_neT c_6_5 (by decide); omega) (by decide) ?_
            refine lv_iconst (pc := 65) (v := (nI 3)) hx hb dX5_back_65 (by decide) ?_
            exact z_iret (pc := 66) (fun q => q) hx hb hr hlocks hF rfl hQ dX5_back_66

abbrev rX5_does : Room := { frames := 4, cells := 0, slots := 0, locals := 88 }
abbrev wX5_does (cB cI cJ cO : ClassId) (h0 h_row : Nat) (g_fresh g_kept g_tried g_isKept g_viewed g_tape g_tapeMany g_sort g_begins g_tokenEnds g_word g_value g_good g_growing g_rows g_must g_rowMany g_sorts g_sizes g_sheets g_holds g_heldNumber g_heldSize g_kind g_number g_ownHand g_traced g_bodies g_isParted : Value) (v_row : Nat → Int32) : va_W := [(h0, .inr (5, [.ref h_row, g_fresh, g_kept, g_tried, g_isKept, g_viewed, g_tape, g_tapeMany, g_sort, g_begins, g_tokenEnds, g_word, g_value, g_good, g_growing, g_rows, g_must, g_rowMany, g_sorts, g_sizes, g_sheets, g_holds, g_heldNumber, g_heldSize, g_kind, g_number, g_ownHand, g_traced, g_bodies, g_isParted])), (h_row, .inl (cI, 68, .inl v_row))]
set_option maxHeartbeats 4000000 in
set_option maxRecDepth 100000 in
theorem tX5_does {l : Launch} {D : va_G} {cB cI cJ cO : ClassId} (h0 h_row : Nat) (g_fresh g_kept g_tried g_isKept g_viewed g_tape g_tapeMany g_sort g_begins g_tokenEnds g_word g_value g_good g_growing g_rows g_must g_rowMany g_sorts g_sizes g_sheets g_holds g_heldNumber g_heldSize g_kind g_number g_ownHand g_traced g_bodies g_isParted : Value) (v_row : Nat → Int32) (x1 : Int32) (x2 : Int32) (r : Int32) (hF : fX5_does v_row x1 x2 = some r) : Met l yX5_does wsX5_does rX5_does (zPre D cB cI cJ cO [.ref h0, .int x1, .int x2] (wX5_does cB cI cJ cO h0 h_row g_fresh g_kept g_tried g_isKept g_viewed g_tape g_tapeMany g_sort g_begins g_tokenEnds g_word g_value g_good g_growing g_rows g_must g_rowMany g_sorts g_sizes g_sheets g_holds g_heldNumber g_heldSize g_kind g_number g_ownHand g_traced g_bodies g_isParted v_row)) (zPI (some (.int r))) 0 0 (fun _ => False) := by
  refine zMetP (cc := cX5_does) (maxL := 3) (ret := (some .int)) (lv := [(0, .ref h0), (1, .int x1), (2, .int x2)]) (by decide) rfl (Nat.le_of_ble_eq_true rfl) rfl ?_
  intro p e s m args below meth c ls Q hQ hx hb hr hml hown hts hlocks hname hP hE hD hl
  have hown : s.vm.findClass RX5 = some m.cls := hown
  have hK := hE.1
  unfold fX5_does at hF
  refine lv_aload_n (pc := 0) hx hb dX5_does_0 rfl (lv_at hl 0 rfl) ?_
  refine lv_iload_n (pc := 1) hx hb dX5_does_1 rfl (lv_at hl 1 rfl) ?_
  obtain ⟨u2, hu2, hF⟩ := z_bind hF
  refine zq_call (oc0 := (some (.int u2))) (va_runV (As := [.int x1]) (rest := []) ⟨hx, hb, hml, hown, hts⟩ (tX5_isOne (l := l) (D := D) (cB := cB) (cI := cI) (cJ := cJ) (cO := cO) h0 h_row g_fresh g_kept g_tried g_isKept g_viewed g_tape g_tapeMany g_sort g_begins g_tokenEnds g_word g_value g_good g_growing g_rows g_must g_rowMany g_sorts g_sizes g_sheets g_holds g_heldNumber g_heldSize g_kind g_number g_ownHand g_traced g_bodies g_isParted v_row x1 u2 hu2) (cwV 1 hts gX5_does_X5_isOne rfl rfl rfl (by decide +kernel) ⟨Nat.le_of_ble_eq_true rfl, Nat.le_of_ble_eq_true rfl⟩) ⟨zPre_blind, va_recv hK hP (ci := 5) (q0 := 0) rfl rfl, zPre_at hP hE hD [0, 1] rfl rfl⟩ rfl rfl hl.1 rfl (lv_room (Nat.le_of_ble_eq_true rfl)) dX5_does_2 ⟨Nat.zero_le _, Nat.zero_le _⟩) ?_
  refine W.eq (g2 := F0 m 5 ls [.int u2]) rfl ?_
  refine zb_if_eq (pc := 5) (tgt := 17) hx hb dX5_does_5 (by decide) hF (fun c_5 hF => ?_) (fun c_5 hF => ?_)
  · refine lv_iconst (pc := 17) (v := (-1 : Int32)) hx hb dX5_does_17 (by decide) ?_
    exact z_iret (pc := 18) (fun q => q) hx hb hr hlocks hF rfl hQ dX5_does_18
  · refine lv_iload_n (pc := 8) hx hb dX5_does_8 rfl (lv_at hl 2 rfl) ?_
    refine lv_iconst (pc := 9) (v := (nI 0)) hx hb dX5_does_9 (by decide) ?_
    refine lv_iconst (pc := 10) (v := (nI 2)) hx hb dX5_does_10 (by decide) ?_
    obtain ⟨u11, hu11, hF⟩ := z_bind hF
    refine zq_call (oc0 := (some (.int u11))) (va_runS (As := [.int x2, .int (nI 0), .int (nI 2)]) (rest := []) ⟨hx, hb, hml, hown, hts⟩ (tX5_in (l := l) (D := D) (cB := cB) (cI := cI) (cJ := cJ) (cO := cO) x2 (nI 0) (nI 2) u11 hu11) (va_cwS 3 hts gX5_does_X5_in rfl rfl rfl (by decide +kernel) ⟨Nat.le_of_ble_eq_true rfl, Nat.le_of_ble_eq_true rfl⟩) ⟨zPre_blind, zPre_at hP hE hD [] rfl rfl⟩ rfl rfl hl.1 rfl (lv_room (Nat.le_of_ble_eq_true rfl)) dX5_does_11 ⟨Nat.zero_le _, Nat.zero_le _⟩) ?_
    refine W.eq (g2 := F0 m 14 ls [.int u11]) rfl ?_
    refine zb_if_ne (pc := 14) (tgt := 19) hx hb dX5_does_14 (by decide) hF (fun c_14 hF => ?_) (fun c_14 hF => ?_)
    · refine lv_iload_n (pc := 19) hx hb dX5_does_19 rfl (lv_at hl 2 rfl) ?_
      refine lv_iconst (pc := 20) (v := (nI 2)) hx hb dX5_does_20 (by decide) ?_
      refine zb_icmp_ne (pc := 21) (tgt := 34) hx hb dX5_does_21 (by decide) hF (fun c_21 hF => ?_) (fun c_21 hF => ?_)
      · refine lv_aload_n (pc := 34) hx hb dX5_does_34 rfl (lv_at hl 0 rfl) ?_
        refine lv_iload_n (pc := 35) hx hb dX5_does_35 rfl (lv_at hl 1 rfl) ?_
        obtain ⟨u36, hu36, hF⟩ := z_bind hF
        refine zq_call (oc0 := (some (.int u36))) (va_runV (As := [.int x1]) (rest := []) ⟨hx, hb, hml, hown, hts⟩ (tX5_isGone (l := l) (D := D) (cB := cB) (cI := cI) (cJ := cJ) (cO := cO) h0 h_row g_fresh g_kept g_tried g_isKept g_viewed g_tape g_tapeMany g_sort g_begins g_tokenEnds g_word g_value g_good g_growing g_rows g_must g_rowMany g_sorts g_sizes g_sheets g_holds g_heldNumber g_heldSize g_kind g_number g_ownHand g_traced g_bodies g_isParted v_row x1 u36 hu36) (cwV 1 hts gX5_does_X5_isGone rfl rfl rfl (by decide +kernel) ⟨Nat.le_of_ble_eq_true rfl, Nat.le_of_ble_eq_true rfl⟩) ⟨zPre_blind, va_recv hK hP (ci := 5) (q0 := 0) rfl rfl, zPre_at hP hE hD [0, 1] rfl rfl⟩ rfl rfl hl.1 rfl (lv_room (Nat.le_of_ble_eq_true rfl)) dX5_does_36 ⟨Nat.zero_le _, Nat.zero_le _⟩) ?_
        refine W.eq (g2 := F0 m 39 ls [.int u36]) rfl ?_
        refine zb_if_eq (pc := 39) (tgt := 47) hx hb dX5_does_39 (by decide) hF (fun c_39 hF => ?_) (fun c_39 hF => ?_)
        · refine lv_sipush (pc := 47) (v := (nI 1000)) hx hb dX5_does_47 (by decide) ?_
          refine lv_iload_n (pc := 50) hx hb dX5_does_50 rfl (lv_at hl 2 rfl) ?_
          refine zb_if_ne (pc := 51) (tgt := 62) hx hb dX5_does_51 (by decide) hF (fun c_51 hF => ?_) (fun c_51 hF => ?_)
          · refine lv_aload_n (pc := 62) hx hb dX5_does_62 rfl (lv_at hl 0 rfl) ?_
            refine lv_iload_n (pc := 63) hx hb dX5_does_63 rfl (lv_at hl 1 rfl) ?_
            obtain ⟨u64, hu64, hF⟩ := z_bind hF
            refine zq_call (oc0 := (some (.int u64))) (va_runV (As := [.int x1]) (rest := [.int (nI 1000)]) ⟨hx, hb, hml, hown, hts⟩ (tX5_holds (l := l) (D := D) (cB := cB) (cI := cI) (cJ := cJ) (cO := cO) h0 h_row g_fresh g_kept g_tried g_isKept g_viewed g_tape g_tapeMany g_sort g_begins g_tokenEnds g_word g_value g_good g_growing g_rows g_must g_rowMany g_sorts g_sizes g_sheets g_holds g_heldNumber g_heldSize g_kind g_number g_ownHand g_traced g_bodies g_isParted v_row x1 u64 hu64) (cwV 1 hts gX5_does_X5_holds rfl rfl rfl (by decide +kernel) ⟨Nat.le_of_ble_eq_true rfl, Nat.le_of_ble_eq_true rfl⟩) ⟨zPre_blind, va_recv hK hP (ci := 5) (q0 := 0) rfl rfl, zPre_at hP hE hD [0, 1] rfl rfl⟩ rfl rfl hl.1 rfl (lv_room (Nat.le_of_ble_eq_true rfl)) dX5_does_64 ⟨Nat.zero_le _, Nat.zero_le _⟩) ?_
            refine W.eq (g2 := F0 m 67 ls [.int u64, .int (nI 1000)]) rfl ?_
            refine lv_iadd (pc := 67) hx hb dX5_does_67 ?_
            exact z_iret (pc := 68) (fun q => q) hx hb hr hlocks hF rfl hQ dX5_does_68
          · refine lv_aload_n (pc := 54) hx hb dX5_does_54 rfl (lv_at hl 0 rfl) ?_
            refine lv_iload_n (pc := 55) hx hb dX5_does_55 rfl (lv_at hl 1 rfl) ?_
            obtain ⟨u56, hu56, hF⟩ := z_bind hF
            refine zq_call (oc0 := (some (.int u56))) (va_runV (As := [.int x1]) (rest := [.int (nI 1000)]) ⟨hx, hb, hml, hown, hts⟩ (tX5_grows (l := l) (D := D) (cB := cB) (cI := cI) (cJ := cJ) (cO := cO) h0 h_row g_fresh g_kept g_tried g_isKept g_viewed g_tape g_tapeMany g_sort g_begins g_tokenEnds g_word g_value g_good g_growing g_rows g_must g_rowMany g_sorts g_sizes g_sheets g_holds g_heldNumber g_heldSize g_kind g_number g_ownHand g_traced g_bodies g_isParted v_row x1 u56 hu56) (cwV 1 hts gX5_does_X5_grows rfl rfl rfl (by decide +kernel) ⟨Nat.le_of_ble_eq_true rfl, Nat.le_of_ble_eq_true rfl⟩) ⟨zPre_blind, va_recv hK hP (ci := 5) (q0 := 0) rfl rfl, zPre_at hP hE hD [0, 1] rfl rfl⟩ rfl rfl hl.1 rfl (lv_room (Nat.le_of_ble_eq_true rfl)) dX5_does_56 ⟨Nat.zero_le _, Nat.zero_le _⟩) ?_
            refine W.eq (g2 := F0 m 59 ls [.int u56, .int (nI 1000)]) rfl ?_
            refine lv_goto (pc := 59) (tgt := 67) hx hb dX5_does_59 (by decide) ?_
            refine lv_iadd (pc := 67) hx hb dX5_does_67 ?_
            exact z_iret (pc := 68) (fun q => q) hx hb hr hlocks hF rfl hQ dX5_does_68
        · refine lv_bipush (pc := 42) (v := (-3 : Int32)) hx hb dX5_does_42 (by decide) ?_
          refine lv_goto (pc := 44) (tgt := 68) hx hb dX5_does_44 (by decide) ?_
          exact z_iret (pc := 68) (fun q => q) hx hb hr hlocks hF rfl hQ dX5_does_68
      · refine lv_sipush (pc := 24) (v := (nI 1000)) hx hb dX5_does_24 (by decide) ?_
        refine lv_aload_n (pc := 27) hx hb dX5_does_27 rfl (lv_at hl 0 rfl) ?_
        refine lv_iload_n (pc := 28) hx hb dX5_does_28 rfl (lv_at hl 1 rfl) ?_
        obtain ⟨u29, hu29, hF⟩ := z_bind hF
        refine zq_call (oc0 := (some (.int u29))) (va_runV (As := [.int x1]) (rest := [.int (nI 1000)]) ⟨hx, hb, hml, hown, hts⟩ (tX5_back (l := l) (D := D) (cB := cB) (cI := cI) (cJ := cJ) (cO := cO) h0 h_row g_fresh g_kept g_tried g_isKept g_viewed g_tape g_tapeMany g_sort g_begins g_tokenEnds g_word g_value g_good g_growing g_rows g_must g_rowMany g_sorts g_sizes g_sheets g_holds g_heldNumber g_heldSize g_kind g_number g_ownHand g_traced g_bodies g_isParted v_row x1 u29 hu29) (cwV 1 hts gX5_does_X5_back rfl rfl rfl (by decide +kernel) ⟨Nat.le_of_ble_eq_true rfl, Nat.le_of_ble_eq_true rfl⟩) ⟨zPre_blind, va_recv hK hP (ci := 5) (q0 := 0) rfl rfl, zPre_at hP hE hD [0, 1] rfl rfl⟩ rfl rfl hl.1 rfl (lv_room (Nat.le_of_ble_eq_true rfl)) dX5_does_29 ⟨Nat.zero_le _, Nat.zero_le _⟩) ?_
        refine W.eq (g2 := F0 m 32 ls [.int u29, .int (nI 1000)]) rfl ?_
        refine lv_iadd (pc := 32) hx hb dX5_does_32 ?_
        exact z_iret (pc := 33) (fun q => q) hx hb hr hlocks hF rfl hQ dX5_does_33
    · refine lv_iconst (pc := 17) (v := (-1 : Int32)) hx hb dX5_does_17 (by decide) ?_
      exact z_iret (pc := 18) (fun q => q) hx hb hr hlocks hF rfl hQ dX5_does_18

abbrev rX5_mind : Room := { frames := 2, cells := 0, slots := 0, locals := 43 }
abbrev wX5_mind (cB cI cJ cO : ClassId) (h0 h_row : Nat) (g_fresh g_kept g_tried g_isKept g_viewed g_tape g_tapeMany g_sort g_begins g_tokenEnds g_word g_value g_good g_growing g_rows g_must g_rowMany g_sorts g_sizes g_sheets g_holds g_heldNumber g_heldSize g_kind g_number g_ownHand g_traced g_bodies g_isParted : Value) (v_row : Nat → Int32) : va_W := [(h0, .inr (5, [.ref h_row, g_fresh, g_kept, g_tried, g_isKept, g_viewed, g_tape, g_tapeMany, g_sort, g_begins, g_tokenEnds, g_word, g_value, g_good, g_growing, g_rows, g_must, g_rowMany, g_sorts, g_sizes, g_sheets, g_holds, g_heldNumber, g_heldSize, g_kind, g_number, g_ownHand, g_traced, g_bodies, g_isParted])), (h_row, .inl (cI, 68, .inl v_row))]
set_option maxHeartbeats 4000000 in
set_option maxRecDepth 100000 in
theorem tX5_mind {l : Launch} {D : va_G} {cB cI cJ cO : ClassId} (h0 h_row : Nat) (g_fresh g_kept g_tried g_isKept g_viewed g_tape g_tapeMany g_sort g_begins g_tokenEnds g_word g_value g_good g_growing g_rows g_must g_rowMany g_sorts g_sizes g_sheets g_holds g_heldNumber g_heldSize g_kind g_number g_ownHand g_traced g_bodies g_isParted : Value) (v_row : Nat → Int32) (x1 : Int32) (x2 : Int32) (x3 : Int32) (r : Int32 × (Nat → Int32)) (hF : fX5_mind v_row x1 x2 x3 = some r) : Met l yX5_mind wsX5_mind rX5_mind (zPre D cB cI cJ cO [.ref h0, .int x1, .int x2, .int x3] (wX5_mind cB cI cJ cO h0 h_row g_fresh g_kept g_tried g_isKept g_viewed g_tape g_tapeMany g_sort g_begins g_tokenEnds g_word g_value g_good g_growing g_rows g_must g_rowMany g_sorts g_sizes g_sheets g_holds g_heldNumber g_heldSize g_kind g_number g_ownHand g_traced g_bodies g_isParted v_row)) (zPM (some (.int r.1)) D (wX5_mind cB cI cJ cO h0 h_row g_fresh g_kept g_tried g_isKept g_viewed g_tape g_tapeMany g_sort g_begins g_tokenEnds g_word g_value g_good g_growing g_rows g_must g_rowMany g_sorts g_sizes g_sheets g_holds g_heldNumber g_heldSize g_kind g_number g_ownHand g_traced g_bodies g_isParted r.2) (zAs [h0, h_row])) 0 0 (zAs [h0, h_row]) := by
  refine zMetM (cc := cX5_mind) (maxL := 4) (ret := (some .int)) (lv := [(0, .ref h0), (1, .int x1), (2, .int x2), (3, .int x3)]) rfl (by decide) rfl (Nat.le_of_ble_eq_true rfl) rfl ?_
  intro p e s m args below meth c ls Q H locs hQ hx hb hr hml hown hts hlocks hname hP hE hD hS hl
  have hown : s.vm.findClass RX5 = some m.cls := hown
  have hK := hE.1
  unfold fX5_mind at hF
  refine lv_aload_n (pc := 0) hx hb dX5_mind_0 rfl (lv_at hl 0 rfl) ?_
  refine lv_iload_n (pc := 1) hx hb dX5_mind_1 rfl (lv_at hl 1 rfl) ?_
  obtain ⟨u2, hu2, hF⟩ := z_bind hF
  refine zq_call (oc0 := (some (.int u2))) (va_runV (As := [.int x1]) (rest := []) ⟨hx, hb, hml, hown, hts⟩ (tX5_isOne (l := l) (D := D) (cB := cB) (cI := cI) (cJ := cJ) (cO := cO) h0 h_row g_fresh g_kept g_tried g_isKept g_viewed g_tape g_tapeMany g_sort g_begins g_tokenEnds g_word g_value g_good g_growing g_rows g_must g_rowMany g_sorts g_sizes g_sheets g_holds g_heldNumber g_heldSize g_kind g_number g_ownHand g_traced g_bodies g_isParted v_row x1 u2 hu2) (cwV 1 hts gX5_mind_X5_isOne rfl rfl rfl (by decide +kernel) ⟨Nat.le_of_ble_eq_true rfl, Nat.le_of_ble_eq_true rfl⟩) ⟨zPre_blind, va_recv hK hP (ci := 5) (q0 := 0) rfl rfl, zPre_at hP hE (zD_re hD rfl) [0, 1] rfl rfl⟩ rfl rfl hl.1 rfl (lv_room (Nat.le_of_ble_eq_true rfl)) dX5_mind_2 ⟨Nat.zero_le _, Nat.zero_le _⟩) ?_
  refine W.eq (g2 := F0 m 5 ls [.int u2]) rfl ?_
  refine zb_if_eq (pc := 5) (tgt := 16) hx hb dX5_mind_5 (by decide) hF (fun c_5 hF => ?_) (fun c_5 hF => ?_)
  · refine lv_iconst (pc := 16) (v := (-1 : Int32)) hx hb dX5_mind_16 (by decide) ?_
    exact z_iretM (pc := 17) (fun q => q.1) (fun q => (wX5_mind cB cI cJ cO h0 h_row g_fresh g_kept g_tried g_isKept g_viewed g_tape g_tapeMany g_sort g_begins g_tokenEnds g_word g_value g_good g_growing g_rows g_must g_rowMany g_sorts g_sizes g_sheets g_holds g_heldNumber g_heldSize g_kind g_number g_ownHand g_traced g_bodies g_isParted q.2)) hx hb hr hlocks hP hS hF rfl hQ dX5_mind_17
  · refine lv_iload_n (pc := 8) hx hb dX5_mind_8 rfl (lv_at hl 2 rfl) ?_
    refine lv_iload_n (pc := 9) hx hb dX5_mind_9 rfl (lv_at hl 3 rfl) ?_
    obtain ⟨u10, hu10, hF⟩ := z_bind hF
    refine zq_call (oc0 := (some (.int u10))) (va_runS (As := [.int x2, .int x3]) (rest := []) ⟨hx, hb, hml, hown, hts⟩ (tX5_isKind (l := l) (D := D) (cB := cB) (cI := cI) (cJ := cJ) (cO := cO) x2 x3 u10 hu10) (va_cwS 2 hts gX5_mind_X5_isKind rfl rfl rfl (by decide +kernel) ⟨Nat.le_of_ble_eq_true rfl, Nat.le_of_ble_eq_true rfl⟩) ⟨zPre_blind, zPre_at hP hE (zD_re hD rfl) [] rfl rfl⟩ rfl rfl hl.1 rfl (lv_room (Nat.le_of_ble_eq_true rfl)) dX5_mind_10 ⟨Nat.zero_le _, Nat.zero_le _⟩) ?_
    refine W.eq (g2 := F0 m 13 ls [.int u10]) rfl ?_
    refine zb_if_ne (pc := 13) (tgt := 18) hx hb dX5_mind_13 (by decide) hF (fun c_13 hF => ?_) (fun c_13 hF => ?_)
    · refine lv_aload_n (pc := 18) hx hb dX5_mind_18 rfl (lv_at hl 0 rfl) ?_
      refine lv_iload_n (pc := 19) hx hb dX5_mind_19 rfl (lv_at hl 1 rfl) ?_
      refine lv_iconst (pc := 20) (v := (nI 1)) hx hb dX5_mind_20 (by decide) ?_
      refine lv_iload_n (pc := 21) hx hb dX5_mind_21 rfl (lv_at hl 3 rfl) ?_
      obtain ⟨u22, hu22, hF⟩ := z_bind hF
      refine zq_callM (oc0 := none) (wc := wX5_sets cB cI cJ cO h0 h_row g_fresh g_kept g_tried g_isKept g_viewed g_tape g_tapeMany g_sort g_begins g_tokenEnds g_word g_value g_good g_growing g_rows g_must g_rowMany g_sorts g_sizes g_sheets g_holds g_heldNumber g_heldSize g_kind g_number g_ownHand g_traced g_bodies g_isParted v_row) (wc' := wX5_sets cB cI cJ cO h0 h_row g_fresh g_kept g_tried g_isKept g_viewed g_tape g_tapeMany g_sort g_begins g_tokenEnds g_word g_value g_good g_growing g_rows g_must g_rowMany g_sorts g_sizes g_sheets g_holds g_heldNumber g_heldSize g_kind g_number g_ownHand g_traced g_bodies g_isParted u22) (ws' := (wX5_mind cB cI cJ cO h0 h_row g_fresh g_kept g_tried g_isKept g_viewed g_tape g_tapeMany g_sort g_begins g_tokenEnds g_word g_value g_good g_growing g_rows g_must g_rowMany g_sorts g_sizes g_sheets g_holds g_heldNumber g_heldSize g_kind g_number g_ownHand g_traced g_bodies g_isParted u22)) (va_runV (As := [.int x1, .int (nI 1), .int x3]) (rest := []) ⟨hx, hb, hml, hown, hts⟩ (tX5_sets (l := l) (D := D) (cB := cB) (cI := cI) (cJ := cJ) (cO := cO) h0 h_row g_fresh g_kept g_tried g_isKept g_viewed g_tape g_tapeMany g_sort g_begins g_tokenEnds g_word g_value g_good g_growing g_rows g_must g_rowMany g_sorts g_sizes g_sheets g_holds g_heldNumber g_heldSize g_kind g_number g_ownHand g_traced g_bodies g_isParted v_row x1 (nI 1) x3 u22 hu22) (cwV 3 hts gX5_mind_X5_sets rfl rfl rfl (by decide +kernel) ⟨Nat.le_of_ble_eq_true rfl, Nat.le_of_ble_eq_true rfl⟩) ⟨zPre_blind, va_recv hK hP (ci := 5) (q0 := 0) rfl rfl, zPre_at hP hE (zD_re hD rfl) [0, 1] rfl rfl⟩ rfl rfl hl.1 rfl (lv_room (Nat.le_of_ble_eq_true rfl)) dX5_mind_22 ⟨Nat.zero_le _, Nat.zero_le _⟩) rfl hP (zD_re hD rfl) hS [0, 1] rfl rfl [some 0, some 1] rfl rfl rfl rfl (fun H locs hP hS => ?_)
      refine W.eq (g2 := F0 m 25 ls []) rfl ?_
      refine lv_aload_n (pc := 25) hx hb dX5_mind_25 rfl (lv_at hl 0 rfl) ?_
      refine lv_bipush (pc := 26) (v := (nI 28)) hx hb dX5_mind_26 (by decide) ?_
      refine lv_iconst (pc := 28) (v := (nI 5)) hx hb dX5_mind_28 (by decide) ?_
      refine lv_iload_n (pc := 29) hx hb dX5_mind_29 rfl (lv_at hl 1 rfl) ?_
      refine lv_imul (pc := 30) hx hb dX5_mind_30 ?_
      refine lv_iadd (pc := 31) hx hb dX5_mind_31 ?_
      refine lv_iload_n (pc := 32) hx hb dX5_mind_32 rfl (lv_at hl 2 rfl) ?_
      obtain ⟨u33, hu33, hF⟩ := z_bind hF
      refine zq_callM (oc0 := (some (.int u33.1))) (wc := wX5_becomes cB cI cJ cO h0 h_row g_fresh g_kept g_tried g_isKept g_viewed g_tape g_tapeMany g_sort g_begins g_tokenEnds g_word g_value g_good g_growing g_rows g_must g_rowMany g_sorts g_sizes g_sheets g_holds g_heldNumber g_heldSize g_kind g_number g_ownHand g_traced g_bodies g_isParted u22) (wc' := wX5_becomes cB cI cJ cO h0 h_row g_fresh g_kept g_tried g_isKept g_viewed g_tape g_tapeMany g_sort g_begins g_tokenEnds g_word g_value g_good g_growing g_rows g_must g_rowMany g_sorts g_sizes g_sheets g_holds g_heldNumber g_heldSize g_kind g_number g_ownHand g_traced g_bodies g_isParted u33.2) (ws' := (wX5_mind cB cI cJ cO h0 h_row g_fresh g_kept g_tried g_isKept g_viewed g_tape g_tapeMany g_sort g_begins g_tokenEnds g_word g_value g_good g_growing g_rows g_must g_rowMany g_sorts g_sizes g_sheets g_holds g_heldNumber g_heldSize g_kind g_number g_ownHand g_traced g_bodies g_isParted u33.2)) (va_runV (As := [.int ((nI 28) + ((nI 5) * x1)), .int x2]) (rest := []) ⟨hx, hb, hml, hown, hts⟩ (tX5_becomes (l := l) (D := D) (cB := cB) (cI := cI) (cJ := cJ) (cO := cO) h0 h_row g_fresh g_kept g_tried g_isKept g_viewed g_tape g_tapeMany g_sort g_begins g_tokenEnds g_word g_value g_good g_growing g_rows g_must g_rowMany g_sorts g_sizes g_sheets g_holds g_heldNumber g_heldSize g_kind g_number g_ownHand g_traced g_bodies g_isParted u22 ((nI 28) + ((nI 5) * x1)) x2 u33 hu33) (cwV 2 hts gX5_mind_X5_becomes rfl rfl rfl (by decide +kernel) ⟨Nat.le_of_ble_eq_true rfl, Nat.le_of_ble_eq_true rfl⟩) ⟨zPre_blind, va_recv hK hP (ci := 5) (q0 := 0) rfl rfl, zPre_at hP hE (zD_re hD rfl) [0, 1] rfl rfl⟩ rfl rfl hl.1 rfl (lv_room (Nat.le_of_ble_eq_true rfl)) dX5_mind_33 ⟨Nat.zero_le _, Nat.zero_le _⟩) rfl hP (zD_re hD rfl) hS [0, 1] rfl rfl [some 0, some 1] rfl rfl rfl rfl (fun H locs hP hS => ?_)
      refine W.eq (g2 := F0 m 36 ls [.int u33.1]) rfl ?_
      exact z_iretM (pc := 36) (fun q => q.1) (fun q => (wX5_mind cB cI cJ cO h0 h_row g_fresh g_kept g_tried g_isKept g_viewed g_tape g_tapeMany g_sort g_begins g_tokenEnds g_word g_value g_good g_growing g_rows g_must g_rowMany g_sorts g_sizes g_sheets g_holds g_heldNumber g_heldSize g_kind g_number g_ownHand g_traced g_bodies g_isParted q.2)) hx hb hr hlocks hP hS hF rfl hQ dX5_mind_36
    · refine lv_iconst (pc := 16) (v := (-1 : Int32)) hx hb dX5_mind_16 (by decide) ?_
      exact z_iretM (pc := 17) (fun q => q.1) (fun q => (wX5_mind cB cI cJ cO h0 h_row g_fresh g_kept g_tried g_isKept g_viewed g_tape g_tapeMany g_sort g_begins g_tokenEnds g_word g_value g_good g_growing g_rows g_must g_rowMany g_sorts g_sizes g_sheets g_holds g_heldNumber g_heldSize g_kind g_number g_ownHand g_traced g_bodies g_isParted q.2)) hx hb hr hlocks hP hS hF rfl hQ dX5_mind_17

abbrev rX5_paint : Room := { frames := 2, cells := 0, slots := 0, locals := 43 }
abbrev wX5_paint (cB cI cJ cO : ClassId) (h0 h_row : Nat) (g_fresh g_kept g_tried g_isKept g_viewed g_tape g_tapeMany g_sort g_begins g_tokenEnds g_word g_value g_good g_growing g_rows g_must g_rowMany g_sorts g_sizes g_sheets g_holds g_heldNumber g_heldSize g_kind g_number g_ownHand g_traced g_bodies g_isParted : Value) (v_row : Nat → Int32) : va_W := [(h0, .inr (5, [.ref h_row, g_fresh, g_kept, g_tried, g_isKept, g_viewed, g_tape, g_tapeMany, g_sort, g_begins, g_tokenEnds, g_word, g_value, g_good, g_growing, g_rows, g_must, g_rowMany, g_sorts, g_sizes, g_sheets, g_holds, g_heldNumber, g_heldSize, g_kind, g_number, g_ownHand, g_traced, g_bodies, g_isParted])), (h_row, .inl (cI, 68, .inl v_row))]
set_option maxHeartbeats 4000000 in
set_option maxRecDepth 100000 in
theorem tX5_paint {l : Launch} {D : va_G} {cB cI cJ cO : ClassId} (h0 h_row : Nat) (g_fresh g_kept g_tried g_isKept g_viewed g_tape g_tapeMany g_sort g_begins g_tokenEnds g_word g_value g_good g_growing g_rows g_must g_rowMany g_sorts g_sizes g_sheets g_holds g_heldNumber g_heldSize g_kind g_number g_ownHand g_traced g_bodies g_isParted : Value) (v_row : Nat → Int32) (x1 : Int32) (x2 : Int32) (r : Int32 × (Nat → Int32)) (hF : fX5_paint v_row x1 x2 = some r) : Met l yX5_paint wsX5_paint rX5_paint (zPre D cB cI cJ cO [.ref h0, .int x1, .int x2] (wX5_paint cB cI cJ cO h0 h_row g_fresh g_kept g_tried g_isKept g_viewed g_tape g_tapeMany g_sort g_begins g_tokenEnds g_word g_value g_good g_growing g_rows g_must g_rowMany g_sorts g_sizes g_sheets g_holds g_heldNumber g_heldSize g_kind g_number g_ownHand g_traced g_bodies g_isParted v_row)) (zPM (some (.int r.1)) D (wX5_paint cB cI cJ cO h0 h_row g_fresh g_kept g_tried g_isKept g_viewed g_tape g_tapeMany g_sort g_begins g_tokenEnds g_word g_value g_good g_growing g_rows g_must g_rowMany g_sorts g_sizes g_sheets g_holds g_heldNumber g_heldSize g_kind g_number g_ownHand g_traced g_bodies g_isParted r.2) (zAs [h0, h_row])) 0 0 (zAs [h0, h_row]) := by
  refine zMetM (cc := cX5_paint) (maxL := 3) (ret := (some .int)) (lv := [(0, .ref h0), (1, .int x1), (2, .int x2)]) rfl (by decide) rfl (Nat.le_of_ble_eq_true rfl) rfl ?_
  intro p e s m args below meth c ls Q H locs hQ hx hb hr hml hown hts hlocks hname hP hE hD hS hl
  have hown : s.vm.findClass RX5 = some m.cls := hown
  have hK := hE.1
  unfold fX5_paint at hF
  refine lv_aload_n (pc := 0) hx hb dX5_paint_0 rfl (lv_at hl 0 rfl) ?_
  refine lv_iload_n (pc := 1) hx hb dX5_paint_1 rfl (lv_at hl 1 rfl) ?_
  obtain ⟨u2, hu2, hF⟩ := z_bind hF
  refine zq_call (oc0 := (some (.int u2))) (va_runV (As := [.int x1]) (rest := []) ⟨hx, hb, hml, hown, hts⟩ (tX5_isOne (l := l) (D := D) (cB := cB) (cI := cI) (cJ := cJ) (cO := cO) h0 h_row g_fresh g_kept g_tried g_isKept g_viewed g_tape g_tapeMany g_sort g_begins g_tokenEnds g_word g_value g_good g_growing g_rows g_must g_rowMany g_sorts g_sizes g_sheets g_holds g_heldNumber g_heldSize g_kind g_number g_ownHand g_traced g_bodies g_isParted v_row x1 u2 hu2) (cwV 1 hts gX5_paint_X5_isOne rfl rfl rfl (by decide +kernel) ⟨Nat.le_of_ble_eq_true rfl, Nat.le_of_ble_eq_true rfl⟩) ⟨zPre_blind, va_recv hK hP (ci := 5) (q0 := 0) rfl rfl, zPre_at hP hE (zD_re hD rfl) [0, 1] rfl rfl⟩ rfl rfl hl.1 rfl (lv_room (Nat.le_of_ble_eq_true rfl)) dX5_paint_2 ⟨Nat.zero_le _, Nat.zero_le _⟩) ?_
  refine W.eq (g2 := F0 m 5 ls [.int u2]) rfl ?_
  refine zb_if_eq (pc := 5) (tgt := 34) hx hb dX5_paint_5 (by decide) hF (fun c_5 hF => ?_) (fun c_5 hF => ?_)
  · refine lv_iconst (pc := 34) (v := (-1 : Int32)) hx hb dX5_paint_34 (by decide) ?_
    exact z_iretM (pc := 35) (fun q => q.1) (fun q => (wX5_paint cB cI cJ cO h0 h_row g_fresh g_kept g_tried g_isKept g_viewed g_tape g_tapeMany g_sort g_begins g_tokenEnds g_word g_value g_good g_growing g_rows g_must g_rowMany g_sorts g_sizes g_sheets g_holds g_heldNumber g_heldSize g_kind g_number g_ownHand g_traced g_bodies g_isParted q.2)) hx hb hr hlocks hP hS hF rfl hQ dX5_paint_35
  · refine lv_iload_n (pc := 8) hx hb dX5_paint_8 rfl (lv_at hl 2 rfl) ?_
    refine lv_iconst (pc := 9) (v := (nI 0)) hx hb dX5_paint_9 (by decide) ?_
    refine lv_bipush (pc := 10) (v := (nI 99)) hx hb dX5_paint_10 (by decide) ?_
    obtain ⟨u12, hu12, hF⟩ := z_bind hF
    refine zq_call (oc0 := (some (.int u12))) (va_runS (As := [.int x2, .int (nI 0), .int (nI 99)]) (rest := []) ⟨hx, hb, hml, hown, hts⟩ (tX5_in (l := l) (D := D) (cB := cB) (cI := cI) (cJ := cJ) (cO := cO) x2 (nI 0) (nI 99) u12 hu12) (va_cwS 3 hts gX5_paint_X5_in rfl rfl rfl (by decide +kernel) ⟨Nat.le_of_ble_eq_true rfl, Nat.le_of_ble_eq_true rfl⟩) ⟨zPre_blind, zPre_at hP hE (zD_re hD rfl) [] rfl rfl⟩ rfl rfl hl.1 rfl (lv_room (Nat.le_of_ble_eq_true rfl)) dX5_paint_12 ⟨Nat.zero_le _, Nat.zero_le _⟩) ?_
    refine W.eq (g2 := F0 m 15 ls [.int u12]) rfl ?_
    refine zb_if_eq (pc := 15) (tgt := 34) hx hb dX5_paint_15 (by decide) hF (fun c_15 hF => ?_) (fun c_15 hF => ?_)
    · refine lv_iconst (pc := 34) (v := (-1 : Int32)) hx hb dX5_paint_34 (by decide) ?_
      exact z_iretM (pc := 35) (fun q => q.1) (fun q => (wX5_paint cB cI cJ cO h0 h_row g_fresh g_kept g_tried g_isKept g_viewed g_tape g_tapeMany g_sort g_begins g_tokenEnds g_word g_value g_good g_growing g_rows g_must g_rowMany g_sorts g_sizes g_sheets g_holds g_heldNumber g_heldSize g_kind g_number g_ownHand g_traced g_bodies g_isParted q.2)) hx hb hr hlocks hP hS hF rfl hQ dX5_paint_35
    · refine lv_aload_n (pc := 18) hx hb dX5_paint_18 rfl (lv_at hl 0 rfl) ?_
      refine lv_bipush (pc := 19) (v := (nI 28)) hx hb dX5_paint_19 (by decide) ?_
      refine lv_iconst (pc := 21) (v := (nI 5)) hx hb dX5_paint_21 (by decide) ?_
      refine lv_iload_n (pc := 22) hx hb dX5_paint_22 rfl (lv_at hl 1 rfl) ?_
      refine lv_imul (pc := 23) hx hb dX5_paint_23 ?_
      refine lv_iadd (pc := 24) hx hb dX5_paint_24 ?_
      refine lv_iconst (pc := 25) (v := (nI 2)) hx hb dX5_paint_25 (by decide) ?_
      refine lv_iadd (pc := 26) hx hb dX5_paint_26 ?_
      refine lv_iload_n (pc := 27) hx hb dX5_paint_27 rfl (lv_at hl 2 rfl) ?_
      obtain ⟨u28, hu28, hF⟩ := z_bind hF
      refine zq_callM (oc0 := (some (.int u28.1))) (wc := wX5_becomes cB cI cJ cO h0 h_row g_fresh g_kept g_tried g_isKept g_viewed g_tape g_tapeMany g_sort g_begins g_tokenEnds g_word g_value g_good g_growing g_rows g_must g_rowMany g_sorts g_sizes g_sheets g_holds g_heldNumber g_heldSize g_kind g_number g_ownHand g_traced g_bodies g_isParted v_row) (wc' := wX5_becomes cB cI cJ cO h0 h_row g_fresh g_kept g_tried g_isKept g_viewed g_tape g_tapeMany g_sort g_begins g_tokenEnds g_word g_value g_good g_growing g_rows g_must g_rowMany g_sorts g_sizes g_sheets g_holds g_heldNumber g_heldSize g_kind g_number g_ownHand g_traced g_bodies g_isParted u28.2) (ws' := (wX5_paint cB cI cJ cO h0 h_row g_fresh g_kept g_tried g_isKept g_viewed g_tape g_tapeMany g_sort g_begins g_tokenEnds g_word g_value g_good g_growing g_rows g_must g_rowMany g_sorts g_sizes g_sheets g_holds g_heldNumber g_heldSize g_kind g_number g_ownHand g_traced g_bodies g_isParted u28.2)) (va_runV (As := [.int (((nI 28) + ((nI 5) * x1)) + (nI 2)), .int x2]) (rest := []) ⟨hx, hb, hml, hown, hts⟩ (tX5_becomes (l := l) (D := D) (cB := cB) (cI := cI) (cJ := cJ) (cO := cO) h0 h_row g_fresh g_kept g_tried g_isKept g_viewed g_tape g_tapeMany g_sort g_begins g_tokenEnds g_word g_value g_good g_growing g_rows g_must g_rowMany g_sorts g_sizes g_sheets g_holds g_heldNumber g_heldSize g_kind g_number g_ownHand g_traced g_bodies g_isParted v_row (((nI 28) + ((nI 5) * x1)) + (nI 2)) x2 u28 hu28) (cwV 2 hts gX5_paint_X5_becomes rfl rfl rfl (by decide +kernel) ⟨Nat.le_of_ble_eq_true rfl, Nat.le_of_ble_eq_true rfl⟩) ⟨zPre_blind, va_recv hK hP (ci := 5) (q0 := 0) rfl rfl, zPre_at hP hE (zD_re hD rfl) [0, 1] rfl rfl⟩ rfl rfl hl.1 rfl (lv_room (Nat.le_of_ble_eq_true rfl)) dX5_paint_28 ⟨Nat.zero_le _, Nat.zero_le _⟩) rfl hP (zD_re hD rfl) hS [0, 1] rfl rfl [some 0, some 1] rfl rfl rfl rfl (fun H locs hP hS => ?_)
      refine W.eq (g2 := F0 m 31 ls [.int u28.1]) rfl ?_
      refine lv_goto (pc := 31) (tgt := 35) hx hb dX5_paint_31 (by decide) ?_
      exact z_iretM (pc := 35) (fun q => q.1) (fun q => (wX5_paint cB cI cJ cO h0 h_row g_fresh g_kept g_tried g_isKept g_viewed g_tape g_tapeMany g_sort g_begins g_tokenEnds g_word g_value g_good g_growing g_rows g_must g_rowMany g_sorts g_sizes g_sheets g_holds g_heldNumber g_heldSize g_kind g_number g_ownHand g_traced g_bodies g_isParted q.2)) hx hb hr hlocks hP hS hF rfl hQ dX5_paint_35

abbrev rX5_move : Room := { frames := 2, cells := 0, slots := 0, locals := 43 }
abbrev wX5_move (cB cI cJ cO : ClassId) (h0 h_row : Nat) (g_fresh g_kept g_tried g_isKept g_viewed g_tape g_tapeMany g_sort g_begins g_tokenEnds g_word g_value g_good g_growing g_rows g_must g_rowMany g_sorts g_sizes g_sheets g_holds g_heldNumber g_heldSize g_kind g_number g_ownHand g_traced g_bodies g_isParted : Value) (v_row : Nat → Int32) : va_W := [(h0, .inr (5, [.ref h_row, g_fresh, g_kept, g_tried, g_isKept, g_viewed, g_tape, g_tapeMany, g_sort, g_begins, g_tokenEnds, g_word, g_value, g_good, g_growing, g_rows, g_must, g_rowMany, g_sorts, g_sizes, g_sheets, g_holds, g_heldNumber, g_heldSize, g_kind, g_number, g_ownHand, g_traced, g_bodies, g_isParted])), (h_row, .inl (cI, 68, .inl v_row))]
set_option maxHeartbeats 4000000 in
set_option maxRecDepth 100000 in
theorem tX5_move {l : Launch} {D : va_G} {cB cI cJ cO : ClassId} (h0 h_row : Nat) (g_fresh g_kept g_tried g_isKept g_viewed g_tape g_tapeMany g_sort g_begins g_tokenEnds g_word g_value g_good g_growing g_rows g_must g_rowMany g_sorts g_sizes g_sheets g_holds g_heldNumber g_heldSize g_kind g_number g_ownHand g_traced g_bodies g_isParted : Value) (v_row : Nat → Int32) (x1 : Int32) (x2 : Int32) (r : Int32 × (Nat → Int32)) (hF : fX5_move v_row x1 x2 = some r) : Met l yX5_move wsX5_move rX5_move (zPre D cB cI cJ cO [.ref h0, .int x1, .int x2] (wX5_move cB cI cJ cO h0 h_row g_fresh g_kept g_tried g_isKept g_viewed g_tape g_tapeMany g_sort g_begins g_tokenEnds g_word g_value g_good g_growing g_rows g_must g_rowMany g_sorts g_sizes g_sheets g_holds g_heldNumber g_heldSize g_kind g_number g_ownHand g_traced g_bodies g_isParted v_row)) (zPM (some (.int r.1)) D (wX5_move cB cI cJ cO h0 h_row g_fresh g_kept g_tried g_isKept g_viewed g_tape g_tapeMany g_sort g_begins g_tokenEnds g_word g_value g_good g_growing g_rows g_must g_rowMany g_sorts g_sizes g_sheets g_holds g_heldNumber g_heldSize g_kind g_number g_ownHand g_traced g_bodies g_isParted r.2) (zAs [h0, h_row])) 0 0 (zAs [h0, h_row]) := by
  refine zMetM (cc := cX5_move) (maxL := 3) (ret := (some .int)) (lv := [(0, .ref h0), (1, .int x1), (2, .int x2)]) rfl (by decide) rfl (Nat.le_of_ble_eq_true rfl) rfl ?_
  intro p e s m args below meth c ls Q H locs hQ hx hb hr hml hown hts hlocks hname hP hE hD hS hl
  have hown : s.vm.findClass RX5 = some m.cls := hown
  have hK := hE.1
  unfold fX5_move at hF
  refine lv_aload_n (pc := 0) hx hb dX5_move_0 rfl (lv_at hl 0 rfl) ?_
  refine lv_iload_n (pc := 1) hx hb dX5_move_1 rfl (lv_at hl 1 rfl) ?_
  obtain ⟨u2, hu2, hF⟩ := z_bind hF
  refine zq_call (oc0 := (some (.int u2))) (va_runV (As := [.int x1]) (rest := []) ⟨hx, hb, hml, hown, hts⟩ (tX5_isOne (l := l) (D := D) (cB := cB) (cI := cI) (cJ := cJ) (cO := cO) h0 h_row g_fresh g_kept g_tried g_isKept g_viewed g_tape g_tapeMany g_sort g_begins g_tokenEnds g_word g_value g_good g_growing g_rows g_must g_rowMany g_sorts g_sizes g_sheets g_holds g_heldNumber g_heldSize g_kind g_number g_ownHand g_traced g_bodies g_isParted v_row x1 u2 hu2) (cwV 1 hts gX5_move_X5_isOne rfl rfl rfl (by decide +kernel) ⟨Nat.le_of_ble_eq_true rfl, Nat.le_of_ble_eq_true rfl⟩) ⟨zPre_blind, va_recv hK hP (ci := 5) (q0 := 0) rfl rfl, zPre_at hP hE (zD_re hD rfl) [0, 1] rfl rfl⟩ rfl rfl hl.1 rfl (lv_room (Nat.le_of_ble_eq_true rfl)) dX5_move_2 ⟨Nat.zero_le _, Nat.zero_le _⟩) ?_
  refine W.eq (g2 := F0 m 5 ls [.int u2]) rfl ?_
  refine zb_if_eq (pc := 5) (tgt := 18) hx hb dX5_move_5 (by decide) hF (fun c_5 hF => ?_) (fun c_5 hF => ?_)
  · refine lv_iconst (pc := 18) (v := (-1 : Int32)) hx hb dX5_move_18 (by decide) ?_
    exact z_iretM (pc := 19) (fun q => q.1) (fun q => (wX5_move cB cI cJ cO h0 h_row g_fresh g_kept g_tried g_isKept g_viewed g_tape g_tapeMany g_sort g_begins g_tokenEnds g_word g_value g_good g_growing g_rows g_must g_rowMany g_sorts g_sizes g_sheets g_holds g_heldNumber g_heldSize g_kind g_number g_ownHand g_traced g_bodies g_isParted q.2)) hx hb hr hlocks hP hS hF rfl hQ dX5_move_19
  · refine lv_iload_n (pc := 8) hx hb dX5_move_8 rfl (lv_at hl 2 rfl) ?_
    refine lv_iconst (pc := 9) (v := (nI 0)) hx hb dX5_move_9 (by decide) ?_
    refine lv_bipush (pc := 10) (v := (nI 10)) hx hb dX5_move_10 (by decide) ?_
    obtain ⟨u12, hu12, hF⟩ := z_bind hF
    refine zq_call (oc0 := (some (.int u12))) (va_runS (As := [.int x2, .int (nI 0), .int (nI 10)]) (rest := []) ⟨hx, hb, hml, hown, hts⟩ (tX5_in (l := l) (D := D) (cB := cB) (cI := cI) (cJ := cJ) (cO := cO) x2 (nI 0) (nI 10) u12 hu12) (va_cwS 3 hts gX5_move_X5_in rfl rfl rfl (by decide +kernel) ⟨Nat.le_of_ble_eq_true rfl, Nat.le_of_ble_eq_true rfl⟩) ⟨zPre_blind, zPre_at hP hE (zD_re hD rfl) [] rfl rfl⟩ rfl rfl hl.1 rfl (lv_room (Nat.le_of_ble_eq_true rfl)) dX5_move_12 ⟨Nat.zero_le _, Nat.zero_le _⟩) ?_
    refine W.eq (g2 := F0 m 15 ls [.int u12]) rfl ?_
    refine zb_if_ne (pc := 15) (tgt := 20) hx hb dX5_move_15 (by decide) hF (fun c_15 hF => ?_) (fun c_15 hF => ?_)
    · refine lv_iload_n (pc := 20) hx hb dX5_move_20 rfl (lv_at hl 2 rfl) ?_
      refine lv_bipush (pc := 21) (v := (nI 10)) hx hb dX5_move_21 (by decide) ?_
      refine zb_icmp_ge (pc := 23) (tgt := 33) hx hb dX5_move_23 (by decide) hF (fun c_23 hF => ?_) (fun c_23 hF => ?_)
      · refine lv_aload_n (pc := 33) hx hb dX5_move_33 rfl (lv_at hl 0 rfl) ?_
        refine lv_bipush (pc := 34) (v := (nI 28)) hx hb dX5_move_34 (by decide) ?_
        refine lv_iconst (pc := 36) (v := (nI 5)) hx hb dX5_move_36 (by decide) ?_
        refine lv_iload_n (pc := 37) hx hb dX5_move_37 rfl (lv_at hl 1 rfl) ?_
        refine lv_imul (pc := 38) hx hb dX5_move_38 ?_
        refine lv_iadd (pc := 39) hx hb dX5_move_39 ?_
        refine lv_iconst (pc := 40) (v := (nI 3)) hx hb dX5_move_40 (by decide) ?_
        refine lv_iadd (pc := 41) hx hb dX5_move_41 ?_
        refine lv_iload_n (pc := 42) hx hb dX5_move_42 rfl (lv_at hl 2 rfl) ?_
        obtain ⟨u43, hu43, hF⟩ := z_bind hF
        refine zq_callM (oc0 := (some (.int u43.1))) (wc := wX5_becomes cB cI cJ cO h0 h_row g_fresh g_kept g_tried g_isKept g_viewed g_tape g_tapeMany g_sort g_begins g_tokenEnds g_word g_value g_good g_growing g_rows g_must g_rowMany g_sorts g_sizes g_sheets g_holds g_heldNumber g_heldSize g_kind g_number g_ownHand g_traced g_bodies g_isParted v_row) (wc' := wX5_becomes cB cI cJ cO h0 h_row g_fresh g_kept g_tried g_isKept g_viewed g_tape g_tapeMany g_sort g_begins g_tokenEnds g_word g_value g_good g_growing g_rows g_must g_rowMany g_sorts g_sizes g_sheets g_holds g_heldNumber g_heldSize g_kind g_number g_ownHand g_traced g_bodies g_isParted u43.2) (ws' := (wX5_move cB cI cJ cO h0 h_row g_fresh g_kept g_tried g_isKept g_viewed g_tape g_tapeMany g_sort g_begins g_tokenEnds g_word g_value g_good g_growing g_rows g_must g_rowMany g_sorts g_sizes g_sheets g_holds g_heldNumber g_heldSize g_kind g_number g_ownHand g_traced g_bodies g_isParted u43.2)) (va_runV (As := [.int (((nI 28) + ((nI 5) * x1)) + (nI 3)), .int x2]) (rest := []) ⟨hx, hb, hml, hown, hts⟩ (tX5_becomes (l := l) (D := D) (cB := cB) (cI := cI) (cJ := cJ) (cO := cO) h0 h_row g_fresh g_kept g_tried g_isKept g_viewed g_tape g_tapeMany g_sort g_begins g_tokenEnds g_word g_value g_good g_growing g_rows g_must g_rowMany g_sorts g_sizes g_sheets g_holds g_heldNumber g_heldSize g_kind g_number g_ownHand g_traced g_bodies g_isParted v_row (((nI 28) + ((nI 5) * x1)) + (nI 3)) x2 u43 hu43) (cwV 2 hts gX5_move_X5_becomes rfl rfl rfl (by decide +kernel) ⟨Nat.le_of_ble_eq_true rfl, Nat.le_of_ble_eq_true rfl⟩) ⟨zPre_blind, va_recv hK hP (ci := 5) (q0 := 0) rfl rfl, zPre_at hP hE (zD_re hD rfl) [0, 1] rfl rfl⟩ rfl rfl hl.1 rfl (lv_room (Nat.le_of_ble_eq_true rfl)) dX5_move_43 ⟨Nat.zero_le _, Nat.zero_le _⟩) rfl hP (zD_re hD rfl) hS [0, 1] rfl rfl [some 0, some 1] rfl rfl rfl rfl (fun H locs hP hS => ?_)
        refine W.eq (g2 := F0 m 46 ls [.int u43.1]) rfl ?_
        exact z_iretM (pc := 46) (fun q => q.1) (fun q => (wX5_move cB cI cJ cO h0 h_row g_fresh g_kept g_tried g_isKept g_viewed g_tape g_tapeMany g_sort g_begins g_tokenEnds g_word g_value g_good g_growing g_rows g_must g_rowMany g_sorts g_sizes g_sheets g_holds g_heldNumber g_heldSize g_kind g_number g_ownHand g_traced g_bodies g_isParted q.2)) hx hb hr hlocks hP hS hF rfl hQ dX5_move_46
      · refine lv_aload_n (pc := 26) hx hb dX5_move_26 rfl (lv_at hl 0 rfl) ?_
        refine lv_iload_n (pc := 27) hx hb dX5_move_27 rfl (lv_at hl 1 rfl) ?_
        refine lv_iconst (pc := 28) (v := (nI 4)) hx hb dX5_move_28 (by decide) ?_
        refine lv_iconst (pc := 29) (v := (nI 0)) hx hb dX5_move_29 (by decide) ?_
        obtain ⟨u30, hu30, hF⟩ := z_bind hF
        refine zq_callM (oc0 := none) (wc := wX5_sets cB cI cJ cO h0 h_row g_fresh g_kept g_tried g_isKept g_viewed g_tape g_tapeMany g_sort g_begins g_tokenEnds g_word g_value g_good g_growing g_rows g_must g_rowMany g_sorts g_sizes g_sheets g_holds g_heldNumber g_heldSize g_kind g_number g_ownHand g_traced g_bodies g_isParted v_row) (wc' := wX5_sets cB cI cJ cO h0 h_row g_fresh g_kept g_tried g_isKept g_viewed g_tape g_tapeMany g_sort g_begins g_tokenEnds g_word g_value g_good g_growing g_rows g_must g_rowMany g_sorts g_sizes g_sheets g_holds g_heldNumber g_heldSize g_kind g_number g_ownHand g_traced g_bodies g_isParted u30) (ws' := (wX5_move cB cI cJ cO h0 h_row g_fresh g_kept g_tried g_isKept g_viewed g_tape g_tapeMany g_sort g_begins g_tokenEnds g_word g_value g_good g_growing g_rows g_must g_rowMany g_sorts g_sizes g_sheets g_holds g_heldNumber g_heldSize g_kind g_number g_ownHand g_traced g_bodies g_isParted u30)) (va_runV (As := [.int x1, .int (nI 4), .int (nI 0)]) (rest := []) ⟨hx, hb, hml, hown, hts⟩ (tX5_sets (l := l) (D := D) (cB := cB) (cI := cI) (cJ := cJ) (cO := cO) h0 h_row g_fresh g_kept g_tried g_isKept g_viewed g_tape g_tapeMany g_sort g_begins g_tokenEnds g_word g_value g_good g_growing g_rows g_must g_rowMany g_sorts g_sizes g_sheets g_holds g_heldNumber g_heldSize g_kind g_number g_ownHand g_traced g_bodies g_isParted v_row x1 (nI 4) (nI 0) u30 hu30) (cwV 3 hts gX5_move_X5_sets rfl rfl rfl (by decide +kernel) ⟨Nat.le_of_ble_eq_true rfl, Nat.le_of_ble_eq_true rfl⟩) ⟨zPre_blind, va_recv hK hP (ci := 5) (q0 := 0) rfl rfl, zPre_at hP hE (zD_re hD rfl) [0, 1] rfl rfl⟩ rfl rfl hl.1 rfl (lv_room (Nat.le_of_ble_eq_true rfl)) dX5_move_30 ⟨Nat.zero_le _, Nat.zero_le _⟩) rfl hP (zD_re hD rfl) hS [0, 1] rfl rfl [some 0, some 1] rfl rfl rfl rfl (fun H locs hP hS => ?_)
        refine W.eq (g2 := F0 m 33 ls []) rfl ?_
        refine lv_aload_n (pc := 33) hx hb dX5_move_33 rfl (lv_at hl 0 rfl) ?_
        refine lv_bipush (pc := 34) (v := (nI 28)) hx hb dX5_move_34 (by decide) ?_
        refine lv_iconst (pc := 36) (v := (nI 5)) hx hb dX5_move_36 (by decide) ?_
        refine lv_iload_n (pc := 37) hx hb dX5_move_37 rfl (lv_at hl 1 rfl) ?_
        refine lv_imul (pc := 38) hx hb dX5_move_38 ?_
        refine lv_iadd (pc := 39) hx hb dX5_move_39 ?_
        refine lv_iconst (pc := 40) (v := (nI 3)) hx hb dX5_move_40 (by decide) ?_
        refine lv_iadd (pc := 41) hx hb dX5_move_41 ?_
        refine lv_iload_n (pc := 42) hx hb dX5_move_42 rfl (lv_at hl 2 rfl) ?_
        obtain ⟨u43_1, hu43_1, hF⟩ := z_bind hF
        refine zq_callM (oc0 := (some (.int u43_1.1))) (wc := wX5_becomes cB cI cJ cO h0 h_row g_fresh g_kept g_tried g_isKept g_viewed g_tape g_tapeMany g_sort g_begins g_tokenEnds g_word g_value g_good g_growing g_rows g_must g_rowMany g_sorts g_sizes g_sheets g_holds g_heldNumber g_heldSize g_kind g_number g_ownHand g_traced g_bodies g_isParted u30) (wc' := wX5_becomes cB cI cJ cO h0 h_row g_fresh g_kept g_tried g_isKept g_viewed g_tape g_tapeMany g_sort g_begins g_tokenEnds g_word g_value g_good g_growing g_rows g_must g_rowMany g_sorts g_sizes g_sheets g_holds g_heldNumber g_heldSize g_kind g_number g_ownHand g_traced g_bodies g_isParted u43_1.2) (ws' := (wX5_move cB cI cJ cO h0 h_row g_fresh g_kept g_tried g_isKept g_viewed g_tape g_tapeMany g_sort g_begins g_tokenEnds g_word g_value g_good g_growing g_rows g_must g_rowMany g_sorts g_sizes g_sheets g_holds g_heldNumber g_heldSize g_kind g_number g_ownHand g_traced g_bodies g_isParted u43_1.2)) (va_runV (As := [.int (((nI 28) + ((nI 5) * x1)) + (nI 3)), .int x2]) (rest := []) ⟨hx, hb, hml, hown, hts⟩ (tX5_becomes (l := l) (D := D) (cB := cB) (cI := cI) (cJ := cJ) (cO := cO) h0 h_row g_fresh g_kept g_tried g_isKept g_viewed g_tape g_tapeMany g_sort g_begins g_tokenEnds g_word g_value g_good g_growing g_rows g_must g_rowMany g_sorts g_sizes g_sheets g_holds g_heldNumber g_heldSize g_kind g_number g_ownHand g_traced g_bodies g_isParted u30 (((nI 28) + ((nI 5) * x1)) + (nI 3)) x2 u43_1 hu43_1) (cwV 2 hts gX5_move_X5_becomes rfl rfl rfl (by decide +kernel) ⟨Nat.le_of_ble_eq_true rfl, Nat.le_of_ble_eq_true rfl⟩) ⟨zPre_blind, va_recv hK hP (ci := 5) (q0 := 0) rfl rfl, zPre_at hP hE (zD_re hD rfl) [0, 1] rfl rfl⟩ rfl rfl hl.1 rfl (lv_room (Nat.le_of_ble_eq_true rfl)) dX5_move_43 ⟨Nat.zero_le _, Nat.zero_le _⟩) rfl hP (zD_re hD rfl) hS [0, 1] rfl rfl [some 0, some 1] rfl rfl rfl rfl (fun H locs hP hS => ?_)
        refine W.eq (g2 := F0 m 46 ls [.int u43_1.1]) rfl ?_
        exact z_iretM (pc := 46) (fun q => q.1) (fun q => (wX5_move cB cI cJ cO h0 h_row g_fresh g_kept g_tried g_isKept g_viewed g_tape g_tapeMany g_sort g_begins g_tokenEnds g_word g_value g_good g_growing g_rows g_must g_rowMany g_sorts g_sizes g_sheets g_holds g_heldNumber g_heldSize g_kind g_number g_ownHand g_traced g_bodies g_isParted q.2)) hx hb hr hlocks hP hS hF rfl hQ dX5_move_46
    · refine lv_iconst (pc := 18) (v := (-1 : Int32)) hx hb dX5_move_18 (by decide) ?_
      exact z_iretM (pc := 19) (fun q => q.1) (fun q => (wX5_move cB cI cJ cO h0 h_row g_fresh g_kept g_tried g_isKept g_viewed g_tape g_tapeMany g_sort g_begins g_tokenEnds g_word g_value g_good g_growing g_rows g_must g_rowMany g_sorts g_sizes g_sheets g_holds g_heldNumber g_heldSize g_kind g_number g_ownHand g_traced g_bodies g_isParted q.2)) hx hb hr hlocks hP hS hF rfl hQ dX5_move_19

abbrev rX5_wall : Room := { frames := 2, cells := 0, slots := 0, locals := 42 }
abbrev wX5_wall (cB cI cJ cO : ClassId) (h0 h_row : Nat) (g_fresh g_kept g_tried g_isKept g_viewed g_tape g_tapeMany g_sort g_begins g_tokenEnds g_word g_value g_good g_growing g_rows g_must g_rowMany g_sorts g_sizes g_sheets g_holds g_heldNumber g_heldSize g_kind g_number g_ownHand g_traced g_bodies g_isParted : Value) (v_row : Nat → Int32) : va_W := [(h0, .inr (5, [.ref h_row, g_fresh, g_kept, g_tried, g_isKept, g_viewed, g_tape, g_tapeMany, g_sort, g_begins, g_tokenEnds, g_word, g_value, g_good, g_growing, g_rows, g_must, g_rowMany, g_sorts, g_sizes, g_sheets, g_holds, g_heldNumber, g_heldSize, g_kind, g_number, g_ownHand, g_traced, g_bodies, g_isParted])), (h_row, .inl (cI, 68, .inl v_row))]
set_option maxHeartbeats 4000000 in
set_option maxRecDepth 100000 in
theorem tX5_wall {l : Launch} {D : va_G} {cB cI cJ cO : ClassId} (h0 h_row : Nat) (g_fresh g_kept g_tried g_isKept g_viewed g_tape g_tapeMany g_sort g_begins g_tokenEnds g_word g_value g_good g_growing g_rows g_must g_rowMany g_sorts g_sizes g_sheets g_holds g_heldNumber g_heldSize g_kind g_number g_ownHand g_traced g_bodies g_isParted : Value) (v_row : Nat → Int32) (x1 : Int32) (x2 : Int32) (x3 : Int32) (r : Int32 × (Nat → Int32)) (hF : fX5_wall v_row x1 x2 x3 = some r) : Met l yX5_wall wsX5_wall rX5_wall (zPre D cB cI cJ cO [.ref h0, .int x1, .int x2, .int x3] (wX5_wall cB cI cJ cO h0 h_row g_fresh g_kept g_tried g_isKept g_viewed g_tape g_tapeMany g_sort g_begins g_tokenEnds g_word g_value g_good g_growing g_rows g_must g_rowMany g_sorts g_sizes g_sheets g_holds g_heldNumber g_heldSize g_kind g_number g_ownHand g_traced g_bodies g_isParted v_row)) (zPM (some (.int r.1)) D (wX5_wall cB cI cJ cO h0 h_row g_fresh g_kept g_tried g_isKept g_viewed g_tape g_tapeMany g_sort g_begins g_tokenEnds g_word g_value g_good g_growing g_rows g_must g_rowMany g_sorts g_sizes g_sheets g_holds g_heldNumber g_heldSize g_kind g_number g_ownHand g_traced g_bodies g_isParted r.2) (zAs [h0, h_row])) 0 0 (zAs [h0, h_row]) := by
  refine zMetM (cc := cX5_wall) (maxL := 4) (ret := (some .int)) (lv := [(0, .ref h0), (1, .int x1), (2, .int x2), (3, .int x3)]) rfl (by decide) rfl (Nat.le_of_ble_eq_true rfl) rfl ?_
  intro p e s m args below meth c ls Q H locs hQ hx hb hr hml hown hts hlocks hname hP hE hD hS hl
  have hown : s.vm.findClass RX5 = some m.cls := hown
  have hK := hE.1
  unfold fX5_wall at hF
  refine lv_iload_n (pc := 0) hx hb dX5_wall_0 rfl (lv_at hl 1 rfl) ?_
  obtain ⟨u1, hu1, hF⟩ := z_bind hF
  refine zq_call (oc0 := (some (.int u1))) (va_runS (As := [.int x1]) (rest := []) ⟨hx, hb, hml, hown, hts⟩ (tX5_isWall (l := l) (D := D) (cB := cB) (cI := cI) (cJ := cJ) (cO := cO) x1 u1 hu1) (va_cwS 1 hts gX5_wall_X5_isWall rfl rfl rfl (by decide +kernel) ⟨Nat.le_of_ble_eq_true rfl, Nat.le_of_ble_eq_true rfl⟩) ⟨zPre_blind, zPre_at hP hE (zD_re hD rfl) [] rfl rfl⟩ rfl rfl hl.1 rfl (lv_room (Nat.le_of_ble_eq_true rfl)) dX5_wall_1 ⟨Nat.zero_le _, Nat.zero_le _⟩) ?_
  refine W.eq (g2 := F0 m 4 ls [.int u1]) rfl ?_
  refine zb_if_eq (pc := 4) (tgt := 50) hx hb dX5_wall_4 (by decide) hF (fun c_4 hF => ?_) (fun c_4 hF => ?_)
  · refine lv_iconst (pc := 50) (v := (-1 : Int32)) hx hb dX5_wall_50 (by decide) ?_
    exact z_iretM (pc := 51) (fun q => q.1) (fun q => (wX5_wall cB cI cJ cO h0 h_row g_fresh g_kept g_tried g_isKept g_viewed g_tape g_tapeMany g_sort g_begins g_tokenEnds g_word g_value g_good g_growing g_rows g_must g_rowMany g_sorts g_sizes g_sheets g_holds g_heldNumber g_heldSize g_kind g_number g_ownHand g_traced g_bodies g_isParted q.2)) hx hb hr hlocks hP hS hF rfl hQ dX5_wall_51
  · refine lv_iload_n (pc := 7) hx hb dX5_wall_7 rfl (lv_at hl 2 rfl) ?_
    refine lv_iconst (pc := 8) (v := (nI 0)) hx hb dX5_wall_8 (by decide) ?_
    refine lv_iconst (pc := 9) (v := (nI 1)) hx hb dX5_wall_9 (by decide) ?_
    obtain ⟨u10, hu10, hF⟩ := z_bind hF
    refine zq_call (oc0 := (some (.int u10))) (va_runS (As := [.int x2, .int (nI 0), .int (nI 1)]) (rest := []) ⟨hx, hb, hml, hown, hts⟩ (tX5_in (l := l) (D := D) (cB := cB) (cI := cI) (cJ := cJ) (cO := cO) x2 (nI 0) (nI 1) u10 hu10) (va_cwS 3 hts gX5_wall_X5_in rfl rfl rfl (by decide +kernel) ⟨Nat.le_of_ble_eq_true rfl, Nat.le_of_ble_eq_true rfl⟩) ⟨zPre_blind, zPre_at hP hE (zD_re hD rfl) [] rfl rfl⟩ rfl rfl hl.1 rfl (lv_room (Nat.le_of_ble_eq_true rfl)) dX5_wall_10 ⟨Nat.zero_le _, Nat.zero_le _⟩) ?_
    refine W.eq (g2 := F0 m 13 ls [.int u10]) rfl ?_
    refine zb_if_eq (pc := 13) (tgt := 50) hx hb dX5_wall_13 (by decide) hF (fun c_13 hF => ?_) (fun c_13 hF => ?_)
    · refine lv_iconst (pc := 50) (v := (-1 : Int32)) hx hb dX5_wall_50 (by decide) ?_
      exact z_iretM (pc := 51) (fun q => q.1) (fun q => (wX5_wall cB cI cJ cO h0 h_row g_fresh g_kept g_tried g_isKept g_viewed g_tape g_tapeMany g_sort g_begins g_tokenEnds g_word g_value g_good g_growing g_rows g_must g_rowMany g_sorts g_sizes g_sheets g_holds g_heldNumber g_heldSize g_kind g_number g_ownHand g_traced g_bodies g_isParted q.2)) hx hb hr hlocks hP hS hF rfl hQ dX5_wall_51
    · refine lv_iload_n (pc := 16) hx hb dX5_wall_16 rfl (lv_at hl 3 rfl) ?_
      refine lv_iconst (pc := 17) (v := (nI 0)) hx hb dX5_wall_17 (by decide) ?_
      refine lv_iload_n (pc := 18) hx hb dX5_wall_18 rfl (lv_at hl 2 rfl) ?_
      obtain ⟨J_2, hJ_2, hF⟩ := z_J hF
      have kJ_2 : ∀ (t2_1 : Int32) , J_2 t2_1 = some r → ∀ (H : Heap) (locs : List Loc), va_P D vwCl (wX5_wall cB cI cJ cO h0 h_row g_fresh g_kept g_tried g_isKept g_viewed g_tape g_tapeMany g_sort g_begins g_tokenEnds g_word g_value g_good g_growing g_rows g_must g_rowMany g_sorts g_sizes g_sheets g_holds g_heldNumber g_heldSize g_kind g_number g_ownHand g_traced g_bodies g_isParted v_row) H → va_S (zAs [h0, h_row]) s.heap H locs → ∀ (ls : Array Slot), lv_has ls 4 [(0, .ref h0), (1, .int x1), (2, .int x2), (3, .int x3)] → W p l e rX5_wall s m args below meth c H locs 0 0 Q (F0 m 28 ls [.int t2_1, .int (nI 0), .int x3]) := by
        intro t2_1 hF H locs hP hS ls hl
        rw [hJ_2] at hF
        obtain ⟨u28, hu28, hF⟩ := z_bind hF
        refine zq_call (oc0 := (some (.int u28))) (va_runS (As := [.int x3, .int (nI 0), .int t2_1]) (rest := []) ⟨hx, hb, hml, hown, hts⟩ (tX5_in (l := l) (D := D) (cB := cB) (cI := cI) (cJ := cJ) (cO := cO) x3 (nI 0) t2_1 u28 hu28) (va_cwS 3 hts gX5_wall_X5_in rfl rfl rfl (by decide +kernel) ⟨Nat.le_of_ble_eq_true rfl, Nat.le_of_ble_eq_true rfl⟩) ⟨zPre_blind, zPre_at hP hE (zD_re hD rfl) [] rfl rfl⟩ rfl rfl hl.1 rfl (lv_room (Nat.le_of_ble_eq_true rfl)) dX5_wall_28 ⟨Nat.zero_le _, Nat.zero_le _⟩) ?_
        refine W.eq (g2 := F0 m 31 ls [.int u28]) rfl ?_
        refine zb_if_eq (pc := 31) (tgt := 50) hx hb dX5_wall_31 (by decide) hF (fun c_31 hF => ?_) (fun c_31 hF => ?_)
        · refine lv_iconst (pc := 50) (v := (-1 : Int32)) hx hb dX5_wall_50 (by decide) ?_
          exact z_iretM (pc := 51) (fun q => q.1) (fun q => (wX5_wall cB cI cJ cO h0 h_row g_fresh g_kept g_tried g_isKept g_viewed g_tape g_tapeMany g_sort g_begins g_tokenEnds g_word g_value g_good g_growing g_rows g_must g_rowMany g_sorts g_sizes g_sheets g_holds g_heldNumber g_heldSize g_kind g_number g_ownHand g_traced g_bodies g_isParted q.2)) hx hb hr hlocks hP hS hF rfl hQ dX5_wall_51
        · refine lv_aload_n (pc := 34) hx hb dX5_wall_34 rfl (lv_at hl 0 rfl) ?_
          refine lv_bipush (pc := 35) (v := (nI 8)) hx hb dX5_wall_35 (by decide) ?_
          refine lv_iconst (pc := 37) (v := (nI 2)) hx hb dX5_wall_37 (by decide) ?_
          refine lv_iload_n (pc := 38) hx hb dX5_wall_38 rfl (lv_at hl 1 rfl) ?_
          refine lv_imul (pc := 39) hx hb dX5_wall_39 ?_
          refine lv_iadd (pc := 40) hx hb dX5_wall_40 ?_
          refine lv_iload_n (pc := 41) hx hb dX5_wall_41 rfl (lv_at hl 2 rfl) ?_
          refine lv_iadd (pc := 42) hx hb dX5_wall_42 ?_
          refine lv_iload_n (pc := 43) hx hb dX5_wall_43 rfl (lv_at hl 3 rfl) ?_
          obtain ⟨u44, hu44, hF⟩ := z_bind hF
          refine zq_callM (oc0 := (some (.int u44.1))) (wc := wX5_becomes cB cI cJ cO h0 h_row g_fresh g_kept g_tried g_isKept g_viewed g_tape g_tapeMany g_sort g_begins g_tokenEnds g_word g_value g_good g_growing g_rows g_must g_rowMany g_sorts g_sizes g_sheets g_holds g_heldNumber g_heldSize g_kind g_number g_ownHand g_traced g_bodies g_isParted v_row) (wc' := wX5_becomes cB cI cJ cO h0 h_row g_fresh g_kept g_tried g_isKept g_viewed g_tape g_tapeMany g_sort g_begins g_tokenEnds g_word g_value g_good g_growing g_rows g_must g_rowMany g_sorts g_sizes g_sheets g_holds g_heldNumber g_heldSize g_kind g_number g_ownHand g_traced g_bodies g_isParted u44.2) (ws' := (wX5_wall cB cI cJ cO h0 h_row g_fresh g_kept g_tried g_isKept g_viewed g_tape g_tapeMany g_sort g_begins g_tokenEnds g_word g_value g_good g_growing g_rows g_must g_rowMany g_sorts g_sizes g_sheets g_holds g_heldNumber g_heldSize g_kind g_number g_ownHand g_traced g_bodies g_isParted u44.2)) (va_runV (As := [.int (((nI 8) + ((nI 2) * x1)) + x2), .int x3]) (rest := []) ⟨hx, hb, hml, hown, hts⟩ (tX5_becomes (l := l) (D := D) (cB := cB) (cI := cI) (cJ := cJ) (cO := cO) h0 h_row g_fresh g_kept g_tried g_isKept g_viewed g_tape g_tapeMany g_sort g_begins g_tokenEnds g_word g_value g_good g_growing g_rows g_must g_rowMany g_sorts g_sizes g_sheets g_holds g_heldNumber g_heldSize g_kind g_number g_ownHand g_traced g_bodies g_isParted v_row (((nI 8) + ((nI 2) * x1)) + x2) x3 u44 hu44) (cwV 2 hts gX5_wall_X5_becomes rfl rfl rfl (by decide +kernel) ⟨Nat.le_of_ble_eq_true rfl, Nat.le_of_ble_eq_true rfl⟩) ⟨zPre_blind, va_recv hK hP (ci := 5) (q0 := 0) rfl rfl, zPre_at hP hE (zD_re hD rfl) [0, 1] rfl rfl⟩ rfl rfl hl.1 rfl (lv_room (Nat.le_of_ble_eq_true rfl)) dX5_wall_44 ⟨Nat.zero_le _, Nat.zero_le _⟩) rfl hP (zD_re hD rfl) hS [0, 1] rfl rfl [some 0, some 1] rfl rfl rfl rfl (fun H locs hP hS => ?_)
          refine W.eq (g2 := F0 m 47 ls [.int u44.1]) rfl ?_
          refine lv_goto (pc := 47) (tgt := 51) hx hb dX5_wall_47 (by decide) ?_
          exact z_iretM (pc := 51) (fun q => q.1) (fun q => (wX5_wall cB cI cJ cO h0 h_row g_fresh g_kept g_tried g_isKept g_viewed g_tape g_tapeMany g_sort g_begins g_tokenEnds g_word g_value g_good g_growing g_rows g_must g_rowMany g_sorts g_sizes g_sheets g_holds g_heldNumber g_heldSize g_kind g_number g_ownHand g_traced g_bodies g_isParted q.2)) hx hb hr hlocks hP hS hF rfl hQ dX5_wall_51
      refine zb_if_ne (pc := 19) (tgt := 26) hx hb dX5_wall_19 (by decide) hF (fun c_19 hF => ?_) (fun c_19 hF => ?_)
      · refine lv_bipush (pc := 26) (v := (nI 9)) hx hb dX5_wall_26 (by decide) ?_
        exact kJ_2 (nI 9) hF H locs hP hS ls (lv_sub hl [0, 1, 2, 3] rfl)
      · refine lv_iconst (pc := 22) (v := (nI 2)) hx hb dX5_wall_22 (by decide) ?_
        refine lv_goto (pc := 23) (tgt := 28) hx hb dX5_wall_23 (by decide) ?_
        exact kJ_2 (nI 2) hF H locs hP hS ls (lv_sub hl [0, 1, 2, 3] rfl)

abbrev rX5_looks : Room := { frames := 1, cells := 0, slots := 0, locals := 22 }
abbrev wX5_looks (cB cI cJ cO : ClassId) (h0 h_row : Nat) (g_fresh g_kept g_tried g_isKept g_viewed g_tape g_tapeMany g_sort g_begins g_tokenEnds g_word g_value g_good g_growing g_rows g_must g_rowMany g_sorts g_sizes g_sheets g_holds g_heldNumber g_heldSize g_kind g_number g_ownHand g_traced g_bodies g_isParted : Value) (v_row : Nat → Int32) : va_W := [(h0, .inr (5, [.ref h_row, g_fresh, g_kept, g_tried, g_isKept, g_viewed, g_tape, g_tapeMany, g_sort, g_begins, g_tokenEnds, g_word, g_value, g_good, g_growing, g_rows, g_must, g_rowMany, g_sorts, g_sizes, g_sheets, g_holds, g_heldNumber, g_heldSize, g_kind, g_number, g_ownHand, g_traced, g_bodies, g_isParted])), (h_row, .inl (cI, 68, .inl v_row))]
theorem nX5_looks_X5 : ∀ w ∈ wsX50, w ∈ wsX5_looks := by decide +kernel
theorem kX5_looks_0 : Cond.fieldLink RX5 7 "PaintedWallsModel" "row" "[I" ∈ wsX5_looks := by decide +kernel
set_option maxHeartbeats 4000000 in
set_option maxRecDepth 100000 in
theorem tX5_looks {l : Launch} {D : va_G} {cB cI cJ cO : ClassId} (h0 h_row : Nat) (g_fresh g_kept g_tried g_isKept g_viewed g_tape g_tapeMany g_sort g_begins g_tokenEnds g_word g_value g_good g_growing g_rows g_must g_rowMany g_sorts g_sizes g_sheets g_holds g_heldNumber g_heldSize g_kind g_number g_ownHand g_traced g_bodies g_isParted : Value) (v_row : Nat → Int32) (x1 : Int32) (r : Int32) (hF : fX5_looks v_row x1 = some r) : Met l yX5_looks wsX5_looks rX5_looks (zPre D cB cI cJ cO [.ref h0, .int x1] (wX5_looks cB cI cJ cO h0 h_row g_fresh g_kept g_tried g_isKept g_viewed g_tape g_tapeMany g_sort g_begins g_tokenEnds g_word g_value g_good g_growing g_rows g_must g_rowMany g_sorts g_sizes g_sheets g_holds g_heldNumber g_heldSize g_kind g_number g_ownHand g_traced g_bodies g_isParted v_row)) (zPI (some (.int r))) 0 0 (fun _ => False) := by
  refine zMetP (cc := cX5_looks) (maxL := 4) (ret := (some .int)) (lv := [(0, .ref h0), (1, .int x1)]) (by decide) rfl (Nat.le_of_ble_eq_true rfl) rfl ?_
  intro p e s m args below meth c ls Q hQ hx hb hr hml hown hts hlocks hname hP hE hD hl
  have hown : s.vm.findClass RX5 = some m.cls := hown
  have hK := hE.1
  unfold fX5_looks at hF
  refine lv_iconst (pc := 0) (v := (nI 0)) hx hb dX5_looks_0 (by decide) ?_
  refine lv_istore_n (pc := 1) (lv' := [(2, .int (nI 0)), (0, .ref h0), (1, .int x1)]) hx hb dX5_looks_1 rfl hl (by decide) rfl (fun ls hl => ?_)
  refine lv_iconst (pc := 2) (v := (nI 0)) hx hb dX5_looks_2 (by decide) ?_
  refine lv_istore_n (pc := 3) (lv' := [(3, .int (nI 0)), (2, .int (nI 0)), (0, .ref h0), (1, .int x1)]) hx hb dX5_looks_3 rfl hl (by decide) rfl (fun ls hl => ?_)
  obtain ⟨k_4, hk_4, hF⟩ := z_J hF
  have kk_4 : ∀ (y2_3 : Int32) , k_4 y2_3 = some r → ∀ (ls : Array Slot), lv_has ls 4 [(0, .ref h0), (1, .int x1), (2, .int y2_3)] → W p l e rX5_looks s m args below meth c s.heap [] 0 0 Q (F0 m 44 ls []) := by
    intro y2_3 hF ls hl
    rw [hk_4] at hF
    refine lv_iload_n (pc := 44) hx hb dX5_looks_44 rfl (lv_at hl 2 rfl) ?_
    refine lv_aload_n (pc := 45) hx hb dX5_looks_45 rfl (lv_at hl 0 rfl) ?_
    refine va_get (D := D) (pc := 46) (ci := 5) (v := .ref h_row) (C := RX5) (T := TX5) (N := 30) hx hb hts nX5_looks_X5 hown hK hP 0 rfl rfl 0 (by decide) (hts _ kX5_looks_0) (fun _ h9 => h9) rfl dX5_looks_46 ?_
    refine lv_bipush (pc := 49) (v := (nI 8)) hx hb dX5_looks_49 (by decide) ?_
    refine lv_iconst (pc := 51) (v := (nI 2)) hx hb dX5_looks_51 (by decide) ?_
    refine lv_iload_n (pc := 52) hx hb dX5_looks_52 rfl (lv_at hl 1 rfl) ?_
    refine lv_imul (pc := 53) hx hb dX5_looks_53 ?_
    refine lv_iadd (pc := 54) hx hb dX5_looks_54 ?_
    refine lv_iconst (pc := 55) (v := (nI 1)) hx hb dX5_looks_55 (by decide) ?_
    refine lv_iadd (pc := 56) hx hb dX5_looks_56 ?_
    refine za_iald (pc := 57) hx hb hK hP 1 1 rfl rfl dX5_looks_57 hF (fun hF => ?_)
    refine lv_imul (pc := 58) hx hb dX5_looks_58 ?_
    exact z_iret (pc := 59) (fun q => q) hx hb hr hlocks hF rfl hQ dX5_looks_59
  have hL_4 : ∀ (n : Nat) (y2_1 : Int32) (y3_2 : Int32) , fX5_looks_L4 v_row x1 k_4 n y2_1 y3_2 = some r → ∀ (ls : Array Slot), lv_has ls 4 [(0, .ref h0), (1, .int x1), (2, .int y2_1), (3, .int y3_2)] → W p l e rX5_looks s m args below meth c s.heap [] 0 0 Q (F0 m 4 ls []) := by
    intro n
    induction n with
    | zero =>
      intro y2_1 y3_2 hF ls hl
      exact z_no hF
    | succ n ih =>
      intro y2_1 y3_2 hF ls hl
      rw [fX5_looks_L4] at hF
      refine lv_iload_n (pc := 4) hx hb dX5_looks_4 rfl (lv_at hl 3 rfl) ?_
      refine lv_aload_n (pc := 5) hx hb dX5_looks_5 rfl (lv_at hl 0 rfl) ?_
      refine va_get (D := D) (pc := 6) (ci := 5) (v := .ref h_row) (C := RX5) (T := TX5) (N := 30) hx hb hts nX5_looks_X5 hown hK hP 0 rfl rfl 0 (by decide) (hts _ kX5_looks_0) (fun _ h9 => h9) rfl dX5_looks_6 ?_
      refine lv_bipush (pc := 9) (v := (nI 6)) hx hb dX5_looks_9 (by decide) ?_
      refine za_ialdK (pc := 11) (k := 6) hx hb hK hP 1 1 rfl rfl (by decide) (by decide) dX5_looks_11 ?_
      refine zb_icmp_ge (pc := 12) (tgt := 44) hx hb dX5_looks_12 (by decide) hF (fun c_12 hF => ?_) (fun c_12 hF => ?_)
      · exact kk_4 y2_1 hF ls (lv_sub hl [0, 1, 2] rfl)
      · refine lv_iload_n (pc := 15) hx hb dX5_looks_15 rfl (lv_at hl 2 rfl) ?_
        refine lv_aload_n (pc := 16) hx hb dX5_looks_16 rfl (lv_at hl 0 rfl) ?_
        refine lv_iload_n (pc := 17) hx hb dX5_looks_17 rfl (lv_at hl 3 rfl) ?_
        refine lv_iconst (pc := 18) (v := (nI 3)) hx hb dX5_looks_18 (by decide) ?_
        obtain ⟨u19, hu19, hF⟩ := z_bind hF
        refine zq_call (oc0 := (some (.int u19))) (va_runV (As := [.int y3_2, .int (nI 3)]) (rest := [.int y2_1]) ⟨hx, hb, hml, hown, hts⟩ (tX5_its (l := l) (D := D) (cB := cB) (cI := cI) (cJ := cJ) (cO := cO) h0 h_row g_fresh g_kept g_tried g_isKept g_viewed g_tape g_tapeMany g_sort g_begins g_tokenEnds g_word g_value g_good g_growing g_rows g_must g_rowMany g_sorts g_sizes g_sheets g_holds g_heldNumber g_heldSize g_kind g_number g_ownHand g_traced g_bodies g_isParted v_row y3_2 (nI 3) u19 hu19) (cwV 2 hts gX5_looks_X5_its rfl rfl rfl (by decide +kernel) ⟨Nat.le_of_ble_eq_true rfl, Nat.le_of_ble_eq_true rfl⟩) ⟨zPre_blind, va_recv hK hP (ci := 5) (q0 := 0) rfl rfl, zPre_at hP hE hD [0, 1] rfl rfl⟩ rfl rfl hl.1 rfl (lv_room (Nat.le_of_ble_eq_true rfl)) dX5_looks_19 ⟨Nat.zero_le _, Nat.zero_le _⟩) ?_
        refine W.eq (g2 := F0 m 22 ls [.int u19, .int y2_1]) rfl ?_
        refine lv_iload_n (pc := 22) hx hb dX5_looks_22 rfl (lv_at hl 1 rfl) ?_
        refine zb_icmp_ne (pc := 23) (tgt := 35) hx hb dX5_looks_23 (by decide) hF (fun c_23 hF => ?_) (fun c_23 hF => ?_)
        · refine lv_iconst (pc := 35) (v := (nI 0)) hx hb dX5_looks_35 (by decide) ?_
          refine lv_iadd (pc := 36) hx hb dX5_looks_36 ?_
          refine lv_istore_n (pc := 37) (lv' := [(2, .int (y2_1 + (nI 0))), (0, .ref h0), (1, .int x1), (3, .int y3_2)]) hx hb dX5_looks_37 rfl hl (by decide) rfl (fun ls hl => ?_)
          refine lv_iinc (pc := 38) (v := (y3_2 + 1)) (lv' := [(3, .int (y3_2 + 1)), (2, .int (y2_1 + (nI 0))), (0, .ref h0), (1, .int x1)]) hx hb dX5_looks_38 hl (k := 3) rfl rfl (by decide) rfl (fun ls hl => ?_)
          refine lv_goto (pc := 41) (tgt := 4) hx hb dX5_looks_41 (by decide) ?_
          exact ih (y2_1 + (nI 0)) (y3_2 + 1) hF ls (lv_sub hl [2, 3, 1, 0] rfl)
        · refine lv_aload_n (pc := 26) hx hb dX5_looks_26 rfl (lv_at hl 0 rfl) ?_
          refine lv_iload_n (pc := 27) hx hb dX5_looks_27 rfl (lv_at hl 3 rfl) ?_
          refine lv_iconst (pc := 28) (v := (nI 2)) hx hb dX5_looks_28 (by decide) ?_
          obtain ⟨u29, hu29, hF⟩ := z_bind hF
          refine zq_call (oc0 := (some (.int u29))) (va_runV (As := [.int y3_2, .int (nI 2)]) (rest := [.int y2_1]) ⟨hx, hb, hml, hown, hts⟩ (tX5_its (l := l) (D := D) (cB := cB) (cI := cI) (cJ := cJ) (cO := cO) h0 h_row g_fresh g_kept g_tried g_isKept g_viewed g_tape g_tapeMany g_sort g_begins g_tokenEnds g_word g_value g_good g_growing g_rows g_must g_rowMany g_sorts g_sizes g_sheets g_holds g_heldNumber g_heldSize g_kind g_number g_ownHand g_traced g_bodies g_isParted v_row y3_2 (nI 2) u29 hu29) (cwV 2 hts gX5_looks_X5_its rfl rfl rfl (by decide +kernel) ⟨Nat.le_of_ble_eq_true rfl, Nat.le_of_ble_eq_true rfl⟩) ⟨zPre_blind, va_recv hK hP (ci := 5) (q0 := 0) rfl rfl, zPre_at hP hE hD [0, 1] rfl rfl⟩ rfl rfl hl.1 rfl (lv_room (Nat.le_of_ble_eq_true rfl)) dX5_looks_29 ⟨Nat.zero_le _, Nat.zero_le _⟩) ?_
          refine W.eq (g2 := F0 m 32 ls [.int u29, .int y2_1]) rfl ?_
          refine lv_goto (pc := 32) (tgt := 36) hx hb dX5_looks_32 (by decide) ?_
          refine lv_iadd (pc := 36) hx hb dX5_looks_36 ?_
          refine lv_istore_n (pc := 37) (lv' := [(2, .int (y2_1 + u29)), (0, .ref h0), (1, .int x1), (3, .int y3_2)]) hx hb dX5_looks_37 rfl hl (by decide) rfl (fun ls hl => ?_)
          refine lv_iinc (pc := 38) (v := (y3_2 + 1)) (lv' := [(3, .int (y3_2 + 1)), (2, .int (y2_1 + u29)), (0, .ref h0), (1, .int x1)]) hx hb dX5_looks_38 hl (k := 3) rfl rfl (by decide) rfl (fun ls hl => ?_)
          refine lv_goto (pc := 41) (tgt := 4) hx hb dX5_looks_41 (by decide) ?_
          exact ih (y2_1 + u29) (y3_2 + 1) hF ls (lv_sub hl [2, 3, 1, 0] rfl)
  exact hL_4 zK (nI 0) (nI 0) hF ls (lv_sub hl [2, 3, 1, 0] rfl)

abbrev rX5_looksOfAll : Room := { frames := 2, cells := 0, slots := 0, locals := 45 }
abbrev wX5_looksOfAll (cB cI cJ cO : ClassId) (h0 h_row : Nat) (g_fresh g_kept g_tried g_isKept g_viewed g_tape g_tapeMany g_sort g_begins g_tokenEnds g_word g_value g_good g_growing g_rows g_must g_rowMany g_sorts g_sizes g_sheets g_holds g_heldNumber g_heldSize g_kind g_number g_ownHand g_traced g_bodies g_isParted : Value) (v_row : Nat → Int32) : va_W := [(h0, .inr (5, [.ref h_row, g_fresh, g_kept, g_tried, g_isKept, g_viewed, g_tape, g_tapeMany, g_sort, g_begins, g_tokenEnds, g_word, g_value, g_good, g_growing, g_rows, g_must, g_rowMany, g_sorts, g_sizes, g_sheets, g_holds, g_heldNumber, g_heldSize, g_kind, g_number, g_ownHand, g_traced, g_bodies, g_isParted])), (h_row, .inl (cI, 68, .inl v_row))]
set_option maxHeartbeats 4000000 in
set_option maxRecDepth 100000 in
theorem tX5_looksOfAll {l : Launch} {D : va_G} {cB cI cJ cO : ClassId} (h0 h_row : Nat) (g_fresh g_kept g_tried g_isKept g_viewed g_tape g_tapeMany g_sort g_begins g_tokenEnds g_word g_value g_good g_growing g_rows g_must g_rowMany g_sorts g_sizes g_sheets g_holds g_heldNumber g_heldSize g_kind g_number g_ownHand g_traced g_bodies g_isParted : Value) (v_row : Nat → Int32) (r : Int32) (hF : fX5_looksOfAll v_row = some r) : Met l yX5_looksOfAll wsX5_looksOfAll rX5_looksOfAll (zPre D cB cI cJ cO [.ref h0] (wX5_looksOfAll cB cI cJ cO h0 h_row g_fresh g_kept g_tried g_isKept g_viewed g_tape g_tapeMany g_sort g_begins g_tokenEnds g_word g_value g_good g_growing g_rows g_must g_rowMany g_sorts g_sizes g_sheets g_holds g_heldNumber g_heldSize g_kind g_number g_ownHand g_traced g_bodies g_isParted v_row)) (zPI (some (.int r))) 0 0 (fun _ => False) := by
  refine zMetP (cc := cX5_looksOfAll) (maxL := 3) (ret := (some .int)) (lv := [(0, .ref h0)]) (by decide) rfl (Nat.le_of_ble_eq_true rfl) rfl ?_
  intro p e s m args below meth c ls Q hQ hx hb hr hml hown hts hlocks hname hP hE hD hl
  have hown : s.vm.findClass RX5 = some m.cls := hown
  have hK := hE.1
  unfold fX5_looksOfAll at hF
  refine lv_iconst (pc := 0) (v := (nI 0)) hx hb dX5_looksOfAll_0 (by decide) ?_
  refine lv_istore_n (pc := 1) (lv' := [(1, .int (nI 0)), (0, .ref h0)]) hx hb dX5_looksOfAll_1 rfl hl (by decide) rfl (fun ls hl => ?_)
  refine lv_iconst (pc := 2) (v := (nI 0)) hx hb dX5_looksOfAll_2 (by decide) ?_
  refine lv_istore_n (pc := 3) (lv' := [(2, .int (nI 0)), (1, .int (nI 0)), (0, .ref h0)]) hx hb dX5_looksOfAll_3 rfl hl (by decide) rfl (fun ls hl => ?_)
  obtain ⟨k_4, hk_4, hF⟩ := z_J hF
  have kk_4 : ∀ (y1_3 : Int32) , k_4 y1_3 = some r → ∀ (ls : Array Slot), lv_has ls 3 [(1, .int y1_3)] → W p l e rX5_looksOfAll s m args below meth c s.heap [] 0 0 Q (F0 m 24 ls []) := by
    intro y1_3 hF ls hl
    rw [hk_4] at hF
    refine lv_iload_n (pc := 24) hx hb dX5_looksOfAll_24 rfl (lv_at hl 0 rfl) ?_
    exact z_iret (pc := 25) (fun q => q) hx hb hr hlocks hF rfl hQ dX5_looksOfAll_25
  have hL_4 : ∀ (n : Nat) (y1_1 : Int32) (y2_2 : Int32) , fX5_looksOfAll_L4 v_row k_4 n y1_1 y2_2 = some r → ∀ (ls : Array Slot), lv_has ls 3 [(0, .ref h0), (1, .int y1_1), (2, .int y2_2)] → W p l e rX5_looksOfAll s m args below meth c s.heap [] 0 0 Q (F0 m 4 ls []) := by
    intro n
    induction n with
    | zero =>
      intro y1_1 y2_2 hF ls hl
      exact z_no hF
    | succ n ih =>
      intro y1_1 y2_2 hF ls hl
      rw [fX5_looksOfAll_L4] at hF
      refine lv_iload_n (pc := 4) hx hb dX5_looksOfAll_4 rfl (lv_at hl 2 rfl) ?_
      refine lv_bipush (pc := 5) (v := (nI 10)) hx hb dX5_looksOfAll_5 (by decide) ?_
      refine zb_icmp_ge (pc := 7) (tgt := 24) hx hb dX5_looksOfAll_7 (by decide) hF (fun c_7 hF => ?_) (fun c_7 hF => ?_)
      · exact kk_4 y1_1 hF ls (lv_sub hl [1] rfl)
      · refine lv_iload_n (pc := 10) hx hb dX5_looksOfAll_10 rfl (lv_at hl 1 rfl) ?_
        refine lv_aload_n (pc := 11) hx hb dX5_looksOfAll_11 rfl (lv_at hl 0 rfl) ?_
        refine lv_iload_n (pc := 12) hx hb dX5_looksOfAll_12 rfl (lv_at hl 2 rfl) ?_
        obtain ⟨u13, hu13, hF⟩ := z_bind hF
        refine zq_call (oc0 := (some (.int u13))) (va_runV (As := [.int y2_2]) (rest := [.int y1_1]) ⟨hx, hb, hml, hown, hts⟩ (tX5_looks (l := l) (D := D) (cB := cB) (cI := cI) (cJ := cJ) (cO := cO) h0 h_row g_fresh g_kept g_tried g_isKept g_viewed g_tape g_tapeMany g_sort g_begins g_tokenEnds g_word g_value g_good g_growing g_rows g_must g_rowMany g_sorts g_sizes g_sheets g_holds g_heldNumber g_heldSize g_kind g_number g_ownHand g_traced g_bodies g_isParted v_row y2_2 u13 hu13) (cwV 1 hts gX5_looksOfAll_X5_looks rfl rfl rfl (by decide +kernel) ⟨Nat.le_of_ble_eq_true rfl, Nat.le_of_ble_eq_true rfl⟩) ⟨zPre_blind, va_recv hK hP (ci := 5) (q0 := 0) rfl rfl, zPre_at hP hE hD [0, 1] rfl rfl⟩ rfl rfl hl.1 rfl (lv_room (Nat.le_of_ble_eq_true rfl)) dX5_looksOfAll_13 ⟨Nat.zero_le _, Nat.zero_le _⟩) ?_
        refine W.eq (g2 := F0 m 16 ls [.int u13, .int y1_1]) rfl ?_
        refine lv_iadd (pc := 16) hx hb dX5_looksOfAll_16 ?_
        refine lv_istore_n (pc := 17) (lv' := [(1, .int (y1_1 + u13)), (0, .ref h0), (2, .int y2_2)]) hx hb dX5_looksOfAll_17 rfl hl (by decide) rfl (fun ls hl => ?_)
        refine lv_iinc (pc := 18) (v := (y2_2 + 1)) (lv' := [(2, .int (y2_2 + 1)), (1, .int (y1_1 + u13)), (0, .ref h0)]) hx hb dX5_looksOfAll_18 hl (k := 2) rfl rfl (by decide) rfl (fun ls hl => ?_)
        refine lv_goto (pc := 21) (tgt := 4) hx hb dX5_looksOfAll_21 (by decide) ?_
        exact ih (y1_1 + u13) (y2_2 + 1) hF ls (lv_sub hl [2, 1, 0] rfl)
  exact hL_4 zK (nI 0) (nI 0) hF ls (lv_sub hl [2, 1, 0] rfl)

abbrev rX5_wallOf : Room := { frames := 2, cells := 0, slots := 0, locals := 45 }
abbrev wX5_wallOf (cB cI cJ cO : ClassId) (h0 h_row : Nat) (g_fresh g_kept g_tried g_isKept g_viewed g_tape g_tapeMany g_sort g_begins g_tokenEnds g_word g_value g_good g_growing g_rows g_must g_rowMany g_sorts g_sizes g_sheets g_holds g_heldNumber g_heldSize g_kind g_number g_ownHand g_traced g_bodies g_isParted : Value) (v_row : Nat → Int32) : va_W := [(h0, .inr (5, [.ref h_row, g_fresh, g_kept, g_tried, g_isKept, g_viewed, g_tape, g_tapeMany, g_sort, g_begins, g_tokenEnds, g_word, g_value, g_good, g_growing, g_rows, g_must, g_rowMany, g_sorts, g_sizes, g_sheets, g_holds, g_heldNumber, g_heldSize, g_kind, g_number, g_ownHand, g_traced, g_bodies, g_isParted])), (h_row, .inl (cI, 68, .inl v_row))]
theorem nX5_wallOf_X5 : ∀ w ∈ wsX50, w ∈ wsX5_wallOf := by decide +kernel
theorem kX5_wallOf_0 : Cond.fieldLink RX5 7 "PaintedWallsModel" "row" "[I" ∈ wsX5_wallOf := by decide +kernel
set_option maxHeartbeats 4000000 in
set_option maxRecDepth 100000 in
theorem tX5_wallOf {l : Launch} {D : va_G} {cB cI cJ cO : ClassId} (h0 h_row : Nat) (g_fresh g_kept g_tried g_isKept g_viewed g_tape g_tapeMany g_sort g_begins g_tokenEnds g_word g_value g_good g_growing g_rows g_must g_rowMany g_sorts g_sizes g_sheets g_holds g_heldNumber g_heldSize g_kind g_number g_ownHand g_traced g_bodies g_isParted : Value) (v_row : Nat → Int32) (x1 : Int32) (x2 : Int32) (r : Int32) (hF : fX5_wallOf v_row x1 x2 = some r) : Met l yX5_wallOf wsX5_wallOf rX5_wallOf (zPre D cB cI cJ cO [.ref h0, .int x1, .int x2] (wX5_wallOf cB cI cJ cO h0 h_row g_fresh g_kept g_tried g_isKept g_viewed g_tape g_tapeMany g_sort g_begins g_tokenEnds g_word g_value g_good g_growing g_rows g_must g_rowMany g_sorts g_sizes g_sheets g_holds g_heldNumber g_heldSize g_kind g_number g_ownHand g_traced g_bodies g_isParted v_row)) (zPI (some (.int r))) 0 0 (fun _ => False) := by
  refine zMetP (cc := cX5_wallOf) (maxL := 3) (ret := (some .int)) (lv := [(0, .ref h0), (1, .int x1), (2, .int x2)]) (by decide) rfl (Nat.le_of_ble_eq_true rfl) rfl ?_
  intro p e s m args below meth c ls Q hQ hx hb hr hml hown hts hlocks hname hP hE hD hl
  have hown : s.vm.findClass RX5 = some m.cls := hown
  have hK := hE.1
  unfold fX5_wallOf at hF
  refine lv_iload_n (pc := 0) hx hb dX5_wallOf_0 rfl (lv_at hl 1 rfl) ?_
  obtain ⟨u1, hu1, hF⟩ := z_bind hF
  refine zq_call (oc0 := (some (.int u1))) (va_runS (As := [.int x1]) (rest := []) ⟨hx, hb, hml, hown, hts⟩ (tX5_isWall (l := l) (D := D) (cB := cB) (cI := cI) (cJ := cJ) (cO := cO) x1 u1 hu1) (va_cwS 1 hts gX5_wallOf_X5_isWall rfl rfl rfl (by decide +kernel) ⟨Nat.le_of_ble_eq_true rfl, Nat.le_of_ble_eq_true rfl⟩) ⟨zPre_blind, zPre_at hP hE hD [] rfl rfl⟩ rfl rfl hl.1 rfl (lv_room (Nat.le_of_ble_eq_true rfl)) dX5_wallOf_1 ⟨Nat.zero_le _, Nat.zero_le _⟩) ?_
  refine W.eq (g2 := F0 m 4 ls [.int u1]) rfl ?_
  refine zb_if_eq (pc := 4) (tgt := 16) hx hb dX5_wallOf_4 (by decide) hF (fun c_4 hF => ?_) (fun c_4 hF => ?_)
  · refine lv_iconst (pc := 16) (v := (-1 : Int32)) hx hb dX5_wallOf_16 (by decide) ?_
    exact z_iret (pc := 17) (fun q => q) hx hb hr hlocks hF rfl hQ dX5_wallOf_17
  · refine lv_iload_n (pc := 7) hx hb dX5_wallOf_7 rfl (lv_at hl 2 rfl) ?_
    refine lv_iconst (pc := 8) (v := (nI 0)) hx hb dX5_wallOf_8 (by decide) ?_
    refine lv_iconst (pc := 9) (v := (nI 3)) hx hb dX5_wallOf_9 (by decide) ?_
    obtain ⟨u10, hu10, hF⟩ := z_bind hF
    refine zq_call (oc0 := (some (.int u10))) (va_runS (As := [.int x2, .int (nI 0), .int (nI 3)]) (rest := []) ⟨hx, hb, hml, hown, hts⟩ (tX5_in (l := l) (D := D) (cB := cB) (cI := cI) (cJ := cJ) (cO := cO) x2 (nI 0) (nI 3) u10 hu10) (va_cwS 3 hts gX5_wallOf_X5_in rfl rfl rfl (by decide +kernel) ⟨Nat.le_of_ble_eq_true rfl, Nat.le_of_ble_eq_true rfl⟩) ⟨zPre_blind, zPre_at hP hE hD [] rfl rfl⟩ rfl rfl hl.1 rfl (lv_room (Nat.le_of_ble_eq_true rfl)) dX5_wallOf_10 ⟨Nat.zero_le _, Nat.zero_le _⟩) ?_
    refine W.eq (g2 := F0 m 13 ls [.int u10]) rfl ?_
    refine zb_if_ne (pc := 13) (tgt := 18) hx hb dX5_wallOf_13 (by decide) hF (fun c_13 hF => ?_) (fun c_13 hF => ?_)
    · refine lv_iload_n (pc := 18) hx hb dX5_wallOf_18 rfl (lv_at hl 2 rfl) ?_
      refine lv_iconst (pc := 19) (v := (nI 2)) hx hb dX5_wallOf_19 (by decide) ?_
      refine zb_icmp_ge (pc := 20) (tgt := 39) hx hb dX5_wallOf_20 (by decide) hF (fun c_20 hF => ?_) (fun c_20 hF => ?_)
      · refine lv_iload_n (pc := 39) hx hb dX5_wallOf_39 rfl (lv_at hl 2 rfl) ?_
        refine lv_iconst (pc := 40) (v := (nI 2)) hx hb dX5_wallOf_40 (by decide) ?_
        refine zb_icmp_ne (pc := 41) (tgt := 52) hx hb dX5_wallOf_41 (by decide) hF (fun c_41 hF => ?_) (fun c_41 hF => ?_)
        · refine lv_aload_n (pc := 52) hx hb dX5_wallOf_52 rfl (lv_at hl 0 rfl) ?_
          refine lv_iload_n (pc := 53) hx hb dX5_wallOf_53 rfl (lv_at hl 1 rfl) ?_
          obtain ⟨u54, hu54, hF⟩ := z_bind hF
          refine zq_call (oc0 := (some (.int u54))) (va_runV (As := [.int x1]) (rest := []) ⟨hx, hb, hml, hown, hts⟩ (tX5_onWall (l := l) (D := D) (cB := cB) (cI := cI) (cJ := cJ) (cO := cO) h0 h_row g_fresh g_kept g_tried g_isKept g_viewed g_tape g_tapeMany g_sort g_begins g_tokenEnds g_word g_value g_good g_growing g_rows g_must g_rowMany g_sorts g_sizes g_sheets g_holds g_heldNumber g_heldSize g_kind g_number g_ownHand g_traced g_bodies g_isParted v_row x1 u54 hu54) (cwV 1 hts gX5_wallOf_X5_onWall rfl rfl rfl (by decide +kernel) ⟨Nat.le_of_ble_eq_true rfl, Nat.le_of_ble_eq_true rfl⟩) ⟨zPre_blind, va_recv hK hP (ci := 5) (q0 := 0) rfl rfl, zPre_at hP hE hD [0, 1] rfl rfl⟩ rfl rfl hl.1 rfl (lv_room (Nat.le_of_ble_eq_true rfl)) dX5_wallOf_54 ⟨Nat.zero_le _, Nat.zero_le _⟩) ?_
          refine W.eq (g2 := F0 m 57 ls [.int u54]) rfl ?_
          exact z_iret (pc := 57) (fun q => q) hx hb hr hlocks hF rfl hQ dX5_wallOf_57
        · refine lv_aload_n (pc := 44) hx hb dX5_wallOf_44 rfl (lv_at hl 0 rfl) ?_
          refine lv_iload_n (pc := 45) hx hb dX5_wallOf_45 rfl (lv_at hl 1 rfl) ?_
          obtain ⟨u46, hu46, hF⟩ := z_bind hF
          refine zq_call (oc0 := (some (.int u46))) (va_runV (As := [.int x1]) (rest := []) ⟨hx, hb, hml, hown, hts⟩ (tX5_looks (l := l) (D := D) (cB := cB) (cI := cI) (cJ := cJ) (cO := cO) h0 h_row g_fresh g_kept g_tried g_isKept g_viewed g_tape g_tapeMany g_sort g_begins g_tokenEnds g_word g_value g_good g_growing g_rows g_must g_rowMany g_sorts g_sizes g_sheets g_holds g_heldNumber g_heldSize g_kind g_number g_ownHand g_traced g_bodies g_isParted v_row x1 u46 hu46) (cwV 1 hts gX5_wallOf_X5_looks rfl rfl rfl (by decide +kernel) ⟨Nat.le_of_ble_eq_true rfl, Nat.le_of_ble_eq_true rfl⟩) ⟨zPre_blind, va_recv hK hP (ci := 5) (q0 := 0) rfl rfl, zPre_at hP hE hD [0, 1] rfl rfl⟩ rfl rfl hl.1 rfl (lv_room (Nat.le_of_ble_eq_true rfl)) dX5_wallOf_46 ⟨Nat.zero_le _, Nat.zero_le _⟩) ?_
          refine W.eq (g2 := F0 m 49 ls [.int u46]) rfl ?_
          refine lv_goto (pc := 49) (tgt := 57) hx hb dX5_wallOf_49 (by decide) ?_
          exact z_iret (pc := 57) (fun q => q) hx hb hr hlocks hF rfl hQ dX5_wallOf_57
      · refine lv_aload_n (pc := 23) hx hb dX5_wallOf_23 rfl (lv_at hl 0 rfl) ?_
        refine va_get (D := D) (pc := 24) (ci := 5) (v := .ref h_row) (C := RX5) (T := TX5) (N := 30) hx hb hts nX5_wallOf_X5 hown hK hP 0 rfl rfl 0 (by decide) (hts _ kX5_wallOf_0) (fun _ h9 => h9) rfl dX5_wallOf_24 ?_
        refine lv_bipush (pc := 27) (v := (nI 8)) hx hb dX5_wallOf_27 (by decide) ?_
        refine lv_iconst (pc := 29) (v := (nI 2)) hx hb dX5_wallOf_29 (by decide) ?_
        refine lv_iload_n (pc := 30) hx hb dX5_wallOf_30 rfl (lv_at hl 1 rfl) ?_
        refine lv_imul (pc := 31) hx hb dX5_wallOf_31 ?_
        refine lv_iadd (pc := 32) hx hb dX5_wallOf_32 ?_
        refine lv_iload_n (pc := 33) hx hb dX5_wallOf_33 rfl (lv_at hl 2 rfl) ?_
        refine lv_iadd (pc := 34) hx hb dX5_wallOf_34 ?_
        refine za_iald (pc := 35) hx hb hK hP 1 1 rfl rfl dX5_wallOf_35 hF (fun hF => ?_)
        refine lv_goto (pc := 36) (tgt := 57) hx hb dX5_wallOf_36 (by decide) ?_
        exact z_iret (pc := 57) (fun q => q) hx hb hr hlocks hF rfl hQ dX5_wallOf_57
    · refine lv_iconst (pc := 16) (v := (-1 : Int32)) hx hb dX5_wallOf_16 (by decide) ?_
      exact z_iret (pc := 17) (fun q => q) hx hb hr hlocks hF rfl hQ dX5_wallOf_17

abbrev rX5_cleaned : Room := { frames := 4, cells := 0, slots := 0, locals := 88 }
abbrev wX5_cleaned (cB cI cJ cO : ClassId) (h0 h_row : Nat) (g_fresh g_kept g_tried g_isKept g_viewed g_tape g_tapeMany g_sort g_begins g_tokenEnds g_word g_value g_good g_growing g_rows g_must g_rowMany g_sorts g_sizes g_sheets g_holds g_heldNumber g_heldSize g_kind g_number g_ownHand g_traced g_bodies g_isParted : Value) (v_row : Nat → Int32) : va_W := [(h0, .inr (5, [.ref h_row, g_fresh, g_kept, g_tried, g_isKept, g_viewed, g_tape, g_tapeMany, g_sort, g_begins, g_tokenEnds, g_word, g_value, g_good, g_growing, g_rows, g_must, g_rowMany, g_sorts, g_sizes, g_sheets, g_holds, g_heldNumber, g_heldSize, g_kind, g_number, g_ownHand, g_traced, g_bodies, g_isParted])), (h_row, .inl (cI, 68, .inl v_row))]
theorem nX5_cleaned_X5 : ∀ w ∈ wsX50, w ∈ wsX5_cleaned := by decide +kernel
theorem kX5_cleaned_0 : Cond.fieldLink RX5 7 "PaintedWallsModel" "row" "[I" ∈ wsX5_cleaned := by decide +kernel
set_option maxHeartbeats 4000000 in
set_option maxRecDepth 100000 in
theorem tX5_cleaned {l : Launch} {D : va_G} {cB cI cJ cO : ClassId} (h0 h_row : Nat) (g_fresh g_kept g_tried g_isKept g_viewed g_tape g_tapeMany g_sort g_begins g_tokenEnds g_word g_value g_good g_growing g_rows g_must g_rowMany g_sorts g_sizes g_sheets g_holds g_heldNumber g_heldSize g_kind g_number g_ownHand g_traced g_bodies g_isParted : Value) (v_row : Nat → Int32) (x1 : Int32) (r : Int32 × (Nat → Int32)) (hF : fX5_cleaned v_row x1 = some r) : Met l yX5_cleaned wsX5_cleaned rX5_cleaned (zPre D cB cI cJ cO [.ref h0, .int x1] (wX5_cleaned cB cI cJ cO h0 h_row g_fresh g_kept g_tried g_isKept g_viewed g_tape g_tapeMany g_sort g_begins g_tokenEnds g_word g_value g_good g_growing g_rows g_must g_rowMany g_sorts g_sizes g_sheets g_holds g_heldNumber g_heldSize g_kind g_number g_ownHand g_traced g_bodies g_isParted v_row)) (zPM (some (.int r.1)) D (wX5_cleaned cB cI cJ cO h0 h_row g_fresh g_kept g_tried g_isKept g_viewed g_tape g_tapeMany g_sort g_begins g_tokenEnds g_word g_value g_good g_growing g_rows g_must g_rowMany g_sorts g_sizes g_sheets g_holds g_heldNumber g_heldSize g_kind g_number g_ownHand g_traced g_bodies g_isParted r.2) (zAs [h0, h_row])) 0 0 (zAs [h0, h_row]) := by
  refine zMetM (cc := cX5_cleaned) (maxL := 6) (ret := (some .int)) (lv := [(0, .ref h0), (1, .int x1)]) rfl (by decide) rfl (Nat.le_of_ble_eq_true rfl) rfl ?_
  intro p e s m args below meth c ls Q H locs hQ hx hb hr hml hown hts hlocks hname hP hE hD hS hl
  have hown : s.vm.findClass RX5 = some m.cls := hown
  have hK := hE.1
  unfold fX5_cleaned at hF
  refine lv_aload_n (pc := 0) hx hb dX5_cleaned_0 rfl (lv_at hl 0 rfl) ?_
  refine lv_iload_n (pc := 1) hx hb dX5_cleaned_1 rfl (lv_at hl 1 rfl) ?_
  obtain ⟨u2, hu2, hF⟩ := z_bind hF
  refine zq_call (oc0 := (some (.int u2))) (va_runV (As := [.int x1]) (rest := []) ⟨hx, hb, hml, hown, hts⟩ (tX5_ground (l := l) (D := D) (cB := cB) (cI := cI) (cJ := cJ) (cO := cO) h0 h_row g_fresh g_kept g_tried g_isKept g_viewed g_tape g_tapeMany g_sort g_begins g_tokenEnds g_word g_value g_good g_growing g_rows g_must g_rowMany g_sorts g_sizes g_sheets g_holds g_heldNumber g_heldSize g_kind g_number g_ownHand g_traced g_bodies g_isParted v_row x1 u2 hu2) (cwV 1 hts gX5_cleaned_X5_ground rfl rfl rfl (by decide +kernel) ⟨Nat.le_of_ble_eq_true rfl, Nat.le_of_ble_eq_true rfl⟩) ⟨zPre_blind, va_recv hK hP (ci := 5) (q0 := 0) rfl rfl, zPre_at hP hE (zD_re hD rfl) [0, 1] rfl rfl⟩ rfl rfl hl.1 rfl (lv_room (Nat.le_of_ble_eq_true rfl)) dX5_cleaned_2 ⟨Nat.zero_le _, Nat.zero_le _⟩) ?_
  refine W.eq (g2 := F0 m 5 ls [.int u2]) rfl ?_
  refine lv_iconst (pc := 5) (v := (nI 2)) hx hb dX5_cleaned_5 (by decide) ?_
  obtain ⟨J_2, hJ_2, hF⟩ := z_J hF
  have kJ_2 : ∀ (t0_1 : Int32) , J_2 t0_1 = some r → ∀ (H : Heap) (locs : List Loc), va_P D vwCl (wX5_cleaned cB cI cJ cO h0 h_row g_fresh g_kept g_tried g_isKept g_viewed g_tape g_tapeMany g_sort g_begins g_tokenEnds g_word g_value g_good g_growing g_rows g_must g_rowMany g_sorts g_sizes g_sheets g_holds g_heldNumber g_heldSize g_kind g_number g_ownHand g_traced g_bodies g_isParted v_row) H → va_S (zAs [h0, h_row]) s.heap H locs → ∀ (ls : Array Slot), lv_has ls 6 [(0, .ref h0), (1, .int x1)] → W p l e rX5_cleaned s m args below meth c H locs 0 0 Q (F0 m 14 ls [.int t0_1]) := by
    intro t0_1 hF H locs hP hS ls hl
    rw [hJ_2] at hF
    refine lv_istore_n (pc := 14) (lv' := [(2, .int t0_1), (0, .ref h0), (1, .int x1)]) hx hb dX5_cleaned_14 rfl hl (by decide) rfl (fun ls hl => ?_)
    refine lv_iconst (pc := 15) (v := (nI 0)) hx hb dX5_cleaned_15 (by decide) ?_
    refine lv_istore_n (pc := 16) (lv' := [(3, .int (nI 0)), (2, .int t0_1), (0, .ref h0), (1, .int x1)]) hx hb dX5_cleaned_16 rfl hl (by decide) rfl (fun ls hl => ?_)
    refine lv_iconst (pc := 17) (v := (nI 0)) hx hb dX5_cleaned_17 (by decide) ?_
    refine lv_istore (pc := 18) (lv' := [(4, .int (nI 0)), (3, .int (nI 0)), (2, .int t0_1), (0, .ref h0), (1, .int x1)]) hx hb dX5_cleaned_18 hl (by decide) rfl (fun ls hl => ?_)
    obtain ⟨k_6, hk_6, hF⟩ := z_J hF
    have kk_6 : ∀ (y3_5 : Int32) , k_6 y3_5 = some r → ∀ (H : Heap) (locs : List Loc), va_P D vwCl (wX5_cleaned cB cI cJ cO h0 h_row g_fresh g_kept g_tried g_isKept g_viewed g_tape g_tapeMany g_sort g_begins g_tokenEnds g_word g_value g_good g_growing g_rows g_must g_rowMany g_sorts g_sizes g_sheets g_holds g_heldNumber g_heldSize g_kind g_number g_ownHand g_traced g_bodies g_isParted v_row) H → va_S (zAs [h0, h_row]) s.heap H locs → ∀ (ls : Array Slot), lv_has ls 6 [(0, .ref h0), (1, .int x1), (2, .int t0_1), (3, .int y3_5)] → W p l e rX5_cleaned s m args below meth c H locs 0 0 Q (F0 m 105 ls []) := by
      intro y3_5 hF H locs hP hS ls hl
      rw [hk_6] at hF
      refine lv_iconst (pc := 105) (v := (nI 0)) hx hb dX5_cleaned_105 (by decide) ?_
      refine lv_istore (pc := 106) (lv' := [(4, .int (nI 0)), (0, .ref h0), (1, .int x1), (2, .int t0_1), (3, .int y3_5)]) hx hb dX5_cleaned_106 hl (by decide) rfl (fun ls hl => ?_)
      obtain ⟨k_10, hk_10, hF⟩ := z_J hF
      have kk_10 : ∀ (v_row_9 : Nat → Int32) , k_10 v_row_9 = some r → ∀ (H : Heap) (locs : List Loc), va_P D vwCl (wX5_cleaned cB cI cJ cO h0 h_row g_fresh g_kept g_tried g_isKept g_viewed g_tape g_tapeMany g_sort g_begins g_tokenEnds g_word g_value g_good g_growing g_rows g_must g_rowMany g_sorts g_sizes g_sheets g_holds g_heldNumber g_heldSize g_kind g_number g_ownHand g_traced g_bodies g_isParted v_row_9) H → va_S (zAs [h0, h_row]) s.heap H locs → ∀ (ls : Array Slot), lv_has ls 6 [(0, .ref h0), (1, .int x1), (2, .int t0_1), (3, .int y3_5)] → W p l e rX5_cleaned s m args below meth c H locs 0 0 Q (F0 m 153 ls []) := by
        intro v_row_9 hF H locs hP hS ls hl
        rw [hk_10] at hF
        refine lv_aload_n (pc := 153) hx hb dX5_cleaned_153 rfl (lv_at hl 0 rfl) ?_
        refine va_get (D := D) (pc := 154) (ci := 5) (v := .ref h_row) (C := RX5) (T := TX5) (N := 30) hx hb hts nX5_cleaned_X5 hown hK hP 0 rfl rfl 0 (by decide) (hts _ kX5_cleaned_0) (fun _ h9 => h9) rfl dX5_cleaned_154 ?_
        refine lv_bipush (pc := 157) (v := (nI 8)) hx hb dX5_cleaned_157 (by decide) ?_
        refine lv_iconst (pc := 159) (v := (nI 2)) hx hb dX5_cleaned_159 (by decide) ?_
        refine lv_iload_n (pc := 160) hx hb dX5_cleaned_160 rfl (lv_at hl 1 rfl) ?_
        refine lv_imul (pc := 161) hx hb dX5_cleaned_161 ?_
        refine lv_iadd (pc := 162) hx hb dX5_cleaned_162 ?_
        refine lv_iload_n (pc := 163) hx hb dX5_cleaned_163 rfl (lv_at hl 2 rfl) ?_
        refine zb_if_eq (pc := 164) (tgt := 171) hx hb dX5_cleaned_164 (by decide) hF (fun c_164 hF => ?_) (fun c_164 hF => ?_)
        · refine lv_iconst (pc := 171) (v := (nI 1)) hx hb dX5_cleaned_171 (by decide) ?_
          refine za_iast (pc := 172) hx hb hK hP (zD_re hD rfl) hS 1 1 rfl rfl dX5_cleaned_172 hF (fun hF H locs hP hS => ?_)
          have hP : va_P D vwCl (wX5_cleaned cB cI cJ cO h0 h_row g_fresh g_kept g_tried g_isKept g_viewed g_tape g_tapeMany g_sort g_begins g_tokenEnds g_word g_value g_good g_growing g_rows g_must g_rowMany g_sorts g_sizes g_sheets g_holds g_heldNumber g_heldSize g_kind g_number g_ownHand g_traced g_bodies g_isParted (upd v_row_9 ((nI 8) + ((nI 2) * x1)).toNatClampNeg (nI 1))) H := hP
          refine lv_iload_n (pc := 173) hx hb dX5_cleaned_173 rfl (lv_at hl 3 rfl) ?_
          obtain ⟨u174, hu174, hF⟩ := z_bind hF
          refine zq_call (oc0 := (some (.int u174))) (va_runS (As := [.int y3_5]) (rest := []) ⟨hx, hb, hml, hown, hts⟩ (tX5_ones (l := l) (D := D) (cB := cB) (cI := cI) (cJ := cJ) (cO := cO) y3_5 u174 hu174) (va_cwS 1 hts gX5_cleaned_X5_ones rfl rfl rfl (by decide +kernel) ⟨Nat.le_of_ble_eq_true rfl, Nat.le_of_ble_eq_true rfl⟩) ⟨zPre_blind, zPre_at hP hE (zD_re hD rfl) [] rfl rfl⟩ rfl rfl hl.1 rfl (lv_room (Nat.le_of_ble_eq_true rfl)) dX5_cleaned_174 ⟨Nat.zero_le _, Nat.zero_le _⟩) ?_
          refine W.eq (g2 := F0 m 177 ls [.int u174]) rfl ?_
          exact z_iretM (pc := 177) (fun q => q.1) (fun q => (wX5_cleaned cB cI cJ cO h0 h_row g_fresh g_kept g_tried g_isKept g_viewed g_tape g_tapeMany g_sort g_begins g_tokenEnds g_word g_value g_good g_growing g_rows g_must g_rowMany g_sorts g_sizes g_sheets g_holds g_heldNumber g_heldSize g_kind g_number g_ownHand g_traced g_bodies g_isParted q.2)) hx hb hr hlocks hP hS hF rfl hQ dX5_cleaned_177
        · refine lv_iconst (pc := 167) (v := (nI 2)) hx hb dX5_cleaned_167 (by decide) ?_
          refine lv_goto (pc := 168) (tgt := 172) hx hb dX5_cleaned_168 (by decide) ?_
          refine za_iast (pc := 172) hx hb hK hP (zD_re hD rfl) hS 1 1 rfl rfl dX5_cleaned_172 hF (fun hF H locs hP hS => ?_)
          have hP : va_P D vwCl (wX5_cleaned cB cI cJ cO h0 h_row g_fresh g_kept g_tried g_isKept g_viewed g_tape g_tapeMany g_sort g_begins g_tokenEnds g_word g_value g_good g_growing g_rows g_must g_rowMany g_sorts g_sizes g_sheets g_holds g_heldNumber g_heldSize g_kind g_number g_ownHand g_traced g_bodies g_isParted (upd v_row_9 ((nI 8) + ((nI 2) * x1)).toNatClampNeg (nI 2))) H := hP
          refine lv_iload_n (pc := 173) hx hb dX5_cleaned_173 rfl (lv_at hl 3 rfl) ?_
          obtain ⟨u174_11, hu174_11, hF⟩ := z_bind hF
          refine zq_call (oc0 := (some (.int u174_11))) (va_runS (As := [.int y3_5]) (rest := []) ⟨hx, hb, hml, hown, hts⟩ (tX5_ones (l := l) (D := D) (cB := cB) (cI := cI) (cJ := cJ) (cO := cO) y3_5 u174_11 hu174_11) (va_cwS 1 hts gX5_cleaned_X5_ones rfl rfl rfl (by decide +kernel) ⟨Nat.le_of_ble_eq_true rfl, Nat.le_of_ble_eq_true rfl⟩) ⟨zPre_blind, zPre_at hP hE (zD_re hD rfl) [] rfl rfl⟩ rfl rfl hl.1 rfl (lv_room (Nat.le_of_ble_eq_true rfl)) dX5_cleaned_174 ⟨Nat.zero_le _, Nat.zero_le _⟩) ?_
          refine W.eq (g2 := F0 m 177 ls [.int u174_11]) rfl ?_
          exact z_iretM (pc := 177) (fun q => q.1) (fun q => (wX5_cleaned cB cI cJ cO h0 h_row g_fresh g_kept g_tried g_isKept g_viewed g_tape g_tapeMany g_sort g_begins g_tokenEnds g_word g_value g_good g_growing g_rows g_must g_rowMany g_sorts g_sizes g_sheets g_holds g_heldNumber g_heldSize g_kind g_number g_ownHand g_traced g_bodies g_isParted q.2)) hx hb hr hlocks hP hS hF rfl hQ dX5_cleaned_177
      have hL_108 : ∀ (n : Nat) (y4_7 : Int32) (v_row_8 : Nat → Int32) , fX5_cleaned_L108 y3_5 k_10 n y4_7 v_row_8 = some r → ∀ (H : Heap) (locs : List Loc), va_P D vwCl (wX5_cleaned cB cI cJ cO h0 h_row g_fresh g_kept g_tried g_isKept g_viewed g_tape g_tapeMany g_sort g_begins g_tokenEnds g_word g_value g_good g_growing g_rows g_must g_rowMany g_sorts g_sizes g_sheets g_holds g_heldNumber g_heldSize g_kind g_number g_ownHand g_traced g_bodies g_isParted v_row_8) H → va_S (zAs [h0, h_row]) s.heap H locs → ∀ (ls : Array Slot), lv_has ls 6 [(0, .ref h0), (1, .int x1), (2, .int t0_1), (3, .int y3_5), (4, .int y4_7)] → W p l e rX5_cleaned s m args below meth c H locs 0 0 Q (F0 m 108 ls []) := by
        intro n
        induction n with
        | zero =>
          intro y4_7 v_row_8 hF H locs hP hS ls hl
          exact z_no hF
        | succ n ih =>
          intro y4_7 v_row_8 hF H locs hP hS ls hl
          rw [fX5_cleaned_L108] at hF
          refine lv_iload (pc := 108) hx hb dX5_cleaned_108 (lv_at hl 4 rfl) ?_
          refine lv_aload_n (pc := 110) hx hb dX5_cleaned_110 rfl (lv_at hl 0 rfl) ?_
          refine va_get (D := D) (pc := 111) (ci := 5) (v := .ref h_row) (C := RX5) (T := TX5) (N := 30) hx hb hts nX5_cleaned_X5 hown hK hP 0 rfl rfl 0 (by decide) (hts _ kX5_cleaned_0) (fun _ h9 => h9) rfl dX5_cleaned_111 ?_
          refine lv_bipush (pc := 114) (v := (nI 6)) hx hb dX5_cleaned_114 (by decide) ?_
          refine za_ialdK (pc := 116) (k := 6) hx hb hK hP 1 1 rfl rfl (by decide) (by decide) dX5_cleaned_116 ?_
          refine zb_icmp_ge (pc := 117) (tgt := 153) hx hb dX5_cleaned_117 (by decide) hF (fun c_117 hF => ?_) (fun c_117 hF => ?_)
          · exact kk_10 v_row_8 hF H locs hP hS ls (lv_sub hl [0, 1, 2, 3] rfl)
          · refine lv_iload_n (pc := 120) hx hb dX5_cleaned_120 rfl (lv_at hl 3 rfl) ?_
            refine lv_iload (pc := 121) hx hb dX5_cleaned_121 (lv_at hl 4 rfl) ?_
            refine lv_ishr (pc := 123) hx hb dX5_cleaned_123 ?_
            refine lv_iconst (pc := 124) (v := (nI 1)) hx hb dX5_cleaned_124 (by decide) ?_
            refine lv_iand (pc := 125) hx hb dX5_cleaned_125 ?_
            refine lv_iconst (pc := 126) (v := (nI 1)) hx hb dX5_cleaned_126 (by decide) ?_
            refine zb_icmp_ne (pc := 127) (tgt := 147) hx hb dX5_cleaned_127 (by decide) hF (fun c_127 hF => ?_) (fun c_127 hF => ?_)
            · refine lv_iinc (pc := 147) (v := (y4_7 + 1)) (lv' := [(4, .int (y4_7 + 1)), (0, .ref h0), (1, .int x1), (2, .int t0_1), (3, .int y3_5)]) hx hb dX5_cleaned_147 hl (k := 4) rfl rfl (by decide) rfl (fun ls hl => ?_)
              refine lv_goto (pc := 150) (tgt := 108) hx hb dX5_cleaned_150 (by decide) ?_
              exact ih (y4_7 + 1) v_row_8 hF H locs hP hS ls (lv_sub hl [1, 2, 3, 4, 0] rfl)
            · refine lv_aload_n (pc := 130) hx hb dX5_cleaned_130 rfl (lv_at hl 0 rfl) ?_
              refine lv_iload (pc := 131) hx hb dX5_cleaned_131 (lv_at hl 4 rfl) ?_
              refine lv_iconst (pc := 133) (v := (nI 3)) hx hb dX5_cleaned_133 (by decide) ?_
              refine lv_bipush (pc := 134) (v := (nI 10)) hx hb dX5_cleaned_134 (by decide) ?_
              obtain ⟨u136, hu136, hF⟩ := z_bind hF
              refine zq_callM (oc0 := none) (wc := wX5_sets cB cI cJ cO h0 h_row g_fresh g_kept g_tried g_isKept g_viewed g_tape g_tapeMany g_sort g_begins g_tokenEnds g_word g_value g_good g_growing g_rows g_must g_rowMany g_sorts g_sizes g_sheets g_holds g_heldNumber g_heldSize g_kind g_number g_ownHand g_traced g_bodies g_isParted v_row_8) (wc' := wX5_sets cB cI cJ cO h0 h_row g_fresh g_kept g_tried g_isKept g_viewed g_tape g_tapeMany g_sort g_begins g_tokenEnds g_word g_value g_good g_growing g_rows g_must g_rowMany g_sorts g_sizes g_sheets g_holds g_heldNumber g_heldSize g_kind g_number g_ownHand g_traced g_bodies g_isParted u136) (ws' := (wX5_cleaned cB cI cJ cO h0 h_row g_fresh g_kept g_tried g_isKept g_viewed g_tape g_tapeMany g_sort g_begins g_tokenEnds g_word g_value g_good g_growing g_rows g_must g_rowMany g_sorts g_sizes g_sheets g_holds g_heldNumber g_heldSize g_kind g_number g_ownHand g_traced g_bodies g_isParted u136)) (va_runV (As := [.int y4_7, .int (nI 3), .int (nI 10)]) (rest := []) ⟨hx, hb, hml, hown, hts⟩ (tX5_sets (l := l) (D := D) (cB := cB) (cI := cI) (cJ := cJ) (cO := cO) h0 h_row g_fresh g_kept g_tried g_isKept g_viewed g_tape g_tapeMany g_sort g_begins g_tokenEnds g_word g_value g_good g_growing g_rows g_must g_rowMany g_sorts g_sizes g_sheets g_holds g_heldNumber g_heldSize g_kind g_number g_ownHand g_traced g_bodies g_isParted v_row_8 y4_7 (nI 3) (nI 10) u136 hu136) (cwV 3 hts gX5_cleaned_X5_sets rfl rfl rfl (by decide +kernel) ⟨Nat.le_of_ble_eq_true rfl, Nat.le_of_ble_eq_true rfl⟩) ⟨zPre_blind, va_recv hK hP (ci := 5) (q0 := 0) rfl rfl, zPre_at hP hE (zD_re hD rfl) [0, 1] rfl rfl⟩ rfl rfl hl.1 rfl (lv_room (Nat.le_of_ble_eq_true rfl)) dX5_cleaned_136 ⟨Nat.zero_le _, Nat.zero_le _⟩) rfl hP (zD_re hD rfl) hS [0, 1] rfl rfl [some 0, some 1] rfl rfl rfl rfl (fun H locs hP hS => ?_)
              refine W.eq (g2 := F0 m 139 ls []) rfl ?_
              refine lv_aload_n (pc := 139) hx hb dX5_cleaned_139 rfl (lv_at hl 0 rfl) ?_
              refine lv_iload (pc := 140) hx hb dX5_cleaned_140 (lv_at hl 4 rfl) ?_
              refine lv_iconst (pc := 142) (v := (nI 4)) hx hb dX5_cleaned_142 (by decide) ?_
              refine lv_iconst (pc := 143) (v := (nI 0)) hx hb dX5_cleaned_143 (by decide) ?_
              obtain ⟨u144, hu144, hF⟩ := z_bind hF
              refine zq_callM (oc0 := none) (wc := wX5_sets cB cI cJ cO h0 h_row g_fresh g_kept g_tried g_isKept g_viewed g_tape g_tapeMany g_sort g_begins g_tokenEnds g_word g_value g_good g_growing g_rows g_must g_rowMany g_sorts g_sizes g_sheets g_holds g_heldNumber g_heldSize g_kind g_number g_ownHand g_traced g_bodies g_isParted u136) (wc' := wX5_sets cB cI cJ cO h0 h_row g_fresh g_kept g_tried g_isKept g_viewed g_tape g_tapeMany g_sort g_begins g_tokenEnds g_word g_value g_good g_growing g_rows g_must g_rowMany g_sorts g_sizes g_sheets g_holds g_heldNumber g_heldSize g_kind g_number g_ownHand g_traced g_bodies g_isParted u144) (ws' := (wX5_cleaned cB cI cJ cO h0 h_row g_fresh g_kept g_tried g_isKept g_viewed g_tape g_tapeMany g_sort g_begins g_tokenEnds g_word g_value g_good g_growing g_rows g_must g_rowMany g_sorts g_sizes g_sheets g_holds g_heldNumber g_heldSize g_kind g_number g_ownHand g_traced g_bodies g_isParted u144)) (va_runV (As := [.int y4_7, .int (nI 4), .int (nI 0)]) (rest := []) ⟨hx, hb, hml, hown, hts⟩ (tX5_sets (l := l) (D := D) (cB := cB) (cI := cI) (cJ := cJ) (cO := cO) h0 h_row g_fresh g_kept g_tried g_isKept g_viewed g_tape g_tapeMany g_sort g_begins g_tokenEnds g_word g_value g_good g_growing g_rows g_must g_rowMany g_sorts g_sizes g_sheets g_holds g_heldNumber g_heldSize g_kind g_number g_ownHand g_traced g_bodies g_isParted u136 y4_7 (nI 4) (nI 0) u144 hu144) (cwV 3 hts gX5_cleaned_X5_sets rfl rfl rfl (by decide +kernel) ⟨Nat.le_of_ble_eq_true rfl, Nat.le_of_ble_eq_true rfl⟩) ⟨zPre_blind, va_recv hK hP (ci := 5) (q0 := 0) rfl rfl, zPre_at hP hE (zD_re hD rfl) [0, 1] rfl rfl⟩ rfl rfl hl.1 rfl (lv_room (Nat.le_of_ble_eq_true rfl)) dX5_cleaned_144 ⟨Nat.zero_le _, Nat.zero_le _⟩) rfl hP (zD_re hD rfl) hS [0, 1] rfl rfl [some 0, some 1] rfl rfl rfl rfl (fun H locs hP hS => ?_)
              refine W.eq (g2 := F0 m 147 ls []) rfl ?_
              refine lv_iinc (pc := 147) (v := (y4_7 + 1)) (lv' := [(4, .int (y4_7 + 1)), (0, .ref h0), (1, .int x1), (2, .int t0_1), (3, .int y3_5)]) hx hb dX5_cleaned_147 hl (k := 4) rfl rfl (by decide) rfl (fun ls hl => ?_)
              refine lv_goto (pc := 150) (tgt := 108) hx hb dX5_cleaned_150 (by decide) ?_
              exact ih (y4_7 + 1) u144 hF H locs hP hS ls (lv_sub hl [1, 2, 3, 4, 0] rfl)
      exact hL_108 zK (nI 0) v_row hF H locs hP hS ls (lv_sub hl [1, 2, 3, 4, 0] rfl)
    have hL_20 : ∀ (n : Nat) (y3_3 : Int32) (y4_4 : Int32) , fX5_cleaned_L20 v_row x1 t0_1 k_6 n y3_3 y4_4 = some r → ∀ (H : Heap) (locs : List Loc), va_P D vwCl (wX5_cleaned cB cI cJ cO h0 h_row g_fresh g_kept g_tried g_isKept g_viewed g_tape g_tapeMany g_sort g_begins g_tokenEnds g_word g_value g_good g_growing g_rows g_must g_rowMany g_sorts g_sizes g_sheets g_holds g_heldNumber g_heldSize g_kind g_number g_ownHand g_traced g_bodies g_isParted v_row) H → va_S (zAs [h0, h_row]) s.heap H locs → ∀ (ls : Array Slot), lv_has ls 6 [(0, .ref h0), (1, .int x1), (2, .int t0_1), (3, .int y3_3), (4, .int y4_4)] → W p l e rX5_cleaned s m args below meth c H locs 0 0 Q (F0 m 20 ls []) := by
      intro n
      induction n with
      | zero =>
        intro y3_3 y4_4 hF H locs hP hS ls hl
        exact z_no hF
      | succ n ih =>
        intro y3_3 y4_4 hF H locs hP hS ls hl
        rw [fX5_cleaned_L20] at hF
        refine lv_iload (pc := 20) hx hb dX5_cleaned_20 (lv_at hl 4 rfl) ?_
        refine lv_aload_n (pc := 22) hx hb dX5_cleaned_22 rfl (lv_at hl 0 rfl) ?_
        refine va_get (D := D) (pc := 23) (ci := 5) (v := .ref h_row) (C := RX5) (T := TX5) (N := 30) hx hb hts nX5_cleaned_X5 hown hK hP 0 rfl rfl 0 (by decide) (hts _ kX5_cleaned_0) (fun _ h9 => h9) rfl dX5_cleaned_23 ?_
        refine lv_bipush (pc := 26) (v := (nI 6)) hx hb dX5_cleaned_26 (by decide) ?_
        refine za_ialdK (pc := 28) (k := 6) hx hb hK hP 1 1 rfl rfl (by decide) (by decide) dX5_cleaned_28 ?_
        refine zb_icmp_ge (pc := 29) (tgt := 105) hx hb dX5_cleaned_29 (by decide) hF (fun c_29 hF => ?_) (fun c_29 hF => ?_)
        · exact kk_6 y3_3 hF H locs hP hS ls (lv_sub hl [0, 1, 2, 3] rfl)
        · refine lv_aload_n (pc := 32) hx hb dX5_cleaned_32 rfl (lv_at hl 0 rfl) ?_
          refine lv_iload (pc := 33) hx hb dX5_cleaned_33 (lv_at hl 4 rfl) ?_
          refine lv_iconst (pc := 35) (v := (nI 3)) hx hb dX5_cleaned_35 (by decide) ?_
          obtain ⟨u36, hu36, hF⟩ := z_bind hF
          refine zq_call (oc0 := (some (.int u36))) (va_runV (As := [.int y4_4, .int (nI 3)]) (rest := []) ⟨hx, hb, hml, hown, hts⟩ (tX5_its (l := l) (D := D) (cB := cB) (cI := cI) (cJ := cJ) (cO := cO) h0 h_row g_fresh g_kept g_tried g_isKept g_viewed g_tape g_tapeMany g_sort g_begins g_tokenEnds g_word g_value g_good g_growing g_rows g_must g_rowMany g_sorts g_sizes g_sheets g_holds g_heldNumber g_heldSize g_kind g_number g_ownHand g_traced g_bodies g_isParted v_row y4_4 (nI 3) u36 hu36) (cwV 2 hts gX5_cleaned_X5_its rfl rfl rfl (by decide +kernel) ⟨Nat.le_of_ble_eq_true rfl, Nat.le_of_ble_eq_true rfl⟩) ⟨zPre_blind, va_recv hK hP (ci := 5) (q0 := 0) rfl rfl, zPre_at hP hE (zD_re hD rfl) [0, 1] rfl rfl⟩ rfl rfl hl.1 rfl (lv_room (Nat.le_of_ble_eq_true rfl)) dX5_cleaned_36 ⟨Nat.zero_le _, Nat.zero_le _⟩) ?_
          refine W.eq (g2 := F0 m 39 ls [.int u36]) rfl ?_
          refine lv_iload_n (pc := 39) hx hb dX5_cleaned_39 rfl (lv_at hl 1 rfl) ?_
          obtain ⟨J_13, hJ_13, hF⟩ := z_J hF
          have kJ_13 : ∀ (t0_12 : Int32) , J_13 t0_12 = some r → ∀ (H : Heap) (locs : List Loc), va_P D vwCl (wX5_cleaned cB cI cJ cO h0 h_row g_fresh g_kept g_tried g_isKept g_viewed g_tape g_tapeMany g_sort g_begins g_tokenEnds g_word g_value g_good g_growing g_rows g_must g_rowMany g_sorts g_sizes g_sheets g_holds g_heldNumber g_heldSize g_kind g_number g_ownHand g_traced g_bodies g_isParted v_row) H → va_S (zAs [h0, h_row]) s.heap H locs → ∀ (ls : Array Slot), lv_has ls 6 [(0, .ref h0), (1, .int x1), (2, .int t0_1), (3, .int y3_3), (4, .int y4_4)] → W p l e rX5_cleaned s m args below meth c H locs 0 0 Q (F0 m 81 ls [.int t0_12]) := by
            intro t0_12 hF H locs hP hS ls hl
            rw [hJ_13] at hF
            refine lv_istore (pc := 81) (lv' := [(5, .int t0_12), (0, .ref h0), (1, .int x1), (2, .int t0_1), (3, .int y3_3), (4, .int y4_4)]) hx hb dX5_cleaned_81 hl (by decide) rfl (fun ls hl => ?_)
            refine lv_iload_n (pc := 83) hx hb dX5_cleaned_83 rfl (lv_at hl 4 rfl) ?_
            refine lv_iload (pc := 84) hx hb dX5_cleaned_84 (lv_at hl 0 rfl) ?_
            refine zb_if_eq (pc := 86) (tgt := 96) hx hb dX5_cleaned_86 (by decide) hF (fun c_86 hF => ?_) (fun c_86 hF => ?_)
            · refine lv_iconst (pc := 96) (v := (nI 0)) hx hb dX5_cleaned_96 (by decide) ?_
              refine lv_ior (pc := 97) hx hb dX5_cleaned_97 ?_
              refine lv_istore_n (pc := 98) (lv' := [(3, .int (y3_3 ||| (nI 0))), (5, .int t0_12), (0, .ref h0), (1, .int x1), (2, .int t0_1), (4, .int y4_4)]) hx hb dX5_cleaned_98 rfl hl (by decide) rfl (fun ls hl => ?_)
              refine lv_iinc (pc := 99) (v := (y4_4 + 1)) (lv' := [(4, .int (y4_4 + 1)), (3, .int (y3_3 ||| (nI 0))), (5, .int t0_12), (0, .ref h0), (1, .int x1), (2, .int t0_1)]) hx hb dX5_cleaned_99 hl (k := 5) rfl rfl (by decide) rfl (fun ls hl => ?_)
              refine lv_goto (pc := 102) (tgt := 20) hx hb dX5_cleaned_102 (by decide) ?_
              exact ih (y3_3 ||| (nI 0)) (y4_4 + 1) hF H locs hP hS ls (lv_sub hl [3, 4, 5, 1, 0] rfl)
            · refine lv_iconst (pc := 89) (v := (nI 1)) hx hb dX5_cleaned_89 (by decide) ?_
              refine lv_iload (pc := 90) hx hb dX5_cleaned_90 (lv_at hl 5 rfl) ?_
              refine lv_ishl (pc := 92) hx hb dX5_cleaned_92 ?_
              refine lv_goto (pc := 93) (tgt := 97) hx hb dX5_cleaned_93 (by decide) ?_
              refine lv_ior (pc := 97) hx hb dX5_cleaned_97 ?_
              refine lv_istore_n (pc := 98) (lv' := [(3, .int (y3_3 ||| ((nI 1) <<< (y4_4 &&& 31)))), (5, .int t0_12), (0, .ref h0), (1, .int x1), (2, .int t0_1), (4, .int y4_4)]) hx hb dX5_cleaned_98 rfl hl (by decide) rfl (fun ls hl => ?_)
              refine lv_iinc (pc := 99) (v := (y4_4 + 1)) (lv' := [(4, .int (y4_4 + 1)), (3, .int (y3_3 ||| ((nI 1) <<< (y4_4 &&& 31)))), (5, .int t0_12), (0, .ref h0), (1, .int x1), (2, .int t0_1)]) hx hb dX5_cleaned_99 hl (k := 5) rfl rfl (by decide) rfl (fun ls hl => ?_)
              refine lv_goto (pc := 102) (tgt := 20) hx hb dX5_cleaned_102 (by decide) ?_
              exact ih (y3_3 ||| ((nI 1) <<< (y4_4 &&& 31))) (y4_4 + 1) hF H locs hP hS ls (lv_sub hl [3, 4, 5, 1, 0] rfl)
          refine zb_icmp_ne (pc := 40) (tgt := 80) hx hb dX5_cleaned_40 (by decide) hF (fun c_40 hF => ?_) (fun c_40 hF => ?_)
          · refine lv_iconst (pc := 80) (v := (nI 0)) hx hb dX5_cleaned_80 (by decide) ?_
            exact kJ_13 (nI 0) hF H locs hP hS ls (lv_sub hl [0, 1, 2, 3, 4] rfl)
          · refine lv_iload_n (pc := 43) hx hb dX5_cleaned_43 rfl (lv_at hl 2 rfl) ?_
            refine zb_if_eq (pc := 44) (tgt := 61) hx hb dX5_cleaned_44 (by decide) hF (fun c_44 hF => ?_) (fun c_44 hF => ?_)
            · refine lv_aload_n (pc := 61) hx hb dX5_cleaned_61 rfl (lv_at hl 0 rfl) ?_
              refine lv_iload (pc := 62) hx hb dX5_cleaned_62 (lv_at hl 4 rfl) ?_
              obtain ⟨u64, hu64, hF⟩ := z_bind hF
              refine zq_call (oc0 := (some (.int u64))) (va_runV (As := [.int y4_4]) (rest := []) ⟨hx, hb, hml, hown, hts⟩ (tX5_holds (l := l) (D := D) (cB := cB) (cI := cI) (cJ := cJ) (cO := cO) h0 h_row g_fresh g_kept g_tried g_isKept g_viewed g_tape g_tapeMany g_sort g_begins g_tokenEnds g_word g_value g_good g_growing g_rows g_must g_rowMany g_sorts g_sizes g_sheets g_holds g_heldNumber g_heldSize g_kind g_number g_ownHand g_traced g_bodies g_isParted v_row y4_4 u64 hu64) (cwV 1 hts gX5_cleaned_X5_holds rfl rfl rfl (by decide +kernel) ⟨Nat.le_of_ble_eq_true rfl, Nat.le_of_ble_eq_true rfl⟩) ⟨zPre_blind, va_recv hK hP (ci := 5) (q0 := 0) rfl rfl, zPre_at hP hE (zD_re hD rfl) [0, 1] rfl rfl⟩ rfl rfl hl.1 rfl (lv_room (Nat.le_of_ble_eq_true rfl)) dX5_cleaned_64 ⟨Nat.zero_le _, Nat.zero_le _⟩) ?_
              refine W.eq (g2 := F0 m 67 ls [.int u64]) rfl ?_
              refine lv_aload_n (pc := 67) hx hb dX5_cleaned_67 rfl (lv_at hl 0 rfl) ?_
              refine va_get (D := D) (pc := 68) (ci := 5) (v := .ref h_row) (C := RX5) (T := TX5) (N := 30) hx hb hts nX5_cleaned_X5 hown hK hP 0 rfl rfl 0 (by decide) (hts _ kX5_cleaned_0) (fun _ h9 => h9) rfl dX5_cleaned_68 ?_
              refine lv_iconst (pc := 71) (v := (nI 2)) hx hb dX5_cleaned_71 (by decide) ?_
              refine za_ialdK (pc := 72) (k := 2) hx hb hK hP 1 1 rfl rfl (by decide) (by decide) dX5_cleaned_72 ?_
              refine zb_icmp_gt (pc := 73) (tgt := 80) hx hb dX5_cleaned_73 (by decide) hF (fun c_73 hF => ?_) (fun c_73 hF => ?_)
              · refine lv_iconst (pc := 80) (v := (nI 0)) hx hb dX5_cleaned_80 (by decide) ?_
                exact kJ_13 (nI 0) hF H locs hP hS ls (lv_sub hl [0, 1, 2, 3, 4] rfl)
              · refine lv_iconst (pc := 76) (v := (nI 1)) hx hb dX5_cleaned_76 (by decide) ?_
                refine lv_goto (pc := 77) (tgt := 81) hx hb dX5_cleaned_77 (by decide) ?_
                exact kJ_13 (nI 1) hF H locs hP hS ls (lv_sub hl [0, 1, 2, 3, 4] rfl)
            · refine lv_aload_n (pc := 47) hx hb dX5_cleaned_47 rfl (lv_at hl 0 rfl) ?_
              refine lv_iload (pc := 48) hx hb dX5_cleaned_48 (lv_at hl 4 rfl) ?_
              refine lv_iconst (pc := 50) (v := (nI 0)) hx hb dX5_cleaned_50 (by decide) ?_
              obtain ⟨u51, hu51, hF⟩ := z_bind hF
              refine zq_call (oc0 := (some (.int u51))) (va_runV (As := [.int y4_4, .int (nI 0)]) (rest := []) ⟨hx, hb, hml, hown, hts⟩ (tX5_its (l := l) (D := D) (cB := cB) (cI := cI) (cJ := cJ) (cO := cO) h0 h_row g_fresh g_kept g_tried g_isKept g_viewed g_tape g_tapeMany g_sort g_begins g_tokenEnds g_word g_value g_good g_growing g_rows g_must g_rowMany g_sorts g_sizes g_sheets g_holds g_heldNumber g_heldSize g_kind g_number g_ownHand g_traced g_bodies g_isParted v_row y4_4 (nI 0) u51 hu51) (cwV 2 hts gX5_cleaned_X5_its rfl rfl rfl (by decide +kernel) ⟨Nat.le_of_ble_eq_true rfl, Nat.le_of_ble_eq_true rfl⟩) ⟨zPre_blind, va_recv hK hP (ci := 5) (q0 := 0) rfl rfl, zPre_at hP hE (zD_re hD rfl) [0, 1] rfl rfl⟩ rfl rfl hl.1 rfl (lv_room (Nat.le_of_ble_eq_true rfl)) dX5_cleaned_51 ⟨Nat.zero_le _, Nat.zero_le _⟩) ?_
              refine W.eq (g2 := F0 m 54 ls [.int u51]) rfl ?_
              refine lv_iconst (pc := 54) (v := (nI 5)) hx hb dX5_cleaned_54 (by decide) ?_
              refine zb_icmp_eq (pc := 55) (tgt := 80) hx hb dX5_cleaned_55 (by decide) hF (fun c_55 hF => ?_) (fun c_55 hF => ?_)
              · refine lv_iconst (pc := 80) (v := (nI 0)) hx hb dX5_cleaned_80 (by decide) ?_
                exact kJ_13 (nI 0) hF H locs hP hS ls (lv_sub hl [0, 1, 2, 3, 4] rfl)
              · refine lv_goto (pc := 58) (tgt := 76) hx hb dX5_cleaned_58 (by decide) ?_
                refine lv_iconst (pc := 76) (v := (nI 1)) hx hb dX5_cleaned_76 (by decide) ?_
                refine lv_goto (pc := 77) (tgt := 81) hx hb dX5_cleaned_77 (by decide) ?_
                exact kJ_13 (nI 1) hF H locs hP hS ls (lv_sub hl [0, 1, 2, 3, 4] rfl)
    exact hL_20 zK (nI 0) (nI 0) hF H locs hP hS ls (lv_sub hl [3, 4, 2, 1, 0] rfl)
  refine zb_icmp_ne (pc := 6) (tgt := 13) hx hb dX5_cleaned_6 (by decide) hF (fun c_6 hF => ?_) (fun c_6 hF => ?_)
  · refine lv_iconst (pc := 13) (v := (nI 0)) hx hb dX5_cleaned_13 (by decide) ?_
    exact kJ_2 (nI 0) hF H locs hP hS ls (lv_sub hl [0, 1] rfl)
  · refine lv_iconst (pc := 9) (v := (nI 1)) hx hb dX5_cleaned_9 (by decide) ?_
    refine lv_goto (pc := 10) (tgt := 14) hx hb dX5_cleaned_10 (by decide) ?_
    exact kJ_2 (nI 1) hF H locs hP hS ls (lv_sub hl [0, 1] rfl)

abbrev rX5_clean : Room := { frames := 5, cells := 0, slots := 0, locals := 113 }
abbrev wX5_clean (cB cI cJ cO : ClassId) (h0 h_row : Nat) (g_fresh g_kept g_tried g_isKept g_viewed g_tape g_tapeMany g_sort g_begins g_tokenEnds g_word g_value g_good g_growing g_rows g_must g_rowMany g_sorts g_sizes g_sheets g_holds g_heldNumber g_heldSize g_kind g_number g_ownHand g_traced g_bodies g_isParted : Value) (v_row : Nat → Int32) : va_W := [(h0, .inr (5, [.ref h_row, g_fresh, g_kept, g_tried, g_isKept, g_viewed, g_tape, g_tapeMany, g_sort, g_begins, g_tokenEnds, g_word, g_value, g_good, g_growing, g_rows, g_must, g_rowMany, g_sorts, g_sizes, g_sheets, g_holds, g_heldNumber, g_heldSize, g_kind, g_number, g_ownHand, g_traced, g_bodies, g_isParted])), (h_row, .inl (cI, 68, .inl v_row))]
set_option maxHeartbeats 4000000 in
set_option maxRecDepth 100000 in
theorem tX5_clean {l : Launch} {D : va_G} {cB cI cJ cO : ClassId} (h0 h_row : Nat) (g_fresh g_kept g_tried g_isKept g_viewed g_tape g_tapeMany g_sort g_begins g_tokenEnds g_word g_value g_good g_growing g_rows g_must g_rowMany g_sorts g_sizes g_sheets g_holds g_heldNumber g_heldSize g_kind g_number g_ownHand g_traced g_bodies g_isParted : Value) (v_row : Nat → Int32) (x1 : Int32) (r : Int32 × (Nat → Int32)) (hF : fX5_clean v_row x1 = some r) : Met l yX5_clean wsX5_clean rX5_clean (zPre D cB cI cJ cO [.ref h0, .int x1] (wX5_clean cB cI cJ cO h0 h_row g_fresh g_kept g_tried g_isKept g_viewed g_tape g_tapeMany g_sort g_begins g_tokenEnds g_word g_value g_good g_growing g_rows g_must g_rowMany g_sorts g_sizes g_sheets g_holds g_heldNumber g_heldSize g_kind g_number g_ownHand g_traced g_bodies g_isParted v_row)) (zPM (some (.int r.1)) D (wX5_clean cB cI cJ cO h0 h_row g_fresh g_kept g_tried g_isKept g_viewed g_tape g_tapeMany g_sort g_begins g_tokenEnds g_word g_value g_good g_growing g_rows g_must g_rowMany g_sorts g_sizes g_sheets g_holds g_heldNumber g_heldSize g_kind g_number g_ownHand g_traced g_bodies g_isParted r.2) (zAs [h0, h_row])) 0 0 (zAs [h0, h_row]) := by
  refine zMetM (cc := cX5_clean) (maxL := 2) (ret := (some .int)) (lv := [(0, .ref h0), (1, .int x1)]) rfl (by decide) rfl (Nat.le_of_ble_eq_true rfl) rfl ?_
  intro p e s m args below meth c ls Q H locs hQ hx hb hr hml hown hts hlocks hname hP hE hD hS hl
  have hown : s.vm.findClass RX5 = some m.cls := hown
  have hK := hE.1
  unfold fX5_clean at hF
  refine lv_iload_n (pc := 0) hx hb dX5_clean_0 rfl (lv_at hl 1 rfl) ?_
  obtain ⟨u1, hu1, hF⟩ := z_bind hF
  refine zq_call (oc0 := (some (.int u1))) (va_runS (As := [.int x1]) (rest := []) ⟨hx, hb, hml, hown, hts⟩ (tX5_isWall (l := l) (D := D) (cB := cB) (cI := cI) (cJ := cJ) (cO := cO) x1 u1 hu1) (va_cwS 1 hts gX5_clean_X5_isWall rfl rfl rfl (by decide +kernel) ⟨Nat.le_of_ble_eq_true rfl, Nat.le_of_ble_eq_true rfl⟩) ⟨zPre_blind, zPre_at hP hE (zD_re hD rfl) [] rfl rfl⟩ rfl rfl hl.1 rfl (lv_room (Nat.le_of_ble_eq_true rfl)) dX5_clean_1 ⟨Nat.zero_le _, Nat.zero_le _⟩) ?_
  refine W.eq (g2 := F0 m 4 ls [.int u1]) rfl ?_
  refine zb_if_eq (pc := 4) (tgt := 15) hx hb dX5_clean_4 (by decide) hF (fun c_4 hF => ?_) (fun c_4 hF => ?_)
  · refine lv_iconst (pc := 15) (v := (-1 : Int32)) hx hb dX5_clean_15 (by decide) ?_
    exact z_iretM (pc := 16) (fun q => q.1) (fun q => (wX5_clean cB cI cJ cO h0 h_row g_fresh g_kept g_tried g_isKept g_viewed g_tape g_tapeMany g_sort g_begins g_tokenEnds g_word g_value g_good g_growing g_rows g_must g_rowMany g_sorts g_sizes g_sheets g_holds g_heldNumber g_heldSize g_kind g_number g_ownHand g_traced g_bodies g_isParted q.2)) hx hb hr hlocks hP hS hF rfl hQ dX5_clean_16
  · refine lv_aload_n (pc := 7) hx hb dX5_clean_7 rfl (lv_at hl 0 rfl) ?_
    refine lv_iload_n (pc := 8) hx hb dX5_clean_8 rfl (lv_at hl 1 rfl) ?_
    obtain ⟨u9, hu9, hF⟩ := z_bind hF
    refine zq_callM (oc0 := (some (.int u9.1))) (wc := wX5_cleaned cB cI cJ cO h0 h_row g_fresh g_kept g_tried g_isKept g_viewed g_tape g_tapeMany g_sort g_begins g_tokenEnds g_word g_value g_good g_growing g_rows g_must g_rowMany g_sorts g_sizes g_sheets g_holds g_heldNumber g_heldSize g_kind g_number g_ownHand g_traced g_bodies g_isParted v_row) (wc' := wX5_cleaned cB cI cJ cO h0 h_row g_fresh g_kept g_tried g_isKept g_viewed g_tape g_tapeMany g_sort g_begins g_tokenEnds g_word g_value g_good g_growing g_rows g_must g_rowMany g_sorts g_sizes g_sheets g_holds g_heldNumber g_heldSize g_kind g_number g_ownHand g_traced g_bodies g_isParted u9.2) (ws' := (wX5_clean cB cI cJ cO h0 h_row g_fresh g_kept g_tried g_isKept g_viewed g_tape g_tapeMany g_sort g_begins g_tokenEnds g_word g_value g_good g_growing g_rows g_must g_rowMany g_sorts g_sizes g_sheets g_holds g_heldNumber g_heldSize g_kind g_number g_ownHand g_traced g_bodies g_isParted u9.2)) (va_runV (As := [.int x1]) (rest := []) ⟨hx, hb, hml, hown, hts⟩ (tX5_cleaned (l := l) (D := D) (cB := cB) (cI := cI) (cJ := cJ) (cO := cO) h0 h_row g_fresh g_kept g_tried g_isKept g_viewed g_tape g_tapeMany g_sort g_begins g_tokenEnds g_word g_value g_good g_growing g_rows g_must g_rowMany g_sorts g_sizes g_sheets g_holds g_heldNumber g_heldSize g_kind g_number g_ownHand g_traced g_bodies g_isParted v_row x1 u9 hu9) (cwV 1 hts gX5_clean_X5_cleaned rfl rfl rfl (by decide +kernel) ⟨Nat.le_of_ble_eq_true rfl, Nat.le_of_ble_eq_true rfl⟩) ⟨zPre_blind, va_recv hK hP (ci := 5) (q0 := 0) rfl rfl, zPre_at hP hE (zD_re hD rfl) [0, 1] rfl rfl⟩ rfl rfl hl.1 rfl (lv_room (Nat.le_of_ble_eq_true rfl)) dX5_clean_9 ⟨Nat.zero_le _, Nat.zero_le _⟩) rfl hP (zD_re hD rfl) hS [0, 1] rfl rfl [some 0, some 1] rfl rfl rfl rfl (fun H locs hP hS => ?_)
    refine W.eq (g2 := F0 m 12 ls [.int u9.1]) rfl ?_
    refine lv_goto (pc := 12) (tgt := 16) hx hb dX5_clean_12 (by decide) ?_
    exact z_iretM (pc := 16) (fun q => q.1) (fun q => (wX5_clean cB cI cJ cO h0 h_row g_fresh g_kept g_tried g_isKept g_viewed g_tape g_tapeMany g_sort g_begins g_tokenEnds g_word g_value g_good g_growing g_rows g_must g_rowMany g_sorts g_sizes g_sheets g_holds g_heldNumber g_heldSize g_kind g_number g_ownHand g_traced g_bodies g_isParted q.2)) hx hb hr hlocks hP hS hF rfl hQ dX5_clean_16

abbrev rX5_comesBack : Room := { frames := 2, cells := 0, slots := 0, locals := 43 }
abbrev wX5_comesBack (cB cI cJ cO : ClassId) (h0 h_row : Nat) (g_fresh g_kept g_tried g_isKept g_viewed g_tape g_tapeMany g_sort g_begins g_tokenEnds g_word g_value g_good g_growing g_rows g_must g_rowMany g_sorts g_sizes g_sheets g_holds g_heldNumber g_heldSize g_kind g_number g_ownHand g_traced g_bodies g_isParted : Value) (v_row : Nat → Int32) : va_W := [(h0, .inr (5, [.ref h_row, g_fresh, g_kept, g_tried, g_isKept, g_viewed, g_tape, g_tapeMany, g_sort, g_begins, g_tokenEnds, g_word, g_value, g_good, g_growing, g_rows, g_must, g_rowMany, g_sorts, g_sizes, g_sheets, g_holds, g_heldNumber, g_heldSize, g_kind, g_number, g_ownHand, g_traced, g_bodies, g_isParted])), (h_row, .inl (cI, 68, .inl v_row))]
theorem nX5_comesBack_X5 : ∀ w ∈ wsX50, w ∈ wsX5_comesBack := by decide +kernel
theorem kX5_comesBack_0 : Cond.fieldLink RX5 7 "PaintedWallsModel" "row" "[I" ∈ wsX5_comesBack := by decide +kernel
set_option maxHeartbeats 4000000 in
set_option maxRecDepth 100000 in
theorem tX5_comesBack {l : Launch} {D : va_G} {cB cI cJ cO : ClassId} (h0 h_row : Nat) (g_fresh g_kept g_tried g_isKept g_viewed g_tape g_tapeMany g_sort g_begins g_tokenEnds g_word g_value g_good g_growing g_rows g_must g_rowMany g_sorts g_sizes g_sheets g_holds g_heldNumber g_heldSize g_kind g_number g_ownHand g_traced g_bodies g_isParted : Value) (v_row : Nat → Int32) (x1 : Int32) (r : (Nat → Int32)) (hF : fX5_comesBack v_row x1 = some r) : Met l yX5_comesBack wsX5_comesBack rX5_comesBack (zPre D cB cI cJ cO [.ref h0, .int x1] (wX5_comesBack cB cI cJ cO h0 h_row g_fresh g_kept g_tried g_isKept g_viewed g_tape g_tapeMany g_sort g_begins g_tokenEnds g_word g_value g_good g_growing g_rows g_must g_rowMany g_sorts g_sizes g_sheets g_holds g_heldNumber g_heldSize g_kind g_number g_ownHand g_traced g_bodies g_isParted v_row)) (zPM none D (wX5_comesBack cB cI cJ cO h0 h_row g_fresh g_kept g_tried g_isKept g_viewed g_tape g_tapeMany g_sort g_begins g_tokenEnds g_word g_value g_good g_growing g_rows g_must g_rowMany g_sorts g_sizes g_sheets g_holds g_heldNumber g_heldSize g_kind g_number g_ownHand g_traced g_bodies g_isParted r) (zAs [h0, h_row])) 0 0 (zAs [h0, h_row]) := by
  refine zMetM (cc := cX5_comesBack) (maxL := 2) (ret := none) (lv := [(0, .ref h0), (1, .int x1)]) rfl (by decide) rfl (Nat.le_of_ble_eq_true rfl) rfl ?_
  intro p e s m args below meth c ls Q H locs hQ hx hb hr hml hown hts hlocks hname hP hE hD hS hl
  have hown : s.vm.findClass RX5 = some m.cls := hown
  have hK := hE.1
  unfold fX5_comesBack at hF
  refine lv_aload_n (pc := 0) hx hb dX5_comesBack_0 rfl (lv_at hl 0 rfl) ?_
  refine lv_iload_n (pc := 1) hx hb dX5_comesBack_1 rfl (lv_at hl 1 rfl) ?_
  refine lv_iconst (pc := 2) (v := (nI 4)) hx hb dX5_comesBack_2 (by decide) ?_
  refine lv_aload_n (pc := 3) hx hb dX5_comesBack_3 rfl (lv_at hl 0 rfl) ?_
  refine lv_iload_n (pc := 4) hx hb dX5_comesBack_4 rfl (lv_at hl 1 rfl) ?_
  refine lv_iconst (pc := 5) (v := (nI 4)) hx hb dX5_comesBack_5 (by decide) ?_
  obtain ⟨u6, hu6, hF⟩ := z_bind hF
  refine zq_call (oc0 := (some (.int u6))) (va_runV (As := [.int x1, .int (nI 4)]) (rest := [.int (nI 4), .int x1, .ref h0]) ⟨hx, hb, hml, hown, hts⟩ (tX5_its (l := l) (D := D) (cB := cB) (cI := cI) (cJ := cJ) (cO := cO) h0 h_row g_fresh g_kept g_tried g_isKept g_viewed g_tape g_tapeMany g_sort g_begins g_tokenEnds g_word g_value g_good g_growing g_rows g_must g_rowMany g_sorts g_sizes g_sheets g_holds g_heldNumber g_heldSize g_kind g_number g_ownHand g_traced g_bodies g_isParted v_row x1 (nI 4) u6 hu6) (cwV 2 hts gX5_comesBack_X5_its rfl rfl rfl (by decide +kernel) ⟨Nat.le_of_ble_eq_true rfl, Nat.le_of_ble_eq_true rfl⟩) ⟨zPre_blind, va_recv hK hP (ci := 5) (q0 := 0) rfl rfl, zPre_at hP hE (zD_re hD rfl) [0, 1] rfl rfl⟩ rfl rfl hl.1 rfl (lv_room (Nat.le_of_ble_eq_true rfl)) dX5_comesBack_6 ⟨Nat.zero_le _, Nat.zero_le _⟩) ?_
  refine W.eq (g2 := F0 m 9 ls [.int u6, .int (nI 4), .int x1, .ref h0]) rfl ?_
  refine lv_iconst (pc := 9) (v := (nI 1)) hx hb dX5_comesBack_9 (by decide) ?_
  refine lv_iadd (pc := 10) hx hb dX5_comesBack_10 ?_
  refine lv_iconst (pc := 11) (v := (nI 0)) hx hb dX5_comesBack_11 (by decide) ?_
  refine lv_bipush (pc := 12) (v := (nI 99)) hx hb dX5_comesBack_12 (by decide) ?_
  obtain ⟨u14, hu14, hF⟩ := z_bind hF
  refine zq_call (oc0 := (some (.int u14))) (va_runS (As := [.int (u6 + (nI 1)), .int (nI 0), .int (nI 99)]) (rest := [.int (nI 4), .int x1, .ref h0]) ⟨hx, hb, hml, hown, hts⟩ (tX5_held (l := l) (D := D) (cB := cB) (cI := cI) (cJ := cJ) (cO := cO) (u6 + (nI 1)) (nI 0) (nI 99) u14 hu14) (va_cwS 3 hts gX5_comesBack_X5_held rfl rfl rfl (by decide +kernel) ⟨Nat.le_of_ble_eq_true rfl, Nat.le_of_ble_eq_true rfl⟩) ⟨zPre_blind, zPre_at hP hE (zD_re hD rfl) [] rfl rfl⟩ rfl rfl hl.1 rfl (lv_room (Nat.le_of_ble_eq_true rfl)) dX5_comesBack_14 ⟨Nat.zero_le _, Nat.zero_le _⟩) ?_
  refine W.eq (g2 := F0 m 17 ls [.int u14, .int (nI 4), .int x1, .ref h0]) rfl ?_
  obtain ⟨u17, hu17, hF⟩ := z_bind hF
  refine zq_callM (oc0 := none) (wc := wX5_sets cB cI cJ cO h0 h_row g_fresh g_kept g_tried g_isKept g_viewed g_tape g_tapeMany g_sort g_begins g_tokenEnds g_word g_value g_good g_growing g_rows g_must g_rowMany g_sorts g_sizes g_sheets g_holds g_heldNumber g_heldSize g_kind g_number g_ownHand g_traced g_bodies g_isParted v_row) (wc' := wX5_sets cB cI cJ cO h0 h_row g_fresh g_kept g_tried g_isKept g_viewed g_tape g_tapeMany g_sort g_begins g_tokenEnds g_word g_value g_good g_growing g_rows g_must g_rowMany g_sorts g_sizes g_sheets g_holds g_heldNumber g_heldSize g_kind g_number g_ownHand g_traced g_bodies g_isParted u17) (ws' := (wX5_comesBack cB cI cJ cO h0 h_row g_fresh g_kept g_tried g_isKept g_viewed g_tape g_tapeMany g_sort g_begins g_tokenEnds g_word g_value g_good g_growing g_rows g_must g_rowMany g_sorts g_sizes g_sheets g_holds g_heldNumber g_heldSize g_kind g_number g_ownHand g_traced g_bodies g_isParted u17)) (va_runV (As := [.int x1, .int (nI 4), .int u14]) (rest := []) ⟨hx, hb, hml, hown, hts⟩ (tX5_sets (l := l) (D := D) (cB := cB) (cI := cI) (cJ := cJ) (cO := cO) h0 h_row g_fresh g_kept g_tried g_isKept g_viewed g_tape g_tapeMany g_sort g_begins g_tokenEnds g_word g_value g_good g_growing g_rows g_must g_rowMany g_sorts g_sizes g_sheets g_holds g_heldNumber g_heldSize g_kind g_number g_ownHand g_traced g_bodies g_isParted v_row x1 (nI 4) u14 u17 hu17) (cwV 3 hts gX5_comesBack_X5_sets rfl rfl rfl (by decide +kernel) ⟨Nat.le_of_ble_eq_true rfl, Nat.le_of_ble_eq_true rfl⟩) ⟨zPre_blind, va_recv hK hP (ci := 5) (q0 := 0) rfl rfl, zPre_at hP hE (zD_re hD rfl) [0, 1] rfl rfl⟩ rfl rfl hl.1 rfl (lv_room (Nat.le_of_ble_eq_true rfl)) dX5_comesBack_17 ⟨Nat.zero_le _, Nat.zero_le _⟩) rfl hP (zD_re hD rfl) hS [0, 1] rfl rfl [some 0, some 1] rfl rfl rfl rfl (fun H locs hP hS => ?_)
  refine W.eq (g2 := F0 m 20 ls []) rfl ?_
  refine lv_aload_n (pc := 20) hx hb dX5_comesBack_20 rfl (lv_at hl 0 rfl) ?_
  refine lv_iload_n (pc := 21) hx hb dX5_comesBack_21 rfl (lv_at hl 1 rfl) ?_
  refine lv_iconst (pc := 22) (v := (nI 4)) hx hb dX5_comesBack_22 (by decide) ?_
  obtain ⟨u23, hu23, hF⟩ := z_bind hF
  refine zq_call (oc0 := (some (.int u23))) (va_runV (As := [.int x1, .int (nI 4)]) (rest := []) ⟨hx, hb, hml, hown, hts⟩ (tX5_its (l := l) (D := D) (cB := cB) (cI := cI) (cJ := cJ) (cO := cO) h0 h_row g_fresh g_kept g_tried g_isKept g_viewed g_tape g_tapeMany g_sort g_begins g_tokenEnds g_word g_value g_good g_growing g_rows g_must g_rowMany g_sorts g_sizes g_sheets g_holds g_heldNumber g_heldSize g_kind g_number g_ownHand g_traced g_bodies g_isParted u17 x1 (nI 4) u23 hu23) (cwV 2 hts gX5_comesBack_X5_its rfl rfl rfl (by decide +kernel) ⟨Nat.le_of_ble_eq_true rfl, Nat.le_of_ble_eq_true rfl⟩) ⟨zPre_blind, va_recv hK hP (ci := 5) (q0 := 0) rfl rfl, zPre_at hP hE (zD_re hD rfl) [0, 1] rfl rfl⟩ rfl rfl hl.1 rfl (lv_room (Nat.le_of_ble_eq_true rfl)) dX5_comesBack_23 ⟨Nat.zero_le _, Nat.zero_le _⟩) ?_
  refine W.eq (g2 := F0 m 26 ls [.int u23]) rfl ?_
  refine lv_aload_n (pc := 26) hx hb dX5_comesBack_26 rfl (lv_at hl 0 rfl) ?_
  refine lv_iload_n (pc := 27) hx hb dX5_comesBack_27 rfl (lv_at hl 1 rfl) ?_
  obtain ⟨u28, hu28, hF⟩ := z_bind hF
  refine zq_call (oc0 := (some (.int u28))) (va_runV (As := [.int x1]) (rest := [.int u23]) ⟨hx, hb, hml, hown, hts⟩ (tX5_back (l := l) (D := D) (cB := cB) (cI := cI) (cJ := cJ) (cO := cO) h0 h_row g_fresh g_kept g_tried g_isKept g_viewed g_tape g_tapeMany g_sort g_begins g_tokenEnds g_word g_value g_good g_growing g_rows g_must g_rowMany g_sorts g_sizes g_sheets g_holds g_heldNumber g_heldSize g_kind g_number g_ownHand g_traced g_bodies g_isParted u17 x1 u28 hu28) (cwV 1 hts gX5_comesBack_X5_back rfl rfl rfl (by decide +kernel) ⟨Nat.le_of_ble_eq_true rfl, Nat.le_of_ble_eq_true rfl⟩) ⟨zPre_blind, va_recv hK hP (ci := 5) (q0 := 0) rfl rfl, zPre_at hP hE (zD_re hD rfl) [0, 1] rfl rfl⟩ rfl rfl hl.1 rfl (lv_room (Nat.le_of_ble_eq_true rfl)) dX5_comesBack_28 ⟨Nat.zero_le _, Nat.zero_le _⟩) ?_
  refine W.eq (g2 := F0 m 31 ls [.int u28, .int u23]) rfl ?_
  refine zb_icmp_lt (pc := 31) (tgt := 70) hx hb dX5_comesBack_31 (by decide) hF (fun c_31 hF => ?_) (fun c_31 hF => ?_)
  · exact z_vretM (pc := 70) (fun q => (wX5_comesBack cB cI cJ cO h0 h_row g_fresh g_kept g_tried g_isKept g_viewed g_tape g_tapeMany g_sort g_begins g_tokenEnds g_word g_value g_good g_growing g_rows g_must g_rowMany g_sorts g_sizes g_sheets g_holds g_heldNumber g_heldSize g_kind g_number g_ownHand g_traced g_bodies g_isParted q)) hx hb hr hlocks hP hS hF hQ dX5_comesBack_70
  · refine lv_aload_n (pc := 34) hx hb dX5_comesBack_34 rfl (lv_at hl 0 rfl) ?_
    refine lv_iload_n (pc := 35) hx hb dX5_comesBack_35 rfl (lv_at hl 1 rfl) ?_
    refine lv_iconst (pc := 36) (v := (nI 3)) hx hb dX5_comesBack_36 (by decide) ?_
    refine lv_aload_n (pc := 37) hx hb dX5_comesBack_37 rfl (lv_at hl 0 rfl) ?_
    refine lv_iload_n (pc := 38) hx hb dX5_comesBack_38 rfl (lv_at hl 1 rfl) ?_
    refine lv_iconst (pc := 39) (v := (nI 1)) hx hb dX5_comesBack_39 (by decide) ?_
    obtain ⟨u40, hu40, hF⟩ := z_bind hF
    refine zq_call (oc0 := (some (.int u40))) (va_runV (As := [.int x1, .int (nI 1)]) (rest := [.int (nI 3), .int x1, .ref h0]) ⟨hx, hb, hml, hown, hts⟩ (tX5_its (l := l) (D := D) (cB := cB) (cI := cI) (cJ := cJ) (cO := cO) h0 h_row g_fresh g_kept g_tried g_isKept g_viewed g_tape g_tapeMany g_sort g_begins g_tokenEnds g_word g_value g_good g_growing g_rows g_must g_rowMany g_sorts g_sizes g_sheets g_holds g_heldNumber g_heldSize g_kind g_number g_ownHand g_traced g_bodies g_isParted u17 x1 (nI 1) u40 hu40) (cwV 2 hts gX5_comesBack_X5_its rfl rfl rfl (by decide +kernel) ⟨Nat.le_of_ble_eq_true rfl, Nat.le_of_ble_eq_true rfl⟩) ⟨zPre_blind, va_recv hK hP (ci := 5) (q0 := 0) rfl rfl, zPre_at hP hE (zD_re hD rfl) [0, 1] rfl rfl⟩ rfl rfl hl.1 rfl (lv_room (Nat.le_of_ble_eq_true rfl)) dX5_comesBack_40 ⟨Nat.zero_le _, Nat.zero_le _⟩) ?_
    refine W.eq (g2 := F0 m 43 ls [.int u40, .int (nI 3), .int x1, .ref h0]) rfl ?_
    refine lv_aload_n (pc := 43) hx hb dX5_comesBack_43 rfl (lv_at hl 0 rfl) ?_
    refine va_get (D := D) (pc := 44) (ci := 5) (v := .ref h_row) (C := RX5) (T := TX5) (N := 30) hx hb hts nX5_comesBack_X5 hown hK hP 0 rfl rfl 0 (by decide) (hts _ kX5_comesBack_0) (fun _ h9 => h9) rfl dX5_comesBack_44 ?_
    refine lv_iconst (pc := 47) (v := (nI 4)) hx hb dX5_comesBack_47 (by decide) ?_
    refine za_ialdK (pc := 48) (k := 4) hx hb hK hP 1 1 rfl rfl (by decide) (by decide) dX5_comesBack_48 ?_
    refine lv_iadd (pc := 49) hx hb dX5_comesBack_49 ?_
    refine lv_bipush (pc := 50) (v := (nI 10)) hx hb dX5_comesBack_50 (by decide) ?_
    refine lv_irem (pc := 52) hx hb dX5_comesBack_52 (by decide) ?_
    obtain ⟨u53, hu53, hF⟩ := z_bind hF
    refine zq_callM (oc0 := none) (wc := wX5_sets cB cI cJ cO h0 h_row g_fresh g_kept g_tried g_isKept g_viewed g_tape g_tapeMany g_sort g_begins g_tokenEnds g_word g_value g_good g_growing g_rows g_must g_rowMany g_sorts g_sizes g_sheets g_holds g_heldNumber g_heldSize g_kind g_number g_ownHand g_traced g_bodies g_isParted u17) (wc' := wX5_sets cB cI cJ cO h0 h_row g_fresh g_kept g_tried g_isKept g_viewed g_tape g_tapeMany g_sort g_begins g_tokenEnds g_word g_value g_good g_growing g_rows g_must g_rowMany g_sorts g_sizes g_sheets g_holds g_heldNumber g_heldSize g_kind g_number g_ownHand g_traced g_bodies g_isParted u53) (ws' := (wX5_comesBack cB cI cJ cO h0 h_row g_fresh g_kept g_tried g_isKept g_viewed g_tape g_tapeMany g_sort g_begins g_tokenEnds g_word g_value g_good g_growing g_rows g_must g_rowMany g_sorts g_sizes g_sheets g_holds g_heldNumber g_heldSize g_kind g_number g_ownHand g_traced g_bodies g_isParted u53)) (va_runV (As := [.int x1, .int (nI 3), .int ((u40 + (u17 4)) - (u40 + (u17 4)) / (nI 10) * (nI 10))]) (rest := []) ⟨hx, hb, hml, hown, hts⟩ (tX5_sets (l := l) (D := D) (cB := cB) (cI := cI) (cJ := cJ) (cO := cO) h0 h_row g_fresh g_kept g_tried g_isKept g_viewed g_tape g_tapeMany g_sort g_begins g_tokenEnds g_word g_value g_good g_growing g_rows g_must g_rowMany g_sorts g_sizes g_sheets g_holds g_heldNumber g_heldSize g_kind g_number g_ownHand g_traced g_bodies g_isParted u17 x1 (nI 3) ((u40 + (u17 4)) - (u40 + (u17 4)) / (nI 10) * (nI 10)) u53 hu53) (cwV 3 hts gX5_comesBack_X5_sets rfl rfl rfl (by decide +kernel) ⟨Nat.le_of_ble_eq_true rfl, Nat.le_of_ble_eq_true rfl⟩) ⟨zPre_blind, va_recv hK hP (ci := 5) (q0 := 0) rfl rfl, zPre_at hP hE (zD_re hD rfl) [0, 1] rfl rfl⟩ rfl rfl hl.1 rfl (lv_room (Nat.le_of_ble_eq_true rfl)) dX5_comesBack_53 ⟨Nat.zero_le _, Nat.zero_le _⟩) rfl hP (zD_re hD rfl) hS [0, 1] rfl rfl [some 0, some 1] rfl rfl rfl rfl (fun H locs hP hS => ?_)
    refine W.eq (g2 := F0 m 56 ls []) rfl ?_
    refine lv_aload_n (pc := 56) hx hb dX5_comesBack_56 rfl (lv_at hl 0 rfl) ?_
    refine lv_iload_n (pc := 57) hx hb dX5_comesBack_57 rfl (lv_at hl 1 rfl) ?_
    refine lv_iconst (pc := 58) (v := (nI 4)) hx hb dX5_comesBack_58 (by decide) ?_
    refine lv_iconst (pc := 59) (v := (nI 0)) hx hb dX5_comesBack_59 (by decide) ?_
    obtain ⟨u60, hu60, hF⟩ := z_bind hF
    refine zq_callM (oc0 := none) (wc := wX5_sets cB cI cJ cO h0 h_row g_fresh g_kept g_tried g_isKept g_viewed g_tape g_tapeMany g_sort g_begins g_tokenEnds g_word g_value g_good g_growing g_rows g_must g_rowMany g_sorts g_sizes g_sheets g_holds g_heldNumber g_heldSize g_kind g_number g_ownHand g_traced g_bodies g_isParted u53) (wc' := wX5_sets cB cI cJ cO h0 h_row g_fresh g_kept g_tried g_isKept g_viewed g_tape g_tapeMany g_sort g_begins g_tokenEnds g_word g_value g_good g_growing g_rows g_must g_rowMany g_sorts g_sizes g_sheets g_holds g_heldNumber g_heldSize g_kind g_number g_ownHand g_traced g_bodies g_isParted u60) (ws' := (wX5_comesBack cB cI cJ cO h0 h_row g_fresh g_kept g_tried g_isKept g_viewed g_tape g_tapeMany g_sort g_begins g_tokenEnds g_word g_value g_good g_growing g_rows g_must g_rowMany g_sorts g_sizes g_sheets g_holds g_heldNumber g_heldSize g_kind g_number g_ownHand g_traced g_bodies g_isParted u60)) (va_runV (As := [.int x1, .int (nI 4), .int (nI 0)]) (rest := []) ⟨hx, hb, hml, hown, hts⟩ (tX5_sets (l := l) (D := D) (cB := cB) (cI := cI) (cJ := cJ) (cO := cO) h0 h_row g_fresh g_kept g_tried g_isKept g_viewed g_tape g_tapeMany g_sort g_begins g_tokenEnds g_word g_value g_good g_growing g_rows g_must g_rowMany g_sorts g_sizes g_sheets g_holds g_heldNumber g_heldSize g_kind g_number g_ownHand g_traced g_bodies g_isParted u53 x1 (nI 4) (nI 0) u60 hu60) (cwV 3 hts gX5_comesBack_X5_sets rfl rfl rfl (by decide +kernel) ⟨Nat.le_of_ble_eq_true rfl, Nat.le_of_ble_eq_true rfl⟩) ⟨zPre_blind, va_recv hK hP (ci := 5) (q0 := 0) rfl rfl, zPre_at hP hE (zD_re hD rfl) [0, 1] rfl rfl⟩ rfl rfl hl.1 rfl (lv_room (Nat.le_of_ble_eq_true rfl)) dX5_comesBack_60 ⟨Nat.zero_le _, Nat.zero_le _⟩) rfl hP (zD_re hD rfl) hS [0, 1] rfl rfl [some 0, some 1] rfl rfl rfl rfl (fun H locs hP hS => ?_)
    refine W.eq (g2 := F0 m 63 ls []) rfl ?_
    refine lv_aload_n (pc := 63) hx hb dX5_comesBack_63 rfl (lv_at hl 0 rfl) ?_
    refine lv_iload_n (pc := 64) hx hb dX5_comesBack_64 rfl (lv_at hl 1 rfl) ?_
    refine lv_iconst (pc := 65) (v := (nI 2)) hx hb dX5_comesBack_65 (by decide) ?_
    refine lv_iconst (pc := 66) (v := (nI 5)) hx hb dX5_comesBack_66 (by decide) ?_
    obtain ⟨u67, hu67, hF⟩ := z_bind hF
    refine zq_callM (oc0 := none) (wc := wX5_sets cB cI cJ cO h0 h_row g_fresh g_kept g_tried g_isKept g_viewed g_tape g_tapeMany g_sort g_begins g_tokenEnds g_word g_value g_good g_growing g_rows g_must g_rowMany g_sorts g_sizes g_sheets g_holds g_heldNumber g_heldSize g_kind g_number g_ownHand g_traced g_bodies g_isParted u60) (wc' := wX5_sets cB cI cJ cO h0 h_row g_fresh g_kept g_tried g_isKept g_viewed g_tape g_tapeMany g_sort g_begins g_tokenEnds g_word g_value g_good g_growing g_rows g_must g_rowMany g_sorts g_sizes g_sheets g_holds g_heldNumber g_heldSize g_kind g_number g_ownHand g_traced g_bodies g_isParted u67) (ws' := (wX5_comesBack cB cI cJ cO h0 h_row g_fresh g_kept g_tried g_isKept g_viewed g_tape g_tapeMany g_sort g_begins g_tokenEnds g_word g_value g_good g_growing g_rows g_must g_rowMany g_sorts g_sizes g_sheets g_holds g_heldNumber g_heldSize g_kind g_number g_ownHand g_traced g_bodies g_isParted u67)) (va_runV (As := [.int x1, .int (nI 2), .int (nI 5)]) (rest := []) ⟨hx, hb, hml, hown, hts⟩ (tX5_sets (l := l) (D := D) (cB := cB) (cI := cI) (cJ := cJ) (cO := cO) h0 h_row g_fresh g_kept g_tried g_isKept g_viewed g_tape g_tapeMany g_sort g_begins g_tokenEnds g_word g_value g_good g_growing g_rows g_must g_rowMany g_sorts g_sizes g_sheets g_holds g_heldNumber g_heldSize g_kind g_number g_ownHand g_traced g_bodies g_isParted u60 x1 (nI 2) (nI 5) u67 hu67) (cwV 3 hts gX5_comesBack_X5_sets rfl rfl rfl (by decide +kernel) ⟨Nat.le_of_ble_eq_true rfl, Nat.le_of_ble_eq_true rfl⟩) ⟨zPre_blind, va_recv hK hP (ci := 5) (q0 := 0) rfl rfl, zPre_at hP hE (zD_re hD rfl) [0, 1] rfl rfl⟩ rfl rfl hl.1 rfl (lv_room (Nat.le_of_ble_eq_true rfl)) dX5_comesBack_67 ⟨Nat.zero_le _, Nat.zero_le _⟩) rfl hP (zD_re hD rfl) hS [0, 1] rfl rfl [some 0, some 1] rfl rfl rfl rfl (fun H locs hP hS => ?_)
    refine W.eq (g2 := F0 m 70 ls []) rfl ?_
    exact z_vretM (pc := 70) (fun q => (wX5_comesBack cB cI cJ cO h0 h_row g_fresh g_kept g_tried g_isKept g_viewed g_tape g_tapeMany g_sort g_begins g_tokenEnds g_word g_value g_good g_growing g_rows g_must g_rowMany g_sorts g_sizes g_sheets g_holds g_heldNumber g_heldSize g_kind g_number g_ownHand g_traced g_bodies g_isParted q)) hx hb hr hlocks hP hS hF hQ dX5_comesBack_70

abbrev rX5_bucket : Room := { frames := 5, cells := 0, slots := 0, locals := 113 }
abbrev wX5_bucket (cB cI cJ cO : ClassId) (h0 h_row : Nat) (g_fresh g_kept g_tried g_isKept g_viewed g_tape g_tapeMany g_sort g_begins g_tokenEnds g_word g_value g_good g_growing g_rows g_must g_rowMany g_sorts g_sizes g_sheets g_holds g_heldNumber g_heldSize g_kind g_number g_ownHand g_traced g_bodies g_isParted : Value) (v_row : Nat → Int32) : va_W := [(h0, .inr (5, [.ref h_row, g_fresh, g_kept, g_tried, g_isKept, g_viewed, g_tape, g_tapeMany, g_sort, g_begins, g_tokenEnds, g_word, g_value, g_good, g_growing, g_rows, g_must, g_rowMany, g_sorts, g_sizes, g_sheets, g_holds, g_heldNumber, g_heldSize, g_kind, g_number, g_ownHand, g_traced, g_bodies, g_isParted])), (h_row, .inl (cI, 68, .inl v_row))]
set_option maxHeartbeats 4000000 in
set_option maxRecDepth 100000 in
theorem tX5_bucket {l : Launch} {D : va_G} {cB cI cJ cO : ClassId} (h0 h_row : Nat) (g_fresh g_kept g_tried g_isKept g_viewed g_tape g_tapeMany g_sort g_begins g_tokenEnds g_word g_value g_good g_growing g_rows g_must g_rowMany g_sorts g_sizes g_sheets g_holds g_heldNumber g_heldSize g_kind g_number g_ownHand g_traced g_bodies g_isParted : Value) (v_row : Nat → Int32) (r : (Nat → Int32)) (hF : fX5_bucket v_row = some r) : Met l yX5_bucket wsX5_bucket rX5_bucket (zPre D cB cI cJ cO [.ref h0] (wX5_bucket cB cI cJ cO h0 h_row g_fresh g_kept g_tried g_isKept g_viewed g_tape g_tapeMany g_sort g_begins g_tokenEnds g_word g_value g_good g_growing g_rows g_must g_rowMany g_sorts g_sizes g_sheets g_holds g_heldNumber g_heldSize g_kind g_number g_ownHand g_traced g_bodies g_isParted v_row)) (zPM none D (wX5_bucket cB cI cJ cO h0 h_row g_fresh g_kept g_tried g_isKept g_viewed g_tape g_tapeMany g_sort g_begins g_tokenEnds g_word g_value g_good g_growing g_rows g_must g_rowMany g_sorts g_sizes g_sheets g_holds g_heldNumber g_heldSize g_kind g_number g_ownHand g_traced g_bodies g_isParted r) (zAs [h0, h_row])) 0 0 (zAs [h0, h_row]) := by
  refine zMetM (cc := cX5_bucket) (maxL := 3) (ret := none) (lv := [(0, .ref h0)]) rfl (by decide) rfl (Nat.le_of_ble_eq_true rfl) rfl ?_
  intro p e s m args below meth c ls Q H locs hQ hx hb hr hml hown hts hlocks hname hP hE hD hS hl
  have hown : s.vm.findClass RX5 = some m.cls := hown
  have hK := hE.1
  unfold fX5_bucket at hF
  refine lv_iconst (pc := 0) (v := (nI 0)) hx hb dX5_bucket_0 (by decide) ?_
  refine lv_istore_n (pc := 1) (lv' := [(1, .int (nI 0)), (0, .ref h0)]) hx hb dX5_bucket_1 rfl hl (by decide) rfl (fun ls hl => ?_)
  refine lv_iconst (pc := 2) (v := (nI 1)) hx hb dX5_bucket_2 (by decide) ?_
  refine lv_istore_n (pc := 3) (lv' := [(2, .int (nI 1)), (1, .int (nI 0)), (0, .ref h0)]) hx hb dX5_bucket_3 rfl hl (by decide) rfl (fun ls hl => ?_)
  obtain ⟨k_4, hk_4, hF⟩ := z_J hF
  have kk_4 : ∀ (y1_3 : Int32) , k_4 y1_3 = some r → ∀ (H : Heap) (locs : List Loc), va_P D vwCl (wX5_bucket cB cI cJ cO h0 h_row g_fresh g_kept g_tried g_isKept g_viewed g_tape g_tapeMany g_sort g_begins g_tokenEnds g_word g_value g_good g_growing g_rows g_must g_rowMany g_sorts g_sizes g_sheets g_holds g_heldNumber g_heldSize g_kind g_number g_ownHand g_traced g_bodies g_isParted v_row) H → va_S (zAs [h0, h_row]) s.heap H locs → ∀ (ls : Array Slot), lv_has ls 3 [(0, .ref h0), (1, .int y1_3)] → W p l e rX5_bucket s m args below meth c H locs 0 0 Q (F0 m 35 ls []) := by
    intro y1_3 hF H locs hP hS ls hl
    rw [hk_4] at hF
    refine lv_aload_n (pc := 35) hx hb dX5_bucket_35 rfl (lv_at hl 0 rfl) ?_
    refine lv_iload_n (pc := 36) hx hb dX5_bucket_36 rfl (lv_at hl 1 rfl) ?_
    obtain ⟨u37, hu37, hF⟩ := z_bind hF
    refine zq_call (oc0 := (some (.int u37))) (va_runV (As := [.int y1_3]) (rest := []) ⟨hx, hb, hml, hown, hts⟩ (tX5_looks (l := l) (D := D) (cB := cB) (cI := cI) (cJ := cJ) (cO := cO) h0 h_row g_fresh g_kept g_tried g_isKept g_viewed g_tape g_tapeMany g_sort g_begins g_tokenEnds g_word g_value g_good g_growing g_rows g_must g_rowMany g_sorts g_sizes g_sheets g_holds g_heldNumber g_heldSize g_kind g_number g_ownHand g_traced g_bodies g_isParted v_row y1_3 u37 hu37) (cwV 1 hts gX5_bucket_X5_looks rfl rfl rfl (by decide +kernel) ⟨Nat.le_of_ble_eq_true rfl, Nat.le_of_ble_eq_true rfl⟩) ⟨zPre_blind, va_recv hK hP (ci := 5) (q0 := 0) rfl rfl, zPre_at hP hE (zD_re hD rfl) [0, 1] rfl rfl⟩ rfl rfl hl.1 rfl (lv_room (Nat.le_of_ble_eq_true rfl)) dX5_bucket_37 ⟨Nat.zero_le _, Nat.zero_le _⟩) ?_
    refine W.eq (g2 := F0 m 40 ls [.int u37]) rfl ?_
    refine zb_if_le (pc := 40) (tgt := 49) hx hb dX5_bucket_40 (by decide) hF (fun c_40 hF => ?_) (fun c_40 hF => ?_)
    · exact z_vretM (pc := 49) (fun q => (wX5_bucket cB cI cJ cO h0 h_row g_fresh g_kept g_tried g_isKept g_viewed g_tape g_tapeMany g_sort g_begins g_tokenEnds g_word g_value g_good g_growing g_rows g_must g_rowMany g_sorts g_sizes g_sheets g_holds g_heldNumber g_heldSize g_kind g_number g_ownHand g_traced g_bodies g_isParted q)) hx hb hr hlocks hP hS hF hQ dX5_bucket_49
    · refine lv_aload_n (pc := 43) hx hb dX5_bucket_43 rfl (lv_at hl 0 rfl) ?_
      refine lv_iload_n (pc := 44) hx hb dX5_bucket_44 rfl (lv_at hl 1 rfl) ?_
      obtain ⟨u45, hu45, hF⟩ := z_bind hF
      refine zq_callM (oc0 := (some (.int u45.1))) (wc := wX5_cleaned cB cI cJ cO h0 h_row g_fresh g_kept g_tried g_isKept g_viewed g_tape g_tapeMany g_sort g_begins g_tokenEnds g_word g_value g_good g_growing g_rows g_must g_rowMany g_sorts g_sizes g_sheets g_holds g_heldNumber g_heldSize g_kind g_number g_ownHand g_traced g_bodies g_isParted v_row) (wc' := wX5_cleaned cB cI cJ cO h0 h_row g_fresh g_kept g_tried g_isKept g_viewed g_tape g_tapeMany g_sort g_begins g_tokenEnds g_word g_value g_good g_growing g_rows g_must g_rowMany g_sorts g_sizes g_sheets g_holds g_heldNumber g_heldSize g_kind g_number g_ownHand g_traced g_bodies g_isParted u45.2) (ws' := (wX5_bucket cB cI cJ cO h0 h_row g_fresh g_kept g_tried g_isKept g_viewed g_tape g_tapeMany g_sort g_begins g_tokenEnds g_word g_value g_good g_growing g_rows g_must g_rowMany g_sorts g_sizes g_sheets g_holds g_heldNumber g_heldSize g_kind g_number g_ownHand g_traced g_bodies g_isParted u45.2)) (va_runV (As := [.int y1_3]) (rest := []) ⟨hx, hb, hml, hown, hts⟩ (tX5_cleaned (l := l) (D := D) (cB := cB) (cI := cI) (cJ := cJ) (cO := cO) h0 h_row g_fresh g_kept g_tried g_isKept g_viewed g_tape g_tapeMany g_sort g_begins g_tokenEnds g_word g_value g_good g_growing g_rows g_must g_rowMany g_sorts g_sizes g_sheets g_holds g_heldNumber g_heldSize g_kind g_number g_ownHand g_traced g_bodies g_isParted v_row y1_3 u45 hu45) (cwV 1 hts gX5_bucket_X5_cleaned rfl rfl rfl (by decide +kernel) ⟨Nat.le_of_ble_eq_true rfl, Nat.le_of_ble_eq_true rfl⟩) ⟨zPre_blind, va_recv hK hP (ci := 5) (q0 := 0) rfl rfl, zPre_at hP hE (zD_re hD rfl) [0, 1] rfl rfl⟩ rfl rfl hl.1 rfl (lv_room (Nat.le_of_ble_eq_true rfl)) dX5_bucket_45 ⟨Nat.zero_le _, Nat.zero_le _⟩) rfl hP (zD_re hD rfl) hS [0, 1] rfl rfl [some 0, some 1] rfl rfl rfl rfl (fun H locs hP hS => ?_)
      refine W.eq (g2 := F0 m 48 ls [.int u45.1]) rfl ?_
      refine lv_pop (pc := 48) hx hb dX5_bucket_48 rfl ?_
      exact z_vretM (pc := 49) (fun q => (wX5_bucket cB cI cJ cO h0 h_row g_fresh g_kept g_tried g_isKept g_viewed g_tape g_tapeMany g_sort g_begins g_tokenEnds g_word g_value g_good g_growing g_rows g_must g_rowMany g_sorts g_sizes g_sheets g_holds g_heldNumber g_heldSize g_kind g_number g_ownHand g_traced g_bodies g_isParted q)) hx hb hr hlocks hP hS hF hQ dX5_bucket_49
  have hL_4 : ∀ (n : Nat) (y1_1 : Int32) (y2_2 : Int32) , fX5_bucket_L4 v_row k_4 n y1_1 y2_2 = some r → ∀ (H : Heap) (locs : List Loc), va_P D vwCl (wX5_bucket cB cI cJ cO h0 h_row g_fresh g_kept g_tried g_isKept g_viewed g_tape g_tapeMany g_sort g_begins g_tokenEnds g_word g_value g_good g_growing g_rows g_must g_rowMany g_sorts g_sizes g_sheets g_holds g_heldNumber g_heldSize g_kind g_number g_ownHand g_traced g_bodies g_isParted v_row) H → va_S (zAs [h0, h_row]) s.heap H locs → ∀ (ls : Array Slot), lv_has ls 3 [(0, .ref h0), (1, .int y1_1), (2, .int y2_2)] → W p l e rX5_bucket s m args below meth c H locs 0 0 Q (F0 m 4 ls []) := by
    intro n
    induction n with
    | zero =>
      intro y1_1 y2_2 hF H locs hP hS ls hl
      exact z_no hF
    | succ n ih =>
      intro y1_1 y2_2 hF H locs hP hS ls hl
      rw [fX5_bucket_L4] at hF
      refine lv_iload_n (pc := 4) hx hb dX5_bucket_4 rfl (lv_at hl 2 rfl) ?_
      refine lv_bipush (pc := 5) (v := (nI 10)) hx hb dX5_bucket_5 (by decide) ?_
      refine zb_icmp_ge (pc := 7) (tgt := 35) hx hb dX5_bucket_7 (by decide) hF (fun c_7 hF => ?_) (fun c_7 hF => ?_)
      · exact kk_4 y1_1 hF H locs hP hS ls (lv_sub hl [0, 1] rfl)
      · refine lv_aload_n (pc := 10) hx hb dX5_bucket_10 rfl (lv_at hl 0 rfl) ?_
        refine lv_iload_n (pc := 11) hx hb dX5_bucket_11 rfl (lv_at hl 2 rfl) ?_
        obtain ⟨u12, hu12, hF⟩ := z_bind hF
        refine zq_call (oc0 := (some (.int u12))) (va_runV (As := [.int y2_2]) (rest := []) ⟨hx, hb, hml, hown, hts⟩ (tX5_looks (l := l) (D := D) (cB := cB) (cI := cI) (cJ := cJ) (cO := cO) h0 h_row g_fresh g_kept g_tried g_isKept g_viewed g_tape g_tapeMany g_sort g_begins g_tokenEnds g_word g_value g_good g_growing g_rows g_must g_rowMany g_sorts g_sizes g_sheets g_holds g_heldNumber g_heldSize g_kind g_number g_ownHand g_traced g_bodies g_isParted v_row y2_2 u12 hu12) (cwV 1 hts gX5_bucket_X5_looks rfl rfl rfl (by decide +kernel) ⟨Nat.le_of_ble_eq_true rfl, Nat.le_of_ble_eq_true rfl⟩) ⟨zPre_blind, va_recv hK hP (ci := 5) (q0 := 0) rfl rfl, zPre_at hP hE (zD_re hD rfl) [0, 1] rfl rfl⟩ rfl rfl hl.1 rfl (lv_room (Nat.le_of_ble_eq_true rfl)) dX5_bucket_12 ⟨Nat.zero_le _, Nat.zero_le _⟩) ?_
        refine W.eq (g2 := F0 m 15 ls [.int u12]) rfl ?_
        refine lv_aload_n (pc := 15) hx hb dX5_bucket_15 rfl (lv_at hl 0 rfl) ?_
        refine lv_iload_n (pc := 16) hx hb dX5_bucket_16 rfl (lv_at hl 1 rfl) ?_
        obtain ⟨u17, hu17, hF⟩ := z_bind hF
        refine zq_call (oc0 := (some (.int u17))) (va_runV (As := [.int y1_1]) (rest := [.int u12]) ⟨hx, hb, hml, hown, hts⟩ (tX5_looks (l := l) (D := D) (cB := cB) (cI := cI) (cJ := cJ) (cO := cO) h0 h_row g_fresh g_kept g_tried g_isKept g_viewed g_tape g_tapeMany g_sort g_begins g_tokenEnds g_word g_value g_good g_growing g_rows g_must g_rowMany g_sorts g_sizes g_sheets g_holds g_heldNumber g_heldSize g_kind g_number g_ownHand g_traced g_bodies g_isParted v_row y1_1 u17 hu17) (cwV 1 hts gX5_bucket_X5_looks rfl rfl rfl (by decide +kernel) ⟨Nat.le_of_ble_eq_true rfl, Nat.le_of_ble_eq_true rfl⟩) ⟨zPre_blind, va_recv hK hP (ci := 5) (q0 := 0) rfl rfl, zPre_at hP hE (zD_re hD rfl) [0, 1] rfl rfl⟩ rfl rfl hl.1 rfl (lv_room (Nat.le_of_ble_eq_true rfl)) dX5_bucket_17 ⟨Nat.zero_le _, Nat.zero_le _⟩) ?_
        refine W.eq (g2 := F0 m 20 ls [.int u17, .int u12]) rfl ?_
        refine zb_icmp_le (pc := 20) (tgt := 27) hx hb dX5_bucket_20 (by decide) hF (fun c_20 hF => ?_) (fun c_20 hF => ?_)
        · refine lv_iload_n (pc := 27) hx hb dX5_bucket_27 rfl (lv_at hl 1 rfl) ?_
          refine lv_istore_n (pc := 28) (lv' := [(1, .int y1_1), (0, .ref h0), (2, .int y2_2)]) hx hb dX5_bucket_28 rfl hl (by decide) rfl (fun ls hl => ?_)
          refine lv_iinc (pc := 29) (v := (y2_2 + 1)) (lv' := [(2, .int (y2_2 + 1)), (1, .int y1_1), (0, .ref h0)]) hx hb dX5_bucket_29 hl (k := 2) rfl rfl (by decide) rfl (fun ls hl => ?_)
          refine lv_goto (pc := 32) (tgt := 4) hx hb dX5_bucket_32 (by decide) ?_
          exact ih y1_1 (y2_2 + 1) hF H locs hP hS ls (lv_sub hl [2, 1, 0] rfl)
        · refine lv_iload_n (pc := 23) hx hb dX5_bucket_23 rfl (lv_at hl 2 rfl) ?_
          refine lv_goto (pc := 24) (tgt := 28) hx hb dX5_bucket_24 (by decide) ?_
          refine lv_istore_n (pc := 28) (lv' := [(1, .int y2_2), (0, .ref h0), (2, .int y2_2)]) hx hb dX5_bucket_28 rfl hl (by decide) rfl (fun ls hl => ?_)
          refine lv_iinc (pc := 29) (v := (y2_2 + 1)) (lv' := [(2, .int (y2_2 + 1)), (1, .int y2_2), (0, .ref h0)]) hx hb dX5_bucket_29 hl (k := 2) rfl rfl (by decide) rfl (fun ls hl => ?_)
          refine lv_goto (pc := 32) (tgt := 4) hx hb dX5_bucket_32 (by decide) ?_
          exact ih y2_2 (y2_2 + 1) hF H locs hP hS ls (lv_sub hl [2, 1, 0] rfl)
  exact hL_4 zK (nI 0) (nI 1) hF H locs hP hS ls (lv_sub hl [2, 1, 0] rfl)
