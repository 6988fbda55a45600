abbrev rX5_firstFor : Room := { frames := 8, cells := 0, slots := 0, locals := 178 }
abbrev wX5_firstFor (cB cI cJ cO : ClassId) (h0 h_row h_tried h_growing : Nat) (g_fresh g_kept g_isKept g_tape g_tapeMany g_sort g_begins g_tokenEnds g_word g_value g_good g_rows g_must g_rowMany g_sorts g_sizes g_sheets g_holds g_heldNumber g_heldSize g_kind g_number g_ownHand g_traced g_bodies g_isParted : Value) (v_viewed : Int32) (v_row : Nat → Int32) (v_tried : Nat → Int32) (v_growing : Nat → Int32) : va_W := [(h0, .inr (5, [.ref h_row, g_fresh, g_kept, .ref h_tried, g_isKept, .int v_viewed, g_tape, g_tapeMany, g_sort, g_begins, g_tokenEnds, g_word, g_value, g_good, .ref h_growing, g_rows, g_must, g_rowMany, g_sorts, g_sizes, g_sheets, g_holds, g_heldNumber, g_heldSize, g_kind, g_number, g_ownHand, g_traced, g_bodies, g_isParted])), (h_row, .inl (cI, 68, .inl v_row)), (h_tried, .inl (cI, 68, .inl v_tried)), (h_growing, .inl (cI, 8, .inl v_growing))]
theorem nX5_firstFor_X5 : ∀ w ∈ wsX50, w ∈ wsX5_firstFor := by decide +kernel
theorem kX5_firstFor_0 : Cond.fieldLink RX5 7 "PaintedWallsModel" "row" "[I" ∈ wsX5_firstFor := by decide +kernel
theorem kX5_firstFor_1 : Cond.fieldLink RX5 19 "PaintedWallsModel" "tried" "[I" ∈ wsX5_firstFor := by decide +kernel
set_option maxHeartbeats 4000000 in
set_option maxRecDepth 100000 in
theorem tX5_firstFor {l : Launch} {D : va_G} {cB cI cJ cO : ClassId} (h0 h_row h_tried h_growing : Nat) (g_fresh g_kept g_isKept g_tape g_tapeMany g_sort g_begins g_tokenEnds g_word g_value g_good g_rows g_must g_rowMany g_sorts g_sizes g_sheets g_holds g_heldNumber g_heldSize g_kind g_number g_ownHand g_traced g_bodies g_isParted : Value) (v_viewed : Int32) (v_row : Nat → Int32) (v_tried : Nat → Int32) (v_growing : Nat → Int32) (x1 : Int32) (r : Int32 × Int32 × (Nat → Int32) × (Nat → Int32) × (Nat → Int32)) (hF : fX5_firstFor v_viewed v_row v_tried v_growing x1 = some r) : Met l yX5_firstFor wsX5_firstFor rX5_firstFor (zPre D cB cI cJ cO [.ref h0, .int x1] (wX5_firstFor cB cI cJ cO h0 h_row h_tried h_growing g_fresh g_kept g_isKept g_tape g_tapeMany g_sort g_begins g_tokenEnds g_word g_value g_good g_rows g_must g_rowMany g_sorts g_sizes g_sheets g_holds g_heldNumber g_heldSize g_kind g_number g_ownHand g_traced g_bodies g_isParted v_viewed v_row v_tried v_growing)) (zPM (some (.int r.1)) D (wX5_firstFor cB cI cJ cO h0 h_row h_tried h_growing g_fresh g_kept g_isKept g_tape g_tapeMany g_sort g_begins g_tokenEnds g_word g_value g_good g_rows g_must g_rowMany g_sorts g_sizes g_sheets g_holds g_heldNumber g_heldSize g_kind g_number g_ownHand g_traced g_bodies g_isParted r.2.1 r.2.2.1 r.2.2.2.1 r.2.2.2.2) (zAs [h0, h_row, h_tried, h_growing])) 0 0 (zAs [h0, h_row, h_tried, h_growing]) := by
  refine zMetM (cc := cX5_firstFor) (maxL := 6) (ret := (some .int)) (lv := [(0, .ref h0), (1, .int x1)]) rfl (by decide) rfl (Nat.le_of_ble_eq_true rfl) rfl ?_
  intro p e s m args below meth c ls Q H locs hQ hx hb hr hml hown hts hlocks hname hP hE hD hS hl
  have hown : s.vm.findClass RX5 = some m.cls := hown
  have hK := hE.1
  unfold fX5_firstFor at hF
  refine lv_iload_n (pc := 0) hx hb dX5_firstFor_0 rfl (lv_at hl 1 rfl) ?_
  refine lv_iconst (pc := 1) (v := (nI 1)) hx hb dX5_firstFor_1 (by decide) ?_
  refine lv_bipush (pc := 2) (v := (nI 30)) hx hb dX5_firstFor_2 (by decide) ?_
  obtain ⟨u4, hu4, hF⟩ := z_bind hF
  refine zq_call (oc0 := (some (.int u4))) (va_runS (As := [.int x1, .int (nI 1), .int (nI 30)]) (rest := []) ⟨hx, hb, hml, hown, hts⟩ (tX5_in (l := l) (D := D) (cB := cB) (cI := cI) (cJ := cJ) (cO := cO) x1 (nI 1) (nI 30) u4 hu4) (va_cwS 3 hts gX5_firstFor_X5_in rfl rfl rfl (by decide +kernel) ⟨Nat.le_of_ble_eq_true rfl, Nat.le_of_ble_eq_true rfl⟩) ⟨zPre_blind, zPre_at hP hE (zD_re hD rfl) [] rfl rfl⟩ rfl rfl hl.1 rfl (lv_room (Nat.le_of_ble_eq_true rfl)) dX5_firstFor_4 ⟨Nat.zero_le _, Nat.zero_le _⟩) ?_
  refine W.eq (g2 := F0 m 7 ls [.int u4]) rfl ?_
  refine zb_if_ne (pc := 7) (tgt := 12) hx hb dX5_firstFor_7 (by decide) hF (fun c_7 hF => ?_) (fun c_7 hF => ?_)
  · refine lv_aload_n (pc := 12) hx hb dX5_firstFor_12 rfl (lv_at hl 0 rfl) ?_
    refine va_get (D := D) (pc := 13) (ci := 5) (v := .ref h_row) (C := RX5) (T := TX5) (N := 30) hx hb hts nX5_firstFor_X5 hown hK hP 0 rfl rfl 0 (by decide) (hts _ kX5_firstFor_0) (fun _ h9 => h9) rfl dX5_firstFor_13 ?_
    refine lv_aload_n (pc := 16) hx hb dX5_firstFor_16 rfl (lv_at hl 0 rfl) ?_
    refine va_get (D := D) (pc := 17) (ci := 5) (v := .ref h_tried) (C := RX5) (T := TX5) (N := 30) hx hb hts nX5_firstFor_X5 hown hK hP 0 rfl rfl 3 (by decide) (hts _ kX5_firstFor_1) (fun _ h9 => h9) rfl dX5_firstFor_17 ?_
    obtain ⟨u20, hu20, hF⟩ := z_bind hF
    refine zq_callM (oc0 := none) (wc := wX5_moveAll cB cI cJ cO h_row h_tried v_row v_tried) (wc' := wX5_moveAll cB cI cJ cO h_row h_tried v_row u20) (ws' := (wX5_firstFor cB cI cJ cO h0 h_row h_tried h_growing g_fresh g_kept g_isKept g_tape g_tapeMany g_sort g_begins g_tokenEnds g_word g_value g_good g_rows g_must g_rowMany g_sorts g_sizes g_sheets g_holds g_heldNumber g_heldSize g_kind g_number g_ownHand g_traced g_bodies g_isParted v_viewed v_row u20 v_growing)) (va_runS (As := [.ref h_row, .ref h_tried]) (rest := []) ⟨hx, hb, hml, hown, hts⟩ (tX5_moveAll (l := l) (D := D) (cB := cB) (cI := cI) (cJ := cJ) (cO := cO) h_row h_tried v_row v_tried u20 hu20) (va_cwS 2 hts gX5_firstFor_X5_moveAll rfl rfl rfl (by decide +kernel) ⟨Nat.le_of_ble_eq_true rfl, Nat.le_of_ble_eq_true rfl⟩) ⟨zPre_blind, zPre_at hP hE (zD_re hD rfl) [1, 2] rfl rfl⟩ rfl rfl hl.1 rfl (lv_room (Nat.le_of_ble_eq_true rfl)) dX5_firstFor_20 ⟨Nat.zero_le _, Nat.zero_le _⟩) rfl hP (zD_re hD rfl) hS [1, 2] rfl rfl [none, some 0, some 1, none] rfl rfl rfl rfl (fun H locs hP hS => ?_)
    refine W.eq (g2 := F0 m 23 ls []) rfl ?_
    refine lv_iconst (pc := 23) (v := (nI 0)) hx hb dX5_firstFor_23 (by decide) ?_
    refine lv_istore_n (pc := 24) (lv' := [(2, .int (nI 0)), (0, .ref h0), (1, .int x1)]) hx hb dX5_firstFor_24 rfl hl (by decide) rfl (fun ls hl => ?_)
    refine lv_iconst (pc := 25) (v := (-1 : Int32)) hx hb dX5_firstFor_25 (by decide) ?_
    refine lv_istore_n (pc := 26) (lv' := [(3, .int (-1 : Int32)), (2, .int (nI 0)), (0, .ref h0), (1, .int x1)]) hx hb dX5_firstFor_26 rfl hl (by decide) rfl (fun ls hl => ?_)
    refine lv_iconst (pc := 27) (v := (nI 0)) hx hb dX5_firstFor_27 (by decide) ?_
    refine lv_istore (pc := 28) (lv' := [(4, .int (nI 0)), (3, .int (-1 : Int32)), (2, .int (nI 0)), (0, .ref h0), (1, .int x1)]) hx hb dX5_firstFor_28 hl (by decide) rfl (fun ls hl => ?_)
    obtain ⟨k_11, hk_11, hF⟩ := z_J hF
    have kk_11 : ∀ (y2_7 : Int32) (v_viewed_8 : Int32) (v_row_9 : Nat → Int32) (v_growing_10 : Nat → Int32) , k_11 y2_7 v_viewed_8 v_row_9 v_growing_10 = some r → ∀ (H : Heap) (locs : List Loc), va_P D vwCl (wX5_firstFor cB cI cJ cO h0 h_row h_tried h_growing g_fresh g_kept g_isKept g_tape g_tapeMany g_sort g_begins g_tokenEnds g_word g_value g_good g_rows g_must g_rowMany g_sorts g_sizes g_sheets g_holds g_heldNumber g_heldSize g_kind g_number g_ownHand g_traced g_bodies g_isParted v_viewed_8 v_row_9 u20 v_growing_10) H → va_S (zAs [h0, h_row, h_tried, h_growing]) s.heap H locs → ∀ (ls : Array Slot), lv_has ls 6 [(2, .int y2_7)] → W p l e rX5_firstFor s m args below meth c H locs 0 0 Q (F0 m 91 ls []) := by
      intro y2_7 v_viewed_8 v_row_9 v_growing_10 hF H locs hP hS ls hl
      rw [hk_11] at hF
      refine lv_iload_n (pc := 91) hx hb dX5_firstFor_91 rfl (lv_at hl 0 rfl) ?_
      exact z_iretM (pc := 92) (fun q => q.1) (fun q => (wX5_firstFor cB cI cJ cO h0 h_row h_tried h_growing g_fresh g_kept g_isKept g_tape g_tapeMany g_sort g_begins g_tokenEnds g_word g_value g_good g_rows g_must g_rowMany g_sorts g_sizes g_sheets g_holds g_heldNumber g_heldSize g_kind g_number g_ownHand g_traced g_bodies g_isParted q.2.1 q.2.2.1 q.2.2.2.1 q.2.2.2.2)) hx hb hr hlocks hP hS hF rfl hQ dX5_firstFor_92
    have hL_30 : ∀ (n : Nat) (y2_1 : Int32) (y3_2 : Int32) (y4_3 : Int32) (v_viewed_4 : Int32) (v_row_5 : Nat → Int32) (v_growing_6 : Nat → Int32) , fX5_firstFor_L30 x1 u20 k_11 n y2_1 y3_2 y4_3 v_viewed_4 v_row_5 v_growing_6 = some r → ∀ (H : Heap) (locs : List Loc), va_P D vwCl (wX5_firstFor cB cI cJ cO h0 h_row h_tried h_growing g_fresh g_kept g_isKept g_tape g_tapeMany g_sort g_begins g_tokenEnds g_word g_value g_good g_rows g_must g_rowMany g_sorts g_sizes g_sheets g_holds g_heldNumber g_heldSize g_kind g_number g_ownHand g_traced g_bodies g_isParted v_viewed_4 v_row_5 u20 v_growing_6) H → va_S (zAs [h0, h_row, h_tried, h_growing]) s.heap H locs → ∀ (ls : Array Slot), lv_has ls 6 [(0, .ref h0), (1, .int x1), (2, .int y2_1), (3, .int y3_2), (4, .int y4_3)] → W p l e rX5_firstFor s m args below meth c H locs 0 0 Q (F0 m 30 ls []) := by
      intro n
      induction n with
      | zero =>
        intro y2_1 y3_2 y4_3 v_viewed_4 v_row_5 v_growing_6 hF H locs hP hS ls hl
        exact z_no hF
      | succ n ih =>
        intro y2_1 y3_2 y4_3 v_viewed_4 v_row_5 v_growing_6 hF H locs hP hS ls hl
        rw [fX5_firstFor_L30] at hF
        refine lv_iload (pc := 30) hx hb dX5_firstFor_30 (lv_at hl 4 rfl) ?_
        refine lv_bipush (pc := 32) (v := (nI 10)) hx hb dX5_firstFor_32 (by decide) ?_
        refine zb_icmp_ge (pc := 34) (tgt := 91) hx hb dX5_firstFor_34 (by decide) hF (fun c_34 hF => ?_) (fun c_34 hF => ?_)
        · exact kk_11 y2_1 v_viewed_4 v_row_5 v_growing_6 hF H locs hP hS ls (lv_sub hl [2] rfl)
        · refine lv_aload_n (pc := 37) hx hb dX5_firstFor_37 rfl (lv_at hl 0 rfl) ?_
          refine lv_iload (pc := 38) hx hb dX5_firstFor_38 (lv_at hl 4 rfl) ?_
          obtain ⟨u40, hu40, hF⟩ := z_bind hF
          refine zq_callM (oc0 := (some (.int u40.1))) (wc := wX5_cleaned cB cI cJ cO h0 h_row g_fresh g_kept (.ref h_tried) g_isKept (.int v_viewed_4) g_tape g_tapeMany g_sort g_begins g_tokenEnds g_word g_value g_good (.ref h_growing) g_rows g_must g_rowMany g_sorts g_sizes g_sheets g_holds g_heldNumber g_heldSize g_kind g_number g_ownHand g_traced g_bodies g_isParted v_row_5) (wc' := wX5_cleaned cB cI cJ cO h0 h_row g_fresh g_kept (.ref h_tried) g_isKept (.int v_viewed_4) g_tape g_tapeMany g_sort g_begins g_tokenEnds g_word g_value g_good (.ref h_growing) g_rows g_must g_rowMany g_sorts g_sizes g_sheets g_holds g_heldNumber g_heldSize g_kind g_number g_ownHand g_traced g_bodies g_isParted u40.2) (ws' := (wX5_firstFor cB cI cJ cO h0 h_row h_tried h_growing g_fresh g_kept g_isKept g_tape g_tapeMany g_sort g_begins g_tokenEnds g_word g_value g_good g_rows g_must g_rowMany g_sorts g_sizes g_sheets g_holds g_heldNumber g_heldSize g_kind g_number g_ownHand g_traced g_bodies g_isParted v_viewed_4 u40.2 u20 v_growing_6)) (va_runV (As := [.int y4_3]) (rest := []) ⟨hx, hb, hml, hown, hts⟩ (tX5_cleaned (l := l) (D := D) (cB := cB) (cI := cI) (cJ := cJ) (cO := cO) h0 h_row g_fresh g_kept (.ref h_tried) g_isKept (.int v_viewed_4) g_tape g_tapeMany g_sort g_begins g_tokenEnds g_word g_value g_good (.ref h_growing) g_rows g_must g_rowMany g_sorts g_sizes g_sheets g_holds g_heldNumber g_heldSize g_kind g_number g_ownHand g_traced g_bodies g_isParted v_row_5 y4_3 u40 hu40) (cwV 1 hts gX5_firstFor_X5_cleaned rfl rfl rfl (by decide +kernel) ⟨Nat.le_of_ble_eq_true rfl, Nat.le_of_ble_eq_true rfl⟩) ⟨zPre_blind, va_recv hK hP (ci := 5) (q0 := 0) rfl rfl, zPre_at hP hE (zD_re hD rfl) [0, 1] rfl rfl⟩ rfl rfl hl.1 rfl (lv_room (Nat.le_of_ble_eq_true rfl)) dX5_firstFor_40 ⟨Nat.zero_le _, Nat.zero_le _⟩) rfl hP (zD_re hD rfl) hS [0, 1] rfl rfl [some 0, some 1, none, none] rfl rfl rfl rfl (fun H locs hP hS => ?_)
          refine W.eq (g2 := F0 m 43 ls [.int u40.1]) rfl ?_
          refine lv_pop (pc := 43) hx hb dX5_firstFor_43 rfl ?_
          refine lv_aload_n (pc := 44) hx hb dX5_firstFor_44 rfl (lv_at hl 0 rfl) ?_
          refine lv_iload_n (pc := 45) hx hb dX5_firstFor_45 rfl (lv_at hl 1 rfl) ?_
          obtain ⟨u46, hu46, hF⟩ := z_bind hF
          refine zq_callM (oc0 := (some (.int u46.1))) (wc := wX5_viewedBy cB cI cJ cO h0 h_row h_tried h_growing g_fresh g_kept g_isKept g_tape g_tapeMany g_sort g_begins g_tokenEnds g_word g_value g_good g_rows g_must g_rowMany g_sorts g_sizes g_sheets g_holds g_heldNumber g_heldSize g_kind g_number g_ownHand g_traced g_bodies g_isParted v_viewed_4 u40.2 u20 v_growing_6) (wc' := wX5_viewedBy cB cI cJ cO h0 h_row h_tried h_growing g_fresh g_kept g_isKept g_tape g_tapeMany g_sort g_begins g_tokenEnds g_word g_value g_good g_rows g_must g_rowMany g_sorts g_sizes g_sheets g_holds g_heldNumber g_heldSize g_kind g_number g_ownHand g_traced g_bodies g_isParted u46.2.1 u46.2.2.1 u20 u46.2.2.2) (ws' := (wX5_firstFor cB cI cJ cO h0 h_row h_tried h_growing g_fresh g_kept g_isKept g_tape g_tapeMany g_sort g_begins g_tokenEnds g_word g_value g_good g_rows g_must g_rowMany g_sorts g_sizes g_sheets g_holds g_heldNumber g_heldSize g_kind g_number g_ownHand g_traced g_bodies g_isParted u46.2.1 u46.2.2.1 u20 u46.2.2.2)) (va_runV (As := [.int x1]) (rest := []) ⟨hx, hb, hml, hown, hts⟩ (tX5_viewedBy (l := l) (D := D) (cB := cB) (cI := cI) (cJ := cJ) (cO := cO) h0 h_row h_tried h_growing g_fresh g_kept g_isKept g_tape g_tapeMany g_sort g_begins g_tokenEnds g_word g_value g_good g_rows g_must g_rowMany g_sorts g_sizes g_sheets g_holds g_heldNumber g_heldSize g_kind g_number g_ownHand g_traced g_bodies g_isParted v_viewed_4 u40.2 u20 v_growing_6 x1 u46 hu46) (cwV 1 hts gX5_firstFor_X5_viewedBy rfl rfl rfl (by decide +kernel) ⟨Nat.le_of_ble_eq_true rfl, Nat.le_of_ble_eq_true rfl⟩) ⟨zPre_blind, va_recv hK hP (ci := 5) (q0 := 0) rfl rfl, zPre_at hP hE (zD_re hD rfl) [0, 1, 2, 3] rfl rfl⟩ rfl rfl hl.1 rfl (lv_room (Nat.le_of_ble_eq_true rfl)) dX5_firstFor_46 ⟨Nat.zero_le _, Nat.zero_le _⟩) rfl hP (zD_re hD rfl) hS [0, 1, 2, 3] rfl rfl [some 0, some 1, some 2, some 3] rfl rfl rfl rfl (fun H locs hP hS => ?_)
          refine W.eq (g2 := F0 m 49 ls [.int u46.1]) rfl ?_
          refine lv_istore (pc := 49) (lv' := [(5, .int u46.1), (0, .ref h0), (1, .int x1), (2, .int y2_1), (3, .int y3_2), (4, .int y4_3)]) hx hb dX5_firstFor_49 hl (by decide) rfl (fun ls hl => ?_)
          refine lv_iload_n (pc := 51) hx hb dX5_firstFor_51 rfl (lv_at hl 4 rfl) ?_
          obtain ⟨J_13, hJ_13, hF⟩ := z_J hF
          have kJ_13 : ∀ (t0_12 : Int32) , J_13 t0_12 = some r → ∀ (H : Heap) (locs : List Loc), va_P D vwCl (wX5_firstFor cB cI cJ cO h0 h_row h_tried h_growing g_fresh g_kept g_isKept g_tape g_tapeMany g_sort g_begins g_tokenEnds g_word g_value g_good g_rows g_must g_rowMany g_sorts g_sizes g_sheets g_holds g_heldNumber g_heldSize g_kind g_number g_ownHand g_traced g_bodies g_isParted u46.2.1 u46.2.2.1 u20 u46.2.2.2) H → va_S (zAs [h0, h_row, h_tried, h_growing]) s.heap H locs → ∀ (ls : Array Slot), lv_has ls 6 [(0, .ref h0), (1, .int x1), (3, .int y3_2), (4, .int y4_3), (5, .int u46.1)] → W p l e rX5_firstFor s m args below meth c H locs 0 0 Q (F0 m 67 ls [.int t0_12]) := by
            intro t0_12 hF H locs hP hS ls hl
            rw [hJ_13] at hF
            refine lv_istore_n (pc := 67) (lv' := [(2, .int t0_12), (0, .ref h0), (1, .int x1), (3, .int y3_2), (4, .int y4_3), (5, .int u46.1)]) hx hb dX5_firstFor_67 rfl hl (by decide) rfl (fun ls hl => ?_)
            refine lv_iload_n (pc := 68) hx hb dX5_firstFor_68 rfl (lv_at hl 3 rfl) ?_
            refine zb_if_lt (pc := 69) (tgt := 78) hx hb dX5_firstFor_69 (by decide) hF (fun c_69 hF => ?_) (fun c_69 hF => ?_)
            · refine lv_iload (pc := 78) hx hb dX5_firstFor_78 (lv_at hl 5 rfl) ?_
              refine lv_goto (pc := 80) (tgt := 84) hx hb dX5_firstFor_80 (by decide) ?_
              refine lv_istore_n (pc := 84) (lv' := [(3, .int u46.1), (2, .int t0_12), (0, .ref h0), (1, .int x1), (4, .int y4_3), (5, .int u46.1)]) hx hb dX5_firstFor_84 rfl hl (by decide) rfl (fun ls hl => ?_)
              refine lv_iinc (pc := 85) (v := (y4_3 + 1)) (lv' := [(4, .int (y4_3 + 1)), (3, .int u46.1), (2, .int t0_12), (0, .ref h0), (1, .int x1), (5, .int u46.1)]) hx hb dX5_firstFor_85 hl (k := 4) rfl rfl (by decide) rfl (fun ls hl => ?_)
              refine lv_goto (pc := 88) (tgt := 30) hx hb dX5_firstFor_88 (by decide) ?_
              exact ih t0_12 u46.1 (y4_3 + 1) u46.2.1 u46.2.2.1 u46.2.2.2 hF H locs hP hS ls (lv_sub hl [3, 4, 2, 1, 0] rfl)
            · refine lv_iload (pc := 72) hx hb dX5_firstFor_72 (lv_at hl 5 rfl) ?_
              refine lv_iload_n (pc := 74) hx hb dX5_firstFor_74 rfl (lv_at hl 3 rfl) ?_
              refine zb_icmp_ge (pc := 75) (tgt := 83) hx hb dX5_firstFor_75 (by decide) hF (fun c_75 hF => ?_) (fun c_75 hF => ?_)
              · refine lv_iload_n (pc := 83) hx hb dX5_firstFor_83 rfl (lv_at hl 3 rfl) ?_
                refine lv_istore_n (pc := 84) (lv' := [(3, .int y3_2), (2, .int t0_12), (0, .ref h0), (1, .int x1), (4, .int y4_3), (5, .int u46.1)]) hx hb dX5_firstFor_84 rfl hl (by decide) rfl (fun ls hl => ?_)
                refine lv_iinc (pc := 85) (v := (y4_3 + 1)) (lv' := [(4, .int (y4_3 + 1)), (3, .int y3_2), (2, .int t0_12), (0, .ref h0), (1, .int x1), (5, .int u46.1)]) hx hb dX5_firstFor_85 hl (k := 4) rfl rfl (by decide) rfl (fun ls hl => ?_)
                refine lv_goto (pc := 88) (tgt := 30) hx hb dX5_firstFor_88 (by decide) ?_
                exact ih t0_12 y3_2 (y4_3 + 1) u46.2.1 u46.2.2.1 u46.2.2.2 hF H locs hP hS ls (lv_sub hl [3, 4, 2, 1, 0] rfl)
              · refine lv_iload (pc := 78) hx hb dX5_firstFor_78 (lv_at hl 5 rfl) ?_
                refine lv_goto (pc := 80) (tgt := 84) hx hb dX5_firstFor_80 (by decide) ?_
                refine lv_istore_n (pc := 84) (lv' := [(3, .int u46.1), (2, .int t0_12), (0, .ref h0), (1, .int x1), (4, .int y4_3), (5, .int u46.1)]) hx hb dX5_firstFor_84 rfl hl (by decide) rfl (fun ls hl => ?_)
                refine lv_iinc (pc := 85) (v := (y4_3 + 1)) (lv' := [(4, .int (y4_3 + 1)), (3, .int u46.1), (2, .int t0_12), (0, .ref h0), (1, .int x1), (5, .int u46.1)]) hx hb dX5_firstFor_85 hl (k := 4) rfl rfl (by decide) rfl (fun ls hl => ?_)
                refine lv_goto (pc := 88) (tgt := 30) hx hb dX5_firstFor_88 (by decide) ?_
                exact ih t0_12 u46.1 (y4_3 + 1) u46.2.1 u46.2.2.1 u46.2.2.2 hF H locs hP hS ls (lv_sub hl [3, 4, 2, 1, 0] rfl)
          refine zb_if_lt (pc := 52) (tgt := 61) hx hb dX5_firstFor_52 (by decide) hF (fun c_52 hF => ?_) (fun c_52 hF => ?_)
          · refine lv_iload (pc := 61) hx hb dX5_firstFor_61 (lv_at hl 5 rfl) ?_
            refine lv_goto (pc := 63) (tgt := 67) hx hb dX5_firstFor_63 (by decide) ?_
            exact kJ_13 y4_3 hF H locs hP hS ls (lv_sub hl [1, 2, 4, 5, 0] rfl)
          · refine lv_iload (pc := 55) hx hb dX5_firstFor_55 (lv_at hl 0 rfl) ?_
            refine lv_iload_n (pc := 57) hx hb dX5_firstFor_57 rfl (lv_at hl 4 rfl) ?_
            refine zb_icmp_ge (pc := 58) (tgt := 66) hx hb dX5_firstFor_58 (by decide) hF (fun c_58 hF => ?_) (fun c_58 hF => ?_)
            · refine lv_iload_n (pc := 66) hx hb dX5_firstFor_66 rfl (lv_at hl 3 rfl) ?_
              exact kJ_13 y2_1 hF H locs hP hS ls (lv_sub hl [1, 2, 4, 5, 0] rfl)
            · refine lv_iload (pc := 61) hx hb dX5_firstFor_61 (lv_at hl 5 rfl) ?_
              refine lv_goto (pc := 63) (tgt := 67) hx hb dX5_firstFor_63 (by decide) ?_
              exact kJ_13 y4_3 hF H locs hP hS ls (lv_sub hl [1, 2, 4, 5, 0] rfl)
    exact hL_30 zK (nI 0) (-1 : Int32) (nI 0) v_viewed v_row v_growing hF H locs hP hS ls (lv_sub hl [3, 4, 2, 1, 0] rfl)
  · refine lv_iconst (pc := 10) (v := (-1 : Int32)) hx hb dX5_firstFor_10 (by decide) ?_
    exact z_iretM (pc := 11) (fun q => q.1) (fun q => (wX5_firstFor cB cI cJ cO h0 h_row h_tried h_growing g_fresh g_kept g_isKept g_tape g_tapeMany g_sort g_begins g_tokenEnds g_word g_value g_good g_rows g_must g_rowMany g_sorts g_sizes g_sheets g_holds g_heldNumber g_heldSize g_kind g_number g_ownHand g_traced g_bodies g_isParted q.2.1 q.2.2.1 q.2.2.2.1 q.2.2.2.2)) hx hb hr hlocks hP hS hF rfl hQ dX5_firstFor_11

abbrev rX5_bestAt : Room := { frames := 8, cells := 0, slots := 0, locals := 178 }
abbrev wX5_bestAt (cB cI cJ cO : ClassId) (h0 h_row h_tried h_growing : Nat) (g_fresh g_kept g_isKept g_tape g_tapeMany g_sort g_begins g_tokenEnds g_word g_value g_good g_rows g_must g_rowMany g_sorts g_sizes g_sheets g_holds g_heldNumber g_heldSize g_kind g_number g_ownHand g_traced g_bodies g_isParted : Value) (v_viewed : Int32) (v_row : Nat → Int32) (v_tried : Nat → Int32) (v_growing : Nat → Int32) : va_W := [(h0, .inr (5, [.ref h_row, g_fresh, g_kept, .ref h_tried, g_isKept, .int v_viewed, g_tape, g_tapeMany, g_sort, g_begins, g_tokenEnds, g_word, g_value, g_good, .ref h_growing, g_rows, g_must, g_rowMany, g_sorts, g_sizes, g_sheets, g_holds, g_heldNumber, g_heldSize, g_kind, g_number, g_ownHand, g_traced, g_bodies, g_isParted])), (h_row, .inl (cI, 68, .inl v_row)), (h_tried, .inl (cI, 68, .inl v_tried)), (h_growing, .inl (cI, 8, .inl v_growing))]
theorem nX5_bestAt_X5 : ∀ w ∈ wsX50, w ∈ wsX5_bestAt := by decide +kernel
theorem kX5_bestAt_0 : Cond.fieldLink RX5 7 "PaintedWallsModel" "row" "[I" ∈ wsX5_bestAt := by decide +kernel
theorem kX5_bestAt_1 : Cond.fieldLink RX5 19 "PaintedWallsModel" "tried" "[I" ∈ wsX5_bestAt := by decide +kernel
set_option maxHeartbeats 4000000 in
set_option maxRecDepth 100000 in
theorem tX5_bestAt {l : Launch} {D : va_G} {cB cI cJ cO : ClassId} (h0 h_row h_tried h_growing : Nat) (g_fresh g_kept g_isKept g_tape g_tapeMany g_sort g_begins g_tokenEnds g_word g_value g_good g_rows g_must g_rowMany g_sorts g_sizes g_sheets g_holds g_heldNumber g_heldSize g_kind g_number g_ownHand g_traced g_bodies g_isParted : Value) (v_viewed : Int32) (v_row : Nat → Int32) (v_tried : Nat → Int32) (v_growing : Nat → Int32) (x1 : Int32) (x2 : Int32) (x3 : Int32) (r : Int32 × Int32 × (Nat → Int32) × (Nat → Int32) × (Nat → Int32)) (hF : fX5_bestAt v_viewed v_row v_tried v_growing x1 x2 x3 = some r) : Met l yX5_bestAt wsX5_bestAt rX5_bestAt (zPre D cB cI cJ cO [.ref h0, .int x1, .int x2, .int x3] (wX5_bestAt cB cI cJ cO h0 h_row h_tried h_growing g_fresh g_kept g_isKept g_tape g_tapeMany g_sort g_begins g_tokenEnds g_word g_value g_good g_rows g_must g_rowMany g_sorts g_sizes g_sheets g_holds g_heldNumber g_heldSize g_kind g_number g_ownHand g_traced g_bodies g_isParted v_viewed v_row v_tried v_growing)) (zPM (some (.int r.1)) D (wX5_bestAt cB cI cJ cO h0 h_row h_tried h_growing g_fresh g_kept g_isKept g_tape g_tapeMany g_sort g_begins g_tokenEnds g_word g_value g_good g_rows g_must g_rowMany g_sorts g_sizes g_sheets g_holds g_heldNumber g_heldSize g_kind g_number g_ownHand g_traced g_bodies g_isParted r.2.1 r.2.2.1 r.2.2.2.1 r.2.2.2.2) (zAs [h0, h_row, h_tried, h_growing])) 0 0 (zAs [h0, h_row, h_tried, h_growing]) := by
  refine zMetM (cc := cX5_bestAt) (maxL := 8) (ret := (some .int)) (lv := [(0, .ref h0), (1, .int x1), (2, .int x2), (3, .int x3)]) rfl (by decide) rfl (Nat.le_of_ble_eq_true rfl) rfl ?_
  intro p e s m args below meth c ls Q H locs hQ hx hb hr hml hown hts hlocks hname hP hE hD hS hl
  have hown : s.vm.findClass RX5 = some m.cls := hown
  have hK := hE.1
  unfold fX5_bestAt at hF
  refine lv_aload_n (pc := 0) hx hb dX5_bestAt_0 rfl (lv_at hl 0 rfl) ?_
  refine va_get (D := D) (pc := 1) (ci := 5) (v := .ref h_row) (C := RX5) (T := TX5) (N := 30) hx hb hts nX5_bestAt_X5 hown hK hP 0 rfl rfl 0 (by decide) (hts _ kX5_bestAt_0) (fun _ h9 => h9) rfl dX5_bestAt_1 ?_
  refine lv_aload_n (pc := 4) hx hb dX5_bestAt_4 rfl (lv_at hl 0 rfl) ?_
  refine va_get (D := D) (pc := 5) (ci := 5) (v := .ref h_tried) (C := RX5) (T := TX5) (N := 30) hx hb hts nX5_bestAt_X5 hown hK hP 0 rfl rfl 3 (by decide) (hts _ kX5_bestAt_1) (fun _ h9 => h9) rfl dX5_bestAt_5 ?_
  obtain ⟨u8, hu8, hF⟩ := z_bind hF
  refine zq_callM (oc0 := none) (wc := wX5_moveAll cB cI cJ cO h_row h_tried v_row v_tried) (wc' := wX5_moveAll cB cI cJ cO h_row h_tried v_row u8) (ws' := (wX5_bestAt cB cI cJ cO h0 h_row h_tried h_growing g_fresh g_kept g_isKept g_tape g_tapeMany g_sort g_begins g_tokenEnds g_word g_value g_good g_rows g_must g_rowMany g_sorts g_sizes g_sheets g_holds g_heldNumber g_heldSize g_kind g_number g_ownHand g_traced g_bodies g_isParted v_viewed v_row u8 v_growing)) (va_runS (As := [.ref h_row, .ref h_tried]) (rest := []) ⟨hx, hb, hml, hown, hts⟩ (tX5_moveAll (l := l) (D := D) (cB := cB) (cI := cI) (cJ := cJ) (cO := cO) h_row h_tried v_row v_tried u8 hu8) (va_cwS 2 hts gX5_bestAt_X5_moveAll rfl rfl rfl (by decide +kernel) ⟨Nat.le_of_ble_eq_true rfl, Nat.le_of_ble_eq_true rfl⟩) ⟨zPre_blind, zPre_at hP hE (zD_re hD rfl) [1, 2] rfl rfl⟩ rfl rfl hl.1 rfl (lv_room (Nat.le_of_ble_eq_true rfl)) dX5_bestAt_8 ⟨Nat.zero_le _, Nat.zero_le _⟩) rfl hP (zD_re hD rfl) hS [1, 2] rfl rfl [none, some 0, some 1, none] rfl rfl rfl rfl (fun H locs hP hS => ?_)
  refine W.eq (g2 := F0 m 11 ls []) rfl ?_
  refine lv_iconst (pc := 11) (v := (nI 0)) hx hb dX5_bestAt_11 (by decide) ?_
  refine lv_istore (pc := 12) (lv' := [(4, .int (nI 0)), (0, .ref h0), (1, .int x1), (2, .int x2), (3, .int x3)]) hx hb dX5_bestAt_12 hl (by decide) rfl (fun ls hl => ?_)
  refine lv_iconst (pc := 14) (v := (-1 : Int32)) hx hb dX5_bestAt_14 (by decide) ?_
  refine lv_istore (pc := 15) (lv' := [(5, .int (-1 : Int32)), (4, .int (nI 0)), (0, .ref h0), (1, .int x1), (2, .int x2), (3, .int x3)]) hx hb dX5_bestAt_15 hl (by decide) rfl (fun ls hl => ?_)
  refine lv_iconst (pc := 17) (v := (nI 0)) hx hb dX5_bestAt_17 (by decide) ?_
  refine lv_istore (pc := 18) (lv' := [(6, .int (nI 0)), (5, .int (-1 : Int32)), (4, .int (nI 0)), (0, .ref h0), (1, .int x1), (2, .int x2), (3, .int x3)]) hx hb dX5_bestAt_18 hl (by decide) rfl (fun ls hl => ?_)
  obtain ⟨k_11, hk_11, hF⟩ := z_J hF
  have kk_11 : ∀ (y4_7 : Int32) (v_viewed_8 : Int32) (v_row_9 : Nat → Int32) (v_growing_10 : Nat → Int32) , k_11 y4_7 v_viewed_8 v_row_9 v_growing_10 = some r → ∀ (H : Heap) (locs : List Loc), va_P D vwCl (wX5_bestAt cB cI cJ cO h0 h_row h_tried h_growing g_fresh g_kept g_isKept g_tape g_tapeMany g_sort g_begins g_tokenEnds g_word g_value g_good g_rows g_must g_rowMany g_sorts g_sizes g_sheets g_holds g_heldNumber g_heldSize g_kind g_number g_ownHand g_traced g_bodies g_isParted v_viewed_8 v_row_9 u8 v_growing_10) H → va_S (zAs [h0, h_row, h_tried, h_growing]) s.heap H locs → ∀ (ls : Array Slot), lv_has ls 8 [(4, .int y4_7)] → W p l e rX5_bestAt s m args below meth c H locs 0 0 Q (F0 m 89 ls []) := by
    intro y4_7 v_viewed_8 v_row_9 v_growing_10 hF H locs hP hS ls hl
    rw [hk_11] at hF
    refine lv_iload (pc := 89) hx hb dX5_bestAt_89 (lv_at hl 0 rfl) ?_
    exact z_iretM (pc := 91) (fun q => q.1) (fun q => (wX5_bestAt cB cI cJ cO h0 h_row h_tried h_growing g_fresh g_kept g_isKept g_tape g_tapeMany g_sort g_begins g_tokenEnds g_word g_value g_good g_rows g_must g_rowMany g_sorts g_sizes g_sheets g_holds g_heldNumber g_heldSize g_kind g_number g_ownHand g_traced g_bodies g_isParted q.2.1 q.2.2.1 q.2.2.2.1 q.2.2.2.2)) hx hb hr hlocks hP hS hF rfl hQ dX5_bestAt_91
  have hL_20 : ∀ (n : Nat) (y4_1 : Int32) (y5_2 : Int32) (y6_3 : Int32) (v_viewed_4 : Int32) (v_row_5 : Nat → Int32) (v_growing_6 : Nat → Int32) , fX5_bestAt_L20 x1 x2 x3 u8 k_11 n y4_1 y5_2 y6_3 v_viewed_4 v_row_5 v_growing_6 = some r → ∀ (H : Heap) (locs : List Loc), va_P D vwCl (wX5_bestAt cB cI cJ cO h0 h_row h_tried h_growing g_fresh g_kept g_isKept g_tape g_tapeMany g_sort g_begins g_tokenEnds g_word g_value g_good g_rows g_must g_rowMany g_sorts g_sizes g_sheets g_holds g_heldNumber g_heldSize g_kind g_number g_ownHand g_traced g_bodies g_isParted v_viewed_4 v_row_5 u8 v_growing_6) H → va_S (zAs [h0, h_row, h_tried, h_growing]) s.heap H locs → ∀ (ls : Array Slot), lv_has ls 8 [(0, .ref h0), (1, .int x1), (2, .int x2), (3, .int x3), (4, .int y4_1), (5, .int y5_2), (6, .int y6_3)] → W p l e rX5_bestAt s m args below meth c H locs 0 0 Q (F0 m 20 ls []) := by
    intro n
    induction n with
    | zero =>
      intro y4_1 y5_2 y6_3 v_viewed_4 v_row_5 v_growing_6 hF H locs hP hS ls hl
      exact z_no hF
    | succ n ih =>
      intro y4_1 y5_2 y6_3 v_viewed_4 v_row_5 v_growing_6 hF H locs hP hS ls hl
      rw [fX5_bestAt_L20] at hF
      refine lv_iload (pc := 20) hx hb dX5_bestAt_20 (lv_at hl 6 rfl) ?_
      refine lv_iload_n (pc := 22) hx hb dX5_bestAt_22 rfl (lv_at hl 2 rfl) ?_
      refine zb_icmp_gt (pc := 23) (tgt := 89) hx hb dX5_bestAt_23 (by decide) hF (fun c_23 hF => ?_) (fun c_23 hF => ?_)
      · exact kk_11 y4_1 v_viewed_4 v_row_5 v_growing_6 hF H locs hP hS ls (lv_sub hl [4] rfl)
      · refine lv_aload_n (pc := 26) hx hb dX5_bestAt_26 rfl (lv_at hl 0 rfl) ?_
        refine va_get (D := D) (pc := 27) (ci := 5) (v := .ref h_row) (C := RX5) (T := TX5) (N := 30) hx hb hts nX5_bestAt_X5 hown hK hP 0 rfl rfl 0 (by decide) (hts _ kX5_bestAt_0) (fun _ h9 => h9) rfl dX5_bestAt_27 ?_
        refine lv_iload_n (pc := 30) hx hb dX5_bestAt_30 rfl (lv_at hl 1 rfl) ?_
        refine lv_iload (pc := 31) hx hb dX5_bestAt_31 (lv_at hl 6 rfl) ?_
        refine za_iast (pc := 33) hx hb hK hP (zD_re hD rfl) hS 1 1 rfl rfl dX5_bestAt_33 hF (fun hF H locs hP hS => ?_)
        have hP : va_P D vwCl (wX5_bestAt cB cI cJ cO h0 h_row h_tried h_growing g_fresh g_kept g_isKept g_tape g_tapeMany g_sort g_begins g_tokenEnds g_word g_value g_good g_rows g_must g_rowMany g_sorts g_sizes g_sheets g_holds g_heldNumber g_heldSize g_kind g_number g_ownHand g_traced g_bodies g_isParted v_viewed_4 (upd v_row_5 x1.toNatClampNeg y6_3) u8 v_growing_6) H := hP
        refine lv_aload_n (pc := 34) hx hb dX5_bestAt_34 rfl (lv_at hl 0 rfl) ?_
        refine lv_iload_n (pc := 35) hx hb dX5_bestAt_35 rfl (lv_at hl 3 rfl) ?_
        obtain ⟨u36, hu36, hF⟩ := z_bind hF
        refine zq_callM (oc0 := (some (.int u36.1))) (wc := wX5_viewedBy cB cI cJ cO h0 h_row h_tried h_growing g_fresh g_kept g_isKept g_tape g_tapeMany g_sort g_begins g_tokenEnds g_word g_value g_good g_rows g_must g_rowMany g_sorts g_sizes g_sheets g_holds g_heldNumber g_heldSize g_kind g_number g_ownHand g_traced g_bodies g_isParted v_viewed_4 (upd v_row_5 x1.toNatClampNeg y6_3) u8 v_growing_6) (wc' := wX5_viewedBy cB cI cJ cO h0 h_row h_tried h_growing g_fresh g_kept g_isKept g_tape g_tapeMany g_sort g_begins g_tokenEnds g_word g_value g_good g_rows g_must g_rowMany g_sorts g_sizes g_sheets g_holds g_heldNumber g_heldSize g_kind g_number g_ownHand g_traced g_bodies g_isParted u36.2.1 u36.2.2.1 u8 u36.2.2.2) (ws' := (wX5_bestAt cB cI cJ cO h0 h_row h_tried h_growing g_fresh g_kept g_isKept g_tape g_tapeMany g_sort g_begins g_tokenEnds g_word g_value g_good g_rows g_must g_rowMany g_sorts g_sizes g_sheets g_holds g_heldNumber g_heldSize g_kind g_number g_ownHand g_traced g_bodies g_isParted u36.2.1 u36.2.2.1 u8 u36.2.2.2)) (va_runV (As := [.int x3]) (rest := []) ⟨hx, hb, hml, hown, hts⟩ (tX5_viewedBy (l := l) (D := D) (cB := cB) (cI := cI) (cJ := cJ) (cO := cO) h0 h_row h_tried h_growing g_fresh g_kept g_isKept g_tape g_tapeMany g_sort g_begins g_tokenEnds g_word g_value g_good g_rows g_must g_rowMany g_sorts g_sizes g_sheets g_holds g_heldNumber g_heldSize g_kind g_number g_ownHand g_traced g_bodies g_isParted v_viewed_4 (upd v_row_5 x1.toNatClampNeg y6_3) u8 v_growing_6 x3 u36 hu36) (cwV 1 hts gX5_bestAt_X5_viewedBy rfl rfl rfl (by decide +kernel) ⟨Nat.le_of_ble_eq_true rfl, Nat.le_of_ble_eq_true rfl⟩) ⟨zPre_blind, va_recv hK hP (ci := 5) (q0 := 0) rfl rfl, zPre_at hP hE (zD_re hD rfl) [0, 1, 2, 3] rfl rfl⟩ rfl rfl hl.1 rfl (lv_room (Nat.le_of_ble_eq_true rfl)) dX5_bestAt_36 ⟨Nat.zero_le _, Nat.zero_le _⟩) rfl hP (zD_re hD rfl) hS [0, 1, 2, 3] rfl rfl [some 0, some 1, some 2, some 3] rfl rfl rfl rfl (fun H locs hP hS => ?_)
        refine W.eq (g2 := F0 m 39 ls [.int u36.1]) rfl ?_
        refine lv_istore (pc := 39) (lv' := [(7, .int u36.1), (0, .ref h0), (1, .int x1), (2, .int x2), (3, .int x3), (4, .int y4_1), (5, .int y5_2), (6, .int y6_3)]) hx hb dX5_bestAt_39 hl (by decide) rfl (fun ls hl => ?_)
        refine lv_iload (pc := 41) hx hb dX5_bestAt_41 (lv_at hl 6 rfl) ?_
        obtain ⟨J_13, hJ_13, hF⟩ := z_J hF
        have kJ_13 : ∀ (t0_12 : Int32) , J_13 t0_12 = some r → ∀ (H : Heap) (locs : List Loc), va_P D vwCl (wX5_bestAt cB cI cJ cO h0 h_row h_tried h_growing g_fresh g_kept g_isKept g_tape g_tapeMany g_sort g_begins g_tokenEnds g_word g_value g_good g_rows g_must g_rowMany g_sorts g_sizes g_sheets g_holds g_heldNumber g_heldSize g_kind g_number g_ownHand g_traced g_bodies g_isParted u36.2.1 u36.2.2.1 u8 u36.2.2.2) H → va_S (zAs [h0, h_row, h_tried, h_growing]) s.heap H locs → ∀ (ls : Array Slot), lv_has ls 8 [(0, .ref h0), (1, .int x1), (2, .int x2), (3, .int x3), (5, .int y5_2), (6, .int y6_3), (7, .int u36.1)] → W p l e rX5_bestAt s m args below meth c H locs 0 0 Q (F0 m 60 ls [.int t0_12]) := by
          intro t0_12 hF H locs hP hS ls hl
          rw [hJ_13] at hF
          refine lv_istore (pc := 60) (lv' := [(4, .int t0_12), (0, .ref h0), (1, .int x1), (2, .int x2), (3, .int x3), (5, .int y5_2), (6, .int y6_3), (7, .int u36.1)]) hx hb dX5_bestAt_60 hl (by decide) rfl (fun ls hl => ?_)
          refine lv_iload (pc := 62) hx hb dX5_bestAt_62 (lv_at hl 5 rfl) ?_
          refine zb_if_lt (pc := 64) (tgt := 74) hx hb dX5_bestAt_64 (by decide) hF (fun c_64 hF => ?_) (fun c_64 hF => ?_)
          · refine lv_iload (pc := 74) hx hb dX5_bestAt_74 (lv_at hl 7 rfl) ?_
            refine lv_goto (pc := 76) (tgt := 81) hx hb dX5_bestAt_76 (by decide) ?_
            refine lv_istore (pc := 81) (lv' := [(5, .int u36.1), (4, .int t0_12), (0, .ref h0), (1, .int x1), (2, .int x2), (3, .int x3), (6, .int y6_3), (7, .int u36.1)]) hx hb dX5_bestAt_81 hl (by decide) rfl (fun ls hl => ?_)
            refine lv_iinc (pc := 83) (v := (y6_3 + 1)) (lv' := [(6, .int (y6_3 + 1)), (5, .int u36.1), (4, .int t0_12), (0, .ref h0), (1, .int x1), (2, .int x2), (3, .int x3), (7, .int u36.1)]) hx hb dX5_bestAt_83 hl (k := 6) rfl rfl (by decide) rfl (fun ls hl => ?_)
            refine lv_goto (pc := 86) (tgt := 20) hx hb dX5_bestAt_86 (by decide) ?_
            exact ih t0_12 u36.1 (y6_3 + 1) u36.2.1 u36.2.2.1 u36.2.2.2 hF H locs hP hS ls (lv_sub hl [3, 4, 5, 6, 2, 1, 0] rfl)
          · refine lv_iload (pc := 67) hx hb dX5_bestAt_67 (lv_at hl 7 rfl) ?_
            refine lv_iload (pc := 69) hx hb dX5_bestAt_69 (lv_at hl 5 rfl) ?_
            refine zb_icmp_ge (pc := 71) (tgt := 79) hx hb dX5_bestAt_71 (by decide) hF (fun c_71 hF => ?_) (fun c_71 hF => ?_)
            · refine lv_iload (pc := 79) hx hb dX5_bestAt_79 (lv_at hl 5 rfl) ?_
              refine lv_istore (pc := 81) (lv' := [(5, .int y5_2), (4, .int t0_12), (0, .ref h0), (1, .int x1), (2, .int x2), (3, .int x3), (6, .int y6_3), (7, .int u36.1)]) hx hb dX5_bestAt_81 hl (by decide) rfl (fun ls hl => ?_)
              refine lv_iinc (pc := 83) (v := (y6_3 + 1)) (lv' := [(6, .int (y6_3 + 1)), (5, .int y5_2), (4, .int t0_12), (0, .ref h0), (1, .int x1), (2, .int x2), (3, .int x3), (7, .int u36.1)]) hx hb dX5_bestAt_83 hl (k := 6) rfl rfl (by decide) rfl (fun ls hl => ?_)
              refine lv_goto (pc := 86) (tgt := 20) hx hb dX5_bestAt_86 (by decide) ?_
              exact ih t0_12 y5_2 (y6_3 + 1) u36.2.1 u36.2.2.1 u36.2.2.2 hF H locs hP hS ls (lv_sub hl [3, 4, 5, 6, 2, 1, 0] rfl)
            · refine lv_iload (pc := 74) hx hb dX5_bestAt_74 (lv_at hl 7 rfl) ?_
              refine lv_goto (pc := 76) (tgt := 81) hx hb dX5_bestAt_76 (by decide) ?_
              refine lv_istore (pc := 81) (lv' := [(5, .int u36.1), (4, .int t0_12), (0, .ref h0), (1, .int x1), (2, .int x2), (3, .int x3), (6, .int y6_3), (7, .int u36.1)]) hx hb dX5_bestAt_81 hl (by decide) rfl (fun ls hl => ?_)
              refine lv_iinc (pc := 83) (v := (y6_3 + 1)) (lv' := [(6, .int (y6_3 + 1)), (5, .int u36.1), (4, .int t0_12), (0, .ref h0), (1, .int x1), (2, .int x2), (3, .int x3), (7, .int u36.1)]) hx hb dX5_bestAt_83 hl (k := 6) rfl rfl (by decide) rfl (fun ls hl => ?_)
              refine lv_goto (pc := 86) (tgt := 20) hx hb dX5_bestAt_86 (by decide) ?_
              exact ih t0_12 u36.1 (y6_3 + 1) u36.2.1 u36.2.2.1 u36.2.2.2 hF H locs hP hS ls (lv_sub hl [3, 4, 5, 6, 2, 1, 0] rfl)
        refine zb_if_lt (pc := 43) (tgt := 53) hx hb dX5_bestAt_43 (by decide) hF (fun c_43 hF => ?_) (fun c_43 hF => ?_)
        · refine lv_iload (pc := 53) hx hb dX5_bestAt_53 (lv_at hl 7 rfl) ?_
          refine lv_goto (pc := 55) (tgt := 60) hx hb dX5_bestAt_55 (by decide) ?_
          exact kJ_13 y6_3 hF H locs hP hS ls (lv_sub hl [1, 2, 3, 4, 6, 7, 0] rfl)
        · refine lv_iload (pc := 46) hx hb dX5_bestAt_46 (lv_at hl 0 rfl) ?_
          refine lv_iload (pc := 48) hx hb dX5_bestAt_48 (lv_at hl 6 rfl) ?_
          refine zb_icmp_ge (pc := 50) (tgt := 58) hx hb dX5_bestAt_50 (by decide) hF (fun c_50 hF => ?_) (fun c_50 hF => ?_)
          · refine lv_iload (pc := 58) hx hb dX5_bestAt_58 (lv_at hl 5 rfl) ?_
            exact kJ_13 y4_1 hF H locs hP hS ls (lv_sub hl [1, 2, 3, 4, 6, 7, 0] rfl)
          · refine lv_iload (pc := 53) hx hb dX5_bestAt_53 (lv_at hl 7 rfl) ?_
            refine lv_goto (pc := 55) (tgt := 60) hx hb dX5_bestAt_55 (by decide) ?_
            exact kJ_13 y6_3 hF H locs hP hS ls (lv_sub hl [1, 2, 3, 4, 6, 7, 0] rfl)
  exact hL_20 zK (nI 0) (-1 : Int32) (nI 0) v_viewed v_row v_growing hF H locs hP hS ls (lv_sub hl [3, 4, 5, 6, 2, 1, 0] rfl)

abbrev rX5_groundFor : Room := { frames := 9, cells := 0, slots := 0, locals := 205 }
abbrev wX5_groundFor (cB cI cJ cO : ClassId) (h0 h_row h_tried h_growing : Nat) (g_fresh g_kept g_isKept g_tape g_tapeMany g_sort g_begins g_tokenEnds g_word g_value g_good g_rows g_must g_rowMany g_sorts g_sizes g_sheets g_holds g_heldNumber g_heldSize g_kind g_number g_ownHand g_traced g_bodies g_isParted : Value) (v_viewed : Int32) (v_row : Nat → Int32) (v_tried : Nat → Int32) (v_growing : Nat → Int32) : va_W := [(h0, .inr (5, [.ref h_row, g_fresh, g_kept, .ref h_tried, g_isKept, .int v_viewed, g_tape, g_tapeMany, g_sort, g_begins, g_tokenEnds, g_word, g_value, g_good, .ref h_growing, g_rows, g_must, g_rowMany, g_sorts, g_sizes, g_sheets, g_holds, g_heldNumber, g_heldSize, g_kind, g_number, g_ownHand, g_traced, g_bodies, g_isParted])), (h_row, .inl (cI, 68, .inl v_row)), (h_tried, .inl (cI, 68, .inl v_tried)), (h_growing, .inl (cI, 8, .inl v_growing))]
set_option maxHeartbeats 4000000 in
set_option maxRecDepth 100000 in
theorem tX5_groundFor {l : Launch} {D : va_G} {cB cI cJ cO : ClassId} (h0 h_row h_tried h_growing : Nat) (g_fresh g_kept g_isKept g_tape g_tapeMany g_sort g_begins g_tokenEnds g_word g_value g_good g_rows g_must g_rowMany g_sorts g_sizes g_sheets g_holds g_heldNumber g_heldSize g_kind g_number g_ownHand g_traced g_bodies g_isParted : Value) (v_viewed : Int32) (v_row : Nat → Int32) (v_tried : Nat → Int32) (v_growing : Nat → Int32) (x1 : Int32) (x2 : Int32) (r : Int32 × Int32 × (Nat → Int32) × (Nat → Int32) × (Nat → Int32)) (hF : fX5_groundFor v_viewed v_row v_tried v_growing x1 x2 = some r) : Met l yX5_groundFor wsX5_groundFor rX5_groundFor (zPre D cB cI cJ cO [.ref h0, .int x1, .int x2] (wX5_groundFor cB cI cJ cO h0 h_row h_tried h_growing g_fresh g_kept g_isKept g_tape g_tapeMany g_sort g_begins g_tokenEnds g_word g_value g_good g_rows g_must g_rowMany g_sorts g_sizes g_sheets g_holds g_heldNumber g_heldSize g_kind g_number g_ownHand g_traced g_bodies g_isParted v_viewed v_row v_tried v_growing)) (zPM (some (.int r.1)) D (wX5_groundFor cB cI cJ cO h0 h_row h_tried h_growing g_fresh g_kept g_isKept g_tape g_tapeMany g_sort g_begins g_tokenEnds g_word g_value g_good g_rows g_must g_rowMany g_sorts g_sizes g_sheets g_holds g_heldNumber g_heldSize g_kind g_number g_ownHand g_traced g_bodies g_isParted r.2.1 r.2.2.1 r.2.2.2.1 r.2.2.2.2) (zAs [h0, h_row, h_tried, h_growing])) 0 0 (zAs [h0, h_row, h_tried, h_growing]) := by
  refine zMetM (cc := cX5_groundFor) (maxL := 3) (ret := (some .int)) (lv := [(0, .ref h0), (1, .int x1), (2, .int x2)]) rfl (by decide) rfl (Nat.le_of_ble_eq_true rfl) rfl ?_
  intro p e s m args below meth c ls Q H locs hQ hx hb hr hml hown hts hlocks hname hP hE hD hS hl
  have hown : s.vm.findClass RX5 = some m.cls := hown
  have hK := hE.1
  unfold fX5_groundFor at hF
  refine lv_iload_n (pc := 0) hx hb dX5_groundFor_0 rfl (lv_at hl 1 rfl) ?_
  obtain ⟨u1, hu1, hF⟩ := z_bind hF
  refine zq_call (oc0 := (some (.int u1))) (va_runS (As := [.int x1]) (rest := []) ⟨hx, hb, hml, hown, hts⟩ (tX5_isWall (l := l) (D := D) (cB := cB) (cI := cI) (cJ := cJ) (cO := cO) x1 u1 hu1) (va_cwS 1 hts gX5_groundFor_X5_isWall rfl rfl rfl (by decide +kernel) ⟨Nat.le_of_ble_eq_true rfl, Nat.le_of_ble_eq_true rfl⟩) ⟨zPre_blind, zPre_at hP hE (zD_re hD rfl) [] rfl rfl⟩ rfl rfl hl.1 rfl (lv_room (Nat.le_of_ble_eq_true rfl)) dX5_groundFor_1 ⟨Nat.zero_le _, Nat.zero_le _⟩) ?_
  refine W.eq (g2 := F0 m 4 ls [.int u1]) rfl ?_
  refine zb_if_eq (pc := 4) (tgt := 32) hx hb dX5_groundFor_4 (by decide) hF (fun c_4 hF => ?_) (fun c_4 hF => ?_)
  · refine lv_iconst (pc := 32) (v := (-1 : Int32)) hx hb dX5_groundFor_32 (by decide) ?_
    exact z_iretM (pc := 33) (fun q => q.1) (fun q => (wX5_groundFor cB cI cJ cO h0 h_row h_tried h_growing g_fresh g_kept g_isKept g_tape g_tapeMany g_sort g_begins g_tokenEnds g_word g_value g_good g_rows g_must g_rowMany g_sorts g_sizes g_sheets g_holds g_heldNumber g_heldSize g_kind g_number g_ownHand g_traced g_bodies g_isParted q.2.1 q.2.2.1 q.2.2.2.1 q.2.2.2.2)) hx hb hr hlocks hP hS hF rfl hQ dX5_groundFor_33
  · refine lv_iload_n (pc := 7) hx hb dX5_groundFor_7 rfl (lv_at hl 2 rfl) ?_
    refine lv_iconst (pc := 8) (v := (nI 1)) hx hb dX5_groundFor_8 (by decide) ?_
    refine lv_bipush (pc := 9) (v := (nI 30)) hx hb dX5_groundFor_9 (by decide) ?_
    obtain ⟨u11, hu11, hF⟩ := z_bind hF
    refine zq_call (oc0 := (some (.int u11))) (va_runS (As := [.int x2, .int (nI 1), .int (nI 30)]) (rest := []) ⟨hx, hb, hml, hown, hts⟩ (tX5_in (l := l) (D := D) (cB := cB) (cI := cI) (cJ := cJ) (cO := cO) x2 (nI 1) (nI 30) u11 hu11) (va_cwS 3 hts gX5_groundFor_X5_in rfl rfl rfl (by decide +kernel) ⟨Nat.le_of_ble_eq_true rfl, Nat.le_of_ble_eq_true rfl⟩) ⟨zPre_blind, zPre_at hP hE (zD_re hD rfl) [] rfl rfl⟩ rfl rfl hl.1 rfl (lv_room (Nat.le_of_ble_eq_true rfl)) dX5_groundFor_11 ⟨Nat.zero_le _, Nat.zero_le _⟩) ?_
    refine W.eq (g2 := F0 m 14 ls [.int u11]) rfl ?_
    refine zb_if_eq (pc := 14) (tgt := 32) hx hb dX5_groundFor_14 (by decide) hF (fun c_14 hF => ?_) (fun c_14 hF => ?_)
    · refine lv_iconst (pc := 32) (v := (-1 : Int32)) hx hb dX5_groundFor_32 (by decide) ?_
      exact z_iretM (pc := 33) (fun q => q.1) (fun q => (wX5_groundFor cB cI cJ cO h0 h_row h_tried h_growing g_fresh g_kept g_isKept g_tape g_tapeMany g_sort g_begins g_tokenEnds g_word g_value g_good g_rows g_must g_rowMany g_sorts g_sizes g_sheets g_holds g_heldNumber g_heldSize g_kind g_number g_ownHand g_traced g_bodies g_isParted q.2.1 q.2.2.1 q.2.2.2.1 q.2.2.2.2)) hx hb hr hlocks hP hS hF rfl hQ dX5_groundFor_33
    · refine lv_aload_n (pc := 17) hx hb dX5_groundFor_17 rfl (lv_at hl 0 rfl) ?_
      refine lv_bipush (pc := 18) (v := (nI 8)) hx hb dX5_groundFor_18 (by decide) ?_
      refine lv_iconst (pc := 20) (v := (nI 2)) hx hb dX5_groundFor_20 (by decide) ?_
      refine lv_iload_n (pc := 21) hx hb dX5_groundFor_21 rfl (lv_at hl 1 rfl) ?_
      refine lv_imul (pc := 22) hx hb dX5_groundFor_22 ?_
      refine lv_iadd (pc := 23) hx hb dX5_groundFor_23 ?_
      refine lv_iconst (pc := 24) (v := (nI 2)) hx hb dX5_groundFor_24 (by decide) ?_
      refine lv_iload_n (pc := 25) hx hb dX5_groundFor_25 rfl (lv_at hl 2 rfl) ?_
      obtain ⟨u26, hu26, hF⟩ := z_bind hF
      refine zq_callM (oc0 := (some (.int u26.1))) (wc := wX5_bestAt cB cI cJ cO h0 h_row h_tried h_growing g_fresh g_kept g_isKept g_tape g_tapeMany g_sort g_begins g_tokenEnds g_word g_value g_good g_rows g_must g_rowMany g_sorts g_sizes g_sheets g_holds g_heldNumber g_heldSize g_kind g_number g_ownHand g_traced g_bodies g_isParted v_viewed v_row v_tried v_growing) (wc' := wX5_bestAt cB cI cJ cO h0 h_row h_tried h_growing g_fresh g_kept g_isKept g_tape g_tapeMany g_sort g_begins g_tokenEnds g_word g_value g_good g_rows g_must g_rowMany g_sorts g_sizes g_sheets g_holds g_heldNumber g_heldSize g_kind g_number g_ownHand g_traced g_bodies g_isParted u26.2.1 u26.2.2.1 u26.2.2.2.1 u26.2.2.2.2) (ws' := (wX5_groundFor cB cI cJ cO h0 h_row h_tried h_growing g_fresh g_kept g_isKept g_tape g_tapeMany g_sort g_begins g_tokenEnds g_word g_value g_good g_rows g_must g_rowMany g_sorts g_sizes g_sheets g_holds g_heldNumber g_heldSize g_kind g_number g_ownHand g_traced g_bodies g_isParted u26.2.1 u26.2.2.1 u26.2.2.2.1 u26.2.2.2.2)) (va_runV (As := [.int ((nI 8) + ((nI 2) * x1)), .int (nI 2), .int x2]) (rest := []) ⟨hx, hb, hml, hown, hts⟩ (tX5_bestAt (l := l) (D := D) (cB := cB) (cI := cI) (cJ := cJ) (cO := cO) h0 h_row h_tried h_growing g_fresh g_kept g_isKept g_tape g_tapeMany g_sort g_begins g_tokenEnds g_word g_value g_good g_rows g_must g_rowMany g_sorts g_sizes g_sheets g_holds g_heldNumber g_heldSize g_kind g_number g_ownHand g_traced g_bodies g_isParted v_viewed v_row v_tried v_growing ((nI 8) + ((nI 2) * x1)) (nI 2) x2 u26 hu26) (cwV 3 hts gX5_groundFor_X5_bestAt rfl rfl rfl (by decide +kernel) ⟨Nat.le_of_ble_eq_true rfl, Nat.le_of_ble_eq_true rfl⟩) ⟨zPre_blind, va_recv hK hP (ci := 5) (q0 := 0) rfl rfl, zPre_at hP hE (zD_re hD rfl) [0, 1, 2, 3] rfl rfl⟩ rfl rfl hl.1 rfl (lv_room (Nat.le_of_ble_eq_true rfl)) dX5_groundFor_26 ⟨Nat.zero_le _, Nat.zero_le _⟩) rfl hP (zD_re hD rfl) hS [0, 1, 2, 3] rfl rfl [some 0, some 1, some 2, some 3] rfl rfl rfl rfl (fun H locs hP hS => ?_)
      refine W.eq (g2 := F0 m 29 ls [.int u26.1]) rfl ?_
      refine lv_goto (pc := 29) (tgt := 33) hx hb dX5_groundFor_29 (by decide) ?_
      exact z_iretM (pc := 33) (fun q => q.1) (fun q => (wX5_groundFor cB cI cJ cO h0 h_row h_tried h_growing g_fresh g_kept g_isKept g_tape g_tapeMany g_sort g_begins g_tokenEnds g_word g_value g_good g_rows g_must g_rowMany g_sorts g_sizes g_sheets g_holds g_heldNumber g_heldSize g_kind g_number g_ownHand g_traced g_bodies g_isParted q.2.1 q.2.2.1 q.2.2.2.1 q.2.2.2.2)) hx hb hr hlocks hP hS hF rfl hQ dX5_groundFor_33

abbrev rX5_kindFor : Room := { frames := 9, cells := 0, slots := 0, locals := 205 }
abbrev wX5_kindFor (cB cI cJ cO : ClassId) (h0 h_row h_tried h_growing : Nat) (g_fresh g_kept g_isKept g_tape g_tapeMany g_sort g_begins g_tokenEnds g_word g_value g_good g_rows g_must g_rowMany g_sorts g_sizes g_sheets g_holds g_heldNumber g_heldSize g_kind g_number g_ownHand g_traced g_bodies g_isParted : Value) (v_viewed : Int32) (v_row : Nat → Int32) (v_tried : Nat → Int32) (v_growing : Nat → Int32) : va_W := [(h0, .inr (5, [.ref h_row, g_fresh, g_kept, .ref h_tried, g_isKept, .int v_viewed, g_tape, g_tapeMany, g_sort, g_begins, g_tokenEnds, g_word, g_value, g_good, .ref h_growing, g_rows, g_must, g_rowMany, g_sorts, g_sizes, g_sheets, g_holds, g_heldNumber, g_heldSize, g_kind, g_number, g_ownHand, g_traced, g_bodies, g_isParted])), (h_row, .inl (cI, 68, .inl v_row)), (h_tried, .inl (cI, 68, .inl v_tried)), (h_growing, .inl (cI, 8, .inl v_growing))]
set_option maxHeartbeats 4000000 in
set_option maxRecDepth 100000 in
theorem tX5_kindFor {l : Launch} {D : va_G} {cB cI cJ cO : ClassId} (h0 h_row h_tried h_growing : Nat) (g_fresh g_kept g_isKept g_tape g_tapeMany g_sort g_begins g_tokenEnds g_word g_value g_good g_rows g_must g_rowMany g_sorts g_sizes g_sheets g_holds g_heldNumber g_heldSize g_kind g_number g_ownHand g_traced g_bodies g_isParted : Value) (v_viewed : Int32) (v_row : Nat → Int32) (v_tried : Nat → Int32) (v_growing : Nat → Int32) (x1 : Int32) (x2 : Int32) (r : Int32 × Int32 × (Nat → Int32) × (Nat → Int32) × (Nat → Int32)) (hF : fX5_kindFor v_viewed v_row v_tried v_growing x1 x2 = some r) : Met l yX5_kindFor wsX5_kindFor rX5_kindFor (zPre D cB cI cJ cO [.ref h0, .int x1, .int x2] (wX5_kindFor cB cI cJ cO h0 h_row h_tried h_growing g_fresh g_kept g_isKept g_tape g_tapeMany g_sort g_begins g_tokenEnds g_word g_value g_good g_rows g_must g_rowMany g_sorts g_sizes g_sheets g_holds g_heldNumber g_heldSize g_kind g_number g_ownHand g_traced g_bodies g_isParted v_viewed v_row v_tried v_growing)) (zPM (some (.int r.1)) D (wX5_kindFor cB cI cJ cO h0 h_row h_tried h_growing g_fresh g_kept g_isKept g_tape g_tapeMany g_sort g_begins g_tokenEnds g_word g_value g_good g_rows g_must g_rowMany g_sorts g_sizes g_sheets g_holds g_heldNumber g_heldSize g_kind g_number g_ownHand g_traced g_bodies g_isParted r.2.1 r.2.2.1 r.2.2.2.1 r.2.2.2.2) (zAs [h0, h_row, h_tried, h_growing])) 0 0 (zAs [h0, h_row, h_tried, h_growing]) := by
  refine zMetM (cc := cX5_kindFor) (maxL := 3) (ret := (some .int)) (lv := [(0, .ref h0), (1, .int x1), (2, .int x2)]) rfl (by decide) rfl (Nat.le_of_ble_eq_true rfl) rfl ?_
  intro p e s m args below meth c ls Q H locs hQ hx hb hr hml hown hts hlocks hname hP hE hD hS hl
  have hown : s.vm.findClass RX5 = some m.cls := hown
  have hK := hE.1
  unfold fX5_kindFor at hF
  refine lv_aload_n (pc := 0) hx hb dX5_kindFor_0 rfl (lv_at hl 0 rfl) ?_
  refine lv_iload_n (pc := 1) hx hb dX5_kindFor_1 rfl (lv_at hl 1 rfl) ?_
  obtain ⟨u2, hu2, hF⟩ := z_bind hF
  refine zq_call (oc0 := (some (.int u2))) (va_runV (As := [.int x1]) (rest := []) ⟨hx, hb, hml, hown, hts⟩ (tX5_isOne (l := l) (D := D) (cB := cB) (cI := cI) (cJ := cJ) (cO := cO) h0 h_row g_fresh g_kept (.ref h_tried) g_isKept (.int v_viewed) g_tape g_tapeMany g_sort g_begins g_tokenEnds g_word g_value g_good (.ref h_growing) g_rows g_must g_rowMany g_sorts g_sizes g_sheets g_holds g_heldNumber g_heldSize g_kind g_number g_ownHand g_traced g_bodies g_isParted v_row x1 u2 hu2) (cwV 1 hts gX5_kindFor_X5_isOne rfl rfl rfl (by decide +kernel) ⟨Nat.le_of_ble_eq_true rfl, Nat.le_of_ble_eq_true rfl⟩) ⟨zPre_blind, va_recv hK hP (ci := 5) (q0 := 0) rfl rfl, zPre_at hP hE (zD_re hD rfl) [0, 1] rfl rfl⟩ rfl rfl hl.1 rfl (lv_room (Nat.le_of_ble_eq_true rfl)) dX5_kindFor_2 ⟨Nat.zero_le _, Nat.zero_le _⟩) ?_
  refine W.eq (g2 := F0 m 5 ls [.int u2]) rfl ?_
  refine zb_if_eq (pc := 5) (tgt := 33) hx hb dX5_kindFor_5 (by decide) hF (fun c_5 hF => ?_) (fun c_5 hF => ?_)
  · refine lv_iconst (pc := 33) (v := (-1 : Int32)) hx hb dX5_kindFor_33 (by decide) ?_
    exact z_iretM (pc := 34) (fun q => q.1) (fun q => (wX5_kindFor cB cI cJ cO h0 h_row h_tried h_growing g_fresh g_kept g_isKept g_tape g_tapeMany g_sort g_begins g_tokenEnds g_word g_value g_good g_rows g_must g_rowMany g_sorts g_sizes g_sheets g_holds g_heldNumber g_heldSize g_kind g_number g_ownHand g_traced g_bodies g_isParted q.2.1 q.2.2.1 q.2.2.2.1 q.2.2.2.2)) hx hb hr hlocks hP hS hF rfl hQ dX5_kindFor_34
  · refine lv_iload_n (pc := 8) hx hb dX5_kindFor_8 rfl (lv_at hl 2 rfl) ?_
    refine lv_iconst (pc := 9) (v := (nI 1)) hx hb dX5_kindFor_9 (by decide) ?_
    refine lv_bipush (pc := 10) (v := (nI 30)) hx hb dX5_kindFor_10 (by decide) ?_
    obtain ⟨u12, hu12, hF⟩ := z_bind hF
    refine zq_call (oc0 := (some (.int u12))) (va_runS (As := [.int x2, .int (nI 1), .int (nI 30)]) (rest := []) ⟨hx, hb, hml, hown, hts⟩ (tX5_in (l := l) (D := D) (cB := cB) (cI := cI) (cJ := cJ) (cO := cO) x2 (nI 1) (nI 30) u12 hu12) (va_cwS 3 hts gX5_kindFor_X5_in rfl rfl rfl (by decide +kernel) ⟨Nat.le_of_ble_eq_true rfl, Nat.le_of_ble_eq_true rfl⟩) ⟨zPre_blind, zPre_at hP hE (zD_re hD rfl) [] rfl rfl⟩ rfl rfl hl.1 rfl (lv_room (Nat.le_of_ble_eq_true rfl)) dX5_kindFor_12 ⟨Nat.zero_le _, Nat.zero_le _⟩) ?_
    refine W.eq (g2 := F0 m 15 ls [.int u12]) rfl ?_
    refine zb_if_eq (pc := 15) (tgt := 33) hx hb dX5_kindFor_15 (by decide) hF (fun c_15 hF => ?_) (fun c_15 hF => ?_)
    · refine lv_iconst (pc := 33) (v := (-1 : Int32)) hx hb dX5_kindFor_33 (by decide) ?_
      exact z_iretM (pc := 34) (fun q => q.1) (fun q => (wX5_kindFor cB cI cJ cO h0 h_row h_tried h_growing g_fresh g_kept g_isKept g_tape g_tapeMany g_sort g_begins g_tokenEnds g_word g_value g_good g_rows g_must g_rowMany g_sorts g_sizes g_sheets g_holds g_heldNumber g_heldSize g_kind g_number g_ownHand g_traced g_bodies g_isParted q.2.1 q.2.2.1 q.2.2.2.1 q.2.2.2.2)) hx hb hr hlocks hP hS hF rfl hQ dX5_kindFor_34
    · refine lv_aload_n (pc := 18) hx hb dX5_kindFor_18 rfl (lv_at hl 0 rfl) ?_
      refine lv_bipush (pc := 19) (v := (nI 28)) hx hb dX5_kindFor_19 (by decide) ?_
      refine lv_iconst (pc := 21) (v := (nI 5)) hx hb dX5_kindFor_21 (by decide) ?_
      refine lv_iload_n (pc := 22) hx hb dX5_kindFor_22 rfl (lv_at hl 1 rfl) ?_
      refine lv_imul (pc := 23) hx hb dX5_kindFor_23 ?_
      refine lv_iadd (pc := 24) hx hb dX5_kindFor_24 ?_
      refine lv_iconst (pc := 25) (v := (nI 5)) hx hb dX5_kindFor_25 (by decide) ?_
      refine lv_iload_n (pc := 26) hx hb dX5_kindFor_26 rfl (lv_at hl 2 rfl) ?_
      obtain ⟨u27, hu27, hF⟩ := z_bind hF
      refine zq_callM (oc0 := (some (.int u27.1))) (wc := wX5_bestAt cB cI cJ cO h0 h_row h_tried h_growing g_fresh g_kept g_isKept g_tape g_tapeMany g_sort g_begins g_tokenEnds g_word g_value g_good g_rows g_must g_rowMany g_sorts g_sizes g_sheets g_holds g_heldNumber g_heldSize g_kind g_number g_ownHand g_traced g_bodies g_isParted v_viewed v_row v_tried v_growing) (wc' := wX5_bestAt cB cI cJ cO h0 h_row h_tried h_growing g_fresh g_kept g_isKept g_tape g_tapeMany g_sort g_begins g_tokenEnds g_word g_value g_good g_rows g_must g_rowMany g_sorts g_sizes g_sheets g_holds g_heldNumber g_heldSize g_kind g_number g_ownHand g_traced g_bodies g_isParted u27.2.1 u27.2.2.1 u27.2.2.2.1 u27.2.2.2.2) (ws' := (wX5_kindFor cB cI cJ cO h0 h_row h_tried h_growing g_fresh g_kept g_isKept g_tape g_tapeMany g_sort g_begins g_tokenEnds g_word g_value g_good g_rows g_must g_rowMany g_sorts g_sizes g_sheets g_holds g_heldNumber g_heldSize g_kind g_number g_ownHand g_traced g_bodies g_isParted u27.2.1 u27.2.2.1 u27.2.2.2.1 u27.2.2.2.2)) (va_runV (As := [.int ((nI 28) + ((nI 5) * x1)), .int (nI 5), .int x2]) (rest := []) ⟨hx, hb, hml, hown, hts⟩ (tX5_bestAt (l := l) (D := D) (cB := cB) (cI := cI) (cJ := cJ) (cO := cO) h0 h_row h_tried h_growing g_fresh g_kept g_isKept g_tape g_tapeMany g_sort g_begins g_tokenEnds g_word g_value g_good g_rows g_must g_rowMany g_sorts g_sizes g_sheets g_holds g_heldNumber g_heldSize g_kind g_number g_ownHand g_traced g_bodies g_isParted v_viewed v_row v_tried v_growing ((nI 28) + ((nI 5) * x1)) (nI 5) x2 u27 hu27) (cwV 3 hts gX5_kindFor_X5_bestAt rfl rfl rfl (by decide +kernel) ⟨Nat.le_of_ble_eq_true rfl, Nat.le_of_ble_eq_true rfl⟩) ⟨zPre_blind, va_recv hK hP (ci := 5) (q0 := 0) rfl rfl, zPre_at hP hE (zD_re hD rfl) [0, 1, 2, 3] rfl rfl⟩ rfl rfl hl.1 rfl (lv_room (Nat.le_of_ble_eq_true rfl)) dX5_kindFor_27 ⟨Nat.zero_le _, Nat.zero_le _⟩) rfl hP (zD_re hD rfl) hS [0, 1, 2, 3] rfl rfl [some 0, some 1, some 2, some 3] rfl rfl rfl rfl (fun H locs hP hS => ?_)
      refine W.eq (g2 := F0 m 30 ls [.int u27.1]) rfl ?_
      refine lv_goto (pc := 30) (tgt := 34) hx hb dX5_kindFor_30 (by decide) ?_
      exact z_iretM (pc := 34) (fun q => q.1) (fun q => (wX5_kindFor cB cI cJ cO h0 h_row h_tried h_growing g_fresh g_kept g_isKept g_tape g_tapeMany g_sort g_begins g_tokenEnds g_word g_value g_good g_rows g_must g_rowMany g_sorts g_sizes g_sheets g_holds g_heldNumber g_heldSize g_kind g_number g_ownHand g_traced g_bodies g_isParted q.2.1 q.2.2.1 q.2.2.2.1 q.2.2.2.2)) hx hb hr hlocks hP hS hF rfl hQ dX5_kindFor_34

abbrev rX5_bucketsFor : Room := { frames := 8, cells := 0, slots := 0, locals := 178 }
abbrev wX5_bucketsFor (cB cI cJ cO : ClassId) (h0 h_row h_tried h_growing : Nat) (g_fresh g_kept g_isKept g_tape g_tapeMany g_sort g_begins g_tokenEnds g_word g_value g_good g_rows g_must g_rowMany g_sorts g_sizes g_sheets g_holds g_heldNumber g_heldSize g_kind g_number g_ownHand g_traced g_bodies g_isParted : Value) (v_viewed : Int32) (v_row : Nat → Int32) (v_tried : Nat → Int32) (v_growing : Nat → Int32) : va_W := [(h0, .inr (5, [.ref h_row, g_fresh, g_kept, .ref h_tried, g_isKept, .int v_viewed, g_tape, g_tapeMany, g_sort, g_begins, g_tokenEnds, g_word, g_value, g_good, .ref h_growing, g_rows, g_must, g_rowMany, g_sorts, g_sizes, g_sheets, g_holds, g_heldNumber, g_heldSize, g_kind, g_number, g_ownHand, g_traced, g_bodies, g_isParted])), (h_row, .inl (cI, 68, .inl v_row)), (h_tried, .inl (cI, 68, .inl v_tried)), (h_growing, .inl (cI, 8, .inl v_growing))]
theorem nX5_bucketsFor_X5 : ∀ w ∈ wsX50, w ∈ wsX5_bucketsFor := by decide +kernel
theorem kX5_bucketsFor_0 : Cond.constant RX5 258 (nI 99999) ∈ wsX5_bucketsFor := by decide +kernel
theorem kX5_bucketsFor_1 : Cond.fieldLink RX5 7 "PaintedWallsModel" "row" "[I" ∈ wsX5_bucketsFor := by decide +kernel
theorem kX5_bucketsFor_2 : Cond.fieldLink RX5 19 "PaintedWallsModel" "tried" "[I" ∈ wsX5_bucketsFor := by decide +kernel
set_option maxHeartbeats 4000000 in
set_option maxRecDepth 100000 in
theorem tX5_bucketsFor {l : Launch} {D : va_G} {cB cI cJ cO : ClassId} (h0 h_row h_tried h_growing : Nat) (g_fresh g_kept g_isKept g_tape g_tapeMany g_sort g_begins g_tokenEnds g_word g_value g_good g_rows g_must g_rowMany g_sorts g_sizes g_sheets g_holds g_heldNumber g_heldSize g_kind g_number g_ownHand g_traced g_bodies g_isParted : Value) (v_viewed : Int32) (v_row : Nat → Int32) (v_tried : Nat → Int32) (v_growing : Nat → Int32) (x1 : Int32) (x2 : Int32) (r : Int32 × Int32 × (Nat → Int32) × (Nat → Int32) × (Nat → Int32)) (hF : fX5_bucketsFor v_viewed v_row v_tried v_growing x1 x2 = some r) : Met l yX5_bucketsFor wsX5_bucketsFor rX5_bucketsFor (zPre D cB cI cJ cO [.ref h0, .int x1, .int x2] (wX5_bucketsFor cB cI cJ cO h0 h_row h_tried h_growing g_fresh g_kept g_isKept g_tape g_tapeMany g_sort g_begins g_tokenEnds g_word g_value g_good g_rows g_must g_rowMany g_sorts g_sizes g_sheets g_holds g_heldNumber g_heldSize g_kind g_number g_ownHand g_traced g_bodies g_isParted v_viewed v_row v_tried v_growing)) (zPM (some (.int r.1)) D (wX5_bucketsFor cB cI cJ cO h0 h_row h_tried h_growing g_fresh g_kept g_isKept g_tape g_tapeMany g_sort g_begins g_tokenEnds g_word g_value g_good g_rows g_must g_rowMany g_sorts g_sizes g_sheets g_holds g_heldNumber g_heldSize g_kind g_number g_ownHand g_traced g_bodies g_isParted r.2.1 r.2.2.1 r.2.2.2.1 r.2.2.2.2) (zAs [h0, h_row, h_tried, h_growing])) 0 0 (zAs [h0, h_row, h_tried, h_growing]) := by
  refine zMetM (cc := cX5_bucketsFor) (maxL := 5) (ret := (some .int)) (lv := [(0, .ref h0), (1, .int x1), (2, .int x2)]) rfl (by decide) rfl (Nat.le_of_ble_eq_true rfl) rfl ?_
  intro p e s m args below meth c ls Q H locs hQ hx hb hr hml hown hts hlocks hname hP hE hD hS hl
  have hown : s.vm.findClass RX5 = some m.cls := hown
  have hK := hE.1
  unfold fX5_bucketsFor at hF
  refine lv_iload_n (pc := 0) hx hb dX5_bucketsFor_0 rfl (lv_at hl 1 rfl) ?_
  refine lv_iconst (pc := 1) (v := (nI 1)) hx hb dX5_bucketsFor_1 (by decide) ?_
  refine lv_bipush (pc := 2) (v := (nI 30)) hx hb dX5_bucketsFor_2 (by decide) ?_
  obtain ⟨u4, hu4, hF⟩ := z_bind hF
  refine zq_call (oc0 := (some (.int u4))) (va_runS (As := [.int x1, .int (nI 1), .int (nI 30)]) (rest := []) ⟨hx, hb, hml, hown, hts⟩ (tX5_in (l := l) (D := D) (cB := cB) (cI := cI) (cJ := cJ) (cO := cO) x1 (nI 1) (nI 30) u4 hu4) (va_cwS 3 hts gX5_bucketsFor_X5_in rfl rfl rfl (by decide +kernel) ⟨Nat.le_of_ble_eq_true rfl, Nat.le_of_ble_eq_true rfl⟩) ⟨zPre_blind, zPre_at hP hE (zD_re hD rfl) [] rfl rfl⟩ rfl rfl hl.1 rfl (lv_room (Nat.le_of_ble_eq_true rfl)) dX5_bucketsFor_4 ⟨Nat.zero_le _, Nat.zero_le _⟩) ?_
  refine W.eq (g2 := F0 m 7 ls [.int u4]) rfl ?_
  refine zb_if_eq (pc := 7) (tgt := 21) hx hb dX5_bucketsFor_7 (by decide) hF (fun c_7 hF => ?_) (fun c_7 hF => ?_)
  · refine lv_iconst (pc := 21) (v := (-1 : Int32)) hx hb dX5_bucketsFor_21 (by decide) ?_
    exact z_iretM (pc := 22) (fun q => q.1) (fun q => (wX5_bucketsFor cB cI cJ cO h0 h_row h_tried h_growing g_fresh g_kept g_isKept g_tape g_tapeMany g_sort g_begins g_tokenEnds g_word g_value g_good g_rows g_must g_rowMany g_sorts g_sizes g_sheets g_holds g_heldNumber g_heldSize g_kind g_number g_ownHand g_traced g_bodies g_isParted q.2.1 q.2.2.1 q.2.2.2.1 q.2.2.2.2)) hx hb hr hlocks hP hS hF rfl hQ dX5_bucketsFor_22
  · refine lv_iload_n (pc := 10) hx hb dX5_bucketsFor_10 rfl (lv_at hl 2 rfl) ?_
    refine lv_iconst (pc := 11) (v := (nI 0)) hx hb dX5_bucketsFor_11 (by decide) ?_
    refine lv_ldcw (pc := 12) hx hb hown (hts _ kX5_bucketsFor_0) dX5_bucketsFor_12 ?_
    obtain ⟨u15, hu15, hF⟩ := z_bind hF
    refine zq_call (oc0 := (some (.int u15))) (va_runS (As := [.int x2, .int (nI 0), .int (nI 99999)]) (rest := []) ⟨hx, hb, hml, hown, hts⟩ (tX5_in (l := l) (D := D) (cB := cB) (cI := cI) (cJ := cJ) (cO := cO) x2 (nI 0) (nI 99999) u15 hu15) (va_cwS 3 hts gX5_bucketsFor_X5_in rfl rfl rfl (by decide +kernel) ⟨Nat.le_of_ble_eq_true rfl, Nat.le_of_ble_eq_true rfl⟩) ⟨zPre_blind, zPre_at hP hE (zD_re hD rfl) [] rfl rfl⟩ rfl rfl hl.1 rfl (lv_room (Nat.le_of_ble_eq_true rfl)) dX5_bucketsFor_15 ⟨Nat.zero_le _, Nat.zero_le _⟩) ?_
    refine W.eq (g2 := F0 m 18 ls [.int u15]) rfl ?_
    refine zb_if_ne (pc := 18) (tgt := 23) hx hb dX5_bucketsFor_18 (by decide) hF (fun c_18 hF => ?_) (fun c_18 hF => ?_)
    · refine lv_aload_n (pc := 23) hx hb dX5_bucketsFor_23 rfl (lv_at hl 0 rfl) ?_
      refine va_get (D := D) (pc := 24) (ci := 5) (v := .ref h_row) (C := RX5) (T := TX5) (N := 30) hx hb hts nX5_bucketsFor_X5 hown hK hP 0 rfl rfl 0 (by decide) (hts _ kX5_bucketsFor_1) (fun _ h9 => h9) rfl dX5_bucketsFor_24 ?_
      refine lv_aload_n (pc := 27) hx hb dX5_bucketsFor_27 rfl (lv_at hl 0 rfl) ?_
      refine va_get (D := D) (pc := 28) (ci := 5) (v := .ref h_tried) (C := RX5) (T := TX5) (N := 30) hx hb hts nX5_bucketsFor_X5 hown hK hP 0 rfl rfl 3 (by decide) (hts _ kX5_bucketsFor_2) (fun _ h9 => h9) rfl dX5_bucketsFor_28 ?_
      obtain ⟨u31, hu31, hF⟩ := z_bind hF
      refine zq_callM (oc0 := none) (wc := wX5_moveAll cB cI cJ cO h_row h_tried v_row v_tried) (wc' := wX5_moveAll cB cI cJ cO h_row h_tried v_row u31) (ws' := (wX5_bucketsFor cB cI cJ cO h0 h_row h_tried h_growing g_fresh g_kept g_isKept g_tape g_tapeMany g_sort g_begins g_tokenEnds g_word g_value g_good g_rows g_must g_rowMany g_sorts g_sizes g_sheets g_holds g_heldNumber g_heldSize g_kind g_number g_ownHand g_traced g_bodies g_isParted v_viewed v_row u31 v_growing)) (va_runS (As := [.ref h_row, .ref h_tried]) (rest := []) ⟨hx, hb, hml, hown, hts⟩ (tX5_moveAll (l := l) (D := D) (cB := cB) (cI := cI) (cJ := cJ) (cO := cO) h_row h_tried v_row v_tried u31 hu31) (va_cwS 2 hts gX5_bucketsFor_X5_moveAll rfl rfl rfl (by decide +kernel) ⟨Nat.le_of_ble_eq_true rfl, Nat.le_of_ble_eq_true rfl⟩) ⟨zPre_blind, zPre_at hP hE (zD_re hD rfl) [1, 2] rfl rfl⟩ rfl rfl hl.1 rfl (lv_room (Nat.le_of_ble_eq_true rfl)) dX5_bucketsFor_31 ⟨Nat.zero_le _, Nat.zero_le _⟩) rfl hP (zD_re hD rfl) hS [1, 2] rfl rfl [none, some 0, some 1, none] rfl rfl rfl rfl (fun H locs hP hS => ?_)
      refine W.eq (g2 := F0 m 34 ls []) rfl ?_
      refine lv_iconst (pc := 34) (v := (-1 : Int32)) hx hb dX5_bucketsFor_34 (by decide) ?_
      refine lv_istore_n (pc := 35) (lv' := [(3, .int (-1 : Int32)), (0, .ref h0), (1, .int x1), (2, .int x2)]) hx hb dX5_bucketsFor_35 rfl hl (by decide) rfl (fun ls hl => ?_)
      refine lv_iconst (pc := 36) (v := (nI 0)) hx hb dX5_bucketsFor_36 (by decide) ?_
      refine lv_istore (pc := 37) (lv' := [(4, .int (nI 0)), (3, .int (-1 : Int32)), (0, .ref h0), (1, .int x1), (2, .int x2)]) hx hb dX5_bucketsFor_37 hl (by decide) rfl (fun ls hl => ?_)
      obtain ⟨k_11, hk_11, hF⟩ := z_J hF
      have kk_11 : ∀ (y3_6 : Int32) (y4_7 : Int32) (v_viewed_8 : Int32) (v_row_9 : Nat → Int32) (v_growing_10 : Nat → Int32) , k_11 y3_6 y4_7 v_viewed_8 v_row_9 v_growing_10 = some r → ∀ (H : Heap) (locs : List Loc), va_P D vwCl (wX5_bucketsFor cB cI cJ cO h0 h_row h_tried h_growing g_fresh g_kept g_isKept g_tape g_tapeMany g_sort g_begins g_tokenEnds g_word g_value g_good g_rows g_must g_rowMany g_sorts g_sizes g_sheets g_holds g_heldNumber g_heldSize g_kind g_number g_ownHand g_traced g_bodies g_isParted v_viewed_8 v_row_9 u31 v_growing_10) H → va_S (zAs [h0, h_row, h_tried, h_growing]) s.heap H locs → ∀ (ls : Array Slot), lv_has ls 5 [(3, .int y3_6), (4, .int y4_7)] → W p l e rX5_bucketsFor s m args below meth c H locs 0 0 Q (F0 m 79 ls []) := by
        intro y3_6 y4_7 v_viewed_8 v_row_9 v_growing_10 hF H locs hP hS ls hl
        rw [hk_11] at hF
        refine lv_iload (pc := 79) hx hb dX5_bucketsFor_79 (lv_at hl 1 rfl) ?_
        refine zb_if_eq (pc := 81) (tgt := 88) hx hb dX5_bucketsFor_81 (by decide) hF (fun c_81 hF => ?_) (fun c_81 hF => ?_)
        · refine lv_bipush (pc := 88) (v := (-3 : Int32)) hx hb dX5_bucketsFor_88 (by decide) ?_
          exact z_iretM (pc := 90) (fun q => q.1) (fun q => (wX5_bucketsFor cB cI cJ cO h0 h_row h_tried h_growing g_fresh g_kept g_isKept g_tape g_tapeMany g_sort g_begins g_tokenEnds g_word g_value g_good g_rows g_must g_rowMany g_sorts g_sizes g_sheets g_holds g_heldNumber g_heldSize g_kind g_number g_ownHand g_traced g_bodies g_isParted q.2.1 q.2.2.1 q.2.2.2.1 q.2.2.2.2)) hx hb hr hlocks hP hS hF rfl hQ dX5_bucketsFor_90
        · refine lv_iload_n (pc := 84) hx hb dX5_bucketsFor_84 rfl (lv_at hl 0 rfl) ?_
          refine lv_goto (pc := 85) (tgt := 90) hx hb dX5_bucketsFor_85 (by decide) ?_
          exact z_iretM (pc := 90) (fun q => q.1) (fun q => (wX5_bucketsFor cB cI cJ cO h0 h_row h_tried h_growing g_fresh g_kept g_isKept g_tape g_tapeMany g_sort g_begins g_tokenEnds g_word g_value g_good g_rows g_must g_rowMany g_sorts g_sizes g_sheets g_holds g_heldNumber g_heldSize g_kind g_number g_ownHand g_traced g_bodies g_isParted q.2.1 q.2.2.1 q.2.2.2.1 q.2.2.2.2)) hx hb hr hlocks hP hS hF rfl hQ dX5_bucketsFor_90
      have hL_39 : ∀ (n : Nat) (y3_1 : Int32) (y4_2 : Int32) (v_viewed_3 : Int32) (v_row_4 : Nat → Int32) (v_growing_5 : Nat → Int32) , fX5_bucketsFor_L39 x1 x2 u31 k_11 n y3_1 y4_2 v_viewed_3 v_row_4 v_growing_5 = some r → ∀ (H : Heap) (locs : List Loc), va_P D vwCl (wX5_bucketsFor cB cI cJ cO h0 h_row h_tried h_growing g_fresh g_kept g_isKept g_tape g_tapeMany g_sort g_begins g_tokenEnds g_word g_value g_good g_rows g_must g_rowMany g_sorts g_sizes g_sheets g_holds g_heldNumber g_heldSize g_kind g_number g_ownHand g_traced g_bodies g_isParted v_viewed_3 v_row_4 u31 v_growing_5) H → va_S (zAs [h0, h_row, h_tried, h_growing]) s.heap H locs → ∀ (ls : Array Slot), lv_has ls 5 [(0, .ref h0), (1, .int x1), (2, .int x2), (3, .int y3_1), (4, .int y4_2)] → W p l e rX5_bucketsFor s m args below meth c H locs 0 0 Q (F0 m 39 ls []) := by
        intro n
        induction n with
        | zero =>
          intro y3_1 y4_2 v_viewed_3 v_row_4 v_growing_5 hF H locs hP hS ls hl
          exact z_no hF
        | succ n ih =>
          intro y3_1 y4_2 v_viewed_3 v_row_4 v_growing_5 hF H locs hP hS ls hl
          rw [fX5_bucketsFor_L39] at hF
          refine lv_iload_n (pc := 39) hx hb dX5_bucketsFor_39 rfl (lv_at hl 3 rfl) ?_
          refine lv_bipush (pc := 40) (v := (nI 9)) hx hb dX5_bucketsFor_40 (by decide) ?_
          refine zb_icmp_ge (pc := 42) (tgt := 79) hx hb dX5_bucketsFor_42 (by decide) hF (fun c_42 hF => ?_) (fun c_42 hF => ?_)
          · exact kk_11 y3_1 y4_2 v_viewed_3 v_row_4 v_growing_5 hF H locs hP hS ls (lv_sub hl [3, 4] rfl)
          · refine lv_iload (pc := 45) hx hb dX5_bucketsFor_45 (lv_at hl 4 rfl) ?_
            refine zb_if_ne (pc := 47) (tgt := 79) hx hb dX5_bucketsFor_47 (by decide) hF (fun c_47 hF => ?_) (fun c_47 hF => ?_)
            · exact kk_11 y3_1 y4_2 v_viewed_3 v_row_4 v_growing_5 hF H locs hP hS ls (lv_sub hl [3, 4] rfl)
            · refine lv_iinc (pc := 50) (v := (y3_1 + 1)) (lv' := [(3, .int (y3_1 + 1)), (0, .ref h0), (1, .int x1), (2, .int x2), (4, .int y4_2)]) hx hb dX5_bucketsFor_50 hl (k := 3) rfl rfl (by decide) rfl (fun ls hl => ?_)
              refine lv_aload_n (pc := 53) hx hb dX5_bucketsFor_53 rfl (lv_at hl 1 rfl) ?_
              refine va_get (D := D) (pc := 54) (ci := 5) (v := .ref h_row) (C := RX5) (T := TX5) (N := 30) hx hb hts nX5_bucketsFor_X5 hown hK hP 0 rfl rfl 0 (by decide) (hts _ kX5_bucketsFor_1) (fun _ h9 => h9) rfl dX5_bucketsFor_54 ?_
              refine lv_iconst (pc := 57) (v := (nI 0)) hx hb dX5_bucketsFor_57 (by decide) ?_
              refine lv_iload_n (pc := 58) hx hb dX5_bucketsFor_58 rfl (lv_at hl 0 rfl) ?_
              refine za_iastK (pc := 59) (k := 0) hx hb hK hP (zD_re hD rfl) hS 1 1 rfl rfl (by decide) (by decide) dX5_bucketsFor_59 (fun H locs hP hS => ?_)
              have hP : va_P D vwCl (wX5_bucketsFor cB cI cJ cO h0 h_row h_tried h_growing g_fresh g_kept g_isKept g_tape g_tapeMany g_sort g_begins g_tokenEnds g_word g_value g_good g_rows g_must g_rowMany g_sorts g_sizes g_sheets g_holds g_heldNumber g_heldSize g_kind g_number g_ownHand g_traced g_bodies g_isParted v_viewed_3 (upd v_row_4 0 (y3_1 + 1)) u31 v_growing_5) H := hP
              refine lv_aload_n (pc := 60) hx hb dX5_bucketsFor_60 rfl (lv_at hl 1 rfl) ?_
              refine lv_iload_n (pc := 61) hx hb dX5_bucketsFor_61 rfl (lv_at hl 2 rfl) ?_
              obtain ⟨u62, hu62, hF⟩ := z_bind hF
              refine zq_callM (oc0 := (some (.int u62.1))) (wc := wX5_viewedBy cB cI cJ cO h0 h_row h_tried h_growing g_fresh g_kept g_isKept g_tape g_tapeMany g_sort g_begins g_tokenEnds g_word g_value g_good g_rows g_must g_rowMany g_sorts g_sizes g_sheets g_holds g_heldNumber g_heldSize g_kind g_number g_ownHand g_traced g_bodies g_isParted v_viewed_3 (upd v_row_4 0 (y3_1 + 1)) u31 v_growing_5) (wc' := wX5_viewedBy cB cI cJ cO h0 h_row h_tried h_growing g_fresh g_kept g_isKept g_tape g_tapeMany g_sort g_begins g_tokenEnds g_word g_value g_good g_rows g_must g_rowMany g_sorts g_sizes g_sheets g_holds g_heldNumber g_heldSize g_kind g_number g_ownHand g_traced g_bodies g_isParted u62.2.1 u62.2.2.1 u31 u62.2.2.2) (ws' := (wX5_bucketsFor cB cI cJ cO h0 h_row h_tried h_growing g_fresh g_kept g_isKept g_tape g_tapeMany g_sort g_begins g_tokenEnds g_word g_value g_good g_rows g_must g_rowMany g_sorts g_sizes g_sheets g_holds g_heldNumber g_heldSize g_kind g_number g_ownHand g_traced g_bodies g_isParted u62.2.1 u62.2.2.1 u31 u62.2.2.2)) (va_runV (As := [.int x1]) (rest := []) ⟨hx, hb, hml, hown, hts⟩ (tX5_viewedBy (l := l) (D := D) (cB := cB) (cI := cI) (cJ := cJ) (cO := cO) h0 h_row h_tried h_growing g_fresh g_kept g_isKept g_tape g_tapeMany g_sort g_begins g_tokenEnds g_word g_value g_good g_rows g_must g_rowMany g_sorts g_sizes g_sheets g_holds g_heldNumber g_heldSize g_kind g_number g_ownHand g_traced g_bodies g_isParted v_viewed_3 (upd v_row_4 0 (y3_1 + 1)) u31 v_growing_5 x1 u62 hu62) (cwV 1 hts gX5_bucketsFor_X5_viewedBy rfl rfl rfl (by decide +kernel) ⟨Nat.le_of_ble_eq_true rfl, Nat.le_of_ble_eq_true rfl⟩) ⟨zPre_blind, va_recv hK hP (ci := 5) (q0 := 0) rfl rfl, zPre_at hP hE (zD_re hD rfl) [0, 1, 2, 3] rfl rfl⟩ rfl rfl hl.1 rfl (lv_room (Nat.le_of_ble_eq_true rfl)) dX5_bucketsFor_62 ⟨Nat.zero_le _, Nat.zero_le _⟩) rfl hP (zD_re hD rfl) hS [0, 1, 2, 3] rfl rfl [some 0, some 1, some 2, some 3] rfl rfl rfl rfl (fun H locs hP hS => ?_)
              refine W.eq (g2 := F0 m 65 ls [.int u62.1]) rfl ?_
              refine lv_iload_n (pc := 65) hx hb dX5_bucketsFor_65 rfl (lv_at hl 3 rfl) ?_
              refine zb_icmp_gt (pc := 66) (tgt := 73) hx hb dX5_bucketsFor_66 (by decide) hF (fun c_66 hF => ?_) (fun c_66 hF => ?_)
              · refine lv_iconst (pc := 73) (v := (nI 0)) hx hb dX5_bucketsFor_73 (by decide) ?_
                refine lv_istore (pc := 74) (lv' := [(4, .int (nI 0)), (3, .int (y3_1 + 1)), (0, .ref h0), (1, .int x1), (2, .int x2)]) hx hb dX5_bucketsFor_74 hl (by decide) rfl (fun ls hl => ?_)
                refine lv_goto (pc := 76) (tgt := 39) hx hb dX5_bucketsFor_76 (by decide) ?_
                exact ih (y3_1 + 1) (nI 0) u62.2.1 u62.2.2.1 u62.2.2.2 hF H locs hP hS ls (lv_sub hl [2, 3, 4, 1, 0] rfl)
              · refine lv_iconst (pc := 69) (v := (nI 1)) hx hb dX5_bucketsFor_69 (by decide) ?_
                refine lv_goto (pc := 70) (tgt := 74) hx hb dX5_bucketsFor_70 (by decide) ?_
                refine lv_istore (pc := 74) (lv' := [(4, .int (nI 1)), (3, .int (y3_1 + 1)), (0, .ref h0), (1, .int x1), (2, .int x2)]) hx hb dX5_bucketsFor_74 hl (by decide) rfl (fun ls hl => ?_)
                refine lv_goto (pc := 76) (tgt := 39) hx hb dX5_bucketsFor_76 (by decide) ?_
                exact ih (y3_1 + 1) (nI 1) u62.2.1 u62.2.2.1 u62.2.2.2 hF H locs hP hS ls (lv_sub hl [2, 3, 4, 1, 0] rfl)
      exact hL_39 zK (-1 : Int32) (nI 0) v_viewed v_row v_growing hF H locs hP hS ls (lv_sub hl [2, 3, 4, 1, 0] rfl)
    · refine lv_iconst (pc := 21) (v := (-1 : Int32)) hx hb dX5_bucketsFor_21 (by decide) ?_
      exact z_iretM (pc := 22) (fun q => q.1) (fun q => (wX5_bucketsFor cB cI cJ cO h0 h_row h_tried h_growing g_fresh g_kept g_isKept g_tape g_tapeMany g_sort g_begins g_tokenEnds g_word g_value g_good g_rows g_must g_rowMany g_sorts g_sizes g_sheets g_holds g_heldNumber g_heldSize g_kind g_number g_ownHand g_traced g_bodies g_isParted q.2.1 q.2.2.1 q.2.2.2.1 q.2.2.2.2)) hx hb hr hlocks hP hS hF rfl hQ dX5_bucketsFor_22

abbrev rX5_isWaxed : Room := { frames := 8, cells := 0, slots := 0, locals := 178 }
abbrev wX5_isWaxed (cB cI cJ cO : ClassId) (h0 h_row h_tried h_growing : Nat) (g_fresh g_kept g_isKept g_tape g_tapeMany g_sort g_begins g_tokenEnds g_word g_value g_good g_rows g_must g_rowMany g_sorts g_sizes g_sheets g_holds g_heldNumber g_heldSize g_kind g_number g_ownHand g_traced g_bodies g_isParted : Value) (v_viewed : Int32) (v_row : Nat → Int32) (v_tried : Nat → Int32) (v_growing : Nat → Int32) : va_W := [(h0, .inr (5, [.ref h_row, g_fresh, g_kept, .ref h_tried, g_isKept, .int v_viewed, g_tape, g_tapeMany, g_sort, g_begins, g_tokenEnds, g_word, g_value, g_good, .ref h_growing, g_rows, g_must, g_rowMany, g_sorts, g_sizes, g_sheets, g_holds, g_heldNumber, g_heldSize, g_kind, g_number, g_ownHand, g_traced, g_bodies, g_isParted])), (h_row, .inl (cI, 68, .inl v_row)), (h_tried, .inl (cI, 68, .inl v_tried)), (h_growing, .inl (cI, 8, .inl v_growing))]
theorem nX5_isWaxed_X5 : ∀ w ∈ wsX50, w ∈ wsX5_isWaxed := by decide +kernel
theorem kX5_isWaxed_0 : Cond.fieldLink RX5 7 "PaintedWallsModel" "row" "[I" ∈ wsX5_isWaxed := by decide +kernel
set_option maxHeartbeats 4000000 in
set_option maxRecDepth 100000 in
theorem tX5_isWaxed {l : Launch} {D : va_G} {cB cI cJ cO : ClassId} (h0 h_row h_tried h_growing : Nat) (g_fresh g_kept g_isKept g_tape g_tapeMany g_sort g_begins g_tokenEnds g_word g_value g_good g_rows g_must g_rowMany g_sorts g_sizes g_sheets g_holds g_heldNumber g_heldSize g_kind g_number g_ownHand g_traced g_bodies g_isParted : Value) (v_viewed : Int32) (v_row : Nat → Int32) (v_tried : Nat → Int32) (v_growing : Nat → Int32) (x1 : Int32) (x2 : Int32) (x3 : Int32) (r : Int32 × Int32 × (Nat → Int32) × (Nat → Int32)) (hF : fX5_isWaxed v_viewed v_row v_tried v_growing x1 x2 x3 = some r) : Met l yX5_isWaxed wsX5_isWaxed rX5_isWaxed (zPre D cB cI cJ cO [.ref h0, .int x1, .int x2, .int x3] (wX5_isWaxed cB cI cJ cO h0 h_row h_tried h_growing g_fresh g_kept g_isKept g_tape g_tapeMany g_sort g_begins g_tokenEnds g_word g_value g_good g_rows g_must g_rowMany g_sorts g_sizes g_sheets g_holds g_heldNumber g_heldSize g_kind g_number g_ownHand g_traced g_bodies g_isParted v_viewed v_row v_tried v_growing)) (zPM (some (.int r.1)) D (wX5_isWaxed cB cI cJ cO h0 h_row h_tried h_growing g_fresh g_kept g_isKept g_tape g_tapeMany g_sort g_begins g_tokenEnds g_word g_value g_good g_rows g_must g_rowMany g_sorts g_sizes g_sheets g_holds g_heldNumber g_heldSize g_kind g_number g_ownHand g_traced g_bodies g_isParted r.2.1 r.2.2.1 v_tried r.2.2.2) (zAs [h0, h_row, h_tried, h_growing])) 0 0 (zAs [h0, h_row, h_tried, h_growing]) := by
  refine zMetM (cc := cX5_isWaxed) (maxL := 5) (ret := (some .boolean)) (lv := [(0, .ref h0), (1, .int x1), (2, .int x2), (3, .int x3)]) rfl (by decide) rfl (Nat.le_of_ble_eq_true rfl) rfl ?_
  intro p e s m args below meth c ls Q H locs hQ hx hb hr hml hown hts hlocks hname hP hE hD hS hl
  have hown : s.vm.findClass RX5 = some m.cls := hown
  have hK := hE.1
  unfold fX5_isWaxed at hF
  refine lv_iconst (pc := 0) (v := (nI 0)) hx hb dX5_isWaxed_0 (by decide) ?_
  refine lv_istore (pc := 1) (lv' := [(4, .int (nI 0)), (0, .ref h0), (1, .int x1), (2, .int x2), (3, .int x3)]) hx hb dX5_isWaxed_1 hl (by decide) rfl (fun ls hl => ?_)
  obtain ⟨k_4, hk_4, hF⟩ := z_J hF
  have kk_4 : ∀ (v_row_3 : Nat → Int32) , k_4 v_row_3 = some r → ∀ (H : Heap) (locs : List Loc), va_P D vwCl (wX5_isWaxed cB cI cJ cO h0 h_row h_tried h_growing g_fresh g_kept g_isKept g_tape g_tapeMany g_sort g_begins g_tokenEnds g_word g_value g_good g_rows g_must g_rowMany g_sorts g_sizes g_sheets g_holds g_heldNumber g_heldSize g_kind g_number g_ownHand g_traced g_bodies g_isParted v_viewed v_row_3 v_tried v_growing) H → va_S (zAs [h0, h_row, h_tried, h_growing]) s.heap H locs → ∀ (ls : Array Slot), lv_has ls 5 [(0, .ref h0), (2, .int x2), (3, .int x3)] → W p l e rX5_isWaxed s m args below meth c H locs 0 0 Q (F0 m 48 ls []) := by
    intro v_row_3 hF H locs hP hS ls hl
    rw [hk_4] at hF
    refine lv_aload_n (pc := 48) hx hb dX5_isWaxed_48 rfl (lv_at hl 0 rfl) ?_
    refine lv_iload_n (pc := 49) hx hb dX5_isWaxed_49 rfl (lv_at hl 1 rfl) ?_
    obtain ⟨u50, hu50, hF⟩ := z_bind hF
    refine zq_callM (oc0 := (some (.int u50.1))) (wc := wX5_viewedBy cB cI cJ cO h0 h_row h_tried h_growing g_fresh g_kept g_isKept g_tape g_tapeMany g_sort g_begins g_tokenEnds g_word g_value g_good g_rows g_must g_rowMany g_sorts g_sizes g_sheets g_holds g_heldNumber g_heldSize g_kind g_number g_ownHand g_traced g_bodies g_isParted v_viewed v_row_3 v_tried v_growing) (wc' := wX5_viewedBy cB cI cJ cO h0 h_row h_tried h_growing g_fresh g_kept g_isKept g_tape g_tapeMany g_sort g_begins g_tokenEnds g_word g_value g_good g_rows g_must g_rowMany g_sorts g_sizes g_sheets g_holds g_heldNumber g_heldSize g_kind g_number g_ownHand g_traced g_bodies g_isParted u50.2.1 u50.2.2.1 v_tried u50.2.2.2) (ws' := (wX5_isWaxed cB cI cJ cO h0 h_row h_tried h_growing g_fresh g_kept g_isKept g_tape g_tapeMany g_sort g_begins g_tokenEnds g_word g_value g_good g_rows g_must g_rowMany g_sorts g_sizes g_sheets g_holds g_heldNumber g_heldSize g_kind g_number g_ownHand g_traced g_bodies g_isParted u50.2.1 u50.2.2.1 v_tried u50.2.2.2)) (va_runV (As := [.int x2]) (rest := []) ⟨hx, hb, hml, hown, hts⟩ (tX5_viewedBy (l := l) (D := D) (cB := cB) (cI := cI) (cJ := cJ) (cO := cO) h0 h_row h_tried h_growing g_fresh g_kept g_isKept g_tape g_tapeMany g_sort g_begins g_tokenEnds g_word g_value g_good g_rows g_must g_rowMany g_sorts g_sizes g_sheets g_holds g_heldNumber g_heldSize g_kind g_number g_ownHand g_traced g_bodies g_isParted v_viewed v_row_3 v_tried v_growing x2 u50 hu50) (cwV 1 hts gX5_isWaxed_X5_viewedBy rfl rfl rfl (by decide +kernel) ⟨Nat.le_of_ble_eq_true rfl, Nat.le_of_ble_eq_true rfl⟩) ⟨zPre_blind, va_recv hK hP (ci := 5) (q0 := 0) rfl rfl, zPre_at hP hE (zD_re hD rfl) [0, 1, 2, 3] rfl rfl⟩ rfl rfl hl.1 rfl (lv_room (Nat.le_of_ble_eq_true rfl)) dX5_isWaxed_50 ⟨Nat.zero_le _, Nat.zero_le _⟩) rfl hP (zD_re hD rfl) hS [0, 1, 2, 3] rfl rfl [some 0, some 1, some 2, some 3] rfl rfl rfl rfl (fun H locs hP hS => ?_)
    refine W.eq (g2 := F0 m 53 ls [.int u50.1]) rfl ?_
    refine lv_iload_n (pc := 53) hx hb dX5_isWaxed_53 rfl (lv_at hl 2 rfl) ?_
    refine zb_icmp_gt (pc := 54) (tgt := 61) hx hb dX5_isWaxed_54 (by decide) hF (fun c_54 hF => ?_) (fun c_54 hF => ?_)
    · refine lv_iconst (pc := 61) (v := (nI 0)) hx hb dX5_isWaxed_61 (by decide) ?_
      exact z_zretM (pc := 62) (fun q => q.1) (fun q => (wX5_isWaxed cB cI cJ cO h0 h_row h_tried h_growing g_fresh g_kept g_isKept g_tape g_tapeMany g_sort g_begins g_tokenEnds g_word g_value g_good g_rows g_must g_rowMany g_sorts g_sizes g_sheets g_holds g_heldNumber g_heldSize g_kind g_number g_ownHand g_traced g_bodies g_isParted q.2.1 q.2.2.1 v_tried q.2.2.2)) hx hb hr hlocks (by decide) hP hS hF rfl hQ dX5_isWaxed_62
    · refine lv_iconst (pc := 57) (v := (nI 1)) hx hb dX5_isWaxed_57 (by decide) ?_
      refine lv_goto (pc := 58) (tgt := 62) hx hb dX5_isWaxed_58 (by decide) ?_
      exact z_zretM (pc := 62) (fun q => q.1) (fun q => (wX5_isWaxed cB cI cJ cO h0 h_row h_tried h_growing g_fresh g_kept g_isKept g_tape g_tapeMany g_sort g_begins g_tokenEnds g_word g_value g_good g_rows g_must g_rowMany g_sorts g_sizes g_sheets g_holds g_heldNumber g_heldSize g_kind g_number g_ownHand g_traced g_bodies g_isParted q.2.1 q.2.2.1 v_tried q.2.2.2)) hx hb hr hlocks (by decide) hP hS hF rfl hQ dX5_isWaxed_62
  have hL_3 : ∀ (n : Nat) (y4_1 : Int32) (v_row_2 : Nat → Int32) , fX5_isWaxed_L3 x1 k_4 n y4_1 v_row_2 = some r → ∀ (H : Heap) (locs : List Loc), va_P D vwCl (wX5_isWaxed cB cI cJ cO h0 h_row h_tried h_growing g_fresh g_kept g_isKept g_tape g_tapeMany g_sort g_begins g_tokenEnds g_word g_value g_good g_rows g_must g_rowMany g_sorts g_sizes g_sheets g_holds g_heldNumber g_heldSize g_kind g_number g_ownHand g_traced g_bodies g_isParted v_viewed v_row_2 v_tried v_growing) H → va_S (zAs [h0, h_row, h_tried, h_growing]) s.heap H locs → ∀ (ls : Array Slot), lv_has ls 5 [(0, .ref h0), (1, .int x1), (2, .int x2), (3, .int x3), (4, .int y4_1)] → W p l e rX5_isWaxed s m args below meth c H locs 0 0 Q (F0 m 3 ls []) := by
    intro n
    induction n with
    | zero =>
      intro y4_1 v_row_2 hF H locs hP hS ls hl
      exact z_no hF
    | succ n ih =>
      intro y4_1 v_row_2 hF H locs hP hS ls hl
      rw [fX5_isWaxed_L3] at hF
      refine lv_iload (pc := 3) hx hb dX5_isWaxed_3 (lv_at hl 4 rfl) ?_
      refine lv_bipush (pc := 5) (v := (nI 10)) hx hb dX5_isWaxed_5 (by decide) ?_
      refine zb_icmp_ge (pc := 7) (tgt := 48) hx hb dX5_isWaxed_7 (by decide) hF (fun c_7 hF => ?_) (fun c_7 hF => ?_)
      · exact kk_4 v_row_2 hF H locs hP hS ls (lv_sub hl [0, 2, 3] rfl)
      · refine lv_aload_n (pc := 10) hx hb dX5_isWaxed_10 rfl (lv_at hl 0 rfl) ?_
        refine va_get (D := D) (pc := 11) (ci := 5) (v := .ref h_row) (C := RX5) (T := TX5) (N := 30) hx hb hts nX5_isWaxed_X5 hown hK hP 0 rfl rfl 0 (by decide) (hts _ kX5_isWaxed_0) (fun _ h9 => h9) rfl dX5_isWaxed_11 ?_
        refine lv_bipush (pc := 14) (v := (nI 8)) hx hb dX5_isWaxed_14 (by decide) ?_
        refine lv_iconst (pc := 16) (v := (nI 2)) hx hb dX5_isWaxed_16 (by decide) ?_
        refine lv_iload (pc := 17) hx hb dX5_isWaxed_17 (lv_at hl 4 rfl) ?_
        refine lv_imul (pc := 19) hx hb dX5_isWaxed_19 ?_
        refine lv_iadd (pc := 20) hx hb dX5_isWaxed_20 ?_
        refine lv_iload_n (pc := 21) hx hb dX5_isWaxed_21 rfl (lv_at hl 1 rfl) ?_
        refine lv_iload (pc := 22) hx hb dX5_isWaxed_22 (lv_at hl 4 rfl) ?_
        refine lv_ishr (pc := 24) hx hb dX5_isWaxed_24 ?_
        refine lv_iconst (pc := 25) (v := (nI 1)) hx hb dX5_isWaxed_25 (by decide) ?_
        refine lv_iand (pc := 26) hx hb dX5_isWaxed_26 ?_
        refine lv_iconst (pc := 27) (v := (nI 1)) hx hb dX5_isWaxed_27 (by decide) ?_
        refine zb_icmp_ne (pc := 28) (tgt := 35) hx hb dX5_isWaxed_28 (by decide) hF (fun c_28 hF => ?_) (fun c_28 hF => ?_)
        · refine lv_aload_n (pc := 35) hx hb dX5_isWaxed_35 rfl (lv_at hl 0 rfl) ?_
          refine lv_iload (pc := 36) hx hb dX5_isWaxed_36 (lv_at hl 4 rfl) ?_
          obtain ⟨u38, hu38, hF⟩ := z_bind hF
          refine zq_call (oc0 := (some (.int u38))) (va_runV (As := [.int y4_1]) (rest := [.int ((nI 8) + ((nI 2) * y4_1)), .ref h_row]) ⟨hx, hb, hml, hown, hts⟩ (tX5_ground (l := l) (D := D) (cB := cB) (cI := cI) (cJ := cJ) (cO := cO) h0 h_row g_fresh g_kept (.ref h_tried) g_isKept (.int v_viewed) g_tape g_tapeMany g_sort g_begins g_tokenEnds g_word g_value g_good (.ref h_growing) g_rows g_must g_rowMany g_sorts g_sizes g_sheets g_holds g_heldNumber g_heldSize g_kind g_number g_ownHand g_traced g_bodies g_isParted v_row_2 y4_1 u38 hu38) (cwV 1 hts gX5_isWaxed_X5_ground rfl rfl rfl (by decide +kernel) ⟨Nat.le_of_ble_eq_true rfl, Nat.le_of_ble_eq_true rfl⟩) ⟨zPre_blind, va_recv hK hP (ci := 5) (q0 := 0) rfl rfl, zPre_at hP hE (zD_re hD rfl) [0, 1] rfl rfl⟩ rfl rfl hl.1 rfl (lv_room (Nat.le_of_ble_eq_true rfl)) dX5_isWaxed_38 ⟨Nat.zero_le _, Nat.zero_le _⟩) ?_
          refine W.eq (g2 := F0 m 41 ls [.int u38, .int ((nI 8) + ((nI 2) * y4_1)), .ref h_row]) rfl ?_
          refine za_iast (pc := 41) hx hb hK hP (zD_re hD rfl) hS 1 1 rfl rfl dX5_isWaxed_41 hF (fun hF H locs hP hS => ?_)
          have hP : va_P D vwCl (wX5_isWaxed cB cI cJ cO h0 h_row h_tried h_growing g_fresh g_kept g_isKept g_tape g_tapeMany g_sort g_begins g_tokenEnds g_word g_value g_good g_rows g_must g_rowMany g_sorts g_sizes g_sheets g_holds g_heldNumber g_heldSize g_kind g_number g_ownHand g_traced g_bodies g_isParted v_viewed (upd v_row_2 ((nI 8) + ((nI 2) * y4_1)).toNatClampNeg u38) v_tried v_growing) H := hP
          refine lv_iinc (pc := 42) (v := (y4_1 + 1)) (lv' := [(4, .int (y4_1 + 1)), (0, .ref h0), (1, .int x1), (2, .int x2), (3, .int x3)]) hx hb dX5_isWaxed_42 hl (k := 4) rfl rfl (by decide) rfl (fun ls hl => ?_)
          refine lv_goto (pc := 45) (tgt := 3) hx hb dX5_isWaxed_45 (by decide) ?_
          exact ih (y4_1 + 1) (upd v_row_2 ((nI 8) + ((nI 2) * y4_1)).toNatClampNeg u38) hF H locs hP hS ls (lv_sub hl [1, 2, 3, 4, 0] rfl)
        · refine lv_iconst (pc := 31) (v := (nI 2)) hx hb dX5_isWaxed_31 (by decide) ?_
          refine lv_goto (pc := 32) (tgt := 41) hx hb dX5_isWaxed_32 (by decide) ?_
          refine za_iast (pc := 41) hx hb hK hP (zD_re hD rfl) hS 1 1 rfl rfl dX5_isWaxed_41 hF (fun hF H locs hP hS => ?_)
          have hP : va_P D vwCl (wX5_isWaxed cB cI cJ cO h0 h_row h_tried h_growing g_fresh g_kept g_isKept g_tape g_tapeMany g_sort g_begins g_tokenEnds g_word g_value g_good g_rows g_must g_rowMany g_sorts g_sizes g_sheets g_holds g_heldNumber g_heldSize g_kind g_number g_ownHand g_traced g_bodies g_isParted v_viewed (upd v_row_2 ((nI 8) + ((nI 2) * y4_1)).toNatClampNeg (nI 2)) v_tried v_growing) H := hP
          refine lv_iinc (pc := 42) (v := (y4_1 + 1)) (lv' := [(4, .int (y4_1 + 1)), (0, .ref h0), (1, .int x1), (2, .int x2), (3, .int x3)]) hx hb dX5_isWaxed_42 hl (k := 4) rfl rfl (by decide) rfl (fun ls hl => ?_)
          refine lv_goto (pc := 45) (tgt := 3) hx hb dX5_isWaxed_45 (by decide) ?_
          exact ih (y4_1 + 1) (upd v_row_2 ((nI 8) + ((nI 2) * y4_1)).toNatClampNeg (nI 2)) hF H locs hP hS ls (lv_sub hl [1, 2, 3, 4, 0] rfl)
  exact hL_3 zK (nI 0) v_row hF H locs hP hS ls (lv_sub hl [1, 2, 3, 4, 0] rfl)

abbrev rX5_waxedFor : Room := { frames := 9, cells := 0, slots := 0, locals := 202 }
abbrev wX5_waxedFor (cB cI cJ cO : ClassId) (h0 h_row h_tried h_growing : Nat) (g_fresh g_kept g_isKept g_tape g_tapeMany g_sort g_begins g_tokenEnds g_word g_value g_good g_rows g_must g_rowMany g_sorts g_sizes g_sheets g_holds g_heldNumber g_heldSize g_kind g_number g_ownHand g_traced g_bodies g_isParted : Value) (v_viewed : Int32) (v_row : Nat → Int32) (v_tried : Nat → Int32) (v_growing : Nat → Int32) : va_W := [(h0, .inr (5, [.ref h_row, g_fresh, g_kept, .ref h_tried, g_isKept, .int v_viewed, g_tape, g_tapeMany, g_sort, g_begins, g_tokenEnds, g_word, g_value, g_good, .ref h_growing, g_rows, g_must, g_rowMany, g_sorts, g_sizes, g_sheets, g_holds, g_heldNumber, g_heldSize, g_kind, g_number, g_ownHand, g_traced, g_bodies, g_isParted])), (h_row, .inl (cI, 68, .inl v_row)), (h_tried, .inl (cI, 68, .inl v_tried)), (h_growing, .inl (cI, 8, .inl v_growing))]
theorem nX5_waxedFor_X5 : ∀ w ∈ wsX50, w ∈ wsX5_waxedFor := by decide +kernel
theorem kX5_waxedFor_0 : Cond.constant RX5 258 (nI 99999) ∈ wsX5_waxedFor := by decide +kernel
theorem kX5_waxedFor_1 : Cond.fieldLink RX5 7 "PaintedWallsModel" "row" "[I" ∈ wsX5_waxedFor := by decide +kernel
theorem kX5_waxedFor_2 : Cond.fieldLink RX5 19 "PaintedWallsModel" "tried" "[I" ∈ wsX5_waxedFor := by decide +kernel
set_option maxHeartbeats 4000000 in
set_option maxRecDepth 100000 in
theorem tX5_waxedFor {l : Launch} {D : va_G} {cB cI cJ cO : ClassId} (h0 h_row h_tried h_growing : Nat) (g_fresh g_kept g_isKept g_tape g_tapeMany g_sort g_begins g_tokenEnds g_word g_value g_good g_rows g_must g_rowMany g_sorts g_sizes g_sheets g_holds g_heldNumber g_heldSize g_kind g_number g_ownHand g_traced g_bodies g_isParted : Value) (v_viewed : Int32) (v_row : Nat → Int32) (v_tried : Nat → Int32) (v_growing : Nat → Int32) (x1 : Int32) (x2 : Int32) (r : Int32 × Int32 × (Nat → Int32) × (Nat → Int32) × (Nat → Int32)) (hF : fX5_waxedFor v_viewed v_row v_tried v_growing x1 x2 = some r) : Met l yX5_waxedFor wsX5_waxedFor rX5_waxedFor (zPre D cB cI cJ cO [.ref h0, .int x1, .int x2] (wX5_waxedFor cB cI cJ cO h0 h_row h_tried h_growing g_fresh g_kept g_isKept g_tape g_tapeMany g_sort g_begins g_tokenEnds g_word g_value g_good g_rows g_must g_rowMany g_sorts g_sizes g_sheets g_holds g_heldNumber g_heldSize g_kind g_number g_ownHand g_traced g_bodies g_isParted v_viewed v_row v_tried v_growing)) (zPM (some (.int r.1)) D (wX5_waxedFor cB cI cJ cO h0 h_row h_tried h_growing g_fresh g_kept g_isKept g_tape g_tapeMany g_sort g_begins g_tokenEnds g_word g_value g_good g_rows g_must g_rowMany g_sorts g_sizes g_sheets g_holds g_heldNumber g_heldSize g_kind g_number g_ownHand g_traced g_bodies g_isParted r.2.1 r.2.2.1 r.2.2.2.1 r.2.2.2.2) (zAs [h0, h_row, h_tried, h_growing])) 0 0 (zAs [h0, h_row, h_tried, h_growing]) := by
  refine zMetM (cc := cX5_waxedFor) (maxL := 5) (ret := (some .int)) (lv := [(0, .ref h0), (1, .int x1), (2, .int x2)]) rfl (by decide) rfl (Nat.le_of_ble_eq_true rfl) rfl ?_
  intro p e s m args below meth c ls Q H locs hQ hx hb hr hml hown hts hlocks hname hP hE hD hS hl
  have hown : s.vm.findClass RX5 = some m.cls := hown
  have hK := hE.1
  unfold fX5_waxedFor at hF
  refine lv_iload_n (pc := 0) hx hb dX5_waxedFor_0 rfl (lv_at hl 1 rfl) ?_
  refine lv_iconst (pc := 1) (v := (nI 1)) hx hb dX5_waxedFor_1 (by decide) ?_
  refine lv_bipush (pc := 2) (v := (nI 10)) hx hb dX5_waxedFor_2 (by decide) ?_
  obtain ⟨u4, hu4, hF⟩ := z_bind hF
  refine zq_call (oc0 := (some (.int u4))) (va_runS (As := [.int x1, .int (nI 1), .int (nI 10)]) (rest := []) ⟨hx, hb, hml, hown, hts⟩ (tX5_in (l := l) (D := D) (cB := cB) (cI := cI) (cJ := cJ) (cO := cO) x1 (nI 1) (nI 10) u4 hu4) (va_cwS 3 hts gX5_waxedFor_X5_in rfl rfl rfl (by decide +kernel) ⟨Nat.le_of_ble_eq_true rfl, Nat.le_of_ble_eq_true rfl⟩) ⟨zPre_blind, zPre_at hP hE (zD_re hD rfl) [] rfl rfl⟩ rfl rfl hl.1 rfl (lv_room (Nat.le_of_ble_eq_true rfl)) dX5_waxedFor_4 ⟨Nat.zero_le _, Nat.zero_le _⟩) ?_
  refine W.eq (g2 := F0 m 7 ls [.int u4]) rfl ?_
  refine zb_if_eq (pc := 7) (tgt := 21) hx hb dX5_waxedFor_7 (by decide) hF (fun c_7 hF => ?_) (fun c_7 hF => ?_)
  · refine lv_iconst (pc := 21) (v := (-1 : Int32)) hx hb dX5_waxedFor_21 (by decide) ?_
    exact z_iretM (pc := 22) (fun q => q.1) (fun q => (wX5_waxedFor cB cI cJ cO h0 h_row h_tried h_growing g_fresh g_kept g_isKept g_tape g_tapeMany g_sort g_begins g_tokenEnds g_word g_value g_good g_rows g_must g_rowMany g_sorts g_sizes g_sheets g_holds g_heldNumber g_heldSize g_kind g_number g_ownHand g_traced g_bodies g_isParted q.2.1 q.2.2.1 q.2.2.2.1 q.2.2.2.2)) hx hb hr hlocks hP hS hF rfl hQ dX5_waxedFor_22
  · refine lv_iload_n (pc := 10) hx hb dX5_waxedFor_10 rfl (lv_at hl 2 rfl) ?_
    refine lv_iconst (pc := 11) (v := (nI 0)) hx hb dX5_waxedFor_11 (by decide) ?_
    refine lv_ldcw (pc := 12) hx hb hown (hts _ kX5_waxedFor_0) dX5_waxedFor_12 ?_
    obtain ⟨u15, hu15, hF⟩ := z_bind hF
    refine zq_call (oc0 := (some (.int u15))) (va_runS (As := [.int x2, .int (nI 0), .int (nI 99999)]) (rest := []) ⟨hx, hb, hml, hown, hts⟩ (tX5_in (l := l) (D := D) (cB := cB) (cI := cI) (cJ := cJ) (cO := cO) x2 (nI 0) (nI 99999) u15 hu15) (va_cwS 3 hts gX5_waxedFor_X5_in rfl rfl rfl (by decide +kernel) ⟨Nat.le_of_ble_eq_true rfl, Nat.le_of_ble_eq_true rfl⟩) ⟨zPre_blind, zPre_at hP hE (zD_re hD rfl) [] rfl rfl⟩ rfl rfl hl.1 rfl (lv_room (Nat.le_of_ble_eq_true rfl)) dX5_waxedFor_15 ⟨Nat.zero_le _, Nat.zero_le _⟩) ?_
    refine W.eq (g2 := F0 m 18 ls [.int u15]) rfl ?_
    refine zb_if_ne (pc := 18) (tgt := 23) hx hb dX5_waxedFor_18 (by decide) hF (fun c_18 hF => ?_) (fun c_18 hF => ?_)
    · refine lv_aload_n (pc := 23) hx hb dX5_waxedFor_23 rfl (lv_at hl 0 rfl) ?_
      refine va_get (D := D) (pc := 24) (ci := 5) (v := .ref h_row) (C := RX5) (T := TX5) (N := 30) hx hb hts nX5_waxedFor_X5 hown hK hP 0 rfl rfl 0 (by decide) (hts _ kX5_waxedFor_1) (fun _ h9 => h9) rfl dX5_waxedFor_24 ?_
      refine lv_aload_n (pc := 27) hx hb dX5_waxedFor_27 rfl (lv_at hl 0 rfl) ?_
      refine va_get (D := D) (pc := 28) (ci := 5) (v := .ref h_tried) (C := RX5) (T := TX5) (N := 30) hx hb hts nX5_waxedFor_X5 hown hK hP 0 rfl rfl 3 (by decide) (hts _ kX5_waxedFor_2) (fun _ h9 => h9) rfl dX5_waxedFor_28 ?_
      obtain ⟨u31, hu31, hF⟩ := z_bind hF
      refine zq_callM (oc0 := none) (wc := wX5_moveAll cB cI cJ cO h_row h_tried v_row v_tried) (wc' := wX5_moveAll cB cI cJ cO h_row h_tried v_row u31) (ws' := (wX5_waxedFor cB cI cJ cO h0 h_row h_tried h_growing g_fresh g_kept g_isKept g_tape g_tapeMany g_sort g_begins g_tokenEnds g_word g_value g_good g_rows g_must g_rowMany g_sorts g_sizes g_sheets g_holds g_heldNumber g_heldSize g_kind g_number g_ownHand g_traced g_bodies g_isParted v_viewed v_row u31 v_growing)) (va_runS (As := [.ref h_row, .ref h_tried]) (rest := []) ⟨hx, hb, hml, hown, hts⟩ (tX5_moveAll (l := l) (D := D) (cB := cB) (cI := cI) (cJ := cJ) (cO := cO) h_row h_tried v_row v_tried u31 hu31) (va_cwS 2 hts gX5_waxedFor_X5_moveAll rfl rfl rfl (by decide +kernel) ⟨Nat.le_of_ble_eq_true rfl, Nat.le_of_ble_eq_true rfl⟩) ⟨zPre_blind, zPre_at hP hE (zD_re hD rfl) [1, 2] rfl rfl⟩ rfl rfl hl.1 rfl (lv_room (Nat.le_of_ble_eq_true rfl)) dX5_waxedFor_31 ⟨Nat.zero_le _, Nat.zero_le _⟩) rfl hP (zD_re hD rfl) hS [1, 2] rfl rfl [none, some 0, some 1, none] rfl rfl rfl rfl (fun H locs hP hS => ?_)
      refine W.eq (g2 := F0 m 34 ls []) rfl ?_
      refine lv_iconst (pc := 34) (v := (-1 : Int32)) hx hb dX5_waxedFor_34 (by decide) ?_
      refine lv_istore_n (pc := 35) (lv' := [(3, .int (-1 : Int32)), (0, .ref h0), (1, .int x1), (2, .int x2)]) hx hb dX5_waxedFor_35 rfl hl (by decide) rfl (fun ls hl => ?_)
      refine lv_iconst (pc := 36) (v := (nI 0)) hx hb dX5_waxedFor_36 (by decide) ?_
      refine lv_istore (pc := 37) (lv' := [(4, .int (nI 0)), (3, .int (-1 : Int32)), (0, .ref h0), (1, .int x1), (2, .int x2)]) hx hb dX5_waxedFor_37 hl (by decide) rfl (fun ls hl => ?_)
      obtain ⟨k_10, hk_10, hF⟩ := z_J hF
      have kk_10 : ∀ (y3_6 : Int32) (v_viewed_7 : Int32) (v_row_8 : Nat → Int32) (v_growing_9 : Nat → Int32) , k_10 y3_6 v_viewed_7 v_row_8 v_growing_9 = some r → ∀ (H : Heap) (locs : List Loc), va_P D vwCl (wX5_waxedFor cB cI cJ cO h0 h_row h_tried h_growing g_fresh g_kept g_isKept g_tape g_tapeMany g_sort g_begins g_tokenEnds g_word g_value g_good g_rows g_must g_rowMany g_sorts g_sizes g_sheets g_holds g_heldNumber g_heldSize g_kind g_number g_ownHand g_traced g_bodies g_isParted v_viewed_7 v_row_8 u31 v_growing_9) H → va_S (zAs [h0, h_row, h_tried, h_growing]) s.heap H locs → ∀ (ls : Array Slot), lv_has ls 5 [(3, .int y3_6)] → W p l e rX5_waxedFor s m args below meth c H locs 0 0 Q (F0 m 83 ls []) := by
        intro y3_6 v_viewed_7 v_row_8 v_growing_9 hF H locs hP hS ls hl
        rw [hk_10] at hF
        refine lv_iload_n (pc := 83) hx hb dX5_waxedFor_83 rfl (lv_at hl 0 rfl) ?_
        refine zb_if_ge (pc := 84) (tgt := 92) hx hb dX5_waxedFor_84 (by decide) hF (fun c_84 hF => ?_) (fun c_84 hF => ?_)
        · refine lv_iload_n (pc := 92) hx hb dX5_waxedFor_92 rfl (lv_at hl 0 rfl) ?_
          exact z_iretM (pc := 93) (fun q => q.1) (fun q => (wX5_waxedFor cB cI cJ cO h0 h_row h_tried h_growing g_fresh g_kept g_isKept g_tape g_tapeMany g_sort g_begins g_tokenEnds g_word g_value g_good g_rows g_must g_rowMany g_sorts g_sizes g_sheets g_holds g_heldNumber g_heldSize g_kind g_number g_ownHand g_traced g_bodies g_isParted q.2.1 q.2.2.1 q.2.2.2.1 q.2.2.2.2)) hx hb hr hlocks hP hS hF rfl hQ dX5_waxedFor_93
        · refine lv_bipush (pc := 87) (v := (-3 : Int32)) hx hb dX5_waxedFor_87 (by decide) ?_
          refine lv_goto (pc := 89) (tgt := 93) hx hb dX5_waxedFor_89 (by decide) ?_
          exact z_iretM (pc := 93) (fun q => q.1) (fun q => (wX5_waxedFor cB cI cJ cO h0 h_row h_tried h_growing g_fresh g_kept g_isKept g_tape g_tapeMany g_sort g_begins g_tokenEnds g_word g_value g_good g_rows g_must g_rowMany g_sorts g_sizes g_sheets g_holds g_heldNumber g_heldSize g_kind g_number g_ownHand g_traced g_bodies g_isParted q.2.1 q.2.2.1 q.2.2.2.1 q.2.2.2.2)) hx hb hr hlocks hP hS hF rfl hQ dX5_waxedFor_93
      have hL_39 : ∀ (n : Nat) (y3_1 : Int32) (y4_2 : Int32) (v_viewed_3 : Int32) (v_row_4 : Nat → Int32) (v_growing_5 : Nat → Int32) , fX5_waxedFor_L39 x1 x2 u31 k_10 n y3_1 y4_2 v_viewed_3 v_row_4 v_growing_5 = some r → ∀ (H : Heap) (locs : List Loc), va_P D vwCl (wX5_waxedFor cB cI cJ cO h0 h_row h_tried h_growing g_fresh g_kept g_isKept g_tape g_tapeMany g_sort g_begins g_tokenEnds g_word g_value g_good g_rows g_must g_rowMany g_sorts g_sizes g_sheets g_holds g_heldNumber g_heldSize g_kind g_number g_ownHand g_traced g_bodies g_isParted v_viewed_3 v_row_4 u31 v_growing_5) H → va_S (zAs [h0, h_row, h_tried, h_growing]) s.heap H locs → ∀ (ls : Array Slot), lv_has ls 5 [(0, .ref h0), (1, .int x1), (2, .int x2), (3, .int y3_1), (4, .int y4_2)] → W p l e rX5_waxedFor s m args below meth c H locs 0 0 Q (F0 m 39 ls []) := by
        intro n
        induction n with
        | zero =>
          intro y3_1 y4_2 v_viewed_3 v_row_4 v_growing_5 hF H locs hP hS ls hl
          exact z_no hF
        | succ n ih =>
          intro y3_1 y4_2 v_viewed_3 v_row_4 v_growing_5 hF H locs hP hS ls hl
          rw [fX5_waxedFor_L39] at hF
          refine lv_iload (pc := 39) hx hb dX5_waxedFor_39 (lv_at hl 4 rfl) ?_
          refine lv_sipush (pc := 41) (v := (nI 1024)) hx hb dX5_waxedFor_41 (by decide) ?_
          refine zb_icmp_ge (pc := 44) (tgt := 83) hx hb dX5_waxedFor_44 (by decide) hF (fun c_44 hF => ?_) (fun c_44 hF => ?_)
          · exact kk_10 y3_1 v_viewed_3 v_row_4 v_growing_5 hF H locs hP hS ls (lv_sub hl [3] rfl)
          · refine lv_iload_n (pc := 47) hx hb dX5_waxedFor_47 rfl (lv_at hl 3 rfl) ?_
            refine zb_if_lt (pc := 48) (tgt := 63) hx hb dX5_waxedFor_48 (by decide) hF (fun c_48 hF => ?_) (fun c_48 hF => ?_)
            · refine lv_aload_n (pc := 63) hx hb dX5_waxedFor_63 rfl (lv_at hl 0 rfl) ?_
              refine lv_iload (pc := 64) hx hb dX5_waxedFor_64 (lv_at hl 4 rfl) ?_
              refine lv_iload_n (pc := 66) hx hb dX5_waxedFor_66 rfl (lv_at hl 1 rfl) ?_
              refine lv_iload_n (pc := 67) hx hb dX5_waxedFor_67 rfl (lv_at hl 2 rfl) ?_
              obtain ⟨u68, hu68, hF⟩ := z_bind hF
              refine zq_callM (oc0 := (some (.int u68.1))) (wc := wX5_isWaxed cB cI cJ cO h0 h_row h_tried h_growing g_fresh g_kept g_isKept g_tape g_tapeMany g_sort g_begins g_tokenEnds g_word g_value g_good g_rows g_must g_rowMany g_sorts g_sizes g_sheets g_holds g_heldNumber g_heldSize g_kind g_number g_ownHand g_traced g_bodies g_isParted v_viewed_3 v_row_4 u31 v_growing_5) (wc' := wX5_isWaxed cB cI cJ cO h0 h_row h_tried h_growing g_fresh g_kept g_isKept g_tape g_tapeMany g_sort g_begins g_tokenEnds g_word g_value g_good g_rows g_must g_rowMany g_sorts g_sizes g_sheets g_holds g_heldNumber g_heldSize g_kind g_number g_ownHand g_traced g_bodies g_isParted u68.2.1 u68.2.2.1 u31 u68.2.2.2) (ws' := (wX5_waxedFor cB cI cJ cO h0 h_row h_tried h_growing g_fresh g_kept g_isKept g_tape g_tapeMany g_sort g_begins g_tokenEnds g_word g_value g_good g_rows g_must g_rowMany g_sorts g_sizes g_sheets g_holds g_heldNumber g_heldSize g_kind g_number g_ownHand g_traced g_bodies g_isParted u68.2.1 u68.2.2.1 u31 u68.2.2.2)) (va_runV (As := [.int y4_2, .int x1, .int x2]) (rest := []) ⟨hx, hb, hml, hown, hts⟩ (tX5_isWaxed (l := l) (D := D) (cB := cB) (cI := cI) (cJ := cJ) (cO := cO) h0 h_row h_tried h_growing g_fresh g_kept g_isKept g_tape g_tapeMany g_sort g_begins g_tokenEnds g_word g_value g_good g_rows g_must g_rowMany g_sorts g_sizes g_sheets g_holds g_heldNumber g_heldSize g_kind g_number g_ownHand g_traced g_bodies g_isParted v_viewed_3 v_row_4 u31 v_growing_5 y4_2 x1 x2 u68 hu68) (cwV 3 hts gX5_waxedFor_X5_isWaxed rfl rfl rfl (by decide +kernel) ⟨Nat.le_of_ble_eq_true rfl, Nat.le_of_ble_eq_true rfl⟩) ⟨zPre_blind, va_recv hK hP (ci := 5) (q0 := 0) rfl rfl, zPre_at hP hE (zD_re hD rfl) [0, 1, 2, 3] rfl rfl⟩ rfl rfl hl.1 rfl (lv_room (Nat.le_of_ble_eq_true rfl)) dX5_waxedFor_68 ⟨Nat.zero_le _, Nat.zero_le _⟩) rfl hP (zD_re hD rfl) hS [0, 1, 2, 3] rfl rfl [some 0, some 1, some 2, some 3] rfl rfl rfl rfl (fun H locs hP hS => ?_)
              refine W.eq (g2 := F0 m 71 ls [.int u68.1]) rfl ?_
              refine zb_if_eq (pc := 71) (tgt := 77) hx hb dX5_waxedFor_71 (by decide) hF (fun c_71 hF => ?_) (fun c_71 hF => ?_)
              · refine lv_iinc (pc := 77) (v := (y4_2 + 1)) (lv' := [(4, .int (y4_2 + 1)), (0, .ref h0), (1, .int x1), (2, .int x2), (3, .int y3_1)]) hx hb dX5_waxedFor_77 hl (k := 4) rfl rfl (by decide) rfl (fun ls hl => ?_)
                refine lv_goto (pc := 80) (tgt := 39) hx hb dX5_waxedFor_80 (by decide) ?_
                exact ih y3_1 (y4_2 + 1) u68.2.1 u68.2.2.1 u68.2.2.2 hF H locs hP hS ls (lv_sub hl [1, 2, 3, 4, 0] rfl)
              · refine lv_iload (pc := 74) hx hb dX5_waxedFor_74 (lv_at hl 4 rfl) ?_
                refine lv_istore_n (pc := 76) (lv' := [(3, .int y4_2), (0, .ref h0), (1, .int x1), (2, .int x2), (4, .int y4_2)]) hx hb dX5_waxedFor_76 rfl hl (by decide) rfl (fun ls hl => ?_)
                refine lv_iinc (pc := 77) (v := (y4_2 + 1)) (lv' := [(4, .int (y4_2 + 1)), (3, .int y4_2), (0, .ref h0), (1, .int x1), (2, .int x2)]) hx hb dX5_waxedFor_77 hl (k := 4) rfl rfl (by decide) rfl (fun ls hl => ?_)
                refine lv_goto (pc := 80) (tgt := 39) hx hb dX5_waxedFor_80 (by decide) ?_
                exact ih y4_2 (y4_2 + 1) u68.2.1 u68.2.2.1 u68.2.2.2 hF H locs hP hS ls (lv_sub hl [2, 3, 4, 1, 0] rfl)
            · refine lv_iload (pc := 51) hx hb dX5_waxedFor_51 (lv_at hl 4 rfl) ?_
              obtain ⟨u53, hu53, hF⟩ := z_bind hF
              refine zq_call (oc0 := (some (.int u53))) (va_runS (As := [.int y4_2]) (rest := []) ⟨hx, hb, hml, hown, hts⟩ (tX5_ones (l := l) (D := D) (cB := cB) (cI := cI) (cJ := cJ) (cO := cO) y4_2 u53 hu53) (va_cwS 1 hts gX5_waxedFor_X5_ones rfl rfl rfl (by decide +kernel) ⟨Nat.le_of_ble_eq_true rfl, Nat.le_of_ble_eq_true rfl⟩) ⟨zPre_blind, zPre_at hP hE (zD_re hD rfl) [] rfl rfl⟩ rfl rfl hl.1 rfl (lv_room (Nat.le_of_ble_eq_true rfl)) dX5_waxedFor_53 ⟨Nat.zero_le _, Nat.zero_le _⟩) ?_
              refine W.eq (g2 := F0 m 56 ls [.int u53]) rfl ?_
              refine lv_iload_n (pc := 56) hx hb dX5_waxedFor_56 rfl (lv_at hl 3 rfl) ?_
              obtain ⟨u57, hu57, hF⟩ := z_bind hF
              refine zq_call (oc0 := (some (.int u57))) (va_runS (As := [.int y3_1]) (rest := [.int u53]) ⟨hx, hb, hml, hown, hts⟩ (tX5_ones (l := l) (D := D) (cB := cB) (cI := cI) (cJ := cJ) (cO := cO) y3_1 u57 hu57) (va_cwS 1 hts gX5_waxedFor_X5_ones rfl rfl rfl (by decide +kernel) ⟨Nat.le_of_ble_eq_true rfl, Nat.le_of_ble_eq_true rfl⟩) ⟨zPre_blind, zPre_at hP hE (zD_re hD rfl) [] rfl rfl⟩ rfl rfl hl.1 rfl (lv_room (Nat.le_of_ble_eq_true rfl)) dX5_waxedFor_57 ⟨Nat.zero_le _, Nat.zero_le _⟩) ?_
              refine W.eq (g2 := F0 m 60 ls [.int u57, .int u53]) rfl ?_
              refine zb_icmp_ge (pc := 60) (tgt := 77) hx hb dX5_waxedFor_60 (by decide) hF (fun c_60 hF => ?_) (fun c_60 hF => ?_)
              · refine lv_iinc (pc := 77) (v := (y4_2 + 1)) (lv' := [(4, .int (y4_2 + 1)), (0, .ref h0), (1, .int x1), (2, .int x2), (3, .int y3_1)]) hx hb dX5_waxedFor_77 hl (k := 4) rfl rfl (by decide) rfl (fun ls hl => ?_)
                refine lv_goto (pc := 80) (tgt := 39) hx hb dX5_waxedFor_80 (by decide) ?_
                exact ih y3_1 (y4_2 + 1) v_viewed_3 v_row_4 v_growing_5 hF H locs hP hS ls (lv_sub hl [1, 2, 3, 4, 0] rfl)
              · refine lv_aload_n (pc := 63) hx hb dX5_waxedFor_63 rfl (lv_at hl 0 rfl) ?_
                refine lv_iload (pc := 64) hx hb dX5_waxedFor_64 (lv_at hl 4 rfl) ?_
                refine lv_iload_n (pc := 66) hx hb dX5_waxedFor_66 rfl (lv_at hl 1 rfl) ?_
                refine lv_iload_n (pc := 67) hx hb dX5_waxedFor_67 rfl (lv_at hl 2 rfl) ?_
                obtain ⟨u68_11, hu68_11, hF⟩ := z_bind hF
                refine zq_callM (oc0 := (some (.int u68_11.1))) (wc := wX5_isWaxed cB cI cJ cO h0 h_row h_tried h_growing g_fresh g_kept g_isKept g_tape g_tapeMany g_sort g_begins g_tokenEnds g_word g_value g_good g_rows g_must g_rowMany g_sorts g_sizes g_sheets g_holds g_heldNumber g_heldSize g_kind g_number g_ownHand g_traced g_bodies g_isParted v_viewed_3 v_row_4 u31 v_growing_5) (wc' := wX5_isWaxed cB cI cJ cO h0 h_row h_tried h_growing g_fresh g_kept g_isKept g_tape g_tapeMany g_sort g_begins g_tokenEnds g_word g_value g_good g_rows g_must g_rowMany g_sorts g_sizes g_sheets g_holds g_heldNumber g_heldSize g_kind g_number g_ownHand g_traced g_bodies g_isParted u68_11.2.1 u68_11.2.2.1 u31 u68_11.2.2.2) (ws' := (wX5_waxedFor cB cI cJ cO h0 h_row h_tried h_growing g_fresh g_kept g_isKept g_tape g_tapeMany g_sort g_begins g_tokenEnds g_word g_value g_good g_rows g_must g_rowMany g_sorts g_sizes g_sheets g_holds g_heldNumber g_heldSize g_kind g_number g_ownHand g_traced g_bodies g_isParted u68_11.2.1 u68_11.2.2.1 u31 u68_11.2.2.2)) (va_runV (As := [.int y4_2, .int x1, .int x2]) (rest := []) ⟨hx, hb, hml, hown, hts⟩ (tX5_isWaxed (l := l) (D := D) (cB := cB) (cI := cI) (cJ := cJ) (cO := cO) h0 h_row h_tried h_growing g_fresh g_kept g_isKept g_tape g_tapeMany g_sort g_begins g_tokenEnds g_word g_value g_good g_rows g_must g_rowMany g_sorts g_sizes g_sheets g_holds g_heldNumber g_heldSize g_kind g_number g_ownHand g_traced g_bodies g_isParted v_viewed_3 v_row_4 u31 v_growing_5 y4_2 x1 x2 u68_11 hu68_11) (cwV 3 hts gX5_waxedFor_X5_isWaxed rfl rfl rfl (by decide +kernel) ⟨Nat.le_of_ble_eq_true rfl, Nat.le_of_ble_eq_true rfl⟩) ⟨zPre_blind, va_recv hK hP (ci := 5) (q0 := 0) rfl rfl, zPre_at hP hE (zD_re hD rfl) [0, 1, 2, 3] rfl rfl⟩ rfl rfl hl.1 rfl (lv_room (Nat.le_of_ble_eq_true rfl)) dX5_waxedFor_68 ⟨Nat.zero_le _, Nat.zero_le _⟩) rfl hP (zD_re hD rfl) hS [0, 1, 2, 3] rfl rfl [some 0, some 1, some 2, some 3] rfl rfl rfl rfl (fun H locs hP hS => ?_)
                refine W.eq (g2 := F0 m 71 ls [.int u68_11.1]) rfl ?_
                refine zb_if_eq (pc := 71) (tgt := 77) hx hb dX5_waxedFor_71 (by decide) hF (fun c_71 hF => ?_) (fun c_71 hF => ?_)
                · refine lv_iinc (pc := 77) (v := (y4_2 + 1)) (lv' := [(4, .int (y4_2 + 1)), (0, .ref h0), (1, .int x1), (2, .int x2), (3, .int y3_1)]) hx hb dX5_waxedFor_77 hl (k := 4) rfl rfl (by decide) rfl (fun ls hl => ?_)
                  refine lv_goto (pc := 80) (tgt := 39) hx hb dX5_waxedFor_80 (by decide) ?_
                  exact ih y3_1 (y4_2 + 1) u68_11.2.1 u68_11.2.2.1 u68_11.2.2.2 hF H locs hP hS ls (lv_sub hl [1, 2, 3, 4, 0] rfl)
                · refine lv_iload (pc := 74) hx hb dX5_waxedFor_74 (lv_at hl 4 rfl) ?_
                  refine lv_istore_n (pc := 76) (lv' := [(3, .int y4_2), (0, .ref h0), (1, .int x1), (2, .int x2), (4, .int y4_2)]) hx hb dX5_waxedFor_76 rfl hl (by decide) rfl (fun ls hl => ?_)
                  refine lv_iinc (pc := 77) (v := (y4_2 + 1)) (lv' := [(4, .int (y4_2 + 1)), (3, .int y4_2), (0, .ref h0), (1, .int x1), (2, .int x2)]) hx hb dX5_waxedFor_77 hl (k := 4) rfl rfl (by decide) rfl (fun ls hl => ?_)
                  refine lv_goto (pc := 80) (tgt := 39) hx hb dX5_waxedFor_80 (by decide) ?_
                  exact ih y4_2 (y4_2 + 1) u68_11.2.1 u68_11.2.2.1 u68_11.2.2.2 hF H locs hP hS ls (lv_sub hl [2, 3, 4, 1, 0] rfl)
      exact hL_39 zK (-1 : Int32) (nI 0) v_viewed v_row v_growing hF H locs hP hS ls (lv_sub hl [2, 3, 4, 1, 0] rfl)
    · refine lv_iconst (pc := 21) (v := (-1 : Int32)) hx hb dX5_waxedFor_21 (by decide) ?_
      exact z_iretM (pc := 22) (fun q => q.1) (fun q => (wX5_waxedFor cB cI cJ cO h0 h_row h_tried h_growing g_fresh g_kept g_isKept g_tape g_tapeMany g_sort g_begins g_tokenEnds g_word g_value g_good g_rows g_must g_rowMany g_sorts g_sizes g_sheets g_holds g_heldNumber g_heldSize g_kind g_number g_ownHand g_traced g_bodies g_isParted q.2.1 q.2.2.1 q.2.2.2.1 q.2.2.2.2)) hx hb hr hlocks hP hS hF rfl hQ dX5_waxedFor_22

abbrev rX5_sameHand : Room := { frames := 1, cells := 0, slots := 0, locals := 22 }
abbrev wX5_sameHand (cB cI cJ cO : ClassId) (h0 h_row : Nat) (g_fresh g_kept g_tried g_isKept g_viewed g_tape g_tapeMany g_sort g_begins g_tokenEnds g_word g_value g_good g_growing g_rows g_must g_rowMany g_sorts g_sizes g_sheets g_holds g_heldNumber g_heldSize g_kind g_number g_ownHand g_traced g_bodies g_isParted : Value) (v_row : Nat → Int32) : va_W := [(h0, .inr (5, [.ref h_row, g_fresh, g_kept, g_tried, g_isKept, g_viewed, g_tape, g_tapeMany, g_sort, g_begins, g_tokenEnds, g_word, g_value, g_good, g_growing, g_rows, g_must, g_rowMany, g_sorts, g_sizes, g_sheets, g_holds, g_heldNumber, g_heldSize, g_kind, g_number, g_ownHand, g_traced, g_bodies, g_isParted])), (h_row, .inl (cI, 68, .inl v_row))]
theorem nX5_sameHand_X5 : ∀ w ∈ wsX50, w ∈ wsX5_sameHand := by decide +kernel
theorem kX5_sameHand_0 : Cond.fieldLink RX5 7 "PaintedWallsModel" "row" "[I" ∈ wsX5_sameHand := by decide +kernel
set_option maxHeartbeats 4000000 in
set_option maxRecDepth 100000 in
theorem tX5_sameHand {l : Launch} {D : va_G} {cB cI cJ cO : ClassId} (h0 h_row : Nat) (g_fresh g_kept g_tried g_isKept g_viewed g_tape g_tapeMany g_sort g_begins g_tokenEnds g_word g_value g_good g_growing g_rows g_must g_rowMany g_sorts g_sizes g_sheets g_holds g_heldNumber g_heldSize g_kind g_number g_ownHand g_traced g_bodies g_isParted : Value) (v_row : Nat → Int32) (x1 : Int32) (r : Int32) (hF : fX5_sameHand v_row x1 = some r) : Met l yX5_sameHand wsX5_sameHand rX5_sameHand (zPre D cB cI cJ cO [.ref h0, .int x1] (wX5_sameHand cB cI cJ cO h0 h_row g_fresh g_kept g_tried g_isKept g_viewed g_tape g_tapeMany g_sort g_begins g_tokenEnds g_word g_value g_good g_growing g_rows g_must g_rowMany g_sorts g_sizes g_sheets g_holds g_heldNumber g_heldSize g_kind g_number g_ownHand g_traced g_bodies g_isParted v_row)) (zPI (some (.int r))) 0 0 (fun _ => False) := by
  refine zMetP (cc := cX5_sameHand) (maxL := 4) (ret := (some .int)) (lv := [(0, .ref h0), (1, .int x1)]) (by decide) rfl (Nat.le_of_ble_eq_true rfl) rfl ?_
  intro p e s m args below meth c ls Q hQ hx hb hr hml hown hts hlocks hname hP hE hD hl
  have hown : s.vm.findClass RX5 = some m.cls := hown
  have hK := hE.1
  unfold fX5_sameHand at hF
  refine lv_iconst (pc := 0) (v := (nI 0)) hx hb dX5_sameHand_0 (by decide) ?_
  refine lv_istore_n (pc := 1) (lv' := [(2, .int (nI 0)), (0, .ref h0), (1, .int x1)]) hx hb dX5_sameHand_1 rfl hl (by decide) rfl (fun ls hl => ?_)
  refine lv_iconst (pc := 2) (v := (nI 0)) hx hb dX5_sameHand_2 (by decide) ?_
  refine lv_istore_n (pc := 3) (lv' := [(3, .int (nI 0)), (2, .int (nI 0)), (0, .ref h0), (1, .int x1)]) hx hb dX5_sameHand_3 rfl hl (by decide) rfl (fun ls hl => ?_)
  obtain ⟨k_4, hk_4, hF⟩ := z_J hF
  have kk_4 : ∀ (y2_3 : Int32) , k_4 y2_3 = some r → ∀ (ls : Array Slot), lv_has ls 4 [(2, .int y2_3)] → W p l e rX5_sameHand s m args below meth c s.heap [] 0 0 Q (F0 m 46 ls []) := by
    intro y2_3 hF ls hl
    rw [hk_4] at hF
    refine lv_iload_n (pc := 46) hx hb dX5_sameHand_46 rfl (lv_at hl 0 rfl) ?_
    exact z_iret (pc := 47) (fun q => q) hx hb hr hlocks hF rfl hQ dX5_sameHand_47
  have hL_4 : ∀ (n : Nat) (y2_1 : Int32) (y3_2 : Int32) , fX5_sameHand_L4 v_row x1 k_4 n y2_1 y3_2 = some r → ∀ (ls : Array Slot), lv_has ls 4 [(0, .ref h0), (1, .int x1), (2, .int y2_1), (3, .int y3_2)] → W p l e rX5_sameHand s m args below meth c s.heap [] 0 0 Q (F0 m 4 ls []) := by
    intro n
    induction n with
    | zero =>
      intro y2_1 y3_2 hF ls hl
      exact z_no hF
    | succ n ih =>
      intro y2_1 y3_2 hF ls hl
      rw [fX5_sameHand_L4] at hF
      refine lv_iload_n (pc := 4) hx hb dX5_sameHand_4 rfl (lv_at hl 3 rfl) ?_
      refine lv_aload_n (pc := 5) hx hb dX5_sameHand_5 rfl (lv_at hl 0 rfl) ?_
      refine va_get (D := D) (pc := 6) (ci := 5) (v := .ref h_row) (C := RX5) (T := TX5) (N := 30) hx hb hts nX5_sameHand_X5 hown hK hP 0 rfl rfl 0 (by decide) (hts _ kX5_sameHand_0) (fun _ h9 => h9) rfl dX5_sameHand_6 ?_
      refine lv_bipush (pc := 9) (v := (nI 6)) hx hb dX5_sameHand_9 (by decide) ?_
      refine za_ialdK (pc := 11) (k := 6) hx hb hK hP 1 1 rfl rfl (by decide) (by decide) dX5_sameHand_11 ?_
      refine zb_icmp_ge (pc := 12) (tgt := 46) hx hb dX5_sameHand_12 (by decide) hF (fun c_12 hF => ?_) (fun c_12 hF => ?_)
      · exact kk_4 y2_1 hF ls (lv_sub hl [2] rfl)
      · refine lv_iload_n (pc := 15) hx hb dX5_sameHand_15 rfl (lv_at hl 2 rfl) ?_
        refine lv_aload_n (pc := 16) hx hb dX5_sameHand_16 rfl (lv_at hl 0 rfl) ?_
        refine lv_iload_n (pc := 17) hx hb dX5_sameHand_17 rfl (lv_at hl 3 rfl) ?_
        refine lv_iconst (pc := 18) (v := (nI 1)) hx hb dX5_sameHand_18 (by decide) ?_
        obtain ⟨u19, hu19, hF⟩ := z_bind hF
        refine zq_call (oc0 := (some (.int u19))) (va_runV (As := [.int y3_2, .int (nI 1)]) (rest := [.int y2_1]) ⟨hx, hb, hml, hown, hts⟩ (tX5_its (l := l) (D := D) (cB := cB) (cI := cI) (cJ := cJ) (cO := cO) h0 h_row g_fresh g_kept g_tried g_isKept g_viewed g_tape g_tapeMany g_sort g_begins g_tokenEnds g_word g_value g_good g_growing g_rows g_must g_rowMany g_sorts g_sizes g_sheets g_holds g_heldNumber g_heldSize g_kind g_number g_ownHand g_traced g_bodies g_isParted v_row y3_2 (nI 1) u19 hu19) (cwV 2 hts gX5_sameHand_X5_its rfl rfl rfl (by decide +kernel) ⟨Nat.le_of_ble_eq_true rfl, Nat.le_of_ble_eq_true rfl⟩) ⟨zPre_blind, va_recv hK hP (ci := 5) (q0 := 0) rfl rfl, zPre_at hP hE hD [0, 1] rfl rfl⟩ rfl rfl hl.1 rfl (lv_room (Nat.le_of_ble_eq_true rfl)) dX5_sameHand_19 ⟨Nat.zero_le _, Nat.zero_le _⟩) ?_
        refine W.eq (g2 := F0 m 22 ls [.int u19, .int y2_1]) rfl ?_
        refine lv_aload_n (pc := 22) hx hb dX5_sameHand_22 rfl (lv_at hl 0 rfl) ?_
        refine lv_iload_n (pc := 23) hx hb dX5_sameHand_23 rfl (lv_at hl 1 rfl) ?_
        refine lv_iconst (pc := 24) (v := (nI 1)) hx hb dX5_sameHand_24 (by decide) ?_
        obtain ⟨u25, hu25, hF⟩ := z_bind hF
        refine zq_call (oc0 := (some (.int u25))) (va_runV (As := [.int x1, .int (nI 1)]) (rest := [.int u19, .int y2_1]) ⟨hx, hb, hml, hown, hts⟩ (tX5_its (l := l) (D := D) (cB := cB) (cI := cI) (cJ := cJ) (cO := cO) h0 h_row g_fresh g_kept g_tried g_isKept g_viewed g_tape g_tapeMany g_sort g_begins g_tokenEnds g_word g_value g_good g_growing g_rows g_must g_rowMany g_sorts g_sizes g_sheets g_holds g_heldNumber g_heldSize g_kind g_number g_ownHand g_traced g_bodies g_isParted v_row x1 (nI 1) u25 hu25) (cwV 2 hts gX5_sameHand_X5_its rfl rfl rfl (by decide +kernel) ⟨Nat.le_of_ble_eq_true rfl, Nat.le_of_ble_eq_true rfl⟩) ⟨zPre_blind, va_recv hK hP (ci := 5) (q0 := 0) rfl rfl, zPre_at hP hE hD [0, 1] rfl rfl⟩ rfl rfl hl.1 rfl (lv_room (Nat.le_of_ble_eq_true rfl)) dX5_sameHand_25 ⟨Nat.zero_le _, Nat.zero_le _⟩) ?_
        refine W.eq (g2 := F0 m 28 ls [.int u25, .int u19, .int y2_1]) rfl ?_
        refine zb_icmp_ne (pc := 28) (tgt := 37) hx hb dX5_sameHand_28 (by decide) hF (fun c_28 hF => ?_) (fun c_28 hF => ?_)
        · refine lv_iconst (pc := 37) (v := (nI 0)) hx hb dX5_sameHand_37 (by decide) ?_
          refine lv_ior (pc := 38) hx hb dX5_sameHand_38 ?_
          refine lv_istore_n (pc := 39) (lv' := [(2, .int (y2_1 ||| (nI 0))), (0, .ref h0), (1, .int x1), (3, .int y3_2)]) hx hb dX5_sameHand_39 rfl hl (by decide) rfl (fun ls hl => ?_)
          refine lv_iinc (pc := 40) (v := (y3_2 + 1)) (lv' := [(3, .int (y3_2 + 1)), (2, .int (y2_1 ||| (nI 0))), (0, .ref h0), (1, .int x1)]) hx hb dX5_sameHand_40 hl (k := 3) rfl rfl (by decide) rfl (fun ls hl => ?_)
          refine lv_goto (pc := 43) (tgt := 4) hx hb dX5_sameHand_43 (by decide) ?_
          exact ih (y2_1 ||| (nI 0)) (y3_2 + 1) hF ls (lv_sub hl [2, 3, 1, 0] rfl)
        · refine lv_iconst (pc := 31) (v := (nI 1)) hx hb dX5_sameHand_31 (by decide) ?_
          refine lv_iload_n (pc := 32) hx hb dX5_sameHand_32 rfl (lv_at hl 3 rfl) ?_
          refine lv_ishl (pc := 33) hx hb dX5_sameHand_33 ?_
          refine lv_goto (pc := 34) (tgt := 38) hx hb dX5_sameHand_34 (by decide) ?_
          refine lv_ior (pc := 38) hx hb dX5_sameHand_38 ?_
          refine lv_istore_n (pc := 39) (lv' := [(2, .int (y2_1 ||| ((nI 1) <<< (y3_2 &&& 31)))), (0, .ref h0), (1, .int x1), (3, .int y3_2)]) hx hb dX5_sameHand_39 rfl hl (by decide) rfl (fun ls hl => ?_)
          refine lv_iinc (pc := 40) (v := (y3_2 + 1)) (lv' := [(3, .int (y3_2 + 1)), (2, .int (y2_1 ||| ((nI 1) <<< (y3_2 &&& 31)))), (0, .ref h0), (1, .int x1)]) hx hb dX5_sameHand_40 hl (k := 3) rfl rfl (by decide) rfl (fun ls hl => ?_)
          refine lv_goto (pc := 43) (tgt := 4) hx hb dX5_sameHand_43 (by decide) ?_
          exact ih (y2_1 ||| ((nI 1) <<< (y3_2 &&& 31))) (y3_2 + 1) hF ls (lv_sub hl [2, 3, 1, 0] rfl)
  exact hL_4 zK (nI 0) (nI 0) hF ls (lv_sub hl [2, 3, 1, 0] rfl)

abbrev rX5_handsOfAll : Room := { frames := 1, cells := 0, slots := 0, locals := 22 }
abbrev wX5_handsOfAll (cB cI cJ cO : ClassId) (h0 h_row : Nat) (g_fresh g_kept g_tried g_isKept g_viewed g_tape g_tapeMany g_sort g_begins g_tokenEnds g_word g_value g_good g_growing g_rows g_must g_rowMany g_sorts g_sizes g_sheets g_holds g_heldNumber g_heldSize g_kind g_number g_ownHand g_traced g_bodies g_isParted : Value) (v_row : Nat → Int32) : va_W := [(h0, .inr (5, [.ref h_row, g_fresh, g_kept, g_tried, g_isKept, g_viewed, g_tape, g_tapeMany, g_sort, g_begins, g_tokenEnds, g_word, g_value, g_good, g_growing, g_rows, g_must, g_rowMany, g_sorts, g_sizes, g_sheets, g_holds, g_heldNumber, g_heldSize, g_kind, g_number, g_ownHand, g_traced, g_bodies, g_isParted])), (h_row, .inl (cI, 68, .inl v_row))]
theorem nX5_handsOfAll_X5 : ∀ w ∈ wsX50, w ∈ wsX5_handsOfAll := by decide +kernel
theorem kX5_handsOfAll_0 : Cond.fieldLink RX5 7 "PaintedWallsModel" "row" "[I" ∈ wsX5_handsOfAll := by decide +kernel
set_option maxHeartbeats 4000000 in
set_option maxRecDepth 100000 in
theorem tX5_handsOfAll {l : Launch} {D : va_G} {cB cI cJ cO : ClassId} (h0 h_row : Nat) (g_fresh g_kept g_tried g_isKept g_viewed g_tape g_tapeMany g_sort g_begins g_tokenEnds g_word g_value g_good g_growing g_rows g_must g_rowMany g_sorts g_sizes g_sheets g_holds g_heldNumber g_heldSize g_kind g_number g_ownHand g_traced g_bodies g_isParted : Value) (v_row : Nat → Int32) (r : Int32) (hF : fX5_handsOfAll v_row = some r) : Met l yX5_handsOfAll wsX5_handsOfAll rX5_handsOfAll (zPre D cB cI cJ cO [.ref h0] (wX5_handsOfAll cB cI cJ cO h0 h_row g_fresh g_kept g_tried g_isKept g_viewed g_tape g_tapeMany g_sort g_begins g_tokenEnds g_word g_value g_good g_growing g_rows g_must g_rowMany g_sorts g_sizes g_sheets g_holds g_heldNumber g_heldSize g_kind g_number g_ownHand g_traced g_bodies g_isParted v_row)) (zPI (some (.int r))) 0 0 (fun _ => False) := by
  refine zMetP (cc := cX5_handsOfAll) (maxL := 3) (ret := (some .int)) (lv := [(0, .ref h0)]) (by decide) rfl (Nat.le_of_ble_eq_true rfl) rfl ?_
  intro p e s m args below meth c ls Q hQ hx hb hr hml hown hts hlocks hname hP hE hD hl
  have hown : s.vm.findClass RX5 = some m.cls := hown
  have hK := hE.1
  unfold fX5_handsOfAll at hF
  refine lv_iconst (pc := 0) (v := (nI 0)) hx hb dX5_handsOfAll_0 (by decide) ?_
  refine lv_istore_n (pc := 1) (lv' := [(1, .int (nI 0)), (0, .ref h0)]) hx hb dX5_handsOfAll_1 rfl hl (by decide) rfl (fun ls hl => ?_)
  refine lv_iconst (pc := 2) (v := (nI 0)) hx hb dX5_handsOfAll_2 (by decide) ?_
  refine lv_istore_n (pc := 3) (lv' := [(2, .int (nI 0)), (1, .int (nI 0)), (0, .ref h0)]) hx hb dX5_handsOfAll_3 rfl hl (by decide) rfl (fun ls hl => ?_)
  obtain ⟨k_4, hk_4, hF⟩ := z_J hF
  have kk_4 : ∀ (y1_3 : Int32) , k_4 y1_3 = some r → ∀ (ls : Array Slot), lv_has ls 3 [(1, .int y1_3)] → W p l e rX5_handsOfAll s m args below meth c s.heap [] 0 0 Q (F0 m 32 ls []) := by
    intro y1_3 hF ls hl
    rw [hk_4] at hF
    refine lv_iload_n (pc := 32) hx hb dX5_handsOfAll_32 rfl (lv_at hl 0 rfl) ?_
    obtain ⟨u33, hu33, hF⟩ := z_bind hF
    refine zq_call (oc0 := (some (.int u33))) (va_runS (As := [.int y1_3]) (rest := []) ⟨hx, hb, hml, hown, hts⟩ (tX5_ones (l := l) (D := D) (cB := cB) (cI := cI) (cJ := cJ) (cO := cO) y1_3 u33 hu33) (va_cwS 1 hts gX5_handsOfAll_X5_ones rfl rfl rfl (by decide +kernel) ⟨Nat.le_of_ble_eq_true rfl, Nat.le_of_ble_eq_true rfl⟩) ⟨zPre_blind, zPre_at hP hE hD [] rfl rfl⟩ rfl rfl hl.1 rfl (lv_room (Nat.le_of_ble_eq_true rfl)) dX5_handsOfAll_33 ⟨Nat.zero_le _, Nat.zero_le _⟩) ?_
    refine W.eq (g2 := F0 m 36 ls [.int u33]) rfl ?_
    exact z_iret (pc := 36) (fun q => q) hx hb hr hlocks hF rfl hQ dX5_handsOfAll_36
  have hL_4 : ∀ (n : Nat) (y1_1 : Int32) (y2_2 : Int32) , fX5_handsOfAll_L4 v_row k_4 n y1_1 y2_2 = some r → ∀ (ls : Array Slot), lv_has ls 3 [(0, .ref h0), (1, .int y1_1), (2, .int y2_2)] → W p l e rX5_handsOfAll s m args below meth c s.heap [] 0 0 Q (F0 m 4 ls []) := by
    intro n
    induction n with
    | zero =>
      intro y1_1 y2_2 hF ls hl
      exact z_no hF
    | succ n ih =>
      intro y1_1 y2_2 hF ls hl
      rw [fX5_handsOfAll_L4] at hF
      refine lv_iload_n (pc := 4) hx hb dX5_handsOfAll_4 rfl (lv_at hl 2 rfl) ?_
      refine lv_aload_n (pc := 5) hx hb dX5_handsOfAll_5 rfl (lv_at hl 0 rfl) ?_
      refine va_get (D := D) (pc := 6) (ci := 5) (v := .ref h_row) (C := RX5) (T := TX5) (N := 30) hx hb hts nX5_handsOfAll_X5 hown hK hP 0 rfl rfl 0 (by decide) (hts _ kX5_handsOfAll_0) (fun _ h9 => h9) rfl dX5_handsOfAll_6 ?_
      refine lv_bipush (pc := 9) (v := (nI 6)) hx hb dX5_handsOfAll_9 (by decide) ?_
      refine za_ialdK (pc := 11) (k := 6) hx hb hK hP 1 1 rfl rfl (by decide) (by decide) dX5_handsOfAll_11 ?_
      refine zb_icmp_ge (pc := 12) (tgt := 32) hx hb dX5_handsOfAll_12 (by decide) hF (fun c_12 hF => ?_) (fun c_12 hF => ?_)
      · exact kk_4 y1_1 hF ls (lv_sub hl [1] rfl)
      · refine lv_iload_n (pc := 15) hx hb dX5_handsOfAll_15 rfl (lv_at hl 1 rfl) ?_
        refine lv_iconst (pc := 16) (v := (nI 1)) hx hb dX5_handsOfAll_16 (by decide) ?_
        refine lv_aload_n (pc := 17) hx hb dX5_handsOfAll_17 rfl (lv_at hl 0 rfl) ?_
        refine lv_iload_n (pc := 18) hx hb dX5_handsOfAll_18 rfl (lv_at hl 2 rfl) ?_
        refine lv_iconst (pc := 19) (v := (nI 1)) hx hb dX5_handsOfAll_19 (by decide) ?_
        obtain ⟨u20, hu20, hF⟩ := z_bind hF
        refine zq_call (oc0 := (some (.int u20))) (va_runV (As := [.int y2_2, .int (nI 1)]) (rest := [.int (nI 1), .int y1_1]) ⟨hx, hb, hml, hown, hts⟩ (tX5_its (l := l) (D := D) (cB := cB) (cI := cI) (cJ := cJ) (cO := cO) h0 h_row g_fresh g_kept g_tried g_isKept g_viewed g_tape g_tapeMany g_sort g_begins g_tokenEnds g_word g_value g_good g_growing g_rows g_must g_rowMany g_sorts g_sizes g_sheets g_holds g_heldNumber g_heldSize g_kind g_number g_ownHand g_traced g_bodies g_isParted v_row y2_2 (nI 1) u20 hu20) (cwV 2 hts gX5_handsOfAll_X5_its rfl rfl rfl (by decide +kernel) ⟨Nat.le_of_ble_eq_true rfl, Nat.le_of_ble_eq_true rfl⟩) ⟨zPre_blind, va_recv hK hP (ci := 5) (q0 := 0) rfl rfl, zPre_at hP hE hD [0, 1] rfl rfl⟩ rfl rfl hl.1 rfl (lv_room (Nat.le_of_ble_eq_true rfl)) dX5_handsOfAll_20 ⟨Nat.zero_le _, Nat.zero_le _⟩) ?_
        refine W.eq (g2 := F0 m 23 ls [.int u20, .int (nI 1), .int y1_1]) rfl ?_
        refine lv_ishl (pc := 23) hx hb dX5_handsOfAll_23 ?_
        refine lv_ior (pc := 24) hx hb dX5_handsOfAll_24 ?_
        refine lv_istore_n (pc := 25) (lv' := [(1, .int (y1_1 ||| ((nI 1) <<< (u20 &&& 31)))), (0, .ref h0), (2, .int y2_2)]) hx hb dX5_handsOfAll_25 rfl hl (by decide) rfl (fun ls hl => ?_)
        refine lv_iinc (pc := 26) (v := (y2_2 + 1)) (lv' := [(2, .int (y2_2 + 1)), (1, .int (y1_1 ||| ((nI 1) <<< (u20 &&& 31)))), (0, .ref h0)]) hx hb dX5_handsOfAll_26 hl (k := 2) rfl rfl (by decide) rfl (fun ls hl => ?_)
        refine lv_goto (pc := 29) (tgt := 4) hx hb dX5_handsOfAll_29 (by decide) ?_
        exact ih (y1_1 ||| ((nI 1) <<< (u20 &&& 31))) (y2_2 + 1) hF ls (lv_sub hl [2, 1, 0] rfl)
  exact hL_4 zK (nI 0) (nI 0) hF ls (lv_sub hl [2, 1, 0] rfl)

abbrev rX5_hands : Room := { frames := 2, cells := 0, slots := 0, locals := 45 }
abbrev wX5_hands (cB cI cJ cO : ClassId) (h0 h_row : Nat) (g_fresh g_kept g_tried g_isKept g_viewed g_tape g_tapeMany g_sort g_begins g_tokenEnds g_word g_value g_good g_growing g_rows g_must g_rowMany g_sorts g_sizes g_sheets g_holds g_heldNumber g_heldSize g_kind g_number g_ownHand g_traced g_bodies g_isParted : Value) (v_row : Nat → Int32) : va_W := [(h0, .inr (5, [.ref h_row, g_fresh, g_kept, g_tried, g_isKept, g_viewed, g_tape, g_tapeMany, g_sort, g_begins, g_tokenEnds, g_word, g_value, g_good, g_growing, g_rows, g_must, g_rowMany, g_sorts, g_sizes, g_sheets, g_holds, g_heldNumber, g_heldSize, g_kind, g_number, g_ownHand, g_traced, g_bodies, g_isParted])), (h_row, .inl (cI, 68, .inl v_row))]
set_option maxHeartbeats 4000000 in
set_option maxRecDepth 100000 in
theorem tX5_hands {l : Launch} {D : va_G} {cB cI cJ cO : ClassId} (h0 h_row : Nat) (g_fresh g_kept g_tried g_isKept g_viewed g_tape g_tapeMany g_sort g_begins g_tokenEnds g_word g_value g_good g_growing g_rows g_must g_rowMany g_sorts g_sizes g_sheets g_holds g_heldNumber g_heldSize g_kind g_number g_ownHand g_traced g_bodies g_isParted : Value) (v_row : Nat → Int32) (x1 : Int32) (x2 : Int32) (r : Int32) (hF : fX5_hands v_row x1 x2 = some r) : Met l yX5_hands wsX5_hands rX5_hands (zPre D cB cI cJ cO [.ref h0, .int x1, .int x2] (wX5_hands cB cI cJ cO h0 h_row g_fresh g_kept g_tried g_isKept g_viewed g_tape g_tapeMany g_sort g_begins g_tokenEnds g_word g_value g_good g_growing g_rows g_must g_rowMany g_sorts g_sizes g_sheets g_holds g_heldNumber g_heldSize g_kind g_number g_ownHand g_traced g_bodies g_isParted v_row)) (zPI (some (.int r))) 0 0 (fun _ => False) := by
  refine zMetP (cc := cX5_hands) (maxL := 3) (ret := (some .int)) (lv := [(0, .ref h0), (1, .int x1), (2, .int x2)]) (by decide) rfl (Nat.le_of_ble_eq_true rfl) rfl ?_
  intro p e s m args below meth c ls Q hQ hx hb hr hml hown hts hlocks hname hP hE hD hl
  have hown : s.vm.findClass RX5 = some m.cls := hown
  have hK := hE.1
  unfold fX5_hands at hF
  refine lv_iload_n (pc := 0) hx hb dX5_hands_0 rfl (lv_at hl 1 rfl) ?_
  refine zb_if_ne (pc := 1) (tgt := 9) hx hb dX5_hands_1 (by decide) hF (fun c_1 hF => ?_) (fun c_1 hF => ?_)
  · refine lv_iload_n (pc := 9) hx hb dX5_hands_9 rfl (lv_at hl 1 rfl) ?_
    refine lv_iconst (pc := 10) (v := (nI 1)) hx hb dX5_hands_10 (by decide) ?_
    refine zb_icmp_ne (pc := 11) (tgt := 30) hx hb dX5_hands_11 (by decide) hF (fun c_11 hF => ?_) (fun c_11 hF => ?_)
    · refine lv_iconst (pc := 30) (v := (-1 : Int32)) hx hb dX5_hands_30 (by decide) ?_
      exact z_iret (pc := 31) (fun q => q) hx hb hr hlocks hF rfl hQ dX5_hands_31
    · refine lv_aload_n (pc := 14) hx hb dX5_hands_14 rfl (lv_at hl 0 rfl) ?_
      refine lv_iload_n (pc := 15) hx hb dX5_hands_15 rfl (lv_at hl 2 rfl) ?_
      obtain ⟨u16, hu16, hF⟩ := z_bind hF
      refine zq_call (oc0 := (some (.int u16))) (va_runV (As := [.int x2]) (rest := []) ⟨hx, hb, hml, hown, hts⟩ (tX5_isOne (l := l) (D := D) (cB := cB) (cI := cI) (cJ := cJ) (cO := cO) h0 h_row g_fresh g_kept g_tried g_isKept g_viewed g_tape g_tapeMany g_sort g_begins g_tokenEnds g_word g_value g_good g_growing g_rows g_must g_rowMany g_sorts g_sizes g_sheets g_holds g_heldNumber g_heldSize g_kind g_number g_ownHand g_traced g_bodies g_isParted v_row x2 u16 hu16) (cwV 1 hts gX5_hands_X5_isOne rfl rfl rfl (by decide +kernel) ⟨Nat.le_of_ble_eq_true rfl, Nat.le_of_ble_eq_true rfl⟩) ⟨zPre_blind, va_recv hK hP (ci := 5) (q0 := 0) rfl rfl, zPre_at hP hE hD [0, 1] rfl rfl⟩ rfl rfl hl.1 rfl (lv_room (Nat.le_of_ble_eq_true rfl)) dX5_hands_16 ⟨Nat.zero_le _, Nat.zero_le _⟩) ?_
      refine W.eq (g2 := F0 m 19 ls [.int u16]) rfl ?_
      refine zb_if_eq (pc := 19) (tgt := 30) hx hb dX5_hands_19 (by decide) hF (fun c_19 hF => ?_) (fun c_19 hF => ?_)
      · refine lv_iconst (pc := 30) (v := (-1 : Int32)) hx hb dX5_hands_30 (by decide) ?_
        exact z_iret (pc := 31) (fun q => q) hx hb hr hlocks hF rfl hQ dX5_hands_31
      · refine lv_aload_n (pc := 22) hx hb dX5_hands_22 rfl (lv_at hl 0 rfl) ?_
        refine lv_iload_n (pc := 23) hx hb dX5_hands_23 rfl (lv_at hl 2 rfl) ?_
        obtain ⟨u24, hu24, hF⟩ := z_bind hF
        refine zq_call (oc0 := (some (.int u24))) (va_runV (As := [.int x2]) (rest := []) ⟨hx, hb, hml, hown, hts⟩ (tX5_sameHand (l := l) (D := D) (cB := cB) (cI := cI) (cJ := cJ) (cO := cO) h0 h_row g_fresh g_kept g_tried g_isKept g_viewed g_tape g_tapeMany g_sort g_begins g_tokenEnds g_word g_value g_good g_growing g_rows g_must g_rowMany g_sorts g_sizes g_sheets g_holds g_heldNumber g_heldSize g_kind g_number g_ownHand g_traced g_bodies g_isParted v_row x2 u24 hu24) (cwV 1 hts gX5_hands_X5_sameHand rfl rfl rfl (by decide +kernel) ⟨Nat.le_of_ble_eq_true rfl, Nat.le_of_ble_eq_true rfl⟩) ⟨zPre_blind, va_recv hK hP (ci := 5) (q0 := 0) rfl rfl, zPre_at hP hE hD [0, 1] rfl rfl⟩ rfl rfl hl.1 rfl (lv_room (Nat.le_of_ble_eq_true rfl)) dX5_hands_24 ⟨Nat.zero_le _, Nat.zero_le _⟩) ?_
        refine W.eq (g2 := F0 m 27 ls [.int u24]) rfl ?_
        refine lv_goto (pc := 27) (tgt := 31) hx hb dX5_hands_27 (by decide) ?_
        exact z_iret (pc := 31) (fun q => q) hx hb hr hlocks hF rfl hQ dX5_hands_31
  · refine lv_aload_n (pc := 4) hx hb dX5_hands_4 rfl (lv_at hl 0 rfl) ?_
    obtain ⟨u5, hu5, hF⟩ := z_bind hF
    refine zq_call (oc0 := (some (.int u5))) (va_runV (As := []) (rest := []) ⟨hx, hb, hml, hown, hts⟩ (tX5_handsOfAll (l := l) (D := D) (cB := cB) (cI := cI) (cJ := cJ) (cO := cO) h0 h_row g_fresh g_kept g_tried g_isKept g_viewed g_tape g_tapeMany g_sort g_begins g_tokenEnds g_word g_value g_good g_growing g_rows g_must g_rowMany g_sorts g_sizes g_sheets g_holds g_heldNumber g_heldSize g_kind g_number g_ownHand g_traced g_bodies g_isParted v_row u5 hu5) (cwV 0 hts gX5_hands_X5_handsOfAll rfl rfl rfl (by decide +kernel) ⟨Nat.le_of_ble_eq_true rfl, Nat.le_of_ble_eq_true rfl⟩) ⟨zPre_blind, va_recv hK hP (ci := 5) (q0 := 0) rfl rfl, zPre_at hP hE hD [0, 1] rfl rfl⟩ rfl rfl hl.1 rfl (lv_room (Nat.le_of_ble_eq_true rfl)) dX5_hands_5 ⟨Nat.zero_le _, Nat.zero_le _⟩) ?_
    refine W.eq (g2 := F0 m 8 ls [.int u5]) rfl ?_
    exact z_iret (pc := 8) (fun q => q) hx hb hr hlocks hF rfl hQ dX5_hands_8

abbrev rX5_isSo : Room := { frames := 7, cells := 0, slots := 0, locals := 156 }
abbrev wX5_isSo (cB cI cJ cO : ClassId) (h0 h_row h_tried h_growing h_sizes h_sheets : Nat) (g_fresh g_kept g_isKept g_tape g_tapeMany g_sort g_begins g_tokenEnds g_word g_value g_good g_rows g_must g_rowMany g_sorts g_holds g_heldNumber g_heldSize g_kind g_number g_ownHand g_traced g_bodies g_isParted : Value) (v_viewed : Int32) (v_row : Nat → Int32) (v_tried : Nat → Int32) (v_growing : Nat → Int32) (v_sizes : Nat → Int32) (v_sheets : Nat → Int64) : va_W := [(h0, .inr (5, [.ref h_row, g_fresh, g_kept, .ref h_tried, g_isKept, .int v_viewed, g_tape, g_tapeMany, g_sort, g_begins, g_tokenEnds, g_word, g_value, g_good, .ref h_growing, g_rows, g_must, g_rowMany, g_sorts, .ref h_sizes, .ref h_sheets, g_holds, g_heldNumber, g_heldSize, g_kind, g_number, g_ownHand, g_traced, g_bodies, g_isParted])), (h_row, .inl (cI, 68, .inl v_row)), (h_tried, .inl (cI, 68, .inl v_tried)), (h_growing, .inl (cI, 8, .inl v_growing)), (h_sizes, .inl (cI, 4, .inl v_sizes)), (h_sheets, .inl (cJ, 160, .inr (.inl v_sheets)))]
theorem nX5_isSo_X5 : ∀ w ∈ wsX50, w ∈ wsX5_isSo := by decide +kernel
theorem kX5_isSo_0 : Cond.fieldLink RX5 19 "PaintedWallsModel" "tried" "[I" ∈ wsX5_isSo := by decide +kernel
theorem kX5_isSo_1 : Cond.fieldLink RX5 7 "PaintedWallsModel" "row" "[I" ∈ wsX5_isSo := by decide +kernel
theorem kX5_isSo_2 : Cond.fieldLink RX5 37 "PaintedWallsModel" "sizes" "[I" ∈ wsX5_isSo := by decide +kernel
theorem kX5_isSo_3 : Cond.fieldLink RX5 40 "PaintedWallsModel" "sheets" "[J" ∈ wsX5_isSo := by decide +kernel
theorem kX5_isSo_4 : Cond.constantLong RX5 100 (-1 : Int64) ∈ wsX5_isSo := by decide +kernel
set_option maxHeartbeats 4000000 in
set_option maxRecDepth 100000 in
theorem tX5_isSo {l : Launch} {D : va_G} {cB cI cJ cO : ClassId} (h0 h_row h_tried h_growing h_sizes h_sheets : Nat) (g_fresh g_kept g_isKept g_tape g_tapeMany g_sort g_begins g_tokenEnds g_word g_value g_good g_rows g_must g_rowMany g_sorts g_holds g_heldNumber g_heldSize g_kind g_number g_ownHand g_traced g_bodies g_isParted : Value) (v_viewed : Int32) (v_row : Nat → Int32) (v_tried : Nat → Int32) (v_growing : Nat → Int32) (v_sizes : Nat → Int32) (v_sheets : Nat → Int64) (x1 : Int32) (x2 : Int32) (r : Int32 × Int32 × (Nat → Int32) × (Nat → Int32)) (hF : fX5_isSo v_viewed v_row v_tried v_growing v_sizes v_sheets x1 x2 = some r) : Met l yX5_isSo wsX5_isSo rX5_isSo (zPre D cB cI cJ cO [.ref h0, .int x1, .int x2] (wX5_isSo cB cI cJ cO h0 h_row h_tried h_growing h_sizes h_sheets g_fresh g_kept g_isKept g_tape g_tapeMany g_sort g_begins g_tokenEnds g_word g_value g_good g_rows g_must g_rowMany g_sorts g_holds g_heldNumber g_heldSize g_kind g_number g_ownHand g_traced g_bodies g_isParted v_viewed v_row v_tried v_growing v_sizes v_sheets)) (zPM (some (.int r.1)) D (wX5_isSo cB cI cJ cO h0 h_row h_tried h_growing h_sizes h_sheets g_fresh g_kept g_isKept g_tape g_tapeMany g_sort g_begins g_tokenEnds g_word g_value g_good g_rows g_must g_rowMany g_sorts g_holds g_heldNumber g_heldSize g_kind g_number g_ownHand g_traced g_bodies g_isParted r.2.1 r.2.2.1 v_tried r.2.2.2 v_sizes v_sheets) (zAs [h0, h_row, h_tried, h_growing, h_sizes, h_sheets])) 0 0 (zAs [h0, h_row, h_tried, h_growing, h_sizes, h_sheets]) := by
  refine zMetM (cc := cX5_isSo) (maxL := 5) (ret := (some .boolean)) (lv := [(0, .ref h0), (1, .int x1), (2, .int x2)]) rfl (by decide) rfl (Nat.le_of_ble_eq_true rfl) rfl ?_
  intro p e s m args below meth c ls Q H locs hQ hx hb hr hml hown hts hlocks hname hP hE hD hS hl
  have hown : s.vm.findClass RX5 = some m.cls := hown
  have hK := hE.1
  unfold fX5_isSo at hF
  refine lv_iconst (pc := 0) (v := (nI 1)) hx hb dX5_isSo_0 (by decide) ?_
  refine lv_istore_n (pc := 1) (lv' := [(3, .int (nI 1)), (0, .ref h0), (1, .int x1), (2, .int x2)]) hx hb dX5_isSo_1 rfl hl (by decide) rfl (fun ls hl => ?_)
  refine lv_iconst (pc := 2) (v := (nI 0)) hx hb dX5_isSo_2 (by decide) ?_
  refine lv_istore (pc := 3) (lv' := [(4, .int (nI 0)), (3, .int (nI 1)), (0, .ref h0), (1, .int x1), (2, .int x2)]) hx hb dX5_isSo_3 hl (by decide) rfl (fun ls hl => ?_)
  obtain ⟨k_10, hk_10, hF⟩ := z_J hF
  have kk_10 : ∀ (y3_6 : Int32) (v_viewed_7 : Int32) (v_row_8 : Nat → Int32) (v_growing_9 : Nat → Int32) , k_10 y3_6 v_viewed_7 v_row_8 v_growing_9 = some r → ∀ (H : Heap) (locs : List Loc), va_P D vwCl (wX5_isSo cB cI cJ cO h0 h_row h_tried h_growing h_sizes h_sheets g_fresh g_kept g_isKept g_tape g_tapeMany g_sort g_begins g_tokenEnds g_word g_value g_good g_rows g_must g_rowMany g_sorts g_holds g_heldNumber g_heldSize g_kind g_number g_ownHand g_traced g_bodies g_isParted v_viewed_7 v_row_8 v_tried v_growing_9 v_sizes v_sheets) H → va_S (zAs [h0, h_row, h_tried, h_growing, h_sizes, h_sheets]) s.heap H locs → ∀ (ls : Array Slot), lv_has ls 5 [(0, .ref h0), (3, .int y3_6)] → W p l e rX5_isSo s m args below meth c H locs 0 0 Q (F0 m 78 ls []) := by
    intro y3_6 v_viewed_7 v_row_8 v_growing_9 hF H locs hP hS ls hl
    rw [hk_10] at hF
    refine lv_aload_n (pc := 78) hx hb dX5_isSo_78 rfl (lv_at hl 0 rfl) ?_
    refine va_get (D := D) (pc := 79) (ci := 5) (v := .ref h_tried) (C := RX5) (T := TX5) (N := 30) hx hb hts nX5_isSo_X5 hown hK hP 0 rfl rfl 3 (by decide) (hts _ kX5_isSo_0) (fun _ h9 => h9) rfl dX5_isSo_79 ?_
    refine lv_aload_n (pc := 82) hx hb dX5_isSo_82 rfl (lv_at hl 0 rfl) ?_
    refine va_get (D := D) (pc := 83) (ci := 5) (v := .ref h_row) (C := RX5) (T := TX5) (N := 30) hx hb hts nX5_isSo_X5 hown hK hP 0 rfl rfl 0 (by decide) (hts _ kX5_isSo_1) (fun _ h9 => h9) rfl dX5_isSo_83 ?_
    obtain ⟨u86, hu86, hF⟩ := z_bind hF
    refine zq_callM (oc0 := none) (wc := wX5_moveAll cB cI cJ cO h_tried h_row v_tried v_row_8) (wc' := wX5_moveAll cB cI cJ cO h_tried h_row v_tried u86) (ws' := (wX5_isSo cB cI cJ cO h0 h_row h_tried h_growing h_sizes h_sheets g_fresh g_kept g_isKept g_tape g_tapeMany g_sort g_begins g_tokenEnds g_word g_value g_good g_rows g_must g_rowMany g_sorts g_holds g_heldNumber g_heldSize g_kind g_number g_ownHand g_traced g_bodies g_isParted v_viewed_7 u86 v_tried v_growing_9 v_sizes v_sheets)) (va_runS (As := [.ref h_tried, .ref h_row]) (rest := []) ⟨hx, hb, hml, hown, hts⟩ (tX5_moveAll (l := l) (D := D) (cB := cB) (cI := cI) (cJ := cJ) (cO := cO) h_tried h_row v_tried v_row_8 u86 hu86) (va_cwS 2 hts gX5_isSo_X5_moveAll rfl rfl rfl (by decide +kernel) ⟨Nat.le_of_ble_eq_true rfl, Nat.le_of_ble_eq_true rfl⟩) ⟨zPre_blind, zPre_at hP hE (zD_re hD rfl) [2, 1] rfl rfl⟩ rfl rfl hl.1 rfl (lv_room (Nat.le_of_ble_eq_true rfl)) dX5_isSo_86 ⟨Nat.zero_le _, Nat.zero_le _⟩) rfl hP (zD_re hD rfl) hS [2, 1] rfl rfl [none, some 1, some 0, none, none, none] rfl rfl rfl rfl (fun H locs hP hS => ?_)
    refine W.eq (g2 := F0 m 89 ls []) rfl ?_
    refine lv_iload_n (pc := 89) hx hb dX5_isSo_89 rfl (lv_at hl 1 rfl) ?_
    obtain ⟨hz, hF⟩ := z_h _ hF
    exact z_zretM (pc := 90) (fun q => q.1) (fun q => (wX5_isSo cB cI cJ cO h0 h_row h_tried h_growing h_sizes h_sheets g_fresh g_kept g_isKept g_tape g_tapeMany g_sort g_begins g_tokenEnds g_word g_value g_good g_rows g_must g_rowMany g_sorts g_holds g_heldNumber g_heldSize g_kind g_number g_ownHand g_traced g_bodies g_isParted q.2.1 q.2.2.1 v_tried q.2.2.2 v_sizes v_sheets)) hx hb hr hlocks hz hP hS hF rfl hQ dX5_isSo_90
  have hL_5 : ∀ (n : Nat) (y3_1 : Int32) (y4_2 : Int32) (v_viewed_3 : Int32) (v_row_4 : Nat → Int32) (v_growing_5 : Nat → Int32) , fX5_isSo_L5 v_sizes v_sheets x1 x2 k_10 n y3_1 y4_2 v_viewed_3 v_row_4 v_growing_5 = some r → ∀ (H : Heap) (locs : List Loc), va_P D vwCl (wX5_isSo cB cI cJ cO h0 h_row h_tried h_growing h_sizes h_sheets g_fresh g_kept g_isKept g_tape g_tapeMany g_sort g_begins g_tokenEnds g_word g_value g_good g_rows g_must g_rowMany g_sorts g_holds g_heldNumber g_heldSize g_kind g_number g_ownHand g_traced g_bodies g_isParted v_viewed_3 v_row_4 v_tried v_growing_5 v_sizes v_sheets) H → va_S (zAs [h0, h_row, h_tried, h_growing, h_sizes, h_sheets]) s.heap H locs → ∀ (ls : Array Slot), lv_has ls 5 [(0, .ref h0), (1, .int x1), (2, .int x2), (3, .int y3_1), (4, .int y4_2)] → W p l e rX5_isSo s m args below meth c H locs 0 0 Q (F0 m 5 ls []) := by
    intro n
    induction n with
    | zero =>
      intro y3_1 y4_2 v_viewed_3 v_row_4 v_growing_5 hF H locs hP hS ls hl
      exact z_no hF
    | succ n ih =>
      intro y3_1 y4_2 v_viewed_3 v_row_4 v_growing_5 hF H locs hP hS ls hl
      rw [fX5_isSo_L5] at hF
      refine lv_iload (pc := 5) hx hb dX5_isSo_5 (lv_at hl 4 rfl) ?_
      refine lv_aload_n (pc := 7) hx hb dX5_isSo_7 rfl (lv_at hl 0 rfl) ?_
      refine va_get (D := D) (pc := 8) (ci := 5) (v := .ref h_sizes) (C := RX5) (T := TX5) (N := 30) hx hb hts nX5_isSo_X5 hown hK hP 0 rfl rfl 19 (by decide) (hts _ kX5_isSo_2) (fun _ h9 => h9) rfl dX5_isSo_8 ?_
      refine lv_iload_n (pc := 11) hx hb dX5_isSo_11 rfl (lv_at hl 1 rfl) ?_
      refine za_iald (pc := 12) hx hb hK hP 4 1 rfl rfl dX5_isSo_12 hF (fun hF => ?_)
      refine zb_icmp_ge (pc := 13) (tgt := 78) hx hb dX5_isSo_13 (by decide) hF (fun c_13 hF => ?_) (fun c_13 hF => ?_)
      · exact kk_10 y3_1 v_viewed_3 v_row_4 v_growing_5 hF H locs hP hS ls (lv_sub hl [0, 3] rfl)
      · refine lv_iload_n (pc := 16) hx hb dX5_isSo_16 rfl (lv_at hl 3 rfl) ?_
        refine zb_if_eq (pc := 17) (tgt := 78) hx hb dX5_isSo_17 (by decide) hF (fun c_17 hF => ?_) (fun c_17 hF => ?_)
        · exact kk_10 y3_1 v_viewed_3 v_row_4 v_growing_5 hF H locs hP hS ls (lv_sub hl [0, 3] rfl)
        · refine lv_aload_n (pc := 20) hx hb dX5_isSo_20 rfl (lv_at hl 0 rfl) ?_
          obtain ⟨u21, hu21, hF⟩ := z_bind hF
          refine zq_callM (oc0 := none) (wc := wX5_nightGoes cB cI cJ cO h0 h_row h_growing g_fresh g_kept (.ref h_tried) g_isKept g_tape g_tapeMany g_sort g_begins g_tokenEnds g_word g_value g_good g_rows g_must g_rowMany g_sorts (.ref h_sizes) (.ref h_sheets) g_holds g_heldNumber g_heldSize g_kind g_number g_ownHand g_traced g_bodies g_isParted v_viewed_3 v_row_4 v_growing_5) (wc' := wX5_nightGoes cB cI cJ cO h0 h_row h_growing g_fresh g_kept (.ref h_tried) g_isKept g_tape g_tapeMany g_sort g_begins g_tokenEnds g_word g_value g_good g_rows g_must g_rowMany g_sorts (.ref h_sizes) (.ref h_sheets) g_holds g_heldNumber g_heldSize g_kind g_number g_ownHand g_traced g_bodies g_isParted u21.1 u21.2.1 u21.2.2) (ws' := (wX5_isSo cB cI cJ cO h0 h_row h_tried h_growing h_sizes h_sheets g_fresh g_kept g_isKept g_tape g_tapeMany g_sort g_begins g_tokenEnds g_word g_value g_good g_rows g_must g_rowMany g_sorts g_holds g_heldNumber g_heldSize g_kind g_number g_ownHand g_traced g_bodies g_isParted u21.1 u21.2.1 v_tried u21.2.2 v_sizes v_sheets)) (va_runV (As := []) (rest := []) ⟨hx, hb, hml, hown, hts⟩ (tX5_nightGoes (l := l) (D := D) (cB := cB) (cI := cI) (cJ := cJ) (cO := cO) h0 h_row h_growing g_fresh g_kept (.ref h_tried) g_isKept g_tape g_tapeMany g_sort g_begins g_tokenEnds g_word g_value g_good g_rows g_must g_rowMany g_sorts (.ref h_sizes) (.ref h_sheets) g_holds g_heldNumber g_heldSize g_kind g_number g_ownHand g_traced g_bodies g_isParted v_viewed_3 v_row_4 v_growing_5 u21 hu21) (cwV 0 hts gX5_isSo_X5_nightGoes rfl rfl rfl (by decide +kernel) ⟨Nat.le_of_ble_eq_true rfl, Nat.le_of_ble_eq_true rfl⟩) ⟨zPre_blind, va_recv hK hP (ci := 5) (q0 := 0) rfl rfl, zPre_at hP hE (zD_re hD rfl) [0, 1, 3] rfl rfl⟩ rfl rfl hl.1 rfl (lv_room (Nat.le_of_ble_eq_true rfl)) dX5_isSo_21 ⟨Nat.zero_le _, Nat.zero_le _⟩) rfl hP (zD_re hD rfl) hS [0, 1, 3] rfl rfl [some 0, some 1, none, some 2, none, none] rfl rfl rfl rfl (fun H locs hP hS => ?_)
          refine W.eq (g2 := F0 m 24 ls []) rfl ?_
          refine lv_aload_n (pc := 24) hx hb dX5_isSo_24 rfl (lv_at hl 0 rfl) ?_
          refine va_get (D := D) (pc := 25) (ci := 5) (v := .ref h_sheets) (C := RX5) (T := TX5) (N := 30) hx hb hts nX5_isSo_X5 hown hK hP 0 rfl rfl 20 (by decide) (hts _ kX5_isSo_3) (fun _ h9 => h9) rfl dX5_isSo_25 ?_
          refine lv_bipush (pc := 28) (v := (nI 40)) hx hb dX5_isSo_28 (by decide) ?_
          refine lv_iload_n (pc := 30) hx hb dX5_isSo_30 rfl (lv_at hl 1 rfl) ?_
          refine lv_imul (pc := 31) hx hb dX5_isSo_31 ?_
          refine lv_iload (pc := 32) hx hb dX5_isSo_32 (lv_at hl 4 rfl) ?_
          refine lv_iadd (pc := 34) hx hb dX5_isSo_34 ?_
          refine za_lald (pc := 35) hx hb hK hP 5 2 rfl rfl dX5_isSo_35 hF (fun hF => ?_)
          refine lv_ldc2 (pc := 36) hx hb hown (hts _ kX5_isSo_4) dX5_isSo_36 ?_
          refine W.lcmp (pc := 39) hx hb dX5_isSo_39 ?_
          refine zb_if_eq (pc := 40) (tgt := 66) hx hb dX5_isSo_40 (by decide) hF (fun c_40 hF => ?_) (fun c_40 hF => ?_)
          · refine lv_iconst (pc := 66) (v := (nI 1)) hx hb dX5_isSo_66 (by decide) ?_
            refine lv_goto (pc := 67) (tgt := 71) hx hb dX5_isSo_67 (by decide) ?_
            refine lv_istore_n (pc := 71) (lv' := [(3, .int (nI 1)), (0, .ref h0), (1, .int x1), (2, .int x2), (4, .int y4_2)]) hx hb dX5_isSo_71 rfl hl (by decide) rfl (fun ls hl => ?_)
            refine lv_iinc (pc := 72) (v := (y4_2 + 1)) (lv' := [(4, .int (y4_2 + 1)), (3, .int (nI 1)), (0, .ref h0), (1, .int x1), (2, .int x2)]) hx hb dX5_isSo_72 hl (k := 4) rfl rfl (by decide) rfl (fun ls hl => ?_)
            refine lv_goto (pc := 75) (tgt := 5) hx hb dX5_isSo_75 (by decide) ?_
            exact ih (nI 1) (y4_2 + 1) u21.1 u21.2.1 u21.2.2 hF H locs hP hS ls (lv_sub hl [2, 3, 4, 1, 0] rfl)
          · refine lv_aload_n (pc := 43) hx hb dX5_isSo_43 rfl (lv_at hl 0 rfl) ?_
            refine va_get (D := D) (pc := 44) (ci := 5) (v := .ref h_sheets) (C := RX5) (T := TX5) (N := 30) hx hb hts nX5_isSo_X5 hown hK hP 0 rfl rfl 20 (by decide) (hts _ kX5_isSo_3) (fun _ h9 => h9) rfl dX5_isSo_44 ?_
            refine lv_bipush (pc := 47) (v := (nI 40)) hx hb dX5_isSo_47 (by decide) ?_
            refine lv_iload_n (pc := 49) hx hb dX5_isSo_49 rfl (lv_at hl 1 rfl) ?_
            refine lv_imul (pc := 50) hx hb dX5_isSo_50 ?_
            refine lv_iload (pc := 51) hx hb dX5_isSo_51 (lv_at hl 4 rfl) ?_
            refine lv_iadd (pc := 53) hx hb dX5_isSo_53 ?_
            refine za_lald (pc := 54) hx hb hK hP 5 2 rfl rfl dX5_isSo_54 hF (fun hF => ?_)
            refine lv_aload_n (pc := 55) hx hb dX5_isSo_55 rfl (lv_at hl 0 rfl) ?_
            refine lv_iload_n (pc := 56) hx hb dX5_isSo_56 rfl (lv_at hl 2 rfl) ?_
            refine lv_iconst (pc := 57) (v := (nI 3)) hx hb dX5_isSo_57 (by decide) ?_
            obtain ⟨u58, hu58, hF⟩ := z_bind hF
            refine zq_call (oc0 := (some (.int u58))) (va_runV (As := [.int x2, .int (nI 3)]) (rest := [.long (v_sheets (((nI 40) * x1) + y4_2).toNatClampNeg)]) ⟨hx, hb, hml, hown, hts⟩ (tX5_its (l := l) (D := D) (cB := cB) (cI := cI) (cJ := cJ) (cO := cO) h0 h_row g_fresh g_kept (.ref h_tried) g_isKept (.int u21.1) g_tape g_tapeMany g_sort g_begins g_tokenEnds g_word g_value g_good (.ref h_growing) g_rows g_must g_rowMany g_sorts (.ref h_sizes) (.ref h_sheets) g_holds g_heldNumber g_heldSize g_kind g_number g_ownHand g_traced g_bodies g_isParted u21.2.1 x2 (nI 3) u58 hu58) (cwV 2 hts gX5_isSo_X5_its rfl rfl rfl (by decide +kernel) ⟨Nat.le_of_ble_eq_true rfl, Nat.le_of_ble_eq_true rfl⟩) ⟨zPre_blind, va_recv hK hP (ci := 5) (q0 := 0) rfl rfl, zPre_at hP hE (zD_re hD rfl) [0, 1] rfl rfl⟩ rfl rfl hl.1 rfl (lv_room (Nat.le_of_ble_eq_true rfl)) dX5_isSo_58 ⟨Nat.zero_le _, Nat.zero_le _⟩) ?_
            refine W.eq (g2 := F0 m 61 ls [.int u58, .long (v_sheets (((nI 40) * x1) + y4_2).toNatClampNeg)]) rfl ?_
            refine lv_i2l (pc := 61) (v := u58.toInt64) hx hb dX5_isSo_61 rfl ?_
            refine W.lcmp (pc := 62) hx hb dX5_isSo_62 ?_
            refine zb_if_ne (pc := 63) (tgt := 70) hx hb dX5_isSo_63 (by decide) hF (fun c_63 hF => ?_) (fun c_63 hF => ?_)
            · refine lv_iconst (pc := 70) (v := (nI 0)) hx hb dX5_isSo_70 (by decide) ?_
              refine lv_istore_n (pc := 71) (lv' := [(3, .int (nI 0)), (0, .ref h0), (1, .int x1), (2, .int x2), (4, .int y4_2)]) hx hb dX5_isSo_71 rfl hl (by decide) rfl (fun ls hl => ?_)
              refine lv_iinc (pc := 72) (v := (y4_2 + 1)) (lv' := [(4, .int (y4_2 + 1)), (3, .int (nI 0)), (0, .ref h0), (1, .int x1), (2, .int x2)]) hx hb dX5_isSo_72 hl (k := 4) rfl rfl (by decide) rfl (fun ls hl => ?_)
              refine lv_goto (pc := 75) (tgt := 5) hx hb dX5_isSo_75 (by decide) ?_
              exact ih (nI 0) (y4_2 + 1) u21.1 u21.2.1 u21.2.2 hF H locs hP hS ls (lv_sub hl [2, 3, 4, 1, 0] rfl)
            · refine lv_iconst (pc := 66) (v := (nI 1)) hx hb dX5_isSo_66 (by decide) ?_
              refine lv_goto (pc := 67) (tgt := 71) hx hb dX5_isSo_67 (by decide) ?_
              refine lv_istore_n (pc := 71) (lv' := [(3, .int (nI 1)), (0, .ref h0), (1, .int x1), (2, .int x2), (4, .int y4_2)]) hx hb dX5_isSo_71 rfl hl (by decide) rfl (fun ls hl => ?_)
              refine lv_iinc (pc := 72) (v := (y4_2 + 1)) (lv' := [(4, .int (y4_2 + 1)), (3, .int (nI 1)), (0, .ref h0), (1, .int x1), (2, .int x2)]) hx hb dX5_isSo_72 hl (k := 4) rfl rfl (by decide) rfl (fun ls hl => ?_)
              refine lv_goto (pc := 75) (tgt := 5) hx hb dX5_isSo_75 (by decide) ?_
              exact ih (nI 1) (y4_2 + 1) u21.1 u21.2.1 u21.2.2 hF H locs hP hS ls (lv_sub hl [2, 3, 4, 1, 0] rfl)
  exact hL_5 zK (nI 1) (nI 0) v_viewed v_row v_growing hF H locs hP hS ls (lv_sub hl [2, 3, 4, 1, 0] rfl)

abbrev rX5_isShelf : Room := { frames := 1, cells := 0, slots := 0, locals := 22 }
set_option maxHeartbeats 4000000 in
set_option maxRecDepth 100000 in
theorem tX5_isShelf {l : Launch} {D : va_G} {cB cI cJ cO : ClassId} (x0 : Int32) (r : Int32) (hF : fX5_isShelf x0 = some r) : Met l yX5_isShelf wsX5_isShelf rX5_isShelf (zPre D cB cI cJ cO [.int x0] ([] : va_W)) (zPI (some (.int r))) 0 0 (fun _ => False) := by
  refine zMetP (cc := cX5_isShelf) (maxL := 1) (ret := (some .boolean)) (lv := [(0, .int x0)]) (by decide) rfl (Nat.le_of_ble_eq_true rfl) rfl ?_
  intro p e s m args below meth c ls Q hQ hx hb hr hml hown hts hlocks hname hP hE hD hl
  have hown : s.vm.findClass RX5 = some m.cls := hown
  have hK := hE.1
  unfold fX5_isShelf at hF
  refine lv_iload_n (pc := 0) hx hb dX5_isShelf_0 rfl (lv_at hl 0 rfl) ?_
  refine lv_iconst (pc := 1) (v := (nI 0)) hx hb dX5_isShelf_1 (by decide) ?_
  refine lv_iconst (pc := 2) (v := (nI 3)) hx hb dX5_isShelf_2 (by decide) ?_
  obtain ⟨u3, hu3, hF⟩ := z_bind hF
  refine zq_call (oc0 := (some (.int u3))) (va_runS (As := [.int x0, .int (nI 0), .int (nI 3)]) (rest := []) ⟨hx, hb, hml, hown, hts⟩ (tX5_in (l := l) (D := D) (cB := cB) (cI := cI) (cJ := cJ) (cO := cO) x0 (nI 0) (nI 3) u3 hu3) (va_cwS 3 hts gX5_isShelf_X5_in rfl rfl rfl (by decide +kernel) ⟨Nat.le_of_ble_eq_true rfl, Nat.le_of_ble_eq_true rfl⟩) ⟨zPre_blind, zPre_at hP hE hD [] rfl rfl⟩ rfl rfl hl.1 rfl (lv_room (Nat.le_of_ble_eq_true rfl)) dX5_isShelf_3 ⟨Nat.zero_le _, Nat.zero_le _⟩) ?_
  refine W.eq (g2 := F0 m 6 ls [.int u3]) rfl ?_
  obtain ⟨hz, hF⟩ := z_h _ hF
  exact z_zret (pc := 6) (fun q => q) hx hb hr hlocks hz hF rfl hQ dX5_isShelf_6

abbrev rX5_fits : Room := { frames := 8, cells := 0, slots := 0, locals := 180 }
abbrev wX5_fits (cB cI cJ cO : ClassId) (h0 h_row h_tried h_growing h_sorts h_sizes h_sheets : Nat) (g_fresh g_kept g_isKept g_tape g_tapeMany g_sort g_begins g_tokenEnds g_word g_value g_good g_rows g_must g_rowMany g_holds g_heldNumber g_heldSize g_kind g_number g_ownHand g_traced g_bodies g_isParted : Value) (v_viewed : Int32) (v_row : Nat → Int32) (v_tried : Nat → Int32) (v_growing : Nat → Int32) (v_sorts : Nat → Int32) (v_sizes : Nat → Int32) (v_sheets : Nat → Int64) : va_W := [(h0, .inr (5, [.ref h_row, g_fresh, g_kept, .ref h_tried, g_isKept, .int v_viewed, g_tape, g_tapeMany, g_sort, g_begins, g_tokenEnds, g_word, g_value, g_good, .ref h_growing, g_rows, g_must, g_rowMany, .ref h_sorts, .ref h_sizes, .ref h_sheets, g_holds, g_heldNumber, g_heldSize, g_kind, g_number, g_ownHand, g_traced, g_bodies, g_isParted])), (h_row, .inl (cI, 68, .inl v_row)), (h_tried, .inl (cI, 68, .inl v_tried)), (h_growing, .inl (cI, 8, .inl v_growing)), (h_sorts, .inl (cI, 4, .inl v_sorts)), (h_sizes, .inl (cI, 4, .inl v_sizes)), (h_sheets, .inl (cJ, 160, .inr (.inl v_sheets)))]
theorem nX5_fits_X5 : ∀ w ∈ wsX50, w ∈ wsX5_fits := by decide +kernel
theorem kX5_fits_0 : Cond.fieldLink RX5 34 "PaintedWallsModel" "sorts" "[I" ∈ wsX5_fits := by decide +kernel
theorem kX5_fits_1 : Cond.fieldLink RX5 7 "PaintedWallsModel" "row" "[I" ∈ wsX5_fits := by decide +kernel
theorem kX5_fits_2 : Cond.fieldLink RX5 19 "PaintedWallsModel" "tried" "[I" ∈ wsX5_fits := by decide +kernel
set_option maxHeartbeats 4000000 in
set_option maxRecDepth 100000 in
theorem tX5_fits {l : Launch} {D : va_G} {cB cI cJ cO : ClassId} (h0 h_row h_tried h_growing h_sorts h_sizes h_sheets : Nat) (g_fresh g_kept g_isKept g_tape g_tapeMany g_sort g_begins g_tokenEnds g_word g_value g_good g_rows g_must g_rowMany g_holds g_heldNumber g_heldSize g_kind g_number g_ownHand g_traced g_bodies g_isParted : Value) (v_viewed : Int32) (v_row : Nat → Int32) (v_tried : Nat → Int32) (v_growing : Nat → Int32) (v_sorts : Nat → Int32) (v_sizes : Nat → Int32) (v_sheets : Nat → Int64) (x1 : Int32) (x2 : Int32) (x3 : Int32) (r : Int32 × Int32 × (Nat → Int32) × (Nat → Int32) × (Nat → Int32)) (hF : fX5_fits v_viewed v_row v_tried v_growing v_sorts v_sizes v_sheets x1 x2 x3 = some r) : Met l yX5_fits wsX5_fits rX5_fits (zPre D cB cI cJ cO [.ref h0, .int x1, .int x2, .int x3] (wX5_fits cB cI cJ cO h0 h_row h_tried h_growing h_sorts h_sizes h_sheets g_fresh g_kept g_isKept g_tape g_tapeMany g_sort g_begins g_tokenEnds g_word g_value g_good g_rows g_must g_rowMany g_holds g_heldNumber g_heldSize g_kind g_number g_ownHand g_traced g_bodies g_isParted v_viewed v_row v_tried v_growing v_sorts v_sizes v_sheets)) (zPM (some (.int r.1)) D (wX5_fits cB cI cJ cO h0 h_row h_tried h_growing h_sorts h_sizes h_sheets g_fresh g_kept g_isKept g_tape g_tapeMany g_sort g_begins g_tokenEnds g_word g_value g_good g_rows g_must g_rowMany g_holds g_heldNumber g_heldSize g_kind g_number g_ownHand g_traced g_bodies g_isParted r.2.1 r.2.2.1 r.2.2.2.1 r.2.2.2.2 v_sorts v_sizes v_sheets) (zAs [h0, h_row, h_tried, h_growing, h_sorts, h_sizes, h_sheets])) 0 0 (zAs [h0, h_row, h_tried, h_growing, h_sorts, h_sizes, h_sheets]) := by
  refine zMetM (cc := cX5_fits) (maxL := 8) (ret := (some .int)) (lv := [(0, .ref h0), (1, .int x1), (2, .int x2), (3, .int x3)]) rfl (by decide) rfl (Nat.le_of_ble_eq_true rfl) rfl ?_
  intro p e s m args below meth c ls Q H locs hQ hx hb hr hml hown hts hlocks hname hP hE hD hS hl
  have hown : s.vm.findClass RX5 = some m.cls := hown
  have hK := hE.1
  unfold fX5_fits at hF
  refine lv_iload_n (pc := 0) hx hb dX5_fits_0 rfl (lv_at hl 1 rfl) ?_
  obtain ⟨u1, hu1, hF⟩ := z_bind hF
  refine zq_call (oc0 := (some (.int u1))) (va_runS (As := [.int x1]) (rest := []) ⟨hx, hb, hml, hown, hts⟩ (tX5_isShelf (l := l) (D := D) (cB := cB) (cI := cI) (cJ := cJ) (cO := cO) x1 u1 hu1) (va_cwS 1 hts gX5_fits_X5_isShelf rfl rfl rfl (by decide +kernel) ⟨Nat.le_of_ble_eq_true rfl, Nat.le_of_ble_eq_true rfl⟩) ⟨zPre_blind, zPre_at hP hE (zD_re hD rfl) [] rfl rfl⟩ rfl rfl hl.1 rfl (lv_room (Nat.le_of_ble_eq_true rfl)) dX5_fits_1 ⟨Nat.zero_le _, Nat.zero_le _⟩) ?_
  refine W.eq (g2 := F0 m 4 ls [.int u1]) rfl ?_
  refine zb_if_eq (pc := 4) (tgt := 24) hx hb dX5_fits_4 (by decide) hF (fun c_4 hF => ?_) (fun c_4 hF => ?_)
  · refine lv_iconst (pc := 24) (v := (-1 : Int32)) hx hb dX5_fits_24 (by decide) ?_
    exact z_iretM (pc := 25) (fun q => q.1) (fun q => (wX5_fits cB cI cJ cO h0 h_row h_tried h_growing h_sorts h_sizes h_sheets g_fresh g_kept g_isKept g_tape g_tapeMany g_sort g_begins g_tokenEnds g_word g_value g_good g_rows g_must g_rowMany g_holds g_heldNumber g_heldSize g_kind g_number g_ownHand g_traced g_bodies g_isParted q.2.1 q.2.2.1 q.2.2.2.1 q.2.2.2.2 v_sorts v_sizes v_sheets)) hx hb hr hlocks hP hS hF rfl hQ dX5_fits_25
  · refine lv_aload_n (pc := 7) hx hb dX5_fits_7 rfl (lv_at hl 0 rfl) ?_
    refine lv_iload_n (pc := 8) hx hb dX5_fits_8 rfl (lv_at hl 2 rfl) ?_
    obtain ⟨u9, hu9, hF⟩ := z_bind hF
    refine zq_call (oc0 := (some (.int u9))) (va_runV (As := [.int x2]) (rest := []) ⟨hx, hb, hml, hown, hts⟩ (tX5_isOne (l := l) (D := D) (cB := cB) (cI := cI) (cJ := cJ) (cO := cO) h0 h_row g_fresh g_kept (.ref h_tried) g_isKept (.int v_viewed) g_tape g_tapeMany g_sort g_begins g_tokenEnds g_word g_value g_good (.ref h_growing) g_rows g_must g_rowMany (.ref h_sorts) (.ref h_sizes) (.ref h_sheets) g_holds g_heldNumber g_heldSize g_kind g_number g_ownHand g_traced g_bodies g_isParted v_row x2 u9 hu9) (cwV 1 hts gX5_fits_X5_isOne rfl rfl rfl (by decide +kernel) ⟨Nat.le_of_ble_eq_true rfl, Nat.le_of_ble_eq_true rfl⟩) ⟨zPre_blind, va_recv hK hP (ci := 5) (q0 := 0) rfl rfl, zPre_at hP hE (zD_re hD rfl) [0, 1] rfl rfl⟩ rfl rfl hl.1 rfl (lv_room (Nat.le_of_ble_eq_true rfl)) dX5_fits_9 ⟨Nat.zero_le _, Nat.zero_le _⟩) ?_
    refine W.eq (g2 := F0 m 12 ls [.int u9]) rfl ?_
    refine zb_if_eq (pc := 12) (tgt := 24) hx hb dX5_fits_12 (by decide) hF (fun c_12 hF => ?_) (fun c_12 hF => ?_)
    · refine lv_iconst (pc := 24) (v := (-1 : Int32)) hx hb dX5_fits_24 (by decide) ?_
      exact z_iretM (pc := 25) (fun q => q.1) (fun q => (wX5_fits cB cI cJ cO h0 h_row h_tried h_growing h_sorts h_sizes h_sheets g_fresh g_kept g_isKept g_tape g_tapeMany g_sort g_begins g_tokenEnds g_word g_value g_good g_rows g_must g_rowMany g_holds g_heldNumber g_heldSize g_kind g_number g_ownHand g_traced g_bodies g_isParted q.2.1 q.2.2.1 q.2.2.2.1 q.2.2.2.2 v_sorts v_sizes v_sheets)) hx hb hr hlocks hP hS hF rfl hQ dX5_fits_25
    · refine lv_iload_n (pc := 15) hx hb dX5_fits_15 rfl (lv_at hl 3 rfl) ?_
      refine lv_iconst (pc := 16) (v := (nI 0)) hx hb dX5_fits_16 (by decide) ?_
      refine lv_iconst (pc := 17) (v := (nI 1)) hx hb dX5_fits_17 (by decide) ?_
      obtain ⟨u18, hu18, hF⟩ := z_bind hF
      refine zq_call (oc0 := (some (.int u18))) (va_runS (As := [.int x3, .int (nI 0), .int (nI 1)]) (rest := []) ⟨hx, hb, hml, hown, hts⟩ (tX5_in (l := l) (D := D) (cB := cB) (cI := cI) (cJ := cJ) (cO := cO) x3 (nI 0) (nI 1) u18 hu18) (va_cwS 3 hts gX5_fits_X5_in rfl rfl rfl (by decide +kernel) ⟨Nat.le_of_ble_eq_true rfl, Nat.le_of_ble_eq_true rfl⟩) ⟨zPre_blind, zPre_at hP hE (zD_re hD rfl) [] rfl rfl⟩ rfl rfl hl.1 rfl (lv_room (Nat.le_of_ble_eq_true rfl)) dX5_fits_18 ⟨Nat.zero_le _, Nat.zero_le _⟩) ?_
      refine W.eq (g2 := F0 m 21 ls [.int u18]) rfl ?_
      refine zb_if_ne (pc := 21) (tgt := 26) hx hb dX5_fits_21 (by decide) hF (fun c_21 hF => ?_) (fun c_21 hF => ?_)
      · refine lv_aload_n (pc := 26) hx hb dX5_fits_26 rfl (lv_at hl 0 rfl) ?_
        refine va_get (D := D) (pc := 27) (ci := 5) (v := .ref h_sorts) (C := RX5) (T := TX5) (N := 30) hx hb hts nX5_fits_X5 hown hK hP 0 rfl rfl 18 (by decide) (hts _ kX5_fits_0) (fun _ h9 => h9) rfl dX5_fits_27 ?_
        refine lv_iload_n (pc := 30) hx hb dX5_fits_30 rfl (lv_at hl 1 rfl) ?_
        refine za_iald (pc := 31) hx hb hK hP 4 1 rfl rfl dX5_fits_31 hF (fun hF => ?_)
        refine zb_if_ge (pc := 32) (tgt := 38) hx hb dX5_fits_32 (by decide) hF (fun c_32 hF => ?_) (fun c_32 hF => ?_)
        · refine lv_aload_n (pc := 38) hx hb dX5_fits_38 rfl (lv_at hl 0 rfl) ?_
          refine va_get (D := D) (pc := 39) (ci := 5) (v := .ref h_row) (C := RX5) (T := TX5) (N := 30) hx hb hts nX5_fits_X5 hown hK hP 0 rfl rfl 0 (by decide) (hts _ kX5_fits_1) (fun _ h9 => h9) rfl dX5_fits_39 ?_
          refine lv_aload_n (pc := 42) hx hb dX5_fits_42 rfl (lv_at hl 0 rfl) ?_
          refine va_get (D := D) (pc := 43) (ci := 5) (v := .ref h_tried) (C := RX5) (T := TX5) (N := 30) hx hb hts nX5_fits_X5 hown hK hP 0 rfl rfl 3 (by decide) (hts _ kX5_fits_2) (fun _ h9 => h9) rfl dX5_fits_43 ?_
          obtain ⟨u46, hu46, hF⟩ := z_bind hF
          refine zq_callM (oc0 := none) (wc := wX5_moveAll cB cI cJ cO h_row h_tried v_row v_tried) (wc' := wX5_moveAll cB cI cJ cO h_row h_tried v_row u46) (ws' := (wX5_fits cB cI cJ cO h0 h_row h_tried h_growing h_sorts h_sizes h_sheets g_fresh g_kept g_isKept g_tape g_tapeMany g_sort g_begins g_tokenEnds g_word g_value g_good g_rows g_must g_rowMany g_holds g_heldNumber g_heldSize g_kind g_number g_ownHand g_traced g_bodies g_isParted v_viewed v_row u46 v_growing v_sorts v_sizes v_sheets)) (va_runS (As := [.ref h_row, .ref h_tried]) (rest := []) ⟨hx, hb, hml, hown, hts⟩ (tX5_moveAll (l := l) (D := D) (cB := cB) (cI := cI) (cJ := cJ) (cO := cO) h_row h_tried v_row v_tried u46 hu46) (va_cwS 2 hts gX5_fits_X5_moveAll rfl rfl rfl (by decide +kernel) ⟨Nat.le_of_ble_eq_true rfl, Nat.le_of_ble_eq_true rfl⟩) ⟨zPre_blind, zPre_at hP hE (zD_re hD rfl) [1, 2] rfl rfl⟩ rfl rfl hl.1 rfl (lv_room (Nat.le_of_ble_eq_true rfl)) dX5_fits_46 ⟨Nat.zero_le _, Nat.zero_le _⟩) rfl hP (zD_re hD rfl) hS [1, 2] rfl rfl [none, some 0, some 1, none, none, none, none] rfl rfl rfl rfl (fun H locs hP hS => ?_)
          refine W.eq (g2 := F0 m 49 ls []) rfl ?_
          refine lv_iconst (pc := 49) (v := (nI 0)) hx hb dX5_fits_49 (by decide) ?_
          refine lv_istore (pc := 50) (lv' := [(4, .int (nI 0)), (0, .ref h0), (1, .int x1), (2, .int x2), (3, .int x3)]) hx hb dX5_fits_50 hl (by decide) rfl (fun ls hl => ?_)
          refine lv_bipush (pc := 52) (v := (-3 : Int32)) hx hb dX5_fits_52 (by decide) ?_
          refine lv_istore (pc := 54) (lv' := [(5, .int (-3 : Int32)), (4, .int (nI 0)), (0, .ref h0), (1, .int x1), (2, .int x2), (3, .int x3)]) hx hb dX5_fits_54 hl (by decide) rfl (fun ls hl => ?_)
          refine lv_bipush (pc := 56) (v := (nI 9)) hx hb dX5_fits_56 (by decide) ?_
          refine lv_istore (pc := 58) (lv' := [(6, .int (nI 9)), (5, .int (-3 : Int32)), (4, .int (nI 0)), (0, .ref h0), (1, .int x1), (2, .int x2), (3, .int x3)]) hx hb dX5_fits_58 hl (by decide) rfl (fun ls hl => ?_)
          obtain ⟨k_12, hk_12, hF⟩ := z_J hF
          have kk_12 : ∀ (y4_7 : Int32) (y5_8 : Int32) (v_viewed_9 : Int32) (v_row_10 : Nat → Int32) (v_growing_11 : Nat → Int32) , k_12 y4_7 y5_8 v_viewed_9 v_row_10 v_growing_11 = some r → ∀ (H : Heap) (locs : List Loc), va_P D vwCl (wX5_fits cB cI cJ cO h0 h_row h_tried h_growing h_sorts h_sizes h_sheets g_fresh g_kept g_isKept g_tape g_tapeMany g_sort g_begins g_tokenEnds g_word g_value g_good g_rows g_must g_rowMany g_holds g_heldNumber g_heldSize g_kind g_number g_ownHand g_traced g_bodies g_isParted v_viewed_9 v_row_10 u46 v_growing_11 v_sorts v_sizes v_sheets) H → va_S (zAs [h0, h_row, h_tried, h_growing, h_sorts, h_sizes, h_sheets]) s.heap H locs → ∀ (ls : Array Slot), lv_has ls 8 [(3, .int x3), (4, .int y4_7), (5, .int y5_8)] → W p l e rX5_fits s m args below meth c H locs 0 0 Q (F0 m 116 ls []) := by
            intro y4_7 y5_8 v_viewed_9 v_row_10 v_growing_11 hF H locs hP hS ls hl
            rw [hk_12] at hF
            refine lv_iload_n (pc := 116) hx hb dX5_fits_116 rfl (lv_at hl 0 rfl) ?_
            refine zb_if_ne (pc := 117) (tgt := 125) hx hb dX5_fits_117 (by decide) hF (fun c_117 hF => ?_) (fun c_117 hF => ?_)
            · refine lv_iload (pc := 125) hx hb dX5_fits_125 (lv_at hl 2 rfl) ?_
              exact z_iretM (pc := 127) (fun q => q.1) (fun q => (wX5_fits cB cI cJ cO h0 h_row h_tried h_growing h_sorts h_sizes h_sheets g_fresh g_kept g_isKept g_tape g_tapeMany g_sort g_begins g_tokenEnds g_word g_value g_good g_rows g_must g_rowMany g_holds g_heldNumber g_heldSize g_kind g_number g_ownHand g_traced g_bodies g_isParted q.2.1 q.2.2.1 q.2.2.2.1 q.2.2.2.2 v_sorts v_sizes v_sheets)) hx hb hr hlocks hP hS hF rfl hQ dX5_fits_127
            · refine lv_iload (pc := 120) hx hb dX5_fits_120 (lv_at hl 1 rfl) ?_
              refine lv_goto (pc := 122) (tgt := 127) hx hb dX5_fits_122 (by decide) ?_
              exact z_iretM (pc := 127) (fun q => q.1) (fun q => (wX5_fits cB cI cJ cO h0 h_row h_tried h_growing h_sorts h_sizes h_sheets g_fresh g_kept g_isKept g_tape g_tapeMany g_sort g_begins g_tokenEnds g_word g_value g_good g_rows g_must g_rowMany g_holds g_heldNumber g_heldSize g_kind g_number g_ownHand g_traced g_bodies g_isParted q.2.1 q.2.2.1 q.2.2.2.1 q.2.2.2.2 v_sorts v_sizes v_sheets)) hx hb hr hlocks hP hS hF rfl hQ dX5_fits_127
          have hL_60 : ∀ (n : Nat) (y4_1 : Int32) (y5_2 : Int32) (y6_3 : Int32) (v_viewed_4 : Int32) (v_row_5 : Nat → Int32) (v_growing_6 : Nat → Int32) , fX5_fits_L60 v_sizes v_sheets x1 x2 u46 k_12 n y4_1 y5_2 y6_3 v_viewed_4 v_row_5 v_growing_6 = some r → ∀ (H : Heap) (locs : List Loc), va_P D vwCl (wX5_fits cB cI cJ cO h0 h_row h_tried h_growing h_sorts h_sizes h_sheets g_fresh g_kept g_isKept g_tape g_tapeMany g_sort g_begins g_tokenEnds g_word g_value g_good g_rows g_must g_rowMany g_holds g_heldNumber g_heldSize g_kind g_number g_ownHand g_traced g_bodies g_isParted v_viewed_4 v_row_5 u46 v_growing_6 v_sorts v_sizes v_sheets) H → va_S (zAs [h0, h_row, h_tried, h_growing, h_sorts, h_sizes, h_sheets]) s.heap H locs → ∀ (ls : Array Slot), lv_has ls 8 [(0, .ref h0), (1, .int x1), (2, .int x2), (3, .int x3), (4, .int y4_1), (5, .int y5_2), (6, .int y6_3)] → W p l e rX5_fits s m args below meth c H locs 0 0 Q (F0 m 60 ls []) := by
            intro n
            induction n with
            | zero =>
              intro y4_1 y5_2 y6_3 v_viewed_4 v_row_5 v_growing_6 hF H locs hP hS ls hl
              exact z_no hF
            | succ n ih =>
              intro y4_1 y5_2 y6_3 v_viewed_4 v_row_5 v_growing_6 hF H locs hP hS ls hl
              rw [fX5_fits_L60] at hF
              refine lv_iload (pc := 60) hx hb dX5_fits_60 (lv_at hl 6 rfl) ?_
              refine zb_if_lt (pc := 62) (tgt := 116) hx hb dX5_fits_62 (by decide) hF (fun c_62 hF => ?_) (fun c_62 hF => ?_)
              · exact kk_12 y4_1 y5_2 v_viewed_4 v_row_5 v_growing_6 hF H locs hP hS ls (lv_sub hl [3, 4, 5] rfl)
              · refine lv_aload_n (pc := 65) hx hb dX5_fits_65 rfl (lv_at hl 0 rfl) ?_
                refine lv_iload_n (pc := 66) hx hb dX5_fits_66 rfl (lv_at hl 2 rfl) ?_
                refine lv_iconst (pc := 67) (v := (nI 1)) hx hb dX5_fits_67 (by decide) ?_
                refine lv_iload (pc := 68) hx hb dX5_fits_68 (lv_at hl 6 rfl) ?_
                obtain ⟨u70, hu70, hF⟩ := z_bind hF
                refine zq_callM (oc0 := none) (wc := wX5_sets cB cI cJ cO h0 h_row g_fresh g_kept (.ref h_tried) g_isKept (.int v_viewed_4) g_tape g_tapeMany g_sort g_begins g_tokenEnds g_word g_value g_good (.ref h_growing) g_rows g_must g_rowMany (.ref h_sorts) (.ref h_sizes) (.ref h_sheets) g_holds g_heldNumber g_heldSize g_kind g_number g_ownHand g_traced g_bodies g_isParted v_row_5) (wc' := wX5_sets cB cI cJ cO h0 h_row g_fresh g_kept (.ref h_tried) g_isKept (.int v_viewed_4) g_tape g_tapeMany g_sort g_begins g_tokenEnds g_word g_value g_good (.ref h_growing) g_rows g_must g_rowMany (.ref h_sorts) (.ref h_sizes) (.ref h_sheets) g_holds g_heldNumber g_heldSize g_kind g_number g_ownHand g_traced g_bodies g_isParted u70) (ws' := (wX5_fits cB cI cJ cO h0 h_row h_tried h_growing h_sorts h_sizes h_sheets g_fresh g_kept g_isKept g_tape g_tapeMany g_sort g_begins g_tokenEnds g_word g_value g_good g_rows g_must g_rowMany g_holds g_heldNumber g_heldSize g_kind g_number g_ownHand g_traced g_bodies g_isParted v_viewed_4 u70 u46 v_growing_6 v_sorts v_sizes v_sheets)) (va_runV (As := [.int x2, .int (nI 1), .int y6_3]) (rest := []) ⟨hx, hb, hml, hown, hts⟩ (tX5_sets (l := l) (D := D) (cB := cB) (cI := cI) (cJ := cJ) (cO := cO) h0 h_row g_fresh g_kept (.ref h_tried) g_isKept (.int v_viewed_4) g_tape g_tapeMany g_sort g_begins g_tokenEnds g_word g_value g_good (.ref h_growing) g_rows g_must g_rowMany (.ref h_sorts) (.ref h_sizes) (.ref h_sheets) g_holds g_heldNumber g_heldSize g_kind g_number g_ownHand g_traced g_bodies g_isParted v_row_5 x2 (nI 1) y6_3 u70 hu70) (cwV 3 hts gX5_fits_X5_sets rfl rfl rfl (by decide +kernel) ⟨Nat.le_of_ble_eq_true rfl, Nat.le_of_ble_eq_true rfl⟩) ⟨zPre_blind, va_recv hK hP (ci := 5) (q0 := 0) rfl rfl, zPre_at hP hE (zD_re hD rfl) [0, 1] rfl rfl⟩ rfl rfl hl.1 rfl (lv_room (Nat.le_of_ble_eq_true rfl)) dX5_fits_70 ⟨Nat.zero_le _, Nat.zero_le _⟩) rfl hP (zD_re hD rfl) hS [0, 1] rfl rfl [some 0, some 1, none, none, none, none, none] rfl rfl rfl rfl (fun H locs hP hS => ?_)
                refine W.eq (g2 := F0 m 73 ls []) rfl ?_
                refine lv_aload_n (pc := 73) hx hb dX5_fits_73 rfl (lv_at hl 0 rfl) ?_
                refine lv_iload_n (pc := 74) hx hb dX5_fits_74 rfl (lv_at hl 1 rfl) ?_
                refine lv_iload_n (pc := 75) hx hb dX5_fits_75 rfl (lv_at hl 2 rfl) ?_
                obtain ⟨u76, hu76, hF⟩ := z_bind hF
                refine zq_callM (oc0 := (some (.int u76.1))) (wc := wX5_isSo cB cI cJ cO h0 h_row h_tried h_growing h_sizes h_sheets g_fresh g_kept g_isKept g_tape g_tapeMany g_sort g_begins g_tokenEnds g_word g_value g_good g_rows g_must g_rowMany (.ref h_sorts) g_holds g_heldNumber g_heldSize g_kind g_number g_ownHand g_traced g_bodies g_isParted v_viewed_4 u70 u46 v_growing_6 v_sizes v_sheets) (wc' := wX5_isSo cB cI cJ cO h0 h_row h_tried h_growing h_sizes h_sheets g_fresh g_kept g_isKept g_tape g_tapeMany g_sort g_begins g_tokenEnds g_word g_value g_good g_rows g_must g_rowMany (.ref h_sorts) g_holds g_heldNumber g_heldSize g_kind g_number g_ownHand g_traced g_bodies g_isParted u76.2.1 u76.2.2.1 u46 u76.2.2.2 v_sizes v_sheets) (ws' := (wX5_fits cB cI cJ cO h0 h_row h_tried h_growing h_sorts h_sizes h_sheets g_fresh g_kept g_isKept g_tape g_tapeMany g_sort g_begins g_tokenEnds g_word g_value g_good g_rows g_must g_rowMany g_holds g_heldNumber g_heldSize g_kind g_number g_ownHand g_traced g_bodies g_isParted u76.2.1 u76.2.2.1 u46 u76.2.2.2 v_sorts v_sizes v_sheets)) (va_runV (As := [.int x1, .int x2]) (rest := []) ⟨hx, hb, hml, hown, hts⟩ (tX5_isSo (l := l) (D := D) (cB := cB) (cI := cI) (cJ := cJ) (cO := cO) h0 h_row h_tried h_growing h_sizes h_sheets g_fresh g_kept g_isKept g_tape g_tapeMany g_sort g_begins g_tokenEnds g_word g_value g_good g_rows g_must g_rowMany (.ref h_sorts) g_holds g_heldNumber g_heldSize g_kind g_number g_ownHand g_traced g_bodies g_isParted v_viewed_4 u70 u46 v_growing_6 v_sizes v_sheets x1 x2 u76 hu76) (cwV 2 hts gX5_fits_X5_isSo rfl rfl rfl (by decide +kernel) ⟨Nat.le_of_ble_eq_true rfl, Nat.le_of_ble_eq_true rfl⟩) ⟨zPre_blind, va_recv hK hP (ci := 5) (q0 := 0) rfl rfl, zPre_at hP hE (zD_re hD rfl) [0, 1, 2, 3, 5, 6] rfl rfl⟩ rfl rfl hl.1 rfl (lv_room (Nat.le_of_ble_eq_true rfl)) dX5_fits_76 ⟨Nat.zero_le _, Nat.zero_le _⟩) rfl hP (zD_re hD rfl) hS [0, 1, 2, 3, 5, 6] rfl rfl [some 0, some 1, some 2, some 3, none, some 4, some 5] rfl rfl rfl rfl (fun H locs hP hS => ?_)
                refine W.eq (g2 := F0 m 79 ls [.int u76.1]) rfl ?_
                refine lv_istore (pc := 79) (lv' := [(7, .int u76.1), (0, .ref h0), (1, .int x1), (2, .int x2), (3, .int x3), (4, .int y4_1), (5, .int y5_2), (6, .int y6_3)]) hx hb dX5_fits_79 hl (by decide) rfl (fun ls hl => ?_)
                refine lv_iload (pc := 81) hx hb dX5_fits_81 (lv_at hl 5 rfl) ?_
                refine lv_iload (pc := 83) hx hb dX5_fits_83 (lv_at hl 0 rfl) ?_
                obtain ⟨J_14, hJ_14, hF⟩ := z_J hF
                have kJ_14 : ∀ (t1_13 : Int32) , J_14 t1_13 = some r → ∀ (H : Heap) (locs : List Loc), va_P D vwCl (wX5_fits cB cI cJ cO h0 h_row h_tried h_growing h_sorts h_sizes h_sheets g_fresh g_kept g_isKept g_tape g_tapeMany g_sort g_begins g_tokenEnds g_word g_value g_good g_rows g_must g_rowMany g_holds g_heldNumber g_heldSize g_kind g_number g_ownHand g_traced g_bodies g_isParted u76.2.1 u76.2.2.1 u46 u76.2.2.2 v_sorts v_sizes v_sheets) H → va_S (zAs [h0, h_row, h_tried, h_growing, h_sorts, h_sizes, h_sheets]) s.heap H locs → ∀ (ls : Array Slot), lv_has ls 8 [(0, .ref h0), (1, .int x1), (2, .int x2), (3, .int x3), (5, .int y5_2), (6, .int y6_3), (7, .int u76.1)] → W p l e rX5_fits s m args below meth c H locs 0 0 Q (F0 m 93 ls [.int t1_13, .int y4_1]) := by
                  intro t1_13 hF H locs hP hS ls hl
                  rw [hJ_14] at hF
                  refine lv_iadd (pc := 93) hx hb dX5_fits_93 ?_
                  refine lv_istore (pc := 94) (lv' := [(4, .int (y4_1 + t1_13)), (0, .ref h0), (1, .int x1), (2, .int x2), (3, .int x3), (5, .int y5_2), (6, .int y6_3), (7, .int u76.1)]) hx hb dX5_fits_94 hl (by decide) rfl (fun ls hl => ?_)
                  refine lv_iload (pc := 96) hx hb dX5_fits_96 (lv_at hl 7 rfl) ?_
                  refine zb_if_eq (pc := 98) (tgt := 106) hx hb dX5_fits_98 (by decide) hF (fun c_98 hF => ?_) (fun c_98 hF => ?_)
                  · refine lv_iload (pc := 106) hx hb dX5_fits_106 (lv_at hl 5 rfl) ?_
                    refine lv_istore (pc := 108) (lv' := [(5, .int y5_2), (4, .int (y4_1 + t1_13)), (0, .ref h0), (1, .int x1), (2, .int x2), (3, .int x3), (6, .int y6_3), (7, .int u76.1)]) hx hb dX5_fits_108 hl (by decide) rfl (fun ls hl => ?_)
                    refine lv_iinc (pc := 110) (v := (y6_3 + (-1))) (lv' := [(6, .int (y6_3 + (-1))), (5, .int y5_2), (4, .int (y4_1 + t1_13)), (0, .ref h0), (1, .int x1), (2, .int x2), (3, .int x3), (7, .int u76.1)]) hx hb dX5_fits_110 hl (k := 6) rfl rfl (by decide) rfl (fun ls hl => ?_)
                    refine lv_goto (pc := 113) (tgt := 60) hx hb dX5_fits_113 (by decide) ?_
                    exact ih (y4_1 + t1_13) y5_2 (y6_3 + (-1)) u76.2.1 u76.2.2.1 u76.2.2.2 hF H locs hP hS ls (lv_sub hl [3, 4, 5, 6, 2, 1, 0] rfl)
                  · refine lv_iload (pc := 101) hx hb dX5_fits_101 (lv_at hl 6 rfl) ?_
                    refine lv_goto (pc := 103) (tgt := 108) hx hb dX5_fits_103 (by decide) ?_
                    refine lv_istore (pc := 108) (lv' := [(5, .int y6_3), (4, .int (y4_1 + t1_13)), (0, .ref h0), (1, .int x1), (2, .int x2), (3, .int x3), (6, .int y6_3), (7, .int u76.1)]) hx hb dX5_fits_108 hl (by decide) rfl (fun ls hl => ?_)
                    refine lv_iinc (pc := 110) (v := (y6_3 + (-1))) (lv' := [(6, .int (y6_3 + (-1))), (5, .int y6_3), (4, .int (y4_1 + t1_13)), (0, .ref h0), (1, .int x1), (2, .int x2), (3, .int x3), (7, .int u76.1)]) hx hb dX5_fits_110 hl (k := 6) rfl rfl (by decide) rfl (fun ls hl => ?_)
                    refine lv_goto (pc := 113) (tgt := 60) hx hb dX5_fits_113 (by decide) ?_
                    exact ih (y4_1 + t1_13) y6_3 (y6_3 + (-1)) u76.2.1 u76.2.2.1 u76.2.2.2 hF H locs hP hS ls (lv_sub hl [3, 4, 5, 6, 2, 1, 0] rfl)
                refine zb_if_eq (pc := 85) (tgt := 92) hx hb dX5_fits_85 (by decide) hF (fun c_85 hF => ?_) (fun c_85 hF => ?_)
                · refine lv_iconst (pc := 92) (v := (nI 0)) hx hb dX5_fits_92 (by decide) ?_
                  exact kJ_14 (nI 0) hF H locs hP hS ls (lv_sub hl [1, 2, 3, 4, 6, 7, 0] rfl)
                · refine lv_iconst (pc := 88) (v := (nI 1)) hx hb dX5_fits_88 (by decide) ?_
                  refine lv_goto (pc := 89) (tgt := 93) hx hb dX5_fits_89 (by decide) ?_
                  exact kJ_14 (nI 1) hF H locs hP hS ls (lv_sub hl [1, 2, 3, 4, 6, 7, 0] rfl)
          exact hL_60 zK (nI 0) (-3 : Int32) (nI 9) v_viewed v_row v_growing hF H locs hP hS ls (lv_sub hl [3, 4, 5, 6, 2, 1, 0] rfl)
        · refine lv_bipush (pc := 35) (v := (-11 : Int32)) hx hb dX5_fits_35 (by decide) ?_
          exact z_iretM (pc := 37) (fun q => q.1) (fun q => (wX5_fits cB cI cJ cO h0 h_row h_tried h_growing h_sorts h_sizes h_sheets g_fresh g_kept g_isKept g_tape g_tapeMany g_sort g_begins g_tokenEnds g_word g_value g_good g_rows g_must g_rowMany g_holds g_heldNumber g_heldSize g_kind g_number g_ownHand g_traced g_bodies g_isParted q.2.1 q.2.2.1 q.2.2.2.1 q.2.2.2.2 v_sorts v_sizes v_sheets)) hx hb hr hlocks hP hS hF rfl hQ dX5_fits_37
      · refine lv_iconst (pc := 24) (v := (-1 : Int32)) hx hb dX5_fits_24 (by decide) ?_
        exact z_iretM (pc := 25) (fun q => q.1) (fun q => (wX5_fits cB cI cJ cO h0 h_row h_tried h_growing h_sorts h_sizes h_sheets g_fresh g_kept g_isKept g_tape g_tapeMany g_sort g_begins g_tokenEnds g_word g_value g_good g_rows g_must g_rowMany g_holds g_heldNumber g_heldSize g_kind g_number g_ownHand g_traced g_bodies g_isParted q.2.1 q.2.2.1 q.2.2.2.1 q.2.2.2.2 v_sorts v_sizes v_sheets)) hx hb hr hlocks hP hS hF rfl hQ dX5_fits_25

abbrev rX5_lowest : Room := { frames := 0, cells := 0, slots := 0, locals := 0 }
set_option maxHeartbeats 4000000 in
set_option maxRecDepth 100000 in
theorem tX5_lowest {l : Launch} {D : va_G} {cB cI cJ cO : ClassId} (x0 : Int64) (x2 : Int64) (x4 : Int32) (r : Int64) (hF : fX5_lowest x0 x2 x4 = some r) : Met l yX5_lowest wsX5_lowest rX5_lowest (zPre D cB cI cJ cO [.long x0, .long x2, .int x4] ([] : va_W)) (zPI (some (.long r))) 0 0 (fun _ => False) := by
  refine zMetP (cc := cX5_lowest) (maxL := 11) (ret := (some .long)) (lv := [(0, .long x0), (2, .long x2), (4, .int x4)]) (by decide) rfl (Nat.le_of_ble_eq_true rfl) rfl ?_
  intro p e s m args below meth c ls Q hQ hx hb hr hml hown hts hlocks hname hP hE hD hl
  have hown : s.vm.findClass RX5 = some m.cls := hown
  have hK := hE.1
  unfold fX5_lowest at hF
  refine lv_lload_n (pc := 0) hx hb dX5_lowest_0 rfl (lv_at hl 1 rfl) ?_
  refine lv_lstore (pc := 1) (lv' := [(5, .long x2), (0, .long x0), (2, .long x2), (4, .int x4)]) hx hb dX5_lowest_1 hl (by decide) rfl (fun ls hl => ?_)
  refine lv_lload_n (pc := 3) hx hb dX5_lowest_3 rfl (lv_at hl 1 rfl) ?_
  refine lv_lstore (pc := 4) (lv' := [(7, .long x0), (5, .long x2), (0, .long x0), (2, .long x2), (4, .int x4)]) hx hb dX5_lowest_4 hl (by decide) rfl (fun ls hl => ?_)
  obtain ⟨k_4, hk_4, hF⟩ := z_J hF
  have kk_4 : ∀ (y5_3 : Int64) , k_4 y5_3 = some r → ∀ (ls : Array Slot), lv_has ls 11 [(0, .long x0), (2, .long x2), (4, .int x4), (5, .long y5_3)] → W p l e rX5_lowest s m args below meth c s.heap [] 0 0 Q (F0 m 31 ls []) := by
    intro y5_3 hF ls hl
    rw [hk_4] at hF
    refine lv_iload (pc := 31) hx hb dX5_lowest_31 (lv_at hl 2 rfl) ?_
    refine zb_if_ne (pc := 33) (tgt := 43) hx hb dX5_lowest_33 (by decide) hF (fun c_33 hF => ?_) (fun c_33 hF => ?_)
    · refine lv_lload_n (pc := 43) hx hb dX5_lowest_43 rfl (lv_at hl 1 rfl) ?_
      refine lv_lload (pc := 44) hx hb dX5_lowest_44 (lv_at hl 3 rfl) ?_
      refine za_ldiv (pc := 46) hx hb dX5_lowest_46 hF (fun hF => ?_)
      exact z_lret (pc := 47) (fun q => q) hx hb hr hlocks hF rfl hQ dX5_lowest_47
    · refine lv_lload_n (pc := 36) hx hb dX5_lowest_36 rfl (lv_at hl 0 rfl) ?_
      refine lv_lload (pc := 37) hx hb dX5_lowest_37 (lv_at hl 3 rfl) ?_
      refine za_ldiv (pc := 39) hx hb dX5_lowest_39 hF (fun hF => ?_)
      refine lv_goto (pc := 40) (tgt := 47) hx hb dX5_lowest_40 (by decide) ?_
      exact z_lret (pc := 47) (fun q => q) hx hb hr hlocks hF rfl hQ dX5_lowest_47
  have hL_6 : ∀ (n : Nat) (y5_1 : Int64) (y7_2 : Int64) , fX5_lowest_L6 k_4 n y5_1 y7_2 = some r → ∀ (ls : Array Slot), lv_has ls 11 [(0, .long x0), (2, .long x2), (4, .int x4), (5, .long y5_1), (7, .long y7_2)] → W p l e rX5_lowest s m args below meth c s.heap [] 0 0 Q (F0 m 6 ls []) := by
    intro n
    induction n with
    | zero =>
      intro y5_1 y7_2 hF ls hl
      exact z_no hF
    | succ n ih =>
      intro y5_1 y7_2 hF ls hl
      rw [fX5_lowest_L6] at hF
      refine lv_lload (pc := 6) hx hb dX5_lowest_6 (lv_at hl 4 rfl) ?_
      refine lv_lconst (pc := 8) (v := (lN 0)) hx hb dX5_lowest_8 (by decide) ?_
      refine W.lcmp (pc := 9) hx hb dX5_lowest_9 ?_
      refine zb_if_eq (pc := 10) (tgt := 31) hx hb dX5_lowest_10 (by decide) hF (fun c_10 hF => ?_) (fun c_10 hF => ?_)
      · exact kk_4 y5_1 hF ls (lv_sub hl [0, 1, 2, 3] rfl)
      · refine lv_lload (pc := 13) hx hb dX5_lowest_13 (lv_at hl 3 rfl) ?_
        refine lv_lload (pc := 15) hx hb dX5_lowest_15 (lv_at hl 4 rfl) ?_
        refine za_lrem (pc := 17) hx hb dX5_lowest_17 hF (fun hF => ?_)
        refine lv_lstore (pc := 18) (lv' := [(9, .long (y5_1 - y5_1 / y7_2 * y7_2)), (0, .long x0), (2, .long x2), (4, .int x4), (5, .long y5_1), (7, .long y7_2)]) hx hb dX5_lowest_18 hl (by decide) rfl (fun ls hl => ?_)
        refine lv_lload (pc := 20) hx hb dX5_lowest_20 (lv_at hl 5 rfl) ?_
        refine lv_lstore (pc := 22) (lv' := [(5, .long y7_2), (9, .long (y5_1 - y5_1 / y7_2 * y7_2)), (0, .long x0), (2, .long x2), (4, .int x4), (7, .long y7_2)]) hx hb dX5_lowest_22 hl (by decide) rfl (fun ls hl => ?_)
        refine lv_lload (pc := 24) hx hb dX5_lowest_24 (lv_at hl 1 rfl) ?_
        refine lv_lstore (pc := 26) (lv' := [(7, .long (y5_1 - y5_1 / y7_2 * y7_2)), (5, .long y7_2), (9, .long (y5_1 - y5_1 / y7_2 * y7_2)), (0, .long x0), (2, .long x2), (4, .int x4)]) hx hb dX5_lowest_26 hl (by decide) rfl (fun ls hl => ?_)
        refine lv_goto (pc := 28) (tgt := 6) hx hb dX5_lowest_28 (by decide) ?_
        exact ih y7_2 (y5_1 - y5_1 / y7_2 * y7_2) hF ls (lv_sub hl [3, 4, 5, 1, 0] rfl)
  exact hL_6 zK x2 x0 hF ls (lv_sub hl [2, 3, 4, 1, 0] rfl)

abbrev rX5_powerOf : Room := { frames := 0, cells := 0, slots := 0, locals := 0 }
set_option maxHeartbeats 4000000 in
set_option maxRecDepth 100000 in
theorem tX5_powerOf {l : Launch} {D : va_G} {cB cI cJ cO : ClassId} (x0 : Int32) (x1 : Int32) (r : Int64) (hF : fX5_powerOf x0 x1 = some r) : Met l yX5_powerOf wsX5_powerOf rX5_powerOf (zPre D cB cI cJ cO [.int x0, .int x1] ([] : va_W)) (zPI (some (.long r))) 0 0 (fun _ => False) := by
  refine zMetP (cc := cX5_powerOf) (maxL := 5) (ret := (some .long)) (lv := [(0, .int x0), (1, .int x1)]) (by decide) rfl (Nat.le_of_ble_eq_true rfl) rfl ?_
  intro p e s m args below meth c ls Q hQ hx hb hr hml hown hts hlocks hname hP hE hD hl
  have hown : s.vm.findClass RX5 = some m.cls := hown
  have hK := hE.1
  unfold fX5_powerOf at hF
  refine lv_lconst (pc := 0) (v := (lN 1)) hx hb dX5_powerOf_0 (by decide) ?_
  refine lv_lstore_n (pc := 1) (lv' := [(2, .long (lN 1)), (0, .int x0), (1, .int x1)]) hx hb dX5_powerOf_1 rfl hl (by decide) rfl (fun ls hl => ?_)
  refine lv_iconst (pc := 2) (v := (nI 0)) hx hb dX5_powerOf_2 (by decide) ?_
  refine lv_istore (pc := 3) (lv' := [(4, .int (nI 0)), (2, .long (lN 1)), (0, .int x0), (1, .int x1)]) hx hb dX5_powerOf_3 hl (by decide) rfl (fun ls hl => ?_)
  obtain ⟨k_4, hk_4, hF⟩ := z_J hF
  have kk_4 : ∀ (y2_3 : Int64) , k_4 y2_3 = some r → ∀ (ls : Array Slot), lv_has ls 5 [(2, .long y2_3)] → W p l e rX5_powerOf s m args below meth c s.heap [] 0 0 Q (F0 m 22 ls []) := by
    intro y2_3 hF ls hl
    rw [hk_4] at hF
    refine lv_lload_n (pc := 22) hx hb dX5_powerOf_22 rfl (lv_at hl 0 rfl) ?_
    exact z_lret (pc := 23) (fun q => q) hx hb hr hlocks hF rfl hQ dX5_powerOf_23
  have hL_5 : ∀ (n : Nat) (y2_1 : Int64) (y4_2 : Int32) , fX5_powerOf_L5 x0 x1 k_4 n y2_1 y4_2 = some r → ∀ (ls : Array Slot), lv_has ls 5 [(0, .int x0), (1, .int x1), (2, .long y2_1), (4, .int y4_2)] → W p l e rX5_powerOf s m args below meth c s.heap [] 0 0 Q (F0 m 5 ls []) := by
    intro n
    induction n with
    | zero =>
      intro y2_1 y4_2 hF ls hl
      exact z_no hF
    | succ n ih =>
      intro y2_1 y4_2 hF ls hl
      rw [fX5_powerOf_L5] at hF
      refine lv_iload (pc := 5) hx hb dX5_powerOf_5 (lv_at hl 3 rfl) ?_
      refine lv_iload_n (pc := 7) hx hb dX5_powerOf_7 rfl (lv_at hl 1 rfl) ?_
      refine zb_icmp_ge (pc := 8) (tgt := 22) hx hb dX5_powerOf_8 (by decide) hF (fun c_8 hF => ?_) (fun c_8 hF => ?_)
      · exact kk_4 y2_1 hF ls (lv_sub hl [2] rfl)
      · refine lv_lload_n (pc := 11) hx hb dX5_powerOf_11 rfl (lv_at hl 2 rfl) ?_
        refine lv_iload_n (pc := 12) hx hb dX5_powerOf_12 rfl (lv_at hl 0 rfl) ?_
        refine lv_i2l (pc := 13) (v := x0.toInt64) hx hb dX5_powerOf_13 rfl ?_
        refine lv_lmul (pc := 14) hx hb dX5_powerOf_14 ?_
        refine lv_lstore_n (pc := 15) (lv' := [(2, .long (y2_1 * (x0.toInt64))), (0, .int x0), (1, .int x1), (4, .int y4_2)]) hx hb dX5_powerOf_15 rfl hl (by decide) rfl (fun ls hl => ?_)
        refine lv_iinc (pc := 16) (v := (y4_2 + 1)) (lv' := [(4, .int (y4_2 + 1)), (2, .long (y2_1 * (x0.toInt64))), (0, .int x0), (1, .int x1)]) hx hb dX5_powerOf_16 hl (k := 3) rfl rfl (by decide) rfl (fun ls hl => ?_)
        refine lv_goto (pc := 19) (tgt := 5) hx hb dX5_powerOf_19 (by decide) ?_
        exact ih (y2_1 * (x0.toInt64)) (y4_2 + 1) hF ls (lv_sub hl [2, 3, 1, 0] rfl)
  exact hL_5 zK (lN 1) (nI 0) hF ls (lv_sub hl [2, 3, 1, 0] rfl)

abbrev rX5_odds : Room := { frames := 1, cells := 0, slots := 0, locals := 30 }
abbrev wX5_odds (cB cI cJ cO : ClassId) (h0 h_row : Nat) (g_fresh g_kept g_tried g_isKept g_viewed g_tape g_tapeMany g_sort g_begins g_tokenEnds g_word g_value g_good g_growing g_rows g_must g_rowMany g_sorts g_sizes g_sheets g_holds g_heldNumber g_heldSize g_kind g_number g_ownHand g_traced g_bodies g_isParted : Value) (v_row : Nat → Int32) : va_W := [(h0, .inr (5, [.ref h_row, g_fresh, g_kept, g_tried, g_isKept, g_viewed, g_tape, g_tapeMany, g_sort, g_begins, g_tokenEnds, g_word, g_value, g_good, g_growing, g_rows, g_must, g_rowMany, g_sorts, g_sizes, g_sheets, g_holds, g_heldNumber, g_heldSize, g_kind, g_number, g_ownHand, g_traced, g_bodies, g_isParted])), (h_row, .inl (cI, 68, .inl v_row))]
theorem nX5_odds_X5 : ∀ w ∈ wsX50, w ∈ wsX5_odds := by decide +kernel
theorem kX5_odds_0 : Cond.constantLong RX5 100 (-1 : Int64) ∈ wsX5_odds := by decide +kernel
theorem kX5_odds_1 : Cond.fieldLink RX5 7 "PaintedWallsModel" "row" "[I" ∈ wsX5_odds := by decide +kernel
set_option maxHeartbeats 4000000 in
set_option maxRecDepth 100000 in
theorem tX5_odds {l : Launch} {D : va_G} {cB cI cJ cO : ClassId} (h0 h_row : Nat) (g_fresh g_kept g_tried g_isKept g_viewed g_tape g_tapeMany g_sort g_begins g_tokenEnds g_word g_value g_good g_growing g_rows g_must g_rowMany g_sorts g_sizes g_sheets g_holds g_heldNumber g_heldSize g_kind g_number g_ownHand g_traced g_bodies g_isParted : Value) (v_row : Nat → Int32) (x1 : Int32) (x2 : Int32) (x3 : Int32) (r : Int64) (hF : fX5_odds v_row x1 x2 x3 = some r) : Met l yX5_odds wsX5_odds rX5_odds (zPre D cB cI cJ cO [.ref h0, .int x1, .int x2, .int x3] (wX5_odds cB cI cJ cO h0 h_row g_fresh g_kept g_tried g_isKept g_viewed g_tape g_tapeMany g_sort g_begins g_tokenEnds g_word g_value g_good g_growing g_rows g_must g_rowMany g_sorts g_sizes g_sheets g_holds g_heldNumber g_heldSize g_kind g_number g_ownHand g_traced g_bodies g_isParted v_row)) (zPI (some (.long r))) 0 0 (fun _ => False) := by
  refine zMetP (cc := cX5_odds) (maxL := 7) (ret := (some .long)) (lv := [(0, .ref h0), (1, .int x1), (2, .int x2), (3, .int x3)]) (by decide) rfl (Nat.le_of_ble_eq_true rfl) rfl ?_
  intro p e s m args below meth c ls Q hQ hx hb hr hml hown hts hlocks hname hP hE hD hl
  have hown : s.vm.findClass RX5 = some m.cls := hown
  have hK := hE.1
  unfold fX5_odds at hF
  refine lv_iload_n (pc := 0) hx hb dX5_odds_0 rfl (lv_at hl 1 rfl) ?_
  refine lv_iconst (pc := 1) (v := (nI 0)) hx hb dX5_odds_1 (by decide) ?_
  refine lv_bipush (pc := 2) (v := (nI 8)) hx hb dX5_odds_2 (by decide) ?_
  obtain ⟨u4, hu4, hF⟩ := z_bind hF
  refine zq_call (oc0 := (some (.int u4))) (va_runS (As := [.int x1, .int (nI 0), .int (nI 8)]) (rest := []) ⟨hx, hb, hml, hown, hts⟩ (tX5_in (l := l) (D := D) (cB := cB) (cI := cI) (cJ := cJ) (cO := cO) x1 (nI 0) (nI 8) u4 hu4) (va_cwS 3 hts gX5_odds_X5_in rfl rfl rfl (by decide +kernel) ⟨Nat.le_of_ble_eq_true rfl, Nat.le_of_ble_eq_true rfl⟩) ⟨zPre_blind, zPre_at hP hE hD [] rfl rfl⟩ rfl rfl hl.1 rfl (lv_room (Nat.le_of_ble_eq_true rfl)) dX5_odds_4 ⟨Nat.zero_le _, Nat.zero_le _⟩) ?_
  refine W.eq (g2 := F0 m 7 ls [.int u4]) rfl ?_
  refine zb_if_eq (pc := 7) (tgt := 28) hx hb dX5_odds_7 (by decide) hF (fun c_7 hF => ?_) (fun c_7 hF => ?_)
  · refine lv_ldc2 (pc := 28) hx hb hown (hts _ kX5_odds_0) dX5_odds_28 ?_
    exact z_lret (pc := 31) (fun q => q) hx hb hr hlocks hF rfl hQ dX5_odds_31
  · refine lv_iload_n (pc := 10) hx hb dX5_odds_10 rfl (lv_at hl 2 rfl) ?_
    refine lv_iconst (pc := 11) (v := (nI 0)) hx hb dX5_odds_11 (by decide) ?_
    refine lv_iload_n (pc := 12) hx hb dX5_odds_12 rfl (lv_at hl 1 rfl) ?_
    obtain ⟨u13, hu13, hF⟩ := z_bind hF
    refine zq_call (oc0 := (some (.int u13))) (va_runS (As := [.int x2, .int (nI 0), .int x1]) (rest := []) ⟨hx, hb, hml, hown, hts⟩ (tX5_in (l := l) (D := D) (cB := cB) (cI := cI) (cJ := cJ) (cO := cO) x2 (nI 0) x1 u13 hu13) (va_cwS 3 hts gX5_odds_X5_in rfl rfl rfl (by decide +kernel) ⟨Nat.le_of_ble_eq_true rfl, Nat.le_of_ble_eq_true rfl⟩) ⟨zPre_blind, zPre_at hP hE hD [] rfl rfl⟩ rfl rfl hl.1 rfl (lv_room (Nat.le_of_ble_eq_true rfl)) dX5_odds_13 ⟨Nat.zero_le _, Nat.zero_le _⟩) ?_
    refine W.eq (g2 := F0 m 16 ls [.int u13]) rfl ?_
    refine zb_if_eq (pc := 16) (tgt := 28) hx hb dX5_odds_16 (by decide) hF (fun c_16 hF => ?_) (fun c_16 hF => ?_)
    · refine lv_ldc2 (pc := 28) hx hb hown (hts _ kX5_odds_0) dX5_odds_28 ?_
      exact z_lret (pc := 31) (fun q => q) hx hb hr hlocks hF rfl hQ dX5_odds_31
    · refine lv_iload_n (pc := 19) hx hb dX5_odds_19 rfl (lv_at hl 3 rfl) ?_
      refine lv_iconst (pc := 20) (v := (nI 0)) hx hb dX5_odds_20 (by decide) ?_
      refine lv_iconst (pc := 21) (v := (nI 1)) hx hb dX5_odds_21 (by decide) ?_
      obtain ⟨u22, hu22, hF⟩ := z_bind hF
      refine zq_call (oc0 := (some (.int u22))) (va_runS (As := [.int x3, .int (nI 0), .int (nI 1)]) (rest := []) ⟨hx, hb, hml, hown, hts⟩ (tX5_in (l := l) (D := D) (cB := cB) (cI := cI) (cJ := cJ) (cO := cO) x3 (nI 0) (nI 1) u22 hu22) (va_cwS 3 hts gX5_odds_X5_in rfl rfl rfl (by decide +kernel) ⟨Nat.le_of_ble_eq_true rfl, Nat.le_of_ble_eq_true rfl⟩) ⟨zPre_blind, zPre_at hP hE hD [] rfl rfl⟩ rfl rfl hl.1 rfl (lv_room (Nat.le_of_ble_eq_true rfl)) dX5_odds_22 ⟨Nat.zero_le _, Nat.zero_le _⟩) ?_
      refine W.eq (g2 := F0 m 25 ls [.int u22]) rfl ?_
      refine zb_if_ne (pc := 25) (tgt := 32) hx hb dX5_odds_25 (by decide) hF (fun c_25 hF => ?_) (fun c_25 hF => ?_)
      · refine lv_lconst (pc := 32) (v := (lN 1)) hx hb dX5_odds_32 (by decide) ?_
        refine lv_lstore (pc := 33) (lv' := [(4, .long (lN 1)), (0, .ref h0), (1, .int x1), (2, .int x2), (3, .int x3)]) hx hb dX5_odds_33 hl (by decide) rfl (fun ls hl => ?_)
        refine lv_iconst (pc := 35) (v := (nI 0)) hx hb dX5_odds_35 (by decide) ?_
        refine lv_istore (pc := 36) (lv' := [(6, .int (nI 0)), (4, .long (lN 1)), (0, .ref h0), (1, .int x1), (2, .int x2), (3, .int x3)]) hx hb dX5_odds_36 hl (by decide) rfl (fun ls hl => ?_)
        obtain ⟨k_4, hk_4, hF⟩ := z_J hF
        have kk_4 : ∀ (y4_3 : Int64) , k_4 y4_3 = some r → ∀ (ls : Array Slot), lv_has ls 7 [(0, .ref h0), (1, .int x1), (2, .int x2), (3, .int x3), (4, .long y4_3)] → W p l e rX5_odds s m args below meth c s.heap [] 0 0 Q (F0 m 66 ls []) := by
          intro y4_3 hF ls hl
          rw [hk_4] at hF
          refine lv_lload (pc := 66) hx hb dX5_odds_66 (lv_at hl 4 rfl) ?_
          refine lv_aload_n (pc := 68) hx hb dX5_odds_68 rfl (lv_at hl 0 rfl) ?_
          refine va_get (D := D) (pc := 69) (ci := 5) (v := .ref h_row) (C := RX5) (T := TX5) (N := 30) hx hb hts nX5_odds_X5 hown hK hP 0 rfl rfl 0 (by decide) (hts _ kX5_odds_1) (fun _ h9 => h9) rfl dX5_odds_69 ?_
          refine lv_iconst (pc := 72) (v := (nI 3)) hx hb dX5_odds_72 (by decide) ?_
          refine za_ialdK (pc := 73) (k := 3) hx hb hK hP 1 1 rfl rfl (by decide) (by decide) dX5_odds_73 ?_
          refine lv_iload_n (pc := 74) hx hb dX5_odds_74 rfl (lv_at hl 2 rfl) ?_
          obtain ⟨u75, hu75, hF⟩ := z_bind hF
          refine zq_call (oc0 := (some (.long u75))) (va_runS (As := [.int (v_row 3), .int x2]) (rest := [.long y4_3]) ⟨hx, hb, hml, hown, hts⟩ (tX5_powerOf (l := l) (D := D) (cB := cB) (cI := cI) (cJ := cJ) (cO := cO) (v_row 3) x2 u75 hu75) (va_cwS 2 hts gX5_odds_X5_powerOf rfl rfl rfl (by decide +kernel) ⟨Nat.le_of_ble_eq_true rfl, Nat.le_of_ble_eq_true rfl⟩) ⟨zPre_blind, zPre_at hP hE hD [] rfl rfl⟩ rfl rfl hl.1 rfl (lv_room (Nat.le_of_ble_eq_true rfl)) dX5_odds_75 ⟨Nat.zero_le _, Nat.zero_le _⟩) ?_
          refine W.eq (g2 := F0 m 78 ls [.long u75, .long y4_3]) rfl ?_
          refine lv_lmul (pc := 78) hx hb dX5_odds_78 ?_
          refine lv_bipush (pc := 79) (v := (nI 100)) hx hb dX5_odds_79 (by decide) ?_
          refine lv_aload_n (pc := 81) hx hb dX5_odds_81 rfl (lv_at hl 0 rfl) ?_
          refine va_get (D := D) (pc := 82) (ci := 5) (v := .ref h_row) (C := RX5) (T := TX5) (N := 30) hx hb hts nX5_odds_X5 hown hK hP 0 rfl rfl 0 (by decide) (hts _ kX5_odds_1) (fun _ h9 => h9) rfl dX5_odds_82 ?_
          refine lv_iconst (pc := 85) (v := (nI 3)) hx hb dX5_odds_85 (by decide) ?_
          refine za_ialdK (pc := 86) (k := 3) hx hb hK hP 1 1 rfl rfl (by decide) (by decide) dX5_odds_86 ?_
          refine lv_isub (pc := 87) hx hb dX5_odds_87 ?_
          refine lv_iload_n (pc := 88) hx hb dX5_odds_88 rfl (lv_at hl 1 rfl) ?_
          refine lv_iload_n (pc := 89) hx hb dX5_odds_89 rfl (lv_at hl 2 rfl) ?_
          refine lv_isub (pc := 90) hx hb dX5_odds_90 ?_
          obtain ⟨u91, hu91, hF⟩ := z_bind hF
          refine zq_call (oc0 := (some (.long u91))) (va_runS (As := [.int ((nI 100) - (v_row 3)), .int (x1 - x2)]) (rest := [.long (y4_3 * u75)]) ⟨hx, hb, hml, hown, hts⟩ (tX5_powerOf (l := l) (D := D) (cB := cB) (cI := cI) (cJ := cJ) (cO := cO) ((nI 100) - (v_row 3)) (x1 - x2) u91 hu91) (va_cwS 2 hts gX5_odds_X5_powerOf rfl rfl rfl (by decide +kernel) ⟨Nat.le_of_ble_eq_true rfl, Nat.le_of_ble_eq_true rfl⟩) ⟨zPre_blind, zPre_at hP hE hD [] rfl rfl⟩ rfl rfl hl.1 rfl (lv_room (Nat.le_of_ble_eq_true rfl)) dX5_odds_91 ⟨Nat.zero_le _, Nat.zero_le _⟩) ?_
          refine W.eq (g2 := F0 m 94 ls [.long u91, .long (y4_3 * u75)]) rfl ?_
          refine lv_lmul (pc := 94) hx hb dX5_odds_94 ?_
          refine lv_bipush (pc := 95) (v := (nI 100)) hx hb dX5_odds_95 (by decide) ?_
          refine lv_iload_n (pc := 97) hx hb dX5_odds_97 rfl (lv_at hl 1 rfl) ?_
          obtain ⟨u98, hu98, hF⟩ := z_bind hF
          refine zq_call (oc0 := (some (.long u98))) (va_runS (As := [.int (nI 100), .int x1]) (rest := [.long ((y4_3 * u75) * u91)]) ⟨hx, hb, hml, hown, hts⟩ (tX5_powerOf (l := l) (D := D) (cB := cB) (cI := cI) (cJ := cJ) (cO := cO) (nI 100) x1 u98 hu98) (va_cwS 2 hts gX5_odds_X5_powerOf rfl rfl rfl (by decide +kernel) ⟨Nat.le_of_ble_eq_true rfl, Nat.le_of_ble_eq_true rfl⟩) ⟨zPre_blind, zPre_at hP hE hD [] rfl rfl⟩ rfl rfl hl.1 rfl (lv_room (Nat.le_of_ble_eq_true rfl)) dX5_odds_98 ⟨Nat.zero_le _, Nat.zero_le _⟩) ?_
          refine W.eq (g2 := F0 m 101 ls [.long u98, .long ((y4_3 * u75) * u91)]) rfl ?_
          refine lv_iload_n (pc := 101) hx hb dX5_odds_101 rfl (lv_at hl 3 rfl) ?_
          obtain ⟨u102, hu102, hF⟩ := z_bind hF
          refine zq_call (oc0 := (some (.long u102))) (va_runS (As := [.long ((y4_3 * u75) * u91), .long u98, .int x3]) (rest := []) ⟨hx, hb, hml, hown, hts⟩ (tX5_lowest (l := l) (D := D) (cB := cB) (cI := cI) (cJ := cJ) (cO := cO) ((y4_3 * u75) * u91) u98 x3 u102 hu102) (va_cwS 3 hts gX5_odds_X5_lowest rfl rfl rfl (by decide +kernel) ⟨Nat.le_of_ble_eq_true rfl, Nat.le_of_ble_eq_true rfl⟩) ⟨zPre_blind, zPre_at hP hE hD [] rfl rfl⟩ rfl rfl hl.1 rfl (lv_room (Nat.le_of_ble_eq_true rfl)) dX5_odds_102 ⟨Nat.zero_le _, Nat.zero_le _⟩) ?_
          refine W.eq (g2 := F0 m 105 ls [.long u102]) rfl ?_
          exact z_lret (pc := 105) (fun q => q) hx hb hr hlocks hF rfl hQ dX5_odds_105
        have hL_38 : ∀ (n : Nat) (y4_1 : Int64) (y6_2 : Int32) , fX5_odds_L38 x1 x2 k_4 n y4_1 y6_2 = some r → ∀ (ls : Array Slot), lv_has ls 7 [(0, .ref h0), (1, .int x1), (2, .int x2), (3, .int x3), (4, .long y4_1), (6, .int y6_2)] → W p l e rX5_odds s m args below meth c s.heap [] 0 0 Q (F0 m 38 ls []) := by
          intro n
          induction n with
          | zero =>
            intro y4_1 y6_2 hF ls hl
            exact z_no hF
          | succ n ih =>
            intro y4_1 y6_2 hF ls hl
            rw [fX5_odds_L38] at hF
            refine lv_iload (pc := 38) hx hb dX5_odds_38 (lv_at hl 5 rfl) ?_
            refine lv_iload_n (pc := 40) hx hb dX5_odds_40 rfl (lv_at hl 2 rfl) ?_
            refine zb_icmp_ge (pc := 41) (tgt := 66) hx hb dX5_odds_41 (by decide) hF (fun c_41 hF => ?_) (fun c_41 hF => ?_)
            · exact kk_4 y4_1 hF ls (lv_sub hl [0, 1, 2, 3, 4] rfl)
            · refine lv_lload (pc := 44) hx hb dX5_odds_44 (lv_at hl 4 rfl) ?_
              refine lv_iload_n (pc := 46) hx hb dX5_odds_46 rfl (lv_at hl 1 rfl) ?_
              refine lv_iload (pc := 47) hx hb dX5_odds_47 (lv_at hl 5 rfl) ?_
              refine lv_isub (pc := 49) hx hb dX5_odds_49 ?_
              refine lv_i2l (pc := 50) (v := (x1 - y6_2).toInt64) hx hb dX5_odds_50 rfl ?_
              refine lv_lmul (pc := 51) hx hb dX5_odds_51 ?_
              refine lv_iload (pc := 52) hx hb dX5_odds_52 (lv_at hl 5 rfl) ?_
              refine lv_iconst (pc := 54) (v := (nI 1)) hx hb dX5_odds_54 (by decide) ?_
              refine lv_iadd (pc := 55) hx hb dX5_odds_55 ?_
              refine lv_i2l (pc := 56) (v := (y6_2 + (nI 1)).toInt64) hx hb dX5_odds_56 rfl ?_
              refine za_ldiv (pc := 57) hx hb dX5_odds_57 hF (fun hF => ?_)
              refine lv_lstore (pc := 58) (lv' := [(4, .long ((y4_1 * ((x1 - y6_2).toInt64)) / ((y6_2 + (nI 1)).toInt64))), (0, .ref h0), (1, .int x1), (2, .int x2), (3, .int x3), (6, .int y6_2)]) hx hb dX5_odds_58 hl (by decide) rfl (fun ls hl => ?_)
              refine lv_iinc (pc := 60) (v := (y6_2 + 1)) (lv' := [(6, .int (y6_2 + 1)), (4, .long ((y4_1 * ((x1 - y6_2).toInt64)) / ((y6_2 + (nI 1)).toInt64))), (0, .ref h0), (1, .int x1), (2, .int x2), (3, .int x3)]) hx hb dX5_odds_60 hl (k := 5) rfl rfl (by decide) rfl (fun ls hl => ?_)
              refine lv_goto (pc := 63) (tgt := 38) hx hb dX5_odds_63 (by decide) ?_
              exact ih ((y4_1 * ((x1 - y6_2).toInt64)) / ((y6_2 + (nI 1)).toInt64)) (y6_2 + 1) hF ls (lv_sub hl [2, 3, 4, 5, 1, 0] rfl)
        exact hL_38 zK (lN 1) (nI 0) hF ls (lv_sub hl [2, 3, 4, 5, 1, 0] rfl)
      · refine lv_ldc2 (pc := 28) hx hb hown (hts _ kX5_odds_0) dX5_odds_28 ?_
        exact z_lret (pc := 31) (fun q => q) hx hb hr hlocks hF rfl hQ dX5_odds_31
