abbrev rX5_nightGoes : Room := { frames := 6, cells := 0, slots := 0, locals := 135 }
abbrev wX5_nightGoes (cB cI cJ cO : ClassId) (h0 h_row h_growing : Nat) (g_fresh g_kept g_tried g_isKept g_tape g_tapeMany g_sort g_begins g_tokenEnds g_word g_value g_good g_rows g_must g_rowMany g_sorts g_sizes g_sheets g_holds g_heldNumber g_heldSize g_kind g_number g_ownHand g_traced g_bodies g_isParted : Value) (v_viewed : Int32) (v_row : Nat → Int32) (v_growing : Nat → Int32) : va_W := [(h0, .inr (5, [.ref h_row, g_fresh, g_kept, g_tried, g_isKept, .int v_viewed, g_tape, g_tapeMany, g_sort, g_begins, g_tokenEnds, g_word, g_value, g_good, .ref h_growing, g_rows, g_must, g_rowMany, g_sorts, g_sizes, g_sheets, g_holds, g_heldNumber, g_heldSize, g_kind, g_number, g_ownHand, g_traced, g_bodies, g_isParted])), (h_row, .inl (cI, 68, .inl v_row)), (h_growing, .inl (cI, 8, .inl v_growing))]
theorem nX5_nightGoes_X5 : ∀ w ∈ wsX50, w ∈ wsX5_nightGoes := by decide +kernel
theorem kX5_nightGoes_0 : Cond.fieldLink RX5 7 "PaintedWallsModel" "row" "[I" ∈ wsX5_nightGoes := by decide +kernel
theorem kX5_nightGoes_1 : Cond.fieldLink RX5 255 "PaintedWallsModel" "viewed" "I" ∈ wsX5_nightGoes := by decide +kernel
theorem kX5_nightGoes_2 : Cond.constant RX5 258 (nI 99999) ∈ wsX5_nightGoes := by decide +kernel
theorem kX5_nightGoes_3 : Cond.fieldLink RX5 25 "PaintedWallsModel" "growing" "[I" ∈ wsX5_nightGoes := by decide +kernel
set_option maxHeartbeats 4000000 in
set_option maxRecDepth 100000 in
theorem tX5_nightGoes {l : Launch} {D : va_G} {cB cI cJ cO : ClassId} (h0 h_row h_growing : Nat) (g_fresh g_kept g_tried g_isKept g_tape g_tapeMany g_sort g_begins g_tokenEnds g_word g_value g_good g_rows g_must g_rowMany g_sorts g_sizes g_sheets g_holds g_heldNumber g_heldSize g_kind g_number g_ownHand g_traced g_bodies g_isParted : Value) (v_viewed : Int32) (v_row : Nat → Int32) (v_growing : Nat → Int32) (r : Int32 × (Nat → Int32) × (Nat → Int32)) (hF : fX5_nightGoes v_viewed v_row v_growing = some r) : Met l yX5_nightGoes wsX5_nightGoes rX5_nightGoes (zPre D cB cI cJ cO [.ref h0] (wX5_nightGoes cB cI cJ cO h0 h_row h_growing g_fresh g_kept g_tried g_isKept g_tape g_tapeMany g_sort g_begins g_tokenEnds g_word g_value g_good g_rows g_must g_rowMany g_sorts g_sizes g_sheets g_holds g_heldNumber g_heldSize g_kind g_number g_ownHand g_traced g_bodies g_isParted v_viewed v_row v_growing)) (zPM none D (wX5_nightGoes cB cI cJ cO h0 h_row h_growing g_fresh g_kept g_tried g_isKept g_tape g_tapeMany g_sort g_begins g_tokenEnds g_word g_value g_good g_rows g_must g_rowMany g_sorts g_sizes g_sheets g_holds g_heldNumber g_heldSize g_kind g_number g_ownHand g_traced g_bodies g_isParted r.1 r.2.1 r.2.2) (zAs [h0, h_row, h_growing])) 0 0 (zAs [h0, h_row, h_growing]) := by
  refine zMetM (cc := cX5_nightGoes) (maxL := 2) (ret := none) (lv := [(0, .ref h0)]) rfl (by decide) rfl (Nat.le_of_ble_eq_true rfl) rfl ?_
  intro p e s m args below meth c ls Q H locs hQ hx hb hr hml hown hts hlocks hname hP hE hD hS hl
  have hown : s.vm.findClass RX5 = some m.cls := hown
  have hK := hE.1
  unfold fX5_nightGoes at hF
  refine lv_iconst (pc := 0) (v := (nI 0)) hx hb dX5_nightGoes_0 (by decide) ?_
  refine lv_istore_n (pc := 1) (lv' := [(1, .int (nI 0)), (0, .ref h0)]) hx hb dX5_nightGoes_1 rfl hl (by decide) rfl (fun ls hl => ?_)
  obtain ⟨k_4, hk_4, hF⟩ := z_J hF
  have kk_4 : ∀ (v_row_3 : Nat → Int32) , k_4 v_row_3 = some r → ∀ (H : Heap) (locs : List Loc), va_P D vwCl (wX5_nightGoes cB cI cJ cO h0 h_row h_growing g_fresh g_kept g_tried g_isKept g_tape g_tapeMany g_sort g_begins g_tokenEnds g_word g_value g_good g_rows g_must g_rowMany g_sorts g_sizes g_sheets g_holds g_heldNumber g_heldSize g_kind g_number g_ownHand g_traced g_bodies g_isParted v_viewed v_row_3 v_growing) H → va_S (zAs [h0, h_row, h_growing]) s.heap H locs → ∀ (ls : Array Slot), lv_has ls 2 [(0, .ref h0)] → W p l e rX5_nightGoes s m args below meth c H locs 0 0 Q (F0 m 32 ls []) := by
    intro v_row_3 hF H locs hP hS ls hl
    rw [hk_4] at hF
    refine lv_iconst (pc := 32) (v := (nI 0)) hx hb dX5_nightGoes_32 (by decide) ?_
    refine lv_istore_n (pc := 33) (lv' := [(1, .int (nI 0)), (0, .ref h0)]) hx hb dX5_nightGoes_33 rfl hl (by decide) rfl (fun ls hl => ?_)
    obtain ⟨k_8, hk_8, hF⟩ := z_J hF
    have kk_8 : ∀ (v_growing_7 : Nat → Int32) , k_8 v_growing_7 = some r → ∀ (H : Heap) (locs : List Loc), va_P D vwCl (wX5_nightGoes cB cI cJ cO h0 h_row h_growing g_fresh g_kept g_tried g_isKept g_tape g_tapeMany g_sort g_begins g_tokenEnds g_word g_value g_good g_rows g_must g_rowMany g_sorts g_sizes g_sheets g_holds g_heldNumber g_heldSize g_kind g_number g_ownHand g_traced g_bodies g_isParted v_viewed v_row_3 v_growing_7) H → va_S (zAs [h0, h_row, h_growing]) s.heap H locs → ∀ (ls : Array Slot), lv_has ls 2 [(0, .ref h0)] → W p l e rX5_nightGoes s m args below meth c H locs 0 0 Q (F0 m 74 ls []) := by
      intro v_growing_7 hF H locs hP hS ls hl
      rw [hk_8] at hF
      refine lv_iconst (pc := 74) (v := (nI 0)) hx hb dX5_nightGoes_74 (by decide) ?_
      refine lv_istore_n (pc := 75) (lv' := [(1, .int (nI 0)), (0, .ref h0)]) hx hb dX5_nightGoes_75 rfl hl (by decide) rfl (fun ls hl => ?_)
      obtain ⟨k_12, hk_12, hF⟩ := z_J hF
      have kk_12 : ∀ (v_row_11 : Nat → Int32) , k_12 v_row_11 = some r → ∀ (H : Heap) (locs : List Loc), va_P D vwCl (wX5_nightGoes cB cI cJ cO h0 h_row h_growing g_fresh g_kept g_tried g_isKept g_tape g_tapeMany g_sort g_begins g_tokenEnds g_word g_value g_good g_rows g_must g_rowMany g_sorts g_sizes g_sheets g_holds g_heldNumber g_heldSize g_kind g_number g_ownHand g_traced g_bodies g_isParted v_viewed v_row_11 v_growing_7) H → va_S (zAs [h0, h_row, h_growing]) s.heap H locs → ∀ (ls : Array Slot), lv_has ls 2 [(0, .ref h0)] → W p l e rX5_nightGoes s m args below meth c H locs 0 0 Q (F0 m 118 ls []) := by
        intro v_row_11 hF H locs hP hS ls hl
        rw [hk_12] at hF
        refine lv_iconst (pc := 118) (v := (nI 0)) hx hb dX5_nightGoes_118 (by decide) ?_
        refine lv_istore_n (pc := 119) (lv' := [(1, .int (nI 0)), (0, .ref h0)]) hx hb dX5_nightGoes_119 rfl hl (by decide) rfl (fun ls hl => ?_)
        obtain ⟨k_16, hk_16, hF⟩ := z_J hF
        have kk_16 : ∀ (v_row_15 : Nat → Int32) , k_16 v_row_15 = some r → ∀ (H : Heap) (locs : List Loc), va_P D vwCl (wX5_nightGoes cB cI cJ cO h0 h_row h_growing g_fresh g_kept g_tried g_isKept g_tape g_tapeMany g_sort g_begins g_tokenEnds g_word g_value g_good g_rows g_must g_rowMany g_sorts g_sizes g_sheets g_holds g_heldNumber g_heldSize g_kind g_number g_ownHand g_traced g_bodies g_isParted v_viewed v_row_15 v_growing_7) H → va_S (zAs [h0, h_row, h_growing]) s.heap H locs → ∀ (ls : Array Slot), lv_has ls 2 [(0, .ref h0)] → W p l e rX5_nightGoes s m args below meth c H locs 0 0 Q (F0 m 140 ls []) := by
          intro v_row_15 hF H locs hP hS ls hl
          rw [hk_16] at hF
          refine lv_aload_n (pc := 140) hx hb dX5_nightGoes_140 rfl (lv_at hl 0 rfl) ?_
          refine va_get (D := D) (pc := 141) (ci := 5) (v := .ref h_row) (C := RX5) (T := TX5) (N := 30) hx hb hts nX5_nightGoes_X5 hown hK hP 0 rfl rfl 0 (by decide) (hts _ kX5_nightGoes_0) (fun _ h9 => h9) rfl dX5_nightGoes_141 ?_
          refine lv_iconst (pc := 144) (v := (nI 4)) hx hb dX5_nightGoes_144 (by decide) ?_
          refine lv_dup2_11 (pc := 145) hx hb dX5_nightGoes_145 rfl rfl ?_
          refine za_ialdK (pc := 146) (k := 4) hx hb hK hP 1 1 rfl rfl (by decide) (by decide) dX5_nightGoes_146 ?_
          refine lv_iconst (pc := 147) (v := (nI 1)) hx hb dX5_nightGoes_147 (by decide) ?_
          refine lv_iadd (pc := 148) hx hb dX5_nightGoes_148 ?_
          refine za_iastK (pc := 149) (k := 4) hx hb hK hP (zD_re hD rfl) hS 1 1 rfl rfl (by decide) (by decide) dX5_nightGoes_149 (fun H locs hP hS => ?_)
          have hP : va_P D vwCl (wX5_nightGoes cB cI cJ cO h0 h_row h_growing g_fresh g_kept g_tried g_isKept g_tape g_tapeMany g_sort g_begins g_tokenEnds g_word g_value g_good g_rows g_must g_rowMany g_sorts g_sizes g_sheets g_holds g_heldNumber g_heldSize g_kind g_number g_ownHand g_traced g_bodies g_isParted v_viewed (upd v_row_15 4 ((v_row_15 4) + (nI 1))) v_growing_7) H := hP
          refine lv_aload_n (pc := 150) hx hb dX5_nightGoes_150 rfl (lv_at hl 0 rfl) ?_
          obtain ⟨u151, hu151, hF⟩ := z_bind hF
          refine zq_call (oc0 := (some (.int u151))) (va_runV (As := []) (rest := []) ⟨hx, hb, hml, hown, hts⟩ (tX5_looksOfAll (l := l) (D := D) (cB := cB) (cI := cI) (cJ := cJ) (cO := cO) h0 h_row g_fresh g_kept g_tried g_isKept (.int v_viewed) g_tape g_tapeMany g_sort g_begins g_tokenEnds g_word g_value g_good (.ref h_growing) g_rows g_must g_rowMany g_sorts g_sizes g_sheets g_holds g_heldNumber g_heldSize g_kind g_number g_ownHand g_traced g_bodies g_isParted (upd v_row_15 4 ((v_row_15 4) + (nI 1))) u151 hu151) (cwV 0 hts gX5_nightGoes_X5_looksOfAll rfl rfl rfl (by decide +kernel) ⟨Nat.le_of_ble_eq_true rfl, Nat.le_of_ble_eq_true rfl⟩) ⟨zPre_blind, va_recv hK hP (ci := 5) (q0 := 0) rfl rfl, zPre_at hP hE (zD_re hD rfl) [0, 1] rfl rfl⟩ rfl rfl hl.1 rfl (lv_room (Nat.le_of_ble_eq_true rfl)) dX5_nightGoes_151 ⟨Nat.zero_le _, Nat.zero_le _⟩) ?_
          refine W.eq (g2 := F0 m 154 ls [.int u151]) rfl ?_
          refine lv_istore_n (pc := 154) (lv' := [(1, .int u151), (0, .ref h0)]) hx hb dX5_nightGoes_154 rfl hl (by decide) rfl (fun ls hl => ?_)
          refine lv_aload_n (pc := 155) hx hb dX5_nightGoes_155 rfl (lv_at hl 1 rfl) ?_
          refine lv_dup (pc := 156) hx hb dX5_nightGoes_156 rfl ?_
          refine va_get (D := D) (pc := 157) (ci := 5) (v := .int v_viewed) (C := RX5) (T := TX5) (N := 30) hx hb hts nX5_nightGoes_X5 hown hK hP 0 rfl rfl 5 (by decide) (hts _ kX5_nightGoes_1) (fun _ h9 => h9) rfl dX5_nightGoes_157 ?_
          refine lv_iload_n (pc := 160) hx hb dX5_nightGoes_160 rfl (lv_at hl 0 rfl) ?_
          refine lv_iadd (pc := 161) hx hb dX5_nightGoes_161 ?_
          refine va_put (D := D) (pc := 162) (ci := 5) (v := .int (v_viewed + u151)) (ty := .int) (C := RX5) (T := TX5) (N := 30) hx hb hts nX5_nightGoes_X5 tyX5 tyX5_ok nmX5 hown hK hP (zD_re hD rfl) hS 0 rfl rfl 5 (by decide) (hts _ kX5_nightGoes_1) (fun _ h9 => h9) rfl (tyX5_ok 5 (by decide)) rfl rfl (Nat.le_of_ble_eq_true rfl) dX5_nightGoes_162 (fun H locs hP _ hS => ?_)
          have hP : va_P D vwCl (wX5_nightGoes cB cI cJ cO h0 h_row h_growing g_fresh g_kept g_tried g_isKept g_tape g_tapeMany g_sort g_begins g_tokenEnds g_word g_value g_good g_rows g_must g_rowMany g_sorts g_sizes g_sheets g_holds g_heldNumber g_heldSize g_kind g_number g_ownHand g_traced g_bodies g_isParted (v_viewed + u151) (upd v_row_15 4 ((v_row_15 4) + (nI 1))) v_growing_7) H := hP
          refine lv_aload_n (pc := 165) hx hb dX5_nightGoes_165 rfl (lv_at hl 1 rfl) ?_
          refine va_get (D := D) (pc := 166) (ci := 5) (v := .ref h_row) (C := RX5) (T := TX5) (N := 30) hx hb hts nX5_nightGoes_X5 hown hK hP 0 rfl rfl 0 (by decide) (hts _ kX5_nightGoes_0) (fun _ h9 => h9) rfl dX5_nightGoes_166 ?_
          refine lv_iconst (pc := 169) (v := (nI 5)) hx hb dX5_nightGoes_169 (by decide) ?_
          refine lv_aload_n (pc := 170) hx hb dX5_nightGoes_170 rfl (lv_at hl 1 rfl) ?_
          refine va_get (D := D) (pc := 171) (ci := 5) (v := .ref h_row) (C := RX5) (T := TX5) (N := 30) hx hb hts nX5_nightGoes_X5 hown hK hP 0 rfl rfl 0 (by decide) (hts _ kX5_nightGoes_0) (fun _ h9 => h9) rfl dX5_nightGoes_171 ?_
          refine lv_iconst (pc := 174) (v := (nI 5)) hx hb dX5_nightGoes_174 (by decide) ?_
          refine za_ialdK (pc := 175) (k := 5) hx hb hK hP 1 1 rfl rfl (by decide) (by decide) dX5_nightGoes_175 ?_
          refine lv_iload_n (pc := 176) hx hb dX5_nightGoes_176 rfl (lv_at hl 0 rfl) ?_
          refine lv_iadd (pc := 177) hx hb dX5_nightGoes_177 ?_
          refine lv_iconst (pc := 178) (v := (nI 0)) hx hb dX5_nightGoes_178 (by decide) ?_
          refine lv_ldcw (pc := 179) hx hb hown (hts _ kX5_nightGoes_2) dX5_nightGoes_179 ?_
          obtain ⟨u182, hu182, hF⟩ := z_bind hF
          refine zq_call (oc0 := (some (.int u182))) (va_runS (As := [.int (((upd v_row_15 4 ((v_row_15 4) + (nI 1))) 5) + u151), .int (nI 0), .int (nI 99999)]) (rest := [.int (nI 5), .ref h_row]) ⟨hx, hb, hml, hown, hts⟩ (tX5_held (l := l) (D := D) (cB := cB) (cI := cI) (cJ := cJ) (cO := cO) (((upd v_row_15 4 ((v_row_15 4) + (nI 1))) 5) + u151) (nI 0) (nI 99999) u182 hu182) (va_cwS 3 hts gX5_nightGoes_X5_held rfl rfl rfl (by decide +kernel) ⟨Nat.le_of_ble_eq_true rfl, Nat.le_of_ble_eq_true rfl⟩) ⟨zPre_blind, zPre_at hP hE (zD_re hD rfl) [] rfl rfl⟩ rfl rfl hl.1 rfl (lv_room (Nat.le_of_ble_eq_true rfl)) dX5_nightGoes_182 ⟨Nat.zero_le _, Nat.zero_le _⟩) ?_
          refine W.eq (g2 := F0 m 185 ls [.int u182, .int (nI 5), .ref h_row]) rfl ?_
          refine za_iastK (pc := 185) (k := 5) hx hb hK hP (zD_re hD rfl) hS 1 1 rfl rfl (by decide) (by decide) dX5_nightGoes_185 (fun H locs hP hS => ?_)
          have hP : va_P D vwCl (wX5_nightGoes cB cI cJ cO h0 h_row h_growing g_fresh g_kept g_tried g_isKept g_tape g_tapeMany g_sort g_begins g_tokenEnds g_word g_value g_good g_rows g_must g_rowMany g_sorts g_sizes g_sheets g_holds g_heldNumber g_heldSize g_kind g_number g_ownHand g_traced g_bodies g_isParted (v_viewed + u151) (upd (upd v_row_15 4 ((v_row_15 4) + (nI 1))) 5 u182) v_growing_7) H := hP
          exact z_vretM (pc := 186) (fun q => (wX5_nightGoes cB cI cJ cO h0 h_row h_growing g_fresh g_kept g_tried g_isKept g_tape g_tapeMany g_sort g_begins g_tokenEnds g_word g_value g_good g_rows g_must g_rowMany g_sorts g_sizes g_sheets g_holds g_heldNumber g_heldSize g_kind g_number g_ownHand g_traced g_bodies g_isParted q.1 q.2.1 q.2.2)) hx hb hr hlocks hP hS hF hQ dX5_nightGoes_186
        have hL_120 : ∀ (n : Nat) (y1_13 : Int32) (v_row_14 : Nat → Int32) , fX5_nightGoes_L120 k_16 n y1_13 v_row_14 = some r → ∀ (H : Heap) (locs : List Loc), va_P D vwCl (wX5_nightGoes cB cI cJ cO h0 h_row h_growing g_fresh g_kept g_tried g_isKept g_tape g_tapeMany g_sort g_begins g_tokenEnds g_word g_value g_good g_rows g_must g_rowMany g_sorts g_sizes g_sheets g_holds g_heldNumber g_heldSize g_kind g_number g_ownHand g_traced g_bodies g_isParted v_viewed v_row_14 v_growing_7) H → va_S (zAs [h0, h_row, h_growing]) s.heap H locs → ∀ (ls : Array Slot), lv_has ls 2 [(0, .ref h0), (1, .int y1_13)] → W p l e rX5_nightGoes s m args below meth c H locs 0 0 Q (F0 m 120 ls []) := by
          intro n
          induction n with
          | zero =>
            intro y1_13 v_row_14 hF H locs hP hS ls hl
            exact z_no hF
          | succ n ih =>
            intro y1_13 v_row_14 hF H locs hP hS ls hl
            rw [fX5_nightGoes_L120] at hF
            refine lv_iload_n (pc := 120) hx hb dX5_nightGoes_120 rfl (lv_at hl 1 rfl) ?_
            refine lv_aload_n (pc := 121) hx hb dX5_nightGoes_121 rfl (lv_at hl 0 rfl) ?_
            refine va_get (D := D) (pc := 122) (ci := 5) (v := .ref h_row) (C := RX5) (T := TX5) (N := 30) hx hb hts nX5_nightGoes_X5 hown hK hP 0 rfl rfl 0 (by decide) (hts _ kX5_nightGoes_0) (fun _ h9 => h9) rfl dX5_nightGoes_122 ?_
            refine lv_iconst (pc := 125) (v := (nI 0)) hx hb dX5_nightGoes_125 (by decide) ?_
            refine za_ialdK (pc := 126) (k := 0) hx hb hK hP 1 1 rfl rfl (by decide) (by decide) dX5_nightGoes_126 ?_
            refine zb_icmp_ge (pc := 127) (tgt := 140) hx hb dX5_nightGoes_127 (by decide) hF (fun c_127 hF => ?_) (fun c_127 hF => ?_)
            · exact kk_16 v_row_14 hF H locs hP hS ls (lv_sub hl [0] rfl)
            · refine lv_aload_n (pc := 130) hx hb dX5_nightGoes_130 rfl (lv_at hl 0 rfl) ?_
              obtain ⟨u131, hu131, hF⟩ := z_bind hF
              refine zq_callM (oc0 := none) (wc := wX5_bucket cB cI cJ cO h0 h_row g_fresh g_kept g_tried g_isKept (.int v_viewed) g_tape g_tapeMany g_sort g_begins g_tokenEnds g_word g_value g_good (.ref h_growing) g_rows g_must g_rowMany g_sorts g_sizes g_sheets g_holds g_heldNumber g_heldSize g_kind g_number g_ownHand g_traced g_bodies g_isParted v_row_14) (wc' := wX5_bucket cB cI cJ cO h0 h_row g_fresh g_kept g_tried g_isKept (.int v_viewed) g_tape g_tapeMany g_sort g_begins g_tokenEnds g_word g_value g_good (.ref h_growing) g_rows g_must g_rowMany g_sorts g_sizes g_sheets g_holds g_heldNumber g_heldSize g_kind g_number g_ownHand g_traced g_bodies g_isParted u131) (ws' := (wX5_nightGoes cB cI cJ cO h0 h_row h_growing g_fresh g_kept g_tried g_isKept g_tape g_tapeMany g_sort g_begins g_tokenEnds g_word g_value g_good g_rows g_must g_rowMany g_sorts g_sizes g_sheets g_holds g_heldNumber g_heldSize g_kind g_number g_ownHand g_traced g_bodies g_isParted v_viewed u131 v_growing_7)) (va_runV (As := []) (rest := []) ⟨hx, hb, hml, hown, hts⟩ (tX5_bucket (l := l) (D := D) (cB := cB) (cI := cI) (cJ := cJ) (cO := cO) h0 h_row g_fresh g_kept g_tried g_isKept (.int v_viewed) g_tape g_tapeMany g_sort g_begins g_tokenEnds g_word g_value g_good (.ref h_growing) g_rows g_must g_rowMany g_sorts g_sizes g_sheets g_holds g_heldNumber g_heldSize g_kind g_number g_ownHand g_traced g_bodies g_isParted v_row_14 u131 hu131) (cwV 0 hts gX5_nightGoes_X5_bucket rfl rfl rfl (by decide +kernel) ⟨Nat.le_of_ble_eq_true rfl, Nat.le_of_ble_eq_true rfl⟩) ⟨zPre_blind, va_recv hK hP (ci := 5) (q0 := 0) rfl rfl, zPre_at hP hE (zD_re hD rfl) [0, 1] rfl rfl⟩ rfl rfl hl.1 rfl (lv_room (Nat.le_of_ble_eq_true rfl)) dX5_nightGoes_131 ⟨Nat.zero_le _, Nat.zero_le _⟩) rfl hP (zD_re hD rfl) hS [0, 1] rfl rfl [some 0, some 1, none] rfl rfl rfl rfl (fun H locs hP hS => ?_)
              refine W.eq (g2 := F0 m 134 ls []) rfl ?_
              refine lv_iinc (pc := 134) (v := (y1_13 + 1)) (lv' := [(1, .int (y1_13 + 1)), (0, .ref h0)]) hx hb dX5_nightGoes_134 hl (k := 1) rfl rfl (by decide) rfl (fun ls hl => ?_)
              refine lv_goto (pc := 137) (tgt := 120) hx hb dX5_nightGoes_137 (by decide) ?_
              exact ih (y1_13 + 1) u131 hF H locs hP hS ls (lv_sub hl [1, 0] rfl)
        exact hL_120 zK (nI 0) v_row_11 hF H locs hP hS ls (lv_sub hl [1, 0] rfl)
      have hL_76 : ∀ (n : Nat) (y1_9 : Int32) (v_row_10 : Nat → Int32) , fX5_nightGoes_L76 v_growing_7 k_12 n y1_9 v_row_10 = some r → ∀ (H : Heap) (locs : List Loc), va_P D vwCl (wX5_nightGoes cB cI cJ cO h0 h_row h_growing g_fresh g_kept g_tried g_isKept g_tape g_tapeMany g_sort g_begins g_tokenEnds g_word g_value g_good g_rows g_must g_rowMany g_sorts g_sizes g_sheets g_holds g_heldNumber g_heldSize g_kind g_number g_ownHand g_traced g_bodies g_isParted v_viewed v_row_10 v_growing_7) H → va_S (zAs [h0, h_row, h_growing]) s.heap H locs → ∀ (ls : Array Slot), lv_has ls 2 [(0, .ref h0), (1, .int y1_9)] → W p l e rX5_nightGoes s m args below meth c H locs 0 0 Q (F0 m 76 ls []) := by
        intro n
        induction n with
        | zero =>
          intro y1_9 v_row_10 hF H locs hP hS ls hl
          exact z_no hF
        | succ n ih =>
          intro y1_9 v_row_10 hF H locs hP hS ls hl
          rw [fX5_nightGoes_L76] at hF
          refine lv_iload_n (pc := 76) hx hb dX5_nightGoes_76 rfl (lv_at hl 1 rfl) ?_
          refine lv_aload_n (pc := 77) hx hb dX5_nightGoes_77 rfl (lv_at hl 0 rfl) ?_
          refine va_get (D := D) (pc := 78) (ci := 5) (v := .ref h_row) (C := RX5) (T := TX5) (N := 30) hx hb hts nX5_nightGoes_X5 hown hK hP 0 rfl rfl 0 (by decide) (hts _ kX5_nightGoes_0) (fun _ h9 => h9) rfl dX5_nightGoes_78 ?_
          refine lv_bipush (pc := 81) (v := (nI 6)) hx hb dX5_nightGoes_81 (by decide) ?_
          refine za_ialdK (pc := 83) (k := 6) hx hb hK hP 1 1 rfl rfl (by decide) (by decide) dX5_nightGoes_83 ?_
          refine zb_icmp_ge (pc := 84) (tgt := 118) hx hb dX5_nightGoes_84 (by decide) hF (fun c_84 hF => ?_) (fun c_84 hF => ?_)
          · exact kk_12 v_row_10 hF H locs hP hS ls (lv_sub hl [0] rfl)
          · refine lv_aload_n (pc := 87) hx hb dX5_nightGoes_87 rfl (lv_at hl 0 rfl) ?_
            refine lv_iload_n (pc := 88) hx hb dX5_nightGoes_88 rfl (lv_at hl 1 rfl) ?_
            refine lv_iconst (pc := 89) (v := (nI 2)) hx hb dX5_nightGoes_89 (by decide) ?_
            refine lv_aload_n (pc := 90) hx hb dX5_nightGoes_90 rfl (lv_at hl 0 rfl) ?_
            refine lv_iload_n (pc := 91) hx hb dX5_nightGoes_91 rfl (lv_at hl 1 rfl) ?_
            refine lv_iconst (pc := 92) (v := (nI 2)) hx hb dX5_nightGoes_92 (by decide) ?_
            obtain ⟨u93, hu93, hF⟩ := z_bind hF
            refine zq_call (oc0 := (some (.int u93))) (va_runV (As := [.int y1_9, .int (nI 2)]) (rest := [.int (nI 2), .int y1_9, .ref h0]) ⟨hx, hb, hml, hown, hts⟩ (tX5_its (l := l) (D := D) (cB := cB) (cI := cI) (cJ := cJ) (cO := cO) h0 h_row g_fresh g_kept g_tried g_isKept (.int v_viewed) g_tape g_tapeMany g_sort g_begins g_tokenEnds g_word g_value g_good (.ref h_growing) g_rows g_must g_rowMany g_sorts g_sizes g_sheets g_holds g_heldNumber g_heldSize g_kind g_number g_ownHand g_traced g_bodies g_isParted v_row_10 y1_9 (nI 2) u93 hu93) (cwV 2 hts gX5_nightGoes_X5_its rfl rfl rfl (by decide +kernel) ⟨Nat.le_of_ble_eq_true rfl, Nat.le_of_ble_eq_true rfl⟩) ⟨zPre_blind, va_recv hK hP (ci := 5) (q0 := 0) rfl rfl, zPre_at hP hE (zD_re hD rfl) [0, 1] rfl rfl⟩ rfl rfl hl.1 rfl (lv_room (Nat.le_of_ble_eq_true rfl)) dX5_nightGoes_93 ⟨Nat.zero_le _, Nat.zero_le _⟩) ?_
            refine W.eq (g2 := F0 m 96 ls [.int u93, .int (nI 2), .int y1_9, .ref h0]) rfl ?_
            refine lv_aload_n (pc := 96) hx hb dX5_nightGoes_96 rfl (lv_at hl 0 rfl) ?_
            refine va_get (D := D) (pc := 97) (ci := 5) (v := .ref h_growing) (C := RX5) (T := TX5) (N := 30) hx hb hts nX5_nightGoes_X5 hown hK hP 0 rfl rfl 14 (by decide) (hts _ kX5_nightGoes_3) (fun _ h9 => h9) rfl dX5_nightGoes_97 ?_
            refine lv_iload_n (pc := 100) hx hb dX5_nightGoes_100 rfl (lv_at hl 1 rfl) ?_
            refine za_iald (pc := 101) hx hb hK hP 2 1 rfl rfl dX5_nightGoes_101 hF (fun hF => ?_)
            refine lv_iadd (pc := 102) hx hb dX5_nightGoes_102 ?_
            refine lv_iconst (pc := 103) (v := (nI 0)) hx hb dX5_nightGoes_103 (by decide) ?_
            refine lv_bipush (pc := 104) (v := (nI 99)) hx hb dX5_nightGoes_104 (by decide) ?_
            obtain ⟨u106, hu106, hF⟩ := z_bind hF
            refine zq_call (oc0 := (some (.int u106))) (va_runS (As := [.int (u93 + (v_growing_7 y1_9.toNatClampNeg)), .int (nI 0), .int (nI 99)]) (rest := [.int (nI 2), .int y1_9, .ref h0]) ⟨hx, hb, hml, hown, hts⟩ (tX5_held (l := l) (D := D) (cB := cB) (cI := cI) (cJ := cJ) (cO := cO) (u93 + (v_growing_7 y1_9.toNatClampNeg)) (nI 0) (nI 99) u106 hu106) (va_cwS 3 hts gX5_nightGoes_X5_held rfl rfl rfl (by decide +kernel) ⟨Nat.le_of_ble_eq_true rfl, Nat.le_of_ble_eq_true rfl⟩) ⟨zPre_blind, zPre_at hP hE (zD_re hD rfl) [] rfl rfl⟩ rfl rfl hl.1 rfl (lv_room (Nat.le_of_ble_eq_true rfl)) dX5_nightGoes_106 ⟨Nat.zero_le _, Nat.zero_le _⟩) ?_
            refine W.eq (g2 := F0 m 109 ls [.int u106, .int (nI 2), .int y1_9, .ref h0]) rfl ?_
            obtain ⟨u109, hu109, hF⟩ := z_bind hF
            refine zq_callM (oc0 := none) (wc := wX5_sets cB cI cJ cO h0 h_row g_fresh g_kept g_tried g_isKept (.int v_viewed) g_tape g_tapeMany g_sort g_begins g_tokenEnds g_word g_value g_good (.ref h_growing) g_rows g_must g_rowMany g_sorts g_sizes g_sheets g_holds g_heldNumber g_heldSize g_kind g_number g_ownHand g_traced g_bodies g_isParted v_row_10) (wc' := wX5_sets cB cI cJ cO h0 h_row g_fresh g_kept g_tried g_isKept (.int v_viewed) g_tape g_tapeMany g_sort g_begins g_tokenEnds g_word g_value g_good (.ref h_growing) g_rows g_must g_rowMany g_sorts g_sizes g_sheets g_holds g_heldNumber g_heldSize g_kind g_number g_ownHand g_traced g_bodies g_isParted u109) (ws' := (wX5_nightGoes cB cI cJ cO h0 h_row h_growing g_fresh g_kept g_tried g_isKept g_tape g_tapeMany g_sort g_begins g_tokenEnds g_word g_value g_good g_rows g_must g_rowMany g_sorts g_sizes g_sheets g_holds g_heldNumber g_heldSize g_kind g_number g_ownHand g_traced g_bodies g_isParted v_viewed u109 v_growing_7)) (va_runV (As := [.int y1_9, .int (nI 2), .int u106]) (rest := []) ⟨hx, hb, hml, hown, hts⟩ (tX5_sets (l := l) (D := D) (cB := cB) (cI := cI) (cJ := cJ) (cO := cO) h0 h_row g_fresh g_kept g_tried g_isKept (.int v_viewed) g_tape g_tapeMany g_sort g_begins g_tokenEnds g_word g_value g_good (.ref h_growing) g_rows g_must g_rowMany g_sorts g_sizes g_sheets g_holds g_heldNumber g_heldSize g_kind g_number g_ownHand g_traced g_bodies g_isParted v_row_10 y1_9 (nI 2) u106 u109 hu109) (cwV 3 hts gX5_nightGoes_X5_sets rfl rfl rfl (by decide +kernel) ⟨Nat.le_of_ble_eq_true rfl, Nat.le_of_ble_eq_true rfl⟩) ⟨zPre_blind, va_recv hK hP (ci := 5) (q0 := 0) rfl rfl, zPre_at hP hE (zD_re hD rfl) [0, 1] rfl rfl⟩ rfl rfl hl.1 rfl (lv_room (Nat.le_of_ble_eq_true rfl)) dX5_nightGoes_109 ⟨Nat.zero_le _, Nat.zero_le _⟩) rfl hP (zD_re hD rfl) hS [0, 1] rfl rfl [some 0, some 1, none] rfl rfl rfl rfl (fun H locs hP hS => ?_)
            refine W.eq (g2 := F0 m 112 ls []) rfl ?_
            refine lv_iinc (pc := 112) (v := (y1_9 + 1)) (lv' := [(1, .int (y1_9 + 1)), (0, .ref h0)]) hx hb dX5_nightGoes_112 hl (k := 1) rfl rfl (by decide) rfl (fun ls hl => ?_)
            refine lv_goto (pc := 115) (tgt := 76) hx hb dX5_nightGoes_115 (by decide) ?_
            exact ih (y1_9 + 1) u109 hF H locs hP hS ls (lv_sub hl [1, 0] rfl)
      exact hL_76 zK (nI 0) v_row_3 hF H locs hP hS ls (lv_sub hl [1, 0] rfl)
    have hL_34 : ∀ (n : Nat) (y1_5 : Int32) (v_growing_6 : Nat → Int32) , fX5_nightGoes_L34 v_row_3 k_8 n y1_5 v_growing_6 = some r → ∀ (H : Heap) (locs : List Loc), va_P D vwCl (wX5_nightGoes cB cI cJ cO h0 h_row h_growing g_fresh g_kept g_tried g_isKept g_tape g_tapeMany g_sort g_begins g_tokenEnds g_word g_value g_good g_rows g_must g_rowMany g_sorts g_sizes g_sheets g_holds g_heldNumber g_heldSize g_kind g_number g_ownHand g_traced g_bodies g_isParted v_viewed v_row_3 v_growing_6) H → va_S (zAs [h0, h_row, h_growing]) s.heap H locs → ∀ (ls : Array Slot), lv_has ls 2 [(0, .ref h0), (1, .int y1_5)] → W p l e rX5_nightGoes s m args below meth c H locs 0 0 Q (F0 m 34 ls []) := by
      intro n
      induction n with
      | zero =>
        intro y1_5 v_growing_6 hF H locs hP hS ls hl
        exact z_no hF
      | succ n ih =>
        intro y1_5 v_growing_6 hF H locs hP hS ls hl
        rw [fX5_nightGoes_L34] at hF
        refine lv_iload_n (pc := 34) hx hb dX5_nightGoes_34 rfl (lv_at hl 1 rfl) ?_
        refine lv_aload_n (pc := 35) hx hb dX5_nightGoes_35 rfl (lv_at hl 0 rfl) ?_
        refine va_get (D := D) (pc := 36) (ci := 5) (v := .ref h_row) (C := RX5) (T := TX5) (N := 30) hx hb hts nX5_nightGoes_X5 hown hK hP 0 rfl rfl 0 (by decide) (hts _ kX5_nightGoes_0) (fun _ h9 => h9) rfl dX5_nightGoes_36 ?_
        refine lv_bipush (pc := 39) (v := (nI 6)) hx hb dX5_nightGoes_39 (by decide) ?_
        refine za_ialdK (pc := 41) (k := 6) hx hb hK hP 1 1 rfl rfl (by decide) (by decide) dX5_nightGoes_41 ?_
        refine zb_icmp_ge (pc := 42) (tgt := 74) hx hb dX5_nightGoes_42 (by decide) hF (fun c_42 hF => ?_) (fun c_42 hF => ?_)
        · exact kk_8 v_growing_6 hF H locs hP hS ls (lv_sub hl [0] rfl)
        · refine lv_aload_n (pc := 45) hx hb dX5_nightGoes_45 rfl (lv_at hl 0 rfl) ?_
          refine va_get (D := D) (pc := 46) (ci := 5) (v := .ref h_growing) (C := RX5) (T := TX5) (N := 30) hx hb hts nX5_nightGoes_X5 hown hK hP 0 rfl rfl 14 (by decide) (hts _ kX5_nightGoes_3) (fun _ h9 => h9) rfl dX5_nightGoes_46 ?_
          refine lv_iload_n (pc := 49) hx hb dX5_nightGoes_49 rfl (lv_at hl 1 rfl) ?_
          refine lv_aload_n (pc := 50) hx hb dX5_nightGoes_50 rfl (lv_at hl 0 rfl) ?_
          refine lv_iload_n (pc := 51) hx hb dX5_nightGoes_51 rfl (lv_at hl 1 rfl) ?_
          obtain ⟨u52, hu52, hF⟩ := z_bind hF
          refine zq_call (oc0 := (some (.int u52))) (va_runV (As := [.int y1_5]) (rest := [.int y1_5, .ref h_growing]) ⟨hx, hb, hml, hown, hts⟩ (tX5_isGone (l := l) (D := D) (cB := cB) (cI := cI) (cJ := cJ) (cO := cO) h0 h_row g_fresh g_kept g_tried g_isKept (.int v_viewed) g_tape g_tapeMany g_sort g_begins g_tokenEnds g_word g_value g_good (.ref h_growing) g_rows g_must g_rowMany g_sorts g_sizes g_sheets g_holds g_heldNumber g_heldSize g_kind g_number g_ownHand g_traced g_bodies g_isParted v_row_3 y1_5 u52 hu52) (cwV 1 hts gX5_nightGoes_X5_isGone rfl rfl rfl (by decide +kernel) ⟨Nat.le_of_ble_eq_true rfl, Nat.le_of_ble_eq_true rfl⟩) ⟨zPre_blind, va_recv hK hP (ci := 5) (q0 := 0) rfl rfl, zPre_at hP hE (zD_re hD rfl) [0, 1] rfl rfl⟩ rfl rfl hl.1 rfl (lv_room (Nat.le_of_ble_eq_true rfl)) dX5_nightGoes_52 ⟨Nat.zero_le _, Nat.zero_le _⟩) ?_
          refine W.eq (g2 := F0 m 55 ls [.int u52, .int y1_5, .ref h_growing]) rfl ?_
          refine zb_if_eq (pc := 55) (tgt := 62) hx hb dX5_nightGoes_55 (by decide) hF (fun c_55 hF => ?_) (fun c_55 hF => ?_)
          · refine lv_aload_n (pc := 62) hx hb dX5_nightGoes_62 rfl (lv_at hl 0 rfl) ?_
            refine lv_iload_n (pc := 63) hx hb dX5_nightGoes_63 rfl (lv_at hl 1 rfl) ?_
            obtain ⟨u64, hu64, hF⟩ := z_bind hF
            refine zq_call (oc0 := (some (.int u64))) (va_runV (As := [.int y1_5]) (rest := [.int y1_5, .ref h_growing]) ⟨hx, hb, hml, hown, hts⟩ (tX5_grows (l := l) (D := D) (cB := cB) (cI := cI) (cJ := cJ) (cO := cO) h0 h_row g_fresh g_kept g_tried g_isKept (.int v_viewed) g_tape g_tapeMany g_sort g_begins g_tokenEnds g_word g_value g_good (.ref h_growing) g_rows g_must g_rowMany g_sorts g_sizes g_sheets g_holds g_heldNumber g_heldSize g_kind g_number g_ownHand g_traced g_bodies g_isParted v_row_3 y1_5 u64 hu64) (cwV 1 hts gX5_nightGoes_X5_grows rfl rfl rfl (by decide +kernel) ⟨Nat.le_of_ble_eq_true rfl, Nat.le_of_ble_eq_true rfl⟩) ⟨zPre_blind, va_recv hK hP (ci := 5) (q0 := 0) rfl rfl, zPre_at hP hE (zD_re hD rfl) [0, 1] rfl rfl⟩ rfl rfl hl.1 rfl (lv_room (Nat.le_of_ble_eq_true rfl)) dX5_nightGoes_64 ⟨Nat.zero_le _, Nat.zero_le _⟩) ?_
            refine W.eq (g2 := F0 m 67 ls [.int u64, .int y1_5, .ref h_growing]) rfl ?_
            refine za_iast (pc := 67) hx hb hK hP (zD_re hD rfl) hS 2 1 rfl rfl dX5_nightGoes_67 hF (fun hF H locs hP hS => ?_)
            have hP : va_P D vwCl (wX5_nightGoes cB cI cJ cO h0 h_row h_growing g_fresh g_kept g_tried g_isKept g_tape g_tapeMany g_sort g_begins g_tokenEnds g_word g_value g_good g_rows g_must g_rowMany g_sorts g_sizes g_sheets g_holds g_heldNumber g_heldSize g_kind g_number g_ownHand g_traced g_bodies g_isParted v_viewed v_row_3 (upd v_growing_6 y1_5.toNatClampNeg u64)) H := hP
            refine lv_iinc (pc := 68) (v := (y1_5 + 1)) (lv' := [(1, .int (y1_5 + 1)), (0, .ref h0)]) hx hb dX5_nightGoes_68 hl (k := 1) rfl rfl (by decide) rfl (fun ls hl => ?_)
            refine lv_goto (pc := 71) (tgt := 34) hx hb dX5_nightGoes_71 (by decide) ?_
            exact ih (y1_5 + 1) (upd v_growing_6 y1_5.toNatClampNeg u64) hF H locs hP hS ls (lv_sub hl [1, 0] rfl)
          · refine lv_iconst (pc := 58) (v := (nI 0)) hx hb dX5_nightGoes_58 (by decide) ?_
            refine lv_goto (pc := 59) (tgt := 67) hx hb dX5_nightGoes_59 (by decide) ?_
            refine za_iast (pc := 67) hx hb hK hP (zD_re hD rfl) hS 2 1 rfl rfl dX5_nightGoes_67 hF (fun hF H locs hP hS => ?_)
            have hP : va_P D vwCl (wX5_nightGoes cB cI cJ cO h0 h_row h_growing g_fresh g_kept g_tried g_isKept g_tape g_tapeMany g_sort g_begins g_tokenEnds g_word g_value g_good g_rows g_must g_rowMany g_sorts g_sizes g_sheets g_holds g_heldNumber g_heldSize g_kind g_number g_ownHand g_traced g_bodies g_isParted v_viewed v_row_3 (upd v_growing_6 y1_5.toNatClampNeg (nI 0))) H := hP
            refine lv_iinc (pc := 68) (v := (y1_5 + 1)) (lv' := [(1, .int (y1_5 + 1)), (0, .ref h0)]) hx hb dX5_nightGoes_68 hl (k := 1) rfl rfl (by decide) rfl (fun ls hl => ?_)
            refine lv_goto (pc := 71) (tgt := 34) hx hb dX5_nightGoes_71 (by decide) ?_
            exact ih (y1_5 + 1) (upd v_growing_6 y1_5.toNatClampNeg (nI 0)) hF H locs hP hS ls (lv_sub hl [1, 0] rfl)
    exact hL_34 zK (nI 0) v_growing hF H locs hP hS ls (lv_sub hl [1, 0] rfl)
  have hL_2 : ∀ (n : Nat) (y1_1 : Int32) (v_row_2 : Nat → Int32) , fX5_nightGoes_L2 k_4 n y1_1 v_row_2 = some r → ∀ (H : Heap) (locs : List Loc), va_P D vwCl (wX5_nightGoes cB cI cJ cO h0 h_row h_growing g_fresh g_kept g_tried g_isKept g_tape g_tapeMany g_sort g_begins g_tokenEnds g_word g_value g_good g_rows g_must g_rowMany g_sorts g_sizes g_sheets g_holds g_heldNumber g_heldSize g_kind g_number g_ownHand g_traced g_bodies g_isParted v_viewed v_row_2 v_growing) H → va_S (zAs [h0, h_row, h_growing]) s.heap H locs → ∀ (ls : Array Slot), lv_has ls 2 [(0, .ref h0), (1, .int y1_1)] → W p l e rX5_nightGoes s m args below meth c H locs 0 0 Q (F0 m 2 ls []) := by
    intro n
    induction n with
    | zero =>
      intro y1_1 v_row_2 hF H locs hP hS ls hl
      exact z_no hF
    | succ n ih =>
      intro y1_1 v_row_2 hF H locs hP hS ls hl
      rw [fX5_nightGoes_L2] at hF
      refine lv_iload_n (pc := 2) hx hb dX5_nightGoes_2 rfl (lv_at hl 1 rfl) ?_
      refine lv_aload_n (pc := 3) hx hb dX5_nightGoes_3 rfl (lv_at hl 0 rfl) ?_
      refine va_get (D := D) (pc := 4) (ci := 5) (v := .ref h_row) (C := RX5) (T := TX5) (N := 30) hx hb hts nX5_nightGoes_X5 hown hK hP 0 rfl rfl 0 (by decide) (hts _ kX5_nightGoes_0) (fun _ h9 => h9) rfl dX5_nightGoes_4 ?_
      refine lv_bipush (pc := 7) (v := (nI 6)) hx hb dX5_nightGoes_7 (by decide) ?_
      refine za_ialdK (pc := 9) (k := 6) hx hb hK hP 1 1 rfl rfl (by decide) (by decide) dX5_nightGoes_9 ?_
      refine zb_icmp_ge (pc := 10) (tgt := 32) hx hb dX5_nightGoes_10 (by decide) hF (fun c_10 hF => ?_) (fun c_10 hF => ?_)
      · exact kk_4 v_row_2 hF H locs hP hS ls (lv_sub hl [0] rfl)
      · refine lv_aload_n (pc := 13) hx hb dX5_nightGoes_13 rfl (lv_at hl 0 rfl) ?_
        refine lv_iload_n (pc := 14) hx hb dX5_nightGoes_14 rfl (lv_at hl 1 rfl) ?_
        obtain ⟨u15, hu15, hF⟩ := z_bind hF
        refine zq_call (oc0 := (some (.int u15))) (va_runV (As := [.int y1_1]) (rest := []) ⟨hx, hb, hml, hown, hts⟩ (tX5_isGone (l := l) (D := D) (cB := cB) (cI := cI) (cJ := cJ) (cO := cO) h0 h_row g_fresh g_kept g_tried g_isKept (.int v_viewed) g_tape g_tapeMany g_sort g_begins g_tokenEnds g_word g_value g_good (.ref h_growing) g_rows g_must g_rowMany g_sorts g_sizes g_sheets g_holds g_heldNumber g_heldSize g_kind g_number g_ownHand g_traced g_bodies g_isParted v_row_2 y1_1 u15 hu15) (cwV 1 hts gX5_nightGoes_X5_isGone rfl rfl rfl (by decide +kernel) ⟨Nat.le_of_ble_eq_true rfl, Nat.le_of_ble_eq_true rfl⟩) ⟨zPre_blind, va_recv hK hP (ci := 5) (q0 := 0) rfl rfl, zPre_at hP hE (zD_re hD rfl) [0, 1] rfl rfl⟩ rfl rfl hl.1 rfl (lv_room (Nat.le_of_ble_eq_true rfl)) dX5_nightGoes_15 ⟨Nat.zero_le _, Nat.zero_le _⟩) ?_
        refine W.eq (g2 := F0 m 18 ls [.int u15]) rfl ?_
        refine zb_if_eq (pc := 18) (tgt := 26) hx hb dX5_nightGoes_18 (by decide) hF (fun c_18 hF => ?_) (fun c_18 hF => ?_)
        · refine lv_iinc (pc := 26) (v := (y1_1 + 1)) (lv' := [(1, .int (y1_1 + 1)), (0, .ref h0)]) hx hb dX5_nightGoes_26 hl (k := 1) rfl rfl (by decide) rfl (fun ls hl => ?_)
          refine lv_goto (pc := 29) (tgt := 2) hx hb dX5_nightGoes_29 (by decide) ?_
          exact ih (y1_1 + 1) v_row_2 hF H locs hP hS ls (lv_sub hl [1, 0] rfl)
        · refine lv_aload_n (pc := 21) hx hb dX5_nightGoes_21 rfl (lv_at hl 0 rfl) ?_
          refine lv_iload_n (pc := 22) hx hb dX5_nightGoes_22 rfl (lv_at hl 1 rfl) ?_
          obtain ⟨u23, hu23, hF⟩ := z_bind hF
          refine zq_callM (oc0 := none) (wc := wX5_comesBack cB cI cJ cO h0 h_row g_fresh g_kept g_tried g_isKept (.int v_viewed) g_tape g_tapeMany g_sort g_begins g_tokenEnds g_word g_value g_good (.ref h_growing) g_rows g_must g_rowMany g_sorts g_sizes g_sheets g_holds g_heldNumber g_heldSize g_kind g_number g_ownHand g_traced g_bodies g_isParted v_row_2) (wc' := wX5_comesBack cB cI cJ cO h0 h_row g_fresh g_kept g_tried g_isKept (.int v_viewed) g_tape g_tapeMany g_sort g_begins g_tokenEnds g_word g_value g_good (.ref h_growing) g_rows g_must g_rowMany g_sorts g_sizes g_sheets g_holds g_heldNumber g_heldSize g_kind g_number g_ownHand g_traced g_bodies g_isParted u23) (ws' := (wX5_nightGoes cB cI cJ cO h0 h_row h_growing g_fresh g_kept g_tried g_isKept g_tape g_tapeMany g_sort g_begins g_tokenEnds g_word g_value g_good g_rows g_must g_rowMany g_sorts g_sizes g_sheets g_holds g_heldNumber g_heldSize g_kind g_number g_ownHand g_traced g_bodies g_isParted v_viewed u23 v_growing)) (va_runV (As := [.int y1_1]) (rest := []) ⟨hx, hb, hml, hown, hts⟩ (tX5_comesBack (l := l) (D := D) (cB := cB) (cI := cI) (cJ := cJ) (cO := cO) h0 h_row g_fresh g_kept g_tried g_isKept (.int v_viewed) g_tape g_tapeMany g_sort g_begins g_tokenEnds g_word g_value g_good (.ref h_growing) g_rows g_must g_rowMany g_sorts g_sizes g_sheets g_holds g_heldNumber g_heldSize g_kind g_number g_ownHand g_traced g_bodies g_isParted v_row_2 y1_1 u23 hu23) (cwV 1 hts gX5_nightGoes_X5_comesBack rfl rfl rfl (by decide +kernel) ⟨Nat.le_of_ble_eq_true rfl, Nat.le_of_ble_eq_true rfl⟩) ⟨zPre_blind, va_recv hK hP (ci := 5) (q0 := 0) rfl rfl, zPre_at hP hE (zD_re hD rfl) [0, 1] rfl rfl⟩ rfl rfl hl.1 rfl (lv_room (Nat.le_of_ble_eq_true rfl)) dX5_nightGoes_23 ⟨Nat.zero_le _, Nat.zero_le _⟩) rfl hP (zD_re hD rfl) hS [0, 1] rfl rfl [some 0, some 1, none] rfl rfl rfl rfl (fun H locs hP hS => ?_)
          refine W.eq (g2 := F0 m 26 ls []) rfl ?_
          refine lv_iinc (pc := 26) (v := (y1_1 + 1)) (lv' := [(1, .int (y1_1 + 1)), (0, .ref h0)]) hx hb dX5_nightGoes_26 hl (k := 1) rfl rfl (by decide) rfl (fun ls hl => ?_)
          refine lv_goto (pc := 29) (tgt := 2) hx hb dX5_nightGoes_29 (by decide) ?_
          exact ih (y1_1 + 1) u23 hF H locs hP hS ls (lv_sub hl [1, 0] rfl)
  exact hL_2 zK (nI 0) v_row hF H locs hP hS ls (lv_sub hl [1, 0] rfl)

abbrev rX5_nights : Room := { frames := 7, cells := 0, slots := 0, locals := 156 }
abbrev wX5_nights (cB cI cJ cO : ClassId) (h0 h_row h_growing : Nat) (g_fresh g_kept g_tried g_isKept g_tape g_tapeMany g_sort g_begins g_tokenEnds g_word g_value g_good g_rows g_must g_rowMany g_sorts g_sizes g_sheets g_holds g_heldNumber g_heldSize g_kind g_number g_ownHand g_traced g_bodies g_isParted : Value) (v_viewed : Int32) (v_row : Nat → Int32) (v_growing : Nat → Int32) : va_W := [(h0, .inr (5, [.ref h_row, g_fresh, g_kept, g_tried, g_isKept, .int v_viewed, g_tape, g_tapeMany, g_sort, g_begins, g_tokenEnds, g_word, g_value, g_good, .ref h_growing, g_rows, g_must, g_rowMany, g_sorts, g_sizes, g_sheets, g_holds, g_heldNumber, g_heldSize, g_kind, g_number, g_ownHand, g_traced, g_bodies, g_isParted])), (h_row, .inl (cI, 68, .inl v_row)), (h_growing, .inl (cI, 8, .inl v_growing))]
theorem nX5_nights_X5 : ∀ w ∈ wsX50, w ∈ wsX5_nights := by decide +kernel
theorem kX5_nights_0 : Cond.fieldLink RX5 255 "PaintedWallsModel" "viewed" "I" ∈ wsX5_nights := by decide +kernel
set_option maxHeartbeats 4000000 in
set_option maxRecDepth 100000 in
theorem tX5_nights {l : Launch} {D : va_G} {cB cI cJ cO : ClassId} (h0 h_row h_growing : Nat) (g_fresh g_kept g_tried g_isKept g_tape g_tapeMany g_sort g_begins g_tokenEnds g_word g_value g_good g_rows g_must g_rowMany g_sorts g_sizes g_sheets g_holds g_heldNumber g_heldSize g_kind g_number g_ownHand g_traced g_bodies g_isParted : Value) (v_viewed : Int32) (v_row : Nat → Int32) (v_growing : Nat → Int32) (x1 : Int32) (r : Int32 × Int32 × (Nat → Int32) × (Nat → Int32)) (hF : fX5_nights v_viewed v_row v_growing x1 = some r) : Met l yX5_nights wsX5_nights rX5_nights (zPre D cB cI cJ cO [.ref h0, .int x1] (wX5_nights cB cI cJ cO h0 h_row h_growing g_fresh g_kept g_tried g_isKept g_tape g_tapeMany g_sort g_begins g_tokenEnds g_word g_value g_good g_rows g_must g_rowMany g_sorts g_sizes g_sheets g_holds g_heldNumber g_heldSize g_kind g_number g_ownHand g_traced g_bodies g_isParted v_viewed v_row v_growing)) (zPM (some (.int r.1)) D (wX5_nights cB cI cJ cO h0 h_row h_growing g_fresh g_kept g_tried g_isKept g_tape g_tapeMany g_sort g_begins g_tokenEnds g_word g_value g_good g_rows g_must g_rowMany g_sorts g_sizes g_sheets g_holds g_heldNumber g_heldSize g_kind g_number g_ownHand g_traced g_bodies g_isParted r.2.1 r.2.2.1 r.2.2.2) (zAs [h0, h_row, h_growing])) 0 0 (zAs [h0, h_row, h_growing]) := by
  refine zMetM (cc := cX5_nights) (maxL := 3) (ret := (some .int)) (lv := [(0, .ref h0), (1, .int x1)]) rfl (by decide) rfl (Nat.le_of_ble_eq_true rfl) rfl ?_
  intro p e s m args below meth c ls Q H locs hQ hx hb hr hml hown hts hlocks hname hP hE hD hS hl
  have hown : s.vm.findClass RX5 = some m.cls := hown
  have hK := hE.1
  unfold fX5_nights at hF
  refine lv_iload_n (pc := 0) hx hb dX5_nights_0 rfl (lv_at hl 1 rfl) ?_
  refine lv_iconst (pc := 1) (v := (nI 1)) hx hb dX5_nights_1 (by decide) ?_
  refine lv_bipush (pc := 2) (v := (nI 60)) hx hb dX5_nights_2 (by decide) ?_
  obtain ⟨u4, hu4, hF⟩ := z_bind hF
  refine zq_call (oc0 := (some (.int u4))) (va_runS (As := [.int x1, .int (nI 1), .int (nI 60)]) (rest := []) ⟨hx, hb, hml, hown, hts⟩ (tX5_in (l := l) (D := D) (cB := cB) (cI := cI) (cJ := cJ) (cO := cO) x1 (nI 1) (nI 60) u4 hu4) (va_cwS 3 hts gX5_nights_X5_in rfl rfl rfl (by decide +kernel) ⟨Nat.le_of_ble_eq_true rfl, Nat.le_of_ble_eq_true rfl⟩) ⟨zPre_blind, zPre_at hP hE (zD_re hD rfl) [] rfl rfl⟩ rfl rfl hl.1 rfl (lv_room (Nat.le_of_ble_eq_true rfl)) dX5_nights_4 ⟨Nat.zero_le _, Nat.zero_le _⟩) ?_
  refine W.eq (g2 := F0 m 7 ls [.int u4]) rfl ?_
  refine zb_if_ne (pc := 7) (tgt := 12) hx hb dX5_nights_7 (by decide) hF (fun c_7 hF => ?_) (fun c_7 hF => ?_)
  · refine lv_iconst (pc := 12) (v := (nI 0)) hx hb dX5_nights_12 (by decide) ?_
    refine lv_istore_n (pc := 13) (lv' := [(2, .int (nI 0)), (0, .ref h0), (1, .int x1)]) hx hb dX5_nights_13 rfl hl (by decide) rfl (fun ls hl => ?_)
    obtain ⟨k_8, hk_8, hF⟩ := z_J hF
    have kk_8 : ∀ (v_viewed_5 : Int32) (v_row_6 : Nat → Int32) (v_growing_7 : Nat → Int32) , k_8 v_viewed_5 v_row_6 v_growing_7 = some r → ∀ (H : Heap) (locs : List Loc), va_P D vwCl (wX5_nights cB cI cJ cO h0 h_row h_growing g_fresh g_kept g_tried g_isKept g_tape g_tapeMany g_sort g_begins g_tokenEnds g_word g_value g_good g_rows g_must g_rowMany g_sorts g_sizes g_sheets g_holds g_heldNumber g_heldSize g_kind g_number g_ownHand g_traced g_bodies g_isParted v_viewed_5 v_row_6 v_growing_7) H → va_S (zAs [h0, h_row, h_growing]) s.heap H locs → ∀ (ls : Array Slot), lv_has ls 3 [(0, .ref h0)] → W p l e rX5_nights s m args below meth c H locs 0 0 Q (F0 m 29 ls []) := by
      intro v_viewed_5 v_row_6 v_growing_7 hF H locs hP hS ls hl
      rw [hk_8] at hF
      refine lv_aload_n (pc := 29) hx hb dX5_nights_29 rfl (lv_at hl 0 rfl) ?_
      refine lv_iconst (pc := 30) (v := (nI 0)) hx hb dX5_nights_30 (by decide) ?_
      refine va_put (D := D) (pc := 31) (ci := 5) (v := .int (nI 0)) (ty := .int) (C := RX5) (T := TX5) (N := 30) hx hb hts nX5_nights_X5 tyX5 tyX5_ok nmX5 hown hK hP (zD_re hD rfl) hS 0 rfl rfl 5 (by decide) (hts _ kX5_nights_0) (fun _ h9 => h9) rfl (tyX5_ok 5 (by decide)) rfl rfl (Nat.le_of_ble_eq_true rfl) dX5_nights_31 (fun H locs hP _ hS => ?_)
      have hP : va_P D vwCl (wX5_nights cB cI cJ cO h0 h_row h_growing g_fresh g_kept g_tried g_isKept g_tape g_tapeMany g_sort g_begins g_tokenEnds g_word g_value g_good g_rows g_must g_rowMany g_sorts g_sizes g_sheets g_holds g_heldNumber g_heldSize g_kind g_number g_ownHand g_traced g_bodies g_isParted (nI 0) v_row_6 v_growing_7) H := hP
      refine lv_aload_n (pc := 34) hx hb dX5_nights_34 rfl (lv_at hl 0 rfl) ?_
      obtain ⟨u35, hu35, hF⟩ := z_bind hF
      refine zq_call (oc0 := (some (.int u35))) (va_runV (As := []) (rest := []) ⟨hx, hb, hml, hown, hts⟩ (tX5_looksOfAll (l := l) (D := D) (cB := cB) (cI := cI) (cJ := cJ) (cO := cO) h0 h_row g_fresh g_kept g_tried g_isKept (.int (nI 0)) g_tape g_tapeMany g_sort g_begins g_tokenEnds g_word g_value g_good (.ref h_growing) g_rows g_must g_rowMany g_sorts g_sizes g_sheets g_holds g_heldNumber g_heldSize g_kind g_number g_ownHand g_traced g_bodies g_isParted v_row_6 u35 hu35) (cwV 0 hts gX5_nights_X5_looksOfAll rfl rfl rfl (by decide +kernel) ⟨Nat.le_of_ble_eq_true rfl, Nat.le_of_ble_eq_true rfl⟩) ⟨zPre_blind, va_recv hK hP (ci := 5) (q0 := 0) rfl rfl, zPre_at hP hE (zD_re hD rfl) [0, 1] rfl rfl⟩ rfl rfl hl.1 rfl (lv_room (Nat.le_of_ble_eq_true rfl)) dX5_nights_35 ⟨Nat.zero_le _, Nat.zero_le _⟩) ?_
      refine W.eq (g2 := F0 m 38 ls [.int u35]) rfl ?_
      exact z_iretM (pc := 38) (fun q => q.1) (fun q => (wX5_nights cB cI cJ cO h0 h_row h_growing g_fresh g_kept g_tried g_isKept g_tape g_tapeMany g_sort g_begins g_tokenEnds g_word g_value g_good g_rows g_must g_rowMany g_sorts g_sizes g_sheets g_holds g_heldNumber g_heldSize g_kind g_number g_ownHand g_traced g_bodies g_isParted q.2.1 q.2.2.1 q.2.2.2)) hx hb hr hlocks hP hS hF rfl hQ dX5_nights_38
    have hL_14 : ∀ (n : Nat) (y2_1 : Int32) (v_viewed_2 : Int32) (v_row_3 : Nat → Int32) (v_growing_4 : Nat → Int32) , fX5_nights_L14 x1 k_8 n y2_1 v_viewed_2 v_row_3 v_growing_4 = some r → ∀ (H : Heap) (locs : List Loc), va_P D vwCl (wX5_nights cB cI cJ cO h0 h_row h_growing g_fresh g_kept g_tried g_isKept g_tape g_tapeMany g_sort g_begins g_tokenEnds g_word g_value g_good g_rows g_must g_rowMany g_sorts g_sizes g_sheets g_holds g_heldNumber g_heldSize g_kind g_number g_ownHand g_traced g_bodies g_isParted v_viewed_2 v_row_3 v_growing_4) H → va_S (zAs [h0, h_row, h_growing]) s.heap H locs → ∀ (ls : Array Slot), lv_has ls 3 [(0, .ref h0), (1, .int x1), (2, .int y2_1)] → W p l e rX5_nights s m args below meth c H locs 0 0 Q (F0 m 14 ls []) := by
      intro n
      induction n with
      | zero =>
        intro y2_1 v_viewed_2 v_row_3 v_growing_4 hF H locs hP hS ls hl
        exact z_no hF
      | succ n ih =>
        intro y2_1 v_viewed_2 v_row_3 v_growing_4 hF H locs hP hS ls hl
        rw [fX5_nights_L14] at hF
        refine lv_iload_n (pc := 14) hx hb dX5_nights_14 rfl (lv_at hl 2 rfl) ?_
        refine lv_iload_n (pc := 15) hx hb dX5_nights_15 rfl (lv_at hl 1 rfl) ?_
        refine zb_icmp_ge (pc := 16) (tgt := 29) hx hb dX5_nights_16 (by decide) hF (fun c_16 hF => ?_) (fun c_16 hF => ?_)
        · exact kk_8 v_viewed_2 v_row_3 v_growing_4 hF H locs hP hS ls (lv_sub hl [0] rfl)
        · refine lv_aload_n (pc := 19) hx hb dX5_nights_19 rfl (lv_at hl 0 rfl) ?_
          obtain ⟨u20, hu20, hF⟩ := z_bind hF
          refine zq_callM (oc0 := none) (wc := wX5_nightGoes cB cI cJ cO h0 h_row h_growing g_fresh g_kept g_tried g_isKept g_tape g_tapeMany g_sort g_begins g_tokenEnds g_word g_value g_good g_rows g_must g_rowMany g_sorts g_sizes g_sheets g_holds g_heldNumber g_heldSize g_kind g_number g_ownHand g_traced g_bodies g_isParted v_viewed_2 v_row_3 v_growing_4) (wc' := wX5_nightGoes cB cI cJ cO h0 h_row h_growing g_fresh g_kept g_tried g_isKept g_tape g_tapeMany g_sort g_begins g_tokenEnds g_word g_value g_good g_rows g_must g_rowMany g_sorts g_sizes g_sheets g_holds g_heldNumber g_heldSize g_kind g_number g_ownHand g_traced g_bodies g_isParted u20.1 u20.2.1 u20.2.2) (ws' := (wX5_nights cB cI cJ cO h0 h_row h_growing g_fresh g_kept g_tried g_isKept g_tape g_tapeMany g_sort g_begins g_tokenEnds g_word g_value g_good g_rows g_must g_rowMany g_sorts g_sizes g_sheets g_holds g_heldNumber g_heldSize g_kind g_number g_ownHand g_traced g_bodies g_isParted u20.1 u20.2.1 u20.2.2)) (va_runV (As := []) (rest := []) ⟨hx, hb, hml, hown, hts⟩ (tX5_nightGoes (l := l) (D := D) (cB := cB) (cI := cI) (cJ := cJ) (cO := cO) h0 h_row h_growing g_fresh g_kept g_tried g_isKept g_tape g_tapeMany g_sort g_begins g_tokenEnds g_word g_value g_good g_rows g_must g_rowMany g_sorts g_sizes g_sheets g_holds g_heldNumber g_heldSize g_kind g_number g_ownHand g_traced g_bodies g_isParted v_viewed_2 v_row_3 v_growing_4 u20 hu20) (cwV 0 hts gX5_nights_X5_nightGoes rfl rfl rfl (by decide +kernel) ⟨Nat.le_of_ble_eq_true rfl, Nat.le_of_ble_eq_true rfl⟩) ⟨zPre_blind, va_recv hK hP (ci := 5) (q0 := 0) rfl rfl, zPre_at hP hE (zD_re hD rfl) [0, 1, 2] rfl rfl⟩ rfl rfl hl.1 rfl (lv_room (Nat.le_of_ble_eq_true rfl)) dX5_nights_20 ⟨Nat.zero_le _, Nat.zero_le _⟩) rfl hP (zD_re hD rfl) hS [0, 1, 2] rfl rfl [some 0, some 1, some 2] rfl rfl rfl rfl (fun H locs hP hS => ?_)
          refine W.eq (g2 := F0 m 23 ls []) rfl ?_
          refine lv_iinc (pc := 23) (v := (y2_1 + 1)) (lv' := [(2, .int (y2_1 + 1)), (0, .ref h0), (1, .int x1)]) hx hb dX5_nights_23 hl (k := 2) rfl rfl (by decide) rfl (fun ls hl => ?_)
          refine lv_goto (pc := 26) (tgt := 14) hx hb dX5_nights_26 (by decide) ?_
          exact ih (y2_1 + 1) u20.1 u20.2.1 u20.2.2 hF H locs hP hS ls (lv_sub hl [1, 2, 0] rfl)
    exact hL_14 zK (nI 0) v_viewed v_row v_growing hF H locs hP hS ls (lv_sub hl [1, 2, 0] rfl)
  · refine lv_iconst (pc := 10) (v := (-1 : Int32)) hx hb dX5_nights_10 (by decide) ?_
    exact z_iretM (pc := 11) (fun q => q.1) (fun q => (wX5_nights cB cI cJ cO h0 h_row h_growing g_fresh g_kept g_tried g_isKept g_tape g_tapeMany g_sort g_begins g_tokenEnds g_word g_value g_good g_rows g_must g_rowMany g_sorts g_sizes g_sheets g_holds g_heldNumber g_heldSize g_kind g_number g_ownHand g_traced g_bodies g_isParted q.2.1 q.2.2.1 q.2.2.2)) hx hb hr hlocks hP hS hF rfl hQ dX5_nights_11

abbrev rX5_drawn : Room := { frames := 0, cells := 0, slots := 0, locals := 0 }
abbrev wX5_drawn (cB cI cJ cO : ClassId) (h0 h_row : Nat) (g_fresh g_kept g_tried g_isKept g_viewed g_tape g_tapeMany g_sort g_begins g_tokenEnds g_word g_value g_good g_growing g_rows g_must g_rowMany g_sorts g_sizes g_sheets g_holds g_heldNumber g_heldSize g_kind g_number g_ownHand g_traced g_bodies g_isParted : Value) (v_row : Nat → Int32) : va_W := [(h0, .inr (5, [.ref h_row, g_fresh, g_kept, g_tried, g_isKept, g_viewed, g_tape, g_tapeMany, g_sort, g_begins, g_tokenEnds, g_word, g_value, g_good, g_growing, g_rows, g_must, g_rowMany, g_sorts, g_sizes, g_sheets, g_holds, g_heldNumber, g_heldSize, g_kind, g_number, g_ownHand, g_traced, g_bodies, g_isParted])), (h_row, .inl (cI, 68, .inl v_row))]
theorem nX5_drawn_X5 : ∀ w ∈ wsX50, w ∈ wsX5_drawn := by decide +kernel
theorem kX5_drawn_0 : Cond.fieldLink RX5 7 "PaintedWallsModel" "row" "[I" ∈ wsX5_drawn := by decide +kernel
theorem kX5_drawn_1 : Cond.constant RX5 262 (nI 1103515245) ∈ wsX5_drawn := by decide +kernel
set_option maxHeartbeats 4000000 in
set_option maxRecDepth 100000 in
theorem tX5_drawn {l : Launch} {D : va_G} {cB cI cJ cO : ClassId} (h0 h_row : Nat) (g_fresh g_kept g_tried g_isKept g_viewed g_tape g_tapeMany g_sort g_begins g_tokenEnds g_word g_value g_good g_growing g_rows g_must g_rowMany g_sorts g_sizes g_sheets g_holds g_heldNumber g_heldSize g_kind g_number g_ownHand g_traced g_bodies g_isParted : Value) (v_row : Nat → Int32) (r : Int32 × (Nat → Int32)) (hF : fX5_drawn v_row = some r) : Met l yX5_drawn wsX5_drawn rX5_drawn (zPre D cB cI cJ cO [.ref h0] (wX5_drawn cB cI cJ cO h0 h_row g_fresh g_kept g_tried g_isKept g_viewed g_tape g_tapeMany g_sort g_begins g_tokenEnds g_word g_value g_good g_growing g_rows g_must g_rowMany g_sorts g_sizes g_sheets g_holds g_heldNumber g_heldSize g_kind g_number g_ownHand g_traced g_bodies g_isParted v_row)) (zPM (some (.int r.1)) D (wX5_drawn cB cI cJ cO h0 h_row g_fresh g_kept g_tried g_isKept g_viewed g_tape g_tapeMany g_sort g_begins g_tokenEnds g_word g_value g_good g_growing g_rows g_must g_rowMany g_sorts g_sizes g_sheets g_holds g_heldNumber g_heldSize g_kind g_number g_ownHand g_traced g_bodies g_isParted r.2) (zAs [h0, h_row])) 0 0 (zAs [h0, h_row]) := by
  refine zMetM (cc := cX5_drawn) (maxL := 1) (ret := (some .int)) (lv := [(0, .ref h0)]) rfl (by decide) rfl (Nat.le_of_ble_eq_true rfl) rfl ?_
  intro p e s m args below meth c ls Q H locs hQ hx hb hr hml hown hts hlocks hname hP hE hD hS hl
  have hown : s.vm.findClass RX5 = some m.cls := hown
  have hK := hE.1
  unfold fX5_drawn at hF
  refine lv_aload_n (pc := 0) hx hb dX5_drawn_0 rfl (lv_at hl 0 rfl) ?_
  refine va_get (D := D) (pc := 1) (ci := 5) (v := .ref h_row) (C := RX5) (T := TX5) (N := 30) hx hb hts nX5_drawn_X5 hown hK hP 0 rfl rfl 0 (by decide) (hts _ kX5_drawn_0) (fun _ h9 => h9) rfl dX5_drawn_1 ?_
  refine lv_bipush (pc := 4) (v := (nI 7)) hx hb dX5_drawn_4 (by decide) ?_
  refine lv_aload_n (pc := 6) hx hb dX5_drawn_6 rfl (lv_at hl 0 rfl) ?_
  refine va_get (D := D) (pc := 7) (ci := 5) (v := .ref h_row) (C := RX5) (T := TX5) (N := 30) hx hb hts nX5_drawn_X5 hown hK hP 0 rfl rfl 0 (by decide) (hts _ kX5_drawn_0) (fun _ h9 => h9) rfl dX5_drawn_7 ?_
  refine lv_bipush (pc := 10) (v := (nI 7)) hx hb dX5_drawn_10 (by decide) ?_
  refine za_ialdK (pc := 12) (k := 7) hx hb hK hP 1 1 rfl rfl (by decide) (by decide) dX5_drawn_12 ?_
  refine lv_ldcw (pc := 13) hx hb hown (hts _ kX5_drawn_1) dX5_drawn_13 ?_
  refine lv_imul (pc := 16) hx hb dX5_drawn_16 ?_
  refine lv_sipush (pc := 17) (v := (nI 12345)) hx hb dX5_drawn_17 (by decide) ?_
  refine lv_iadd (pc := 20) hx hb dX5_drawn_20 ?_
  refine za_iastK (pc := 21) (k := 7) hx hb hK hP (zD_re hD rfl) hS 1 1 rfl rfl (by decide) (by decide) dX5_drawn_21 (fun H locs hP hS => ?_)
  have hP : va_P D vwCl (wX5_drawn cB cI cJ cO h0 h_row g_fresh g_kept g_tried g_isKept g_viewed g_tape g_tapeMany g_sort g_begins g_tokenEnds g_word g_value g_good g_growing g_rows g_must g_rowMany g_sorts g_sizes g_sheets g_holds g_heldNumber g_heldSize g_kind g_number g_ownHand g_traced g_bodies g_isParted (upd v_row 7 (((v_row 7) * (nI 1103515245)) + (nI 12345)))) H := hP
  refine lv_aload_n (pc := 22) hx hb dX5_drawn_22 rfl (lv_at hl 0 rfl) ?_
  refine va_get (D := D) (pc := 23) (ci := 5) (v := .ref h_row) (C := RX5) (T := TX5) (N := 30) hx hb hts nX5_drawn_X5 hown hK hP 0 rfl rfl 0 (by decide) (hts _ kX5_drawn_0) (fun _ h9 => h9) rfl dX5_drawn_23 ?_
  refine lv_bipush (pc := 26) (v := (nI 7)) hx hb dX5_drawn_26 (by decide) ?_
  refine za_ialdK (pc := 28) (k := 7) hx hb hK hP 1 1 rfl rfl (by decide) (by decide) dX5_drawn_28 ?_
  refine lv_bipush (pc := 29) (v := (nI 16)) hx hb dX5_drawn_29 (by decide) ?_
  refine lv_iushr (pc := 31) (v := ((((upd v_row 7 (((v_row 7) * (nI 1103515245)) + (nI 12345))) 7).toUInt32 >>> ((nI 16).toUInt32 &&& Int32.toUInt32 31)).toInt32)) hx hb dX5_drawn_31 rfl ?_
  exact z_iretM (pc := 32) (fun q => q.1) (fun q => (wX5_drawn cB cI cJ cO h0 h_row g_fresh g_kept g_tried g_isKept g_viewed g_tape g_tapeMany g_sort g_begins g_tokenEnds g_word g_value g_good g_growing g_rows g_must g_rowMany g_sorts g_sizes g_sheets g_holds g_heldNumber g_heldSize g_kind g_number g_ownHand g_traced g_bodies g_isParted q.2)) hx hb hr hlocks hP hS hF rfl hQ dX5_drawn_32

abbrev rX5_seed : Room := { frames := 1, cells := 0, slots := 0, locals := 23 }
abbrev wX5_seed (cB cI cJ cO : ClassId) (h0 h_row : Nat) (g_fresh g_kept g_tried g_isKept g_viewed g_tape g_tapeMany g_sort g_begins g_tokenEnds g_word g_value g_good g_growing g_rows g_must g_rowMany g_sorts g_sizes g_sheets g_holds g_heldNumber g_heldSize g_kind g_number g_ownHand g_traced g_bodies g_isParted : Value) (v_row : Nat → Int32) : va_W := [(h0, .inr (5, [.ref h_row, g_fresh, g_kept, g_tried, g_isKept, g_viewed, g_tape, g_tapeMany, g_sort, g_begins, g_tokenEnds, g_word, g_value, g_good, g_growing, g_rows, g_must, g_rowMany, g_sorts, g_sizes, g_sheets, g_holds, g_heldNumber, g_heldSize, g_kind, g_number, g_ownHand, g_traced, g_bodies, g_isParted])), (h_row, .inl (cI, 68, .inl v_row))]
set_option maxHeartbeats 4000000 in
set_option maxRecDepth 100000 in
theorem tX5_seed {l : Launch} {D : va_G} {cB cI cJ cO : ClassId} (h0 h_row : Nat) (g_fresh g_kept g_tried g_isKept g_viewed g_tape g_tapeMany g_sort g_begins g_tokenEnds g_word g_value g_good g_growing g_rows g_must g_rowMany g_sorts g_sizes g_sheets g_holds g_heldNumber g_heldSize g_kind g_number g_ownHand g_traced g_bodies g_isParted : Value) (v_row : Nat → Int32) (x1 : Int32) (r : Int32 × (Nat → Int32)) (hF : fX5_seed v_row x1 = some r) : Met l yX5_seed wsX5_seed rX5_seed (zPre D cB cI cJ cO [.ref h0, .int x1] (wX5_seed cB cI cJ cO h0 h_row g_fresh g_kept g_tried g_isKept g_viewed g_tape g_tapeMany g_sort g_begins g_tokenEnds g_word g_value g_good g_growing g_rows g_must g_rowMany g_sorts g_sizes g_sheets g_holds g_heldNumber g_heldSize g_kind g_number g_ownHand g_traced g_bodies g_isParted v_row)) (zPM (some (.int r.1)) D (wX5_seed cB cI cJ cO h0 h_row g_fresh g_kept g_tried g_isKept g_viewed g_tape g_tapeMany g_sort g_begins g_tokenEnds g_word g_value g_good g_growing g_rows g_must g_rowMany g_sorts g_sizes g_sheets g_holds g_heldNumber g_heldSize g_kind g_number g_ownHand g_traced g_bodies g_isParted r.2) (zAs [h0, h_row])) 0 0 (zAs [h0, h_row]) := by
  refine zMetM (cc := cX5_seed) (maxL := 2) (ret := (some .int)) (lv := [(0, .ref h0), (1, .int x1)]) rfl (by decide) rfl (Nat.le_of_ble_eq_true rfl) rfl ?_
  intro p e s m args below meth c ls Q H locs hQ hx hb hr hml hown hts hlocks hname hP hE hD hS hl
  have hown : s.vm.findClass RX5 = some m.cls := hown
  have hK := hE.1
  unfold fX5_seed at hF
  refine lv_aload_n (pc := 0) hx hb dX5_seed_0 rfl (lv_at hl 0 rfl) ?_
  refine lv_bipush (pc := 1) (v := (nI 7)) hx hb dX5_seed_1 (by decide) ?_
  refine lv_iload_n (pc := 3) hx hb dX5_seed_3 rfl (lv_at hl 1 rfl) ?_
  obtain ⟨u4, hu4, hF⟩ := z_bind hF
  refine zq_callM (oc0 := (some (.int u4.1))) (wc := wX5_becomes cB cI cJ cO h0 h_row g_fresh g_kept g_tried g_isKept g_viewed g_tape g_tapeMany g_sort g_begins g_tokenEnds g_word g_value g_good g_growing g_rows g_must g_rowMany g_sorts g_sizes g_sheets g_holds g_heldNumber g_heldSize g_kind g_number g_ownHand g_traced g_bodies g_isParted v_row) (wc' := wX5_becomes cB cI cJ cO h0 h_row g_fresh g_kept g_tried g_isKept g_viewed g_tape g_tapeMany g_sort g_begins g_tokenEnds g_word g_value g_good g_growing g_rows g_must g_rowMany g_sorts g_sizes g_sheets g_holds g_heldNumber g_heldSize g_kind g_number g_ownHand g_traced g_bodies g_isParted u4.2) (ws' := (wX5_seed cB cI cJ cO h0 h_row g_fresh g_kept g_tried g_isKept g_viewed g_tape g_tapeMany g_sort g_begins g_tokenEnds g_word g_value g_good g_growing g_rows g_must g_rowMany g_sorts g_sizes g_sheets g_holds g_heldNumber g_heldSize g_kind g_number g_ownHand g_traced g_bodies g_isParted u4.2)) (va_runV (As := [.int (nI 7), .int x1]) (rest := []) ⟨hx, hb, hml, hown, hts⟩ (tX5_becomes (l := l) (D := D) (cB := cB) (cI := cI) (cJ := cJ) (cO := cO) h0 h_row g_fresh g_kept g_tried g_isKept g_viewed g_tape g_tapeMany g_sort g_begins g_tokenEnds g_word g_value g_good g_growing g_rows g_must g_rowMany g_sorts g_sizes g_sheets g_holds g_heldNumber g_heldSize g_kind g_number g_ownHand g_traced g_bodies g_isParted v_row (nI 7) x1 u4 hu4) (cwV 2 hts gX5_seed_X5_becomes rfl rfl rfl (by decide +kernel) ⟨Nat.le_of_ble_eq_true rfl, Nat.le_of_ble_eq_true rfl⟩) ⟨zPre_blind, va_recv hK hP (ci := 5) (q0 := 0) rfl rfl, zPre_at hP hE (zD_re hD rfl) [0, 1] rfl rfl⟩ rfl rfl hl.1 rfl (lv_room (Nat.le_of_ble_eq_true rfl)) dX5_seed_4 ⟨Nat.zero_le _, Nat.zero_le _⟩) rfl hP (zD_re hD rfl) hS [0, 1] rfl rfl [some 0, some 1] rfl rfl rfl rfl (fun H locs hP hS => ?_)
  refine W.eq (g2 := F0 m 7 ls [.int u4.1]) rfl ?_
  exact z_iretM (pc := 7) (fun q => q.1) (fun q => (wX5_seed cB cI cJ cO h0 h_row g_fresh g_kept g_tried g_isKept g_viewed g_tape g_tapeMany g_sort g_begins g_tokenEnds g_word g_value g_good g_growing g_rows g_must g_rowMany g_sorts g_sizes g_sheets g_holds g_heldNumber g_heldSize g_kind g_number g_ownHand g_traced g_bodies g_isParted q.2)) hx hb hr hlocks hP hS hF rfl hQ dX5_seed_7

abbrev rX5_nightByDraws : Room := { frames := 7, cells := 0, slots := 0, locals := 156 }
abbrev wX5_nightByDraws (cB cI cJ cO : ClassId) (h0 h_row h_growing : Nat) (g_fresh g_kept g_tried g_isKept g_tape g_tapeMany g_sort g_begins g_tokenEnds g_word g_value g_good g_rows g_must g_rowMany g_sorts g_sizes g_sheets g_holds g_heldNumber g_heldSize g_kind g_number g_ownHand g_traced g_bodies g_isParted : Value) (v_viewed : Int32) (v_row : Nat → Int32) (v_growing : Nat → Int32) : va_W := [(h0, .inr (5, [.ref h_row, g_fresh, g_kept, g_tried, g_isKept, .int v_viewed, g_tape, g_tapeMany, g_sort, g_begins, g_tokenEnds, g_word, g_value, g_good, .ref h_growing, g_rows, g_must, g_rowMany, g_sorts, g_sizes, g_sheets, g_holds, g_heldNumber, g_heldSize, g_kind, g_number, g_ownHand, g_traced, g_bodies, g_isParted])), (h_row, .inl (cI, 68, .inl v_row)), (h_growing, .inl (cI, 8, .inl v_growing))]
theorem nX5_nightByDraws_X5 : ∀ w ∈ wsX50, w ∈ wsX5_nightByDraws := by decide +kernel
theorem kX5_nightByDraws_0 : Cond.fieldLink RX5 7 "PaintedWallsModel" "row" "[I" ∈ wsX5_nightByDraws := by decide +kernel
set_option maxHeartbeats 4000000 in
set_option maxRecDepth 100000 in
theorem tX5_nightByDraws {l : Launch} {D : va_G} {cB cI cJ cO : ClassId} (h0 h_row h_growing : Nat) (g_fresh g_kept g_tried g_isKept g_tape g_tapeMany g_sort g_begins g_tokenEnds g_word g_value g_good g_rows g_must g_rowMany g_sorts g_sizes g_sheets g_holds g_heldNumber g_heldSize g_kind g_number g_ownHand g_traced g_bodies g_isParted : Value) (v_viewed : Int32) (v_row : Nat → Int32) (v_growing : Nat → Int32) (r : Int32 × (Nat → Int32) × (Nat → Int32)) (hF : fX5_nightByDraws v_viewed v_row v_growing = some r) : Met l yX5_nightByDraws wsX5_nightByDraws rX5_nightByDraws (zPre D cB cI cJ cO [.ref h0] (wX5_nightByDraws cB cI cJ cO h0 h_row h_growing g_fresh g_kept g_tried g_isKept g_tape g_tapeMany g_sort g_begins g_tokenEnds g_word g_value g_good g_rows g_must g_rowMany g_sorts g_sizes g_sheets g_holds g_heldNumber g_heldSize g_kind g_number g_ownHand g_traced g_bodies g_isParted v_viewed v_row v_growing)) (zPM none D (wX5_nightByDraws cB cI cJ cO h0 h_row h_growing g_fresh g_kept g_tried g_isKept g_tape g_tapeMany g_sort g_begins g_tokenEnds g_word g_value g_good g_rows g_must g_rowMany g_sorts g_sizes g_sheets g_holds g_heldNumber g_heldSize g_kind g_number g_ownHand g_traced g_bodies g_isParted r.1 r.2.1 r.2.2) (zAs [h0, h_row, h_growing])) 0 0 (zAs [h0, h_row, h_growing]) := by
  refine zMetM (cc := cX5_nightByDraws) (maxL := 2) (ret := none) (lv := [(0, .ref h0)]) rfl (by decide) rfl (Nat.le_of_ble_eq_true rfl) rfl ?_
  intro p e s m args below meth c ls Q H locs hQ hx hb hr hml hown hts hlocks hname hP hE hD hS hl
  have hown : s.vm.findClass RX5 = some m.cls := hown
  have hK := hE.1
  unfold fX5_nightByDraws at hF
  refine lv_aload_n (pc := 0) hx hb dX5_nightByDraws_0 rfl (lv_at hl 0 rfl) ?_
  refine va_get (D := D) (pc := 1) (ci := 5) (v := .ref h_row) (C := RX5) (T := TX5) (N := 30) hx hb hts nX5_nightByDraws_X5 hown hK hP 0 rfl rfl 0 (by decide) (hts _ kX5_nightByDraws_0) (fun _ h9 => h9) rfl dX5_nightByDraws_1 ?_
  refine lv_bipush (pc := 4) (v := (nI 6)) hx hb dX5_nightByDraws_4 (by decide) ?_
  refine za_ialdK (pc := 6) (k := 6) hx hb hK hP 1 1 rfl rfl (by decide) (by decide) dX5_nightByDraws_6 ?_
  refine zb_if_le (pc := 7) (tgt := 53) hx hb dX5_nightByDraws_7 (by decide) hF (fun c_7 hF => ?_) (fun c_7 hF => ?_)
  · refine lv_aload_n (pc := 53) hx hb dX5_nightByDraws_53 rfl (lv_at hl 0 rfl) ?_
    obtain ⟨u54, hu54, hF⟩ := z_bind hF
    refine zq_callM (oc0 := none) (wc := wX5_nightGoes cB cI cJ cO h0 h_row h_growing g_fresh g_kept g_tried g_isKept g_tape g_tapeMany g_sort g_begins g_tokenEnds g_word g_value g_good g_rows g_must g_rowMany g_sorts g_sizes g_sheets g_holds g_heldNumber g_heldSize g_kind g_number g_ownHand g_traced g_bodies g_isParted v_viewed v_row v_growing) (wc' := wX5_nightGoes cB cI cJ cO h0 h_row h_growing g_fresh g_kept g_tried g_isKept g_tape g_tapeMany g_sort g_begins g_tokenEnds g_word g_value g_good g_rows g_must g_rowMany g_sorts g_sizes g_sheets g_holds g_heldNumber g_heldSize g_kind g_number g_ownHand g_traced g_bodies g_isParted u54.1 u54.2.1 u54.2.2) (ws' := (wX5_nightByDraws cB cI cJ cO h0 h_row h_growing g_fresh g_kept g_tried g_isKept g_tape g_tapeMany g_sort g_begins g_tokenEnds g_word g_value g_good g_rows g_must g_rowMany g_sorts g_sizes g_sheets g_holds g_heldNumber g_heldSize g_kind g_number g_ownHand g_traced g_bodies g_isParted u54.1 u54.2.1 u54.2.2)) (va_runV (As := []) (rest := []) ⟨hx, hb, hml, hown, hts⟩ (tX5_nightGoes (l := l) (D := D) (cB := cB) (cI := cI) (cJ := cJ) (cO := cO) h0 h_row h_growing g_fresh g_kept g_tried g_isKept g_tape g_tapeMany g_sort g_begins g_tokenEnds g_word g_value g_good g_rows g_must g_rowMany g_sorts g_sizes g_sheets g_holds g_heldNumber g_heldSize g_kind g_number g_ownHand g_traced g_bodies g_isParted v_viewed v_row v_growing u54 hu54) (cwV 0 hts gX5_nightByDraws_X5_nightGoes rfl rfl rfl (by decide +kernel) ⟨Nat.le_of_ble_eq_true rfl, Nat.le_of_ble_eq_true rfl⟩) ⟨zPre_blind, va_recv hK hP (ci := 5) (q0 := 0) rfl rfl, zPre_at hP hE (zD_re hD rfl) [0, 1, 2] rfl rfl⟩ rfl rfl hl.1 rfl (lv_room (Nat.le_of_ble_eq_true rfl)) dX5_nightByDraws_54 ⟨Nat.zero_le _, Nat.zero_le _⟩) rfl hP (zD_re hD rfl) hS [0, 1, 2] rfl rfl [some 0, some 1, some 2] rfl rfl rfl rfl (fun H locs hP hS => ?_)
    refine W.eq (g2 := F0 m 57 ls []) rfl ?_
    exact z_vretM (pc := 57) (fun q => (wX5_nightByDraws cB cI cJ cO h0 h_row h_growing g_fresh g_kept g_tried g_isKept g_tape g_tapeMany g_sort g_begins g_tokenEnds g_word g_value g_good g_rows g_must g_rowMany g_sorts g_sizes g_sheets g_holds g_heldNumber g_heldSize g_kind g_number g_ownHand g_traced g_bodies g_isParted q.1 q.2.1 q.2.2)) hx hb hr hlocks hP hS hF hQ dX5_nightByDraws_57
  · refine lv_aload_n (pc := 10) hx hb dX5_nightByDraws_10 rfl (lv_at hl 0 rfl) ?_
    obtain ⟨u11, hu11, hF⟩ := z_bind hF
    refine zq_callM (oc0 := (some (.int u11.1))) (wc := wX5_drawn cB cI cJ cO h0 h_row g_fresh g_kept g_tried g_isKept (.int v_viewed) g_tape g_tapeMany g_sort g_begins g_tokenEnds g_word g_value g_good (.ref h_growing) g_rows g_must g_rowMany g_sorts g_sizes g_sheets g_holds g_heldNumber g_heldSize g_kind g_number g_ownHand g_traced g_bodies g_isParted v_row) (wc' := wX5_drawn cB cI cJ cO h0 h_row g_fresh g_kept g_tried g_isKept (.int v_viewed) g_tape g_tapeMany g_sort g_begins g_tokenEnds g_word g_value g_good (.ref h_growing) g_rows g_must g_rowMany g_sorts g_sizes g_sheets g_holds g_heldNumber g_heldSize g_kind g_number g_ownHand g_traced g_bodies g_isParted u11.2) (ws' := (wX5_nightByDraws cB cI cJ cO h0 h_row h_growing g_fresh g_kept g_tried g_isKept g_tape g_tapeMany g_sort g_begins g_tokenEnds g_word g_value g_good g_rows g_must g_rowMany g_sorts g_sizes g_sheets g_holds g_heldNumber g_heldSize g_kind g_number g_ownHand g_traced g_bodies g_isParted v_viewed u11.2 v_growing)) (va_runV (As := []) (rest := []) ⟨hx, hb, hml, hown, hts⟩ (tX5_drawn (l := l) (D := D) (cB := cB) (cI := cI) (cJ := cJ) (cO := cO) h0 h_row g_fresh g_kept g_tried g_isKept (.int v_viewed) g_tape g_tapeMany g_sort g_begins g_tokenEnds g_word g_value g_good (.ref h_growing) g_rows g_must g_rowMany g_sorts g_sizes g_sheets g_holds g_heldNumber g_heldSize g_kind g_number g_ownHand g_traced g_bodies g_isParted v_row u11 hu11) (cwV 0 hts gX5_nightByDraws_X5_drawn rfl rfl rfl (by decide +kernel) ⟨Nat.le_of_ble_eq_true rfl, Nat.le_of_ble_eq_true rfl⟩) ⟨zPre_blind, va_recv hK hP (ci := 5) (q0 := 0) rfl rfl, zPre_at hP hE (zD_re hD rfl) [0, 1] rfl rfl⟩ rfl rfl hl.1 rfl (lv_room (Nat.le_of_ble_eq_true rfl)) dX5_nightByDraws_11 ⟨Nat.zero_le _, Nat.zero_le _⟩) rfl hP (zD_re hD rfl) hS [0, 1] rfl rfl [some 0, some 1, none] rfl rfl rfl rfl (fun H locs hP hS => ?_)
    refine W.eq (g2 := F0 m 14 ls [.int u11.1]) rfl ?_
    refine lv_aload_n (pc := 14) hx hb dX5_nightByDraws_14 rfl (lv_at hl 0 rfl) ?_
    refine va_get (D := D) (pc := 15) (ci := 5) (v := .ref h_row) (C := RX5) (T := TX5) (N := 30) hx hb hts nX5_nightByDraws_X5 hown hK hP 0 rfl rfl 0 (by decide) (hts _ kX5_nightByDraws_0) (fun _ h9 => h9) rfl dX5_nightByDraws_15 ?_
    refine lv_bipush (pc := 18) (v := (nI 6)) hx hb dX5_nightByDraws_18 (by decide) ?_
    refine za_ialdK (pc := 20) (k := 6) hx hb hK hP 1 1 rfl rfl (by decide) (by decide) dX5_nightByDraws_20 ?_
    refine za_irem (pc := 21) hx hb dX5_nightByDraws_21 hF (fun hF => ?_)
    refine lv_istore_n (pc := 22) (lv' := [(1, .int (u11.1 - u11.1 / (u11.2 6) * (u11.2 6))), (0, .ref h0)]) hx hb dX5_nightByDraws_22 rfl hl (by decide) rfl (fun ls hl => ?_)
    refine lv_aload_n (pc := 23) hx hb dX5_nightByDraws_23 rfl (lv_at hl 1 rfl) ?_
    obtain ⟨u24, hu24, hF⟩ := z_bind hF
    refine zq_callM (oc0 := (some (.int u24.1))) (wc := wX5_drawn cB cI cJ cO h0 h_row g_fresh g_kept g_tried g_isKept (.int v_viewed) g_tape g_tapeMany g_sort g_begins g_tokenEnds g_word g_value g_good (.ref h_growing) g_rows g_must g_rowMany g_sorts g_sizes g_sheets g_holds g_heldNumber g_heldSize g_kind g_number g_ownHand g_traced g_bodies g_isParted u11.2) (wc' := wX5_drawn cB cI cJ cO h0 h_row g_fresh g_kept g_tried g_isKept (.int v_viewed) g_tape g_tapeMany g_sort g_begins g_tokenEnds g_word g_value g_good (.ref h_growing) g_rows g_must g_rowMany g_sorts g_sizes g_sheets g_holds g_heldNumber g_heldSize g_kind g_number g_ownHand g_traced g_bodies g_isParted u24.2) (ws' := (wX5_nightByDraws cB cI cJ cO h0 h_row h_growing g_fresh g_kept g_tried g_isKept g_tape g_tapeMany g_sort g_begins g_tokenEnds g_word g_value g_good g_rows g_must g_rowMany g_sorts g_sizes g_sheets g_holds g_heldNumber g_heldSize g_kind g_number g_ownHand g_traced g_bodies g_isParted v_viewed u24.2 v_growing)) (va_runV (As := []) (rest := []) ⟨hx, hb, hml, hown, hts⟩ (tX5_drawn (l := l) (D := D) (cB := cB) (cI := cI) (cJ := cJ) (cO := cO) h0 h_row g_fresh g_kept g_tried g_isKept (.int v_viewed) g_tape g_tapeMany g_sort g_begins g_tokenEnds g_word g_value g_good (.ref h_growing) g_rows g_must g_rowMany g_sorts g_sizes g_sheets g_holds g_heldNumber g_heldSize g_kind g_number g_ownHand g_traced g_bodies g_isParted u11.2 u24 hu24) (cwV 0 hts gX5_nightByDraws_X5_drawn rfl rfl rfl (by decide +kernel) ⟨Nat.le_of_ble_eq_true rfl, Nat.le_of_ble_eq_true rfl⟩) ⟨zPre_blind, va_recv hK hP (ci := 5) (q0 := 0) rfl rfl, zPre_at hP hE (zD_re hD rfl) [0, 1] rfl rfl⟩ rfl rfl hl.1 rfl (lv_room (Nat.le_of_ble_eq_true rfl)) dX5_nightByDraws_24 ⟨Nat.zero_le _, Nat.zero_le _⟩) rfl hP (zD_re hD rfl) hS [0, 1] rfl rfl [some 0, some 1, none] rfl rfl rfl rfl (fun H locs hP hS => ?_)
    refine W.eq (g2 := F0 m 27 ls [.int u24.1]) rfl ?_
    refine lv_bipush (pc := 27) (v := (nI 100)) hx hb dX5_nightByDraws_27 (by decide) ?_
    refine lv_irem (pc := 29) hx hb dX5_nightByDraws_29 (by decide) ?_
    refine lv_aload_n (pc := 30) hx hb dX5_nightByDraws_30 rfl (lv_at hl 1 rfl) ?_
    refine va_get (D := D) (pc := 31) (ci := 5) (v := .ref h_row) (C := RX5) (T := TX5) (N := 30) hx hb hts nX5_nightByDraws_X5 hown hK hP 0 rfl rfl 0 (by decide) (hts _ kX5_nightByDraws_0) (fun _ h9 => h9) rfl dX5_nightByDraws_31 ?_
    refine lv_iconst (pc := 34) (v := (nI 3)) hx hb dX5_nightByDraws_34 (by decide) ?_
    refine za_ialdK (pc := 35) (k := 3) hx hb hK hP 1 1 rfl rfl (by decide) (by decide) dX5_nightByDraws_35 ?_
    refine zb_icmp_ge (pc := 36) (tgt := 53) hx hb dX5_nightByDraws_36 (by decide) hF (fun c_36 hF => ?_) (fun c_36 hF => ?_)
    · refine lv_aload_n (pc := 53) hx hb dX5_nightByDraws_53 rfl (lv_at hl 1 rfl) ?_
      obtain ⟨u54_1, hu54_1, hF⟩ := z_bind hF
      refine zq_callM (oc0 := none) (wc := wX5_nightGoes cB cI cJ cO h0 h_row h_growing g_fresh g_kept g_tried g_isKept g_tape g_tapeMany g_sort g_begins g_tokenEnds g_word g_value g_good g_rows g_must g_rowMany g_sorts g_sizes g_sheets g_holds g_heldNumber g_heldSize g_kind g_number g_ownHand g_traced g_bodies g_isParted v_viewed u24.2 v_growing) (wc' := wX5_nightGoes cB cI cJ cO h0 h_row h_growing g_fresh g_kept g_tried g_isKept g_tape g_tapeMany g_sort g_begins g_tokenEnds g_word g_value g_good g_rows g_must g_rowMany g_sorts g_sizes g_sheets g_holds g_heldNumber g_heldSize g_kind g_number g_ownHand g_traced g_bodies g_isParted u54_1.1 u54_1.2.1 u54_1.2.2) (ws' := (wX5_nightByDraws cB cI cJ cO h0 h_row h_growing g_fresh g_kept g_tried g_isKept g_tape g_tapeMany g_sort g_begins g_tokenEnds g_word g_value g_good g_rows g_must g_rowMany g_sorts g_sizes g_sheets g_holds g_heldNumber g_heldSize g_kind g_number g_ownHand g_traced g_bodies g_isParted u54_1.1 u54_1.2.1 u54_1.2.2)) (va_runV (As := []) (rest := []) ⟨hx, hb, hml, hown, hts⟩ (tX5_nightGoes (l := l) (D := D) (cB := cB) (cI := cI) (cJ := cJ) (cO := cO) h0 h_row h_growing g_fresh g_kept g_tried g_isKept g_tape g_tapeMany g_sort g_begins g_tokenEnds g_word g_value g_good g_rows g_must g_rowMany g_sorts g_sizes g_sheets g_holds g_heldNumber g_heldSize g_kind g_number g_ownHand g_traced g_bodies g_isParted v_viewed u24.2 v_growing u54_1 hu54_1) (cwV 0 hts gX5_nightByDraws_X5_nightGoes rfl rfl rfl (by decide +kernel) ⟨Nat.le_of_ble_eq_true rfl, Nat.le_of_ble_eq_true rfl⟩) ⟨zPre_blind, va_recv hK hP (ci := 5) (q0 := 0) rfl rfl, zPre_at hP hE (zD_re hD rfl) [0, 1, 2] rfl rfl⟩ rfl rfl hl.1 rfl (lv_room (Nat.le_of_ble_eq_true rfl)) dX5_nightByDraws_54 ⟨Nat.zero_le _, Nat.zero_le _⟩) rfl hP (zD_re hD rfl) hS [0, 1, 2] rfl rfl [some 0, some 1, some 2] rfl rfl rfl rfl (fun H locs hP hS => ?_)
      refine W.eq (g2 := F0 m 57 ls []) rfl ?_
      exact z_vretM (pc := 57) (fun q => (wX5_nightByDraws cB cI cJ cO h0 h_row h_growing g_fresh g_kept g_tried g_isKept g_tape g_tapeMany g_sort g_begins g_tokenEnds g_word g_value g_good g_rows g_must g_rowMany g_sorts g_sizes g_sheets g_holds g_heldNumber g_heldSize g_kind g_number g_ownHand g_traced g_bodies g_isParted q.1 q.2.1 q.2.2)) hx hb hr hlocks hP hS hF hQ dX5_nightByDraws_57
    · refine lv_aload_n (pc := 39) hx hb dX5_nightByDraws_39 rfl (lv_at hl 1 rfl) ?_
      refine lv_iload_n (pc := 40) hx hb dX5_nightByDraws_40 rfl (lv_at hl 0 rfl) ?_
      refine lv_iconst (pc := 41) (v := (nI 2)) hx hb dX5_nightByDraws_41 (by decide) ?_
      refine lv_aload_n (pc := 42) hx hb dX5_nightByDraws_42 rfl (lv_at hl 1 rfl) ?_
      refine lv_iload_n (pc := 43) hx hb dX5_nightByDraws_43 rfl (lv_at hl 0 rfl) ?_
      refine lv_iconst (pc := 44) (v := (nI 2)) hx hb dX5_nightByDraws_44 (by decide) ?_
      obtain ⟨u45, hu45, hF⟩ := z_bind hF
      refine zq_call (oc0 := (some (.int u45))) (va_runV (As := [.int (u11.1 - u11.1 / (u11.2 6) * (u11.2 6)), .int (nI 2)]) (rest := [.int (nI 2), .int (u11.1 - u11.1 / (u11.2 6) * (u11.2 6)), .ref h0]) ⟨hx, hb, hml, hown, hts⟩ (tX5_its (l := l) (D := D) (cB := cB) (cI := cI) (cJ := cJ) (cO := cO) h0 h_row g_fresh g_kept g_tried g_isKept (.int v_viewed) g_tape g_tapeMany g_sort g_begins g_tokenEnds g_word g_value g_good (.ref h_growing) g_rows g_must g_rowMany g_sorts g_sizes g_sheets g_holds g_heldNumber g_heldSize g_kind g_number g_ownHand g_traced g_bodies g_isParted u24.2 (u11.1 - u11.1 / (u11.2 6) * (u11.2 6)) (nI 2) u45 hu45) (cwV 2 hts gX5_nightByDraws_X5_its rfl rfl rfl (by decide +kernel) ⟨Nat.le_of_ble_eq_true rfl, Nat.le_of_ble_eq_true rfl⟩) ⟨zPre_blind, va_recv hK hP (ci := 5) (q0 := 0) rfl rfl, zPre_at hP hE (zD_re hD rfl) [0, 1] rfl rfl⟩ rfl rfl hl.1 rfl (lv_room (Nat.le_of_ble_eq_true rfl)) dX5_nightByDraws_45 ⟨Nat.zero_le _, Nat.zero_le _⟩) ?_
      refine W.eq (g2 := F0 m 48 ls [.int u45, .int (nI 2), .int (u11.1 - u11.1 / (u11.2 6) * (u11.2 6)), .ref h0]) rfl ?_
      refine lv_iconst (pc := 48) (v := (nI 2)) hx hb dX5_nightByDraws_48 (by decide) ?_
      refine lv_idiv (pc := 49) hx hb dX5_nightByDraws_49 (by decide) ?_
      obtain ⟨u50, hu50, hF⟩ := z_bind hF
      refine zq_callM (oc0 := none) (wc := wX5_sets cB cI cJ cO h0 h_row g_fresh g_kept g_tried g_isKept (.int v_viewed) g_tape g_tapeMany g_sort g_begins g_tokenEnds g_word g_value g_good (.ref h_growing) g_rows g_must g_rowMany g_sorts g_sizes g_sheets g_holds g_heldNumber g_heldSize g_kind g_number g_ownHand g_traced g_bodies g_isParted u24.2) (wc' := wX5_sets cB cI cJ cO h0 h_row g_fresh g_kept g_tried g_isKept (.int v_viewed) g_tape g_tapeMany g_sort g_begins g_tokenEnds g_word g_value g_good (.ref h_growing) g_rows g_must g_rowMany g_sorts g_sizes g_sheets g_holds g_heldNumber g_heldSize g_kind g_number g_ownHand g_traced g_bodies g_isParted u50) (ws' := (wX5_nightByDraws cB cI cJ cO h0 h_row h_growing g_fresh g_kept g_tried g_isKept g_tape g_tapeMany g_sort g_begins g_tokenEnds g_word g_value g_good g_rows g_must g_rowMany g_sorts g_sizes g_sheets g_holds g_heldNumber g_heldSize g_kind g_number g_ownHand g_traced g_bodies g_isParted v_viewed u50 v_growing)) (va_runV (As := [.int (u11.1 - u11.1 / (u11.2 6) * (u11.2 6)), .int (nI 2), .int (u45 / (nI 2))]) (rest := []) ⟨hx, hb, hml, hown, hts⟩ (tX5_sets (l := l) (D := D) (cB := cB) (cI := cI) (cJ := cJ) (cO := cO) h0 h_row g_fresh g_kept g_tried g_isKept (.int v_viewed) g_tape g_tapeMany g_sort g_begins g_tokenEnds g_word g_value g_good (.ref h_growing) g_rows g_must g_rowMany g_sorts g_sizes g_sheets g_holds g_heldNumber g_heldSize g_kind g_number g_ownHand g_traced g_bodies g_isParted u24.2 (u11.1 - u11.1 / (u11.2 6) * (u11.2 6)) (nI 2) (u45 / (nI 2)) u50 hu50) (cwV 3 hts gX5_nightByDraws_X5_sets rfl rfl rfl (by decide +kernel) ⟨Nat.le_of_ble_eq_true rfl, Nat.le_of_ble_eq_true rfl⟩) ⟨zPre_blind, va_recv hK hP (ci := 5) (q0 := 0) rfl rfl, zPre_at hP hE (zD_re hD rfl) [0, 1] rfl rfl⟩ rfl rfl hl.1 rfl (lv_room (Nat.le_of_ble_eq_true rfl)) dX5_nightByDraws_50 ⟨Nat.zero_le _, Nat.zero_le _⟩) rfl hP (zD_re hD rfl) hS [0, 1] rfl rfl [some 0, some 1, none] rfl rfl rfl rfl (fun H locs hP hS => ?_)
      refine W.eq (g2 := F0 m 53 ls []) rfl ?_
      refine lv_aload_n (pc := 53) hx hb dX5_nightByDraws_53 rfl (lv_at hl 1 rfl) ?_
      obtain ⟨u54_2, hu54_2, hF⟩ := z_bind hF
      refine zq_callM (oc0 := none) (wc := wX5_nightGoes cB cI cJ cO h0 h_row h_growing g_fresh g_kept g_tried g_isKept g_tape g_tapeMany g_sort g_begins g_tokenEnds g_word g_value g_good g_rows g_must g_rowMany g_sorts g_sizes g_sheets g_holds g_heldNumber g_heldSize g_kind g_number g_ownHand g_traced g_bodies g_isParted v_viewed u50 v_growing) (wc' := wX5_nightGoes cB cI cJ cO h0 h_row h_growing g_fresh g_kept g_tried g_isKept g_tape g_tapeMany g_sort g_begins g_tokenEnds g_word g_value g_good g_rows g_must g_rowMany g_sorts g_sizes g_sheets g_holds g_heldNumber g_heldSize g_kind g_number g_ownHand g_traced g_bodies g_isParted u54_2.1 u54_2.2.1 u54_2.2.2) (ws' := (wX5_nightByDraws cB cI cJ cO h0 h_row h_growing g_fresh g_kept g_tried g_isKept g_tape g_tapeMany g_sort g_begins g_tokenEnds g_word g_value g_good g_rows g_must g_rowMany g_sorts g_sizes g_sheets g_holds g_heldNumber g_heldSize g_kind g_number g_ownHand g_traced g_bodies g_isParted u54_2.1 u54_2.2.1 u54_2.2.2)) (va_runV (As := []) (rest := []) ⟨hx, hb, hml, hown, hts⟩ (tX5_nightGoes (l := l) (D := D) (cB := cB) (cI := cI) (cJ := cJ) (cO := cO) h0 h_row h_growing g_fresh g_kept g_tried g_isKept g_tape g_tapeMany g_sort g_begins g_tokenEnds g_word g_value g_good g_rows g_must g_rowMany g_sorts g_sizes g_sheets g_holds g_heldNumber g_heldSize g_kind g_number g_ownHand g_traced g_bodies g_isParted v_viewed u50 v_growing u54_2 hu54_2) (cwV 0 hts gX5_nightByDraws_X5_nightGoes rfl rfl rfl (by decide +kernel) ⟨Nat.le_of_ble_eq_true rfl, Nat.le_of_ble_eq_true rfl⟩) ⟨zPre_blind, va_recv hK hP (ci := 5) (q0 := 0) rfl rfl, zPre_at hP hE (zD_re hD rfl) [0, 1, 2] rfl rfl⟩ rfl rfl hl.1 rfl (lv_room (Nat.le_of_ble_eq_true rfl)) dX5_nightByDraws_54 ⟨Nat.zero_le _, Nat.zero_le _⟩) rfl hP (zD_re hD rfl) hS [0, 1, 2] rfl rfl [some 0, some 1, some 2] rfl rfl rfl rfl (fun H locs hP hS => ?_)
      refine W.eq (g2 := F0 m 57 ls []) rfl ?_
      exact z_vretM (pc := 57) (fun q => (wX5_nightByDraws cB cI cJ cO h0 h_row h_growing g_fresh g_kept g_tried g_isKept g_tape g_tapeMany g_sort g_begins g_tokenEnds g_word g_value g_good g_rows g_must g_rowMany g_sorts g_sizes g_sheets g_holds g_heldNumber g_heldSize g_kind g_number g_ownHand g_traced g_bodies g_isParted q.1 q.2.1 q.2.2)) hx hb hr hlocks hP hS hF hQ dX5_nightByDraws_57

abbrev rX5_night : Room := { frames := 8, cells := 0, slots := 0, locals := 177 }
abbrev wX5_night (cB cI cJ cO : ClassId) (h0 h_row h_growing : Nat) (g_fresh g_kept g_tried g_isKept g_tape g_tapeMany g_sort g_begins g_tokenEnds g_word g_value g_good g_rows g_must g_rowMany g_sorts g_sizes g_sheets g_holds g_heldNumber g_heldSize g_kind g_number g_ownHand g_traced g_bodies g_isParted : Value) (v_viewed : Int32) (v_row : Nat → Int32) (v_growing : Nat → Int32) : va_W := [(h0, .inr (5, [.ref h_row, g_fresh, g_kept, g_tried, g_isKept, .int v_viewed, g_tape, g_tapeMany, g_sort, g_begins, g_tokenEnds, g_word, g_value, g_good, .ref h_growing, g_rows, g_must, g_rowMany, g_sorts, g_sizes, g_sheets, g_holds, g_heldNumber, g_heldSize, g_kind, g_number, g_ownHand, g_traced, g_bodies, g_isParted])), (h_row, .inl (cI, 68, .inl v_row)), (h_growing, .inl (cI, 8, .inl v_growing))]
theorem nX5_night_X5 : ∀ w ∈ wsX50, w ∈ wsX5_night := by decide +kernel
theorem kX5_night_0 : Cond.fieldLink RX5 255 "PaintedWallsModel" "viewed" "I" ∈ wsX5_night := by decide +kernel
set_option maxHeartbeats 4000000 in
set_option maxRecDepth 100000 in
theorem tX5_night {l : Launch} {D : va_G} {cB cI cJ cO : ClassId} (h0 h_row h_growing : Nat) (g_fresh g_kept g_tried g_isKept g_tape g_tapeMany g_sort g_begins g_tokenEnds g_word g_value g_good g_rows g_must g_rowMany g_sorts g_sizes g_sheets g_holds g_heldNumber g_heldSize g_kind g_number g_ownHand g_traced g_bodies g_isParted : Value) (v_viewed : Int32) (v_row : Nat → Int32) (v_growing : Nat → Int32) (r : Int32 × Int32 × (Nat → Int32) × (Nat → Int32)) (hF : fX5_night v_viewed v_row v_growing = some r) : Met l yX5_night wsX5_night rX5_night (zPre D cB cI cJ cO [.ref h0] (wX5_night cB cI cJ cO h0 h_row h_growing g_fresh g_kept g_tried g_isKept g_tape g_tapeMany g_sort g_begins g_tokenEnds g_word g_value g_good g_rows g_must g_rowMany g_sorts g_sizes g_sheets g_holds g_heldNumber g_heldSize g_kind g_number g_ownHand g_traced g_bodies g_isParted v_viewed v_row v_growing)) (zPM (some (.int r.1)) D (wX5_night cB cI cJ cO h0 h_row h_growing g_fresh g_kept g_tried g_isKept g_tape g_tapeMany g_sort g_begins g_tokenEnds g_word g_value g_good g_rows g_must g_rowMany g_sorts g_sizes g_sheets g_holds g_heldNumber g_heldSize g_kind g_number g_ownHand g_traced g_bodies g_isParted r.2.1 r.2.2.1 r.2.2.2) (zAs [h0, h_row, h_growing])) 0 0 (zAs [h0, h_row, h_growing]) := by
  refine zMetM (cc := cX5_night) (maxL := 1) (ret := (some .int)) (lv := [(0, .ref h0)]) rfl (by decide) rfl (Nat.le_of_ble_eq_true rfl) rfl ?_
  intro p e s m args below meth c ls Q H locs hQ hx hb hr hml hown hts hlocks hname hP hE hD hS hl
  have hown : s.vm.findClass RX5 = some m.cls := hown
  have hK := hE.1
  unfold fX5_night at hF
  refine lv_aload_n (pc := 0) hx hb dX5_night_0 rfl (lv_at hl 0 rfl) ?_
  obtain ⟨u1, hu1, hF⟩ := z_bind hF
  refine zq_callM (oc0 := none) (wc := wX5_nightByDraws cB cI cJ cO h0 h_row h_growing g_fresh g_kept g_tried g_isKept g_tape g_tapeMany g_sort g_begins g_tokenEnds g_word g_value g_good g_rows g_must g_rowMany g_sorts g_sizes g_sheets g_holds g_heldNumber g_heldSize g_kind g_number g_ownHand g_traced g_bodies g_isParted v_viewed v_row v_growing) (wc' := wX5_nightByDraws cB cI cJ cO h0 h_row h_growing g_fresh g_kept g_tried g_isKept g_tape g_tapeMany g_sort g_begins g_tokenEnds g_word g_value g_good g_rows g_must g_rowMany g_sorts g_sizes g_sheets g_holds g_heldNumber g_heldSize g_kind g_number g_ownHand g_traced g_bodies g_isParted u1.1 u1.2.1 u1.2.2) (ws' := (wX5_night cB cI cJ cO h0 h_row h_growing g_fresh g_kept g_tried g_isKept g_tape g_tapeMany g_sort g_begins g_tokenEnds g_word g_value g_good g_rows g_must g_rowMany g_sorts g_sizes g_sheets g_holds g_heldNumber g_heldSize g_kind g_number g_ownHand g_traced g_bodies g_isParted u1.1 u1.2.1 u1.2.2)) (va_runV (As := []) (rest := []) ⟨hx, hb, hml, hown, hts⟩ (tX5_nightByDraws (l := l) (D := D) (cB := cB) (cI := cI) (cJ := cJ) (cO := cO) h0 h_row h_growing g_fresh g_kept g_tried g_isKept g_tape g_tapeMany g_sort g_begins g_tokenEnds g_word g_value g_good g_rows g_must g_rowMany g_sorts g_sizes g_sheets g_holds g_heldNumber g_heldSize g_kind g_number g_ownHand g_traced g_bodies g_isParted v_viewed v_row v_growing u1 hu1) (cwV 0 hts gX5_night_X5_nightByDraws rfl rfl rfl (by decide +kernel) ⟨Nat.le_of_ble_eq_true rfl, Nat.le_of_ble_eq_true rfl⟩) ⟨zPre_blind, va_recv hK hP (ci := 5) (q0 := 0) rfl rfl, zPre_at hP hE (zD_re hD rfl) [0, 1, 2] rfl rfl⟩ rfl rfl hl.1 rfl (lv_room (Nat.le_of_ble_eq_true rfl)) dX5_night_1 ⟨Nat.zero_le _, Nat.zero_le _⟩) rfl hP (zD_re hD rfl) hS [0, 1, 2] rfl rfl [some 0, some 1, some 2] rfl rfl rfl rfl (fun H locs hP hS => ?_)
  refine W.eq (g2 := F0 m 4 ls []) rfl ?_
  refine lv_aload_n (pc := 4) hx hb dX5_night_4 rfl (lv_at hl 0 rfl) ?_
  refine lv_iconst (pc := 5) (v := (nI 0)) hx hb dX5_night_5 (by decide) ?_
  refine va_put (D := D) (pc := 6) (ci := 5) (v := .int (nI 0)) (ty := .int) (C := RX5) (T := TX5) (N := 30) hx hb hts nX5_night_X5 tyX5 tyX5_ok nmX5 hown hK hP (zD_re hD rfl) hS 0 rfl rfl 5 (by decide) (hts _ kX5_night_0) (fun _ h9 => h9) rfl (tyX5_ok 5 (by decide)) rfl rfl (Nat.le_of_ble_eq_true rfl) dX5_night_6 (fun H locs hP _ hS => ?_)
  have hP : va_P D vwCl (wX5_night cB cI cJ cO h0 h_row h_growing g_fresh g_kept g_tried g_isKept g_tape g_tapeMany g_sort g_begins g_tokenEnds g_word g_value g_good g_rows g_must g_rowMany g_sorts g_sizes g_sheets g_holds g_heldNumber g_heldSize g_kind g_number g_ownHand g_traced g_bodies g_isParted (nI 0) u1.2.1 u1.2.2) H := hP
  refine lv_aload_n (pc := 9) hx hb dX5_night_9 rfl (lv_at hl 0 rfl) ?_
  obtain ⟨u10, hu10, hF⟩ := z_bind hF
  refine zq_call (oc0 := (some (.int u10))) (va_runV (As := []) (rest := []) ⟨hx, hb, hml, hown, hts⟩ (tX5_looksOfAll (l := l) (D := D) (cB := cB) (cI := cI) (cJ := cJ) (cO := cO) h0 h_row g_fresh g_kept g_tried g_isKept (.int (nI 0)) g_tape g_tapeMany g_sort g_begins g_tokenEnds g_word g_value g_good (.ref h_growing) g_rows g_must g_rowMany g_sorts g_sizes g_sheets g_holds g_heldNumber g_heldSize g_kind g_number g_ownHand g_traced g_bodies g_isParted u1.2.1 u10 hu10) (cwV 0 hts gX5_night_X5_looksOfAll rfl rfl rfl (by decide +kernel) ⟨Nat.le_of_ble_eq_true rfl, Nat.le_of_ble_eq_true rfl⟩) ⟨zPre_blind, va_recv hK hP (ci := 5) (q0 := 0) rfl rfl, zPre_at hP hE (zD_re hD rfl) [0, 1] rfl rfl⟩ rfl rfl hl.1 rfl (lv_room (Nat.le_of_ble_eq_true rfl)) dX5_night_10 ⟨Nat.zero_le _, Nat.zero_le _⟩) ?_
  refine W.eq (g2 := F0 m 13 ls [.int u10]) rfl ?_
  exact z_iretM (pc := 13) (fun q => q.1) (fun q => (wX5_night cB cI cJ cO h0 h_row h_growing g_fresh g_kept g_tried g_isKept g_tape g_tapeMany g_sort g_begins g_tokenEnds g_word g_value g_good g_rows g_must g_rowMany g_sorts g_sizes g_sheets g_holds g_heldNumber g_heldSize g_kind g_number g_ownHand g_traced g_bodies g_isParted q.2.1 q.2.2.1 q.2.2.2)) hx hb hr hlocks hP hS hF rfl hQ dX5_night_13

abbrev rX5_viewedBy : Room := { frames := 7, cells := 0, slots := 0, locals := 156 }
abbrev wX5_viewedBy (cB cI cJ cO : ClassId) (h0 h_row h_tried h_growing : Nat) (g_fresh g_kept g_isKept g_tape g_tapeMany g_sort g_begins g_tokenEnds g_word g_value g_good g_rows g_must g_rowMany g_sorts g_sizes g_sheets g_holds g_heldNumber g_heldSize g_kind g_number g_ownHand g_traced g_bodies g_isParted : Value) (v_viewed : Int32) (v_row : Nat → Int32) (v_tried : Nat → Int32) (v_growing : Nat → Int32) : va_W := [(h0, .inr (5, [.ref h_row, g_fresh, g_kept, .ref h_tried, g_isKept, .int v_viewed, g_tape, g_tapeMany, g_sort, g_begins, g_tokenEnds, g_word, g_value, g_good, .ref h_growing, g_rows, g_must, g_rowMany, g_sorts, g_sizes, g_sheets, g_holds, g_heldNumber, g_heldSize, g_kind, g_number, g_ownHand, g_traced, g_bodies, g_isParted])), (h_row, .inl (cI, 68, .inl v_row)), (h_tried, .inl (cI, 68, .inl v_tried)), (h_growing, .inl (cI, 8, .inl v_growing))]
theorem nX5_viewedBy_X5 : ∀ w ∈ wsX50, w ∈ wsX5_viewedBy := by decide +kernel
theorem kX5_viewedBy_0 : Cond.fieldLink RX5 255 "PaintedWallsModel" "viewed" "I" ∈ wsX5_viewedBy := by decide +kernel
theorem kX5_viewedBy_1 : Cond.fieldLink RX5 19 "PaintedWallsModel" "tried" "[I" ∈ wsX5_viewedBy := by decide +kernel
theorem kX5_viewedBy_2 : Cond.fieldLink RX5 7 "PaintedWallsModel" "row" "[I" ∈ wsX5_viewedBy := by decide +kernel
set_option maxHeartbeats 4000000 in
set_option maxRecDepth 100000 in
theorem tX5_viewedBy {l : Launch} {D : va_G} {cB cI cJ cO : ClassId} (h0 h_row h_tried h_growing : Nat) (g_fresh g_kept g_isKept g_tape g_tapeMany g_sort g_begins g_tokenEnds g_word g_value g_good g_rows g_must g_rowMany g_sorts g_sizes g_sheets g_holds g_heldNumber g_heldSize g_kind g_number g_ownHand g_traced g_bodies g_isParted : Value) (v_viewed : Int32) (v_row : Nat → Int32) (v_tried : Nat → Int32) (v_growing : Nat → Int32) (x1 : Int32) (r : Int32 × Int32 × (Nat → Int32) × (Nat → Int32)) (hF : fX5_viewedBy v_viewed v_row v_tried v_growing x1 = some r) : Met l yX5_viewedBy wsX5_viewedBy rX5_viewedBy (zPre D cB cI cJ cO [.ref h0, .int x1] (wX5_viewedBy cB cI cJ cO h0 h_row h_tried h_growing g_fresh g_kept g_isKept g_tape g_tapeMany g_sort g_begins g_tokenEnds g_word g_value g_good g_rows g_must g_rowMany g_sorts g_sizes g_sheets g_holds g_heldNumber g_heldSize g_kind g_number g_ownHand g_traced g_bodies g_isParted v_viewed v_row v_tried v_growing)) (zPM (some (.int r.1)) D (wX5_viewedBy cB cI cJ cO h0 h_row h_tried h_growing g_fresh g_kept g_isKept g_tape g_tapeMany g_sort g_begins g_tokenEnds g_word g_value g_good g_rows g_must g_rowMany g_sorts g_sizes g_sheets g_holds g_heldNumber g_heldSize g_kind g_number g_ownHand g_traced g_bodies g_isParted r.2.1 r.2.2.1 v_tried r.2.2.2) (zAs [h0, h_row, h_tried, h_growing])) 0 0 (zAs [h0, h_row, h_tried, h_growing]) := by
  refine zMetM (cc := cX5_viewedBy) (maxL := 3) (ret := (some .int)) (lv := [(0, .ref h0), (1, .int x1)]) rfl (by decide) rfl (Nat.le_of_ble_eq_true rfl) rfl ?_
  intro p e s m args below meth c ls Q H locs hQ hx hb hr hml hown hts hlocks hname hP hE hD hS hl
  have hown : s.vm.findClass RX5 = some m.cls := hown
  have hK := hE.1
  unfold fX5_viewedBy at hF
  refine lv_aload_n (pc := 0) hx hb dX5_viewedBy_0 rfl (lv_at hl 0 rfl) ?_
  refine lv_iconst (pc := 1) (v := (nI 0)) hx hb dX5_viewedBy_1 (by decide) ?_
  refine va_put (D := D) (pc := 2) (ci := 5) (v := .int (nI 0)) (ty := .int) (C := RX5) (T := TX5) (N := 30) hx hb hts nX5_viewedBy_X5 tyX5 tyX5_ok nmX5 hown hK hP (zD_re hD rfl) hS 0 rfl rfl 5 (by decide) (hts _ kX5_viewedBy_0) (fun _ h9 => h9) rfl (tyX5_ok 5 (by decide)) rfl rfl (Nat.le_of_ble_eq_true rfl) dX5_viewedBy_2 (fun H locs hP _ hS => ?_)
  have hP : va_P D vwCl (wX5_viewedBy cB cI cJ cO h0 h_row h_tried h_growing g_fresh g_kept g_isKept g_tape g_tapeMany g_sort g_begins g_tokenEnds g_word g_value g_good g_rows g_must g_rowMany g_sorts g_sizes g_sheets g_holds g_heldNumber g_heldSize g_kind g_number g_ownHand g_traced g_bodies g_isParted (nI 0) v_row v_tried v_growing) H := hP
  refine lv_iconst (pc := 5) (v := (nI 0)) hx hb dX5_viewedBy_5 (by decide) ?_
  refine lv_istore_n (pc := 6) (lv' := [(2, .int (nI 0)), (0, .ref h0), (1, .int x1)]) hx hb dX5_viewedBy_6 rfl hl (by decide) rfl (fun ls hl => ?_)
  obtain ⟨k_8, hk_8, hF⟩ := z_J hF
  have kk_8 : ∀ (v_viewed_5 : Int32) (v_row_6 : Nat → Int32) (v_growing_7 : Nat → Int32) , k_8 v_viewed_5 v_row_6 v_growing_7 = some r → ∀ (H : Heap) (locs : List Loc), va_P D vwCl (wX5_viewedBy cB cI cJ cO h0 h_row h_tried h_growing g_fresh g_kept g_isKept g_tape g_tapeMany g_sort g_begins g_tokenEnds g_word g_value g_good g_rows g_must g_rowMany g_sorts g_sizes g_sheets g_holds g_heldNumber g_heldSize g_kind g_number g_ownHand g_traced g_bodies g_isParted v_viewed_5 v_row_6 v_tried v_growing_7) H → va_S (zAs [h0, h_row, h_tried, h_growing]) s.heap H locs → ∀ (ls : Array Slot), lv_has ls 3 [(0, .ref h0)] → W p l e rX5_viewedBy s m args below meth c H locs 0 0 Q (F0 m 22 ls []) := by
    intro v_viewed_5 v_row_6 v_growing_7 hF H locs hP hS ls hl
    rw [hk_8] at hF
    refine lv_aload_n (pc := 22) hx hb dX5_viewedBy_22 rfl (lv_at hl 0 rfl) ?_
    refine va_get (D := D) (pc := 23) (ci := 5) (v := .int v_viewed_5) (C := RX5) (T := TX5) (N := 30) hx hb hts nX5_viewedBy_X5 hown hK hP 0 rfl rfl 5 (by decide) (hts _ kX5_viewedBy_0) (fun _ h9 => h9) rfl dX5_viewedBy_23 ?_
    refine lv_istore_n (pc := 26) (lv' := [(2, .int v_viewed_5), (0, .ref h0)]) hx hb dX5_viewedBy_26 rfl hl (by decide) rfl (fun ls hl => ?_)
    refine lv_aload_n (pc := 27) hx hb dX5_viewedBy_27 rfl (lv_at hl 1 rfl) ?_
    refine lv_iconst (pc := 28) (v := (nI 0)) hx hb dX5_viewedBy_28 (by decide) ?_
    refine va_put (D := D) (pc := 29) (ci := 5) (v := .int (nI 0)) (ty := .int) (C := RX5) (T := TX5) (N := 30) hx hb hts nX5_viewedBy_X5 tyX5 tyX5_ok nmX5 hown hK hP (zD_re hD rfl) hS 0 rfl rfl 5 (by decide) (hts _ kX5_viewedBy_0) (fun _ h9 => h9) rfl (tyX5_ok 5 (by decide)) rfl rfl (Nat.le_of_ble_eq_true rfl) dX5_viewedBy_29 (fun H locs hP _ hS => ?_)
    have hP : va_P D vwCl (wX5_viewedBy cB cI cJ cO h0 h_row h_tried h_growing g_fresh g_kept g_isKept g_tape g_tapeMany g_sort g_begins g_tokenEnds g_word g_value g_good g_rows g_must g_rowMany g_sorts g_sizes g_sheets g_holds g_heldNumber g_heldSize g_kind g_number g_ownHand g_traced g_bodies g_isParted (nI 0) v_row_6 v_tried v_growing_7) H := hP
    refine lv_aload_n (pc := 32) hx hb dX5_viewedBy_32 rfl (lv_at hl 1 rfl) ?_
    refine va_get (D := D) (pc := 33) (ci := 5) (v := .ref h_tried) (C := RX5) (T := TX5) (N := 30) hx hb hts nX5_viewedBy_X5 hown hK hP 0 rfl rfl 3 (by decide) (hts _ kX5_viewedBy_1) (fun _ h9 => h9) rfl dX5_viewedBy_33 ?_
    refine lv_aload_n (pc := 36) hx hb dX5_viewedBy_36 rfl (lv_at hl 1 rfl) ?_
    refine va_get (D := D) (pc := 37) (ci := 5) (v := .ref h_row) (C := RX5) (T := TX5) (N := 30) hx hb hts nX5_viewedBy_X5 hown hK hP 0 rfl rfl 0 (by decide) (hts _ kX5_viewedBy_2) (fun _ h9 => h9) rfl dX5_viewedBy_37 ?_
    obtain ⟨u40, hu40, hF⟩ := z_bind hF
    refine zq_callM (oc0 := none) (wc := wX5_moveAll cB cI cJ cO h_tried h_row v_tried v_row_6) (wc' := wX5_moveAll cB cI cJ cO h_tried h_row v_tried u40) (ws' := (wX5_viewedBy cB cI cJ cO h0 h_row h_tried h_growing g_fresh g_kept g_isKept g_tape g_tapeMany g_sort g_begins g_tokenEnds g_word g_value g_good g_rows g_must g_rowMany g_sorts g_sizes g_sheets g_holds g_heldNumber g_heldSize g_kind g_number g_ownHand g_traced g_bodies g_isParted (nI 0) u40 v_tried v_growing_7)) (va_runS (As := [.ref h_tried, .ref h_row]) (rest := []) ⟨hx, hb, hml, hown, hts⟩ (tX5_moveAll (l := l) (D := D) (cB := cB) (cI := cI) (cJ := cJ) (cO := cO) h_tried h_row v_tried v_row_6 u40 hu40) (va_cwS 2 hts gX5_viewedBy_X5_moveAll rfl rfl rfl (by decide +kernel) ⟨Nat.le_of_ble_eq_true rfl, Nat.le_of_ble_eq_true rfl⟩) ⟨zPre_blind, zPre_at hP hE (zD_re hD rfl) [2, 1] rfl rfl⟩ rfl rfl hl.1 rfl (lv_room (Nat.le_of_ble_eq_true rfl)) dX5_viewedBy_40 ⟨Nat.zero_le _, Nat.zero_le _⟩) rfl hP (zD_re hD rfl) hS [2, 1] rfl rfl [none, some 1, some 0, none] rfl rfl rfl rfl (fun H locs hP hS => ?_)
    refine W.eq (g2 := F0 m 43 ls []) rfl ?_
    refine lv_iload_n (pc := 43) hx hb dX5_viewedBy_43 rfl (lv_at hl 0 rfl) ?_
    exact z_iretM (pc := 44) (fun q => q.1) (fun q => (wX5_viewedBy cB cI cJ cO h0 h_row h_tried h_growing g_fresh g_kept g_isKept g_tape g_tapeMany g_sort g_begins g_tokenEnds g_word g_value g_good g_rows g_must g_rowMany g_sorts g_sizes g_sheets g_holds g_heldNumber g_heldSize g_kind g_number g_ownHand g_traced g_bodies g_isParted q.2.1 q.2.2.1 v_tried q.2.2.2)) hx hb hr hlocks hP hS hF rfl hQ dX5_viewedBy_44
  have hL_7 : ∀ (n : Nat) (y2_1 : Int32) (v_viewed_2 : Int32) (v_row_3 : Nat → Int32) (v_growing_4 : Nat → Int32) , fX5_viewedBy_L7 x1 k_8 n y2_1 v_viewed_2 v_row_3 v_growing_4 = some r → ∀ (H : Heap) (locs : List Loc), va_P D vwCl (wX5_viewedBy cB cI cJ cO h0 h_row h_tried h_growing g_fresh g_kept g_isKept g_tape g_tapeMany g_sort g_begins g_tokenEnds g_word g_value g_good g_rows g_must g_rowMany g_sorts g_sizes g_sheets g_holds g_heldNumber g_heldSize g_kind g_number g_ownHand g_traced g_bodies g_isParted v_viewed_2 v_row_3 v_tried v_growing_4) H → va_S (zAs [h0, h_row, h_tried, h_growing]) s.heap H locs → ∀ (ls : Array Slot), lv_has ls 3 [(0, .ref h0), (1, .int x1), (2, .int y2_1)] → W p l e rX5_viewedBy s m args below meth c H locs 0 0 Q (F0 m 7 ls []) := by
    intro n
    induction n with
    | zero =>
      intro y2_1 v_viewed_2 v_row_3 v_growing_4 hF H locs hP hS ls hl
      exact z_no hF
    | succ n ih =>
      intro y2_1 v_viewed_2 v_row_3 v_growing_4 hF H locs hP hS ls hl
      rw [fX5_viewedBy_L7] at hF
      refine lv_iload_n (pc := 7) hx hb dX5_viewedBy_7 rfl (lv_at hl 2 rfl) ?_
      refine lv_iload_n (pc := 8) hx hb dX5_viewedBy_8 rfl (lv_at hl 1 rfl) ?_
      refine zb_icmp_ge (pc := 9) (tgt := 22) hx hb dX5_viewedBy_9 (by decide) hF (fun c_9 hF => ?_) (fun c_9 hF => ?_)
      · exact kk_8 v_viewed_2 v_row_3 v_growing_4 hF H locs hP hS ls (lv_sub hl [0] rfl)
      · refine lv_aload_n (pc := 12) hx hb dX5_viewedBy_12 rfl (lv_at hl 0 rfl) ?_
        obtain ⟨u13, hu13, hF⟩ := z_bind hF
        refine zq_callM (oc0 := none) (wc := wX5_nightGoes cB cI cJ cO h0 h_row h_growing g_fresh g_kept (.ref h_tried) g_isKept g_tape g_tapeMany g_sort g_begins g_tokenEnds g_word g_value g_good g_rows g_must g_rowMany g_sorts g_sizes g_sheets g_holds g_heldNumber g_heldSize g_kind g_number g_ownHand g_traced g_bodies g_isParted v_viewed_2 v_row_3 v_growing_4) (wc' := wX5_nightGoes cB cI cJ cO h0 h_row h_growing g_fresh g_kept (.ref h_tried) g_isKept g_tape g_tapeMany g_sort g_begins g_tokenEnds g_word g_value g_good g_rows g_must g_rowMany g_sorts g_sizes g_sheets g_holds g_heldNumber g_heldSize g_kind g_number g_ownHand g_traced g_bodies g_isParted u13.1 u13.2.1 u13.2.2) (ws' := (wX5_viewedBy cB cI cJ cO h0 h_row h_tried h_growing g_fresh g_kept g_isKept g_tape g_tapeMany g_sort g_begins g_tokenEnds g_word g_value g_good g_rows g_must g_rowMany g_sorts g_sizes g_sheets g_holds g_heldNumber g_heldSize g_kind g_number g_ownHand g_traced g_bodies g_isParted u13.1 u13.2.1 v_tried u13.2.2)) (va_runV (As := []) (rest := []) ⟨hx, hb, hml, hown, hts⟩ (tX5_nightGoes (l := l) (D := D) (cB := cB) (cI := cI) (cJ := cJ) (cO := cO) h0 h_row h_growing g_fresh g_kept (.ref h_tried) g_isKept g_tape g_tapeMany g_sort g_begins g_tokenEnds g_word g_value g_good g_rows g_must g_rowMany g_sorts g_sizes g_sheets g_holds g_heldNumber g_heldSize g_kind g_number g_ownHand g_traced g_bodies g_isParted v_viewed_2 v_row_3 v_growing_4 u13 hu13) (cwV 0 hts gX5_viewedBy_X5_nightGoes rfl rfl rfl (by decide +kernel) ⟨Nat.le_of_ble_eq_true rfl, Nat.le_of_ble_eq_true rfl⟩) ⟨zPre_blind, va_recv hK hP (ci := 5) (q0 := 0) rfl rfl, zPre_at hP hE (zD_re hD rfl) [0, 1, 3] rfl rfl⟩ rfl rfl hl.1 rfl (lv_room (Nat.le_of_ble_eq_true rfl)) dX5_viewedBy_13 ⟨Nat.zero_le _, Nat.zero_le _⟩) rfl hP (zD_re hD rfl) hS [0, 1, 3] rfl rfl [some 0, some 1, none, some 2] rfl rfl rfl rfl (fun H locs hP hS => ?_)
        refine W.eq (g2 := F0 m 16 ls []) rfl ?_
        refine lv_iinc (pc := 16) (v := (y2_1 + 1)) (lv' := [(2, .int (y2_1 + 1)), (0, .ref h0), (1, .int x1)]) hx hb dX5_viewedBy_16 hl (k := 2) rfl rfl (by decide) rfl (fun ls hl => ?_)
        refine lv_goto (pc := 19) (tgt := 7) hx hb dX5_viewedBy_19 (by decide) ?_
        exact ih (y2_1 + 1) u13.1 u13.2.1 u13.2.2 hF H locs hP hS ls (lv_sub hl [1, 2, 0] rfl)
  exact hL_7 zK (nI 0) (nI 0) v_row v_growing hF H locs hP hS ls (lv_sub hl [1, 2, 0] rfl)

abbrev rX5_shy : Room := { frames := 8, cells := 0, slots := 0, locals := 178 }
abbrev wX5_shy (cB cI cJ cO : ClassId) (h0 h_row h_tried h_growing : Nat) (g_fresh g_kept g_isKept g_tape g_tapeMany g_sort g_begins g_tokenEnds g_word g_value g_good g_rows g_must g_rowMany g_sorts g_sizes g_sheets g_holds g_heldNumber g_heldSize g_kind g_number g_ownHand g_traced g_bodies g_isParted : Value) (v_viewed : Int32) (v_row : Nat → Int32) (v_tried : Nat → Int32) (v_growing : Nat → Int32) : va_W := [(h0, .inr (5, [.ref h_row, g_fresh, g_kept, .ref h_tried, g_isKept, .int v_viewed, g_tape, g_tapeMany, g_sort, g_begins, g_tokenEnds, g_word, g_value, g_good, .ref h_growing, g_rows, g_must, g_rowMany, g_sorts, g_sizes, g_sheets, g_holds, g_heldNumber, g_heldSize, g_kind, g_number, g_ownHand, g_traced, g_bodies, g_isParted])), (h_row, .inl (cI, 68, .inl v_row)), (h_tried, .inl (cI, 68, .inl v_tried)), (h_growing, .inl (cI, 8, .inl v_growing))]
theorem nX5_shy_X5 : ∀ w ∈ wsX50, w ∈ wsX5_shy := by decide +kernel
theorem kX5_shy_0 : Cond.fieldLink RX5 7 "PaintedWallsModel" "row" "[I" ∈ wsX5_shy := by decide +kernel
theorem kX5_shy_1 : Cond.fieldLink RX5 19 "PaintedWallsModel" "tried" "[I" ∈ wsX5_shy := by decide +kernel
theorem kX5_shy_2 : Cond.fieldLink RX5 255 "PaintedWallsModel" "viewed" "I" ∈ wsX5_shy := by decide +kernel
set_option maxHeartbeats 4000000 in
set_option maxRecDepth 100000 in
theorem tX5_shy {l : Launch} {D : va_G} {cB cI cJ cO : ClassId} (h0 h_row h_tried h_growing : Nat) (g_fresh g_kept g_isKept g_tape g_tapeMany g_sort g_begins g_tokenEnds g_word g_value g_good g_rows g_must g_rowMany g_sorts g_sizes g_sheets g_holds g_heldNumber g_heldSize g_kind g_number g_ownHand g_traced g_bodies g_isParted : Value) (v_viewed : Int32) (v_row : Nat → Int32) (v_tried : Nat → Int32) (v_growing : Nat → Int32) (x1 : Int32) (r : Int32 × Int32 × (Nat → Int32) × (Nat → Int32) × (Nat → Int32)) (hF : fX5_shy v_viewed v_row v_tried v_growing x1 = some r) : Met l yX5_shy wsX5_shy rX5_shy (zPre D cB cI cJ cO [.ref h0, .int x1] (wX5_shy cB cI cJ cO h0 h_row h_tried h_growing g_fresh g_kept g_isKept g_tape g_tapeMany g_sort g_begins g_tokenEnds g_word g_value g_good g_rows g_must g_rowMany g_sorts g_sizes g_sheets g_holds g_heldNumber g_heldSize g_kind g_number g_ownHand g_traced g_bodies g_isParted v_viewed v_row v_tried v_growing)) (zPM (some (.int r.1)) D (wX5_shy cB cI cJ cO h0 h_row h_tried h_growing g_fresh g_kept g_isKept g_tape g_tapeMany g_sort g_begins g_tokenEnds g_word g_value g_good g_rows g_must g_rowMany g_sorts g_sizes g_sheets g_holds g_heldNumber g_heldSize g_kind g_number g_ownHand g_traced g_bodies g_isParted r.2.1 r.2.2.1 r.2.2.2.1 r.2.2.2.2) (zAs [h0, h_row, h_tried, h_growing])) 0 0 (zAs [h0, h_row, h_tried, h_growing]) := by
  refine zMetM (cc := cX5_shy) (maxL := 6) (ret := (some .int)) (lv := [(0, .ref h0), (1, .int x1)]) rfl (by decide) rfl (Nat.le_of_ble_eq_true rfl) rfl ?_
  intro p e s m args below meth c ls Q H locs hQ hx hb hr hml hown hts hlocks hname hP hE hD hS hl
  have hown : s.vm.findClass RX5 = some m.cls := hown
  have hK := hE.1
  unfold fX5_shy at hF
  refine lv_iload_n (pc := 0) hx hb dX5_shy_0 rfl (lv_at hl 1 rfl) ?_
  refine lv_iconst (pc := 1) (v := (nI 1)) hx hb dX5_shy_1 (by decide) ?_
  refine lv_bipush (pc := 2) (v := (nI 30)) hx hb dX5_shy_2 (by decide) ?_
  obtain ⟨u4, hu4, hF⟩ := z_bind hF
  refine zq_call (oc0 := (some (.int u4))) (va_runS (As := [.int x1, .int (nI 1), .int (nI 30)]) (rest := []) ⟨hx, hb, hml, hown, hts⟩ (tX5_in (l := l) (D := D) (cB := cB) (cI := cI) (cJ := cJ) (cO := cO) x1 (nI 1) (nI 30) u4 hu4) (va_cwS 3 hts gX5_shy_X5_in rfl rfl rfl (by decide +kernel) ⟨Nat.le_of_ble_eq_true rfl, Nat.le_of_ble_eq_true rfl⟩) ⟨zPre_blind, zPre_at hP hE (zD_re hD rfl) [] rfl rfl⟩ rfl rfl hl.1 rfl (lv_room (Nat.le_of_ble_eq_true rfl)) dX5_shy_4 ⟨Nat.zero_le _, Nat.zero_le _⟩) ?_
  refine W.eq (g2 := F0 m 7 ls [.int u4]) rfl ?_
  refine zb_if_ne (pc := 7) (tgt := 12) hx hb dX5_shy_7 (by decide) hF (fun c_7 hF => ?_) (fun c_7 hF => ?_)
  · refine lv_aload_n (pc := 12) hx hb dX5_shy_12 rfl (lv_at hl 0 rfl) ?_
    refine va_get (D := D) (pc := 13) (ci := 5) (v := .ref h_row) (C := RX5) (T := TX5) (N := 30) hx hb hts nX5_shy_X5 hown hK hP 0 rfl rfl 0 (by decide) (hts _ kX5_shy_0) (fun _ h9 => h9) rfl dX5_shy_13 ?_
    refine lv_aload_n (pc := 16) hx hb dX5_shy_16 rfl (lv_at hl 0 rfl) ?_
    refine va_get (D := D) (pc := 17) (ci := 5) (v := .ref h_tried) (C := RX5) (T := TX5) (N := 30) hx hb hts nX5_shy_X5 hown hK hP 0 rfl rfl 3 (by decide) (hts _ kX5_shy_1) (fun _ h9 => h9) rfl dX5_shy_17 ?_
    obtain ⟨u20, hu20, hF⟩ := z_bind hF
    refine zq_callM (oc0 := none) (wc := wX5_moveAll cB cI cJ cO h_row h_tried v_row v_tried) (wc' := wX5_moveAll cB cI cJ cO h_row h_tried v_row u20) (ws' := (wX5_shy cB cI cJ cO h0 h_row h_tried h_growing g_fresh g_kept g_isKept g_tape g_tapeMany g_sort g_begins g_tokenEnds g_word g_value g_good g_rows g_must g_rowMany g_sorts g_sizes g_sheets g_holds g_heldNumber g_heldSize g_kind g_number g_ownHand g_traced g_bodies g_isParted v_viewed v_row u20 v_growing)) (va_runS (As := [.ref h_row, .ref h_tried]) (rest := []) ⟨hx, hb, hml, hown, hts⟩ (tX5_moveAll (l := l) (D := D) (cB := cB) (cI := cI) (cJ := cJ) (cO := cO) h_row h_tried v_row v_tried u20 hu20) (va_cwS 2 hts gX5_shy_X5_moveAll rfl rfl rfl (by decide +kernel) ⟨Nat.le_of_ble_eq_true rfl, Nat.le_of_ble_eq_true rfl⟩) ⟨zPre_blind, zPre_at hP hE (zD_re hD rfl) [1, 2] rfl rfl⟩ rfl rfl hl.1 rfl (lv_room (Nat.le_of_ble_eq_true rfl)) dX5_shy_20 ⟨Nat.zero_le _, Nat.zero_le _⟩) rfl hP (zD_re hD rfl) hS [1, 2] rfl rfl [none, some 0, some 1, none] rfl rfl rfl rfl (fun H locs hP hS => ?_)
    refine W.eq (g2 := F0 m 23 ls []) rfl ?_
    refine lv_aload_n (pc := 23) hx hb dX5_shy_23 rfl (lv_at hl 0 rfl) ?_
    refine lv_iconst (pc := 24) (v := (nI 1)) hx hb dX5_shy_24 (by decide) ?_
    obtain ⟨u25, hu25, hF⟩ := z_bind hF
    refine zq_callM (oc0 := (some (.int u25.1))) (wc := wX5_viewedBy cB cI cJ cO h0 h_row h_tried h_growing g_fresh g_kept g_isKept g_tape g_tapeMany g_sort g_begins g_tokenEnds g_word g_value g_good g_rows g_must g_rowMany g_sorts g_sizes g_sheets g_holds g_heldNumber g_heldSize g_kind g_number g_ownHand g_traced g_bodies g_isParted v_viewed v_row u20 v_growing) (wc' := wX5_viewedBy cB cI cJ cO h0 h_row h_tried h_growing g_fresh g_kept g_isKept g_tape g_tapeMany g_sort g_begins g_tokenEnds g_word g_value g_good g_rows g_must g_rowMany g_sorts g_sizes g_sheets g_holds g_heldNumber g_heldSize g_kind g_number g_ownHand g_traced g_bodies g_isParted u25.2.1 u25.2.2.1 u20 u25.2.2.2) (ws' := (wX5_shy cB cI cJ cO h0 h_row h_tried h_growing g_fresh g_kept g_isKept g_tape g_tapeMany g_sort g_begins g_tokenEnds g_word g_value g_good g_rows g_must g_rowMany g_sorts g_sizes g_sheets g_holds g_heldNumber g_heldSize g_kind g_number g_ownHand g_traced g_bodies g_isParted u25.2.1 u25.2.2.1 u20 u25.2.2.2)) (va_runV (As := [.int (nI 1)]) (rest := []) ⟨hx, hb, hml, hown, hts⟩ (tX5_viewedBy (l := l) (D := D) (cB := cB) (cI := cI) (cJ := cJ) (cO := cO) h0 h_row h_tried h_growing g_fresh g_kept g_isKept g_tape g_tapeMany g_sort g_begins g_tokenEnds g_word g_value g_good g_rows g_must g_rowMany g_sorts g_sizes g_sheets g_holds g_heldNumber g_heldSize g_kind g_number g_ownHand g_traced g_bodies g_isParted v_viewed v_row u20 v_growing (nI 1) u25 hu25) (cwV 1 hts gX5_shy_X5_viewedBy rfl rfl rfl (by decide +kernel) ⟨Nat.le_of_ble_eq_true rfl, Nat.le_of_ble_eq_true rfl⟩) ⟨zPre_blind, va_recv hK hP (ci := 5) (q0 := 0) rfl rfl, zPre_at hP hE (zD_re hD rfl) [0, 1, 2, 3] rfl rfl⟩ rfl rfl hl.1 rfl (lv_room (Nat.le_of_ble_eq_true rfl)) dX5_shy_25 ⟨Nat.zero_le _, Nat.zero_le _⟩) rfl hP (zD_re hD rfl) hS [0, 1, 2, 3] rfl rfl [some 0, some 1, some 2, some 3] rfl rfl rfl rfl (fun H locs hP hS => ?_)
    refine W.eq (g2 := F0 m 28 ls [.int u25.1]) rfl ?_
    refine lv_istore_n (pc := 28) (lv' := [(2, .int u25.1), (0, .ref h0), (1, .int x1)]) hx hb dX5_shy_28 rfl hl (by decide) rfl (fun ls hl => ?_)
    refine lv_aload_n (pc := 29) hx hb dX5_shy_29 rfl (lv_at hl 1 rfl) ?_
    refine va_get (D := D) (pc := 30) (ci := 5) (v := .ref h_row) (C := RX5) (T := TX5) (N := 30) hx hb hts nX5_shy_X5 hown hK hP 0 rfl rfl 0 (by decide) (hts _ kX5_shy_0) (fun _ h9 => h9) rfl dX5_shy_30 ?_
    refine lv_bipush (pc := 33) (v := (nI 7)) hx hb dX5_shy_33 (by decide) ?_
    refine za_ialdK (pc := 35) (k := 7) hx hb hK hP 1 1 rfl rfl (by decide) (by decide) dX5_shy_35 ?_
    refine lv_istore_n (pc := 36) (lv' := [(3, .int (u25.2.2.1 7)), (2, .int u25.1), (0, .ref h0), (1, .int x1)]) hx hb dX5_shy_36 rfl hl (by decide) rfl (fun ls hl => ?_)
    refine lv_iconst (pc := 37) (v := (nI 0)) hx hb dX5_shy_37 (by decide) ?_
    refine lv_istore (pc := 38) (lv' := [(4, .int (nI 0)), (3, .int (u25.2.2.1 7)), (2, .int u25.1), (0, .ref h0), (1, .int x1)]) hx hb dX5_shy_38 hl (by decide) rfl (fun ls hl => ?_)
    refine lv_iconst (pc := 40) (v := (nI 0)) hx hb dX5_shy_40 (by decide) ?_
    refine lv_istore (pc := 41) (lv' := [(5, .int (nI 0)), (4, .int (nI 0)), (3, .int (u25.2.2.1 7)), (2, .int u25.1), (0, .ref h0), (1, .int x1)]) hx hb dX5_shy_41 hl (by decide) rfl (fun ls hl => ?_)
    obtain ⟨k_11, hk_11, hF⟩ := z_J hF
    have kk_11 : ∀ (y4_7 : Int32) (v_viewed_8 : Int32) (v_row_9 : Nat → Int32) (v_growing_10 : Nat → Int32) , k_11 y4_7 v_viewed_8 v_row_9 v_growing_10 = some r → ∀ (H : Heap) (locs : List Loc), va_P D vwCl (wX5_shy cB cI cJ cO h0 h_row h_tried h_growing g_fresh g_kept g_isKept g_tape g_tapeMany g_sort g_begins g_tokenEnds g_word g_value g_good g_rows g_must g_rowMany g_sorts g_sizes g_sheets g_holds g_heldNumber g_heldSize g_kind g_number g_ownHand g_traced g_bodies g_isParted v_viewed_8 v_row_9 u20 v_growing_10) H → va_S (zAs [h0, h_row, h_tried, h_growing]) s.heap H locs → ∀ (ls : Array Slot), lv_has ls 6 [(0, .ref h0), (4, .int y4_7)] → W p l e rX5_shy s m args below meth c H locs 0 0 Q (F0 m 109 ls []) := by
      intro y4_7 v_viewed_8 v_row_9 v_growing_10 hF H locs hP hS ls hl
      rw [hk_11] at hF
      refine lv_aload_n (pc := 109) hx hb dX5_shy_109 rfl (lv_at hl 0 rfl) ?_
      refine lv_iconst (pc := 110) (v := (nI 0)) hx hb dX5_shy_110 (by decide) ?_
      refine va_put (D := D) (pc := 111) (ci := 5) (v := .int (nI 0)) (ty := .int) (C := RX5) (T := TX5) (N := 30) hx hb hts nX5_shy_X5 tyX5 tyX5_ok nmX5 hown hK hP (zD_re hD rfl) hS 0 rfl rfl 5 (by decide) (hts _ kX5_shy_2) (fun _ h9 => h9) rfl (tyX5_ok 5 (by decide)) rfl rfl (Nat.le_of_ble_eq_true rfl) dX5_shy_111 (fun H locs hP _ hS => ?_)
      have hP : va_P D vwCl (wX5_shy cB cI cJ cO h0 h_row h_tried h_growing g_fresh g_kept g_isKept g_tape g_tapeMany g_sort g_begins g_tokenEnds g_word g_value g_good g_rows g_must g_rowMany g_sorts g_sizes g_sheets g_holds g_heldNumber g_heldSize g_kind g_number g_ownHand g_traced g_bodies g_isParted (nI 0) v_row_9 u20 v_growing_10) H := hP
      refine lv_iload (pc := 114) hx hb dX5_shy_114 (lv_at hl 1 rfl) ?_
      exact z_iretM (pc := 116) (fun q => q.1) (fun q => (wX5_shy cB cI cJ cO h0 h_row h_tried h_growing g_fresh g_kept g_isKept g_tape g_tapeMany g_sort g_begins g_tokenEnds g_word g_value g_good g_rows g_must g_rowMany g_sorts g_sizes g_sheets g_holds g_heldNumber g_heldSize g_kind g_number g_ownHand g_traced g_bodies g_isParted q.2.1 q.2.2.1 q.2.2.2.1 q.2.2.2.2)) hx hb hr hlocks hP hS hF rfl hQ dX5_shy_116
    have hL_43 : ∀ (n : Nat) (y3_1 : Int32) (y4_2 : Int32) (y5_3 : Int32) (v_viewed_4 : Int32) (v_row_5 : Nat → Int32) (v_growing_6 : Nat → Int32) , fX5_shy_L43 x1 u20 u25 k_11 n y3_1 y4_2 y5_3 v_viewed_4 v_row_5 v_growing_6 = some r → ∀ (H : Heap) (locs : List Loc), va_P D vwCl (wX5_shy cB cI cJ cO h0 h_row h_tried h_growing g_fresh g_kept g_isKept g_tape g_tapeMany g_sort g_begins g_tokenEnds g_word g_value g_good g_rows g_must g_rowMany g_sorts g_sizes g_sheets g_holds g_heldNumber g_heldSize g_kind g_number g_ownHand g_traced g_bodies g_isParted v_viewed_4 v_row_5 u20 v_growing_6) H → va_S (zAs [h0, h_row, h_tried, h_growing]) s.heap H locs → ∀ (ls : Array Slot), lv_has ls 6 [(0, .ref h0), (1, .int x1), (2, .int u25.1), (3, .int y3_1), (4, .int y4_2), (5, .int y5_3)] → W p l e rX5_shy s m args below meth c H locs 0 0 Q (F0 m 43 ls []) := by
      intro n
      induction n with
      | zero =>
        intro y3_1 y4_2 y5_3 v_viewed_4 v_row_5 v_growing_6 hF H locs hP hS ls hl
        exact z_no hF
      | succ n ih =>
        intro y3_1 y4_2 y5_3 v_viewed_4 v_row_5 v_growing_6 hF H locs hP hS ls hl
        rw [fX5_shy_L43] at hF
        refine lv_iload (pc := 43) hx hb dX5_shy_43 (lv_at hl 5 rfl) ?_
        refine lv_iload_n (pc := 45) hx hb dX5_shy_45 rfl (lv_at hl 1 rfl) ?_
        refine zb_icmp_ge (pc := 46) (tgt := 109) hx hb dX5_shy_46 (by decide) hF (fun c_46 hF => ?_) (fun c_46 hF => ?_)
        · exact kk_11 y4_2 v_viewed_4 v_row_5 v_growing_6 hF H locs hP hS ls (lv_sub hl [0, 4] rfl)
        · refine lv_aload_n (pc := 49) hx hb dX5_shy_49 rfl (lv_at hl 0 rfl) ?_
          refine va_get (D := D) (pc := 50) (ci := 5) (v := .ref h_row) (C := RX5) (T := TX5) (N := 30) hx hb hts nX5_shy_X5 hown hK hP 0 rfl rfl 0 (by decide) (hts _ kX5_shy_0) (fun _ h9 => h9) rfl dX5_shy_50 ?_
          refine lv_bipush (pc := 53) (v := (nI 7)) hx hb dX5_shy_53 (by decide) ?_
          refine lv_iload_n (pc := 55) hx hb dX5_shy_55 rfl (lv_at hl 3 rfl) ?_
          refine za_iastK (pc := 56) (k := 7) hx hb hK hP (zD_re hD rfl) hS 1 1 rfl rfl (by decide) (by decide) dX5_shy_56 (fun H locs hP hS => ?_)
          have hP : va_P D vwCl (wX5_shy cB cI cJ cO h0 h_row h_tried h_growing g_fresh g_kept g_isKept g_tape g_tapeMany g_sort g_begins g_tokenEnds g_word g_value g_good g_rows g_must g_rowMany g_sorts g_sizes g_sheets g_holds g_heldNumber g_heldSize g_kind g_number g_ownHand g_traced g_bodies g_isParted v_viewed_4 (upd v_row_5 7 y3_1) u20 v_growing_6) H := hP
          refine lv_aload_n (pc := 57) hx hb dX5_shy_57 rfl (lv_at hl 0 rfl) ?_
          refine lv_iconst (pc := 58) (v := (nI 0)) hx hb dX5_shy_58 (by decide) ?_
          refine va_put (D := D) (pc := 59) (ci := 5) (v := .int (nI 0)) (ty := .int) (C := RX5) (T := TX5) (N := 30) hx hb hts nX5_shy_X5 tyX5 tyX5_ok nmX5 hown hK hP (zD_re hD rfl) hS 0 rfl rfl 5 (by decide) (hts _ kX5_shy_2) (fun _ h9 => h9) rfl (tyX5_ok 5 (by decide)) rfl rfl (Nat.le_of_ble_eq_true rfl) dX5_shy_59 (fun H locs hP _ hS => ?_)
          have hP : va_P D vwCl (wX5_shy cB cI cJ cO h0 h_row h_tried h_growing g_fresh g_kept g_isKept g_tape g_tapeMany g_sort g_begins g_tokenEnds g_word g_value g_good g_rows g_must g_rowMany g_sorts g_sizes g_sheets g_holds g_heldNumber g_heldSize g_kind g_number g_ownHand g_traced g_bodies g_isParted (nI 0) (upd v_row_5 7 y3_1) u20 v_growing_6) H := hP
          refine lv_aload_n (pc := 62) hx hb dX5_shy_62 rfl (lv_at hl 0 rfl) ?_
          obtain ⟨u63, hu63, hF⟩ := z_bind hF
          refine zq_callM (oc0 := none) (wc := wX5_nightByDraws cB cI cJ cO h0 h_row h_growing g_fresh g_kept (.ref h_tried) g_isKept g_tape g_tapeMany g_sort g_begins g_tokenEnds g_word g_value g_good g_rows g_must g_rowMany g_sorts g_sizes g_sheets g_holds g_heldNumber g_heldSize g_kind g_number g_ownHand g_traced g_bodies g_isParted (nI 0) (upd v_row_5 7 y3_1) v_growing_6) (wc' := wX5_nightByDraws cB cI cJ cO h0 h_row h_growing g_fresh g_kept (.ref h_tried) g_isKept g_tape g_tapeMany g_sort g_begins g_tokenEnds g_word g_value g_good g_rows g_must g_rowMany g_sorts g_sizes g_sheets g_holds g_heldNumber g_heldSize g_kind g_number g_ownHand g_traced g_bodies g_isParted u63.1 u63.2.1 u63.2.2) (ws' := (wX5_shy cB cI cJ cO h0 h_row h_tried h_growing g_fresh g_kept g_isKept g_tape g_tapeMany g_sort g_begins g_tokenEnds g_word g_value g_good g_rows g_must g_rowMany g_sorts g_sizes g_sheets g_holds g_heldNumber g_heldSize g_kind g_number g_ownHand g_traced g_bodies g_isParted u63.1 u63.2.1 u20 u63.2.2)) (va_runV (As := []) (rest := []) ⟨hx, hb, hml, hown, hts⟩ (tX5_nightByDraws (l := l) (D := D) (cB := cB) (cI := cI) (cJ := cJ) (cO := cO) h0 h_row h_growing g_fresh g_kept (.ref h_tried) g_isKept g_tape g_tapeMany g_sort g_begins g_tokenEnds g_word g_value g_good g_rows g_must g_rowMany g_sorts g_sizes g_sheets g_holds g_heldNumber g_heldSize g_kind g_number g_ownHand g_traced g_bodies g_isParted (nI 0) (upd v_row_5 7 y3_1) v_growing_6 u63 hu63) (cwV 0 hts gX5_shy_X5_nightByDraws rfl rfl rfl (by decide +kernel) ⟨Nat.le_of_ble_eq_true rfl, Nat.le_of_ble_eq_true rfl⟩) ⟨zPre_blind, va_recv hK hP (ci := 5) (q0 := 0) rfl rfl, zPre_at hP hE (zD_re hD rfl) [0, 1, 3] rfl rfl⟩ rfl rfl hl.1 rfl (lv_room (Nat.le_of_ble_eq_true rfl)) dX5_shy_63 ⟨Nat.zero_le _, Nat.zero_le _⟩) rfl hP (zD_re hD rfl) hS [0, 1, 3] rfl rfl [some 0, some 1, none, some 2] rfl rfl rfl rfl (fun H locs hP hS => ?_)
          refine W.eq (g2 := F0 m 66 ls []) rfl ?_
          refine lv_iload (pc := 66) hx hb dX5_shy_66 (lv_at hl 4 rfl) ?_
          refine lv_aload_n (pc := 68) hx hb dX5_shy_68 rfl (lv_at hl 0 rfl) ?_
          refine va_get (D := D) (pc := 69) (ci := 5) (v := .int u63.1) (C := RX5) (T := TX5) (N := 30) hx hb hts nX5_shy_X5 hown hK hP 0 rfl rfl 5 (by decide) (hts _ kX5_shy_2) (fun _ h9 => h9) rfl dX5_shy_69 ?_
          refine lv_iload_n (pc := 72) hx hb dX5_shy_72 rfl (lv_at hl 2 rfl) ?_
          obtain ⟨J_13, hJ_13, hF⟩ := z_J hF
          have kJ_13 : ∀ (t1_12 : Int32) , J_13 t1_12 = some r → ∀ (H : Heap) (locs : List Loc), va_P D vwCl (wX5_shy cB cI cJ cO h0 h_row h_tried h_growing g_fresh g_kept g_isKept g_tape g_tapeMany g_sort g_begins g_tokenEnds g_word g_value g_good g_rows g_must g_rowMany g_sorts g_sizes g_sheets g_holds g_heldNumber g_heldSize g_kind g_number g_ownHand g_traced g_bodies g_isParted u63.1 u63.2.1 u20 u63.2.2) H → va_S (zAs [h0, h_row, h_tried, h_growing]) s.heap H locs → ∀ (ls : Array Slot), lv_has ls 6 [(0, .ref h0), (1, .int x1), (2, .int u25.1), (5, .int y5_3)] → W p l e rX5_shy s m args below meth c H locs 0 0 Q (F0 m 81 ls [.int t1_12, .int y4_2]) := by
            intro t1_12 hF H locs hP hS ls hl
            rw [hJ_13] at hF
            refine lv_iadd (pc := 81) hx hb dX5_shy_81 ?_
            refine lv_istore (pc := 82) (lv' := [(4, .int (y4_2 + t1_12)), (0, .ref h0), (1, .int x1), (2, .int u25.1), (5, .int y5_3)]) hx hb dX5_shy_82 hl (by decide) rfl (fun ls hl => ?_)
            refine lv_aload_n (pc := 84) hx hb dX5_shy_84 rfl (lv_at hl 1 rfl) ?_
            refine va_get (D := D) (pc := 85) (ci := 5) (v := .ref h_row) (C := RX5) (T := TX5) (N := 30) hx hb hts nX5_shy_X5 hown hK hP 0 rfl rfl 0 (by decide) (hts _ kX5_shy_0) (fun _ h9 => h9) rfl dX5_shy_85 ?_
            refine lv_bipush (pc := 88) (v := (nI 7)) hx hb dX5_shy_88 (by decide) ?_
            refine za_ialdK (pc := 90) (k := 7) hx hb hK hP 1 1 rfl rfl (by decide) (by decide) dX5_shy_90 ?_
            refine lv_istore_n (pc := 91) (lv' := [(3, .int (u63.2.1 7)), (4, .int (y4_2 + t1_12)), (0, .ref h0), (1, .int x1), (2, .int u25.1), (5, .int y5_3)]) hx hb dX5_shy_91 rfl hl (by decide) rfl (fun ls hl => ?_)
            refine lv_aload_n (pc := 92) hx hb dX5_shy_92 rfl (lv_at hl 2 rfl) ?_
            refine va_get (D := D) (pc := 93) (ci := 5) (v := .ref h_tried) (C := RX5) (T := TX5) (N := 30) hx hb hts nX5_shy_X5 hown hK hP 0 rfl rfl 3 (by decide) (hts _ kX5_shy_1) (fun _ h9 => h9) rfl dX5_shy_93 ?_
            refine lv_aload_n (pc := 96) hx hb dX5_shy_96 rfl (lv_at hl 2 rfl) ?_
            refine va_get (D := D) (pc := 97) (ci := 5) (v := .ref h_row) (C := RX5) (T := TX5) (N := 30) hx hb hts nX5_shy_X5 hown hK hP 0 rfl rfl 0 (by decide) (hts _ kX5_shy_0) (fun _ h9 => h9) rfl dX5_shy_97 ?_
            obtain ⟨u100, hu100, hF⟩ := z_bind hF
            refine zq_callM (oc0 := none) (wc := wX5_moveAll cB cI cJ cO h_tried h_row u20 u63.2.1) (wc' := wX5_moveAll cB cI cJ cO h_tried h_row u20 u100) (ws' := (wX5_shy cB cI cJ cO h0 h_row h_tried h_growing g_fresh g_kept g_isKept g_tape g_tapeMany g_sort g_begins g_tokenEnds g_word g_value g_good g_rows g_must g_rowMany g_sorts g_sizes g_sheets g_holds g_heldNumber g_heldSize g_kind g_number g_ownHand g_traced g_bodies g_isParted u63.1 u100 u20 u63.2.2)) (va_runS (As := [.ref h_tried, .ref h_row]) (rest := []) ⟨hx, hb, hml, hown, hts⟩ (tX5_moveAll (l := l) (D := D) (cB := cB) (cI := cI) (cJ := cJ) (cO := cO) h_tried h_row u20 u63.2.1 u100 hu100) (va_cwS 2 hts gX5_shy_X5_moveAll rfl rfl rfl (by decide +kernel) ⟨Nat.le_of_ble_eq_true rfl, Nat.le_of_ble_eq_true rfl⟩) ⟨zPre_blind, zPre_at hP hE (zD_re hD rfl) [2, 1] rfl rfl⟩ rfl rfl hl.1 rfl (lv_room (Nat.le_of_ble_eq_true rfl)) dX5_shy_100 ⟨Nat.zero_le _, Nat.zero_le _⟩) rfl hP (zD_re hD rfl) hS [2, 1] rfl rfl [none, some 1, some 0, none] rfl rfl rfl rfl (fun H locs hP hS => ?_)
            refine W.eq (g2 := F0 m 103 ls []) rfl ?_
            refine lv_iinc (pc := 103) (v := (y5_3 + 1)) (lv' := [(5, .int (y5_3 + 1)), (3, .int (u63.2.1 7)), (4, .int (y4_2 + t1_12)), (0, .ref h0), (1, .int x1), (2, .int u25.1)]) hx hb dX5_shy_103 hl (k := 5) rfl rfl (by decide) rfl (fun ls hl => ?_)
            refine lv_goto (pc := 106) (tgt := 43) hx hb dX5_shy_106 (by decide) ?_
            exact ih (u63.2.1 7) (y4_2 + t1_12) (y5_3 + 1) u63.1 u100 u63.2.2 hF H locs hP hS ls (lv_sub hl [3, 4, 5, 1, 2, 0] rfl)
          refine zb_icmp_ge (pc := 73) (tgt := 80) hx hb dX5_shy_73 (by decide) hF (fun c_73 hF => ?_) (fun c_73 hF => ?_)
          · refine lv_iconst (pc := 80) (v := (nI 0)) hx hb dX5_shy_80 (by decide) ?_
            exact kJ_13 (nI 0) hF H locs hP hS ls (lv_sub hl [0, 1, 2, 5] rfl)
          · refine lv_iconst (pc := 76) (v := (nI 1)) hx hb dX5_shy_76 (by decide) ?_
            refine lv_goto (pc := 77) (tgt := 81) hx hb dX5_shy_77 (by decide) ?_
            exact kJ_13 (nI 1) hF H locs hP hS ls (lv_sub hl [0, 1, 2, 5] rfl)
    exact hL_43 zK (u25.2.2.1 7) (nI 0) (nI 0) u25.2.1 u25.2.2.1 u25.2.2.2 hF H locs hP hS ls (lv_sub hl [4, 5, 3, 2, 1, 0] rfl)
  · refine lv_iconst (pc := 10) (v := (-1 : Int32)) hx hb dX5_shy_10 (by decide) ?_
    exact z_iretM (pc := 11) (fun q => q.1) (fun q => (wX5_shy cB cI cJ cO h0 h_row h_tried h_growing g_fresh g_kept g_isKept g_tape g_tapeMany g_sort g_begins g_tokenEnds g_word g_value g_good g_rows g_must g_rowMany g_sorts g_sizes g_sheets g_holds g_heldNumber g_heldSize g_kind g_number g_ownHand g_traced g_bodies g_isParted q.2.1 q.2.2.1 q.2.2.2.1 q.2.2.2.2)) hx hb hr hlocks hP hS hF rfl hQ dX5_shy_11

abbrev rX5_goneSet : Room := { frames := 2, cells := 0, slots := 0, locals := 45 }
abbrev wX5_goneSet (cB cI cJ cO : ClassId) (h0 h_row : Nat) (g_fresh g_kept g_tried g_isKept g_viewed g_tape g_tapeMany g_sort g_begins g_tokenEnds g_word g_value g_good g_growing g_rows g_must g_rowMany g_sorts g_sizes g_sheets g_holds g_heldNumber g_heldSize g_kind g_number g_ownHand g_traced g_bodies g_isParted : Value) (v_row : Nat → Int32) : va_W := [(h0, .inr (5, [.ref h_row, g_fresh, g_kept, g_tried, g_isKept, g_viewed, g_tape, g_tapeMany, g_sort, g_begins, g_tokenEnds, g_word, g_value, g_good, g_growing, g_rows, g_must, g_rowMany, g_sorts, g_sizes, g_sheets, g_holds, g_heldNumber, g_heldSize, g_kind, g_number, g_ownHand, g_traced, g_bodies, g_isParted])), (h_row, .inl (cI, 68, .inl v_row))]
set_option maxHeartbeats 4000000 in
set_option maxRecDepth 100000 in
theorem tX5_goneSet {l : Launch} {D : va_G} {cB cI cJ cO : ClassId} (h0 h_row : Nat) (g_fresh g_kept g_tried g_isKept g_viewed g_tape g_tapeMany g_sort g_begins g_tokenEnds g_word g_value g_good g_growing g_rows g_must g_rowMany g_sorts g_sizes g_sheets g_holds g_heldNumber g_heldSize g_kind g_number g_ownHand g_traced g_bodies g_isParted : Value) (v_row : Nat → Int32) (r : Int32) (hF : fX5_goneSet v_row = some r) : Met l yX5_goneSet wsX5_goneSet rX5_goneSet (zPre D cB cI cJ cO [.ref h0] (wX5_goneSet cB cI cJ cO h0 h_row g_fresh g_kept g_tried g_isKept g_viewed g_tape g_tapeMany g_sort g_begins g_tokenEnds g_word g_value g_good g_growing g_rows g_must g_rowMany g_sorts g_sizes g_sheets g_holds g_heldNumber g_heldSize g_kind g_number g_ownHand g_traced g_bodies g_isParted v_row)) (zPI (some (.int r))) 0 0 (fun _ => False) := by
  refine zMetP (cc := cX5_goneSet) (maxL := 1) (ret := (some .int)) (lv := [(0, .ref h0)]) (by decide) rfl (Nat.le_of_ble_eq_true rfl) rfl ?_
  intro p e s m args below meth c ls Q hQ hx hb hr hml hown hts hlocks hname hP hE hD hl
  have hown : s.vm.findClass RX5 = some m.cls := hown
  have hK := hE.1
  unfold fX5_goneSet at hF
  refine lv_aload_n (pc := 0) hx hb dX5_goneSet_0 rfl (lv_at hl 0 rfl) ?_
  refine lv_bipush (pc := 1) (v := (nI 10)) hx hb dX5_goneSet_1 (by decide) ?_
  obtain ⟨u3, hu3, hF⟩ := z_bind hF
  refine zq_call (oc0 := (some (.int u3))) (va_runV (As := [.int (nI 10)]) (rest := []) ⟨hx, hb, hml, hown, hts⟩ (tX5_onWall (l := l) (D := D) (cB := cB) (cI := cI) (cJ := cJ) (cO := cO) h0 h_row g_fresh g_kept g_tried g_isKept g_viewed g_tape g_tapeMany g_sort g_begins g_tokenEnds g_word g_value g_good g_growing g_rows g_must g_rowMany g_sorts g_sizes g_sheets g_holds g_heldNumber g_heldSize g_kind g_number g_ownHand g_traced g_bodies g_isParted v_row (nI 10) u3 hu3) (cwV 1 hts gX5_goneSet_X5_onWall rfl rfl rfl (by decide +kernel) ⟨Nat.le_of_ble_eq_true rfl, Nat.le_of_ble_eq_true rfl⟩) ⟨zPre_blind, va_recv hK hP (ci := 5) (q0 := 0) rfl rfl, zPre_at hP hE hD [0, 1] rfl rfl⟩ rfl rfl hl.1 rfl (lv_room (Nat.le_of_ble_eq_true rfl)) dX5_goneSet_3 ⟨Nat.zero_le _, Nat.zero_le _⟩) ?_
  refine W.eq (g2 := F0 m 6 ls [.int u3]) rfl ?_
  exact z_iret (pc := 6) (fun q => q) hx hb hr hlocks hF rfl hQ dX5_goneSet_6

abbrev rX5_usedWalls : Room := { frames := 2, cells := 0, slots := 0, locals := 45 }
abbrev wX5_usedWalls (cB cI cJ cO : ClassId) (h0 h_row : Nat) (g_fresh g_kept g_tried g_isKept g_viewed g_tape g_tapeMany g_sort g_begins g_tokenEnds g_word g_value g_good g_growing g_rows g_must g_rowMany g_sorts g_sizes g_sheets g_holds g_heldNumber g_heldSize g_kind g_number g_ownHand g_traced g_bodies g_isParted : Value) (v_row : Nat → Int32) : va_W := [(h0, .inr (5, [.ref h_row, g_fresh, g_kept, g_tried, g_isKept, g_viewed, g_tape, g_tapeMany, g_sort, g_begins, g_tokenEnds, g_word, g_value, g_good, g_growing, g_rows, g_must, g_rowMany, g_sorts, g_sizes, g_sheets, g_holds, g_heldNumber, g_heldSize, g_kind, g_number, g_ownHand, g_traced, g_bodies, g_isParted])), (h_row, .inl (cI, 68, .inl v_row))]
set_option maxHeartbeats 4000000 in
set_option maxRecDepth 100000 in
theorem tX5_usedWalls {l : Launch} {D : va_G} {cB cI cJ cO : ClassId} (h0 h_row : Nat) (g_fresh g_kept g_tried g_isKept g_viewed g_tape g_tapeMany g_sort g_begins g_tokenEnds g_word g_value g_good g_growing g_rows g_must g_rowMany g_sorts g_sizes g_sheets g_holds g_heldNumber g_heldSize g_kind g_number g_ownHand g_traced g_bodies g_isParted : Value) (v_row : Nat → Int32) (r : Int32) (hF : fX5_usedWalls v_row = some r) : Met l yX5_usedWalls wsX5_usedWalls rX5_usedWalls (zPre D cB cI cJ cO [.ref h0] (wX5_usedWalls cB cI cJ cO h0 h_row g_fresh g_kept g_tried g_isKept g_viewed g_tape g_tapeMany g_sort g_begins g_tokenEnds g_word g_value g_good g_growing g_rows g_must g_rowMany g_sorts g_sizes g_sheets g_holds g_heldNumber g_heldSize g_kind g_number g_ownHand g_traced g_bodies g_isParted v_row)) (zPI (some (.int r))) 0 0 (fun _ => False) := by
  refine zMetP (cc := cX5_usedWalls) (maxL := 3) (ret := (some .int)) (lv := [(0, .ref h0)]) (by decide) rfl (Nat.le_of_ble_eq_true rfl) rfl ?_
  intro p e s m args below meth c ls Q hQ hx hb hr hml hown hts hlocks hname hP hE hD hl
  have hown : s.vm.findClass RX5 = some m.cls := hown
  have hK := hE.1
  unfold fX5_usedWalls at hF
  refine lv_iconst (pc := 0) (v := (nI 0)) hx hb dX5_usedWalls_0 (by decide) ?_
  refine lv_istore_n (pc := 1) (lv' := [(1, .int (nI 0)), (0, .ref h0)]) hx hb dX5_usedWalls_1 rfl hl (by decide) rfl (fun ls hl => ?_)
  refine lv_iconst (pc := 2) (v := (nI 0)) hx hb dX5_usedWalls_2 (by decide) ?_
  refine lv_istore_n (pc := 3) (lv' := [(2, .int (nI 0)), (1, .int (nI 0)), (0, .ref h0)]) hx hb dX5_usedWalls_3 rfl hl (by decide) rfl (fun ls hl => ?_)
  obtain ⟨k_4, hk_4, hF⟩ := z_J hF
  have kk_4 : ∀ (y1_3 : Int32) , k_4 y1_3 = some r → ∀ (ls : Array Slot), lv_has ls 3 [(1, .int y1_3)] → W p l e rX5_usedWalls s m args below meth c s.heap [] 0 0 Q (F0 m 34 ls []) := by
    intro y1_3 hF ls hl
    rw [hk_4] at hF
    refine lv_iload_n (pc := 34) hx hb dX5_usedWalls_34 rfl (lv_at hl 0 rfl) ?_
    exact z_iret (pc := 35) (fun q => q) hx hb hr hlocks hF rfl hQ dX5_usedWalls_35
  have hL_4 : ∀ (n : Nat) (y1_1 : Int32) (y2_2 : Int32) , fX5_usedWalls_L4 v_row k_4 n y1_1 y2_2 = some r → ∀ (ls : Array Slot), lv_has ls 3 [(0, .ref h0), (1, .int y1_1), (2, .int y2_2)] → W p l e rX5_usedWalls s m args below meth c s.heap [] 0 0 Q (F0 m 4 ls []) := by
    intro n
    induction n with
    | zero =>
      intro y1_1 y2_2 hF ls hl
      exact z_no hF
    | succ n ih =>
      intro y1_1 y2_2 hF ls hl
      rw [fX5_usedWalls_L4] at hF
      refine lv_iload_n (pc := 4) hx hb dX5_usedWalls_4 rfl (lv_at hl 2 rfl) ?_
      refine lv_bipush (pc := 5) (v := (nI 10)) hx hb dX5_usedWalls_5 (by decide) ?_
      refine zb_icmp_ge (pc := 7) (tgt := 34) hx hb dX5_usedWalls_7 (by decide) hF (fun c_7 hF => ?_) (fun c_7 hF => ?_)
      · exact kk_4 y1_1 hF ls (lv_sub hl [1] rfl)
      · refine lv_iload_n (pc := 10) hx hb dX5_usedWalls_10 rfl (lv_at hl 1 rfl) ?_
        refine lv_aload_n (pc := 11) hx hb dX5_usedWalls_11 rfl (lv_at hl 0 rfl) ?_
        refine lv_iload_n (pc := 12) hx hb dX5_usedWalls_12 rfl (lv_at hl 2 rfl) ?_
        obtain ⟨u13, hu13, hF⟩ := z_bind hF
        refine zq_call (oc0 := (some (.int u13))) (va_runV (As := [.int y2_2]) (rest := [.int y1_1]) ⟨hx, hb, hml, hown, hts⟩ (tX5_onWall (l := l) (D := D) (cB := cB) (cI := cI) (cJ := cJ) (cO := cO) h0 h_row g_fresh g_kept g_tried g_isKept g_viewed g_tape g_tapeMany g_sort g_begins g_tokenEnds g_word g_value g_good g_growing g_rows g_must g_rowMany g_sorts g_sizes g_sheets g_holds g_heldNumber g_heldSize g_kind g_number g_ownHand g_traced g_bodies g_isParted v_row y2_2 u13 hu13) (cwV 1 hts gX5_usedWalls_X5_onWall rfl rfl rfl (by decide +kernel) ⟨Nat.le_of_ble_eq_true rfl, Nat.le_of_ble_eq_true rfl⟩) ⟨zPre_blind, va_recv hK hP (ci := 5) (q0 := 0) rfl rfl, zPre_at hP hE hD [0, 1] rfl rfl⟩ rfl rfl hl.1 rfl (lv_room (Nat.le_of_ble_eq_true rfl)) dX5_usedWalls_13 ⟨Nat.zero_le _, Nat.zero_le _⟩) ?_
        refine W.eq (g2 := F0 m 16 ls [.int u13, .int y1_1]) rfl ?_
        refine zb_if_ne (pc := 16) (tgt := 23) hx hb dX5_usedWalls_16 (by decide) hF (fun c_16 hF => ?_) (fun c_16 hF => ?_)
        · refine lv_iconst (pc := 23) (v := (nI 1)) hx hb dX5_usedWalls_23 (by decide) ?_
          refine lv_iload_n (pc := 24) hx hb dX5_usedWalls_24 rfl (lv_at hl 2 rfl) ?_
          refine lv_ishl (pc := 25) hx hb dX5_usedWalls_25 ?_
          refine lv_ior (pc := 26) hx hb dX5_usedWalls_26 ?_
          refine lv_istore_n (pc := 27) (lv' := [(1, .int (y1_1 ||| ((nI 1) <<< (y2_2 &&& 31)))), (0, .ref h0), (2, .int y2_2)]) hx hb dX5_usedWalls_27 rfl hl (by decide) rfl (fun ls hl => ?_)
          refine lv_iinc (pc := 28) (v := (y2_2 + 1)) (lv' := [(2, .int (y2_2 + 1)), (1, .int (y1_1 ||| ((nI 1) <<< (y2_2 &&& 31)))), (0, .ref h0)]) hx hb dX5_usedWalls_28 hl (k := 2) rfl rfl (by decide) rfl (fun ls hl => ?_)
          refine lv_goto (pc := 31) (tgt := 4) hx hb dX5_usedWalls_31 (by decide) ?_
          exact ih (y1_1 ||| ((nI 1) <<< (y2_2 &&& 31))) (y2_2 + 1) hF ls (lv_sub hl [2, 1, 0] rfl)
        · refine lv_iconst (pc := 19) (v := (nI 0)) hx hb dX5_usedWalls_19 (by decide) ?_
          refine lv_goto (pc := 20) (tgt := 26) hx hb dX5_usedWalls_20 (by decide) ?_
          refine lv_ior (pc := 26) hx hb dX5_usedWalls_26 ?_
          refine lv_istore_n (pc := 27) (lv' := [(1, .int (y1_1 ||| (nI 0))), (0, .ref h0), (2, .int y2_2)]) hx hb dX5_usedWalls_27 rfl hl (by decide) rfl (fun ls hl => ?_)
          refine lv_iinc (pc := 28) (v := (y2_2 + 1)) (lv' := [(2, .int (y2_2 + 1)), (1, .int (y1_1 ||| (nI 0))), (0, .ref h0)]) hx hb dX5_usedWalls_28 hl (k := 2) rfl rfl (by decide) rfl (fun ls hl => ?_)
          refine lv_goto (pc := 31) (tgt := 4) hx hb dX5_usedWalls_31 (by decide) ?_
          exact ih (y1_1 ||| (nI 0)) (y2_2 + 1) hF ls (lv_sub hl [2, 1, 0] rfl)
  exact hL_4 zK (nI 0) (nI 0) hF ls (lv_sub hl [2, 1, 0] rfl)

abbrev rX5_greyWalls : Room := { frames := 1, cells := 0, slots := 0, locals := 21 }
abbrev wX5_greyWalls (cB cI cJ cO : ClassId) (h0 h_row : Nat) (g_fresh g_kept g_tried g_isKept g_viewed g_tape g_tapeMany g_sort g_begins g_tokenEnds g_word g_value g_good g_growing g_rows g_must g_rowMany g_sorts g_sizes g_sheets g_holds g_heldNumber g_heldSize g_kind g_number g_ownHand g_traced g_bodies g_isParted : Value) (v_row : Nat → Int32) : va_W := [(h0, .inr (5, [.ref h_row, g_fresh, g_kept, g_tried, g_isKept, g_viewed, g_tape, g_tapeMany, g_sort, g_begins, g_tokenEnds, g_word, g_value, g_good, g_growing, g_rows, g_must, g_rowMany, g_sorts, g_sizes, g_sheets, g_holds, g_heldNumber, g_heldSize, g_kind, g_number, g_ownHand, g_traced, g_bodies, g_isParted])), (h_row, .inl (cI, 68, .inl v_row))]
set_option maxHeartbeats 4000000 in
set_option maxRecDepth 100000 in
theorem tX5_greyWalls {l : Launch} {D : va_G} {cB cI cJ cO : ClassId} (h0 h_row : Nat) (g_fresh g_kept g_tried g_isKept g_viewed g_tape g_tapeMany g_sort g_begins g_tokenEnds g_word g_value g_good g_growing g_rows g_must g_rowMany g_sorts g_sizes g_sheets g_holds g_heldNumber g_heldSize g_kind g_number g_ownHand g_traced g_bodies g_isParted : Value) (v_row : Nat → Int32) (r : Int32) (hF : fX5_greyWalls v_row = some r) : Met l yX5_greyWalls wsX5_greyWalls rX5_greyWalls (zPre D cB cI cJ cO [.ref h0] (wX5_greyWalls cB cI cJ cO h0 h_row g_fresh g_kept g_tried g_isKept g_viewed g_tape g_tapeMany g_sort g_begins g_tokenEnds g_word g_value g_good g_growing g_rows g_must g_rowMany g_sorts g_sizes g_sheets g_holds g_heldNumber g_heldSize g_kind g_number g_ownHand g_traced g_bodies g_isParted v_row)) (zPI (some (.int r))) 0 0 (fun _ => False) := by
  refine zMetP (cc := cX5_greyWalls) (maxL := 3) (ret := (some .int)) (lv := [(0, .ref h0)]) (by decide) rfl (Nat.le_of_ble_eq_true rfl) rfl ?_
  intro p e s m args below meth c ls Q hQ hx hb hr hml hown hts hlocks hname hP hE hD hl
  have hown : s.vm.findClass RX5 = some m.cls := hown
  have hK := hE.1
  unfold fX5_greyWalls at hF
  refine lv_iconst (pc := 0) (v := (nI 0)) hx hb dX5_greyWalls_0 (by decide) ?_
  refine lv_istore_n (pc := 1) (lv' := [(1, .int (nI 0)), (0, .ref h0)]) hx hb dX5_greyWalls_1 rfl hl (by decide) rfl (fun ls hl => ?_)
  refine lv_iconst (pc := 2) (v := (nI 0)) hx hb dX5_greyWalls_2 (by decide) ?_
  refine lv_istore_n (pc := 3) (lv' := [(2, .int (nI 0)), (1, .int (nI 0)), (0, .ref h0)]) hx hb dX5_greyWalls_3 rfl hl (by decide) rfl (fun ls hl => ?_)
  obtain ⟨k_4, hk_4, hF⟩ := z_J hF
  have kk_4 : ∀ (y1_3 : Int32) , k_4 y1_3 = some r → ∀ (ls : Array Slot), lv_has ls 3 [(1, .int y1_3)] → W p l e rX5_greyWalls s m args below meth c s.heap [] 0 0 Q (F0 m 35 ls []) := by
    intro y1_3 hF ls hl
    rw [hk_4] at hF
    refine lv_iload_n (pc := 35) hx hb dX5_greyWalls_35 rfl (lv_at hl 0 rfl) ?_
    exact z_iret (pc := 36) (fun q => q) hx hb hr hlocks hF rfl hQ dX5_greyWalls_36
  have hL_4 : ∀ (n : Nat) (y1_1 : Int32) (y2_2 : Int32) , fX5_greyWalls_L4 v_row k_4 n y1_1 y2_2 = some r → ∀ (ls : Array Slot), lv_has ls 3 [(0, .ref h0), (1, .int y1_1), (2, .int y2_2)] → W p l e rX5_greyWalls s m args below meth c s.heap [] 0 0 Q (F0 m 4 ls []) := by
    intro n
    induction n with
    | zero =>
      intro y1_1 y2_2 hF ls hl
      exact z_no hF
    | succ n ih =>
      intro y1_1 y2_2 hF ls hl
      rw [fX5_greyWalls_L4] at hF
      refine lv_iload_n (pc := 4) hx hb dX5_greyWalls_4 rfl (lv_at hl 2 rfl) ?_
      refine lv_bipush (pc := 5) (v := (nI 10)) hx hb dX5_greyWalls_5 (by decide) ?_
      refine zb_icmp_ge (pc := 7) (tgt := 35) hx hb dX5_greyWalls_7 (by decide) hF (fun c_7 hF => ?_) (fun c_7 hF => ?_)
      · exact kk_4 y1_1 hF ls (lv_sub hl [1] rfl)
      · refine lv_iload_n (pc := 10) hx hb dX5_greyWalls_10 rfl (lv_at hl 1 rfl) ?_
        refine lv_aload_n (pc := 11) hx hb dX5_greyWalls_11 rfl (lv_at hl 0 rfl) ?_
        refine lv_iload_n (pc := 12) hx hb dX5_greyWalls_12 rfl (lv_at hl 2 rfl) ?_
        obtain ⟨u13, hu13, hF⟩ := z_bind hF
        refine zq_call (oc0 := (some (.int u13))) (va_runV (As := [.int y2_2]) (rest := [.int y1_1]) ⟨hx, hb, hml, hown, hts⟩ (tX5_ground (l := l) (D := D) (cB := cB) (cI := cI) (cJ := cJ) (cO := cO) h0 h_row g_fresh g_kept g_tried g_isKept g_viewed g_tape g_tapeMany g_sort g_begins g_tokenEnds g_word g_value g_good g_growing g_rows g_must g_rowMany g_sorts g_sizes g_sheets g_holds g_heldNumber g_heldSize g_kind g_number g_ownHand g_traced g_bodies g_isParted v_row y2_2 u13 hu13) (cwV 1 hts gX5_greyWalls_X5_ground rfl rfl rfl (by decide +kernel) ⟨Nat.le_of_ble_eq_true rfl, Nat.le_of_ble_eq_true rfl⟩) ⟨zPre_blind, va_recv hK hP (ci := 5) (q0 := 0) rfl rfl, zPre_at hP hE hD [0, 1] rfl rfl⟩ rfl rfl hl.1 rfl (lv_room (Nat.le_of_ble_eq_true rfl)) dX5_greyWalls_13 ⟨Nat.zero_le _, Nat.zero_le _⟩) ?_
        refine W.eq (g2 := F0 m 16 ls [.int u13, .int y1_1]) rfl ?_
        refine lv_iconst (pc := 16) (v := (nI 1)) hx hb dX5_greyWalls_16 (by decide) ?_
        refine zb_icmp_ne (pc := 17) (tgt := 26) hx hb dX5_greyWalls_17 (by decide) hF (fun c_17 hF => ?_) (fun c_17 hF => ?_)
        · refine lv_iconst (pc := 26) (v := (nI 0)) hx hb dX5_greyWalls_26 (by decide) ?_
          refine lv_ior (pc := 27) hx hb dX5_greyWalls_27 ?_
          refine lv_istore_n (pc := 28) (lv' := [(1, .int (y1_1 ||| (nI 0))), (0, .ref h0), (2, .int y2_2)]) hx hb dX5_greyWalls_28 rfl hl (by decide) rfl (fun ls hl => ?_)
          refine lv_iinc (pc := 29) (v := (y2_2 + 1)) (lv' := [(2, .int (y2_2 + 1)), (1, .int (y1_1 ||| (nI 0))), (0, .ref h0)]) hx hb dX5_greyWalls_29 hl (k := 2) rfl rfl (by decide) rfl (fun ls hl => ?_)
          refine lv_goto (pc := 32) (tgt := 4) hx hb dX5_greyWalls_32 (by decide) ?_
          exact ih (y1_1 ||| (nI 0)) (y2_2 + 1) hF ls (lv_sub hl [2, 1, 0] rfl)
        · refine lv_iconst (pc := 20) (v := (nI 1)) hx hb dX5_greyWalls_20 (by decide) ?_
          refine lv_iload_n (pc := 21) hx hb dX5_greyWalls_21 rfl (lv_at hl 2 rfl) ?_
          refine lv_ishl (pc := 22) hx hb dX5_greyWalls_22 ?_
          refine lv_goto (pc := 23) (tgt := 27) hx hb dX5_greyWalls_23 (by decide) ?_
          refine lv_ior (pc := 27) hx hb dX5_greyWalls_27 ?_
          refine lv_istore_n (pc := 28) (lv' := [(1, .int (y1_1 ||| ((nI 1) <<< (y2_2 &&& 31)))), (0, .ref h0), (2, .int y2_2)]) hx hb dX5_greyWalls_28 rfl hl (by decide) rfl (fun ls hl => ?_)
          refine lv_iinc (pc := 29) (v := (y2_2 + 1)) (lv' := [(2, .int (y2_2 + 1)), (1, .int (y1_1 ||| ((nI 1) <<< (y2_2 &&& 31)))), (0, .ref h0)]) hx hb dX5_greyWalls_29 hl (k := 2) rfl rfl (by decide) rfl (fun ls hl => ?_)
          refine lv_goto (pc := 32) (tgt := 4) hx hb dX5_greyWalls_32 (by decide) ?_
          exact ih (y1_1 ||| ((nI 1) <<< (y2_2 &&& 31))) (y2_2 + 1) hF ls (lv_sub hl [2, 1, 0] rfl)
  exact hL_4 zK (nI 0) (nI 0) hF ls (lv_sub hl [2, 1, 0] rfl)

abbrev rX5_state : Room := { frames := 3, cells := 0, slots := 0, locals := 67 }
abbrev wX5_state (cB cI cJ cO : ClassId) (h0 h_row : Nat) (g_fresh g_kept g_tried g_isKept g_viewed g_tape g_tapeMany g_sort g_begins g_tokenEnds g_word g_value g_good g_growing g_rows g_must g_rowMany g_sorts g_sizes g_sheets g_holds g_heldNumber g_heldSize g_kind g_number g_ownHand g_traced g_bodies g_isParted : Value) (v_row : Nat → Int32) : va_W := [(h0, .inr (5, [.ref h_row, g_fresh, g_kept, g_tried, g_isKept, g_viewed, g_tape, g_tapeMany, g_sort, g_begins, g_tokenEnds, g_word, g_value, g_good, g_growing, g_rows, g_must, g_rowMany, g_sorts, g_sizes, g_sheets, g_holds, g_heldNumber, g_heldSize, g_kind, g_number, g_ownHand, g_traced, g_bodies, g_isParted])), (h_row, .inl (cI, 68, .inl v_row))]
theorem nX5_state_X5 : ∀ w ∈ wsX50, w ∈ wsX5_state := by decide +kernel
theorem kX5_state_0 : Cond.fieldLink RX5 7 "PaintedWallsModel" "row" "[I" ∈ wsX5_state := by decide +kernel
set_option maxHeartbeats 4000000 in
set_option maxRecDepth 100000 in
theorem tX5_state {l : Launch} {D : va_G} {cB cI cJ cO : ClassId} (h0 h_row : Nat) (g_fresh g_kept g_tried g_isKept g_viewed g_tape g_tapeMany g_sort g_begins g_tokenEnds g_word g_value g_good g_growing g_rows g_must g_rowMany g_sorts g_sizes g_sheets g_holds g_heldNumber g_heldSize g_kind g_number g_ownHand g_traced g_bodies g_isParted : Value) (v_row : Nat → Int32) (x1 : Int32) (r : Int32) (hF : fX5_state v_row x1 = some r) : Met l yX5_state wsX5_state rX5_state (zPre D cB cI cJ cO [.ref h0, .int x1] (wX5_state cB cI cJ cO h0 h_row g_fresh g_kept g_tried g_isKept g_viewed g_tape g_tapeMany g_sort g_begins g_tokenEnds g_word g_value g_good g_growing g_rows g_must g_rowMany g_sorts g_sizes g_sheets g_holds g_heldNumber g_heldSize g_kind g_number g_ownHand g_traced g_bodies g_isParted v_row)) (zPI (some (.int r))) 0 0 (fun _ => False) := by
  refine zMetP (cc := cX5_state) (maxL := 2) (ret := (some .int)) (lv := [(0, .ref h0), (1, .int x1)]) (by decide) rfl (Nat.le_of_ble_eq_true rfl) rfl ?_
  intro p e s m args below meth c ls Q hQ hx hb hr hml hown hts hlocks hname hP hE hD hl
  have hown : s.vm.findClass RX5 = some m.cls := hown
  have hK := hE.1
  unfold fX5_state at hF
  refine lv_iload_n (pc := 0) hx hb dX5_state_0 rfl (lv_at hl 1 rfl) ?_
  by_cases c_1_0 : x1 = nI 0
  · have hF := (z_if _ hF).1 c_1_0
    refine lv_tableIn (pc := 1) (off := 39) (tgt := 40) hx hb dX5_state_1 (by rw [c_1_0]; decide) (by rw [c_1_0]; decide) (by rw [c_1_0]; rfl) (by decide) ?_
    refine lv_aload_n (pc := 40) hx hb dX5_state_40 rfl (lv_at hl 0 rfl) ?_
    refine va_get (D := D) (pc := 41) (ci := 5) (v := .ref h_row) (C := RX5) (T := TX5) (N := 30) hx hb hts nX5_state_X5 hown hK hP 0 rfl rfl 0 (by decide) (hts _ kX5_state_0) (fun _ h9 => h9) rfl dX5_state_41 ?_
    refine lv_iconst (pc := 44) (v := (nI 4)) hx hb dX5_state_44 (by decide) ?_
    refine za_ialdK (pc := 45) (k := 4) hx hb hK hP 1 1 rfl rfl (by decide) (by decide) dX5_state_45 ?_
    exact z_iret (pc := 46) (fun q => q) hx hb hr hlocks hF rfl hQ dX5_state_46
  · have hF := (z_if _ hF).2 c_1_0
    by_cases c_1_1 : x1 = nI 1
    · have hF := (z_if _ hF).1 c_1_1
      refine lv_tableIn (pc := 1) (off := 46) (tgt := 47) hx hb dX5_state_1 (by rw [c_1_1]; decide) (by rw [c_1_1]; decide) (by rw [c_1_1]; rfl) (by decide) ?_
      refine lv_aload_n (pc := 47) hx hb dX5_state_47 rfl (lv_at hl 0 rfl) ?_
      refine va_get (D := D) (pc := 48) (ci := 5) (v := .ref h_row) (C := RX5) (T := TX5) (N := 30) hx hb hts nX5_state_X5 hown hK hP 0 rfl rfl 0 (by decide) (hts _ kX5_state_0) (fun _ h9 => h9) rfl dX5_state_48 ?_
      refine lv_iconst (pc := 51) (v := (nI 5)) hx hb dX5_state_51 (by decide) ?_
      refine za_ialdK (pc := 52) (k := 5) hx hb hK hP 1 1 rfl rfl (by decide) (by decide) dX5_state_52 ?_
      exact z_iret (pc := 53) (fun q => q) hx hb hr hlocks hF rfl hQ dX5_state_53
    · have hF := (z_if _ hF).2 c_1_1
      by_cases c_1_2 : x1 = nI 2
      · have hF := (z_if _ hF).1 c_1_2
        refine lv_tableIn (pc := 1) (off := 53) (tgt := 54) hx hb dX5_state_1 (by rw [c_1_2]; decide) (by rw [c_1_2]; decide) (by rw [c_1_2]; rfl) (by decide) ?_
        refine lv_aload_n (pc := 54) hx hb dX5_state_54 rfl (lv_at hl 0 rfl) ?_
        obtain ⟨u55, hu55, hF⟩ := z_bind hF
        refine zq_call (oc0 := (some (.int u55))) (va_runV (As := []) (rest := []) ⟨hx, hb, hml, hown, hts⟩ (tX5_looksOfAll (l := l) (D := D) (cB := cB) (cI := cI) (cJ := cJ) (cO := cO) h0 h_row g_fresh g_kept g_tried g_isKept g_viewed g_tape g_tapeMany g_sort g_begins g_tokenEnds g_word g_value g_good g_growing g_rows g_must g_rowMany g_sorts g_sizes g_sheets g_holds g_heldNumber g_heldSize g_kind g_number g_ownHand g_traced g_bodies g_isParted v_row u55 hu55) (cwV 0 hts gX5_state_X5_looksOfAll rfl rfl rfl (by decide +kernel) ⟨Nat.le_of_ble_eq_true rfl, Nat.le_of_ble_eq_true rfl⟩) ⟨zPre_blind, va_recv hK hP (ci := 5) (q0 := 0) rfl rfl, zPre_at hP hE hD [0, 1] rfl rfl⟩ rfl rfl hl.1 rfl (lv_room (Nat.le_of_ble_eq_true rfl)) dX5_state_55 ⟨Nat.zero_le _, Nat.zero_le _⟩) ?_
        refine W.eq (g2 := F0 m 58 ls [.int u55]) rfl ?_
        exact z_iret (pc := 58) (fun q => q) hx hb hr hlocks hF rfl hQ dX5_state_58
      · have hF := (z_if _ hF).2 c_1_2
        by_cases c_1_3 : x1 = nI 3
        · have hF := (z_if _ hF).1 c_1_3
          refine lv_tableIn (pc := 1) (off := 58) (tgt := 59) hx hb dX5_state_1 (by rw [c_1_3]; decide) (by rw [c_1_3]; decide) (by rw [c_1_3]; rfl) (by decide) ?_
          refine lv_aload_n (pc := 59) hx hb dX5_state_59 rfl (lv_at hl 0 rfl) ?_
          obtain ⟨u60, hu60, hF⟩ := z_bind hF
          refine zq_call (oc0 := (some (.int u60))) (va_runV (As := []) (rest := []) ⟨hx, hb, hml, hown, hts⟩ (tX5_goneSet (l := l) (D := D) (cB := cB) (cI := cI) (cJ := cJ) (cO := cO) h0 h_row g_fresh g_kept g_tried g_isKept g_viewed g_tape g_tapeMany g_sort g_begins g_tokenEnds g_word g_value g_good g_growing g_rows g_must g_rowMany g_sorts g_sizes g_sheets g_holds g_heldNumber g_heldSize g_kind g_number g_ownHand g_traced g_bodies g_isParted v_row u60 hu60) (cwV 0 hts gX5_state_X5_goneSet rfl rfl rfl (by decide +kernel) ⟨Nat.le_of_ble_eq_true rfl, Nat.le_of_ble_eq_true rfl⟩) ⟨zPre_blind, va_recv hK hP (ci := 5) (q0 := 0) rfl rfl, zPre_at hP hE hD [0, 1] rfl rfl⟩ rfl rfl hl.1 rfl (lv_room (Nat.le_of_ble_eq_true rfl)) dX5_state_60 ⟨Nat.zero_le _, Nat.zero_le _⟩) ?_
          refine W.eq (g2 := F0 m 63 ls [.int u60]) rfl ?_
          exact z_iret (pc := 63) (fun q => q) hx hb hr hlocks hF rfl hQ dX5_state_63
        · have hF := (z_if _ hF).2 c_1_3
          by_cases c_1_4 : x1 = nI 4
          · have hF := (z_if _ hF).1 c_1_4
            refine lv_tableIn (pc := 1) (off := 63) (tgt := 64) hx hb dX5_state_1 (by rw [c_1_4]; decide) (by rw [c_1_4]; decide) (by rw [c_1_4]; rfl) (by decide) ?_
            refine lv_aload_n (pc := 64) hx hb dX5_state_64 rfl (lv_at hl 0 rfl) ?_
            obtain ⟨u65, hu65, hF⟩ := z_bind hF
            refine zq_call (oc0 := (some (.int u65))) (va_runV (As := []) (rest := []) ⟨hx, hb, hml, hown, hts⟩ (tX5_usedWalls (l := l) (D := D) (cB := cB) (cI := cI) (cJ := cJ) (cO := cO) h0 h_row g_fresh g_kept g_tried g_isKept g_viewed g_tape g_tapeMany g_sort g_begins g_tokenEnds g_word g_value g_good g_growing g_rows g_must g_rowMany g_sorts g_sizes g_sheets g_holds g_heldNumber g_heldSize g_kind g_number g_ownHand g_traced g_bodies g_isParted v_row u65 hu65) (cwV 0 hts gX5_state_X5_usedWalls rfl rfl rfl (by decide +kernel) ⟨Nat.le_of_ble_eq_true rfl, Nat.le_of_ble_eq_true rfl⟩) ⟨zPre_blind, va_recv hK hP (ci := 5) (q0 := 0) rfl rfl, zPre_at hP hE hD [0, 1] rfl rfl⟩ rfl rfl hl.1 rfl (lv_room (Nat.le_of_ble_eq_true rfl)) dX5_state_65 ⟨Nat.zero_le _, Nat.zero_le _⟩) ?_
            refine W.eq (g2 := F0 m 68 ls [.int u65]) rfl ?_
            exact z_iret (pc := 68) (fun q => q) hx hb hr hlocks hF rfl hQ dX5_state_68
          · have hF := (z_if _ hF).2 c_1_4
            by_cases c_1_5 : x1 = nI 5
            · have hF := (z_if _ hF).1 c_1_5
              refine lv_tableIn (pc := 1) (off := 68) (tgt := 69) hx hb dX5_state_1 (by rw [c_1_5]; decide) (by rw [c_1_5]; decide) (by rw [c_1_5]; rfl) (by decide) ?_
              refine lv_aload_n (pc := 69) hx hb dX5_state_69 rfl (lv_at hl 0 rfl) ?_
              obtain ⟨u70, hu70, hF⟩ := z_bind hF
              refine zq_call (oc0 := (some (.int u70))) (va_runV (As := []) (rest := []) ⟨hx, hb, hml, hown, hts⟩ (tX5_greyWalls (l := l) (D := D) (cB := cB) (cI := cI) (cJ := cJ) (cO := cO) h0 h_row g_fresh g_kept g_tried g_isKept g_viewed g_tape g_tapeMany g_sort g_begins g_tokenEnds g_word g_value g_good g_growing g_rows g_must g_rowMany g_sorts g_sizes g_sheets g_holds g_heldNumber g_heldSize g_kind g_number g_ownHand g_traced g_bodies g_isParted v_row u70 hu70) (cwV 0 hts gX5_state_X5_greyWalls rfl rfl rfl (by decide +kernel) ⟨Nat.le_of_ble_eq_true rfl, Nat.le_of_ble_eq_true rfl⟩) ⟨zPre_blind, va_recv hK hP (ci := 5) (q0 := 0) rfl rfl, zPre_at hP hE hD [0, 1] rfl rfl⟩ rfl rfl hl.1 rfl (lv_room (Nat.le_of_ble_eq_true rfl)) dX5_state_70 ⟨Nat.zero_le _, Nat.zero_le _⟩) ?_
              refine W.eq (g2 := F0 m 73 ls [.int u70]) rfl ?_
              exact z_iret (pc := 73) (fun q => q) hx hb hr hlocks hF rfl hQ dX5_state_73
            · have hF := (z_if _ hF).2 c_1_5
              refine lv_tableOut (pc := 1) (tgt := 74) hx hb dX5_state_1 (by have q0 : ¬ x1.toInt = 0 := lv_neT c_1_0 (by decide); have q1 : ¬ x1.toInt = 1 := lv_neT c_1_1 (by decide); have q2 : ¬ x1.toInt = 2 := lv_neT c_1_2 (by decide); have q3 : ¬ x1.toInt = 3 := lv_neT c_1_3 (by decide); have q4 : ¬ x1.toInt = 4 := lv_neT c_1_4 (by decide); have q5 : ¬ x1.toInt = 5 := lv_neT c_1_5 (by decide); omega) (by decide) ?_
              refine lv_iconst (pc := 74) (v := (-1 : Int32)) hx hb dX5_state_74 (by decide) ?_
              exact z_iret (pc := 75) (fun q => q) hx hb hr hlocks hF rfl hQ dX5_state_75

abbrev rX5_view : Room := { frames := 8, cells := 0, slots := 0, locals := 178 }
abbrev wX5_view (cB cI cJ cO : ClassId) (h0 h_row h_tried h_growing : Nat) (g_fresh g_kept g_isKept g_tape g_tapeMany g_sort g_begins g_tokenEnds g_word g_value g_good g_rows g_must g_rowMany g_sorts g_sizes g_sheets g_holds g_heldNumber g_heldSize g_kind g_number g_ownHand g_traced g_bodies g_isParted : Value) (v_viewed : Int32) (v_row : Nat → Int32) (v_tried : Nat → Int32) (v_growing : Nat → Int32) : va_W := [(h0, .inr (5, [.ref h_row, g_fresh, g_kept, .ref h_tried, g_isKept, .int v_viewed, g_tape, g_tapeMany, g_sort, g_begins, g_tokenEnds, g_word, g_value, g_good, .ref h_growing, g_rows, g_must, g_rowMany, g_sorts, g_sizes, g_sheets, g_holds, g_heldNumber, g_heldSize, g_kind, g_number, g_ownHand, g_traced, g_bodies, g_isParted])), (h_row, .inl (cI, 68, .inl v_row)), (h_tried, .inl (cI, 68, .inl v_tried)), (h_growing, .inl (cI, 8, .inl v_growing))]
theorem nX5_view_X5 : ∀ w ∈ wsX50, w ∈ wsX5_view := by decide +kernel
theorem kX5_view_0 : Cond.fieldLink RX5 7 "PaintedWallsModel" "row" "[I" ∈ wsX5_view := by decide +kernel
theorem kX5_view_1 : Cond.fieldLink RX5 19 "PaintedWallsModel" "tried" "[I" ∈ wsX5_view := by decide +kernel
set_option maxHeartbeats 4000000 in
set_option maxRecDepth 100000 in
theorem tX5_view {l : Launch} {D : va_G} {cB cI cJ cO : ClassId} (h0 h_row h_tried h_growing : Nat) (g_fresh g_kept g_isKept g_tape g_tapeMany g_sort g_begins g_tokenEnds g_word g_value g_good g_rows g_must g_rowMany g_sorts g_sizes g_sheets g_holds g_heldNumber g_heldSize g_kind g_number g_ownHand g_traced g_bodies g_isParted : Value) (v_viewed : Int32) (v_row : Nat → Int32) (v_tried : Nat → Int32) (v_growing : Nat → Int32) (x1 : Int32) (r : Int32 × Int32 × (Nat → Int32) × (Nat → Int32) × (Nat → Int32)) (hF : fX5_view v_viewed v_row v_tried v_growing x1 = some r) : Met l yX5_view wsX5_view rX5_view (zPre D cB cI cJ cO [.ref h0, .int x1] (wX5_view cB cI cJ cO h0 h_row h_tried h_growing g_fresh g_kept g_isKept g_tape g_tapeMany g_sort g_begins g_tokenEnds g_word g_value g_good g_rows g_must g_rowMany g_sorts g_sizes g_sheets g_holds g_heldNumber g_heldSize g_kind g_number g_ownHand g_traced g_bodies g_isParted v_viewed v_row v_tried v_growing)) (zPM (some (.int r.1)) D (wX5_view cB cI cJ cO h0 h_row h_tried h_growing g_fresh g_kept g_isKept g_tape g_tapeMany g_sort g_begins g_tokenEnds g_word g_value g_good g_rows g_must g_rowMany g_sorts g_sizes g_sheets g_holds g_heldNumber g_heldSize g_kind g_number g_ownHand g_traced g_bodies g_isParted r.2.1 r.2.2.1 r.2.2.2.1 r.2.2.2.2) (zAs [h0, h_row, h_tried, h_growing])) 0 0 (zAs [h0, h_row, h_tried, h_growing]) := by
  refine zMetM (cc := cX5_view) (maxL := 2) (ret := (some .int)) (lv := [(0, .ref h0), (1, .int x1)]) rfl (by decide) rfl (Nat.le_of_ble_eq_true rfl) rfl ?_
  intro p e s m args below meth c ls Q H locs hQ hx hb hr hml hown hts hlocks hname hP hE hD hS hl
  have hown : s.vm.findClass RX5 = some m.cls := hown
  have hK := hE.1
  unfold fX5_view at hF
  refine lv_iload_n (pc := 0) hx hb dX5_view_0 rfl (lv_at hl 1 rfl) ?_
  refine lv_iconst (pc := 1) (v := (nI 0)) hx hb dX5_view_1 (by decide) ?_
  refine lv_bipush (pc := 2) (v := (nI 60)) hx hb dX5_view_2 (by decide) ?_
  obtain ⟨u4, hu4, hF⟩ := z_bind hF
  refine zq_call (oc0 := (some (.int u4))) (va_runS (As := [.int x1, .int (nI 0), .int (nI 60)]) (rest := []) ⟨hx, hb, hml, hown, hts⟩ (tX5_in (l := l) (D := D) (cB := cB) (cI := cI) (cJ := cJ) (cO := cO) x1 (nI 0) (nI 60) u4 hu4) (va_cwS 3 hts gX5_view_X5_in rfl rfl rfl (by decide +kernel) ⟨Nat.le_of_ble_eq_true rfl, Nat.le_of_ble_eq_true rfl⟩) ⟨zPre_blind, zPre_at hP hE (zD_re hD rfl) [] rfl rfl⟩ rfl rfl hl.1 rfl (lv_room (Nat.le_of_ble_eq_true rfl)) dX5_view_4 ⟨Nat.zero_le _, Nat.zero_le _⟩) ?_
  refine W.eq (g2 := F0 m 7 ls [.int u4]) rfl ?_
  refine zb_if_ne (pc := 7) (tgt := 12) hx hb dX5_view_7 (by decide) hF (fun c_7 hF => ?_) (fun c_7 hF => ?_)
  · refine lv_aload_n (pc := 12) hx hb dX5_view_12 rfl (lv_at hl 0 rfl) ?_
    refine va_get (D := D) (pc := 13) (ci := 5) (v := .ref h_row) (C := RX5) (T := TX5) (N := 30) hx hb hts nX5_view_X5 hown hK hP 0 rfl rfl 0 (by decide) (hts _ kX5_view_0) (fun _ h9 => h9) rfl dX5_view_13 ?_
    refine lv_aload_n (pc := 16) hx hb dX5_view_16 rfl (lv_at hl 0 rfl) ?_
    refine va_get (D := D) (pc := 17) (ci := 5) (v := .ref h_tried) (C := RX5) (T := TX5) (N := 30) hx hb hts nX5_view_X5 hown hK hP 0 rfl rfl 3 (by decide) (hts _ kX5_view_1) (fun _ h9 => h9) rfl dX5_view_17 ?_
    obtain ⟨u20, hu20, hF⟩ := z_bind hF
    refine zq_callM (oc0 := none) (wc := wX5_moveAll cB cI cJ cO h_row h_tried v_row v_tried) (wc' := wX5_moveAll cB cI cJ cO h_row h_tried v_row u20) (ws' := (wX5_view cB cI cJ cO h0 h_row h_tried h_growing g_fresh g_kept g_isKept g_tape g_tapeMany g_sort g_begins g_tokenEnds g_word g_value g_good g_rows g_must g_rowMany g_sorts g_sizes g_sheets g_holds g_heldNumber g_heldSize g_kind g_number g_ownHand g_traced g_bodies g_isParted v_viewed v_row u20 v_growing)) (va_runS (As := [.ref h_row, .ref h_tried]) (rest := []) ⟨hx, hb, hml, hown, hts⟩ (tX5_moveAll (l := l) (D := D) (cB := cB) (cI := cI) (cJ := cJ) (cO := cO) h_row h_tried v_row v_tried u20 hu20) (va_cwS 2 hts gX5_view_X5_moveAll rfl rfl rfl (by decide +kernel) ⟨Nat.le_of_ble_eq_true rfl, Nat.le_of_ble_eq_true rfl⟩) ⟨zPre_blind, zPre_at hP hE (zD_re hD rfl) [1, 2] rfl rfl⟩ rfl rfl hl.1 rfl (lv_room (Nat.le_of_ble_eq_true rfl)) dX5_view_20 ⟨Nat.zero_le _, Nat.zero_le _⟩) rfl hP (zD_re hD rfl) hS [1, 2] rfl rfl [none, some 0, some 1, none] rfl rfl rfl rfl (fun H locs hP hS => ?_)
    refine W.eq (g2 := F0 m 23 ls []) rfl ?_
    refine lv_aload_n (pc := 23) hx hb dX5_view_23 rfl (lv_at hl 0 rfl) ?_
    refine lv_iload_n (pc := 24) hx hb dX5_view_24 rfl (lv_at hl 1 rfl) ?_
    obtain ⟨u25, hu25, hF⟩ := z_bind hF
    refine zq_callM (oc0 := (some (.int u25.1))) (wc := wX5_viewedBy cB cI cJ cO h0 h_row h_tried h_growing g_fresh g_kept g_isKept g_tape g_tapeMany g_sort g_begins g_tokenEnds g_word g_value g_good g_rows g_must g_rowMany g_sorts g_sizes g_sheets g_holds g_heldNumber g_heldSize g_kind g_number g_ownHand g_traced g_bodies g_isParted v_viewed v_row u20 v_growing) (wc' := wX5_viewedBy cB cI cJ cO h0 h_row h_tried h_growing g_fresh g_kept g_isKept g_tape g_tapeMany g_sort g_begins g_tokenEnds g_word g_value g_good g_rows g_must g_rowMany g_sorts g_sizes g_sheets g_holds g_heldNumber g_heldSize g_kind g_number g_ownHand g_traced g_bodies g_isParted u25.2.1 u25.2.2.1 u20 u25.2.2.2) (ws' := (wX5_view cB cI cJ cO h0 h_row h_tried h_growing g_fresh g_kept g_isKept g_tape g_tapeMany g_sort g_begins g_tokenEnds g_word g_value g_good g_rows g_must g_rowMany g_sorts g_sizes g_sheets g_holds g_heldNumber g_heldSize g_kind g_number g_ownHand g_traced g_bodies g_isParted u25.2.1 u25.2.2.1 u20 u25.2.2.2)) (va_runV (As := [.int x1]) (rest := []) ⟨hx, hb, hml, hown, hts⟩ (tX5_viewedBy (l := l) (D := D) (cB := cB) (cI := cI) (cJ := cJ) (cO := cO) h0 h_row h_tried h_growing g_fresh g_kept g_isKept g_tape g_tapeMany g_sort g_begins g_tokenEnds g_word g_value g_good g_rows g_must g_rowMany g_sorts g_sizes g_sheets g_holds g_heldNumber g_heldSize g_kind g_number g_ownHand g_traced g_bodies g_isParted v_viewed v_row u20 v_growing x1 u25 hu25) (cwV 1 hts gX5_view_X5_viewedBy rfl rfl rfl (by decide +kernel) ⟨Nat.le_of_ble_eq_true rfl, Nat.le_of_ble_eq_true rfl⟩) ⟨zPre_blind, va_recv hK hP (ci := 5) (q0 := 0) rfl rfl, zPre_at hP hE (zD_re hD rfl) [0, 1, 2, 3] rfl rfl⟩ rfl rfl hl.1 rfl (lv_room (Nat.le_of_ble_eq_true rfl)) dX5_view_25 ⟨Nat.zero_le _, Nat.zero_le _⟩) rfl hP (zD_re hD rfl) hS [0, 1, 2, 3] rfl rfl [some 0, some 1, some 2, some 3] rfl rfl rfl rfl (fun H locs hP hS => ?_)
    refine W.eq (g2 := F0 m 28 ls [.int u25.1]) rfl ?_
    exact z_iretM (pc := 28) (fun q => q.1) (fun q => (wX5_view cB cI cJ cO h0 h_row h_tried h_growing g_fresh g_kept g_isKept g_tape g_tapeMany g_sort g_begins g_tokenEnds g_word g_value g_good g_rows g_must g_rowMany g_sorts g_sizes g_sheets g_holds g_heldNumber g_heldSize g_kind g_number g_ownHand g_traced g_bodies g_isParted q.2.1 q.2.2.1 q.2.2.2.1 q.2.2.2.2)) hx hb hr hlocks hP hS hF rfl hQ dX5_view_28
  · refine lv_iconst (pc := 10) (v := (-1 : Int32)) hx hb dX5_view_10 (by decide) ?_
    exact z_iretM (pc := 11) (fun q => q.1) (fun q => (wX5_view cB cI cJ cO h0 h_row h_tried h_growing g_fresh g_kept g_isKept g_tape g_tapeMany g_sort g_begins g_tokenEnds g_word g_value g_good g_rows g_must g_rowMany g_sorts g_sizes g_sheets g_holds g_heldNumber g_heldSize g_kind g_number g_ownHand g_traced g_bodies g_isParted q.2.1 q.2.2.1 q.2.2.2.1 q.2.2.2.2)) hx hb hr hlocks hP hS hF rfl hQ dX5_view_11

abbrev rX5_whenGone : Room := { frames := 7, cells := 0, slots := 0, locals := 156 }
abbrev wX5_whenGone (cB cI cJ cO : ClassId) (h0 h_row h_tried h_growing : Nat) (g_fresh g_kept g_isKept g_tape g_tapeMany g_sort g_begins g_tokenEnds g_word g_value g_good g_rows g_must g_rowMany g_sorts g_sizes g_sheets g_holds g_heldNumber g_heldSize g_kind g_number g_ownHand g_traced g_bodies g_isParted : Value) (v_viewed : Int32) (v_row : Nat → Int32) (v_tried : Nat → Int32) (v_growing : Nat → Int32) : va_W := [(h0, .inr (5, [.ref h_row, g_fresh, g_kept, .ref h_tried, g_isKept, .int v_viewed, g_tape, g_tapeMany, g_sort, g_begins, g_tokenEnds, g_word, g_value, g_good, .ref h_growing, g_rows, g_must, g_rowMany, g_sorts, g_sizes, g_sheets, g_holds, g_heldNumber, g_heldSize, g_kind, g_number, g_ownHand, g_traced, g_bodies, g_isParted])), (h_row, .inl (cI, 68, .inl v_row)), (h_tried, .inl (cI, 68, .inl v_tried)), (h_growing, .inl (cI, 8, .inl v_growing))]
theorem nX5_whenGone_X5 : ∀ w ∈ wsX50, w ∈ wsX5_whenGone := by decide +kernel
theorem kX5_whenGone_0 : Cond.fieldLink RX5 7 "PaintedWallsModel" "row" "[I" ∈ wsX5_whenGone := by decide +kernel
theorem kX5_whenGone_1 : Cond.fieldLink RX5 19 "PaintedWallsModel" "tried" "[I" ∈ wsX5_whenGone := by decide +kernel
set_option maxHeartbeats 4000000 in
set_option maxRecDepth 100000 in
theorem tX5_whenGone {l : Launch} {D : va_G} {cB cI cJ cO : ClassId} (h0 h_row h_tried h_growing : Nat) (g_fresh g_kept g_isKept g_tape g_tapeMany g_sort g_begins g_tokenEnds g_word g_value g_good g_rows g_must g_rowMany g_sorts g_sizes g_sheets g_holds g_heldNumber g_heldSize g_kind g_number g_ownHand g_traced g_bodies g_isParted : Value) (v_viewed : Int32) (v_row : Nat → Int32) (v_tried : Nat → Int32) (v_growing : Nat → Int32) (x1 : Int32) (x2 : Int32) (r : Int32 × Int32 × (Nat → Int32) × (Nat → Int32) × (Nat → Int32)) (hF : fX5_whenGone v_viewed v_row v_tried v_growing x1 x2 = some r) : Met l yX5_whenGone wsX5_whenGone rX5_whenGone (zPre D cB cI cJ cO [.ref h0, .int x1, .int x2] (wX5_whenGone cB cI cJ cO h0 h_row h_tried h_growing g_fresh g_kept g_isKept g_tape g_tapeMany g_sort g_begins g_tokenEnds g_word g_value g_good g_rows g_must g_rowMany g_sorts g_sizes g_sheets g_holds g_heldNumber g_heldSize g_kind g_number g_ownHand g_traced g_bodies g_isParted v_viewed v_row v_tried v_growing)) (zPM (some (.int r.1)) D (wX5_whenGone cB cI cJ cO h0 h_row h_tried h_growing g_fresh g_kept g_isKept g_tape g_tapeMany g_sort g_begins g_tokenEnds g_word g_value g_good g_rows g_must g_rowMany g_sorts g_sizes g_sheets g_holds g_heldNumber g_heldSize g_kind g_number g_ownHand g_traced g_bodies g_isParted r.2.1 r.2.2.1 r.2.2.2.1 r.2.2.2.2) (zAs [h0, h_row, h_tried, h_growing])) 0 0 (zAs [h0, h_row, h_tried, h_growing]) := by
  refine zMetM (cc := cX5_whenGone) (maxL := 4) (ret := (some .int)) (lv := [(0, .ref h0), (1, .int x1), (2, .int x2)]) rfl (by decide) rfl (Nat.le_of_ble_eq_true rfl) rfl ?_
  intro p e s m args below meth c ls Q H locs hQ hx hb hr hml hown hts hlocks hname hP hE hD hS hl
  have hown : s.vm.findClass RX5 = some m.cls := hown
  have hK := hE.1
  unfold fX5_whenGone at hF
  refine lv_aload_n (pc := 0) hx hb dX5_whenGone_0 rfl (lv_at hl 0 rfl) ?_
  refine va_get (D := D) (pc := 1) (ci := 5) (v := .ref h_row) (C := RX5) (T := TX5) (N := 30) hx hb hts nX5_whenGone_X5 hown hK hP 0 rfl rfl 0 (by decide) (hts _ kX5_whenGone_0) (fun _ h9 => h9) rfl dX5_whenGone_1 ?_
  refine lv_aload_n (pc := 4) hx hb dX5_whenGone_4 rfl (lv_at hl 0 rfl) ?_
  refine va_get (D := D) (pc := 5) (ci := 5) (v := .ref h_tried) (C := RX5) (T := TX5) (N := 30) hx hb hts nX5_whenGone_X5 hown hK hP 0 rfl rfl 3 (by decide) (hts _ kX5_whenGone_1) (fun _ h9 => h9) rfl dX5_whenGone_5 ?_
  obtain ⟨u8, hu8, hF⟩ := z_bind hF
  refine zq_callM (oc0 := none) (wc := wX5_moveAll cB cI cJ cO h_row h_tried v_row v_tried) (wc' := wX5_moveAll cB cI cJ cO h_row h_tried v_row u8) (ws' := (wX5_whenGone cB cI cJ cO h0 h_row h_tried h_growing g_fresh g_kept g_isKept g_tape g_tapeMany g_sort g_begins g_tokenEnds g_word g_value g_good g_rows g_must g_rowMany g_sorts g_sizes g_sheets g_holds g_heldNumber g_heldSize g_kind g_number g_ownHand g_traced g_bodies g_isParted v_viewed v_row u8 v_growing)) (va_runS (As := [.ref h_row, .ref h_tried]) (rest := []) ⟨hx, hb, hml, hown, hts⟩ (tX5_moveAll (l := l) (D := D) (cB := cB) (cI := cI) (cJ := cJ) (cO := cO) h_row h_tried v_row v_tried u8 hu8) (va_cwS 2 hts gX5_whenGone_X5_moveAll rfl rfl rfl (by decide +kernel) ⟨Nat.le_of_ble_eq_true rfl, Nat.le_of_ble_eq_true rfl⟩) ⟨zPre_blind, zPre_at hP hE (zD_re hD rfl) [1, 2] rfl rfl⟩ rfl rfl hl.1 rfl (lv_room (Nat.le_of_ble_eq_true rfl)) dX5_whenGone_8 ⟨Nat.zero_le _, Nat.zero_le _⟩) rfl hP (zD_re hD rfl) hS [1, 2] rfl rfl [none, some 0, some 1, none] rfl rfl rfl rfl (fun H locs hP hS => ?_)
  refine W.eq (g2 := F0 m 11 ls []) rfl ?_
  refine lv_iconst (pc := 11) (v := (nI 0)) hx hb dX5_whenGone_11 (by decide) ?_
  refine lv_istore_n (pc := 12) (lv' := [(3, .int (nI 0)), (0, .ref h0), (1, .int x1), (2, .int x2)]) hx hb dX5_whenGone_12 rfl hl (by decide) rfl (fun ls hl => ?_)
  obtain ⟨k_9, hk_9, hF⟩ := z_J hF
  have kk_9 : ∀ (y3_5 : Int32) (v_viewed_6 : Int32) (v_row_7 : Nat → Int32) (v_growing_8 : Nat → Int32) , k_9 y3_5 v_viewed_6 v_row_7 v_growing_8 = some r → ∀ (H : Heap) (locs : List Loc), va_P D vwCl (wX5_whenGone cB cI cJ cO h0 h_row h_tried h_growing g_fresh g_kept g_isKept g_tape g_tapeMany g_sort g_begins g_tokenEnds g_word g_value g_good g_rows g_must g_rowMany g_sorts g_sizes g_sheets g_holds g_heldNumber g_heldSize g_kind g_number g_ownHand g_traced g_bodies g_isParted v_viewed_6 v_row_7 u8 v_growing_8) H → va_S (zAs [h0, h_row, h_tried, h_growing]) s.heap H locs → ∀ (ls : Array Slot), lv_has ls 4 [(0, .ref h0), (3, .int y3_5)] → W p l e rX5_whenGone s m args below meth c H locs 0 0 Q (F0 m 38 ls []) := by
    intro y3_5 v_viewed_6 v_row_7 v_growing_8 hF H locs hP hS ls hl
    rw [hk_9] at hF
    refine lv_aload_n (pc := 38) hx hb dX5_whenGone_38 rfl (lv_at hl 0 rfl) ?_
    refine va_get (D := D) (pc := 39) (ci := 5) (v := .ref h_tried) (C := RX5) (T := TX5) (N := 30) hx hb hts nX5_whenGone_X5 hown hK hP 0 rfl rfl 3 (by decide) (hts _ kX5_whenGone_1) (fun _ h9 => h9) rfl dX5_whenGone_39 ?_
    refine lv_aload_n (pc := 42) hx hb dX5_whenGone_42 rfl (lv_at hl 0 rfl) ?_
    refine va_get (D := D) (pc := 43) (ci := 5) (v := .ref h_row) (C := RX5) (T := TX5) (N := 30) hx hb hts nX5_whenGone_X5 hown hK hP 0 rfl rfl 0 (by decide) (hts _ kX5_whenGone_0) (fun _ h9 => h9) rfl dX5_whenGone_43 ?_
    obtain ⟨u46, hu46, hF⟩ := z_bind hF
    refine zq_callM (oc0 := none) (wc := wX5_moveAll cB cI cJ cO h_tried h_row u8 v_row_7) (wc' := wX5_moveAll cB cI cJ cO h_tried h_row u8 u46) (ws' := (wX5_whenGone cB cI cJ cO h0 h_row h_tried h_growing g_fresh g_kept g_isKept g_tape g_tapeMany g_sort g_begins g_tokenEnds g_word g_value g_good g_rows g_must g_rowMany g_sorts g_sizes g_sheets g_holds g_heldNumber g_heldSize g_kind g_number g_ownHand g_traced g_bodies g_isParted v_viewed_6 u46 u8 v_growing_8)) (va_runS (As := [.ref h_tried, .ref h_row]) (rest := []) ⟨hx, hb, hml, hown, hts⟩ (tX5_moveAll (l := l) (D := D) (cB := cB) (cI := cI) (cJ := cJ) (cO := cO) h_tried h_row u8 v_row_7 u46 hu46) (va_cwS 2 hts gX5_whenGone_X5_moveAll rfl rfl rfl (by decide +kernel) ⟨Nat.le_of_ble_eq_true rfl, Nat.le_of_ble_eq_true rfl⟩) ⟨zPre_blind, zPre_at hP hE (zD_re hD rfl) [2, 1] rfl rfl⟩ rfl rfl hl.1 rfl (lv_room (Nat.le_of_ble_eq_true rfl)) dX5_whenGone_46 ⟨Nat.zero_le _, Nat.zero_le _⟩) rfl hP (zD_re hD rfl) hS [2, 1] rfl rfl [none, some 1, some 0, none] rfl rfl rfl rfl (fun H locs hP hS => ?_)
    refine W.eq (g2 := F0 m 49 ls []) rfl ?_
    refine lv_iload_n (pc := 49) hx hb dX5_whenGone_49 rfl (lv_at hl 1 rfl) ?_
    refine lv_bipush (pc := 50) (v := (nI 60)) hx hb dX5_whenGone_50 (by decide) ?_
    refine zb_icmp_le (pc := 52) (tgt := 60) hx hb dX5_whenGone_52 (by decide) hF (fun c_52 hF => ?_) (fun c_52 hF => ?_)
    · refine lv_iload_n (pc := 60) hx hb dX5_whenGone_60 rfl (lv_at hl 1 rfl) ?_
      exact z_iretM (pc := 61) (fun q => q.1) (fun q => (wX5_whenGone cB cI cJ cO h0 h_row h_tried h_growing g_fresh g_kept g_isKept g_tape g_tapeMany g_sort g_begins g_tokenEnds g_word g_value g_good g_rows g_must g_rowMany g_sorts g_sizes g_sheets g_holds g_heldNumber g_heldSize g_kind g_number g_ownHand g_traced g_bodies g_isParted q.2.1 q.2.2.1 q.2.2.2.1 q.2.2.2.2)) hx hb hr hlocks hP hS hF rfl hQ dX5_whenGone_61
    · refine lv_bipush (pc := 55) (v := (-3 : Int32)) hx hb dX5_whenGone_55 (by decide) ?_
      refine lv_goto (pc := 57) (tgt := 61) hx hb dX5_whenGone_57 (by decide) ?_
      exact z_iretM (pc := 61) (fun q => q.1) (fun q => (wX5_whenGone cB cI cJ cO h0 h_row h_tried h_growing g_fresh g_kept g_isKept g_tape g_tapeMany g_sort g_begins g_tokenEnds g_word g_value g_good g_rows g_must g_rowMany g_sorts g_sizes g_sheets g_holds g_heldNumber g_heldSize g_kind g_number g_ownHand g_traced g_bodies g_isParted q.2.1 q.2.2.1 q.2.2.2.1 q.2.2.2.2)) hx hb hr hlocks hP hS hF rfl hQ dX5_whenGone_61
  have hL_13 : ∀ (n : Nat) (y3_1 : Int32) (v_viewed_2 : Int32) (v_row_3 : Nat → Int32) (v_growing_4 : Nat → Int32) , fX5_whenGone_L13 x1 x2 k_9 n y3_1 v_viewed_2 v_row_3 v_growing_4 = some r → ∀ (H : Heap) (locs : List Loc), va_P D vwCl (wX5_whenGone cB cI cJ cO h0 h_row h_tried h_growing g_fresh g_kept g_isKept g_tape g_tapeMany g_sort g_begins g_tokenEnds g_word g_value g_good g_rows g_must g_rowMany g_sorts g_sizes g_sheets g_holds g_heldNumber g_heldSize g_kind g_number g_ownHand g_traced g_bodies g_isParted v_viewed_2 v_row_3 u8 v_growing_4) H → va_S (zAs [h0, h_row, h_tried, h_growing]) s.heap H locs → ∀ (ls : Array Slot), lv_has ls 4 [(0, .ref h0), (1, .int x1), (2, .int x2), (3, .int y3_1)] → W p l e rX5_whenGone s m args below meth c H locs 0 0 Q (F0 m 13 ls []) := by
    intro n
    induction n with
    | zero =>
      intro y3_1 v_viewed_2 v_row_3 v_growing_4 hF H locs hP hS ls hl
      exact z_no hF
    | succ n ih =>
      intro y3_1 v_viewed_2 v_row_3 v_growing_4 hF H locs hP hS ls hl
      rw [fX5_whenGone_L13] at hF
      refine lv_iload_n (pc := 13) hx hb dX5_whenGone_13 rfl (lv_at hl 3 rfl) ?_
      refine lv_bipush (pc := 14) (v := (nI 60)) hx hb dX5_whenGone_14 (by decide) ?_
      refine zb_icmp_gt (pc := 16) (tgt := 38) hx hb dX5_whenGone_16 (by decide) hF (fun c_16 hF => ?_) (fun c_16 hF => ?_)
      · exact kk_9 y3_1 v_viewed_2 v_row_3 v_growing_4 hF H locs hP hS ls (lv_sub hl [0, 3] rfl)
      · refine lv_aload_n (pc := 19) hx hb dX5_whenGone_19 rfl (lv_at hl 0 rfl) ?_
        refine lv_iload_n (pc := 20) hx hb dX5_whenGone_20 rfl (lv_at hl 1 rfl) ?_
        obtain ⟨u21, hu21, hF⟩ := z_bind hF
        refine zq_call (oc0 := (some (.int u21))) (va_runV (As := [.int x1]) (rest := []) ⟨hx, hb, hml, hown, hts⟩ (tX5_isGone (l := l) (D := D) (cB := cB) (cI := cI) (cJ := cJ) (cO := cO) h0 h_row g_fresh g_kept (.ref h_tried) g_isKept (.int v_viewed_2) g_tape g_tapeMany g_sort g_begins g_tokenEnds g_word g_value g_good (.ref h_growing) g_rows g_must g_rowMany g_sorts g_sizes g_sheets g_holds g_heldNumber g_heldSize g_kind g_number g_ownHand g_traced g_bodies g_isParted v_row_3 x1 u21 hu21) (cwV 1 hts gX5_whenGone_X5_isGone rfl rfl rfl (by decide +kernel) ⟨Nat.le_of_ble_eq_true rfl, Nat.le_of_ble_eq_true rfl⟩) ⟨zPre_blind, va_recv hK hP (ci := 5) (q0 := 0) rfl rfl, zPre_at hP hE (zD_re hD rfl) [0, 1] rfl rfl⟩ rfl rfl hl.1 rfl (lv_room (Nat.le_of_ble_eq_true rfl)) dX5_whenGone_21 ⟨Nat.zero_le _, Nat.zero_le _⟩) ?_
        refine W.eq (g2 := F0 m 24 ls [.int u21]) rfl ?_
        refine lv_iload_n (pc := 24) hx hb dX5_whenGone_24 rfl (lv_at hl 2 rfl) ?_
        refine zb_icmp_eq (pc := 25) (tgt := 38) hx hb dX5_whenGone_25 (by decide) hF (fun c_25 hF => ?_) (fun c_25 hF => ?_)
        · exact kk_9 y3_1 v_viewed_2 v_row_3 v_growing_4 hF H locs hP hS ls (lv_sub hl [0, 3] rfl)
        · refine lv_aload_n (pc := 28) hx hb dX5_whenGone_28 rfl (lv_at hl 0 rfl) ?_
          obtain ⟨u29, hu29, hF⟩ := z_bind hF
          refine zq_callM (oc0 := none) (wc := wX5_nightGoes cB cI cJ cO h0 h_row h_growing g_fresh g_kept (.ref h_tried) g_isKept g_tape g_tapeMany g_sort g_begins g_tokenEnds g_word g_value g_good g_rows g_must g_rowMany g_sorts g_sizes g_sheets g_holds g_heldNumber g_heldSize g_kind g_number g_ownHand g_traced g_bodies g_isParted v_viewed_2 v_row_3 v_growing_4) (wc' := wX5_nightGoes cB cI cJ cO h0 h_row h_growing g_fresh g_kept (.ref h_tried) g_isKept g_tape g_tapeMany g_sort g_begins g_tokenEnds g_word g_value g_good g_rows g_must g_rowMany g_sorts g_sizes g_sheets g_holds g_heldNumber g_heldSize g_kind g_number g_ownHand g_traced g_bodies g_isParted u29.1 u29.2.1 u29.2.2) (ws' := (wX5_whenGone cB cI cJ cO h0 h_row h_tried h_growing g_fresh g_kept g_isKept g_tape g_tapeMany g_sort g_begins g_tokenEnds g_word g_value g_good g_rows g_must g_rowMany g_sorts g_sizes g_sheets g_holds g_heldNumber g_heldSize g_kind g_number g_ownHand g_traced g_bodies g_isParted u29.1 u29.2.1 u8 u29.2.2)) (va_runV (As := []) (rest := []) ⟨hx, hb, hml, hown, hts⟩ (tX5_nightGoes (l := l) (D := D) (cB := cB) (cI := cI) (cJ := cJ) (cO := cO) h0 h_row h_growing g_fresh g_kept (.ref h_tried) g_isKept g_tape g_tapeMany g_sort g_begins g_tokenEnds g_word g_value g_good g_rows g_must g_rowMany g_sorts g_sizes g_sheets g_holds g_heldNumber g_heldSize g_kind g_number g_ownHand g_traced g_bodies g_isParted v_viewed_2 v_row_3 v_growing_4 u29 hu29) (cwV 0 hts gX5_whenGone_X5_nightGoes rfl rfl rfl (by decide +kernel) ⟨Nat.le_of_ble_eq_true rfl, Nat.le_of_ble_eq_true rfl⟩) ⟨zPre_blind, va_recv hK hP (ci := 5) (q0 := 0) rfl rfl, zPre_at hP hE (zD_re hD rfl) [0, 1, 3] rfl rfl⟩ rfl rfl hl.1 rfl (lv_room (Nat.le_of_ble_eq_true rfl)) dX5_whenGone_29 ⟨Nat.zero_le _, Nat.zero_le _⟩) rfl hP (zD_re hD rfl) hS [0, 1, 3] rfl rfl [some 0, some 1, none, some 2] rfl rfl rfl rfl (fun H locs hP hS => ?_)
          refine W.eq (g2 := F0 m 32 ls []) rfl ?_
          refine lv_iinc (pc := 32) (v := (y3_1 + 1)) (lv' := [(3, .int (y3_1 + 1)), (0, .ref h0), (1, .int x1), (2, .int x2)]) hx hb dX5_whenGone_32 hl (k := 3) rfl rfl (by decide) rfl (fun ls hl => ?_)
          refine lv_goto (pc := 35) (tgt := 13) hx hb dX5_whenGone_35 (by decide) ?_
          exact ih (y3_1 + 1) u29.1 u29.2.1 u29.2.2 hF H locs hP hS ls (lv_sub hl [1, 2, 3, 0] rfl)
  exact hL_13 zK (nI 0) v_viewed v_row v_growing hF H locs hP hS ls (lv_sub hl [1, 2, 3, 0] rfl)

abbrev rX5_stays : Room := { frames := 8, cells := 0, slots := 0, locals := 179 }
abbrev wX5_stays (cB cI cJ cO : ClassId) (h0 h_row h_tried h_growing : Nat) (g_fresh g_kept g_isKept g_tape g_tapeMany g_sort g_begins g_tokenEnds g_word g_value g_good g_rows g_must g_rowMany g_sorts g_sizes g_sheets g_holds g_heldNumber g_heldSize g_kind g_number g_ownHand g_traced g_bodies g_isParted : Value) (v_viewed : Int32) (v_row : Nat → Int32) (v_tried : Nat → Int32) (v_growing : Nat → Int32) : va_W := [(h0, .inr (5, [.ref h_row, g_fresh, g_kept, .ref h_tried, g_isKept, .int v_viewed, g_tape, g_tapeMany, g_sort, g_begins, g_tokenEnds, g_word, g_value, g_good, .ref h_growing, g_rows, g_must, g_rowMany, g_sorts, g_sizes, g_sheets, g_holds, g_heldNumber, g_heldSize, g_kind, g_number, g_ownHand, g_traced, g_bodies, g_isParted])), (h_row, .inl (cI, 68, .inl v_row)), (h_tried, .inl (cI, 68, .inl v_tried)), (h_growing, .inl (cI, 8, .inl v_growing))]
set_option maxHeartbeats 4000000 in
set_option maxRecDepth 100000 in
theorem tX5_stays {l : Launch} {D : va_G} {cB cI cJ cO : ClassId} (h0 h_row h_tried h_growing : Nat) (g_fresh g_kept g_isKept g_tape g_tapeMany g_sort g_begins g_tokenEnds g_word g_value g_good g_rows g_must g_rowMany g_sorts g_sizes g_sheets g_holds g_heldNumber g_heldSize g_kind g_number g_ownHand g_traced g_bodies g_isParted : Value) (v_viewed : Int32) (v_row : Nat → Int32) (v_tried : Nat → Int32) (v_growing : Nat → Int32) (x1 : Int32) (r : Int32 × Int32 × (Nat → Int32) × (Nat → Int32) × (Nat → Int32)) (hF : fX5_stays v_viewed v_row v_tried v_growing x1 = some r) : Met l yX5_stays wsX5_stays rX5_stays (zPre D cB cI cJ cO [.ref h0, .int x1] (wX5_stays cB cI cJ cO h0 h_row h_tried h_growing g_fresh g_kept g_isKept g_tape g_tapeMany g_sort g_begins g_tokenEnds g_word g_value g_good g_rows g_must g_rowMany g_sorts g_sizes g_sheets g_holds g_heldNumber g_heldSize g_kind g_number g_ownHand g_traced g_bodies g_isParted v_viewed v_row v_tried v_growing)) (zPM (some (.int r.1)) D (wX5_stays cB cI cJ cO h0 h_row h_tried h_growing g_fresh g_kept g_isKept g_tape g_tapeMany g_sort g_begins g_tokenEnds g_word g_value g_good g_rows g_must g_rowMany g_sorts g_sizes g_sheets g_holds g_heldNumber g_heldSize g_kind g_number g_ownHand g_traced g_bodies g_isParted r.2.1 r.2.2.1 r.2.2.2.1 r.2.2.2.2) (zAs [h0, h_row, h_tried, h_growing])) 0 0 (zAs [h0, h_row, h_tried, h_growing]) := by
  refine zMetM (cc := cX5_stays) (maxL := 2) (ret := (some .int)) (lv := [(0, .ref h0), (1, .int x1)]) rfl (by decide) rfl (Nat.le_of_ble_eq_true rfl) rfl ?_
  intro p e s m args below meth c ls Q H locs hQ hx hb hr hml hown hts hlocks hname hP hE hD hS hl
  have hown : s.vm.findClass RX5 = some m.cls := hown
  have hK := hE.1
  unfold fX5_stays at hF
  refine lv_aload_n (pc := 0) hx hb dX5_stays_0 rfl (lv_at hl 0 rfl) ?_
  refine lv_iload_n (pc := 1) hx hb dX5_stays_1 rfl (lv_at hl 1 rfl) ?_
  obtain ⟨u2, hu2, hF⟩ := z_bind hF
  refine zq_call (oc0 := (some (.int u2))) (va_runV (As := [.int x1]) (rest := []) ⟨hx, hb, hml, hown, hts⟩ (tX5_isOne (l := l) (D := D) (cB := cB) (cI := cI) (cJ := cJ) (cO := cO) h0 h_row g_fresh g_kept (.ref h_tried) g_isKept (.int v_viewed) g_tape g_tapeMany g_sort g_begins g_tokenEnds g_word g_value g_good (.ref h_growing) g_rows g_must g_rowMany g_sorts g_sizes g_sheets g_holds g_heldNumber g_heldSize g_kind g_number g_ownHand g_traced g_bodies g_isParted v_row x1 u2 hu2) (cwV 1 hts gX5_stays_X5_isOne rfl rfl rfl (by decide +kernel) ⟨Nat.le_of_ble_eq_true rfl, Nat.le_of_ble_eq_true rfl⟩) ⟨zPre_blind, va_recv hK hP (ci := 5) (q0 := 0) rfl rfl, zPre_at hP hE (zD_re hD rfl) [0, 1] rfl rfl⟩ rfl rfl hl.1 rfl (lv_room (Nat.le_of_ble_eq_true rfl)) dX5_stays_2 ⟨Nat.zero_le _, Nat.zero_le _⟩) ?_
  refine W.eq (g2 := F0 m 5 ls [.int u2]) rfl ?_
  refine zb_if_eq (pc := 5) (tgt := 17) hx hb dX5_stays_5 (by decide) hF (fun c_5 hF => ?_) (fun c_5 hF => ?_)
  · refine lv_iconst (pc := 17) (v := (-1 : Int32)) hx hb dX5_stays_17 (by decide) ?_
    exact z_iretM (pc := 18) (fun q => q.1) (fun q => (wX5_stays cB cI cJ cO h0 h_row h_tried h_growing g_fresh g_kept g_isKept g_tape g_tapeMany g_sort g_begins g_tokenEnds g_word g_value g_good g_rows g_must g_rowMany g_sorts g_sizes g_sheets g_holds g_heldNumber g_heldSize g_kind g_number g_ownHand g_traced g_bodies g_isParted q.2.1 q.2.2.1 q.2.2.2.1 q.2.2.2.2)) hx hb hr hlocks hP hS hF rfl hQ dX5_stays_18
  · refine lv_aload_n (pc := 8) hx hb dX5_stays_8 rfl (lv_at hl 0 rfl) ?_
    refine lv_iload_n (pc := 9) hx hb dX5_stays_9 rfl (lv_at hl 1 rfl) ?_
    refine lv_iconst (pc := 10) (v := (nI 1)) hx hb dX5_stays_10 (by decide) ?_
    obtain ⟨u11, hu11, hF⟩ := z_bind hF
    refine zq_callM (oc0 := (some (.int u11.1))) (wc := wX5_whenGone cB cI cJ cO h0 h_row h_tried h_growing g_fresh g_kept g_isKept g_tape g_tapeMany g_sort g_begins g_tokenEnds g_word g_value g_good g_rows g_must g_rowMany g_sorts g_sizes g_sheets g_holds g_heldNumber g_heldSize g_kind g_number g_ownHand g_traced g_bodies g_isParted v_viewed v_row v_tried v_growing) (wc' := wX5_whenGone cB cI cJ cO h0 h_row h_tried h_growing g_fresh g_kept g_isKept g_tape g_tapeMany g_sort g_begins g_tokenEnds g_word g_value g_good g_rows g_must g_rowMany g_sorts g_sizes g_sheets g_holds g_heldNumber g_heldSize g_kind g_number g_ownHand g_traced g_bodies g_isParted u11.2.1 u11.2.2.1 u11.2.2.2.1 u11.2.2.2.2) (ws' := (wX5_stays cB cI cJ cO h0 h_row h_tried h_growing g_fresh g_kept g_isKept g_tape g_tapeMany g_sort g_begins g_tokenEnds g_word g_value g_good g_rows g_must g_rowMany g_sorts g_sizes g_sheets g_holds g_heldNumber g_heldSize g_kind g_number g_ownHand g_traced g_bodies g_isParted u11.2.1 u11.2.2.1 u11.2.2.2.1 u11.2.2.2.2)) (va_runV (As := [.int x1, .int (nI 1)]) (rest := []) ⟨hx, hb, hml, hown, hts⟩ (tX5_whenGone (l := l) (D := D) (cB := cB) (cI := cI) (cJ := cJ) (cO := cO) h0 h_row h_tried h_growing g_fresh g_kept g_isKept g_tape g_tapeMany g_sort g_begins g_tokenEnds g_word g_value g_good g_rows g_must g_rowMany g_sorts g_sizes g_sheets g_holds g_heldNumber g_heldSize g_kind g_number g_ownHand g_traced g_bodies g_isParted v_viewed v_row v_tried v_growing x1 (nI 1) u11 hu11) (cwV 2 hts gX5_stays_X5_whenGone rfl rfl rfl (by decide +kernel) ⟨Nat.le_of_ble_eq_true rfl, Nat.le_of_ble_eq_true rfl⟩) ⟨zPre_blind, va_recv hK hP (ci := 5) (q0 := 0) rfl rfl, zPre_at hP hE (zD_re hD rfl) [0, 1, 2, 3] rfl rfl⟩ rfl rfl hl.1 rfl (lv_room (Nat.le_of_ble_eq_true rfl)) dX5_stays_11 ⟨Nat.zero_le _, Nat.zero_le _⟩) rfl hP (zD_re hD rfl) hS [0, 1, 2, 3] rfl rfl [some 0, some 1, some 2, some 3] rfl rfl rfl rfl (fun H locs hP hS => ?_)
    refine W.eq (g2 := F0 m 14 ls [.int u11.1]) rfl ?_
    refine lv_goto (pc := 14) (tgt := 18) hx hb dX5_stays_14 (by decide) ?_
    exact z_iretM (pc := 18) (fun q => q.1) (fun q => (wX5_stays cB cI cJ cO h0 h_row h_tried h_growing g_fresh g_kept g_isKept g_tape g_tapeMany g_sort g_begins g_tokenEnds g_word g_value g_good g_rows g_must g_rowMany g_sorts g_sizes g_sheets g_holds g_heldNumber g_heldSize g_kind g_number g_ownHand g_traced g_bodies g_isParted q.2.1 q.2.2.1 q.2.2.2.1 q.2.2.2.2)) hx hb hr hlocks hP hS hF rfl hQ dX5_stays_18

abbrev rX5_comes : Room := { frames := 8, cells := 0, slots := 0, locals := 179 }
abbrev wX5_comes (cB cI cJ cO : ClassId) (h0 h_row h_tried h_growing : Nat) (g_fresh g_kept g_isKept g_tape g_tapeMany g_sort g_begins g_tokenEnds g_word g_value g_good g_rows g_must g_rowMany g_sorts g_sizes g_sheets g_holds g_heldNumber g_heldSize g_kind g_number g_ownHand g_traced g_bodies g_isParted : Value) (v_viewed : Int32) (v_row : Nat → Int32) (v_tried : Nat → Int32) (v_growing : Nat → Int32) : va_W := [(h0, .inr (5, [.ref h_row, g_fresh, g_kept, .ref h_tried, g_isKept, .int v_viewed, g_tape, g_tapeMany, g_sort, g_begins, g_tokenEnds, g_word, g_value, g_good, .ref h_growing, g_rows, g_must, g_rowMany, g_sorts, g_sizes, g_sheets, g_holds, g_heldNumber, g_heldSize, g_kind, g_number, g_ownHand, g_traced, g_bodies, g_isParted])), (h_row, .inl (cI, 68, .inl v_row)), (h_tried, .inl (cI, 68, .inl v_tried)), (h_growing, .inl (cI, 8, .inl v_growing))]
set_option maxHeartbeats 4000000 in
set_option maxRecDepth 100000 in
theorem tX5_comes {l : Launch} {D : va_G} {cB cI cJ cO : ClassId} (h0 h_row h_tried h_growing : Nat) (g_fresh g_kept g_isKept g_tape g_tapeMany g_sort g_begins g_tokenEnds g_word g_value g_good g_rows g_must g_rowMany g_sorts g_sizes g_sheets g_holds g_heldNumber g_heldSize g_kind g_number g_ownHand g_traced g_bodies g_isParted : Value) (v_viewed : Int32) (v_row : Nat → Int32) (v_tried : Nat → Int32) (v_growing : Nat → Int32) (x1 : Int32) (r : Int32 × Int32 × (Nat → Int32) × (Nat → Int32) × (Nat → Int32)) (hF : fX5_comes v_viewed v_row v_tried v_growing x1 = some r) : Met l yX5_comes wsX5_comes rX5_comes (zPre D cB cI cJ cO [.ref h0, .int x1] (wX5_comes cB cI cJ cO h0 h_row h_tried h_growing g_fresh g_kept g_isKept g_tape g_tapeMany g_sort g_begins g_tokenEnds g_word g_value g_good g_rows g_must g_rowMany g_sorts g_sizes g_sheets g_holds g_heldNumber g_heldSize g_kind g_number g_ownHand g_traced g_bodies g_isParted v_viewed v_row v_tried v_growing)) (zPM (some (.int r.1)) D (wX5_comes cB cI cJ cO h0 h_row h_tried h_growing g_fresh g_kept g_isKept g_tape g_tapeMany g_sort g_begins g_tokenEnds g_word g_value g_good g_rows g_must g_rowMany g_sorts g_sizes g_sheets g_holds g_heldNumber g_heldSize g_kind g_number g_ownHand g_traced g_bodies g_isParted r.2.1 r.2.2.1 r.2.2.2.1 r.2.2.2.2) (zAs [h0, h_row, h_tried, h_growing])) 0 0 (zAs [h0, h_row, h_tried, h_growing]) := by
  refine zMetM (cc := cX5_comes) (maxL := 2) (ret := (some .int)) (lv := [(0, .ref h0), (1, .int x1)]) rfl (by decide) rfl (Nat.le_of_ble_eq_true rfl) rfl ?_
  intro p e s m args below meth c ls Q H locs hQ hx hb hr hml hown hts hlocks hname hP hE hD hS hl
  have hown : s.vm.findClass RX5 = some m.cls := hown
  have hK := hE.1
  unfold fX5_comes at hF
  refine lv_aload_n (pc := 0) hx hb dX5_comes_0 rfl (lv_at hl 0 rfl) ?_
  refine lv_iload_n (pc := 1) hx hb dX5_comes_1 rfl (lv_at hl 1 rfl) ?_
  obtain ⟨u2, hu2, hF⟩ := z_bind hF
  refine zq_call (oc0 := (some (.int u2))) (va_runV (As := [.int x1]) (rest := []) ⟨hx, hb, hml, hown, hts⟩ (tX5_isOne (l := l) (D := D) (cB := cB) (cI := cI) (cJ := cJ) (cO := cO) h0 h_row g_fresh g_kept (.ref h_tried) g_isKept (.int v_viewed) g_tape g_tapeMany g_sort g_begins g_tokenEnds g_word g_value g_good (.ref h_growing) g_rows g_must g_rowMany g_sorts g_sizes g_sheets g_holds g_heldNumber g_heldSize g_kind g_number g_ownHand g_traced g_bodies g_isParted v_row x1 u2 hu2) (cwV 1 hts gX5_comes_X5_isOne rfl rfl rfl (by decide +kernel) ⟨Nat.le_of_ble_eq_true rfl, Nat.le_of_ble_eq_true rfl⟩) ⟨zPre_blind, va_recv hK hP (ci := 5) (q0 := 0) rfl rfl, zPre_at hP hE (zD_re hD rfl) [0, 1] rfl rfl⟩ rfl rfl hl.1 rfl (lv_room (Nat.le_of_ble_eq_true rfl)) dX5_comes_2 ⟨Nat.zero_le _, Nat.zero_le _⟩) ?_
  refine W.eq (g2 := F0 m 5 ls [.int u2]) rfl ?_
  refine zb_if_eq (pc := 5) (tgt := 17) hx hb dX5_comes_5 (by decide) hF (fun c_5 hF => ?_) (fun c_5 hF => ?_)
  · refine lv_iconst (pc := 17) (v := (-1 : Int32)) hx hb dX5_comes_17 (by decide) ?_
    exact z_iretM (pc := 18) (fun q => q.1) (fun q => (wX5_comes cB cI cJ cO h0 h_row h_tried h_growing g_fresh g_kept g_isKept g_tape g_tapeMany g_sort g_begins g_tokenEnds g_word g_value g_good g_rows g_must g_rowMany g_sorts g_sizes g_sheets g_holds g_heldNumber g_heldSize g_kind g_number g_ownHand g_traced g_bodies g_isParted q.2.1 q.2.2.1 q.2.2.2.1 q.2.2.2.2)) hx hb hr hlocks hP hS hF rfl hQ dX5_comes_18
  · refine lv_aload_n (pc := 8) hx hb dX5_comes_8 rfl (lv_at hl 0 rfl) ?_
    refine lv_iload_n (pc := 9) hx hb dX5_comes_9 rfl (lv_at hl 1 rfl) ?_
    refine lv_iconst (pc := 10) (v := (nI 0)) hx hb dX5_comes_10 (by decide) ?_
    obtain ⟨u11, hu11, hF⟩ := z_bind hF
    refine zq_callM (oc0 := (some (.int u11.1))) (wc := wX5_whenGone cB cI cJ cO h0 h_row h_tried h_growing g_fresh g_kept g_isKept g_tape g_tapeMany g_sort g_begins g_tokenEnds g_word g_value g_good g_rows g_must g_rowMany g_sorts g_sizes g_sheets g_holds g_heldNumber g_heldSize g_kind g_number g_ownHand g_traced g_bodies g_isParted v_viewed v_row v_tried v_growing) (wc' := wX5_whenGone cB cI cJ cO h0 h_row h_tried h_growing g_fresh g_kept g_isKept g_tape g_tapeMany g_sort g_begins g_tokenEnds g_word g_value g_good g_rows g_must g_rowMany g_sorts g_sizes g_sheets g_holds g_heldNumber g_heldSize g_kind g_number g_ownHand g_traced g_bodies g_isParted u11.2.1 u11.2.2.1 u11.2.2.2.1 u11.2.2.2.2) (ws' := (wX5_comes cB cI cJ cO h0 h_row h_tried h_growing g_fresh g_kept g_isKept g_tape g_tapeMany g_sort g_begins g_tokenEnds g_word g_value g_good g_rows g_must g_rowMany g_sorts g_sizes g_sheets g_holds g_heldNumber g_heldSize g_kind g_number g_ownHand g_traced g_bodies g_isParted u11.2.1 u11.2.2.1 u11.2.2.2.1 u11.2.2.2.2)) (va_runV (As := [.int x1, .int (nI 0)]) (rest := []) ⟨hx, hb, hml, hown, hts⟩ (tX5_whenGone (l := l) (D := D) (cB := cB) (cI := cI) (cJ := cJ) (cO := cO) h0 h_row h_tried h_growing g_fresh g_kept g_isKept g_tape g_tapeMany g_sort g_begins g_tokenEnds g_word g_value g_good g_rows g_must g_rowMany g_sorts g_sizes g_sheets g_holds g_heldNumber g_heldSize g_kind g_number g_ownHand g_traced g_bodies g_isParted v_viewed v_row v_tried v_growing x1 (nI 0) u11 hu11) (cwV 2 hts gX5_comes_X5_whenGone rfl rfl rfl (by decide +kernel) ⟨Nat.le_of_ble_eq_true rfl, Nat.le_of_ble_eq_true rfl⟩) ⟨zPre_blind, va_recv hK hP (ci := 5) (q0 := 0) rfl rfl, zPre_at hP hE (zD_re hD rfl) [0, 1, 2, 3] rfl rfl⟩ rfl rfl hl.1 rfl (lv_room (Nat.le_of_ble_eq_true rfl)) dX5_comes_11 ⟨Nat.zero_le _, Nat.zero_le _⟩) rfl hP (zD_re hD rfl) hS [0, 1, 2, 3] rfl rfl [some 0, some 1, some 2, some 3] rfl rfl rfl rfl (fun H locs hP hS => ?_)
    refine W.eq (g2 := F0 m 14 ls [.int u11.1]) rfl ?_
    refine lv_goto (pc := 14) (tgt := 18) hx hb dX5_comes_14 (by decide) ?_
    exact z_iretM (pc := 18) (fun q => q.1) (fun q => (wX5_comes cB cI cJ cO h0 h_row h_tried h_growing g_fresh g_kept g_isKept g_tape g_tapeMany g_sort g_begins g_tokenEnds g_word g_value g_good g_rows g_must g_rowMany g_sorts g_sizes g_sheets g_holds g_heldNumber g_heldSize g_kind g_number g_ownHand g_traced g_bodies g_isParted q.2.1 q.2.2.1 q.2.2.2.1 q.2.2.2.2)) hx hb hr hlocks hP hS hF rfl hQ dX5_comes_18

abbrev rX5_clear : Room := { frames := 7, cells := 0, slots := 0, locals := 156 }
abbrev wX5_clear (cB cI cJ cO : ClassId) (h0 h_row h_tried h_growing : Nat) (g_fresh g_kept g_isKept g_tape g_tapeMany g_sort g_begins g_tokenEnds g_word g_value g_good g_rows g_must g_rowMany g_sorts g_sizes g_sheets g_holds g_heldNumber g_heldSize g_kind g_number g_ownHand g_traced g_bodies g_isParted : Value) (v_viewed : Int32) (v_row : Nat → Int32) (v_tried : Nat → Int32) (v_growing : Nat → Int32) : va_W := [(h0, .inr (5, [.ref h_row, g_fresh, g_kept, .ref h_tried, g_isKept, .int v_viewed, g_tape, g_tapeMany, g_sort, g_begins, g_tokenEnds, g_word, g_value, g_good, .ref h_growing, g_rows, g_must, g_rowMany, g_sorts, g_sizes, g_sheets, g_holds, g_heldNumber, g_heldSize, g_kind, g_number, g_ownHand, g_traced, g_bodies, g_isParted])), (h_row, .inl (cI, 68, .inl v_row)), (h_tried, .inl (cI, 68, .inl v_tried)), (h_growing, .inl (cI, 8, .inl v_growing))]
theorem nX5_clear_X5 : ∀ w ∈ wsX50, w ∈ wsX5_clear := by decide +kernel
theorem kX5_clear_0 : Cond.fieldLink RX5 7 "PaintedWallsModel" "row" "[I" ∈ wsX5_clear := by decide +kernel
theorem kX5_clear_1 : Cond.fieldLink RX5 19 "PaintedWallsModel" "tried" "[I" ∈ wsX5_clear := by decide +kernel
set_option maxHeartbeats 4000000 in
set_option maxRecDepth 100000 in
theorem tX5_clear {l : Launch} {D : va_G} {cB cI cJ cO : ClassId} (h0 h_row h_tried h_growing : Nat) (g_fresh g_kept g_isKept g_tape g_tapeMany g_sort g_begins g_tokenEnds g_word g_value g_good g_rows g_must g_rowMany g_sorts g_sizes g_sheets g_holds g_heldNumber g_heldSize g_kind g_number g_ownHand g_traced g_bodies g_isParted : Value) (v_viewed : Int32) (v_row : Nat → Int32) (v_tried : Nat → Int32) (v_growing : Nat → Int32) (r : Int32 × Int32 × (Nat → Int32) × (Nat → Int32) × (Nat → Int32)) (hF : fX5_clear v_viewed v_row v_tried v_growing = some r) : Met l yX5_clear wsX5_clear rX5_clear (zPre D cB cI cJ cO [.ref h0] (wX5_clear cB cI cJ cO h0 h_row h_tried h_growing g_fresh g_kept g_isKept g_tape g_tapeMany g_sort g_begins g_tokenEnds g_word g_value g_good g_rows g_must g_rowMany g_sorts g_sizes g_sheets g_holds g_heldNumber g_heldSize g_kind g_number g_ownHand g_traced g_bodies g_isParted v_viewed v_row v_tried v_growing)) (zPM (some (.int r.1)) D (wX5_clear cB cI cJ cO h0 h_row h_tried h_growing g_fresh g_kept g_isKept g_tape g_tapeMany g_sort g_begins g_tokenEnds g_word g_value g_good g_rows g_must g_rowMany g_sorts g_sizes g_sheets g_holds g_heldNumber g_heldSize g_kind g_number g_ownHand g_traced g_bodies g_isParted r.2.1 r.2.2.1 r.2.2.2.1 r.2.2.2.2) (zAs [h0, h_row, h_tried, h_growing])) 0 0 (zAs [h0, h_row, h_tried, h_growing]) := by
  refine zMetM (cc := cX5_clear) (maxL := 2) (ret := (some .int)) (lv := [(0, .ref h0)]) rfl (by decide) rfl (Nat.le_of_ble_eq_true rfl) rfl ?_
  intro p e s m args below meth c ls Q H locs hQ hx hb hr hml hown hts hlocks hname hP hE hD hS hl
  have hown : s.vm.findClass RX5 = some m.cls := hown
  have hK := hE.1
  unfold fX5_clear at hF
  refine lv_aload_n (pc := 0) hx hb dX5_clear_0 rfl (lv_at hl 0 rfl) ?_
  refine va_get (D := D) (pc := 1) (ci := 5) (v := .ref h_row) (C := RX5) (T := TX5) (N := 30) hx hb hts nX5_clear_X5 hown hK hP 0 rfl rfl 0 (by decide) (hts _ kX5_clear_0) (fun _ h9 => h9) rfl dX5_clear_1 ?_
  refine lv_aload_n (pc := 4) hx hb dX5_clear_4 rfl (lv_at hl 0 rfl) ?_
  refine va_get (D := D) (pc := 5) (ci := 5) (v := .ref h_tried) (C := RX5) (T := TX5) (N := 30) hx hb hts nX5_clear_X5 hown hK hP 0 rfl rfl 3 (by decide) (hts _ kX5_clear_1) (fun _ h9 => h9) rfl dX5_clear_5 ?_
  obtain ⟨u8, hu8, hF⟩ := z_bind hF
  refine zq_callM (oc0 := none) (wc := wX5_moveAll cB cI cJ cO h_row h_tried v_row v_tried) (wc' := wX5_moveAll cB cI cJ cO h_row h_tried v_row u8) (ws' := (wX5_clear cB cI cJ cO h0 h_row h_tried h_growing g_fresh g_kept g_isKept g_tape g_tapeMany g_sort g_begins g_tokenEnds g_word g_value g_good g_rows g_must g_rowMany g_sorts g_sizes g_sheets g_holds g_heldNumber g_heldSize g_kind g_number g_ownHand g_traced g_bodies g_isParted v_viewed v_row u8 v_growing)) (va_runS (As := [.ref h_row, .ref h_tried]) (rest := []) ⟨hx, hb, hml, hown, hts⟩ (tX5_moveAll (l := l) (D := D) (cB := cB) (cI := cI) (cJ := cJ) (cO := cO) h_row h_tried v_row v_tried u8 hu8) (va_cwS 2 hts gX5_clear_X5_moveAll rfl rfl rfl (by decide +kernel) ⟨Nat.le_of_ble_eq_true rfl, Nat.le_of_ble_eq_true rfl⟩) ⟨zPre_blind, zPre_at hP hE (zD_re hD rfl) [1, 2] rfl rfl⟩ rfl rfl hl.1 rfl (lv_room (Nat.le_of_ble_eq_true rfl)) dX5_clear_8 ⟨Nat.zero_le _, Nat.zero_le _⟩) rfl hP (zD_re hD rfl) hS [1, 2] rfl rfl [none, some 0, some 1, none] rfl rfl rfl rfl (fun H locs hP hS => ?_)
  refine W.eq (g2 := F0 m 11 ls []) rfl ?_
  refine lv_iconst (pc := 11) (v := (nI 0)) hx hb dX5_clear_11 (by decide) ?_
  refine lv_istore_n (pc := 12) (lv' := [(1, .int (nI 0)), (0, .ref h0)]) hx hb dX5_clear_12 rfl hl (by decide) rfl (fun ls hl => ?_)
  obtain ⟨k_9, hk_9, hF⟩ := z_J hF
  have kk_9 : ∀ (y1_5 : Int32) (v_viewed_6 : Int32) (v_row_7 : Nat → Int32) (v_growing_8 : Nat → Int32) , k_9 y1_5 v_viewed_6 v_row_7 v_growing_8 = some r → ∀ (H : Heap) (locs : List Loc), va_P D vwCl (wX5_clear cB cI cJ cO h0 h_row h_tried h_growing g_fresh g_kept g_isKept g_tape g_tapeMany g_sort g_begins g_tokenEnds g_word g_value g_good g_rows g_must g_rowMany g_sorts g_sizes g_sheets g_holds g_heldNumber g_heldSize g_kind g_number g_ownHand g_traced g_bodies g_isParted v_viewed_6 v_row_7 u8 v_growing_8) H → va_S (zAs [h0, h_row, h_tried, h_growing]) s.heap H locs → ∀ (ls : Array Slot), lv_has ls 2 [(0, .ref h0), (1, .int y1_5)] → W p l e rX5_clear s m args below meth c H locs 0 0 Q (F0 m 36 ls []) := by
    intro y1_5 v_viewed_6 v_row_7 v_growing_8 hF H locs hP hS ls hl
    rw [hk_9] at hF
    refine lv_aload_n (pc := 36) hx hb dX5_clear_36 rfl (lv_at hl 0 rfl) ?_
    refine va_get (D := D) (pc := 37) (ci := 5) (v := .ref h_tried) (C := RX5) (T := TX5) (N := 30) hx hb hts nX5_clear_X5 hown hK hP 0 rfl rfl 3 (by decide) (hts _ kX5_clear_1) (fun _ h9 => h9) rfl dX5_clear_37 ?_
    refine lv_aload_n (pc := 40) hx hb dX5_clear_40 rfl (lv_at hl 0 rfl) ?_
    refine va_get (D := D) (pc := 41) (ci := 5) (v := .ref h_row) (C := RX5) (T := TX5) (N := 30) hx hb hts nX5_clear_X5 hown hK hP 0 rfl rfl 0 (by decide) (hts _ kX5_clear_0) (fun _ h9 => h9) rfl dX5_clear_41 ?_
    obtain ⟨u44, hu44, hF⟩ := z_bind hF
    refine zq_callM (oc0 := none) (wc := wX5_moveAll cB cI cJ cO h_tried h_row u8 v_row_7) (wc' := wX5_moveAll cB cI cJ cO h_tried h_row u8 u44) (ws' := (wX5_clear cB cI cJ cO h0 h_row h_tried h_growing g_fresh g_kept g_isKept g_tape g_tapeMany g_sort g_begins g_tokenEnds g_word g_value g_good g_rows g_must g_rowMany g_sorts g_sizes g_sheets g_holds g_heldNumber g_heldSize g_kind g_number g_ownHand g_traced g_bodies g_isParted v_viewed_6 u44 u8 v_growing_8)) (va_runS (As := [.ref h_tried, .ref h_row]) (rest := []) ⟨hx, hb, hml, hown, hts⟩ (tX5_moveAll (l := l) (D := D) (cB := cB) (cI := cI) (cJ := cJ) (cO := cO) h_tried h_row u8 v_row_7 u44 hu44) (va_cwS 2 hts gX5_clear_X5_moveAll rfl rfl rfl (by decide +kernel) ⟨Nat.le_of_ble_eq_true rfl, Nat.le_of_ble_eq_true rfl⟩) ⟨zPre_blind, zPre_at hP hE (zD_re hD rfl) [2, 1] rfl rfl⟩ rfl rfl hl.1 rfl (lv_room (Nat.le_of_ble_eq_true rfl)) dX5_clear_44 ⟨Nat.zero_le _, Nat.zero_le _⟩) rfl hP (zD_re hD rfl) hS [2, 1] rfl rfl [none, some 1, some 0, none] rfl rfl rfl rfl (fun H locs hP hS => ?_)
    refine W.eq (g2 := F0 m 47 ls []) rfl ?_
    refine lv_iload_n (pc := 47) hx hb dX5_clear_47 rfl (lv_at hl 1 rfl) ?_
    refine lv_bipush (pc := 48) (v := (nI 60)) hx hb dX5_clear_48 (by decide) ?_
    refine zb_icmp_le (pc := 50) (tgt := 58) hx hb dX5_clear_50 (by decide) hF (fun c_50 hF => ?_) (fun c_50 hF => ?_)
    · refine lv_iload_n (pc := 58) hx hb dX5_clear_58 rfl (lv_at hl 1 rfl) ?_
      exact z_iretM (pc := 59) (fun q => q.1) (fun q => (wX5_clear cB cI cJ cO h0 h_row h_tried h_growing g_fresh g_kept g_isKept g_tape g_tapeMany g_sort g_begins g_tokenEnds g_word g_value g_good g_rows g_must g_rowMany g_sorts g_sizes g_sheets g_holds g_heldNumber g_heldSize g_kind g_number g_ownHand g_traced g_bodies g_isParted q.2.1 q.2.2.1 q.2.2.2.1 q.2.2.2.2)) hx hb hr hlocks hP hS hF rfl hQ dX5_clear_59
    · refine lv_bipush (pc := 53) (v := (-3 : Int32)) hx hb dX5_clear_53 (by decide) ?_
      refine lv_goto (pc := 55) (tgt := 59) hx hb dX5_clear_55 (by decide) ?_
      exact z_iretM (pc := 59) (fun q => q.1) (fun q => (wX5_clear cB cI cJ cO h0 h_row h_tried h_growing g_fresh g_kept g_isKept g_tape g_tapeMany g_sort g_begins g_tokenEnds g_word g_value g_good g_rows g_must g_rowMany g_sorts g_sizes g_sheets g_holds g_heldNumber g_heldSize g_kind g_number g_ownHand g_traced g_bodies g_isParted q.2.1 q.2.2.1 q.2.2.2.1 q.2.2.2.2)) hx hb hr hlocks hP hS hF rfl hQ dX5_clear_59
  have hL_13 : ∀ (n : Nat) (y1_1 : Int32) (v_viewed_2 : Int32) (v_row_3 : Nat → Int32) (v_growing_4 : Nat → Int32) , fX5_clear_L13 k_9 n y1_1 v_viewed_2 v_row_3 v_growing_4 = some r → ∀ (H : Heap) (locs : List Loc), va_P D vwCl (wX5_clear cB cI cJ cO h0 h_row h_tried h_growing g_fresh g_kept g_isKept g_tape g_tapeMany g_sort g_begins g_tokenEnds g_word g_value g_good g_rows g_must g_rowMany g_sorts g_sizes g_sheets g_holds g_heldNumber g_heldSize g_kind g_number g_ownHand g_traced g_bodies g_isParted v_viewed_2 v_row_3 u8 v_growing_4) H → va_S (zAs [h0, h_row, h_tried, h_growing]) s.heap H locs → ∀ (ls : Array Slot), lv_has ls 2 [(0, .ref h0), (1, .int y1_1)] → W p l e rX5_clear s m args below meth c H locs 0 0 Q (F0 m 13 ls []) := by
    intro n
    induction n with
    | zero =>
      intro y1_1 v_viewed_2 v_row_3 v_growing_4 hF H locs hP hS ls hl
      exact z_no hF
    | succ n ih =>
      intro y1_1 v_viewed_2 v_row_3 v_growing_4 hF H locs hP hS ls hl
      rw [fX5_clear_L13] at hF
      refine lv_iload_n (pc := 13) hx hb dX5_clear_13 rfl (lv_at hl 1 rfl) ?_
      refine lv_bipush (pc := 14) (v := (nI 60)) hx hb dX5_clear_14 (by decide) ?_
      refine zb_icmp_gt (pc := 16) (tgt := 36) hx hb dX5_clear_16 (by decide) hF (fun c_16 hF => ?_) (fun c_16 hF => ?_)
      · exact kk_9 y1_1 v_viewed_2 v_row_3 v_growing_4 hF H locs hP hS ls (lv_sub hl [0, 1] rfl)
      · refine lv_aload_n (pc := 19) hx hb dX5_clear_19 rfl (lv_at hl 0 rfl) ?_
        obtain ⟨u20, hu20, hF⟩ := z_bind hF
        refine zq_call (oc0 := (some (.int u20))) (va_runV (As := []) (rest := []) ⟨hx, hb, hml, hown, hts⟩ (tX5_looksOfAll (l := l) (D := D) (cB := cB) (cI := cI) (cJ := cJ) (cO := cO) h0 h_row g_fresh g_kept (.ref h_tried) g_isKept (.int v_viewed_2) g_tape g_tapeMany g_sort g_begins g_tokenEnds g_word g_value g_good (.ref h_growing) g_rows g_must g_rowMany g_sorts g_sizes g_sheets g_holds g_heldNumber g_heldSize g_kind g_number g_ownHand g_traced g_bodies g_isParted v_row_3 u20 hu20) (cwV 0 hts gX5_clear_X5_looksOfAll rfl rfl rfl (by decide +kernel) ⟨Nat.le_of_ble_eq_true rfl, Nat.le_of_ble_eq_true rfl⟩) ⟨zPre_blind, va_recv hK hP (ci := 5) (q0 := 0) rfl rfl, zPre_at hP hE (zD_re hD rfl) [0, 1] rfl rfl⟩ rfl rfl hl.1 rfl (lv_room (Nat.le_of_ble_eq_true rfl)) dX5_clear_20 ⟨Nat.zero_le _, Nat.zero_le _⟩) ?_
        refine W.eq (g2 := F0 m 23 ls [.int u20]) rfl ?_
        refine zb_if_le (pc := 23) (tgt := 36) hx hb dX5_clear_23 (by decide) hF (fun c_23 hF => ?_) (fun c_23 hF => ?_)
        · exact kk_9 y1_1 v_viewed_2 v_row_3 v_growing_4 hF H locs hP hS ls (lv_sub hl [0, 1] rfl)
        · refine lv_aload_n (pc := 26) hx hb dX5_clear_26 rfl (lv_at hl 0 rfl) ?_
          obtain ⟨u27, hu27, hF⟩ := z_bind hF
          refine zq_callM (oc0 := none) (wc := wX5_nightGoes cB cI cJ cO h0 h_row h_growing g_fresh g_kept (.ref h_tried) g_isKept g_tape g_tapeMany g_sort g_begins g_tokenEnds g_word g_value g_good g_rows g_must g_rowMany g_sorts g_sizes g_sheets g_holds g_heldNumber g_heldSize g_kind g_number g_ownHand g_traced g_bodies g_isParted v_viewed_2 v_row_3 v_growing_4) (wc' := wX5_nightGoes cB cI cJ cO h0 h_row h_growing g_fresh g_kept (.ref h_tried) g_isKept g_tape g_tapeMany g_sort g_begins g_tokenEnds g_word g_value g_good g_rows g_must g_rowMany g_sorts g_sizes g_sheets g_holds g_heldNumber g_heldSize g_kind g_number g_ownHand g_traced g_bodies g_isParted u27.1 u27.2.1 u27.2.2) (ws' := (wX5_clear cB cI cJ cO h0 h_row h_tried h_growing g_fresh g_kept g_isKept g_tape g_tapeMany g_sort g_begins g_tokenEnds g_word g_value g_good g_rows g_must g_rowMany g_sorts g_sizes g_sheets g_holds g_heldNumber g_heldSize g_kind g_number g_ownHand g_traced g_bodies g_isParted u27.1 u27.2.1 u8 u27.2.2)) (va_runV (As := []) (rest := []) ⟨hx, hb, hml, hown, hts⟩ (tX5_nightGoes (l := l) (D := D) (cB := cB) (cI := cI) (cJ := cJ) (cO := cO) h0 h_row h_growing g_fresh g_kept (.ref h_tried) g_isKept g_tape g_tapeMany g_sort g_begins g_tokenEnds g_word g_value g_good g_rows g_must g_rowMany g_sorts g_sizes g_sheets g_holds g_heldNumber g_heldSize g_kind g_number g_ownHand g_traced g_bodies g_isParted v_viewed_2 v_row_3 v_growing_4 u27 hu27) (cwV 0 hts gX5_clear_X5_nightGoes rfl rfl rfl (by decide +kernel) ⟨Nat.le_of_ble_eq_true rfl, Nat.le_of_ble_eq_true rfl⟩) ⟨zPre_blind, va_recv hK hP (ci := 5) (q0 := 0) rfl rfl, zPre_at hP hE (zD_re hD rfl) [0, 1, 3] rfl rfl⟩ rfl rfl hl.1 rfl (lv_room (Nat.le_of_ble_eq_true rfl)) dX5_clear_27 ⟨Nat.zero_le _, Nat.zero_le _⟩) rfl hP (zD_re hD rfl) hS [0, 1, 3] rfl rfl [some 0, some 1, none, some 2] rfl rfl rfl rfl (fun H locs hP hS => ?_)
          refine W.eq (g2 := F0 m 30 ls []) rfl ?_
          refine lv_iinc (pc := 30) (v := (y1_1 + 1)) (lv' := [(1, .int (y1_1 + 1)), (0, .ref h0)]) hx hb dX5_clear_30 hl (k := 1) rfl rfl (by decide) rfl (fun ls hl => ?_)
          refine lv_goto (pc := 33) (tgt := 13) hx hb dX5_clear_33 (by decide) ?_
          exact ih (y1_1 + 1) u27.1 u27.2.1 u27.2.2 hF H locs hP hS ls (lv_sub hl [1, 0] rfl)
  exact hL_13 zK (nI 0) v_viewed v_row v_growing hF H locs hP hS ls (lv_sub hl [1, 0] rfl)
