set_option maxHeartbeats 4000000 in
set_option maxRecDepth 100000 in
theorem k_M_corners (l : Launch) (dC : Nat → ClassId) (dI : Nat → Nat → Nat) (cI : ClassId) (cZ : ClassId) (tt : Nat → Nat) (sd : Nat → Nat) (a_this : Nat) (a_this_s : Nat) (a_this_image : Nat) (a_this_was : Nat) (a_this_letters : Nat) (a_this_row : Nat) (a_this_refused : Nat) (a_this_numbers : Nat) (a_this_least : Nat) (a_this_stepsFrom : Nat) (a_this_most : Nat) (a_this_next : Nat) (a_this_otherSteps : Nat) (a_this_ahead : Nat) (a_this_now : Nat) (sz : Nat) (v_hasImage : Int32) (v_letterMany : Int32) (v_rowMany : Int32) (v_place : Int32) (v_seed : Int32) (g_least : Nat → Int32) (g_refused : Nat → Int32) (g_s : Nat → Int32) (p1 : Int32) (p2 : Int32) (p3 : Int32) (r0 : Int32) (w0 : Nat → Int32) (w1 : Nat → Int32) (hf : f_M_corners g_least g_refused g_s p1 p2 p3 = some (r0, w0, w1)) : Met l yX8_corners wsX8_corners ({ frames := 6, cells := 0, slots := 0, locals := 143 }) (zPre (dC, dI) vwCl [(cI, .int), (cZ, .boolean)] tt sd [.ref a_this, .int p1, .int p2, .int p3] [(a_this, .inr (8, [.ref a_this_s, .ref a_this_image, .ref a_this_was, .int v_hasImage, .ref a_this_letters, .ref a_this_row, .ref a_this_refused, .int v_letterMany, .int v_rowMany, .int v_place, .ref a_this_numbers, .ref a_this_least, .ref a_this_stepsFrom, .ref a_this_most, .ref a_this_next, .ref a_this_otherSteps, .ref a_this_ahead, .ref a_this_now, .int v_seed])), (a_this_least, .inl (cI, 180, .inl g_least)), (a_this_refused, .inl (cI, 7, .inl g_refused)), (a_this_s, .inl (cI, 39, .inl g_s))] sz) (zQi (dC, dI) vwCl [(cI, .int), (cZ, .boolean)] r0 [(a_this, .inr (8, [.ref a_this_s, .ref a_this_image, .ref a_this_was, .int v_hasImage, .ref a_this_letters, .ref a_this_row, .ref a_this_refused, .int v_letterMany, .int v_rowMany, .int v_place, .ref a_this_numbers, .ref a_this_least, .ref a_this_stepsFrom, .ref a_this_most, .ref a_this_next, .ref a_this_otherSteps, .ref a_this_ahead, .ref a_this_now, .int v_seed])), (a_this_least, .inl (cI, 180, .inl w0)), (a_this_refused, .inl (cI, 7, .inl w1)), (a_this_s, .inl (cI, 39, .inl g_s))] (va_A [(a_this, .inr (8, [.ref a_this_s, .ref a_this_image, .ref a_this_was, .int v_hasImage, .ref a_this_letters, .ref a_this_row, .ref a_this_refused, .int v_letterMany, .int v_rowMany, .int v_place, .ref a_this_numbers, .ref a_this_least, .ref a_this_stepsFrom, .ref a_this_most, .ref a_this_next, .ref a_this_otherSteps, .ref a_this_ahead, .ref a_this_now, .int v_seed])), (a_this_least, .inl (cI, 180, .inl g_least)), (a_this_refused, .inl (cI, 7, .inl g_refused)), (a_this_s, .inl (cI, 39, .inl g_s))] sz)) 0 0 (va_A [(a_this, .inr (8, [.ref a_this_s, .ref a_this_image, .ref a_this_was, .int v_hasImage, .ref a_this_letters, .ref a_this_row, .ref a_this_refused, .int v_letterMany, .int v_rowMany, .int v_place, .ref a_this_numbers, .ref a_this_least, .ref a_this_stepsFrom, .ref a_this_most, .ref a_this_next, .ref a_this_otherSteps, .ref a_this_ahead, .ref a_this_now, .int v_seed])), (a_this_least, .inl (cI, 180, .inl g_least)), (a_this_refused, .inl (cI, 7, .inl g_refused)), (a_this_s, .inl (cI, 39, .inl g_s))] sz) := by
  refine Met.ofW (cc := cX8_corners) (maxL := 6) (ret := (some .int)) (by decide) rfl ?_
  intro p e s m args below meth c s₁ B hml hv
  obtain ⟨rfl, hsz, hP, hK, hD0, hZ⟩ := hv
  have hx := B.exec
  have hb := B.bytes
  have hr := B.returns
  have hts := atoms_spec (ws := wsX8_corners) B.pre
  have hown : s.vm.findClass RX8 = some m.cls := findClass_of_methodNamed B.named
  have hlocks := B.notSynchronized
  subst hsz
  have hD := hD0.self (sz := s.heap.size)
  generalize hAe : va_A [(a_this, .inr (8, [.ref a_this_s, .ref a_this_image, .ref a_this_was, .int v_hasImage, .ref a_this_letters, .ref a_this_row, .ref a_this_refused, .int v_letterMany, .int v_rowMany, .int v_place, .ref a_this_numbers, .ref a_this_least, .ref a_this_stepsFrom, .ref a_this_most, .ref a_this_next, .ref a_this_otherSteps, .ref a_this_ahead, .ref a_this_now, .int v_seed])), (a_this_least, .inl (cI, 180, .inl g_least)), (a_this_refused, .inl (cI, 7, .inl g_refused)), (a_this_s, .inl (cI, 39, .inl g_s))] s.heap.size = A at hD hZ ⊢
  have hA : ∀ q : Nat, s.heap.size ≤ q → A q := fun q h => by rw [← hAe]; exact Or.inr h
  have hS : va_S A s.heap s.heap [] := va_S.rf
  have hP : va_P (dC, dI) vwCl [(a_this, .inr (8, [.ref a_this_s, .ref a_this_image, .ref a_this_was, .int v_hasImage, .ref a_this_letters, .ref a_this_row, .ref a_this_refused, .int v_letterMany, .int v_rowMany, .int v_place, .ref a_this_numbers, .ref a_this_least, .ref a_this_stepsFrom, .ref a_this_most, .ref a_this_next, .ref a_this_otherSteps, .ref a_this_ahead, .ref a_this_now, .int v_seed])), (a_this_least, .inl (cI, 180, .inl g_least)), (a_this_refused, .inl (cI, 7, .inl g_refused)), (a_this_s, .inl (cI, 39, .inl g_s))] s.heap := hP
  have hl := lv_entry ([.ref a_this, .int p1, .int p2, .int p3]) (n := 6) (Nat.le_of_ble_eq_true rfl)
  rw [lg_entry_eq]
  generalize (lg_sl ([.ref a_this, .int p1, .int p2, .int p3]) ++ List.replicate (6 - (lg_sl ([.ref a_this, .int p1, .int p2, .int p3])).length) Slot.unset).toArray = ls at hl ⊢
  have hl : lv_has ls 6 [(0, .ref a_this), (1, .int p1), (2, .int p2), (3, .int p3)] := hl
  have he := hf
  unfold f_M_corners at he
  refine zstart (D := (dC, dI)) (cl := vwCl) (A := A) (nL := 6) (fun WW hWW => ?_)
  refine lv_iload_n hx hb dX8_corners_0 rfl (lv_at hl 1 rfl) ?_
  obtain ⟨r1, hf2, he⟩ := zb1_e he
  refine zc_i (wr := [(a_this, .inr (8, [.ref a_this_s, .ref a_this_image, .ref a_this_was, .int v_hasImage, .ref a_this_letters, .ref a_this_row, .ref a_this_refused, .int v_letterMany, .int v_rowMany, .int v_place, .ref a_this_numbers, .ref a_this_least, .ref a_this_stepsFrom, .ref a_this_most, .ref a_this_next, .ref a_this_otherSteps, .ref a_this_ahead, .ref a_this_now, .int v_seed])), (a_this_least, .inl (cI, 180, .inl g_least)), (a_this_refused, .inl (cI, 7, .inl g_refused)), (a_this_s, .inl (cI, 39, .inl g_s))]) (ws' := [(a_this, .inr (8, [.ref a_this_s, .ref a_this_image, .ref a_this_was, .int v_hasImage, .ref a_this_letters, .ref a_this_row, .ref a_this_refused, .int v_letterMany, .int v_rowMany, .int v_place, .ref a_this_numbers, .ref a_this_least, .ref a_this_stepsFrom, .ref a_this_most, .ref a_this_next, .ref a_this_otherSteps, .ref a_this_ahead, .ref a_this_now, .int v_seed])), (a_this_least, .inl (cI, 180, .inl g_least)), (a_this_refused, .inl (cI, 7, .inl g_refused)), (a_this_s, .inl (cI, 39, .inl g_s))]) (va_runS (As := [.int p1]) (rest := []) ⟨hx, hb, hml, hown, hts⟩ (k_M_isSquare l dC dI cI cZ tt sd s.heap.size p1 r1 hf2) (va_cwS 1 hts gX8_corners_X8_isSquare rfl rfl rfl (by decide +kernel) ⟨Nat.le_of_ble_eq_true rfl, Nat.le_of_ble_eq_true rfl⟩) (zpS hP hD hK hS hA hZ [] rfl rfl) rfl rfl hl.1 rfl (lv_room (Nat.le_of_ble_eq_true rfl)) dX8_corners_1 ⟨Nat.zero_le _, Nat.zero_le _⟩) hP hD hS hA [] [0, 1, 2, 3] [0, 1, 2, 3] rfl rfl rfl (by decide) rfl rfl rfl (fun H locs hP hD hS => ?_)
  refine zj1_w he (fun (_ : Unit) => WW [(a_this, .inr (8, [.ref a_this_s, .ref a_this_image, .ref a_this_was, .int v_hasImage, .ref a_this_letters, .ref a_this_row, .ref a_this_refused, .int v_letterMany, .int v_rowMany, .int v_place, .ref a_this_numbers, .ref a_this_least, .ref a_this_stepsFrom, .ref a_this_most, .ref a_this_next, .ref a_this_otherSteps, .ref a_this_ahead, .ref a_this_now, .int v_seed])), (a_this_least, .inl (cI, 180, .inl g_least)), (a_this_refused, .inl (cI, 7, .inl g_refused)), (a_this_s, .inl (cI, 39, .inl g_s))] [(0, .ref a_this)] 14 []) (fun _ he => (hWW _ _ _ _).mpr (fun H locs ls hP hD hS hl => ?_)) (fun k6 hk6 he => ?_)
  · refine lv_aload_n hx hb dX8_corners_14 rfl (lv_at hl 0 rfl) ?_
    refine lv_iconst (v := (-1 : Int32)) hx hb dX8_corners_15 (by decide) ?_
    obtain ⟨r3, g_refused_4, hf5, he⟩ := zb2_e he
    refine zc_i (wr := [(a_this_least, .inl (cI, 180, .inl g_least)), (a_this_s, .inl (cI, 39, .inl g_s))]) (ws' := [(a_this, .inr (8, [.ref a_this_s, .ref a_this_image, .ref a_this_was, .int v_hasImage, .ref a_this_letters, .ref a_this_row, .ref a_this_refused, .int v_letterMany, .int v_rowMany, .int v_place, .ref a_this_numbers, .ref a_this_least, .ref a_this_stepsFrom, .ref a_this_most, .ref a_this_next, .ref a_this_otherSteps, .ref a_this_ahead, .ref a_this_now, .int v_seed])), (a_this_least, .inl (cI, 180, .inl g_least)), (a_this_refused, .inl (cI, 7, .inl g_refused_4)), (a_this_s, .inl (cI, 39, .inl g_s))]) (va_runV (As := [.int (-1 : Int32)]) (rest := []) ⟨hx, hb, hml, hown, hts⟩ (k_M_no l dC dI cI cZ tt sd a_this a_this_s a_this_image a_this_was a_this_letters a_this_row a_this_refused a_this_numbers a_this_least a_this_stepsFrom a_this_most a_this_next a_this_otherSteps a_this_ahead a_this_now H.size v_hasImage v_letterMany v_rowMany v_place v_seed g_refused (-1 : Int32) r3 g_refused_4 hf5) (cwV 1 hts gX8_corners_X8_no rfl rfl rfl (by decide +kernel) ⟨Nat.le_of_ble_eq_true rfl, Nat.le_of_ble_eq_true rfl⟩) (zpV hP hD hK hS hA hZ [0, 2] rfl rfl 8 0 rfl rfl) rfl rfl hl.1 rfl (lv_room (Nat.le_of_ble_eq_true rfl)) dX8_corners_16 ⟨Nat.zero_le _, Nat.zero_le _⟩) hP hD hS hA [0, 2] [1, 3] [2, 0, 3, 1] rfl rfl rfl (by decide) rfl rfl rfl (fun H locs hP hD hS => ?_)
    cases he
    exact W.iret hx hb hr (fun t ht hW => ⟨⟨_, (), rfl, rfl, by rw [ht]; exact hP, va_K.moved hW.alike hK, hD⟩, hS.F ht⟩) hS.2.2 dX8_corners_19
  refine lv_if_eq (tgt := 14) hx hb dX8_corners_4 (by decide) (fun c7 => ?_) (fun c7 => ?_)
  · have he := zif_t c7 he
    exact (hWW _ _ _ _).mp (hk6 () he) _ _ _ hP hD hS (lv_sub hl [0] rfl)
  · have he := zif_f c7 he
    refine lv_iload_n hx hb dX8_corners_7 rfl (lv_at hl 2 rfl) ?_
    obtain ⟨r8, hf9, he⟩ := zb1_e he
    refine zc_i (wr := [(a_this, .inr (8, [.ref a_this_s, .ref a_this_image, .ref a_this_was, .int v_hasImage, .ref a_this_letters, .ref a_this_row, .ref a_this_refused, .int v_letterMany, .int v_rowMany, .int v_place, .ref a_this_numbers, .ref a_this_least, .ref a_this_stepsFrom, .ref a_this_most, .ref a_this_next, .ref a_this_otherSteps, .ref a_this_ahead, .ref a_this_now, .int v_seed])), (a_this_least, .inl (cI, 180, .inl g_least)), (a_this_refused, .inl (cI, 7, .inl g_refused)), (a_this_s, .inl (cI, 39, .inl g_s))]) (ws' := [(a_this, .inr (8, [.ref a_this_s, .ref a_this_image, .ref a_this_was, .int v_hasImage, .ref a_this_letters, .ref a_this_row, .ref a_this_refused, .int v_letterMany, .int v_rowMany, .int v_place, .ref a_this_numbers, .ref a_this_least, .ref a_this_stepsFrom, .ref a_this_most, .ref a_this_next, .ref a_this_otherSteps, .ref a_this_ahead, .ref a_this_now, .int v_seed])), (a_this_least, .inl (cI, 180, .inl g_least)), (a_this_refused, .inl (cI, 7, .inl g_refused)), (a_this_s, .inl (cI, 39, .inl g_s))]) (va_runS (As := [.int p2]) (rest := []) ⟨hx, hb, hml, hown, hts⟩ (k_M_isSquare l dC dI cI cZ tt sd H.size p2 r8 hf9) (va_cwS 1 hts gX8_corners_X8_isSquare rfl rfl rfl (by decide +kernel) ⟨Nat.le_of_ble_eq_true rfl, Nat.le_of_ble_eq_true rfl⟩) (zpS hP hD hK hS hA hZ [] rfl rfl) rfl rfl hl.1 rfl (lv_room (Nat.le_of_ble_eq_true rfl)) dX8_corners_8 ⟨Nat.zero_le _, Nat.zero_le _⟩) hP hD hS hA [] [0, 1, 2, 3] [0, 1, 2, 3] rfl rfl rfl (by decide) rfl rfl rfl (fun H locs hP hD hS => ?_)
    refine lv_if_ne (tgt := 20) hx hb dX8_corners_11 (by decide) (fun c10 => ?_) (fun c10 => ?_)
    · have he := zif_f c10 he
      refine lv_iload_n hx hb dX8_corners_20 rfl (lv_at hl 3 rfl) ?_
      refine lv_iconst (v := (0 : Int32)) hx hb dX8_corners_21 (by decide) ?_
      refine lv_iconst (v := (2 : Int32)) hx hb dX8_corners_22 (by decide) ?_
      obtain ⟨r11, hf12, he⟩ := zb1_e he
      refine zc_i (wr := [(a_this, .inr (8, [.ref a_this_s, .ref a_this_image, .ref a_this_was, .int v_hasImage, .ref a_this_letters, .ref a_this_row, .ref a_this_refused, .int v_letterMany, .int v_rowMany, .int v_place, .ref a_this_numbers, .ref a_this_least, .ref a_this_stepsFrom, .ref a_this_most, .ref a_this_next, .ref a_this_otherSteps, .ref a_this_ahead, .ref a_this_now, .int v_seed])), (a_this_least, .inl (cI, 180, .inl g_least)), (a_this_refused, .inl (cI, 7, .inl g_refused)), (a_this_s, .inl (cI, 39, .inl g_s))]) (ws' := [(a_this, .inr (8, [.ref a_this_s, .ref a_this_image, .ref a_this_was, .int v_hasImage, .ref a_this_letters, .ref a_this_row, .ref a_this_refused, .int v_letterMany, .int v_rowMany, .int v_place, .ref a_this_numbers, .ref a_this_least, .ref a_this_stepsFrom, .ref a_this_most, .ref a_this_next, .ref a_this_otherSteps, .ref a_this_ahead, .ref a_this_now, .int v_seed])), (a_this_least, .inl (cI, 180, .inl g_least)), (a_this_refused, .inl (cI, 7, .inl g_refused)), (a_this_s, .inl (cI, 39, .inl g_s))]) (va_runS (As := [.int p3, .int (0 : Int32), .int (2 : Int32)]) (rest := []) ⟨hx, hb, hml, hown, hts⟩ (k_M_isIn l dC dI cI cZ tt sd H.size p3 (0 : Int32) (2 : Int32) r11 hf12) (va_cwS 3 hts gX8_corners_X8_isIn rfl rfl rfl (by decide +kernel) ⟨Nat.le_of_ble_eq_true rfl, Nat.le_of_ble_eq_true rfl⟩) (zpS hP hD hK hS hA hZ [] rfl rfl) rfl rfl hl.1 rfl (lv_room (Nat.le_of_ble_eq_true rfl)) dX8_corners_23 ⟨Nat.zero_le _, Nat.zero_le _⟩) hP hD hS hA [] [0, 1, 2, 3] [0, 1, 2, 3] rfl rfl rfl (by decide) rfl rfl rfl (fun H locs hP hD hS => ?_)
      refine lv_if_ne (tgt := 36) hx hb dX8_corners_26 (by decide) (fun c13 => ?_) (fun c13 => ?_)
      · have he := zif_f c13 he
        refine lv_aload_n hx hb dX8_corners_36 rfl (lv_at hl 0 rfl) ?_
        refine lv_iload_n hx hb dX8_corners_37 rfl (lv_at hl 1 rfl) ?_
        refine lv_iload_n hx hb dX8_corners_38 rfl (lv_at hl 2 rfl) ?_
        refine lv_bipush (v := (-9 : Int32)) hx hb dX8_corners_39 (by decide) ?_
        obtain ⟨r14, g_least_15, hf16, he⟩ := zb2_e he
        refine zc_i (wr := [(a_this_refused, .inl (cI, 7, .inl g_refused))]) (ws' := [(a_this, .inr (8, [.ref a_this_s, .ref a_this_image, .ref a_this_was, .int v_hasImage, .ref a_this_letters, .ref a_this_row, .ref a_this_refused, .int v_letterMany, .int v_rowMany, .int v_place, .ref a_this_numbers, .ref a_this_least, .ref a_this_stepsFrom, .ref a_this_most, .ref a_this_next, .ref a_this_otherSteps, .ref a_this_ahead, .ref a_this_now, .int v_seed])), (a_this_least, .inl (cI, 180, .inl g_least_15)), (a_this_refused, .inl (cI, 7, .inl g_refused)), (a_this_s, .inl (cI, 39, .inl g_s))]) (va_runV (As := [.int p1, .int p2, .int (-9 : Int32)]) (rest := []) ⟨hx, hb, hml, hown, hts⟩ (k_M_cornersBy l dC dI cI cZ tt sd a_this a_this_s a_this_image a_this_was a_this_letters a_this_row a_this_refused a_this_numbers a_this_least a_this_stepsFrom a_this_most a_this_next a_this_otherSteps a_this_ahead a_this_now H.size v_hasImage v_letterMany v_rowMany v_place v_seed g_least g_s p1 p2 (-9 : Int32) r14 g_least_15 hf16) (cwV 3 hts gX8_corners_X8_cornersBy rfl rfl rfl (by decide +kernel) ⟨Nat.le_of_ble_eq_true rfl, Nat.le_of_ble_eq_true rfl⟩) (zpV hP hD hK hS hA hZ [0, 1, 3] rfl rfl 8 0 rfl rfl) rfl rfl hl.1 rfl (lv_room (Nat.le_of_ble_eq_true rfl)) dX8_corners_41 ⟨Nat.zero_le _, Nat.zero_le _⟩) hP hD hS hA [0, 1, 3] [2] [1, 2, 0, 3] rfl rfl rfl (by decide) rfl rfl rfl (fun H locs hP hD hS => ?_)
        refine lv_istore (lv' := [(4, .int r14), (0, .ref a_this), (1, .int p1), (2, .int p2), (3, .int p3)]) hx hb dX8_corners_44 hl (by decide) rfl (fun ls hl => ?_)
        refine lv_iload hx hb dX8_corners_46 (lv_at hl 0 rfl) ?_
        refine lv_ldc (v := (1000000000 : Int32)) hx hb hown (hts (.constant RX8 140 (1000000000 : Int32)) (by decide +kernel)) dX8_corners_48 ?_
        refine lv_icmp_lt (tgt := 56) hx hb dX8_corners_50 (by decide) (fun c17 => ?_) (fun c17 => ?_)
        · have he := zif_t c17 he
          refine lv_iload_n hx hb dX8_corners_56 rfl (lv_at hl 4 rfl) ?_
          refine lv_iconst (v := (2 : Int32)) hx hb dX8_corners_57 (by decide) ?_
          refine lv_icmp_ge (tgt := 81) hx hb dX8_corners_58 (by decide) (fun c18 => ?_) (fun c18 => ?_)
          · have he := zif_t c18 he
            refine lv_iconst (v := (0 : Int32)) hx hb dX8_corners_81 (by decide) ?_
            refine lv_istore (lv' := [(5, .int (0 : Int32)), (4, .int r14), (0, .ref a_this), (1, .int p1), (2, .int p2), (3, .int p3)]) hx hb dX8_corners_82 hl (by decide) rfl (fun ls hl => ?_)
            refine (hWW _ _ _ _).mp (zl2_w he (fun (l5_19 : Int32) (g_least_20 : Nat → Int32) => WW [(a_this, .inr (8, [.ref a_this_s, .ref a_this_image, .ref a_this_was, .int v_hasImage, .ref a_this_letters, .ref a_this_row, .ref a_this_refused, .int v_letterMany, .int v_rowMany, .int v_place, .ref a_this_numbers, .ref a_this_least, .ref a_this_stepsFrom, .ref a_this_most, .ref a_this_next, .ref a_this_otherSteps, .ref a_this_ahead, .ref a_this_now, .int v_seed])), (a_this_least, .inl (cI, 180, .inl g_least_20)), (a_this_refused, .inl (cI, 7, .inl g_refused)), (a_this_s, .inl (cI, 39, .inl g_s))] [(0, .ref a_this), (1, .int p1), (2, .int p2), (4, .int r14), (5, .int l5_19)] 84 []) (fun l5_19 g_least_20 again21 hagain21 he => (hWW _ _ _ _).mpr (fun H locs ls hP hD hS hl => ?_))) _ _ _ hP hD hS (lv_sub hl [2, 3, 4, 1, 0] rfl)
            refine lv_iload hx hb dX8_corners_84 (lv_at hl 4 rfl) ?_
            refine lv_iconst (v := (4 : Int32)) hx hb dX8_corners_86 (by decide) ?_
            refine lv_icmp_ge (tgt := 117) hx hb dX8_corners_87 (by decide) (fun c22 => ?_) (fun c22 => ?_)
            · have he := zif_t c22 he
              refine lv_bipush (v := (-9 : Int32)) hx hb dX8_corners_117 (by decide) ?_
              cases he
              exact W.iret hx hb hr (fun t ht hW => ⟨⟨_, (), rfl, rfl, by rw [ht]; exact hP, va_K.moved hW.alike hK, hD⟩, hS.F ht⟩) hS.2.2 dX8_corners_119
            · have he := zif_f c22 he
              refine lv_iload_n hx hb dX8_corners_90 rfl (lv_at hl 1 rfl) ?_
              refine lv_iload_n hx hb dX8_corners_91 rfl (lv_at hl 2 rfl) ?_
              refine lv_icmp_eq (tgt := 117) hx hb dX8_corners_92 (by decide) (fun c23 => ?_) (fun c23 => ?_)
              · have he := zif_t c23 he
                refine lv_bipush (v := (-9 : Int32)) hx hb dX8_corners_117 (by decide) ?_
                cases he
                exact W.iret hx hb hr (fun t ht hW => ⟨⟨_, (), rfl, rfl, by rw [ht]; exact hP, va_K.moved hW.alike hK, hD⟩, hS.F ht⟩) hS.2.2 dX8_corners_119
              · have he := zif_f c23 he
                refine lv_aload_n hx hb dX8_corners_95 rfl (lv_at hl 0 rfl) ?_
                refine lv_iload_n hx hb dX8_corners_96 rfl (lv_at hl 1 rfl) ?_
                refine lv_iload_n hx hb dX8_corners_97 rfl (lv_at hl 2 rfl) ?_
                refine lv_iload hx hb dX8_corners_98 (lv_at hl 4 rfl) ?_
                obtain ⟨r24, g_least_25, hf26, he⟩ := zb2_e he
                refine zc_i (wr := [(a_this_refused, .inl (cI, 7, .inl g_refused))]) (ws' := [(a_this, .inr (8, [.ref a_this_s, .ref a_this_image, .ref a_this_was, .int v_hasImage, .ref a_this_letters, .ref a_this_row, .ref a_this_refused, .int v_letterMany, .int v_rowMany, .int v_place, .ref a_this_numbers, .ref a_this_least, .ref a_this_stepsFrom, .ref a_this_most, .ref a_this_next, .ref a_this_otherSteps, .ref a_this_ahead, .ref a_this_now, .int v_seed])), (a_this_least, .inl (cI, 180, .inl g_least_25)), (a_this_refused, .inl (cI, 7, .inl g_refused)), (a_this_s, .inl (cI, 39, .inl g_s))]) (va_runV (As := [.int p1, .int p2, .int l5_19]) (rest := []) ⟨hx, hb, hml, hown, hts⟩ (k_M_cornersBy l dC dI cI cZ tt sd a_this a_this_s a_this_image a_this_was a_this_letters a_this_row a_this_refused a_this_numbers a_this_least a_this_stepsFrom a_this_most a_this_next a_this_otherSteps a_this_ahead a_this_now H.size v_hasImage v_letterMany v_rowMany v_place v_seed g_least_20 g_s p1 p2 l5_19 r24 g_least_25 hf26) (cwV 3 hts gX8_corners_X8_cornersBy rfl rfl rfl (by decide +kernel) ⟨Nat.le_of_ble_eq_true rfl, Nat.le_of_ble_eq_true rfl⟩) (zpV hP hD hK hS hA hZ [0, 1, 3] rfl rfl 8 0 rfl rfl) rfl rfl hl.1 rfl (lv_room (Nat.le_of_ble_eq_true rfl)) dX8_corners_100 ⟨Nat.zero_le _, Nat.zero_le _⟩) hP hD hS hA [0, 1, 3] [2] [1, 2, 0, 3] rfl rfl rfl (by decide) rfl rfl rfl (fun H locs hP hD hS => ?_)
                refine lv_iload hx hb dX8_corners_103 (lv_at hl 3 rfl) ?_
                refine lv_icmp_ne (tgt := 111) hx hb dX8_corners_105 (by decide) (fun c27 => ?_) (fun c27 => ?_)
                · have he := zif_f c27 he
                  obtain ⟨x28, ex28⟩ : ∃ y : Int32, y = l5_19 + (1 : Int32) := ⟨_, rfl⟩
                  have he := zn_e ex28 he
                  refine lv_iinc (v := x28) (lv' := [(5, .int x28), (0, .ref a_this), (1, .int p1), (2, .int p2), (4, .int r14)]) hx hb dX8_corners_111 hl (k := 4) rfl (by rw [ex28]; rfl) (by decide) rfl (fun ls hl => ?_)
                  refine lv_goto (tgt := 84) hx hb dX8_corners_114 (by decide) ?_
                  exact (hWW _ _ _ _).mp (hagain21 x28 g_least_25 he) _ _ _ hP hD hS (lv_sub hl [1, 2, 3, 4, 0] rfl)
                · have he := zif_t c27 he
                  refine lv_iload hx hb dX8_corners_108 (lv_at hl 4 rfl) ?_
                  cases he
                  exact W.iret hx hb hr (fun t ht hW => ⟨⟨_, (), rfl, rfl, by rw [ht]; exact hP, va_K.moved hW.alike hK, hD⟩, hS.F ht⟩) hS.2.2 dX8_corners_110
          · have he := zif_f c18 he
            refine lv_iload_n hx hb dX8_corners_61 rfl (lv_at hl 4 rfl) ?_
            refine lv_if_ne (tgt := 74) hx hb dX8_corners_62 (by decide) (fun c29 => ?_) (fun c29 => ?_)
            · have he := zif_f c29 he
              refine lv_iload hx hb dX8_corners_74 (lv_at hl 0 rfl) ?_
              refine lv_sipush (v := (1000 : Int32)) hx hb dX8_corners_76 (by decide) ?_
              refine lv_irem hx hb dX8_corners_79 (by decide) ?_
              cases he
              exact W.iret hx hb hr (fun t ht hW => ⟨⟨_, (), rfl, rfl, by rw [ht]; exact hP, va_K.moved hW.alike hK, hD⟩, hS.F ht⟩) hS.2.2 dX8_corners_80
            · have he := zif_t c29 he
              refine lv_iload hx hb dX8_corners_65 (lv_at hl 0 rfl) ?_
              refine lv_sipush (v := (1000 : Int32)) hx hb dX8_corners_67 (by decide) ?_
              refine lv_idiv hx hb dX8_corners_70 (by decide) ?_
              refine lv_goto (tgt := 80) hx hb dX8_corners_71 (by decide) ?_
              cases he
              exact W.iret hx hb hr (fun t ht hW => ⟨⟨_, (), rfl, rfl, by rw [ht]; exact hP, va_K.moved hW.alike hK, hD⟩, hS.F ht⟩) hS.2.2 dX8_corners_80
        · have he := zif_f c17 he
          refine lv_bipush (v := (-9 : Int32)) hx hb dX8_corners_53 (by decide) ?_
          cases he
          exact W.iret hx hb hr (fun t ht hW => ⟨⟨_, (), rfl, rfl, by rw [ht]; exact hP, va_K.moved hW.alike hK, hD⟩, hS.F ht⟩) hS.2.2 dX8_corners_55
      · have he := zif_t c13 he
        refine lv_aload_n hx hb dX8_corners_29 rfl (lv_at hl 0 rfl) ?_
        refine lv_bipush (v := (-2 : Int32)) hx hb dX8_corners_30 (by decide) ?_
        obtain ⟨r30, g_refused_31, hf32, he⟩ := zb2_e he
        refine zc_i (wr := [(a_this_least, .inl (cI, 180, .inl g_least)), (a_this_s, .inl (cI, 39, .inl g_s))]) (ws' := [(a_this, .inr (8, [.ref a_this_s, .ref a_this_image, .ref a_this_was, .int v_hasImage, .ref a_this_letters, .ref a_this_row, .ref a_this_refused, .int v_letterMany, .int v_rowMany, .int v_place, .ref a_this_numbers, .ref a_this_least, .ref a_this_stepsFrom, .ref a_this_most, .ref a_this_next, .ref a_this_otherSteps, .ref a_this_ahead, .ref a_this_now, .int v_seed])), (a_this_least, .inl (cI, 180, .inl g_least)), (a_this_refused, .inl (cI, 7, .inl g_refused_31)), (a_this_s, .inl (cI, 39, .inl g_s))]) (va_runV (As := [.int (-2 : Int32)]) (rest := []) ⟨hx, hb, hml, hown, hts⟩ (k_M_no l dC dI cI cZ tt sd a_this a_this_s a_this_image a_this_was a_this_letters a_this_row a_this_refused a_this_numbers a_this_least a_this_stepsFrom a_this_most a_this_next a_this_otherSteps a_this_ahead a_this_now H.size v_hasImage v_letterMany v_rowMany v_place v_seed g_refused (-2 : Int32) r30 g_refused_31 hf32) (cwV 1 hts gX8_corners_X8_no rfl rfl rfl (by decide +kernel) ⟨Nat.le_of_ble_eq_true rfl, Nat.le_of_ble_eq_true rfl⟩) (zpV hP hD hK hS hA hZ [0, 2] rfl rfl 8 0 rfl rfl) rfl rfl hl.1 rfl (lv_room (Nat.le_of_ble_eq_true rfl)) dX8_corners_32 ⟨Nat.zero_le _, Nat.zero_le _⟩) hP hD hS hA [0, 2] [1, 3] [2, 0, 3, 1] rfl rfl rfl (by decide) rfl rfl rfl (fun H locs hP hD hS => ?_)
        cases he
        exact W.iret hx hb hr (fun t ht hW => ⟨⟨_, (), rfl, rfl, by rw [ht]; exact hP, va_K.moved hW.alike hK, hD⟩, hS.F ht⟩) hS.2.2 dX8_corners_35
    · have he := zif_t c10 he
      exact (hWW _ _ _ _).mp (hk6 () he) _ _ _ hP hD hS (lv_sub hl [0] rfl)
set_option maxHeartbeats 4000000 in
set_option maxRecDepth 100000 in
theorem k_M_fines (l : Launch) (dC : Nat → ClassId) (dI : Nat → Nat → Nat) (cI : ClassId) (cZ : ClassId) (tt : Nat → Nat) (sd : Nat → Nat) (a_this : Nat) (a_this_s : Nat) (a_this_image : Nat) (a_this_was : Nat) (a_this_letters : Nat) (a_this_row : Nat) (a_this_refused : Nat) (a_this_numbers : Nat) (a_this_least : Nat) (a_this_stepsFrom : Nat) (a_this_most : Nat) (a_this_next : Nat) (a_this_otherSteps : Nat) (a_this_ahead : Nat) (a_this_now : Nat) (sz : Nat) (v_hasImage : Int32) (v_letterMany : Int32) (v_rowMany : Int32) (v_place : Int32) (v_seed : Int32) (g_least : Nat → Int32) (g_refused : Nat → Int32) (g_s : Nat → Int32) (p1 : Int32) (p2 : Int32) (r0 : Int32) (w0 : Nat → Int32) (w1 : Nat → Int32) (hf : f_M_fines g_least g_refused g_s p1 p2 = some (r0, w0, w1)) : Met l yX8_fines wsX8_fines ({ frames := 5, cells := 0, slots := 0, locals := 120 }) (zPre (dC, dI) vwCl [(cI, .int), (cZ, .boolean)] tt sd [.ref a_this, .int p1, .int p2] [(a_this, .inr (8, [.ref a_this_s, .ref a_this_image, .ref a_this_was, .int v_hasImage, .ref a_this_letters, .ref a_this_row, .ref a_this_refused, .int v_letterMany, .int v_rowMany, .int v_place, .ref a_this_numbers, .ref a_this_least, .ref a_this_stepsFrom, .ref a_this_most, .ref a_this_next, .ref a_this_otherSteps, .ref a_this_ahead, .ref a_this_now, .int v_seed])), (a_this_least, .inl (cI, 180, .inl g_least)), (a_this_refused, .inl (cI, 7, .inl g_refused)), (a_this_s, .inl (cI, 39, .inl g_s))] sz) (zQi (dC, dI) vwCl [(cI, .int), (cZ, .boolean)] r0 [(a_this, .inr (8, [.ref a_this_s, .ref a_this_image, .ref a_this_was, .int v_hasImage, .ref a_this_letters, .ref a_this_row, .ref a_this_refused, .int v_letterMany, .int v_rowMany, .int v_place, .ref a_this_numbers, .ref a_this_least, .ref a_this_stepsFrom, .ref a_this_most, .ref a_this_next, .ref a_this_otherSteps, .ref a_this_ahead, .ref a_this_now, .int v_seed])), (a_this_least, .inl (cI, 180, .inl w0)), (a_this_refused, .inl (cI, 7, .inl w1)), (a_this_s, .inl (cI, 39, .inl g_s))] (va_A [(a_this, .inr (8, [.ref a_this_s, .ref a_this_image, .ref a_this_was, .int v_hasImage, .ref a_this_letters, .ref a_this_row, .ref a_this_refused, .int v_letterMany, .int v_rowMany, .int v_place, .ref a_this_numbers, .ref a_this_least, .ref a_this_stepsFrom, .ref a_this_most, .ref a_this_next, .ref a_this_otherSteps, .ref a_this_ahead, .ref a_this_now, .int v_seed])), (a_this_least, .inl (cI, 180, .inl g_least)), (a_this_refused, .inl (cI, 7, .inl g_refused)), (a_this_s, .inl (cI, 39, .inl g_s))] sz)) 0 0 (va_A [(a_this, .inr (8, [.ref a_this_s, .ref a_this_image, .ref a_this_was, .int v_hasImage, .ref a_this_letters, .ref a_this_row, .ref a_this_refused, .int v_letterMany, .int v_rowMany, .int v_place, .ref a_this_numbers, .ref a_this_least, .ref a_this_stepsFrom, .ref a_this_most, .ref a_this_next, .ref a_this_otherSteps, .ref a_this_ahead, .ref a_this_now, .int v_seed])), (a_this_least, .inl (cI, 180, .inl g_least)), (a_this_refused, .inl (cI, 7, .inl g_refused)), (a_this_s, .inl (cI, 39, .inl g_s))] sz) := by
  refine Met.ofW (cc := cX8_fines) (maxL := 4) (ret := (some .int)) (by decide) rfl ?_
  intro p e s m args below meth c s₁ B hml hv
  obtain ⟨rfl, hsz, hP, hK, hD0, hZ⟩ := hv
  have hx := B.exec
  have hb := B.bytes
  have hr := B.returns
  have hts := atoms_spec (ws := wsX8_fines) B.pre
  have hown : s.vm.findClass RX8 = some m.cls := findClass_of_methodNamed B.named
  have hlocks := B.notSynchronized
  subst hsz
  have hD := hD0.self (sz := s.heap.size)
  generalize hAe : va_A [(a_this, .inr (8, [.ref a_this_s, .ref a_this_image, .ref a_this_was, .int v_hasImage, .ref a_this_letters, .ref a_this_row, .ref a_this_refused, .int v_letterMany, .int v_rowMany, .int v_place, .ref a_this_numbers, .ref a_this_least, .ref a_this_stepsFrom, .ref a_this_most, .ref a_this_next, .ref a_this_otherSteps, .ref a_this_ahead, .ref a_this_now, .int v_seed])), (a_this_least, .inl (cI, 180, .inl g_least)), (a_this_refused, .inl (cI, 7, .inl g_refused)), (a_this_s, .inl (cI, 39, .inl g_s))] s.heap.size = A at hD hZ ⊢
  have hA : ∀ q : Nat, s.heap.size ≤ q → A q := fun q h => by rw [← hAe]; exact Or.inr h
  have hS : va_S A s.heap s.heap [] := va_S.rf
  have hP : va_P (dC, dI) vwCl [(a_this, .inr (8, [.ref a_this_s, .ref a_this_image, .ref a_this_was, .int v_hasImage, .ref a_this_letters, .ref a_this_row, .ref a_this_refused, .int v_letterMany, .int v_rowMany, .int v_place, .ref a_this_numbers, .ref a_this_least, .ref a_this_stepsFrom, .ref a_this_most, .ref a_this_next, .ref a_this_otherSteps, .ref a_this_ahead, .ref a_this_now, .int v_seed])), (a_this_least, .inl (cI, 180, .inl g_least)), (a_this_refused, .inl (cI, 7, .inl g_refused)), (a_this_s, .inl (cI, 39, .inl g_s))] s.heap := hP
  have hl := lv_entry ([.ref a_this, .int p1, .int p2]) (n := 4) (Nat.le_of_ble_eq_true rfl)
  rw [lg_entry_eq]
  generalize (lg_sl ([.ref a_this, .int p1, .int p2]) ++ List.replicate (4 - (lg_sl ([.ref a_this, .int p1, .int p2])).length) Slot.unset).toArray = ls at hl ⊢
  have hl : lv_has ls 4 [(0, .ref a_this), (1, .int p1), (2, .int p2)] := hl
  have he := hf
  unfold f_M_fines at he
  refine zstart (D := (dC, dI)) (cl := vwCl) (A := A) (nL := 4) (fun WW hWW => ?_)
  refine lv_iload_n hx hb dX8_fines_0 rfl (lv_at hl 1 rfl) ?_
  obtain ⟨r1, hf2, he⟩ := zb1_e he
  refine zc_i (wr := [(a_this, .inr (8, [.ref a_this_s, .ref a_this_image, .ref a_this_was, .int v_hasImage, .ref a_this_letters, .ref a_this_row, .ref a_this_refused, .int v_letterMany, .int v_rowMany, .int v_place, .ref a_this_numbers, .ref a_this_least, .ref a_this_stepsFrom, .ref a_this_most, .ref a_this_next, .ref a_this_otherSteps, .ref a_this_ahead, .ref a_this_now, .int v_seed])), (a_this_least, .inl (cI, 180, .inl g_least)), (a_this_refused, .inl (cI, 7, .inl g_refused)), (a_this_s, .inl (cI, 39, .inl g_s))]) (ws' := [(a_this, .inr (8, [.ref a_this_s, .ref a_this_image, .ref a_this_was, .int v_hasImage, .ref a_this_letters, .ref a_this_row, .ref a_this_refused, .int v_letterMany, .int v_rowMany, .int v_place, .ref a_this_numbers, .ref a_this_least, .ref a_this_stepsFrom, .ref a_this_most, .ref a_this_next, .ref a_this_otherSteps, .ref a_this_ahead, .ref a_this_now, .int v_seed])), (a_this_least, .inl (cI, 180, .inl g_least)), (a_this_refused, .inl (cI, 7, .inl g_refused)), (a_this_s, .inl (cI, 39, .inl g_s))]) (va_runS (As := [.int p1]) (rest := []) ⟨hx, hb, hml, hown, hts⟩ (k_M_isSquare l dC dI cI cZ tt sd s.heap.size p1 r1 hf2) (va_cwS 1 hts gX8_fines_X8_isSquare rfl rfl rfl (by decide +kernel) ⟨Nat.le_of_ble_eq_true rfl, Nat.le_of_ble_eq_true rfl⟩) (zpS hP hD hK hS hA hZ [] rfl rfl) rfl rfl hl.1 rfl (lv_room (Nat.le_of_ble_eq_true rfl)) dX8_fines_1 ⟨Nat.zero_le _, Nat.zero_le _⟩) hP hD hS hA [] [0, 1, 2, 3] [0, 1, 2, 3] rfl rfl rfl (by decide) rfl rfl rfl (fun H locs hP hD hS => ?_)
  refine zj1_w he (fun (_ : Unit) => WW [(a_this, .inr (8, [.ref a_this_s, .ref a_this_image, .ref a_this_was, .int v_hasImage, .ref a_this_letters, .ref a_this_row, .ref a_this_refused, .int v_letterMany, .int v_rowMany, .int v_place, .ref a_this_numbers, .ref a_this_least, .ref a_this_stepsFrom, .ref a_this_most, .ref a_this_next, .ref a_this_otherSteps, .ref a_this_ahead, .ref a_this_now, .int v_seed])), (a_this_least, .inl (cI, 180, .inl g_least)), (a_this_refused, .inl (cI, 7, .inl g_refused)), (a_this_s, .inl (cI, 39, .inl g_s))] [(0, .ref a_this)] 14 []) (fun _ he => (hWW _ _ _ _).mpr (fun H locs ls hP hD hS hl => ?_)) (fun k6 hk6 he => ?_)
  · refine lv_aload_n hx hb dX8_fines_14 rfl (lv_at hl 0 rfl) ?_
    refine lv_iconst (v := (-1 : Int32)) hx hb dX8_fines_15 (by decide) ?_
    obtain ⟨r3, g_refused_4, hf5, he⟩ := zb2_e he
    refine zc_i (wr := [(a_this_least, .inl (cI, 180, .inl g_least)), (a_this_s, .inl (cI, 39, .inl g_s))]) (ws' := [(a_this, .inr (8, [.ref a_this_s, .ref a_this_image, .ref a_this_was, .int v_hasImage, .ref a_this_letters, .ref a_this_row, .ref a_this_refused, .int v_letterMany, .int v_rowMany, .int v_place, .ref a_this_numbers, .ref a_this_least, .ref a_this_stepsFrom, .ref a_this_most, .ref a_this_next, .ref a_this_otherSteps, .ref a_this_ahead, .ref a_this_now, .int v_seed])), (a_this_least, .inl (cI, 180, .inl g_least)), (a_this_refused, .inl (cI, 7, .inl g_refused_4)), (a_this_s, .inl (cI, 39, .inl g_s))]) (va_runV (As := [.int (-1 : Int32)]) (rest := []) ⟨hx, hb, hml, hown, hts⟩ (k_M_no l dC dI cI cZ tt sd a_this a_this_s a_this_image a_this_was a_this_letters a_this_row a_this_refused a_this_numbers a_this_least a_this_stepsFrom a_this_most a_this_next a_this_otherSteps a_this_ahead a_this_now H.size v_hasImage v_letterMany v_rowMany v_place v_seed g_refused (-1 : Int32) r3 g_refused_4 hf5) (cwV 1 hts gX8_fines_X8_no rfl rfl rfl (by decide +kernel) ⟨Nat.le_of_ble_eq_true rfl, Nat.le_of_ble_eq_true rfl⟩) (zpV hP hD hK hS hA hZ [0, 2] rfl rfl 8 0 rfl rfl) rfl rfl hl.1 rfl (lv_room (Nat.le_of_ble_eq_true rfl)) dX8_fines_16 ⟨Nat.zero_le _, Nat.zero_le _⟩) hP hD hS hA [0, 2] [1, 3] [2, 0, 3, 1] rfl rfl rfl (by decide) rfl rfl rfl (fun H locs hP hD hS => ?_)
    cases he
    exact W.iret hx hb hr (fun t ht hW => ⟨⟨_, (), rfl, rfl, by rw [ht]; exact hP, va_K.moved hW.alike hK, hD⟩, hS.F ht⟩) hS.2.2 dX8_fines_19
  refine lv_if_eq (tgt := 14) hx hb dX8_fines_4 (by decide) (fun c7 => ?_) (fun c7 => ?_)
  · have he := zif_t c7 he
    exact (hWW _ _ _ _).mp (hk6 () he) _ _ _ hP hD hS (lv_sub hl [0] rfl)
  · have he := zif_f c7 he
    refine lv_iload_n hx hb dX8_fines_7 rfl (lv_at hl 2 rfl) ?_
    obtain ⟨r8, hf9, he⟩ := zb1_e he
    refine zc_i (wr := [(a_this, .inr (8, [.ref a_this_s, .ref a_this_image, .ref a_this_was, .int v_hasImage, .ref a_this_letters, .ref a_this_row, .ref a_this_refused, .int v_letterMany, .int v_rowMany, .int v_place, .ref a_this_numbers, .ref a_this_least, .ref a_this_stepsFrom, .ref a_this_most, .ref a_this_next, .ref a_this_otherSteps, .ref a_this_ahead, .ref a_this_now, .int v_seed])), (a_this_least, .inl (cI, 180, .inl g_least)), (a_this_refused, .inl (cI, 7, .inl g_refused)), (a_this_s, .inl (cI, 39, .inl g_s))]) (ws' := [(a_this, .inr (8, [.ref a_this_s, .ref a_this_image, .ref a_this_was, .int v_hasImage, .ref a_this_letters, .ref a_this_row, .ref a_this_refused, .int v_letterMany, .int v_rowMany, .int v_place, .ref a_this_numbers, .ref a_this_least, .ref a_this_stepsFrom, .ref a_this_most, .ref a_this_next, .ref a_this_otherSteps, .ref a_this_ahead, .ref a_this_now, .int v_seed])), (a_this_least, .inl (cI, 180, .inl g_least)), (a_this_refused, .inl (cI, 7, .inl g_refused)), (a_this_s, .inl (cI, 39, .inl g_s))]) (va_runS (As := [.int p2]) (rest := []) ⟨hx, hb, hml, hown, hts⟩ (k_M_isSquare l dC dI cI cZ tt sd H.size p2 r8 hf9) (va_cwS 1 hts gX8_fines_X8_isSquare rfl rfl rfl (by decide +kernel) ⟨Nat.le_of_ble_eq_true rfl, Nat.le_of_ble_eq_true rfl⟩) (zpS hP hD hK hS hA hZ [] rfl rfl) rfl rfl hl.1 rfl (lv_room (Nat.le_of_ble_eq_true rfl)) dX8_fines_8 ⟨Nat.zero_le _, Nat.zero_le _⟩) hP hD hS hA [] [0, 1, 2, 3] [0, 1, 2, 3] rfl rfl rfl (by decide) rfl rfl rfl (fun H locs hP hD hS => ?_)
    refine lv_if_ne (tgt := 20) hx hb dX8_fines_11 (by decide) (fun c10 => ?_) (fun c10 => ?_)
    · have he := zif_f c10 he
      refine lv_aload_n hx hb dX8_fines_20 rfl (lv_at hl 0 rfl) ?_
      refine lv_iload_n hx hb dX8_fines_21 rfl (lv_at hl 1 rfl) ?_
      refine lv_bipush (v := (-9 : Int32)) hx hb dX8_fines_22 (by decide) ?_
      refine lv_iconst (v := (1 : Int32)) hx hb dX8_fines_24 (by decide) ?_
      obtain ⟨g_least_11, hf12, he⟩ := zb1_e he
      refine zc_v (wr := [(a_this_refused, .inl (cI, 7, .inl g_refused))]) (ws' := [(a_this, .inr (8, [.ref a_this_s, .ref a_this_image, .ref a_this_was, .int v_hasImage, .ref a_this_letters, .ref a_this_row, .ref a_this_refused, .int v_letterMany, .int v_rowMany, .int v_place, .ref a_this_numbers, .ref a_this_least, .ref a_this_stepsFrom, .ref a_this_most, .ref a_this_next, .ref a_this_otherSteps, .ref a_this_ahead, .ref a_this_now, .int v_seed])), (a_this_least, .inl (cI, 180, .inl g_least_11)), (a_this_refused, .inl (cI, 7, .inl g_refused)), (a_this_s, .inl (cI, 39, .inl g_s))]) (va_runV (As := [.int p1, .int (-9 : Int32), .int (1 : Int32)]) (rest := []) ⟨hx, hb, hml, hown, hts⟩ (k_M_leastAll l dC dI cI cZ tt sd a_this a_this_s a_this_image a_this_was a_this_letters a_this_row a_this_refused a_this_numbers a_this_least a_this_stepsFrom a_this_most a_this_next a_this_otherSteps a_this_ahead a_this_now H.size v_hasImage v_letterMany v_rowMany v_place v_seed g_least g_s p1 (-9 : Int32) (1 : Int32) g_least_11 hf12) (cwV 3 hts gX8_fines_X8_leastAll rfl rfl rfl (by decide +kernel) ⟨Nat.le_of_ble_eq_true rfl, Nat.le_of_ble_eq_true rfl⟩) (zpV hP hD hK hS hA hZ [0, 1, 3] rfl rfl 8 0 rfl rfl) rfl rfl hl.1 rfl (lv_room (Nat.le_of_ble_eq_true rfl)) dX8_fines_25 ⟨Nat.zero_le _, Nat.zero_le _⟩) hP hD hS hA [0, 1, 3] [2] [1, 2, 0, 3] rfl rfl rfl (by decide) rfl rfl rfl (fun H locs hP hD hS => ?_)
      refine lv_aload_n hx hb dX8_fines_28 rfl (lv_at hl 0 rfl) ?_
      refine lv_iload_n hx hb dX8_fines_29 rfl (lv_at hl 2 rfl) ?_
      obtain ⟨r13, hf14, he⟩ := zb1_e he
      refine zc_i (wr := [(a_this_refused, .inl (cI, 7, .inl g_refused)), (a_this_s, .inl (cI, 39, .inl g_s))]) (ws' := [(a_this, .inr (8, [.ref a_this_s, .ref a_this_image, .ref a_this_was, .int v_hasImage, .ref a_this_letters, .ref a_this_row, .ref a_this_refused, .int v_letterMany, .int v_rowMany, .int v_place, .ref a_this_numbers, .ref a_this_least, .ref a_this_stepsFrom, .ref a_this_most, .ref a_this_next, .ref a_this_otherSteps, .ref a_this_ahead, .ref a_this_now, .int v_seed])), (a_this_least, .inl (cI, 180, .inl g_least_11)), (a_this_refused, .inl (cI, 7, .inl g_refused)), (a_this_s, .inl (cI, 39, .inl g_s))]) (va_runV (As := [.int p2]) (rest := []) ⟨hx, hb, hml, hown, hts⟩ (k_M_leastAt l dC dI cI cZ tt sd a_this a_this_s a_this_image a_this_was a_this_letters a_this_row a_this_refused a_this_numbers a_this_least a_this_stepsFrom a_this_most a_this_next a_this_otherSteps a_this_ahead a_this_now H.size v_hasImage v_letterMany v_rowMany v_place v_seed g_least_11 p2 r13 hf14) (cwV 1 hts gX8_fines_X8_leastAt rfl rfl rfl (by decide +kernel) ⟨Nat.le_of_ble_eq_true rfl, Nat.le_of_ble_eq_true rfl⟩) (zpV hP hD hK hS hA hZ [0, 1] rfl rfl 8 0 rfl rfl) rfl rfl hl.1 rfl (lv_room (Nat.le_of_ble_eq_true rfl)) dX8_fines_30 ⟨Nat.zero_le _, Nat.zero_le _⟩) hP hD hS hA [0, 1] [2, 3] [2, 3, 0, 1] rfl rfl rfl (by decide) rfl rfl rfl (fun H locs hP hD hS => ?_)
      refine lv_istore_n (lv' := [(3, .int r13), (0, .ref a_this), (1, .int p1), (2, .int p2)]) hx hb dX8_fines_33 rfl hl (by decide) rfl (fun ls hl => ?_)
      refine lv_iload_n hx hb dX8_fines_34 rfl (lv_at hl 0 rfl) ?_
      refine lv_ldc (v := (1000000000 : Int32)) hx hb hown (hts (.constant RX8 140 (1000000000 : Int32)) (by decide +kernel)) dX8_fines_35 ?_
      refine lv_icmp_lt (tgt := 45) hx hb dX8_fines_37 (by decide) (fun c15 => ?_) (fun c15 => ?_)
      · have he := zif_t c15 he
        refine lv_iload_n hx hb dX8_fines_45 rfl (lv_at hl 0 rfl) ?_
        refine lv_aload_n hx hb dX8_fines_46 rfl (lv_at hl 1 rfl) ?_
        refine lv_iload_n hx hb dX8_fines_47 rfl (lv_at hl 3 rfl) ?_
        obtain ⟨r16, hf17, he⟩ := zb1_e he
        refine zc_i (wr := [(a_this_least, .inl (cI, 180, .inl g_least_11)), (a_this_refused, .inl (cI, 7, .inl g_refused))]) (ws' := [(a_this, .inr (8, [.ref a_this_s, .ref a_this_image, .ref a_this_was, .int v_hasImage, .ref a_this_letters, .ref a_this_row, .ref a_this_refused, .int v_letterMany, .int v_rowMany, .int v_place, .ref a_this_numbers, .ref a_this_least, .ref a_this_stepsFrom, .ref a_this_most, .ref a_this_next, .ref a_this_otherSteps, .ref a_this_ahead, .ref a_this_now, .int v_seed])), (a_this_least, .inl (cI, 180, .inl g_least_11)), (a_this_refused, .inl (cI, 7, .inl g_refused)), (a_this_s, .inl (cI, 39, .inl g_s))]) (va_runV (As := [.int p2]) (rest := [.int r13]) ⟨hx, hb, hml, hown, hts⟩ (k_M_wordsOn l dC dI cI cZ tt sd a_this a_this_s a_this_image a_this_was a_this_letters a_this_row a_this_refused a_this_numbers a_this_least a_this_stepsFrom a_this_most a_this_next a_this_otherSteps a_this_ahead a_this_now H.size v_hasImage v_letterMany v_rowMany v_place v_seed g_s p2 r16 hf17) (cwV 1 hts gX8_fines_X8_wordsOn rfl rfl rfl (by decide +kernel) ⟨Nat.le_of_ble_eq_true rfl, Nat.le_of_ble_eq_true rfl⟩) (zpV hP hD hK hS hA hZ [0, 3] rfl rfl 8 0 rfl rfl) rfl rfl hl.1 rfl (lv_room (Nat.le_of_ble_eq_true rfl)) dX8_fines_48 ⟨Nat.zero_le _, Nat.zero_le _⟩) hP hD hS hA [0, 3] [1, 2] [2, 0, 1, 3] rfl rfl rfl (by decide) rfl rfl rfl (fun H locs hP hD hS => ?_)
        refine lv_aload_n hx hb dX8_fines_51 rfl (lv_at hl 1 rfl) ?_
        refine va_get (D := (dC, dI)) (ci := 8) (v := .ref a_this_s) (C := RX8) (T := TX8) (N := 19) hx hb hts (by decide +kernel) hown hK hP 0 rfl rfl 0 (by decide) (hts (.fieldLink RX8 9 "LawOfCornersModel" "s" "[I") (by decide +kernel)) (fun _ h9 => h9) rfl dX8_fines_52 ?_
        refine lv_bipush (v := (37 : Int32)) hx hb dX8_fines_55 (by decide) ?_
        obtain ⟨hg18, he⟩ := zg_e he
        refine va_iald hx hb hK hP 3 0 rfl rfl hg18 dX8_fines_57 ?_
        refine lv_imul hx hb dX8_fines_58 ?_
        refine lv_aload_n hx hb dX8_fines_59 rfl (lv_at hl 1 rfl) ?_
        refine lv_iload_n hx hb dX8_fines_60 rfl (lv_at hl 3 rfl) ?_
        obtain ⟨r19, hf20, he⟩ := zb1_e he
        refine zc_i (wr := [(a_this_least, .inl (cI, 180, .inl g_least_11)), (a_this_refused, .inl (cI, 7, .inl g_refused))]) (ws' := [(a_this, .inr (8, [.ref a_this_s, .ref a_this_image, .ref a_this_was, .int v_hasImage, .ref a_this_letters, .ref a_this_row, .ref a_this_refused, .int v_letterMany, .int v_rowMany, .int v_place, .ref a_this_numbers, .ref a_this_least, .ref a_this_stepsFrom, .ref a_this_most, .ref a_this_next, .ref a_this_otherSteps, .ref a_this_ahead, .ref a_this_now, .int v_seed])), (a_this_least, .inl (cI, 180, .inl g_least_11)), (a_this_refused, .inl (cI, 7, .inl g_refused)), (a_this_s, .inl (cI, 39, .inl g_s))]) (va_runV (As := [.int p2]) (rest := [.int (r16 * (g_s (37 : Int32).toNatClampNeg)), .int r13]) ⟨hx, hb, hml, hown, hts⟩ (k_M_heardBy l dC dI cI cZ tt sd a_this a_this_s a_this_image a_this_was a_this_letters a_this_row a_this_refused a_this_numbers a_this_least a_this_stepsFrom a_this_most a_this_next a_this_otherSteps a_this_ahead a_this_now H.size v_hasImage v_letterMany v_rowMany v_place v_seed g_s p2 r19 hf20) (cwV 1 hts gX8_fines_X8_heardBy rfl rfl rfl (by decide +kernel) ⟨Nat.le_of_ble_eq_true rfl, Nat.le_of_ble_eq_true rfl⟩) (zpV hP hD hK hS hA hZ [0, 3] rfl rfl 8 0 rfl rfl) rfl rfl hl.1 rfl (lv_room (Nat.le_of_ble_eq_true rfl)) dX8_fines_61 ⟨Nat.zero_le _, Nat.zero_le _⟩) hP hD hS hA [0, 3] [1, 2] [2, 0, 1, 3] rfl rfl rfl (by decide) rfl rfl rfl (fun H locs hP hD hS => ?_)
        refine lv_imul hx hb dX8_fines_64 ?_
        refine lv_iadd hx hb dX8_fines_65 ?_
        cases he
        exact W.iret hx hb hr (fun t ht hW => ⟨⟨_, (), rfl, rfl, by rw [ht]; exact hP, va_K.moved hW.alike hK, hD⟩, hS.F ht⟩) hS.2.2 dX8_fines_66
      · have he := zif_f c15 he
        refine lv_bipush (v := (-9 : Int32)) hx hb dX8_fines_40 (by decide) ?_
        refine lv_goto (tgt := 66) hx hb dX8_fines_42 (by decide) ?_
        cases he
        exact W.iret hx hb hr (fun t ht hW => ⟨⟨_, (), rfl, rfl, by rw [ht]; exact hP, va_K.moved hW.alike hK, hD⟩, hS.F ht⟩) hS.2.2 dX8_fines_66
    · have he := zif_t c10 he
      exact (hWW _ _ _ _).mp (hk6 () he) _ _ _ hP hD hS (lv_sub hl [0] rfl)
set_option maxHeartbeats 4000000 in
set_option maxRecDepth 100000 in
theorem k_M_straightOf (l : Launch) (dC : Nat → ClassId) (dI : Nat → Nat → Nat) (cI : ClassId) (cZ : ClassId) (tt : Nat → Nat) (sd : Nat → Nat) (a_this : Nat) (a_this_s : Nat) (a_this_image : Nat) (a_this_was : Nat) (a_this_letters : Nat) (a_this_row : Nat) (a_this_refused : Nat) (a_this_numbers : Nat) (a_this_least : Nat) (a_this_stepsFrom : Nat) (a_this_most : Nat) (a_this_next : Nat) (a_this_otherSteps : Nat) (a_this_ahead : Nat) (a_this_now : Nat) (sz : Nat) (v_hasImage : Int32) (v_letterMany : Int32) (v_rowMany : Int32) (v_place : Int32) (v_seed : Int32) (g_s : Nat → Int32) (p1 : Int32) (p2 : Int32) (r0 : Int32) (hf : f_M_straightOf g_s p1 p2 = some (r0)) : Met l yX8_straightOf wsX8_straightOf ({ frames := 3, cells := 0, slots := 0, locals := 65 }) (zPre (dC, dI) vwCl [(cI, .int), (cZ, .boolean)] tt sd [.ref a_this, .int p1, .int p2] [(a_this, .inr (8, [.ref a_this_s, .ref a_this_image, .ref a_this_was, .int v_hasImage, .ref a_this_letters, .ref a_this_row, .ref a_this_refused, .int v_letterMany, .int v_rowMany, .int v_place, .ref a_this_numbers, .ref a_this_least, .ref a_this_stepsFrom, .ref a_this_most, .ref a_this_next, .ref a_this_otherSteps, .ref a_this_ahead, .ref a_this_now, .int v_seed])), (a_this_s, .inl (cI, 39, .inl g_s))] sz) (zQi (dC, dI) vwCl [(cI, .int), (cZ, .boolean)] r0 [(a_this, .inr (8, [.ref a_this_s, .ref a_this_image, .ref a_this_was, .int v_hasImage, .ref a_this_letters, .ref a_this_row, .ref a_this_refused, .int v_letterMany, .int v_rowMany, .int v_place, .ref a_this_numbers, .ref a_this_least, .ref a_this_stepsFrom, .ref a_this_most, .ref a_this_next, .ref a_this_otherSteps, .ref a_this_ahead, .ref a_this_now, .int v_seed])), (a_this_s, .inl (cI, 39, .inl g_s))] (va_A [(a_this, .inr (8, [.ref a_this_s, .ref a_this_image, .ref a_this_was, .int v_hasImage, .ref a_this_letters, .ref a_this_row, .ref a_this_refused, .int v_letterMany, .int v_rowMany, .int v_place, .ref a_this_numbers, .ref a_this_least, .ref a_this_stepsFrom, .ref a_this_most, .ref a_this_next, .ref a_this_otherSteps, .ref a_this_ahead, .ref a_this_now, .int v_seed])), (a_this_s, .inl (cI, 39, .inl g_s))] sz)) 0 0 (va_A [(a_this, .inr (8, [.ref a_this_s, .ref a_this_image, .ref a_this_was, .int v_hasImage, .ref a_this_letters, .ref a_this_row, .ref a_this_refused, .int v_letterMany, .int v_rowMany, .int v_place, .ref a_this_numbers, .ref a_this_least, .ref a_this_stepsFrom, .ref a_this_most, .ref a_this_next, .ref a_this_otherSteps, .ref a_this_ahead, .ref a_this_now, .int v_seed])), (a_this_s, .inl (cI, 39, .inl g_s))] sz) := by
  refine Met.ofW (cc := cX8_straightOf) (maxL := 5) (ret := (some .int)) (by decide) rfl ?_
  intro p e s m args below meth c s₁ B hml hv
  obtain ⟨rfl, hsz, hP, hK, hD0, hZ⟩ := hv
  have hx := B.exec
  have hb := B.bytes
  have hr := B.returns
  have hts := atoms_spec (ws := wsX8_straightOf) B.pre
  have hown : s.vm.findClass RX8 = some m.cls := findClass_of_methodNamed B.named
  have hlocks := B.notSynchronized
  subst hsz
  have hD := hD0.self (sz := s.heap.size)
  generalize hAe : va_A [(a_this, .inr (8, [.ref a_this_s, .ref a_this_image, .ref a_this_was, .int v_hasImage, .ref a_this_letters, .ref a_this_row, .ref a_this_refused, .int v_letterMany, .int v_rowMany, .int v_place, .ref a_this_numbers, .ref a_this_least, .ref a_this_stepsFrom, .ref a_this_most, .ref a_this_next, .ref a_this_otherSteps, .ref a_this_ahead, .ref a_this_now, .int v_seed])), (a_this_s, .inl (cI, 39, .inl g_s))] s.heap.size = A at hD hZ ⊢
  have hA : ∀ q : Nat, s.heap.size ≤ q → A q := fun q h => by rw [← hAe]; exact Or.inr h
  have hS : va_S A s.heap s.heap [] := va_S.rf
  have hP : va_P (dC, dI) vwCl [(a_this, .inr (8, [.ref a_this_s, .ref a_this_image, .ref a_this_was, .int v_hasImage, .ref a_this_letters, .ref a_this_row, .ref a_this_refused, .int v_letterMany, .int v_rowMany, .int v_place, .ref a_this_numbers, .ref a_this_least, .ref a_this_stepsFrom, .ref a_this_most, .ref a_this_next, .ref a_this_otherSteps, .ref a_this_ahead, .ref a_this_now, .int v_seed])), (a_this_s, .inl (cI, 39, .inl g_s))] s.heap := hP
  have hl := lv_entry ([.ref a_this, .int p1, .int p2]) (n := 5) (Nat.le_of_ble_eq_true rfl)
  rw [lg_entry_eq]
  generalize (lg_sl ([.ref a_this, .int p1, .int p2]) ++ List.replicate (5 - (lg_sl ([.ref a_this, .int p1, .int p2])).length) Slot.unset).toArray = ls at hl ⊢
  have hl : lv_has ls 5 [(0, .ref a_this), (1, .int p1), (2, .int p2)] := hl
  have he := hf
  unfold f_M_straightOf at he
  refine zstart (D := (dC, dI)) (cl := vwCl) (A := A) (nL := 5) (fun WW hWW => ?_)
  refine lv_iconst (v := (0 : Int32)) hx hb dX8_straightOf_0 (by decide) ?_
  refine lv_istore_n (lv' := [(3, .int (0 : Int32)), (0, .ref a_this), (1, .int p1), (2, .int p2)]) hx hb dX8_straightOf_1 rfl hl (by decide) rfl (fun ls hl => ?_)
  refine lv_aload_n hx hb dX8_straightOf_2 rfl (lv_at hl 1 rfl) ?_
  refine lv_iload_n hx hb dX8_straightOf_3 rfl (lv_at hl 2 rfl) ?_
  refine lv_iload_n hx hb dX8_straightOf_4 rfl (lv_at hl 3 rfl) ?_
  obtain ⟨r1, hf2, he⟩ := zb1_e he
  refine zc_i (wr := []) (ws' := [(a_this, .inr (8, [.ref a_this_s, .ref a_this_image, .ref a_this_was, .int v_hasImage, .ref a_this_letters, .ref a_this_row, .ref a_this_refused, .int v_letterMany, .int v_rowMany, .int v_place, .ref a_this_numbers, .ref a_this_least, .ref a_this_stepsFrom, .ref a_this_most, .ref a_this_next, .ref a_this_otherSteps, .ref a_this_ahead, .ref a_this_now, .int v_seed])), (a_this_s, .inl (cI, 39, .inl g_s))]) (va_runV (As := [.int p1, .int p2]) (rest := []) ⟨hx, hb, hml, hown, hts⟩ (k_M_gone l dC dI cI cZ tt sd a_this a_this_s a_this_image a_this_was a_this_letters a_this_row a_this_refused a_this_numbers a_this_least a_this_stepsFrom a_this_most a_this_next a_this_otherSteps a_this_ahead a_this_now s.heap.size v_hasImage v_letterMany v_rowMany v_place v_seed g_s p1 p2 r1 hf2) (cwV 2 hts gX8_straightOf_X8_gone rfl rfl rfl (by decide +kernel) ⟨Nat.le_of_ble_eq_true rfl, Nat.le_of_ble_eq_true rfl⟩) (zpV hP hD hK hS hA hZ [0, 1] rfl rfl 8 0 rfl rfl) rfl rfl hl.1 rfl (lv_room (Nat.le_of_ble_eq_true rfl)) dX8_straightOf_5 ⟨Nat.zero_le _, Nat.zero_le _⟩) hP hD hS hA [0, 1] [] [0, 1] rfl rfl rfl (by decide) rfl rfl rfl (fun H locs hP hD hS => ?_)
  refine lv_istore (lv' := [(4, .int r1), (3, .int (0 : Int32)), (0, .ref a_this), (1, .int p1), (2, .int p2)]) hx hb dX8_straightOf_8 hl (by decide) rfl (fun ls hl => ?_)
  refine (hWW _ _ _ _).mp (zl2_w he (fun (l3_3 : Int32) (l4_4 : Int32) => WW [(a_this, .inr (8, [.ref a_this_s, .ref a_this_image, .ref a_this_was, .int v_hasImage, .ref a_this_letters, .ref a_this_row, .ref a_this_refused, .int v_letterMany, .int v_rowMany, .int v_place, .ref a_this_numbers, .ref a_this_least, .ref a_this_stepsFrom, .ref a_this_most, .ref a_this_next, .ref a_this_otherSteps, .ref a_this_ahead, .ref a_this_now, .int v_seed])), (a_this_s, .inl (cI, 39, .inl g_s))] [(0, .ref a_this), (2, .int p2), (3, .int l3_3), (4, .int l4_4)] 10 []) (fun l3_3 l4_4 again5 hagain5 he => (hWW _ _ _ _).mpr (fun H locs ls hP hD hS hl => ?_))) _ _ _ hP hD hS (lv_sub hl [2, 4, 1, 0] rfl)
  refine lv_iload hx hb dX8_straightOf_10 (lv_at hl 3 rfl) ?_
  refine lv_if_lt (tgt := 30) hx hb dX8_straightOf_12 (by decide) (fun c6 => ?_) (fun c6 => ?_)
  · have he := zif_t c6 he
    refine lv_iload_n hx hb dX8_straightOf_30 rfl (lv_at hl 2 rfl) ?_
    cases he
    exact W.iret hx hb hr (fun t ht hW => ⟨⟨_, (), rfl, rfl, by rw [ht]; exact hP, va_K.moved hW.alike hK, hD⟩, hS.F ht⟩) hS.2.2 dX8_straightOf_31
  · have he := zif_f c6 he
    obtain ⟨x7, ex7⟩ : ∃ y : Int32, y = l3_3 + (1 : Int32) := ⟨_, rfl⟩
    have he := zn_e ex7 he
    refine lv_iinc (v := x7) (lv' := [(3, .int x7), (0, .ref a_this), (2, .int p2), (4, .int l4_4)]) hx hb dX8_straightOf_15 hl (k := 2) rfl (by rw [ex7]; rfl) (by decide) rfl (fun ls hl => ?_)
    refine lv_aload_n hx hb dX8_straightOf_18 rfl (lv_at hl 1 rfl) ?_
    refine lv_iload hx hb dX8_straightOf_19 (lv_at hl 3 rfl) ?_
    refine lv_iload_n hx hb dX8_straightOf_21 rfl (lv_at hl 2 rfl) ?_
    obtain ⟨r8, hf9, he⟩ := zb1_e he
    refine zc_i (wr := []) (ws' := [(a_this, .inr (8, [.ref a_this_s, .ref a_this_image, .ref a_this_was, .int v_hasImage, .ref a_this_letters, .ref a_this_row, .ref a_this_refused, .int v_letterMany, .int v_rowMany, .int v_place, .ref a_this_numbers, .ref a_this_least, .ref a_this_stepsFrom, .ref a_this_most, .ref a_this_next, .ref a_this_otherSteps, .ref a_this_ahead, .ref a_this_now, .int v_seed])), (a_this_s, .inl (cI, 39, .inl g_s))]) (va_runV (As := [.int l4_4, .int p2]) (rest := []) ⟨hx, hb, hml, hown, hts⟩ (k_M_gone l dC dI cI cZ tt sd a_this a_this_s a_this_image a_this_was a_this_letters a_this_row a_this_refused a_this_numbers a_this_least a_this_stepsFrom a_this_most a_this_next a_this_otherSteps a_this_ahead a_this_now H.size v_hasImage v_letterMany v_rowMany v_place v_seed g_s l4_4 p2 r8 hf9) (cwV 2 hts gX8_straightOf_X8_gone rfl rfl rfl (by decide +kernel) ⟨Nat.le_of_ble_eq_true rfl, Nat.le_of_ble_eq_true rfl⟩) (zpV hP hD hK hS hA hZ [0, 1] rfl rfl 8 0 rfl rfl) rfl rfl hl.1 rfl (lv_room (Nat.le_of_ble_eq_true rfl)) dX8_straightOf_22 ⟨Nat.zero_le _, Nat.zero_le _⟩) hP hD hS hA [0, 1] [] [0, 1] rfl rfl rfl (by decide) rfl rfl rfl (fun H locs hP hD hS => ?_)
    refine lv_istore (lv' := [(4, .int r8), (3, .int x7), (0, .ref a_this), (2, .int p2)]) hx hb dX8_straightOf_25 hl (by decide) rfl (fun ls hl => ?_)
    refine lv_goto (tgt := 10) hx hb dX8_straightOf_27 (by decide) ?_
    exact (hWW _ _ _ _).mp (hagain5 x7 r8 he) _ _ _ hP hD hS (lv_sub hl [2, 3, 1, 0] rfl)
set_option maxHeartbeats 4000000 in
set_option maxRecDepth 100000 in
theorem k_M_straight (l : Launch) (dC : Nat → ClassId) (dI : Nat → Nat → Nat) (cI : ClassId) (cZ : ClassId) (tt : Nat → Nat) (sd : Nat → Nat) (a_this : Nat) (a_this_s : Nat) (a_this_image : Nat) (a_this_was : Nat) (a_this_letters : Nat) (a_this_row : Nat) (a_this_refused : Nat) (a_this_numbers : Nat) (a_this_least : Nat) (a_this_stepsFrom : Nat) (a_this_most : Nat) (a_this_next : Nat) (a_this_otherSteps : Nat) (a_this_ahead : Nat) (a_this_now : Nat) (sz : Nat) (v_hasImage : Int32) (v_letterMany : Int32) (v_rowMany : Int32) (v_place : Int32) (v_seed : Int32) (g_refused : Nat → Int32) (g_s : Nat → Int32) (p1 : Int32) (p2 : Int32) (r0 : Int32) (w0 : Nat → Int32) (hf : f_M_straight g_refused g_s p1 p2 = some (r0, w0)) : Met l yX8_straight wsX8_straight ({ frames := 4, cells := 0, slots := 0, locals := 89 }) (zPre (dC, dI) vwCl [(cI, .int), (cZ, .boolean)] tt sd [.ref a_this, .int p1, .int p2] [(a_this, .inr (8, [.ref a_this_s, .ref a_this_image, .ref a_this_was, .int v_hasImage, .ref a_this_letters, .ref a_this_row, .ref a_this_refused, .int v_letterMany, .int v_rowMany, .int v_place, .ref a_this_numbers, .ref a_this_least, .ref a_this_stepsFrom, .ref a_this_most, .ref a_this_next, .ref a_this_otherSteps, .ref a_this_ahead, .ref a_this_now, .int v_seed])), (a_this_refused, .inl (cI, 7, .inl g_refused)), (a_this_s, .inl (cI, 39, .inl g_s))] sz) (zQi (dC, dI) vwCl [(cI, .int), (cZ, .boolean)] r0 [(a_this, .inr (8, [.ref a_this_s, .ref a_this_image, .ref a_this_was, .int v_hasImage, .ref a_this_letters, .ref a_this_row, .ref a_this_refused, .int v_letterMany, .int v_rowMany, .int v_place, .ref a_this_numbers, .ref a_this_least, .ref a_this_stepsFrom, .ref a_this_most, .ref a_this_next, .ref a_this_otherSteps, .ref a_this_ahead, .ref a_this_now, .int v_seed])), (a_this_refused, .inl (cI, 7, .inl w0)), (a_this_s, .inl (cI, 39, .inl g_s))] (va_A [(a_this, .inr (8, [.ref a_this_s, .ref a_this_image, .ref a_this_was, .int v_hasImage, .ref a_this_letters, .ref a_this_row, .ref a_this_refused, .int v_letterMany, .int v_rowMany, .int v_place, .ref a_this_numbers, .ref a_this_least, .ref a_this_stepsFrom, .ref a_this_most, .ref a_this_next, .ref a_this_otherSteps, .ref a_this_ahead, .ref a_this_now, .int v_seed])), (a_this_refused, .inl (cI, 7, .inl g_refused)), (a_this_s, .inl (cI, 39, .inl g_s))] sz)) 0 0 (va_A [(a_this, .inr (8, [.ref a_this_s, .ref a_this_image, .ref a_this_was, .int v_hasImage, .ref a_this_letters, .ref a_this_row, .ref a_this_refused, .int v_letterMany, .int v_rowMany, .int v_place, .ref a_this_numbers, .ref a_this_least, .ref a_this_stepsFrom, .ref a_this_most, .ref a_this_next, .ref a_this_otherSteps, .ref a_this_ahead, .ref a_this_now, .int v_seed])), (a_this_refused, .inl (cI, 7, .inl g_refused)), (a_this_s, .inl (cI, 39, .inl g_s))] sz) := by
  refine Met.ofW (cc := cX8_straight) (maxL := 3) (ret := (some .int)) (by decide) rfl ?_
  intro p e s m args below meth c s₁ B hml hv
  obtain ⟨rfl, hsz, hP, hK, hD0, hZ⟩ := hv
  have hx := B.exec
  have hb := B.bytes
  have hr := B.returns
  have hts := atoms_spec (ws := wsX8_straight) B.pre
  have hown : s.vm.findClass RX8 = some m.cls := findClass_of_methodNamed B.named
  have hlocks := B.notSynchronized
  subst hsz
  have hD := hD0.self (sz := s.heap.size)
  generalize hAe : va_A [(a_this, .inr (8, [.ref a_this_s, .ref a_this_image, .ref a_this_was, .int v_hasImage, .ref a_this_letters, .ref a_this_row, .ref a_this_refused, .int v_letterMany, .int v_rowMany, .int v_place, .ref a_this_numbers, .ref a_this_least, .ref a_this_stepsFrom, .ref a_this_most, .ref a_this_next, .ref a_this_otherSteps, .ref a_this_ahead, .ref a_this_now, .int v_seed])), (a_this_refused, .inl (cI, 7, .inl g_refused)), (a_this_s, .inl (cI, 39, .inl g_s))] s.heap.size = A at hD hZ ⊢
  have hA : ∀ q : Nat, s.heap.size ≤ q → A q := fun q h => by rw [← hAe]; exact Or.inr h
  have hS : va_S A s.heap s.heap [] := va_S.rf
  have hP : va_P (dC, dI) vwCl [(a_this, .inr (8, [.ref a_this_s, .ref a_this_image, .ref a_this_was, .int v_hasImage, .ref a_this_letters, .ref a_this_row, .ref a_this_refused, .int v_letterMany, .int v_rowMany, .int v_place, .ref a_this_numbers, .ref a_this_least, .ref a_this_stepsFrom, .ref a_this_most, .ref a_this_next, .ref a_this_otherSteps, .ref a_this_ahead, .ref a_this_now, .int v_seed])), (a_this_refused, .inl (cI, 7, .inl g_refused)), (a_this_s, .inl (cI, 39, .inl g_s))] s.heap := hP
  have hl := lv_entry ([.ref a_this, .int p1, .int p2]) (n := 3) (Nat.le_of_ble_eq_true rfl)
  rw [lg_entry_eq]
  generalize (lg_sl ([.ref a_this, .int p1, .int p2]) ++ List.replicate (3 - (lg_sl ([.ref a_this, .int p1, .int p2])).length) Slot.unset).toArray = ls at hl ⊢
  have hl : lv_has ls 3 [(0, .ref a_this), (1, .int p1), (2, .int p2)] := hl
  have he := hf
  unfold f_M_straight at he
  refine lv_iload_n hx hb dX8_straight_0 rfl (lv_at hl 1 rfl) ?_
  obtain ⟨r1, hf2, he⟩ := zb1_e he
  refine zc_i (wr := [(a_this, .inr (8, [.ref a_this_s, .ref a_this_image, .ref a_this_was, .int v_hasImage, .ref a_this_letters, .ref a_this_row, .ref a_this_refused, .int v_letterMany, .int v_rowMany, .int v_place, .ref a_this_numbers, .ref a_this_least, .ref a_this_stepsFrom, .ref a_this_most, .ref a_this_next, .ref a_this_otherSteps, .ref a_this_ahead, .ref a_this_now, .int v_seed])), (a_this_refused, .inl (cI, 7, .inl g_refused)), (a_this_s, .inl (cI, 39, .inl g_s))]) (ws' := [(a_this, .inr (8, [.ref a_this_s, .ref a_this_image, .ref a_this_was, .int v_hasImage, .ref a_this_letters, .ref a_this_row, .ref a_this_refused, .int v_letterMany, .int v_rowMany, .int v_place, .ref a_this_numbers, .ref a_this_least, .ref a_this_stepsFrom, .ref a_this_most, .ref a_this_next, .ref a_this_otherSteps, .ref a_this_ahead, .ref a_this_now, .int v_seed])), (a_this_refused, .inl (cI, 7, .inl g_refused)), (a_this_s, .inl (cI, 39, .inl g_s))]) (va_runS (As := [.int p1]) (rest := []) ⟨hx, hb, hml, hown, hts⟩ (k_M_isSquare l dC dI cI cZ tt sd s.heap.size p1 r1 hf2) (va_cwS 1 hts gX8_straight_X8_isSquare rfl rfl rfl (by decide +kernel) ⟨Nat.le_of_ble_eq_true rfl, Nat.le_of_ble_eq_true rfl⟩) (zpS hP hD hK hS hA hZ [] rfl rfl) rfl rfl hl.1 rfl (lv_room (Nat.le_of_ble_eq_true rfl)) dX8_straight_1 ⟨Nat.zero_le _, Nat.zero_le _⟩) hP hD hS hA [] [0, 1, 2] [0, 1, 2] rfl rfl rfl (by decide) rfl rfl rfl (fun H locs hP hD hS => ?_)
  refine lv_if_ne (tgt := 13) hx hb dX8_straight_4 (by decide) (fun c3 => ?_) (fun c3 => ?_)
  · have he := zif_f c3 he
    refine lv_iload_n hx hb dX8_straight_13 rfl (lv_at hl 2 rfl) ?_
    refine lv_iconst (v := (0 : Int32)) hx hb dX8_straight_14 (by decide) ?_
    refine lv_iconst (v := (3 : Int32)) hx hb dX8_straight_15 (by decide) ?_
    obtain ⟨r4, hf5, he⟩ := zb1_e he
    refine zc_i (wr := [(a_this, .inr (8, [.ref a_this_s, .ref a_this_image, .ref a_this_was, .int v_hasImage, .ref a_this_letters, .ref a_this_row, .ref a_this_refused, .int v_letterMany, .int v_rowMany, .int v_place, .ref a_this_numbers, .ref a_this_least, .ref a_this_stepsFrom, .ref a_this_most, .ref a_this_next, .ref a_this_otherSteps, .ref a_this_ahead, .ref a_this_now, .int v_seed])), (a_this_refused, .inl (cI, 7, .inl g_refused)), (a_this_s, .inl (cI, 39, .inl g_s))]) (ws' := [(a_this, .inr (8, [.ref a_this_s, .ref a_this_image, .ref a_this_was, .int v_hasImage, .ref a_this_letters, .ref a_this_row, .ref a_this_refused, .int v_letterMany, .int v_rowMany, .int v_place, .ref a_this_numbers, .ref a_this_least, .ref a_this_stepsFrom, .ref a_this_most, .ref a_this_next, .ref a_this_otherSteps, .ref a_this_ahead, .ref a_this_now, .int v_seed])), (a_this_refused, .inl (cI, 7, .inl g_refused)), (a_this_s, .inl (cI, 39, .inl g_s))]) (va_runS (As := [.int p2, .int (0 : Int32), .int (3 : Int32)]) (rest := []) ⟨hx, hb, hml, hown, hts⟩ (k_M_isIn l dC dI cI cZ tt sd H.size p2 (0 : Int32) (3 : Int32) r4 hf5) (va_cwS 3 hts gX8_straight_X8_isIn rfl rfl rfl (by decide +kernel) ⟨Nat.le_of_ble_eq_true rfl, Nat.le_of_ble_eq_true rfl⟩) (zpS hP hD hK hS hA hZ [] rfl rfl) rfl rfl hl.1 rfl (lv_room (Nat.le_of_ble_eq_true rfl)) dX8_straight_16 ⟨Nat.zero_le _, Nat.zero_le _⟩) hP hD hS hA [] [0, 1, 2] [0, 1, 2] rfl rfl rfl (by decide) rfl rfl rfl (fun H locs hP hD hS => ?_)
    refine lv_if_eq (tgt := 31) hx hb dX8_straight_19 (by decide) (fun c6 => ?_) (fun c6 => ?_)
    · have he := zif_t c6 he
      refine lv_aload_n hx hb dX8_straight_31 rfl (lv_at hl 0 rfl) ?_
      refine lv_bipush (v := (-2 : Int32)) hx hb dX8_straight_32 (by decide) ?_
      obtain ⟨r7, g_refused_8, hf9, he⟩ := zb2_e he
      refine zc_i (wr := [(a_this_s, .inl (cI, 39, .inl g_s))]) (ws' := [(a_this, .inr (8, [.ref a_this_s, .ref a_this_image, .ref a_this_was, .int v_hasImage, .ref a_this_letters, .ref a_this_row, .ref a_this_refused, .int v_letterMany, .int v_rowMany, .int v_place, .ref a_this_numbers, .ref a_this_least, .ref a_this_stepsFrom, .ref a_this_most, .ref a_this_next, .ref a_this_otherSteps, .ref a_this_ahead, .ref a_this_now, .int v_seed])), (a_this_refused, .inl (cI, 7, .inl g_refused_8)), (a_this_s, .inl (cI, 39, .inl g_s))]) (va_runV (As := [.int (-2 : Int32)]) (rest := []) ⟨hx, hb, hml, hown, hts⟩ (k_M_no l dC dI cI cZ tt sd a_this a_this_s a_this_image a_this_was a_this_letters a_this_row a_this_refused a_this_numbers a_this_least a_this_stepsFrom a_this_most a_this_next a_this_otherSteps a_this_ahead a_this_now H.size v_hasImage v_letterMany v_rowMany v_place v_seed g_refused (-2 : Int32) r7 g_refused_8 hf9) (cwV 1 hts gX8_straight_X8_no rfl rfl rfl (by decide +kernel) ⟨Nat.le_of_ble_eq_true rfl, Nat.le_of_ble_eq_true rfl⟩) (zpV hP hD hK hS hA hZ [0, 1] rfl rfl 8 0 rfl rfl) rfl rfl hl.1 rfl (lv_room (Nat.le_of_ble_eq_true rfl)) dX8_straight_34 ⟨Nat.zero_le _, Nat.zero_le _⟩) hP hD hS hA [0, 1] [2] [1, 2, 0] rfl rfl rfl (by decide) rfl rfl rfl (fun H locs hP hD hS => ?_)
      cases he
      exact W.iret hx hb hr (fun t ht hW => ⟨⟨_, (), rfl, rfl, by rw [ht]; exact hP, va_K.moved hW.alike hK, hD⟩, hS.F ht⟩) hS.2.2 dX8_straight_37
    · have he := zif_f c6 he
      refine lv_aload_n hx hb dX8_straight_22 rfl (lv_at hl 0 rfl) ?_
      refine lv_iload_n hx hb dX8_straight_23 rfl (lv_at hl 1 rfl) ?_
      refine lv_iload_n hx hb dX8_straight_24 rfl (lv_at hl 2 rfl) ?_
      obtain ⟨r10, hf11, he⟩ := zb1_e he
      refine zc_i (wr := [(a_this_refused, .inl (cI, 7, .inl g_refused))]) (ws' := [(a_this, .inr (8, [.ref a_this_s, .ref a_this_image, .ref a_this_was, .int v_hasImage, .ref a_this_letters, .ref a_this_row, .ref a_this_refused, .int v_letterMany, .int v_rowMany, .int v_place, .ref a_this_numbers, .ref a_this_least, .ref a_this_stepsFrom, .ref a_this_most, .ref a_this_next, .ref a_this_otherSteps, .ref a_this_ahead, .ref a_this_now, .int v_seed])), (a_this_refused, .inl (cI, 7, .inl g_refused)), (a_this_s, .inl (cI, 39, .inl g_s))]) (va_runV (As := [.int p1, .int p2]) (rest := []) ⟨hx, hb, hml, hown, hts⟩ (k_M_straightOf l dC dI cI cZ tt sd a_this a_this_s a_this_image a_this_was a_this_letters a_this_row a_this_refused a_this_numbers a_this_least a_this_stepsFrom a_this_most a_this_next a_this_otherSteps a_this_ahead a_this_now H.size v_hasImage v_letterMany v_rowMany v_place v_seed g_s p1 p2 r10 hf11) (cwV 2 hts gX8_straight_X8_straightOf rfl rfl rfl (by decide +kernel) ⟨Nat.le_of_ble_eq_true rfl, Nat.le_of_ble_eq_true rfl⟩) (zpV hP hD hK hS hA hZ [0, 2] rfl rfl 8 0 rfl rfl) rfl rfl hl.1 rfl (lv_room (Nat.le_of_ble_eq_true rfl)) dX8_straight_25 ⟨Nat.zero_le _, Nat.zero_le _⟩) hP hD hS hA [0, 2] [1] [1, 0, 2] rfl rfl rfl (by decide) rfl rfl rfl (fun H locs hP hD hS => ?_)
      refine lv_goto (tgt := 37) hx hb dX8_straight_28 (by decide) ?_
      cases he
      exact W.iret hx hb hr (fun t ht hW => ⟨⟨_, (), rfl, rfl, by rw [ht]; exact hP, va_K.moved hW.alike hK, hD⟩, hS.F ht⟩) hS.2.2 dX8_straight_37
  · have he := zif_t c3 he
    refine lv_aload_n hx hb dX8_straight_7 rfl (lv_at hl 0 rfl) ?_
    refine lv_iconst (v := (-1 : Int32)) hx hb dX8_straight_8 (by decide) ?_
    obtain ⟨r12, g_refused_13, hf14, he⟩ := zb2_e he
    refine zc_i (wr := [(a_this_s, .inl (cI, 39, .inl g_s))]) (ws' := [(a_this, .inr (8, [.ref a_this_s, .ref a_this_image, .ref a_this_was, .int v_hasImage, .ref a_this_letters, .ref a_this_row, .ref a_this_refused, .int v_letterMany, .int v_rowMany, .int v_place, .ref a_this_numbers, .ref a_this_least, .ref a_this_stepsFrom, .ref a_this_most, .ref a_this_next, .ref a_this_otherSteps, .ref a_this_ahead, .ref a_this_now, .int v_seed])), (a_this_refused, .inl (cI, 7, .inl g_refused_13)), (a_this_s, .inl (cI, 39, .inl g_s))]) (va_runV (As := [.int (-1 : Int32)]) (rest := []) ⟨hx, hb, hml, hown, hts⟩ (k_M_no l dC dI cI cZ tt sd a_this a_this_s a_this_image a_this_was a_this_letters a_this_row a_this_refused a_this_numbers a_this_least a_this_stepsFrom a_this_most a_this_next a_this_otherSteps a_this_ahead a_this_now H.size v_hasImage v_letterMany v_rowMany v_place v_seed g_refused (-1 : Int32) r12 g_refused_13 hf14) (cwV 1 hts gX8_straight_X8_no rfl rfl rfl (by decide +kernel) ⟨Nat.le_of_ble_eq_true rfl, Nat.le_of_ble_eq_true rfl⟩) (zpV hP hD hK hS hA hZ [0, 1] rfl rfl 8 0 rfl rfl) rfl rfl hl.1 rfl (lv_room (Nat.le_of_ble_eq_true rfl)) dX8_straight_9 ⟨Nat.zero_le _, Nat.zero_le _⟩) hP hD hS hA [0, 1] [2] [1, 2, 0] rfl rfl rfl (by decide) rfl rfl rfl (fun H locs hP hD hS => ?_)
    cases he
    exact W.iret hx hb hr (fun t ht hW => ⟨⟨_, (), rfl, rfl, by rw [ht]; exact hP, va_K.moved hW.alike hK, hD⟩, hS.F ht⟩) hS.2.2 dX8_straight_12
set_option maxHeartbeats 4000000 in
set_option maxRecDepth 100000 in
theorem k_M_longest (l : Launch) (dC : Nat → ClassId) (dI : Nat → Nat → Nat) (cI : ClassId) (cZ : ClassId) (tt : Nat → Nat) (sd : Nat → Nat) (a_this : Nat) (a_this_s : Nat) (a_this_image : Nat) (a_this_was : Nat) (a_this_letters : Nat) (a_this_row : Nat) (a_this_refused : Nat) (a_this_numbers : Nat) (a_this_least : Nat) (a_this_stepsFrom : Nat) (a_this_most : Nat) (a_this_next : Nat) (a_this_otherSteps : Nat) (a_this_ahead : Nat) (a_this_now : Nat) (sz : Nat) (v_hasImage : Int32) (v_letterMany : Int32) (v_rowMany : Int32) (v_place : Int32) (v_seed : Int32) (g_refused : Nat → Int32) (g_s : Nat → Int32) (p1 : Int32) (r0 : Int32) (w0 : Nat → Int32) (hf : f_M_longest g_refused g_s p1 = some (r0, w0)) : Met l yX8_longest wsX8_longest ({ frames := 4, cells := 0, slots := 0, locals := 89 }) (zPre (dC, dI) vwCl [(cI, .int), (cZ, .boolean)] tt sd [.ref a_this, .int p1] [(a_this, .inr (8, [.ref a_this_s, .ref a_this_image, .ref a_this_was, .int v_hasImage, .ref a_this_letters, .ref a_this_row, .ref a_this_refused, .int v_letterMany, .int v_rowMany, .int v_place, .ref a_this_numbers, .ref a_this_least, .ref a_this_stepsFrom, .ref a_this_most, .ref a_this_next, .ref a_this_otherSteps, .ref a_this_ahead, .ref a_this_now, .int v_seed])), (a_this_refused, .inl (cI, 7, .inl g_refused)), (a_this_s, .inl (cI, 39, .inl g_s))] sz) (zQi (dC, dI) vwCl [(cI, .int), (cZ, .boolean)] r0 [(a_this, .inr (8, [.ref a_this_s, .ref a_this_image, .ref a_this_was, .int v_hasImage, .ref a_this_letters, .ref a_this_row, .ref a_this_refused, .int v_letterMany, .int v_rowMany, .int v_place, .ref a_this_numbers, .ref a_this_least, .ref a_this_stepsFrom, .ref a_this_most, .ref a_this_next, .ref a_this_otherSteps, .ref a_this_ahead, .ref a_this_now, .int v_seed])), (a_this_refused, .inl (cI, 7, .inl w0)), (a_this_s, .inl (cI, 39, .inl g_s))] (va_A [(a_this, .inr (8, [.ref a_this_s, .ref a_this_image, .ref a_this_was, .int v_hasImage, .ref a_this_letters, .ref a_this_row, .ref a_this_refused, .int v_letterMany, .int v_rowMany, .int v_place, .ref a_this_numbers, .ref a_this_least, .ref a_this_stepsFrom, .ref a_this_most, .ref a_this_next, .ref a_this_otherSteps, .ref a_this_ahead, .ref a_this_now, .int v_seed])), (a_this_refused, .inl (cI, 7, .inl g_refused)), (a_this_s, .inl (cI, 39, .inl g_s))] sz)) 0 0 (va_A [(a_this, .inr (8, [.ref a_this_s, .ref a_this_image, .ref a_this_was, .int v_hasImage, .ref a_this_letters, .ref a_this_row, .ref a_this_refused, .int v_letterMany, .int v_rowMany, .int v_place, .ref a_this_numbers, .ref a_this_least, .ref a_this_stepsFrom, .ref a_this_most, .ref a_this_next, .ref a_this_otherSteps, .ref a_this_ahead, .ref a_this_now, .int v_seed])), (a_this_refused, .inl (cI, 7, .inl g_refused)), (a_this_s, .inl (cI, 39, .inl g_s))] sz) := by
  refine Met.ofW (cc := cX8_longest) (maxL := 6) (ret := (some .int)) (by decide) rfl ?_
  intro p e s m args below meth c s₁ B hml hv
  obtain ⟨rfl, hsz, hP, hK, hD0, hZ⟩ := hv
  have hx := B.exec
  have hb := B.bytes
  have hr := B.returns
  have hts := atoms_spec (ws := wsX8_longest) B.pre
  have hown : s.vm.findClass RX8 = some m.cls := findClass_of_methodNamed B.named
  have hlocks := B.notSynchronized
  subst hsz
  have hD := hD0.self (sz := s.heap.size)
  generalize hAe : va_A [(a_this, .inr (8, [.ref a_this_s, .ref a_this_image, .ref a_this_was, .int v_hasImage, .ref a_this_letters, .ref a_this_row, .ref a_this_refused, .int v_letterMany, .int v_rowMany, .int v_place, .ref a_this_numbers, .ref a_this_least, .ref a_this_stepsFrom, .ref a_this_most, .ref a_this_next, .ref a_this_otherSteps, .ref a_this_ahead, .ref a_this_now, .int v_seed])), (a_this_refused, .inl (cI, 7, .inl g_refused)), (a_this_s, .inl (cI, 39, .inl g_s))] s.heap.size = A at hD hZ ⊢
  have hA : ∀ q : Nat, s.heap.size ≤ q → A q := fun q h => by rw [← hAe]; exact Or.inr h
  have hS : va_S A s.heap s.heap [] := va_S.rf
  have hP : va_P (dC, dI) vwCl [(a_this, .inr (8, [.ref a_this_s, .ref a_this_image, .ref a_this_was, .int v_hasImage, .ref a_this_letters, .ref a_this_row, .ref a_this_refused, .int v_letterMany, .int v_rowMany, .int v_place, .ref a_this_numbers, .ref a_this_least, .ref a_this_stepsFrom, .ref a_this_most, .ref a_this_next, .ref a_this_otherSteps, .ref a_this_ahead, .ref a_this_now, .int v_seed])), (a_this_refused, .inl (cI, 7, .inl g_refused)), (a_this_s, .inl (cI, 39, .inl g_s))] s.heap := hP
  have hl := lv_entry ([.ref a_this, .int p1]) (n := 6) (Nat.le_of_ble_eq_true rfl)
  rw [lg_entry_eq]
  generalize (lg_sl ([.ref a_this, .int p1]) ++ List.replicate (6 - (lg_sl ([.ref a_this, .int p1])).length) Slot.unset).toArray = ls at hl ⊢
  have hl : lv_has ls 6 [(0, .ref a_this), (1, .int p1)] := hl
  have he := hf
  unfold f_M_longest at he
  refine zstart (D := (dC, dI)) (cl := vwCl) (A := A) (nL := 6) (fun WW hWW => ?_)
  refine lv_iload_n hx hb dX8_longest_0 rfl (lv_at hl 1 rfl) ?_
  refine lv_iconst (v := (0 : Int32)) hx hb dX8_longest_1 (by decide) ?_
  refine lv_iconst (v := (1 : Int32)) hx hb dX8_longest_2 (by decide) ?_
  obtain ⟨r1, hf2, he⟩ := zb1_e he
  refine zc_i (wr := [(a_this, .inr (8, [.ref a_this_s, .ref a_this_image, .ref a_this_was, .int v_hasImage, .ref a_this_letters, .ref a_this_row, .ref a_this_refused, .int v_letterMany, .int v_rowMany, .int v_place, .ref a_this_numbers, .ref a_this_least, .ref a_this_stepsFrom, .ref a_this_most, .ref a_this_next, .ref a_this_otherSteps, .ref a_this_ahead, .ref a_this_now, .int v_seed])), (a_this_refused, .inl (cI, 7, .inl g_refused)), (a_this_s, .inl (cI, 39, .inl g_s))]) (ws' := [(a_this, .inr (8, [.ref a_this_s, .ref a_this_image, .ref a_this_was, .int v_hasImage, .ref a_this_letters, .ref a_this_row, .ref a_this_refused, .int v_letterMany, .int v_rowMany, .int v_place, .ref a_this_numbers, .ref a_this_least, .ref a_this_stepsFrom, .ref a_this_most, .ref a_this_next, .ref a_this_otherSteps, .ref a_this_ahead, .ref a_this_now, .int v_seed])), (a_this_refused, .inl (cI, 7, .inl g_refused)), (a_this_s, .inl (cI, 39, .inl g_s))]) (va_runS (As := [.int p1, .int (0 : Int32), .int (1 : Int32)]) (rest := []) ⟨hx, hb, hml, hown, hts⟩ (k_M_isIn l dC dI cI cZ tt sd s.heap.size p1 (0 : Int32) (1 : Int32) r1 hf2) (va_cwS 3 hts gX8_longest_X8_isIn rfl rfl rfl (by decide +kernel) ⟨Nat.le_of_ble_eq_true rfl, Nat.le_of_ble_eq_true rfl⟩) (zpS hP hD hK hS hA hZ [] rfl rfl) rfl rfl hl.1 rfl (lv_room (Nat.le_of_ble_eq_true rfl)) dX8_longest_3 ⟨Nat.zero_le _, Nat.zero_le _⟩) hP hD hS hA [] [0, 1, 2] [0, 1, 2] rfl rfl rfl (by decide) rfl rfl rfl (fun H locs hP hD hS => ?_)
  refine lv_if_ne (tgt := 16) hx hb dX8_longest_6 (by decide) (fun c3 => ?_) (fun c3 => ?_)
  · have he := zif_f c3 he
    refine lv_bipush (v := (-9 : Int32)) hx hb dX8_longest_16 (by decide) ?_
    refine lv_istore_n (lv' := [(2, .int (-9 : Int32)), (0, .ref a_this), (1, .int p1)]) hx hb dX8_longest_18 rfl hl (by decide) rfl (fun ls hl => ?_)
    refine lv_bipush (v := (-9 : Int32)) hx hb dX8_longest_19 (by decide) ?_
    refine lv_istore_n (lv' := [(3, .int (-9 : Int32)), (2, .int (-9 : Int32)), (0, .ref a_this), (1, .int p1)]) hx hb dX8_longest_21 rfl hl (by decide) rfl (fun ls hl => ?_)
    refine lv_iconst (v := (0 : Int32)) hx hb dX8_longest_22 (by decide) ?_
    refine lv_istore (lv' := [(4, .int (0 : Int32)), (3, .int (-9 : Int32)), (2, .int (-9 : Int32)), (0, .ref a_this), (1, .int p1)]) hx hb dX8_longest_23 hl (by decide) rfl (fun ls hl => ?_)
    refine zj2_w he (fun (l2_4 : Int32) (l3_5 : Int32) => WW [(a_this, .inr (8, [.ref a_this_s, .ref a_this_image, .ref a_this_was, .int v_hasImage, .ref a_this_letters, .ref a_this_row, .ref a_this_refused, .int v_letterMany, .int v_rowMany, .int v_place, .ref a_this_numbers, .ref a_this_least, .ref a_this_stepsFrom, .ref a_this_most, .ref a_this_next, .ref a_this_otherSteps, .ref a_this_ahead, .ref a_this_now, .int v_seed])), (a_this_refused, .inl (cI, 7, .inl g_refused)), (a_this_s, .inl (cI, 39, .inl g_s))] [(1, .int p1), (2, .int l2_4), (3, .int l3_5)] 89 []) (fun l2_4 l3_5 he => (hWW _ _ _ _).mpr (fun H locs ls hP hD hS hl => ?_)) (fun k7 hk7 he => ?_)
    · refine lv_iload_n hx hb dX8_longest_89 rfl (lv_at hl 0 rfl) ?_
      refine lv_if_ne (tgt := 97) hx hb dX8_longest_90 (by decide) (fun c6 => ?_) (fun c6 => ?_)
      · have he := zif_f c6 he
        refine lv_iload_n hx hb dX8_longest_97 rfl (lv_at hl 1 rfl) ?_
        cases he
        exact W.iret hx hb hr (fun t ht hW => ⟨⟨_, (), rfl, rfl, by rw [ht]; exact hP, va_K.moved hW.alike hK, hD⟩, hS.F ht⟩) hS.2.2 dX8_longest_98
      · have he := zif_t c6 he
        refine lv_iload_n hx hb dX8_longest_93 rfl (lv_at hl 2 rfl) ?_
        refine lv_goto (tgt := 98) hx hb dX8_longest_94 (by decide) ?_
        cases he
        exact W.iret hx hb hr (fun t ht hW => ⟨⟨_, (), rfl, rfl, by rw [ht]; exact hP, va_K.moved hW.alike hK, hD⟩, hS.F ht⟩) hS.2.2 dX8_longest_98
    refine (hWW _ _ _ _).mp (zl3_w he (fun (l2_8 : Int32) (l3_9 : Int32) (l4_10 : Int32) => WW [(a_this, .inr (8, [.ref a_this_s, .ref a_this_image, .ref a_this_was, .int v_hasImage, .ref a_this_letters, .ref a_this_row, .ref a_this_refused, .int v_letterMany, .int v_rowMany, .int v_place, .ref a_this_numbers, .ref a_this_least, .ref a_this_stepsFrom, .ref a_this_most, .ref a_this_next, .ref a_this_otherSteps, .ref a_this_ahead, .ref a_this_now, .int v_seed])), (a_this_refused, .inl (cI, 7, .inl g_refused)), (a_this_s, .inl (cI, 39, .inl g_s))] [(0, .ref a_this), (1, .int p1), (2, .int l2_8), (3, .int l3_9), (4, .int l4_10)] 25 []) (fun l2_8 l3_9 l4_10 again11 hagain11 he => (hWW _ _ _ _).mpr (fun H locs ls hP hD hS hl => ?_))) _ _ _ hP hD hS (lv_sub hl [3, 4, 2, 1, 0] rfl)
    refine lv_iload hx hb dX8_longest_25 (lv_at hl 4 rfl) ?_
    refine lv_bipush (v := (36 : Int32)) hx hb dX8_longest_27 (by decide) ?_
    refine lv_icmp_ge (tgt := 89) hx hb dX8_longest_29 (by decide) (fun c12 => ?_) (fun c12 => ?_)
    · have he := zif_t c12 he
      exact (hWW _ _ _ _).mp (hk7 l2_8 l3_9 he) _ _ _ hP hD hS (lv_sub hl [1, 2, 3] rfl)
    · have he := zif_f c12 he
      refine lv_iconst (v := (0 : Int32)) hx hb dX8_longest_32 (by decide) ?_
      refine lv_istore (lv' := [(5, .int (0 : Int32)), (0, .ref a_this), (1, .int p1), (2, .int l2_8), (3, .int l3_9), (4, .int l4_10)]) hx hb dX8_longest_33 hl (by decide) rfl (fun ls hl => ?_)
      refine zj2_w he (fun (l2_13 : Int32) (l3_14 : Int32) => WW [(a_this, .inr (8, [.ref a_this_s, .ref a_this_image, .ref a_this_was, .int v_hasImage, .ref a_this_letters, .ref a_this_row, .ref a_this_refused, .int v_letterMany, .int v_rowMany, .int v_place, .ref a_this_numbers, .ref a_this_least, .ref a_this_stepsFrom, .ref a_this_most, .ref a_this_next, .ref a_this_otherSteps, .ref a_this_ahead, .ref a_this_now, .int v_seed])), (a_this_refused, .inl (cI, 7, .inl g_refused)), (a_this_s, .inl (cI, 39, .inl g_s))] [(0, .ref a_this), (1, .int p1), (2, .int l2_13), (3, .int l3_14), (4, .int l4_10)] 83 []) (fun l2_13 l3_14 he => (hWW _ _ _ _).mpr (fun H locs ls hP hD hS hl => ?_)) (fun k16 hk16 he => ?_)
      · obtain ⟨x15, ex15⟩ : ∃ y : Int32, y = l4_10 + (1 : Int32) := ⟨_, rfl⟩
        have he := zn_e ex15 he
        refine lv_iinc (v := x15) (lv' := [(4, .int x15), (0, .ref a_this), (1, .int p1), (2, .int l2_13), (3, .int l3_14)]) hx hb dX8_longest_83 hl (k := 4) rfl (by rw [ex15]; rfl) (by decide) rfl (fun ls hl => ?_)
        refine lv_goto (tgt := 25) hx hb dX8_longest_86 (by decide) ?_
        exact (hWW _ _ _ _).mp (hagain11 l2_13 l3_14 x15 he) _ _ _ hP hD hS (lv_sub hl [1, 2, 3, 4, 0] rfl)
      refine (hWW _ _ _ _).mp (zl3_w he (fun (l2_17 : Int32) (l3_18 : Int32) (l5_19 : Int32) => WW [(a_this, .inr (8, [.ref a_this_s, .ref a_this_image, .ref a_this_was, .int v_hasImage, .ref a_this_letters, .ref a_this_row, .ref a_this_refused, .int v_letterMany, .int v_rowMany, .int v_place, .ref a_this_numbers, .ref a_this_least, .ref a_this_stepsFrom, .ref a_this_most, .ref a_this_next, .ref a_this_otherSteps, .ref a_this_ahead, .ref a_this_now, .int v_seed])), (a_this_refused, .inl (cI, 7, .inl g_refused)), (a_this_s, .inl (cI, 39, .inl g_s))] [(0, .ref a_this), (1, .int p1), (2, .int l2_17), (3, .int l3_18), (4, .int l4_10), (5, .int l5_19)] 35 []) (fun l2_17 l3_18 l5_19 again20 hagain20 he => (hWW _ _ _ _).mpr (fun H locs ls hP hD hS hl => ?_))) _ _ _ hP hD hS (lv_sub hl [1, 2, 3, 4, 5, 0] rfl)
      refine lv_iload hx hb dX8_longest_35 (lv_at hl 5 rfl) ?_
      refine lv_iconst (v := (4 : Int32)) hx hb dX8_longest_37 (by decide) ?_
      refine lv_icmp_ge (tgt := 83) hx hb dX8_longest_38 (by decide) (fun c21 => ?_) (fun c21 => ?_)
      · have he := zif_t c21 he
        exact (hWW _ _ _ _).mp (hk16 l2_17 l3_18 he) _ _ _ hP hD hS (lv_sub hl [0, 1, 2, 3, 4] rfl)
      · have he := zif_f c21 he
        refine lv_aload_n hx hb dX8_longest_41 rfl (lv_at hl 0 rfl) ?_
        refine lv_iload hx hb dX8_longest_42 (lv_at hl 4 rfl) ?_
        obtain ⟨r22, hf23, he⟩ := zb1_e he
        refine zc_i (wr := [(a_this_refused, .inl (cI, 7, .inl g_refused))]) (ws' := [(a_this, .inr (8, [.ref a_this_s, .ref a_this_image, .ref a_this_was, .int v_hasImage, .ref a_this_letters, .ref a_this_row, .ref a_this_refused, .int v_letterMany, .int v_rowMany, .int v_place, .ref a_this_numbers, .ref a_this_least, .ref a_this_stepsFrom, .ref a_this_most, .ref a_this_next, .ref a_this_otherSteps, .ref a_this_ahead, .ref a_this_now, .int v_seed])), (a_this_refused, .inl (cI, 7, .inl g_refused)), (a_this_s, .inl (cI, 39, .inl g_s))]) (va_runV (As := [.int l4_10]) (rest := []) ⟨hx, hb, hml, hown, hts⟩ (k_M_canBe l dC dI cI cZ tt sd a_this a_this_s a_this_image a_this_was a_this_letters a_this_row a_this_refused a_this_numbers a_this_least a_this_stepsFrom a_this_most a_this_next a_this_otherSteps a_this_ahead a_this_now H.size v_hasImage v_letterMany v_rowMany v_place v_seed g_s l4_10 r22 hf23) (cwV 1 hts gX8_longest_X8_canBe rfl rfl rfl (by decide +kernel) ⟨Nat.le_of_ble_eq_true rfl, Nat.le_of_ble_eq_true rfl⟩) (zpV hP hD hK hS hA hZ [0, 2] rfl rfl 8 0 rfl rfl) rfl rfl hl.1 rfl (lv_room (Nat.le_of_ble_eq_true rfl)) dX8_longest_44 ⟨Nat.zero_le _, Nat.zero_le _⟩) hP hD hS hA [0, 2] [1] [1, 0, 2] rfl rfl rfl (by decide) rfl rfl rfl (fun H locs hP hD hS => ?_)
        refine lv_if_eq (tgt := 83) hx hb dX8_longest_47 (by decide) (fun c24 => ?_) (fun c24 => ?_)
        · have he := zif_t c24 he
          exact (hWW _ _ _ _).mp (hk16 l2_17 l3_18 he) _ _ _ hP hD hS (lv_sub hl [0, 1, 2, 3, 4] rfl)
        · have he := zif_f c24 he
          refine lv_aload_n hx hb dX8_longest_50 rfl (lv_at hl 0 rfl) ?_
          refine lv_iload hx hb dX8_longest_51 (lv_at hl 4 rfl) ?_
          refine lv_iload hx hb dX8_longest_53 (lv_at hl 5 rfl) ?_
          obtain ⟨r25, hf26, he⟩ := zb1_e he
          refine zc_i (wr := [(a_this_refused, .inl (cI, 7, .inl g_refused))]) (ws' := [(a_this, .inr (8, [.ref a_this_s, .ref a_this_image, .ref a_this_was, .int v_hasImage, .ref a_this_letters, .ref a_this_row, .ref a_this_refused, .int v_letterMany, .int v_rowMany, .int v_place, .ref a_this_numbers, .ref a_this_least, .ref a_this_stepsFrom, .ref a_this_most, .ref a_this_next, .ref a_this_otherSteps, .ref a_this_ahead, .ref a_this_now, .int v_seed])), (a_this_refused, .inl (cI, 7, .inl g_refused)), (a_this_s, .inl (cI, 39, .inl g_s))]) (va_runV (As := [.int l4_10, .int l5_19]) (rest := []) ⟨hx, hb, hml, hown, hts⟩ (k_M_straightOf l dC dI cI cZ tt sd a_this a_this_s a_this_image a_this_was a_this_letters a_this_row a_this_refused a_this_numbers a_this_least a_this_stepsFrom a_this_most a_this_next a_this_otherSteps a_this_ahead a_this_now H.size v_hasImage v_letterMany v_rowMany v_place v_seed g_s l4_10 l5_19 r25 hf26) (cwV 2 hts gX8_longest_X8_straightOf rfl rfl rfl (by decide +kernel) ⟨Nat.le_of_ble_eq_true rfl, Nat.le_of_ble_eq_true rfl⟩) (zpV hP hD hK hS hA hZ [0, 2] rfl rfl 8 0 rfl rfl) rfl rfl hl.1 rfl (lv_room (Nat.le_of_ble_eq_true rfl)) dX8_longest_55 ⟨Nat.zero_le _, Nat.zero_le _⟩) hP hD hS hA [0, 2] [1] [1, 0, 2] rfl rfl rfl (by decide) rfl rfl rfl (fun H locs hP hD hS => ?_)
          refine lv_iload_n hx hb dX8_longest_58 rfl (lv_at hl 3 rfl) ?_
          refine zj2_w he (fun (l2_27 : Int32) (l3_28 : Int32) => WW [(a_this, .inr (8, [.ref a_this_s, .ref a_this_image, .ref a_this_was, .int v_hasImage, .ref a_this_letters, .ref a_this_row, .ref a_this_refused, .int v_letterMany, .int v_rowMany, .int v_place, .ref a_this_numbers, .ref a_this_least, .ref a_this_stepsFrom, .ref a_this_most, .ref a_this_next, .ref a_this_otherSteps, .ref a_this_ahead, .ref a_this_now, .int v_seed])), (a_this_refused, .inl (cI, 7, .inl g_refused)), (a_this_s, .inl (cI, 39, .inl g_s))] [(0, .ref a_this), (1, .int p1), (2, .int l2_27), (3, .int l3_28), (4, .int l4_10), (5, .int l5_19)] 77 []) (fun l2_27 l3_28 he => (hWW _ _ _ _).mpr (fun H locs ls hP hD hS hl => ?_)) (fun k30 hk30 he => ?_)
          · obtain ⟨x29, ex29⟩ : ∃ y : Int32, y = l5_19 + (1 : Int32) := ⟨_, rfl⟩
            have he := zn_e ex29 he
            refine lv_iinc (v := x29) (lv' := [(5, .int x29), (0, .ref a_this), (1, .int p1), (2, .int l2_27), (3, .int l3_28), (4, .int l4_10)]) hx hb dX8_longest_77 hl (k := 5) rfl (by rw [ex29]; rfl) (by decide) rfl (fun ls hl => ?_)
            refine lv_goto (tgt := 35) hx hb dX8_longest_80 (by decide) ?_
            exact (hWW _ _ _ _).mp (hagain20 l2_27 l3_28 x29 he) _ _ _ hP hD hS (lv_sub hl [1, 2, 3, 4, 5, 0] rfl)
          refine lv_icmp_gt (tgt := 65) hx hb dX8_longest_59 (by decide) (fun c31 => ?_) (fun c31 => ?_)
          · have he := zif_t c31 he
            refine lv_aload_n hx hb dX8_longest_65 rfl (lv_at hl 0 rfl) ?_
            refine lv_iload hx hb dX8_longest_66 (lv_at hl 4 rfl) ?_
            refine lv_iload hx hb dX8_longest_68 (lv_at hl 5 rfl) ?_
            obtain ⟨r32, hf33, he⟩ := zb1_e he
            refine zc_i (wr := [(a_this_refused, .inl (cI, 7, .inl g_refused))]) (ws' := [(a_this, .inr (8, [.ref a_this_s, .ref a_this_image, .ref a_this_was, .int v_hasImage, .ref a_this_letters, .ref a_this_row, .ref a_this_refused, .int v_letterMany, .int v_rowMany, .int v_place, .ref a_this_numbers, .ref a_this_least, .ref a_this_stepsFrom, .ref a_this_most, .ref a_this_next, .ref a_this_otherSteps, .ref a_this_ahead, .ref a_this_now, .int v_seed])), (a_this_refused, .inl (cI, 7, .inl g_refused)), (a_this_s, .inl (cI, 39, .inl g_s))]) (va_runV (As := [.int l4_10, .int l5_19]) (rest := []) ⟨hx, hb, hml, hown, hts⟩ (k_M_straightOf l dC dI cI cZ tt sd a_this a_this_s a_this_image a_this_was a_this_letters a_this_row a_this_refused a_this_numbers a_this_least a_this_stepsFrom a_this_most a_this_next a_this_otherSteps a_this_ahead a_this_now H.size v_hasImage v_letterMany v_rowMany v_place v_seed g_s l4_10 l5_19 r32 hf33) (cwV 2 hts gX8_longest_X8_straightOf rfl rfl rfl (by decide +kernel) ⟨Nat.le_of_ble_eq_true rfl, Nat.le_of_ble_eq_true rfl⟩) (zpV hP hD hK hS hA hZ [0, 2] rfl rfl 8 0 rfl rfl) rfl rfl hl.1 rfl (lv_room (Nat.le_of_ble_eq_true rfl)) dX8_longest_70 ⟨Nat.zero_le _, Nat.zero_le _⟩) hP hD hS hA [0, 2] [1] [1, 0, 2] rfl rfl rfl (by decide) rfl rfl rfl (fun H locs hP hD hS => ?_)
            refine lv_istore_n (lv' := [(3, .int r32), (0, .ref a_this), (1, .int p1), (2, .int l2_17), (4, .int l4_10), (5, .int l5_19)]) hx hb dX8_longest_73 rfl hl (by decide) rfl (fun ls hl => ?_)
            refine lv_iload hx hb dX8_longest_74 (lv_at hl 4 rfl) ?_
            refine lv_istore_n (lv' := [(2, .int l4_10), (3, .int r32), (0, .ref a_this), (1, .int p1), (4, .int l4_10), (5, .int l5_19)]) hx hb dX8_longest_76 rfl hl (by decide) rfl (fun ls hl => ?_)
            exact (hWW _ _ _ _).mp (hk30 l4_10 r32 he) _ _ _ hP hD hS (lv_sub hl [2, 3, 0, 1, 4, 5] rfl)
          · have he := zif_f c31 he
            refine lv_goto (tgt := 77) hx hb dX8_longest_62 (by decide) ?_
            exact (hWW _ _ _ _).mp (hk30 l2_17 l3_18 he) _ _ _ hP hD hS (lv_sub hl [0, 1, 2, 3, 4, 5] rfl)
  · have he := zif_t c3 he
    refine lv_aload_n hx hb dX8_longest_9 rfl (lv_at hl 0 rfl) ?_
    refine lv_bipush (v := (-2 : Int32)) hx hb dX8_longest_10 (by decide) ?_
    obtain ⟨r34, g_refused_35, hf36, he⟩ := zb2_e he
    refine zc_i (wr := [(a_this_s, .inl (cI, 39, .inl g_s))]) (ws' := [(a_this, .inr (8, [.ref a_this_s, .ref a_this_image, .ref a_this_was, .int v_hasImage, .ref a_this_letters, .ref a_this_row, .ref a_this_refused, .int v_letterMany, .int v_rowMany, .int v_place, .ref a_this_numbers, .ref a_this_least, .ref a_this_stepsFrom, .ref a_this_most, .ref a_this_next, .ref a_this_otherSteps, .ref a_this_ahead, .ref a_this_now, .int v_seed])), (a_this_refused, .inl (cI, 7, .inl g_refused_35)), (a_this_s, .inl (cI, 39, .inl g_s))]) (va_runV (As := [.int (-2 : Int32)]) (rest := []) ⟨hx, hb, hml, hown, hts⟩ (k_M_no l dC dI cI cZ tt sd a_this a_this_s a_this_image a_this_was a_this_letters a_this_row a_this_refused a_this_numbers a_this_least a_this_stepsFrom a_this_most a_this_next a_this_otherSteps a_this_ahead a_this_now H.size v_hasImage v_letterMany v_rowMany v_place v_seed g_refused (-2 : Int32) r34 g_refused_35 hf36) (cwV 1 hts gX8_longest_X8_no rfl rfl rfl (by decide +kernel) ⟨Nat.le_of_ble_eq_true rfl, Nat.le_of_ble_eq_true rfl⟩) (zpV hP hD hK hS hA hZ [0, 1] rfl rfl 8 0 rfl rfl) rfl rfl hl.1 rfl (lv_room (Nat.le_of_ble_eq_true rfl)) dX8_longest_12 ⟨Nat.zero_le _, Nat.zero_le _⟩) hP hD hS hA [0, 1] [2] [1, 2, 0] rfl rfl rfl (by decide) rfl rfl rfl (fun H locs hP hD hS => ?_)
    cases he
    exact W.iret hx hb hr (fun t ht hW => ⟨⟨_, (), rfl, rfl, by rw [ht]; exact hP, va_K.moved hW.alike hK, hD⟩, hS.F ht⟩) hS.2.2 dX8_longest_15
set_option maxHeartbeats 4000000 in
set_option maxRecDepth 100000 in
theorem k_M_isHeard (l : Launch) (dC : Nat → ClassId) (dI : Nat → Nat → Nat) (cI : ClassId) (cZ : ClassId) (tt : Nat → Nat) (sd : Nat → Nat) (a_this : Nat) (a_this_s : Nat) (a_this_image : Nat) (a_this_was : Nat) (a_this_letters : Nat) (a_this_row : Nat) (a_this_refused : Nat) (a_this_numbers : Nat) (a_this_least : Nat) (a_this_stepsFrom : Nat) (a_this_most : Nat) (a_this_next : Nat) (a_this_otherSteps : Nat) (a_this_ahead : Nat) (a_this_now : Nat) (sz : Nat) (v_hasImage : Int32) (v_letterMany : Int32) (v_rowMany : Int32) (v_place : Int32) (v_seed : Int32) (g_s : Nat → Int32) (p1 : Int32) (r0 : Int32) (hf : f_M_isHeard g_s p1 = some (r0)) : Met l yX8_isHeard wsX8_isHeard ({ frames := 3, cells := 0, slots := 0, locals := 64 }) (zPre (dC, dI) vwCl [(cI, .int), (cZ, .boolean)] tt sd [.ref a_this, .int p1] [(a_this, .inr (8, [.ref a_this_s, .ref a_this_image, .ref a_this_was, .int v_hasImage, .ref a_this_letters, .ref a_this_row, .ref a_this_refused, .int v_letterMany, .int v_rowMany, .int v_place, .ref a_this_numbers, .ref a_this_least, .ref a_this_stepsFrom, .ref a_this_most, .ref a_this_next, .ref a_this_otherSteps, .ref a_this_ahead, .ref a_this_now, .int v_seed])), (a_this_s, .inl (cI, 39, .inl g_s))] sz) (zQi (dC, dI) vwCl [(cI, .int), (cZ, .boolean)] r0 [(a_this, .inr (8, [.ref a_this_s, .ref a_this_image, .ref a_this_was, .int v_hasImage, .ref a_this_letters, .ref a_this_row, .ref a_this_refused, .int v_letterMany, .int v_rowMany, .int v_place, .ref a_this_numbers, .ref a_this_least, .ref a_this_stepsFrom, .ref a_this_most, .ref a_this_next, .ref a_this_otherSteps, .ref a_this_ahead, .ref a_this_now, .int v_seed])), (a_this_s, .inl (cI, 39, .inl g_s))] (va_A [(a_this, .inr (8, [.ref a_this_s, .ref a_this_image, .ref a_this_was, .int v_hasImage, .ref a_this_letters, .ref a_this_row, .ref a_this_refused, .int v_letterMany, .int v_rowMany, .int v_place, .ref a_this_numbers, .ref a_this_least, .ref a_this_stepsFrom, .ref a_this_most, .ref a_this_next, .ref a_this_otherSteps, .ref a_this_ahead, .ref a_this_now, .int v_seed])), (a_this_s, .inl (cI, 39, .inl g_s))] sz)) 0 0 (va_A [(a_this, .inr (8, [.ref a_this_s, .ref a_this_image, .ref a_this_was, .int v_hasImage, .ref a_this_letters, .ref a_this_row, .ref a_this_refused, .int v_letterMany, .int v_rowMany, .int v_place, .ref a_this_numbers, .ref a_this_least, .ref a_this_stepsFrom, .ref a_this_most, .ref a_this_next, .ref a_this_otherSteps, .ref a_this_ahead, .ref a_this_now, .int v_seed])), (a_this_s, .inl (cI, 39, .inl g_s))] sz) := by
  refine Met.ofW (cc := cX8_isHeard) (maxL := 2) (ret := (some .boolean)) (by decide) rfl ?_
  intro p e s m args below meth c s₁ B hml hv
  obtain ⟨rfl, hsz, hP, hK, hD0, hZ⟩ := hv
  have hx := B.exec
  have hb := B.bytes
  have hr := B.returns
  have hts := atoms_spec (ws := wsX8_isHeard) B.pre
  have hown : s.vm.findClass RX8 = some m.cls := findClass_of_methodNamed B.named
  have hlocks := B.notSynchronized
  subst hsz
  have hD := hD0.self (sz := s.heap.size)
  generalize hAe : va_A [(a_this, .inr (8, [.ref a_this_s, .ref a_this_image, .ref a_this_was, .int v_hasImage, .ref a_this_letters, .ref a_this_row, .ref a_this_refused, .int v_letterMany, .int v_rowMany, .int v_place, .ref a_this_numbers, .ref a_this_least, .ref a_this_stepsFrom, .ref a_this_most, .ref a_this_next, .ref a_this_otherSteps, .ref a_this_ahead, .ref a_this_now, .int v_seed])), (a_this_s, .inl (cI, 39, .inl g_s))] s.heap.size = A at hD hZ ⊢
  have hA : ∀ q : Nat, s.heap.size ≤ q → A q := fun q h => by rw [← hAe]; exact Or.inr h
  have hS : va_S A s.heap s.heap [] := va_S.rf
  have hP : va_P (dC, dI) vwCl [(a_this, .inr (8, [.ref a_this_s, .ref a_this_image, .ref a_this_was, .int v_hasImage, .ref a_this_letters, .ref a_this_row, .ref a_this_refused, .int v_letterMany, .int v_rowMany, .int v_place, .ref a_this_numbers, .ref a_this_least, .ref a_this_stepsFrom, .ref a_this_most, .ref a_this_next, .ref a_this_otherSteps, .ref a_this_ahead, .ref a_this_now, .int v_seed])), (a_this_s, .inl (cI, 39, .inl g_s))] s.heap := hP
  have hl := lv_entry ([.ref a_this, .int p1]) (n := 2) (Nat.le_of_ble_eq_true rfl)
  rw [lg_entry_eq]
  generalize (lg_sl ([.ref a_this, .int p1]) ++ List.replicate (2 - (lg_sl ([.ref a_this, .int p1])).length) Slot.unset).toArray = ls at hl ⊢
  have hl : lv_has ls 2 [(0, .ref a_this), (1, .int p1)] := hl
  have he := hf
  unfold f_M_isHeard at he
  refine lv_aload_n hx hb dX8_isHeard_0 rfl (lv_at hl 0 rfl) ?_
  refine lv_iload_n hx hb dX8_isHeard_1 rfl (lv_at hl 1 rfl) ?_
  obtain ⟨r1, hf2, he⟩ := zb1_e he
  refine zc_i (wr := []) (ws' := [(a_this, .inr (8, [.ref a_this_s, .ref a_this_image, .ref a_this_was, .int v_hasImage, .ref a_this_letters, .ref a_this_row, .ref a_this_refused, .int v_letterMany, .int v_rowMany, .int v_place, .ref a_this_numbers, .ref a_this_least, .ref a_this_stepsFrom, .ref a_this_most, .ref a_this_next, .ref a_this_otherSteps, .ref a_this_ahead, .ref a_this_now, .int v_seed])), (a_this_s, .inl (cI, 39, .inl g_s))]) (va_runV (As := [.int p1]) (rest := []) ⟨hx, hb, hml, hown, hts⟩ (k_M_heardBy l dC dI cI cZ tt sd a_this a_this_s a_this_image a_this_was a_this_letters a_this_row a_this_refused a_this_numbers a_this_least a_this_stepsFrom a_this_most a_this_next a_this_otherSteps a_this_ahead a_this_now s.heap.size v_hasImage v_letterMany v_rowMany v_place v_seed g_s p1 r1 hf2) (cwV 1 hts gX8_isHeard_X8_heardBy rfl rfl rfl (by decide +kernel) ⟨Nat.le_of_ble_eq_true rfl, Nat.le_of_ble_eq_true rfl⟩) (zpV hP hD hK hS hA hZ [0, 1] rfl rfl 8 0 rfl rfl) rfl rfl hl.1 rfl (lv_room (Nat.le_of_ble_eq_true rfl)) dX8_isHeard_2 ⟨Nat.zero_le _, Nat.zero_le _⟩) hP hD hS hA [0, 1] [] [0, 1] rfl rfl rfl (by decide) rfl rfl rfl (fun H locs hP hD hS => ?_)
  refine lv_if_le (tgt := 12) hx hb dX8_isHeard_5 (by decide) (fun c3 => ?_) (fun c3 => ?_)
  · have he := zif_t c3 he
    refine lv_iconst (v := (0 : Int32)) hx hb dX8_isHeard_12 (by decide) ?_
    cases he
    exact W.zret hx hb hr rfl (fun t ht hW => ⟨⟨_, (), rfl, rfl, by rw [ht]; exact hP, va_K.moved hW.alike hK, hD⟩, hS.F ht⟩) hS.2.2 dX8_isHeard_13
  · have he := zif_f c3 he
    refine lv_iconst (v := (1 : Int32)) hx hb dX8_isHeard_8 (by decide) ?_
    refine lv_goto (tgt := 13) hx hb dX8_isHeard_9 (by decide) ?_
    cases he
    exact W.zret hx hb hr rfl (fun t ht hW => ⟨⟨_, (), rfl, rfl, by rw [ht]; exact hP, va_K.moved hW.alike hK, hD⟩, hS.F ht⟩) hS.2.2 dX8_isHeard_13
