set_option maxHeartbeats 4000000 in
set_option maxRecDepth 100000 in
theorem k_M_count (l : Launch) (dC : Nat → ClassId) (dI : Nat → Nat → Nat) (cI : ClassId) (cZ : ClassId) (tt : Nat → Nat) (sd : Nat → Nat) (a_this : Nat) (a_this_s : Nat) (a_this_image : Nat) (a_this_was : Nat) (a_this_letters : Nat) (a_this_row : Nat) (a_this_refused : Nat) (a_this_numbers : Nat) (a_this_least : Nat) (a_this_stepsFrom : Nat) (a_this_most : Nat) (a_this_next : Nat) (a_this_otherSteps : Nat) (a_this_ahead : Nat) (a_this_now : Nat) (sz : Nat) (v_hasImage : Int32) (v_letterMany : Int32) (v_rowMany : Int32) (v_place : Int32) (v_seed : Int32) (g_refused : Nat → Int32) (g_s : Nat → Int32) (p1 : Int32) (r0 : Int32) (hf : f_M_count v_letterMany v_rowMany g_refused g_s p1 = some (r0)) : Met l yX8_count wsX8_count ({ frames := 5, cells := 0, slots := 0, locals := 107 }) (zPre (dC, dI) vwCl [(cI, .int), (cZ, .boolean)] tt sd [.ref a_this, .int p1] [(a_this, .inr (8, [.ref a_this_s, .ref a_this_image, .ref a_this_was, .int v_hasImage, .ref a_this_letters, .ref a_this_row, .ref a_this_refused, .int v_letterMany, .int v_rowMany, .int v_place, .ref a_this_numbers, .ref a_this_least, .ref a_this_stepsFrom, .ref a_this_most, .ref a_this_next, .ref a_this_otherSteps, .ref a_this_ahead, .ref a_this_now, .int v_seed])), (a_this_refused, .inl (cI, 7, .inl g_refused)), (a_this_s, .inl (cI, 39, .inl g_s))] sz) (zQi (dC, dI) vwCl [(cI, .int), (cZ, .boolean)] r0 [(a_this, .inr (8, [.ref a_this_s, .ref a_this_image, .ref a_this_was, .int v_hasImage, .ref a_this_letters, .ref a_this_row, .ref a_this_refused, .int v_letterMany, .int v_rowMany, .int v_place, .ref a_this_numbers, .ref a_this_least, .ref a_this_stepsFrom, .ref a_this_most, .ref a_this_next, .ref a_this_otherSteps, .ref a_this_ahead, .ref a_this_now, .int v_seed])), (a_this_refused, .inl (cI, 7, .inl g_refused)), (a_this_s, .inl (cI, 39, .inl g_s))] (va_A [(a_this, .inr (8, [.ref a_this_s, .ref a_this_image, .ref a_this_was, .int v_hasImage, .ref a_this_letters, .ref a_this_row, .ref a_this_refused, .int v_letterMany, .int v_rowMany, .int v_place, .ref a_this_numbers, .ref a_this_least, .ref a_this_stepsFrom, .ref a_this_most, .ref a_this_next, .ref a_this_otherSteps, .ref a_this_ahead, .ref a_this_now, .int v_seed])), (a_this_refused, .inl (cI, 7, .inl g_refused)), (a_this_s, .inl (cI, 39, .inl g_s))] sz)) 0 0 (va_A [(a_this, .inr (8, [.ref a_this_s, .ref a_this_image, .ref a_this_was, .int v_hasImage, .ref a_this_letters, .ref a_this_row, .ref a_this_refused, .int v_letterMany, .int v_rowMany, .int v_place, .ref a_this_numbers, .ref a_this_least, .ref a_this_stepsFrom, .ref a_this_most, .ref a_this_next, .ref a_this_otherSteps, .ref a_this_ahead, .ref a_this_now, .int v_seed])), (a_this_refused, .inl (cI, 7, .inl g_refused)), (a_this_s, .inl (cI, 39, .inl g_s))] sz) := by
  refine Met.ofW (cc := cX8_count) (maxL := 2) (ret := (some .int)) (by decide) rfl ?_
  intro p e s m args below meth c s₁ B hml hv
  obtain ⟨rfl, hsz, hP, hK, hD0, hZ⟩ := hv
  have hx := B.exec
  have hb := B.bytes
  have hr := B.returns
  have hts := atoms_spec (ws := wsX8_count) B.pre
  have hown : s.vm.findClass RX8 = some m.cls := findClass_of_methodNamed B.named
  have hlocks := B.notSynchronized
  subst hsz
  have hD := hD0.self (sz := s.heap.size)
  generalize hAe : va_A [(a_this, .inr (8, [.ref a_this_s, .ref a_this_image, .ref a_this_was, .int v_hasImage, .ref a_this_letters, .ref a_this_row, .ref a_this_refused, .int v_letterMany, .int v_rowMany, .int v_place, .ref a_this_numbers, .ref a_this_least, .ref a_this_stepsFrom, .ref a_this_most, .ref a_this_next, .ref a_this_otherSteps, .ref a_this_ahead, .ref a_this_now, .int v_seed])), (a_this_refused, .inl (cI, 7, .inl g_refused)), (a_this_s, .inl (cI, 39, .inl g_s))] s.heap.size = A at hD hZ ⊢
  have hA : ∀ q : Nat, s.heap.size ≤ q → A q := fun q h => by rw [← hAe]; exact Or.inr h
  have hS : va_S A s.heap s.heap [] := va_S.rf
  have hP : va_P (dC, dI) vwCl [(a_this, .inr (8, [.ref a_this_s, .ref a_this_image, .ref a_this_was, .int v_hasImage, .ref a_this_letters, .ref a_this_row, .ref a_this_refused, .int v_letterMany, .int v_rowMany, .int v_place, .ref a_this_numbers, .ref a_this_least, .ref a_this_stepsFrom, .ref a_this_most, .ref a_this_next, .ref a_this_otherSteps, .ref a_this_ahead, .ref a_this_now, .int v_seed])), (a_this_refused, .inl (cI, 7, .inl g_refused)), (a_this_s, .inl (cI, 39, .inl g_s))] s.heap := hP
  have hl := lv_entry ([.ref a_this, .int p1]) (n := 2) (Nat.le_of_ble_eq_true rfl)
  rw [lg_entry_eq]
  generalize (lg_sl ([.ref a_this, .int p1]) ++ List.replicate (2 - (lg_sl ([.ref a_this, .int p1])).length) Slot.unset).toArray = ls at hl ⊢
  have hl : lv_has ls 2 [(0, .ref a_this), (1, .int p1)] := hl
  have he := hf
  unfold f_M_count at he
  refine lv_iload_n hx hb dX8_count_0 rfl (lv_at hl 1 rfl) ?_
  refine lv_bipush (v := (11 : Int32)) hx hb dX8_count_1 (by decide) ?_
  refine lv_bipush (v := (16 : Int32)) hx hb dX8_count_3 (by decide) ?_
  obtain ⟨r1, hf2, he⟩ := zb1_e he
  refine zc_i (wr := [(a_this, .inr (8, [.ref a_this_s, .ref a_this_image, .ref a_this_was, .int v_hasImage, .ref a_this_letters, .ref a_this_row, .ref a_this_refused, .int v_letterMany, .int v_rowMany, .int v_place, .ref a_this_numbers, .ref a_this_least, .ref a_this_stepsFrom, .ref a_this_most, .ref a_this_next, .ref a_this_otherSteps, .ref a_this_ahead, .ref a_this_now, .int v_seed])), (a_this_refused, .inl (cI, 7, .inl g_refused)), (a_this_s, .inl (cI, 39, .inl g_s))]) (ws' := [(a_this, .inr (8, [.ref a_this_s, .ref a_this_image, .ref a_this_was, .int v_hasImage, .ref a_this_letters, .ref a_this_row, .ref a_this_refused, .int v_letterMany, .int v_rowMany, .int v_place, .ref a_this_numbers, .ref a_this_least, .ref a_this_stepsFrom, .ref a_this_most, .ref a_this_next, .ref a_this_otherSteps, .ref a_this_ahead, .ref a_this_now, .int v_seed])), (a_this_refused, .inl (cI, 7, .inl g_refused)), (a_this_s, .inl (cI, 39, .inl g_s))]) (va_runS (As := [.int p1, .int (11 : Int32), .int (16 : Int32)]) (rest := []) ⟨hx, hb, hml, hown, hts⟩ (k_M_isIn l dC dI cI cZ tt sd s.heap.size p1 (11 : Int32) (16 : Int32) r1 hf2) (va_cwS 3 hts gX8_count_X8_isIn rfl rfl rfl (by decide +kernel) ⟨Nat.le_of_ble_eq_true rfl, Nat.le_of_ble_eq_true rfl⟩) (zpS hP hD hK hS hA hZ [] rfl rfl) rfl rfl hl.1 rfl (lv_room (Nat.le_of_ble_eq_true rfl)) dX8_count_5 ⟨Nat.zero_le _, Nat.zero_le _⟩) hP hD hS hA [] [0, 1, 2] [0, 1, 2] rfl rfl rfl (by decide) rfl rfl rfl (fun H locs hP hD hS => ?_)
  refine lv_if_eq (tgt := 21) hx hb dX8_count_8 (by decide) (fun c3 => ?_) (fun c3 => ?_)
  · have he := zif_t c3 he
    refine lv_iload_n hx hb dX8_count_21 rfl (lv_at hl 1 rfl) ?_
    by_cases c4 : p1 = (0 : Int32)
    · have he := zif_t c4 he
      refine lv_tableIn (off := 50) (tgt := 72) hx hb dX8_count_22 (by rw [c4]; decide) (by rw [c4]; decide) (by rw [c4]; rfl) (by decide) ?_
      refine lv_aload_n hx hb dX8_count_72 rfl (lv_at hl 0 rfl) ?_
      refine va_get (D := (dC, dI)) (ci := 8) (v := .ref a_this_s) (C := RX8) (T := TX8) (N := 19) hx hb hts (by decide +kernel) hown hK hP 0 rfl rfl 0 (by decide) (hts (.fieldLink RX8 9 "LawOfCornersModel" "s" "[I") (by decide +kernel)) (fun _ h9 => h9) rfl dX8_count_73 ?_
      refine lv_bipush (v := (36 : Int32)) hx hb dX8_count_76 (by decide) ?_
      refine lv_iload_n hx hb dX8_count_78 rfl (lv_at hl 1 rfl) ?_
      refine lv_iadd hx hb dX8_count_79 ?_
      obtain ⟨hg5, he⟩ := zg_e he
      refine va_iald hx hb hK hP 2 0 rfl rfl hg5 dX8_count_80 ?_
      cases he
      exact W.iret (v := (g_s ((36 : Int32) + p1).toNatClampNeg)) hx hb hr (fun t ht hW => ⟨⟨(g_s ((36 : Int32) + p1).toNatClampNeg), (), rfl, rfl, by rw [ht]; exact hP, va_K.moved hW.alike hK, hD⟩, hS.F ht⟩) hS.2.2 dX8_count_81
    have he := zif_f c4 he
    by_cases c6 : p1 = (1 : Int32)
    · have he := zif_t c6 he
      refine lv_tableIn (off := 50) (tgt := 72) hx hb dX8_count_22 (by rw [c6]; decide) (by rw [c6]; decide) (by rw [c6]; rfl) (by decide) ?_
      refine lv_aload_n hx hb dX8_count_72 rfl (lv_at hl 0 rfl) ?_
      refine va_get (D := (dC, dI)) (ci := 8) (v := .ref a_this_s) (C := RX8) (T := TX8) (N := 19) hx hb hts (by decide +kernel) hown hK hP 0 rfl rfl 0 (by decide) (hts (.fieldLink RX8 9 "LawOfCornersModel" "s" "[I") (by decide +kernel)) (fun _ h9 => h9) rfl dX8_count_73 ?_
      refine lv_bipush (v := (36 : Int32)) hx hb dX8_count_76 (by decide) ?_
      refine lv_iload_n hx hb dX8_count_78 rfl (lv_at hl 1 rfl) ?_
      refine lv_iadd hx hb dX8_count_79 ?_
      obtain ⟨hg7, he⟩ := zg_e he
      refine va_iald hx hb hK hP 2 0 rfl rfl hg7 dX8_count_80 ?_
      cases he
      exact W.iret (v := (g_s ((36 : Int32) + p1).toNatClampNeg)) hx hb hr (fun t ht hW => ⟨⟨(g_s ((36 : Int32) + p1).toNatClampNeg), (), rfl, rfl, by rw [ht]; exact hP, va_K.moved hW.alike hK, hD⟩, hS.F ht⟩) hS.2.2 dX8_count_81
    have he := zif_f c6 he
    by_cases c8 : p1 = (2 : Int32)
    · have he := zif_t c8 he
      refine lv_tableIn (off := 50) (tgt := 72) hx hb dX8_count_22 (by rw [c8]; decide) (by rw [c8]; decide) (by rw [c8]; rfl) (by decide) ?_
      refine lv_aload_n hx hb dX8_count_72 rfl (lv_at hl 0 rfl) ?_
      refine va_get (D := (dC, dI)) (ci := 8) (v := .ref a_this_s) (C := RX8) (T := TX8) (N := 19) hx hb hts (by decide +kernel) hown hK hP 0 rfl rfl 0 (by decide) (hts (.fieldLink RX8 9 "LawOfCornersModel" "s" "[I") (by decide +kernel)) (fun _ h9 => h9) rfl dX8_count_73 ?_
      refine lv_bipush (v := (36 : Int32)) hx hb dX8_count_76 (by decide) ?_
      refine lv_iload_n hx hb dX8_count_78 rfl (lv_at hl 1 rfl) ?_
      refine lv_iadd hx hb dX8_count_79 ?_
      obtain ⟨hg9, he⟩ := zg_e he
      refine va_iald hx hb hK hP 2 0 rfl rfl hg9 dX8_count_80 ?_
      cases he
      exact W.iret (v := (g_s ((36 : Int32) + p1).toNatClampNeg)) hx hb hr (fun t ht hW => ⟨⟨(g_s ((36 : Int32) + p1).toNatClampNeg), (), rfl, rfl, by rw [ht]; exact hP, va_K.moved hW.alike hK, hD⟩, hS.F ht⟩) hS.2.2 dX8_count_81
    have he := zif_f c8 he
    by_cases c10 : p1 = (3 : Int32)
    · have he := zif_t c10 he
      refine lv_tableIn (off := 60) (tgt := 82) hx hb dX8_count_22 (by rw [c10]; decide) (by rw [c10]; decide) (by rw [c10]; rfl) (by decide) ?_
      refine lv_aload_n hx hb dX8_count_82 rfl (lv_at hl 0 rfl) ?_
      refine lv_iload_n hx hb dX8_count_83 rfl (lv_at hl 1 rfl) ?_
      obtain ⟨r11, hf12, he⟩ := zb1_e he
      refine zc_i (wr := [(a_this_refused, .inl (cI, 7, .inl g_refused))]) (ws' := [(a_this, .inr (8, [.ref a_this_s, .ref a_this_image, .ref a_this_was, .int v_hasImage, .ref a_this_letters, .ref a_this_row, .ref a_this_refused, .int v_letterMany, .int v_rowMany, .int v_place, .ref a_this_numbers, .ref a_this_least, .ref a_this_stepsFrom, .ref a_this_most, .ref a_this_next, .ref a_this_otherSteps, .ref a_this_ahead, .ref a_this_now, .int v_seed])), (a_this_refused, .inl (cI, 7, .inl g_refused)), (a_this_s, .inl (cI, 39, .inl g_s))]) (va_runV (As := [.int p1]) (rest := []) ⟨hx, hb, hml, hown, hts⟩ (k_M_manyOf l dC dI cI cZ tt sd a_this a_this_s a_this_image a_this_was a_this_letters a_this_row a_this_refused a_this_numbers a_this_least a_this_stepsFrom a_this_most a_this_next a_this_otherSteps a_this_ahead a_this_now H.size v_hasImage v_letterMany v_rowMany v_place v_seed g_s p1 r11 hf12) (cwV 1 hts gX8_count_X8_manyOf rfl rfl rfl (by decide +kernel) ⟨Nat.le_of_ble_eq_true rfl, Nat.le_of_ble_eq_true rfl⟩) (zpV hP hD hK hS hA hZ [0, 2] rfl rfl 8 0 rfl rfl) rfl rfl hl.1 rfl (lv_room (Nat.le_of_ble_eq_true rfl)) dX8_count_84 ⟨Nat.zero_le _, Nat.zero_le _⟩) hP hD hS hA [0, 2] [1] [1, 0, 2] rfl rfl rfl (by decide) rfl rfl rfl (fun H locs hP hD hS => ?_)
      cases he
      exact W.iret (v := r11) hx hb hr (fun t ht hW => ⟨⟨r11, (), rfl, rfl, by rw [ht]; exact hP, va_K.moved hW.alike hK, hD⟩, hS.F ht⟩) hS.2.2 dX8_count_87
    have he := zif_f c10 he
    by_cases c13 : p1 = (4 : Int32)
    · have he := zif_t c13 he
      refine lv_tableIn (off := 60) (tgt := 82) hx hb dX8_count_22 (by rw [c13]; decide) (by rw [c13]; decide) (by rw [c13]; rfl) (by decide) ?_
      refine lv_aload_n hx hb dX8_count_82 rfl (lv_at hl 0 rfl) ?_
      refine lv_iload_n hx hb dX8_count_83 rfl (lv_at hl 1 rfl) ?_
      obtain ⟨r14, hf15, he⟩ := zb1_e he
      refine zc_i (wr := [(a_this_refused, .inl (cI, 7, .inl g_refused))]) (ws' := [(a_this, .inr (8, [.ref a_this_s, .ref a_this_image, .ref a_this_was, .int v_hasImage, .ref a_this_letters, .ref a_this_row, .ref a_this_refused, .int v_letterMany, .int v_rowMany, .int v_place, .ref a_this_numbers, .ref a_this_least, .ref a_this_stepsFrom, .ref a_this_most, .ref a_this_next, .ref a_this_otherSteps, .ref a_this_ahead, .ref a_this_now, .int v_seed])), (a_this_refused, .inl (cI, 7, .inl g_refused)), (a_this_s, .inl (cI, 39, .inl g_s))]) (va_runV (As := [.int p1]) (rest := []) ⟨hx, hb, hml, hown, hts⟩ (k_M_manyOf l dC dI cI cZ tt sd a_this a_this_s a_this_image a_this_was a_this_letters a_this_row a_this_refused a_this_numbers a_this_least a_this_stepsFrom a_this_most a_this_next a_this_otherSteps a_this_ahead a_this_now H.size v_hasImage v_letterMany v_rowMany v_place v_seed g_s p1 r14 hf15) (cwV 1 hts gX8_count_X8_manyOf rfl rfl rfl (by decide +kernel) ⟨Nat.le_of_ble_eq_true rfl, Nat.le_of_ble_eq_true rfl⟩) (zpV hP hD hK hS hA hZ [0, 2] rfl rfl 8 0 rfl rfl) rfl rfl hl.1 rfl (lv_room (Nat.le_of_ble_eq_true rfl)) dX8_count_84 ⟨Nat.zero_le _, Nat.zero_le _⟩) hP hD hS hA [0, 2] [1] [1, 0, 2] rfl rfl rfl (by decide) rfl rfl rfl (fun H locs hP hD hS => ?_)
      cases he
      exact W.iret (v := r14) hx hb hr (fun t ht hW => ⟨⟨r14, (), rfl, rfl, by rw [ht]; exact hP, va_K.moved hW.alike hK, hD⟩, hS.F ht⟩) hS.2.2 dX8_count_87
    have he := zif_f c13 he
    by_cases c16 : p1 = (5 : Int32)
    · have he := zif_t c16 he
      refine lv_tableIn (off := 66) (tgt := 88) hx hb dX8_count_22 (by rw [c16]; decide) (by rw [c16]; decide) (by rw [c16]; rfl) (by decide) ?_
      refine lv_aload_n hx hb dX8_count_88 rfl (lv_at hl 0 rfl) ?_
      obtain ⟨r17, hf18, he⟩ := zb1_e he
      refine zc_i (wr := [(a_this_refused, .inl (cI, 7, .inl g_refused))]) (ws' := [(a_this, .inr (8, [.ref a_this_s, .ref a_this_image, .ref a_this_was, .int v_hasImage, .ref a_this_letters, .ref a_this_row, .ref a_this_refused, .int v_letterMany, .int v_rowMany, .int v_place, .ref a_this_numbers, .ref a_this_least, .ref a_this_stepsFrom, .ref a_this_most, .ref a_this_next, .ref a_this_otherSteps, .ref a_this_ahead, .ref a_this_now, .int v_seed])), (a_this_refused, .inl (cI, 7, .inl g_refused)), (a_this_s, .inl (cI, 39, .inl g_s))]) (va_runV (As := []) (rest := []) ⟨hx, hb, hml, hown, hts⟩ (k_M_heardMany l dC dI cI cZ tt sd a_this a_this_s a_this_image a_this_was a_this_letters a_this_row a_this_refused a_this_numbers a_this_least a_this_stepsFrom a_this_most a_this_next a_this_otherSteps a_this_ahead a_this_now H.size v_hasImage v_letterMany v_rowMany v_place v_seed g_s r17 hf18) (cwV 0 hts gX8_count_X8_heardMany rfl rfl rfl (by decide +kernel) ⟨Nat.le_of_ble_eq_true rfl, Nat.le_of_ble_eq_true rfl⟩) (zpV hP hD hK hS hA hZ [0, 2] rfl rfl 8 0 rfl rfl) rfl rfl hl.1 rfl (lv_room (Nat.le_of_ble_eq_true rfl)) dX8_count_89 ⟨Nat.zero_le _, Nat.zero_le _⟩) hP hD hS hA [0, 2] [1] [1, 0, 2] rfl rfl rfl (by decide) rfl rfl rfl (fun H locs hP hD hS => ?_)
      cases he
      exact W.iret (v := r17) hx hb hr (fun t ht hW => ⟨⟨r17, (), rfl, rfl, by rw [ht]; exact hP, va_K.moved hW.alike hK, hD⟩, hS.F ht⟩) hS.2.2 dX8_count_92
    have he := zif_f c16 he
    by_cases c19 : p1 = (6 : Int32)
    · have he := zif_t c19 he
      refine lv_tableIn (off := 60) (tgt := 82) hx hb dX8_count_22 (by rw [c19]; decide) (by rw [c19]; decide) (by rw [c19]; rfl) (by decide) ?_
      refine lv_aload_n hx hb dX8_count_82 rfl (lv_at hl 0 rfl) ?_
      refine lv_iload_n hx hb dX8_count_83 rfl (lv_at hl 1 rfl) ?_
      obtain ⟨r20, hf21, he⟩ := zb1_e he
      refine zc_i (wr := [(a_this_refused, .inl (cI, 7, .inl g_refused))]) (ws' := [(a_this, .inr (8, [.ref a_this_s, .ref a_this_image, .ref a_this_was, .int v_hasImage, .ref a_this_letters, .ref a_this_row, .ref a_this_refused, .int v_letterMany, .int v_rowMany, .int v_place, .ref a_this_numbers, .ref a_this_least, .ref a_this_stepsFrom, .ref a_this_most, .ref a_this_next, .ref a_this_otherSteps, .ref a_this_ahead, .ref a_this_now, .int v_seed])), (a_this_refused, .inl (cI, 7, .inl g_refused)), (a_this_s, .inl (cI, 39, .inl g_s))]) (va_runV (As := [.int p1]) (rest := []) ⟨hx, hb, hml, hown, hts⟩ (k_M_manyOf l dC dI cI cZ tt sd a_this a_this_s a_this_image a_this_was a_this_letters a_this_row a_this_refused a_this_numbers a_this_least a_this_stepsFrom a_this_most a_this_next a_this_otherSteps a_this_ahead a_this_now H.size v_hasImage v_letterMany v_rowMany v_place v_seed g_s p1 r20 hf21) (cwV 1 hts gX8_count_X8_manyOf rfl rfl rfl (by decide +kernel) ⟨Nat.le_of_ble_eq_true rfl, Nat.le_of_ble_eq_true rfl⟩) (zpV hP hD hK hS hA hZ [0, 2] rfl rfl 8 0 rfl rfl) rfl rfl hl.1 rfl (lv_room (Nat.le_of_ble_eq_true rfl)) dX8_count_84 ⟨Nat.zero_le _, Nat.zero_le _⟩) hP hD hS hA [0, 2] [1] [1, 0, 2] rfl rfl rfl (by decide) rfl rfl rfl (fun H locs hP hD hS => ?_)
      cases he
      exact W.iret (v := r20) hx hb hr (fun t ht hW => ⟨⟨r20, (), rfl, rfl, by rw [ht]; exact hP, va_K.moved hW.alike hK, hD⟩, hS.F ht⟩) hS.2.2 dX8_count_87
    have he := zif_f c19 he
    by_cases c22 : p1 = (7 : Int32)
    · have he := zif_t c22 he
      refine lv_tableIn (off := 71) (tgt := 93) hx hb dX8_count_22 (by rw [c22]; decide) (by rw [c22]; decide) (by rw [c22]; rfl) (by decide) ?_
      refine lv_aload_n hx hb dX8_count_93 rfl (lv_at hl 0 rfl) ?_
      refine va_get (D := (dC, dI)) (ci := 8) (v := .int v_rowMany) (C := RX8) (T := TX8) (N := 19) hx hb hts (by decide +kernel) hown hK hP 0 rfl rfl 8 (by decide) (hts (.fieldLink RX8 125 "LawOfCornersModel" "rowMany" "I") (by decide +kernel)) (fun _ h9 => h9) rfl dX8_count_94 ?_
      cases he
      exact W.iret (v := v_rowMany) hx hb hr (fun t ht hW => ⟨⟨v_rowMany, (), rfl, rfl, by rw [ht]; exact hP, va_K.moved hW.alike hK, hD⟩, hS.F ht⟩) hS.2.2 dX8_count_97
    have he := zif_f c22 he
    by_cases c23 : p1 = (8 : Int32)
    · have he := zif_t c23 he
      refine lv_tableIn (off := 76) (tgt := 98) hx hb dX8_count_22 (by rw [c23]; decide) (by rw [c23]; decide) (by rw [c23]; rfl) (by decide) ?_
      refine lv_aload_n hx hb dX8_count_98 rfl (lv_at hl 0 rfl) ?_
      refine va_get (D := (dC, dI)) (ci := 8) (v := .int v_letterMany) (C := RX8) (T := TX8) (N := 19) hx hb hts (by decide +kernel) hown hK hP 0 rfl rfl 7 (by decide) (hts (.fieldLink RX8 90 "LawOfCornersModel" "letterMany" "I") (by decide +kernel)) (fun _ h9 => h9) rfl dX8_count_99 ?_
      cases he
      exact W.iret (v := v_letterMany) hx hb hr (fun t ht hW => ⟨⟨v_letterMany, (), rfl, rfl, by rw [ht]; exact hP, va_K.moved hW.alike hK, hD⟩, hS.F ht⟩) hS.2.2 dX8_count_102
    have he := zif_f c23 he
    refine lv_tableOut (tgt := 103) hx hb dX8_count_22 (by have n0 := lv_neT (a := 0) c4 (by decide); have n1 := lv_neT (a := 1) c6 (by decide); have n2 := lv_neT (a := 2) c8 (by decide); have n3 := lv_neT (a := 3) c10 (by decide); have n4 := lv_neT (a := 4) c13 (by decide); have n5 := lv_neT (a := 5) c16 (by decide); have n6 := lv_neT (a := 6) c19 (by decide); have n7 := lv_neT (a := 7) c22 (by decide); have n8 := lv_neT (a := 8) c23 (by decide); omega) (by decide) ?_
    refine lv_bipush (v := (-9 : Int32)) hx hb dX8_count_103 (by decide) ?_
    cases he
    exact W.iret (v := (-9 : Int32)) hx hb hr (fun t ht hW => ⟨⟨(-9 : Int32), (), rfl, rfl, by rw [ht]; exact hP, va_K.moved hW.alike hK, hD⟩, hS.F ht⟩) hS.2.2 dX8_count_105
  · have he := zif_f c3 he
    refine lv_aload_n hx hb dX8_count_11 rfl (lv_at hl 0 rfl) ?_
    refine va_get (D := (dC, dI)) (ci := 8) (v := .ref a_this_refused) (C := RX8) (T := TX8) (N := 19) hx hb hts (by decide +kernel) hown hK hP 0 rfl rfl 6 (by decide) (hts (.fieldLink RX8 25 "LawOfCornersModel" "refused" "[I") (by decide +kernel)) (fun _ h9 => h9) rfl dX8_count_12 ?_
    refine lv_iload_n hx hb dX8_count_15 rfl (lv_at hl 1 rfl) ?_
    refine lv_bipush (v := (10 : Int32)) hx hb dX8_count_16 (by decide) ?_
    refine lv_isub hx hb dX8_count_18 ?_
    obtain ⟨hg24, he⟩ := zg_e he
    refine va_iald hx hb hK hP 1 0 rfl rfl hg24 dX8_count_19 ?_
    cases he
    exact W.iret (v := (g_refused (p1 - (10 : Int32)).toNatClampNeg)) hx hb hr (fun t ht hW => ⟨⟨(g_refused (p1 - (10 : Int32)).toNatClampNeg), (), rfl, rfl, by rw [ht]; exact hP, va_K.moved hW.alike hK, hD⟩, hS.F ht⟩) hS.2.2 dX8_count_20
