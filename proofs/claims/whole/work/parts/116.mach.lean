set_option maxHeartbeats 4000000 in
set_option maxRecDepth 100000 in
theorem k_M_gone (l : Launch) (dC : Nat → ClassId) (dI : Nat → Nat → Nat) (cI : ClassId) (cZ : ClassId) (tt : Nat → Nat) (sd : Nat → Nat) (a_this : Nat) (a_this_s : Nat) (a_this_image : Nat) (a_this_was : Nat) (a_this_letters : Nat) (a_this_row : Nat) (a_this_refused : Nat) (a_this_numbers : Nat) (a_this_least : Nat) (a_this_stepsFrom : Nat) (a_this_most : Nat) (a_this_next : Nat) (a_this_otherSteps : Nat) (a_this_ahead : Nat) (a_this_now : Nat) (sz : Nat) (v_hasImage : Int32) (v_letterMany : Int32) (v_rowMany : Int32) (v_place : Int32) (v_seed : Int32) (g_s : Nat → Int32) (p1 : Int32) (p2 : Int32) (r0 : Int32) (hf : f_M_gone g_s p1 p2 = some (r0)) : Met l yX8_gone wsX8_gone ({ frames := 2, cells := 0, slots := 0, locals := 42 }) (zPre (dC, dI) vwCl [(cI, .int), (cZ, .boolean)] tt sd [.ref a_this, .int p1, .int p2] [(a_this, .inr (8, [.ref a_this_s, .ref a_this_image, .ref a_this_was, .int v_hasImage, .ref a_this_letters, .ref a_this_row, .ref a_this_refused, .int v_letterMany, .int v_rowMany, .int v_place, .ref a_this_numbers, .ref a_this_least, .ref a_this_stepsFrom, .ref a_this_most, .ref a_this_next, .ref a_this_otherSteps, .ref a_this_ahead, .ref a_this_now, .int v_seed])), (a_this_s, .inl (cI, 39, .inl g_s))] sz) (zQi (dC, dI) vwCl [(cI, .int), (cZ, .boolean)] r0 [(a_this, .inr (8, [.ref a_this_s, .ref a_this_image, .ref a_this_was, .int v_hasImage, .ref a_this_letters, .ref a_this_row, .ref a_this_refused, .int v_letterMany, .int v_rowMany, .int v_place, .ref a_this_numbers, .ref a_this_least, .ref a_this_stepsFrom, .ref a_this_most, .ref a_this_next, .ref a_this_otherSteps, .ref a_this_ahead, .ref a_this_now, .int v_seed])), (a_this_s, .inl (cI, 39, .inl g_s))] (va_A [(a_this, .inr (8, [.ref a_this_s, .ref a_this_image, .ref a_this_was, .int v_hasImage, .ref a_this_letters, .ref a_this_row, .ref a_this_refused, .int v_letterMany, .int v_rowMany, .int v_place, .ref a_this_numbers, .ref a_this_least, .ref a_this_stepsFrom, .ref a_this_most, .ref a_this_next, .ref a_this_otherSteps, .ref a_this_ahead, .ref a_this_now, .int v_seed])), (a_this_s, .inl (cI, 39, .inl g_s))] sz)) 0 0 (va_A [(a_this, .inr (8, [.ref a_this_s, .ref a_this_image, .ref a_this_was, .int v_hasImage, .ref a_this_letters, .ref a_this_row, .ref a_this_refused, .int v_letterMany, .int v_rowMany, .int v_place, .ref a_this_numbers, .ref a_this_least, .ref a_this_stepsFrom, .ref a_this_most, .ref a_this_next, .ref a_this_otherSteps, .ref a_this_ahead, .ref a_this_now, .int v_seed])), (a_this_s, .inl (cI, 39, .inl g_s))] sz) := by
  refine Met.ofW (cc := cX8_gone) (maxL := 4) (ret := (some .int)) (by decide) rfl ?_
  intro p e s m args below meth c s₁ B hml hv
  obtain ⟨rfl, hsz, hP, hK, hD0, hZ⟩ := hv
  have hx := B.exec
  have hb := B.bytes
  have hr := B.returns
  have hts := atoms_spec (ws := wsX8_gone) B.pre
  have hown : s.vm.findClass RX8 = some m.cls := findClass_of_methodNamed B.named
  have hlocks := B.notSynchronized
  subst hsz
  have hD := hD0.self (sz := s.heap.size)
  generalize hAe : va_A [(a_this, .inr (8, [.ref a_this_s, .ref a_this_image, .ref a_this_was, .int v_hasImage, .ref a_this_letters, .ref a_this_row, .ref a_this_refused, .int v_letterMany, .int v_rowMany, .int v_place, .ref a_this_numbers, .ref a_this_least, .ref a_this_stepsFrom, .ref a_this_most, .ref a_this_next, .ref a_this_otherSteps, .ref a_this_ahead, .ref a_this_now, .int v_seed])), (a_this_s, .inl (cI, 39, .inl g_s))] s.heap.size = A at hD hZ ⊢
  have hA : ∀ q : Nat, s.heap.size ≤ q → A q := fun q h => by rw [← hAe]; exact Or.inr h
  have hS : va_S A s.heap s.heap [] := va_S.rf
  have hP : va_P (dC, dI) vwCl [(a_this, .inr (8, [.ref a_this_s, .ref a_this_image, .ref a_this_was, .int v_hasImage, .ref a_this_letters, .ref a_this_row, .ref a_this_refused, .int v_letterMany, .int v_rowMany, .int v_place, .ref a_this_numbers, .ref a_this_least, .ref a_this_stepsFrom, .ref a_this_most, .ref a_this_next, .ref a_this_otherSteps, .ref a_this_ahead, .ref a_this_now, .int v_seed])), (a_this_s, .inl (cI, 39, .inl g_s))] s.heap := hP
  have hl := lv_entry ([.ref a_this, .int p1, .int p2]) (n := 4) (Nat.le_of_ble_eq_true rfl)
  rw [lg_entry_eq]
  generalize (lg_sl ([.ref a_this, .int p1, .int p2]) ++ List.replicate (4 - (lg_sl ([.ref a_this, .int p1, .int p2])).length) Slot.unset).toArray = ls at hl ⊢
  have hl : lv_has ls 4 [(0, .ref a_this), (1, .int p1), (2, .int p2)] := hl
  have he := hf
  unfold f_M_gone at he
  refine zstart (D := (dC, dI)) (cl := vwCl) (A := A) (nL := 4) (fun WW hWW => ?_)
  refine lv_iload_n hx hb dX8_gone_0 rfl (lv_at hl 2 rfl) ?_
  refine zj1_w he (fun (s1 : Int32) => WW [(a_this, .inr (8, [.ref a_this_s, .ref a_this_image, .ref a_this_was, .int v_hasImage, .ref a_this_letters, .ref a_this_row, .ref a_this_refused, .int v_letterMany, .int v_rowMany, .int v_place, .ref a_this_numbers, .ref a_this_least, .ref a_this_stepsFrom, .ref a_this_most, .ref a_this_next, .ref a_this_otherSteps, .ref a_this_ahead, .ref a_this_now, .int v_seed])), (a_this_s, .inl (cI, 39, .inl g_s))] [(0, .ref a_this), (1, .int p1)] 60 [.int s1]) (fun s1 he => (hWW _ _ _ _).mpr (fun H locs ls hP hD hS hl => ?_)) (fun k11 hk11 he => ?_)
  · refine lv_istore_n (lv' := [(3, .int s1), (0, .ref a_this), (1, .int p1)]) hx hb dX8_gone_60 rfl hl (by decide) rfl (fun ls hl => ?_)
    refine lv_iload_n hx hb dX8_gone_61 rfl (lv_at hl 0 rfl) ?_
    obtain ⟨r2, hf3, he⟩ := zb1_e he
    refine zc_i (wr := [(a_this, .inr (8, [.ref a_this_s, .ref a_this_image, .ref a_this_was, .int v_hasImage, .ref a_this_letters, .ref a_this_row, .ref a_this_refused, .int v_letterMany, .int v_rowMany, .int v_place, .ref a_this_numbers, .ref a_this_least, .ref a_this_stepsFrom, .ref a_this_most, .ref a_this_next, .ref a_this_otherSteps, .ref a_this_ahead, .ref a_this_now, .int v_seed])), (a_this_s, .inl (cI, 39, .inl g_s))]) (ws' := [(a_this, .inr (8, [.ref a_this_s, .ref a_this_image, .ref a_this_was, .int v_hasImage, .ref a_this_letters, .ref a_this_row, .ref a_this_refused, .int v_letterMany, .int v_rowMany, .int v_place, .ref a_this_numbers, .ref a_this_least, .ref a_this_stepsFrom, .ref a_this_most, .ref a_this_next, .ref a_this_otherSteps, .ref a_this_ahead, .ref a_this_now, .int v_seed])), (a_this_s, .inl (cI, 39, .inl g_s))]) (va_runS (As := [.int s1]) (rest := []) ⟨hx, hb, hml, hown, hts⟩ (k_M_isSquare l dC dI cI cZ tt sd H.size s1 r2 hf3) (va_cwS 1 hts gX8_gone_X8_isSquare rfl rfl rfl (by decide +kernel) ⟨Nat.le_of_ble_eq_true rfl, Nat.le_of_ble_eq_true rfl⟩) (zpS hP hD hK hS hA hZ [] rfl rfl) rfl rfl hl.1 rfl (lv_room (Nat.le_of_ble_eq_true rfl)) dX8_gone_62 ⟨Nat.zero_le _, Nat.zero_le _⟩) hP hD hS hA [] [0, 1] [0, 1] rfl rfl rfl (by decide) rfl rfl rfl (fun H locs hP hD hS => ?_)
    refine lv_if_eq (tgt := 88) hx hb dX8_gone_65 (by decide) (fun c4 => ?_) (fun c4 => ?_)
    · have he := zif_t c4 he
      refine lv_bipush (v := (-9 : Int32)) hx hb dX8_gone_88 (by decide) ?_
      obtain ⟨rfl⟩ := zi1 he
      exact W.iret hx hb hr (fun t ht hW => ⟨⟨_, (), rfl, rfl, by rw [ht]; exact hP, va_K.moved hW.alike hK, hD⟩, hS.F ht⟩) hS.2.2 dX8_gone_90
    · have he := zif_f c4 he
      refine lv_aload_n hx hb dX8_gone_68 rfl (lv_at hl 1 rfl) ?_
      refine lv_iload_n hx hb dX8_gone_69 rfl (lv_at hl 2 rfl) ?_
      obtain ⟨r5, hf6, he⟩ := zb1_e he
      refine zc_i (wr := []) (ws' := [(a_this, .inr (8, [.ref a_this_s, .ref a_this_image, .ref a_this_was, .int v_hasImage, .ref a_this_letters, .ref a_this_row, .ref a_this_refused, .int v_letterMany, .int v_rowMany, .int v_place, .ref a_this_numbers, .ref a_this_least, .ref a_this_stepsFrom, .ref a_this_most, .ref a_this_next, .ref a_this_otherSteps, .ref a_this_ahead, .ref a_this_now, .int v_seed])), (a_this_s, .inl (cI, 39, .inl g_s))]) (va_runV (As := [.int p1]) (rest := []) ⟨hx, hb, hml, hown, hts⟩ (k_M_canBe l dC dI cI cZ tt sd a_this a_this_s a_this_image a_this_was a_this_letters a_this_row a_this_refused a_this_numbers a_this_least a_this_stepsFrom a_this_most a_this_next a_this_otherSteps a_this_ahead a_this_now H.size v_hasImage v_letterMany v_rowMany v_place v_seed g_s p1 r5 hf6) (cwV 1 hts gX8_gone_X8_canBe rfl rfl rfl (by decide +kernel) ⟨Nat.le_of_ble_eq_true rfl, Nat.le_of_ble_eq_true rfl⟩) (zpV hP hD hK hS hA hZ [0, 1] rfl rfl 8 0 rfl rfl) rfl rfl hl.1 rfl (lv_room (Nat.le_of_ble_eq_true rfl)) dX8_gone_70 ⟨Nat.zero_le _, Nat.zero_le _⟩) hP hD hS hA [0, 1] [] [0, 1] rfl rfl rfl (by decide) rfl rfl rfl (fun H locs hP hD hS => ?_)
      refine lv_if_eq (tgt := 88) hx hb dX8_gone_73 (by decide) (fun c7 => ?_) (fun c7 => ?_)
      · have he := zif_t c7 he
        refine lv_bipush (v := (-9 : Int32)) hx hb dX8_gone_88 (by decide) ?_
        obtain ⟨rfl⟩ := zi1 he
        exact W.iret hx hb hr (fun t ht hW => ⟨⟨_, (), rfl, rfl, by rw [ht]; exact hP, va_K.moved hW.alike hK, hD⟩, hS.F ht⟩) hS.2.2 dX8_gone_90
      · have he := zif_f c7 he
        refine lv_aload_n hx hb dX8_gone_76 rfl (lv_at hl 1 rfl) ?_
        refine lv_iload_n hx hb dX8_gone_77 rfl (lv_at hl 0 rfl) ?_
        obtain ⟨r8, hf9, he⟩ := zb1_e he
        refine zc_i (wr := []) (ws' := [(a_this, .inr (8, [.ref a_this_s, .ref a_this_image, .ref a_this_was, .int v_hasImage, .ref a_this_letters, .ref a_this_row, .ref a_this_refused, .int v_letterMany, .int v_rowMany, .int v_place, .ref a_this_numbers, .ref a_this_least, .ref a_this_stepsFrom, .ref a_this_most, .ref a_this_next, .ref a_this_otherSteps, .ref a_this_ahead, .ref a_this_now, .int v_seed])), (a_this_s, .inl (cI, 39, .inl g_s))]) (va_runV (As := [.int s1]) (rest := []) ⟨hx, hb, hml, hown, hts⟩ (k_M_canBe l dC dI cI cZ tt sd a_this a_this_s a_this_image a_this_was a_this_letters a_this_row a_this_refused a_this_numbers a_this_least a_this_stepsFrom a_this_most a_this_next a_this_otherSteps a_this_ahead a_this_now H.size v_hasImage v_letterMany v_rowMany v_place v_seed g_s s1 r8 hf9) (cwV 1 hts gX8_gone_X8_canBe rfl rfl rfl (by decide +kernel) ⟨Nat.le_of_ble_eq_true rfl, Nat.le_of_ble_eq_true rfl⟩) (zpV hP hD hK hS hA hZ [0, 1] rfl rfl 8 0 rfl rfl) rfl rfl hl.1 rfl (lv_room (Nat.le_of_ble_eq_true rfl)) dX8_gone_78 ⟨Nat.zero_le _, Nat.zero_le _⟩) hP hD hS hA [0, 1] [] [0, 1] rfl rfl rfl (by decide) rfl rfl rfl (fun H locs hP hD hS => ?_)
        refine lv_if_eq (tgt := 88) hx hb dX8_gone_81 (by decide) (fun c10 => ?_) (fun c10 => ?_)
        · have he := zif_t c10 he
          refine lv_bipush (v := (-9 : Int32)) hx hb dX8_gone_88 (by decide) ?_
          obtain ⟨rfl⟩ := zi1 he
          exact W.iret hx hb hr (fun t ht hW => ⟨⟨_, (), rfl, rfl, by rw [ht]; exact hP, va_K.moved hW.alike hK, hD⟩, hS.F ht⟩) hS.2.2 dX8_gone_90
        · have he := zif_f c10 he
          refine lv_iload_n hx hb dX8_gone_84 rfl (lv_at hl 0 rfl) ?_
          refine lv_goto (tgt := 90) hx hb dX8_gone_85 (by decide) ?_
          obtain ⟨rfl⟩ := zi1 he
          exact W.iret hx hb hr (fun t ht hW => ⟨⟨_, (), rfl, rfl, by rw [ht]; exact hP, va_K.moved hW.alike hK, hD⟩, hS.F ht⟩) hS.2.2 dX8_gone_90
  refine lv_if_ne (tgt := 11) hx hb dX8_gone_1 (by decide) (fun c12 => ?_) (fun c12 => ?_)
  · have he := zif_f c12 he
    refine lv_iload_n hx hb dX8_gone_11 rfl (lv_at hl 2 rfl) ?_
    refine lv_iconst (v := (1 : Int32)) hx hb dX8_gone_12 (by decide) ?_
    refine lv_icmp_ne (tgt := 33) hx hb dX8_gone_13 (by decide) (fun c13 => ?_) (fun c13 => ?_)
    · have he := zif_f c13 he
      refine lv_iload_n hx hb dX8_gone_33 rfl (lv_at hl 2 rfl) ?_
      refine lv_iconst (v := (2 : Int32)) hx hb dX8_gone_34 (by decide) ?_
      refine lv_icmp_ne (tgt := 56) hx hb dX8_gone_35 (by decide) (fun c14 => ?_) (fun c14 => ?_)
      · have he := zif_f c14 he
        refine lv_iload_n hx hb dX8_gone_56 rfl (lv_at hl 1 rfl) ?_
        refine lv_bipush (v := (6 : Int32)) hx hb dX8_gone_57 (by decide) ?_
        refine lv_iadd hx hb dX8_gone_59 ?_
        exact (hWW _ _ _ _).mp (hk11 (p1 + (6 : Int32)) he) _ _ _ hP hD hS (lv_sub hl [0, 1] rfl)
      · have he := zif_t c14 he
        refine lv_iload_n hx hb dX8_gone_38 rfl (lv_at hl 1 rfl) ?_
        refine lv_bipush (v := (6 : Int32)) hx hb dX8_gone_39 (by decide) ?_
        refine lv_irem hx hb dX8_gone_41 (by decide) ?_
        refine lv_iconst (v := (5 : Int32)) hx hb dX8_gone_42 (by decide) ?_
        refine lv_icmp_ne (tgt := 50) hx hb dX8_gone_43 (by decide) (fun c15 => ?_) (fun c15 => ?_)
        · have he := zif_f c15 he
          refine lv_iload_n hx hb dX8_gone_50 rfl (lv_at hl 1 rfl) ?_
          refine lv_iconst (v := (1 : Int32)) hx hb dX8_gone_51 (by decide) ?_
          refine lv_iadd hx hb dX8_gone_52 ?_
          refine lv_goto (tgt := 60) hx hb dX8_gone_53 (by decide) ?_
          exact (hWW _ _ _ _).mp (hk11 (p1 + (1 : Int32)) he) _ _ _ hP hD hS (lv_sub hl [0, 1] rfl)
        · have he := zif_t c15 he
          refine lv_iconst (v := (-1 : Int32)) hx hb dX8_gone_46 (by decide) ?_
          refine lv_goto (tgt := 60) hx hb dX8_gone_47 (by decide) ?_
          exact (hWW _ _ _ _).mp (hk11 (-1 : Int32) he) _ _ _ hP hD hS (lv_sub hl [0, 1] rfl)
    · have he := zif_t c13 he
      refine lv_iload_n hx hb dX8_gone_16 rfl (lv_at hl 1 rfl) ?_
      refine lv_bipush (v := (6 : Int32)) hx hb dX8_gone_17 (by decide) ?_
      refine lv_irem hx hb dX8_gone_19 (by decide) ?_
      refine lv_if_ne (tgt := 27) hx hb dX8_gone_20 (by decide) (fun c16 => ?_) (fun c16 => ?_)
      · have he := zif_f c16 he
        refine lv_iload_n hx hb dX8_gone_27 rfl (lv_at hl 1 rfl) ?_
        refine lv_iconst (v := (1 : Int32)) hx hb dX8_gone_28 (by decide) ?_
        refine lv_isub hx hb dX8_gone_29 ?_
        refine lv_goto (tgt := 60) hx hb dX8_gone_30 (by decide) ?_
        exact (hWW _ _ _ _).mp (hk11 (p1 - (1 : Int32)) he) _ _ _ hP hD hS (lv_sub hl [0, 1] rfl)
      · have he := zif_t c16 he
        refine lv_iconst (v := (-1 : Int32)) hx hb dX8_gone_23 (by decide) ?_
        refine lv_goto (tgt := 60) hx hb dX8_gone_24 (by decide) ?_
        exact (hWW _ _ _ _).mp (hk11 (-1 : Int32) he) _ _ _ hP hD hS (lv_sub hl [0, 1] rfl)
  · have he := zif_t c12 he
    refine lv_iload_n hx hb dX8_gone_4 rfl (lv_at hl 1 rfl) ?_
    refine lv_bipush (v := (6 : Int32)) hx hb dX8_gone_5 (by decide) ?_
    refine lv_isub hx hb dX8_gone_7 ?_
    refine lv_goto (tgt := 60) hx hb dX8_gone_8 (by decide) ?_
    exact (hWW _ _ _ _).mp (hk11 (p1 - (6 : Int32)) he) _ _ _ hP hD hS (lv_sub hl [0, 1] rfl)
set_option maxHeartbeats 4000000 in
set_option maxRecDepth 100000 in
theorem k_M_isCorner (l : Launch) (dC : Nat → ClassId) (dI : Nat → Nat → Nat) (cI : ClassId) (cZ : ClassId) (tt : Nat → Nat) (sd : Nat → Nat) (a_this : Nat) (a_this_s : Nat) (a_this_image : Nat) (a_this_was : Nat) (a_this_letters : Nat) (a_this_row : Nat) (a_this_refused : Nat) (a_this_numbers : Nat) (a_this_least : Nat) (a_this_stepsFrom : Nat) (a_this_most : Nat) (a_this_next : Nat) (a_this_otherSteps : Nat) (a_this_ahead : Nat) (a_this_now : Nat) (sz : Nat) (v_hasImage : Int32) (v_letterMany : Int32) (v_rowMany : Int32) (v_place : Int32) (v_seed : Int32) (g_s : Nat → Int32) (p1 : Int32) (p2 : Int32) (p3 : Int32) (r0 : Int32) (hf : f_M_isCorner g_s p1 p2 p3 = some (r0)) : Met l yX8_isCorner wsX8_isCorner ({ frames := 1, cells := 0, slots := 0, locals := 21 }) (zPre (dC, dI) vwCl [(cI, .int), (cZ, .boolean)] tt sd [.ref a_this, .int p1, .int p2, .int p3] [(a_this, .inr (8, [.ref a_this_s, .ref a_this_image, .ref a_this_was, .int v_hasImage, .ref a_this_letters, .ref a_this_row, .ref a_this_refused, .int v_letterMany, .int v_rowMany, .int v_place, .ref a_this_numbers, .ref a_this_least, .ref a_this_stepsFrom, .ref a_this_most, .ref a_this_next, .ref a_this_otherSteps, .ref a_this_ahead, .ref a_this_now, .int v_seed])), (a_this_s, .inl (cI, 39, .inl g_s))] sz) (zQi (dC, dI) vwCl [(cI, .int), (cZ, .boolean)] r0 [(a_this, .inr (8, [.ref a_this_s, .ref a_this_image, .ref a_this_was, .int v_hasImage, .ref a_this_letters, .ref a_this_row, .ref a_this_refused, .int v_letterMany, .int v_rowMany, .int v_place, .ref a_this_numbers, .ref a_this_least, .ref a_this_stepsFrom, .ref a_this_most, .ref a_this_next, .ref a_this_otherSteps, .ref a_this_ahead, .ref a_this_now, .int v_seed])), (a_this_s, .inl (cI, 39, .inl g_s))] (va_A [(a_this, .inr (8, [.ref a_this_s, .ref a_this_image, .ref a_this_was, .int v_hasImage, .ref a_this_letters, .ref a_this_row, .ref a_this_refused, .int v_letterMany, .int v_rowMany, .int v_place, .ref a_this_numbers, .ref a_this_least, .ref a_this_stepsFrom, .ref a_this_most, .ref a_this_next, .ref a_this_otherSteps, .ref a_this_ahead, .ref a_this_now, .int v_seed])), (a_this_s, .inl (cI, 39, .inl g_s))] sz)) 0 0 (va_A [(a_this, .inr (8, [.ref a_this_s, .ref a_this_image, .ref a_this_was, .int v_hasImage, .ref a_this_letters, .ref a_this_row, .ref a_this_refused, .int v_letterMany, .int v_rowMany, .int v_place, .ref a_this_numbers, .ref a_this_least, .ref a_this_stepsFrom, .ref a_this_most, .ref a_this_next, .ref a_this_otherSteps, .ref a_this_ahead, .ref a_this_now, .int v_seed])), (a_this_s, .inl (cI, 39, .inl g_s))] sz) := by
  refine Met.ofW (cc := cX8_isCorner) (maxL := 4) (ret := (some .boolean)) (by decide) rfl ?_
  intro p e s m args below meth c s₁ B hml hv
  obtain ⟨rfl, hsz, hP, hK, hD0, hZ⟩ := hv
  have hx := B.exec
  have hb := B.bytes
  have hr := B.returns
  have hts := atoms_spec (ws := wsX8_isCorner) B.pre
  have hown : s.vm.findClass RX8 = some m.cls := findClass_of_methodNamed B.named
  have hlocks := B.notSynchronized
  subst hsz
  have hD := hD0.self (sz := s.heap.size)
  generalize hAe : va_A [(a_this, .inr (8, [.ref a_this_s, .ref a_this_image, .ref a_this_was, .int v_hasImage, .ref a_this_letters, .ref a_this_row, .ref a_this_refused, .int v_letterMany, .int v_rowMany, .int v_place, .ref a_this_numbers, .ref a_this_least, .ref a_this_stepsFrom, .ref a_this_most, .ref a_this_next, .ref a_this_otherSteps, .ref a_this_ahead, .ref a_this_now, .int v_seed])), (a_this_s, .inl (cI, 39, .inl g_s))] s.heap.size = A at hD hZ ⊢
  have hA : ∀ q : Nat, s.heap.size ≤ q → A q := fun q h => by rw [← hAe]; exact Or.inr h
  have hS : va_S A s.heap s.heap [] := va_S.rf
  have hP : va_P (dC, dI) vwCl [(a_this, .inr (8, [.ref a_this_s, .ref a_this_image, .ref a_this_was, .int v_hasImage, .ref a_this_letters, .ref a_this_row, .ref a_this_refused, .int v_letterMany, .int v_rowMany, .int v_place, .ref a_this_numbers, .ref a_this_least, .ref a_this_stepsFrom, .ref a_this_most, .ref a_this_next, .ref a_this_otherSteps, .ref a_this_ahead, .ref a_this_now, .int v_seed])), (a_this_s, .inl (cI, 39, .inl g_s))] s.heap := hP
  have hl := lv_entry ([.ref a_this, .int p1, .int p2, .int p3]) (n := 4) (Nat.le_of_ble_eq_true rfl)
  rw [lg_entry_eq]
  generalize (lg_sl ([.ref a_this, .int p1, .int p2, .int p3]) ++ List.replicate (4 - (lg_sl ([.ref a_this, .int p1, .int p2, .int p3])).length) Slot.unset).toArray = ls at hl ⊢
  have hl : lv_has ls 4 [(0, .ref a_this), (1, .int p1), (2, .int p2), (3, .int p3)] := hl
  have he := hf
  unfold f_M_isCorner at he
  refine lv_iload_n hx hb dX8_isCorner_0 rfl (lv_at hl 2 rfl) ?_
  refine lv_iconst (v := (4 : Int32)) hx hb dX8_isCorner_1 (by decide) ?_
  refine lv_icmp_eq (tgt := 22) hx hb dX8_isCorner_2 (by decide) (fun c1 => ?_) (fun c1 => ?_)
  · have he := zif_t c1 he
    refine lv_iconst (v := (0 : Int32)) hx hb dX8_isCorner_22 (by decide) ?_
    obtain ⟨rfl⟩ := zi1 he
    exact W.zret hx hb hr rfl (fun t ht hW => ⟨⟨_, (), rfl, rfl, by rw [ht]; exact hP, va_K.moved hW.alike hK, hD⟩, hS.F ht⟩) hS.2.2 dX8_isCorner_23
  · have he := zif_f c1 he
    refine lv_iload_n hx hb dX8_isCorner_5 rfl (lv_at hl 2 rfl) ?_
    refine lv_iload_n hx hb dX8_isCorner_6 rfl (lv_at hl 3 rfl) ?_
    refine lv_icmp_eq (tgt := 22) hx hb dX8_isCorner_7 (by decide) (fun c2 => ?_) (fun c2 => ?_)
    · have he := zif_t c2 he
      refine lv_iconst (v := (0 : Int32)) hx hb dX8_isCorner_22 (by decide) ?_
      obtain ⟨rfl⟩ := zi1 he
      exact W.zret hx hb hr rfl (fun t ht hW => ⟨⟨_, (), rfl, rfl, by rw [ht]; exact hP, va_K.moved hW.alike hK, hD⟩, hS.F ht⟩) hS.2.2 dX8_isCorner_23
    · have he := zif_f c2 he
      refine lv_aload_n hx hb dX8_isCorner_10 rfl (lv_at hl 0 rfl) ?_
      refine lv_iload_n hx hb dX8_isCorner_11 rfl (lv_at hl 1 rfl) ?_
      obtain ⟨r3, hf4, he⟩ := zb1_e he
      refine zc_i (wr := []) (ws' := [(a_this, .inr (8, [.ref a_this_s, .ref a_this_image, .ref a_this_was, .int v_hasImage, .ref a_this_letters, .ref a_this_row, .ref a_this_refused, .int v_letterMany, .int v_rowMany, .int v_place, .ref a_this_numbers, .ref a_this_least, .ref a_this_stepsFrom, .ref a_this_most, .ref a_this_next, .ref a_this_otherSteps, .ref a_this_ahead, .ref a_this_now, .int v_seed])), (a_this_s, .inl (cI, 39, .inl g_s))]) (va_runV (As := [.int p1]) (rest := []) ⟨hx, hb, hml, hown, hts⟩ (k_M_isTurned l dC dI cI cZ tt sd a_this a_this_s a_this_image a_this_was a_this_letters a_this_row a_this_refused a_this_numbers a_this_least a_this_stepsFrom a_this_most a_this_next a_this_otherSteps a_this_ahead a_this_now s.heap.size v_hasImage v_letterMany v_rowMany v_place v_seed g_s p1 r3 hf4) (cwV 1 hts gX8_isCorner_X8_isTurned rfl rfl rfl (by decide +kernel) ⟨Nat.le_of_ble_eq_true rfl, Nat.le_of_ble_eq_true rfl⟩) (zpV hP hD hK hS hA hZ [0, 1] rfl rfl 8 0 rfl rfl) rfl rfl hl.1 rfl (lv_room (Nat.le_of_ble_eq_true rfl)) dX8_isCorner_12 ⟨Nat.zero_le _, Nat.zero_le _⟩) hP hD hS hA [0, 1] [] [0, 1] rfl rfl rfl (by decide) rfl rfl rfl (fun H locs hP hD hS => ?_)
      refine lv_if_eq (tgt := 22) hx hb dX8_isCorner_15 (by decide) (fun c5 => ?_) (fun c5 => ?_)
      · have he := zif_t c5 he
        refine lv_iconst (v := (0 : Int32)) hx hb dX8_isCorner_22 (by decide) ?_
        obtain ⟨rfl⟩ := zi1 he
        exact W.zret hx hb hr rfl (fun t ht hW => ⟨⟨_, (), rfl, rfl, by rw [ht]; exact hP, va_K.moved hW.alike hK, hD⟩, hS.F ht⟩) hS.2.2 dX8_isCorner_23
      · have he := zif_f c5 he
        refine lv_iconst (v := (1 : Int32)) hx hb dX8_isCorner_18 (by decide) ?_
        refine lv_goto (tgt := 23) hx hb dX8_isCorner_19 (by decide) ?_
        obtain ⟨rfl⟩ := zi1 he
        exact W.zret hx hb hr rfl (fun t ht hW => ⟨⟨_, (), rfl, rfl, by rw [ht]; exact hP, va_K.moved hW.alike hK, hD⟩, hS.F ht⟩) hS.2.2 dX8_isCorner_23
set_option maxHeartbeats 4000000 in
set_option maxRecDepth 100000 in
theorem k_M_saidOn (l : Launch) (dC : Nat → ClassId) (dI : Nat → Nat → Nat) (cI : ClassId) (cZ : ClassId) (tt : Nat → Nat) (sd : Nat → Nat) (a_this : Nat) (a_this_s : Nat) (a_this_image : Nat) (a_this_was : Nat) (a_this_letters : Nat) (a_this_row : Nat) (a_this_refused : Nat) (a_this_numbers : Nat) (a_this_least : Nat) (a_this_stepsFrom : Nat) (a_this_most : Nat) (a_this_next : Nat) (a_this_otherSteps : Nat) (a_this_ahead : Nat) (a_this_now : Nat) (sz : Nat) (v_hasImage : Int32) (v_letterMany : Int32) (v_rowMany : Int32) (v_place : Int32) (v_seed : Int32) (g_s : Nat → Int32) (p1 : Int32) (p2 : Int32) (p3 : Int32) (r0 : Int32) (hf : f_M_saidOn g_s p1 p2 p3 = some (r0)) : Met l yX8_saidOn wsX8_saidOn ({ frames := 2, cells := 0, slots := 0, locals := 44 }) (zPre (dC, dI) vwCl [(cI, .int), (cZ, .boolean)] tt sd [.ref a_this, .int p1, .int p2, .int p3] [(a_this, .inr (8, [.ref a_this_s, .ref a_this_image, .ref a_this_was, .int v_hasImage, .ref a_this_letters, .ref a_this_row, .ref a_this_refused, .int v_letterMany, .int v_rowMany, .int v_place, .ref a_this_numbers, .ref a_this_least, .ref a_this_stepsFrom, .ref a_this_most, .ref a_this_next, .ref a_this_otherSteps, .ref a_this_ahead, .ref a_this_now, .int v_seed])), (a_this_s, .inl (cI, 39, .inl g_s))] sz) (zQi (dC, dI) vwCl [(cI, .int), (cZ, .boolean)] r0 [(a_this, .inr (8, [.ref a_this_s, .ref a_this_image, .ref a_this_was, .int v_hasImage, .ref a_this_letters, .ref a_this_row, .ref a_this_refused, .int v_letterMany, .int v_rowMany, .int v_place, .ref a_this_numbers, .ref a_this_least, .ref a_this_stepsFrom, .ref a_this_most, .ref a_this_next, .ref a_this_otherSteps, .ref a_this_ahead, .ref a_this_now, .int v_seed])), (a_this_s, .inl (cI, 39, .inl g_s))] (va_A [(a_this, .inr (8, [.ref a_this_s, .ref a_this_image, .ref a_this_was, .int v_hasImage, .ref a_this_letters, .ref a_this_row, .ref a_this_refused, .int v_letterMany, .int v_rowMany, .int v_place, .ref a_this_numbers, .ref a_this_least, .ref a_this_stepsFrom, .ref a_this_most, .ref a_this_next, .ref a_this_otherSteps, .ref a_this_ahead, .ref a_this_now, .int v_seed])), (a_this_s, .inl (cI, 39, .inl g_s))] sz)) 0 0 (va_A [(a_this, .inr (8, [.ref a_this_s, .ref a_this_image, .ref a_this_was, .int v_hasImage, .ref a_this_letters, .ref a_this_row, .ref a_this_refused, .int v_letterMany, .int v_rowMany, .int v_place, .ref a_this_numbers, .ref a_this_least, .ref a_this_stepsFrom, .ref a_this_most, .ref a_this_next, .ref a_this_otherSteps, .ref a_this_ahead, .ref a_this_now, .int v_seed])), (a_this_s, .inl (cI, 39, .inl g_s))] sz) := by
  refine Met.ofW (cc := cX8_saidOn) (maxL := 4) (ret := (some .int)) (by decide) rfl ?_
  intro p e s m args below meth c s₁ B hml hv
  obtain ⟨rfl, hsz, hP, hK, hD0, hZ⟩ := hv
  have hx := B.exec
  have hb := B.bytes
  have hr := B.returns
  have hts := atoms_spec (ws := wsX8_saidOn) B.pre
  have hown : s.vm.findClass RX8 = some m.cls := findClass_of_methodNamed B.named
  have hlocks := B.notSynchronized
  subst hsz
  have hD := hD0.self (sz := s.heap.size)
  generalize hAe : va_A [(a_this, .inr (8, [.ref a_this_s, .ref a_this_image, .ref a_this_was, .int v_hasImage, .ref a_this_letters, .ref a_this_row, .ref a_this_refused, .int v_letterMany, .int v_rowMany, .int v_place, .ref a_this_numbers, .ref a_this_least, .ref a_this_stepsFrom, .ref a_this_most, .ref a_this_next, .ref a_this_otherSteps, .ref a_this_ahead, .ref a_this_now, .int v_seed])), (a_this_s, .inl (cI, 39, .inl g_s))] s.heap.size = A at hD hZ ⊢
  have hA : ∀ q : Nat, s.heap.size ≤ q → A q := fun q h => by rw [← hAe]; exact Or.inr h
  have hS : va_S A s.heap s.heap [] := va_S.rf
  have hP : va_P (dC, dI) vwCl [(a_this, .inr (8, [.ref a_this_s, .ref a_this_image, .ref a_this_was, .int v_hasImage, .ref a_this_letters, .ref a_this_row, .ref a_this_refused, .int v_letterMany, .int v_rowMany, .int v_place, .ref a_this_numbers, .ref a_this_least, .ref a_this_stepsFrom, .ref a_this_most, .ref a_this_next, .ref a_this_otherSteps, .ref a_this_ahead, .ref a_this_now, .int v_seed])), (a_this_s, .inl (cI, 39, .inl g_s))] s.heap := hP
  have hl := lv_entry ([.ref a_this, .int p1, .int p2, .int p3]) (n := 4) (Nat.le_of_ble_eq_true rfl)
  rw [lg_entry_eq]
  generalize (lg_sl ([.ref a_this, .int p1, .int p2, .int p3]) ++ List.replicate (4 - (lg_sl ([.ref a_this, .int p1, .int p2, .int p3])).length) Slot.unset).toArray = ls at hl ⊢
  have hl : lv_has ls 4 [(0, .ref a_this), (1, .int p1), (2, .int p2), (3, .int p3)] := hl
  have he := hf
  unfold f_M_saidOn at he
  refine lv_aload_n hx hb dX8_saidOn_0 rfl (lv_at hl 0 rfl) ?_
  refine lv_iload_n hx hb dX8_saidOn_1 rfl (lv_at hl 1 rfl) ?_
  refine lv_iload_n hx hb dX8_saidOn_2 rfl (lv_at hl 2 rfl) ?_
  refine lv_iload_n hx hb dX8_saidOn_3 rfl (lv_at hl 3 rfl) ?_
  obtain ⟨r1, hf2, he⟩ := zb1_e he
  refine zc_i (wr := []) (ws' := [(a_this, .inr (8, [.ref a_this_s, .ref a_this_image, .ref a_this_was, .int v_hasImage, .ref a_this_letters, .ref a_this_row, .ref a_this_refused, .int v_letterMany, .int v_rowMany, .int v_place, .ref a_this_numbers, .ref a_this_least, .ref a_this_stepsFrom, .ref a_this_most, .ref a_this_next, .ref a_this_otherSteps, .ref a_this_ahead, .ref a_this_now, .int v_seed])), (a_this_s, .inl (cI, 39, .inl g_s))]) (va_runV (As := [.int p1, .int p2, .int p3]) (rest := []) ⟨hx, hb, hml, hown, hts⟩ (k_M_isCorner l dC dI cI cZ tt sd a_this a_this_s a_this_image a_this_was a_this_letters a_this_row a_this_refused a_this_numbers a_this_least a_this_stepsFrom a_this_most a_this_next a_this_otherSteps a_this_ahead a_this_now s.heap.size v_hasImage v_letterMany v_rowMany v_place v_seed g_s p1 p2 p3 r1 hf2) (cwV 3 hts gX8_saidOn_X8_isCorner rfl rfl rfl (by decide +kernel) ⟨Nat.le_of_ble_eq_true rfl, Nat.le_of_ble_eq_true rfl⟩) (zpV hP hD hK hS hA hZ [0, 1] rfl rfl 8 0 rfl rfl) rfl rfl hl.1 rfl (lv_room (Nat.le_of_ble_eq_true rfl)) dX8_saidOn_4 ⟨Nat.zero_le _, Nat.zero_le _⟩) hP hD hS hA [0, 1] [] [0, 1] rfl rfl rfl (by decide) rfl rfl rfl (fun H locs hP hD hS => ?_)
  refine lv_if_eq (tgt := 14) hx hb dX8_saidOn_7 (by decide) (fun c3 => ?_) (fun c3 => ?_)
  · have he := zif_t c3 he
    refine lv_aload_n hx hb dX8_saidOn_14 rfl (lv_at hl 0 rfl) ?_
    refine lv_iload_n hx hb dX8_saidOn_15 rfl (lv_at hl 1 rfl) ?_
    obtain ⟨r4, hf5, he⟩ := zb1_e he
    refine zc_i (wr := []) (ws' := [(a_this, .inr (8, [.ref a_this_s, .ref a_this_image, .ref a_this_was, .int v_hasImage, .ref a_this_letters, .ref a_this_row, .ref a_this_refused, .int v_letterMany, .int v_rowMany, .int v_place, .ref a_this_numbers, .ref a_this_least, .ref a_this_stepsFrom, .ref a_this_most, .ref a_this_next, .ref a_this_otherSteps, .ref a_this_ahead, .ref a_this_now, .int v_seed])), (a_this_s, .inl (cI, 39, .inl g_s))]) (va_runV (As := [.int p1]) (rest := []) ⟨hx, hb, hml, hown, hts⟩ (k_M_wordsOn l dC dI cI cZ tt sd a_this a_this_s a_this_image a_this_was a_this_letters a_this_row a_this_refused a_this_numbers a_this_least a_this_stepsFrom a_this_most a_this_next a_this_otherSteps a_this_ahead a_this_now H.size v_hasImage v_letterMany v_rowMany v_place v_seed g_s p1 r4 hf5) (cwV 1 hts gX8_saidOn_X8_wordsOn rfl rfl rfl (by decide +kernel) ⟨Nat.le_of_ble_eq_true rfl, Nat.le_of_ble_eq_true rfl⟩) (zpV hP hD hK hS hA hZ [0, 1] rfl rfl 8 0 rfl rfl) rfl rfl hl.1 rfl (lv_room (Nat.le_of_ble_eq_true rfl)) dX8_saidOn_16 ⟨Nat.zero_le _, Nat.zero_le _⟩) hP hD hS hA [0, 1] [] [0, 1] rfl rfl rfl (by decide) rfl rfl rfl (fun H locs hP hD hS => ?_)
    obtain ⟨rfl⟩ := zi1 he
    exact W.iret hx hb hr (fun t ht hW => ⟨⟨_, (), rfl, rfl, by rw [ht]; exact hP, va_K.moved hW.alike hK, hD⟩, hS.F ht⟩) hS.2.2 dX8_saidOn_19
  · have he := zif_f c3 he
    refine lv_iconst (v := (0 : Int32)) hx hb dX8_saidOn_10 (by decide) ?_
    refine lv_goto (tgt := 19) hx hb dX8_saidOn_11 (by decide) ?_
    obtain ⟨rfl⟩ := zi1 he
    exact W.iret hx hb hr (fun t ht hW => ⟨⟨_, (), rfl, rfl, by rw [ht]; exact hP, va_K.moved hW.alike hK, hD⟩, hS.F ht⟩) hS.2.2 dX8_saidOn_19
set_option maxHeartbeats 4000000 in
set_option maxRecDepth 100000 in
theorem k_M_letter (l : Launch) (dC : Nat → ClassId) (dI : Nat → Nat → Nat) (cI : ClassId) (cZ : ClassId) (tt : Nat → Nat) (sd : Nat → Nat) (a_this : Nat) (a_this_s : Nat) (a_this_image : Nat) (a_this_was : Nat) (a_this_letters : Nat) (a_this_row : Nat) (a_this_refused : Nat) (a_this_numbers : Nat) (a_this_least : Nat) (a_this_stepsFrom : Nat) (a_this_most : Nat) (a_this_next : Nat) (a_this_otherSteps : Nat) (a_this_ahead : Nat) (a_this_now : Nat) (sz : Nat) (v_hasImage : Int32) (v_letterMany : Int32) (v_rowMany : Int32) (v_place : Int32) (v_seed : Int32) (g_letters : Nat → Int32) (g_refused : Nat → Int32) (p1 : Int32) (r0 : Int32) (w0 : Int32) (w1 : Nat → Int32) (w2 : Nat → Int32) (hf : f_M_letter v_letterMany g_letters g_refused p1 = some (r0, w0, w1, w2)) : Met l yX8_letter wsX8_letter ({ frames := 1, cells := 0, slots := 0, locals := 21 }) (zPre (dC, dI) vwCl [(cI, .int), (cZ, .boolean)] tt sd [.ref a_this, .int p1] [(a_this, .inr (8, [.ref a_this_s, .ref a_this_image, .ref a_this_was, .int v_hasImage, .ref a_this_letters, .ref a_this_row, .ref a_this_refused, .int v_letterMany, .int v_rowMany, .int v_place, .ref a_this_numbers, .ref a_this_least, .ref a_this_stepsFrom, .ref a_this_most, .ref a_this_next, .ref a_this_otherSteps, .ref a_this_ahead, .ref a_this_now, .int v_seed])), (a_this_letters, .inl (cI, 96, .inl g_letters)), (a_this_refused, .inl (cI, 7, .inl g_refused))] sz) (zQi (dC, dI) vwCl [(cI, .int), (cZ, .boolean)] r0 [(a_this, .inr (8, [.ref a_this_s, .ref a_this_image, .ref a_this_was, .int v_hasImage, .ref a_this_letters, .ref a_this_row, .ref a_this_refused, .int w0, .int v_rowMany, .int v_place, .ref a_this_numbers, .ref a_this_least, .ref a_this_stepsFrom, .ref a_this_most, .ref a_this_next, .ref a_this_otherSteps, .ref a_this_ahead, .ref a_this_now, .int v_seed])), (a_this_letters, .inl (cI, 96, .inl w1)), (a_this_refused, .inl (cI, 7, .inl w2))] (va_A [(a_this, .inr (8, [.ref a_this_s, .ref a_this_image, .ref a_this_was, .int v_hasImage, .ref a_this_letters, .ref a_this_row, .ref a_this_refused, .int v_letterMany, .int v_rowMany, .int v_place, .ref a_this_numbers, .ref a_this_least, .ref a_this_stepsFrom, .ref a_this_most, .ref a_this_next, .ref a_this_otherSteps, .ref a_this_ahead, .ref a_this_now, .int v_seed])), (a_this_letters, .inl (cI, 96, .inl g_letters)), (a_this_refused, .inl (cI, 7, .inl g_refused))] sz)) 0 0 (va_A [(a_this, .inr (8, [.ref a_this_s, .ref a_this_image, .ref a_this_was, .int v_hasImage, .ref a_this_letters, .ref a_this_row, .ref a_this_refused, .int v_letterMany, .int v_rowMany, .int v_place, .ref a_this_numbers, .ref a_this_least, .ref a_this_stepsFrom, .ref a_this_most, .ref a_this_next, .ref a_this_otherSteps, .ref a_this_ahead, .ref a_this_now, .int v_seed])), (a_this_letters, .inl (cI, 96, .inl g_letters)), (a_this_refused, .inl (cI, 7, .inl g_refused))] sz) := by
  refine Met.ofW (cc := cX8_letter) (maxL := 2) (ret := (some .int)) (by decide) rfl ?_
  intro p e s m args below meth c s₁ B hml hv
  obtain ⟨rfl, hsz, hP, hK, hD0, hZ⟩ := hv
  have hx := B.exec
  have hb := B.bytes
  have hr := B.returns
  have hts := atoms_spec (ws := wsX8_letter) B.pre
  have hown : s.vm.findClass RX8 = some m.cls := findClass_of_methodNamed B.named
  have hlocks := B.notSynchronized
  subst hsz
  have hD := hD0.self (sz := s.heap.size)
  generalize hAe : va_A [(a_this, .inr (8, [.ref a_this_s, .ref a_this_image, .ref a_this_was, .int v_hasImage, .ref a_this_letters, .ref a_this_row, .ref a_this_refused, .int v_letterMany, .int v_rowMany, .int v_place, .ref a_this_numbers, .ref a_this_least, .ref a_this_stepsFrom, .ref a_this_most, .ref a_this_next, .ref a_this_otherSteps, .ref a_this_ahead, .ref a_this_now, .int v_seed])), (a_this_letters, .inl (cI, 96, .inl g_letters)), (a_this_refused, .inl (cI, 7, .inl g_refused))] s.heap.size = A at hD hZ ⊢
  have hA : ∀ q : Nat, s.heap.size ≤ q → A q := fun q h => by rw [← hAe]; exact Or.inr h
  have hS : va_S A s.heap s.heap [] := va_S.rf
  have hP : va_P (dC, dI) vwCl [(a_this, .inr (8, [.ref a_this_s, .ref a_this_image, .ref a_this_was, .int v_hasImage, .ref a_this_letters, .ref a_this_row, .ref a_this_refused, .int v_letterMany, .int v_rowMany, .int v_place, .ref a_this_numbers, .ref a_this_least, .ref a_this_stepsFrom, .ref a_this_most, .ref a_this_next, .ref a_this_otherSteps, .ref a_this_ahead, .ref a_this_now, .int v_seed])), (a_this_letters, .inl (cI, 96, .inl g_letters)), (a_this_refused, .inl (cI, 7, .inl g_refused))] s.heap := hP
  have hl := lv_entry ([.ref a_this, .int p1]) (n := 2) (Nat.le_of_ble_eq_true rfl)
  rw [lg_entry_eq]
  generalize (lg_sl ([.ref a_this, .int p1]) ++ List.replicate (2 - (lg_sl ([.ref a_this, .int p1])).length) Slot.unset).toArray = ls at hl ⊢
  have hl : lv_has ls 2 [(0, .ref a_this), (1, .int p1)] := hl
  have he := hf
  unfold f_M_letter at he
  refine zstart (D := (dC, dI)) (cl := vwCl) (A := A) (nL := 2) (fun WW hWW => ?_)
  refine lv_iload_n hx hb dX8_letter_0 rfl (lv_at hl 1 rfl) ?_
  refine lv_if_ge (tgt := 11) hx hb dX8_letter_1 (by decide) (fun c1 => ?_) (fun c1 => ?_)
  · have he := zif_t c1 he
    refine lv_iload_n hx hb dX8_letter_11 rfl (lv_at hl 1 rfl) ?_
    refine lv_sipush (v := (255 : Int32)) hx hb dX8_letter_12 (by decide) ?_
    refine zj1_w he (fun (_ : Unit) => WW [(a_this, .inr (8, [.ref a_this_s, .ref a_this_image, .ref a_this_was, .int v_hasImage, .ref a_this_letters, .ref a_this_row, .ref a_this_refused, .int v_letterMany, .int v_rowMany, .int v_place, .ref a_this_numbers, .ref a_this_least, .ref a_this_stepsFrom, .ref a_this_most, .ref a_this_next, .ref a_this_otherSteps, .ref a_this_ahead, .ref a_this_now, .int v_seed])), (a_this_letters, .inl (cI, 96, .inl g_letters)), (a_this_refused, .inl (cI, 7, .inl g_refused))] [(0, .ref a_this)] 27 []) (fun _ he => (hWW _ _ _ _).mpr (fun H locs ls hP hD hS hl => ?_)) (fun k5 hk5 he => ?_)
    · refine lv_aload_n hx hb dX8_letter_27 rfl (lv_at hl 0 rfl) ?_
      refine lv_bipush (v := (-6 : Int32)) hx hb dX8_letter_28 (by decide) ?_
      obtain ⟨r2, g_refused_3, hf4, he⟩ := zb2_e he
      refine zc_i (wr := [(a_this_letters, .inl (cI, 96, .inl g_letters))]) (ws' := [(a_this, .inr (8, [.ref a_this_s, .ref a_this_image, .ref a_this_was, .int v_hasImage, .ref a_this_letters, .ref a_this_row, .ref a_this_refused, .int v_letterMany, .int v_rowMany, .int v_place, .ref a_this_numbers, .ref a_this_least, .ref a_this_stepsFrom, .ref a_this_most, .ref a_this_next, .ref a_this_otherSteps, .ref a_this_ahead, .ref a_this_now, .int v_seed])), (a_this_letters, .inl (cI, 96, .inl g_letters)), (a_this_refused, .inl (cI, 7, .inl g_refused_3))]) (va_runV (As := [.int (-6 : Int32)]) (rest := []) ⟨hx, hb, hml, hown, hts⟩ (k_M_no l dC dI cI cZ tt sd a_this a_this_s a_this_image a_this_was a_this_letters a_this_row a_this_refused a_this_numbers a_this_least a_this_stepsFrom a_this_most a_this_next a_this_otherSteps a_this_ahead a_this_now H.size v_hasImage v_letterMany v_rowMany v_place v_seed g_refused (-6 : Int32) r2 g_refused_3 hf4) (cwV 1 hts gX8_letter_X8_no rfl rfl rfl (by decide +kernel) ⟨Nat.le_of_ble_eq_true rfl, Nat.le_of_ble_eq_true rfl⟩) (zpV hP hD hK hS hA hZ [0, 2] rfl rfl 8 0 rfl rfl) rfl rfl hl.1 rfl (lv_room (Nat.le_of_ble_eq_true rfl)) dX8_letter_30 ⟨Nat.zero_le _, Nat.zero_le _⟩) hP hD hS hA [0, 2] [1] [1, 0, 2] rfl rfl rfl (by decide) rfl rfl rfl (fun H locs hP hD hS => ?_)
      obtain ⟨rfl, rfl, rfl, rfl⟩ := zi4 he
      exact W.iret hx hb hr (fun t ht hW => ⟨⟨_, (), rfl, rfl, by rw [ht]; exact hP, va_K.moved hW.alike hK, hD⟩, hS.F ht⟩) hS.2.2 dX8_letter_33
    refine lv_icmp_gt (tgt := 27) hx hb dX8_letter_15 (by decide) (fun c6 => ?_) (fun c6 => ?_)
    · have he := zif_t c6 he
      exact (hWW _ _ _ _).mp (hk5 () he) _ _ _ hP hD hS (lv_sub hl [0] rfl)
    · have he := zif_f c6 he
      refine lv_aload_n hx hb dX8_letter_18 rfl (lv_at hl 0 rfl) ?_
      refine va_get (D := (dC, dI)) (ci := 8) (v := .int v_letterMany) (C := RX8) (T := TX8) (N := 19) hx hb hts (by decide +kernel) hown hK hP 0 rfl rfl 7 (by decide) (hts (.fieldLink RX8 90 "LawOfCornersModel" "letterMany" "I") (by decide +kernel)) (fun _ h9 => h9) rfl dX8_letter_19 ?_
      refine lv_bipush (v := (96 : Int32)) hx hb dX8_letter_22 (by decide) ?_
      refine lv_icmp_ne (tgt := 34) hx hb dX8_letter_24 (by decide) (fun c7 => ?_) (fun c7 => ?_)
      · have he := zif_f c7 he
        refine lv_aload_n hx hb dX8_letter_34 rfl (lv_at hl 0 rfl) ?_
        refine va_get (D := (dC, dI)) (ci := 8) (v := .ref a_this_letters) (C := RX8) (T := TX8) (N := 19) hx hb hts (by decide +kernel) hown hK hP 0 rfl rfl 4 (by decide) (hts (.fieldLink RX8 19 "LawOfCornersModel" "letters" "[I") (by decide +kernel)) (fun _ h9 => h9) rfl dX8_letter_35 ?_
        refine lv_aload_n hx hb dX8_letter_38 rfl (lv_at hl 0 rfl) ?_
        refine va_get (D := (dC, dI)) (ci := 8) (v := .int v_letterMany) (C := RX8) (T := TX8) (N := 19) hx hb hts (by decide +kernel) hown hK hP 0 rfl rfl 7 (by decide) (hts (.fieldLink RX8 90 "LawOfCornersModel" "letterMany" "I") (by decide +kernel)) (fun _ h9 => h9) rfl dX8_letter_39 ?_
        refine lv_iload_n hx hb dX8_letter_42 rfl (lv_at hl 1 rfl) ?_
        obtain ⟨hg8, he⟩ := zg_e he
        refine va_iast hx hb hK hP hD hS 1 0 rfl rfl hg8 dX8_letter_43 (fun H locs hP hD hS => ?_)
        obtain ⟨g9, eg9⟩ : ∃ y : Nat → Int32, y = upd g_letters v_letterMany.toNatClampNeg p1 := ⟨_, rfl⟩
        have he := zn_e eg9 he
        have hP : va_P (dC, dI) vwCl [(a_this, .inr (8, [.ref a_this_s, .ref a_this_image, .ref a_this_was, .int v_hasImage, .ref a_this_letters, .ref a_this_row, .ref a_this_refused, .int v_letterMany, .int v_rowMany, .int v_place, .ref a_this_numbers, .ref a_this_least, .ref a_this_stepsFrom, .ref a_this_most, .ref a_this_next, .ref a_this_otherSteps, .ref a_this_ahead, .ref a_this_now, .int v_seed])), (a_this_letters, .inl (cI, 96, .inl g9)), (a_this_refused, .inl (cI, 7, .inl g_refused))] H := by rw [eg9]; exact hP
        have hD : va_D A [(a_this, .inr (8, [.ref a_this_s, .ref a_this_image, .ref a_this_was, .int v_hasImage, .ref a_this_letters, .ref a_this_row, .ref a_this_refused, .int v_letterMany, .int v_rowMany, .int v_place, .ref a_this_numbers, .ref a_this_least, .ref a_this_stepsFrom, .ref a_this_most, .ref a_this_next, .ref a_this_otherSteps, .ref a_this_ahead, .ref a_this_now, .int v_seed])), (a_this_letters, .inl (cI, 96, .inl g9)), (a_this_refused, .inl (cI, 7, .inl g_refused))] := by rw [eg9]; exact hD
        refine lv_aload_n hx hb dX8_letter_44 rfl (lv_at hl 0 rfl) ?_
        refine lv_dup hx hb dX8_letter_45 rfl ?_
        refine va_get (D := (dC, dI)) (ci := 8) (v := .int v_letterMany) (C := RX8) (T := TX8) (N := 19) hx hb hts (by decide +kernel) hown hK hP 0 rfl rfl 7 (by decide) (hts (.fieldLink RX8 90 "LawOfCornersModel" "letterMany" "I") (by decide +kernel)) (fun _ h9 => h9) rfl dX8_letter_46 ?_
        refine lv_iconst (v := (1 : Int32)) hx hb dX8_letter_49 (by decide) ?_
        refine lv_iadd hx hb dX8_letter_50 ?_
        refine lv_topi (fun x10 ex10 => ?_)
        have he := zn_e ex10 he
        refine va_put (D := (dC, dI)) (ci := 8) (v := .int x10) (ty := .int) (C := RX8) (T := TX8) (N := 19) hx hb hts (by decide +kernel) tyX8 tyX8_ok nmX8 hown hK hP hD hS 0 rfl rfl 7 (by decide) (hts (.fieldLink RX8 90 "LawOfCornersModel" "letterMany" "I") (by decide +kernel)) (fun _ h9 => h9) rfl (by decide +kernel) rfl rfl (Nat.le_of_ble_eq_true rfl) dX8_letter_51 (fun H locs hP hD hS => ?_)
        have hP : va_P (dC, dI) vwCl [(a_this, .inr (8, [.ref a_this_s, .ref a_this_image, .ref a_this_was, .int v_hasImage, .ref a_this_letters, .ref a_this_row, .ref a_this_refused, .int x10, .int v_rowMany, .int v_place, .ref a_this_numbers, .ref a_this_least, .ref a_this_stepsFrom, .ref a_this_most, .ref a_this_next, .ref a_this_otherSteps, .ref a_this_ahead, .ref a_this_now, .int v_seed])), (a_this_letters, .inl (cI, 96, .inl g9)), (a_this_refused, .inl (cI, 7, .inl g_refused))] H := hP
        have hD : va_D A [(a_this, .inr (8, [.ref a_this_s, .ref a_this_image, .ref a_this_was, .int v_hasImage, .ref a_this_letters, .ref a_this_row, .ref a_this_refused, .int x10, .int v_rowMany, .int v_place, .ref a_this_numbers, .ref a_this_least, .ref a_this_stepsFrom, .ref a_this_most, .ref a_this_next, .ref a_this_otherSteps, .ref a_this_ahead, .ref a_this_now, .int v_seed])), (a_this_letters, .inl (cI, 96, .inl g9)), (a_this_refused, .inl (cI, 7, .inl g_refused))] := hD
        refine lv_aload_n hx hb dX8_letter_54 rfl (lv_at hl 0 rfl) ?_
        refine va_get (D := (dC, dI)) (ci := 8) (v := .int x10) (C := RX8) (T := TX8) (N := 19) hx hb hts (by decide +kernel) hown hK hP 0 rfl rfl 7 (by decide) (hts (.fieldLink RX8 90 "LawOfCornersModel" "letterMany" "I") (by decide +kernel)) (fun _ h9 => h9) rfl dX8_letter_55 ?_
        obtain ⟨rfl, rfl, rfl, rfl⟩ := zi4 he
        exact W.iret hx hb hr (fun t ht hW => ⟨⟨_, (), rfl, rfl, by rw [ht]; exact hP, va_K.moved hW.alike hK, hD⟩, hS.F ht⟩) hS.2.2 dX8_letter_58
      · have he := zif_t c7 he
        exact (hWW _ _ _ _).mp (hk5 () he) _ _ _ hP hD hS (lv_sub hl [0] rfl)
  · have he := zif_f c1 he
    refine lv_aload_n hx hb dX8_letter_4 rfl (lv_at hl 0 rfl) ?_
    refine lv_bipush (v := (-4 : Int32)) hx hb dX8_letter_5 (by decide) ?_
    obtain ⟨r11, g_refused_12, hf13, he⟩ := zb2_e he
    refine zc_i (wr := [(a_this_letters, .inl (cI, 96, .inl g_letters))]) (ws' := [(a_this, .inr (8, [.ref a_this_s, .ref a_this_image, .ref a_this_was, .int v_hasImage, .ref a_this_letters, .ref a_this_row, .ref a_this_refused, .int v_letterMany, .int v_rowMany, .int v_place, .ref a_this_numbers, .ref a_this_least, .ref a_this_stepsFrom, .ref a_this_most, .ref a_this_next, .ref a_this_otherSteps, .ref a_this_ahead, .ref a_this_now, .int v_seed])), (a_this_letters, .inl (cI, 96, .inl g_letters)), (a_this_refused, .inl (cI, 7, .inl g_refused_12))]) (va_runV (As := [.int (-4 : Int32)]) (rest := []) ⟨hx, hb, hml, hown, hts⟩ (k_M_no l dC dI cI cZ tt sd a_this a_this_s a_this_image a_this_was a_this_letters a_this_row a_this_refused a_this_numbers a_this_least a_this_stepsFrom a_this_most a_this_next a_this_otherSteps a_this_ahead a_this_now s.heap.size v_hasImage v_letterMany v_rowMany v_place v_seed g_refused (-4 : Int32) r11 g_refused_12 hf13) (cwV 1 hts gX8_letter_X8_no rfl rfl rfl (by decide +kernel) ⟨Nat.le_of_ble_eq_true rfl, Nat.le_of_ble_eq_true rfl⟩) (zpV hP hD hK hS hA hZ [0, 2] rfl rfl 8 0 rfl rfl) rfl rfl hl.1 rfl (lv_room (Nat.le_of_ble_eq_true rfl)) dX8_letter_7 ⟨Nat.zero_le _, Nat.zero_le _⟩) hP hD hS hA [0, 2] [1] [1, 0, 2] rfl rfl rfl (by decide) rfl rfl rfl (fun H locs hP hD hS => ?_)
    obtain ⟨rfl, rfl, rfl, rfl⟩ := zi4 he
    exact W.iret hx hb hr (fun t ht hW => ⟨⟨_, (), rfl, rfl, by rw [ht]; exact hP, va_K.moved hW.alike hK, hD⟩, hS.F ht⟩) hS.2.2 dX8_letter_10
set_option maxHeartbeats 4000000 in
set_option maxRecDepth 100000 in
theorem k_M_here (l : Launch) (dC : Nat → ClassId) (dI : Nat → Nat → Nat) (cI : ClassId) (cZ : ClassId) (tt : Nat → Nat) (sd : Nat → Nat) (a_this : Nat) (a_this_s : Nat) (a_this_image : Nat) (a_this_was : Nat) (a_this_letters : Nat) (a_this_row : Nat) (a_this_refused : Nat) (a_this_numbers : Nat) (a_this_least : Nat) (a_this_stepsFrom : Nat) (a_this_most : Nat) (a_this_next : Nat) (a_this_otherSteps : Nat) (a_this_ahead : Nat) (a_this_now : Nat) (sz : Nat) (v_hasImage : Int32) (v_letterMany : Int32) (v_rowMany : Int32) (v_place : Int32) (v_seed : Int32) (g_letters : Nat → Int32) (r0 : Int32) (hf : f_M_here v_letterMany v_place g_letters = some (r0)) : Met l yX8_here wsX8_here ({ frames := 0, cells := 0, slots := 0, locals := 0 }) (zPre (dC, dI) vwCl [(cI, .int), (cZ, .boolean)] tt sd [.ref a_this] [(a_this, .inr (8, [.ref a_this_s, .ref a_this_image, .ref a_this_was, .int v_hasImage, .ref a_this_letters, .ref a_this_row, .ref a_this_refused, .int v_letterMany, .int v_rowMany, .int v_place, .ref a_this_numbers, .ref a_this_least, .ref a_this_stepsFrom, .ref a_this_most, .ref a_this_next, .ref a_this_otherSteps, .ref a_this_ahead, .ref a_this_now, .int v_seed])), (a_this_letters, .inl (cI, 96, .inl g_letters))] sz) (zQi (dC, dI) vwCl [(cI, .int), (cZ, .boolean)] r0 [(a_this, .inr (8, [.ref a_this_s, .ref a_this_image, .ref a_this_was, .int v_hasImage, .ref a_this_letters, .ref a_this_row, .ref a_this_refused, .int v_letterMany, .int v_rowMany, .int v_place, .ref a_this_numbers, .ref a_this_least, .ref a_this_stepsFrom, .ref a_this_most, .ref a_this_next, .ref a_this_otherSteps, .ref a_this_ahead, .ref a_this_now, .int v_seed])), (a_this_letters, .inl (cI, 96, .inl g_letters))] (va_A [(a_this, .inr (8, [.ref a_this_s, .ref a_this_image, .ref a_this_was, .int v_hasImage, .ref a_this_letters, .ref a_this_row, .ref a_this_refused, .int v_letterMany, .int v_rowMany, .int v_place, .ref a_this_numbers, .ref a_this_least, .ref a_this_stepsFrom, .ref a_this_most, .ref a_this_next, .ref a_this_otherSteps, .ref a_this_ahead, .ref a_this_now, .int v_seed])), (a_this_letters, .inl (cI, 96, .inl g_letters))] sz)) 0 0 (va_A [(a_this, .inr (8, [.ref a_this_s, .ref a_this_image, .ref a_this_was, .int v_hasImage, .ref a_this_letters, .ref a_this_row, .ref a_this_refused, .int v_letterMany, .int v_rowMany, .int v_place, .ref a_this_numbers, .ref a_this_least, .ref a_this_stepsFrom, .ref a_this_most, .ref a_this_next, .ref a_this_otherSteps, .ref a_this_ahead, .ref a_this_now, .int v_seed])), (a_this_letters, .inl (cI, 96, .inl g_letters))] sz) := by
  refine Met.ofW (cc := cX8_here) (maxL := 1) (ret := (some .int)) (by decide) rfl ?_
  intro p e s m args below meth c s₁ B hml hv
  obtain ⟨rfl, hsz, hP, hK, hD0, hZ⟩ := hv
  have hx := B.exec
  have hb := B.bytes
  have hr := B.returns
  have hts := atoms_spec (ws := wsX8_here) B.pre
  have hown : s.vm.findClass RX8 = some m.cls := findClass_of_methodNamed B.named
  have hlocks := B.notSynchronized
  subst hsz
  have hD := hD0.self (sz := s.heap.size)
  generalize hAe : va_A [(a_this, .inr (8, [.ref a_this_s, .ref a_this_image, .ref a_this_was, .int v_hasImage, .ref a_this_letters, .ref a_this_row, .ref a_this_refused, .int v_letterMany, .int v_rowMany, .int v_place, .ref a_this_numbers, .ref a_this_least, .ref a_this_stepsFrom, .ref a_this_most, .ref a_this_next, .ref a_this_otherSteps, .ref a_this_ahead, .ref a_this_now, .int v_seed])), (a_this_letters, .inl (cI, 96, .inl g_letters))] s.heap.size = A at hD hZ ⊢
  have hA : ∀ q : Nat, s.heap.size ≤ q → A q := fun q h => by rw [← hAe]; exact Or.inr h
  have hS : va_S A s.heap s.heap [] := va_S.rf
  have hP : va_P (dC, dI) vwCl [(a_this, .inr (8, [.ref a_this_s, .ref a_this_image, .ref a_this_was, .int v_hasImage, .ref a_this_letters, .ref a_this_row, .ref a_this_refused, .int v_letterMany, .int v_rowMany, .int v_place, .ref a_this_numbers, .ref a_this_least, .ref a_this_stepsFrom, .ref a_this_most, .ref a_this_next, .ref a_this_otherSteps, .ref a_this_ahead, .ref a_this_now, .int v_seed])), (a_this_letters, .inl (cI, 96, .inl g_letters))] s.heap := hP
  have hl := lv_entry ([.ref a_this]) (n := 1) (Nat.le_of_ble_eq_true rfl)
  rw [lg_entry_eq]
  generalize (lg_sl ([.ref a_this]) ++ List.replicate (1 - (lg_sl ([.ref a_this])).length) Slot.unset).toArray = ls at hl ⊢
  have hl : lv_has ls 1 [(0, .ref a_this)] := hl
  have he := hf
  unfold f_M_here at he
  refine lv_aload_n hx hb dX8_here_0 rfl (lv_at hl 0 rfl) ?_
  refine va_get (D := (dC, dI)) (ci := 8) (v := .int v_place) (C := RX8) (T := TX8) (N := 19) hx hb hts (by decide +kernel) hown hK hP 0 rfl rfl 9 (by decide) (hts (.fieldLink RX8 94 "LawOfCornersModel" "place" "I") (by decide +kernel)) (fun _ h9 => h9) rfl dX8_here_1 ?_
  refine lv_aload_n hx hb dX8_here_4 rfl (lv_at hl 0 rfl) ?_
  refine va_get (D := (dC, dI)) (ci := 8) (v := .int v_letterMany) (C := RX8) (T := TX8) (N := 19) hx hb hts (by decide +kernel) hown hK hP 0 rfl rfl 7 (by decide) (hts (.fieldLink RX8 90 "LawOfCornersModel" "letterMany" "I") (by decide +kernel)) (fun _ h9 => h9) rfl dX8_here_5 ?_
  refine lv_icmp_ge (tgt := 23) hx hb dX8_here_8 (by decide) (fun c1 => ?_) (fun c1 => ?_)
  · have he := zif_t c1 he
    refine lv_iconst (v := (-1 : Int32)) hx hb dX8_here_23 (by decide) ?_
    obtain ⟨rfl⟩ := zi1 he
    exact W.iret hx hb hr (fun t ht hW => ⟨⟨_, (), rfl, rfl, by rw [ht]; exact hP, va_K.moved hW.alike hK, hD⟩, hS.F ht⟩) hS.2.2 dX8_here_24
  · have he := zif_f c1 he
    refine lv_aload_n hx hb dX8_here_11 rfl (lv_at hl 0 rfl) ?_
    refine va_get (D := (dC, dI)) (ci := 8) (v := .ref a_this_letters) (C := RX8) (T := TX8) (N := 19) hx hb hts (by decide +kernel) hown hK hP 0 rfl rfl 4 (by decide) (hts (.fieldLink RX8 19 "LawOfCornersModel" "letters" "[I") (by decide +kernel)) (fun _ h9 => h9) rfl dX8_here_12 ?_
    refine lv_aload_n hx hb dX8_here_15 rfl (lv_at hl 0 rfl) ?_
    refine va_get (D := (dC, dI)) (ci := 8) (v := .int v_place) (C := RX8) (T := TX8) (N := 19) hx hb hts (by decide +kernel) hown hK hP 0 rfl rfl 9 (by decide) (hts (.fieldLink RX8 94 "LawOfCornersModel" "place" "I") (by decide +kernel)) (fun _ h9 => h9) rfl dX8_here_16 ?_
    obtain ⟨hg2, he⟩ := zg_e he
    refine va_iald hx hb hK hP 1 0 rfl rfl hg2 dX8_here_19 ?_
    refine lv_goto (tgt := 24) hx hb dX8_here_20 (by decide) ?_
    obtain ⟨rfl⟩ := zi1 he
    exact W.iret hx hb hr (fun t ht hW => ⟨⟨_, (), rfl, rfl, by rw [ht]; exact hP, va_K.moved hW.alike hK, hD⟩, hS.F ht⟩) hS.2.2 dX8_here_24
set_option maxHeartbeats 4000000 in
set_option maxRecDepth 100000 in
theorem k_M_readsNumber (l : Launch) (dC : Nat → ClassId) (dI : Nat → Nat → Nat) (cI : ClassId) (cZ : ClassId) (tt : Nat → Nat) (sd : Nat → Nat) (a_this : Nat) (a_this_s : Nat) (a_this_image : Nat) (a_this_was : Nat) (a_this_letters : Nat) (a_this_row : Nat) (a_this_refused : Nat) (a_this_numbers : Nat) (a_this_least : Nat) (a_this_stepsFrom : Nat) (a_this_most : Nat) (a_this_next : Nat) (a_this_otherSteps : Nat) (a_this_ahead : Nat) (a_this_now : Nat) (sz : Nat) (v_hasImage : Int32) (v_letterMany : Int32) (v_rowMany : Int32) (v_place : Int32) (v_seed : Int32) (g_letters : Nat → Int32) (g_numbers : Nat → Int32) (p1 : Int32) (p2 : Int32) (r0 : Int32) (w0 : Int32) (w1 : Nat → Int32) (hf : f_M_readsNumber v_letterMany v_place g_letters g_numbers p1 p2 = some (r0, w0, w1)) : Met l yX8_readsNumber wsX8_readsNumber ({ frames := 1, cells := 0, slots := 0, locals := 22 }) (zPre (dC, dI) vwCl [(cI, .int), (cZ, .boolean)] tt sd [.ref a_this, .int p1, .int p2] [(a_this, .inr (8, [.ref a_this_s, .ref a_this_image, .ref a_this_was, .int v_hasImage, .ref a_this_letters, .ref a_this_row, .ref a_this_refused, .int v_letterMany, .int v_rowMany, .int v_place, .ref a_this_numbers, .ref a_this_least, .ref a_this_stepsFrom, .ref a_this_most, .ref a_this_next, .ref a_this_otherSteps, .ref a_this_ahead, .ref a_this_now, .int v_seed])), (a_this_letters, .inl (cI, 96, .inl g_letters)), (a_this_numbers, .inl (cI, 3, .inl g_numbers))] sz) (zQi (dC, dI) vwCl [(cI, .int), (cZ, .boolean)] r0 [(a_this, .inr (8, [.ref a_this_s, .ref a_this_image, .ref a_this_was, .int v_hasImage, .ref a_this_letters, .ref a_this_row, .ref a_this_refused, .int v_letterMany, .int v_rowMany, .int w0, .ref a_this_numbers, .ref a_this_least, .ref a_this_stepsFrom, .ref a_this_most, .ref a_this_next, .ref a_this_otherSteps, .ref a_this_ahead, .ref a_this_now, .int v_seed])), (a_this_letters, .inl (cI, 96, .inl g_letters)), (a_this_numbers, .inl (cI, 3, .inl w1))] (va_A [(a_this, .inr (8, [.ref a_this_s, .ref a_this_image, .ref a_this_was, .int v_hasImage, .ref a_this_letters, .ref a_this_row, .ref a_this_refused, .int v_letterMany, .int v_rowMany, .int v_place, .ref a_this_numbers, .ref a_this_least, .ref a_this_stepsFrom, .ref a_this_most, .ref a_this_next, .ref a_this_otherSteps, .ref a_this_ahead, .ref a_this_now, .int v_seed])), (a_this_letters, .inl (cI, 96, .inl g_letters)), (a_this_numbers, .inl (cI, 3, .inl g_numbers))] sz)) 0 0 (va_A [(a_this, .inr (8, [.ref a_this_s, .ref a_this_image, .ref a_this_was, .int v_hasImage, .ref a_this_letters, .ref a_this_row, .ref a_this_refused, .int v_letterMany, .int v_rowMany, .int v_place, .ref a_this_numbers, .ref a_this_least, .ref a_this_stepsFrom, .ref a_this_most, .ref a_this_next, .ref a_this_otherSteps, .ref a_this_ahead, .ref a_this_now, .int v_seed])), (a_this_letters, .inl (cI, 96, .inl g_letters)), (a_this_numbers, .inl (cI, 3, .inl g_numbers))] sz) := by
  refine Met.ofW (cc := cX8_readsNumber) (maxL := 4) (ret := (some .boolean)) (by decide) rfl ?_
  intro p e s m args below meth c s₁ B hml hv
  obtain ⟨rfl, hsz, hP, hK, hD0, hZ⟩ := hv
  have hx := B.exec
  have hb := B.bytes
  have hr := B.returns
  have hts := atoms_spec (ws := wsX8_readsNumber) B.pre
  have hown : s.vm.findClass RX8 = some m.cls := findClass_of_methodNamed B.named
  have hlocks := B.notSynchronized
  subst hsz
  have hD := hD0.self (sz := s.heap.size)
  generalize hAe : va_A [(a_this, .inr (8, [.ref a_this_s, .ref a_this_image, .ref a_this_was, .int v_hasImage, .ref a_this_letters, .ref a_this_row, .ref a_this_refused, .int v_letterMany, .int v_rowMany, .int v_place, .ref a_this_numbers, .ref a_this_least, .ref a_this_stepsFrom, .ref a_this_most, .ref a_this_next, .ref a_this_otherSteps, .ref a_this_ahead, .ref a_this_now, .int v_seed])), (a_this_letters, .inl (cI, 96, .inl g_letters)), (a_this_numbers, .inl (cI, 3, .inl g_numbers))] s.heap.size = A at hD hZ ⊢
  have hA : ∀ q : Nat, s.heap.size ≤ q → A q := fun q h => by rw [← hAe]; exact Or.inr h
  have hS : va_S A s.heap s.heap [] := va_S.rf
  have hP : va_P (dC, dI) vwCl [(a_this, .inr (8, [.ref a_this_s, .ref a_this_image, .ref a_this_was, .int v_hasImage, .ref a_this_letters, .ref a_this_row, .ref a_this_refused, .int v_letterMany, .int v_rowMany, .int v_place, .ref a_this_numbers, .ref a_this_least, .ref a_this_stepsFrom, .ref a_this_most, .ref a_this_next, .ref a_this_otherSteps, .ref a_this_ahead, .ref a_this_now, .int v_seed])), (a_this_letters, .inl (cI, 96, .inl g_letters)), (a_this_numbers, .inl (cI, 3, .inl g_numbers))] s.heap := hP
  have hl := lv_entry ([.ref a_this, .int p1, .int p2]) (n := 4) (Nat.le_of_ble_eq_true rfl)
  rw [lg_entry_eq]
  generalize (lg_sl ([.ref a_this, .int p1, .int p2]) ++ List.replicate (4 - (lg_sl ([.ref a_this, .int p1, .int p2])).length) Slot.unset).toArray = ls at hl ⊢
  have hl : lv_has ls 4 [(0, .ref a_this), (1, .int p1), (2, .int p2)] := hl
  have he := hf
  unfold f_M_readsNumber at he
  refine zstart (D := (dC, dI)) (cl := vwCl) (A := A) (nL := 4) (fun WW hWW => ?_)
  refine lv_aload_n hx hb dX8_readsNumber_0 rfl (lv_at hl 0 rfl) ?_
  refine va_get (D := (dC, dI)) (ci := 8) (v := .ref a_this_numbers) (C := RX8) (T := TX8) (N := 19) hx hb hts (by decide +kernel) hown hK hP 0 rfl rfl 10 (by decide) (hts (.fieldLink RX8 28 "LawOfCornersModel" "numbers" "[I") (by decide +kernel)) (fun _ h9 => h9) rfl dX8_readsNumber_1 ?_
  refine lv_iload_n hx hb dX8_readsNumber_4 rfl (lv_at hl 1 rfl) ?_
  refine lv_iconst (v := (0 : Int32)) hx hb dX8_readsNumber_5 (by decide) ?_
  obtain ⟨hg1, he⟩ := zg_e he
  refine va_iast hx hb hK hP hD hS 2 0 rfl rfl hg1 dX8_readsNumber_6 (fun H locs hP hD hS => ?_)
  obtain ⟨g2, eg2⟩ : ∃ y : Nat → Int32, y = upd g_numbers p1.toNatClampNeg (0 : Int32) := ⟨_, rfl⟩
  have he := zn_e eg2 he
  have hP : va_P (dC, dI) vwCl [(a_this, .inr (8, [.ref a_this_s, .ref a_this_image, .ref a_this_was, .int v_hasImage, .ref a_this_letters, .ref a_this_row, .ref a_this_refused, .int v_letterMany, .int v_rowMany, .int v_place, .ref a_this_numbers, .ref a_this_least, .ref a_this_stepsFrom, .ref a_this_most, .ref a_this_next, .ref a_this_otherSteps, .ref a_this_ahead, .ref a_this_now, .int v_seed])), (a_this_letters, .inl (cI, 96, .inl g_letters)), (a_this_numbers, .inl (cI, 3, .inl g2))] H := by rw [eg2]; exact hP
  have hD : va_D A [(a_this, .inr (8, [.ref a_this_s, .ref a_this_image, .ref a_this_was, .int v_hasImage, .ref a_this_letters, .ref a_this_row, .ref a_this_refused, .int v_letterMany, .int v_rowMany, .int v_place, .ref a_this_numbers, .ref a_this_least, .ref a_this_stepsFrom, .ref a_this_most, .ref a_this_next, .ref a_this_otherSteps, .ref a_this_ahead, .ref a_this_now, .int v_seed])), (a_this_letters, .inl (cI, 96, .inl g_letters)), (a_this_numbers, .inl (cI, 3, .inl g2))] := by rw [eg2]; exact hD
  refine lv_iconst (v := (0 : Int32)) hx hb dX8_readsNumber_7 (by decide) ?_
  refine lv_istore_n (lv' := [(3, .int (0 : Int32)), (0, .ref a_this), (1, .int p1), (2, .int p2)]) hx hb dX8_readsNumber_8 rfl hl (by decide) rfl (fun ls hl => ?_)
  refine (hWW _ _ _ _).mp (zl3_w he (fun (l3_3 : Int32) (v_place_4 : Int32) (g_numbers_5 : Nat → Int32) => WW [(a_this, .inr (8, [.ref a_this_s, .ref a_this_image, .ref a_this_was, .int v_hasImage, .ref a_this_letters, .ref a_this_row, .ref a_this_refused, .int v_letterMany, .int v_rowMany, .int v_place_4, .ref a_this_numbers, .ref a_this_least, .ref a_this_stepsFrom, .ref a_this_most, .ref a_this_next, .ref a_this_otherSteps, .ref a_this_ahead, .ref a_this_now, .int v_seed])), (a_this_letters, .inl (cI, 96, .inl g_letters)), (a_this_numbers, .inl (cI, 3, .inl g_numbers_5))] [(0, .ref a_this), (1, .int p1), (2, .int p2), (3, .int l3_3)] 9 []) (fun l3_3 v_place_4 g_numbers_5 again6 hagain6 he => (hWW _ _ _ _).mpr (fun H locs ls hP hD hS hl => ?_))) _ _ _ hP hD hS (lv_sub hl [1, 2, 3, 0] rfl)
  refine lv_iload_n hx hb dX8_readsNumber_9 rfl (lv_at hl 3 rfl) ?_
  refine lv_iload_n hx hb dX8_readsNumber_10 rfl (lv_at hl 2 rfl) ?_
  refine lv_icmp_ge (tgt := 69) hx hb dX8_readsNumber_11 (by decide) (fun c7 => ?_) (fun c7 => ?_)
  · have he := zif_t c7 he
    refine lv_iconst (v := (1 : Int32)) hx hb dX8_readsNumber_69 (by decide) ?_
    obtain ⟨rfl, rfl, rfl⟩ := zi3 he
    exact W.zret hx hb hr rfl (fun t ht hW => ⟨⟨_, (), rfl, rfl, by rw [ht]; exact hP, va_K.moved hW.alike hK, hD⟩, hS.F ht⟩) hS.2.2 dX8_readsNumber_70
  · have he := zif_f c7 he
    refine lv_aload_n hx hb dX8_readsNumber_14 rfl (lv_at hl 0 rfl) ?_
    obtain ⟨r8, hf9, he⟩ := zb1_e he
    refine zc_i (wr := [(a_this_numbers, .inl (cI, 3, .inl g_numbers_5))]) (ws' := [(a_this, .inr (8, [.ref a_this_s, .ref a_this_image, .ref a_this_was, .int v_hasImage, .ref a_this_letters, .ref a_this_row, .ref a_this_refused, .int v_letterMany, .int v_rowMany, .int v_place_4, .ref a_this_numbers, .ref a_this_least, .ref a_this_stepsFrom, .ref a_this_most, .ref a_this_next, .ref a_this_otherSteps, .ref a_this_ahead, .ref a_this_now, .int v_seed])), (a_this_letters, .inl (cI, 96, .inl g_letters)), (a_this_numbers, .inl (cI, 3, .inl g_numbers_5))]) (va_runV (As := []) (rest := []) ⟨hx, hb, hml, hown, hts⟩ (k_M_here l dC dI cI cZ tt sd a_this a_this_s a_this_image a_this_was a_this_letters a_this_row a_this_refused a_this_numbers a_this_least a_this_stepsFrom a_this_most a_this_next a_this_otherSteps a_this_ahead a_this_now H.size v_hasImage v_letterMany v_rowMany v_place_4 v_seed g_letters r8 hf9) (cwV 0 hts gX8_readsNumber_X8_here rfl rfl rfl (by decide +kernel) ⟨Nat.le_of_ble_eq_true rfl, Nat.le_of_ble_eq_true rfl⟩) (zpV hP hD hK hS hA hZ [0, 1] rfl rfl 8 0 rfl rfl) rfl rfl hl.1 rfl (lv_room (Nat.le_of_ble_eq_true rfl)) dX8_readsNumber_15 ⟨Nat.zero_le _, Nat.zero_le _⟩) hP hD hS hA [0, 1] [2] [1, 2, 0] rfl rfl rfl (by decide) rfl rfl rfl (fun H locs hP hD hS => ?_)
    refine lv_bipush (v := (48 : Int32)) hx hb dX8_readsNumber_18 (by decide) ?_
    refine lv_bipush (v := (57 : Int32)) hx hb dX8_readsNumber_20 (by decide) ?_
    obtain ⟨r10, hf11, he⟩ := zb1_e he
    refine zc_i (wr := [(a_this, .inr (8, [.ref a_this_s, .ref a_this_image, .ref a_this_was, .int v_hasImage, .ref a_this_letters, .ref a_this_row, .ref a_this_refused, .int v_letterMany, .int v_rowMany, .int v_place_4, .ref a_this_numbers, .ref a_this_least, .ref a_this_stepsFrom, .ref a_this_most, .ref a_this_next, .ref a_this_otherSteps, .ref a_this_ahead, .ref a_this_now, .int v_seed])), (a_this_letters, .inl (cI, 96, .inl g_letters)), (a_this_numbers, .inl (cI, 3, .inl g_numbers_5))]) (ws' := [(a_this, .inr (8, [.ref a_this_s, .ref a_this_image, .ref a_this_was, .int v_hasImage, .ref a_this_letters, .ref a_this_row, .ref a_this_refused, .int v_letterMany, .int v_rowMany, .int v_place_4, .ref a_this_numbers, .ref a_this_least, .ref a_this_stepsFrom, .ref a_this_most, .ref a_this_next, .ref a_this_otherSteps, .ref a_this_ahead, .ref a_this_now, .int v_seed])), (a_this_letters, .inl (cI, 96, .inl g_letters)), (a_this_numbers, .inl (cI, 3, .inl g_numbers_5))]) (va_runS (As := [.int r8, .int (48 : Int32), .int (57 : Int32)]) (rest := []) ⟨hx, hb, hml, hown, hts⟩ (k_M_isIn l dC dI cI cZ tt sd H.size r8 (48 : Int32) (57 : Int32) r10 hf11) (va_cwS 3 hts gX8_readsNumber_X8_isIn rfl rfl rfl (by decide +kernel) ⟨Nat.le_of_ble_eq_true rfl, Nat.le_of_ble_eq_true rfl⟩) (zpS hP hD hK hS hA hZ [] rfl rfl) rfl rfl hl.1 rfl (lv_room (Nat.le_of_ble_eq_true rfl)) dX8_readsNumber_22 ⟨Nat.zero_le _, Nat.zero_le _⟩) hP hD hS hA [] [0, 1, 2] [0, 1, 2] rfl rfl rfl (by decide) rfl rfl rfl (fun H locs hP hD hS => ?_)
    refine lv_if_ne (tgt := 30) hx hb dX8_readsNumber_25 (by decide) (fun c12 => ?_) (fun c12 => ?_)
    · have he := zif_f c12 he
      refine lv_aload_n hx hb dX8_readsNumber_30 rfl (lv_at hl 0 rfl) ?_
      refine va_get (D := (dC, dI)) (ci := 8) (v := .ref a_this_numbers) (C := RX8) (T := TX8) (N := 19) hx hb hts (by decide +kernel) hown hK hP 0 rfl rfl 10 (by decide) (hts (.fieldLink RX8 28 "LawOfCornersModel" "numbers" "[I") (by decide +kernel)) (fun _ h9 => h9) rfl dX8_readsNumber_31 ?_
      refine lv_iload_n hx hb dX8_readsNumber_34 rfl (lv_at hl 1 rfl) ?_
      refine lv_bipush (v := (10 : Int32)) hx hb dX8_readsNumber_35 (by decide) ?_
      refine lv_aload_n hx hb dX8_readsNumber_37 rfl (lv_at hl 0 rfl) ?_
      refine va_get (D := (dC, dI)) (ci := 8) (v := .ref a_this_numbers) (C := RX8) (T := TX8) (N := 19) hx hb hts (by decide +kernel) hown hK hP 0 rfl rfl 10 (by decide) (hts (.fieldLink RX8 28 "LawOfCornersModel" "numbers" "[I") (by decide +kernel)) (fun _ h9 => h9) rfl dX8_readsNumber_38 ?_
      refine lv_iload_n hx hb dX8_readsNumber_41 rfl (lv_at hl 1 rfl) ?_
      obtain ⟨hg13, he⟩ := zg_e he
      refine va_iald hx hb hK hP 2 0 rfl rfl hg13 dX8_readsNumber_42 ?_
      refine lv_imul hx hb dX8_readsNumber_43 ?_
      refine lv_aload_n hx hb dX8_readsNumber_44 rfl (lv_at hl 0 rfl) ?_
      obtain ⟨r14, hf15, he⟩ := zb1_e he
      refine zc_i (wr := [(a_this_numbers, .inl (cI, 3, .inl g_numbers_5))]) (ws' := [(a_this, .inr (8, [.ref a_this_s, .ref a_this_image, .ref a_this_was, .int v_hasImage, .ref a_this_letters, .ref a_this_row, .ref a_this_refused, .int v_letterMany, .int v_rowMany, .int v_place_4, .ref a_this_numbers, .ref a_this_least, .ref a_this_stepsFrom, .ref a_this_most, .ref a_this_next, .ref a_this_otherSteps, .ref a_this_ahead, .ref a_this_now, .int v_seed])), (a_this_letters, .inl (cI, 96, .inl g_letters)), (a_this_numbers, .inl (cI, 3, .inl g_numbers_5))]) (va_runV (As := []) (rest := [.int ((10 : Int32) * (g_numbers_5 p1.toNatClampNeg)), .int p1, .ref a_this_numbers]) ⟨hx, hb, hml, hown, hts⟩ (k_M_here l dC dI cI cZ tt sd a_this a_this_s a_this_image a_this_was a_this_letters a_this_row a_this_refused a_this_numbers a_this_least a_this_stepsFrom a_this_most a_this_next a_this_otherSteps a_this_ahead a_this_now H.size v_hasImage v_letterMany v_rowMany v_place_4 v_seed g_letters r14 hf15) (cwV 0 hts gX8_readsNumber_X8_here rfl rfl rfl (by decide +kernel) ⟨Nat.le_of_ble_eq_true rfl, Nat.le_of_ble_eq_true rfl⟩) (zpV hP hD hK hS hA hZ [0, 1] rfl rfl 8 0 rfl rfl) rfl rfl hl.1 rfl (lv_room (Nat.le_of_ble_eq_true rfl)) dX8_readsNumber_45 ⟨Nat.zero_le _, Nat.zero_le _⟩) hP hD hS hA [0, 1] [2] [1, 2, 0] rfl rfl rfl (by decide) rfl rfl rfl (fun H locs hP hD hS => ?_)
      refine lv_iadd hx hb dX8_readsNumber_48 ?_
      refine lv_bipush (v := (48 : Int32)) hx hb dX8_readsNumber_49 (by decide) ?_
      refine lv_isub hx hb dX8_readsNumber_51 ?_
      refine lv_topi (fun x16 ex16 => ?_)
      have he := zn_e ex16 he
      obtain ⟨hg17, he⟩ := zg_e he
      refine va_iast hx hb hK hP hD hS 2 0 rfl rfl hg17 dX8_readsNumber_52 (fun H locs hP hD hS => ?_)
      obtain ⟨g18, eg18⟩ : ∃ y : Nat → Int32, y = upd g_numbers_5 p1.toNatClampNeg x16 := ⟨_, rfl⟩
      have he := zn_e eg18 he
      have hP : va_P (dC, dI) vwCl [(a_this, .inr (8, [.ref a_this_s, .ref a_this_image, .ref a_this_was, .int v_hasImage, .ref a_this_letters, .ref a_this_row, .ref a_this_refused, .int v_letterMany, .int v_rowMany, .int v_place_4, .ref a_this_numbers, .ref a_this_least, .ref a_this_stepsFrom, .ref a_this_most, .ref a_this_next, .ref a_this_otherSteps, .ref a_this_ahead, .ref a_this_now, .int v_seed])), (a_this_letters, .inl (cI, 96, .inl g_letters)), (a_this_numbers, .inl (cI, 3, .inl g18))] H := by rw [eg18]; exact hP
      have hD : va_D A [(a_this, .inr (8, [.ref a_this_s, .ref a_this_image, .ref a_this_was, .int v_hasImage, .ref a_this_letters, .ref a_this_row, .ref a_this_refused, .int v_letterMany, .int v_rowMany, .int v_place_4, .ref a_this_numbers, .ref a_this_least, .ref a_this_stepsFrom, .ref a_this_most, .ref a_this_next, .ref a_this_otherSteps, .ref a_this_ahead, .ref a_this_now, .int v_seed])), (a_this_letters, .inl (cI, 96, .inl g_letters)), (a_this_numbers, .inl (cI, 3, .inl g18))] := by rw [eg18]; exact hD
      refine lv_aload_n hx hb dX8_readsNumber_53 rfl (lv_at hl 0 rfl) ?_
      refine lv_dup hx hb dX8_readsNumber_54 rfl ?_
      refine va_get (D := (dC, dI)) (ci := 8) (v := .int v_place_4) (C := RX8) (T := TX8) (N := 19) hx hb hts (by decide +kernel) hown hK hP 0 rfl rfl 9 (by decide) (hts (.fieldLink RX8 94 "LawOfCornersModel" "place" "I") (by decide +kernel)) (fun _ h9 => h9) rfl dX8_readsNumber_55 ?_
      refine lv_iconst (v := (1 : Int32)) hx hb dX8_readsNumber_58 (by decide) ?_
      refine lv_iadd hx hb dX8_readsNumber_59 ?_
      refine lv_topi (fun x19 ex19 => ?_)
      have he := zn_e ex19 he
      refine va_put (D := (dC, dI)) (ci := 8) (v := .int x19) (ty := .int) (C := RX8) (T := TX8) (N := 19) hx hb hts (by decide +kernel) tyX8 tyX8_ok nmX8 hown hK hP hD hS 0 rfl rfl 9 (by decide) (hts (.fieldLink RX8 94 "LawOfCornersModel" "place" "I") (by decide +kernel)) (fun _ h9 => h9) rfl (by decide +kernel) rfl rfl (Nat.le_of_ble_eq_true rfl) dX8_readsNumber_60 (fun H locs hP hD hS => ?_)
      have hP : va_P (dC, dI) vwCl [(a_this, .inr (8, [.ref a_this_s, .ref a_this_image, .ref a_this_was, .int v_hasImage, .ref a_this_letters, .ref a_this_row, .ref a_this_refused, .int v_letterMany, .int v_rowMany, .int x19, .ref a_this_numbers, .ref a_this_least, .ref a_this_stepsFrom, .ref a_this_most, .ref a_this_next, .ref a_this_otherSteps, .ref a_this_ahead, .ref a_this_now, .int v_seed])), (a_this_letters, .inl (cI, 96, .inl g_letters)), (a_this_numbers, .inl (cI, 3, .inl g18))] H := hP
      have hD : va_D A [(a_this, .inr (8, [.ref a_this_s, .ref a_this_image, .ref a_this_was, .int v_hasImage, .ref a_this_letters, .ref a_this_row, .ref a_this_refused, .int v_letterMany, .int v_rowMany, .int x19, .ref a_this_numbers, .ref a_this_least, .ref a_this_stepsFrom, .ref a_this_most, .ref a_this_next, .ref a_this_otherSteps, .ref a_this_ahead, .ref a_this_now, .int v_seed])), (a_this_letters, .inl (cI, 96, .inl g_letters)), (a_this_numbers, .inl (cI, 3, .inl g18))] := hD
      obtain ⟨x20, ex20⟩ : ∃ y : Int32, y = l3_3 + (1 : Int32) := ⟨_, rfl⟩
      have he := zn_e ex20 he
      refine lv_iinc (v := x20) (lv' := [(3, .int x20), (0, .ref a_this), (1, .int p1), (2, .int p2)]) hx hb dX8_readsNumber_63 hl (k := 3) rfl (by rw [ex20]; rfl) (by decide) rfl (fun ls hl => ?_)
      refine lv_goto (tgt := 9) hx hb dX8_readsNumber_66 (by decide) ?_
      exact (hWW _ _ _ _).mp (hagain6 x20 x19 g18 he) _ _ _ hP hD hS (lv_sub hl [1, 2, 3, 0] rfl)
    · have he := zif_t c12 he
      refine lv_iconst (v := (0 : Int32)) hx hb dX8_readsNumber_28 (by decide) ?_
      obtain ⟨rfl, rfl, rfl⟩ := zi3 he
      exact W.zret hx hb hr rfl (fun t ht hW => ⟨⟨_, (), rfl, rfl, by rw [ht]; exact hP, va_K.moved hW.alike hK, hD⟩, hS.F ht⟩) hS.2.2 dX8_readsNumber_29
set_option maxHeartbeats 4000000 in
set_option maxRecDepth 100000 in
theorem k_M_kindOf (l : Launch) (dC : Nat → ClassId) (dI : Nat → Nat → Nat) (cI : ClassId) (cZ : ClassId) (tt : Nat → Nat) (sd : Nat → Nat) (sz : Nat) (p0 : Int32) (r0 : Int32) (hf : f_M_kindOf p0 = some (r0)) : Met l yX8_kindOf wsX8_kindOf ({ frames := 0, cells := 0, slots := 0, locals := 0 }) (zPre (dC, dI) vwCl [(cI, .int), (cZ, .boolean)] tt sd [.int p0] [] sz) (zQi (dC, dI) vwCl [(cI, .int), (cZ, .boolean)] r0 [] (va_A [] sz)) 0 0 (va_A [] sz) := by
  refine Met.ofW (cc := cX8_kindOf) (maxL := 1) (ret := (some .int)) (by decide) rfl ?_
  intro p e s m args below meth c s₁ B hml hv
  obtain ⟨rfl, hsz, hP, hK, hD0, hZ⟩ := hv
  have hx := B.exec
  have hb := B.bytes
  have hr := B.returns
  have hts := atoms_spec (ws := wsX8_kindOf) B.pre
  have hown : s.vm.findClass RX8 = some m.cls := findClass_of_methodNamed B.named
  have hlocks := B.notSynchronized
  subst hsz
  have hD := hD0.self (sz := s.heap.size)
  generalize hAe : va_A [] s.heap.size = A at hD hZ ⊢
  have hA : ∀ q : Nat, s.heap.size ≤ q → A q := fun q h => by rw [← hAe]; exact Or.inr h
  have hS : va_S A s.heap s.heap [] := va_S.rf
  have hP : va_P (dC, dI) vwCl [] s.heap := hP
  have hl := lv_entry ([.int p0]) (n := 1) (Nat.le_of_ble_eq_true rfl)
  rw [lg_entry_eq]
  generalize (lg_sl ([.int p0]) ++ List.replicate (1 - (lg_sl ([.int p0])).length) Slot.unset).toArray = ls at hl ⊢
  have hl : lv_has ls 1 [(0, .int p0)] := hl
  have he := hf
  unfold f_M_kindOf at he
  refine lv_iload_n hx hb dX8_kindOf_0 rfl (lv_at hl 0 rfl) ?_
  by_cases c1 : p0 = (99 : Int32)
  · have he := zif_t c1 he
    refine lv_lookup (off := 63) (tgt := 64) hx hb dX8_kindOf_1 (by decide) (by rw [c1]; rfl) (by decide) ?_
    refine lv_iconst (v := (2 : Int32)) hx hb dX8_kindOf_64 (by decide) ?_
    obtain ⟨rfl⟩ := zi1 he
    exact W.iret hx hb hr (fun t ht hW => ⟨⟨_, (), rfl, rfl, by rw [ht]; exact hP, va_K.moved hW.alike hK, hD⟩, hS.F ht⟩) hS.2.2 dX8_kindOf_65
  have he := zif_f c1 he
  by_cases c2 : p0 = (109 : Int32)
  · have he := zif_t c2 he
    refine lv_lookup (off := 69) (tgt := 70) hx hb dX8_kindOf_1 (by decide) (by rw [c2]; rfl) (by decide) ?_
    refine lv_iconst (v := (5 : Int32)) hx hb dX8_kindOf_70 (by decide) ?_
    obtain ⟨rfl⟩ := zi1 he
    exact W.iret hx hb hr (fun t ht hW => ⟨⟨_, (), rfl, rfl, by rw [ht]; exact hP, va_K.moved hW.alike hK, hD⟩, hS.F ht⟩) hS.2.2 dX8_kindOf_71
  have he := zif_f c2 he
  by_cases c3 : p0 = (110 : Int32)
  · have he := zif_t c3 he
    refine lv_lookup (off := 65) (tgt := 66) hx hb dX8_kindOf_1 (by decide) (by rw [c3]; rfl) (by decide) ?_
    refine lv_iconst (v := (3 : Int32)) hx hb dX8_kindOf_66 (by decide) ?_
    obtain ⟨rfl⟩ := zi1 he
    exact W.iret hx hb hr (fun t ht hW => ⟨⟨_, (), rfl, rfl, by rw [ht]; exact hP, va_K.moved hW.alike hK, hD⟩, hS.F ht⟩) hS.2.2 dX8_kindOf_67
  have he := zif_f c3 he
  by_cases c4 : p0 = (115 : Int32)
  · have he := zif_t c4 he
    refine lv_lookup (off := 59) (tgt := 60) hx hb dX8_kindOf_1 (by decide) (by rw [c4]; rfl) (by decide) ?_
    refine lv_iconst (v := (0 : Int32)) hx hb dX8_kindOf_60 (by decide) ?_
    obtain ⟨rfl⟩ := zi1 he
    exact W.iret hx hb hr (fun t ht hW => ⟨⟨_, (), rfl, rfl, by rw [ht]; exact hP, va_K.moved hW.alike hK, hD⟩, hS.F ht⟩) hS.2.2 dX8_kindOf_61
  have he := zif_f c4 he
  by_cases c5 : p0 = (116 : Int32)
  · have he := zif_t c5 he
    refine lv_lookup (off := 67) (tgt := 68) hx hb dX8_kindOf_1 (by decide) (by rw [c5]; rfl) (by decide) ?_
    refine lv_iconst (v := (4 : Int32)) hx hb dX8_kindOf_68 (by decide) ?_
    obtain ⟨rfl⟩ := zi1 he
    exact W.iret hx hb hr (fun t ht hW => ⟨⟨_, (), rfl, rfl, by rw [ht]; exact hP, va_K.moved hW.alike hK, hD⟩, hS.F ht⟩) hS.2.2 dX8_kindOf_69
  have he := zif_f c5 he
  by_cases c6 : p0 = (119 : Int32)
  · have he := zif_t c6 he
    refine lv_lookup (off := 61) (tgt := 62) hx hb dX8_kindOf_1 (by decide) (by rw [c6]; rfl) (by decide) ?_
    refine lv_iconst (v := (1 : Int32)) hx hb dX8_kindOf_62 (by decide) ?_
    obtain ⟨rfl⟩ := zi1 he
    exact W.iret hx hb hr (fun t ht hW => ⟨⟨_, (), rfl, rfl, by rw [ht]; exact hP, va_K.moved hW.alike hK, hD⟩, hS.F ht⟩) hS.2.2 dX8_kindOf_63
  have he := zif_f c6 he
  refine lv_lookup (off := 71) (tgt := 72) hx hb dX8_kindOf_1 (by decide) (by show Op.lookupswitch.offset [(99, 63), (109, 69), (110, 65), (115, 59), (116, 67), (119, 61)] (71) _ = _; rw [lv_osw c1 (by decide), lv_osw c2 (by decide), lv_osw c3 (by decide), lv_osw c4 (by decide), lv_osw c5 (by decide), lv_osw c6 (by decide)]; rfl) (by decide) ?_
  refine lv_bipush (v := (-9 : Int32)) hx hb dX8_kindOf_72 (by decide) ?_
  obtain ⟨rfl⟩ := zi1 he
  exact W.iret hx hb hr (fun t ht hW => ⟨⟨_, (), rfl, rfl, by rw [ht]; exact hP, va_K.moved hW.alike hK, hD⟩, hS.F ht⟩) hS.2.2 dX8_kindOf_74
set_option maxHeartbeats 4000000 in
set_option maxRecDepth 100000 in
theorem k_M_readsKind (l : Launch) (dC : Nat → ClassId) (dI : Nat → Nat → Nat) (cI : ClassId) (cZ : ClassId) (tt : Nat → Nat) (sd : Nat → Nat) (a_this : Nat) (a_this_s : Nat) (a_this_image : Nat) (a_this_was : Nat) (a_this_letters : Nat) (a_this_row : Nat) (a_this_refused : Nat) (a_this_numbers : Nat) (a_this_least : Nat) (a_this_stepsFrom : Nat) (a_this_most : Nat) (a_this_next : Nat) (a_this_otherSteps : Nat) (a_this_ahead : Nat) (a_this_now : Nat) (sz : Nat) (v_hasImage : Int32) (v_letterMany : Int32) (v_rowMany : Int32) (v_place : Int32) (v_seed : Int32) (g_letters : Nat → Int32) (g_numbers : Nat → Int32) (r0 : Int32) (w0 : Int32) (w1 : Nat → Int32) (hf : f_M_readsKind v_letterMany v_place g_letters g_numbers = some (r0, w0, w1)) : Met l yX8_readsKind wsX8_readsKind ({ frames := 1, cells := 0, slots := 0, locals := 20 }) (zPre (dC, dI) vwCl [(cI, .int), (cZ, .boolean)] tt sd [.ref a_this] [(a_this, .inr (8, [.ref a_this_s, .ref a_this_image, .ref a_this_was, .int v_hasImage, .ref a_this_letters, .ref a_this_row, .ref a_this_refused, .int v_letterMany, .int v_rowMany, .int v_place, .ref a_this_numbers, .ref a_this_least, .ref a_this_stepsFrom, .ref a_this_most, .ref a_this_next, .ref a_this_otherSteps, .ref a_this_ahead, .ref a_this_now, .int v_seed])), (a_this_letters, .inl (cI, 96, .inl g_letters)), (a_this_numbers, .inl (cI, 3, .inl g_numbers))] sz) (zQi (dC, dI) vwCl [(cI, .int), (cZ, .boolean)] r0 [(a_this, .inr (8, [.ref a_this_s, .ref a_this_image, .ref a_this_was, .int v_hasImage, .ref a_this_letters, .ref a_this_row, .ref a_this_refused, .int v_letterMany, .int v_rowMany, .int w0, .ref a_this_numbers, .ref a_this_least, .ref a_this_stepsFrom, .ref a_this_most, .ref a_this_next, .ref a_this_otherSteps, .ref a_this_ahead, .ref a_this_now, .int v_seed])), (a_this_letters, .inl (cI, 96, .inl g_letters)), (a_this_numbers, .inl (cI, 3, .inl w1))] (va_A [(a_this, .inr (8, [.ref a_this_s, .ref a_this_image, .ref a_this_was, .int v_hasImage, .ref a_this_letters, .ref a_this_row, .ref a_this_refused, .int v_letterMany, .int v_rowMany, .int v_place, .ref a_this_numbers, .ref a_this_least, .ref a_this_stepsFrom, .ref a_this_most, .ref a_this_next, .ref a_this_otherSteps, .ref a_this_ahead, .ref a_this_now, .int v_seed])), (a_this_letters, .inl (cI, 96, .inl g_letters)), (a_this_numbers, .inl (cI, 3, .inl g_numbers))] sz)) 0 0 (va_A [(a_this, .inr (8, [.ref a_this_s, .ref a_this_image, .ref a_this_was, .int v_hasImage, .ref a_this_letters, .ref a_this_row, .ref a_this_refused, .int v_letterMany, .int v_rowMany, .int v_place, .ref a_this_numbers, .ref a_this_least, .ref a_this_stepsFrom, .ref a_this_most, .ref a_this_next, .ref a_this_otherSteps, .ref a_this_ahead, .ref a_this_now, .int v_seed])), (a_this_letters, .inl (cI, 96, .inl g_letters)), (a_this_numbers, .inl (cI, 3, .inl g_numbers))] sz) := by
  refine Met.ofW (cc := cX8_readsKind) (maxL := 1) (ret := (some .boolean)) (by decide) rfl ?_
  intro p e s m args below meth c s₁ B hml hv
  obtain ⟨rfl, hsz, hP, hK, hD0, hZ⟩ := hv
  have hx := B.exec
  have hb := B.bytes
  have hr := B.returns
  have hts := atoms_spec (ws := wsX8_readsKind) B.pre
  have hown : s.vm.findClass RX8 = some m.cls := findClass_of_methodNamed B.named
  have hlocks := B.notSynchronized
  subst hsz
  have hD := hD0.self (sz := s.heap.size)
  generalize hAe : va_A [(a_this, .inr (8, [.ref a_this_s, .ref a_this_image, .ref a_this_was, .int v_hasImage, .ref a_this_letters, .ref a_this_row, .ref a_this_refused, .int v_letterMany, .int v_rowMany, .int v_place, .ref a_this_numbers, .ref a_this_least, .ref a_this_stepsFrom, .ref a_this_most, .ref a_this_next, .ref a_this_otherSteps, .ref a_this_ahead, .ref a_this_now, .int v_seed])), (a_this_letters, .inl (cI, 96, .inl g_letters)), (a_this_numbers, .inl (cI, 3, .inl g_numbers))] s.heap.size = A at hD hZ ⊢
  have hA : ∀ q : Nat, s.heap.size ≤ q → A q := fun q h => by rw [← hAe]; exact Or.inr h
  have hS : va_S A s.heap s.heap [] := va_S.rf
  have hP : va_P (dC, dI) vwCl [(a_this, .inr (8, [.ref a_this_s, .ref a_this_image, .ref a_this_was, .int v_hasImage, .ref a_this_letters, .ref a_this_row, .ref a_this_refused, .int v_letterMany, .int v_rowMany, .int v_place, .ref a_this_numbers, .ref a_this_least, .ref a_this_stepsFrom, .ref a_this_most, .ref a_this_next, .ref a_this_otherSteps, .ref a_this_ahead, .ref a_this_now, .int v_seed])), (a_this_letters, .inl (cI, 96, .inl g_letters)), (a_this_numbers, .inl (cI, 3, .inl g_numbers))] s.heap := hP
  have hl := lv_entry ([.ref a_this]) (n := 1) (Nat.le_of_ble_eq_true rfl)
  rw [lg_entry_eq]
  generalize (lg_sl ([.ref a_this]) ++ List.replicate (1 - (lg_sl ([.ref a_this])).length) Slot.unset).toArray = ls at hl ⊢
  have hl : lv_has ls 1 [(0, .ref a_this)] := hl
  have he := hf
  unfold f_M_readsKind at he
  refine zstart (D := (dC, dI)) (cl := vwCl) (A := A) (nL := 1) (fun WW hWW => ?_)
  refine lv_aload_n hx hb dX8_readsKind_0 rfl (lv_at hl 0 rfl) ?_
  refine va_get (D := (dC, dI)) (ci := 8) (v := .ref a_this_numbers) (C := RX8) (T := TX8) (N := 19) hx hb hts (by decide +kernel) hown hK hP 0 rfl rfl 10 (by decide) (hts (.fieldLink RX8 28 "LawOfCornersModel" "numbers" "[I") (by decide +kernel)) (fun _ h9 => h9) rfl dX8_readsKind_1 ?_
  refine lv_iconst (v := (0 : Int32)) hx hb dX8_readsKind_4 (by decide) ?_
  refine lv_aload_n hx hb dX8_readsKind_5 rfl (lv_at hl 0 rfl) ?_
  obtain ⟨r1, hf2, he⟩ := zb1_e he
  refine zc_i (wr := [(a_this_numbers, .inl (cI, 3, .inl g_numbers))]) (ws' := [(a_this, .inr (8, [.ref a_this_s, .ref a_this_image, .ref a_this_was, .int v_hasImage, .ref a_this_letters, .ref a_this_row, .ref a_this_refused, .int v_letterMany, .int v_rowMany, .int v_place, .ref a_this_numbers, .ref a_this_least, .ref a_this_stepsFrom, .ref a_this_most, .ref a_this_next, .ref a_this_otherSteps, .ref a_this_ahead, .ref a_this_now, .int v_seed])), (a_this_letters, .inl (cI, 96, .inl g_letters)), (a_this_numbers, .inl (cI, 3, .inl g_numbers))]) (va_runV (As := []) (rest := [.int (0 : Int32), .ref a_this_numbers]) ⟨hx, hb, hml, hown, hts⟩ (k_M_here l dC dI cI cZ tt sd a_this a_this_s a_this_image a_this_was a_this_letters a_this_row a_this_refused a_this_numbers a_this_least a_this_stepsFrom a_this_most a_this_next a_this_otherSteps a_this_ahead a_this_now s.heap.size v_hasImage v_letterMany v_rowMany v_place v_seed g_letters r1 hf2) (cwV 0 hts gX8_readsKind_X8_here rfl rfl rfl (by decide +kernel) ⟨Nat.le_of_ble_eq_true rfl, Nat.le_of_ble_eq_true rfl⟩) (zpV hP hD hK hS hA hZ [0, 1] rfl rfl 8 0 rfl rfl) rfl rfl hl.1 rfl (lv_room (Nat.le_of_ble_eq_true rfl)) dX8_readsKind_6 ⟨Nat.zero_le _, Nat.zero_le _⟩) hP hD hS hA [0, 1] [2] [1, 2, 0] rfl rfl rfl (by decide) rfl rfl rfl (fun H locs hP hD hS => ?_)
  obtain ⟨r3, hf4, he⟩ := zb1_e he
  refine zc_i (wr := [(a_this, .inr (8, [.ref a_this_s, .ref a_this_image, .ref a_this_was, .int v_hasImage, .ref a_this_letters, .ref a_this_row, .ref a_this_refused, .int v_letterMany, .int v_rowMany, .int v_place, .ref a_this_numbers, .ref a_this_least, .ref a_this_stepsFrom, .ref a_this_most, .ref a_this_next, .ref a_this_otherSteps, .ref a_this_ahead, .ref a_this_now, .int v_seed])), (a_this_letters, .inl (cI, 96, .inl g_letters)), (a_this_numbers, .inl (cI, 3, .inl g_numbers))]) (ws' := [(a_this, .inr (8, [.ref a_this_s, .ref a_this_image, .ref a_this_was, .int v_hasImage, .ref a_this_letters, .ref a_this_row, .ref a_this_refused, .int v_letterMany, .int v_rowMany, .int v_place, .ref a_this_numbers, .ref a_this_least, .ref a_this_stepsFrom, .ref a_this_most, .ref a_this_next, .ref a_this_otherSteps, .ref a_this_ahead, .ref a_this_now, .int v_seed])), (a_this_letters, .inl (cI, 96, .inl g_letters)), (a_this_numbers, .inl (cI, 3, .inl g_numbers))]) (va_runS (As := [.int r1]) (rest := [.int (0 : Int32), .ref a_this_numbers]) ⟨hx, hb, hml, hown, hts⟩ (k_M_kindOf l dC dI cI cZ tt sd H.size r1 r3 hf4) (va_cwS 1 hts gX8_readsKind_X8_kindOf rfl rfl rfl (by decide +kernel) ⟨Nat.le_of_ble_eq_true rfl, Nat.le_of_ble_eq_true rfl⟩) (zpS hP hD hK hS hA hZ [] rfl rfl) rfl rfl hl.1 rfl (lv_room (Nat.le_of_ble_eq_true rfl)) dX8_readsKind_9 ⟨Nat.zero_le _, Nat.zero_le _⟩) hP hD hS hA [] [0, 1, 2] [0, 1, 2] rfl rfl rfl (by decide) rfl rfl rfl (fun H locs hP hD hS => ?_)
  obtain ⟨hg5, he⟩ := zg_e he
  refine va_iast hx hb hK hP hD hS 2 0 rfl rfl hg5 dX8_readsKind_12 (fun H locs hP hD hS => ?_)
  obtain ⟨g6, eg6⟩ : ∃ y : Nat → Int32, y = upd g_numbers (0 : Int32).toNatClampNeg r3 := ⟨_, rfl⟩
  have he := zn_e eg6 he
  have hP : va_P (dC, dI) vwCl [(a_this, .inr (8, [.ref a_this_s, .ref a_this_image, .ref a_this_was, .int v_hasImage, .ref a_this_letters, .ref a_this_row, .ref a_this_refused, .int v_letterMany, .int v_rowMany, .int v_place, .ref a_this_numbers, .ref a_this_least, .ref a_this_stepsFrom, .ref a_this_most, .ref a_this_next, .ref a_this_otherSteps, .ref a_this_ahead, .ref a_this_now, .int v_seed])), (a_this_letters, .inl (cI, 96, .inl g_letters)), (a_this_numbers, .inl (cI, 3, .inl g6))] H := by rw [eg6]; exact hP
  have hD : va_D A [(a_this, .inr (8, [.ref a_this_s, .ref a_this_image, .ref a_this_was, .int v_hasImage, .ref a_this_letters, .ref a_this_row, .ref a_this_refused, .int v_letterMany, .int v_rowMany, .int v_place, .ref a_this_numbers, .ref a_this_least, .ref a_this_stepsFrom, .ref a_this_most, .ref a_this_next, .ref a_this_otherSteps, .ref a_this_ahead, .ref a_this_now, .int v_seed])), (a_this_letters, .inl (cI, 96, .inl g_letters)), (a_this_numbers, .inl (cI, 3, .inl g6))] := by rw [eg6]; exact hD
  refine lv_aload_n hx hb dX8_readsKind_13 rfl (lv_at hl 0 rfl) ?_
  refine lv_dup hx hb dX8_readsKind_14 rfl ?_
  refine va_get (D := (dC, dI)) (ci := 8) (v := .int v_place) (C := RX8) (T := TX8) (N := 19) hx hb hts (by decide +kernel) hown hK hP 0 rfl rfl 9 (by decide) (hts (.fieldLink RX8 94 "LawOfCornersModel" "place" "I") (by decide +kernel)) (fun _ h9 => h9) rfl dX8_readsKind_15 ?_
  refine lv_aload_n hx hb dX8_readsKind_18 rfl (lv_at hl 0 rfl) ?_
  refine va_get (D := (dC, dI)) (ci := 8) (v := .ref a_this_numbers) (C := RX8) (T := TX8) (N := 19) hx hb hts (by decide +kernel) hown hK hP 0 rfl rfl 10 (by decide) (hts (.fieldLink RX8 28 "LawOfCornersModel" "numbers" "[I") (by decide +kernel)) (fun _ h9 => h9) rfl dX8_readsKind_19 ?_
  refine lv_iconst (v := (0 : Int32)) hx hb dX8_readsKind_22 (by decide) ?_
  obtain ⟨hg7, he⟩ := zg_e he
  refine va_iald hx hb hK hP 2 0 rfl rfl hg7 dX8_readsKind_23 ?_
  refine zj1_w he (fun (s8 : Int32) => WW [(a_this, .inr (8, [.ref a_this_s, .ref a_this_image, .ref a_this_was, .int v_hasImage, .ref a_this_letters, .ref a_this_row, .ref a_this_refused, .int v_letterMany, .int v_rowMany, .int v_place, .ref a_this_numbers, .ref a_this_least, .ref a_this_stepsFrom, .ref a_this_most, .ref a_this_next, .ref a_this_otherSteps, .ref a_this_ahead, .ref a_this_now, .int v_seed])), (a_this_letters, .inl (cI, 96, .inl g_letters)), (a_this_numbers, .inl (cI, 3, .inl g6))] [(0, .ref a_this)] 32 [.int s8, .int v_place, .ref a_this]) (fun s8 he => (hWW _ _ _ _).mpr (fun H locs ls hP hD hS hl => ?_)) (fun k12 hk12 he => ?_)
  · refine lv_iadd hx hb dX8_readsKind_32 ?_
    refine lv_topi (fun x9 ex9 => ?_)
    have he := zn_e ex9 he
    refine va_put (D := (dC, dI)) (ci := 8) (v := .int x9) (ty := .int) (C := RX8) (T := TX8) (N := 19) hx hb hts (by decide +kernel) tyX8 tyX8_ok nmX8 hown hK hP hD hS 0 rfl rfl 9 (by decide) (hts (.fieldLink RX8 94 "LawOfCornersModel" "place" "I") (by decide +kernel)) (fun _ h9 => h9) rfl (by decide +kernel) rfl rfl (Nat.le_of_ble_eq_true rfl) dX8_readsKind_33 (fun H locs hP hD hS => ?_)
    have hP : va_P (dC, dI) vwCl [(a_this, .inr (8, [.ref a_this_s, .ref a_this_image, .ref a_this_was, .int v_hasImage, .ref a_this_letters, .ref a_this_row, .ref a_this_refused, .int v_letterMany, .int v_rowMany, .int x9, .ref a_this_numbers, .ref a_this_least, .ref a_this_stepsFrom, .ref a_this_most, .ref a_this_next, .ref a_this_otherSteps, .ref a_this_ahead, .ref a_this_now, .int v_seed])), (a_this_letters, .inl (cI, 96, .inl g_letters)), (a_this_numbers, .inl (cI, 3, .inl g6))] H := hP
    have hD : va_D A [(a_this, .inr (8, [.ref a_this_s, .ref a_this_image, .ref a_this_was, .int v_hasImage, .ref a_this_letters, .ref a_this_row, .ref a_this_refused, .int v_letterMany, .int v_rowMany, .int x9, .ref a_this_numbers, .ref a_this_least, .ref a_this_stepsFrom, .ref a_this_most, .ref a_this_next, .ref a_this_otherSteps, .ref a_this_ahead, .ref a_this_now, .int v_seed])), (a_this_letters, .inl (cI, 96, .inl g_letters)), (a_this_numbers, .inl (cI, 3, .inl g6))] := hD
    refine lv_aload_n hx hb dX8_readsKind_36 rfl (lv_at hl 0 rfl) ?_
    refine va_get (D := (dC, dI)) (ci := 8) (v := .ref a_this_numbers) (C := RX8) (T := TX8) (N := 19) hx hb hts (by decide +kernel) hown hK hP 0 rfl rfl 10 (by decide) (hts (.fieldLink RX8 28 "LawOfCornersModel" "numbers" "[I") (by decide +kernel)) (fun _ h9 => h9) rfl dX8_readsKind_37 ?_
    refine lv_iconst (v := (0 : Int32)) hx hb dX8_readsKind_40 (by decide) ?_
    obtain ⟨hg10, he⟩ := zg_e he
    refine va_iald hx hb hK hP 2 0 rfl rfl hg10 dX8_readsKind_41 ?_
    refine lv_if_lt (tgt := 49) hx hb dX8_readsKind_42 (by decide) (fun c11 => ?_) (fun c11 => ?_)
    · have he := zif_t c11 he
      refine lv_iconst (v := (0 : Int32)) hx hb dX8_readsKind_49 (by decide) ?_
      obtain ⟨rfl, rfl, rfl⟩ := zi3 he
      exact W.zret hx hb hr rfl (fun t ht hW => ⟨⟨_, (), rfl, rfl, by rw [ht]; exact hP, va_K.moved hW.alike hK, hD⟩, hS.F ht⟩) hS.2.2 dX8_readsKind_50
    · have he := zif_f c11 he
      refine lv_iconst (v := (1 : Int32)) hx hb dX8_readsKind_45 (by decide) ?_
      refine lv_goto (tgt := 50) hx hb dX8_readsKind_46 (by decide) ?_
      obtain ⟨rfl, rfl, rfl⟩ := zi3 he
      exact W.zret hx hb hr rfl (fun t ht hW => ⟨⟨_, (), rfl, rfl, by rw [ht]; exact hP, va_K.moved hW.alike hK, hD⟩, hS.F ht⟩) hS.2.2 dX8_readsKind_50
  refine lv_if_ge (tgt := 31) hx hb dX8_readsKind_24 (by decide) (fun c13 => ?_) (fun c13 => ?_)
  · have he := zif_t c13 he
    refine lv_iconst (v := (1 : Int32)) hx hb dX8_readsKind_31 (by decide) ?_
    exact (hWW _ _ _ _).mp (hk12 (1 : Int32) he) _ _ _ hP hD hS (lv_sub hl [0] rfl)
  · have he := zif_f c13 he
    refine lv_iconst (v := (0 : Int32)) hx hb dX8_readsKind_27 (by decide) ?_
    refine lv_goto (tgt := 32) hx hb dX8_readsKind_28 (by decide) ?_
    exact (hWW _ _ _ _).mp (hk12 (0 : Int32) he) _ _ _ hP hD hS (lv_sub hl [0] rfl)
set_option maxHeartbeats 4000000 in
set_option maxRecDepth 100000 in
theorem k_M_readsStatement (l : Launch) (dC : Nat → ClassId) (dI : Nat → Nat → Nat) (cI : ClassId) (cZ : ClassId) (tt : Nat → Nat) (sd : Nat → Nat) (a_this : Nat) (a_this_s : Nat) (a_this_image : Nat) (a_this_was : Nat) (a_this_letters : Nat) (a_this_row : Nat) (a_this_refused : Nat) (a_this_numbers : Nat) (a_this_least : Nat) (a_this_stepsFrom : Nat) (a_this_most : Nat) (a_this_next : Nat) (a_this_otherSteps : Nat) (a_this_ahead : Nat) (a_this_now : Nat) (sz : Nat) (v_hasImage : Int32) (v_letterMany : Int32) (v_rowMany : Int32) (v_place : Int32) (v_seed : Int32) (g_letters : Nat → Int32) (g_numbers : Nat → Int32) (r0 : Int32) (w0 : Int32) (w1 : Nat → Int32) (hf : f_M_readsStatement v_letterMany v_place g_letters g_numbers = some (r0, w0, w1)) : Met l yX8_readsStatement wsX8_readsStatement ({ frames := 2, cells := 0, slots := 0, locals := 45 }) (zPre (dC, dI) vwCl [(cI, .int), (cZ, .boolean)] tt sd [.ref a_this] [(a_this, .inr (8, [.ref a_this_s, .ref a_this_image, .ref a_this_was, .int v_hasImage, .ref a_this_letters, .ref a_this_row, .ref a_this_refused, .int v_letterMany, .int v_rowMany, .int v_place, .ref a_this_numbers, .ref a_this_least, .ref a_this_stepsFrom, .ref a_this_most, .ref a_this_next, .ref a_this_otherSteps, .ref a_this_ahead, .ref a_this_now, .int v_seed])), (a_this_letters, .inl (cI, 96, .inl g_letters)), (a_this_numbers, .inl (cI, 3, .inl g_numbers))] sz) (zQi (dC, dI) vwCl [(cI, .int), (cZ, .boolean)] r0 [(a_this, .inr (8, [.ref a_this_s, .ref a_this_image, .ref a_this_was, .int v_hasImage, .ref a_this_letters, .ref a_this_row, .ref a_this_refused, .int v_letterMany, .int v_rowMany, .int w0, .ref a_this_numbers, .ref a_this_least, .ref a_this_stepsFrom, .ref a_this_most, .ref a_this_next, .ref a_this_otherSteps, .ref a_this_ahead, .ref a_this_now, .int v_seed])), (a_this_letters, .inl (cI, 96, .inl g_letters)), (a_this_numbers, .inl (cI, 3, .inl w1))] (va_A [(a_this, .inr (8, [.ref a_this_s, .ref a_this_image, .ref a_this_was, .int v_hasImage, .ref a_this_letters, .ref a_this_row, .ref a_this_refused, .int v_letterMany, .int v_rowMany, .int v_place, .ref a_this_numbers, .ref a_this_least, .ref a_this_stepsFrom, .ref a_this_most, .ref a_this_next, .ref a_this_otherSteps, .ref a_this_ahead, .ref a_this_now, .int v_seed])), (a_this_letters, .inl (cI, 96, .inl g_letters)), (a_this_numbers, .inl (cI, 3, .inl g_numbers))] sz)) 0 0 (va_A [(a_this, .inr (8, [.ref a_this_s, .ref a_this_image, .ref a_this_was, .int v_hasImage, .ref a_this_letters, .ref a_this_row, .ref a_this_refused, .int v_letterMany, .int v_rowMany, .int v_place, .ref a_this_numbers, .ref a_this_least, .ref a_this_stepsFrom, .ref a_this_most, .ref a_this_next, .ref a_this_otherSteps, .ref a_this_ahead, .ref a_this_now, .int v_seed])), (a_this_letters, .inl (cI, 96, .inl g_letters)), (a_this_numbers, .inl (cI, 3, .inl g_numbers))] sz) := by
  refine Met.ofW (cc := cX8_readsStatement) (maxL := 3) (ret := (some .boolean)) (by decide) rfl ?_
  intro p e s m args below meth c s₁ B hml hv
  obtain ⟨rfl, hsz, hP, hK, hD0, hZ⟩ := hv
  have hx := B.exec
  have hb := B.bytes
  have hr := B.returns
  have hts := atoms_spec (ws := wsX8_readsStatement) B.pre
  have hown : s.vm.findClass RX8 = some m.cls := findClass_of_methodNamed B.named
  have hlocks := B.notSynchronized
  subst hsz
  have hD := hD0.self (sz := s.heap.size)
  generalize hAe : va_A [(a_this, .inr (8, [.ref a_this_s, .ref a_this_image, .ref a_this_was, .int v_hasImage, .ref a_this_letters, .ref a_this_row, .ref a_this_refused, .int v_letterMany, .int v_rowMany, .int v_place, .ref a_this_numbers, .ref a_this_least, .ref a_this_stepsFrom, .ref a_this_most, .ref a_this_next, .ref a_this_otherSteps, .ref a_this_ahead, .ref a_this_now, .int v_seed])), (a_this_letters, .inl (cI, 96, .inl g_letters)), (a_this_numbers, .inl (cI, 3, .inl g_numbers))] s.heap.size = A at hD hZ ⊢
  have hA : ∀ q : Nat, s.heap.size ≤ q → A q := fun q h => by rw [← hAe]; exact Or.inr h
  have hS : va_S A s.heap s.heap [] := va_S.rf
  have hP : va_P (dC, dI) vwCl [(a_this, .inr (8, [.ref a_this_s, .ref a_this_image, .ref a_this_was, .int v_hasImage, .ref a_this_letters, .ref a_this_row, .ref a_this_refused, .int v_letterMany, .int v_rowMany, .int v_place, .ref a_this_numbers, .ref a_this_least, .ref a_this_stepsFrom, .ref a_this_most, .ref a_this_next, .ref a_this_otherSteps, .ref a_this_ahead, .ref a_this_now, .int v_seed])), (a_this_letters, .inl (cI, 96, .inl g_letters)), (a_this_numbers, .inl (cI, 3, .inl g_numbers))] s.heap := hP
  have hl := lv_entry ([.ref a_this]) (n := 3) (Nat.le_of_ble_eq_true rfl)
  rw [lg_entry_eq]
  generalize (lg_sl ([.ref a_this]) ++ List.replicate (3 - (lg_sl ([.ref a_this])).length) Slot.unset).toArray = ls at hl ⊢
  have hl : lv_has ls 3 [(0, .ref a_this)] := hl
  have he := hf
  unfold f_M_readsStatement at he
  refine zstart (D := (dC, dI)) (cl := vwCl) (A := A) (nL := 3) (fun WW hWW => ?_)
  refine lv_aload_n hx hb dX8_readsStatement_0 rfl (lv_at hl 0 rfl) ?_
  obtain ⟨r1, hf2, he⟩ := zb1_e he
  refine zc_i (wr := [(a_this_numbers, .inl (cI, 3, .inl g_numbers))]) (ws' := [(a_this, .inr (8, [.ref a_this_s, .ref a_this_image, .ref a_this_was, .int v_hasImage, .ref a_this_letters, .ref a_this_row, .ref a_this_refused, .int v_letterMany, .int v_rowMany, .int v_place, .ref a_this_numbers, .ref a_this_least, .ref a_this_stepsFrom, .ref a_this_most, .ref a_this_next, .ref a_this_otherSteps, .ref a_this_ahead, .ref a_this_now, .int v_seed])), (a_this_letters, .inl (cI, 96, .inl g_letters)), (a_this_numbers, .inl (cI, 3, .inl g_numbers))]) (va_runV (As := []) (rest := []) ⟨hx, hb, hml, hown, hts⟩ (k_M_here l dC dI cI cZ tt sd a_this a_this_s a_this_image a_this_was a_this_letters a_this_row a_this_refused a_this_numbers a_this_least a_this_stepsFrom a_this_most a_this_next a_this_otherSteps a_this_ahead a_this_now s.heap.size v_hasImage v_letterMany v_rowMany v_place v_seed g_letters r1 hf2) (cwV 0 hts gX8_readsStatement_X8_here rfl rfl rfl (by decide +kernel) ⟨Nat.le_of_ble_eq_true rfl, Nat.le_of_ble_eq_true rfl⟩) (zpV hP hD hK hS hA hZ [0, 1] rfl rfl 8 0 rfl rfl) rfl rfl hl.1 rfl (lv_room (Nat.le_of_ble_eq_true rfl)) dX8_readsStatement_1 ⟨Nat.zero_le _, Nat.zero_le _⟩) hP hD hS hA [0, 1] [2] [1, 2, 0] rfl rfl rfl (by decide) rfl rfl rfl (fun H locs hP hD hS => ?_)
  refine lv_istore_n (lv' := [(1, .int r1), (0, .ref a_this)]) hx hb dX8_readsStatement_4 rfl hl (by decide) rfl (fun ls hl => ?_)
  refine lv_aload_n hx hb dX8_readsStatement_5 rfl (lv_at hl 1 rfl) ?_
  refine lv_dup hx hb dX8_readsStatement_6 rfl ?_
  refine va_get (D := (dC, dI)) (ci := 8) (v := .int v_place) (C := RX8) (T := TX8) (N := 19) hx hb hts (by decide +kernel) hown hK hP 0 rfl rfl 9 (by decide) (hts (.fieldLink RX8 94 "LawOfCornersModel" "place" "I") (by decide +kernel)) (fun _ h9 => h9) rfl dX8_readsStatement_7 ?_
  refine lv_iconst (v := (1 : Int32)) hx hb dX8_readsStatement_10 (by decide) ?_
  refine lv_iadd hx hb dX8_readsStatement_11 ?_
  refine lv_topi (fun x3 ex3 => ?_)
  have he := zn_e ex3 he
  refine va_put (D := (dC, dI)) (ci := 8) (v := .int x3) (ty := .int) (C := RX8) (T := TX8) (N := 19) hx hb hts (by decide +kernel) tyX8 tyX8_ok nmX8 hown hK hP hD hS 0 rfl rfl 9 (by decide) (hts (.fieldLink RX8 94 "LawOfCornersModel" "place" "I") (by decide +kernel)) (fun _ h9 => h9) rfl (by decide +kernel) rfl rfl (Nat.le_of_ble_eq_true rfl) dX8_readsStatement_12 (fun H locs hP hD hS => ?_)
  have hP : va_P (dC, dI) vwCl [(a_this, .inr (8, [.ref a_this_s, .ref a_this_image, .ref a_this_was, .int v_hasImage, .ref a_this_letters, .ref a_this_row, .ref a_this_refused, .int v_letterMany, .int v_rowMany, .int x3, .ref a_this_numbers, .ref a_this_least, .ref a_this_stepsFrom, .ref a_this_most, .ref a_this_next, .ref a_this_otherSteps, .ref a_this_ahead, .ref a_this_now, .int v_seed])), (a_this_letters, .inl (cI, 96, .inl g_letters)), (a_this_numbers, .inl (cI, 3, .inl g_numbers))] H := hP
  have hD : va_D A [(a_this, .inr (8, [.ref a_this_s, .ref a_this_image, .ref a_this_was, .int v_hasImage, .ref a_this_letters, .ref a_this_row, .ref a_this_refused, .int v_letterMany, .int v_rowMany, .int x3, .ref a_this_numbers, .ref a_this_least, .ref a_this_stepsFrom, .ref a_this_most, .ref a_this_next, .ref a_this_otherSteps, .ref a_this_ahead, .ref a_this_now, .int v_seed])), (a_this_letters, .inl (cI, 96, .inl g_letters)), (a_this_numbers, .inl (cI, 3, .inl g_numbers))] := hD
  refine lv_iload_n hx hb dX8_readsStatement_15 rfl (lv_at hl 0 rfl) ?_
  refine zj3_w he (fun (l2_4 : Int32) (v_place_5 : Int32) (g_numbers_6 : Nat → Int32) => WW [(a_this, .inr (8, [.ref a_this_s, .ref a_this_image, .ref a_this_was, .int v_hasImage, .ref a_this_letters, .ref a_this_row, .ref a_this_refused, .int v_letterMany, .int v_rowMany, .int v_place_5, .ref a_this_numbers, .ref a_this_least, .ref a_this_stepsFrom, .ref a_this_most, .ref a_this_next, .ref a_this_otherSteps, .ref a_this_ahead, .ref a_this_now, .int v_seed])), (a_this_letters, .inl (cI, 96, .inl g_letters)), (a_this_numbers, .inl (cI, 3, .inl g_numbers_6))] [(0, .ref a_this), (2, .int l2_4)] 159 []) (fun l2_4 v_place_5 g_numbers_6 he => (hWW _ _ _ _).mpr (fun H locs ls hP hD hS hl => ?_)) (fun k12 hk12 he => ?_)
  · refine lv_iload_n hx hb dX8_readsStatement_159 rfl (lv_at hl 1 rfl) ?_
    refine lv_if_eq (tgt := 172) hx hb dX8_readsStatement_160 (by decide) (fun c7 => ?_) (fun c7 => ?_)
    · have he := zif_t c7 he
      refine lv_iconst (v := (0 : Int32)) hx hb dX8_readsStatement_172 (by decide) ?_
      obtain ⟨rfl, rfl, rfl⟩ := zi3 he
      exact W.zret hx hb hr rfl (fun t ht hW => ⟨⟨_, (), rfl, rfl, by rw [ht]; exact hP, va_K.moved hW.alike hK, hD⟩, hS.F ht⟩) hS.2.2 dX8_readsStatement_173
    · have he := zif_f c7 he
      refine lv_aload_n hx hb dX8_readsStatement_163 rfl (lv_at hl 0 rfl) ?_
      obtain ⟨r8, hf9, he⟩ := zb1_e he
      refine zc_i (wr := [(a_this_numbers, .inl (cI, 3, .inl g_numbers_6))]) (ws' := [(a_this, .inr (8, [.ref a_this_s, .ref a_this_image, .ref a_this_was, .int v_hasImage, .ref a_this_letters, .ref a_this_row, .ref a_this_refused, .int v_letterMany, .int v_rowMany, .int v_place_5, .ref a_this_numbers, .ref a_this_least, .ref a_this_stepsFrom, .ref a_this_most, .ref a_this_next, .ref a_this_otherSteps, .ref a_this_ahead, .ref a_this_now, .int v_seed])), (a_this_letters, .inl (cI, 96, .inl g_letters)), (a_this_numbers, .inl (cI, 3, .inl g_numbers_6))]) (va_runV (As := []) (rest := []) ⟨hx, hb, hml, hown, hts⟩ (k_M_here l dC dI cI cZ tt sd a_this a_this_s a_this_image a_this_was a_this_letters a_this_row a_this_refused a_this_numbers a_this_least a_this_stepsFrom a_this_most a_this_next a_this_otherSteps a_this_ahead a_this_now H.size v_hasImage v_letterMany v_rowMany v_place_5 v_seed g_letters r8 hf9) (cwV 0 hts gX8_readsStatement_X8_here rfl rfl rfl (by decide +kernel) ⟨Nat.le_of_ble_eq_true rfl, Nat.le_of_ble_eq_true rfl⟩) (zpV hP hD hK hS hA hZ [0, 1] rfl rfl 8 0 rfl rfl) rfl rfl hl.1 rfl (lv_room (Nat.le_of_ble_eq_true rfl)) dX8_readsStatement_164 ⟨Nat.zero_le _, Nat.zero_le _⟩) hP hD hS hA [0, 1] [2] [1, 2, 0] rfl rfl rfl (by decide) rfl rfl rfl (fun H locs hP hD hS => ?_)
      refine lv_bipush (v := (59 : Int32)) hx hb dX8_readsStatement_167 (by decide) ?_
      refine lv_icmp_eq (tgt := 174) hx hb dX8_readsStatement_169 (by decide) (fun c10 => ?_) (fun c10 => ?_)
      · have he := zif_t c10 he
        refine lv_aload_n hx hb dX8_readsStatement_174 rfl (lv_at hl 0 rfl) ?_
        refine lv_dup hx hb dX8_readsStatement_175 rfl ?_
        refine va_get (D := (dC, dI)) (ci := 8) (v := .int v_place_5) (C := RX8) (T := TX8) (N := 19) hx hb hts (by decide +kernel) hown hK hP 0 rfl rfl 9 (by decide) (hts (.fieldLink RX8 94 "LawOfCornersModel" "place" "I") (by decide +kernel)) (fun _ h9 => h9) rfl dX8_readsStatement_176 ?_
        refine lv_iconst (v := (1 : Int32)) hx hb dX8_readsStatement_179 (by decide) ?_
        refine lv_iadd hx hb dX8_readsStatement_180 ?_
        refine lv_topi (fun x11 ex11 => ?_)
        have he := zn_e ex11 he
        refine va_put (D := (dC, dI)) (ci := 8) (v := .int x11) (ty := .int) (C := RX8) (T := TX8) (N := 19) hx hb hts (by decide +kernel) tyX8 tyX8_ok nmX8 hown hK hP hD hS 0 rfl rfl 9 (by decide) (hts (.fieldLink RX8 94 "LawOfCornersModel" "place" "I") (by decide +kernel)) (fun _ h9 => h9) rfl (by decide +kernel) rfl rfl (Nat.le_of_ble_eq_true rfl) dX8_readsStatement_181 (fun H locs hP hD hS => ?_)
        have hP : va_P (dC, dI) vwCl [(a_this, .inr (8, [.ref a_this_s, .ref a_this_image, .ref a_this_was, .int v_hasImage, .ref a_this_letters, .ref a_this_row, .ref a_this_refused, .int v_letterMany, .int v_rowMany, .int x11, .ref a_this_numbers, .ref a_this_least, .ref a_this_stepsFrom, .ref a_this_most, .ref a_this_next, .ref a_this_otherSteps, .ref a_this_ahead, .ref a_this_now, .int v_seed])), (a_this_letters, .inl (cI, 96, .inl g_letters)), (a_this_numbers, .inl (cI, 3, .inl g_numbers_6))] H := hP
        have hD : va_D A [(a_this, .inr (8, [.ref a_this_s, .ref a_this_image, .ref a_this_was, .int v_hasImage, .ref a_this_letters, .ref a_this_row, .ref a_this_refused, .int v_letterMany, .int v_rowMany, .int x11, .ref a_this_numbers, .ref a_this_least, .ref a_this_stepsFrom, .ref a_this_most, .ref a_this_next, .ref a_this_otherSteps, .ref a_this_ahead, .ref a_this_now, .int v_seed])), (a_this_letters, .inl (cI, 96, .inl g_letters)), (a_this_numbers, .inl (cI, 3, .inl g_numbers_6))] := hD
        refine lv_iconst (v := (1 : Int32)) hx hb dX8_readsStatement_184 (by decide) ?_
        obtain ⟨rfl, rfl, rfl⟩ := zi3 he
        exact W.zret hx hb hr rfl (fun t ht hW => ⟨⟨_, (), rfl, rfl, by rw [ht]; exact hP, va_K.moved hW.alike hK, hD⟩, hS.F ht⟩) hS.2.2 dX8_readsStatement_185
      · have he := zif_f c10 he
        refine lv_iconst (v := (0 : Int32)) hx hb dX8_readsStatement_172 (by decide) ?_
        obtain ⟨rfl, rfl, rfl⟩ := zi3 he
        exact W.zret hx hb hr rfl (fun t ht hW => ⟨⟨_, (), rfl, rfl, by rw [ht]; exact hP, va_K.moved hW.alike hK, hD⟩, hS.F ht⟩) hS.2.2 dX8_readsStatement_173
  by_cases c13 : r1 = (98 : Int32)
  · have he := zif_t c13 he
    refine lv_lookup (off := 121) (tgt := 137) hx hb dX8_readsStatement_16 (by decide) (by rw [c13]; rfl) (by decide) ?_
    refine lv_aload_n hx hb dX8_readsStatement_137 rfl (lv_at hl 1 rfl) ?_
    refine lv_iconst (v := (0 : Int32)) hx hb dX8_readsStatement_138 (by decide) ?_
    refine lv_iconst (v := (1 : Int32)) hx hb dX8_readsStatement_139 (by decide) ?_
    obtain ⟨r14, v_place_15, g_numbers_16, hf17, he⟩ := zb3_e he
    refine zc_i (wr := []) (ws' := [(a_this, .inr (8, [.ref a_this_s, .ref a_this_image, .ref a_this_was, .int v_hasImage, .ref a_this_letters, .ref a_this_row, .ref a_this_refused, .int v_letterMany, .int v_rowMany, .int v_place_15, .ref a_this_numbers, .ref a_this_least, .ref a_this_stepsFrom, .ref a_this_most, .ref a_this_next, .ref a_this_otherSteps, .ref a_this_ahead, .ref a_this_now, .int v_seed])), (a_this_letters, .inl (cI, 96, .inl g_letters)), (a_this_numbers, .inl (cI, 3, .inl g_numbers_16))]) (va_runV (As := [.int (0 : Int32), .int (1 : Int32)]) (rest := []) ⟨hx, hb, hml, hown, hts⟩ (k_M_readsNumber l dC dI cI cZ tt sd a_this a_this_s a_this_image a_this_was a_this_letters a_this_row a_this_refused a_this_numbers a_this_least a_this_stepsFrom a_this_most a_this_next a_this_otherSteps a_this_ahead a_this_now H.size v_hasImage v_letterMany v_rowMany x3 v_seed g_letters g_numbers (0 : Int32) (1 : Int32) r14 v_place_15 g_numbers_16 hf17) (cwV 2 hts gX8_readsStatement_X8_readsNumber rfl rfl rfl (by decide +kernel) ⟨Nat.le_of_ble_eq_true rfl, Nat.le_of_ble_eq_true rfl⟩) (zpV hP hD hK hS hA hZ [0, 1, 2] rfl rfl 8 0 rfl rfl) rfl rfl hl.1 rfl (lv_room (Nat.le_of_ble_eq_true rfl)) dX8_readsStatement_140 ⟨Nat.zero_le _, Nat.zero_le _⟩) hP hD hS hA [0, 1, 2] [] [0, 1, 2] rfl rfl rfl (by decide) rfl rfl rfl (fun H locs hP hD hS => ?_)
    refine lv_istore_n (lv' := [(2, .int r14), (1, .int r1), (0, .ref a_this)]) hx hb dX8_readsStatement_143 rfl hl (by decide) rfl (fun ls hl => ?_)
    refine lv_goto (tgt := 159) hx hb dX8_readsStatement_144 (by decide) ?_
    exact (hWW _ _ _ _).mp (hk12 r14 v_place_15 g_numbers_16 he) _ _ _ hP hD hS (lv_sub hl [2, 0] rfl)
  have he := zif_f c13 he
  by_cases c18 : r1 = (102 : Int32)
  · have he := zif_t c18 he
    refine lv_lookup (off := 121) (tgt := 137) hx hb dX8_readsStatement_16 (by decide) (by rw [c18]; rfl) (by decide) ?_
    refine lv_aload_n hx hb dX8_readsStatement_137 rfl (lv_at hl 1 rfl) ?_
    refine lv_iconst (v := (0 : Int32)) hx hb dX8_readsStatement_138 (by decide) ?_
    refine lv_iconst (v := (1 : Int32)) hx hb dX8_readsStatement_139 (by decide) ?_
    obtain ⟨r19, v_place_20, g_numbers_21, hf22, he⟩ := zb3_e he
    refine zc_i (wr := []) (ws' := [(a_this, .inr (8, [.ref a_this_s, .ref a_this_image, .ref a_this_was, .int v_hasImage, .ref a_this_letters, .ref a_this_row, .ref a_this_refused, .int v_letterMany, .int v_rowMany, .int v_place_20, .ref a_this_numbers, .ref a_this_least, .ref a_this_stepsFrom, .ref a_this_most, .ref a_this_next, .ref a_this_otherSteps, .ref a_this_ahead, .ref a_this_now, .int v_seed])), (a_this_letters, .inl (cI, 96, .inl g_letters)), (a_this_numbers, .inl (cI, 3, .inl g_numbers_21))]) (va_runV (As := [.int (0 : Int32), .int (1 : Int32)]) (rest := []) ⟨hx, hb, hml, hown, hts⟩ (k_M_readsNumber l dC dI cI cZ tt sd a_this a_this_s a_this_image a_this_was a_this_letters a_this_row a_this_refused a_this_numbers a_this_least a_this_stepsFrom a_this_most a_this_next a_this_otherSteps a_this_ahead a_this_now H.size v_hasImage v_letterMany v_rowMany x3 v_seed g_letters g_numbers (0 : Int32) (1 : Int32) r19 v_place_20 g_numbers_21 hf22) (cwV 2 hts gX8_readsStatement_X8_readsNumber rfl rfl rfl (by decide +kernel) ⟨Nat.le_of_ble_eq_true rfl, Nat.le_of_ble_eq_true rfl⟩) (zpV hP hD hK hS hA hZ [0, 1, 2] rfl rfl 8 0 rfl rfl) rfl rfl hl.1 rfl (lv_room (Nat.le_of_ble_eq_true rfl)) dX8_readsStatement_140 ⟨Nat.zero_le _, Nat.zero_le _⟩) hP hD hS hA [0, 1, 2] [] [0, 1, 2] rfl rfl rfl (by decide) rfl rfl rfl (fun H locs hP hD hS => ?_)
    refine lv_istore_n (lv' := [(2, .int r19), (1, .int r1), (0, .ref a_this)]) hx hb dX8_readsStatement_143 rfl hl (by decide) rfl (fun ls hl => ?_)
    refine lv_goto (tgt := 159) hx hb dX8_readsStatement_144 (by decide) ?_
    exact (hWW _ _ _ _).mp (hk12 r19 v_place_20 g_numbers_21 he) _ _ _ hP hD hS (lv_sub hl [2, 0] rfl)
  have he := zif_f c18 he
  by_cases c23 : r1 = (104 : Int32)
  · have he := zif_t c23 he
    refine lv_lookup (off := 111) (tgt := 127) hx hb dX8_readsStatement_16 (by decide) (by rw [c23]; rfl) (by decide) ?_
    refine lv_aload_n hx hb dX8_readsStatement_127 rfl (lv_at hl 1 rfl) ?_
    refine lv_iconst (v := (0 : Int32)) hx hb dX8_readsStatement_128 (by decide) ?_
    refine lv_iconst (v := (2 : Int32)) hx hb dX8_readsStatement_129 (by decide) ?_
    obtain ⟨r24, v_place_25, g_numbers_26, hf27, he⟩ := zb3_e he
    refine zc_i (wr := []) (ws' := [(a_this, .inr (8, [.ref a_this_s, .ref a_this_image, .ref a_this_was, .int v_hasImage, .ref a_this_letters, .ref a_this_row, .ref a_this_refused, .int v_letterMany, .int v_rowMany, .int v_place_25, .ref a_this_numbers, .ref a_this_least, .ref a_this_stepsFrom, .ref a_this_most, .ref a_this_next, .ref a_this_otherSteps, .ref a_this_ahead, .ref a_this_now, .int v_seed])), (a_this_letters, .inl (cI, 96, .inl g_letters)), (a_this_numbers, .inl (cI, 3, .inl g_numbers_26))]) (va_runV (As := [.int (0 : Int32), .int (2 : Int32)]) (rest := []) ⟨hx, hb, hml, hown, hts⟩ (k_M_readsNumber l dC dI cI cZ tt sd a_this a_this_s a_this_image a_this_was a_this_letters a_this_row a_this_refused a_this_numbers a_this_least a_this_stepsFrom a_this_most a_this_next a_this_otherSteps a_this_ahead a_this_now H.size v_hasImage v_letterMany v_rowMany x3 v_seed g_letters g_numbers (0 : Int32) (2 : Int32) r24 v_place_25 g_numbers_26 hf27) (cwV 2 hts gX8_readsStatement_X8_readsNumber rfl rfl rfl (by decide +kernel) ⟨Nat.le_of_ble_eq_true rfl, Nat.le_of_ble_eq_true rfl⟩) (zpV hP hD hK hS hA hZ [0, 1, 2] rfl rfl 8 0 rfl rfl) rfl rfl hl.1 rfl (lv_room (Nat.le_of_ble_eq_true rfl)) dX8_readsStatement_130 ⟨Nat.zero_le _, Nat.zero_le _⟩) hP hD hS hA [0, 1, 2] [] [0, 1, 2] rfl rfl rfl (by decide) rfl rfl rfl (fun H locs hP hD hS => ?_)
    refine lv_istore_n (lv' := [(2, .int r24), (1, .int r1), (0, .ref a_this)]) hx hb dX8_readsStatement_133 rfl hl (by decide) rfl (fun ls hl => ?_)
    refine lv_goto (tgt := 159) hx hb dX8_readsStatement_134 (by decide) ?_
    exact (hWW _ _ _ _).mp (hk12 r24 v_place_25 g_numbers_26 he) _ _ _ hP hD hS (lv_sub hl [2, 0] rfl)
  have he := zif_f c23 he
  by_cases c28 : r1 = (107 : Int32)
  · have he := zif_t c28 he
    refine lv_lookup (off := 52) (tgt := 68) hx hb dX8_readsStatement_16 (by decide) (by rw [c28]; rfl) (by decide) ?_
    refine lv_aload_n hx hb dX8_readsStatement_68 rfl (lv_at hl 1 rfl) ?_
    obtain ⟨r29, v_place_30, g_numbers_31, hf32, he⟩ := zb3_e he
    refine zc_i (wr := []) (ws' := [(a_this, .inr (8, [.ref a_this_s, .ref a_this_image, .ref a_this_was, .int v_hasImage, .ref a_this_letters, .ref a_this_row, .ref a_this_refused, .int v_letterMany, .int v_rowMany, .int v_place_30, .ref a_this_numbers, .ref a_this_least, .ref a_this_stepsFrom, .ref a_this_most, .ref a_this_next, .ref a_this_otherSteps, .ref a_this_ahead, .ref a_this_now, .int v_seed])), (a_this_letters, .inl (cI, 96, .inl g_letters)), (a_this_numbers, .inl (cI, 3, .inl g_numbers_31))]) (va_runV (As := []) (rest := []) ⟨hx, hb, hml, hown, hts⟩ (k_M_readsKind l dC dI cI cZ tt sd a_this a_this_s a_this_image a_this_was a_this_letters a_this_row a_this_refused a_this_numbers a_this_least a_this_stepsFrom a_this_most a_this_next a_this_otherSteps a_this_ahead a_this_now H.size v_hasImage v_letterMany v_rowMany x3 v_seed g_letters g_numbers r29 v_place_30 g_numbers_31 hf32) (cwV 0 hts gX8_readsStatement_X8_readsKind rfl rfl rfl (by decide +kernel) ⟨Nat.le_of_ble_eq_true rfl, Nat.le_of_ble_eq_true rfl⟩) (zpV hP hD hK hS hA hZ [0, 1, 2] rfl rfl 8 0 rfl rfl) rfl rfl hl.1 rfl (lv_room (Nat.le_of_ble_eq_true rfl)) dX8_readsStatement_69 ⟨Nat.zero_le _, Nat.zero_le _⟩) hP hD hS hA [0, 1, 2] [] [0, 1, 2] rfl rfl rfl (by decide) rfl rfl rfl (fun H locs hP hD hS => ?_)
    refine zj3_w he (fun (s33 : Int32) (v_place_34 : Int32) (g_numbers_35 : Nat → Int32) => WW [(a_this, .inr (8, [.ref a_this_s, .ref a_this_image, .ref a_this_was, .int v_hasImage, .ref a_this_letters, .ref a_this_row, .ref a_this_refused, .int v_letterMany, .int v_rowMany, .int v_place_34, .ref a_this_numbers, .ref a_this_least, .ref a_this_stepsFrom, .ref a_this_most, .ref a_this_next, .ref a_this_otherSteps, .ref a_this_ahead, .ref a_this_now, .int v_seed])), (a_this_letters, .inl (cI, 96, .inl g_letters)), (a_this_numbers, .inl (cI, 3, .inl g_numbers_35))] [(0, .ref a_this)] 89 [.int s33]) (fun s33 v_place_34 g_numbers_35 he => (hWW _ _ _ _).mpr (fun H locs ls hP hD hS hl => ?_)) (fun k36 hk36 he => ?_)
    · refine lv_istore_n (lv' := [(2, .int s33), (0, .ref a_this)]) hx hb dX8_readsStatement_89 rfl hl (by decide) rfl (fun ls hl => ?_)
      refine lv_goto (tgt := 159) hx hb dX8_readsStatement_90 (by decide) ?_
      exact (hWW _ _ _ _).mp (hk12 s33 v_place_34 g_numbers_35 he) _ _ _ hP hD hS (lv_sub hl [1, 0] rfl)
    refine zj2_w he (fun (v_place_37 : Int32) (g_numbers_38 : Nat → Int32) => WW [(a_this, .inr (8, [.ref a_this_s, .ref a_this_image, .ref a_this_was, .int v_hasImage, .ref a_this_letters, .ref a_this_row, .ref a_this_refused, .int v_letterMany, .int v_rowMany, .int v_place_37, .ref a_this_numbers, .ref a_this_least, .ref a_this_stepsFrom, .ref a_this_most, .ref a_this_next, .ref a_this_otherSteps, .ref a_this_ahead, .ref a_this_now, .int v_seed])), (a_this_letters, .inl (cI, 96, .inl g_letters)), (a_this_numbers, .inl (cI, 3, .inl g_numbers_38))] [(0, .ref a_this)] 88 []) (fun v_place_37 g_numbers_38 he => (hWW _ _ _ _).mpr (fun H locs ls hP hD hS hl => ?_)) (fun k39 hk39 he => ?_)
    · refine lv_iconst (v := (0 : Int32)) hx hb dX8_readsStatement_88 (by decide) ?_
      exact (hWW _ _ _ _).mp (hk36 (0 : Int32) v_place_37 g_numbers_38 he) _ _ _ hP hD hS (lv_sub hl [0] rfl)
    refine lv_if_eq (tgt := 88) hx hb dX8_readsStatement_72 (by decide) (fun c40 => ?_) (fun c40 => ?_)
    · have he := zif_t c40 he
      exact (hWW _ _ _ _).mp (hk39 v_place_30 g_numbers_31 he) _ _ _ hP hD hS (lv_sub hl [1] rfl)
    · have he := zif_f c40 he
      refine lv_aload_n hx hb dX8_readsStatement_75 rfl (lv_at hl 1 rfl) ?_
      refine lv_iconst (v := (1 : Int32)) hx hb dX8_readsStatement_76 (by decide) ?_
      refine lv_iconst (v := (2 : Int32)) hx hb dX8_readsStatement_77 (by decide) ?_
      obtain ⟨r41, v_place_42, g_numbers_43, hf44, he⟩ := zb3_e he
      refine zc_i (wr := []) (ws' := [(a_this, .inr (8, [.ref a_this_s, .ref a_this_image, .ref a_this_was, .int v_hasImage, .ref a_this_letters, .ref a_this_row, .ref a_this_refused, .int v_letterMany, .int v_rowMany, .int v_place_42, .ref a_this_numbers, .ref a_this_least, .ref a_this_stepsFrom, .ref a_this_most, .ref a_this_next, .ref a_this_otherSteps, .ref a_this_ahead, .ref a_this_now, .int v_seed])), (a_this_letters, .inl (cI, 96, .inl g_letters)), (a_this_numbers, .inl (cI, 3, .inl g_numbers_43))]) (va_runV (As := [.int (1 : Int32), .int (2 : Int32)]) (rest := []) ⟨hx, hb, hml, hown, hts⟩ (k_M_readsNumber l dC dI cI cZ tt sd a_this a_this_s a_this_image a_this_was a_this_letters a_this_row a_this_refused a_this_numbers a_this_least a_this_stepsFrom a_this_most a_this_next a_this_otherSteps a_this_ahead a_this_now H.size v_hasImage v_letterMany v_rowMany v_place_30 v_seed g_letters g_numbers_31 (1 : Int32) (2 : Int32) r41 v_place_42 g_numbers_43 hf44) (cwV 2 hts gX8_readsStatement_X8_readsNumber rfl rfl rfl (by decide +kernel) ⟨Nat.le_of_ble_eq_true rfl, Nat.le_of_ble_eq_true rfl⟩) (zpV hP hD hK hS hA hZ [0, 1, 2] rfl rfl 8 0 rfl rfl) rfl rfl hl.1 rfl (lv_room (Nat.le_of_ble_eq_true rfl)) dX8_readsStatement_78 ⟨Nat.zero_le _, Nat.zero_le _⟩) hP hD hS hA [0, 1, 2] [] [0, 1, 2] rfl rfl rfl (by decide) rfl rfl rfl (fun H locs hP hD hS => ?_)
      refine lv_if_eq (tgt := 88) hx hb dX8_readsStatement_81 (by decide) (fun c45 => ?_) (fun c45 => ?_)
      · have he := zif_t c45 he
        exact (hWW _ _ _ _).mp (hk39 v_place_42 g_numbers_43 he) _ _ _ hP hD hS (lv_sub hl [1] rfl)
      · have he := zif_f c45 he
        refine lv_iconst (v := (1 : Int32)) hx hb dX8_readsStatement_84 (by decide) ?_
        refine lv_goto (tgt := 89) hx hb dX8_readsStatement_85 (by decide) ?_
        exact (hWW _ _ _ _).mp (hk36 (1 : Int32) v_place_42 g_numbers_43 he) _ _ _ hP hD hS (lv_sub hl [1] rfl)
  have he := zif_f c28 he
  by_cases c46 : r1 = (118 : Int32)
  · have he := zif_t c46 he
    refine lv_lookup (off := 77) (tgt := 93) hx hb dX8_readsStatement_16 (by decide) (by rw [c46]; rfl) (by decide) ?_
    refine lv_aload_n hx hb dX8_readsStatement_93 rfl (lv_at hl 1 rfl) ?_
    obtain ⟨r47, v_place_48, g_numbers_49, hf50, he⟩ := zb3_e he
    refine zc_i (wr := []) (ws' := [(a_this, .inr (8, [.ref a_this_s, .ref a_this_image, .ref a_this_was, .int v_hasImage, .ref a_this_letters, .ref a_this_row, .ref a_this_refused, .int v_letterMany, .int v_rowMany, .int v_place_48, .ref a_this_numbers, .ref a_this_least, .ref a_this_stepsFrom, .ref a_this_most, .ref a_this_next, .ref a_this_otherSteps, .ref a_this_ahead, .ref a_this_now, .int v_seed])), (a_this_letters, .inl (cI, 96, .inl g_letters)), (a_this_numbers, .inl (cI, 3, .inl g_numbers_49))]) (va_runV (As := []) (rest := []) ⟨hx, hb, hml, hown, hts⟩ (k_M_readsKind l dC dI cI cZ tt sd a_this a_this_s a_this_image a_this_was a_this_letters a_this_row a_this_refused a_this_numbers a_this_least a_this_stepsFrom a_this_most a_this_next a_this_otherSteps a_this_ahead a_this_now H.size v_hasImage v_letterMany v_rowMany x3 v_seed g_letters g_numbers r47 v_place_48 g_numbers_49 hf50) (cwV 0 hts gX8_readsStatement_X8_readsKind rfl rfl rfl (by decide +kernel) ⟨Nat.le_of_ble_eq_true rfl, Nat.le_of_ble_eq_true rfl⟩) (zpV hP hD hK hS hA hZ [0, 1, 2] rfl rfl 8 0 rfl rfl) rfl rfl hl.1 rfl (lv_room (Nat.le_of_ble_eq_true rfl)) dX8_readsStatement_94 ⟨Nat.zero_le _, Nat.zero_le _⟩) hP hD hS hA [0, 1, 2] [] [0, 1, 2] rfl rfl rfl (by decide) rfl rfl rfl (fun H locs hP hD hS => ?_)
    refine zj3_w he (fun (s51 : Int32) (v_place_52 : Int32) (g_numbers_53 : Nat → Int32) => WW [(a_this, .inr (8, [.ref a_this_s, .ref a_this_image, .ref a_this_was, .int v_hasImage, .ref a_this_letters, .ref a_this_row, .ref a_this_refused, .int v_letterMany, .int v_rowMany, .int v_place_52, .ref a_this_numbers, .ref a_this_least, .ref a_this_stepsFrom, .ref a_this_most, .ref a_this_next, .ref a_this_otherSteps, .ref a_this_ahead, .ref a_this_now, .int v_seed])), (a_this_letters, .inl (cI, 96, .inl g_letters)), (a_this_numbers, .inl (cI, 3, .inl g_numbers_53))] [(0, .ref a_this)] 123 [.int s51]) (fun s51 v_place_52 g_numbers_53 he => (hWW _ _ _ _).mpr (fun H locs ls hP hD hS hl => ?_)) (fun k54 hk54 he => ?_)
    · refine lv_istore_n (lv' := [(2, .int s51), (0, .ref a_this)]) hx hb dX8_readsStatement_123 rfl hl (by decide) rfl (fun ls hl => ?_)
      refine lv_goto (tgt := 159) hx hb dX8_readsStatement_124 (by decide) ?_
      exact (hWW _ _ _ _).mp (hk12 s51 v_place_52 g_numbers_53 he) _ _ _ hP hD hS (lv_sub hl [1, 0] rfl)
    refine zj2_w he (fun (v_place_55 : Int32) (g_numbers_56 : Nat → Int32) => WW [(a_this, .inr (8, [.ref a_this_s, .ref a_this_image, .ref a_this_was, .int v_hasImage, .ref a_this_letters, .ref a_this_row, .ref a_this_refused, .int v_letterMany, .int v_rowMany, .int v_place_55, .ref a_this_numbers, .ref a_this_least, .ref a_this_stepsFrom, .ref a_this_most, .ref a_this_next, .ref a_this_otherSteps, .ref a_this_ahead, .ref a_this_now, .int v_seed])), (a_this_letters, .inl (cI, 96, .inl g_letters)), (a_this_numbers, .inl (cI, 3, .inl g_numbers_56))] [(0, .ref a_this)] 122 []) (fun v_place_55 g_numbers_56 he => (hWW _ _ _ _).mpr (fun H locs ls hP hD hS hl => ?_)) (fun k57 hk57 he => ?_)
    · refine lv_iconst (v := (0 : Int32)) hx hb dX8_readsStatement_122 (by decide) ?_
      exact (hWW _ _ _ _).mp (hk54 (0 : Int32) v_place_55 g_numbers_56 he) _ _ _ hP hD hS (lv_sub hl [0] rfl)
    refine lv_if_eq (tgt := 122) hx hb dX8_readsStatement_97 (by decide) (fun c58 => ?_) (fun c58 => ?_)
    · have he := zif_t c58 he
      exact (hWW _ _ _ _).mp (hk57 v_place_48 g_numbers_49 he) _ _ _ hP hD hS (lv_sub hl [1] rfl)
    · have he := zif_f c58 he
      refine lv_aload_n hx hb dX8_readsStatement_100 rfl (lv_at hl 1 rfl) ?_
      refine lv_iconst (v := (1 : Int32)) hx hb dX8_readsStatement_101 (by decide) ?_
      refine lv_iconst (v := (2 : Int32)) hx hb dX8_readsStatement_102 (by decide) ?_
      obtain ⟨r59, v_place_60, g_numbers_61, hf62, he⟩ := zb3_e he
      refine zc_i (wr := []) (ws' := [(a_this, .inr (8, [.ref a_this_s, .ref a_this_image, .ref a_this_was, .int v_hasImage, .ref a_this_letters, .ref a_this_row, .ref a_this_refused, .int v_letterMany, .int v_rowMany, .int v_place_60, .ref a_this_numbers, .ref a_this_least, .ref a_this_stepsFrom, .ref a_this_most, .ref a_this_next, .ref a_this_otherSteps, .ref a_this_ahead, .ref a_this_now, .int v_seed])), (a_this_letters, .inl (cI, 96, .inl g_letters)), (a_this_numbers, .inl (cI, 3, .inl g_numbers_61))]) (va_runV (As := [.int (1 : Int32), .int (2 : Int32)]) (rest := []) ⟨hx, hb, hml, hown, hts⟩ (k_M_readsNumber l dC dI cI cZ tt sd a_this a_this_s a_this_image a_this_was a_this_letters a_this_row a_this_refused a_this_numbers a_this_least a_this_stepsFrom a_this_most a_this_next a_this_otherSteps a_this_ahead a_this_now H.size v_hasImage v_letterMany v_rowMany v_place_48 v_seed g_letters g_numbers_49 (1 : Int32) (2 : Int32) r59 v_place_60 g_numbers_61 hf62) (cwV 2 hts gX8_readsStatement_X8_readsNumber rfl rfl rfl (by decide +kernel) ⟨Nat.le_of_ble_eq_true rfl, Nat.le_of_ble_eq_true rfl⟩) (zpV hP hD hK hS hA hZ [0, 1, 2] rfl rfl 8 0 rfl rfl) rfl rfl hl.1 rfl (lv_room (Nat.le_of_ble_eq_true rfl)) dX8_readsStatement_103 ⟨Nat.zero_le _, Nat.zero_le _⟩) hP hD hS hA [0, 1, 2] [] [0, 1, 2] rfl rfl rfl (by decide) rfl rfl rfl (fun H locs hP hD hS => ?_)
      refine lv_if_eq (tgt := 122) hx hb dX8_readsStatement_106 (by decide) (fun c63 => ?_) (fun c63 => ?_)
      · have he := zif_t c63 he
        exact (hWW _ _ _ _).mp (hk57 v_place_60 g_numbers_61 he) _ _ _ hP hD hS (lv_sub hl [1] rfl)
      · have he := zif_f c63 he
        refine lv_aload_n hx hb dX8_readsStatement_109 rfl (lv_at hl 1 rfl) ?_
        refine lv_iconst (v := (2 : Int32)) hx hb dX8_readsStatement_110 (by decide) ?_
        refine lv_iconst (v := (2 : Int32)) hx hb dX8_readsStatement_111 (by decide) ?_
        obtain ⟨r64, v_place_65, g_numbers_66, hf67, he⟩ := zb3_e he
        refine zc_i (wr := []) (ws' := [(a_this, .inr (8, [.ref a_this_s, .ref a_this_image, .ref a_this_was, .int v_hasImage, .ref a_this_letters, .ref a_this_row, .ref a_this_refused, .int v_letterMany, .int v_rowMany, .int v_place_65, .ref a_this_numbers, .ref a_this_least, .ref a_this_stepsFrom, .ref a_this_most, .ref a_this_next, .ref a_this_otherSteps, .ref a_this_ahead, .ref a_this_now, .int v_seed])), (a_this_letters, .inl (cI, 96, .inl g_letters)), (a_this_numbers, .inl (cI, 3, .inl g_numbers_66))]) (va_runV (As := [.int (2 : Int32), .int (2 : Int32)]) (rest := []) ⟨hx, hb, hml, hown, hts⟩ (k_M_readsNumber l dC dI cI cZ tt sd a_this a_this_s a_this_image a_this_was a_this_letters a_this_row a_this_refused a_this_numbers a_this_least a_this_stepsFrom a_this_most a_this_next a_this_otherSteps a_this_ahead a_this_now H.size v_hasImage v_letterMany v_rowMany v_place_60 v_seed g_letters g_numbers_61 (2 : Int32) (2 : Int32) r64 v_place_65 g_numbers_66 hf67) (cwV 2 hts gX8_readsStatement_X8_readsNumber rfl rfl rfl (by decide +kernel) ⟨Nat.le_of_ble_eq_true rfl, Nat.le_of_ble_eq_true rfl⟩) (zpV hP hD hK hS hA hZ [0, 1, 2] rfl rfl 8 0 rfl rfl) rfl rfl hl.1 rfl (lv_room (Nat.le_of_ble_eq_true rfl)) dX8_readsStatement_112 ⟨Nat.zero_le _, Nat.zero_le _⟩) hP hD hS hA [0, 1, 2] [] [0, 1, 2] rfl rfl rfl (by decide) rfl rfl rfl (fun H locs hP hD hS => ?_)
        refine lv_if_eq (tgt := 122) hx hb dX8_readsStatement_115 (by decide) (fun c68 => ?_) (fun c68 => ?_)
        · have he := zif_t c68 he
          exact (hWW _ _ _ _).mp (hk57 v_place_65 g_numbers_66 he) _ _ _ hP hD hS (lv_sub hl [1] rfl)
        · have he := zif_f c68 he
          refine lv_iconst (v := (1 : Int32)) hx hb dX8_readsStatement_118 (by decide) ?_
          refine lv_goto (tgt := 123) hx hb dX8_readsStatement_119 (by decide) ?_
          exact (hWW _ _ _ _).mp (hk54 (1 : Int32) v_place_65 g_numbers_66 he) _ _ _ hP hD hS (lv_sub hl [1] rfl)
  have he := zif_f c46 he
  refine lv_lookup (off := 131) (tgt := 147) hx hb dX8_readsStatement_16 (by decide) (by show Op.lookupswitch.offset [(98, 121), (102, 121), (104, 111), (107, 52), (118, 77)] (131) _ = _; rw [lv_osw c13 (by decide), lv_osw c18 (by decide), lv_osw c23 (by decide), lv_osw c28 (by decide), lv_osw c46 (by decide)]; rfl) (by decide) ?_
  refine lv_aload_n hx hb dX8_readsStatement_147 rfl (lv_at hl 1 rfl) ?_
  refine lv_dup hx hb dX8_readsStatement_148 rfl ?_
  refine va_get (D := (dC, dI)) (ci := 8) (v := .int x3) (C := RX8) (T := TX8) (N := 19) hx hb hts (by decide +kernel) hown hK hP 0 rfl rfl 9 (by decide) (hts (.fieldLink RX8 94 "LawOfCornersModel" "place" "I") (by decide +kernel)) (fun _ h9 => h9) rfl dX8_readsStatement_149 ?_
  refine lv_iconst (v := (1 : Int32)) hx hb dX8_readsStatement_152 (by decide) ?_
  refine lv_isub hx hb dX8_readsStatement_153 ?_
  refine lv_topi (fun x69 ex69 => ?_)
  have he := zn_e ex69 he
  refine va_put (D := (dC, dI)) (ci := 8) (v := .int x69) (ty := .int) (C := RX8) (T := TX8) (N := 19) hx hb hts (by decide +kernel) tyX8 tyX8_ok nmX8 hown hK hP hD hS 0 rfl rfl 9 (by decide) (hts (.fieldLink RX8 94 "LawOfCornersModel" "place" "I") (by decide +kernel)) (fun _ h9 => h9) rfl (by decide +kernel) rfl rfl (Nat.le_of_ble_eq_true rfl) dX8_readsStatement_154 (fun H locs hP hD hS => ?_)
  have hP : va_P (dC, dI) vwCl [(a_this, .inr (8, [.ref a_this_s, .ref a_this_image, .ref a_this_was, .int v_hasImage, .ref a_this_letters, .ref a_this_row, .ref a_this_refused, .int v_letterMany, .int v_rowMany, .int x69, .ref a_this_numbers, .ref a_this_least, .ref a_this_stepsFrom, .ref a_this_most, .ref a_this_next, .ref a_this_otherSteps, .ref a_this_ahead, .ref a_this_now, .int v_seed])), (a_this_letters, .inl (cI, 96, .inl g_letters)), (a_this_numbers, .inl (cI, 3, .inl g_numbers))] H := hP
  have hD : va_D A [(a_this, .inr (8, [.ref a_this_s, .ref a_this_image, .ref a_this_was, .int v_hasImage, .ref a_this_letters, .ref a_this_row, .ref a_this_refused, .int v_letterMany, .int v_rowMany, .int x69, .ref a_this_numbers, .ref a_this_least, .ref a_this_stepsFrom, .ref a_this_most, .ref a_this_next, .ref a_this_otherSteps, .ref a_this_ahead, .ref a_this_now, .int v_seed])), (a_this_letters, .inl (cI, 96, .inl g_letters)), (a_this_numbers, .inl (cI, 3, .inl g_numbers))] := hD
  refine lv_iconst (v := (0 : Int32)) hx hb dX8_readsStatement_157 (by decide) ?_
  obtain ⟨rfl, rfl, rfl⟩ := zi3 he
  exact W.zret hx hb hr rfl (fun t ht hW => ⟨⟨_, (), rfl, rfl, by rw [ht]; exact hP, va_K.moved hW.alike hK, hD⟩, hS.F ht⟩) hS.2.2 dX8_readsStatement_158
