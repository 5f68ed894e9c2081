set_option maxHeartbeats 4000000 in
set_option maxRecDepth 100000 in
theorem k_M_set (l : Launch) (dC : Nat → ClassId) (dI : Nat → Nat → Nat) (cI : ClassId) (cZ : ClassId) (tt : Nat → Nat) (sd : Nat → Nat) (a_this : Nat) (a_this_s : Nat) (a_this_image : Nat) (a_this_was : Nat) (a_this_letters : Nat) (a_this_row : Nat) (a_this_refused : Nat) (a_this_numbers : Nat) (a_this_least : Nat) (a_this_stepsFrom : Nat) (a_this_most : Nat) (a_this_next : Nat) (a_this_otherSteps : Nat) (a_this_ahead : Nat) (a_this_now : Nat) (sz : Nat) (v_hasImage : Int32) (v_letterMany : Int32) (v_rowMany : Int32) (v_place : Int32) (v_seed : Int32) (g_refused : Nat → Int32) (g_s : Nat → Int32) (p1 : Int32) (p2 : Int32) (r0 : Int32) (w0 : Nat → Int32) (w1 : Nat → Int32) (hf : f_M_set g_refused g_s p1 p2 = some (r0, w0, w1)) : Met l yX8_set wsX8_set ({ frames := 2, cells := 0, slots := 0, locals := 42 }) (zPre (dC, dI) vwCl [(cI, .int), (cZ, .boolean)] tt sd [.ref a_this, .int p1, .int p2] [(a_this, .inr (8, [.ref a_this_s, .ref a_this_image, .ref a_this_was, .int v_hasImage, .ref a_this_letters, .ref a_this_row, .ref a_this_refused, .int v_letterMany, .int v_rowMany, .int v_place, .ref a_this_numbers, .ref a_this_least, .ref a_this_stepsFrom, .ref a_this_most, .ref a_this_next, .ref a_this_otherSteps, .ref a_this_ahead, .ref a_this_now, .int v_seed])), (a_this_refused, .inl (cI, 7, .inl g_refused)), (a_this_s, .inl (cI, 39, .inl g_s))] sz) (zQi (dC, dI) vwCl [(cI, .int), (cZ, .boolean)] r0 [(a_this, .inr (8, [.ref a_this_s, .ref a_this_image, .ref a_this_was, .int v_hasImage, .ref a_this_letters, .ref a_this_row, .ref a_this_refused, .int v_letterMany, .int v_rowMany, .int v_place, .ref a_this_numbers, .ref a_this_least, .ref a_this_stepsFrom, .ref a_this_most, .ref a_this_next, .ref a_this_otherSteps, .ref a_this_ahead, .ref a_this_now, .int v_seed])), (a_this_refused, .inl (cI, 7, .inl w0)), (a_this_s, .inl (cI, 39, .inl w1))] (va_A [(a_this, .inr (8, [.ref a_this_s, .ref a_this_image, .ref a_this_was, .int v_hasImage, .ref a_this_letters, .ref a_this_row, .ref a_this_refused, .int v_letterMany, .int v_rowMany, .int v_place, .ref a_this_numbers, .ref a_this_least, .ref a_this_stepsFrom, .ref a_this_most, .ref a_this_next, .ref a_this_otherSteps, .ref a_this_ahead, .ref a_this_now, .int v_seed])), (a_this_refused, .inl (cI, 7, .inl g_refused)), (a_this_s, .inl (cI, 39, .inl g_s))] sz)) 0 0 (va_A [(a_this, .inr (8, [.ref a_this_s, .ref a_this_image, .ref a_this_was, .int v_hasImage, .ref a_this_letters, .ref a_this_row, .ref a_this_refused, .int v_letterMany, .int v_rowMany, .int v_place, .ref a_this_numbers, .ref a_this_least, .ref a_this_stepsFrom, .ref a_this_most, .ref a_this_next, .ref a_this_otherSteps, .ref a_this_ahead, .ref a_this_now, .int v_seed])), (a_this_refused, .inl (cI, 7, .inl g_refused)), (a_this_s, .inl (cI, 39, .inl g_s))] sz) := by
  refine Met.ofW (cc := cX8_set) (maxL := 4) (ret := (some .int)) (by decide) rfl ?_
  intro p e s m args below meth c s₁ B hml hv
  obtain ⟨rfl, hsz, hP, hK, hD0, hZ⟩ := hv
  have hx := B.exec
  have hb := B.bytes
  have hr := B.returns
  have hts := atoms_spec (ws := wsX8_set) B.pre
  have hown : s.vm.findClass RX8 = some m.cls := findClass_of_methodNamed B.named
  have hlocks := B.notSynchronized
  subst hsz
  have hD := hD0.self (sz := s.heap.size)
  generalize hAe : va_A [(a_this, .inr (8, [.ref a_this_s, .ref a_this_image, .ref a_this_was, .int v_hasImage, .ref a_this_letters, .ref a_this_row, .ref a_this_refused, .int v_letterMany, .int v_rowMany, .int v_place, .ref a_this_numbers, .ref a_this_least, .ref a_this_stepsFrom, .ref a_this_most, .ref a_this_next, .ref a_this_otherSteps, .ref a_this_ahead, .ref a_this_now, .int v_seed])), (a_this_refused, .inl (cI, 7, .inl g_refused)), (a_this_s, .inl (cI, 39, .inl g_s))] s.heap.size = A at hD hZ ⊢
  have hA : ∀ q : Nat, s.heap.size ≤ q → A q := fun q h => by rw [← hAe]; exact Or.inr h
  have hS : va_S A s.heap s.heap [] := va_S.rf
  have hP : va_P (dC, dI) vwCl [(a_this, .inr (8, [.ref a_this_s, .ref a_this_image, .ref a_this_was, .int v_hasImage, .ref a_this_letters, .ref a_this_row, .ref a_this_refused, .int v_letterMany, .int v_rowMany, .int v_place, .ref a_this_numbers, .ref a_this_least, .ref a_this_stepsFrom, .ref a_this_most, .ref a_this_next, .ref a_this_otherSteps, .ref a_this_ahead, .ref a_this_now, .int v_seed])), (a_this_refused, .inl (cI, 7, .inl g_refused)), (a_this_s, .inl (cI, 39, .inl g_s))] s.heap := hP
  have hl := lv_entry ([.ref a_this, .int p1, .int p2]) (n := 4) (Nat.le_of_ble_eq_true rfl)
  rw [lg_entry_eq]
  generalize (lg_sl ([.ref a_this, .int p1, .int p2]) ++ List.replicate (4 - (lg_sl ([.ref a_this, .int p1, .int p2])).length) Slot.unset).toArray = ls at hl ⊢
  have hl : lv_has ls 4 [(0, .ref a_this), (1, .int p1), (2, .int p2)] := hl
  have he := hf
  unfold f_M_set at he
  refine zstart (D := (dC, dI)) (cl := vwCl) (A := A) (nL := 4) (fun WW hWW => ?_)
  refine lv_iload_n hx hb dX8_set_0 rfl (lv_at hl 1 rfl) ?_
  refine lv_iconst (v := (0 : Int32)) hx hb dX8_set_1 (by decide) ?_
  refine lv_iconst (v := (2 : Int32)) hx hb dX8_set_2 (by decide) ?_
  obtain ⟨r1, hf2, he⟩ := zb1_e he
  refine zc_i (wr := [(a_this, .inr (8, [.ref a_this_s, .ref a_this_image, .ref a_this_was, .int v_hasImage, .ref a_this_letters, .ref a_this_row, .ref a_this_refused, .int v_letterMany, .int v_rowMany, .int v_place, .ref a_this_numbers, .ref a_this_least, .ref a_this_stepsFrom, .ref a_this_most, .ref a_this_next, .ref a_this_otherSteps, .ref a_this_ahead, .ref a_this_now, .int v_seed])), (a_this_refused, .inl (cI, 7, .inl g_refused)), (a_this_s, .inl (cI, 39, .inl g_s))]) (ws' := [(a_this, .inr (8, [.ref a_this_s, .ref a_this_image, .ref a_this_was, .int v_hasImage, .ref a_this_letters, .ref a_this_row, .ref a_this_refused, .int v_letterMany, .int v_rowMany, .int v_place, .ref a_this_numbers, .ref a_this_least, .ref a_this_stepsFrom, .ref a_this_most, .ref a_this_next, .ref a_this_otherSteps, .ref a_this_ahead, .ref a_this_now, .int v_seed])), (a_this_refused, .inl (cI, 7, .inl g_refused)), (a_this_s, .inl (cI, 39, .inl g_s))]) (va_runS (As := [.int p1, .int (0 : Int32), .int (2 : Int32)]) (rest := []) ⟨hx, hb, hml, hown, hts⟩ (k_M_isIn l dC dI cI cZ tt sd s.heap.size p1 (0 : Int32) (2 : Int32) r1 hf2) (va_cwS 3 hts gX8_set_X8_isIn rfl rfl rfl (by decide +kernel) ⟨Nat.le_of_ble_eq_true rfl, Nat.le_of_ble_eq_true rfl⟩) (zpS hP hD hK hS hA hZ [] rfl rfl) rfl rfl hl.1 rfl (lv_room (Nat.le_of_ble_eq_true rfl)) dX8_set_3 ⟨Nat.zero_le _, Nat.zero_le _⟩) hP hD hS hA [] [0, 1, 2] [0, 1, 2] rfl rfl rfl (by decide) rfl rfl rfl (fun H locs hP hD hS => ?_)
  refine lv_if_ne (tgt := 16) hx hb dX8_set_6 (by decide) (fun c3 => ?_) (fun c3 => ?_)
  · have he := zif_f c3 he
    refine lv_iload_n hx hb dX8_set_16 rfl (lv_at hl 1 rfl) ?_
    refine zj1_w he (fun (_ : Unit) => WW [(a_this, .inr (8, [.ref a_this_s, .ref a_this_image, .ref a_this_was, .int v_hasImage, .ref a_this_letters, .ref a_this_row, .ref a_this_refused, .int v_letterMany, .int v_rowMany, .int v_place, .ref a_this_numbers, .ref a_this_least, .ref a_this_stepsFrom, .ref a_this_most, .ref a_this_next, .ref a_this_otherSteps, .ref a_this_ahead, .ref a_this_now, .int v_seed])), (a_this_refused, .inl (cI, 7, .inl g_refused)), (a_this_s, .inl (cI, 39, .inl g_s))] [(0, .ref a_this), (1, .int p1), (2, .int p2)] 33 []) (fun _ he => (hWW _ _ _ _).mpr (fun H locs ls hP hD hS hl => ?_)) (fun k28 hk28 he => ?_)
    · refine lv_iload_n hx hb dX8_set_33 rfl (lv_at hl 1 rfl) ?_
      refine zj1_w he (fun (_ : Unit) => WW [(a_this, .inr (8, [.ref a_this_s, .ref a_this_image, .ref a_this_was, .int v_hasImage, .ref a_this_letters, .ref a_this_row, .ref a_this_refused, .int v_letterMany, .int v_rowMany, .int v_place, .ref a_this_numbers, .ref a_this_least, .ref a_this_stepsFrom, .ref a_this_most, .ref a_this_next, .ref a_this_otherSteps, .ref a_this_ahead, .ref a_this_now, .int v_seed])), (a_this_refused, .inl (cI, 7, .inl g_refused)), (a_this_s, .inl (cI, 39, .inl g_s))] [(0, .ref a_this), (1, .int p1), (2, .int p2)] 52 []) (fun _ he => (hWW _ _ _ _).mpr (fun H locs ls hP hD hS hl => ?_)) (fun k20 hk20 he => ?_)
      · refine lv_iload_n hx hb dX8_set_52 rfl (lv_at hl 1 rfl) ?_
        refine zj1_w he (fun (_ : Unit) => WW [(a_this, .inr (8, [.ref a_this_s, .ref a_this_image, .ref a_this_was, .int v_hasImage, .ref a_this_letters, .ref a_this_row, .ref a_this_refused, .int v_letterMany, .int v_rowMany, .int v_place, .ref a_this_numbers, .ref a_this_least, .ref a_this_stepsFrom, .ref a_this_most, .ref a_this_next, .ref a_this_otherSteps, .ref a_this_ahead, .ref a_this_now, .int v_seed])), (a_this_refused, .inl (cI, 7, .inl g_refused)), (a_this_s, .inl (cI, 39, .inl g_s))] [(0, .ref a_this), (1, .int p1), (2, .int p2)] 70 []) (fun _ he => (hWW _ _ _ _).mpr (fun H locs ls hP hD hS hl => ?_)) (fun k14 hk14 he => ?_)
        · refine lv_iload_n hx hb dX8_set_70 rfl (lv_at hl 1 rfl) ?_
          refine zj1_w he (fun (_ : Unit) => WW [(a_this, .inr (8, [.ref a_this_s, .ref a_this_image, .ref a_this_was, .int v_hasImage, .ref a_this_letters, .ref a_this_row, .ref a_this_refused, .int v_letterMany, .int v_rowMany, .int v_place, .ref a_this_numbers, .ref a_this_least, .ref a_this_stepsFrom, .ref a_this_most, .ref a_this_next, .ref a_this_otherSteps, .ref a_this_ahead, .ref a_this_now, .int v_seed])), (a_this_refused, .inl (cI, 7, .inl g_refused)), (a_this_s, .inl (cI, 39, .inl g_s))] [(0, .ref a_this), (1, .int p1), (2, .int p2)] 87 []) (fun _ he => (hWW _ _ _ _).mpr (fun H locs ls hP hD hS hl => ?_)) (fun k8 hk8 he => ?_)
          · refine lv_aload_n hx hb dX8_set_87 rfl (lv_at hl 0 rfl) ?_
            refine va_get (D := (dC, dI)) (ci := 8) (v := .ref a_this_s) (C := RX8) (T := TX8) (N := 19) hx hb hts (by decide +kernel) hown hK hP 0 rfl rfl 0 (by decide) (hts (.fieldLink RX8 9 "LawOfCornersModel" "s" "[I") (by decide +kernel)) (fun _ h9 => h9) rfl dX8_set_88 ?_
            refine lv_bipush (v := (36 : Int32)) hx hb dX8_set_91 (by decide) ?_
            refine lv_iload_n hx hb dX8_set_93 rfl (lv_at hl 1 rfl) ?_
            refine lv_iadd hx hb dX8_set_94 ?_
            obtain ⟨hg4, he⟩ := zg_e he
            refine va_iald hx hb hK hP 2 0 rfl rfl hg4 dX8_set_95 ?_
            refine lv_topi (fun x5 ex5 => ?_)
            have he := zn_e ex5 he
            refine lv_istore_n (lv' := [(3, .int x5), (0, .ref a_this), (1, .int p1), (2, .int p2)]) hx hb dX8_set_96 rfl hl (by decide) rfl (fun ls hl => ?_)
            refine lv_aload_n hx hb dX8_set_97 rfl (lv_at hl 1 rfl) ?_
            refine va_get (D := (dC, dI)) (ci := 8) (v := .ref a_this_s) (C := RX8) (T := TX8) (N := 19) hx hb hts (by decide +kernel) hown hK hP 0 rfl rfl 0 (by decide) (hts (.fieldLink RX8 9 "LawOfCornersModel" "s" "[I") (by decide +kernel)) (fun _ h9 => h9) rfl dX8_set_98 ?_
            refine lv_bipush (v := (36 : Int32)) hx hb dX8_set_101 (by decide) ?_
            refine lv_iload_n hx hb dX8_set_103 rfl (lv_at hl 2 rfl) ?_
            refine lv_iadd hx hb dX8_set_104 ?_
            refine lv_iload_n hx hb dX8_set_105 rfl (lv_at hl 3 rfl) ?_
            obtain ⟨hg6, he⟩ := zg_e he
            refine va_iast hx hb hK hP hD hS 2 0 rfl rfl hg6 dX8_set_106 (fun H locs hP hD hS => ?_)
            obtain ⟨g7, eg7⟩ : ∃ y : Nat → Int32, y = upd g_s ((36 : Int32) + p1).toNatClampNeg p2 := ⟨_, rfl⟩
            have he := zn_e eg7 he
            have hP : va_P (dC, dI) vwCl [(a_this, .inr (8, [.ref a_this_s, .ref a_this_image, .ref a_this_was, .int v_hasImage, .ref a_this_letters, .ref a_this_row, .ref a_this_refused, .int v_letterMany, .int v_rowMany, .int v_place, .ref a_this_numbers, .ref a_this_least, .ref a_this_stepsFrom, .ref a_this_most, .ref a_this_next, .ref a_this_otherSteps, .ref a_this_ahead, .ref a_this_now, .int v_seed])), (a_this_refused, .inl (cI, 7, .inl g_refused)), (a_this_s, .inl (cI, 39, .inl g7))] H := by rw [eg7]; exact hP
            have hD : va_D A [(a_this, .inr (8, [.ref a_this_s, .ref a_this_image, .ref a_this_was, .int v_hasImage, .ref a_this_letters, .ref a_this_row, .ref a_this_refused, .int v_letterMany, .int v_rowMany, .int v_place, .ref a_this_numbers, .ref a_this_least, .ref a_this_stepsFrom, .ref a_this_most, .ref a_this_next, .ref a_this_otherSteps, .ref a_this_ahead, .ref a_this_now, .int v_seed])), (a_this_refused, .inl (cI, 7, .inl g_refused)), (a_this_s, .inl (cI, 39, .inl g7))] := by rw [eg7]; exact hD
            refine lv_iload_n hx hb dX8_set_107 rfl (lv_at hl 0 rfl) ?_
            obtain ⟨rfl, rfl, rfl⟩ := zi3 he
            exact W.iret hx hb hr (fun t ht hW => ⟨⟨_, (), rfl, rfl, by rw [ht]; exact hP, va_K.moved hW.alike hK, hD⟩, hS.F ht⟩) hS.2.2 dX8_set_108
          refine lv_if_le (tgt := 87) hx hb dX8_set_71 (by decide) (fun c9 => ?_) (fun c9 => ?_)
          · have he := zif_t c9 he
            exact (hWW _ _ _ _).mp (hk8 () he) _ _ _ hP hD hS (lv_sub hl [0, 1, 2] rfl)
          · have he := zif_f c9 he
            refine lv_iload_n hx hb dX8_set_74 rfl (lv_at hl 2 rfl) ?_
            refine lv_bipush (v := (9 : Int32)) hx hb dX8_set_75 (by decide) ?_
            refine lv_icmp_le (tgt := 87) hx hb dX8_set_77 (by decide) (fun c10 => ?_) (fun c10 => ?_)
            · have he := zif_t c10 he
              exact (hWW _ _ _ _).mp (hk8 () he) _ _ _ hP hD hS (lv_sub hl [0, 1, 2] rfl)
            · have he := zif_f c10 he
              refine lv_aload_n hx hb dX8_set_80 rfl (lv_at hl 0 rfl) ?_
              refine lv_bipush (v := (-6 : Int32)) hx hb dX8_set_81 (by decide) ?_
              obtain ⟨r11, g_refused_12, hf13, he⟩ := zb2_e he
              refine zc_i (wr := [(a_this_s, .inl (cI, 39, .inl g_s))]) (ws' := [(a_this, .inr (8, [.ref a_this_s, .ref a_this_image, .ref a_this_was, .int v_hasImage, .ref a_this_letters, .ref a_this_row, .ref a_this_refused, .int v_letterMany, .int v_rowMany, .int v_place, .ref a_this_numbers, .ref a_this_least, .ref a_this_stepsFrom, .ref a_this_most, .ref a_this_next, .ref a_this_otherSteps, .ref a_this_ahead, .ref a_this_now, .int v_seed])), (a_this_refused, .inl (cI, 7, .inl g_refused_12)), (a_this_s, .inl (cI, 39, .inl g_s))]) (va_runV (As := [.int (-6 : Int32)]) (rest := []) ⟨hx, hb, hml, hown, hts⟩ (k_M_no l dC dI cI cZ tt sd a_this a_this_s a_this_image a_this_was a_this_letters a_this_row a_this_refused a_this_numbers a_this_least a_this_stepsFrom a_this_most a_this_next a_this_otherSteps a_this_ahead a_this_now H.size v_hasImage v_letterMany v_rowMany v_place v_seed g_refused (-6 : Int32) r11 g_refused_12 hf13) (cwV 1 hts gX8_set_X8_no rfl rfl rfl (by decide +kernel) ⟨Nat.le_of_ble_eq_true rfl, Nat.le_of_ble_eq_true rfl⟩) (zpV hP hD hK hS hA hZ [0, 1] rfl rfl 8 0 rfl rfl) rfl rfl hl.1 rfl (lv_room (Nat.le_of_ble_eq_true rfl)) dX8_set_83 ⟨Nat.zero_le _, Nat.zero_le _⟩) hP hD hS hA [0, 1] [2] [1, 2, 0] rfl rfl rfl (by decide) rfl rfl rfl (fun H locs hP hD hS => ?_)
              obtain ⟨rfl, rfl, rfl⟩ := zi3 he
              exact W.iret hx hb hr (fun t ht hW => ⟨⟨_, (), rfl, rfl, by rw [ht]; exact hP, va_K.moved hW.alike hK, hD⟩, hS.F ht⟩) hS.2.2 dX8_set_86
        refine lv_if_le (tgt := 70) hx hb dX8_set_53 (by decide) (fun c15 => ?_) (fun c15 => ?_)
        · have he := zif_t c15 he
          exact (hWW _ _ _ _).mp (hk14 () he) _ _ _ hP hD hS (lv_sub hl [0, 1, 2] rfl)
        · have he := zif_f c15 he
          refine lv_iload_n hx hb dX8_set_56 rfl (lv_at hl 2 rfl) ?_
          refine lv_iload_n hx hb dX8_set_57 rfl (lv_at hl 1 rfl) ?_
          refine lv_iconst (v := (1 : Int32)) hx hb dX8_set_58 (by decide) ?_
          refine lv_isub hx hb dX8_set_59 ?_
          refine lv_icmp_ge (tgt := 70) hx hb dX8_set_60 (by decide) (fun c16 => ?_) (fun c16 => ?_)
          · have he := zif_t c16 he
            exact (hWW _ _ _ _).mp (hk14 () he) _ _ _ hP hD hS (lv_sub hl [0, 1, 2] rfl)
          · have he := zif_f c16 he
            refine lv_aload_n hx hb dX8_set_63 rfl (lv_at hl 0 rfl) ?_
            refine lv_bipush (v := (-4 : Int32)) hx hb dX8_set_64 (by decide) ?_
            obtain ⟨r17, g_refused_18, hf19, he⟩ := zb2_e he
            refine zc_i (wr := [(a_this_s, .inl (cI, 39, .inl g_s))]) (ws' := [(a_this, .inr (8, [.ref a_this_s, .ref a_this_image, .ref a_this_was, .int v_hasImage, .ref a_this_letters, .ref a_this_row, .ref a_this_refused, .int v_letterMany, .int v_rowMany, .int v_place, .ref a_this_numbers, .ref a_this_least, .ref a_this_stepsFrom, .ref a_this_most, .ref a_this_next, .ref a_this_otherSteps, .ref a_this_ahead, .ref a_this_now, .int v_seed])), (a_this_refused, .inl (cI, 7, .inl g_refused_18)), (a_this_s, .inl (cI, 39, .inl g_s))]) (va_runV (As := [.int (-4 : Int32)]) (rest := []) ⟨hx, hb, hml, hown, hts⟩ (k_M_no l dC dI cI cZ tt sd a_this a_this_s a_this_image a_this_was a_this_letters a_this_row a_this_refused a_this_numbers a_this_least a_this_stepsFrom a_this_most a_this_next a_this_otherSteps a_this_ahead a_this_now H.size v_hasImage v_letterMany v_rowMany v_place v_seed g_refused (-4 : Int32) r17 g_refused_18 hf19) (cwV 1 hts gX8_set_X8_no rfl rfl rfl (by decide +kernel) ⟨Nat.le_of_ble_eq_true rfl, Nat.le_of_ble_eq_true rfl⟩) (zpV hP hD hK hS hA hZ [0, 1] rfl rfl 8 0 rfl rfl) rfl rfl hl.1 rfl (lv_room (Nat.le_of_ble_eq_true rfl)) dX8_set_66 ⟨Nat.zero_le _, Nat.zero_le _⟩) hP hD hS hA [0, 1] [2] [1, 2, 0] rfl rfl rfl (by decide) rfl rfl rfl (fun H locs hP hD hS => ?_)
            obtain ⟨rfl, rfl, rfl⟩ := zi3 he
            exact W.iret hx hb hr (fun t ht hW => ⟨⟨_, (), rfl, rfl, by rw [ht]; exact hP, va_K.moved hW.alike hK, hD⟩, hS.F ht⟩) hS.2.2 dX8_set_69
      refine lv_if_ne (tgt := 52) hx hb dX8_set_34 (by decide) (fun c21 => ?_) (fun c21 => ?_)
      · have he := zif_f c21 he
        exact (hWW _ _ _ _).mp (hk20 () he) _ _ _ hP hD hS (lv_sub hl [0, 1, 2] rfl)
      · have he := zif_t c21 he
        refine lv_aload_n hx hb dX8_set_37 rfl (lv_at hl 0 rfl) ?_
        refine lv_iload_n hx hb dX8_set_38 rfl (lv_at hl 2 rfl) ?_
        obtain ⟨r22, hf23, he⟩ := zb1_e he
        refine zc_i (wr := [(a_this_refused, .inl (cI, 7, .inl g_refused))]) (ws' := [(a_this, .inr (8, [.ref a_this_s, .ref a_this_image, .ref a_this_was, .int v_hasImage, .ref a_this_letters, .ref a_this_row, .ref a_this_refused, .int v_letterMany, .int v_rowMany, .int v_place, .ref a_this_numbers, .ref a_this_least, .ref a_this_stepsFrom, .ref a_this_most, .ref a_this_next, .ref a_this_otherSteps, .ref a_this_ahead, .ref a_this_now, .int v_seed])), (a_this_refused, .inl (cI, 7, .inl g_refused)), (a_this_s, .inl (cI, 39, .inl g_s))]) (va_runV (As := [.int p2]) (rest := []) ⟨hx, hb, hml, hown, hts⟩ (k_M_canBe l dC dI cI cZ tt sd a_this a_this_s a_this_image a_this_was a_this_letters a_this_row a_this_refused a_this_numbers a_this_least a_this_stepsFrom a_this_most a_this_next a_this_otherSteps a_this_ahead a_this_now H.size v_hasImage v_letterMany v_rowMany v_place v_seed g_s p2 r22 hf23) (cwV 1 hts gX8_set_X8_canBe rfl rfl rfl (by decide +kernel) ⟨Nat.le_of_ble_eq_true rfl, Nat.le_of_ble_eq_true rfl⟩) (zpV hP hD hK hS hA hZ [0, 2] rfl rfl 8 0 rfl rfl) rfl rfl hl.1 rfl (lv_room (Nat.le_of_ble_eq_true rfl)) dX8_set_39 ⟨Nat.zero_le _, Nat.zero_le _⟩) hP hD hS hA [0, 2] [1] [1, 0, 2] rfl rfl rfl (by decide) rfl rfl rfl (fun H locs hP hD hS => ?_)
        refine lv_if_ne (tgt := 52) hx hb dX8_set_42 (by decide) (fun c24 => ?_) (fun c24 => ?_)
        · have he := zif_f c24 he
          exact (hWW _ _ _ _).mp (hk20 () he) _ _ _ hP hD hS (lv_sub hl [0, 1, 2] rfl)
        · have he := zif_t c24 he
          refine lv_aload_n hx hb dX8_set_45 rfl (lv_at hl 0 rfl) ?_
          refine lv_bipush (v := (-3 : Int32)) hx hb dX8_set_46 (by decide) ?_
          obtain ⟨r25, g_refused_26, hf27, he⟩ := zb2_e he
          refine zc_i (wr := [(a_this_s, .inl (cI, 39, .inl g_s))]) (ws' := [(a_this, .inr (8, [.ref a_this_s, .ref a_this_image, .ref a_this_was, .int v_hasImage, .ref a_this_letters, .ref a_this_row, .ref a_this_refused, .int v_letterMany, .int v_rowMany, .int v_place, .ref a_this_numbers, .ref a_this_least, .ref a_this_stepsFrom, .ref a_this_most, .ref a_this_next, .ref a_this_otherSteps, .ref a_this_ahead, .ref a_this_now, .int v_seed])), (a_this_refused, .inl (cI, 7, .inl g_refused_26)), (a_this_s, .inl (cI, 39, .inl g_s))]) (va_runV (As := [.int (-3 : Int32)]) (rest := []) ⟨hx, hb, hml, hown, hts⟩ (k_M_no l dC dI cI cZ tt sd a_this a_this_s a_this_image a_this_was a_this_letters a_this_row a_this_refused a_this_numbers a_this_least a_this_stepsFrom a_this_most a_this_next a_this_otherSteps a_this_ahead a_this_now H.size v_hasImage v_letterMany v_rowMany v_place v_seed g_refused (-3 : Int32) r25 g_refused_26 hf27) (cwV 1 hts gX8_set_X8_no rfl rfl rfl (by decide +kernel) ⟨Nat.le_of_ble_eq_true rfl, Nat.le_of_ble_eq_true rfl⟩) (zpV hP hD hK hS hA hZ [0, 1] rfl rfl 8 0 rfl rfl) rfl rfl hl.1 rfl (lv_room (Nat.le_of_ble_eq_true rfl)) dX8_set_48 ⟨Nat.zero_le _, Nat.zero_le _⟩) hP hD hS hA [0, 1] [2] [1, 2, 0] rfl rfl rfl (by decide) rfl rfl rfl (fun H locs hP hD hS => ?_)
          obtain ⟨rfl, rfl, rfl⟩ := zi3 he
          exact W.iret hx hb hr (fun t ht hW => ⟨⟨_, (), rfl, rfl, by rw [ht]; exact hP, va_K.moved hW.alike hK, hD⟩, hS.F ht⟩) hS.2.2 dX8_set_51
    refine lv_if_ne (tgt := 33) hx hb dX8_set_17 (by decide) (fun c29 => ?_) (fun c29 => ?_)
    · have he := zif_f c29 he
      exact (hWW _ _ _ _).mp (hk28 () he) _ _ _ hP hD hS (lv_sub hl [0, 1, 2] rfl)
    · have he := zif_t c29 he
      refine lv_iload_n hx hb dX8_set_20 rfl (lv_at hl 2 rfl) ?_
      obtain ⟨r30, hf31, he⟩ := zb1_e he
      refine zc_i (wr := [(a_this, .inr (8, [.ref a_this_s, .ref a_this_image, .ref a_this_was, .int v_hasImage, .ref a_this_letters, .ref a_this_row, .ref a_this_refused, .int v_letterMany, .int v_rowMany, .int v_place, .ref a_this_numbers, .ref a_this_least, .ref a_this_stepsFrom, .ref a_this_most, .ref a_this_next, .ref a_this_otherSteps, .ref a_this_ahead, .ref a_this_now, .int v_seed])), (a_this_refused, .inl (cI, 7, .inl g_refused)), (a_this_s, .inl (cI, 39, .inl g_s))]) (ws' := [(a_this, .inr (8, [.ref a_this_s, .ref a_this_image, .ref a_this_was, .int v_hasImage, .ref a_this_letters, .ref a_this_row, .ref a_this_refused, .int v_letterMany, .int v_rowMany, .int v_place, .ref a_this_numbers, .ref a_this_least, .ref a_this_stepsFrom, .ref a_this_most, .ref a_this_next, .ref a_this_otherSteps, .ref a_this_ahead, .ref a_this_now, .int v_seed])), (a_this_refused, .inl (cI, 7, .inl g_refused)), (a_this_s, .inl (cI, 39, .inl g_s))]) (va_runS (As := [.int p2]) (rest := []) ⟨hx, hb, hml, hown, hts⟩ (k_M_isSquare l dC dI cI cZ tt sd H.size p2 r30 hf31) (va_cwS 1 hts gX8_set_X8_isSquare rfl rfl rfl (by decide +kernel) ⟨Nat.le_of_ble_eq_true rfl, Nat.le_of_ble_eq_true rfl⟩) (zpS hP hD hK hS hA hZ [] rfl rfl) rfl rfl hl.1 rfl (lv_room (Nat.le_of_ble_eq_true rfl)) dX8_set_21 ⟨Nat.zero_le _, Nat.zero_le _⟩) hP hD hS hA [] [0, 1, 2] [0, 1, 2] rfl rfl rfl (by decide) rfl rfl rfl (fun H locs hP hD hS => ?_)
      refine lv_if_ne (tgt := 33) hx hb dX8_set_24 (by decide) (fun c32 => ?_) (fun c32 => ?_)
      · have he := zif_f c32 he
        exact (hWW _ _ _ _).mp (hk28 () he) _ _ _ hP hD hS (lv_sub hl [0, 1, 2] rfl)
      · have he := zif_t c32 he
        refine lv_aload_n hx hb dX8_set_27 rfl (lv_at hl 0 rfl) ?_
        refine lv_iconst (v := (-1 : Int32)) hx hb dX8_set_28 (by decide) ?_
        obtain ⟨r33, g_refused_34, hf35, he⟩ := zb2_e he
        refine zc_i (wr := [(a_this_s, .inl (cI, 39, .inl g_s))]) (ws' := [(a_this, .inr (8, [.ref a_this_s, .ref a_this_image, .ref a_this_was, .int v_hasImage, .ref a_this_letters, .ref a_this_row, .ref a_this_refused, .int v_letterMany, .int v_rowMany, .int v_place, .ref a_this_numbers, .ref a_this_least, .ref a_this_stepsFrom, .ref a_this_most, .ref a_this_next, .ref a_this_otherSteps, .ref a_this_ahead, .ref a_this_now, .int v_seed])), (a_this_refused, .inl (cI, 7, .inl g_refused_34)), (a_this_s, .inl (cI, 39, .inl g_s))]) (va_runV (As := [.int (-1 : Int32)]) (rest := []) ⟨hx, hb, hml, hown, hts⟩ (k_M_no l dC dI cI cZ tt sd a_this a_this_s a_this_image a_this_was a_this_letters a_this_row a_this_refused a_this_numbers a_this_least a_this_stepsFrom a_this_most a_this_next a_this_otherSteps a_this_ahead a_this_now H.size v_hasImage v_letterMany v_rowMany v_place v_seed g_refused (-1 : Int32) r33 g_refused_34 hf35) (cwV 1 hts gX8_set_X8_no rfl rfl rfl (by decide +kernel) ⟨Nat.le_of_ble_eq_true rfl, Nat.le_of_ble_eq_true rfl⟩) (zpV hP hD hK hS hA hZ [0, 1] rfl rfl 8 0 rfl rfl) rfl rfl hl.1 rfl (lv_room (Nat.le_of_ble_eq_true rfl)) dX8_set_29 ⟨Nat.zero_le _, Nat.zero_le _⟩) hP hD hS hA [0, 1] [2] [1, 2, 0] rfl rfl rfl (by decide) rfl rfl rfl (fun H locs hP hD hS => ?_)
        obtain ⟨rfl, rfl, rfl⟩ := zi3 he
        exact W.iret hx hb hr (fun t ht hW => ⟨⟨_, (), rfl, rfl, by rw [ht]; exact hP, va_K.moved hW.alike hK, hD⟩, hS.F ht⟩) hS.2.2 dX8_set_32
  · have he := zif_t c3 he
    refine lv_aload_n hx hb dX8_set_9 rfl (lv_at hl 0 rfl) ?_
    refine lv_bipush (v := (-2 : Int32)) hx hb dX8_set_10 (by decide) ?_
    obtain ⟨r36, g_refused_37, hf38, he⟩ := zb2_e he
    refine zc_i (wr := [(a_this_s, .inl (cI, 39, .inl g_s))]) (ws' := [(a_this, .inr (8, [.ref a_this_s, .ref a_this_image, .ref a_this_was, .int v_hasImage, .ref a_this_letters, .ref a_this_row, .ref a_this_refused, .int v_letterMany, .int v_rowMany, .int v_place, .ref a_this_numbers, .ref a_this_least, .ref a_this_stepsFrom, .ref a_this_most, .ref a_this_next, .ref a_this_otherSteps, .ref a_this_ahead, .ref a_this_now, .int v_seed])), (a_this_refused, .inl (cI, 7, .inl g_refused_37)), (a_this_s, .inl (cI, 39, .inl g_s))]) (va_runV (As := [.int (-2 : Int32)]) (rest := []) ⟨hx, hb, hml, hown, hts⟩ (k_M_no l dC dI cI cZ tt sd a_this a_this_s a_this_image a_this_was a_this_letters a_this_row a_this_refused a_this_numbers a_this_least a_this_stepsFrom a_this_most a_this_next a_this_otherSteps a_this_ahead a_this_now H.size v_hasImage v_letterMany v_rowMany v_place v_seed g_refused (-2 : Int32) r36 g_refused_37 hf38) (cwV 1 hts gX8_set_X8_no rfl rfl rfl (by decide +kernel) ⟨Nat.le_of_ble_eq_true rfl, Nat.le_of_ble_eq_true rfl⟩) (zpV hP hD hK hS hA hZ [0, 1] rfl rfl 8 0 rfl rfl) rfl rfl hl.1 rfl (lv_room (Nat.le_of_ble_eq_true rfl)) dX8_set_12 ⟨Nat.zero_le _, Nat.zero_le _⟩) hP hD hS hA [0, 1] [2] [1, 2, 0] rfl rfl rfl (by decide) rfl rfl rfl (fun H locs hP hD hS => ?_)
    obtain ⟨rfl, rfl, rfl⟩ := zi3 he
    exact W.iret hx hb hr (fun t ht hW => ⟨⟨_, (), rfl, rfl, by rw [ht]; exact hP, va_K.moved hW.alike hK, hD⟩, hS.F ht⟩) hS.2.2 dX8_set_15
set_option maxHeartbeats 4000000 in
set_option maxRecDepth 100000 in
theorem k_M_heard (l : Launch) (dC : Nat → ClassId) (dI : Nat → Nat → Nat) (cI : ClassId) (cZ : ClassId) (tt : Nat → Nat) (sd : Nat → Nat) (a_this : Nat) (a_this_s : Nat) (a_this_image : Nat) (a_this_was : Nat) (a_this_letters : Nat) (a_this_row : Nat) (a_this_refused : Nat) (a_this_numbers : Nat) (a_this_least : Nat) (a_this_stepsFrom : Nat) (a_this_most : Nat) (a_this_next : Nat) (a_this_otherSteps : Nat) (a_this_ahead : Nat) (a_this_now : Nat) (sz : Nat) (v_hasImage : Int32) (v_letterMany : Int32) (v_rowMany : Int32) (v_place : Int32) (v_seed : Int32) (g_refused : Nat → Int32) (g_s : Nat → Int32) (p1 : Int32) (r0 : Int32) (w0 : Nat → Int32) (hf : f_M_heard g_refused g_s p1 = some (r0, w0)) : Met l yX8_heard wsX8_heard ({ frames := 3, cells := 0, slots := 0, locals := 64 }) (zPre (dC, dI) vwCl [(cI, .int), (cZ, .boolean)] tt sd [.ref a_this, .int p1] [(a_this, .inr (8, [.ref a_this_s, .ref a_this_image, .ref a_this_was, .int v_hasImage, .ref a_this_letters, .ref a_this_row, .ref a_this_refused, .int v_letterMany, .int v_rowMany, .int v_place, .ref a_this_numbers, .ref a_this_least, .ref a_this_stepsFrom, .ref a_this_most, .ref a_this_next, .ref a_this_otherSteps, .ref a_this_ahead, .ref a_this_now, .int v_seed])), (a_this_refused, .inl (cI, 7, .inl g_refused)), (a_this_s, .inl (cI, 39, .inl g_s))] sz) (zQi (dC, dI) vwCl [(cI, .int), (cZ, .boolean)] r0 [(a_this, .inr (8, [.ref a_this_s, .ref a_this_image, .ref a_this_was, .int v_hasImage, .ref a_this_letters, .ref a_this_row, .ref a_this_refused, .int v_letterMany, .int v_rowMany, .int v_place, .ref a_this_numbers, .ref a_this_least, .ref a_this_stepsFrom, .ref a_this_most, .ref a_this_next, .ref a_this_otherSteps, .ref a_this_ahead, .ref a_this_now, .int v_seed])), (a_this_refused, .inl (cI, 7, .inl w0)), (a_this_s, .inl (cI, 39, .inl g_s))] (va_A [(a_this, .inr (8, [.ref a_this_s, .ref a_this_image, .ref a_this_was, .int v_hasImage, .ref a_this_letters, .ref a_this_row, .ref a_this_refused, .int v_letterMany, .int v_rowMany, .int v_place, .ref a_this_numbers, .ref a_this_least, .ref a_this_stepsFrom, .ref a_this_most, .ref a_this_next, .ref a_this_otherSteps, .ref a_this_ahead, .ref a_this_now, .int v_seed])), (a_this_refused, .inl (cI, 7, .inl g_refused)), (a_this_s, .inl (cI, 39, .inl g_s))] sz)) 0 0 (va_A [(a_this, .inr (8, [.ref a_this_s, .ref a_this_image, .ref a_this_was, .int v_hasImage, .ref a_this_letters, .ref a_this_row, .ref a_this_refused, .int v_letterMany, .int v_rowMany, .int v_place, .ref a_this_numbers, .ref a_this_least, .ref a_this_stepsFrom, .ref a_this_most, .ref a_this_next, .ref a_this_otherSteps, .ref a_this_ahead, .ref a_this_now, .int v_seed])), (a_this_refused, .inl (cI, 7, .inl g_refused)), (a_this_s, .inl (cI, 39, .inl g_s))] sz) := by
  refine Met.ofW (cc := cX8_heard) (maxL := 2) (ret := (some .int)) (by decide) rfl ?_
  intro p e s m args below meth c s₁ B hml hv
  obtain ⟨rfl, hsz, hP, hK, hD0, hZ⟩ := hv
  have hx := B.exec
  have hb := B.bytes
  have hr := B.returns
  have hts := atoms_spec (ws := wsX8_heard) B.pre
  have hown : s.vm.findClass RX8 = some m.cls := findClass_of_methodNamed B.named
  have hlocks := B.notSynchronized
  subst hsz
  have hD := hD0.self (sz := s.heap.size)
  generalize hAe : va_A [(a_this, .inr (8, [.ref a_this_s, .ref a_this_image, .ref a_this_was, .int v_hasImage, .ref a_this_letters, .ref a_this_row, .ref a_this_refused, .int v_letterMany, .int v_rowMany, .int v_place, .ref a_this_numbers, .ref a_this_least, .ref a_this_stepsFrom, .ref a_this_most, .ref a_this_next, .ref a_this_otherSteps, .ref a_this_ahead, .ref a_this_now, .int v_seed])), (a_this_refused, .inl (cI, 7, .inl g_refused)), (a_this_s, .inl (cI, 39, .inl g_s))] s.heap.size = A at hD hZ ⊢
  have hA : ∀ q : Nat, s.heap.size ≤ q → A q := fun q h => by rw [← hAe]; exact Or.inr h
  have hS : va_S A s.heap s.heap [] := va_S.rf
  have hP : va_P (dC, dI) vwCl [(a_this, .inr (8, [.ref a_this_s, .ref a_this_image, .ref a_this_was, .int v_hasImage, .ref a_this_letters, .ref a_this_row, .ref a_this_refused, .int v_letterMany, .int v_rowMany, .int v_place, .ref a_this_numbers, .ref a_this_least, .ref a_this_stepsFrom, .ref a_this_most, .ref a_this_next, .ref a_this_otherSteps, .ref a_this_ahead, .ref a_this_now, .int v_seed])), (a_this_refused, .inl (cI, 7, .inl g_refused)), (a_this_s, .inl (cI, 39, .inl g_s))] s.heap := hP
  have hl := lv_entry ([.ref a_this, .int p1]) (n := 2) (Nat.le_of_ble_eq_true rfl)
  rw [lg_entry_eq]
  generalize (lg_sl ([.ref a_this, .int p1]) ++ List.replicate (2 - (lg_sl ([.ref a_this, .int p1])).length) Slot.unset).toArray = ls at hl ⊢
  have hl : lv_has ls 2 [(0, .ref a_this), (1, .int p1)] := hl
  have he := hf
  unfold f_M_heard at he
  refine lv_iload_n hx hb dX8_heard_0 rfl (lv_at hl 1 rfl) ?_
  obtain ⟨r1, hf2, he⟩ := zb1_e he
  refine zc_i (wr := [(a_this, .inr (8, [.ref a_this_s, .ref a_this_image, .ref a_this_was, .int v_hasImage, .ref a_this_letters, .ref a_this_row, .ref a_this_refused, .int v_letterMany, .int v_rowMany, .int v_place, .ref a_this_numbers, .ref a_this_least, .ref a_this_stepsFrom, .ref a_this_most, .ref a_this_next, .ref a_this_otherSteps, .ref a_this_ahead, .ref a_this_now, .int v_seed])), (a_this_refused, .inl (cI, 7, .inl g_refused)), (a_this_s, .inl (cI, 39, .inl g_s))]) (ws' := [(a_this, .inr (8, [.ref a_this_s, .ref a_this_image, .ref a_this_was, .int v_hasImage, .ref a_this_letters, .ref a_this_row, .ref a_this_refused, .int v_letterMany, .int v_rowMany, .int v_place, .ref a_this_numbers, .ref a_this_least, .ref a_this_stepsFrom, .ref a_this_most, .ref a_this_next, .ref a_this_otherSteps, .ref a_this_ahead, .ref a_this_now, .int v_seed])), (a_this_refused, .inl (cI, 7, .inl g_refused)), (a_this_s, .inl (cI, 39, .inl g_s))]) (va_runS (As := [.int p1]) (rest := []) ⟨hx, hb, hml, hown, hts⟩ (k_M_isSquare l dC dI cI cZ tt sd s.heap.size p1 r1 hf2) (va_cwS 1 hts gX8_heard_X8_isSquare rfl rfl rfl (by decide +kernel) ⟨Nat.le_of_ble_eq_true rfl, Nat.le_of_ble_eq_true rfl⟩) (zpS hP hD hK hS hA hZ [] rfl rfl) rfl rfl hl.1 rfl (lv_room (Nat.le_of_ble_eq_true rfl)) dX8_heard_1 ⟨Nat.zero_le _, Nat.zero_le _⟩) hP hD hS hA [] [0, 1, 2] [0, 1, 2] rfl rfl rfl (by decide) rfl rfl rfl (fun H locs hP hD hS => ?_)
  refine lv_if_eq (tgt := 15) hx hb dX8_heard_4 (by decide) (fun c3 => ?_) (fun c3 => ?_)
  · have he := zif_t c3 he
    refine lv_aload_n hx hb dX8_heard_15 rfl (lv_at hl 0 rfl) ?_
    refine lv_iconst (v := (-1 : Int32)) hx hb dX8_heard_16 (by decide) ?_
    obtain ⟨r4, g_refused_5, hf6, he⟩ := zb2_e he
    refine zc_i (wr := [(a_this_s, .inl (cI, 39, .inl g_s))]) (ws' := [(a_this, .inr (8, [.ref a_this_s, .ref a_this_image, .ref a_this_was, .int v_hasImage, .ref a_this_letters, .ref a_this_row, .ref a_this_refused, .int v_letterMany, .int v_rowMany, .int v_place, .ref a_this_numbers, .ref a_this_least, .ref a_this_stepsFrom, .ref a_this_most, .ref a_this_next, .ref a_this_otherSteps, .ref a_this_ahead, .ref a_this_now, .int v_seed])), (a_this_refused, .inl (cI, 7, .inl g_refused_5)), (a_this_s, .inl (cI, 39, .inl g_s))]) (va_runV (As := [.int (-1 : Int32)]) (rest := []) ⟨hx, hb, hml, hown, hts⟩ (k_M_no l dC dI cI cZ tt sd a_this a_this_s a_this_image a_this_was a_this_letters a_this_row a_this_refused a_this_numbers a_this_least a_this_stepsFrom a_this_most a_this_next a_this_otherSteps a_this_ahead a_this_now H.size v_hasImage v_letterMany v_rowMany v_place v_seed g_refused (-1 : Int32) r4 g_refused_5 hf6) (cwV 1 hts gX8_heard_X8_no rfl rfl rfl (by decide +kernel) ⟨Nat.le_of_ble_eq_true rfl, Nat.le_of_ble_eq_true rfl⟩) (zpV hP hD hK hS hA hZ [0, 1] rfl rfl 8 0 rfl rfl) rfl rfl hl.1 rfl (lv_room (Nat.le_of_ble_eq_true rfl)) dX8_heard_17 ⟨Nat.zero_le _, Nat.zero_le _⟩) hP hD hS hA [0, 1] [2] [1, 2, 0] rfl rfl rfl (by decide) rfl rfl rfl (fun H locs hP hD hS => ?_)
    obtain ⟨rfl, rfl⟩ := zi2 he
    exact W.iret hx hb hr (fun t ht hW => ⟨⟨_, (), rfl, rfl, by rw [ht]; exact hP, va_K.moved hW.alike hK, hD⟩, hS.F ht⟩) hS.2.2 dX8_heard_20
  · have he := zif_f c3 he
    refine lv_aload_n hx hb dX8_heard_7 rfl (lv_at hl 0 rfl) ?_
    refine lv_iload_n hx hb dX8_heard_8 rfl (lv_at hl 1 rfl) ?_
    obtain ⟨r7, hf8, he⟩ := zb1_e he
    refine zc_i (wr := [(a_this_refused, .inl (cI, 7, .inl g_refused))]) (ws' := [(a_this, .inr (8, [.ref a_this_s, .ref a_this_image, .ref a_this_was, .int v_hasImage, .ref a_this_letters, .ref a_this_row, .ref a_this_refused, .int v_letterMany, .int v_rowMany, .int v_place, .ref a_this_numbers, .ref a_this_least, .ref a_this_stepsFrom, .ref a_this_most, .ref a_this_next, .ref a_this_otherSteps, .ref a_this_ahead, .ref a_this_now, .int v_seed])), (a_this_refused, .inl (cI, 7, .inl g_refused)), (a_this_s, .inl (cI, 39, .inl g_s))]) (va_runV (As := [.int p1]) (rest := []) ⟨hx, hb, hml, hown, hts⟩ (k_M_heardBy l dC dI cI cZ tt sd a_this a_this_s a_this_image a_this_was a_this_letters a_this_row a_this_refused a_this_numbers a_this_least a_this_stepsFrom a_this_most a_this_next a_this_otherSteps a_this_ahead a_this_now H.size v_hasImage v_letterMany v_rowMany v_place v_seed g_s p1 r7 hf8) (cwV 1 hts gX8_heard_X8_heardBy rfl rfl rfl (by decide +kernel) ⟨Nat.le_of_ble_eq_true rfl, Nat.le_of_ble_eq_true rfl⟩) (zpV hP hD hK hS hA hZ [0, 2] rfl rfl 8 0 rfl rfl) rfl rfl hl.1 rfl (lv_room (Nat.le_of_ble_eq_true rfl)) dX8_heard_9 ⟨Nat.zero_le _, Nat.zero_le _⟩) hP hD hS hA [0, 2] [1] [1, 0, 2] rfl rfl rfl (by decide) rfl rfl rfl (fun H locs hP hD hS => ?_)
    refine lv_goto (tgt := 20) hx hb dX8_heard_12 (by decide) ?_
    obtain ⟨rfl, rfl⟩ := zi2 he
    exact W.iret hx hb hr (fun t ht hW => ⟨⟨_, (), rfl, rfl, by rw [ht]; exact hP, va_K.moved hW.alike hK, hD⟩, hS.F ht⟩) hS.2.2 dX8_heard_20
set_option maxHeartbeats 4000000 in
set_option maxRecDepth 100000 in
theorem k_M_areWays (l : Launch) (dC : Nat → ClassId) (dI : Nat → Nat → Nat) (cI : ClassId) (cZ : ClassId) (tt : Nat → Nat) (sd : Nat → Nat) (a_this : Nat) (a_this_s : Nat) (a_this_image : Nat) (a_this_was : Nat) (a_this_letters : Nat) (a_this_row : Nat) (a_this_refused : Nat) (a_this_numbers : Nat) (a_this_least : Nat) (a_this_stepsFrom : Nat) (a_this_most : Nat) (a_this_next : Nat) (a_this_otherSteps : Nat) (a_this_ahead : Nat) (a_this_now : Nat) (sz : Nat) (v_hasImage : Int32) (v_letterMany : Int32) (v_rowMany : Int32) (v_place : Int32) (v_seed : Int32) (g_row : Nat → Int32) (r0 : Int32) (hf : f_M_areWays v_rowMany g_row = some (r0)) : Met l yX8_areWays wsX8_areWays ({ frames := 0, cells := 0, slots := 0, locals := 0 }) (zPre (dC, dI) vwCl [(cI, .int), (cZ, .boolean)] tt sd [.ref a_this] [(a_this, .inr (8, [.ref a_this_s, .ref a_this_image, .ref a_this_was, .int v_hasImage, .ref a_this_letters, .ref a_this_row, .ref a_this_refused, .int v_letterMany, .int v_rowMany, .int v_place, .ref a_this_numbers, .ref a_this_least, .ref a_this_stepsFrom, .ref a_this_most, .ref a_this_next, .ref a_this_otherSteps, .ref a_this_ahead, .ref a_this_now, .int v_seed])), (a_this_row, .inl (cI, 20, .inl g_row))] sz) (zQi (dC, dI) vwCl [(cI, .int), (cZ, .boolean)] r0 [(a_this, .inr (8, [.ref a_this_s, .ref a_this_image, .ref a_this_was, .int v_hasImage, .ref a_this_letters, .ref a_this_row, .ref a_this_refused, .int v_letterMany, .int v_rowMany, .int v_place, .ref a_this_numbers, .ref a_this_least, .ref a_this_stepsFrom, .ref a_this_most, .ref a_this_next, .ref a_this_otherSteps, .ref a_this_ahead, .ref a_this_now, .int v_seed])), (a_this_row, .inl (cI, 20, .inl g_row))] (va_A [(a_this, .inr (8, [.ref a_this_s, .ref a_this_image, .ref a_this_was, .int v_hasImage, .ref a_this_letters, .ref a_this_row, .ref a_this_refused, .int v_letterMany, .int v_rowMany, .int v_place, .ref a_this_numbers, .ref a_this_least, .ref a_this_stepsFrom, .ref a_this_most, .ref a_this_next, .ref a_this_otherSteps, .ref a_this_ahead, .ref a_this_now, .int v_seed])), (a_this_row, .inl (cI, 20, .inl g_row))] sz)) 0 0 (va_A [(a_this, .inr (8, [.ref a_this_s, .ref a_this_image, .ref a_this_was, .int v_hasImage, .ref a_this_letters, .ref a_this_row, .ref a_this_refused, .int v_letterMany, .int v_rowMany, .int v_place, .ref a_this_numbers, .ref a_this_least, .ref a_this_stepsFrom, .ref a_this_most, .ref a_this_next, .ref a_this_otherSteps, .ref a_this_ahead, .ref a_this_now, .int v_seed])), (a_this_row, .inl (cI, 20, .inl g_row))] sz) := by
  refine Met.ofW (cc := cX8_areWays) (maxL := 2) (ret := (some .boolean)) (by decide) rfl ?_
  intro p e s m args below meth c s₁ B hml hv
  obtain ⟨rfl, hsz, hP, hK, hD0, hZ⟩ := hv
  have hx := B.exec
  have hb := B.bytes
  have hr := B.returns
  have hts := atoms_spec (ws := wsX8_areWays) B.pre
  have hown : s.vm.findClass RX8 = some m.cls := findClass_of_methodNamed B.named
  have hlocks := B.notSynchronized
  subst hsz
  have hD := hD0.self (sz := s.heap.size)
  generalize hAe : va_A [(a_this, .inr (8, [.ref a_this_s, .ref a_this_image, .ref a_this_was, .int v_hasImage, .ref a_this_letters, .ref a_this_row, .ref a_this_refused, .int v_letterMany, .int v_rowMany, .int v_place, .ref a_this_numbers, .ref a_this_least, .ref a_this_stepsFrom, .ref a_this_most, .ref a_this_next, .ref a_this_otherSteps, .ref a_this_ahead, .ref a_this_now, .int v_seed])), (a_this_row, .inl (cI, 20, .inl g_row))] s.heap.size = A at hD hZ ⊢
  have hA : ∀ q : Nat, s.heap.size ≤ q → A q := fun q h => by rw [← hAe]; exact Or.inr h
  have hS : va_S A s.heap s.heap [] := va_S.rf
  have hP : va_P (dC, dI) vwCl [(a_this, .inr (8, [.ref a_this_s, .ref a_this_image, .ref a_this_was, .int v_hasImage, .ref a_this_letters, .ref a_this_row, .ref a_this_refused, .int v_letterMany, .int v_rowMany, .int v_place, .ref a_this_numbers, .ref a_this_least, .ref a_this_stepsFrom, .ref a_this_most, .ref a_this_next, .ref a_this_otherSteps, .ref a_this_ahead, .ref a_this_now, .int v_seed])), (a_this_row, .inl (cI, 20, .inl g_row))] s.heap := hP
  have hl := lv_entry ([.ref a_this]) (n := 2) (Nat.le_of_ble_eq_true rfl)
  rw [lg_entry_eq]
  generalize (lg_sl ([.ref a_this]) ++ List.replicate (2 - (lg_sl ([.ref a_this])).length) Slot.unset).toArray = ls at hl ⊢
  have hl : lv_has ls 2 [(0, .ref a_this)] := hl
  have he := hf
  unfold f_M_areWays at he
  refine zstart (D := (dC, dI)) (cl := vwCl) (A := A) (nL := 2) (fun WW hWW => ?_)
  refine lv_iconst (v := (0 : Int32)) hx hb dX8_areWays_0 (by decide) ?_
  refine lv_istore_n (lv' := [(1, .int (0 : Int32)), (0, .ref a_this)]) hx hb dX8_areWays_1 rfl hl (by decide) rfl (fun ls hl => ?_)
  refine (hWW _ _ _ _).mp (zl1_w he (fun (l1_1 : Int32) => WW [(a_this, .inr (8, [.ref a_this_s, .ref a_this_image, .ref a_this_was, .int v_hasImage, .ref a_this_letters, .ref a_this_row, .ref a_this_refused, .int v_letterMany, .int v_rowMany, .int v_place, .ref a_this_numbers, .ref a_this_least, .ref a_this_stepsFrom, .ref a_this_most, .ref a_this_next, .ref a_this_otherSteps, .ref a_this_ahead, .ref a_this_now, .int v_seed])), (a_this_row, .inl (cI, 20, .inl g_row))] [(0, .ref a_this), (1, .int l1_1)] 2 []) (fun l1_1 again2 hagain2 he => (hWW _ _ _ _).mpr (fun H locs ls hP hD hS hl => ?_))) _ _ _ hP hD hS (lv_sub hl [1, 0] rfl)
  refine lv_iload_n hx hb dX8_areWays_2 rfl (lv_at hl 1 rfl) ?_
  refine lv_aload_n hx hb dX8_areWays_3 rfl (lv_at hl 0 rfl) ?_
  refine va_get (D := (dC, dI)) (ci := 8) (v := .int v_rowMany) (C := RX8) (T := TX8) (N := 19) hx hb hts (by decide +kernel) hown hK hP 0 rfl rfl 8 (by decide) (hts (.fieldLink RX8 125 "LawOfCornersModel" "rowMany" "I") (by decide +kernel)) (fun _ h9 => h9) rfl dX8_areWays_4 ?_
  refine lv_icmp_ge (tgt := 28) hx hb dX8_areWays_7 (by decide) (fun c3 => ?_) (fun c3 => ?_)
  · have he := zif_t c3 he
    refine lv_iconst (v := (1 : Int32)) hx hb dX8_areWays_28 (by decide) ?_
    obtain ⟨rfl⟩ := zi1 he
    exact W.zret hx hb hr rfl (fun t ht hW => ⟨⟨_, (), rfl, rfl, by rw [ht]; exact hP, va_K.moved hW.alike hK, hD⟩, hS.F ht⟩) hS.2.2 dX8_areWays_29
  · have he := zif_f c3 he
    refine lv_aload_n hx hb dX8_areWays_10 rfl (lv_at hl 0 rfl) ?_
    refine va_get (D := (dC, dI)) (ci := 8) (v := .ref a_this_row) (C := RX8) (T := TX8) (N := 19) hx hb hts (by decide +kernel) hown hK hP 0 rfl rfl 5 (by decide) (hts (.fieldLink RX8 22 "LawOfCornersModel" "row" "[I") (by decide +kernel)) (fun _ h9 => h9) rfl dX8_areWays_11 ?_
    refine lv_iload_n hx hb dX8_areWays_14 rfl (lv_at hl 1 rfl) ?_
    obtain ⟨hg4, he⟩ := zg_e he
    refine va_iald hx hb hK hP 1 0 rfl rfl hg4 dX8_areWays_15 ?_
    refine lv_iconst (v := (4 : Int32)) hx hb dX8_areWays_16 (by decide) ?_
    refine lv_icmp_lt (tgt := 22) hx hb dX8_areWays_17 (by decide) (fun c5 => ?_) (fun c5 => ?_)
    · have he := zif_t c5 he
      obtain ⟨x6, ex6⟩ : ∃ y : Int32, y = l1_1 + (1 : Int32) := ⟨_, rfl⟩
      have he := zn_e ex6 he
      refine lv_iinc (v := x6) (lv' := [(1, .int x6), (0, .ref a_this)]) hx hb dX8_areWays_22 hl (k := 1) rfl (by rw [ex6]; rfl) (by decide) rfl (fun ls hl => ?_)
      refine lv_goto (tgt := 2) hx hb dX8_areWays_25 (by decide) ?_
      exact (hWW _ _ _ _).mp (hagain2 x6 he) _ _ _ hP hD hS (lv_sub hl [1, 0] rfl)
    · have he := zif_f c5 he
      refine lv_iconst (v := (0 : Int32)) hx hb dX8_areWays_20 (by decide) ?_
      obtain ⟨rfl⟩ := zi1 he
      exact W.zret hx hb hr rfl (fun t ht hW => ⟨⟨_, (), rfl, rfl, by rw [ht]; exact hP, va_K.moved hW.alike hK, hD⟩, hS.F ht⟩) hS.2.2 dX8_areWays_21
set_option maxHeartbeats 4000000 in
set_option maxRecDepth 100000 in
theorem k_M_firstWrong (l : Launch) (dC : Nat → ClassId) (dI : Nat → Nat → Nat) (cI : ClassId) (cZ : ClassId) (tt : Nat → Nat) (sd : Nat → Nat) (a_this : Nat) (a_this_s : Nat) (a_this_image : Nat) (a_this_was : Nat) (a_this_letters : Nat) (a_this_row : Nat) (a_this_refused : Nat) (a_this_numbers : Nat) (a_this_least : Nat) (a_this_stepsFrom : Nat) (a_this_most : Nat) (a_this_next : Nat) (a_this_otherSteps : Nat) (a_this_ahead : Nat) (a_this_now : Nat) (sz : Nat) (v_hasImage : Int32) (v_letterMany : Int32) (v_rowMany : Int32) (v_place : Int32) (v_seed : Int32) (g_row : Nat → Int32) (g_s : Nat → Int32) (r0 : Int32) (hf : f_M_firstWrong v_rowMany g_row g_s = some (r0)) : Met l yX8_firstWrong wsX8_firstWrong ({ frames := 3, cells := 0, slots := 0, locals := 65 }) (zPre (dC, dI) vwCl [(cI, .int), (cZ, .boolean)] tt sd [.ref a_this] [(a_this, .inr (8, [.ref a_this_s, .ref a_this_image, .ref a_this_was, .int v_hasImage, .ref a_this_letters, .ref a_this_row, .ref a_this_refused, .int v_letterMany, .int v_rowMany, .int v_place, .ref a_this_numbers, .ref a_this_least, .ref a_this_stepsFrom, .ref a_this_most, .ref a_this_next, .ref a_this_otherSteps, .ref a_this_ahead, .ref a_this_now, .int v_seed])), (a_this_row, .inl (cI, 20, .inl g_row)), (a_this_s, .inl (cI, 39, .inl g_s))] sz) (zQi (dC, dI) vwCl [(cI, .int), (cZ, .boolean)] r0 [(a_this, .inr (8, [.ref a_this_s, .ref a_this_image, .ref a_this_was, .int v_hasImage, .ref a_this_letters, .ref a_this_row, .ref a_this_refused, .int v_letterMany, .int v_rowMany, .int v_place, .ref a_this_numbers, .ref a_this_least, .ref a_this_stepsFrom, .ref a_this_most, .ref a_this_next, .ref a_this_otherSteps, .ref a_this_ahead, .ref a_this_now, .int v_seed])), (a_this_row, .inl (cI, 20, .inl g_row)), (a_this_s, .inl (cI, 39, .inl g_s))] (va_A [(a_this, .inr (8, [.ref a_this_s, .ref a_this_image, .ref a_this_was, .int v_hasImage, .ref a_this_letters, .ref a_this_row, .ref a_this_refused, .int v_letterMany, .int v_rowMany, .int v_place, .ref a_this_numbers, .ref a_this_least, .ref a_this_stepsFrom, .ref a_this_most, .ref a_this_next, .ref a_this_otherSteps, .ref a_this_ahead, .ref a_this_now, .int v_seed])), (a_this_row, .inl (cI, 20, .inl g_row)), (a_this_s, .inl (cI, 39, .inl g_s))] sz)) 0 0 (va_A [(a_this, .inr (8, [.ref a_this_s, .ref a_this_image, .ref a_this_was, .int v_hasImage, .ref a_this_letters, .ref a_this_row, .ref a_this_refused, .int v_letterMany, .int v_rowMany, .int v_place, .ref a_this_numbers, .ref a_this_least, .ref a_this_stepsFrom, .ref a_this_most, .ref a_this_next, .ref a_this_otherSteps, .ref a_this_ahead, .ref a_this_now, .int v_seed])), (a_this_row, .inl (cI, 20, .inl g_row)), (a_this_s, .inl (cI, 39, .inl g_s))] sz) := by
  refine Met.ofW (cc := cX8_firstWrong) (maxL := 3) (ret := (some .int)) (by decide) rfl ?_
  intro p e s m args below meth c s₁ B hml hv
  obtain ⟨rfl, hsz, hP, hK, hD0, hZ⟩ := hv
  have hx := B.exec
  have hb := B.bytes
  have hr := B.returns
  have hts := atoms_spec (ws := wsX8_firstWrong) B.pre
  have hown : s.vm.findClass RX8 = some m.cls := findClass_of_methodNamed B.named
  have hlocks := B.notSynchronized
  subst hsz
  have hD := hD0.self (sz := s.heap.size)
  generalize hAe : va_A [(a_this, .inr (8, [.ref a_this_s, .ref a_this_image, .ref a_this_was, .int v_hasImage, .ref a_this_letters, .ref a_this_row, .ref a_this_refused, .int v_letterMany, .int v_rowMany, .int v_place, .ref a_this_numbers, .ref a_this_least, .ref a_this_stepsFrom, .ref a_this_most, .ref a_this_next, .ref a_this_otherSteps, .ref a_this_ahead, .ref a_this_now, .int v_seed])), (a_this_row, .inl (cI, 20, .inl g_row)), (a_this_s, .inl (cI, 39, .inl g_s))] s.heap.size = A at hD hZ ⊢
  have hA : ∀ q : Nat, s.heap.size ≤ q → A q := fun q h => by rw [← hAe]; exact Or.inr h
  have hS : va_S A s.heap s.heap [] := va_S.rf
  have hP : va_P (dC, dI) vwCl [(a_this, .inr (8, [.ref a_this_s, .ref a_this_image, .ref a_this_was, .int v_hasImage, .ref a_this_letters, .ref a_this_row, .ref a_this_refused, .int v_letterMany, .int v_rowMany, .int v_place, .ref a_this_numbers, .ref a_this_least, .ref a_this_stepsFrom, .ref a_this_most, .ref a_this_next, .ref a_this_otherSteps, .ref a_this_ahead, .ref a_this_now, .int v_seed])), (a_this_row, .inl (cI, 20, .inl g_row)), (a_this_s, .inl (cI, 39, .inl g_s))] s.heap := hP
  have hl := lv_entry ([.ref a_this]) (n := 3) (Nat.le_of_ble_eq_true rfl)
  rw [lg_entry_eq]
  generalize (lg_sl ([.ref a_this]) ++ List.replicate (3 - (lg_sl ([.ref a_this])).length) Slot.unset).toArray = ls at hl ⊢
  have hl : lv_has ls 3 [(0, .ref a_this)] := hl
  have he := hf
  unfold f_M_firstWrong at he
  refine zstart (D := (dC, dI)) (cl := vwCl) (A := A) (nL := 3) (fun WW hWW => ?_)
  refine lv_aload_n hx hb dX8_firstWrong_0 rfl (lv_at hl 0 rfl) ?_
  refine va_get (D := (dC, dI)) (ci := 8) (v := .ref a_this_s) (C := RX8) (T := TX8) (N := 19) hx hb hts (by decide +kernel) hown hK hP 0 rfl rfl 0 (by decide) (hts (.fieldLink RX8 9 "LawOfCornersModel" "s" "[I") (by decide +kernel)) (fun _ h9 => h9) rfl dX8_firstWrong_1 ?_
  refine lv_bipush (v := (36 : Int32)) hx hb dX8_firstWrong_4 (by decide) ?_
  obtain ⟨hg1, he⟩ := zg_e he
  refine va_iald hx hb hK hP 2 0 rfl rfl hg1 dX8_firstWrong_6 ?_
  refine lv_topi (fun x2 ex2 => ?_)
  have he := zn_e ex2 he
  refine lv_istore_n (lv' := [(1, .int x2), (0, .ref a_this)]) hx hb dX8_firstWrong_7 rfl hl (by decide) rfl (fun ls hl => ?_)
  refine lv_iconst (v := (0 : Int32)) hx hb dX8_firstWrong_8 (by decide) ?_
  refine lv_istore_n (lv' := [(2, .int (0 : Int32)), (1, .int x2), (0, .ref a_this)]) hx hb dX8_firstWrong_9 rfl hl (by decide) rfl (fun ls hl => ?_)
  refine (hWW _ _ _ _).mp (zl2_w he (fun (l1_3 : Int32) (l2_4 : Int32) => WW [(a_this, .inr (8, [.ref a_this_s, .ref a_this_image, .ref a_this_was, .int v_hasImage, .ref a_this_letters, .ref a_this_row, .ref a_this_refused, .int v_letterMany, .int v_rowMany, .int v_place, .ref a_this_numbers, .ref a_this_least, .ref a_this_stepsFrom, .ref a_this_most, .ref a_this_next, .ref a_this_otherSteps, .ref a_this_ahead, .ref a_this_now, .int v_seed])), (a_this_row, .inl (cI, 20, .inl g_row)), (a_this_s, .inl (cI, 39, .inl g_s))] [(0, .ref a_this), (1, .int l1_3), (2, .int l2_4)] 10 []) (fun l1_3 l2_4 again5 hagain5 he => (hWW _ _ _ _).mpr (fun H locs ls hP hD hS hl => ?_))) _ _ _ hP hD hS (lv_sub hl [2, 1, 0] rfl)
  refine lv_iload_n hx hb dX8_firstWrong_10 rfl (lv_at hl 2 rfl) ?_
  refine lv_aload_n hx hb dX8_firstWrong_11 rfl (lv_at hl 0 rfl) ?_
  refine va_get (D := (dC, dI)) (ci := 8) (v := .int v_rowMany) (C := RX8) (T := TX8) (N := 19) hx hb hts (by decide +kernel) hown hK hP 0 rfl rfl 8 (by decide) (hts (.fieldLink RX8 125 "LawOfCornersModel" "rowMany" "I") (by decide +kernel)) (fun _ h9 => h9) rfl dX8_firstWrong_12 ?_
  refine lv_icmp_ge (tgt := 42) hx hb dX8_firstWrong_15 (by decide) (fun c6 => ?_) (fun c6 => ?_)
  · have he := zif_t c6 he
    refine lv_bipush (v := (-9 : Int32)) hx hb dX8_firstWrong_42 (by decide) ?_
    obtain ⟨rfl⟩ := zi1 he
    exact W.iret hx hb hr (fun t ht hW => ⟨⟨_, (), rfl, rfl, by rw [ht]; exact hP, va_K.moved hW.alike hK, hD⟩, hS.F ht⟩) hS.2.2 dX8_firstWrong_44
  · have he := zif_f c6 he
    refine lv_aload_n hx hb dX8_firstWrong_18 rfl (lv_at hl 0 rfl) ?_
    refine lv_iload_n hx hb dX8_firstWrong_19 rfl (lv_at hl 1 rfl) ?_
    refine lv_aload_n hx hb dX8_firstWrong_20 rfl (lv_at hl 0 rfl) ?_
    refine va_get (D := (dC, dI)) (ci := 8) (v := .ref a_this_row) (C := RX8) (T := TX8) (N := 19) hx hb hts (by decide +kernel) hown hK hP 0 rfl rfl 5 (by decide) (hts (.fieldLink RX8 22 "LawOfCornersModel" "row" "[I") (by decide +kernel)) (fun _ h9 => h9) rfl dX8_firstWrong_21 ?_
    refine lv_iload_n hx hb dX8_firstWrong_24 rfl (lv_at hl 2 rfl) ?_
    obtain ⟨hg7, he⟩ := zg_e he
    refine va_iald hx hb hK hP 1 0 rfl rfl hg7 dX8_firstWrong_25 ?_
    obtain ⟨r8, hf9, he⟩ := zb1_e he
    refine zc_i (wr := [(a_this_row, .inl (cI, 20, .inl g_row))]) (ws' := [(a_this, .inr (8, [.ref a_this_s, .ref a_this_image, .ref a_this_was, .int v_hasImage, .ref a_this_letters, .ref a_this_row, .ref a_this_refused, .int v_letterMany, .int v_rowMany, .int v_place, .ref a_this_numbers, .ref a_this_least, .ref a_this_stepsFrom, .ref a_this_most, .ref a_this_next, .ref a_this_otherSteps, .ref a_this_ahead, .ref a_this_now, .int v_seed])), (a_this_row, .inl (cI, 20, .inl g_row)), (a_this_s, .inl (cI, 39, .inl g_s))]) (va_runV (As := [.int l1_3, .int (g_row l2_4.toNatClampNeg)]) (rest := []) ⟨hx, hb, hml, hown, hts⟩ (k_M_gone l dC dI cI cZ tt sd a_this a_this_s a_this_image a_this_was a_this_letters a_this_row a_this_refused a_this_numbers a_this_least a_this_stepsFrom a_this_most a_this_next a_this_otherSteps a_this_ahead a_this_now H.size v_hasImage v_letterMany v_rowMany v_place v_seed g_s l1_3 (g_row l2_4.toNatClampNeg) r8 hf9) (cwV 2 hts gX8_firstWrong_X8_gone rfl rfl rfl (by decide +kernel) ⟨Nat.le_of_ble_eq_true rfl, Nat.le_of_ble_eq_true rfl⟩) (zpV hP hD hK hS hA hZ [0, 2] rfl rfl 8 0 rfl rfl) rfl rfl hl.1 rfl (lv_room (Nat.le_of_ble_eq_true rfl)) dX8_firstWrong_26 ⟨Nat.zero_le _, Nat.zero_le _⟩) hP hD hS hA [0, 2] [1] [1, 0, 2] rfl rfl rfl (by decide) rfl rfl rfl (fun H locs hP hD hS => ?_)
    refine lv_istore_n (lv' := [(1, .int r8), (0, .ref a_this), (2, .int l2_4)]) hx hb dX8_firstWrong_29 rfl hl (by decide) rfl (fun ls hl => ?_)
    refine lv_iload_n hx hb dX8_firstWrong_30 rfl (lv_at hl 0 rfl) ?_
    refine lv_if_ge (tgt := 36) hx hb dX8_firstWrong_31 (by decide) (fun c10 => ?_) (fun c10 => ?_)
    · have he := zif_t c10 he
      obtain ⟨x11, ex11⟩ : ∃ y : Int32, y = l2_4 + (1 : Int32) := ⟨_, rfl⟩
      have he := zn_e ex11 he
      refine lv_iinc (v := x11) (lv' := [(2, .int x11), (1, .int r8), (0, .ref a_this)]) hx hb dX8_firstWrong_36 hl (k := 2) rfl (by rw [ex11]; rfl) (by decide) rfl (fun ls hl => ?_)
      refine lv_goto (tgt := 10) hx hb dX8_firstWrong_39 (by decide) ?_
      exact (hWW _ _ _ _).mp (hagain5 r8 x11 he) _ _ _ hP hD hS (lv_sub hl [2, 1, 0] rfl)
    · have he := zif_f c10 he
      refine lv_iload_n hx hb dX8_firstWrong_34 rfl (lv_at hl 2 rfl) ?_
      obtain ⟨rfl⟩ := zi1 he
      exact W.iret hx hb hr (fun t ht hW => ⟨⟨_, (), rfl, rfl, by rw [ht]; exact hP, va_K.moved hW.alike hK, hD⟩, hS.F ht⟩) hS.2.2 dX8_firstWrong_35
set_option maxHeartbeats 4000000 in
set_option maxRecDepth 100000 in
theorem k_M_cutsOf (l : Launch) (dC : Nat → ClassId) (dI : Nat → Nat → Nat) (cI : ClassId) (cZ : ClassId) (tt : Nat → Nat) (sd : Nat → Nat) (a_this : Nat) (a_this_s : Nat) (a_this_image : Nat) (a_this_was : Nat) (a_this_letters : Nat) (a_this_row : Nat) (a_this_refused : Nat) (a_this_numbers : Nat) (a_this_least : Nat) (a_this_stepsFrom : Nat) (a_this_most : Nat) (a_this_next : Nat) (a_this_otherSteps : Nat) (a_this_ahead : Nat) (a_this_now : Nat) (sz : Nat) (v_hasImage : Int32) (v_letterMany : Int32) (v_rowMany : Int32) (v_place : Int32) (v_seed : Int32) (g_s : Nat → Int32) (p1 : Int32) (r0 : Int32) (hf : f_M_cutsOf g_s p1 = some (r0)) : Met l yX8_cutsOf wsX8_cutsOf ({ frames := 0, cells := 0, slots := 0, locals := 0 }) (zPre (dC, dI) vwCl [(cI, .int), (cZ, .boolean)] tt sd [.ref a_this, .int p1] [(a_this, .inr (8, [.ref a_this_s, .ref a_this_image, .ref a_this_was, .int v_hasImage, .ref a_this_letters, .ref a_this_row, .ref a_this_refused, .int v_letterMany, .int v_rowMany, .int v_place, .ref a_this_numbers, .ref a_this_least, .ref a_this_stepsFrom, .ref a_this_most, .ref a_this_next, .ref a_this_otherSteps, .ref a_this_ahead, .ref a_this_now, .int v_seed])), (a_this_s, .inl (cI, 39, .inl g_s))] sz) (zQi (dC, dI) vwCl [(cI, .int), (cZ, .boolean)] r0 [(a_this, .inr (8, [.ref a_this_s, .ref a_this_image, .ref a_this_was, .int v_hasImage, .ref a_this_letters, .ref a_this_row, .ref a_this_refused, .int v_letterMany, .int v_rowMany, .int v_place, .ref a_this_numbers, .ref a_this_least, .ref a_this_stepsFrom, .ref a_this_most, .ref a_this_next, .ref a_this_otherSteps, .ref a_this_ahead, .ref a_this_now, .int v_seed])), (a_this_s, .inl (cI, 39, .inl g_s))] (va_A [(a_this, .inr (8, [.ref a_this_s, .ref a_this_image, .ref a_this_was, .int v_hasImage, .ref a_this_letters, .ref a_this_row, .ref a_this_refused, .int v_letterMany, .int v_rowMany, .int v_place, .ref a_this_numbers, .ref a_this_least, .ref a_this_stepsFrom, .ref a_this_most, .ref a_this_next, .ref a_this_otherSteps, .ref a_this_ahead, .ref a_this_now, .int v_seed])), (a_this_s, .inl (cI, 39, .inl g_s))] sz)) 0 0 (va_A [(a_this, .inr (8, [.ref a_this_s, .ref a_this_image, .ref a_this_was, .int v_hasImage, .ref a_this_letters, .ref a_this_row, .ref a_this_refused, .int v_letterMany, .int v_rowMany, .int v_place, .ref a_this_numbers, .ref a_this_least, .ref a_this_stepsFrom, .ref a_this_most, .ref a_this_next, .ref a_this_otherSteps, .ref a_this_ahead, .ref a_this_now, .int v_seed])), (a_this_s, .inl (cI, 39, .inl g_s))] sz) := by
  refine Met.ofW (cc := cX8_cutsOf) (maxL := 2) (ret := (some .int)) (by decide) rfl ?_
  intro p e s m args below meth c s₁ B hml hv
  obtain ⟨rfl, hsz, hP, hK, hD0, hZ⟩ := hv
  have hx := B.exec
  have hb := B.bytes
  have hr := B.returns
  have hts := atoms_spec (ws := wsX8_cutsOf) B.pre
  have hown : s.vm.findClass RX8 = some m.cls := findClass_of_methodNamed B.named
  have hlocks := B.notSynchronized
  subst hsz
  have hD := hD0.self (sz := s.heap.size)
  generalize hAe : va_A [(a_this, .inr (8, [.ref a_this_s, .ref a_this_image, .ref a_this_was, .int v_hasImage, .ref a_this_letters, .ref a_this_row, .ref a_this_refused, .int v_letterMany, .int v_rowMany, .int v_place, .ref a_this_numbers, .ref a_this_least, .ref a_this_stepsFrom, .ref a_this_most, .ref a_this_next, .ref a_this_otherSteps, .ref a_this_ahead, .ref a_this_now, .int v_seed])), (a_this_s, .inl (cI, 39, .inl g_s))] s.heap.size = A at hD hZ ⊢
  have hA : ∀ q : Nat, s.heap.size ≤ q → A q := fun q h => by rw [← hAe]; exact Or.inr h
  have hS : va_S A s.heap s.heap [] := va_S.rf
  have hP : va_P (dC, dI) vwCl [(a_this, .inr (8, [.ref a_this_s, .ref a_this_image, .ref a_this_was, .int v_hasImage, .ref a_this_letters, .ref a_this_row, .ref a_this_refused, .int v_letterMany, .int v_rowMany, .int v_place, .ref a_this_numbers, .ref a_this_least, .ref a_this_stepsFrom, .ref a_this_most, .ref a_this_next, .ref a_this_otherSteps, .ref a_this_ahead, .ref a_this_now, .int v_seed])), (a_this_s, .inl (cI, 39, .inl g_s))] s.heap := hP
  have hl := lv_entry ([.ref a_this, .int p1]) (n := 2) (Nat.le_of_ble_eq_true rfl)
  rw [lg_entry_eq]
  generalize (lg_sl ([.ref a_this, .int p1]) ++ List.replicate (2 - (lg_sl ([.ref a_this, .int p1])).length) Slot.unset).toArray = ls at hl ⊢
  have hl : lv_has ls 2 [(0, .ref a_this), (1, .int p1)] := hl
  have he := hf
  unfold f_M_cutsOf at he
  refine lv_iload_n hx hb dX8_cutsOf_0 rfl (lv_at hl 1 rfl) ?_
  refine lv_if_ne (tgt := 8) hx hb dX8_cutsOf_1 (by decide) (fun c1 => ?_) (fun c1 => ?_)
  · have he := zif_f c1 he
    refine lv_iload_n hx hb dX8_cutsOf_8 rfl (lv_at hl 1 rfl) ?_
    refine lv_iconst (v := (1 : Int32)) hx hb dX8_cutsOf_9 (by decide) ?_
    refine lv_isub hx hb dX8_cutsOf_10 ?_
    refine lv_aload_n hx hb dX8_cutsOf_11 rfl (lv_at hl 0 rfl) ?_
    refine va_get (D := (dC, dI)) (ci := 8) (v := .ref a_this_s) (C := RX8) (T := TX8) (N := 19) hx hb hts (by decide +kernel) hown hK hP 0 rfl rfl 0 (by decide) (hts (.fieldLink RX8 9 "LawOfCornersModel" "s" "[I") (by decide +kernel)) (fun _ h9 => h9) rfl dX8_cutsOf_12 ?_
    refine lv_bipush (v := (38 : Int32)) hx hb dX8_cutsOf_15 (by decide) ?_
    obtain ⟨hg2, he⟩ := zg_e he
    refine va_iald hx hb hK hP 1 0 rfl rfl hg2 dX8_cutsOf_17 ?_
    obtain ⟨hg3, he⟩ := zg_e he
    refine lv_idiv hx hb dX8_cutsOf_18 hg3 ?_
    obtain ⟨rfl⟩ := zi1 he
    exact W.iret hx hb hr (fun t ht hW => ⟨⟨_, (), rfl, rfl, by rw [ht]; exact hP, va_K.moved hW.alike hK, hD⟩, hS.F ht⟩) hS.2.2 dX8_cutsOf_19
  · have he := zif_t c1 he
    refine lv_iconst (v := (0 : Int32)) hx hb dX8_cutsOf_4 (by decide) ?_
    refine lv_goto (tgt := 19) hx hb dX8_cutsOf_5 (by decide) ?_
    obtain ⟨rfl⟩ := zi1 he
    exact W.iret hx hb hr (fun t ht hW => ⟨⟨_, (), rfl, rfl, by rw [ht]; exact hP, va_K.moved hW.alike hK, hD⟩, hS.F ht⟩) hS.2.2 dX8_cutsOf_19
set_option maxHeartbeats 4000000 in
set_option maxRecDepth 100000 in
theorem k_M_walk (l : Launch) (dC : Nat → ClassId) (dI : Nat → Nat → Nat) (cI : ClassId) (cZ : ClassId) (tt : Nat → Nat) (sd : Nat → Nat) (a_this : Nat) (a_this_s : Nat) (a_this_image : Nat) (a_this_was : Nat) (a_this_letters : Nat) (a_this_row : Nat) (a_this_refused : Nat) (a_this_numbers : Nat) (a_this_least : Nat) (a_this_stepsFrom : Nat) (a_this_most : Nat) (a_this_next : Nat) (a_this_otherSteps : Nat) (a_this_ahead : Nat) (a_this_now : Nat) (sz : Nat) (v_hasImage : Int32) (v_letterMany : Int32) (v_rowMany : Int32) (v_place : Int32) (v_seed : Int32) (g_refused : Nat → Int32) (g_row : Nat → Int32) (g_s : Nat → Int32) (p1 : Int32) (r0 : Int32) (w0 : Nat → Int32) (hf : f_M_walk v_rowMany g_refused g_row g_s p1 = some (r0, w0)) : Met l yX8_walk wsX8_walk ({ frames := 4, cells := 0, slots := 0, locals := 87 }) (zPre (dC, dI) vwCl [(cI, .int), (cZ, .boolean)] tt sd [.ref a_this, .int p1] [(a_this, .inr (8, [.ref a_this_s, .ref a_this_image, .ref a_this_was, .int v_hasImage, .ref a_this_letters, .ref a_this_row, .ref a_this_refused, .int v_letterMany, .int v_rowMany, .int v_place, .ref a_this_numbers, .ref a_this_least, .ref a_this_stepsFrom, .ref a_this_most, .ref a_this_next, .ref a_this_otherSteps, .ref a_this_ahead, .ref a_this_now, .int v_seed])), (a_this_refused, .inl (cI, 7, .inl g_refused)), (a_this_row, .inl (cI, 20, .inl g_row)), (a_this_s, .inl (cI, 39, .inl g_s))] sz) (zQi (dC, dI) vwCl [(cI, .int), (cZ, .boolean)] r0 [(a_this, .inr (8, [.ref a_this_s, .ref a_this_image, .ref a_this_was, .int v_hasImage, .ref a_this_letters, .ref a_this_row, .ref a_this_refused, .int v_letterMany, .int v_rowMany, .int v_place, .ref a_this_numbers, .ref a_this_least, .ref a_this_stepsFrom, .ref a_this_most, .ref a_this_next, .ref a_this_otherSteps, .ref a_this_ahead, .ref a_this_now, .int v_seed])), (a_this_refused, .inl (cI, 7, .inl w0)), (a_this_row, .inl (cI, 20, .inl g_row)), (a_this_s, .inl (cI, 39, .inl g_s))] (va_A [(a_this, .inr (8, [.ref a_this_s, .ref a_this_image, .ref a_this_was, .int v_hasImage, .ref a_this_letters, .ref a_this_row, .ref a_this_refused, .int v_letterMany, .int v_rowMany, .int v_place, .ref a_this_numbers, .ref a_this_least, .ref a_this_stepsFrom, .ref a_this_most, .ref a_this_next, .ref a_this_otherSteps, .ref a_this_ahead, .ref a_this_now, .int v_seed])), (a_this_refused, .inl (cI, 7, .inl g_refused)), (a_this_row, .inl (cI, 20, .inl g_row)), (a_this_s, .inl (cI, 39, .inl g_s))] sz)) 0 0 (va_A [(a_this, .inr (8, [.ref a_this_s, .ref a_this_image, .ref a_this_was, .int v_hasImage, .ref a_this_letters, .ref a_this_row, .ref a_this_refused, .int v_letterMany, .int v_rowMany, .int v_place, .ref a_this_numbers, .ref a_this_least, .ref a_this_stepsFrom, .ref a_this_most, .ref a_this_next, .ref a_this_otherSteps, .ref a_this_ahead, .ref a_this_now, .int v_seed])), (a_this_refused, .inl (cI, 7, .inl g_refused)), (a_this_row, .inl (cI, 20, .inl g_row)), (a_this_s, .inl (cI, 39, .inl g_s))] sz) := by
  refine Met.ofW (cc := cX8_walk) (maxL := 15) (ret := (some .int)) (by decide) rfl ?_
  intro p e s m args below meth c s₁ B hml hv
  obtain ⟨rfl, hsz, hP, hK, hD0, hZ⟩ := hv
  have hx := B.exec
  have hb := B.bytes
  have hr := B.returns
  have hts := atoms_spec (ws := wsX8_walk) B.pre
  have hown : s.vm.findClass RX8 = some m.cls := findClass_of_methodNamed B.named
  have hlocks := B.notSynchronized
  subst hsz
  have hD := hD0.self (sz := s.heap.size)
  generalize hAe : va_A [(a_this, .inr (8, [.ref a_this_s, .ref a_this_image, .ref a_this_was, .int v_hasImage, .ref a_this_letters, .ref a_this_row, .ref a_this_refused, .int v_letterMany, .int v_rowMany, .int v_place, .ref a_this_numbers, .ref a_this_least, .ref a_this_stepsFrom, .ref a_this_most, .ref a_this_next, .ref a_this_otherSteps, .ref a_this_ahead, .ref a_this_now, .int v_seed])), (a_this_refused, .inl (cI, 7, .inl g_refused)), (a_this_row, .inl (cI, 20, .inl g_row)), (a_this_s, .inl (cI, 39, .inl g_s))] s.heap.size = A at hD hZ ⊢
  have hA : ∀ q : Nat, s.heap.size ≤ q → A q := fun q h => by rw [← hAe]; exact Or.inr h
  have hS : va_S A s.heap s.heap [] := va_S.rf
  have hP : va_P (dC, dI) vwCl [(a_this, .inr (8, [.ref a_this_s, .ref a_this_image, .ref a_this_was, .int v_hasImage, .ref a_this_letters, .ref a_this_row, .ref a_this_refused, .int v_letterMany, .int v_rowMany, .int v_place, .ref a_this_numbers, .ref a_this_least, .ref a_this_stepsFrom, .ref a_this_most, .ref a_this_next, .ref a_this_otherSteps, .ref a_this_ahead, .ref a_this_now, .int v_seed])), (a_this_refused, .inl (cI, 7, .inl g_refused)), (a_this_row, .inl (cI, 20, .inl g_row)), (a_this_s, .inl (cI, 39, .inl g_s))] s.heap := hP
  have hl := lv_entry ([.ref a_this, .int p1]) (n := 15) (Nat.le_of_ble_eq_true rfl)
  rw [lg_entry_eq]
  generalize (lg_sl ([.ref a_this, .int p1]) ++ List.replicate (15 - (lg_sl ([.ref a_this, .int p1])).length) Slot.unset).toArray = ls at hl ⊢
  have hl : lv_has ls 15 [(0, .ref a_this), (1, .int p1)] := hl
  have he := hf
  unfold f_M_walk at he
  refine zstart (D := (dC, dI)) (cl := vwCl) (A := A) (nL := 15) (fun WW hWW => ?_)
  refine lv_iload_n hx hb dX8_walk_0 rfl (lv_at hl 1 rfl) ?_
  refine lv_iconst (v := (0 : Int32)) hx hb dX8_walk_1 (by decide) ?_
  refine lv_bipush (v := (6 : Int32)) hx hb dX8_walk_2 (by decide) ?_
  obtain ⟨r1, hf2, he⟩ := zb1_e he
  refine zc_i (wr := [(a_this, .inr (8, [.ref a_this_s, .ref a_this_image, .ref a_this_was, .int v_hasImage, .ref a_this_letters, .ref a_this_row, .ref a_this_refused, .int v_letterMany, .int v_rowMany, .int v_place, .ref a_this_numbers, .ref a_this_least, .ref a_this_stepsFrom, .ref a_this_most, .ref a_this_next, .ref a_this_otherSteps, .ref a_this_ahead, .ref a_this_now, .int v_seed])), (a_this_refused, .inl (cI, 7, .inl g_refused)), (a_this_row, .inl (cI, 20, .inl g_row)), (a_this_s, .inl (cI, 39, .inl g_s))]) (ws' := [(a_this, .inr (8, [.ref a_this_s, .ref a_this_image, .ref a_this_was, .int v_hasImage, .ref a_this_letters, .ref a_this_row, .ref a_this_refused, .int v_letterMany, .int v_rowMany, .int v_place, .ref a_this_numbers, .ref a_this_least, .ref a_this_stepsFrom, .ref a_this_most, .ref a_this_next, .ref a_this_otherSteps, .ref a_this_ahead, .ref a_this_now, .int v_seed])), (a_this_refused, .inl (cI, 7, .inl g_refused)), (a_this_row, .inl (cI, 20, .inl g_row)), (a_this_s, .inl (cI, 39, .inl g_s))]) (va_runS (As := [.int p1, .int (0 : Int32), .int (6 : Int32)]) (rest := []) ⟨hx, hb, hml, hown, hts⟩ (k_M_isIn l dC dI cI cZ tt sd s.heap.size p1 (0 : Int32) (6 : Int32) r1 hf2) (va_cwS 3 hts gX8_walk_X8_isIn rfl rfl rfl (by decide +kernel) ⟨Nat.le_of_ble_eq_true rfl, Nat.le_of_ble_eq_true rfl⟩) (zpS hP hD hK hS hA hZ [] rfl rfl) rfl rfl hl.1 rfl (lv_room (Nat.le_of_ble_eq_true rfl)) dX8_walk_4 ⟨Nat.zero_le _, Nat.zero_le _⟩) hP hD hS hA [] [0, 1, 2, 3] [0, 1, 2, 3] rfl rfl rfl (by decide) rfl rfl rfl (fun H locs hP hD hS => ?_)
  refine lv_if_ne (tgt := 17) hx hb dX8_walk_7 (by decide) (fun c3 => ?_) (fun c3 => ?_)
  · have he := zif_f c3 he
    refine lv_aload_n hx hb dX8_walk_17 rfl (lv_at hl 0 rfl) ?_
    obtain ⟨r4, hf5, he⟩ := zb1_e he
    refine zc_i (wr := [(a_this_refused, .inl (cI, 7, .inl g_refused)), (a_this_s, .inl (cI, 39, .inl g_s))]) (ws' := [(a_this, .inr (8, [.ref a_this_s, .ref a_this_image, .ref a_this_was, .int v_hasImage, .ref a_this_letters, .ref a_this_row, .ref a_this_refused, .int v_letterMany, .int v_rowMany, .int v_place, .ref a_this_numbers, .ref a_this_least, .ref a_this_stepsFrom, .ref a_this_most, .ref a_this_next, .ref a_this_otherSteps, .ref a_this_ahead, .ref a_this_now, .int v_seed])), (a_this_refused, .inl (cI, 7, .inl g_refused)), (a_this_row, .inl (cI, 20, .inl g_row)), (a_this_s, .inl (cI, 39, .inl g_s))]) (va_runV (As := []) (rest := []) ⟨hx, hb, hml, hown, hts⟩ (k_M_areWays l dC dI cI cZ tt sd a_this a_this_s a_this_image a_this_was a_this_letters a_this_row a_this_refused a_this_numbers a_this_least a_this_stepsFrom a_this_most a_this_next a_this_otherSteps a_this_ahead a_this_now H.size v_hasImage v_letterMany v_rowMany v_place v_seed g_row r4 hf5) (cwV 0 hts gX8_walk_X8_areWays rfl rfl rfl (by decide +kernel) ⟨Nat.le_of_ble_eq_true rfl, Nat.le_of_ble_eq_true rfl⟩) (zpV hP hD hK hS hA hZ [0, 2] rfl rfl 8 0 rfl rfl) rfl rfl hl.1 rfl (lv_room (Nat.le_of_ble_eq_true rfl)) dX8_walk_18 ⟨Nat.zero_le _, Nat.zero_le _⟩) hP hD hS hA [0, 2] [1, 3] [2, 0, 3, 1] rfl rfl rfl (by decide) rfl rfl rfl (fun H locs hP hD hS => ?_)
    refine lv_if_ne (tgt := 31) hx hb dX8_walk_21 (by decide) (fun c6 => ?_) (fun c6 => ?_)
    · have he := zif_f c6 he
      refine lv_aload_n hx hb dX8_walk_31 rfl (lv_at hl 0 rfl) ?_
      obtain ⟨r7, hf8, he⟩ := zb1_e he
      refine zc_i (wr := [(a_this_refused, .inl (cI, 7, .inl g_refused))]) (ws' := [(a_this, .inr (8, [.ref a_this_s, .ref a_this_image, .ref a_this_was, .int v_hasImage, .ref a_this_letters, .ref a_this_row, .ref a_this_refused, .int v_letterMany, .int v_rowMany, .int v_place, .ref a_this_numbers, .ref a_this_least, .ref a_this_stepsFrom, .ref a_this_most, .ref a_this_next, .ref a_this_otherSteps, .ref a_this_ahead, .ref a_this_now, .int v_seed])), (a_this_refused, .inl (cI, 7, .inl g_refused)), (a_this_row, .inl (cI, 20, .inl g_row)), (a_this_s, .inl (cI, 39, .inl g_s))]) (va_runV (As := []) (rest := []) ⟨hx, hb, hml, hown, hts⟩ (k_M_firstWrong l dC dI cI cZ tt sd a_this a_this_s a_this_image a_this_was a_this_letters a_this_row a_this_refused a_this_numbers a_this_least a_this_stepsFrom a_this_most a_this_next a_this_otherSteps a_this_ahead a_this_now H.size v_hasImage v_letterMany v_rowMany v_place v_seed g_row g_s r7 hf8) (cwV 0 hts gX8_walk_X8_firstWrong rfl rfl rfl (by decide +kernel) ⟨Nat.le_of_ble_eq_true rfl, Nat.le_of_ble_eq_true rfl⟩) (zpV hP hD hK hS hA hZ [0, 2, 3] rfl rfl 8 0 rfl rfl) rfl rfl hl.1 rfl (lv_room (Nat.le_of_ble_eq_true rfl)) dX8_walk_32 ⟨Nat.zero_le _, Nat.zero_le _⟩) hP hD hS hA [0, 2, 3] [1] [1, 0, 2, 3] rfl rfl rfl (by decide) rfl rfl rfl (fun H locs hP hD hS => ?_)
      refine lv_istore_n (lv' := [(2, .int r7), (0, .ref a_this), (1, .int p1)]) hx hb dX8_walk_35 rfl hl (by decide) rfl (fun ls hl => ?_)
      refine lv_iload_n hx hb dX8_walk_36 rfl (lv_at hl 2 rfl) ?_
      refine lv_if_ne (tgt := 42) hx hb dX8_walk_37 (by decide) (fun c9 => ?_) (fun c9 => ?_)
      · have he := zif_f c9 he
        refine lv_iload_n hx hb dX8_walk_42 rfl (lv_at hl 0 rfl) ?_
        refine zj1_w he (fun (s10 : Int32) => WW [(a_this, .inr (8, [.ref a_this_s, .ref a_this_image, .ref a_this_was, .int v_hasImage, .ref a_this_letters, .ref a_this_row, .ref a_this_refused, .int v_letterMany, .int v_rowMany, .int v_place, .ref a_this_numbers, .ref a_this_least, .ref a_this_stepsFrom, .ref a_this_most, .ref a_this_next, .ref a_this_otherSteps, .ref a_this_ahead, .ref a_this_now, .int v_seed])), (a_this_refused, .inl (cI, 7, .inl g_refused)), (a_this_row, .inl (cI, 20, .inl g_row)), (a_this_s, .inl (cI, 39, .inl g_s))] [(0, .ref a_this), (1, .int p1)] 54 [.int s10]) (fun s10 he => (hWW _ _ _ _).mpr (fun H locs ls hP hD hS hl => ?_)) (fun k82 hk82 he => ?_)
        · refine lv_istore_n (lv' := [(3, .int s10), (0, .ref a_this), (1, .int p1)]) hx hb dX8_walk_54 rfl hl (by decide) rfl (fun ls hl => ?_)
          refine lv_aload_n hx hb dX8_walk_55 rfl (lv_at hl 1 rfl) ?_
          refine va_get (D := (dC, dI)) (ci := 8) (v := .ref a_this_s) (C := RX8) (T := TX8) (N := 19) hx hb hts (by decide +kernel) hown hK hP 0 rfl rfl 0 (by decide) (hts (.fieldLink RX8 9 "LawOfCornersModel" "s" "[I") (by decide +kernel)) (fun _ h9 => h9) rfl dX8_walk_56 ?_
          refine lv_bipush (v := (36 : Int32)) hx hb dX8_walk_59 (by decide) ?_
          obtain ⟨hg11, he⟩ := zg_e he
          refine va_iald hx hb hK hP 3 0 rfl rfl hg11 dX8_walk_61 ?_
          refine lv_topi (fun x12 ex12 => ?_)
          have he := zn_e ex12 he
          refine lv_istore (lv' := [(4, .int x12), (3, .int s10), (0, .ref a_this), (1, .int p1)]) hx hb dX8_walk_62 hl (by decide) rfl (fun ls hl => ?_)
          refine lv_iconst (v := (4 : Int32)) hx hb dX8_walk_64 (by decide) ?_
          refine lv_istore (lv' := [(5, .int (4 : Int32)), (4, .int x12), (3, .int s10), (0, .ref a_this), (1, .int p1)]) hx hb dX8_walk_65 hl (by decide) rfl (fun ls hl => ?_)
          refine lv_iconst (v := (0 : Int32)) hx hb dX8_walk_67 (by decide) ?_
          refine lv_istore (lv' := [(6, .int (0 : Int32)), (5, .int (4 : Int32)), (4, .int x12), (3, .int s10), (0, .ref a_this), (1, .int p1)]) hx hb dX8_walk_68 hl (by decide) rfl (fun ls hl => ?_)
          refine lv_iconst (v := (0 : Int32)) hx hb dX8_walk_70 (by decide) ?_
          refine lv_istore (lv' := [(7, .int (0 : Int32)), (6, .int (0 : Int32)), (5, .int (4 : Int32)), (4, .int x12), (3, .int s10), (0, .ref a_this), (1, .int p1)]) hx hb dX8_walk_71 hl (by decide) rfl (fun ls hl => ?_)
          refine lv_iconst (v := (0 : Int32)) hx hb dX8_walk_73 (by decide) ?_
          refine lv_istore (lv' := [(8, .int (0 : Int32)), (7, .int (0 : Int32)), (6, .int (0 : Int32)), (5, .int (4 : Int32)), (4, .int x12), (3, .int s10), (0, .ref a_this), (1, .int p1)]) hx hb dX8_walk_74 hl (by decide) rfl (fun ls hl => ?_)
          refine lv_iconst (v := (0 : Int32)) hx hb dX8_walk_76 (by decide) ?_
          refine lv_istore (lv' := [(9, .int (0 : Int32)), (8, .int (0 : Int32)), (7, .int (0 : Int32)), (6, .int (0 : Int32)), (5, .int (4 : Int32)), (4, .int x12), (3, .int s10), (0, .ref a_this), (1, .int p1)]) hx hb dX8_walk_77 hl (by decide) rfl (fun ls hl => ?_)
          refine lv_iconst (v := (0 : Int32)) hx hb dX8_walk_79 (by decide) ?_
          refine lv_istore (lv' := [(10, .int (0 : Int32)), (9, .int (0 : Int32)), (8, .int (0 : Int32)), (7, .int (0 : Int32)), (6, .int (0 : Int32)), (5, .int (4 : Int32)), (4, .int x12), (3, .int s10), (0, .ref a_this), (1, .int p1)]) hx hb dX8_walk_80 hl (by decide) rfl (fun ls hl => ?_)
          refine lv_iconst (v := (0 : Int32)) hx hb dX8_walk_82 (by decide) ?_
          refine lv_istore (lv' := [(11, .int (0 : Int32)), (10, .int (0 : Int32)), (9, .int (0 : Int32)), (8, .int (0 : Int32)), (7, .int (0 : Int32)), (6, .int (0 : Int32)), (5, .int (4 : Int32)), (4, .int x12), (3, .int s10), (0, .ref a_this), (1, .int p1)]) hx hb dX8_walk_83 hl (by decide) rfl (fun ls hl => ?_)
          refine lv_iconst (v := (0 : Int32)) hx hb dX8_walk_85 (by decide) ?_
          refine lv_istore (lv' := [(12, .int (0 : Int32)), (11, .int (0 : Int32)), (10, .int (0 : Int32)), (9, .int (0 : Int32)), (8, .int (0 : Int32)), (7, .int (0 : Int32)), (6, .int (0 : Int32)), (5, .int (4 : Int32)), (4, .int x12), (3, .int s10), (0, .ref a_this), (1, .int p1)]) hx hb dX8_walk_86 hl (by decide) rfl (fun ls hl => ?_)
          refine zj6_w he (fun (l4_13 : Int32) (l6_14 : Int32) (l7_15 : Int32) (l8_16 : Int32) (l9_17 : Int32) (l11_18 : Int32) => WW [(a_this, .inr (8, [.ref a_this_s, .ref a_this_image, .ref a_this_was, .int v_hasImage, .ref a_this_letters, .ref a_this_row, .ref a_this_refused, .int v_letterMany, .int v_rowMany, .int v_place, .ref a_this_numbers, .ref a_this_least, .ref a_this_stepsFrom, .ref a_this_most, .ref a_this_next, .ref a_this_otherSteps, .ref a_this_ahead, .ref a_this_now, .int v_seed])), (a_this_refused, .inl (cI, 7, .inl g_refused)), (a_this_row, .inl (cI, 20, .inl g_row)), (a_this_s, .inl (cI, 39, .inl g_s))] [(1, .int p1), (4, .int l4_13), (6, .int l6_14), (7, .int l7_15), (8, .int l8_16), (9, .int l9_17), (11, .int l11_18)] 270 []) (fun l4_13 l6_14 l7_15 l8_16 l9_17 l11_18 he => (hWW _ _ _ _).mpr (fun H locs ls hP hD hS hl => ?_)) (fun k24 hk24 he => ?_)
          · refine lv_iload_n hx hb dX8_walk_270 rfl (lv_at hl 0 rfl) ?_
            refine lv_iconst (v := (1 : Int32)) hx hb dX8_walk_271 (by decide) ?_
            refine lv_icmp_ne (tgt := 280) hx hb dX8_walk_272 (by decide) (fun c19 => ?_) (fun c19 => ?_)
            · have he := zif_f c19 he
              refine lv_iload_n hx hb dX8_walk_280 rfl (lv_at hl 0 rfl) ?_
              refine lv_iconst (v := (2 : Int32)) hx hb dX8_walk_281 (by decide) ?_
              refine lv_icmp_ne (tgt := 290) hx hb dX8_walk_282 (by decide) (fun c20 => ?_) (fun c20 => ?_)
              · have he := zif_f c20 he
                refine lv_iload_n hx hb dX8_walk_290 rfl (lv_at hl 0 rfl) ?_
                refine lv_iconst (v := (3 : Int32)) hx hb dX8_walk_291 (by decide) ?_
                refine lv_icmp_ne (tgt := 300) hx hb dX8_walk_292 (by decide) (fun c21 => ?_) (fun c21 => ?_)
                · have he := zif_f c21 he
                  refine lv_iload_n hx hb dX8_walk_300 rfl (lv_at hl 0 rfl) ?_
                  refine lv_iconst (v := (4 : Int32)) hx hb dX8_walk_301 (by decide) ?_
                  refine lv_icmp_ne (tgt := 313) hx hb dX8_walk_302 (by decide) (fun c22 => ?_) (fun c22 => ?_)
                  · have he := zif_f c22 he
                    refine lv_iload_n hx hb dX8_walk_313 rfl (lv_at hl 0 rfl) ?_
                    refine lv_iconst (v := (5 : Int32)) hx hb dX8_walk_314 (by decide) ?_
                    refine lv_icmp_ne (tgt := 323) hx hb dX8_walk_315 (by decide) (fun c23 => ?_) (fun c23 => ?_)
                    · have he := zif_f c23 he
                      refine lv_iload hx hb dX8_walk_323 (lv_at hl 6 rfl) ?_
                      obtain ⟨rfl, rfl⟩ := zi2 he
                      exact W.iret hx hb hr (fun t ht hW => ⟨⟨_, (), rfl, rfl, by rw [ht]; exact hP, va_K.moved hW.alike hK, hD⟩, hS.F ht⟩) hS.2.2 dX8_walk_325
                    · have he := zif_t c23 he
                      refine lv_iload hx hb dX8_walk_318 (lv_at hl 5 rfl) ?_
                      refine lv_goto (tgt := 325) hx hb dX8_walk_320 (by decide) ?_
                      obtain ⟨rfl, rfl⟩ := zi2 he
                      exact W.iret hx hb hr (fun t ht hW => ⟨⟨_, (), rfl, rfl, by rw [ht]; exact hP, va_K.moved hW.alike hK, hD⟩, hS.F ht⟩) hS.2.2 dX8_walk_325
                  · have he := zif_t c22 he
                    refine lv_iload hx hb dX8_walk_305 (lv_at hl 4 rfl) ?_
                    refine lv_iload hx hb dX8_walk_307 (lv_at hl 3 rfl) ?_
                    refine lv_iadd hx hb dX8_walk_309 ?_
                    refine lv_goto (tgt := 325) hx hb dX8_walk_310 (by decide) ?_
                    obtain ⟨rfl, rfl⟩ := zi2 he
                    exact W.iret hx hb hr (fun t ht hW => ⟨⟨_, (), rfl, rfl, by rw [ht]; exact hP, va_K.moved hW.alike hK, hD⟩, hS.F ht⟩) hS.2.2 dX8_walk_325
                · have he := zif_t c21 he
                  refine lv_iload hx hb dX8_walk_295 (lv_at hl 3 rfl) ?_
                  refine lv_goto (tgt := 325) hx hb dX8_walk_297 (by decide) ?_
                  obtain ⟨rfl, rfl⟩ := zi2 he
                  exact W.iret hx hb hr (fun t ht hW => ⟨⟨_, (), rfl, rfl, by rw [ht]; exact hP, va_K.moved hW.alike hK, hD⟩, hS.F ht⟩) hS.2.2 dX8_walk_325
              · have he := zif_t c20 he
                refine lv_iload hx hb dX8_walk_285 (lv_at hl 2 rfl) ?_
                refine lv_goto (tgt := 325) hx hb dX8_walk_287 (by decide) ?_
                obtain ⟨rfl, rfl⟩ := zi2 he
                exact W.iret hx hb hr (fun t ht hW => ⟨⟨_, (), rfl, rfl, by rw [ht]; exact hP, va_K.moved hW.alike hK, hD⟩, hS.F ht⟩) hS.2.2 dX8_walk_325
            · have he := zif_t c19 he
              refine lv_iload hx hb dX8_walk_275 (lv_at hl 1 rfl) ?_
              refine lv_goto (tgt := 325) hx hb dX8_walk_277 (by decide) ?_
              obtain ⟨rfl, rfl⟩ := zi2 he
              exact W.iret hx hb hr (fun t ht hW => ⟨⟨_, (), rfl, rfl, by rw [ht]; exact hP, va_K.moved hW.alike hK, hD⟩, hS.F ht⟩) hS.2.2 dX8_walk_325
          refine (hWW _ _ _ _).mp (zl9_w he (fun (l4_25 : Int32) (l5_26 : Int32) (l6_27 : Int32) (l7_28 : Int32) (l8_29 : Int32) (l9_30 : Int32) (l10_31 : Int32) (l11_32 : Int32) (l12_33 : Int32) => WW [(a_this, .inr (8, [.ref a_this_s, .ref a_this_image, .ref a_this_was, .int v_hasImage, .ref a_this_letters, .ref a_this_row, .ref a_this_refused, .int v_letterMany, .int v_rowMany, .int v_place, .ref a_this_numbers, .ref a_this_least, .ref a_this_stepsFrom, .ref a_this_most, .ref a_this_next, .ref a_this_otherSteps, .ref a_this_ahead, .ref a_this_now, .int v_seed])), (a_this_refused, .inl (cI, 7, .inl g_refused)), (a_this_row, .inl (cI, 20, .inl g_row)), (a_this_s, .inl (cI, 39, .inl g_s))] [(0, .ref a_this), (1, .int p1), (3, .int s10), (4, .int l4_25), (5, .int l5_26), (6, .int l6_27), (7, .int l7_28), (8, .int l8_29), (9, .int l9_30), (10, .int l10_31), (11, .int l11_32), (12, .int l12_33)] 88 []) (fun l4_25 l5_26 l6_27 l7_28 l8_29 l9_30 l10_31 l11_32 l12_33 again34 hagain34 he => (hWW _ _ _ _).mpr (fun H locs ls hP hD hS hl => ?_))) _ _ _ hP hD hS (lv_sub hl [10, 11, 9, 8, 7, 6, 5, 4, 3, 2, 1, 0] rfl)
          refine lv_iload hx hb dX8_walk_88 (lv_at hl 11 rfl) ?_
          refine lv_iload_n hx hb dX8_walk_90 rfl (lv_at hl 2 rfl) ?_
          refine lv_icmp_gt (tgt := 270) hx hb dX8_walk_91 (by decide) (fun c35 => ?_) (fun c35 => ?_)
          · have he := zif_t c35 he
            exact (hWW _ _ _ _).mp (hk24 l4_25 l6_27 l7_28 l8_29 l9_30 l11_32 he) _ _ _ hP hD hS (lv_sub hl [1, 3, 5, 6, 7, 8, 10] rfl)
          · have he := zif_f c35 he
            refine lv_iload hx hb dX8_walk_94 (lv_at hl 11 rfl) ?_
            refine lv_iload_n hx hb dX8_walk_96 rfl (lv_at hl 2 rfl) ?_
            refine zj1_w he (fun (s36 : Int32) => WW [(a_this, .inr (8, [.ref a_this_s, .ref a_this_image, .ref a_this_was, .int v_hasImage, .ref a_this_letters, .ref a_this_row, .ref a_this_refused, .int v_letterMany, .int v_rowMany, .int v_place, .ref a_this_numbers, .ref a_this_least, .ref a_this_stepsFrom, .ref a_this_most, .ref a_this_next, .ref a_this_otherSteps, .ref a_this_ahead, .ref a_this_now, .int v_seed])), (a_this_refused, .inl (cI, 7, .inl g_refused)), (a_this_row, .inl (cI, 20, .inl g_row)), (a_this_s, .inl (cI, 39, .inl g_s))] [(0, .ref a_this), (1, .int p1), (3, .int s10), (4, .int l4_25), (5, .int l5_26), (6, .int l6_27), (7, .int l7_28), (8, .int l8_29), (9, .int l9_30), (10, .int l10_31), (11, .int l11_32), (12, .int l12_33)] 123 [.int s36]) (fun s36 he => (hWW _ _ _ _).mpr (fun H locs ls hP hD hS hl => ?_)) (fun k75 hk75 he => ?_)
            · refine lv_istore (lv' := [(13, .int s36), (0, .ref a_this), (1, .int p1), (3, .int s10), (4, .int l4_25), (5, .int l5_26), (6, .int l6_27), (7, .int l7_28), (8, .int l8_29), (9, .int l9_30), (10, .int l10_31), (11, .int l11_32), (12, .int l12_33)]) hx hb dX8_walk_123 hl (by decide) rfl (fun ls hl => ?_)
              refine lv_iload hx hb dX8_walk_125 (lv_at hl 0 rfl) ?_
              refine zj1_w he (fun (s37 : Int32) => WW [(a_this, .inr (8, [.ref a_this_s, .ref a_this_image, .ref a_this_was, .int v_hasImage, .ref a_this_letters, .ref a_this_row, .ref a_this_refused, .int v_letterMany, .int v_rowMany, .int v_place, .ref a_this_numbers, .ref a_this_least, .ref a_this_stepsFrom, .ref a_this_most, .ref a_this_next, .ref a_this_otherSteps, .ref a_this_ahead, .ref a_this_now, .int v_seed])), (a_this_refused, .inl (cI, 7, .inl g_refused)), (a_this_row, .inl (cI, 20, .inl g_row)), (a_this_s, .inl (cI, 39, .inl g_s))] [(0, .ref a_this), (1, .int p1), (3, .int s10), (4, .int l4_25), (5, .int l5_26), (6, .int l6_27), (7, .int l7_28), (8, .int l8_29), (9, .int l9_30), (10, .int l10_31), (11, .int l11_32), (12, .int l12_33), (13, .int s36)] 140 [.int s37]) (fun s37 he => (hWW _ _ _ _).mpr (fun H locs ls hP hD hS hl => ?_)) (fun k71 hk71 he => ?_)
              · refine lv_istore (lv' := [(14, .int s37), (0, .ref a_this), (1, .int p1), (3, .int s10), (4, .int l4_25), (5, .int l5_26), (6, .int l6_27), (7, .int l7_28), (8, .int l8_29), (9, .int l9_30), (10, .int l10_31), (11, .int l11_32), (12, .int l12_33), (13, .int s36)]) hx hb dX8_walk_140 hl (by decide) rfl (fun ls hl => ?_)
                refine lv_iload hx hb dX8_walk_142 (lv_at hl 6 rfl) ?_
                refine lv_iload hx hb dX8_walk_144 (lv_at hl 0 rfl) ?_
                refine lv_iadd hx hb dX8_walk_146 ?_
                refine lv_topi (fun x38 ex38 => ?_)
                have he := zn_e ex38 he
                refine lv_istore (lv' := [(6, .int x38), (14, .int s37), (0, .ref a_this), (1, .int p1), (3, .int s10), (4, .int l4_25), (5, .int l5_26), (7, .int l7_28), (8, .int l8_29), (9, .int l9_30), (10, .int l10_31), (11, .int l11_32), (12, .int l12_33), (13, .int s36)]) hx hb dX8_walk_147 hl (by decide) rfl (fun ls hl => ?_)
                refine lv_iload hx hb dX8_walk_149 (lv_at hl 9 rfl) ?_
                refine lv_iload hx hb dX8_walk_151 (lv_at hl 1 rfl) ?_
                refine lv_aload_n hx hb dX8_walk_153 rfl (lv_at hl 2 rfl) ?_
                refine va_get (D := (dC, dI)) (ci := 8) (v := .ref a_this_s) (C := RX8) (T := TX8) (N := 19) hx hb hts (by decide +kernel) hown hK hP 0 rfl rfl 0 (by decide) (hts (.fieldLink RX8 9 "LawOfCornersModel" "s" "[I") (by decide +kernel)) (fun _ h9 => h9) rfl dX8_walk_154 ?_
                refine lv_bipush (v := (37 : Int32)) hx hb dX8_walk_157 (by decide) ?_
                obtain ⟨hg39, he⟩ := zg_e he
                refine va_iald hx hb hK hP 3 0 rfl rfl hg39 dX8_walk_159 ?_
                refine lv_imul hx hb dX8_walk_160 ?_
                refine lv_aload_n hx hb dX8_walk_161 rfl (lv_at hl 2 rfl) ?_
                refine lv_iload hx hb dX8_walk_162 (lv_at hl 5 rfl) ?_
                obtain ⟨r40, hf41, he⟩ := zb1_e he
                refine zc_i (wr := [(a_this_refused, .inl (cI, 7, .inl g_refused)), (a_this_row, .inl (cI, 20, .inl g_row))]) (ws' := [(a_this, .inr (8, [.ref a_this_s, .ref a_this_image, .ref a_this_was, .int v_hasImage, .ref a_this_letters, .ref a_this_row, .ref a_this_refused, .int v_letterMany, .int v_rowMany, .int v_place, .ref a_this_numbers, .ref a_this_least, .ref a_this_stepsFrom, .ref a_this_most, .ref a_this_next, .ref a_this_otherSteps, .ref a_this_ahead, .ref a_this_now, .int v_seed])), (a_this_refused, .inl (cI, 7, .inl g_refused)), (a_this_row, .inl (cI, 20, .inl g_row)), (a_this_s, .inl (cI, 39, .inl g_s))]) (va_runV (As := [.int l4_25]) (rest := [.int (s37 * (g_s (37 : Int32).toNatClampNeg)), .int l9_30]) ⟨hx, hb, hml, hown, hts⟩ (k_M_heardBy l dC dI cI cZ tt sd a_this a_this_s a_this_image a_this_was a_this_letters a_this_row a_this_refused a_this_numbers a_this_least a_this_stepsFrom a_this_most a_this_next a_this_otherSteps a_this_ahead a_this_now H.size v_hasImage v_letterMany v_rowMany v_place v_seed g_s l4_25 r40 hf41) (cwV 1 hts gX8_walk_X8_heardBy rfl rfl rfl (by decide +kernel) ⟨Nat.le_of_ble_eq_true rfl, Nat.le_of_ble_eq_true rfl⟩) (zpV hP hD hK hS hA hZ [0, 3] rfl rfl 8 0 rfl rfl) rfl rfl hl.1 rfl (lv_room (Nat.le_of_ble_eq_true rfl)) dX8_walk_164 ⟨Nat.zero_le _, Nat.zero_le _⟩) hP hD hS hA [0, 3] [1, 2] [2, 0, 1, 3] rfl rfl rfl (by decide) rfl rfl rfl (fun H locs hP hD hS => ?_)
                refine lv_imul hx hb dX8_walk_167 ?_
                refine lv_iadd hx hb dX8_walk_168 ?_
                refine lv_topi (fun x42 ex42 => ?_)
                have he := zn_e ex42 he
                refine lv_istore (lv' := [(9, .int x42), (6, .int x38), (14, .int s37), (0, .ref a_this), (1, .int p1), (3, .int s10), (4, .int l4_25), (5, .int l5_26), (7, .int l7_28), (8, .int l8_29), (10, .int l10_31), (11, .int l11_32), (12, .int l12_33), (13, .int s36)]) hx hb dX8_walk_169 hl (by decide) rfl (fun ls hl => ?_)
                refine lv_iload hx hb dX8_walk_171 (lv_at hl 10 rfl) ?_
                refine lv_iload hx hb dX8_walk_173 (lv_at hl 2 rfl) ?_
                refine lv_iadd hx hb dX8_walk_175 ?_
                refine lv_topi (fun x43 ex43 => ?_)
                have he := zn_e ex43 he
                refine lv_istore (lv' := [(10, .int x43), (9, .int x42), (6, .int x38), (14, .int s37), (0, .ref a_this), (1, .int p1), (3, .int s10), (4, .int l4_25), (5, .int l5_26), (7, .int l7_28), (8, .int l8_29), (11, .int l11_32), (12, .int l12_33), (13, .int s36)]) hx hb dX8_walk_176 hl (by decide) rfl (fun ls hl => ?_)
                refine lv_iload hx hb dX8_walk_178 (lv_at hl 13 rfl) ?_
                refine zj3_w he (fun (l8_44 : Int32) (l10_45 : Int32) (l11_46 : Int32) => WW [(a_this, .inr (8, [.ref a_this_s, .ref a_this_image, .ref a_this_was, .int v_hasImage, .ref a_this_letters, .ref a_this_row, .ref a_this_refused, .int v_letterMany, .int v_rowMany, .int v_place, .ref a_this_numbers, .ref a_this_least, .ref a_this_stepsFrom, .ref a_this_most, .ref a_this_next, .ref a_this_otherSteps, .ref a_this_ahead, .ref a_this_now, .int v_seed])), (a_this_refused, .inl (cI, 7, .inl g_refused)), (a_this_row, .inl (cI, 20, .inl g_row)), (a_this_s, .inl (cI, 39, .inl g_s))] [(0, .ref a_this), (1, .int p1), (3, .int s10), (4, .int l4_25), (5, .int l5_26), (6, .int x38), (7, .int l7_28), (8, .int l8_44), (9, .int x42), (10, .int l10_45), (11, .int l11_46), (12, .int l12_33), (13, .int s36)] 219 []) (fun l8_44 l10_45 l11_46 he => (hWW _ _ _ _).mpr (fun H locs ls hP hD hS hl => ?_)) (fun k61 hk61 he => ?_)
                · refine lv_iload hx hb dX8_walk_219 (lv_at hl 6 rfl) ?_
                  refine lv_iload hx hb dX8_walk_221 (lv_at hl 12 rfl) ?_
                  refine zj1_w he (fun (s47 : Int32) => WW [(a_this, .inr (8, [.ref a_this_s, .ref a_this_image, .ref a_this_was, .int v_hasImage, .ref a_this_letters, .ref a_this_row, .ref a_this_refused, .int v_letterMany, .int v_rowMany, .int v_place, .ref a_this_numbers, .ref a_this_least, .ref a_this_stepsFrom, .ref a_this_most, .ref a_this_next, .ref a_this_otherSteps, .ref a_this_ahead, .ref a_this_now, .int v_seed])), (a_this_refused, .inl (cI, 7, .inl g_refused)), (a_this_row, .inl (cI, 20, .inl g_row)), (a_this_s, .inl (cI, 39, .inl g_s))] [(0, .ref a_this), (1, .int p1), (3, .int s10), (4, .int l4_25), (5, .int l5_26), (6, .int x38), (8, .int l8_44), (9, .int x42), (10, .int l10_45), (11, .int l11_46), (12, .int l12_33)] 231 [.int s47, .int l7_28]) (fun s47 he => (hWW _ _ _ _).mpr (fun H locs ls hP hD hS hl => ?_)) (fun k59 hk59 he => ?_)
                  · refine lv_iadd hx hb dX8_walk_231 ?_
                    refine lv_topi (fun x48 ex48 => ?_)
                    have he := zn_e ex48 he
                    refine lv_istore (lv' := [(7, .int x48), (0, .ref a_this), (1, .int p1), (3, .int s10), (4, .int l4_25), (5, .int l5_26), (6, .int x38), (8, .int l8_44), (9, .int x42), (10, .int l10_45), (11, .int l11_46), (12, .int l12_33)]) hx hb dX8_walk_232 hl (by decide) rfl (fun ls hl => ?_)
                    refine lv_iload hx hb dX8_walk_234 (lv_at hl 11 rfl) ?_
                    refine lv_iload_n hx hb dX8_walk_236 rfl (lv_at hl 3 rfl) ?_
                    refine zj2_w he (fun (l4_49 : Int32) (l5_50 : Int32) => WW [(a_this, .inr (8, [.ref a_this_s, .ref a_this_image, .ref a_this_was, .int v_hasImage, .ref a_this_letters, .ref a_this_row, .ref a_this_refused, .int v_letterMany, .int v_rowMany, .int v_place, .ref a_this_numbers, .ref a_this_least, .ref a_this_stepsFrom, .ref a_this_most, .ref a_this_next, .ref a_this_otherSteps, .ref a_this_ahead, .ref a_this_now, .int v_seed])), (a_this_refused, .inl (cI, 7, .inl g_refused)), (a_this_row, .inl (cI, 20, .inl g_row)), (a_this_s, .inl (cI, 39, .inl g_s))] [(0, .ref a_this), (1, .int p1), (3, .int s10), (4, .int l4_49), (5, .int l5_50), (6, .int x38), (7, .int x48), (8, .int l8_44), (9, .int x42), (10, .int l10_45), (11, .int l11_46), (12, .int l12_33)] 264 []) (fun l4_49 l5_50 he => (hWW _ _ _ _).mpr (fun H locs ls hP hD hS hl => ?_)) (fun k52 hk52 he => ?_)
                    · obtain ⟨x51, ex51⟩ : ∃ y : Int32, y = l12_33 + (1 : Int32) := ⟨_, rfl⟩
                      have he := zn_e ex51 he
                      refine lv_iinc (v := x51) (lv' := [(12, .int x51), (0, .ref a_this), (1, .int p1), (3, .int s10), (4, .int l4_49), (5, .int l5_50), (6, .int x38), (7, .int x48), (8, .int l8_44), (9, .int x42), (10, .int l10_45), (11, .int l11_46)]) hx hb dX8_walk_264 hl (k := 11) rfl (by rw [ex51]; rfl) (by decide) rfl (fun ls hl => ?_)
                      refine lv_goto (tgt := 88) hx hb dX8_walk_267 (by decide) ?_
                      exact (hWW _ _ _ _).mp (hagain34 l4_49 l5_50 x38 x48 l8_44 x42 l10_45 l11_46 x51 he) _ _ _ hP hD hS (lv_sub hl [1, 2, 3, 4, 5, 6, 7, 8, 9, 10, 11, 0] rfl)
                    refine lv_icmp_ge (tgt := 264) hx hb dX8_walk_237 (by decide) (fun c53 => ?_) (fun c53 => ?_)
                    · have he := zif_t c53 he
                      exact (hWW _ _ _ _).mp (hk52 l4_25 l5_26 he) _ _ _ hP hD hS (lv_sub hl [1, 2, 3, 4, 5, 6, 0, 7, 8, 9, 10, 11] rfl)
                    · have he := zif_f c53 he
                      refine lv_aload_n hx hb dX8_walk_240 rfl (lv_at hl 1 rfl) ?_
                      refine lv_iload hx hb dX8_walk_241 (lv_at hl 4 rfl) ?_
                      refine lv_aload_n hx hb dX8_walk_243 rfl (lv_at hl 1 rfl) ?_
                      refine va_get (D := (dC, dI)) (ci := 8) (v := .ref a_this_row) (C := RX8) (T := TX8) (N := 19) hx hb hts (by decide +kernel) hown hK hP 0 rfl rfl 5 (by decide) (hts (.fieldLink RX8 22 "LawOfCornersModel" "row" "[I") (by decide +kernel)) (fun _ h9 => h9) rfl dX8_walk_244 ?_
                      refine lv_iload hx hb dX8_walk_247 (lv_at hl 11 rfl) ?_
                      obtain ⟨hg54, he⟩ := zg_e he
                      refine va_iald hx hb hK hP 2 0 rfl rfl hg54 dX8_walk_249 ?_
                      obtain ⟨r55, hf56, he⟩ := zb1_e he
                      refine zc_i (wr := [(a_this_refused, .inl (cI, 7, .inl g_refused)), (a_this_row, .inl (cI, 20, .inl g_row))]) (ws' := [(a_this, .inr (8, [.ref a_this_s, .ref a_this_image, .ref a_this_was, .int v_hasImage, .ref a_this_letters, .ref a_this_row, .ref a_this_refused, .int v_letterMany, .int v_rowMany, .int v_place, .ref a_this_numbers, .ref a_this_least, .ref a_this_stepsFrom, .ref a_this_most, .ref a_this_next, .ref a_this_otherSteps, .ref a_this_ahead, .ref a_this_now, .int v_seed])), (a_this_refused, .inl (cI, 7, .inl g_refused)), (a_this_row, .inl (cI, 20, .inl g_row)), (a_this_s, .inl (cI, 39, .inl g_s))]) (va_runV (As := [.int l4_25, .int (g_row l12_33.toNatClampNeg)]) (rest := []) ⟨hx, hb, hml, hown, hts⟩ (k_M_gone l dC dI cI cZ tt sd a_this a_this_s a_this_image a_this_was a_this_letters a_this_row a_this_refused a_this_numbers a_this_least a_this_stepsFrom a_this_most a_this_next a_this_otherSteps a_this_ahead a_this_now H.size v_hasImage v_letterMany v_rowMany v_place v_seed g_s l4_25 (g_row l12_33.toNatClampNeg) r55 hf56) (cwV 2 hts gX8_walk_X8_gone rfl rfl rfl (by decide +kernel) ⟨Nat.le_of_ble_eq_true rfl, Nat.le_of_ble_eq_true rfl⟩) (zpV hP hD hK hS hA hZ [0, 3] rfl rfl 8 0 rfl rfl) rfl rfl hl.1 rfl (lv_room (Nat.le_of_ble_eq_true rfl)) dX8_walk_250 ⟨Nat.zero_le _, Nat.zero_le _⟩) hP hD hS hA [0, 3] [1, 2] [2, 0, 1, 3] rfl rfl rfl (by decide) rfl rfl rfl (fun H locs hP hD hS => ?_)
                      refine lv_istore (lv' := [(4, .int r55), (7, .int x48), (0, .ref a_this), (1, .int p1), (3, .int s10), (5, .int l5_26), (6, .int x38), (8, .int l8_44), (9, .int x42), (10, .int l10_45), (11, .int l11_46), (12, .int l12_33)]) hx hb dX8_walk_253 hl (by decide) rfl (fun ls hl => ?_)
                      refine lv_aload_n hx hb dX8_walk_255 rfl (lv_at hl 2 rfl) ?_
                      refine va_get (D := (dC, dI)) (ci := 8) (v := .ref a_this_row) (C := RX8) (T := TX8) (N := 19) hx hb hts (by decide +kernel) hown hK hP 0 rfl rfl 5 (by decide) (hts (.fieldLink RX8 22 "LawOfCornersModel" "row" "[I") (by decide +kernel)) (fun _ h9 => h9) rfl dX8_walk_256 ?_
                      refine lv_iload hx hb dX8_walk_259 (lv_at hl 11 rfl) ?_
                      obtain ⟨hg57, he⟩ := zg_e he
                      refine va_iald hx hb hK hP 2 0 rfl rfl hg57 dX8_walk_261 ?_
                      refine lv_topi (fun x58 ex58 => ?_)
                      have he := zn_e ex58 he
                      refine lv_istore (lv' := [(5, .int x58), (4, .int r55), (7, .int x48), (0, .ref a_this), (1, .int p1), (3, .int s10), (6, .int x38), (8, .int l8_44), (9, .int x42), (10, .int l10_45), (11, .int l11_46), (12, .int l12_33)]) hx hb dX8_walk_262 hl (by decide) rfl (fun ls hl => ?_)
                      exact (hWW _ _ _ _).mp (hk52 r55 x58 he) _ _ _ hP hD hS (lv_sub hl [3, 4, 5, 1, 0, 6, 2, 7, 8, 9, 10, 11] rfl)
                  refine lv_if_eq (tgt := 230) hx hb dX8_walk_223 (by decide) (fun c60 => ?_) (fun c60 => ?_)
                  · have he := zif_t c60 he
                    refine lv_iconst (v := (0 : Int32)) hx hb dX8_walk_230 (by decide) ?_
                    exact (hWW _ _ _ _).mp (hk59 (0 : Int32) he) _ _ _ hP hD hS (lv_sub hl [0, 1, 2, 3, 4, 5, 7, 8, 9, 10, 11] rfl)
                  · have he := zif_f c60 he
                    refine lv_iconst (v := (1 : Int32)) hx hb dX8_walk_226 (by decide) ?_
                    refine lv_goto (tgt := 231) hx hb dX8_walk_227 (by decide) ?_
                    exact (hWW _ _ _ _).mp (hk59 (1 : Int32) he) _ _ _ hP hD hS (lv_sub hl [0, 1, 2, 3, 4, 5, 7, 8, 9, 10, 11] rfl)
                refine zj1_w he (fun (_ : Unit) => WW [(a_this, .inr (8, [.ref a_this_s, .ref a_this_image, .ref a_this_was, .int v_hasImage, .ref a_this_letters, .ref a_this_row, .ref a_this_refused, .int v_letterMany, .int v_rowMany, .int v_place, .ref a_this_numbers, .ref a_this_least, .ref a_this_stepsFrom, .ref a_this_most, .ref a_this_next, .ref a_this_otherSteps, .ref a_this_ahead, .ref a_this_now, .int v_seed])), (a_this_refused, .inl (cI, 7, .inl g_refused)), (a_this_row, .inl (cI, 20, .inl g_row)), (a_this_s, .inl (cI, 39, .inl g_s))] [(0, .ref a_this), (1, .int p1), (3, .int s10), (4, .int l4_25), (5, .int l5_26), (6, .int x38), (7, .int l7_28), (8, .int l8_29), (9, .int x42), (10, .int x43), (11, .int l11_32), (12, .int l12_33), (13, .int s36)] 189 []) (fun _ he => (hWW _ _ _ _).mpr (fun H locs ls hP hD hS hl => ?_)) (fun k68 hk68 he => ?_)
                · refine lv_iload hx hb dX8_walk_189 (lv_at hl 7 rfl) ?_
                  refine lv_aload_n hx hb dX8_walk_191 rfl (lv_at hl 0 rfl) ?_
                  refine lv_iload hx hb dX8_walk_192 (lv_at hl 9 rfl) ?_
                  obtain ⟨r62, hf63, he⟩ := zb1_e he
                  refine zc_i (wr := [(a_this_refused, .inl (cI, 7, .inl g_refused)), (a_this_row, .inl (cI, 20, .inl g_row))]) (ws' := [(a_this, .inr (8, [.ref a_this_s, .ref a_this_image, .ref a_this_was, .int v_hasImage, .ref a_this_letters, .ref a_this_row, .ref a_this_refused, .int v_letterMany, .int v_rowMany, .int v_place, .ref a_this_numbers, .ref a_this_least, .ref a_this_stepsFrom, .ref a_this_most, .ref a_this_next, .ref a_this_otherSteps, .ref a_this_ahead, .ref a_this_now, .int v_seed])), (a_this_refused, .inl (cI, 7, .inl g_refused)), (a_this_row, .inl (cI, 20, .inl g_row)), (a_this_s, .inl (cI, 39, .inl g_s))]) (va_runV (As := [.int x43]) (rest := [.int l8_29]) ⟨hx, hb, hml, hown, hts⟩ (k_M_cutsOf l dC dI cI cZ tt sd a_this a_this_s a_this_image a_this_was a_this_letters a_this_row a_this_refused a_this_numbers a_this_least a_this_stepsFrom a_this_most a_this_next a_this_otherSteps a_this_ahead a_this_now H.size v_hasImage v_letterMany v_rowMany v_place v_seed g_s x43 r62 hf63) (cwV 1 hts gX8_walk_X8_cutsOf rfl rfl rfl (by decide +kernel) ⟨Nat.le_of_ble_eq_true rfl, Nat.le_of_ble_eq_true rfl⟩) (zpV hP hD hK hS hA hZ [0, 3] rfl rfl 8 0 rfl rfl) rfl rfl hl.1 rfl (lv_room (Nat.le_of_ble_eq_true rfl)) dX8_walk_194 ⟨Nat.zero_le _, Nat.zero_le _⟩) hP hD hS hA [0, 3] [1, 2] [2, 0, 1, 3] rfl rfl rfl (by decide) rfl rfl rfl (fun H locs hP hD hS => ?_)
                  refine lv_iadd hx hb dX8_walk_197 ?_
                  refine lv_topi (fun x64 ex64 => ?_)
                  have he := zn_e ex64 he
                  refine lv_istore (lv' := [(8, .int x64), (0, .ref a_this), (1, .int p1), (3, .int s10), (4, .int l4_25), (5, .int l5_26), (6, .int x38), (7, .int l7_28), (9, .int x42), (10, .int x43), (11, .int l11_32), (12, .int l12_33), (13, .int s36)]) hx hb dX8_walk_198 hl (by decide) rfl (fun ls hl => ?_)
                  refine lv_iload hx hb dX8_walk_200 (lv_at hl 9 rfl) ?_
                  refine lv_iload hx hb dX8_walk_202 (lv_at hl 10 rfl) ?_
                  refine zj1_w he (fun (s65 : Int32) => WW [(a_this, .inr (8, [.ref a_this_s, .ref a_this_image, .ref a_this_was, .int v_hasImage, .ref a_this_letters, .ref a_this_row, .ref a_this_refused, .int v_letterMany, .int v_rowMany, .int v_place, .ref a_this_numbers, .ref a_this_least, .ref a_this_stepsFrom, .ref a_this_most, .ref a_this_next, .ref a_this_otherSteps, .ref a_this_ahead, .ref a_this_now, .int v_seed])), (a_this_refused, .inl (cI, 7, .inl g_refused)), (a_this_row, .inl (cI, 20, .inl g_row)), (a_this_s, .inl (cI, 39, .inl g_s))] [(0, .ref a_this), (1, .int p1), (3, .int s10), (4, .int l4_25), (5, .int l5_26), (6, .int x38), (7, .int l7_28), (8, .int x64), (9, .int x42), (12, .int l12_33), (13, .int s36)] 214 [.int s65]) (fun s65 he => (hWW _ _ _ _).mpr (fun H locs ls hP hD hS hl => ?_)) (fun k66 hk66 he => ?_)
                  · refine lv_istore (lv' := [(11, .int s65), (0, .ref a_this), (1, .int p1), (3, .int s10), (4, .int l4_25), (5, .int l5_26), (6, .int x38), (7, .int l7_28), (8, .int x64), (9, .int x42), (12, .int l12_33), (13, .int s36)]) hx hb dX8_walk_214 hl (by decide) rfl (fun ls hl => ?_)
                    refine lv_iconst (v := (0 : Int32)) hx hb dX8_walk_216 (by decide) ?_
                    refine lv_istore (lv' := [(10, .int (0 : Int32)), (11, .int s65), (0, .ref a_this), (1, .int p1), (3, .int s10), (4, .int l4_25), (5, .int l5_26), (6, .int x38), (7, .int l7_28), (8, .int x64), (9, .int x42), (12, .int l12_33), (13, .int s36)]) hx hb dX8_walk_217 hl (by decide) rfl (fun ls hl => ?_)
                    exact (hWW _ _ _ _).mp (hk61 x64 (0 : Int32) s65 he) _ _ _ hP hD hS (lv_sub hl [2, 3, 4, 5, 6, 7, 8, 9, 10, 0, 1, 11, 12] rfl)
                  refine lv_icmp_le (tgt := 212) hx hb dX8_walk_204 (by decide) (fun c67 => ?_) (fun c67 => ?_)
                  · have he := zif_t c67 he
                    refine lv_iload hx hb dX8_walk_212 (lv_at hl 10 rfl) ?_
                    exact (hWW _ _ _ _).mp (hk66 l11_32 he) _ _ _ hP hD hS (lv_sub hl [1, 2, 3, 4, 5, 6, 7, 0, 8, 11, 12] rfl)
                  · have he := zif_f c67 he
                    refine lv_iload hx hb dX8_walk_207 (lv_at hl 9 rfl) ?_
                    refine lv_goto (tgt := 214) hx hb dX8_walk_209 (by decide) ?_
                    exact (hWW _ _ _ _).mp (hk66 x43 he) _ _ _ hP hD hS (lv_sub hl [1, 2, 3, 4, 5, 6, 7, 0, 8, 11, 12] rfl)
                refine lv_if_ne (tgt := 189) hx hb dX8_walk_180 (by decide) (fun c69 => ?_) (fun c69 => ?_)
                · have he := zif_f c69 he
                  exact (hWW _ _ _ _).mp (hk68 () he) _ _ _ hP hD hS (lv_sub hl [4, 5, 6, 7, 8, 2, 9, 10, 1, 0, 11, 12, 13] rfl)
                · have he := zif_t c69 he
                  refine lv_iload hx hb dX8_walk_183 (lv_at hl 12 rfl) ?_
                  refine lv_iload_n hx hb dX8_walk_185 rfl (lv_at hl 6 rfl) ?_
                  refine lv_icmp_ne (tgt := 219) hx hb dX8_walk_186 (by decide) (fun c70 => ?_) (fun c70 => ?_)
                  · have he := zif_f c70 he
                    exact (hWW _ _ _ _).mp (hk61 l8_29 x43 l11_32 he) _ _ _ hP hD hS (lv_sub hl [4, 5, 6, 7, 8, 2, 9, 10, 1, 0, 11, 12, 13] rfl)
                  · have he := zif_t c70 he
                    exact (hWW _ _ _ _).mp (hk68 () he) _ _ _ hP hD hS (lv_sub hl [4, 5, 6, 7, 8, 2, 9, 10, 1, 0, 11, 12, 13] rfl)
              refine lv_if_eq (tgt := 134) hx hb dX8_walk_127 (by decide) (fun c72 => ?_) (fun c72 => ?_)
              · have he := zif_t c72 he
                refine lv_aload_n hx hb dX8_walk_134 rfl (lv_at hl 1 rfl) ?_
                refine lv_iload hx hb dX8_walk_135 (lv_at hl 4 rfl) ?_
                obtain ⟨r73, hf74, he⟩ := zb1_e he
                refine zc_i (wr := [(a_this_refused, .inl (cI, 7, .inl g_refused)), (a_this_row, .inl (cI, 20, .inl g_row))]) (ws' := [(a_this, .inr (8, [.ref a_this_s, .ref a_this_image, .ref a_this_was, .int v_hasImage, .ref a_this_letters, .ref a_this_row, .ref a_this_refused, .int v_letterMany, .int v_rowMany, .int v_place, .ref a_this_numbers, .ref a_this_least, .ref a_this_stepsFrom, .ref a_this_most, .ref a_this_next, .ref a_this_otherSteps, .ref a_this_ahead, .ref a_this_now, .int v_seed])), (a_this_refused, .inl (cI, 7, .inl g_refused)), (a_this_row, .inl (cI, 20, .inl g_row)), (a_this_s, .inl (cI, 39, .inl g_s))]) (va_runV (As := [.int l4_25]) (rest := []) ⟨hx, hb, hml, hown, hts⟩ (k_M_wordsOn l dC dI cI cZ tt sd a_this a_this_s a_this_image a_this_was a_this_letters a_this_row a_this_refused a_this_numbers a_this_least a_this_stepsFrom a_this_most a_this_next a_this_otherSteps a_this_ahead a_this_now H.size v_hasImage v_letterMany v_rowMany v_place v_seed g_s l4_25 r73 hf74) (cwV 1 hts gX8_walk_X8_wordsOn rfl rfl rfl (by decide +kernel) ⟨Nat.le_of_ble_eq_true rfl, Nat.le_of_ble_eq_true rfl⟩) (zpV hP hD hK hS hA hZ [0, 3] rfl rfl 8 0 rfl rfl) rfl rfl hl.1 rfl (lv_room (Nat.le_of_ble_eq_true rfl)) dX8_walk_137 ⟨Nat.zero_le _, Nat.zero_le _⟩) hP hD hS hA [0, 3] [1, 2] [2, 0, 1, 3] rfl rfl rfl (by decide) rfl rfl rfl (fun H locs hP hD hS => ?_)
                exact (hWW _ _ _ _).mp (hk71 r73 he) _ _ _ hP hD hS (lv_sub hl [1, 2, 3, 4, 5, 6, 7, 8, 9, 10, 11, 12, 0] rfl)
              · have he := zif_f c72 he
                refine lv_iconst (v := (0 : Int32)) hx hb dX8_walk_130 (by decide) ?_
                refine lv_goto (tgt := 140) hx hb dX8_walk_131 (by decide) ?_
                exact (hWW _ _ _ _).mp (hk71 (0 : Int32) he) _ _ _ hP hD hS (lv_sub hl [1, 2, 3, 4, 5, 6, 7, 8, 9, 10, 11, 12, 0] rfl)
            refine zj1_w he (fun (_ : Unit) => WW [(a_this, .inr (8, [.ref a_this_s, .ref a_this_image, .ref a_this_was, .int v_hasImage, .ref a_this_letters, .ref a_this_row, .ref a_this_refused, .int v_letterMany, .int v_rowMany, .int v_place, .ref a_this_numbers, .ref a_this_least, .ref a_this_stepsFrom, .ref a_this_most, .ref a_this_next, .ref a_this_otherSteps, .ref a_this_ahead, .ref a_this_now, .int v_seed])), (a_this_refused, .inl (cI, 7, .inl g_refused)), (a_this_row, .inl (cI, 20, .inl g_row)), (a_this_s, .inl (cI, 39, .inl g_s))] [(0, .ref a_this), (1, .int p1), (3, .int s10), (4, .int l4_25), (5, .int l5_26), (6, .int l6_27), (7, .int l7_28), (8, .int l8_29), (9, .int l9_30), (10, .int l10_31), (11, .int l11_32), (12, .int l12_33)] 122 []) (fun _ he => (hWW _ _ _ _).mpr (fun H locs ls hP hD hS hl => ?_)) (fun k76 hk76 he => ?_)
            · refine lv_iconst (v := (0 : Int32)) hx hb dX8_walk_122 (by decide) ?_
              exact (hWW _ _ _ _).mp (hk75 (0 : Int32) he) _ _ _ hP hD hS (lv_sub hl [0, 1, 2, 3, 4, 5, 6, 7, 8, 9, 10, 11] rfl)
            refine lv_icmp_ge (tgt := 122) hx hb dX8_walk_97 (by decide) (fun c77 => ?_) (fun c77 => ?_)
            · have he := zif_t c77 he
              exact (hWW _ _ _ _).mp (hk76 () he) _ _ _ hP hD hS (lv_sub hl [0, 1, 2, 3, 4, 5, 6, 7, 8, 9, 10, 11] rfl)
            · have he := zif_f c77 he
              refine lv_aload_n hx hb dX8_walk_100 rfl (lv_at hl 0 rfl) ?_
              refine lv_iload hx hb dX8_walk_101 (lv_at hl 3 rfl) ?_
              refine lv_iload hx hb dX8_walk_103 (lv_at hl 4 rfl) ?_
              refine lv_aload_n hx hb dX8_walk_105 rfl (lv_at hl 0 rfl) ?_
              refine va_get (D := (dC, dI)) (ci := 8) (v := .ref a_this_row) (C := RX8) (T := TX8) (N := 19) hx hb hts (by decide +kernel) hown hK hP 0 rfl rfl 5 (by decide) (hts (.fieldLink RX8 22 "LawOfCornersModel" "row" "[I") (by decide +kernel)) (fun _ h9 => h9) rfl dX8_walk_106 ?_
              refine lv_iload hx hb dX8_walk_109 (lv_at hl 11 rfl) ?_
              obtain ⟨hg78, he⟩ := zg_e he
              refine va_iald hx hb hK hP 2 0 rfl rfl hg78 dX8_walk_111 ?_
              obtain ⟨r79, hf80, he⟩ := zb1_e he
              refine zc_i (wr := [(a_this_refused, .inl (cI, 7, .inl g_refused)), (a_this_row, .inl (cI, 20, .inl g_row))]) (ws' := [(a_this, .inr (8, [.ref a_this_s, .ref a_this_image, .ref a_this_was, .int v_hasImage, .ref a_this_letters, .ref a_this_row, .ref a_this_refused, .int v_letterMany, .int v_rowMany, .int v_place, .ref a_this_numbers, .ref a_this_least, .ref a_this_stepsFrom, .ref a_this_most, .ref a_this_next, .ref a_this_otherSteps, .ref a_this_ahead, .ref a_this_now, .int v_seed])), (a_this_refused, .inl (cI, 7, .inl g_refused)), (a_this_row, .inl (cI, 20, .inl g_row)), (a_this_s, .inl (cI, 39, .inl g_s))]) (va_runV (As := [.int l4_25, .int l5_26, .int (g_row l12_33.toNatClampNeg)]) (rest := []) ⟨hx, hb, hml, hown, hts⟩ (k_M_isCorner l dC dI cI cZ tt sd a_this a_this_s a_this_image a_this_was a_this_letters a_this_row a_this_refused a_this_numbers a_this_least a_this_stepsFrom a_this_most a_this_next a_this_otherSteps a_this_ahead a_this_now H.size v_hasImage v_letterMany v_rowMany v_place v_seed g_s l4_25 l5_26 (g_row l12_33.toNatClampNeg) r79 hf80) (cwV 3 hts gX8_walk_X8_isCorner rfl rfl rfl (by decide +kernel) ⟨Nat.le_of_ble_eq_true rfl, Nat.le_of_ble_eq_true rfl⟩) (zpV hP hD hK hS hA hZ [0, 3] rfl rfl 8 0 rfl rfl) rfl rfl hl.1 rfl (lv_room (Nat.le_of_ble_eq_true rfl)) dX8_walk_112 ⟨Nat.zero_le _, Nat.zero_le _⟩) hP hD hS hA [0, 3] [1, 2] [2, 0, 1, 3] rfl rfl rfl (by decide) rfl rfl rfl (fun H locs hP hD hS => ?_)
              refine lv_if_eq (tgt := 122) hx hb dX8_walk_115 (by decide) (fun c81 => ?_) (fun c81 => ?_)
              · have he := zif_t c81 he
                exact (hWW _ _ _ _).mp (hk76 () he) _ _ _ hP hD hS (lv_sub hl [0, 1, 2, 3, 4, 5, 6, 7, 8, 9, 10, 11] rfl)
              · have he := zif_f c81 he
                refine lv_iconst (v := (1 : Int32)) hx hb dX8_walk_118 (by decide) ?_
                refine lv_goto (tgt := 123) hx hb dX8_walk_119 (by decide) ?_
                exact (hWW _ _ _ _).mp (hk75 (1 : Int32) he) _ _ _ hP hD hS (lv_sub hl [0, 1, 2, 3, 4, 5, 6, 7, 8, 9, 10, 11] rfl)
        refine lv_if_ge (tgt := 53) hx hb dX8_walk_43 (by decide) (fun c83 => ?_) (fun c83 => ?_)
        · have he := zif_t c83 he
          refine lv_iload_n hx hb dX8_walk_53 rfl (lv_at hl 0 rfl) ?_
          exact (hWW _ _ _ _).mp (hk82 r7 he) _ _ _ hP hD hS (lv_sub hl [1, 2] rfl)
        · have he := zif_f c83 he
          refine lv_aload_n hx hb dX8_walk_46 rfl (lv_at hl 1 rfl) ?_
          refine va_get (D := (dC, dI)) (ci := 8) (v := .int v_rowMany) (C := RX8) (T := TX8) (N := 19) hx hb hts (by decide +kernel) hown hK hP 0 rfl rfl 8 (by decide) (hts (.fieldLink RX8 125 "LawOfCornersModel" "rowMany" "I") (by decide +kernel)) (fun _ h9 => h9) rfl dX8_walk_47 ?_
          refine lv_goto (tgt := 54) hx hb dX8_walk_50 (by decide) ?_
          exact (hWW _ _ _ _).mp (hk82 v_rowMany he) _ _ _ hP hD hS (lv_sub hl [1, 2] rfl)
      · have he := zif_t c9 he
        refine lv_iload_n hx hb dX8_walk_40 rfl (lv_at hl 0 rfl) ?_
        obtain ⟨rfl, rfl⟩ := zi2 he
        exact W.iret hx hb hr (fun t ht hW => ⟨⟨_, (), rfl, rfl, by rw [ht]; exact hP, va_K.moved hW.alike hK, hD⟩, hS.F ht⟩) hS.2.2 dX8_walk_41
    · have he := zif_t c6 he
      refine lv_aload_n hx hb dX8_walk_24 rfl (lv_at hl 0 rfl) ?_
      refine lv_bipush (v := (-3 : Int32)) hx hb dX8_walk_25 (by decide) ?_
      obtain ⟨r84, g_refused_85, hf86, he⟩ := zb2_e he
      refine zc_i (wr := [(a_this_row, .inl (cI, 20, .inl g_row)), (a_this_s, .inl (cI, 39, .inl g_s))]) (ws' := [(a_this, .inr (8, [.ref a_this_s, .ref a_this_image, .ref a_this_was, .int v_hasImage, .ref a_this_letters, .ref a_this_row, .ref a_this_refused, .int v_letterMany, .int v_rowMany, .int v_place, .ref a_this_numbers, .ref a_this_least, .ref a_this_stepsFrom, .ref a_this_most, .ref a_this_next, .ref a_this_otherSteps, .ref a_this_ahead, .ref a_this_now, .int v_seed])), (a_this_refused, .inl (cI, 7, .inl g_refused_85)), (a_this_row, .inl (cI, 20, .inl g_row)), (a_this_s, .inl (cI, 39, .inl g_s))]) (va_runV (As := [.int (-3 : Int32)]) (rest := []) ⟨hx, hb, hml, hown, hts⟩ (k_M_no l dC dI cI cZ tt sd a_this a_this_s a_this_image a_this_was a_this_letters a_this_row a_this_refused a_this_numbers a_this_least a_this_stepsFrom a_this_most a_this_next a_this_otherSteps a_this_ahead a_this_now H.size v_hasImage v_letterMany v_rowMany v_place v_seed g_refused (-3 : Int32) r84 g_refused_85 hf86) (cwV 1 hts gX8_walk_X8_no rfl rfl rfl (by decide +kernel) ⟨Nat.le_of_ble_eq_true rfl, Nat.le_of_ble_eq_true rfl⟩) (zpV hP hD hK hS hA hZ [0, 1] rfl rfl 8 0 rfl rfl) rfl rfl hl.1 rfl (lv_room (Nat.le_of_ble_eq_true rfl)) dX8_walk_27 ⟨Nat.zero_le _, Nat.zero_le _⟩) hP hD hS hA [0, 1] [2, 3] [2, 3, 0, 1] rfl rfl rfl (by decide) rfl rfl rfl (fun H locs hP hD hS => ?_)
      obtain ⟨rfl, rfl⟩ := zi2 he
      exact W.iret hx hb hr (fun t ht hW => ⟨⟨_, (), rfl, rfl, by rw [ht]; exact hP, va_K.moved hW.alike hK, hD⟩, hS.F ht⟩) hS.2.2 dX8_walk_30
  · have he := zif_t c3 he
    refine lv_aload_n hx hb dX8_walk_10 rfl (lv_at hl 0 rfl) ?_
    refine lv_bipush (v := (-2 : Int32)) hx hb dX8_walk_11 (by decide) ?_
    obtain ⟨r87, g_refused_88, hf89, he⟩ := zb2_e he
    refine zc_i (wr := [(a_this_row, .inl (cI, 20, .inl g_row)), (a_this_s, .inl (cI, 39, .inl g_s))]) (ws' := [(a_this, .inr (8, [.ref a_this_s, .ref a_this_image, .ref a_this_was, .int v_hasImage, .ref a_this_letters, .ref a_this_row, .ref a_this_refused, .int v_letterMany, .int v_rowMany, .int v_place, .ref a_this_numbers, .ref a_this_least, .ref a_this_stepsFrom, .ref a_this_most, .ref a_this_next, .ref a_this_otherSteps, .ref a_this_ahead, .ref a_this_now, .int v_seed])), (a_this_refused, .inl (cI, 7, .inl g_refused_88)), (a_this_row, .inl (cI, 20, .inl g_row)), (a_this_s, .inl (cI, 39, .inl g_s))]) (va_runV (As := [.int (-2 : Int32)]) (rest := []) ⟨hx, hb, hml, hown, hts⟩ (k_M_no l dC dI cI cZ tt sd a_this a_this_s a_this_image a_this_was a_this_letters a_this_row a_this_refused a_this_numbers a_this_least a_this_stepsFrom a_this_most a_this_next a_this_otherSteps a_this_ahead a_this_now H.size v_hasImage v_letterMany v_rowMany v_place v_seed g_refused (-2 : Int32) r87 g_refused_88 hf89) (cwV 1 hts gX8_walk_X8_no rfl rfl rfl (by decide +kernel) ⟨Nat.le_of_ble_eq_true rfl, Nat.le_of_ble_eq_true rfl⟩) (zpV hP hD hK hS hA hZ [0, 1] rfl rfl 8 0 rfl rfl) rfl rfl hl.1 rfl (lv_room (Nat.le_of_ble_eq_true rfl)) dX8_walk_13 ⟨Nat.zero_le _, Nat.zero_le _⟩) hP hD hS hA [0, 1] [2, 3] [2, 3, 0, 1] rfl rfl rfl (by decide) rfl rfl rfl (fun H locs hP hD hS => ?_)
    obtain ⟨rfl, rfl⟩ := zi2 he
    exact W.iret hx hb hr (fun t ht hW => ⟨⟨_, (), rfl, rfl, by rw [ht]; exact hP, va_K.moved hW.alike hK, hD⟩, hS.F ht⟩) hS.2.2 dX8_walk_16
set_option maxHeartbeats 4000000 in
set_option maxRecDepth 100000 in
theorem k_M_at (l : Launch) (dC : Nat → ClassId) (dI : Nat → Nat → Nat) (cI : ClassId) (cZ : ClassId) (tt : Nat → Nat) (sd : Nat → Nat) (sz : Nat) (p0 : Int32) (p1 : Int32) (r0 : Int32) (hf : f_M_at p0 p1 = some (r0)) : Met l yX8_at wsX8_at ({ frames := 0, cells := 0, slots := 0, locals := 0 }) (zPre (dC, dI) vwCl [(cI, .int), (cZ, .boolean)] tt sd [.int p0, .int p1] [] sz) (zQi (dC, dI) vwCl [(cI, .int), (cZ, .boolean)] r0 [] (va_A [] sz)) 0 0 (va_A [] sz) := by
  refine Met.ofW (cc := cX8_at) (maxL := 2) (ret := (some .int)) (by decide) rfl ?_
  intro p e s m args below meth c s₁ B hml hv
  obtain ⟨rfl, hsz, hP, hK, hD0, hZ⟩ := hv
  have hx := B.exec
  have hb := B.bytes
  have hr := B.returns
  have hts := atoms_spec (ws := wsX8_at) B.pre
  have hown : s.vm.findClass RX8 = some m.cls := findClass_of_methodNamed B.named
  have hlocks := B.notSynchronized
  subst hsz
  have hD := hD0.self (sz := s.heap.size)
  generalize hAe : va_A [] s.heap.size = A at hD hZ ⊢
  have hA : ∀ q : Nat, s.heap.size ≤ q → A q := fun q h => by rw [← hAe]; exact Or.inr h
  have hS : va_S A s.heap s.heap [] := va_S.rf
  have hP : va_P (dC, dI) vwCl [] s.heap := hP
  have hl := lv_entry ([.int p0, .int p1]) (n := 2) (Nat.le_of_ble_eq_true rfl)
  rw [lg_entry_eq]
  generalize (lg_sl ([.int p0, .int p1]) ++ List.replicate (2 - (lg_sl ([.int p0, .int p1])).length) Slot.unset).toArray = ls at hl ⊢
  have hl : lv_has ls 2 [(0, .int p0), (1, .int p1)] := hl
  have he := hf
  unfold f_M_at at he
  refine lv_iload_n hx hb dX8_at_0 rfl (lv_at hl 0 rfl) ?_
  refine lv_iconst (v := (5 : Int32)) hx hb dX8_at_1 (by decide) ?_
  refine lv_imul hx hb dX8_at_2 ?_
  refine lv_iload_n hx hb dX8_at_3 rfl (lv_at hl 1 rfl) ?_
  refine lv_iadd hx hb dX8_at_4 ?_
  obtain ⟨rfl⟩ := zi1 he
  exact W.iret hx hb hr (fun t ht hW => ⟨⟨_, (), rfl, rfl, by rw [ht]; exact hP, va_K.moved hW.alike hK, hD⟩, hS.F ht⟩) hS.2.2 dX8_at_5
