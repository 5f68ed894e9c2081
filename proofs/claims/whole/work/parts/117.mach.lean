set_option maxHeartbeats 4000000 in
set_option maxRecDepth 100000 in
theorem k_M_isDone (l : Launch) (dC : Nat → ClassId) (dI : Nat → Nat → Nat) (cI : ClassId) (cZ : ClassId) (tt : Nat → Nat) (sd : Nat → Nat) (a_this : Nat) (a_this_s : Nat) (a_this_image : Nat) (a_this_was : Nat) (a_this_letters : Nat) (a_this_row : Nat) (a_this_refused : Nat) (a_this_numbers : Nat) (a_this_least : Nat) (a_this_stepsFrom : Nat) (a_this_most : Nat) (a_this_next : Nat) (a_this_otherSteps : Nat) (a_this_ahead : Nat) (a_this_now : Nat) (sz : Nat) (v_hasImage : Int32) (v_letterMany : Int32) (v_rowMany : Int32) (v_place : Int32) (v_seed : Int32) (g_numbers : Nat → Int32) (g_s : Nat → Int32) (p1 : Int32) (r0 : Int32) (w0 : Nat → Int32) (hf : f_M_isDone g_numbers g_s p1 = some (r0, w0)) : Met l yX8_isDone wsX8_isDone ({ frames := 2, cells := 0, slots := 0, locals := 42 }) (zPre (dC, dI) vwCl [(cI, .int), (cZ, .boolean)] tt sd [.ref a_this, .int p1] [(a_this, .inr (8, [.ref a_this_s, .ref a_this_image, .ref a_this_was, .int v_hasImage, .ref a_this_letters, .ref a_this_row, .ref a_this_refused, .int v_letterMany, .int v_rowMany, .int v_place, .ref a_this_numbers, .ref a_this_least, .ref a_this_stepsFrom, .ref a_this_most, .ref a_this_next, .ref a_this_otherSteps, .ref a_this_ahead, .ref a_this_now, .int v_seed])), (a_this_numbers, .inl (cI, 3, .inl g_numbers)), (a_this_s, .inl (cI, 39, .inl g_s))] sz) (zQi (dC, dI) vwCl [(cI, .int), (cZ, .boolean)] r0 [(a_this, .inr (8, [.ref a_this_s, .ref a_this_image, .ref a_this_was, .int v_hasImage, .ref a_this_letters, .ref a_this_row, .ref a_this_refused, .int v_letterMany, .int v_rowMany, .int v_place, .ref a_this_numbers, .ref a_this_least, .ref a_this_stepsFrom, .ref a_this_most, .ref a_this_next, .ref a_this_otherSteps, .ref a_this_ahead, .ref a_this_now, .int v_seed])), (a_this_numbers, .inl (cI, 3, .inl g_numbers)), (a_this_s, .inl (cI, 39, .inl w0))] (va_A [(a_this, .inr (8, [.ref a_this_s, .ref a_this_image, .ref a_this_was, .int v_hasImage, .ref a_this_letters, .ref a_this_row, .ref a_this_refused, .int v_letterMany, .int v_rowMany, .int v_place, .ref a_this_numbers, .ref a_this_least, .ref a_this_stepsFrom, .ref a_this_most, .ref a_this_next, .ref a_this_otherSteps, .ref a_this_ahead, .ref a_this_now, .int v_seed])), (a_this_numbers, .inl (cI, 3, .inl g_numbers)), (a_this_s, .inl (cI, 39, .inl g_s))] sz)) 0 0 (va_A [(a_this, .inr (8, [.ref a_this_s, .ref a_this_image, .ref a_this_was, .int v_hasImage, .ref a_this_letters, .ref a_this_row, .ref a_this_refused, .int v_letterMany, .int v_rowMany, .int v_place, .ref a_this_numbers, .ref a_this_least, .ref a_this_stepsFrom, .ref a_this_most, .ref a_this_next, .ref a_this_otherSteps, .ref a_this_ahead, .ref a_this_now, .int v_seed])), (a_this_numbers, .inl (cI, 3, .inl g_numbers)), (a_this_s, .inl (cI, 39, .inl g_s))] sz) := by
  refine Met.ofW (cc := cX8_isDone) (maxL := 6) (ret := (some .boolean)) (by decide) rfl ?_
  intro p e s m args below meth c s₁ B hml hv
  obtain ⟨rfl, hsz, hP, hK, hD0, hZ⟩ := hv
  have hx := B.exec
  have hb := B.bytes
  have hr := B.returns
  have hts := atoms_spec (ws := wsX8_isDone) B.pre
  have hown : s.vm.findClass RX8 = some m.cls := findClass_of_methodNamed B.named
  have hlocks := B.notSynchronized
  subst hsz
  have hD := hD0.self (sz := s.heap.size)
  generalize hAe : va_A [(a_this, .inr (8, [.ref a_this_s, .ref a_this_image, .ref a_this_was, .int v_hasImage, .ref a_this_letters, .ref a_this_row, .ref a_this_refused, .int v_letterMany, .int v_rowMany, .int v_place, .ref a_this_numbers, .ref a_this_least, .ref a_this_stepsFrom, .ref a_this_most, .ref a_this_next, .ref a_this_otherSteps, .ref a_this_ahead, .ref a_this_now, .int v_seed])), (a_this_numbers, .inl (cI, 3, .inl g_numbers)), (a_this_s, .inl (cI, 39, .inl g_s))] s.heap.size = A at hD hZ ⊢
  have hA : ∀ q : Nat, s.heap.size ≤ q → A q := fun q h => by rw [← hAe]; exact Or.inr h
  have hS : va_S A s.heap s.heap [] := va_S.rf
  have hP : va_P (dC, dI) vwCl [(a_this, .inr (8, [.ref a_this_s, .ref a_this_image, .ref a_this_was, .int v_hasImage, .ref a_this_letters, .ref a_this_row, .ref a_this_refused, .int v_letterMany, .int v_rowMany, .int v_place, .ref a_this_numbers, .ref a_this_least, .ref a_this_stepsFrom, .ref a_this_most, .ref a_this_next, .ref a_this_otherSteps, .ref a_this_ahead, .ref a_this_now, .int v_seed])), (a_this_numbers, .inl (cI, 3, .inl g_numbers)), (a_this_s, .inl (cI, 39, .inl g_s))] s.heap := hP
  have hl := lv_entry ([.ref a_this, .int p1]) (n := 6) (Nat.le_of_ble_eq_true rfl)
  rw [lg_entry_eq]
  generalize (lg_sl ([.ref a_this, .int p1]) ++ List.replicate (6 - (lg_sl ([.ref a_this, .int p1])).length) Slot.unset).toArray = ls at hl ⊢
  have hl : lv_has ls 6 [(0, .ref a_this), (1, .int p1)] := hl
  have he := hf
  unfold f_M_isDone at he
  refine zstart (D := (dC, dI)) (cl := vwCl) (A := A) (nL := 6) (fun WW hWW => ?_)
  refine lv_aload_n hx hb dX8_isDone_0 rfl (lv_at hl 0 rfl) ?_
  refine va_get (D := (dC, dI)) (ci := 8) (v := .ref a_this_numbers) (C := RX8) (T := TX8) (N := 19) hx hb hts (by decide +kernel) hown hK hP 0 rfl rfl 10 (by decide) (hts (.fieldLink RX8 28 "LawOfCornersModel" "numbers" "[I") (by decide +kernel)) (fun _ h9 => h9) rfl dX8_isDone_1 ?_
  refine lv_iconst (v := (0 : Int32)) hx hb dX8_isDone_4 (by decide) ?_
  obtain ⟨hg1, he⟩ := zg_e he
  refine va_iald hx hb hK hP 1 0 rfl rfl hg1 dX8_isDone_5 ?_
  refine lv_topi (fun x2 ex2 => ?_)
  have he := zn_e ex2 he
  refine lv_istore_n (lv' := [(2, .int x2), (0, .ref a_this), (1, .int p1)]) hx hb dX8_isDone_6 rfl hl (by decide) rfl (fun ls hl => ?_)
  refine lv_aload_n hx hb dX8_isDone_7 rfl (lv_at hl 1 rfl) ?_
  refine va_get (D := (dC, dI)) (ci := 8) (v := .ref a_this_numbers) (C := RX8) (T := TX8) (N := 19) hx hb hts (by decide +kernel) hown hK hP 0 rfl rfl 10 (by decide) (hts (.fieldLink RX8 28 "LawOfCornersModel" "numbers" "[I") (by decide +kernel)) (fun _ h9 => h9) rfl dX8_isDone_8 ?_
  refine lv_iconst (v := (1 : Int32)) hx hb dX8_isDone_11 (by decide) ?_
  obtain ⟨hg3, he⟩ := zg_e he
  refine va_iald hx hb hK hP 1 0 rfl rfl hg3 dX8_isDone_12 ?_
  refine lv_topi (fun x4 ex4 => ?_)
  have he := zn_e ex4 he
  refine lv_istore_n (lv' := [(3, .int x4), (2, .int x2), (0, .ref a_this), (1, .int p1)]) hx hb dX8_isDone_13 rfl hl (by decide) rfl (fun ls hl => ?_)
  refine lv_iload_n hx hb dX8_isDone_14 rfl (lv_at hl 3 rfl) ?_
  refine lv_bipush (v := (118 : Int32)) hx hb dX8_isDone_15 (by decide) ?_
  refine zj1_w he (fun (s5 : Int32) => WW [(a_this, .inr (8, [.ref a_this_s, .ref a_this_image, .ref a_this_was, .int v_hasImage, .ref a_this_letters, .ref a_this_row, .ref a_this_refused, .int v_letterMany, .int v_rowMany, .int v_place, .ref a_this_numbers, .ref a_this_least, .ref a_this_stepsFrom, .ref a_this_most, .ref a_this_next, .ref a_this_otherSteps, .ref a_this_ahead, .ref a_this_now, .int v_seed])), (a_this_numbers, .inl (cI, 3, .inl g_numbers)), (a_this_s, .inl (cI, 39, .inl g_s))] [(0, .ref a_this), (1, .int p1), (2, .int x2), (3, .int x4)] 30 [.int s5]) (fun s5 he => (hWW _ _ _ _).mpr (fun H locs ls hP hD hS hl => ?_)) (fun k61 hk61 he => ?_)
  · refine lv_istore (lv' := [(4, .int s5), (0, .ref a_this), (1, .int p1), (2, .int x2), (3, .int x4)]) hx hb dX8_isDone_30 hl (by decide) rfl (fun ls hl => ?_)
    refine lv_iload_n hx hb dX8_isDone_32 rfl (lv_at hl 2 rfl) ?_
    by_cases c6 : p1 = (102 : Int32)
    · have he := zif_t c6 he
      refine lv_lookup (off := 135) (tgt := 168) hx hb dX8_isDone_33 (by decide) (by rw [c6]; rfl) (by decide) ?_
      refine lv_aload_n hx hb dX8_isDone_168 rfl (lv_at hl 1 rfl) ?_
      refine va_get (D := (dC, dI)) (ci := 8) (v := .ref a_this_s) (C := RX8) (T := TX8) (N := 19) hx hb hts (by decide +kernel) hown hK hP 0 rfl rfl 0 (by decide) (hts (.fieldLink RX8 9 "LawOfCornersModel" "s" "[I") (by decide +kernel)) (fun _ h9 => h9) rfl dX8_isDone_169 ?_
      refine lv_bipush (v := (37 : Int32)) hx hb dX8_isDone_172 (by decide) ?_
      refine lv_iload_n hx hb dX8_isDone_174 rfl (lv_at hl 3 rfl) ?_
      obtain ⟨hg7, he⟩ := zg_e he
      refine va_iast hx hb hK hP hD hS 2 0 rfl rfl hg7 dX8_isDone_175 (fun H locs hP hD hS => ?_)
      obtain ⟨g8, eg8⟩ : ∃ y : Nat → Int32, y = upd g_s (37 : Int32).toNatClampNeg x2 := ⟨_, rfl⟩
      have he := zn_e eg8 he
      have hP : va_P (dC, dI) vwCl [(a_this, .inr (8, [.ref a_this_s, .ref a_this_image, .ref a_this_was, .int v_hasImage, .ref a_this_letters, .ref a_this_row, .ref a_this_refused, .int v_letterMany, .int v_rowMany, .int v_place, .ref a_this_numbers, .ref a_this_least, .ref a_this_stepsFrom, .ref a_this_most, .ref a_this_next, .ref a_this_otherSteps, .ref a_this_ahead, .ref a_this_now, .int v_seed])), (a_this_numbers, .inl (cI, 3, .inl g_numbers)), (a_this_s, .inl (cI, 39, .inl g8))] H := by rw [eg8]; exact hP
      have hD : va_D A [(a_this, .inr (8, [.ref a_this_s, .ref a_this_image, .ref a_this_was, .int v_hasImage, .ref a_this_letters, .ref a_this_row, .ref a_this_refused, .int v_letterMany, .int v_rowMany, .int v_place, .ref a_this_numbers, .ref a_this_least, .ref a_this_stepsFrom, .ref a_this_most, .ref a_this_next, .ref a_this_otherSteps, .ref a_this_ahead, .ref a_this_now, .int v_seed])), (a_this_numbers, .inl (cI, 3, .inl g_numbers)), (a_this_s, .inl (cI, 39, .inl g8))] := by rw [eg8]; exact hD
      refine lv_iconst (v := (1 : Int32)) hx hb dX8_isDone_176 (by decide) ?_
      obtain ⟨rfl, rfl⟩ := zi2 he
      exact W.zret hx hb hr rfl (fun t ht hW => ⟨⟨_, (), rfl, rfl, by rw [ht]; exact hP, va_K.moved hW.alike hK, hD⟩, hS.F ht⟩) hS.2.2 dX8_isDone_177
    have he := zif_f c6 he
    by_cases c9 : p1 = (104 : Int32)
    · have he := zif_t c9 he
      refine lv_lookup (off := 108) (tgt := 141) hx hb dX8_isDone_33 (by decide) (by rw [c9]; rfl) (by decide) ?_
      refine lv_iload_n hx hb dX8_isDone_141 rfl (lv_at hl 3 rfl) ?_
      obtain ⟨r10, hf11, he⟩ := zb1_e he
      refine zc_i (wr := [(a_this, .inr (8, [.ref a_this_s, .ref a_this_image, .ref a_this_was, .int v_hasImage, .ref a_this_letters, .ref a_this_row, .ref a_this_refused, .int v_letterMany, .int v_rowMany, .int v_place, .ref a_this_numbers, .ref a_this_least, .ref a_this_stepsFrom, .ref a_this_most, .ref a_this_next, .ref a_this_otherSteps, .ref a_this_ahead, .ref a_this_now, .int v_seed])), (a_this_numbers, .inl (cI, 3, .inl g_numbers)), (a_this_s, .inl (cI, 39, .inl g_s))]) (ws' := [(a_this, .inr (8, [.ref a_this_s, .ref a_this_image, .ref a_this_was, .int v_hasImage, .ref a_this_letters, .ref a_this_row, .ref a_this_refused, .int v_letterMany, .int v_rowMany, .int v_place, .ref a_this_numbers, .ref a_this_least, .ref a_this_stepsFrom, .ref a_this_most, .ref a_this_next, .ref a_this_otherSteps, .ref a_this_ahead, .ref a_this_now, .int v_seed])), (a_this_numbers, .inl (cI, 3, .inl g_numbers)), (a_this_s, .inl (cI, 39, .inl g_s))]) (va_runS (As := [.int x2]) (rest := []) ⟨hx, hb, hml, hown, hts⟩ (k_M_isSquare l dC dI cI cZ tt sd H.size x2 r10 hf11) (va_cwS 1 hts gX8_isDone_X8_isSquare rfl rfl rfl (by decide +kernel) ⟨Nat.le_of_ble_eq_true rfl, Nat.le_of_ble_eq_true rfl⟩) (zpS hP hD hK hS hA hZ [] rfl rfl) rfl rfl hl.1 rfl (lv_room (Nat.le_of_ble_eq_true rfl)) dX8_isDone_142 ⟨Nat.zero_le _, Nat.zero_le _⟩) hP hD hS hA [] [0, 1, 2] [0, 1, 2] rfl rfl rfl (by decide) rfl rfl rfl (fun H locs hP hD hS => ?_)
      refine lv_if_eq (tgt := 156) hx hb dX8_isDone_145 (by decide) (fun c12 => ?_) (fun c12 => ?_)
      · have he := zif_t c12 he
        refine lv_iconst (v := (0 : Int32)) hx hb dX8_isDone_156 (by decide) ?_
        obtain ⟨rfl, rfl⟩ := zi2 he
        exact W.zret hx hb hr rfl (fun t ht hW => ⟨⟨_, (), rfl, rfl, by rw [ht]; exact hP, va_K.moved hW.alike hK, hD⟩, hS.F ht⟩) hS.2.2 dX8_isDone_157
      · have he := zif_f c12 he
        refine lv_aload_n hx hb dX8_isDone_148 rfl (lv_at hl 1 rfl) ?_
        refine lv_iload_n hx hb dX8_isDone_149 rfl (lv_at hl 3 rfl) ?_
        obtain ⟨r13, hf14, he⟩ := zb1_e he
        refine zc_i (wr := [(a_this_numbers, .inl (cI, 3, .inl g_numbers))]) (ws' := [(a_this, .inr (8, [.ref a_this_s, .ref a_this_image, .ref a_this_was, .int v_hasImage, .ref a_this_letters, .ref a_this_row, .ref a_this_refused, .int v_letterMany, .int v_rowMany, .int v_place, .ref a_this_numbers, .ref a_this_least, .ref a_this_stepsFrom, .ref a_this_most, .ref a_this_next, .ref a_this_otherSteps, .ref a_this_ahead, .ref a_this_now, .int v_seed])), (a_this_numbers, .inl (cI, 3, .inl g_numbers)), (a_this_s, .inl (cI, 39, .inl g_s))]) (va_runV (As := [.int x2]) (rest := []) ⟨hx, hb, hml, hown, hts⟩ (k_M_canBe l dC dI cI cZ tt sd a_this a_this_s a_this_image a_this_was a_this_letters a_this_row a_this_refused a_this_numbers a_this_least a_this_stepsFrom a_this_most a_this_next a_this_otherSteps a_this_ahead a_this_now H.size v_hasImage v_letterMany v_rowMany v_place v_seed g_s x2 r13 hf14) (cwV 1 hts gX8_isDone_X8_canBe rfl rfl rfl (by decide +kernel) ⟨Nat.le_of_ble_eq_true rfl, Nat.le_of_ble_eq_true rfl⟩) (zpV hP hD hK hS hA hZ [0, 2] rfl rfl 8 0 rfl rfl) rfl rfl hl.1 rfl (lv_room (Nat.le_of_ble_eq_true rfl)) dX8_isDone_150 ⟨Nat.zero_le _, Nat.zero_le _⟩) hP hD hS hA [0, 2] [1] [1, 0, 2] rfl rfl rfl (by decide) rfl rfl rfl (fun H locs hP hD hS => ?_)
        refine lv_if_ne (tgt := 158) hx hb dX8_isDone_153 (by decide) (fun c15 => ?_) (fun c15 => ?_)
        · have he := zif_f c15 he
          refine lv_aload_n hx hb dX8_isDone_158 rfl (lv_at hl 1 rfl) ?_
          refine va_get (D := (dC, dI)) (ci := 8) (v := .ref a_this_s) (C := RX8) (T := TX8) (N := 19) hx hb hts (by decide +kernel) hown hK hP 0 rfl rfl 0 (by decide) (hts (.fieldLink RX8 9 "LawOfCornersModel" "s" "[I") (by decide +kernel)) (fun _ h9 => h9) rfl dX8_isDone_159 ?_
          refine lv_bipush (v := (36 : Int32)) hx hb dX8_isDone_162 (by decide) ?_
          refine lv_iload_n hx hb dX8_isDone_164 rfl (lv_at hl 3 rfl) ?_
          obtain ⟨hg16, he⟩ := zg_e he
          refine va_iast hx hb hK hP hD hS 2 0 rfl rfl hg16 dX8_isDone_165 (fun H locs hP hD hS => ?_)
          obtain ⟨g17, eg17⟩ : ∃ y : Nat → Int32, y = upd g_s (36 : Int32).toNatClampNeg x2 := ⟨_, rfl⟩
          have he := zn_e eg17 he
          have hP : va_P (dC, dI) vwCl [(a_this, .inr (8, [.ref a_this_s, .ref a_this_image, .ref a_this_was, .int v_hasImage, .ref a_this_letters, .ref a_this_row, .ref a_this_refused, .int v_letterMany, .int v_rowMany, .int v_place, .ref a_this_numbers, .ref a_this_least, .ref a_this_stepsFrom, .ref a_this_most, .ref a_this_next, .ref a_this_otherSteps, .ref a_this_ahead, .ref a_this_now, .int v_seed])), (a_this_numbers, .inl (cI, 3, .inl g_numbers)), (a_this_s, .inl (cI, 39, .inl g17))] H := by rw [eg17]; exact hP
          have hD : va_D A [(a_this, .inr (8, [.ref a_this_s, .ref a_this_image, .ref a_this_was, .int v_hasImage, .ref a_this_letters, .ref a_this_row, .ref a_this_refused, .int v_letterMany, .int v_rowMany, .int v_place, .ref a_this_numbers, .ref a_this_least, .ref a_this_stepsFrom, .ref a_this_most, .ref a_this_next, .ref a_this_otherSteps, .ref a_this_ahead, .ref a_this_now, .int v_seed])), (a_this_numbers, .inl (cI, 3, .inl g_numbers)), (a_this_s, .inl (cI, 39, .inl g17))] := by rw [eg17]; exact hD
          refine lv_iconst (v := (1 : Int32)) hx hb dX8_isDone_166 (by decide) ?_
          obtain ⟨rfl, rfl⟩ := zi2 he
          exact W.zret hx hb hr rfl (fun t ht hW => ⟨⟨_, (), rfl, rfl, by rw [ht]; exact hP, va_K.moved hW.alike hK, hD⟩, hS.F ht⟩) hS.2.2 dX8_isDone_167
        · have he := zif_t c15 he
          refine lv_iconst (v := (0 : Int32)) hx hb dX8_isDone_156 (by decide) ?_
          obtain ⟨rfl, rfl⟩ := zi2 he
          exact W.zret hx hb hr rfl (fun t ht hW => ⟨⟨_, (), rfl, rfl, by rw [ht]; exact hP, va_K.moved hW.alike hK, hD⟩, hS.F ht⟩) hS.2.2 dX8_isDone_157
    have he := zif_f c9 he
    by_cases c18 : p1 = (107 : Int32)
    · have he := zif_t c18 he
      refine lv_lookup (off := 43) (tgt := 76) hx hb dX8_isDone_33 (by decide) (by rw [c18]; rfl) (by decide) ?_
      refine lv_iload_n hx hb dX8_isDone_76 rfl (lv_at hl 4 rfl) ?_
      refine lv_iload hx hb dX8_isDone_77 (lv_at hl 0 rfl) ?_
      refine lv_icmp_gt (tgt := 113) hx hb dX8_isDone_79 (by decide) (fun c19 => ?_) (fun c19 => ?_)
      · have he := zif_t c19 he
        refine lv_iconst (v := (0 : Int32)) hx hb dX8_isDone_113 (by decide) ?_
        obtain ⟨rfl, rfl⟩ := zi2 he
        exact W.zret hx hb hr rfl (fun t ht hW => ⟨⟨_, (), rfl, rfl, by rw [ht]; exact hP, va_K.moved hW.alike hK, hD⟩, hS.F ht⟩) hS.2.2 dX8_isDone_114
      · have he := zif_f c19 he
        refine lv_iload hx hb dX8_isDone_82 (lv_at hl 0 rfl) ?_
        obtain ⟨r20, hf21, he⟩ := zb1_e he
        refine zc_i (wr := [(a_this, .inr (8, [.ref a_this_s, .ref a_this_image, .ref a_this_was, .int v_hasImage, .ref a_this_letters, .ref a_this_row, .ref a_this_refused, .int v_letterMany, .int v_rowMany, .int v_place, .ref a_this_numbers, .ref a_this_least, .ref a_this_stepsFrom, .ref a_this_most, .ref a_this_next, .ref a_this_otherSteps, .ref a_this_ahead, .ref a_this_now, .int v_seed])), (a_this_numbers, .inl (cI, 3, .inl g_numbers)), (a_this_s, .inl (cI, 39, .inl g_s))]) (ws' := [(a_this, .inr (8, [.ref a_this_s, .ref a_this_image, .ref a_this_was, .int v_hasImage, .ref a_this_letters, .ref a_this_row, .ref a_this_refused, .int v_letterMany, .int v_rowMany, .int v_place, .ref a_this_numbers, .ref a_this_least, .ref a_this_stepsFrom, .ref a_this_most, .ref a_this_next, .ref a_this_otherSteps, .ref a_this_ahead, .ref a_this_now, .int v_seed])), (a_this_numbers, .inl (cI, 3, .inl g_numbers)), (a_this_s, .inl (cI, 39, .inl g_s))]) (va_runS (As := [.int s5]) (rest := []) ⟨hx, hb, hml, hown, hts⟩ (k_M_isSquare l dC dI cI cZ tt sd H.size s5 r20 hf21) (va_cwS 1 hts gX8_isDone_X8_isSquare rfl rfl rfl (by decide +kernel) ⟨Nat.le_of_ble_eq_true rfl, Nat.le_of_ble_eq_true rfl⟩) (zpS hP hD hK hS hA hZ [] rfl rfl) rfl rfl hl.1 rfl (lv_room (Nat.le_of_ble_eq_true rfl)) dX8_isDone_84 ⟨Nat.zero_le _, Nat.zero_le _⟩) hP hD hS hA [] [0, 1, 2] [0, 1, 2] rfl rfl rfl (by decide) rfl rfl rfl (fun H locs hP hD hS => ?_)
        refine lv_if_eq (tgt := 113) hx hb dX8_isDone_87 (by decide) (fun c22 => ?_) (fun c22 => ?_)
        · have he := zif_t c22 he
          refine lv_iconst (v := (0 : Int32)) hx hb dX8_isDone_113 (by decide) ?_
          obtain ⟨rfl, rfl⟩ := zi2 he
          exact W.zret hx hb hr rfl (fun t ht hW => ⟨⟨_, (), rfl, rfl, by rw [ht]; exact hP, va_K.moved hW.alike hK, hD⟩, hS.F ht⟩) hS.2.2 dX8_isDone_114
        · have he := zif_f c22 he
          refine lv_iload_n hx hb dX8_isDone_90 rfl (lv_at hl 3 rfl) ?_
          obtain ⟨r23, hf24, he⟩ := zb1_e he
          refine zc_i (wr := [(a_this, .inr (8, [.ref a_this_s, .ref a_this_image, .ref a_this_was, .int v_hasImage, .ref a_this_letters, .ref a_this_row, .ref a_this_refused, .int v_letterMany, .int v_rowMany, .int v_place, .ref a_this_numbers, .ref a_this_least, .ref a_this_stepsFrom, .ref a_this_most, .ref a_this_next, .ref a_this_otherSteps, .ref a_this_ahead, .ref a_this_now, .int v_seed])), (a_this_numbers, .inl (cI, 3, .inl g_numbers)), (a_this_s, .inl (cI, 39, .inl g_s))]) (ws' := [(a_this, .inr (8, [.ref a_this_s, .ref a_this_image, .ref a_this_was, .int v_hasImage, .ref a_this_letters, .ref a_this_row, .ref a_this_refused, .int v_letterMany, .int v_rowMany, .int v_place, .ref a_this_numbers, .ref a_this_least, .ref a_this_stepsFrom, .ref a_this_most, .ref a_this_next, .ref a_this_otherSteps, .ref a_this_ahead, .ref a_this_now, .int v_seed])), (a_this_numbers, .inl (cI, 3, .inl g_numbers)), (a_this_s, .inl (cI, 39, .inl g_s))]) (va_runS (As := [.int x2]) (rest := []) ⟨hx, hb, hml, hown, hts⟩ (k_M_canStand l dC dI cI cZ tt sd H.size x2 r23 hf24) (va_cwS 1 hts gX8_isDone_X8_canStand rfl rfl rfl (by decide +kernel) ⟨Nat.le_of_ble_eq_true rfl, Nat.le_of_ble_eq_true rfl⟩) (zpS hP hD hK hS hA hZ [] rfl rfl) rfl rfl hl.1 rfl (lv_room (Nat.le_of_ble_eq_true rfl)) dX8_isDone_91 ⟨Nat.zero_le _, Nat.zero_le _⟩) hP hD hS hA [] [0, 1, 2] [0, 1, 2] rfl rfl rfl (by decide) rfl rfl rfl (fun H locs hP hD hS => ?_)
          refine zj1_w he (fun (_ : Unit) => WW [(a_this, .inr (8, [.ref a_this_s, .ref a_this_image, .ref a_this_was, .int v_hasImage, .ref a_this_letters, .ref a_this_row, .ref a_this_refused, .int v_letterMany, .int v_rowMany, .int v_place, .ref a_this_numbers, .ref a_this_least, .ref a_this_stepsFrom, .ref a_this_most, .ref a_this_next, .ref a_this_otherSteps, .ref a_this_ahead, .ref a_this_now, .int v_seed])), (a_this_numbers, .inl (cI, 3, .inl g_numbers)), (a_this_s, .inl (cI, 39, .inl g_s))] [(0, .ref a_this), (2, .int x2), (3, .int x4), (4, .int s5)] 115 []) (fun _ he => (hWW _ _ _ _).mpr (fun H locs ls hP hD hS hl => ?_)) (fun k32 hk32 he => ?_)
          · refine lv_iload_n hx hb dX8_isDone_115 rfl (lv_at hl 2 rfl) ?_
            refine lv_istore (lv' := [(5, .int x4), (0, .ref a_this), (2, .int x2), (3, .int x4), (4, .int s5)]) hx hb dX8_isDone_116 hl (by decide) rfl (fun ls hl => ?_)
            refine (hWW _ _ _ _).mp (zl2_w he (fun (l5_25 : Int32) (g_s_26 : Nat → Int32) => WW [(a_this, .inr (8, [.ref a_this_s, .ref a_this_image, .ref a_this_was, .int v_hasImage, .ref a_this_letters, .ref a_this_row, .ref a_this_refused, .int v_letterMany, .int v_rowMany, .int v_place, .ref a_this_numbers, .ref a_this_least, .ref a_this_stepsFrom, .ref a_this_most, .ref a_this_next, .ref a_this_otherSteps, .ref a_this_ahead, .ref a_this_now, .int v_seed])), (a_this_numbers, .inl (cI, 3, .inl g_numbers)), (a_this_s, .inl (cI, 39, .inl g_s_26))] [(0, .ref a_this), (2, .int x2), (4, .int s5), (5, .int l5_25)] 118 []) (fun l5_25 g_s_26 again27 hagain27 he => (hWW _ _ _ _).mpr (fun H locs ls hP hD hS hl => ?_))) _ _ _ hP hD hS (lv_sub hl [1, 2, 4, 0] rfl)
            refine lv_iload hx hb dX8_isDone_118 (lv_at hl 3 rfl) ?_
            refine lv_iload hx hb dX8_isDone_120 (lv_at hl 2 rfl) ?_
            refine lv_icmp_gt (tgt := 139) hx hb dX8_isDone_122 (by decide) (fun c28 => ?_) (fun c28 => ?_)
            · have he := zif_t c28 he
              refine lv_iconst (v := (1 : Int32)) hx hb dX8_isDone_139 (by decide) ?_
              obtain ⟨rfl, rfl⟩ := zi2 he
              exact W.zret hx hb hr rfl (fun t ht hW => ⟨⟨_, (), rfl, rfl, by rw [ht]; exact hP, va_K.moved hW.alike hK, hD⟩, hS.F ht⟩) hS.2.2 dX8_isDone_140
            · have he := zif_f c28 he
              refine lv_aload_n hx hb dX8_isDone_125 rfl (lv_at hl 0 rfl) ?_
              refine va_get (D := (dC, dI)) (ci := 8) (v := .ref a_this_s) (C := RX8) (T := TX8) (N := 19) hx hb hts (by decide +kernel) hown hK hP 0 rfl rfl 0 (by decide) (hts (.fieldLink RX8 9 "LawOfCornersModel" "s" "[I") (by decide +kernel)) (fun _ h9 => h9) rfl dX8_isDone_126 ?_
              refine lv_iload hx hb dX8_isDone_129 (lv_at hl 3 rfl) ?_
              refine lv_iload_n hx hb dX8_isDone_131 rfl (lv_at hl 1 rfl) ?_
              obtain ⟨hg29, he⟩ := zg_e he
              refine va_iast hx hb hK hP hD hS 2 0 rfl rfl hg29 dX8_isDone_132 (fun H locs hP hD hS => ?_)
              obtain ⟨g30, eg30⟩ : ∃ y : Nat → Int32, y = upd g_s_26 l5_25.toNatClampNeg x2 := ⟨_, rfl⟩
              have he := zn_e eg30 he
              have hP : va_P (dC, dI) vwCl [(a_this, .inr (8, [.ref a_this_s, .ref a_this_image, .ref a_this_was, .int v_hasImage, .ref a_this_letters, .ref a_this_row, .ref a_this_refused, .int v_letterMany, .int v_rowMany, .int v_place, .ref a_this_numbers, .ref a_this_least, .ref a_this_stepsFrom, .ref a_this_most, .ref a_this_next, .ref a_this_otherSteps, .ref a_this_ahead, .ref a_this_now, .int v_seed])), (a_this_numbers, .inl (cI, 3, .inl g_numbers)), (a_this_s, .inl (cI, 39, .inl g30))] H := by rw [eg30]; exact hP
              have hD : va_D A [(a_this, .inr (8, [.ref a_this_s, .ref a_this_image, .ref a_this_was, .int v_hasImage, .ref a_this_letters, .ref a_this_row, .ref a_this_refused, .int v_letterMany, .int v_rowMany, .int v_place, .ref a_this_numbers, .ref a_this_least, .ref a_this_stepsFrom, .ref a_this_most, .ref a_this_next, .ref a_this_otherSteps, .ref a_this_ahead, .ref a_this_now, .int v_seed])), (a_this_numbers, .inl (cI, 3, .inl g_numbers)), (a_this_s, .inl (cI, 39, .inl g30))] := by rw [eg30]; exact hD
              obtain ⟨x31, ex31⟩ : ∃ y : Int32, y = l5_25 + (1 : Int32) := ⟨_, rfl⟩
              have he := zn_e ex31 he
              refine lv_iinc (v := x31) (lv' := [(5, .int x31), (0, .ref a_this), (2, .int x2), (4, .int s5)]) hx hb dX8_isDone_133 hl (k := 3) rfl (by rw [ex31]; rfl) (by decide) rfl (fun ls hl => ?_)
              refine lv_goto (tgt := 118) hx hb dX8_isDone_136 (by decide) ?_
              exact (hWW _ _ _ _).mp (hagain27 x31 g30 he) _ _ _ hP hD hS (lv_sub hl [1, 2, 3, 0] rfl)
          refine lv_if_ne (tgt := 115) hx hb dX8_isDone_94 (by decide) (fun c33 => ?_) (fun c33 => ?_)
          · have he := zif_f c33 he
            exact (hWW _ _ _ _).mp (hk32 () he) _ _ _ hP hD hS (lv_sub hl [1, 3, 4, 0] rfl)
          · have he := zif_t c33 he
            refine lv_aload_n hx hb dX8_isDone_97 rfl (lv_at hl 1 rfl) ?_
            refine va_get (D := (dC, dI)) (ci := 8) (v := .ref a_this_s) (C := RX8) (T := TX8) (N := 19) hx hb hts (by decide +kernel) hown hK hP 0 rfl rfl 0 (by decide) (hts (.fieldLink RX8 9 "LawOfCornersModel" "s" "[I") (by decide +kernel)) (fun _ h9 => h9) rfl dX8_isDone_98 ?_
            refine lv_bipush (v := (36 : Int32)) hx hb dX8_isDone_101 (by decide) ?_
            obtain ⟨hg34, he⟩ := zg_e he
            refine va_iald hx hb hK hP 2 0 rfl rfl hg34 dX8_isDone_103 ?_
            refine lv_iload_n hx hb dX8_isDone_104 rfl (lv_at hl 4 rfl) ?_
            refine lv_iload hx hb dX8_isDone_105 (lv_at hl 0 rfl) ?_
            obtain ⟨r35, hf36, he⟩ := zb1_e he
            refine zc_i (wr := [(a_this, .inr (8, [.ref a_this_s, .ref a_this_image, .ref a_this_was, .int v_hasImage, .ref a_this_letters, .ref a_this_row, .ref a_this_refused, .int v_letterMany, .int v_rowMany, .int v_place, .ref a_this_numbers, .ref a_this_least, .ref a_this_stepsFrom, .ref a_this_most, .ref a_this_next, .ref a_this_otherSteps, .ref a_this_ahead, .ref a_this_now, .int v_seed])), (a_this_numbers, .inl (cI, 3, .inl g_numbers)), (a_this_s, .inl (cI, 39, .inl g_s))]) (ws' := [(a_this, .inr (8, [.ref a_this_s, .ref a_this_image, .ref a_this_was, .int v_hasImage, .ref a_this_letters, .ref a_this_row, .ref a_this_refused, .int v_letterMany, .int v_rowMany, .int v_place, .ref a_this_numbers, .ref a_this_least, .ref a_this_stepsFrom, .ref a_this_most, .ref a_this_next, .ref a_this_otherSteps, .ref a_this_ahead, .ref a_this_now, .int v_seed])), (a_this_numbers, .inl (cI, 3, .inl g_numbers)), (a_this_s, .inl (cI, 39, .inl g_s))]) (va_runS (As := [.int (g_s (36 : Int32).toNatClampNeg), .int x4, .int s5]) (rest := []) ⟨hx, hb, hml, hown, hts⟩ (k_M_isIn l dC dI cI cZ tt sd H.size (g_s (36 : Int32).toNatClampNeg) x4 s5 r35 hf36) (va_cwS 3 hts gX8_isDone_X8_isIn rfl rfl rfl (by decide +kernel) ⟨Nat.le_of_ble_eq_true rfl, Nat.le_of_ble_eq_true rfl⟩) (zpS hP hD hK hS hA hZ [] rfl rfl) rfl rfl hl.1 rfl (lv_room (Nat.le_of_ble_eq_true rfl)) dX8_isDone_107 ⟨Nat.zero_le _, Nat.zero_le _⟩) hP hD hS hA [] [0, 1, 2] [0, 1, 2] rfl rfl rfl (by decide) rfl rfl rfl (fun H locs hP hD hS => ?_)
            refine lv_if_eq (tgt := 115) hx hb dX8_isDone_110 (by decide) (fun c37 => ?_) (fun c37 => ?_)
            · have he := zif_t c37 he
              exact (hWW _ _ _ _).mp (hk32 () he) _ _ _ hP hD hS (lv_sub hl [1, 3, 4, 0] rfl)
            · have he := zif_f c37 he
              refine lv_iconst (v := (0 : Int32)) hx hb dX8_isDone_113 (by decide) ?_
              obtain ⟨rfl, rfl⟩ := zi2 he
              exact W.zret hx hb hr rfl (fun t ht hW => ⟨⟨_, (), rfl, rfl, by rw [ht]; exact hP, va_K.moved hW.alike hK, hD⟩, hS.F ht⟩) hS.2.2 dX8_isDone_114
    have he := zif_f c18 he
    by_cases c38 : p1 = (118 : Int32)
    · have he := zif_t c38 he
      refine lv_lookup (off := 43) (tgt := 76) hx hb dX8_isDone_33 (by decide) (by rw [c38]; rfl) (by decide) ?_
      refine lv_iload_n hx hb dX8_isDone_76 rfl (lv_at hl 4 rfl) ?_
      refine lv_iload hx hb dX8_isDone_77 (lv_at hl 0 rfl) ?_
      refine lv_icmp_gt (tgt := 113) hx hb dX8_isDone_79 (by decide) (fun c39 => ?_) (fun c39 => ?_)
      · have he := zif_t c39 he
        refine lv_iconst (v := (0 : Int32)) hx hb dX8_isDone_113 (by decide) ?_
        obtain ⟨rfl, rfl⟩ := zi2 he
        exact W.zret hx hb hr rfl (fun t ht hW => ⟨⟨_, (), rfl, rfl, by rw [ht]; exact hP, va_K.moved hW.alike hK, hD⟩, hS.F ht⟩) hS.2.2 dX8_isDone_114
      · have he := zif_f c39 he
        refine lv_iload hx hb dX8_isDone_82 (lv_at hl 0 rfl) ?_
        obtain ⟨r40, hf41, he⟩ := zb1_e he
        refine zc_i (wr := [(a_this, .inr (8, [.ref a_this_s, .ref a_this_image, .ref a_this_was, .int v_hasImage, .ref a_this_letters, .ref a_this_row, .ref a_this_refused, .int v_letterMany, .int v_rowMany, .int v_place, .ref a_this_numbers, .ref a_this_least, .ref a_this_stepsFrom, .ref a_this_most, .ref a_this_next, .ref a_this_otherSteps, .ref a_this_ahead, .ref a_this_now, .int v_seed])), (a_this_numbers, .inl (cI, 3, .inl g_numbers)), (a_this_s, .inl (cI, 39, .inl g_s))]) (ws' := [(a_this, .inr (8, [.ref a_this_s, .ref a_this_image, .ref a_this_was, .int v_hasImage, .ref a_this_letters, .ref a_this_row, .ref a_this_refused, .int v_letterMany, .int v_rowMany, .int v_place, .ref a_this_numbers, .ref a_this_least, .ref a_this_stepsFrom, .ref a_this_most, .ref a_this_next, .ref a_this_otherSteps, .ref a_this_ahead, .ref a_this_now, .int v_seed])), (a_this_numbers, .inl (cI, 3, .inl g_numbers)), (a_this_s, .inl (cI, 39, .inl g_s))]) (va_runS (As := [.int s5]) (rest := []) ⟨hx, hb, hml, hown, hts⟩ (k_M_isSquare l dC dI cI cZ tt sd H.size s5 r40 hf41) (va_cwS 1 hts gX8_isDone_X8_isSquare rfl rfl rfl (by decide +kernel) ⟨Nat.le_of_ble_eq_true rfl, Nat.le_of_ble_eq_true rfl⟩) (zpS hP hD hK hS hA hZ [] rfl rfl) rfl rfl hl.1 rfl (lv_room (Nat.le_of_ble_eq_true rfl)) dX8_isDone_84 ⟨Nat.zero_le _, Nat.zero_le _⟩) hP hD hS hA [] [0, 1, 2] [0, 1, 2] rfl rfl rfl (by decide) rfl rfl rfl (fun H locs hP hD hS => ?_)
        refine lv_if_eq (tgt := 113) hx hb dX8_isDone_87 (by decide) (fun c42 => ?_) (fun c42 => ?_)
        · have he := zif_t c42 he
          refine lv_iconst (v := (0 : Int32)) hx hb dX8_isDone_113 (by decide) ?_
          obtain ⟨rfl, rfl⟩ := zi2 he
          exact W.zret hx hb hr rfl (fun t ht hW => ⟨⟨_, (), rfl, rfl, by rw [ht]; exact hP, va_K.moved hW.alike hK, hD⟩, hS.F ht⟩) hS.2.2 dX8_isDone_114
        · have he := zif_f c42 he
          refine lv_iload_n hx hb dX8_isDone_90 rfl (lv_at hl 3 rfl) ?_
          obtain ⟨r43, hf44, he⟩ := zb1_e he
          refine zc_i (wr := [(a_this, .inr (8, [.ref a_this_s, .ref a_this_image, .ref a_this_was, .int v_hasImage, .ref a_this_letters, .ref a_this_row, .ref a_this_refused, .int v_letterMany, .int v_rowMany, .int v_place, .ref a_this_numbers, .ref a_this_least, .ref a_this_stepsFrom, .ref a_this_most, .ref a_this_next, .ref a_this_otherSteps, .ref a_this_ahead, .ref a_this_now, .int v_seed])), (a_this_numbers, .inl (cI, 3, .inl g_numbers)), (a_this_s, .inl (cI, 39, .inl g_s))]) (ws' := [(a_this, .inr (8, [.ref a_this_s, .ref a_this_image, .ref a_this_was, .int v_hasImage, .ref a_this_letters, .ref a_this_row, .ref a_this_refused, .int v_letterMany, .int v_rowMany, .int v_place, .ref a_this_numbers, .ref a_this_least, .ref a_this_stepsFrom, .ref a_this_most, .ref a_this_next, .ref a_this_otherSteps, .ref a_this_ahead, .ref a_this_now, .int v_seed])), (a_this_numbers, .inl (cI, 3, .inl g_numbers)), (a_this_s, .inl (cI, 39, .inl g_s))]) (va_runS (As := [.int x2]) (rest := []) ⟨hx, hb, hml, hown, hts⟩ (k_M_canStand l dC dI cI cZ tt sd H.size x2 r43 hf44) (va_cwS 1 hts gX8_isDone_X8_canStand rfl rfl rfl (by decide +kernel) ⟨Nat.le_of_ble_eq_true rfl, Nat.le_of_ble_eq_true rfl⟩) (zpS hP hD hK hS hA hZ [] rfl rfl) rfl rfl hl.1 rfl (lv_room (Nat.le_of_ble_eq_true rfl)) dX8_isDone_91 ⟨Nat.zero_le _, Nat.zero_le _⟩) hP hD hS hA [] [0, 1, 2] [0, 1, 2] rfl rfl rfl (by decide) rfl rfl rfl (fun H locs hP hD hS => ?_)
          refine zj1_w he (fun (_ : Unit) => WW [(a_this, .inr (8, [.ref a_this_s, .ref a_this_image, .ref a_this_was, .int v_hasImage, .ref a_this_letters, .ref a_this_row, .ref a_this_refused, .int v_letterMany, .int v_rowMany, .int v_place, .ref a_this_numbers, .ref a_this_least, .ref a_this_stepsFrom, .ref a_this_most, .ref a_this_next, .ref a_this_otherSteps, .ref a_this_ahead, .ref a_this_now, .int v_seed])), (a_this_numbers, .inl (cI, 3, .inl g_numbers)), (a_this_s, .inl (cI, 39, .inl g_s))] [(0, .ref a_this), (2, .int x2), (3, .int x4), (4, .int s5)] 115 []) (fun _ he => (hWW _ _ _ _).mpr (fun H locs ls hP hD hS hl => ?_)) (fun k52 hk52 he => ?_)
          · refine lv_iload_n hx hb dX8_isDone_115 rfl (lv_at hl 2 rfl) ?_
            refine lv_istore (lv' := [(5, .int x4), (0, .ref a_this), (2, .int x2), (3, .int x4), (4, .int s5)]) hx hb dX8_isDone_116 hl (by decide) rfl (fun ls hl => ?_)
            refine (hWW _ _ _ _).mp (zl2_w he (fun (l5_45 : Int32) (g_s_46 : Nat → Int32) => WW [(a_this, .inr (8, [.ref a_this_s, .ref a_this_image, .ref a_this_was, .int v_hasImage, .ref a_this_letters, .ref a_this_row, .ref a_this_refused, .int v_letterMany, .int v_rowMany, .int v_place, .ref a_this_numbers, .ref a_this_least, .ref a_this_stepsFrom, .ref a_this_most, .ref a_this_next, .ref a_this_otherSteps, .ref a_this_ahead, .ref a_this_now, .int v_seed])), (a_this_numbers, .inl (cI, 3, .inl g_numbers)), (a_this_s, .inl (cI, 39, .inl g_s_46))] [(0, .ref a_this), (2, .int x2), (4, .int s5), (5, .int l5_45)] 118 []) (fun l5_45 g_s_46 again47 hagain47 he => (hWW _ _ _ _).mpr (fun H locs ls hP hD hS hl => ?_))) _ _ _ hP hD hS (lv_sub hl [1, 2, 4, 0] rfl)
            refine lv_iload hx hb dX8_isDone_118 (lv_at hl 3 rfl) ?_
            refine lv_iload hx hb dX8_isDone_120 (lv_at hl 2 rfl) ?_
            refine lv_icmp_gt (tgt := 139) hx hb dX8_isDone_122 (by decide) (fun c48 => ?_) (fun c48 => ?_)
            · have he := zif_t c48 he
              refine lv_iconst (v := (1 : Int32)) hx hb dX8_isDone_139 (by decide) ?_
              obtain ⟨rfl, rfl⟩ := zi2 he
              exact W.zret hx hb hr rfl (fun t ht hW => ⟨⟨_, (), rfl, rfl, by rw [ht]; exact hP, va_K.moved hW.alike hK, hD⟩, hS.F ht⟩) hS.2.2 dX8_isDone_140
            · have he := zif_f c48 he
              refine lv_aload_n hx hb dX8_isDone_125 rfl (lv_at hl 0 rfl) ?_
              refine va_get (D := (dC, dI)) (ci := 8) (v := .ref a_this_s) (C := RX8) (T := TX8) (N := 19) hx hb hts (by decide +kernel) hown hK hP 0 rfl rfl 0 (by decide) (hts (.fieldLink RX8 9 "LawOfCornersModel" "s" "[I") (by decide +kernel)) (fun _ h9 => h9) rfl dX8_isDone_126 ?_
              refine lv_iload hx hb dX8_isDone_129 (lv_at hl 3 rfl) ?_
              refine lv_iload_n hx hb dX8_isDone_131 rfl (lv_at hl 1 rfl) ?_
              obtain ⟨hg49, he⟩ := zg_e he
              refine va_iast hx hb hK hP hD hS 2 0 rfl rfl hg49 dX8_isDone_132 (fun H locs hP hD hS => ?_)
              obtain ⟨g50, eg50⟩ : ∃ y : Nat → Int32, y = upd g_s_46 l5_45.toNatClampNeg x2 := ⟨_, rfl⟩
              have he := zn_e eg50 he
              have hP : va_P (dC, dI) vwCl [(a_this, .inr (8, [.ref a_this_s, .ref a_this_image, .ref a_this_was, .int v_hasImage, .ref a_this_letters, .ref a_this_row, .ref a_this_refused, .int v_letterMany, .int v_rowMany, .int v_place, .ref a_this_numbers, .ref a_this_least, .ref a_this_stepsFrom, .ref a_this_most, .ref a_this_next, .ref a_this_otherSteps, .ref a_this_ahead, .ref a_this_now, .int v_seed])), (a_this_numbers, .inl (cI, 3, .inl g_numbers)), (a_this_s, .inl (cI, 39, .inl g50))] H := by rw [eg50]; exact hP
              have hD : va_D A [(a_this, .inr (8, [.ref a_this_s, .ref a_this_image, .ref a_this_was, .int v_hasImage, .ref a_this_letters, .ref a_this_row, .ref a_this_refused, .int v_letterMany, .int v_rowMany, .int v_place, .ref a_this_numbers, .ref a_this_least, .ref a_this_stepsFrom, .ref a_this_most, .ref a_this_next, .ref a_this_otherSteps, .ref a_this_ahead, .ref a_this_now, .int v_seed])), (a_this_numbers, .inl (cI, 3, .inl g_numbers)), (a_this_s, .inl (cI, 39, .inl g50))] := by rw [eg50]; exact hD
              obtain ⟨x51, ex51⟩ : ∃ y : Int32, y = l5_45 + (1 : Int32) := ⟨_, rfl⟩
              have he := zn_e ex51 he
              refine lv_iinc (v := x51) (lv' := [(5, .int x51), (0, .ref a_this), (2, .int x2), (4, .int s5)]) hx hb dX8_isDone_133 hl (k := 3) rfl (by rw [ex51]; rfl) (by decide) rfl (fun ls hl => ?_)
              refine lv_goto (tgt := 118) hx hb dX8_isDone_136 (by decide) ?_
              exact (hWW _ _ _ _).mp (hagain47 x51 g50 he) _ _ _ hP hD hS (lv_sub hl [1, 2, 3, 0] rfl)
          refine lv_if_ne (tgt := 115) hx hb dX8_isDone_94 (by decide) (fun c53 => ?_) (fun c53 => ?_)
          · have he := zif_f c53 he
            exact (hWW _ _ _ _).mp (hk52 () he) _ _ _ hP hD hS (lv_sub hl [1, 3, 4, 0] rfl)
          · have he := zif_t c53 he
            refine lv_aload_n hx hb dX8_isDone_97 rfl (lv_at hl 1 rfl) ?_
            refine va_get (D := (dC, dI)) (ci := 8) (v := .ref a_this_s) (C := RX8) (T := TX8) (N := 19) hx hb hts (by decide +kernel) hown hK hP 0 rfl rfl 0 (by decide) (hts (.fieldLink RX8 9 "LawOfCornersModel" "s" "[I") (by decide +kernel)) (fun _ h9 => h9) rfl dX8_isDone_98 ?_
            refine lv_bipush (v := (36 : Int32)) hx hb dX8_isDone_101 (by decide) ?_
            obtain ⟨hg54, he⟩ := zg_e he
            refine va_iald hx hb hK hP 2 0 rfl rfl hg54 dX8_isDone_103 ?_
            refine lv_iload_n hx hb dX8_isDone_104 rfl (lv_at hl 4 rfl) ?_
            refine lv_iload hx hb dX8_isDone_105 (lv_at hl 0 rfl) ?_
            obtain ⟨r55, hf56, he⟩ := zb1_e he
            refine zc_i (wr := [(a_this, .inr (8, [.ref a_this_s, .ref a_this_image, .ref a_this_was, .int v_hasImage, .ref a_this_letters, .ref a_this_row, .ref a_this_refused, .int v_letterMany, .int v_rowMany, .int v_place, .ref a_this_numbers, .ref a_this_least, .ref a_this_stepsFrom, .ref a_this_most, .ref a_this_next, .ref a_this_otherSteps, .ref a_this_ahead, .ref a_this_now, .int v_seed])), (a_this_numbers, .inl (cI, 3, .inl g_numbers)), (a_this_s, .inl (cI, 39, .inl g_s))]) (ws' := [(a_this, .inr (8, [.ref a_this_s, .ref a_this_image, .ref a_this_was, .int v_hasImage, .ref a_this_letters, .ref a_this_row, .ref a_this_refused, .int v_letterMany, .int v_rowMany, .int v_place, .ref a_this_numbers, .ref a_this_least, .ref a_this_stepsFrom, .ref a_this_most, .ref a_this_next, .ref a_this_otherSteps, .ref a_this_ahead, .ref a_this_now, .int v_seed])), (a_this_numbers, .inl (cI, 3, .inl g_numbers)), (a_this_s, .inl (cI, 39, .inl g_s))]) (va_runS (As := [.int (g_s (36 : Int32).toNatClampNeg), .int x4, .int s5]) (rest := []) ⟨hx, hb, hml, hown, hts⟩ (k_M_isIn l dC dI cI cZ tt sd H.size (g_s (36 : Int32).toNatClampNeg) x4 s5 r55 hf56) (va_cwS 3 hts gX8_isDone_X8_isIn rfl rfl rfl (by decide +kernel) ⟨Nat.le_of_ble_eq_true rfl, Nat.le_of_ble_eq_true rfl⟩) (zpS hP hD hK hS hA hZ [] rfl rfl) rfl rfl hl.1 rfl (lv_room (Nat.le_of_ble_eq_true rfl)) dX8_isDone_107 ⟨Nat.zero_le _, Nat.zero_le _⟩) hP hD hS hA [] [0, 1, 2] [0, 1, 2] rfl rfl rfl (by decide) rfl rfl rfl (fun H locs hP hD hS => ?_)
            refine lv_if_eq (tgt := 115) hx hb dX8_isDone_110 (by decide) (fun c57 => ?_) (fun c57 => ?_)
            · have he := zif_t c57 he
              exact (hWW _ _ _ _).mp (hk52 () he) _ _ _ hP hD hS (lv_sub hl [1, 3, 4, 0] rfl)
            · have he := zif_f c57 he
              refine lv_iconst (v := (0 : Int32)) hx hb dX8_isDone_113 (by decide) ?_
              obtain ⟨rfl, rfl⟩ := zi2 he
              exact W.zret hx hb hr rfl (fun t ht hW => ⟨⟨_, (), rfl, rfl, by rw [ht]; exact hP, va_K.moved hW.alike hK, hD⟩, hS.F ht⟩) hS.2.2 dX8_isDone_114
    have he := zif_f c38 he
    refine lv_lookup (off := 145) (tgt := 178) hx hb dX8_isDone_33 (by decide) (by show Op.lookupswitch.offset [(102, 135), (104, 108), (107, 43), (118, 43)] (145) _ = _; rw [lv_osw c6 (by decide), lv_osw c9 (by decide), lv_osw c18 (by decide), lv_osw c38 (by decide)]; rfl) (by decide) ?_
    refine lv_aload_n hx hb dX8_isDone_178 rfl (lv_at hl 1 rfl) ?_
    refine va_get (D := (dC, dI)) (ci := 8) (v := .ref a_this_s) (C := RX8) (T := TX8) (N := 19) hx hb hts (by decide +kernel) hown hK hP 0 rfl rfl 0 (by decide) (hts (.fieldLink RX8 9 "LawOfCornersModel" "s" "[I") (by decide +kernel)) (fun _ h9 => h9) rfl dX8_isDone_179 ?_
    refine lv_bipush (v := (38 : Int32)) hx hb dX8_isDone_182 (by decide) ?_
    refine lv_iload_n hx hb dX8_isDone_184 rfl (lv_at hl 3 rfl) ?_
    obtain ⟨hg58, he⟩ := zg_e he
    refine va_iast hx hb hK hP hD hS 2 0 rfl rfl hg58 dX8_isDone_185 (fun H locs hP hD hS => ?_)
    obtain ⟨g59, eg59⟩ : ∃ y : Nat → Int32, y = upd g_s (38 : Int32).toNatClampNeg x2 := ⟨_, rfl⟩
    have he := zn_e eg59 he
    have hP : va_P (dC, dI) vwCl [(a_this, .inr (8, [.ref a_this_s, .ref a_this_image, .ref a_this_was, .int v_hasImage, .ref a_this_letters, .ref a_this_row, .ref a_this_refused, .int v_letterMany, .int v_rowMany, .int v_place, .ref a_this_numbers, .ref a_this_least, .ref a_this_stepsFrom, .ref a_this_most, .ref a_this_next, .ref a_this_otherSteps, .ref a_this_ahead, .ref a_this_now, .int v_seed])), (a_this_numbers, .inl (cI, 3, .inl g_numbers)), (a_this_s, .inl (cI, 39, .inl g59))] H := by rw [eg59]; exact hP
    have hD : va_D A [(a_this, .inr (8, [.ref a_this_s, .ref a_this_image, .ref a_this_was, .int v_hasImage, .ref a_this_letters, .ref a_this_row, .ref a_this_refused, .int v_letterMany, .int v_rowMany, .int v_place, .ref a_this_numbers, .ref a_this_least, .ref a_this_stepsFrom, .ref a_this_most, .ref a_this_next, .ref a_this_otherSteps, .ref a_this_ahead, .ref a_this_now, .int v_seed])), (a_this_numbers, .inl (cI, 3, .inl g_numbers)), (a_this_s, .inl (cI, 39, .inl g59))] := by rw [eg59]; exact hD
    refine lv_iload_n hx hb dX8_isDone_186 rfl (lv_at hl 3 rfl) ?_
    refine lv_if_le (tgt := 194) hx hb dX8_isDone_187 (by decide) (fun c60 => ?_) (fun c60 => ?_)
    · have he := zif_t c60 he
      refine lv_iconst (v := (0 : Int32)) hx hb dX8_isDone_194 (by decide) ?_
      obtain ⟨rfl, rfl⟩ := zi2 he
      exact W.zret hx hb hr rfl (fun t ht hW => ⟨⟨_, (), rfl, rfl, by rw [ht]; exact hP, va_K.moved hW.alike hK, hD⟩, hS.F ht⟩) hS.2.2 dX8_isDone_195
    · have he := zif_f c60 he
      refine lv_iconst (v := (1 : Int32)) hx hb dX8_isDone_190 (by decide) ?_
      refine lv_goto (tgt := 195) hx hb dX8_isDone_191 (by decide) ?_
      obtain ⟨rfl, rfl⟩ := zi2 he
      exact W.zret hx hb hr rfl (fun t ht hW => ⟨⟨_, (), rfl, rfl, by rw [ht]; exact hP, va_K.moved hW.alike hK, hD⟩, hS.F ht⟩) hS.2.2 dX8_isDone_195
  refine lv_icmp_ne (tgt := 29) hx hb dX8_isDone_17 (by decide) (fun c62 => ?_) (fun c62 => ?_)
  · have he := zif_f c62 he
    refine lv_iload_n hx hb dX8_isDone_29 rfl (lv_at hl 0 rfl) ?_
    exact (hWW _ _ _ _).mp (hk61 x4 he) _ _ _ hP hD hS (lv_sub hl [2, 3, 1, 0] rfl)
  · have he := zif_t c62 he
    refine lv_aload_n hx hb dX8_isDone_20 rfl (lv_at hl 2 rfl) ?_
    refine va_get (D := (dC, dI)) (ci := 8) (v := .ref a_this_numbers) (C := RX8) (T := TX8) (N := 19) hx hb hts (by decide +kernel) hown hK hP 0 rfl rfl 10 (by decide) (hts (.fieldLink RX8 28 "LawOfCornersModel" "numbers" "[I") (by decide +kernel)) (fun _ h9 => h9) rfl dX8_isDone_21 ?_
    refine lv_iconst (v := (2 : Int32)) hx hb dX8_isDone_24 (by decide) ?_
    obtain ⟨hg63, he⟩ := zg_e he
    refine va_iald hx hb hK hP 1 0 rfl rfl hg63 dX8_isDone_25 ?_
    refine lv_goto (tgt := 30) hx hb dX8_isDone_26 (by decide) ?_
    exact (hWW _ _ _ _).mp (hk61 (g_numbers (2 : Int32).toNatClampNeg) he) _ _ _ hP hD hS (lv_sub hl [2, 3, 1, 0] rfl)
set_option maxHeartbeats 4000000 in
set_option maxRecDepth 100000 in
theorem k_M_town (l : Launch) (dC : Nat → ClassId) (dI : Nat → Nat → Nat) (cI : ClassId) (cZ : ClassId) (tt : Nat → Nat) (sd : Nat → Nat) (a_this : Nat) (a_this_s : Nat) (a_this_image : Nat) (a_this_was : Nat) (a_this_letters : Nat) (a_this_row : Nat) (a_this_refused : Nat) (a_this_numbers : Nat) (a_this_least : Nat) (a_this_stepsFrom : Nat) (a_this_most : Nat) (a_this_next : Nat) (a_this_otherSteps : Nat) (a_this_ahead : Nat) (a_this_now : Nat) (sz : Nat) (v_hasImage : Int32) (v_letterMany : Int32) (v_rowMany : Int32) (v_place : Int32) (v_seed : Int32) (g_letters : Nat → Int32) (g_numbers : Nat → Int32) (g_s : Nat → Int32) (g_was : Nat → Int32) (r0 : Int32) (w0 : Int32) (w1 : Int32) (w2 : Nat → Int32) (w3 : Nat → Int32) (w4 : Nat → Int32) (hf : f_M_town v_letterMany v_place g_letters g_numbers g_s g_was = some (r0, w0, w1, w2, w3, w4)) : Met l yX8_town wsX8_town ({ frames := 3, cells := 0, slots := 0, locals := 67 }) (zPre (dC, dI) vwCl [(cI, .int), (cZ, .boolean)] tt sd [.ref a_this] [(a_this, .inr (8, [.ref a_this_s, .ref a_this_image, .ref a_this_was, .int v_hasImage, .ref a_this_letters, .ref a_this_row, .ref a_this_refused, .int v_letterMany, .int v_rowMany, .int v_place, .ref a_this_numbers, .ref a_this_least, .ref a_this_stepsFrom, .ref a_this_most, .ref a_this_next, .ref a_this_otherSteps, .ref a_this_ahead, .ref a_this_now, .int v_seed])), (a_this_letters, .inl (cI, 96, .inl g_letters)), (a_this_numbers, .inl (cI, 3, .inl g_numbers)), (a_this_s, .inl (cI, 39, .inl g_s)), (a_this_was, .inl (cI, 39, .inl g_was))] sz) (zQi (dC, dI) vwCl [(cI, .int), (cZ, .boolean)] r0 [(a_this, .inr (8, [.ref a_this_s, .ref a_this_image, .ref a_this_was, .int v_hasImage, .ref a_this_letters, .ref a_this_row, .ref a_this_refused, .int w0, .int v_rowMany, .int w1, .ref a_this_numbers, .ref a_this_least, .ref a_this_stepsFrom, .ref a_this_most, .ref a_this_next, .ref a_this_otherSteps, .ref a_this_ahead, .ref a_this_now, .int v_seed])), (a_this_letters, .inl (cI, 96, .inl g_letters)), (a_this_numbers, .inl (cI, 3, .inl w2)), (a_this_s, .inl (cI, 39, .inl w3)), (a_this_was, .inl (cI, 39, .inl w4))] (va_A [(a_this, .inr (8, [.ref a_this_s, .ref a_this_image, .ref a_this_was, .int v_hasImage, .ref a_this_letters, .ref a_this_row, .ref a_this_refused, .int v_letterMany, .int v_rowMany, .int v_place, .ref a_this_numbers, .ref a_this_least, .ref a_this_stepsFrom, .ref a_this_most, .ref a_this_next, .ref a_this_otherSteps, .ref a_this_ahead, .ref a_this_now, .int v_seed])), (a_this_letters, .inl (cI, 96, .inl g_letters)), (a_this_numbers, .inl (cI, 3, .inl g_numbers)), (a_this_s, .inl (cI, 39, .inl g_s)), (a_this_was, .inl (cI, 39, .inl g_was))] sz)) 0 0 (va_A [(a_this, .inr (8, [.ref a_this_s, .ref a_this_image, .ref a_this_was, .int v_hasImage, .ref a_this_letters, .ref a_this_row, .ref a_this_refused, .int v_letterMany, .int v_rowMany, .int v_place, .ref a_this_numbers, .ref a_this_least, .ref a_this_stepsFrom, .ref a_this_most, .ref a_this_next, .ref a_this_otherSteps, .ref a_this_ahead, .ref a_this_now, .int v_seed])), (a_this_letters, .inl (cI, 96, .inl g_letters)), (a_this_numbers, .inl (cI, 3, .inl g_numbers)), (a_this_s, .inl (cI, 39, .inl g_s)), (a_this_was, .inl (cI, 39, .inl g_was))] sz) := by
  refine Met.ofW (cc := cX8_town) (maxL := 6) (ret := (some .int)) (by decide) rfl ?_
  intro p e s m args below meth c s₁ B hml hv
  obtain ⟨rfl, hsz, hP, hK, hD0, hZ⟩ := hv
  have hx := B.exec
  have hb := B.bytes
  have hr := B.returns
  have hts := atoms_spec (ws := wsX8_town) B.pre
  have hown : s.vm.findClass RX8 = some m.cls := findClass_of_methodNamed B.named
  have hlocks := B.notSynchronized
  subst hsz
  have hD := hD0.self (sz := s.heap.size)
  generalize hAe : va_A [(a_this, .inr (8, [.ref a_this_s, .ref a_this_image, .ref a_this_was, .int v_hasImage, .ref a_this_letters, .ref a_this_row, .ref a_this_refused, .int v_letterMany, .int v_rowMany, .int v_place, .ref a_this_numbers, .ref a_this_least, .ref a_this_stepsFrom, .ref a_this_most, .ref a_this_next, .ref a_this_otherSteps, .ref a_this_ahead, .ref a_this_now, .int v_seed])), (a_this_letters, .inl (cI, 96, .inl g_letters)), (a_this_numbers, .inl (cI, 3, .inl g_numbers)), (a_this_s, .inl (cI, 39, .inl g_s)), (a_this_was, .inl (cI, 39, .inl g_was))] s.heap.size = A at hD hZ ⊢
  have hA : ∀ q : Nat, s.heap.size ≤ q → A q := fun q h => by rw [← hAe]; exact Or.inr h
  have hS : va_S A s.heap s.heap [] := va_S.rf
  have hP : va_P (dC, dI) vwCl [(a_this, .inr (8, [.ref a_this_s, .ref a_this_image, .ref a_this_was, .int v_hasImage, .ref a_this_letters, .ref a_this_row, .ref a_this_refused, .int v_letterMany, .int v_rowMany, .int v_place, .ref a_this_numbers, .ref a_this_least, .ref a_this_stepsFrom, .ref a_this_most, .ref a_this_next, .ref a_this_otherSteps, .ref a_this_ahead, .ref a_this_now, .int v_seed])), (a_this_letters, .inl (cI, 96, .inl g_letters)), (a_this_numbers, .inl (cI, 3, .inl g_numbers)), (a_this_s, .inl (cI, 39, .inl g_s)), (a_this_was, .inl (cI, 39, .inl g_was))] s.heap := hP
  have hl := lv_entry ([.ref a_this]) (n := 6) (Nat.le_of_ble_eq_true rfl)
  rw [lg_entry_eq]
  generalize (lg_sl ([.ref a_this]) ++ List.replicate (6 - (lg_sl ([.ref a_this])).length) Slot.unset).toArray = ls at hl ⊢
  have hl : lv_has ls 6 [(0, .ref a_this)] := hl
  have he := hf
  unfold f_M_town at he
  refine zstart (D := (dC, dI)) (cl := vwCl) (A := A) (nL := 6) (fun WW hWW => ?_)
  refine lv_aload_n hx hb dX8_town_0 rfl (lv_at hl 0 rfl) ?_
  refine lv_iconst (v := (0 : Int32)) hx hb dX8_town_1 (by decide) ?_
  refine va_put (D := (dC, dI)) (ci := 8) (v := .int (0 : Int32)) (ty := .int) (C := RX8) (T := TX8) (N := 19) hx hb hts (by decide +kernel) tyX8 tyX8_ok nmX8 hown hK hP hD hS 0 rfl rfl 9 (by decide) (hts (.fieldLink RX8 94 "LawOfCornersModel" "place" "I") (by decide +kernel)) (fun _ h9 => h9) rfl (by decide +kernel) rfl rfl (Nat.le_of_ble_eq_true rfl) dX8_town_2 (fun H locs hP hD hS => ?_)
  have hP : va_P (dC, dI) vwCl [(a_this, .inr (8, [.ref a_this_s, .ref a_this_image, .ref a_this_was, .int v_hasImage, .ref a_this_letters, .ref a_this_row, .ref a_this_refused, .int v_letterMany, .int v_rowMany, .int (0 : Int32), .ref a_this_numbers, .ref a_this_least, .ref a_this_stepsFrom, .ref a_this_most, .ref a_this_next, .ref a_this_otherSteps, .ref a_this_ahead, .ref a_this_now, .int v_seed])), (a_this_letters, .inl (cI, 96, .inl g_letters)), (a_this_numbers, .inl (cI, 3, .inl g_numbers)), (a_this_s, .inl (cI, 39, .inl g_s)), (a_this_was, .inl (cI, 39, .inl g_was))] H := hP
  have hD : va_D A [(a_this, .inr (8, [.ref a_this_s, .ref a_this_image, .ref a_this_was, .int v_hasImage, .ref a_this_letters, .ref a_this_row, .ref a_this_refused, .int v_letterMany, .int v_rowMany, .int (0 : Int32), .ref a_this_numbers, .ref a_this_least, .ref a_this_stepsFrom, .ref a_this_most, .ref a_this_next, .ref a_this_otherSteps, .ref a_this_ahead, .ref a_this_now, .int v_seed])), (a_this_letters, .inl (cI, 96, .inl g_letters)), (a_this_numbers, .inl (cI, 3, .inl g_numbers)), (a_this_s, .inl (cI, 39, .inl g_s)), (a_this_was, .inl (cI, 39, .inl g_was))] := hD
  refine lv_iconst (v := (0 : Int32)) hx hb dX8_town_5 (by decide) ?_
  refine lv_istore_n (lv' := [(1, .int (0 : Int32)), (0, .ref a_this)]) hx hb dX8_town_6 rfl hl (by decide) rfl (fun ls hl => ?_)
  refine lv_bipush (v := (-9 : Int32)) hx hb dX8_town_7 (by decide) ?_
  refine lv_istore_n (lv' := [(2, .int (-9 : Int32)), (1, .int (0 : Int32)), (0, .ref a_this)]) hx hb dX8_town_9 rfl hl (by decide) rfl (fun ls hl => ?_)
  refine zj4_w he (fun (l1_1 : Int32) (l2_2 : Int32) (v_place_3 : Int32) (g_numbers_4 : Nat → Int32) => WW [(a_this, .inr (8, [.ref a_this_s, .ref a_this_image, .ref a_this_was, .int v_hasImage, .ref a_this_letters, .ref a_this_row, .ref a_this_refused, .int v_letterMany, .int v_rowMany, .int v_place_3, .ref a_this_numbers, .ref a_this_least, .ref a_this_stepsFrom, .ref a_this_most, .ref a_this_next, .ref a_this_otherSteps, .ref a_this_ahead, .ref a_this_now, .int v_seed])), (a_this_letters, .inl (cI, 96, .inl g_letters)), (a_this_numbers, .inl (cI, 3, .inl g_numbers_4)), (a_this_s, .inl (cI, 39, .inl g_s)), (a_this_was, .inl (cI, 39, .inl g_was))] [(0, .ref a_this), (1, .int l1_1), (2, .int l2_2)] 46 []) (fun l1_1 l2_2 v_place_3 g_numbers_4 he => (hWW _ _ _ _).mpr (fun H locs ls hP hD hS hl => ?_)) (fun k33 hk33 he => ?_)
  · refine lv_aload_n hx hb dX8_town_46 rfl (lv_at hl 0 rfl) ?_
    refine va_get (D := (dC, dI)) (ci := 8) (v := .ref a_this_s) (C := RX8) (T := TX8) (N := 19) hx hb hts (by decide +kernel) hown hK hP 0 rfl rfl 0 (by decide) (hts (.fieldLink RX8 9 "LawOfCornersModel" "s" "[I") (by decide +kernel)) (fun _ h9 => h9) rfl dX8_town_47 ?_
    refine lv_aload_n hx hb dX8_town_50 rfl (lv_at hl 0 rfl) ?_
    refine va_get (D := (dC, dI)) (ci := 8) (v := .ref a_this_was) (C := RX8) (T := TX8) (N := 19) hx hb hts (by decide +kernel) hown hK hP 0 rfl rfl 2 (by decide) (hts (.fieldLink RX8 16 "LawOfCornersModel" "was" "[I") (by decide +kernel)) (fun _ h9 => h9) rfl dX8_town_51 ?_
    obtain ⟨g_was_5, hf6, he⟩ := zb1_e he
    refine zc_v (wr := [(a_this, .inr (8, [.ref a_this_s, .ref a_this_image, .ref a_this_was, .int v_hasImage, .ref a_this_letters, .ref a_this_row, .ref a_this_refused, .int v_letterMany, .int v_rowMany, .int v_place_3, .ref a_this_numbers, .ref a_this_least, .ref a_this_stepsFrom, .ref a_this_most, .ref a_this_next, .ref a_this_otherSteps, .ref a_this_ahead, .ref a_this_now, .int v_seed])), (a_this_letters, .inl (cI, 96, .inl g_letters)), (a_this_numbers, .inl (cI, 3, .inl g_numbers_4))]) (ws' := [(a_this, .inr (8, [.ref a_this_s, .ref a_this_image, .ref a_this_was, .int v_hasImage, .ref a_this_letters, .ref a_this_row, .ref a_this_refused, .int v_letterMany, .int v_rowMany, .int v_place_3, .ref a_this_numbers, .ref a_this_least, .ref a_this_stepsFrom, .ref a_this_most, .ref a_this_next, .ref a_this_otherSteps, .ref a_this_ahead, .ref a_this_now, .int v_seed])), (a_this_letters, .inl (cI, 96, .inl g_letters)), (a_this_numbers, .inl (cI, 3, .inl g_numbers_4)), (a_this_s, .inl (cI, 39, .inl g_s)), (a_this_was, .inl (cI, 39, .inl g_was_5))]) (va_runS (As := [.ref a_this_s, .ref a_this_was]) (rest := []) ⟨hx, hb, hml, hown, hts⟩ (k_M_lays l dC dI cI cZ tt sd a_this_s a_this_was H.size g_s g_was g_was_5 hf6) (va_cwS 2 hts gX8_town_X8_lays rfl rfl rfl (by decide +kernel) ⟨Nat.le_of_ble_eq_true rfl, Nat.le_of_ble_eq_true rfl⟩) (zpS hP hD hK hS hA hZ [3, 4] rfl rfl) rfl rfl hl.1 rfl (lv_room (Nat.le_of_ble_eq_true rfl)) dX8_town_54 ⟨Nat.zero_le _, Nat.zero_le _⟩) hP hD hS hA [3, 4] [0, 1, 2] [0, 1, 2, 3, 4] rfl rfl rfl (by decide) rfl rfl rfl (fun H locs hP hD hS => ?_)
    refine lv_aload_n hx hb dX8_town_57 rfl (lv_at hl 0 rfl) ?_
    refine lv_iconst (v := (0 : Int32)) hx hb dX8_town_58 (by decide) ?_
    refine va_put (D := (dC, dI)) (ci := 8) (v := .int (0 : Int32)) (ty := .int) (C := RX8) (T := TX8) (N := 19) hx hb hts (by decide +kernel) tyX8 tyX8_ok nmX8 hown hK hP hD hS 0 rfl rfl 9 (by decide) (hts (.fieldLink RX8 94 "LawOfCornersModel" "place" "I") (by decide +kernel)) (fun _ h9 => h9) rfl (by decide +kernel) rfl rfl (Nat.le_of_ble_eq_true rfl) dX8_town_59 (fun H locs hP hD hS => ?_)
    have hP : va_P (dC, dI) vwCl [(a_this, .inr (8, [.ref a_this_s, .ref a_this_image, .ref a_this_was, .int v_hasImage, .ref a_this_letters, .ref a_this_row, .ref a_this_refused, .int v_letterMany, .int v_rowMany, .int (0 : Int32), .ref a_this_numbers, .ref a_this_least, .ref a_this_stepsFrom, .ref a_this_most, .ref a_this_next, .ref a_this_otherSteps, .ref a_this_ahead, .ref a_this_now, .int v_seed])), (a_this_letters, .inl (cI, 96, .inl g_letters)), (a_this_numbers, .inl (cI, 3, .inl g_numbers_4)), (a_this_s, .inl (cI, 39, .inl g_s)), (a_this_was, .inl (cI, 39, .inl g_was_5))] H := hP
    have hD : va_D A [(a_this, .inr (8, [.ref a_this_s, .ref a_this_image, .ref a_this_was, .int v_hasImage, .ref a_this_letters, .ref a_this_row, .ref a_this_refused, .int v_letterMany, .int v_rowMany, .int (0 : Int32), .ref a_this_numbers, .ref a_this_least, .ref a_this_stepsFrom, .ref a_this_most, .ref a_this_next, .ref a_this_otherSteps, .ref a_this_ahead, .ref a_this_now, .int v_seed])), (a_this_letters, .inl (cI, 96, .inl g_letters)), (a_this_numbers, .inl (cI, 3, .inl g_numbers_4)), (a_this_s, .inl (cI, 39, .inl g_s)), (a_this_was, .inl (cI, 39, .inl g_was_5))] := hD
    refine zj4_w he (fun (l2_7 : Int32) (v_place_8 : Int32) (g_numbers_9 : Nat → Int32) (g_s_10 : Nat → Int32) => WW [(a_this, .inr (8, [.ref a_this_s, .ref a_this_image, .ref a_this_was, .int v_hasImage, .ref a_this_letters, .ref a_this_row, .ref a_this_refused, .int v_letterMany, .int v_rowMany, .int v_place_8, .ref a_this_numbers, .ref a_this_least, .ref a_this_stepsFrom, .ref a_this_most, .ref a_this_next, .ref a_this_otherSteps, .ref a_this_ahead, .ref a_this_now, .int v_seed])), (a_this_letters, .inl (cI, 96, .inl g_letters)), (a_this_numbers, .inl (cI, 3, .inl g_numbers_9)), (a_this_s, .inl (cI, 39, .inl g_s_10)), (a_this_was, .inl (cI, 39, .inl g_was_5))] [(0, .ref a_this), (1, .int l1_1), (2, .int l2_7)] 128 []) (fun l2_7 v_place_8 g_numbers_9 g_s_10 he => (hWW _ _ _ _).mpr (fun H locs ls hP hD hS hl => ?_)) (fun k12 hk12 he => ?_)
    · refine lv_aload_n hx hb dX8_town_128 rfl (lv_at hl 0 rfl) ?_
      refine lv_iconst (v := (0 : Int32)) hx hb dX8_town_129 (by decide) ?_
      refine va_put (D := (dC, dI)) (ci := 8) (v := .int (0 : Int32)) (ty := .int) (C := RX8) (T := TX8) (N := 19) hx hb hts (by decide +kernel) tyX8 tyX8_ok nmX8 hown hK hP hD hS 0 rfl rfl 7 (by decide) (hts (.fieldLink RX8 90 "LawOfCornersModel" "letterMany" "I") (by decide +kernel)) (fun _ h9 => h9) rfl (by decide +kernel) rfl rfl (Nat.le_of_ble_eq_true rfl) dX8_town_130 (fun H locs hP hD hS => ?_)
      have hP : va_P (dC, dI) vwCl [(a_this, .inr (8, [.ref a_this_s, .ref a_this_image, .ref a_this_was, .int v_hasImage, .ref a_this_letters, .ref a_this_row, .ref a_this_refused, .int (0 : Int32), .int v_rowMany, .int v_place_8, .ref a_this_numbers, .ref a_this_least, .ref a_this_stepsFrom, .ref a_this_most, .ref a_this_next, .ref a_this_otherSteps, .ref a_this_ahead, .ref a_this_now, .int v_seed])), (a_this_letters, .inl (cI, 96, .inl g_letters)), (a_this_numbers, .inl (cI, 3, .inl g_numbers_9)), (a_this_s, .inl (cI, 39, .inl g_s_10)), (a_this_was, .inl (cI, 39, .inl g_was_5))] H := hP
      have hD : va_D A [(a_this, .inr (8, [.ref a_this_s, .ref a_this_image, .ref a_this_was, .int v_hasImage, .ref a_this_letters, .ref a_this_row, .ref a_this_refused, .int (0 : Int32), .int v_rowMany, .int v_place_8, .ref a_this_numbers, .ref a_this_least, .ref a_this_stepsFrom, .ref a_this_most, .ref a_this_next, .ref a_this_otherSteps, .ref a_this_ahead, .ref a_this_now, .int v_seed])), (a_this_letters, .inl (cI, 96, .inl g_letters)), (a_this_numbers, .inl (cI, 3, .inl g_numbers_9)), (a_this_s, .inl (cI, 39, .inl g_s_10)), (a_this_was, .inl (cI, 39, .inl g_was_5))] := hD
      refine lv_iload_n hx hb dX8_town_133 rfl (lv_at hl 2 rfl) ?_
      refine lv_bipush (v := (-9 : Int32)) hx hb dX8_town_134 (by decide) ?_
      refine lv_icmp_ne (tgt := 143) hx hb dX8_town_136 (by decide) (fun c11 => ?_) (fun c11 => ?_)
      · have he := zif_f c11 he
        refine lv_iload_n hx hb dX8_town_143 rfl (lv_at hl 2 rfl) ?_
        obtain ⟨rfl, rfl, rfl, rfl, rfl, rfl⟩ := zi6 he
        exact W.iret hx hb hr (fun t ht hW => ⟨⟨_, (), rfl, rfl, by rw [ht]; exact hP, va_K.moved hW.alike hK, hD⟩, hS.F ht⟩) hS.2.2 dX8_town_144
      · have he := zif_t c11 he
        refine lv_iload_n hx hb dX8_town_139 rfl (lv_at hl 1 rfl) ?_
        refine lv_goto (tgt := 144) hx hb dX8_town_140 (by decide) ?_
        obtain ⟨rfl, rfl, rfl, rfl, rfl, rfl⟩ := zi6 he
        exact W.iret hx hb hr (fun t ht hW => ⟨⟨_, (), rfl, rfl, by rw [ht]; exact hP, va_K.moved hW.alike hK, hD⟩, hS.F ht⟩) hS.2.2 dX8_town_144
    refine (hWW _ _ _ _).mp (zl4_w he (fun (l2_13 : Int32) (v_place_14 : Int32) (g_numbers_15 : Nat → Int32) (g_s_16 : Nat → Int32) => WW [(a_this, .inr (8, [.ref a_this_s, .ref a_this_image, .ref a_this_was, .int v_hasImage, .ref a_this_letters, .ref a_this_row, .ref a_this_refused, .int v_letterMany, .int v_rowMany, .int v_place_14, .ref a_this_numbers, .ref a_this_least, .ref a_this_stepsFrom, .ref a_this_most, .ref a_this_next, .ref a_this_otherSteps, .ref a_this_ahead, .ref a_this_now, .int v_seed])), (a_this_letters, .inl (cI, 96, .inl g_letters)), (a_this_numbers, .inl (cI, 3, .inl g_numbers_15)), (a_this_s, .inl (cI, 39, .inl g_s_16)), (a_this_was, .inl (cI, 39, .inl g_was_5))] [(0, .ref a_this), (1, .int l1_1), (2, .int l2_13)] 62 []) (fun l2_13 v_place_14 g_numbers_15 g_s_16 again17 hagain17 he => (hWW _ _ _ _).mpr (fun H locs ls hP hD hS hl => ?_))) _ _ _ hP hD hS (lv_sub hl [0, 1, 2] rfl)
    refine lv_iload_n hx hb dX8_town_62 rfl (lv_at hl 2 rfl) ?_
    refine lv_bipush (v := (-9 : Int32)) hx hb dX8_town_63 (by decide) ?_
    refine lv_icmp_ne (tgt := 128) hx hb dX8_town_65 (by decide) (fun c18 => ?_) (fun c18 => ?_)
    · have he := zif_f c18 he
      exact (hWW _ _ _ _).mp (hk12 l2_13 v_place_14 g_numbers_15 g_s_16 he) _ _ _ hP hD hS (lv_sub hl [0, 1, 2] rfl)
    · have he := zif_t c18 he
      refine lv_aload_n hx hb dX8_town_68 rfl (lv_at hl 0 rfl) ?_
      refine va_get (D := (dC, dI)) (ci := 8) (v := .int v_place_14) (C := RX8) (T := TX8) (N := 19) hx hb hts (by decide +kernel) hown hK hP 0 rfl rfl 9 (by decide) (hts (.fieldLink RX8 94 "LawOfCornersModel" "place" "I") (by decide +kernel)) (fun _ h9 => h9) rfl dX8_town_69 ?_
      refine lv_aload_n hx hb dX8_town_72 rfl (lv_at hl 0 rfl) ?_
      refine va_get (D := (dC, dI)) (ci := 8) (v := .int v_letterMany) (C := RX8) (T := TX8) (N := 19) hx hb hts (by decide +kernel) hown hK hP 0 rfl rfl 7 (by decide) (hts (.fieldLink RX8 90 "LawOfCornersModel" "letterMany" "I") (by decide +kernel)) (fun _ h9 => h9) rfl dX8_town_73 ?_
      refine lv_icmp_ge (tgt := 128) hx hb dX8_town_76 (by decide) (fun c19 => ?_) (fun c19 => ?_)
      · have he := zif_t c19 he
        exact (hWW _ _ _ _).mp (hk12 l2_13 v_place_14 g_numbers_15 g_s_16 he) _ _ _ hP hD hS (lv_sub hl [0, 1, 2] rfl)
      · have he := zif_f c19 he
        refine lv_aload_n hx hb dX8_town_79 rfl (lv_at hl 0 rfl) ?_
        refine va_get (D := (dC, dI)) (ci := 8) (v := .int v_place_14) (C := RX8) (T := TX8) (N := 19) hx hb hts (by decide +kernel) hown hK hP 0 rfl rfl 9 (by decide) (hts (.fieldLink RX8 94 "LawOfCornersModel" "place" "I") (by decide +kernel)) (fun _ h9 => h9) rfl dX8_town_80 ?_
        refine lv_istore_n (lv' := [(3, .int v_place_14), (0, .ref a_this), (1, .int l1_1), (2, .int l2_13)]) hx hb dX8_town_83 rfl hl (by decide) rfl (fun ls hl => ?_)
        refine lv_aload_n hx hb dX8_town_84 rfl (lv_at hl 1 rfl) ?_
        obtain ⟨r20, hf21, he⟩ := zb1_e he
        refine zc_i (wr := [(a_this_numbers, .inl (cI, 3, .inl g_numbers_15)), (a_this_s, .inl (cI, 39, .inl g_s_16)), (a_this_was, .inl (cI, 39, .inl g_was_5))]) (ws' := [(a_this, .inr (8, [.ref a_this_s, .ref a_this_image, .ref a_this_was, .int v_hasImage, .ref a_this_letters, .ref a_this_row, .ref a_this_refused, .int v_letterMany, .int v_rowMany, .int v_place_14, .ref a_this_numbers, .ref a_this_least, .ref a_this_stepsFrom, .ref a_this_most, .ref a_this_next, .ref a_this_otherSteps, .ref a_this_ahead, .ref a_this_now, .int v_seed])), (a_this_letters, .inl (cI, 96, .inl g_letters)), (a_this_numbers, .inl (cI, 3, .inl g_numbers_15)), (a_this_s, .inl (cI, 39, .inl g_s_16)), (a_this_was, .inl (cI, 39, .inl g_was_5))]) (va_runV (As := []) (rest := []) ⟨hx, hb, hml, hown, hts⟩ (k_M_here l dC dI cI cZ tt sd a_this a_this_s a_this_image a_this_was a_this_letters a_this_row a_this_refused a_this_numbers a_this_least a_this_stepsFrom a_this_most a_this_next a_this_otherSteps a_this_ahead a_this_now H.size v_hasImage v_letterMany v_rowMany v_place_14 v_seed g_letters r20 hf21) (cwV 0 hts gX8_town_X8_here rfl rfl rfl (by decide +kernel) ⟨Nat.le_of_ble_eq_true rfl, Nat.le_of_ble_eq_true rfl⟩) (zpV hP hD hK hS hA hZ [0, 1] rfl rfl 8 0 rfl rfl) rfl rfl hl.1 rfl (lv_room (Nat.le_of_ble_eq_true rfl)) dX8_town_85 ⟨Nat.zero_le _, Nat.zero_le _⟩) hP hD hS hA [0, 1] [2, 3, 4] [3, 4, 0, 1, 2] rfl rfl rfl (by decide) rfl rfl rfl (fun H locs hP hD hS => ?_)
        refine lv_istore (lv' := [(4, .int r20), (3, .int v_place_14), (0, .ref a_this), (1, .int l1_1), (2, .int l2_13)]) hx hb dX8_town_88 hl (by decide) rfl (fun ls hl => ?_)
        refine lv_aload_n hx hb dX8_town_90 rfl (lv_at hl 2 rfl) ?_
        obtain ⟨r22, v_place_23, g_numbers_24, hf25, he⟩ := zb3_e he
        refine zc_i (wr := [(a_this_s, .inl (cI, 39, .inl g_s_16)), (a_this_was, .inl (cI, 39, .inl g_was_5))]) (ws' := [(a_this, .inr (8, [.ref a_this_s, .ref a_this_image, .ref a_this_was, .int v_hasImage, .ref a_this_letters, .ref a_this_row, .ref a_this_refused, .int v_letterMany, .int v_rowMany, .int v_place_23, .ref a_this_numbers, .ref a_this_least, .ref a_this_stepsFrom, .ref a_this_most, .ref a_this_next, .ref a_this_otherSteps, .ref a_this_ahead, .ref a_this_now, .int v_seed])), (a_this_letters, .inl (cI, 96, .inl g_letters)), (a_this_numbers, .inl (cI, 3, .inl g_numbers_24)), (a_this_s, .inl (cI, 39, .inl g_s_16)), (a_this_was, .inl (cI, 39, .inl g_was_5))]) (va_runV (As := []) (rest := []) ⟨hx, hb, hml, hown, hts⟩ (k_M_readsStatement l dC dI cI cZ tt sd a_this a_this_s a_this_image a_this_was a_this_letters a_this_row a_this_refused a_this_numbers a_this_least a_this_stepsFrom a_this_most a_this_next a_this_otherSteps a_this_ahead a_this_now H.size v_hasImage v_letterMany v_rowMany v_place_14 v_seed g_letters g_numbers_15 r22 v_place_23 g_numbers_24 hf25) (cwV 0 hts gX8_town_X8_readsStatement rfl rfl rfl (by decide +kernel) ⟨Nat.le_of_ble_eq_true rfl, Nat.le_of_ble_eq_true rfl⟩) (zpV hP hD hK hS hA hZ [0, 1, 2] rfl rfl 8 0 rfl rfl) rfl rfl hl.1 rfl (lv_room (Nat.le_of_ble_eq_true rfl)) dX8_town_91 ⟨Nat.zero_le _, Nat.zero_le _⟩) hP hD hS hA [0, 1, 2] [3, 4] [2, 3, 4, 0, 1] rfl rfl rfl (by decide) rfl rfl rfl (fun H locs hP hD hS => ?_)
        refine lv_istore (lv' := [(5, .int r22), (4, .int r20), (3, .int v_place_14), (0, .ref a_this), (1, .int l1_1), (2, .int l2_13)]) hx hb dX8_town_94 hl (by decide) rfl (fun ls hl => ?_)
        refine lv_aload_n hx hb dX8_town_96 rfl (lv_at hl 3 rfl) ?_
        refine lv_iload hx hb dX8_town_97 (lv_at hl 1 rfl) ?_
        obtain ⟨r26, g_s_27, hf28, he⟩ := zb2_e he
        refine zc_i (wr := [(a_this_letters, .inl (cI, 96, .inl g_letters)), (a_this_was, .inl (cI, 39, .inl g_was_5))]) (ws' := [(a_this, .inr (8, [.ref a_this_s, .ref a_this_image, .ref a_this_was, .int v_hasImage, .ref a_this_letters, .ref a_this_row, .ref a_this_refused, .int v_letterMany, .int v_rowMany, .int v_place_23, .ref a_this_numbers, .ref a_this_least, .ref a_this_stepsFrom, .ref a_this_most, .ref a_this_next, .ref a_this_otherSteps, .ref a_this_ahead, .ref a_this_now, .int v_seed])), (a_this_letters, .inl (cI, 96, .inl g_letters)), (a_this_numbers, .inl (cI, 3, .inl g_numbers_24)), (a_this_s, .inl (cI, 39, .inl g_s_27)), (a_this_was, .inl (cI, 39, .inl g_was_5))]) (va_runV (As := [.int r20]) (rest := []) ⟨hx, hb, hml, hown, hts⟩ (k_M_isDone l dC dI cI cZ tt sd a_this a_this_s a_this_image a_this_was a_this_letters a_this_row a_this_refused a_this_numbers a_this_least a_this_stepsFrom a_this_most a_this_next a_this_otherSteps a_this_ahead a_this_now H.size v_hasImage v_letterMany v_rowMany v_place_23 v_seed g_numbers_24 g_s_16 r20 r26 g_s_27 hf28) (cwV 1 hts gX8_town_X8_isDone rfl rfl rfl (by decide +kernel) ⟨Nat.le_of_ble_eq_true rfl, Nat.le_of_ble_eq_true rfl⟩) (zpV hP hD hK hS hA hZ [0, 2, 3] rfl rfl 8 0 rfl rfl) rfl rfl hl.1 rfl (lv_room (Nat.le_of_ble_eq_true rfl)) dX8_town_99 ⟨Nat.zero_le _, Nat.zero_le _⟩) hP hD hS hA [0, 2, 3] [1, 4] [2, 0, 3, 4, 1] rfl rfl rfl (by decide) rfl rfl rfl (fun H locs hP hD hS => ?_)
        refine lv_if_eq (tgt := 108) hx hb dX8_town_102 (by decide) (fun c29 => ?_) (fun c29 => ?_)
        · have he := zif_t c29 he
          refine lv_sipush (v := (-2000 : Int32)) hx hb dX8_town_108 (by decide) ?_
          refine lv_iload_n hx hb dX8_town_111 rfl (lv_at hl 2 rfl) ?_
          refine lv_isub hx hb dX8_town_112 ?_
          refine lv_topi (fun x30 ex30 => ?_)
          have he := zn_e ex30 he
          refine lv_istore_n (lv' := [(2, .int x30), (5, .int r22), (4, .int r20), (3, .int v_place_14), (0, .ref a_this), (1, .int l1_1)]) hx hb dX8_town_113 rfl hl (by decide) rfl (fun ls hl => ?_)
          refine lv_aload_n hx hb dX8_town_114 rfl (lv_at hl 4 rfl) ?_
          refine va_get (D := (dC, dI)) (ci := 8) (v := .ref a_this_was) (C := RX8) (T := TX8) (N := 19) hx hb hts (by decide +kernel) hown hK hP 0 rfl rfl 2 (by decide) (hts (.fieldLink RX8 16 "LawOfCornersModel" "was" "[I") (by decide +kernel)) (fun _ h9 => h9) rfl dX8_town_115 ?_
          refine lv_aload_n hx hb dX8_town_118 rfl (lv_at hl 4 rfl) ?_
          refine va_get (D := (dC, dI)) (ci := 8) (v := .ref a_this_s) (C := RX8) (T := TX8) (N := 19) hx hb hts (by decide +kernel) hown hK hP 0 rfl rfl 0 (by decide) (hts (.fieldLink RX8 9 "LawOfCornersModel" "s" "[I") (by decide +kernel)) (fun _ h9 => h9) rfl dX8_town_119 ?_
          obtain ⟨g_s_31, hf32, he⟩ := zb1_e he
          refine zc_v (wr := [(a_this, .inr (8, [.ref a_this_s, .ref a_this_image, .ref a_this_was, .int v_hasImage, .ref a_this_letters, .ref a_this_row, .ref a_this_refused, .int v_letterMany, .int v_rowMany, .int v_place_23, .ref a_this_numbers, .ref a_this_least, .ref a_this_stepsFrom, .ref a_this_most, .ref a_this_next, .ref a_this_otherSteps, .ref a_this_ahead, .ref a_this_now, .int v_seed])), (a_this_letters, .inl (cI, 96, .inl g_letters)), (a_this_numbers, .inl (cI, 3, .inl g_numbers_24))]) (ws' := [(a_this, .inr (8, [.ref a_this_s, .ref a_this_image, .ref a_this_was, .int v_hasImage, .ref a_this_letters, .ref a_this_row, .ref a_this_refused, .int v_letterMany, .int v_rowMany, .int v_place_23, .ref a_this_numbers, .ref a_this_least, .ref a_this_stepsFrom, .ref a_this_most, .ref a_this_next, .ref a_this_otherSteps, .ref a_this_ahead, .ref a_this_now, .int v_seed])), (a_this_letters, .inl (cI, 96, .inl g_letters)), (a_this_numbers, .inl (cI, 3, .inl g_numbers_24)), (a_this_s, .inl (cI, 39, .inl g_s_31)), (a_this_was, .inl (cI, 39, .inl g_was_5))]) (va_runS (As := [.ref a_this_was, .ref a_this_s]) (rest := []) ⟨hx, hb, hml, hown, hts⟩ (k_M_lays l dC dI cI cZ tt sd a_this_was a_this_s H.size g_was_5 g_s_27 g_s_31 hf32) (va_cwS 2 hts gX8_town_X8_lays rfl rfl rfl (by decide +kernel) ⟨Nat.le_of_ble_eq_true rfl, Nat.le_of_ble_eq_true rfl⟩) (zpS hP hD hK hS hA hZ [4, 3] rfl rfl) rfl rfl hl.1 rfl (lv_room (Nat.le_of_ble_eq_true rfl)) dX8_town_122 ⟨Nat.zero_le _, Nat.zero_le _⟩) hP hD hS hA [4, 3] [0, 1, 2] [0, 1, 2, 4, 3] rfl rfl rfl (by decide) rfl rfl rfl (fun H locs hP hD hS => ?_)
          refine lv_goto (tgt := 62) hx hb dX8_town_125 (by decide) ?_
          exact (hWW _ _ _ _).mp (hagain17 x30 v_place_23 g_numbers_24 g_s_31 he) _ _ _ hP hD hS (lv_sub hl [4, 5, 0] rfl)
        · have he := zif_f c29 he
          refine lv_goto (tgt := 62) hx hb dX8_town_105 (by decide) ?_
          exact (hWW _ _ _ _).mp (hagain17 l2_13 v_place_23 g_numbers_24 g_s_27 he) _ _ _ hP hD hS (lv_sub hl [3, 4, 5] rfl)
  refine (hWW _ _ _ _).mp (zl4_w he (fun (l1_34 : Int32) (l2_35 : Int32) (v_place_36 : Int32) (g_numbers_37 : Nat → Int32) => WW [(a_this, .inr (8, [.ref a_this_s, .ref a_this_image, .ref a_this_was, .int v_hasImage, .ref a_this_letters, .ref a_this_row, .ref a_this_refused, .int v_letterMany, .int v_rowMany, .int v_place_36, .ref a_this_numbers, .ref a_this_least, .ref a_this_stepsFrom, .ref a_this_most, .ref a_this_next, .ref a_this_otherSteps, .ref a_this_ahead, .ref a_this_now, .int v_seed])), (a_this_letters, .inl (cI, 96, .inl g_letters)), (a_this_numbers, .inl (cI, 3, .inl g_numbers_37)), (a_this_s, .inl (cI, 39, .inl g_s)), (a_this_was, .inl (cI, 39, .inl g_was))] [(0, .ref a_this), (1, .int l1_34), (2, .int l2_35)] 10 []) (fun l1_34 l2_35 v_place_36 g_numbers_37 again38 hagain38 he => (hWW _ _ _ _).mpr (fun H locs ls hP hD hS hl => ?_))) _ _ _ hP hD hS (lv_sub hl [2, 1, 0] rfl)
  refine lv_aload_n hx hb dX8_town_10 rfl (lv_at hl 0 rfl) ?_
  obtain ⟨r39, v_place_40, g_numbers_41, hf42, he⟩ := zb3_e he
  refine zc_i (wr := [(a_this_s, .inl (cI, 39, .inl g_s)), (a_this_was, .inl (cI, 39, .inl g_was))]) (ws' := [(a_this, .inr (8, [.ref a_this_s, .ref a_this_image, .ref a_this_was, .int v_hasImage, .ref a_this_letters, .ref a_this_row, .ref a_this_refused, .int v_letterMany, .int v_rowMany, .int v_place_40, .ref a_this_numbers, .ref a_this_least, .ref a_this_stepsFrom, .ref a_this_most, .ref a_this_next, .ref a_this_otherSteps, .ref a_this_ahead, .ref a_this_now, .int v_seed])), (a_this_letters, .inl (cI, 96, .inl g_letters)), (a_this_numbers, .inl (cI, 3, .inl g_numbers_41)), (a_this_s, .inl (cI, 39, .inl g_s)), (a_this_was, .inl (cI, 39, .inl g_was))]) (va_runV (As := []) (rest := []) ⟨hx, hb, hml, hown, hts⟩ (k_M_readsStatement l dC dI cI cZ tt sd a_this a_this_s a_this_image a_this_was a_this_letters a_this_row a_this_refused a_this_numbers a_this_least a_this_stepsFrom a_this_most a_this_next a_this_otherSteps a_this_ahead a_this_now H.size v_hasImage v_letterMany v_rowMany v_place_36 v_seed g_letters g_numbers_37 r39 v_place_40 g_numbers_41 hf42) (cwV 0 hts gX8_town_X8_readsStatement rfl rfl rfl (by decide +kernel) ⟨Nat.le_of_ble_eq_true rfl, Nat.le_of_ble_eq_true rfl⟩) (zpV hP hD hK hS hA hZ [0, 1, 2] rfl rfl 8 0 rfl rfl) rfl rfl hl.1 rfl (lv_room (Nat.le_of_ble_eq_true rfl)) dX8_town_11 ⟨Nat.zero_le _, Nat.zero_le _⟩) hP hD hS hA [0, 1, 2] [3, 4] [2, 3, 4, 0, 1] rfl rfl rfl (by decide) rfl rfl rfl (fun H locs hP hD hS => ?_)
  refine zj1_w he (fun (l2_43 : Int32) => WW [(a_this, .inr (8, [.ref a_this_s, .ref a_this_image, .ref a_this_was, .int v_hasImage, .ref a_this_letters, .ref a_this_row, .ref a_this_refused, .int v_letterMany, .int v_rowMany, .int v_place_40, .ref a_this_numbers, .ref a_this_least, .ref a_this_stepsFrom, .ref a_this_most, .ref a_this_next, .ref a_this_otherSteps, .ref a_this_ahead, .ref a_this_now, .int v_seed])), (a_this_letters, .inl (cI, 96, .inl g_letters)), (a_this_numbers, .inl (cI, 3, .inl g_numbers_41)), (a_this_s, .inl (cI, 39, .inl g_s)), (a_this_was, .inl (cI, 39, .inl g_was))] [(0, .ref a_this), (1, .int l1_34), (2, .int l2_43)] 26 []) (fun l2_43 he => (hWW _ _ _ _).mpr (fun H locs ls hP hD hS hl => ?_)) (fun k47 hk47 he => ?_)
  · obtain ⟨x44, ex44⟩ : ∃ y : Int32, y = l1_34 + (1 : Int32) := ⟨_, rfl⟩
    have he := zn_e ex44 he
    refine lv_iinc (v := x44) (lv' := [(1, .int x44), (0, .ref a_this), (2, .int l2_43)]) hx hb dX8_town_26 hl (k := 1) rfl (by rw [ex44]; rfl) (by decide) rfl (fun ls hl => ?_)
    refine lv_iload_n hx hb dX8_town_29 rfl (lv_at hl 2 rfl) ?_
    refine lv_bipush (v := (-9 : Int32)) hx hb dX8_town_30 (by decide) ?_
    refine lv_icmp_ne (tgt := 46) hx hb dX8_town_32 (by decide) (fun c45 => ?_) (fun c45 => ?_)
    · have he := zif_f c45 he
      exact (hWW _ _ _ _).mp (hk33 x44 l2_43 v_place_40 g_numbers_41 he) _ _ _ hP hD hS (lv_sub hl [1, 0, 2] rfl)
    · have he := zif_t c45 he
      refine lv_aload_n hx hb dX8_town_35 rfl (lv_at hl 1 rfl) ?_
      refine va_get (D := (dC, dI)) (ci := 8) (v := .int v_place_40) (C := RX8) (T := TX8) (N := 19) hx hb hts (by decide +kernel) hown hK hP 0 rfl rfl 9 (by decide) (hts (.fieldLink RX8 94 "LawOfCornersModel" "place" "I") (by decide +kernel)) (fun _ h9 => h9) rfl dX8_town_36 ?_
      refine lv_aload_n hx hb dX8_town_39 rfl (lv_at hl 1 rfl) ?_
      refine va_get (D := (dC, dI)) (ci := 8) (v := .int v_letterMany) (C := RX8) (T := TX8) (N := 19) hx hb hts (by decide +kernel) hown hK hP 0 rfl rfl 7 (by decide) (hts (.fieldLink RX8 90 "LawOfCornersModel" "letterMany" "I") (by decide +kernel)) (fun _ h9 => h9) rfl dX8_town_40 ?_
      refine lv_icmp_lt (tgt := 10) hx hb dX8_town_43 (by decide) (fun c46 => ?_) (fun c46 => ?_)
      · have he := zif_t c46 he
        exact (hWW _ _ _ _).mp (hagain38 x44 l2_43 v_place_40 g_numbers_41 he) _ _ _ hP hD hS (lv_sub hl [1, 0, 2] rfl)
      · have he := zif_f c46 he
        exact (hWW _ _ _ _).mp (hk33 x44 l2_43 v_place_40 g_numbers_41 he) _ _ _ hP hD hS (lv_sub hl [1, 0, 2] rfl)
  refine lv_if_ne (tgt := 26) hx hb dX8_town_14 (by decide) (fun c48 => ?_) (fun c48 => ?_)
  · have he := zif_f c48 he
    exact (hWW _ _ _ _).mp (hk47 l2_35 he) _ _ _ hP hD hS (lv_sub hl [0, 1, 2] rfl)
  · have he := zif_t c48 he
    refine lv_sipush (v := (-1000 : Int32)) hx hb dX8_town_17 (by decide) ?_
    refine lv_aload_n hx hb dX8_town_20 rfl (lv_at hl 0 rfl) ?_
    refine va_get (D := (dC, dI)) (ci := 8) (v := .int v_place_40) (C := RX8) (T := TX8) (N := 19) hx hb hts (by decide +kernel) hown hK hP 0 rfl rfl 9 (by decide) (hts (.fieldLink RX8 94 "LawOfCornersModel" "place" "I") (by decide +kernel)) (fun _ h9 => h9) rfl dX8_town_21 ?_
    refine lv_isub hx hb dX8_town_24 ?_
    refine lv_topi (fun x49 ex49 => ?_)
    have he := zn_e ex49 he
    refine lv_istore_n (lv' := [(2, .int x49), (0, .ref a_this), (1, .int l1_34)]) hx hb dX8_town_25 rfl hl (by decide) rfl (fun ls hl => ?_)
    exact (hWW _ _ _ _).mp (hk47 x49 he) _ _ _ hP hD hS (lv_sub hl [1, 2, 0] rfl)
set_option maxHeartbeats 4000000 in
set_option maxRecDepth 100000 in
theorem k_M_square (l : Launch) (dC : Nat → ClassId) (dI : Nat → Nat → Nat) (cI : ClassId) (cZ : ClassId) (tt : Nat → Nat) (sd : Nat → Nat) (a_this : Nat) (a_this_s : Nat) (a_this_image : Nat) (a_this_was : Nat) (a_this_letters : Nat) (a_this_row : Nat) (a_this_refused : Nat) (a_this_numbers : Nat) (a_this_least : Nat) (a_this_stepsFrom : Nat) (a_this_most : Nat) (a_this_next : Nat) (a_this_otherSteps : Nat) (a_this_ahead : Nat) (a_this_now : Nat) (sz : Nat) (v_hasImage : Int32) (v_letterMany : Int32) (v_rowMany : Int32) (v_place : Int32) (v_seed : Int32) (g_refused : Nat → Int32) (g_s : Nat → Int32) (p1 : Int32) (p2 : Int32) (r0 : Int32) (w0 : Nat → Int32) (hf : f_M_square g_refused g_s p1 p2 = some (r0, w0)) : Met l yX8_square wsX8_square ({ frames := 2, cells := 0, slots := 0, locals := 42 }) (zPre (dC, dI) vwCl [(cI, .int), (cZ, .boolean)] tt sd [.ref a_this, .int p1, .int p2] [(a_this, .inr (8, [.ref a_this_s, .ref a_this_image, .ref a_this_was, .int v_hasImage, .ref a_this_letters, .ref a_this_row, .ref a_this_refused, .int v_letterMany, .int v_rowMany, .int v_place, .ref a_this_numbers, .ref a_this_least, .ref a_this_stepsFrom, .ref a_this_most, .ref a_this_next, .ref a_this_otherSteps, .ref a_this_ahead, .ref a_this_now, .int v_seed])), (a_this_refused, .inl (cI, 7, .inl g_refused)), (a_this_s, .inl (cI, 39, .inl g_s))] sz) (zQi (dC, dI) vwCl [(cI, .int), (cZ, .boolean)] r0 [(a_this, .inr (8, [.ref a_this_s, .ref a_this_image, .ref a_this_was, .int v_hasImage, .ref a_this_letters, .ref a_this_row, .ref a_this_refused, .int v_letterMany, .int v_rowMany, .int v_place, .ref a_this_numbers, .ref a_this_least, .ref a_this_stepsFrom, .ref a_this_most, .ref a_this_next, .ref a_this_otherSteps, .ref a_this_ahead, .ref a_this_now, .int v_seed])), (a_this_refused, .inl (cI, 7, .inl w0)), (a_this_s, .inl (cI, 39, .inl g_s))] (va_A [(a_this, .inr (8, [.ref a_this_s, .ref a_this_image, .ref a_this_was, .int v_hasImage, .ref a_this_letters, .ref a_this_row, .ref a_this_refused, .int v_letterMany, .int v_rowMany, .int v_place, .ref a_this_numbers, .ref a_this_least, .ref a_this_stepsFrom, .ref a_this_most, .ref a_this_next, .ref a_this_otherSteps, .ref a_this_ahead, .ref a_this_now, .int v_seed])), (a_this_refused, .inl (cI, 7, .inl g_refused)), (a_this_s, .inl (cI, 39, .inl g_s))] sz)) 0 0 (va_A [(a_this, .inr (8, [.ref a_this_s, .ref a_this_image, .ref a_this_was, .int v_hasImage, .ref a_this_letters, .ref a_this_row, .ref a_this_refused, .int v_letterMany, .int v_rowMany, .int v_place, .ref a_this_numbers, .ref a_this_least, .ref a_this_stepsFrom, .ref a_this_most, .ref a_this_next, .ref a_this_otherSteps, .ref a_this_ahead, .ref a_this_now, .int v_seed])), (a_this_refused, .inl (cI, 7, .inl g_refused)), (a_this_s, .inl (cI, 39, .inl g_s))] sz) := by
  refine Met.ofW (cc := cX8_square) (maxL := 3) (ret := (some .int)) (by decide) rfl ?_
  intro p e s m args below meth c s₁ B hml hv
  obtain ⟨rfl, hsz, hP, hK, hD0, hZ⟩ := hv
  have hx := B.exec
  have hb := B.bytes
  have hr := B.returns
  have hts := atoms_spec (ws := wsX8_square) B.pre
  have hown : s.vm.findClass RX8 = some m.cls := findClass_of_methodNamed B.named
  have hlocks := B.notSynchronized
  subst hsz
  have hD := hD0.self (sz := s.heap.size)
  generalize hAe : va_A [(a_this, .inr (8, [.ref a_this_s, .ref a_this_image, .ref a_this_was, .int v_hasImage, .ref a_this_letters, .ref a_this_row, .ref a_this_refused, .int v_letterMany, .int v_rowMany, .int v_place, .ref a_this_numbers, .ref a_this_least, .ref a_this_stepsFrom, .ref a_this_most, .ref a_this_next, .ref a_this_otherSteps, .ref a_this_ahead, .ref a_this_now, .int v_seed])), (a_this_refused, .inl (cI, 7, .inl g_refused)), (a_this_s, .inl (cI, 39, .inl g_s))] s.heap.size = A at hD hZ ⊢
  have hA : ∀ q : Nat, s.heap.size ≤ q → A q := fun q h => by rw [← hAe]; exact Or.inr h
  have hS : va_S A s.heap s.heap [] := va_S.rf
  have hP : va_P (dC, dI) vwCl [(a_this, .inr (8, [.ref a_this_s, .ref a_this_image, .ref a_this_was, .int v_hasImage, .ref a_this_letters, .ref a_this_row, .ref a_this_refused, .int v_letterMany, .int v_rowMany, .int v_place, .ref a_this_numbers, .ref a_this_least, .ref a_this_stepsFrom, .ref a_this_most, .ref a_this_next, .ref a_this_otherSteps, .ref a_this_ahead, .ref a_this_now, .int v_seed])), (a_this_refused, .inl (cI, 7, .inl g_refused)), (a_this_s, .inl (cI, 39, .inl g_s))] s.heap := hP
  have hl := lv_entry ([.ref a_this, .int p1, .int p2]) (n := 3) (Nat.le_of_ble_eq_true rfl)
  rw [lg_entry_eq]
  generalize (lg_sl ([.ref a_this, .int p1, .int p2]) ++ List.replicate (3 - (lg_sl ([.ref a_this, .int p1, .int p2])).length) Slot.unset).toArray = ls at hl ⊢
  have hl : lv_has ls 3 [(0, .ref a_this), (1, .int p1), (2, .int p2)] := hl
  have he := hf
  unfold f_M_square at he
  refine lv_iload_n hx hb dX8_square_0 rfl (lv_at hl 1 rfl) ?_
  obtain ⟨r1, hf2, he⟩ := zb1_e he
  refine zc_i (wr := [(a_this, .inr (8, [.ref a_this_s, .ref a_this_image, .ref a_this_was, .int v_hasImage, .ref a_this_letters, .ref a_this_row, .ref a_this_refused, .int v_letterMany, .int v_rowMany, .int v_place, .ref a_this_numbers, .ref a_this_least, .ref a_this_stepsFrom, .ref a_this_most, .ref a_this_next, .ref a_this_otherSteps, .ref a_this_ahead, .ref a_this_now, .int v_seed])), (a_this_refused, .inl (cI, 7, .inl g_refused)), (a_this_s, .inl (cI, 39, .inl g_s))]) (ws' := [(a_this, .inr (8, [.ref a_this_s, .ref a_this_image, .ref a_this_was, .int v_hasImage, .ref a_this_letters, .ref a_this_row, .ref a_this_refused, .int v_letterMany, .int v_rowMany, .int v_place, .ref a_this_numbers, .ref a_this_least, .ref a_this_stepsFrom, .ref a_this_most, .ref a_this_next, .ref a_this_otherSteps, .ref a_this_ahead, .ref a_this_now, .int v_seed])), (a_this_refused, .inl (cI, 7, .inl g_refused)), (a_this_s, .inl (cI, 39, .inl g_s))]) (va_runS (As := [.int p1]) (rest := []) ⟨hx, hb, hml, hown, hts⟩ (k_M_isSquare l dC dI cI cZ tt sd s.heap.size p1 r1 hf2) (va_cwS 1 hts gX8_square_X8_isSquare rfl rfl rfl (by decide +kernel) ⟨Nat.le_of_ble_eq_true rfl, Nat.le_of_ble_eq_true rfl⟩) (zpS hP hD hK hS hA hZ [] rfl rfl) rfl rfl hl.1 rfl (lv_room (Nat.le_of_ble_eq_true rfl)) dX8_square_1 ⟨Nat.zero_le _, Nat.zero_le _⟩) hP hD hS hA [] [0, 1, 2] [0, 1, 2] rfl rfl rfl (by decide) rfl rfl rfl (fun H locs hP hD hS => ?_)
  refine lv_if_ne (tgt := 13) hx hb dX8_square_4 (by decide) (fun c3 => ?_) (fun c3 => ?_)
  · have he := zif_f c3 he
    refine lv_iload_n hx hb dX8_square_13 rfl (lv_at hl 2 rfl) ?_
    by_cases c4 : p2 = (0 : Int32)
    · have he := zif_t c4 he
      refine lv_tableIn (off := 34) (tgt := 48) hx hb dX8_square_14 (by rw [c4]; decide) (by rw [c4]; decide) (by rw [c4]; rfl) (by decide) ?_
      refine lv_aload_n hx hb dX8_square_48 rfl (lv_at hl 0 rfl) ?_
      refine va_get (D := (dC, dI)) (ci := 8) (v := .ref a_this_s) (C := RX8) (T := TX8) (N := 19) hx hb hts (by decide +kernel) hown hK hP 0 rfl rfl 0 (by decide) (hts (.fieldLink RX8 9 "LawOfCornersModel" "s" "[I") (by decide +kernel)) (fun _ h9 => h9) rfl dX8_square_49 ?_
      refine lv_iload_n hx hb dX8_square_52 rfl (lv_at hl 1 rfl) ?_
      obtain ⟨hg5, he⟩ := zg_e he
      refine va_iald hx hb hK hP 2 0 rfl rfl hg5 dX8_square_53 ?_
      obtain ⟨rfl, rfl⟩ := zi2 he
      exact W.iret hx hb hr (fun t ht hW => ⟨⟨_, (), rfl, rfl, by rw [ht]; exact hP, va_K.moved hW.alike hK, hD⟩, hS.F ht⟩) hS.2.2 dX8_square_54
    have he := zif_f c4 he
    by_cases c6 : p2 = (1 : Int32)
    · have he := zif_t c6 he
      refine lv_tableIn (off := 41) (tgt := 55) hx hb dX8_square_14 (by rw [c6]; decide) (by rw [c6]; decide) (by rw [c6]; rfl) (by decide) ?_
      refine lv_aload_n hx hb dX8_square_55 rfl (lv_at hl 0 rfl) ?_
      refine lv_iload_n hx hb dX8_square_56 rfl (lv_at hl 1 rfl) ?_
      obtain ⟨r7, hf8, he⟩ := zb1_e he
      refine zc_i (wr := [(a_this_refused, .inl (cI, 7, .inl g_refused))]) (ws' := [(a_this, .inr (8, [.ref a_this_s, .ref a_this_image, .ref a_this_was, .int v_hasImage, .ref a_this_letters, .ref a_this_row, .ref a_this_refused, .int v_letterMany, .int v_rowMany, .int v_place, .ref a_this_numbers, .ref a_this_least, .ref a_this_stepsFrom, .ref a_this_most, .ref a_this_next, .ref a_this_otherSteps, .ref a_this_ahead, .ref a_this_now, .int v_seed])), (a_this_refused, .inl (cI, 7, .inl g_refused)), (a_this_s, .inl (cI, 39, .inl g_s))]) (va_runV (As := [.int p1]) (rest := []) ⟨hx, hb, hml, hown, hts⟩ (k_M_canBe l dC dI cI cZ tt sd a_this a_this_s a_this_image a_this_was a_this_letters a_this_row a_this_refused a_this_numbers a_this_least a_this_stepsFrom a_this_most a_this_next a_this_otherSteps a_this_ahead a_this_now H.size v_hasImage v_letterMany v_rowMany v_place v_seed g_s p1 r7 hf8) (cwV 1 hts gX8_square_X8_canBe rfl rfl rfl (by decide +kernel) ⟨Nat.le_of_ble_eq_true rfl, Nat.le_of_ble_eq_true rfl⟩) (zpV hP hD hK hS hA hZ [0, 2] rfl rfl 8 0 rfl rfl) rfl rfl hl.1 rfl (lv_room (Nat.le_of_ble_eq_true rfl)) dX8_square_57 ⟨Nat.zero_le _, Nat.zero_le _⟩) hP hD hS hA [0, 2] [1] [1, 0, 2] rfl rfl rfl (by decide) rfl rfl rfl (fun H locs hP hD hS => ?_)
      refine lv_if_eq (tgt := 67) hx hb dX8_square_60 (by decide) (fun c9 => ?_) (fun c9 => ?_)
      · have he := zif_t c9 he
        refine lv_iconst (v := (0 : Int32)) hx hb dX8_square_67 (by decide) ?_
        obtain ⟨rfl, rfl⟩ := zi2 he
        exact W.iret hx hb hr (fun t ht hW => ⟨⟨_, (), rfl, rfl, by rw [ht]; exact hP, va_K.moved hW.alike hK, hD⟩, hS.F ht⟩) hS.2.2 dX8_square_68
      · have he := zif_f c9 he
        refine lv_iconst (v := (1 : Int32)) hx hb dX8_square_63 (by decide) ?_
        refine lv_goto (tgt := 68) hx hb dX8_square_64 (by decide) ?_
        obtain ⟨rfl, rfl⟩ := zi2 he
        exact W.iret hx hb hr (fun t ht hW => ⟨⟨_, (), rfl, rfl, by rw [ht]; exact hP, va_K.moved hW.alike hK, hD⟩, hS.F ht⟩) hS.2.2 dX8_square_68
    have he := zif_f c6 he
    by_cases c10 : p2 = (2 : Int32)
    · have he := zif_t c10 he
      refine lv_tableIn (off := 55) (tgt := 69) hx hb dX8_square_14 (by rw [c10]; decide) (by rw [c10]; decide) (by rw [c10]; rfl) (by decide) ?_
      refine lv_aload_n hx hb dX8_square_69 rfl (lv_at hl 0 rfl) ?_
      refine lv_iload_n hx hb dX8_square_70 rfl (lv_at hl 1 rfl) ?_
      obtain ⟨r11, hf12, he⟩ := zb1_e he
      refine zc_i (wr := [(a_this_refused, .inl (cI, 7, .inl g_refused))]) (ws' := [(a_this, .inr (8, [.ref a_this_s, .ref a_this_image, .ref a_this_was, .int v_hasImage, .ref a_this_letters, .ref a_this_row, .ref a_this_refused, .int v_letterMany, .int v_rowMany, .int v_place, .ref a_this_numbers, .ref a_this_least, .ref a_this_stepsFrom, .ref a_this_most, .ref a_this_next, .ref a_this_otherSteps, .ref a_this_ahead, .ref a_this_now, .int v_seed])), (a_this_refused, .inl (cI, 7, .inl g_refused)), (a_this_s, .inl (cI, 39, .inl g_s))]) (va_runV (As := [.int p1]) (rest := []) ⟨hx, hb, hml, hown, hts⟩ (k_M_wordsOn l dC dI cI cZ tt sd a_this a_this_s a_this_image a_this_was a_this_letters a_this_row a_this_refused a_this_numbers a_this_least a_this_stepsFrom a_this_most a_this_next a_this_otherSteps a_this_ahead a_this_now H.size v_hasImage v_letterMany v_rowMany v_place v_seed g_s p1 r11 hf12) (cwV 1 hts gX8_square_X8_wordsOn rfl rfl rfl (by decide +kernel) ⟨Nat.le_of_ble_eq_true rfl, Nat.le_of_ble_eq_true rfl⟩) (zpV hP hD hK hS hA hZ [0, 2] rfl rfl 8 0 rfl rfl) rfl rfl hl.1 rfl (lv_room (Nat.le_of_ble_eq_true rfl)) dX8_square_71 ⟨Nat.zero_le _, Nat.zero_le _⟩) hP hD hS hA [0, 2] [1] [1, 0, 2] rfl rfl rfl (by decide) rfl rfl rfl (fun H locs hP hD hS => ?_)
      obtain ⟨rfl, rfl⟩ := zi2 he
      exact W.iret hx hb hr (fun t ht hW => ⟨⟨_, (), rfl, rfl, by rw [ht]; exact hP, va_K.moved hW.alike hK, hD⟩, hS.F ht⟩) hS.2.2 dX8_square_74
    have he := zif_f c10 he
    by_cases c13 : p2 = (3 : Int32)
    · have he := zif_t c13 he
      refine lv_tableIn (off := 61) (tgt := 75) hx hb dX8_square_14 (by rw [c13]; decide) (by rw [c13]; decide) (by rw [c13]; rfl) (by decide) ?_
      refine lv_aload_n hx hb dX8_square_75 rfl (lv_at hl 0 rfl) ?_
      refine va_get (D := (dC, dI)) (ci := 8) (v := .ref a_this_s) (C := RX8) (T := TX8) (N := 19) hx hb hts (by decide +kernel) hown hK hP 0 rfl rfl 0 (by decide) (hts (.fieldLink RX8 9 "LawOfCornersModel" "s" "[I") (by decide +kernel)) (fun _ h9 => h9) rfl dX8_square_76 ?_
      refine lv_iload_n hx hb dX8_square_79 rfl (lv_at hl 1 rfl) ?_
      obtain ⟨hg14, he⟩ := zg_e he
      refine va_iald hx hb hK hP 2 0 rfl rfl hg14 dX8_square_80 ?_
      obtain ⟨r15, hf16, he⟩ := zb1_e he
      refine zc_i (wr := [(a_this, .inr (8, [.ref a_this_s, .ref a_this_image, .ref a_this_was, .int v_hasImage, .ref a_this_letters, .ref a_this_row, .ref a_this_refused, .int v_letterMany, .int v_rowMany, .int v_place, .ref a_this_numbers, .ref a_this_least, .ref a_this_stepsFrom, .ref a_this_most, .ref a_this_next, .ref a_this_otherSteps, .ref a_this_ahead, .ref a_this_now, .int v_seed])), (a_this_refused, .inl (cI, 7, .inl g_refused)), (a_this_s, .inl (cI, 39, .inl g_s))]) (ws' := [(a_this, .inr (8, [.ref a_this_s, .ref a_this_image, .ref a_this_was, .int v_hasImage, .ref a_this_letters, .ref a_this_row, .ref a_this_refused, .int v_letterMany, .int v_rowMany, .int v_place, .ref a_this_numbers, .ref a_this_least, .ref a_this_stepsFrom, .ref a_this_most, .ref a_this_next, .ref a_this_otherSteps, .ref a_this_ahead, .ref a_this_now, .int v_seed])), (a_this_refused, .inl (cI, 7, .inl g_refused)), (a_this_s, .inl (cI, 39, .inl g_s))]) (va_runS (As := [.int (g_s p1.toNatClampNeg)]) (rest := []) ⟨hx, hb, hml, hown, hts⟩ (k_M_hears l dC dI cI cZ tt sd H.size (g_s p1.toNatClampNeg) r15 hf16) (va_cwS 1 hts gX8_square_X8_hears rfl rfl rfl (by decide +kernel) ⟨Nat.le_of_ble_eq_true rfl, Nat.le_of_ble_eq_true rfl⟩) (zpS hP hD hK hS hA hZ [] rfl rfl) rfl rfl hl.1 rfl (lv_room (Nat.le_of_ble_eq_true rfl)) dX8_square_81 ⟨Nat.zero_le _, Nat.zero_le _⟩) hP hD hS hA [] [0, 1, 2] [0, 1, 2] rfl rfl rfl (by decide) rfl rfl rfl (fun H locs hP hD hS => ?_)
      obtain ⟨rfl, rfl⟩ := zi2 he
      exact W.iret hx hb hr (fun t ht hW => ⟨⟨_, (), rfl, rfl, by rw [ht]; exact hP, va_K.moved hW.alike hK, hD⟩, hS.F ht⟩) hS.2.2 dX8_square_84
    have he := zif_f c13 he
    by_cases c17 : p2 = (4 : Int32)
    · have he := zif_t c17 he
      refine lv_tableIn (off := 71) (tgt := 85) hx hb dX8_square_14 (by rw [c17]; decide) (by rw [c17]; decide) (by rw [c17]; rfl) (by decide) ?_
      refine lv_aload_n hx hb dX8_square_85 rfl (lv_at hl 0 rfl) ?_
      refine lv_iload_n hx hb dX8_square_86 rfl (lv_at hl 1 rfl) ?_
      obtain ⟨r18, hf19, he⟩ := zb1_e he
      refine zc_i (wr := [(a_this_refused, .inl (cI, 7, .inl g_refused))]) (ws' := [(a_this, .inr (8, [.ref a_this_s, .ref a_this_image, .ref a_this_was, .int v_hasImage, .ref a_this_letters, .ref a_this_row, .ref a_this_refused, .int v_letterMany, .int v_rowMany, .int v_place, .ref a_this_numbers, .ref a_this_least, .ref a_this_stepsFrom, .ref a_this_most, .ref a_this_next, .ref a_this_otherSteps, .ref a_this_ahead, .ref a_this_now, .int v_seed])), (a_this_refused, .inl (cI, 7, .inl g_refused)), (a_this_s, .inl (cI, 39, .inl g_s))]) (va_runV (As := [.int p1]) (rest := []) ⟨hx, hb, hml, hown, hts⟩ (k_M_isTurned l dC dI cI cZ tt sd a_this a_this_s a_this_image a_this_was a_this_letters a_this_row a_this_refused a_this_numbers a_this_least a_this_stepsFrom a_this_most a_this_next a_this_otherSteps a_this_ahead a_this_now H.size v_hasImage v_letterMany v_rowMany v_place v_seed g_s p1 r18 hf19) (cwV 1 hts gX8_square_X8_isTurned rfl rfl rfl (by decide +kernel) ⟨Nat.le_of_ble_eq_true rfl, Nat.le_of_ble_eq_true rfl⟩) (zpV hP hD hK hS hA hZ [0, 2] rfl rfl 8 0 rfl rfl) rfl rfl hl.1 rfl (lv_room (Nat.le_of_ble_eq_true rfl)) dX8_square_87 ⟨Nat.zero_le _, Nat.zero_le _⟩) hP hD hS hA [0, 2] [1] [1, 0, 2] rfl rfl rfl (by decide) rfl rfl rfl (fun H locs hP hD hS => ?_)
      refine lv_if_eq (tgt := 97) hx hb dX8_square_90 (by decide) (fun c20 => ?_) (fun c20 => ?_)
      · have he := zif_t c20 he
        refine lv_iconst (v := (0 : Int32)) hx hb dX8_square_97 (by decide) ?_
        obtain ⟨rfl, rfl⟩ := zi2 he
        exact W.iret hx hb hr (fun t ht hW => ⟨⟨_, (), rfl, rfl, by rw [ht]; exact hP, va_K.moved hW.alike hK, hD⟩, hS.F ht⟩) hS.2.2 dX8_square_98
      · have he := zif_f c20 he
        refine lv_iconst (v := (1 : Int32)) hx hb dX8_square_93 (by decide) ?_
        refine lv_goto (tgt := 98) hx hb dX8_square_94 (by decide) ?_
        obtain ⟨rfl, rfl⟩ := zi2 he
        exact W.iret hx hb hr (fun t ht hW => ⟨⟨_, (), rfl, rfl, by rw [ht]; exact hP, va_K.moved hW.alike hK, hD⟩, hS.F ht⟩) hS.2.2 dX8_square_98
    have he := zif_f c17 he
    refine lv_tableOut (tgt := 99) hx hb dX8_square_14 (by have n0 := lv_neT (a := 0) c4 (by decide); have n1 := lv_neT (a := 1) c6 (by decide); have n2 := lv_neT (a := 2) c10 (by decide); have n3 := lv_neT (a := 3) c13 (by decide); have n4 := lv_neT (a := 4) c17 (by decide); omega) (by decide) ?_
    refine lv_aload_n hx hb dX8_square_99 rfl (lv_at hl 0 rfl) ?_
    refine lv_bipush (v := (-2 : Int32)) hx hb dX8_square_100 (by decide) ?_
    obtain ⟨r21, g_refused_22, hf23, he⟩ := zb2_e he
    refine zc_i (wr := [(a_this_s, .inl (cI, 39, .inl g_s))]) (ws' := [(a_this, .inr (8, [.ref a_this_s, .ref a_this_image, .ref a_this_was, .int v_hasImage, .ref a_this_letters, .ref a_this_row, .ref a_this_refused, .int v_letterMany, .int v_rowMany, .int v_place, .ref a_this_numbers, .ref a_this_least, .ref a_this_stepsFrom, .ref a_this_most, .ref a_this_next, .ref a_this_otherSteps, .ref a_this_ahead, .ref a_this_now, .int v_seed])), (a_this_refused, .inl (cI, 7, .inl g_refused_22)), (a_this_s, .inl (cI, 39, .inl g_s))]) (va_runV (As := [.int (-2 : Int32)]) (rest := []) ⟨hx, hb, hml, hown, hts⟩ (k_M_no l dC dI cI cZ tt sd a_this a_this_s a_this_image a_this_was a_this_letters a_this_row a_this_refused a_this_numbers a_this_least a_this_stepsFrom a_this_most a_this_next a_this_otherSteps a_this_ahead a_this_now H.size v_hasImage v_letterMany v_rowMany v_place v_seed g_refused (-2 : Int32) r21 g_refused_22 hf23) (cwV 1 hts gX8_square_X8_no rfl rfl rfl (by decide +kernel) ⟨Nat.le_of_ble_eq_true rfl, Nat.le_of_ble_eq_true rfl⟩) (zpV hP hD hK hS hA hZ [0, 1] rfl rfl 8 0 rfl rfl) rfl rfl hl.1 rfl (lv_room (Nat.le_of_ble_eq_true rfl)) dX8_square_102 ⟨Nat.zero_le _, Nat.zero_le _⟩) hP hD hS hA [0, 1] [2] [1, 2, 0] rfl rfl rfl (by decide) rfl rfl rfl (fun H locs hP hD hS => ?_)
    obtain ⟨rfl, rfl⟩ := zi2 he
    exact W.iret hx hb hr (fun t ht hW => ⟨⟨_, (), rfl, rfl, by rw [ht]; exact hP, va_K.moved hW.alike hK, hD⟩, hS.F ht⟩) hS.2.2 dX8_square_105
  · have he := zif_t c3 he
    refine lv_aload_n hx hb dX8_square_7 rfl (lv_at hl 0 rfl) ?_
    refine lv_iconst (v := (-1 : Int32)) hx hb dX8_square_8 (by decide) ?_
    obtain ⟨r24, g_refused_25, hf26, he⟩ := zb2_e he
    refine zc_i (wr := [(a_this_s, .inl (cI, 39, .inl g_s))]) (ws' := [(a_this, .inr (8, [.ref a_this_s, .ref a_this_image, .ref a_this_was, .int v_hasImage, .ref a_this_letters, .ref a_this_row, .ref a_this_refused, .int v_letterMany, .int v_rowMany, .int v_place, .ref a_this_numbers, .ref a_this_least, .ref a_this_stepsFrom, .ref a_this_most, .ref a_this_next, .ref a_this_otherSteps, .ref a_this_ahead, .ref a_this_now, .int v_seed])), (a_this_refused, .inl (cI, 7, .inl g_refused_25)), (a_this_s, .inl (cI, 39, .inl g_s))]) (va_runV (As := [.int (-1 : Int32)]) (rest := []) ⟨hx, hb, hml, hown, hts⟩ (k_M_no l dC dI cI cZ tt sd a_this a_this_s a_this_image a_this_was a_this_letters a_this_row a_this_refused a_this_numbers a_this_least a_this_stepsFrom a_this_most a_this_next a_this_otherSteps a_this_ahead a_this_now H.size v_hasImage v_letterMany v_rowMany v_place v_seed g_refused (-1 : Int32) r24 g_refused_25 hf26) (cwV 1 hts gX8_square_X8_no rfl rfl rfl (by decide +kernel) ⟨Nat.le_of_ble_eq_true rfl, Nat.le_of_ble_eq_true rfl⟩) (zpV hP hD hK hS hA hZ [0, 1] rfl rfl 8 0 rfl rfl) rfl rfl hl.1 rfl (lv_room (Nat.le_of_ble_eq_true rfl)) dX8_square_9 ⟨Nat.zero_le _, Nat.zero_le _⟩) hP hD hS hA [0, 1] [2] [1, 2, 0] rfl rfl rfl (by decide) rfl rfl rfl (fun H locs hP hD hS => ?_)
    obtain ⟨rfl, rfl⟩ := zi2 he
    exact W.iret hx hb hr (fun t ht hW => ⟨⟨_, (), rfl, rfl, by rw [ht]; exact hP, va_K.moved hW.alike hK, hD⟩, hS.F ht⟩) hS.2.2 dX8_square_12
set_option maxHeartbeats 4000000 in
set_option maxRecDepth 100000 in
theorem k_M_turnTo (l : Launch) (dC : Nat → ClassId) (dI : Nat → Nat → Nat) (cI : ClassId) (cZ : ClassId) (tt : Nat → Nat) (sd : Nat → Nat) (a_this : Nat) (a_this_s : Nat) (a_this_image : Nat) (a_this_was : Nat) (a_this_letters : Nat) (a_this_row : Nat) (a_this_refused : Nat) (a_this_numbers : Nat) (a_this_least : Nat) (a_this_stepsFrom : Nat) (a_this_most : Nat) (a_this_next : Nat) (a_this_otherSteps : Nat) (a_this_ahead : Nat) (a_this_now : Nat) (sz : Nat) (v_hasImage : Int32) (v_letterMany : Int32) (v_rowMany : Int32) (v_place : Int32) (v_seed : Int32) (g_refused : Nat → Int32) (g_s : Nat → Int32) (p1 : Int32) (p2 : Int32) (r0 : Int32) (w0 : Nat → Int32) (w1 : Nat → Int32) (hf : f_M_turnTo g_refused g_s p1 p2 = some (r0, w0, w1)) : Met l yX8_turnTo wsX8_turnTo ({ frames := 2, cells := 0, slots := 0, locals := 42 }) (zPre (dC, dI) vwCl [(cI, .int), (cZ, .boolean)] tt sd [.ref a_this, .int p1, .int p2] [(a_this, .inr (8, [.ref a_this_s, .ref a_this_image, .ref a_this_was, .int v_hasImage, .ref a_this_letters, .ref a_this_row, .ref a_this_refused, .int v_letterMany, .int v_rowMany, .int v_place, .ref a_this_numbers, .ref a_this_least, .ref a_this_stepsFrom, .ref a_this_most, .ref a_this_next, .ref a_this_otherSteps, .ref a_this_ahead, .ref a_this_now, .int v_seed])), (a_this_refused, .inl (cI, 7, .inl g_refused)), (a_this_s, .inl (cI, 39, .inl g_s))] sz) (zQi (dC, dI) vwCl [(cI, .int), (cZ, .boolean)] r0 [(a_this, .inr (8, [.ref a_this_s, .ref a_this_image, .ref a_this_was, .int v_hasImage, .ref a_this_letters, .ref a_this_row, .ref a_this_refused, .int v_letterMany, .int v_rowMany, .int v_place, .ref a_this_numbers, .ref a_this_least, .ref a_this_stepsFrom, .ref a_this_most, .ref a_this_next, .ref a_this_otherSteps, .ref a_this_ahead, .ref a_this_now, .int v_seed])), (a_this_refused, .inl (cI, 7, .inl w0)), (a_this_s, .inl (cI, 39, .inl w1))] (va_A [(a_this, .inr (8, [.ref a_this_s, .ref a_this_image, .ref a_this_was, .int v_hasImage, .ref a_this_letters, .ref a_this_row, .ref a_this_refused, .int v_letterMany, .int v_rowMany, .int v_place, .ref a_this_numbers, .ref a_this_least, .ref a_this_stepsFrom, .ref a_this_most, .ref a_this_next, .ref a_this_otherSteps, .ref a_this_ahead, .ref a_this_now, .int v_seed])), (a_this_refused, .inl (cI, 7, .inl g_refused)), (a_this_s, .inl (cI, 39, .inl g_s))] sz)) 0 0 (va_A [(a_this, .inr (8, [.ref a_this_s, .ref a_this_image, .ref a_this_was, .int v_hasImage, .ref a_this_letters, .ref a_this_row, .ref a_this_refused, .int v_letterMany, .int v_rowMany, .int v_place, .ref a_this_numbers, .ref a_this_least, .ref a_this_stepsFrom, .ref a_this_most, .ref a_this_next, .ref a_this_otherSteps, .ref a_this_ahead, .ref a_this_now, .int v_seed])), (a_this_refused, .inl (cI, 7, .inl g_refused)), (a_this_s, .inl (cI, 39, .inl g_s))] sz) := by
  refine Met.ofW (cc := cX8_turnTo) (maxL := 4) (ret := (some .int)) (by decide) rfl ?_
  intro p e s m args below meth c s₁ B hml hv
  obtain ⟨rfl, hsz, hP, hK, hD0, hZ⟩ := hv
  have hx := B.exec
  have hb := B.bytes
  have hr := B.returns
  have hts := atoms_spec (ws := wsX8_turnTo) B.pre
  have hown : s.vm.findClass RX8 = some m.cls := findClass_of_methodNamed B.named
  have hlocks := B.notSynchronized
  subst hsz
  have hD := hD0.self (sz := s.heap.size)
  generalize hAe : va_A [(a_this, .inr (8, [.ref a_this_s, .ref a_this_image, .ref a_this_was, .int v_hasImage, .ref a_this_letters, .ref a_this_row, .ref a_this_refused, .int v_letterMany, .int v_rowMany, .int v_place, .ref a_this_numbers, .ref a_this_least, .ref a_this_stepsFrom, .ref a_this_most, .ref a_this_next, .ref a_this_otherSteps, .ref a_this_ahead, .ref a_this_now, .int v_seed])), (a_this_refused, .inl (cI, 7, .inl g_refused)), (a_this_s, .inl (cI, 39, .inl g_s))] s.heap.size = A at hD hZ ⊢
  have hA : ∀ q : Nat, s.heap.size ≤ q → A q := fun q h => by rw [← hAe]; exact Or.inr h
  have hS : va_S A s.heap s.heap [] := va_S.rf
  have hP : va_P (dC, dI) vwCl [(a_this, .inr (8, [.ref a_this_s, .ref a_this_image, .ref a_this_was, .int v_hasImage, .ref a_this_letters, .ref a_this_row, .ref a_this_refused, .int v_letterMany, .int v_rowMany, .int v_place, .ref a_this_numbers, .ref a_this_least, .ref a_this_stepsFrom, .ref a_this_most, .ref a_this_next, .ref a_this_otherSteps, .ref a_this_ahead, .ref a_this_now, .int v_seed])), (a_this_refused, .inl (cI, 7, .inl g_refused)), (a_this_s, .inl (cI, 39, .inl g_s))] s.heap := hP
  have hl := lv_entry ([.ref a_this, .int p1, .int p2]) (n := 4) (Nat.le_of_ble_eq_true rfl)
  rw [lg_entry_eq]
  generalize (lg_sl ([.ref a_this, .int p1, .int p2]) ++ List.replicate (4 - (lg_sl ([.ref a_this, .int p1, .int p2])).length) Slot.unset).toArray = ls at hl ⊢
  have hl : lv_has ls 4 [(0, .ref a_this), (1, .int p1), (2, .int p2)] := hl
  have he := hf
  unfold f_M_turnTo at he
  refine zstart (D := (dC, dI)) (cl := vwCl) (A := A) (nL := 4) (fun WW hWW => ?_)
  refine lv_iload_n hx hb dX8_turnTo_0 rfl (lv_at hl 1 rfl) ?_
  obtain ⟨r1, hf2, he⟩ := zb1_e he
  refine zc_i (wr := [(a_this, .inr (8, [.ref a_this_s, .ref a_this_image, .ref a_this_was, .int v_hasImage, .ref a_this_letters, .ref a_this_row, .ref a_this_refused, .int v_letterMany, .int v_rowMany, .int v_place, .ref a_this_numbers, .ref a_this_least, .ref a_this_stepsFrom, .ref a_this_most, .ref a_this_next, .ref a_this_otherSteps, .ref a_this_ahead, .ref a_this_now, .int v_seed])), (a_this_refused, .inl (cI, 7, .inl g_refused)), (a_this_s, .inl (cI, 39, .inl g_s))]) (ws' := [(a_this, .inr (8, [.ref a_this_s, .ref a_this_image, .ref a_this_was, .int v_hasImage, .ref a_this_letters, .ref a_this_row, .ref a_this_refused, .int v_letterMany, .int v_rowMany, .int v_place, .ref a_this_numbers, .ref a_this_least, .ref a_this_stepsFrom, .ref a_this_most, .ref a_this_next, .ref a_this_otherSteps, .ref a_this_ahead, .ref a_this_now, .int v_seed])), (a_this_refused, .inl (cI, 7, .inl g_refused)), (a_this_s, .inl (cI, 39, .inl g_s))]) (va_runS (As := [.int p1]) (rest := []) ⟨hx, hb, hml, hown, hts⟩ (k_M_isSquare l dC dI cI cZ tt sd s.heap.size p1 r1 hf2) (va_cwS 1 hts gX8_turnTo_X8_isSquare rfl rfl rfl (by decide +kernel) ⟨Nat.le_of_ble_eq_true rfl, Nat.le_of_ble_eq_true rfl⟩) (zpS hP hD hK hS hA hZ [] rfl rfl) rfl rfl hl.1 rfl (lv_room (Nat.le_of_ble_eq_true rfl)) dX8_turnTo_1 ⟨Nat.zero_le _, Nat.zero_le _⟩) hP hD hS hA [] [0, 1, 2] [0, 1, 2] rfl rfl rfl (by decide) rfl rfl rfl (fun H locs hP hD hS => ?_)
  refine lv_if_ne (tgt := 13) hx hb dX8_turnTo_4 (by decide) (fun c3 => ?_) (fun c3 => ?_)
  · have he := zif_f c3 he
    refine lv_iload_n hx hb dX8_turnTo_13 rfl (lv_at hl 2 rfl) ?_
    refine lv_iconst (v := (0 : Int32)) hx hb dX8_turnTo_14 (by decide) ?_
    refine lv_iconst (v := (5 : Int32)) hx hb dX8_turnTo_15 (by decide) ?_
    obtain ⟨r4, hf5, he⟩ := zb1_e he
    refine zc_i (wr := [(a_this, .inr (8, [.ref a_this_s, .ref a_this_image, .ref a_this_was, .int v_hasImage, .ref a_this_letters, .ref a_this_row, .ref a_this_refused, .int v_letterMany, .int v_rowMany, .int v_place, .ref a_this_numbers, .ref a_this_least, .ref a_this_stepsFrom, .ref a_this_most, .ref a_this_next, .ref a_this_otherSteps, .ref a_this_ahead, .ref a_this_now, .int v_seed])), (a_this_refused, .inl (cI, 7, .inl g_refused)), (a_this_s, .inl (cI, 39, .inl g_s))]) (ws' := [(a_this, .inr (8, [.ref a_this_s, .ref a_this_image, .ref a_this_was, .int v_hasImage, .ref a_this_letters, .ref a_this_row, .ref a_this_refused, .int v_letterMany, .int v_rowMany, .int v_place, .ref a_this_numbers, .ref a_this_least, .ref a_this_stepsFrom, .ref a_this_most, .ref a_this_next, .ref a_this_otherSteps, .ref a_this_ahead, .ref a_this_now, .int v_seed])), (a_this_refused, .inl (cI, 7, .inl g_refused)), (a_this_s, .inl (cI, 39, .inl g_s))]) (va_runS (As := [.int p2, .int (0 : Int32), .int (5 : Int32)]) (rest := []) ⟨hx, hb, hml, hown, hts⟩ (k_M_isIn l dC dI cI cZ tt sd H.size p2 (0 : Int32) (5 : Int32) r4 hf5) (va_cwS 3 hts gX8_turnTo_X8_isIn rfl rfl rfl (by decide +kernel) ⟨Nat.le_of_ble_eq_true rfl, Nat.le_of_ble_eq_true rfl⟩) (zpS hP hD hK hS hA hZ [] rfl rfl) rfl rfl hl.1 rfl (lv_room (Nat.le_of_ble_eq_true rfl)) dX8_turnTo_16 ⟨Nat.zero_le _, Nat.zero_le _⟩) hP hD hS hA [] [0, 1, 2] [0, 1, 2] rfl rfl rfl (by decide) rfl rfl rfl (fun H locs hP hD hS => ?_)
    refine lv_if_ne (tgt := 29) hx hb dX8_turnTo_19 (by decide) (fun c6 => ?_) (fun c6 => ?_)
    · have he := zif_f c6 he
      refine lv_iload_n hx hb dX8_turnTo_29 rfl (lv_at hl 1 rfl) ?_
      refine lv_aload_n hx hb dX8_turnTo_30 rfl (lv_at hl 0 rfl) ?_
      refine va_get (D := (dC, dI)) (ci := 8) (v := .ref a_this_s) (C := RX8) (T := TX8) (N := 19) hx hb hts (by decide +kernel) hown hK hP 0 rfl rfl 0 (by decide) (hts (.fieldLink RX8 9 "LawOfCornersModel" "s" "[I") (by decide +kernel)) (fun _ h9 => h9) rfl dX8_turnTo_31 ?_
      refine lv_bipush (v := (36 : Int32)) hx hb dX8_turnTo_34 (by decide) ?_
      obtain ⟨hg7, he⟩ := zg_e he
      refine va_iald hx hb hK hP 2 0 rfl rfl hg7 dX8_turnTo_36 ?_
      refine zj1_w he (fun (_ : Unit) => WW [(a_this, .inr (8, [.ref a_this_s, .ref a_this_image, .ref a_this_was, .int v_hasImage, .ref a_this_letters, .ref a_this_row, .ref a_this_refused, .int v_letterMany, .int v_rowMany, .int v_place, .ref a_this_numbers, .ref a_this_least, .ref a_this_stepsFrom, .ref a_this_most, .ref a_this_next, .ref a_this_otherSteps, .ref a_this_ahead, .ref a_this_now, .int v_seed])), (a_this_refused, .inl (cI, 7, .inl g_refused)), (a_this_s, .inl (cI, 39, .inl g_s))] [(0, .ref a_this), (1, .int p1), (2, .int p2)] 54 []) (fun _ he => (hWW _ _ _ _).mpr (fun H locs ls hP hD hS hl => ?_)) (fun k12 hk12 he => ?_)
      · refine lv_aload_n hx hb dX8_turnTo_54 rfl (lv_at hl 0 rfl) ?_
        refine va_get (D := (dC, dI)) (ci := 8) (v := .ref a_this_s) (C := RX8) (T := TX8) (N := 19) hx hb hts (by decide +kernel) hown hK hP 0 rfl rfl 0 (by decide) (hts (.fieldLink RX8 9 "LawOfCornersModel" "s" "[I") (by decide +kernel)) (fun _ h9 => h9) rfl dX8_turnTo_55 ?_
        refine lv_iload_n hx hb dX8_turnTo_58 rfl (lv_at hl 1 rfl) ?_
        obtain ⟨hg8, he⟩ := zg_e he
        refine va_iald hx hb hK hP 2 0 rfl rfl hg8 dX8_turnTo_59 ?_
        refine lv_topi (fun x9 ex9 => ?_)
        have he := zn_e ex9 he
        refine lv_istore_n (lv' := [(3, .int x9), (0, .ref a_this), (1, .int p1), (2, .int p2)]) hx hb dX8_turnTo_60 rfl hl (by decide) rfl (fun ls hl => ?_)
        refine lv_aload_n hx hb dX8_turnTo_61 rfl (lv_at hl 1 rfl) ?_
        refine va_get (D := (dC, dI)) (ci := 8) (v := .ref a_this_s) (C := RX8) (T := TX8) (N := 19) hx hb hts (by decide +kernel) hown hK hP 0 rfl rfl 0 (by decide) (hts (.fieldLink RX8 9 "LawOfCornersModel" "s" "[I") (by decide +kernel)) (fun _ h9 => h9) rfl dX8_turnTo_62 ?_
        refine lv_iload_n hx hb dX8_turnTo_65 rfl (lv_at hl 2 rfl) ?_
        refine lv_iload_n hx hb dX8_turnTo_66 rfl (lv_at hl 3 rfl) ?_
        obtain ⟨hg10, he⟩ := zg_e he
        refine va_iast hx hb hK hP hD hS 2 0 rfl rfl hg10 dX8_turnTo_67 (fun H locs hP hD hS => ?_)
        obtain ⟨g11, eg11⟩ : ∃ y : Nat → Int32, y = upd g_s p1.toNatClampNeg p2 := ⟨_, rfl⟩
        have he := zn_e eg11 he
        have hP : va_P (dC, dI) vwCl [(a_this, .inr (8, [.ref a_this_s, .ref a_this_image, .ref a_this_was, .int v_hasImage, .ref a_this_letters, .ref a_this_row, .ref a_this_refused, .int v_letterMany, .int v_rowMany, .int v_place, .ref a_this_numbers, .ref a_this_least, .ref a_this_stepsFrom, .ref a_this_most, .ref a_this_next, .ref a_this_otherSteps, .ref a_this_ahead, .ref a_this_now, .int v_seed])), (a_this_refused, .inl (cI, 7, .inl g_refused)), (a_this_s, .inl (cI, 39, .inl g11))] H := by rw [eg11]; exact hP
        have hD : va_D A [(a_this, .inr (8, [.ref a_this_s, .ref a_this_image, .ref a_this_was, .int v_hasImage, .ref a_this_letters, .ref a_this_row, .ref a_this_refused, .int v_letterMany, .int v_rowMany, .int v_place, .ref a_this_numbers, .ref a_this_least, .ref a_this_stepsFrom, .ref a_this_most, .ref a_this_next, .ref a_this_otherSteps, .ref a_this_ahead, .ref a_this_now, .int v_seed])), (a_this_refused, .inl (cI, 7, .inl g_refused)), (a_this_s, .inl (cI, 39, .inl g11))] := by rw [eg11]; exact hD
        refine lv_iload_n hx hb dX8_turnTo_68 rfl (lv_at hl 0 rfl) ?_
        obtain ⟨rfl, rfl, rfl⟩ := zi3 he
        exact W.iret hx hb hr (fun t ht hW => ⟨⟨_, (), rfl, rfl, by rw [ht]; exact hP, va_K.moved hW.alike hK, hD⟩, hS.F ht⟩) hS.2.2 dX8_turnTo_69
      refine lv_icmp_ne (tgt := 54) hx hb dX8_turnTo_37 (by decide) (fun c13 => ?_) (fun c13 => ?_)
      · have he := zif_f c13 he
        exact (hWW _ _ _ _).mp (hk12 () he) _ _ _ hP hD hS (lv_sub hl [0, 1, 2] rfl)
      · have he := zif_t c13 he
        refine lv_iload_n hx hb dX8_turnTo_40 rfl (lv_at hl 2 rfl) ?_
        obtain ⟨r14, hf15, he⟩ := zb1_e he
        refine zc_i (wr := [(a_this, .inr (8, [.ref a_this_s, .ref a_this_image, .ref a_this_was, .int v_hasImage, .ref a_this_letters, .ref a_this_row, .ref a_this_refused, .int v_letterMany, .int v_rowMany, .int v_place, .ref a_this_numbers, .ref a_this_least, .ref a_this_stepsFrom, .ref a_this_most, .ref a_this_next, .ref a_this_otherSteps, .ref a_this_ahead, .ref a_this_now, .int v_seed])), (a_this_refused, .inl (cI, 7, .inl g_refused)), (a_this_s, .inl (cI, 39, .inl g_s))]) (ws' := [(a_this, .inr (8, [.ref a_this_s, .ref a_this_image, .ref a_this_was, .int v_hasImage, .ref a_this_letters, .ref a_this_row, .ref a_this_refused, .int v_letterMany, .int v_rowMany, .int v_place, .ref a_this_numbers, .ref a_this_least, .ref a_this_stepsFrom, .ref a_this_most, .ref a_this_next, .ref a_this_otherSteps, .ref a_this_ahead, .ref a_this_now, .int v_seed])), (a_this_refused, .inl (cI, 7, .inl g_refused)), (a_this_s, .inl (cI, 39, .inl g_s))]) (va_runS (As := [.int p2]) (rest := []) ⟨hx, hb, hml, hown, hts⟩ (k_M_canStand l dC dI cI cZ tt sd H.size p2 r14 hf15) (va_cwS 1 hts gX8_turnTo_X8_canStand rfl rfl rfl (by decide +kernel) ⟨Nat.le_of_ble_eq_true rfl, Nat.le_of_ble_eq_true rfl⟩) (zpS hP hD hK hS hA hZ [] rfl rfl) rfl rfl hl.1 rfl (lv_room (Nat.le_of_ble_eq_true rfl)) dX8_turnTo_41 ⟨Nat.zero_le _, Nat.zero_le _⟩) hP hD hS hA [] [0, 1, 2] [0, 1, 2] rfl rfl rfl (by decide) rfl rfl rfl (fun H locs hP hD hS => ?_)
        refine lv_if_ne (tgt := 54) hx hb dX8_turnTo_44 (by decide) (fun c16 => ?_) (fun c16 => ?_)
        · have he := zif_f c16 he
          exact (hWW _ _ _ _).mp (hk12 () he) _ _ _ hP hD hS (lv_sub hl [0, 1, 2] rfl)
        · have he := zif_t c16 he
          refine lv_aload_n hx hb dX8_turnTo_47 rfl (lv_at hl 0 rfl) ?_
          refine lv_bipush (v := (-3 : Int32)) hx hb dX8_turnTo_48 (by decide) ?_
          obtain ⟨r17, g_refused_18, hf19, he⟩ := zb2_e he
          refine zc_i (wr := [(a_this_s, .inl (cI, 39, .inl g_s))]) (ws' := [(a_this, .inr (8, [.ref a_this_s, .ref a_this_image, .ref a_this_was, .int v_hasImage, .ref a_this_letters, .ref a_this_row, .ref a_this_refused, .int v_letterMany, .int v_rowMany, .int v_place, .ref a_this_numbers, .ref a_this_least, .ref a_this_stepsFrom, .ref a_this_most, .ref a_this_next, .ref a_this_otherSteps, .ref a_this_ahead, .ref a_this_now, .int v_seed])), (a_this_refused, .inl (cI, 7, .inl g_refused_18)), (a_this_s, .inl (cI, 39, .inl g_s))]) (va_runV (As := [.int (-3 : Int32)]) (rest := []) ⟨hx, hb, hml, hown, hts⟩ (k_M_no l dC dI cI cZ tt sd a_this a_this_s a_this_image a_this_was a_this_letters a_this_row a_this_refused a_this_numbers a_this_least a_this_stepsFrom a_this_most a_this_next a_this_otherSteps a_this_ahead a_this_now H.size v_hasImage v_letterMany v_rowMany v_place v_seed g_refused (-3 : Int32) r17 g_refused_18 hf19) (cwV 1 hts gX8_turnTo_X8_no rfl rfl rfl (by decide +kernel) ⟨Nat.le_of_ble_eq_true rfl, Nat.le_of_ble_eq_true rfl⟩) (zpV hP hD hK hS hA hZ [0, 1] rfl rfl 8 0 rfl rfl) rfl rfl hl.1 rfl (lv_room (Nat.le_of_ble_eq_true rfl)) dX8_turnTo_50 ⟨Nat.zero_le _, Nat.zero_le _⟩) hP hD hS hA [0, 1] [2] [1, 2, 0] rfl rfl rfl (by decide) rfl rfl rfl (fun H locs hP hD hS => ?_)
          obtain ⟨rfl, rfl, rfl⟩ := zi3 he
          exact W.iret hx hb hr (fun t ht hW => ⟨⟨_, (), rfl, rfl, by rw [ht]; exact hP, va_K.moved hW.alike hK, hD⟩, hS.F ht⟩) hS.2.2 dX8_turnTo_53
    · have he := zif_t c6 he
      refine lv_aload_n hx hb dX8_turnTo_22 rfl (lv_at hl 0 rfl) ?_
      refine lv_bipush (v := (-2 : Int32)) hx hb dX8_turnTo_23 (by decide) ?_
      obtain ⟨r20, g_refused_21, hf22, he⟩ := zb2_e he
      refine zc_i (wr := [(a_this_s, .inl (cI, 39, .inl g_s))]) (ws' := [(a_this, .inr (8, [.ref a_this_s, .ref a_this_image, .ref a_this_was, .int v_hasImage, .ref a_this_letters, .ref a_this_row, .ref a_this_refused, .int v_letterMany, .int v_rowMany, .int v_place, .ref a_this_numbers, .ref a_this_least, .ref a_this_stepsFrom, .ref a_this_most, .ref a_this_next, .ref a_this_otherSteps, .ref a_this_ahead, .ref a_this_now, .int v_seed])), (a_this_refused, .inl (cI, 7, .inl g_refused_21)), (a_this_s, .inl (cI, 39, .inl g_s))]) (va_runV (As := [.int (-2 : Int32)]) (rest := []) ⟨hx, hb, hml, hown, hts⟩ (k_M_no l dC dI cI cZ tt sd a_this a_this_s a_this_image a_this_was a_this_letters a_this_row a_this_refused a_this_numbers a_this_least a_this_stepsFrom a_this_most a_this_next a_this_otherSteps a_this_ahead a_this_now H.size v_hasImage v_letterMany v_rowMany v_place v_seed g_refused (-2 : Int32) r20 g_refused_21 hf22) (cwV 1 hts gX8_turnTo_X8_no rfl rfl rfl (by decide +kernel) ⟨Nat.le_of_ble_eq_true rfl, Nat.le_of_ble_eq_true rfl⟩) (zpV hP hD hK hS hA hZ [0, 1] rfl rfl 8 0 rfl rfl) rfl rfl hl.1 rfl (lv_room (Nat.le_of_ble_eq_true rfl)) dX8_turnTo_25 ⟨Nat.zero_le _, Nat.zero_le _⟩) hP hD hS hA [0, 1] [2] [1, 2, 0] rfl rfl rfl (by decide) rfl rfl rfl (fun H locs hP hD hS => ?_)
      obtain ⟨rfl, rfl, rfl⟩ := zi3 he
      exact W.iret hx hb hr (fun t ht hW => ⟨⟨_, (), rfl, rfl, by rw [ht]; exact hP, va_K.moved hW.alike hK, hD⟩, hS.F ht⟩) hS.2.2 dX8_turnTo_28
  · have he := zif_t c3 he
    refine lv_aload_n hx hb dX8_turnTo_7 rfl (lv_at hl 0 rfl) ?_
    refine lv_iconst (v := (-1 : Int32)) hx hb dX8_turnTo_8 (by decide) ?_
    obtain ⟨r23, g_refused_24, hf25, he⟩ := zb2_e he
    refine zc_i (wr := [(a_this_s, .inl (cI, 39, .inl g_s))]) (ws' := [(a_this, .inr (8, [.ref a_this_s, .ref a_this_image, .ref a_this_was, .int v_hasImage, .ref a_this_letters, .ref a_this_row, .ref a_this_refused, .int v_letterMany, .int v_rowMany, .int v_place, .ref a_this_numbers, .ref a_this_least, .ref a_this_stepsFrom, .ref a_this_most, .ref a_this_next, .ref a_this_otherSteps, .ref a_this_ahead, .ref a_this_now, .int v_seed])), (a_this_refused, .inl (cI, 7, .inl g_refused_24)), (a_this_s, .inl (cI, 39, .inl g_s))]) (va_runV (As := [.int (-1 : Int32)]) (rest := []) ⟨hx, hb, hml, hown, hts⟩ (k_M_no l dC dI cI cZ tt sd a_this a_this_s a_this_image a_this_was a_this_letters a_this_row a_this_refused a_this_numbers a_this_least a_this_stepsFrom a_this_most a_this_next a_this_otherSteps a_this_ahead a_this_now H.size v_hasImage v_letterMany v_rowMany v_place v_seed g_refused (-1 : Int32) r23 g_refused_24 hf25) (cwV 1 hts gX8_turnTo_X8_no rfl rfl rfl (by decide +kernel) ⟨Nat.le_of_ble_eq_true rfl, Nat.le_of_ble_eq_true rfl⟩) (zpV hP hD hK hS hA hZ [0, 1] rfl rfl 8 0 rfl rfl) rfl rfl hl.1 rfl (lv_room (Nat.le_of_ble_eq_true rfl)) dX8_turnTo_9 ⟨Nat.zero_le _, Nat.zero_le _⟩) hP hD hS hA [0, 1] [2] [1, 2, 0] rfl rfl rfl (by decide) rfl rfl rfl (fun H locs hP hD hS => ?_)
    obtain ⟨rfl, rfl, rfl⟩ := zi3 he
    exact W.iret hx hb hr (fun t ht hW => ⟨⟨_, (), rfl, rfl, by rw [ht]; exact hP, va_K.moved hW.alike hK, hD⟩, hS.F ht⟩) hS.2.2 dX8_turnTo_12
