set_option maxHeartbeats 4000000 in
set_option maxRecDepth 100000 in
theorem k_M_yards (l : Launch) (dC : Nat → ClassId) (dI : Nat → Nat → Nat) (cI : ClassId) (cZ : ClassId) (tt : Nat → Nat) (sd : Nat → Nat) (a_this : Nat) (a_this_s : Nat) (a_this_image : Nat) (a_this_was : Nat) (a_this_letters : Nat) (a_this_row : Nat) (a_this_refused : Nat) (a_this_numbers : Nat) (a_this_least : Nat) (a_this_stepsFrom : Nat) (a_this_most : Nat) (a_this_next : Nat) (a_this_otherSteps : Nat) (a_this_ahead : Nat) (a_this_now : Nat) (sz : Nat) (v_hasImage : Int32) (v_letterMany : Int32) (v_rowMany : Int32) (v_place : Int32) (v_seed : Int32) (g_refused : Nat → Int32) (g_s : Nat → Int32) (g_stepsFrom : Nat → Int32) (p1 : Int32) (r0 : Int32) (w0 : Nat → Int32) (w1 : Nat → Int32) (hf : f_M_yards g_refused g_s g_stepsFrom p1 = some (r0, w0, w1)) : Met l yX8_yards wsX8_yards ({ frames := 4, cells := 0, slots := 0, locals := 90 }) (zPre (dC, dI) vwCl [(cI, .int), (cZ, .boolean)] tt sd [.ref a_this, .int p1] [(a_this, .inr (8, [.ref a_this_s, .ref a_this_image, .ref a_this_was, .int v_hasImage, .ref a_this_letters, .ref a_this_row, .ref a_this_refused, .int v_letterMany, .int v_rowMany, .int v_place, .ref a_this_numbers, .ref a_this_least, .ref a_this_stepsFrom, .ref a_this_most, .ref a_this_next, .ref a_this_otherSteps, .ref a_this_ahead, .ref a_this_now, .int v_seed])), (a_this_refused, .inl (cI, 7, .inl g_refused)), (a_this_s, .inl (cI, 39, .inl g_s)), (a_this_stepsFrom, .inl (cI, 36, .inl g_stepsFrom))] sz) (zQi (dC, dI) vwCl [(cI, .int), (cZ, .boolean)] r0 [(a_this, .inr (8, [.ref a_this_s, .ref a_this_image, .ref a_this_was, .int v_hasImage, .ref a_this_letters, .ref a_this_row, .ref a_this_refused, .int v_letterMany, .int v_rowMany, .int v_place, .ref a_this_numbers, .ref a_this_least, .ref a_this_stepsFrom, .ref a_this_most, .ref a_this_next, .ref a_this_otherSteps, .ref a_this_ahead, .ref a_this_now, .int v_seed])), (a_this_refused, .inl (cI, 7, .inl w0)), (a_this_s, .inl (cI, 39, .inl g_s)), (a_this_stepsFrom, .inl (cI, 36, .inl w1))] (va_A [(a_this, .inr (8, [.ref a_this_s, .ref a_this_image, .ref a_this_was, .int v_hasImage, .ref a_this_letters, .ref a_this_row, .ref a_this_refused, .int v_letterMany, .int v_rowMany, .int v_place, .ref a_this_numbers, .ref a_this_least, .ref a_this_stepsFrom, .ref a_this_most, .ref a_this_next, .ref a_this_otherSteps, .ref a_this_ahead, .ref a_this_now, .int v_seed])), (a_this_refused, .inl (cI, 7, .inl g_refused)), (a_this_s, .inl (cI, 39, .inl g_s)), (a_this_stepsFrom, .inl (cI, 36, .inl g_stepsFrom))] sz)) 0 0 (va_A [(a_this, .inr (8, [.ref a_this_s, .ref a_this_image, .ref a_this_was, .int v_hasImage, .ref a_this_letters, .ref a_this_row, .ref a_this_refused, .int v_letterMany, .int v_rowMany, .int v_place, .ref a_this_numbers, .ref a_this_least, .ref a_this_stepsFrom, .ref a_this_most, .ref a_this_next, .ref a_this_otherSteps, .ref a_this_ahead, .ref a_this_now, .int v_seed])), (a_this_refused, .inl (cI, 7, .inl g_refused)), (a_this_s, .inl (cI, 39, .inl g_s)), (a_this_stepsFrom, .inl (cI, 36, .inl g_stepsFrom))] sz) := by
  refine Met.ofW (cc := cX8_yards) (maxL := 4) (ret := (some .int)) (by decide) rfl ?_
  intro p e s m args below meth c s₁ B hml hv
  obtain ⟨rfl, hsz, hP, hK, hD0, hZ⟩ := hv
  have hx := B.exec
  have hb := B.bytes
  have hr := B.returns
  have hts := atoms_spec (ws := wsX8_yards) B.pre
  have hown : s.vm.findClass RX8 = some m.cls := findClass_of_methodNamed B.named
  have hlocks := B.notSynchronized
  subst hsz
  have hD := hD0.self (sz := s.heap.size)
  generalize hAe : va_A [(a_this, .inr (8, [.ref a_this_s, .ref a_this_image, .ref a_this_was, .int v_hasImage, .ref a_this_letters, .ref a_this_row, .ref a_this_refused, .int v_letterMany, .int v_rowMany, .int v_place, .ref a_this_numbers, .ref a_this_least, .ref a_this_stepsFrom, .ref a_this_most, .ref a_this_next, .ref a_this_otherSteps, .ref a_this_ahead, .ref a_this_now, .int v_seed])), (a_this_refused, .inl (cI, 7, .inl g_refused)), (a_this_s, .inl (cI, 39, .inl g_s)), (a_this_stepsFrom, .inl (cI, 36, .inl g_stepsFrom))] s.heap.size = A at hD hZ ⊢
  have hA : ∀ q : Nat, s.heap.size ≤ q → A q := fun q h => by rw [← hAe]; exact Or.inr h
  have hS : va_S A s.heap s.heap [] := va_S.rf
  have hP : va_P (dC, dI) vwCl [(a_this, .inr (8, [.ref a_this_s, .ref a_this_image, .ref a_this_was, .int v_hasImage, .ref a_this_letters, .ref a_this_row, .ref a_this_refused, .int v_letterMany, .int v_rowMany, .int v_place, .ref a_this_numbers, .ref a_this_least, .ref a_this_stepsFrom, .ref a_this_most, .ref a_this_next, .ref a_this_otherSteps, .ref a_this_ahead, .ref a_this_now, .int v_seed])), (a_this_refused, .inl (cI, 7, .inl g_refused)), (a_this_s, .inl (cI, 39, .inl g_s)), (a_this_stepsFrom, .inl (cI, 36, .inl g_stepsFrom))] s.heap := hP
  have hl := lv_entry ([.ref a_this, .int p1]) (n := 4) (Nat.le_of_ble_eq_true rfl)
  rw [lg_entry_eq]
  generalize (lg_sl ([.ref a_this, .int p1]) ++ List.replicate (4 - (lg_sl ([.ref a_this, .int p1])).length) Slot.unset).toArray = ls at hl ⊢
  have hl : lv_has ls 4 [(0, .ref a_this), (1, .int p1)] := hl
  have he := hf
  unfold f_M_yards at he
  refine zstart (D := (dC, dI)) (cl := vwCl) (A := A) (nL := 4) (fun WW hWW => ?_)
  refine lv_iload_n hx hb dX8_yards_0 rfl (lv_at hl 1 rfl) ?_
  obtain ⟨r1, hf2, he⟩ := zb1_e he
  refine zc_i (wr := [(a_this, .inr (8, [.ref a_this_s, .ref a_this_image, .ref a_this_was, .int v_hasImage, .ref a_this_letters, .ref a_this_row, .ref a_this_refused, .int v_letterMany, .int v_rowMany, .int v_place, .ref a_this_numbers, .ref a_this_least, .ref a_this_stepsFrom, .ref a_this_most, .ref a_this_next, .ref a_this_otherSteps, .ref a_this_ahead, .ref a_this_now, .int v_seed])), (a_this_refused, .inl (cI, 7, .inl g_refused)), (a_this_s, .inl (cI, 39, .inl g_s)), (a_this_stepsFrom, .inl (cI, 36, .inl g_stepsFrom))]) (ws' := [(a_this, .inr (8, [.ref a_this_s, .ref a_this_image, .ref a_this_was, .int v_hasImage, .ref a_this_letters, .ref a_this_row, .ref a_this_refused, .int v_letterMany, .int v_rowMany, .int v_place, .ref a_this_numbers, .ref a_this_least, .ref a_this_stepsFrom, .ref a_this_most, .ref a_this_next, .ref a_this_otherSteps, .ref a_this_ahead, .ref a_this_now, .int v_seed])), (a_this_refused, .inl (cI, 7, .inl g_refused)), (a_this_s, .inl (cI, 39, .inl g_s)), (a_this_stepsFrom, .inl (cI, 36, .inl g_stepsFrom))]) (va_runS (As := [.int p1]) (rest := []) ⟨hx, hb, hml, hown, hts⟩ (k_M_isSquare l dC dI cI cZ tt sd s.heap.size p1 r1 hf2) (va_cwS 1 hts gX8_yards_X8_isSquare rfl rfl rfl (by decide +kernel) ⟨Nat.le_of_ble_eq_true rfl, Nat.le_of_ble_eq_true rfl⟩) (zpS hP hD hK hS hA hZ [] rfl rfl) rfl rfl hl.1 rfl (lv_room (Nat.le_of_ble_eq_true rfl)) dX8_yards_1 ⟨Nat.zero_le _, Nat.zero_le _⟩) hP hD hS hA [] [0, 1, 2, 3] [0, 1, 2, 3] rfl rfl rfl (by decide) rfl rfl rfl (fun H locs hP hD hS => ?_)
  refine lv_if_ne (tgt := 13) hx hb dX8_yards_4 (by decide) (fun c3 => ?_) (fun c3 => ?_)
  · have he := zif_f c3 he
    refine lv_aload_n hx hb dX8_yards_13 rfl (lv_at hl 0 rfl) ?_
    refine lv_iload_n hx hb dX8_yards_14 rfl (lv_at hl 1 rfl) ?_
    obtain ⟨g_stepsFrom_4, hf5, he⟩ := zb1_e he
    refine zc_v (wr := [(a_this_refused, .inl (cI, 7, .inl g_refused))]) (ws' := [(a_this, .inr (8, [.ref a_this_s, .ref a_this_image, .ref a_this_was, .int v_hasImage, .ref a_this_letters, .ref a_this_row, .ref a_this_refused, .int v_letterMany, .int v_rowMany, .int v_place, .ref a_this_numbers, .ref a_this_least, .ref a_this_stepsFrom, .ref a_this_most, .ref a_this_next, .ref a_this_otherSteps, .ref a_this_ahead, .ref a_this_now, .int v_seed])), (a_this_refused, .inl (cI, 7, .inl g_refused)), (a_this_s, .inl (cI, 39, .inl g_s)), (a_this_stepsFrom, .inl (cI, 36, .inl g_stepsFrom_4))]) (va_runV (As := [.int p1]) (rest := []) ⟨hx, hb, hml, hown, hts⟩ (k_M_stepsAll l dC dI cI cZ tt sd a_this a_this_s a_this_image a_this_was a_this_letters a_this_row a_this_refused a_this_numbers a_this_least a_this_stepsFrom a_this_most a_this_next a_this_otherSteps a_this_ahead a_this_now H.size v_hasImage v_letterMany v_rowMany v_place v_seed g_s g_stepsFrom p1 g_stepsFrom_4 hf5) (cwV 1 hts gX8_yards_X8_stepsAll rfl rfl rfl (by decide +kernel) ⟨Nat.le_of_ble_eq_true rfl, Nat.le_of_ble_eq_true rfl⟩) (zpV hP hD hK hS hA hZ [0, 2, 3] rfl rfl 8 0 rfl rfl) rfl rfl hl.1 rfl (lv_room (Nat.le_of_ble_eq_true rfl)) dX8_yards_15 ⟨Nat.zero_le _, Nat.zero_le _⟩) hP hD hS hA [0, 2, 3] [1] [1, 0, 2, 3] rfl rfl rfl (by decide) rfl rfl rfl (fun H locs hP hD hS => ?_)
    refine lv_ldc (v := (1000000000 : Int32)) hx hb hown (hts (.constant RX8 140 (1000000000 : Int32)) (by decide +kernel)) dX8_yards_18 ?_
    refine lv_istore_n (lv' := [(2, .int (1000000000 : Int32)), (0, .ref a_this), (1, .int p1)]) hx hb dX8_yards_20 rfl hl (by decide) rfl (fun ls hl => ?_)
    refine lv_iconst (v := (0 : Int32)) hx hb dX8_yards_21 (by decide) ?_
    refine lv_istore_n (lv' := [(3, .int (0 : Int32)), (2, .int (1000000000 : Int32)), (0, .ref a_this), (1, .int p1)]) hx hb dX8_yards_22 rfl hl (by decide) rfl (fun ls hl => ?_)
    refine zj1_w he (fun (l2_6 : Int32) => WW [(a_this, .inr (8, [.ref a_this_s, .ref a_this_image, .ref a_this_was, .int v_hasImage, .ref a_this_letters, .ref a_this_row, .ref a_this_refused, .int v_letterMany, .int v_rowMany, .int v_place, .ref a_this_numbers, .ref a_this_least, .ref a_this_stepsFrom, .ref a_this_most, .ref a_this_next, .ref a_this_otherSteps, .ref a_this_ahead, .ref a_this_now, .int v_seed])), (a_this_refused, .inl (cI, 7, .inl g_refused)), (a_this_s, .inl (cI, 39, .inl g_s)), (a_this_stepsFrom, .inl (cI, 36, .inl g_stepsFrom_4))] [(2, .int l2_6)] 60 []) (fun l2_6 he => (hWW _ _ _ _).mpr (fun H locs ls hP hD hS hl => ?_)) (fun k9 hk9 he => ?_)
    · refine lv_iload_n hx hb dX8_yards_60 rfl (lv_at hl 0 rfl) ?_
      obtain ⟨r7, hf8, he⟩ := zb1_e he
      refine zc_i (wr := [(a_this, .inr (8, [.ref a_this_s, .ref a_this_image, .ref a_this_was, .int v_hasImage, .ref a_this_letters, .ref a_this_row, .ref a_this_refused, .int v_letterMany, .int v_rowMany, .int v_place, .ref a_this_numbers, .ref a_this_least, .ref a_this_stepsFrom, .ref a_this_most, .ref a_this_next, .ref a_this_otherSteps, .ref a_this_ahead, .ref a_this_now, .int v_seed])), (a_this_refused, .inl (cI, 7, .inl g_refused)), (a_this_s, .inl (cI, 39, .inl g_s)), (a_this_stepsFrom, .inl (cI, 36, .inl g_stepsFrom_4))]) (ws' := [(a_this, .inr (8, [.ref a_this_s, .ref a_this_image, .ref a_this_was, .int v_hasImage, .ref a_this_letters, .ref a_this_row, .ref a_this_refused, .int v_letterMany, .int v_rowMany, .int v_place, .ref a_this_numbers, .ref a_this_least, .ref a_this_stepsFrom, .ref a_this_most, .ref a_this_next, .ref a_this_otherSteps, .ref a_this_ahead, .ref a_this_now, .int v_seed])), (a_this_refused, .inl (cI, 7, .inl g_refused)), (a_this_s, .inl (cI, 39, .inl g_s)), (a_this_stepsFrom, .inl (cI, 36, .inl g_stepsFrom_4))]) (va_runS (As := [.int l2_6]) (rest := []) ⟨hx, hb, hml, hown, hts⟩ (k_M_orNone l dC dI cI cZ tt sd H.size l2_6 r7 hf8) (va_cwS 1 hts gX8_yards_X8_orNone rfl rfl rfl (by decide +kernel) ⟨Nat.le_of_ble_eq_true rfl, Nat.le_of_ble_eq_true rfl⟩) (zpS hP hD hK hS hA hZ [] rfl rfl) rfl rfl hl.1 rfl (lv_room (Nat.le_of_ble_eq_true rfl)) dX8_yards_61 ⟨Nat.zero_le _, Nat.zero_le _⟩) hP hD hS hA [] [0, 1, 2, 3] [0, 1, 2, 3] rfl rfl rfl (by decide) rfl rfl rfl (fun H locs hP hD hS => ?_)
      obtain ⟨rfl, rfl, rfl⟩ := zi3 he
      exact W.iret hx hb hr (fun t ht hW => ⟨⟨_, (), rfl, rfl, by rw [ht]; exact hP, va_K.moved hW.alike hK, hD⟩, hS.F ht⟩) hS.2.2 dX8_yards_64
    refine (hWW _ _ _ _).mp (zl2_w he (fun (l2_10 : Int32) (l3_11 : Int32) => WW [(a_this, .inr (8, [.ref a_this_s, .ref a_this_image, .ref a_this_was, .int v_hasImage, .ref a_this_letters, .ref a_this_row, .ref a_this_refused, .int v_letterMany, .int v_rowMany, .int v_place, .ref a_this_numbers, .ref a_this_least, .ref a_this_stepsFrom, .ref a_this_most, .ref a_this_next, .ref a_this_otherSteps, .ref a_this_ahead, .ref a_this_now, .int v_seed])), (a_this_refused, .inl (cI, 7, .inl g_refused)), (a_this_s, .inl (cI, 39, .inl g_s)), (a_this_stepsFrom, .inl (cI, 36, .inl g_stepsFrom_4))] [(0, .ref a_this), (2, .int l2_10), (3, .int l3_11)] 23 []) (fun l2_10 l3_11 again12 hagain12 he => (hWW _ _ _ _).mpr (fun H locs ls hP hD hS hl => ?_))) _ _ _ hP hD hS (lv_sub hl [2, 1, 0] rfl)
    refine lv_iload_n hx hb dX8_yards_23 rfl (lv_at hl 2 rfl) ?_
    refine lv_bipush (v := (36 : Int32)) hx hb dX8_yards_24 (by decide) ?_
    refine lv_icmp_ge (tgt := 60) hx hb dX8_yards_26 (by decide) (fun c13 => ?_) (fun c13 => ?_)
    · have he := zif_t c13 he
      exact (hWW _ _ _ _).mp (hk9 l2_10 he) _ _ _ hP hD hS (lv_sub hl [1] rfl)
    · have he := zif_f c13 he
      refine lv_aload_n hx hb dX8_yards_29 rfl (lv_at hl 0 rfl) ?_
      refine va_get (D := (dC, dI)) (ci := 8) (v := .ref a_this_stepsFrom) (C := RX8) (T := TX8) (N := 19) hx hb hts (by decide +kernel) hown hK hP 0 rfl rfl 12 (by decide) (hts (.fieldLink RX8 34 "LawOfCornersModel" "stepsFrom" "[I") (by decide +kernel)) (fun _ h9 => h9) rfl dX8_yards_30 ?_
      refine lv_iload_n hx hb dX8_yards_33 rfl (lv_at hl 2 rfl) ?_
      obtain ⟨hg14, he⟩ := zg_e he
      refine va_iald hx hb hK hP 3 0 rfl rfl hg14 dX8_yards_34 ?_
      refine lv_iload_n hx hb dX8_yards_35 rfl (lv_at hl 1 rfl) ?_
      refine zj1_w he (fun (l2_15 : Int32) => WW [(a_this, .inr (8, [.ref a_this_s, .ref a_this_image, .ref a_this_was, .int v_hasImage, .ref a_this_letters, .ref a_this_row, .ref a_this_refused, .int v_letterMany, .int v_rowMany, .int v_place, .ref a_this_numbers, .ref a_this_least, .ref a_this_stepsFrom, .ref a_this_most, .ref a_this_next, .ref a_this_otherSteps, .ref a_this_ahead, .ref a_this_now, .int v_seed])), (a_this_refused, .inl (cI, 7, .inl g_refused)), (a_this_s, .inl (cI, 39, .inl g_s)), (a_this_stepsFrom, .inl (cI, 36, .inl g_stepsFrom_4))] [(0, .ref a_this), (2, .int l2_15), (3, .int l3_11)] 54 []) (fun l2_15 he => (hWW _ _ _ _).mpr (fun H locs ls hP hD hS hl => ?_)) (fun k17 hk17 he => ?_)
      · obtain ⟨x16, ex16⟩ : ∃ y : Int32, y = l3_11 + (1 : Int32) := ⟨_, rfl⟩
        have he := zn_e ex16 he
        refine lv_iinc (v := x16) (lv' := [(3, .int x16), (0, .ref a_this), (2, .int l2_15)]) hx hb dX8_yards_54 hl (k := 2) rfl (by rw [ex16]; rfl) (by decide) rfl (fun ls hl => ?_)
        refine lv_goto (tgt := 23) hx hb dX8_yards_57 (by decide) ?_
        exact (hWW _ _ _ _).mp (hagain12 l2_15 x16 he) _ _ _ hP hD hS (lv_sub hl [1, 2, 0] rfl)
      refine lv_icmp_ge (tgt := 54) hx hb dX8_yards_36 (by decide) (fun c18 => ?_) (fun c18 => ?_)
      · have he := zif_t c18 he
        exact (hWW _ _ _ _).mp (hk17 l2_10 he) _ _ _ hP hD hS (lv_sub hl [0, 1, 2] rfl)
      · have he := zif_f c18 he
        refine lv_aload_n hx hb dX8_yards_39 rfl (lv_at hl 0 rfl) ?_
        refine lv_iload_n hx hb dX8_yards_40 rfl (lv_at hl 2 rfl) ?_
        obtain ⟨r19, hf20, he⟩ := zb1_e he
        refine zc_i (wr := [(a_this_refused, .inl (cI, 7, .inl g_refused)), (a_this_stepsFrom, .inl (cI, 36, .inl g_stepsFrom_4))]) (ws' := [(a_this, .inr (8, [.ref a_this_s, .ref a_this_image, .ref a_this_was, .int v_hasImage, .ref a_this_letters, .ref a_this_row, .ref a_this_refused, .int v_letterMany, .int v_rowMany, .int v_place, .ref a_this_numbers, .ref a_this_least, .ref a_this_stepsFrom, .ref a_this_most, .ref a_this_next, .ref a_this_otherSteps, .ref a_this_ahead, .ref a_this_now, .int v_seed])), (a_this_refused, .inl (cI, 7, .inl g_refused)), (a_this_s, .inl (cI, 39, .inl g_s)), (a_this_stepsFrom, .inl (cI, 36, .inl g_stepsFrom_4))]) (va_runV (As := [.int l3_11]) (rest := []) ⟨hx, hb, hml, hown, hts⟩ (k_M_isYard l dC dI cI cZ tt sd a_this a_this_s a_this_image a_this_was a_this_letters a_this_row a_this_refused a_this_numbers a_this_least a_this_stepsFrom a_this_most a_this_next a_this_otherSteps a_this_ahead a_this_now H.size v_hasImage v_letterMany v_rowMany v_place v_seed g_s l3_11 r19 hf20) (cwV 1 hts gX8_yards_X8_isYard rfl rfl rfl (by decide +kernel) ⟨Nat.le_of_ble_eq_true rfl, Nat.le_of_ble_eq_true rfl⟩) (zpV hP hD hK hS hA hZ [0, 2] rfl rfl 8 0 rfl rfl) rfl rfl hl.1 rfl (lv_room (Nat.le_of_ble_eq_true rfl)) dX8_yards_41 ⟨Nat.zero_le _, Nat.zero_le _⟩) hP hD hS hA [0, 2] [1, 3] [2, 0, 3, 1] rfl rfl rfl (by decide) rfl rfl rfl (fun H locs hP hD hS => ?_)
        refine lv_if_eq (tgt := 54) hx hb dX8_yards_44 (by decide) (fun c21 => ?_) (fun c21 => ?_)
        · have he := zif_t c21 he
          exact (hWW _ _ _ _).mp (hk17 l2_10 he) _ _ _ hP hD hS (lv_sub hl [0, 1, 2] rfl)
        · have he := zif_f c21 he
          refine lv_aload_n hx hb dX8_yards_47 rfl (lv_at hl 0 rfl) ?_
          refine va_get (D := (dC, dI)) (ci := 8) (v := .ref a_this_stepsFrom) (C := RX8) (T := TX8) (N := 19) hx hb hts (by decide +kernel) hown hK hP 0 rfl rfl 12 (by decide) (hts (.fieldLink RX8 34 "LawOfCornersModel" "stepsFrom" "[I") (by decide +kernel)) (fun _ h9 => h9) rfl dX8_yards_48 ?_
          refine lv_iload_n hx hb dX8_yards_51 rfl (lv_at hl 2 rfl) ?_
          obtain ⟨hg22, he⟩ := zg_e he
          refine va_iald hx hb hK hP 3 0 rfl rfl hg22 dX8_yards_52 ?_
          refine lv_topi (fun x23 ex23 => ?_)
          have he := zn_e ex23 he
          refine lv_istore_n (lv' := [(2, .int x23), (0, .ref a_this), (3, .int l3_11)]) hx hb dX8_yards_53 rfl hl (by decide) rfl (fun ls hl => ?_)
          exact (hWW _ _ _ _).mp (hk17 x23 he) _ _ _ hP hD hS (lv_sub hl [1, 0, 2] rfl)
  · have he := zif_t c3 he
    refine lv_aload_n hx hb dX8_yards_7 rfl (lv_at hl 0 rfl) ?_
    refine lv_iconst (v := (-1 : Int32)) hx hb dX8_yards_8 (by decide) ?_
    obtain ⟨r24, g_refused_25, hf26, he⟩ := zb2_e he
    refine zc_i (wr := [(a_this_s, .inl (cI, 39, .inl g_s)), (a_this_stepsFrom, .inl (cI, 36, .inl g_stepsFrom))]) (ws' := [(a_this, .inr (8, [.ref a_this_s, .ref a_this_image, .ref a_this_was, .int v_hasImage, .ref a_this_letters, .ref a_this_row, .ref a_this_refused, .int v_letterMany, .int v_rowMany, .int v_place, .ref a_this_numbers, .ref a_this_least, .ref a_this_stepsFrom, .ref a_this_most, .ref a_this_next, .ref a_this_otherSteps, .ref a_this_ahead, .ref a_this_now, .int v_seed])), (a_this_refused, .inl (cI, 7, .inl g_refused_25)), (a_this_s, .inl (cI, 39, .inl g_s)), (a_this_stepsFrom, .inl (cI, 36, .inl g_stepsFrom))]) (va_runV (As := [.int (-1 : Int32)]) (rest := []) ⟨hx, hb, hml, hown, hts⟩ (k_M_no l dC dI cI cZ tt sd a_this a_this_s a_this_image a_this_was a_this_letters a_this_row a_this_refused a_this_numbers a_this_least a_this_stepsFrom a_this_most a_this_next a_this_otherSteps a_this_ahead a_this_now H.size v_hasImage v_letterMany v_rowMany v_place v_seed g_refused (-1 : Int32) r24 g_refused_25 hf26) (cwV 1 hts gX8_yards_X8_no rfl rfl rfl (by decide +kernel) ⟨Nat.le_of_ble_eq_true rfl, Nat.le_of_ble_eq_true rfl⟩) (zpV hP hD hK hS hA hZ [0, 1] rfl rfl 8 0 rfl rfl) rfl rfl hl.1 rfl (lv_room (Nat.le_of_ble_eq_true rfl)) dX8_yards_9 ⟨Nat.zero_le _, Nat.zero_le _⟩) hP hD hS hA [0, 1] [2, 3] [2, 3, 0, 1] rfl rfl rfl (by decide) rfl rfl rfl (fun H locs hP hD hS => ?_)
    obtain ⟨rfl, rfl, rfl⟩ := zi3 he
    exact W.iret hx hb hr (fun t ht hW => ⟨⟨_, (), rfl, rfl, by rw [ht]; exact hP, va_K.moved hW.alike hK, hD⟩, hS.F ht⟩) hS.2.2 dX8_yards_12
set_option maxHeartbeats 4000000 in
set_option maxRecDepth 100000 in
theorem k_M_canBeSaid (l : Launch) (dC : Nat → ClassId) (dI : Nat → Nat → Nat) (cI : ClassId) (cZ : ClassId) (tt : Nat → Nat) (sd : Nat → Nat) (a_this : Nat) (a_this_s : Nat) (a_this_image : Nat) (a_this_was : Nat) (a_this_letters : Nat) (a_this_row : Nat) (a_this_refused : Nat) (a_this_numbers : Nat) (a_this_least : Nat) (a_this_stepsFrom : Nat) (a_this_most : Nat) (a_this_next : Nat) (a_this_otherSteps : Nat) (a_this_ahead : Nat) (a_this_now : Nat) (sz : Nat) (v_hasImage : Int32) (v_letterMany : Int32) (v_rowMany : Int32) (v_place : Int32) (v_seed : Int32) (g_ahead : Nat → Int32) (g_row : Nat → Int32) (g_s : Nat → Int32) (p1 : Int32) (p2 : Int32) (p3 : Int32) (r0 : Int32) (hf : f_M_canBeSaid v_rowMany g_ahead g_row g_s p1 p2 p3 = some (r0)) : Met l yX8_canBeSaid wsX8_canBeSaid ({ frames := 3, cells := 0, slots := 0, locals := 67 }) (zPre (dC, dI) vwCl [(cI, .int), (cZ, .boolean)] tt sd [.ref a_this, .int p1, .int p2, .int p3] [(a_this, .inr (8, [.ref a_this_s, .ref a_this_image, .ref a_this_was, .int v_hasImage, .ref a_this_letters, .ref a_this_row, .ref a_this_refused, .int v_letterMany, .int v_rowMany, .int v_place, .ref a_this_numbers, .ref a_this_least, .ref a_this_stepsFrom, .ref a_this_most, .ref a_this_next, .ref a_this_otherSteps, .ref a_this_ahead, .ref a_this_now, .int v_seed])), (a_this_ahead, .inl (cZ, 180, .inl g_ahead)), (a_this_row, .inl (cI, 20, .inl g_row)), (a_this_s, .inl (cI, 39, .inl g_s))] sz) (zQi (dC, dI) vwCl [(cI, .int), (cZ, .boolean)] r0 [(a_this, .inr (8, [.ref a_this_s, .ref a_this_image, .ref a_this_was, .int v_hasImage, .ref a_this_letters, .ref a_this_row, .ref a_this_refused, .int v_letterMany, .int v_rowMany, .int v_place, .ref a_this_numbers, .ref a_this_least, .ref a_this_stepsFrom, .ref a_this_most, .ref a_this_next, .ref a_this_otherSteps, .ref a_this_ahead, .ref a_this_now, .int v_seed])), (a_this_ahead, .inl (cZ, 180, .inl g_ahead)), (a_this_row, .inl (cI, 20, .inl g_row)), (a_this_s, .inl (cI, 39, .inl g_s))] (va_A [(a_this, .inr (8, [.ref a_this_s, .ref a_this_image, .ref a_this_was, .int v_hasImage, .ref a_this_letters, .ref a_this_row, .ref a_this_refused, .int v_letterMany, .int v_rowMany, .int v_place, .ref a_this_numbers, .ref a_this_least, .ref a_this_stepsFrom, .ref a_this_most, .ref a_this_next, .ref a_this_otherSteps, .ref a_this_ahead, .ref a_this_now, .int v_seed])), (a_this_ahead, .inl (cZ, 180, .inl g_ahead)), (a_this_row, .inl (cI, 20, .inl g_row)), (a_this_s, .inl (cI, 39, .inl g_s))] sz)) 0 0 (va_A [(a_this, .inr (8, [.ref a_this_s, .ref a_this_image, .ref a_this_was, .int v_hasImage, .ref a_this_letters, .ref a_this_row, .ref a_this_refused, .int v_letterMany, .int v_rowMany, .int v_place, .ref a_this_numbers, .ref a_this_least, .ref a_this_stepsFrom, .ref a_this_most, .ref a_this_next, .ref a_this_otherSteps, .ref a_this_ahead, .ref a_this_now, .int v_seed])), (a_this_ahead, .inl (cZ, 180, .inl g_ahead)), (a_this_row, .inl (cI, 20, .inl g_row)), (a_this_s, .inl (cI, 39, .inl g_s))] sz) := by
  refine Met.ofW (cc := cX8_canBeSaid) (maxL := 6) (ret := (some .boolean)) (by decide) rfl ?_
  intro p e s m args below meth c s₁ B hml hv
  obtain ⟨rfl, hsz, hP, hK, hD0, hZ⟩ := hv
  have hx := B.exec
  have hb := B.bytes
  have hr := B.returns
  have hts := atoms_spec (ws := wsX8_canBeSaid) B.pre
  have hown : s.vm.findClass RX8 = some m.cls := findClass_of_methodNamed B.named
  have hlocks := B.notSynchronized
  subst hsz
  have hD := hD0.self (sz := s.heap.size)
  generalize hAe : va_A [(a_this, .inr (8, [.ref a_this_s, .ref a_this_image, .ref a_this_was, .int v_hasImage, .ref a_this_letters, .ref a_this_row, .ref a_this_refused, .int v_letterMany, .int v_rowMany, .int v_place, .ref a_this_numbers, .ref a_this_least, .ref a_this_stepsFrom, .ref a_this_most, .ref a_this_next, .ref a_this_otherSteps, .ref a_this_ahead, .ref a_this_now, .int v_seed])), (a_this_ahead, .inl (cZ, 180, .inl g_ahead)), (a_this_row, .inl (cI, 20, .inl g_row)), (a_this_s, .inl (cI, 39, .inl g_s))] s.heap.size = A at hD hZ ⊢
  have hA : ∀ q : Nat, s.heap.size ≤ q → A q := fun q h => by rw [← hAe]; exact Or.inr h
  have hS : va_S A s.heap s.heap [] := va_S.rf
  have hP : va_P (dC, dI) vwCl [(a_this, .inr (8, [.ref a_this_s, .ref a_this_image, .ref a_this_was, .int v_hasImage, .ref a_this_letters, .ref a_this_row, .ref a_this_refused, .int v_letterMany, .int v_rowMany, .int v_place, .ref a_this_numbers, .ref a_this_least, .ref a_this_stepsFrom, .ref a_this_most, .ref a_this_next, .ref a_this_otherSteps, .ref a_this_ahead, .ref a_this_now, .int v_seed])), (a_this_ahead, .inl (cZ, 180, .inl g_ahead)), (a_this_row, .inl (cI, 20, .inl g_row)), (a_this_s, .inl (cI, 39, .inl g_s))] s.heap := hP
  have hl := lv_entry ([.ref a_this, .int p1, .int p2, .int p3]) (n := 6) (Nat.le_of_ble_eq_true rfl)
  rw [lg_entry_eq]
  generalize (lg_sl ([.ref a_this, .int p1, .int p2, .int p3]) ++ List.replicate (6 - (lg_sl ([.ref a_this, .int p1, .int p2, .int p3])).length) Slot.unset).toArray = ls at hl ⊢
  have hl : lv_has ls 6 [(0, .ref a_this), (1, .int p1), (2, .int p2), (3, .int p3)] := hl
  have he := hf
  unfold f_M_canBeSaid at he
  refine zstart (D := (dC, dI)) (cl := vwCl) (A := A) (nL := 6) (fun WW hWW => ?_)
  refine lv_iload_n hx hb dX8_canBeSaid_0 rfl (lv_at hl 3 rfl) ?_
  refine lv_aload_n hx hb dX8_canBeSaid_1 rfl (lv_at hl 0 rfl) ?_
  refine va_get (D := (dC, dI)) (ci := 8) (v := .int v_rowMany) (C := RX8) (T := TX8) (N := 19) hx hb hts (by decide +kernel) hown hK hP 0 rfl rfl 8 (by decide) (hts (.fieldLink RX8 125 "LawOfCornersModel" "rowMany" "I") (by decide +kernel)) (fun _ h9 => h9) rfl dX8_canBeSaid_2 ?_
  refine lv_iconst (v := (1 : Int32)) hx hb dX8_canBeSaid_5 (by decide) ?_
  refine lv_isub hx hb dX8_canBeSaid_6 ?_
  refine lv_icmp_ne (tgt := 30) hx hb dX8_canBeSaid_7 (by decide) (fun c1 => ?_) (fun c1 => ?_)
  · have he := zif_f c1 he
    refine lv_iconst (v := (0 : Int32)) hx hb dX8_canBeSaid_30 (by decide) ?_
    refine lv_istore (lv' := [(4, .int (0 : Int32)), (0, .ref a_this), (1, .int p1), (2, .int p2), (3, .int p3)]) hx hb dX8_canBeSaid_31 hl (by decide) rfl (fun ls hl => ?_)
    refine (hWW _ _ _ _).mp (zl1_w he (fun (l4_2 : Int32) => WW [(a_this, .inr (8, [.ref a_this_s, .ref a_this_image, .ref a_this_was, .int v_hasImage, .ref a_this_letters, .ref a_this_row, .ref a_this_refused, .int v_letterMany, .int v_rowMany, .int v_place, .ref a_this_numbers, .ref a_this_least, .ref a_this_stepsFrom, .ref a_this_most, .ref a_this_next, .ref a_this_otherSteps, .ref a_this_ahead, .ref a_this_now, .int v_seed])), (a_this_ahead, .inl (cZ, 180, .inl g_ahead)), (a_this_row, .inl (cI, 20, .inl g_row)), (a_this_s, .inl (cI, 39, .inl g_s))] [(0, .ref a_this), (1, .int p1), (2, .int p2), (3, .int p3), (4, .int l4_2)] 33 []) (fun l4_2 again3 hagain3 he => (hWW _ _ _ _).mpr (fun H locs ls hP hD hS hl => ?_))) _ _ _ hP hD hS (lv_sub hl [1, 2, 3, 4, 0] rfl)
    refine lv_iload hx hb dX8_canBeSaid_33 (lv_at hl 4 rfl) ?_
    refine lv_iconst (v := (4 : Int32)) hx hb dX8_canBeSaid_35 (by decide) ?_
    refine lv_icmp_ge (tgt := 93) hx hb dX8_canBeSaid_36 (by decide) (fun c4 => ?_) (fun c4 => ?_)
    · have he := zif_t c4 he
      refine lv_iconst (v := (0 : Int32)) hx hb dX8_canBeSaid_93 (by decide) ?_
      obtain ⟨rfl⟩ := zi1 he
      exact W.zret hx hb hr rfl (fun t ht hW => ⟨⟨_, (), rfl, rfl, by rw [ht]; exact hP, va_K.moved hW.alike hK, hD⟩, hS.F ht⟩) hS.2.2 dX8_canBeSaid_94
    · have he := zif_f c4 he
      refine lv_aload_n hx hb dX8_canBeSaid_39 rfl (lv_at hl 0 rfl) ?_
      refine lv_iload_n hx hb dX8_canBeSaid_40 rfl (lv_at hl 1 rfl) ?_
      refine lv_iload hx hb dX8_canBeSaid_41 (lv_at hl 4 rfl) ?_
      obtain ⟨r5, hf6, he⟩ := zb1_e he
      refine zc_i (wr := [(a_this_ahead, .inl (cZ, 180, .inl g_ahead)), (a_this_row, .inl (cI, 20, .inl g_row))]) (ws' := [(a_this, .inr (8, [.ref a_this_s, .ref a_this_image, .ref a_this_was, .int v_hasImage, .ref a_this_letters, .ref a_this_row, .ref a_this_refused, .int v_letterMany, .int v_rowMany, .int v_place, .ref a_this_numbers, .ref a_this_least, .ref a_this_stepsFrom, .ref a_this_most, .ref a_this_next, .ref a_this_otherSteps, .ref a_this_ahead, .ref a_this_now, .int v_seed])), (a_this_ahead, .inl (cZ, 180, .inl g_ahead)), (a_this_row, .inl (cI, 20, .inl g_row)), (a_this_s, .inl (cI, 39, .inl g_s))]) (va_runV (As := [.int p1, .int l4_2]) (rest := []) ⟨hx, hb, hml, hown, hts⟩ (k_M_gone l dC dI cI cZ tt sd a_this a_this_s a_this_image a_this_was a_this_letters a_this_row a_this_refused a_this_numbers a_this_least a_this_stepsFrom a_this_most a_this_next a_this_otherSteps a_this_ahead a_this_now H.size v_hasImage v_letterMany v_rowMany v_place v_seed g_s p1 l4_2 r5 hf6) (cwV 2 hts gX8_canBeSaid_X8_gone rfl rfl rfl (by decide +kernel) ⟨Nat.le_of_ble_eq_true rfl, Nat.le_of_ble_eq_true rfl⟩) (zpV hP hD hK hS hA hZ [0, 3] rfl rfl 8 0 rfl rfl) rfl rfl hl.1 rfl (lv_room (Nat.le_of_ble_eq_true rfl)) dX8_canBeSaid_43 ⟨Nat.zero_le _, Nat.zero_le _⟩) hP hD hS hA [0, 3] [1, 2] [2, 0, 1, 3] rfl rfl rfl (by decide) rfl rfl rfl (fun H locs hP hD hS => ?_)
      refine lv_istore (lv' := [(5, .int r5), (0, .ref a_this), (1, .int p1), (2, .int p2), (3, .int p3), (4, .int l4_2)]) hx hb dX8_canBeSaid_46 hl (by decide) rfl (fun ls hl => ?_)
      refine lv_iload hx hb dX8_canBeSaid_48 (lv_at hl 0 rfl) ?_
      refine zj1_w he (fun (_ : Unit) => WW [(a_this, .inr (8, [.ref a_this_s, .ref a_this_image, .ref a_this_was, .int v_hasImage, .ref a_this_letters, .ref a_this_row, .ref a_this_refused, .int v_letterMany, .int v_rowMany, .int v_place, .ref a_this_numbers, .ref a_this_least, .ref a_this_stepsFrom, .ref a_this_most, .ref a_this_next, .ref a_this_otherSteps, .ref a_this_ahead, .ref a_this_now, .int v_seed])), (a_this_ahead, .inl (cZ, 180, .inl g_ahead)), (a_this_row, .inl (cI, 20, .inl g_row)), (a_this_s, .inl (cI, 39, .inl g_s))] [(0, .ref a_this), (1, .int p1), (2, .int p2), (3, .int p3), (4, .int l4_2)] 87 []) (fun _ he => (hWW _ _ _ _).mpr (fun H locs ls hP hD hS hl => ?_)) (fun k8 hk8 he => ?_)
      · obtain ⟨x7, ex7⟩ : ∃ y : Int32, y = l4_2 + (1 : Int32) := ⟨_, rfl⟩
        have he := zn_e ex7 he
        refine lv_iinc (v := x7) (lv' := [(4, .int x7), (0, .ref a_this), (1, .int p1), (2, .int p2), (3, .int p3)]) hx hb dX8_canBeSaid_87 hl (k := 4) rfl (by rw [ex7]; rfl) (by decide) rfl (fun ls hl => ?_)
        refine lv_goto (tgt := 33) hx hb dX8_canBeSaid_90 (by decide) ?_
        exact (hWW _ _ _ _).mp (hagain3 x7 he) _ _ _ hP hD hS (lv_sub hl [1, 2, 3, 4, 0] rfl)
      refine lv_if_lt (tgt := 87) hx hb dX8_canBeSaid_50 (by decide) (fun c9 => ?_) (fun c9 => ?_)
      · have he := zif_t c9 he
        exact (hWW _ _ _ _).mp (hk8 () he) _ _ _ hP hD hS (lv_sub hl [1, 2, 3, 4, 5] rfl)
      · have he := zif_f c9 he
        refine lv_aload_n hx hb dX8_canBeSaid_53 rfl (lv_at hl 1 rfl) ?_
        refine lv_iload_n hx hb dX8_canBeSaid_54 rfl (lv_at hl 2 rfl) ?_
        refine lv_iload_n hx hb dX8_canBeSaid_55 rfl (lv_at hl 3 rfl) ?_
        refine lv_iload hx hb dX8_canBeSaid_56 (lv_at hl 5 rfl) ?_
        obtain ⟨r10, hf11, he⟩ := zb1_e he
        refine zc_i (wr := [(a_this_ahead, .inl (cZ, 180, .inl g_ahead)), (a_this_row, .inl (cI, 20, .inl g_row))]) (ws' := [(a_this, .inr (8, [.ref a_this_s, .ref a_this_image, .ref a_this_was, .int v_hasImage, .ref a_this_letters, .ref a_this_row, .ref a_this_refused, .int v_letterMany, .int v_rowMany, .int v_place, .ref a_this_numbers, .ref a_this_least, .ref a_this_stepsFrom, .ref a_this_most, .ref a_this_next, .ref a_this_otherSteps, .ref a_this_ahead, .ref a_this_now, .int v_seed])), (a_this_ahead, .inl (cZ, 180, .inl g_ahead)), (a_this_row, .inl (cI, 20, .inl g_row)), (a_this_s, .inl (cI, 39, .inl g_s))]) (va_runV (As := [.int p1, .int p2, .int l4_2]) (rest := []) ⟨hx, hb, hml, hown, hts⟩ (k_M_saidOn l dC dI cI cZ tt sd a_this a_this_s a_this_image a_this_was a_this_letters a_this_row a_this_refused a_this_numbers a_this_least a_this_stepsFrom a_this_most a_this_next a_this_otherSteps a_this_ahead a_this_now H.size v_hasImage v_letterMany v_rowMany v_place v_seed g_s p1 p2 l4_2 r10 hf11) (cwV 3 hts gX8_canBeSaid_X8_saidOn rfl rfl rfl (by decide +kernel) ⟨Nat.le_of_ble_eq_true rfl, Nat.le_of_ble_eq_true rfl⟩) (zpV hP hD hK hS hA hZ [0, 3] rfl rfl 8 0 rfl rfl) rfl rfl hl.1 rfl (lv_room (Nat.le_of_ble_eq_true rfl)) dX8_canBeSaid_58 ⟨Nat.zero_le _, Nat.zero_le _⟩) hP hD hS hA [0, 3] [1, 2] [2, 0, 1, 3] rfl rfl rfl (by decide) rfl rfl rfl (fun H locs hP hD hS => ?_)
        refine lv_aload_n hx hb dX8_canBeSaid_61 rfl (lv_at hl 1 rfl) ?_
        refine va_get (D := (dC, dI)) (ci := 8) (v := .ref a_this_row) (C := RX8) (T := TX8) (N := 19) hx hb hts (by decide +kernel) hown hK hP 0 rfl rfl 5 (by decide) (hts (.fieldLink RX8 22 "LawOfCornersModel" "row" "[I") (by decide +kernel)) (fun _ h9 => h9) rfl dX8_canBeSaid_62 ?_
        refine lv_iload_n hx hb dX8_canBeSaid_65 rfl (lv_at hl 4 rfl) ?_
        obtain ⟨hg12, he⟩ := zg_e he
        refine va_iald hx hb hK hP 2 0 rfl rfl hg12 dX8_canBeSaid_66 ?_
        refine lv_icmp_ne (tgt := 87) hx hb dX8_canBeSaid_67 (by decide) (fun c13 => ?_) (fun c13 => ?_)
        · have he := zif_f c13 he
          exact (hWW _ _ _ _).mp (hk8 () he) _ _ _ hP hD hS (lv_sub hl [1, 2, 3, 4, 5] rfl)
        · have he := zif_t c13 he
          refine lv_aload_n hx hb dX8_canBeSaid_70 rfl (lv_at hl 1 rfl) ?_
          refine va_get (D := (dC, dI)) (ci := 8) (v := .ref a_this_ahead) (C := RX8) (T := TX8) (N := 19) hx hb hts (by decide +kernel) hown hK hP 0 rfl rfl 16 (by decide) (hts (.fieldLink RX8 46 "LawOfCornersModel" "ahead" "[Z") (by decide +kernel)) (fun _ h9 => h9) rfl dX8_canBeSaid_71 ?_
          refine lv_iload hx hb dX8_canBeSaid_74 (lv_at hl 0 rfl) ?_
          refine lv_iload hx hb dX8_canBeSaid_76 (lv_at hl 5 rfl) ?_
          obtain ⟨r14, hf15, he⟩ := zb1_e he
          refine zc_i (wr := [(a_this, .inr (8, [.ref a_this_s, .ref a_this_image, .ref a_this_was, .int v_hasImage, .ref a_this_letters, .ref a_this_row, .ref a_this_refused, .int v_letterMany, .int v_rowMany, .int v_place, .ref a_this_numbers, .ref a_this_least, .ref a_this_stepsFrom, .ref a_this_most, .ref a_this_next, .ref a_this_otherSteps, .ref a_this_ahead, .ref a_this_now, .int v_seed])), (a_this_ahead, .inl (cZ, 180, .inl g_ahead)), (a_this_row, .inl (cI, 20, .inl g_row)), (a_this_s, .inl (cI, 39, .inl g_s))]) (ws' := [(a_this, .inr (8, [.ref a_this_s, .ref a_this_image, .ref a_this_was, .int v_hasImage, .ref a_this_letters, .ref a_this_row, .ref a_this_refused, .int v_letterMany, .int v_rowMany, .int v_place, .ref a_this_numbers, .ref a_this_least, .ref a_this_stepsFrom, .ref a_this_most, .ref a_this_next, .ref a_this_otherSteps, .ref a_this_ahead, .ref a_this_now, .int v_seed])), (a_this_ahead, .inl (cZ, 180, .inl g_ahead)), (a_this_row, .inl (cI, 20, .inl g_row)), (a_this_s, .inl (cI, 39, .inl g_s))]) (va_runS (As := [.int r5, .int l4_2]) (rest := [.ref a_this_ahead]) ⟨hx, hb, hml, hown, hts⟩ (k_M_at l dC dI cI cZ tt sd H.size r5 l4_2 r14 hf15) (va_cwS 2 hts gX8_canBeSaid_X8_at rfl rfl rfl (by decide +kernel) ⟨Nat.le_of_ble_eq_true rfl, Nat.le_of_ble_eq_true rfl⟩) (zpS hP hD hK hS hA hZ [] rfl rfl) rfl rfl hl.1 rfl (lv_room (Nat.le_of_ble_eq_true rfl)) dX8_canBeSaid_78 ⟨Nat.zero_le _, Nat.zero_le _⟩) hP hD hS hA [] [0, 1, 2, 3] [0, 1, 2, 3] rfl rfl rfl (by decide) rfl rfl rfl (fun H locs hP hD hS => ?_)
          obtain ⟨hg16, he⟩ := zg_e he
          refine va_zald hx hb hK hP 1 1 rfl rfl hg16 dX8_canBeSaid_81 ?_
          refine lv_if_eq (tgt := 87) hx hb dX8_canBeSaid_82 (by decide) (fun c17 => ?_) (fun c17 => ?_)
          · have he := zif_t c17 he
            exact (hWW _ _ _ _).mp (hk8 () he) _ _ _ hP hD hS (lv_sub hl [1, 2, 3, 4, 5] rfl)
          · have he := zif_f c17 he
            refine lv_iconst (v := (1 : Int32)) hx hb dX8_canBeSaid_85 (by decide) ?_
            obtain ⟨rfl⟩ := zi1 he
            exact W.zret hx hb hr rfl (fun t ht hW => ⟨⟨_, (), rfl, rfl, by rw [ht]; exact hP, va_K.moved hW.alike hK, hD⟩, hS.F ht⟩) hS.2.2 dX8_canBeSaid_86
  · have he := zif_t c1 he
    refine lv_aload_n hx hb dX8_canBeSaid_10 rfl (lv_at hl 0 rfl) ?_
    refine lv_iload_n hx hb dX8_canBeSaid_11 rfl (lv_at hl 1 rfl) ?_
    obtain ⟨r18, hf19, he⟩ := zb1_e he
    refine zc_i (wr := [(a_this_ahead, .inl (cZ, 180, .inl g_ahead)), (a_this_row, .inl (cI, 20, .inl g_row))]) (ws' := [(a_this, .inr (8, [.ref a_this_s, .ref a_this_image, .ref a_this_was, .int v_hasImage, .ref a_this_letters, .ref a_this_row, .ref a_this_refused, .int v_letterMany, .int v_rowMany, .int v_place, .ref a_this_numbers, .ref a_this_least, .ref a_this_stepsFrom, .ref a_this_most, .ref a_this_next, .ref a_this_otherSteps, .ref a_this_ahead, .ref a_this_now, .int v_seed])), (a_this_ahead, .inl (cZ, 180, .inl g_ahead)), (a_this_row, .inl (cI, 20, .inl g_row)), (a_this_s, .inl (cI, 39, .inl g_s))]) (va_runV (As := [.int p1]) (rest := []) ⟨hx, hb, hml, hown, hts⟩ (k_M_wordsOn l dC dI cI cZ tt sd a_this a_this_s a_this_image a_this_was a_this_letters a_this_row a_this_refused a_this_numbers a_this_least a_this_stepsFrom a_this_most a_this_next a_this_otherSteps a_this_ahead a_this_now s.heap.size v_hasImage v_letterMany v_rowMany v_place v_seed g_s p1 r18 hf19) (cwV 1 hts gX8_canBeSaid_X8_wordsOn rfl rfl rfl (by decide +kernel) ⟨Nat.le_of_ble_eq_true rfl, Nat.le_of_ble_eq_true rfl⟩) (zpV hP hD hK hS hA hZ [0, 3] rfl rfl 8 0 rfl rfl) rfl rfl hl.1 rfl (lv_room (Nat.le_of_ble_eq_true rfl)) dX8_canBeSaid_12 ⟨Nat.zero_le _, Nat.zero_le _⟩) hP hD hS hA [0, 3] [1, 2] [2, 0, 1, 3] rfl rfl rfl (by decide) rfl rfl rfl (fun H locs hP hD hS => ?_)
    refine lv_aload_n hx hb dX8_canBeSaid_15 rfl (lv_at hl 0 rfl) ?_
    refine va_get (D := (dC, dI)) (ci := 8) (v := .ref a_this_row) (C := RX8) (T := TX8) (N := 19) hx hb hts (by decide +kernel) hown hK hP 0 rfl rfl 5 (by decide) (hts (.fieldLink RX8 22 "LawOfCornersModel" "row" "[I") (by decide +kernel)) (fun _ h9 => h9) rfl dX8_canBeSaid_16 ?_
    refine lv_iload_n hx hb dX8_canBeSaid_19 rfl (lv_at hl 3 rfl) ?_
    obtain ⟨hg20, he⟩ := zg_e he
    refine va_iald hx hb hK hP 2 0 rfl rfl hg20 dX8_canBeSaid_20 ?_
    refine lv_icmp_ne (tgt := 28) hx hb dX8_canBeSaid_21 (by decide) (fun c21 => ?_) (fun c21 => ?_)
    · have he := zif_f c21 he
      refine lv_iconst (v := (0 : Int32)) hx hb dX8_canBeSaid_28 (by decide) ?_
      obtain ⟨rfl⟩ := zi1 he
      exact W.zret hx hb hr rfl (fun t ht hW => ⟨⟨_, (), rfl, rfl, by rw [ht]; exact hP, va_K.moved hW.alike hK, hD⟩, hS.F ht⟩) hS.2.2 dX8_canBeSaid_29
    · have he := zif_t c21 he
      refine lv_iconst (v := (1 : Int32)) hx hb dX8_canBeSaid_24 (by decide) ?_
      refine lv_goto (tgt := 29) hx hb dX8_canBeSaid_25 (by decide) ?_
      obtain ⟨rfl⟩ := zi1 he
      exact W.zret hx hb hr rfl (fun t ht hW => ⟨⟨_, (), rfl, rfl, by rw [ht]; exact hP, va_K.moved hW.alike hK, hD⟩, hS.F ht⟩) hS.2.2 dX8_canBeSaid_29
set_option maxHeartbeats 4000000 in
set_option maxRecDepth 100000 in
theorem k_M_said (l : Launch) (dC : Nat → ClassId) (dI : Nat → Nat → Nat) (cI : ClassId) (cZ : ClassId) (tt : Nat → Nat) (sd : Nat → Nat) (a_this : Nat) (a_this_s : Nat) (a_this_image : Nat) (a_this_was : Nat) (a_this_letters : Nat) (a_this_row : Nat) (a_this_refused : Nat) (a_this_numbers : Nat) (a_this_least : Nat) (a_this_stepsFrom : Nat) (a_this_most : Nat) (a_this_next : Nat) (a_this_otherSteps : Nat) (a_this_ahead : Nat) (a_this_now : Nat) (sz : Nat) (v_hasImage : Int32) (v_letterMany : Int32) (v_rowMany : Int32) (v_place : Int32) (v_seed : Int32) (g_ahead : Nat → Int32) (g_now : Nat → Int32) (g_refused : Nat → Int32) (g_row : Nat → Int32) (g_s : Nat → Int32) (p1 : Int32) (r0 : Int32) (w0 : Nat → Int32) (w1 : Nat → Int32) (w2 : Nat → Int32) (hf : f_M_said v_rowMany g_ahead g_now g_refused g_row g_s p1 = some (r0, w0, w1, w2)) : Met l yX8_said wsX8_said ({ frames := 4, cells := 0, slots := 0, locals := 92 }) (zPre (dC, dI) vwCl [(cI, .int), (cZ, .boolean)] tt sd [.ref a_this, .int p1] [(a_this, .inr (8, [.ref a_this_s, .ref a_this_image, .ref a_this_was, .int v_hasImage, .ref a_this_letters, .ref a_this_row, .ref a_this_refused, .int v_letterMany, .int v_rowMany, .int v_place, .ref a_this_numbers, .ref a_this_least, .ref a_this_stepsFrom, .ref a_this_most, .ref a_this_next, .ref a_this_otherSteps, .ref a_this_ahead, .ref a_this_now, .int v_seed])), (a_this_ahead, .inl (cZ, 180, .inl g_ahead)), (a_this_now, .inl (cZ, 180, .inl g_now)), (a_this_refused, .inl (cI, 7, .inl g_refused)), (a_this_row, .inl (cI, 20, .inl g_row)), (a_this_s, .inl (cI, 39, .inl g_s))] sz) (zQi (dC, dI) vwCl [(cI, .int), (cZ, .boolean)] r0 [(a_this, .inr (8, [.ref a_this_s, .ref a_this_image, .ref a_this_was, .int v_hasImage, .ref a_this_letters, .ref a_this_row, .ref a_this_refused, .int v_letterMany, .int v_rowMany, .int v_place, .ref a_this_numbers, .ref a_this_least, .ref a_this_stepsFrom, .ref a_this_most, .ref a_this_next, .ref a_this_otherSteps, .ref a_this_ahead, .ref a_this_now, .int v_seed])), (a_this_ahead, .inl (cZ, 180, .inl w0)), (a_this_now, .inl (cZ, 180, .inl w1)), (a_this_refused, .inl (cI, 7, .inl w2)), (a_this_row, .inl (cI, 20, .inl g_row)), (a_this_s, .inl (cI, 39, .inl g_s))] (va_A [(a_this, .inr (8, [.ref a_this_s, .ref a_this_image, .ref a_this_was, .int v_hasImage, .ref a_this_letters, .ref a_this_row, .ref a_this_refused, .int v_letterMany, .int v_rowMany, .int v_place, .ref a_this_numbers, .ref a_this_least, .ref a_this_stepsFrom, .ref a_this_most, .ref a_this_next, .ref a_this_otherSteps, .ref a_this_ahead, .ref a_this_now, .int v_seed])), (a_this_ahead, .inl (cZ, 180, .inl g_ahead)), (a_this_now, .inl (cZ, 180, .inl g_now)), (a_this_refused, .inl (cI, 7, .inl g_refused)), (a_this_row, .inl (cI, 20, .inl g_row)), (a_this_s, .inl (cI, 39, .inl g_s))] sz)) 0 0 (va_A [(a_this, .inr (8, [.ref a_this_s, .ref a_this_image, .ref a_this_was, .int v_hasImage, .ref a_this_letters, .ref a_this_row, .ref a_this_refused, .int v_letterMany, .int v_rowMany, .int v_place, .ref a_this_numbers, .ref a_this_least, .ref a_this_stepsFrom, .ref a_this_most, .ref a_this_next, .ref a_this_otherSteps, .ref a_this_ahead, .ref a_this_now, .int v_seed])), (a_this_ahead, .inl (cZ, 180, .inl g_ahead)), (a_this_now, .inl (cZ, 180, .inl g_now)), (a_this_refused, .inl (cI, 7, .inl g_refused)), (a_this_row, .inl (cI, 20, .inl g_row)), (a_this_s, .inl (cI, 39, .inl g_s))] sz) := by
  refine Met.ofW (cc := cX8_said) (maxL := 5) (ret := (some .int)) (by decide) rfl ?_
  intro p e s m args below meth c s₁ B hml hv
  obtain ⟨rfl, hsz, hP, hK, hD0, hZ⟩ := hv
  have hx := B.exec
  have hb := B.bytes
  have hr := B.returns
  have hts := atoms_spec (ws := wsX8_said) B.pre
  have hown : s.vm.findClass RX8 = some m.cls := findClass_of_methodNamed B.named
  have hlocks := B.notSynchronized
  subst hsz
  have hD := hD0.self (sz := s.heap.size)
  generalize hAe : va_A [(a_this, .inr (8, [.ref a_this_s, .ref a_this_image, .ref a_this_was, .int v_hasImage, .ref a_this_letters, .ref a_this_row, .ref a_this_refused, .int v_letterMany, .int v_rowMany, .int v_place, .ref a_this_numbers, .ref a_this_least, .ref a_this_stepsFrom, .ref a_this_most, .ref a_this_next, .ref a_this_otherSteps, .ref a_this_ahead, .ref a_this_now, .int v_seed])), (a_this_ahead, .inl (cZ, 180, .inl g_ahead)), (a_this_now, .inl (cZ, 180, .inl g_now)), (a_this_refused, .inl (cI, 7, .inl g_refused)), (a_this_row, .inl (cI, 20, .inl g_row)), (a_this_s, .inl (cI, 39, .inl g_s))] s.heap.size = A at hD hZ ⊢
  have hA : ∀ q : Nat, s.heap.size ≤ q → A q := fun q h => by rw [← hAe]; exact Or.inr h
  have hS : va_S A s.heap s.heap [] := va_S.rf
  have hP : va_P (dC, dI) vwCl [(a_this, .inr (8, [.ref a_this_s, .ref a_this_image, .ref a_this_was, .int v_hasImage, .ref a_this_letters, .ref a_this_row, .ref a_this_refused, .int v_letterMany, .int v_rowMany, .int v_place, .ref a_this_numbers, .ref a_this_least, .ref a_this_stepsFrom, .ref a_this_most, .ref a_this_next, .ref a_this_otherSteps, .ref a_this_ahead, .ref a_this_now, .int v_seed])), (a_this_ahead, .inl (cZ, 180, .inl g_ahead)), (a_this_now, .inl (cZ, 180, .inl g_now)), (a_this_refused, .inl (cI, 7, .inl g_refused)), (a_this_row, .inl (cI, 20, .inl g_row)), (a_this_s, .inl (cI, 39, .inl g_s))] s.heap := hP
  have hl := lv_entry ([.ref a_this, .int p1]) (n := 5) (Nat.le_of_ble_eq_true rfl)
  rw [lg_entry_eq]
  generalize (lg_sl ([.ref a_this, .int p1]) ++ List.replicate (5 - (lg_sl ([.ref a_this, .int p1])).length) Slot.unset).toArray = ls at hl ⊢
  have hl : lv_has ls 5 [(0, .ref a_this), (1, .int p1)] := hl
  have he := hf
  unfold f_M_said at he
  refine zstart (D := (dC, dI)) (cl := vwCl) (A := A) (nL := 5) (fun WW hWW => ?_)
  refine lv_iload_n hx hb dX8_said_0 rfl (lv_at hl 1 rfl) ?_
  refine lv_iconst (v := (0 : Int32)) hx hb dX8_said_1 (by decide) ?_
  refine lv_iconst (v := (1 : Int32)) hx hb dX8_said_2 (by decide) ?_
  obtain ⟨r1, hf2, he⟩ := zb1_e he
  refine zc_i (wr := [(a_this, .inr (8, [.ref a_this_s, .ref a_this_image, .ref a_this_was, .int v_hasImage, .ref a_this_letters, .ref a_this_row, .ref a_this_refused, .int v_letterMany, .int v_rowMany, .int v_place, .ref a_this_numbers, .ref a_this_least, .ref a_this_stepsFrom, .ref a_this_most, .ref a_this_next, .ref a_this_otherSteps, .ref a_this_ahead, .ref a_this_now, .int v_seed])), (a_this_ahead, .inl (cZ, 180, .inl g_ahead)), (a_this_now, .inl (cZ, 180, .inl g_now)), (a_this_refused, .inl (cI, 7, .inl g_refused)), (a_this_row, .inl (cI, 20, .inl g_row)), (a_this_s, .inl (cI, 39, .inl g_s))]) (ws' := [(a_this, .inr (8, [.ref a_this_s, .ref a_this_image, .ref a_this_was, .int v_hasImage, .ref a_this_letters, .ref a_this_row, .ref a_this_refused, .int v_letterMany, .int v_rowMany, .int v_place, .ref a_this_numbers, .ref a_this_least, .ref a_this_stepsFrom, .ref a_this_most, .ref a_this_next, .ref a_this_otherSteps, .ref a_this_ahead, .ref a_this_now, .int v_seed])), (a_this_ahead, .inl (cZ, 180, .inl g_ahead)), (a_this_now, .inl (cZ, 180, .inl g_now)), (a_this_refused, .inl (cI, 7, .inl g_refused)), (a_this_row, .inl (cI, 20, .inl g_row)), (a_this_s, .inl (cI, 39, .inl g_s))]) (va_runS (As := [.int p1, .int (0 : Int32), .int (1 : Int32)]) (rest := []) ⟨hx, hb, hml, hown, hts⟩ (k_M_isIn l dC dI cI cZ tt sd s.heap.size p1 (0 : Int32) (1 : Int32) r1 hf2) (va_cwS 3 hts gX8_said_X8_isIn rfl rfl rfl (by decide +kernel) ⟨Nat.le_of_ble_eq_true rfl, Nat.le_of_ble_eq_true rfl⟩) (zpS hP hD hK hS hA hZ [] rfl rfl) rfl rfl hl.1 rfl (lv_room (Nat.le_of_ble_eq_true rfl)) dX8_said_3 ⟨Nat.zero_le _, Nat.zero_le _⟩) hP hD hS hA [] [0, 1, 2, 3, 4, 5] [0, 1, 2, 3, 4, 5] rfl rfl rfl (by decide) rfl rfl rfl (fun H locs hP hD hS => ?_)
  refine lv_if_ne (tgt := 16) hx hb dX8_said_6 (by decide) (fun c3 => ?_) (fun c3 => ?_)
  · have he := zif_f c3 he
    refine lv_aload_n hx hb dX8_said_16 rfl (lv_at hl 0 rfl) ?_
    refine va_get (D := (dC, dI)) (ci := 8) (v := .int v_rowMany) (C := RX8) (T := TX8) (N := 19) hx hb hts (by decide +kernel) hown hK hP 0 rfl rfl 8 (by decide) (hts (.fieldLink RX8 125 "LawOfCornersModel" "rowMany" "I") (by decide +kernel)) (fun _ h9 => h9) rfl dX8_said_17 ?_
    refine lv_if_ne (tgt := 30) hx hb dX8_said_20 (by decide) (fun c4 => ?_) (fun c4 => ?_)
    · have he := zif_f c4 he
      refine lv_aload_n hx hb dX8_said_30 rfl (lv_at hl 0 rfl) ?_
      refine va_get (D := (dC, dI)) (ci := 8) (v := .int v_rowMany) (C := RX8) (T := TX8) (N := 19) hx hb hts (by decide +kernel) hown hK hP 0 rfl rfl 8 (by decide) (hts (.fieldLink RX8 125 "LawOfCornersModel" "rowMany" "I") (by decide +kernel)) (fun _ h9 => h9) rfl dX8_said_31 ?_
      refine lv_iconst (v := (1 : Int32)) hx hb dX8_said_34 (by decide) ?_
      refine lv_isub hx hb dX8_said_35 ?_
      refine lv_topi (fun x5 ex5 => ?_)
      have he := zn_e ex5 he
      refine lv_istore_n (lv' := [(2, .int x5), (0, .ref a_this), (1, .int p1)]) hx hb dX8_said_36 rfl hl (by decide) rfl (fun ls hl => ?_)
      refine zj2_w he (fun (g_ahead_6 : Nat → Int32) (g_now_7 : Nat → Int32) => WW [(a_this, .inr (8, [.ref a_this_s, .ref a_this_image, .ref a_this_was, .int v_hasImage, .ref a_this_letters, .ref a_this_row, .ref a_this_refused, .int v_letterMany, .int v_rowMany, .int v_place, .ref a_this_numbers, .ref a_this_least, .ref a_this_stepsFrom, .ref a_this_most, .ref a_this_next, .ref a_this_otherSteps, .ref a_this_ahead, .ref a_this_now, .int v_seed])), (a_this_ahead, .inl (cZ, 180, .inl g_ahead_6)), (a_this_now, .inl (cZ, 180, .inl g_now_7)), (a_this_refused, .inl (cI, 7, .inl g_refused)), (a_this_row, .inl (cI, 20, .inl g_row)), (a_this_s, .inl (cI, 39, .inl g_s))] [(0, .ref a_this), (1, .int p1)] 138 []) (fun g_ahead_6 g_now_7 he => (hWW _ _ _ _).mpr (fun H locs ls hP hD hS hl => ?_)) (fun k26 hk26 he => ?_)
      · refine lv_iconst (v := (0 : Int32)) hx hb dX8_said_138 (by decide) ?_
        refine lv_istore_n (lv' := [(2, .int (0 : Int32)), (0, .ref a_this), (1, .int p1)]) hx hb dX8_said_139 rfl hl (by decide) rfl (fun ls hl => ?_)
        refine lv_bipush (v := (-9 : Int32)) hx hb dX8_said_140 (by decide) ?_
        refine lv_istore_n (lv' := [(3, .int (-9 : Int32)), (2, .int (0 : Int32)), (0, .ref a_this), (1, .int p1)]) hx hb dX8_said_142 rfl hl (by decide) rfl (fun ls hl => ?_)
        refine lv_bipush (v := (35 : Int32)) hx hb dX8_said_143 (by decide) ?_
        refine lv_istore (lv' := [(4, .int (35 : Int32)), (3, .int (-9 : Int32)), (2, .int (0 : Int32)), (0, .ref a_this), (1, .int p1)]) hx hb dX8_said_145 hl (by decide) rfl (fun ls hl => ?_)
        refine zj2_w he (fun (l2_8 : Int32) (l3_9 : Int32) => WW [(a_this, .inr (8, [.ref a_this_s, .ref a_this_image, .ref a_this_was, .int v_hasImage, .ref a_this_letters, .ref a_this_row, .ref a_this_refused, .int v_letterMany, .int v_rowMany, .int v_place, .ref a_this_numbers, .ref a_this_least, .ref a_this_stepsFrom, .ref a_this_most, .ref a_this_next, .ref a_this_otherSteps, .ref a_this_ahead, .ref a_this_now, .int v_seed])), (a_this_ahead, .inl (cZ, 180, .inl g_ahead_6)), (a_this_now, .inl (cZ, 180, .inl g_now_7)), (a_this_refused, .inl (cI, 7, .inl g_refused)), (a_this_row, .inl (cI, 20, .inl g_row)), (a_this_s, .inl (cI, 39, .inl g_s))] [(1, .int p1), (2, .int l2_8), (3, .int l3_9)] 181 []) (fun l2_8 l3_9 he => (hWW _ _ _ _).mpr (fun H locs ls hP hD hS hl => ?_)) (fun k11 hk11 he => ?_)
        · refine lv_iload_n hx hb dX8_said_181 rfl (lv_at hl 0 rfl) ?_
          refine lv_if_ne (tgt := 189) hx hb dX8_said_182 (by decide) (fun c10 => ?_) (fun c10 => ?_)
          · have he := zif_f c10 he
            refine lv_iload_n hx hb dX8_said_189 rfl (lv_at hl 2 rfl) ?_
            obtain ⟨rfl, rfl, rfl, rfl⟩ := zi4 he
            exact W.iret hx hb hr (fun t ht hW => ⟨⟨_, (), rfl, rfl, by rw [ht]; exact hP, va_K.moved hW.alike hK, hD⟩, hS.F ht⟩) hS.2.2 dX8_said_190
          · have he := zif_t c10 he
            refine lv_iload_n hx hb dX8_said_185 rfl (lv_at hl 1 rfl) ?_
            refine lv_goto (tgt := 190) hx hb dX8_said_186 (by decide) ?_
            obtain ⟨rfl, rfl, rfl, rfl⟩ := zi4 he
            exact W.iret hx hb hr (fun t ht hW => ⟨⟨_, (), rfl, rfl, by rw [ht]; exact hP, va_K.moved hW.alike hK, hD⟩, hS.F ht⟩) hS.2.2 dX8_said_190
        refine (hWW _ _ _ _).mp (zl3_w he (fun (l2_12 : Int32) (l3_13 : Int32) (l4_14 : Int32) => WW [(a_this, .inr (8, [.ref a_this_s, .ref a_this_image, .ref a_this_was, .int v_hasImage, .ref a_this_letters, .ref a_this_row, .ref a_this_refused, .int v_letterMany, .int v_rowMany, .int v_place, .ref a_this_numbers, .ref a_this_least, .ref a_this_stepsFrom, .ref a_this_most, .ref a_this_next, .ref a_this_otherSteps, .ref a_this_ahead, .ref a_this_now, .int v_seed])), (a_this_ahead, .inl (cZ, 180, .inl g_ahead_6)), (a_this_now, .inl (cZ, 180, .inl g_now_7)), (a_this_refused, .inl (cI, 7, .inl g_refused)), (a_this_row, .inl (cI, 20, .inl g_row)), (a_this_s, .inl (cI, 39, .inl g_s))] [(0, .ref a_this), (1, .int p1), (2, .int l2_12), (3, .int l3_13), (4, .int l4_14)] 147 []) (fun l2_12 l3_13 l4_14 again15 hagain15 he => (hWW _ _ _ _).mpr (fun H locs ls hP hD hS hl => ?_))) _ _ _ hP hD hS (lv_sub hl [3, 4, 2, 1, 0] rfl)
        refine lv_iload hx hb dX8_said_147 (lv_at hl 4 rfl) ?_
        refine lv_if_lt (tgt := 181) hx hb dX8_said_149 (by decide) (fun c16 => ?_) (fun c16 => ?_)
        · have he := zif_t c16 he
          exact (hWW _ _ _ _).mp (hk11 l2_12 l3_13 he) _ _ _ hP hD hS (lv_sub hl [1, 2, 3] rfl)
        · have he := zif_f c16 he
          refine lv_aload_n hx hb dX8_said_152 rfl (lv_at hl 0 rfl) ?_
          refine va_get (D := (dC, dI)) (ci := 8) (v := .ref a_this_ahead) (C := RX8) (T := TX8) (N := 19) hx hb hts (by decide +kernel) hown hK hP 0 rfl rfl 16 (by decide) (hts (.fieldLink RX8 46 "LawOfCornersModel" "ahead" "[Z") (by decide +kernel)) (fun _ h9 => h9) rfl dX8_said_153 ?_
          refine lv_iload hx hb dX8_said_156 (lv_at hl 4 rfl) ?_
          refine lv_iconst (v := (4 : Int32)) hx hb dX8_said_158 (by decide) ?_
          obtain ⟨r17, hf18, he⟩ := zb1_e he
          refine zc_i (wr := [(a_this, .inr (8, [.ref a_this_s, .ref a_this_image, .ref a_this_was, .int v_hasImage, .ref a_this_letters, .ref a_this_row, .ref a_this_refused, .int v_letterMany, .int v_rowMany, .int v_place, .ref a_this_numbers, .ref a_this_least, .ref a_this_stepsFrom, .ref a_this_most, .ref a_this_next, .ref a_this_otherSteps, .ref a_this_ahead, .ref a_this_now, .int v_seed])), (a_this_ahead, .inl (cZ, 180, .inl g_ahead_6)), (a_this_now, .inl (cZ, 180, .inl g_now_7)), (a_this_refused, .inl (cI, 7, .inl g_refused)), (a_this_row, .inl (cI, 20, .inl g_row)), (a_this_s, .inl (cI, 39, .inl g_s))]) (ws' := [(a_this, .inr (8, [.ref a_this_s, .ref a_this_image, .ref a_this_was, .int v_hasImage, .ref a_this_letters, .ref a_this_row, .ref a_this_refused, .int v_letterMany, .int v_rowMany, .int v_place, .ref a_this_numbers, .ref a_this_least, .ref a_this_stepsFrom, .ref a_this_most, .ref a_this_next, .ref a_this_otherSteps, .ref a_this_ahead, .ref a_this_now, .int v_seed])), (a_this_ahead, .inl (cZ, 180, .inl g_ahead_6)), (a_this_now, .inl (cZ, 180, .inl g_now_7)), (a_this_refused, .inl (cI, 7, .inl g_refused)), (a_this_row, .inl (cI, 20, .inl g_row)), (a_this_s, .inl (cI, 39, .inl g_s))]) (va_runS (As := [.int l4_14, .int (4 : Int32)]) (rest := [.ref a_this_ahead]) ⟨hx, hb, hml, hown, hts⟩ (k_M_at l dC dI cI cZ tt sd H.size l4_14 (4 : Int32) r17 hf18) (va_cwS 2 hts gX8_said_X8_at rfl rfl rfl (by decide +kernel) ⟨Nat.le_of_ble_eq_true rfl, Nat.le_of_ble_eq_true rfl⟩) (zpS hP hD hK hS hA hZ [] rfl rfl) rfl rfl hl.1 rfl (lv_room (Nat.le_of_ble_eq_true rfl)) dX8_said_159 ⟨Nat.zero_le _, Nat.zero_le _⟩) hP hD hS hA [] [0, 1, 2, 3, 4, 5] [0, 1, 2, 3, 4, 5] rfl rfl rfl (by decide) rfl rfl rfl (fun H locs hP hD hS => ?_)
          obtain ⟨hg19, he⟩ := zg_e he
          refine va_zald hx hb hK hP 1 1 rfl rfl hg19 dX8_said_162 ?_
          refine zj2_w he (fun (l2_20 : Int32) (l3_21 : Int32) => WW [(a_this, .inr (8, [.ref a_this_s, .ref a_this_image, .ref a_this_was, .int v_hasImage, .ref a_this_letters, .ref a_this_row, .ref a_this_refused, .int v_letterMany, .int v_rowMany, .int v_place, .ref a_this_numbers, .ref a_this_least, .ref a_this_stepsFrom, .ref a_this_most, .ref a_this_next, .ref a_this_otherSteps, .ref a_this_ahead, .ref a_this_now, .int v_seed])), (a_this_ahead, .inl (cZ, 180, .inl g_ahead_6)), (a_this_now, .inl (cZ, 180, .inl g_now_7)), (a_this_refused, .inl (cI, 7, .inl g_refused)), (a_this_row, .inl (cI, 20, .inl g_row)), (a_this_s, .inl (cI, 39, .inl g_s))] [(0, .ref a_this), (1, .int p1), (2, .int l2_20), (3, .int l3_21), (4, .int l4_14)] 175 []) (fun l2_20 l3_21 he => (hWW _ _ _ _).mpr (fun H locs ls hP hD hS hl => ?_)) (fun k23 hk23 he => ?_)
          · obtain ⟨x22, ex22⟩ : ∃ y : Int32, y = l4_14 + (-1 : Int32) := ⟨_, rfl⟩
            have he := zn_e ex22 he
            refine lv_iinc (v := x22) (lv' := [(4, .int x22), (0, .ref a_this), (1, .int p1), (2, .int l2_20), (3, .int l3_21)]) hx hb dX8_said_175 hl (k := 4) rfl (by rw [ex22]; rfl) (by decide) rfl (fun ls hl => ?_)
            refine lv_goto (tgt := 147) hx hb dX8_said_178 (by decide) ?_
            exact (hWW _ _ _ _).mp (hagain15 l2_20 l3_21 x22 he) _ _ _ hP hD hS (lv_sub hl [1, 2, 3, 4, 0] rfl)
          refine lv_if_ne (tgt := 169) hx hb dX8_said_163 (by decide) (fun c24 => ?_) (fun c24 => ?_)
          · have he := zif_f c24 he
            obtain ⟨x25, ex25⟩ : ∃ y : Int32, y = l2_12 + (1 : Int32) := ⟨_, rfl⟩
            have he := zn_e ex25 he
            refine lv_iinc (v := x25) (lv' := [(2, .int x25), (0, .ref a_this), (1, .int p1), (3, .int l3_13), (4, .int l4_14)]) hx hb dX8_said_169 hl (k := 2) rfl (by rw [ex25]; rfl) (by decide) rfl (fun ls hl => ?_)
            refine lv_iload hx hb dX8_said_172 (lv_at hl 4 rfl) ?_
            refine lv_istore_n (lv' := [(3, .int l4_14), (2, .int x25), (0, .ref a_this), (1, .int p1), (4, .int l4_14)]) hx hb dX8_said_174 rfl hl (by decide) rfl (fun ls hl => ?_)
            exact (hWW _ _ _ _).mp (hk23 x25 l4_14 he) _ _ _ hP hD hS (lv_sub hl [2, 3, 1, 0, 4] rfl)
          · have he := zif_t c24 he
            refine lv_goto (tgt := 175) hx hb dX8_said_166 (by decide) ?_
            exact (hWW _ _ _ _).mp (hk23 l2_12 l3_13 he) _ _ _ hP hD hS (lv_sub hl [0, 1, 2, 3, 4] rfl)
      refine (hWW _ _ _ _).mp (zl3_w he (fun (l2_27 : Int32) (g_ahead_28 : Nat → Int32) (g_now_29 : Nat → Int32) => WW [(a_this, .inr (8, [.ref a_this_s, .ref a_this_image, .ref a_this_was, .int v_hasImage, .ref a_this_letters, .ref a_this_row, .ref a_this_refused, .int v_letterMany, .int v_rowMany, .int v_place, .ref a_this_numbers, .ref a_this_least, .ref a_this_stepsFrom, .ref a_this_most, .ref a_this_next, .ref a_this_otherSteps, .ref a_this_ahead, .ref a_this_now, .int v_seed])), (a_this_ahead, .inl (cZ, 180, .inl g_ahead_28)), (a_this_now, .inl (cZ, 180, .inl g_now_29)), (a_this_refused, .inl (cI, 7, .inl g_refused)), (a_this_row, .inl (cI, 20, .inl g_row)), (a_this_s, .inl (cI, 39, .inl g_s))] [(0, .ref a_this), (1, .int p1), (2, .int l2_27)] 37 []) (fun l2_27 g_ahead_28 g_now_29 again30 hagain30 he => (hWW _ _ _ _).mpr (fun H locs ls hP hD hS hl => ?_))) _ _ _ hP hD hS (lv_sub hl [1, 2, 0] rfl)
      refine lv_iload_n hx hb dX8_said_37 rfl (lv_at hl 2 rfl) ?_
      refine lv_if_lt (tgt := 138) hx hb dX8_said_38 (by decide) (fun c31 => ?_) (fun c31 => ?_)
      · have he := zif_t c31 he
        exact (hWW _ _ _ _).mp (hk26 g_ahead_28 g_now_29 he) _ _ _ hP hD hS (lv_sub hl [0, 1] rfl)
      · have he := zif_f c31 he
        refine lv_iconst (v := (0 : Int32)) hx hb dX8_said_41 (by decide) ?_
        refine lv_istore_n (lv' := [(3, .int (0 : Int32)), (0, .ref a_this), (1, .int p1), (2, .int l2_27)]) hx hb dX8_said_42 rfl hl (by decide) rfl (fun ls hl => ?_)
        refine zj1_w he (fun (g_now_32 : Nat → Int32) => WW [(a_this, .inr (8, [.ref a_this_s, .ref a_this_image, .ref a_this_was, .int v_hasImage, .ref a_this_letters, .ref a_this_row, .ref a_this_refused, .int v_letterMany, .int v_rowMany, .int v_place, .ref a_this_numbers, .ref a_this_least, .ref a_this_stepsFrom, .ref a_this_most, .ref a_this_next, .ref a_this_otherSteps, .ref a_this_ahead, .ref a_this_now, .int v_seed])), (a_this_ahead, .inl (cZ, 180, .inl g_ahead_28)), (a_this_now, .inl (cZ, 180, .inl g_now_32)), (a_this_refused, .inl (cI, 7, .inl g_refused)), (a_this_row, .inl (cI, 20, .inl g_row)), (a_this_s, .inl (cI, 39, .inl g_s))] [(0, .ref a_this), (1, .int p1), (2, .int l2_27)] 105 []) (fun g_now_32 he => (hWW _ _ _ _).mpr (fun H locs ls hP hD hS hl => ?_)) (fun k46 hk46 he => ?_)
        · refine lv_iconst (v := (0 : Int32)) hx hb dX8_said_105 (by decide) ?_
          refine lv_istore_n (lv' := [(3, .int (0 : Int32)), (0, .ref a_this), (1, .int p1), (2, .int l2_27)]) hx hb dX8_said_106 rfl hl (by decide) rfl (fun ls hl => ?_)
          refine zj1_w he (fun (g_ahead_33 : Nat → Int32) => WW [(a_this, .inr (8, [.ref a_this_s, .ref a_this_image, .ref a_this_was, .int v_hasImage, .ref a_this_letters, .ref a_this_row, .ref a_this_refused, .int v_letterMany, .int v_rowMany, .int v_place, .ref a_this_numbers, .ref a_this_least, .ref a_this_stepsFrom, .ref a_this_most, .ref a_this_next, .ref a_this_otherSteps, .ref a_this_ahead, .ref a_this_now, .int v_seed])), (a_this_ahead, .inl (cZ, 180, .inl g_ahead_33)), (a_this_now, .inl (cZ, 180, .inl g_now_32)), (a_this_refused, .inl (cI, 7, .inl g_refused)), (a_this_row, .inl (cI, 20, .inl g_row)), (a_this_s, .inl (cI, 39, .inl g_s))] [(0, .ref a_this), (1, .int p1), (2, .int l2_27)] 132 []) (fun g_ahead_33 he => (hWW _ _ _ _).mpr (fun H locs ls hP hD hS hl => ?_)) (fun k35 hk35 he => ?_)
          · obtain ⟨x34, ex34⟩ : ∃ y : Int32, y = l2_27 + (-1 : Int32) := ⟨_, rfl⟩
            have he := zn_e ex34 he
            refine lv_iinc (v := x34) (lv' := [(2, .int x34), (0, .ref a_this), (1, .int p1)]) hx hb dX8_said_132 hl (k := 2) rfl (by rw [ex34]; rfl) (by decide) rfl (fun ls hl => ?_)
            refine lv_goto (tgt := 37) hx hb dX8_said_135 (by decide) ?_
            exact (hWW _ _ _ _).mp (hagain30 x34 g_ahead_33 g_now_32 he) _ _ _ hP hD hS (lv_sub hl [1, 2, 0] rfl)
          refine (hWW _ _ _ _).mp (zl2_w he (fun (l3_36 : Int32) (g_ahead_37 : Nat → Int32) => WW [(a_this, .inr (8, [.ref a_this_s, .ref a_this_image, .ref a_this_was, .int v_hasImage, .ref a_this_letters, .ref a_this_row, .ref a_this_refused, .int v_letterMany, .int v_rowMany, .int v_place, .ref a_this_numbers, .ref a_this_least, .ref a_this_stepsFrom, .ref a_this_most, .ref a_this_next, .ref a_this_otherSteps, .ref a_this_ahead, .ref a_this_now, .int v_seed])), (a_this_ahead, .inl (cZ, 180, .inl g_ahead_37)), (a_this_now, .inl (cZ, 180, .inl g_now_32)), (a_this_refused, .inl (cI, 7, .inl g_refused)), (a_this_row, .inl (cI, 20, .inl g_row)), (a_this_s, .inl (cI, 39, .inl g_s))] [(0, .ref a_this), (1, .int p1), (2, .int l2_27), (3, .int l3_36)] 107 []) (fun l3_36 g_ahead_37 again38 hagain38 he => (hWW _ _ _ _).mpr (fun H locs ls hP hD hS hl => ?_))) _ _ _ hP hD hS (lv_sub hl [1, 2, 3, 0] rfl)
          refine lv_iload_n hx hb dX8_said_107 rfl (lv_at hl 3 rfl) ?_
          refine lv_sipush (v := (180 : Int32)) hx hb dX8_said_108 (by decide) ?_
          refine lv_icmp_ge (tgt := 132) hx hb dX8_said_111 (by decide) (fun c39 => ?_) (fun c39 => ?_)
          · have he := zif_t c39 he
            exact (hWW _ _ _ _).mp (hk35 g_ahead_37 he) _ _ _ hP hD hS (lv_sub hl [0, 1, 2] rfl)
          · have he := zif_f c39 he
            refine lv_aload_n hx hb dX8_said_114 rfl (lv_at hl 0 rfl) ?_
            refine va_get (D := (dC, dI)) (ci := 8) (v := .ref a_this_ahead) (C := RX8) (T := TX8) (N := 19) hx hb hts (by decide +kernel) hown hK hP 0 rfl rfl 16 (by decide) (hts (.fieldLink RX8 46 "LawOfCornersModel" "ahead" "[Z") (by decide +kernel)) (fun _ h9 => h9) rfl dX8_said_115 ?_
            refine lv_iload_n hx hb dX8_said_118 rfl (lv_at hl 3 rfl) ?_
            refine lv_aload_n hx hb dX8_said_119 rfl (lv_at hl 0 rfl) ?_
            refine va_get (D := (dC, dI)) (ci := 8) (v := .ref a_this_now) (C := RX8) (T := TX8) (N := 19) hx hb hts (by decide +kernel) hown hK hP 0 rfl rfl 17 (by decide) (hts (.fieldLink RX8 50 "LawOfCornersModel" "now" "[Z") (by decide +kernel)) (fun _ h9 => h9) rfl dX8_said_120 ?_
            refine lv_iload_n hx hb dX8_said_123 rfl (lv_at hl 3 rfl) ?_
            obtain ⟨hg40, he⟩ := zg_e he
            refine va_zald hx hb hK hP 2 1 rfl rfl hg40 dX8_said_124 ?_
            refine lv_topi (fun x41 ex41 => ?_)
            have he := zn_e ex41 he
            obtain ⟨hg42, he⟩ := zg_e he
            obtain ⟨hg43, he⟩ := zg_e he
            refine va_zast hx hb hK hP hD hS 1 1 rfl rfl hg42 dX8_said_125 (fun H locs hP hD hS => ?_)
            rw [(zvnar hg43)] at hP hD
            obtain ⟨g44, eg44⟩ : ∃ y : Nat → Int32, y = upd g_ahead_37 l3_36.toNatClampNeg x41 := ⟨_, rfl⟩
            have he := zn_e eg44 he
            have hP : va_P (dC, dI) vwCl [(a_this, .inr (8, [.ref a_this_s, .ref a_this_image, .ref a_this_was, .int v_hasImage, .ref a_this_letters, .ref a_this_row, .ref a_this_refused, .int v_letterMany, .int v_rowMany, .int v_place, .ref a_this_numbers, .ref a_this_least, .ref a_this_stepsFrom, .ref a_this_most, .ref a_this_next, .ref a_this_otherSteps, .ref a_this_ahead, .ref a_this_now, .int v_seed])), (a_this_ahead, .inl (cZ, 180, .inl g44)), (a_this_now, .inl (cZ, 180, .inl g_now_32)), (a_this_refused, .inl (cI, 7, .inl g_refused)), (a_this_row, .inl (cI, 20, .inl g_row)), (a_this_s, .inl (cI, 39, .inl g_s))] H := by rw [eg44]; exact hP
            have hD : va_D A [(a_this, .inr (8, [.ref a_this_s, .ref a_this_image, .ref a_this_was, .int v_hasImage, .ref a_this_letters, .ref a_this_row, .ref a_this_refused, .int v_letterMany, .int v_rowMany, .int v_place, .ref a_this_numbers, .ref a_this_least, .ref a_this_stepsFrom, .ref a_this_most, .ref a_this_next, .ref a_this_otherSteps, .ref a_this_ahead, .ref a_this_now, .int v_seed])), (a_this_ahead, .inl (cZ, 180, .inl g44)), (a_this_now, .inl (cZ, 180, .inl g_now_32)), (a_this_refused, .inl (cI, 7, .inl g_refused)), (a_this_row, .inl (cI, 20, .inl g_row)), (a_this_s, .inl (cI, 39, .inl g_s))] := by rw [eg44]; exact hD
            obtain ⟨x45, ex45⟩ : ∃ y : Int32, y = l3_36 + (1 : Int32) := ⟨_, rfl⟩
            have he := zn_e ex45 he
            refine lv_iinc (v := x45) (lv' := [(3, .int x45), (0, .ref a_this), (1, .int p1), (2, .int l2_27)]) hx hb dX8_said_126 hl (k := 3) rfl (by rw [ex45]; rfl) (by decide) rfl (fun ls hl => ?_)
            refine lv_goto (tgt := 107) hx hb dX8_said_129 (by decide) ?_
            exact (hWW _ _ _ _).mp (hagain38 x45 g44 he) _ _ _ hP hD hS (lv_sub hl [1, 2, 3, 0] rfl)
        refine (hWW _ _ _ _).mp (zl2_w he (fun (l3_47 : Int32) (g_now_48 : Nat → Int32) => WW [(a_this, .inr (8, [.ref a_this_s, .ref a_this_image, .ref a_this_was, .int v_hasImage, .ref a_this_letters, .ref a_this_row, .ref a_this_refused, .int v_letterMany, .int v_rowMany, .int v_place, .ref a_this_numbers, .ref a_this_least, .ref a_this_stepsFrom, .ref a_this_most, .ref a_this_next, .ref a_this_otherSteps, .ref a_this_ahead, .ref a_this_now, .int v_seed])), (a_this_ahead, .inl (cZ, 180, .inl g_ahead_28)), (a_this_now, .inl (cZ, 180, .inl g_now_48)), (a_this_refused, .inl (cI, 7, .inl g_refused)), (a_this_row, .inl (cI, 20, .inl g_row)), (a_this_s, .inl (cI, 39, .inl g_s))] [(0, .ref a_this), (1, .int p1), (2, .int l2_27), (3, .int l3_47)] 43 []) (fun l3_47 g_now_48 again49 hagain49 he => (hWW _ _ _ _).mpr (fun H locs ls hP hD hS hl => ?_))) _ _ _ hP hD hS (lv_sub hl [1, 2, 3, 0] rfl)
        refine lv_iload_n hx hb dX8_said_43 rfl (lv_at hl 3 rfl) ?_
        refine lv_bipush (v := (36 : Int32)) hx hb dX8_said_44 (by decide) ?_
        refine lv_icmp_ge (tgt := 105) hx hb dX8_said_46 (by decide) (fun c50 => ?_) (fun c50 => ?_)
        · have he := zif_t c50 he
          exact (hWW _ _ _ _).mp (hk46 g_now_48 he) _ _ _ hP hD hS (lv_sub hl [0, 1, 2] rfl)
        · have he := zif_f c50 he
          refine lv_iconst (v := (0 : Int32)) hx hb dX8_said_49 (by decide) ?_
          refine lv_istore (lv' := [(4, .int (0 : Int32)), (0, .ref a_this), (1, .int p1), (2, .int l2_27), (3, .int l3_47)]) hx hb dX8_said_50 hl (by decide) rfl (fun ls hl => ?_)
          refine zj1_w he (fun (g_now_51 : Nat → Int32) => WW [(a_this, .inr (8, [.ref a_this_s, .ref a_this_image, .ref a_this_was, .int v_hasImage, .ref a_this_letters, .ref a_this_row, .ref a_this_refused, .int v_letterMany, .int v_rowMany, .int v_place, .ref a_this_numbers, .ref a_this_least, .ref a_this_stepsFrom, .ref a_this_most, .ref a_this_next, .ref a_this_otherSteps, .ref a_this_ahead, .ref a_this_now, .int v_seed])), (a_this_ahead, .inl (cZ, 180, .inl g_ahead_28)), (a_this_now, .inl (cZ, 180, .inl g_now_51)), (a_this_refused, .inl (cI, 7, .inl g_refused)), (a_this_row, .inl (cI, 20, .inl g_row)), (a_this_s, .inl (cI, 39, .inl g_s))] [(0, .ref a_this), (1, .int p1), (2, .int l2_27), (3, .int l3_47)] 99 []) (fun g_now_51 he => (hWW _ _ _ _).mpr (fun H locs ls hP hD hS hl => ?_)) (fun k53 hk53 he => ?_)
          · obtain ⟨x52, ex52⟩ : ∃ y : Int32, y = l3_47 + (1 : Int32) := ⟨_, rfl⟩
            have he := zn_e ex52 he
            refine lv_iinc (v := x52) (lv' := [(3, .int x52), (0, .ref a_this), (1, .int p1), (2, .int l2_27)]) hx hb dX8_said_99 hl (k := 3) rfl (by rw [ex52]; rfl) (by decide) rfl (fun ls hl => ?_)
            refine lv_goto (tgt := 43) hx hb dX8_said_102 (by decide) ?_
            exact (hWW _ _ _ _).mp (hagain49 x52 g_now_51 he) _ _ _ hP hD hS (lv_sub hl [1, 2, 3, 0] rfl)
          refine (hWW _ _ _ _).mp (zl2_w he (fun (l4_54 : Int32) (g_now_55 : Nat → Int32) => WW [(a_this, .inr (8, [.ref a_this_s, .ref a_this_image, .ref a_this_was, .int v_hasImage, .ref a_this_letters, .ref a_this_row, .ref a_this_refused, .int v_letterMany, .int v_rowMany, .int v_place, .ref a_this_numbers, .ref a_this_least, .ref a_this_stepsFrom, .ref a_this_most, .ref a_this_next, .ref a_this_otherSteps, .ref a_this_ahead, .ref a_this_now, .int v_seed])), (a_this_ahead, .inl (cZ, 180, .inl g_ahead_28)), (a_this_now, .inl (cZ, 180, .inl g_now_55)), (a_this_refused, .inl (cI, 7, .inl g_refused)), (a_this_row, .inl (cI, 20, .inl g_row)), (a_this_s, .inl (cI, 39, .inl g_s))] [(0, .ref a_this), (1, .int p1), (2, .int l2_27), (3, .int l3_47), (4, .int l4_54)] 52 []) (fun l4_54 g_now_55 again56 hagain56 he => (hWW _ _ _ _).mpr (fun H locs ls hP hD hS hl => ?_))) _ _ _ hP hD hS (lv_sub hl [1, 2, 3, 4, 0] rfl)
          refine lv_iload hx hb dX8_said_52 (lv_at hl 4 rfl) ?_
          refine lv_iconst (v := (4 : Int32)) hx hb dX8_said_54 (by decide) ?_
          refine lv_icmp_gt (tgt := 99) hx hb dX8_said_55 (by decide) (fun c57 => ?_) (fun c57 => ?_)
          · have he := zif_t c57 he
            exact (hWW _ _ _ _).mp (hk53 g_now_55 he) _ _ _ hP hD hS (lv_sub hl [0, 1, 2, 3] rfl)
          · have he := zif_f c57 he
            refine lv_aload_n hx hb dX8_said_58 rfl (lv_at hl 0 rfl) ?_
            refine va_get (D := (dC, dI)) (ci := 8) (v := .ref a_this_now) (C := RX8) (T := TX8) (N := 19) hx hb hts (by decide +kernel) hown hK hP 0 rfl rfl 17 (by decide) (hts (.fieldLink RX8 50 "LawOfCornersModel" "now" "[Z") (by decide +kernel)) (fun _ h9 => h9) rfl dX8_said_59 ?_
            refine lv_iload_n hx hb dX8_said_62 rfl (lv_at hl 3 rfl) ?_
            refine lv_iload hx hb dX8_said_63 (lv_at hl 4 rfl) ?_
            obtain ⟨r58, hf59, he⟩ := zb1_e he
            refine zc_i (wr := [(a_this, .inr (8, [.ref a_this_s, .ref a_this_image, .ref a_this_was, .int v_hasImage, .ref a_this_letters, .ref a_this_row, .ref a_this_refused, .int v_letterMany, .int v_rowMany, .int v_place, .ref a_this_numbers, .ref a_this_least, .ref a_this_stepsFrom, .ref a_this_most, .ref a_this_next, .ref a_this_otherSteps, .ref a_this_ahead, .ref a_this_now, .int v_seed])), (a_this_ahead, .inl (cZ, 180, .inl g_ahead_28)), (a_this_now, .inl (cZ, 180, .inl g_now_55)), (a_this_refused, .inl (cI, 7, .inl g_refused)), (a_this_row, .inl (cI, 20, .inl g_row)), (a_this_s, .inl (cI, 39, .inl g_s))]) (ws' := [(a_this, .inr (8, [.ref a_this_s, .ref a_this_image, .ref a_this_was, .int v_hasImage, .ref a_this_letters, .ref a_this_row, .ref a_this_refused, .int v_letterMany, .int v_rowMany, .int v_place, .ref a_this_numbers, .ref a_this_least, .ref a_this_stepsFrom, .ref a_this_most, .ref a_this_next, .ref a_this_otherSteps, .ref a_this_ahead, .ref a_this_now, .int v_seed])), (a_this_ahead, .inl (cZ, 180, .inl g_ahead_28)), (a_this_now, .inl (cZ, 180, .inl g_now_55)), (a_this_refused, .inl (cI, 7, .inl g_refused)), (a_this_row, .inl (cI, 20, .inl g_row)), (a_this_s, .inl (cI, 39, .inl g_s))]) (va_runS (As := [.int l3_47, .int l4_54]) (rest := [.ref a_this_now]) ⟨hx, hb, hml, hown, hts⟩ (k_M_at l dC dI cI cZ tt sd H.size l3_47 l4_54 r58 hf59) (va_cwS 2 hts gX8_said_X8_at rfl rfl rfl (by decide +kernel) ⟨Nat.le_of_ble_eq_true rfl, Nat.le_of_ble_eq_true rfl⟩) (zpS hP hD hK hS hA hZ [] rfl rfl) rfl rfl hl.1 rfl (lv_room (Nat.le_of_ble_eq_true rfl)) dX8_said_65 ⟨Nat.zero_le _, Nat.zero_le _⟩) hP hD hS hA [] [0, 1, 2, 3, 4, 5] [0, 1, 2, 3, 4, 5] rfl rfl rfl (by decide) rfl rfl rfl (fun H locs hP hD hS => ?_)
            refine lv_aload_n hx hb dX8_said_68 rfl (lv_at hl 0 rfl) ?_
            refine lv_iload_n hx hb dX8_said_69 rfl (lv_at hl 3 rfl) ?_
            obtain ⟨r60, hf61, he⟩ := zb1_e he
            refine zc_i (wr := [(a_this_ahead, .inl (cZ, 180, .inl g_ahead_28)), (a_this_now, .inl (cZ, 180, .inl g_now_55)), (a_this_refused, .inl (cI, 7, .inl g_refused)), (a_this_row, .inl (cI, 20, .inl g_row))]) (ws' := [(a_this, .inr (8, [.ref a_this_s, .ref a_this_image, .ref a_this_was, .int v_hasImage, .ref a_this_letters, .ref a_this_row, .ref a_this_refused, .int v_letterMany, .int v_rowMany, .int v_place, .ref a_this_numbers, .ref a_this_least, .ref a_this_stepsFrom, .ref a_this_most, .ref a_this_next, .ref a_this_otherSteps, .ref a_this_ahead, .ref a_this_now, .int v_seed])), (a_this_ahead, .inl (cZ, 180, .inl g_ahead_28)), (a_this_now, .inl (cZ, 180, .inl g_now_55)), (a_this_refused, .inl (cI, 7, .inl g_refused)), (a_this_row, .inl (cI, 20, .inl g_row)), (a_this_s, .inl (cI, 39, .inl g_s))]) (va_runV (As := [.int l3_47]) (rest := [.int r58, .ref a_this_now]) ⟨hx, hb, hml, hown, hts⟩ (k_M_canBe l dC dI cI cZ tt sd a_this a_this_s a_this_image a_this_was a_this_letters a_this_row a_this_refused a_this_numbers a_this_least a_this_stepsFrom a_this_most a_this_next a_this_otherSteps a_this_ahead a_this_now H.size v_hasImage v_letterMany v_rowMany v_place v_seed g_s l3_47 r60 hf61) (cwV 1 hts gX8_said_X8_canBe rfl rfl rfl (by decide +kernel) ⟨Nat.le_of_ble_eq_true rfl, Nat.le_of_ble_eq_true rfl⟩) (zpV hP hD hK hS hA hZ [0, 5] rfl rfl 8 0 rfl rfl) rfl rfl hl.1 rfl (lv_room (Nat.le_of_ble_eq_true rfl)) dX8_said_70 ⟨Nat.zero_le _, Nat.zero_le _⟩) hP hD hS hA [0, 5] [1, 2, 3, 4] [4, 0, 1, 2, 3, 5] rfl rfl rfl (by decide) rfl rfl rfl (fun H locs hP hD hS => ?_)
            refine zj1_w he (fun (s62 : Int32) => WW [(a_this, .inr (8, [.ref a_this_s, .ref a_this_image, .ref a_this_was, .int v_hasImage, .ref a_this_letters, .ref a_this_row, .ref a_this_refused, .int v_letterMany, .int v_rowMany, .int v_place, .ref a_this_numbers, .ref a_this_least, .ref a_this_stepsFrom, .ref a_this_most, .ref a_this_next, .ref a_this_otherSteps, .ref a_this_ahead, .ref a_this_now, .int v_seed])), (a_this_ahead, .inl (cZ, 180, .inl g_ahead_28)), (a_this_now, .inl (cZ, 180, .inl g_now_55)), (a_this_refused, .inl (cI, 7, .inl g_refused)), (a_this_row, .inl (cI, 20, .inl g_row)), (a_this_s, .inl (cI, 39, .inl g_s))] [(0, .ref a_this), (1, .int p1), (2, .int l2_27), (3, .int l3_47), (4, .int l4_54)] 92 [.int s62, .int r58, .ref a_this_now]) (fun s62 he => (hWW _ _ _ _).mpr (fun H locs ls hP hD hS hl => ?_)) (fun k67 hk67 he => ?_)
            · obtain ⟨hg63, he⟩ := zg_e he
              obtain ⟨hg64, he⟩ := zg_e he
              refine va_zast hx hb hK hP hD hS 2 1 rfl rfl hg63 dX8_said_92 (fun H locs hP hD hS => ?_)
              rw [(zvnar hg64)] at hP hD
              obtain ⟨g65, eg65⟩ : ∃ y : Nat → Int32, y = upd g_now_55 r58.toNatClampNeg s62 := ⟨_, rfl⟩
              have he := zn_e eg65 he
              have hP : va_P (dC, dI) vwCl [(a_this, .inr (8, [.ref a_this_s, .ref a_this_image, .ref a_this_was, .int v_hasImage, .ref a_this_letters, .ref a_this_row, .ref a_this_refused, .int v_letterMany, .int v_rowMany, .int v_place, .ref a_this_numbers, .ref a_this_least, .ref a_this_stepsFrom, .ref a_this_most, .ref a_this_next, .ref a_this_otherSteps, .ref a_this_ahead, .ref a_this_now, .int v_seed])), (a_this_ahead, .inl (cZ, 180, .inl g_ahead_28)), (a_this_now, .inl (cZ, 180, .inl g65)), (a_this_refused, .inl (cI, 7, .inl g_refused)), (a_this_row, .inl (cI, 20, .inl g_row)), (a_this_s, .inl (cI, 39, .inl g_s))] H := by rw [eg65]; exact hP
              have hD : va_D A [(a_this, .inr (8, [.ref a_this_s, .ref a_this_image, .ref a_this_was, .int v_hasImage, .ref a_this_letters, .ref a_this_row, .ref a_this_refused, .int v_letterMany, .int v_rowMany, .int v_place, .ref a_this_numbers, .ref a_this_least, .ref a_this_stepsFrom, .ref a_this_most, .ref a_this_next, .ref a_this_otherSteps, .ref a_this_ahead, .ref a_this_now, .int v_seed])), (a_this_ahead, .inl (cZ, 180, .inl g_ahead_28)), (a_this_now, .inl (cZ, 180, .inl g65)), (a_this_refused, .inl (cI, 7, .inl g_refused)), (a_this_row, .inl (cI, 20, .inl g_row)), (a_this_s, .inl (cI, 39, .inl g_s))] := by rw [eg65]; exact hD
              obtain ⟨x66, ex66⟩ : ∃ y : Int32, y = l4_54 + (1 : Int32) := ⟨_, rfl⟩
              have he := zn_e ex66 he
              refine lv_iinc (v := x66) (lv' := [(4, .int x66), (0, .ref a_this), (1, .int p1), (2, .int l2_27), (3, .int l3_47)]) hx hb dX8_said_93 hl (k := 4) rfl (by rw [ex66]; rfl) (by decide) rfl (fun ls hl => ?_)
              refine lv_goto (tgt := 52) hx hb dX8_said_96 (by decide) ?_
              exact (hWW _ _ _ _).mp (hagain56 x66 g65 he) _ _ _ hP hD hS (lv_sub hl [1, 2, 3, 4, 0] rfl)
            refine zj1_w he (fun (_ : Unit) => WW [(a_this, .inr (8, [.ref a_this_s, .ref a_this_image, .ref a_this_was, .int v_hasImage, .ref a_this_letters, .ref a_this_row, .ref a_this_refused, .int v_letterMany, .int v_rowMany, .int v_place, .ref a_this_numbers, .ref a_this_least, .ref a_this_stepsFrom, .ref a_this_most, .ref a_this_next, .ref a_this_otherSteps, .ref a_this_ahead, .ref a_this_now, .int v_seed])), (a_this_ahead, .inl (cZ, 180, .inl g_ahead_28)), (a_this_now, .inl (cZ, 180, .inl g_now_55)), (a_this_refused, .inl (cI, 7, .inl g_refused)), (a_this_row, .inl (cI, 20, .inl g_row)), (a_this_s, .inl (cI, 39, .inl g_s))] [(0, .ref a_this), (1, .int p1), (2, .int l2_27), (3, .int l3_47), (4, .int l4_54)] 91 [.int r58, .ref a_this_now]) (fun _ he => (hWW _ _ _ _).mpr (fun H locs ls hP hD hS hl => ?_)) (fun k68 hk68 he => ?_)
            · refine lv_iconst (v := (0 : Int32)) hx hb dX8_said_91 (by decide) ?_
              exact (hWW _ _ _ _).mp (hk67 (0 : Int32) he) _ _ _ hP hD hS (lv_sub hl [0, 1, 2, 3, 4] rfl)
            refine lv_if_eq (tgt := 91) hx hb dX8_said_73 (by decide) (fun c69 => ?_) (fun c69 => ?_)
            · have he := zif_t c69 he
              exact (hWW _ _ _ _).mp (hk68 () he) _ _ _ hP hD hS (lv_sub hl [0, 1, 2, 3, 4] rfl)
            · have he := zif_f c69 he
              refine lv_aload_n hx hb dX8_said_76 rfl (lv_at hl 0 rfl) ?_
              refine lv_iload_n hx hb dX8_said_77 rfl (lv_at hl 3 rfl) ?_
              refine lv_iload hx hb dX8_said_78 (lv_at hl 4 rfl) ?_
              refine lv_iload_n hx hb dX8_said_80 rfl (lv_at hl 2 rfl) ?_
              obtain ⟨r70, hf71, he⟩ := zb1_e he
              refine zc_i (wr := [(a_this_now, .inl (cZ, 180, .inl g_now_55)), (a_this_refused, .inl (cI, 7, .inl g_refused))]) (ws' := [(a_this, .inr (8, [.ref a_this_s, .ref a_this_image, .ref a_this_was, .int v_hasImage, .ref a_this_letters, .ref a_this_row, .ref a_this_refused, .int v_letterMany, .int v_rowMany, .int v_place, .ref a_this_numbers, .ref a_this_least, .ref a_this_stepsFrom, .ref a_this_most, .ref a_this_next, .ref a_this_otherSteps, .ref a_this_ahead, .ref a_this_now, .int v_seed])), (a_this_ahead, .inl (cZ, 180, .inl g_ahead_28)), (a_this_now, .inl (cZ, 180, .inl g_now_55)), (a_this_refused, .inl (cI, 7, .inl g_refused)), (a_this_row, .inl (cI, 20, .inl g_row)), (a_this_s, .inl (cI, 39, .inl g_s))]) (va_runV (As := [.int l3_47, .int l4_54, .int l2_27]) (rest := [.int r58, .ref a_this_now]) ⟨hx, hb, hml, hown, hts⟩ (k_M_canBeSaid l dC dI cI cZ tt sd a_this a_this_s a_this_image a_this_was a_this_letters a_this_row a_this_refused a_this_numbers a_this_least a_this_stepsFrom a_this_most a_this_next a_this_otherSteps a_this_ahead a_this_now H.size v_hasImage v_letterMany v_rowMany v_place v_seed g_ahead_28 g_row g_s l3_47 l4_54 l2_27 r70 hf71) (cwV 3 hts gX8_said_X8_canBeSaid rfl rfl rfl (by decide +kernel) ⟨Nat.le_of_ble_eq_true rfl, Nat.le_of_ble_eq_true rfl⟩) (zpV hP hD hK hS hA hZ [0, 1, 4, 5] rfl rfl 8 0 rfl rfl) rfl rfl hl.1 rfl (lv_room (Nat.le_of_ble_eq_true rfl)) dX8_said_81 ⟨Nat.zero_le _, Nat.zero_le _⟩) hP hD hS hA [0, 1, 4, 5] [2, 3] [2, 3, 0, 1, 4, 5] rfl rfl rfl (by decide) rfl rfl rfl (fun H locs hP hD hS => ?_)
              refine lv_if_eq (tgt := 91) hx hb dX8_said_84 (by decide) (fun c72 => ?_) (fun c72 => ?_)
              · have he := zif_t c72 he
                exact (hWW _ _ _ _).mp (hk68 () he) _ _ _ hP hD hS (lv_sub hl [0, 1, 2, 3, 4] rfl)
              · have he := zif_f c72 he
                refine lv_iconst (v := (1 : Int32)) hx hb dX8_said_87 (by decide) ?_
                refine lv_goto (tgt := 92) hx hb dX8_said_88 (by decide) ?_
                exact (hWW _ _ _ _).mp (hk67 (1 : Int32) he) _ _ _ hP hD hS (lv_sub hl [0, 1, 2, 3, 4] rfl)
    · have he := zif_t c4 he
      refine lv_aload_n hx hb dX8_said_23 rfl (lv_at hl 0 rfl) ?_
      refine lv_bipush (v := (-3 : Int32)) hx hb dX8_said_24 (by decide) ?_
      obtain ⟨r73, g_refused_74, hf75, he⟩ := zb2_e he
      refine zc_i (wr := [(a_this_ahead, .inl (cZ, 180, .inl g_ahead)), (a_this_now, .inl (cZ, 180, .inl g_now)), (a_this_row, .inl (cI, 20, .inl g_row)), (a_this_s, .inl (cI, 39, .inl g_s))]) (ws' := [(a_this, .inr (8, [.ref a_this_s, .ref a_this_image, .ref a_this_was, .int v_hasImage, .ref a_this_letters, .ref a_this_row, .ref a_this_refused, .int v_letterMany, .int v_rowMany, .int v_place, .ref a_this_numbers, .ref a_this_least, .ref a_this_stepsFrom, .ref a_this_most, .ref a_this_next, .ref a_this_otherSteps, .ref a_this_ahead, .ref a_this_now, .int v_seed])), (a_this_ahead, .inl (cZ, 180, .inl g_ahead)), (a_this_now, .inl (cZ, 180, .inl g_now)), (a_this_refused, .inl (cI, 7, .inl g_refused_74)), (a_this_row, .inl (cI, 20, .inl g_row)), (a_this_s, .inl (cI, 39, .inl g_s))]) (va_runV (As := [.int (-3 : Int32)]) (rest := []) ⟨hx, hb, hml, hown, hts⟩ (k_M_no l dC dI cI cZ tt sd a_this a_this_s a_this_image a_this_was a_this_letters a_this_row a_this_refused a_this_numbers a_this_least a_this_stepsFrom a_this_most a_this_next a_this_otherSteps a_this_ahead a_this_now H.size v_hasImage v_letterMany v_rowMany v_place v_seed g_refused (-3 : Int32) r73 g_refused_74 hf75) (cwV 1 hts gX8_said_X8_no rfl rfl rfl (by decide +kernel) ⟨Nat.le_of_ble_eq_true rfl, Nat.le_of_ble_eq_true rfl⟩) (zpV hP hD hK hS hA hZ [0, 3] rfl rfl 8 0 rfl rfl) rfl rfl hl.1 rfl (lv_room (Nat.le_of_ble_eq_true rfl)) dX8_said_26 ⟨Nat.zero_le _, Nat.zero_le _⟩) hP hD hS hA [0, 3] [1, 2, 4, 5] [4, 0, 1, 5, 2, 3] rfl rfl rfl (by decide) rfl rfl rfl (fun H locs hP hD hS => ?_)
      obtain ⟨rfl, rfl, rfl, rfl⟩ := zi4 he
      exact W.iret hx hb hr (fun t ht hW => ⟨⟨_, (), rfl, rfl, by rw [ht]; exact hP, va_K.moved hW.alike hK, hD⟩, hS.F ht⟩) hS.2.2 dX8_said_29
  · have he := zif_t c3 he
    refine lv_aload_n hx hb dX8_said_9 rfl (lv_at hl 0 rfl) ?_
    refine lv_bipush (v := (-2 : Int32)) hx hb dX8_said_10 (by decide) ?_
    obtain ⟨r76, g_refused_77, hf78, he⟩ := zb2_e he
    refine zc_i (wr := [(a_this_ahead, .inl (cZ, 180, .inl g_ahead)), (a_this_now, .inl (cZ, 180, .inl g_now)), (a_this_row, .inl (cI, 20, .inl g_row)), (a_this_s, .inl (cI, 39, .inl g_s))]) (ws' := [(a_this, .inr (8, [.ref a_this_s, .ref a_this_image, .ref a_this_was, .int v_hasImage, .ref a_this_letters, .ref a_this_row, .ref a_this_refused, .int v_letterMany, .int v_rowMany, .int v_place, .ref a_this_numbers, .ref a_this_least, .ref a_this_stepsFrom, .ref a_this_most, .ref a_this_next, .ref a_this_otherSteps, .ref a_this_ahead, .ref a_this_now, .int v_seed])), (a_this_ahead, .inl (cZ, 180, .inl g_ahead)), (a_this_now, .inl (cZ, 180, .inl g_now)), (a_this_refused, .inl (cI, 7, .inl g_refused_77)), (a_this_row, .inl (cI, 20, .inl g_row)), (a_this_s, .inl (cI, 39, .inl g_s))]) (va_runV (As := [.int (-2 : Int32)]) (rest := []) ⟨hx, hb, hml, hown, hts⟩ (k_M_no l dC dI cI cZ tt sd a_this a_this_s a_this_image a_this_was a_this_letters a_this_row a_this_refused a_this_numbers a_this_least a_this_stepsFrom a_this_most a_this_next a_this_otherSteps a_this_ahead a_this_now H.size v_hasImage v_letterMany v_rowMany v_place v_seed g_refused (-2 : Int32) r76 g_refused_77 hf78) (cwV 1 hts gX8_said_X8_no rfl rfl rfl (by decide +kernel) ⟨Nat.le_of_ble_eq_true rfl, Nat.le_of_ble_eq_true rfl⟩) (zpV hP hD hK hS hA hZ [0, 3] rfl rfl 8 0 rfl rfl) rfl rfl hl.1 rfl (lv_room (Nat.le_of_ble_eq_true rfl)) dX8_said_12 ⟨Nat.zero_le _, Nat.zero_le _⟩) hP hD hS hA [0, 3] [1, 2, 4, 5] [4, 0, 1, 5, 2, 3] rfl rfl rfl (by decide) rfl rfl rfl (fun H locs hP hD hS => ?_)
    obtain ⟨rfl, rfl, rfl, rfl⟩ := zi4 he
    exact W.iret hx hb hr (fun t ht hW => ⟨⟨_, (), rfl, rfl, by rw [ht]; exact hP, va_K.moved hW.alike hK, hD⟩, hS.F ht⟩) hS.2.2 dX8_said_15
set_option maxHeartbeats 4000000 in
set_option maxRecDepth 100000 in
theorem k_M_row (l : Launch) (dC : Nat → ClassId) (dI : Nat → Nat → Nat) (cI : ClassId) (cZ : ClassId) (tt : Nat → Nat) (sd : Nat → Nat) (a_this : Nat) (a_this_s : Nat) (a_this_image : Nat) (a_this_was : Nat) (a_this_letters : Nat) (a_this_row : Nat) (a_this_refused : Nat) (a_this_numbers : Nat) (a_this_least : Nat) (a_this_stepsFrom : Nat) (a_this_most : Nat) (a_this_next : Nat) (a_this_otherSteps : Nat) (a_this_ahead : Nat) (a_this_now : Nat) (sz : Nat) (v_hasImage : Int32) (v_letterMany : Int32) (v_rowMany : Int32) (v_place : Int32) (v_seed : Int32) (g_refused : Nat → Int32) (g_row : Nat → Int32) (p1 : Int32) (r0 : Int32) (w0 : Int32) (w1 : Nat → Int32) (w2 : Nat → Int32) (hf : f_M_row v_rowMany g_refused g_row p1 = some (r0, w0, w1, w2)) : Met l yX8_row wsX8_row ({ frames := 1, cells := 0, slots := 0, locals := 21 }) (zPre (dC, dI) vwCl [(cI, .int), (cZ, .boolean)] tt sd [.ref a_this, .int p1] [(a_this, .inr (8, [.ref a_this_s, .ref a_this_image, .ref a_this_was, .int v_hasImage, .ref a_this_letters, .ref a_this_row, .ref a_this_refused, .int v_letterMany, .int v_rowMany, .int v_place, .ref a_this_numbers, .ref a_this_least, .ref a_this_stepsFrom, .ref a_this_most, .ref a_this_next, .ref a_this_otherSteps, .ref a_this_ahead, .ref a_this_now, .int v_seed])), (a_this_refused, .inl (cI, 7, .inl g_refused)), (a_this_row, .inl (cI, 20, .inl g_row))] sz) (zQi (dC, dI) vwCl [(cI, .int), (cZ, .boolean)] r0 [(a_this, .inr (8, [.ref a_this_s, .ref a_this_image, .ref a_this_was, .int v_hasImage, .ref a_this_letters, .ref a_this_row, .ref a_this_refused, .int v_letterMany, .int w0, .int v_place, .ref a_this_numbers, .ref a_this_least, .ref a_this_stepsFrom, .ref a_this_most, .ref a_this_next, .ref a_this_otherSteps, .ref a_this_ahead, .ref a_this_now, .int v_seed])), (a_this_refused, .inl (cI, 7, .inl w1)), (a_this_row, .inl (cI, 20, .inl w2))] (va_A [(a_this, .inr (8, [.ref a_this_s, .ref a_this_image, .ref a_this_was, .int v_hasImage, .ref a_this_letters, .ref a_this_row, .ref a_this_refused, .int v_letterMany, .int v_rowMany, .int v_place, .ref a_this_numbers, .ref a_this_least, .ref a_this_stepsFrom, .ref a_this_most, .ref a_this_next, .ref a_this_otherSteps, .ref a_this_ahead, .ref a_this_now, .int v_seed])), (a_this_refused, .inl (cI, 7, .inl g_refused)), (a_this_row, .inl (cI, 20, .inl g_row))] sz)) 0 0 (va_A [(a_this, .inr (8, [.ref a_this_s, .ref a_this_image, .ref a_this_was, .int v_hasImage, .ref a_this_letters, .ref a_this_row, .ref a_this_refused, .int v_letterMany, .int v_rowMany, .int v_place, .ref a_this_numbers, .ref a_this_least, .ref a_this_stepsFrom, .ref a_this_most, .ref a_this_next, .ref a_this_otherSteps, .ref a_this_ahead, .ref a_this_now, .int v_seed])), (a_this_refused, .inl (cI, 7, .inl g_refused)), (a_this_row, .inl (cI, 20, .inl g_row))] sz) := by
  refine Met.ofW (cc := cX8_row) (maxL := 2) (ret := (some .int)) (by decide) rfl ?_
  intro p e s m args below meth c s₁ B hml hv
  obtain ⟨rfl, hsz, hP, hK, hD0, hZ⟩ := hv
  have hx := B.exec
  have hb := B.bytes
  have hr := B.returns
  have hts := atoms_spec (ws := wsX8_row) B.pre
  have hown : s.vm.findClass RX8 = some m.cls := findClass_of_methodNamed B.named
  have hlocks := B.notSynchronized
  subst hsz
  have hD := hD0.self (sz := s.heap.size)
  generalize hAe : va_A [(a_this, .inr (8, [.ref a_this_s, .ref a_this_image, .ref a_this_was, .int v_hasImage, .ref a_this_letters, .ref a_this_row, .ref a_this_refused, .int v_letterMany, .int v_rowMany, .int v_place, .ref a_this_numbers, .ref a_this_least, .ref a_this_stepsFrom, .ref a_this_most, .ref a_this_next, .ref a_this_otherSteps, .ref a_this_ahead, .ref a_this_now, .int v_seed])), (a_this_refused, .inl (cI, 7, .inl g_refused)), (a_this_row, .inl (cI, 20, .inl g_row))] s.heap.size = A at hD hZ ⊢
  have hA : ∀ q : Nat, s.heap.size ≤ q → A q := fun q h => by rw [← hAe]; exact Or.inr h
  have hS : va_S A s.heap s.heap [] := va_S.rf
  have hP : va_P (dC, dI) vwCl [(a_this, .inr (8, [.ref a_this_s, .ref a_this_image, .ref a_this_was, .int v_hasImage, .ref a_this_letters, .ref a_this_row, .ref a_this_refused, .int v_letterMany, .int v_rowMany, .int v_place, .ref a_this_numbers, .ref a_this_least, .ref a_this_stepsFrom, .ref a_this_most, .ref a_this_next, .ref a_this_otherSteps, .ref a_this_ahead, .ref a_this_now, .int v_seed])), (a_this_refused, .inl (cI, 7, .inl g_refused)), (a_this_row, .inl (cI, 20, .inl g_row))] s.heap := hP
  have hl := lv_entry ([.ref a_this, .int p1]) (n := 2) (Nat.le_of_ble_eq_true rfl)
  rw [lg_entry_eq]
  generalize (lg_sl ([.ref a_this, .int p1]) ++ List.replicate (2 - (lg_sl ([.ref a_this, .int p1])).length) Slot.unset).toArray = ls at hl ⊢
  have hl : lv_has ls 2 [(0, .ref a_this), (1, .int p1)] := hl
  have he := hf
  unfold f_M_row at he
  refine zstart (D := (dC, dI)) (cl := vwCl) (A := A) (nL := 2) (fun WW hWW => ?_)
  refine lv_iload_n hx hb dX8_row_0 rfl (lv_at hl 1 rfl) ?_
  refine lv_if_ge (tgt := 11) hx hb dX8_row_1 (by decide) (fun c1 => ?_) (fun c1 => ?_)
  · have he := zif_t c1 he
    refine lv_iload_n hx hb dX8_row_11 rfl (lv_at hl 1 rfl) ?_
    refine lv_bipush (v := (9 : Int32)) hx hb dX8_row_12 (by decide) ?_
    refine zj1_w he (fun (_ : Unit) => WW [(a_this, .inr (8, [.ref a_this_s, .ref a_this_image, .ref a_this_was, .int v_hasImage, .ref a_this_letters, .ref a_this_row, .ref a_this_refused, .int v_letterMany, .int v_rowMany, .int v_place, .ref a_this_numbers, .ref a_this_least, .ref a_this_stepsFrom, .ref a_this_most, .ref a_this_next, .ref a_this_otherSteps, .ref a_this_ahead, .ref a_this_now, .int v_seed])), (a_this_refused, .inl (cI, 7, .inl g_refused)), (a_this_row, .inl (cI, 20, .inl g_row))] [(0, .ref a_this)] 26 []) (fun _ he => (hWW _ _ _ _).mpr (fun H locs ls hP hD hS hl => ?_)) (fun k5 hk5 he => ?_)
    · refine lv_aload_n hx hb dX8_row_26 rfl (lv_at hl 0 rfl) ?_
      refine lv_bipush (v := (-6 : Int32)) hx hb dX8_row_27 (by decide) ?_
      obtain ⟨r2, g_refused_3, hf4, he⟩ := zb2_e he
      refine zc_i (wr := [(a_this_row, .inl (cI, 20, .inl g_row))]) (ws' := [(a_this, .inr (8, [.ref a_this_s, .ref a_this_image, .ref a_this_was, .int v_hasImage, .ref a_this_letters, .ref a_this_row, .ref a_this_refused, .int v_letterMany, .int v_rowMany, .int v_place, .ref a_this_numbers, .ref a_this_least, .ref a_this_stepsFrom, .ref a_this_most, .ref a_this_next, .ref a_this_otherSteps, .ref a_this_ahead, .ref a_this_now, .int v_seed])), (a_this_refused, .inl (cI, 7, .inl g_refused_3)), (a_this_row, .inl (cI, 20, .inl g_row))]) (va_runV (As := [.int (-6 : Int32)]) (rest := []) ⟨hx, hb, hml, hown, hts⟩ (k_M_no l dC dI cI cZ tt sd a_this a_this_s a_this_image a_this_was a_this_letters a_this_row a_this_refused a_this_numbers a_this_least a_this_stepsFrom a_this_most a_this_next a_this_otherSteps a_this_ahead a_this_now H.size v_hasImage v_letterMany v_rowMany v_place v_seed g_refused (-6 : Int32) r2 g_refused_3 hf4) (cwV 1 hts gX8_row_X8_no rfl rfl rfl (by decide +kernel) ⟨Nat.le_of_ble_eq_true rfl, Nat.le_of_ble_eq_true rfl⟩) (zpV hP hD hK hS hA hZ [0, 1] rfl rfl 8 0 rfl rfl) rfl rfl hl.1 rfl (lv_room (Nat.le_of_ble_eq_true rfl)) dX8_row_29 ⟨Nat.zero_le _, Nat.zero_le _⟩) hP hD hS hA [0, 1] [2] [1, 2, 0] rfl rfl rfl (by decide) rfl rfl rfl (fun H locs hP hD hS => ?_)
      obtain ⟨rfl, rfl, rfl, rfl⟩ := zi4 he
      exact W.iret hx hb hr (fun t ht hW => ⟨⟨_, (), rfl, rfl, by rw [ht]; exact hP, va_K.moved hW.alike hK, hD⟩, hS.F ht⟩) hS.2.2 dX8_row_32
    refine lv_icmp_gt (tgt := 26) hx hb dX8_row_14 (by decide) (fun c6 => ?_) (fun c6 => ?_)
    · have he := zif_t c6 he
      exact (hWW _ _ _ _).mp (hk5 () he) _ _ _ hP hD hS (lv_sub hl [0] rfl)
    · have he := zif_f c6 he
      refine lv_aload_n hx hb dX8_row_17 rfl (lv_at hl 0 rfl) ?_
      refine va_get (D := (dC, dI)) (ci := 8) (v := .int v_rowMany) (C := RX8) (T := TX8) (N := 19) hx hb hts (by decide +kernel) hown hK hP 0 rfl rfl 8 (by decide) (hts (.fieldLink RX8 125 "LawOfCornersModel" "rowMany" "I") (by decide +kernel)) (fun _ h9 => h9) rfl dX8_row_18 ?_
      refine lv_bipush (v := (20 : Int32)) hx hb dX8_row_21 (by decide) ?_
      refine lv_icmp_ne (tgt := 33) hx hb dX8_row_23 (by decide) (fun c7 => ?_) (fun c7 => ?_)
      · have he := zif_f c7 he
        refine lv_aload_n hx hb dX8_row_33 rfl (lv_at hl 0 rfl) ?_
        refine va_get (D := (dC, dI)) (ci := 8) (v := .ref a_this_row) (C := RX8) (T := TX8) (N := 19) hx hb hts (by decide +kernel) hown hK hP 0 rfl rfl 5 (by decide) (hts (.fieldLink RX8 22 "LawOfCornersModel" "row" "[I") (by decide +kernel)) (fun _ h9 => h9) rfl dX8_row_34 ?_
        refine lv_aload_n hx hb dX8_row_37 rfl (lv_at hl 0 rfl) ?_
        refine va_get (D := (dC, dI)) (ci := 8) (v := .int v_rowMany) (C := RX8) (T := TX8) (N := 19) hx hb hts (by decide +kernel) hown hK hP 0 rfl rfl 8 (by decide) (hts (.fieldLink RX8 125 "LawOfCornersModel" "rowMany" "I") (by decide +kernel)) (fun _ h9 => h9) rfl dX8_row_38 ?_
        refine lv_iload_n hx hb dX8_row_41 rfl (lv_at hl 1 rfl) ?_
        obtain ⟨hg8, he⟩ := zg_e he
        refine va_iast hx hb hK hP hD hS 2 0 rfl rfl hg8 dX8_row_42 (fun H locs hP hD hS => ?_)
        obtain ⟨g9, eg9⟩ : ∃ y : Nat → Int32, y = upd g_row v_rowMany.toNatClampNeg p1 := ⟨_, rfl⟩
        have he := zn_e eg9 he
        have hP : va_P (dC, dI) vwCl [(a_this, .inr (8, [.ref a_this_s, .ref a_this_image, .ref a_this_was, .int v_hasImage, .ref a_this_letters, .ref a_this_row, .ref a_this_refused, .int v_letterMany, .int v_rowMany, .int v_place, .ref a_this_numbers, .ref a_this_least, .ref a_this_stepsFrom, .ref a_this_most, .ref a_this_next, .ref a_this_otherSteps, .ref a_this_ahead, .ref a_this_now, .int v_seed])), (a_this_refused, .inl (cI, 7, .inl g_refused)), (a_this_row, .inl (cI, 20, .inl g9))] H := by rw [eg9]; exact hP
        have hD : va_D A [(a_this, .inr (8, [.ref a_this_s, .ref a_this_image, .ref a_this_was, .int v_hasImage, .ref a_this_letters, .ref a_this_row, .ref a_this_refused, .int v_letterMany, .int v_rowMany, .int v_place, .ref a_this_numbers, .ref a_this_least, .ref a_this_stepsFrom, .ref a_this_most, .ref a_this_next, .ref a_this_otherSteps, .ref a_this_ahead, .ref a_this_now, .int v_seed])), (a_this_refused, .inl (cI, 7, .inl g_refused)), (a_this_row, .inl (cI, 20, .inl g9))] := by rw [eg9]; exact hD
        refine lv_aload_n hx hb dX8_row_43 rfl (lv_at hl 0 rfl) ?_
        refine lv_dup hx hb dX8_row_44 rfl ?_
        refine va_get (D := (dC, dI)) (ci := 8) (v := .int v_rowMany) (C := RX8) (T := TX8) (N := 19) hx hb hts (by decide +kernel) hown hK hP 0 rfl rfl 8 (by decide) (hts (.fieldLink RX8 125 "LawOfCornersModel" "rowMany" "I") (by decide +kernel)) (fun _ h9 => h9) rfl dX8_row_45 ?_
        refine lv_iconst (v := (1 : Int32)) hx hb dX8_row_48 (by decide) ?_
        refine lv_iadd hx hb dX8_row_49 ?_
        refine lv_topi (fun x10 ex10 => ?_)
        have he := zn_e ex10 he
        refine va_put (D := (dC, dI)) (ci := 8) (v := .int x10) (ty := .int) (C := RX8) (T := TX8) (N := 19) hx hb hts (by decide +kernel) tyX8 tyX8_ok nmX8 hown hK hP hD hS 0 rfl rfl 8 (by decide) (hts (.fieldLink RX8 125 "LawOfCornersModel" "rowMany" "I") (by decide +kernel)) (fun _ h9 => h9) rfl (by decide +kernel) rfl rfl (Nat.le_of_ble_eq_true rfl) dX8_row_50 (fun H locs hP hD hS => ?_)
        have hP : va_P (dC, dI) vwCl [(a_this, .inr (8, [.ref a_this_s, .ref a_this_image, .ref a_this_was, .int v_hasImage, .ref a_this_letters, .ref a_this_row, .ref a_this_refused, .int v_letterMany, .int x10, .int v_place, .ref a_this_numbers, .ref a_this_least, .ref a_this_stepsFrom, .ref a_this_most, .ref a_this_next, .ref a_this_otherSteps, .ref a_this_ahead, .ref a_this_now, .int v_seed])), (a_this_refused, .inl (cI, 7, .inl g_refused)), (a_this_row, .inl (cI, 20, .inl g9))] H := hP
        have hD : va_D A [(a_this, .inr (8, [.ref a_this_s, .ref a_this_image, .ref a_this_was, .int v_hasImage, .ref a_this_letters, .ref a_this_row, .ref a_this_refused, .int v_letterMany, .int x10, .int v_place, .ref a_this_numbers, .ref a_this_least, .ref a_this_stepsFrom, .ref a_this_most, .ref a_this_next, .ref a_this_otherSteps, .ref a_this_ahead, .ref a_this_now, .int v_seed])), (a_this_refused, .inl (cI, 7, .inl g_refused)), (a_this_row, .inl (cI, 20, .inl g9))] := hD
        refine lv_aload_n hx hb dX8_row_53 rfl (lv_at hl 0 rfl) ?_
        refine va_get (D := (dC, dI)) (ci := 8) (v := .int x10) (C := RX8) (T := TX8) (N := 19) hx hb hts (by decide +kernel) hown hK hP 0 rfl rfl 8 (by decide) (hts (.fieldLink RX8 125 "LawOfCornersModel" "rowMany" "I") (by decide +kernel)) (fun _ h9 => h9) rfl dX8_row_54 ?_
        obtain ⟨rfl, rfl, rfl, rfl⟩ := zi4 he
        exact W.iret hx hb hr (fun t ht hW => ⟨⟨_, (), rfl, rfl, by rw [ht]; exact hP, va_K.moved hW.alike hK, hD⟩, hS.F ht⟩) hS.2.2 dX8_row_57
      · have he := zif_t c7 he
        exact (hWW _ _ _ _).mp (hk5 () he) _ _ _ hP hD hS (lv_sub hl [0] rfl)
  · have he := zif_f c1 he
    refine lv_aload_n hx hb dX8_row_4 rfl (lv_at hl 0 rfl) ?_
    refine lv_bipush (v := (-4 : Int32)) hx hb dX8_row_5 (by decide) ?_
    obtain ⟨r11, g_refused_12, hf13, he⟩ := zb2_e he
    refine zc_i (wr := [(a_this_row, .inl (cI, 20, .inl g_row))]) (ws' := [(a_this, .inr (8, [.ref a_this_s, .ref a_this_image, .ref a_this_was, .int v_hasImage, .ref a_this_letters, .ref a_this_row, .ref a_this_refused, .int v_letterMany, .int v_rowMany, .int v_place, .ref a_this_numbers, .ref a_this_least, .ref a_this_stepsFrom, .ref a_this_most, .ref a_this_next, .ref a_this_otherSteps, .ref a_this_ahead, .ref a_this_now, .int v_seed])), (a_this_refused, .inl (cI, 7, .inl g_refused_12)), (a_this_row, .inl (cI, 20, .inl g_row))]) (va_runV (As := [.int (-4 : Int32)]) (rest := []) ⟨hx, hb, hml, hown, hts⟩ (k_M_no l dC dI cI cZ tt sd a_this a_this_s a_this_image a_this_was a_this_letters a_this_row a_this_refused a_this_numbers a_this_least a_this_stepsFrom a_this_most a_this_next a_this_otherSteps a_this_ahead a_this_now s.heap.size v_hasImage v_letterMany v_rowMany v_place v_seed g_refused (-4 : Int32) r11 g_refused_12 hf13) (cwV 1 hts gX8_row_X8_no rfl rfl rfl (by decide +kernel) ⟨Nat.le_of_ble_eq_true rfl, Nat.le_of_ble_eq_true rfl⟩) (zpV hP hD hK hS hA hZ [0, 1] rfl rfl 8 0 rfl rfl) rfl rfl hl.1 rfl (lv_room (Nat.le_of_ble_eq_true rfl)) dX8_row_7 ⟨Nat.zero_le _, Nat.zero_le _⟩) hP hD hS hA [0, 1] [2] [1, 2, 0] rfl rfl rfl (by decide) rfl rfl rfl (fun H locs hP hD hS => ?_)
    obtain ⟨rfl, rfl, rfl, rfl⟩ := zi4 he
    exact W.iret hx hb hr (fun t ht hW => ⟨⟨_, (), rfl, rfl, by rw [ht]; exact hP, va_K.moved hW.alike hK, hD⟩, hS.F ht⟩) hS.2.2 dX8_row_10
set_option maxHeartbeats 4000000 in
set_option maxRecDepth 100000 in
theorem k_M_judge (l : Launch) (dC : Nat → ClassId) (dI : Nat → Nat → Nat) (cI : ClassId) (cZ : ClassId) (tt : Nat → Nat) (sd : Nat → Nat) (a_this : Nat) (a_this_s : Nat) (a_this_image : Nat) (a_this_was : Nat) (a_this_letters : Nat) (a_this_row : Nat) (a_this_refused : Nat) (a_this_numbers : Nat) (a_this_least : Nat) (a_this_stepsFrom : Nat) (a_this_most : Nat) (a_this_next : Nat) (a_this_otherSteps : Nat) (a_this_ahead : Nat) (a_this_now : Nat) (sz : Nat) (v_hasImage : Int32) (v_letterMany : Int32) (v_rowMany : Int32) (v_place : Int32) (v_seed : Int32) (g_refused : Nat → Int32) (g_row : Nat → Int32) (g_s : Nat → Int32) (r0 : Int32) (w0 : Int32) (w1 : Nat → Int32) (hf : f_M_judge v_rowMany g_refused g_row g_s = some (r0, w0, w1)) : Met l yX8_judge wsX8_judge ({ frames := 4, cells := 0, slots := 0, locals := 87 }) (zPre (dC, dI) vwCl [(cI, .int), (cZ, .boolean)] tt sd [.ref a_this] [(a_this, .inr (8, [.ref a_this_s, .ref a_this_image, .ref a_this_was, .int v_hasImage, .ref a_this_letters, .ref a_this_row, .ref a_this_refused, .int v_letterMany, .int v_rowMany, .int v_place, .ref a_this_numbers, .ref a_this_least, .ref a_this_stepsFrom, .ref a_this_most, .ref a_this_next, .ref a_this_otherSteps, .ref a_this_ahead, .ref a_this_now, .int v_seed])), (a_this_refused, .inl (cI, 7, .inl g_refused)), (a_this_row, .inl (cI, 20, .inl g_row)), (a_this_s, .inl (cI, 39, .inl g_s))] sz) (zQi (dC, dI) vwCl [(cI, .int), (cZ, .boolean)] r0 [(a_this, .inr (8, [.ref a_this_s, .ref a_this_image, .ref a_this_was, .int v_hasImage, .ref a_this_letters, .ref a_this_row, .ref a_this_refused, .int v_letterMany, .int w0, .int v_place, .ref a_this_numbers, .ref a_this_least, .ref a_this_stepsFrom, .ref a_this_most, .ref a_this_next, .ref a_this_otherSteps, .ref a_this_ahead, .ref a_this_now, .int v_seed])), (a_this_refused, .inl (cI, 7, .inl w1)), (a_this_row, .inl (cI, 20, .inl g_row)), (a_this_s, .inl (cI, 39, .inl g_s))] (va_A [(a_this, .inr (8, [.ref a_this_s, .ref a_this_image, .ref a_this_was, .int v_hasImage, .ref a_this_letters, .ref a_this_row, .ref a_this_refused, .int v_letterMany, .int v_rowMany, .int v_place, .ref a_this_numbers, .ref a_this_least, .ref a_this_stepsFrom, .ref a_this_most, .ref a_this_next, .ref a_this_otherSteps, .ref a_this_ahead, .ref a_this_now, .int v_seed])), (a_this_refused, .inl (cI, 7, .inl g_refused)), (a_this_row, .inl (cI, 20, .inl g_row)), (a_this_s, .inl (cI, 39, .inl g_s))] sz)) 0 0 (va_A [(a_this, .inr (8, [.ref a_this_s, .ref a_this_image, .ref a_this_was, .int v_hasImage, .ref a_this_letters, .ref a_this_row, .ref a_this_refused, .int v_letterMany, .int v_rowMany, .int v_place, .ref a_this_numbers, .ref a_this_least, .ref a_this_stepsFrom, .ref a_this_most, .ref a_this_next, .ref a_this_otherSteps, .ref a_this_ahead, .ref a_this_now, .int v_seed])), (a_this_refused, .inl (cI, 7, .inl g_refused)), (a_this_row, .inl (cI, 20, .inl g_row)), (a_this_s, .inl (cI, 39, .inl g_s))] sz) := by
  refine Met.ofW (cc := cX8_judge) (maxL := 2) (ret := (some .int)) (by decide) rfl ?_
  intro p e s m args below meth c s₁ B hml hv
  obtain ⟨rfl, hsz, hP, hK, hD0, hZ⟩ := hv
  have hx := B.exec
  have hb := B.bytes
  have hr := B.returns
  have hts := atoms_spec (ws := wsX8_judge) B.pre
  have hown : s.vm.findClass RX8 = some m.cls := findClass_of_methodNamed B.named
  have hlocks := B.notSynchronized
  subst hsz
  have hD := hD0.self (sz := s.heap.size)
  generalize hAe : va_A [(a_this, .inr (8, [.ref a_this_s, .ref a_this_image, .ref a_this_was, .int v_hasImage, .ref a_this_letters, .ref a_this_row, .ref a_this_refused, .int v_letterMany, .int v_rowMany, .int v_place, .ref a_this_numbers, .ref a_this_least, .ref a_this_stepsFrom, .ref a_this_most, .ref a_this_next, .ref a_this_otherSteps, .ref a_this_ahead, .ref a_this_now, .int v_seed])), (a_this_refused, .inl (cI, 7, .inl g_refused)), (a_this_row, .inl (cI, 20, .inl g_row)), (a_this_s, .inl (cI, 39, .inl g_s))] s.heap.size = A at hD hZ ⊢
  have hA : ∀ q : Nat, s.heap.size ≤ q → A q := fun q h => by rw [← hAe]; exact Or.inr h
  have hS : va_S A s.heap s.heap [] := va_S.rf
  have hP : va_P (dC, dI) vwCl [(a_this, .inr (8, [.ref a_this_s, .ref a_this_image, .ref a_this_was, .int v_hasImage, .ref a_this_letters, .ref a_this_row, .ref a_this_refused, .int v_letterMany, .int v_rowMany, .int v_place, .ref a_this_numbers, .ref a_this_least, .ref a_this_stepsFrom, .ref a_this_most, .ref a_this_next, .ref a_this_otherSteps, .ref a_this_ahead, .ref a_this_now, .int v_seed])), (a_this_refused, .inl (cI, 7, .inl g_refused)), (a_this_row, .inl (cI, 20, .inl g_row)), (a_this_s, .inl (cI, 39, .inl g_s))] s.heap := hP
  have hl := lv_entry ([.ref a_this]) (n := 2) (Nat.le_of_ble_eq_true rfl)
  rw [lg_entry_eq]
  generalize (lg_sl ([.ref a_this]) ++ List.replicate (2 - (lg_sl ([.ref a_this])).length) Slot.unset).toArray = ls at hl ⊢
  have hl : lv_has ls 2 [(0, .ref a_this)] := hl
  have he := hf
  unfold f_M_judge at he
  refine lv_aload_n hx hb dX8_judge_0 rfl (lv_at hl 0 rfl) ?_
  obtain ⟨r1, hf2, he⟩ := zb1_e he
  refine zc_i (wr := [(a_this_refused, .inl (cI, 7, .inl g_refused)), (a_this_s, .inl (cI, 39, .inl g_s))]) (ws' := [(a_this, .inr (8, [.ref a_this_s, .ref a_this_image, .ref a_this_was, .int v_hasImage, .ref a_this_letters, .ref a_this_row, .ref a_this_refused, .int v_letterMany, .int v_rowMany, .int v_place, .ref a_this_numbers, .ref a_this_least, .ref a_this_stepsFrom, .ref a_this_most, .ref a_this_next, .ref a_this_otherSteps, .ref a_this_ahead, .ref a_this_now, .int v_seed])), (a_this_refused, .inl (cI, 7, .inl g_refused)), (a_this_row, .inl (cI, 20, .inl g_row)), (a_this_s, .inl (cI, 39, .inl g_s))]) (va_runV (As := []) (rest := []) ⟨hx, hb, hml, hown, hts⟩ (k_M_areWays l dC dI cI cZ tt sd a_this a_this_s a_this_image a_this_was a_this_letters a_this_row a_this_refused a_this_numbers a_this_least a_this_stepsFrom a_this_most a_this_next a_this_otherSteps a_this_ahead a_this_now s.heap.size v_hasImage v_letterMany v_rowMany v_place v_seed g_row r1 hf2) (cwV 0 hts gX8_judge_X8_areWays rfl rfl rfl (by decide +kernel) ⟨Nat.le_of_ble_eq_true rfl, Nat.le_of_ble_eq_true rfl⟩) (zpV hP hD hK hS hA hZ [0, 2] rfl rfl 8 0 rfl rfl) rfl rfl hl.1 rfl (lv_room (Nat.le_of_ble_eq_true rfl)) dX8_judge_1 ⟨Nat.zero_le _, Nat.zero_le _⟩) hP hD hS hA [0, 2] [1, 3] [2, 0, 3, 1] rfl rfl rfl (by decide) rfl rfl rfl (fun H locs hP hD hS => ?_)
  refine lv_if_ne (tgt := 14) hx hb dX8_judge_4 (by decide) (fun c3 => ?_) (fun c3 => ?_)
  · have he := zif_f c3 he
    refine lv_aload_n hx hb dX8_judge_14 rfl (lv_at hl 0 rfl) ?_
    obtain ⟨r4, hf5, he⟩ := zb1_e he
    refine zc_i (wr := [(a_this_refused, .inl (cI, 7, .inl g_refused))]) (ws' := [(a_this, .inr (8, [.ref a_this_s, .ref a_this_image, .ref a_this_was, .int v_hasImage, .ref a_this_letters, .ref a_this_row, .ref a_this_refused, .int v_letterMany, .int v_rowMany, .int v_place, .ref a_this_numbers, .ref a_this_least, .ref a_this_stepsFrom, .ref a_this_most, .ref a_this_next, .ref a_this_otherSteps, .ref a_this_ahead, .ref a_this_now, .int v_seed])), (a_this_refused, .inl (cI, 7, .inl g_refused)), (a_this_row, .inl (cI, 20, .inl g_row)), (a_this_s, .inl (cI, 39, .inl g_s))]) (va_runV (As := []) (rest := []) ⟨hx, hb, hml, hown, hts⟩ (k_M_firstWrong l dC dI cI cZ tt sd a_this a_this_s a_this_image a_this_was a_this_letters a_this_row a_this_refused a_this_numbers a_this_least a_this_stepsFrom a_this_most a_this_next a_this_otherSteps a_this_ahead a_this_now H.size v_hasImage v_letterMany v_rowMany v_place v_seed g_row g_s r4 hf5) (cwV 0 hts gX8_judge_X8_firstWrong rfl rfl rfl (by decide +kernel) ⟨Nat.le_of_ble_eq_true rfl, Nat.le_of_ble_eq_true rfl⟩) (zpV hP hD hK hS hA hZ [0, 2, 3] rfl rfl 8 0 rfl rfl) rfl rfl hl.1 rfl (lv_room (Nat.le_of_ble_eq_true rfl)) dX8_judge_15 ⟨Nat.zero_le _, Nat.zero_le _⟩) hP hD hS hA [0, 2, 3] [1] [1, 0, 2, 3] rfl rfl rfl (by decide) rfl rfl rfl (fun H locs hP hD hS => ?_)
    refine lv_istore_n (lv' := [(1, .int r4), (0, .ref a_this)]) hx hb dX8_judge_18 rfl hl (by decide) rfl (fun ls hl => ?_)
    refine lv_aload_n hx hb dX8_judge_19 rfl (lv_at hl 1 rfl) ?_
    refine lv_iconst (v := (0 : Int32)) hx hb dX8_judge_20 (by decide) ?_
    refine va_put (D := (dC, dI)) (ci := 8) (v := .int (0 : Int32)) (ty := .int) (C := RX8) (T := TX8) (N := 19) hx hb hts (by decide +kernel) tyX8 tyX8_ok nmX8 hown hK hP hD hS 0 rfl rfl 8 (by decide) (hts (.fieldLink RX8 125 "LawOfCornersModel" "rowMany" "I") (by decide +kernel)) (fun _ h9 => h9) rfl (by decide +kernel) rfl rfl (Nat.le_of_ble_eq_true rfl) dX8_judge_21 (fun H locs hP hD hS => ?_)
    have hP : va_P (dC, dI) vwCl [(a_this, .inr (8, [.ref a_this_s, .ref a_this_image, .ref a_this_was, .int v_hasImage, .ref a_this_letters, .ref a_this_row, .ref a_this_refused, .int v_letterMany, .int (0 : Int32), .int v_place, .ref a_this_numbers, .ref a_this_least, .ref a_this_stepsFrom, .ref a_this_most, .ref a_this_next, .ref a_this_otherSteps, .ref a_this_ahead, .ref a_this_now, .int v_seed])), (a_this_refused, .inl (cI, 7, .inl g_refused)), (a_this_row, .inl (cI, 20, .inl g_row)), (a_this_s, .inl (cI, 39, .inl g_s))] H := hP
    have hD : va_D A [(a_this, .inr (8, [.ref a_this_s, .ref a_this_image, .ref a_this_was, .int v_hasImage, .ref a_this_letters, .ref a_this_row, .ref a_this_refused, .int v_letterMany, .int (0 : Int32), .int v_place, .ref a_this_numbers, .ref a_this_least, .ref a_this_stepsFrom, .ref a_this_most, .ref a_this_next, .ref a_this_otherSteps, .ref a_this_ahead, .ref a_this_now, .int v_seed])), (a_this_refused, .inl (cI, 7, .inl g_refused)), (a_this_row, .inl (cI, 20, .inl g_row)), (a_this_s, .inl (cI, 39, .inl g_s))] := hD
    refine lv_iload_n hx hb dX8_judge_24 rfl (lv_at hl 0 rfl) ?_
    obtain ⟨rfl, rfl, rfl⟩ := zi3 he
    exact W.iret hx hb hr (fun t ht hW => ⟨⟨_, (), rfl, rfl, by rw [ht]; exact hP, va_K.moved hW.alike hK, hD⟩, hS.F ht⟩) hS.2.2 dX8_judge_25
  · have he := zif_t c3 he
    refine lv_aload_n hx hb dX8_judge_7 rfl (lv_at hl 0 rfl) ?_
    refine lv_bipush (v := (-3 : Int32)) hx hb dX8_judge_8 (by decide) ?_
    obtain ⟨r6, g_refused_7, hf8, he⟩ := zb2_e he
    refine zc_i (wr := [(a_this_row, .inl (cI, 20, .inl g_row)), (a_this_s, .inl (cI, 39, .inl g_s))]) (ws' := [(a_this, .inr (8, [.ref a_this_s, .ref a_this_image, .ref a_this_was, .int v_hasImage, .ref a_this_letters, .ref a_this_row, .ref a_this_refused, .int v_letterMany, .int v_rowMany, .int v_place, .ref a_this_numbers, .ref a_this_least, .ref a_this_stepsFrom, .ref a_this_most, .ref a_this_next, .ref a_this_otherSteps, .ref a_this_ahead, .ref a_this_now, .int v_seed])), (a_this_refused, .inl (cI, 7, .inl g_refused_7)), (a_this_row, .inl (cI, 20, .inl g_row)), (a_this_s, .inl (cI, 39, .inl g_s))]) (va_runV (As := [.int (-3 : Int32)]) (rest := []) ⟨hx, hb, hml, hown, hts⟩ (k_M_no l dC dI cI cZ tt sd a_this a_this_s a_this_image a_this_was a_this_letters a_this_row a_this_refused a_this_numbers a_this_least a_this_stepsFrom a_this_most a_this_next a_this_otherSteps a_this_ahead a_this_now H.size v_hasImage v_letterMany v_rowMany v_place v_seed g_refused (-3 : Int32) r6 g_refused_7 hf8) (cwV 1 hts gX8_judge_X8_no rfl rfl rfl (by decide +kernel) ⟨Nat.le_of_ble_eq_true rfl, Nat.le_of_ble_eq_true rfl⟩) (zpV hP hD hK hS hA hZ [0, 1] rfl rfl 8 0 rfl rfl) rfl rfl hl.1 rfl (lv_room (Nat.le_of_ble_eq_true rfl)) dX8_judge_10 ⟨Nat.zero_le _, Nat.zero_le _⟩) hP hD hS hA [0, 1] [2, 3] [2, 3, 0, 1] rfl rfl rfl (by decide) rfl rfl rfl (fun H locs hP hD hS => ?_)
    obtain ⟨rfl, rfl, rfl⟩ := zi3 he
    exact W.iret hx hb hr (fun t ht hW => ⟨⟨_, (), rfl, rfl, by rw [ht]; exact hP, va_K.moved hW.alike hK, hD⟩, hS.F ht⟩) hS.2.2 dX8_judge_13
set_option maxHeartbeats 4000000 in
set_option maxRecDepth 100000 in
theorem k_M_clear (l : Launch) (dC : Nat → ClassId) (dI : Nat → Nat → Nat) (cI : ClassId) (cZ : ClassId) (tt : Nat → Nat) (sd : Nat → Nat) (a_this : Nat) (a_this_s : Nat) (a_this_image : Nat) (a_this_was : Nat) (a_this_letters : Nat) (a_this_row : Nat) (a_this_refused : Nat) (a_this_numbers : Nat) (a_this_least : Nat) (a_this_stepsFrom : Nat) (a_this_most : Nat) (a_this_next : Nat) (a_this_otherSteps : Nat) (a_this_ahead : Nat) (a_this_now : Nat) (sz : Nat) (v_hasImage : Int32) (v_letterMany : Int32) (v_rowMany : Int32) (v_place : Int32) (v_seed : Int32) (r0 : Int32) (w0 : Int32) (hf : f_M_clear v_rowMany = some (r0, w0)) : Met l yX8_clear wsX8_clear ({ frames := 0, cells := 0, slots := 0, locals := 0 }) (zPre (dC, dI) vwCl [(cI, .int), (cZ, .boolean)] tt sd [.ref a_this] [(a_this, .inr (8, [.ref a_this_s, .ref a_this_image, .ref a_this_was, .int v_hasImage, .ref a_this_letters, .ref a_this_row, .ref a_this_refused, .int v_letterMany, .int v_rowMany, .int v_place, .ref a_this_numbers, .ref a_this_least, .ref a_this_stepsFrom, .ref a_this_most, .ref a_this_next, .ref a_this_otherSteps, .ref a_this_ahead, .ref a_this_now, .int v_seed]))] sz) (zQi (dC, dI) vwCl [(cI, .int), (cZ, .boolean)] r0 [(a_this, .inr (8, [.ref a_this_s, .ref a_this_image, .ref a_this_was, .int v_hasImage, .ref a_this_letters, .ref a_this_row, .ref a_this_refused, .int v_letterMany, .int w0, .int v_place, .ref a_this_numbers, .ref a_this_least, .ref a_this_stepsFrom, .ref a_this_most, .ref a_this_next, .ref a_this_otherSteps, .ref a_this_ahead, .ref a_this_now, .int v_seed]))] (va_A [(a_this, .inr (8, [.ref a_this_s, .ref a_this_image, .ref a_this_was, .int v_hasImage, .ref a_this_letters, .ref a_this_row, .ref a_this_refused, .int v_letterMany, .int v_rowMany, .int v_place, .ref a_this_numbers, .ref a_this_least, .ref a_this_stepsFrom, .ref a_this_most, .ref a_this_next, .ref a_this_otherSteps, .ref a_this_ahead, .ref a_this_now, .int v_seed]))] sz)) 0 0 (va_A [(a_this, .inr (8, [.ref a_this_s, .ref a_this_image, .ref a_this_was, .int v_hasImage, .ref a_this_letters, .ref a_this_row, .ref a_this_refused, .int v_letterMany, .int v_rowMany, .int v_place, .ref a_this_numbers, .ref a_this_least, .ref a_this_stepsFrom, .ref a_this_most, .ref a_this_next, .ref a_this_otherSteps, .ref a_this_ahead, .ref a_this_now, .int v_seed]))] sz) := by
  refine Met.ofW (cc := cX8_clear) (maxL := 2) (ret := (some .int)) (by decide) rfl ?_
  intro p e s m args below meth c s₁ B hml hv
  obtain ⟨rfl, hsz, hP, hK, hD0, hZ⟩ := hv
  have hx := B.exec
  have hb := B.bytes
  have hr := B.returns
  have hts := atoms_spec (ws := wsX8_clear) B.pre
  have hown : s.vm.findClass RX8 = some m.cls := findClass_of_methodNamed B.named
  have hlocks := B.notSynchronized
  subst hsz
  have hD := hD0.self (sz := s.heap.size)
  generalize hAe : va_A [(a_this, .inr (8, [.ref a_this_s, .ref a_this_image, .ref a_this_was, .int v_hasImage, .ref a_this_letters, .ref a_this_row, .ref a_this_refused, .int v_letterMany, .int v_rowMany, .int v_place, .ref a_this_numbers, .ref a_this_least, .ref a_this_stepsFrom, .ref a_this_most, .ref a_this_next, .ref a_this_otherSteps, .ref a_this_ahead, .ref a_this_now, .int v_seed]))] s.heap.size = A at hD hZ ⊢
  have hA : ∀ q : Nat, s.heap.size ≤ q → A q := fun q h => by rw [← hAe]; exact Or.inr h
  have hS : va_S A s.heap s.heap [] := va_S.rf
  have hP : va_P (dC, dI) vwCl [(a_this, .inr (8, [.ref a_this_s, .ref a_this_image, .ref a_this_was, .int v_hasImage, .ref a_this_letters, .ref a_this_row, .ref a_this_refused, .int v_letterMany, .int v_rowMany, .int v_place, .ref a_this_numbers, .ref a_this_least, .ref a_this_stepsFrom, .ref a_this_most, .ref a_this_next, .ref a_this_otherSteps, .ref a_this_ahead, .ref a_this_now, .int v_seed]))] s.heap := hP
  have hl := lv_entry ([.ref a_this]) (n := 2) (Nat.le_of_ble_eq_true rfl)
  rw [lg_entry_eq]
  generalize (lg_sl ([.ref a_this]) ++ List.replicate (2 - (lg_sl ([.ref a_this])).length) Slot.unset).toArray = ls at hl ⊢
  have hl : lv_has ls 2 [(0, .ref a_this)] := hl
  have he := hf
  unfold f_M_clear at he
  refine lv_aload_n hx hb dX8_clear_0 rfl (lv_at hl 0 rfl) ?_
  refine va_get (D := (dC, dI)) (ci := 8) (v := .int v_rowMany) (C := RX8) (T := TX8) (N := 19) hx hb hts (by decide +kernel) hown hK hP 0 rfl rfl 8 (by decide) (hts (.fieldLink RX8 125 "LawOfCornersModel" "rowMany" "I") (by decide +kernel)) (fun _ h9 => h9) rfl dX8_clear_1 ?_
  refine lv_istore_n (lv' := [(1, .int v_rowMany), (0, .ref a_this)]) hx hb dX8_clear_4 rfl hl (by decide) rfl (fun ls hl => ?_)
  refine lv_aload_n hx hb dX8_clear_5 rfl (lv_at hl 1 rfl) ?_
  refine lv_iconst (v := (0 : Int32)) hx hb dX8_clear_6 (by decide) ?_
  refine va_put (D := (dC, dI)) (ci := 8) (v := .int (0 : Int32)) (ty := .int) (C := RX8) (T := TX8) (N := 19) hx hb hts (by decide +kernel) tyX8 tyX8_ok nmX8 hown hK hP hD hS 0 rfl rfl 8 (by decide) (hts (.fieldLink RX8 125 "LawOfCornersModel" "rowMany" "I") (by decide +kernel)) (fun _ h9 => h9) rfl (by decide +kernel) rfl rfl (Nat.le_of_ble_eq_true rfl) dX8_clear_7 (fun H locs hP hD hS => ?_)
  have hP : va_P (dC, dI) vwCl [(a_this, .inr (8, [.ref a_this_s, .ref a_this_image, .ref a_this_was, .int v_hasImage, .ref a_this_letters, .ref a_this_row, .ref a_this_refused, .int v_letterMany, .int (0 : Int32), .int v_place, .ref a_this_numbers, .ref a_this_least, .ref a_this_stepsFrom, .ref a_this_most, .ref a_this_next, .ref a_this_otherSteps, .ref a_this_ahead, .ref a_this_now, .int v_seed]))] H := hP
  have hD : va_D A [(a_this, .inr (8, [.ref a_this_s, .ref a_this_image, .ref a_this_was, .int v_hasImage, .ref a_this_letters, .ref a_this_row, .ref a_this_refused, .int v_letterMany, .int (0 : Int32), .int v_place, .ref a_this_numbers, .ref a_this_least, .ref a_this_stepsFrom, .ref a_this_most, .ref a_this_next, .ref a_this_otherSteps, .ref a_this_ahead, .ref a_this_now, .int v_seed]))] := hD
  refine lv_iload_n hx hb dX8_clear_10 rfl (lv_at hl 0 rfl) ?_
  obtain ⟨rfl, rfl⟩ := zi2 he
  exact W.iret hx hb hr (fun t ht hW => ⟨⟨_, (), rfl, rfl, by rw [ht]; exact hP, va_K.moved hW.alike hK, hD⟩, hS.F ht⟩) hS.2.2 dX8_clear_11
set_option maxHeartbeats 4000000 in
set_option maxRecDepth 100000 in
theorem k_M_drawn (l : Launch) (dC : Nat → ClassId) (dI : Nat → Nat → Nat) (cI : ClassId) (cZ : ClassId) (tt : Nat → Nat) (sd : Nat → Nat) (a_this : Nat) (a_this_s : Nat) (a_this_image : Nat) (a_this_was : Nat) (a_this_letters : Nat) (a_this_row : Nat) (a_this_refused : Nat) (a_this_numbers : Nat) (a_this_least : Nat) (a_this_stepsFrom : Nat) (a_this_most : Nat) (a_this_next : Nat) (a_this_otherSteps : Nat) (a_this_ahead : Nat) (a_this_now : Nat) (sz : Nat) (v_hasImage : Int32) (v_letterMany : Int32) (v_rowMany : Int32) (v_place : Int32) (v_seed : Int32) (p1 : Int32) (r0 : Int32) (w0 : Int32) (hf : f_M_drawn v_seed p1 = some (r0, w0)) : Met l yX8_drawn wsX8_drawn ({ frames := 0, cells := 0, slots := 0, locals := 0 }) (zPre (dC, dI) vwCl [(cI, .int), (cZ, .boolean)] tt sd [.ref a_this, .int p1] [(a_this, .inr (8, [.ref a_this_s, .ref a_this_image, .ref a_this_was, .int v_hasImage, .ref a_this_letters, .ref a_this_row, .ref a_this_refused, .int v_letterMany, .int v_rowMany, .int v_place, .ref a_this_numbers, .ref a_this_least, .ref a_this_stepsFrom, .ref a_this_most, .ref a_this_next, .ref a_this_otherSteps, .ref a_this_ahead, .ref a_this_now, .int v_seed]))] sz) (zQi (dC, dI) vwCl [(cI, .int), (cZ, .boolean)] r0 [(a_this, .inr (8, [.ref a_this_s, .ref a_this_image, .ref a_this_was, .int v_hasImage, .ref a_this_letters, .ref a_this_row, .ref a_this_refused, .int v_letterMany, .int v_rowMany, .int v_place, .ref a_this_numbers, .ref a_this_least, .ref a_this_stepsFrom, .ref a_this_most, .ref a_this_next, .ref a_this_otherSteps, .ref a_this_ahead, .ref a_this_now, .int w0]))] (va_A [(a_this, .inr (8, [.ref a_this_s, .ref a_this_image, .ref a_this_was, .int v_hasImage, .ref a_this_letters, .ref a_this_row, .ref a_this_refused, .int v_letterMany, .int v_rowMany, .int v_place, .ref a_this_numbers, .ref a_this_least, .ref a_this_stepsFrom, .ref a_this_most, .ref a_this_next, .ref a_this_otherSteps, .ref a_this_ahead, .ref a_this_now, .int v_seed]))] sz)) 0 0 (va_A [(a_this, .inr (8, [.ref a_this_s, .ref a_this_image, .ref a_this_was, .int v_hasImage, .ref a_this_letters, .ref a_this_row, .ref a_this_refused, .int v_letterMany, .int v_rowMany, .int v_place, .ref a_this_numbers, .ref a_this_least, .ref a_this_stepsFrom, .ref a_this_most, .ref a_this_next, .ref a_this_otherSteps, .ref a_this_ahead, .ref a_this_now, .int v_seed]))] sz) := by
  refine Met.ofW (cc := cX8_drawn) (maxL := 2) (ret := (some .int)) (by decide) rfl ?_
  intro p e s m args below meth c s₁ B hml hv
  obtain ⟨rfl, hsz, hP, hK, hD0, hZ⟩ := hv
  have hx := B.exec
  have hb := B.bytes
  have hr := B.returns
  have hts := atoms_spec (ws := wsX8_drawn) B.pre
  have hown : s.vm.findClass RX8 = some m.cls := findClass_of_methodNamed B.named
  have hlocks := B.notSynchronized
  subst hsz
  have hD := hD0.self (sz := s.heap.size)
  generalize hAe : va_A [(a_this, .inr (8, [.ref a_this_s, .ref a_this_image, .ref a_this_was, .int v_hasImage, .ref a_this_letters, .ref a_this_row, .ref a_this_refused, .int v_letterMany, .int v_rowMany, .int v_place, .ref a_this_numbers, .ref a_this_least, .ref a_this_stepsFrom, .ref a_this_most, .ref a_this_next, .ref a_this_otherSteps, .ref a_this_ahead, .ref a_this_now, .int v_seed]))] s.heap.size = A at hD hZ ⊢
  have hA : ∀ q : Nat, s.heap.size ≤ q → A q := fun q h => by rw [← hAe]; exact Or.inr h
  have hS : va_S A s.heap s.heap [] := va_S.rf
  have hP : va_P (dC, dI) vwCl [(a_this, .inr (8, [.ref a_this_s, .ref a_this_image, .ref a_this_was, .int v_hasImage, .ref a_this_letters, .ref a_this_row, .ref a_this_refused, .int v_letterMany, .int v_rowMany, .int v_place, .ref a_this_numbers, .ref a_this_least, .ref a_this_stepsFrom, .ref a_this_most, .ref a_this_next, .ref a_this_otherSteps, .ref a_this_ahead, .ref a_this_now, .int v_seed]))] s.heap := hP
  have hl := lv_entry ([.ref a_this, .int p1]) (n := 2) (Nat.le_of_ble_eq_true rfl)
  rw [lg_entry_eq]
  generalize (lg_sl ([.ref a_this, .int p1]) ++ List.replicate (2 - (lg_sl ([.ref a_this, .int p1])).length) Slot.unset).toArray = ls at hl ⊢
  have hl : lv_has ls 2 [(0, .ref a_this), (1, .int p1)] := hl
  have he := hf
  unfold f_M_drawn at he
  refine lv_aload_n hx hb dX8_drawn_0 rfl (lv_at hl 0 rfl) ?_
  refine lv_aload_n hx hb dX8_drawn_1 rfl (lv_at hl 0 rfl) ?_
  refine va_get (D := (dC, dI)) (ci := 8) (v := .int v_seed) (C := RX8) (T := TX8) (N := 19) hx hb hts (by decide +kernel) hown hK hP 0 rfl rfl 18 (by decide) (hts (.fieldLink RX8 195 "LawOfCornersModel" "seed" "I") (by decide +kernel)) (fun _ h9 => h9) rfl dX8_drawn_2 ?_
  refine lv_ldc (v := (1664525 : Int32)) hx hb hown (hts (.constant RX8 198 (1664525 : Int32)) (by decide +kernel)) dX8_drawn_5 ?_
  refine lv_imul hx hb dX8_drawn_7 ?_
  refine lv_ldc (v := (1013904223 : Int32)) hx hb hown (hts (.constant RX8 199 (1013904223 : Int32)) (by decide +kernel)) dX8_drawn_8 ?_
  refine lv_iadd hx hb dX8_drawn_10 ?_
  refine lv_topi (fun x1 ex1 => ?_)
  have he := zn_e ex1 he
  refine va_put (D := (dC, dI)) (ci := 8) (v := .int x1) (ty := .int) (C := RX8) (T := TX8) (N := 19) hx hb hts (by decide +kernel) tyX8 tyX8_ok nmX8 hown hK hP hD hS 0 rfl rfl 18 (by decide) (hts (.fieldLink RX8 195 "LawOfCornersModel" "seed" "I") (by decide +kernel)) (fun _ h9 => h9) rfl (by decide +kernel) rfl rfl (Nat.le_of_ble_eq_true rfl) dX8_drawn_11 (fun H locs hP hD hS => ?_)
  have hP : va_P (dC, dI) vwCl [(a_this, .inr (8, [.ref a_this_s, .ref a_this_image, .ref a_this_was, .int v_hasImage, .ref a_this_letters, .ref a_this_row, .ref a_this_refused, .int v_letterMany, .int v_rowMany, .int v_place, .ref a_this_numbers, .ref a_this_least, .ref a_this_stepsFrom, .ref a_this_most, .ref a_this_next, .ref a_this_otherSteps, .ref a_this_ahead, .ref a_this_now, .int x1]))] H := hP
  have hD : va_D A [(a_this, .inr (8, [.ref a_this_s, .ref a_this_image, .ref a_this_was, .int v_hasImage, .ref a_this_letters, .ref a_this_row, .ref a_this_refused, .int v_letterMany, .int v_rowMany, .int v_place, .ref a_this_numbers, .ref a_this_least, .ref a_this_stepsFrom, .ref a_this_most, .ref a_this_next, .ref a_this_otherSteps, .ref a_this_ahead, .ref a_this_now, .int x1]))] := hD
  refine lv_aload_n hx hb dX8_drawn_14 rfl (lv_at hl 0 rfl) ?_
  refine va_get (D := (dC, dI)) (ci := 8) (v := .int x1) (C := RX8) (T := TX8) (N := 19) hx hb hts (by decide +kernel) hown hK hP 0 rfl rfl 18 (by decide) (hts (.fieldLink RX8 195 "LawOfCornersModel" "seed" "I") (by decide +kernel)) (fun _ h9 => h9) rfl dX8_drawn_15 ?_
  refine lv_ldc (v := (2147483647 : Int32)) hx hb hown (hts (.constant RX8 200 (2147483647 : Int32)) (by decide +kernel)) dX8_drawn_18 ?_
  refine lv_iand hx hb dX8_drawn_20 ?_
  refine lv_sipush (v := (256 : Int32)) hx hb dX8_drawn_21 (by decide) ?_
  refine lv_idiv hx hb dX8_drawn_24 (by decide) ?_
  refine lv_iload_n hx hb dX8_drawn_25 rfl (lv_at hl 1 rfl) ?_
  obtain ⟨hg2, he⟩ := zg_e he
  refine lv_irem hx hb dX8_drawn_26 hg2 ?_
  obtain ⟨rfl, rfl⟩ := zi2 he
  exact W.iret hx hb hr (fun t ht hW => ⟨⟨_, (), rfl, rfl, by rw [ht]; exact hP, va_K.moved hW.alike hK, hD⟩, hS.F ht⟩) hS.2.2 dX8_drawn_27
