set_option maxHeartbeats 4000000 in
set_option maxRecDepth 100000 in
theorem k_M_heardMany (l : Launch) (dC : Nat → ClassId) (dI : Nat → Nat → Nat) (cI : ClassId) (cZ : ClassId) (tt : Nat → Nat) (sd : Nat → Nat) (a_this : Nat) (a_this_s : Nat) (a_this_image : Nat) (a_this_was : Nat) (a_this_letters : Nat) (a_this_row : Nat) (a_this_refused : Nat) (a_this_numbers : Nat) (a_this_least : Nat) (a_this_stepsFrom : Nat) (a_this_most : Nat) (a_this_next : Nat) (a_this_otherSteps : Nat) (a_this_ahead : Nat) (a_this_now : Nat) (sz : Nat) (v_hasImage : Int32) (v_letterMany : Int32) (v_rowMany : Int32) (v_place : Int32) (v_seed : Int32) (g_s : Nat → Int32) (r0 : Int32) (hf : f_M_heardMany g_s = some (r0)) : Met l yX8_heardMany wsX8_heardMany ({ frames := 4, cells := 0, slots := 0, locals := 85 }) (zPre (dC, dI) vwCl [(cI, .int), (cZ, .boolean)] tt sd [.ref a_this] [(a_this, .inr (8, [.ref a_this_s, .ref a_this_image, .ref a_this_was, .int v_hasImage, .ref a_this_letters, .ref a_this_row, .ref a_this_refused, .int v_letterMany, .int v_rowMany, .int v_place, .ref a_this_numbers, .ref a_this_least, .ref a_this_stepsFrom, .ref a_this_most, .ref a_this_next, .ref a_this_otherSteps, .ref a_this_ahead, .ref a_this_now, .int v_seed])), (a_this_s, .inl (cI, 39, .inl g_s))] sz) (zQi (dC, dI) vwCl [(cI, .int), (cZ, .boolean)] r0 [(a_this, .inr (8, [.ref a_this_s, .ref a_this_image, .ref a_this_was, .int v_hasImage, .ref a_this_letters, .ref a_this_row, .ref a_this_refused, .int v_letterMany, .int v_rowMany, .int v_place, .ref a_this_numbers, .ref a_this_least, .ref a_this_stepsFrom, .ref a_this_most, .ref a_this_next, .ref a_this_otherSteps, .ref a_this_ahead, .ref a_this_now, .int v_seed])), (a_this_s, .inl (cI, 39, .inl g_s))] (va_A [(a_this, .inr (8, [.ref a_this_s, .ref a_this_image, .ref a_this_was, .int v_hasImage, .ref a_this_letters, .ref a_this_row, .ref a_this_refused, .int v_letterMany, .int v_rowMany, .int v_place, .ref a_this_numbers, .ref a_this_least, .ref a_this_stepsFrom, .ref a_this_most, .ref a_this_next, .ref a_this_otherSteps, .ref a_this_ahead, .ref a_this_now, .int v_seed])), (a_this_s, .inl (cI, 39, .inl g_s))] sz)) 0 0 (va_A [(a_this, .inr (8, [.ref a_this_s, .ref a_this_image, .ref a_this_was, .int v_hasImage, .ref a_this_letters, .ref a_this_row, .ref a_this_refused, .int v_letterMany, .int v_rowMany, .int v_place, .ref a_this_numbers, .ref a_this_least, .ref a_this_stepsFrom, .ref a_this_most, .ref a_this_next, .ref a_this_otherSteps, .ref a_this_ahead, .ref a_this_now, .int v_seed])), (a_this_s, .inl (cI, 39, .inl g_s))] sz) := by
  refine Met.ofW (cc := cX8_heardMany) (maxL := 3) (ret := (some .int)) (by decide) rfl ?_
  intro p e s m args below meth c s₁ B hml hv
  obtain ⟨rfl, hsz, hP, hK, hD0, hZ⟩ := hv
  have hx := B.exec
  have hb := B.bytes
  have hr := B.returns
  have hts := atoms_spec (ws := wsX8_heardMany) B.pre
  have hown : s.vm.findClass RX8 = some m.cls := findClass_of_methodNamed B.named
  have hlocks := B.notSynchronized
  subst hsz
  have hD := hD0.self (sz := s.heap.size)
  generalize hAe : va_A [(a_this, .inr (8, [.ref a_this_s, .ref a_this_image, .ref a_this_was, .int v_hasImage, .ref a_this_letters, .ref a_this_row, .ref a_this_refused, .int v_letterMany, .int v_rowMany, .int v_place, .ref a_this_numbers, .ref a_this_least, .ref a_this_stepsFrom, .ref a_this_most, .ref a_this_next, .ref a_this_otherSteps, .ref a_this_ahead, .ref a_this_now, .int v_seed])), (a_this_s, .inl (cI, 39, .inl g_s))] s.heap.size = A at hD hZ ⊢
  have hA : ∀ q : Nat, s.heap.size ≤ q → A q := fun q h => by rw [← hAe]; exact Or.inr h
  have hS : va_S A s.heap s.heap [] := va_S.rf
  have hP : va_P (dC, dI) vwCl [(a_this, .inr (8, [.ref a_this_s, .ref a_this_image, .ref a_this_was, .int v_hasImage, .ref a_this_letters, .ref a_this_row, .ref a_this_refused, .int v_letterMany, .int v_rowMany, .int v_place, .ref a_this_numbers, .ref a_this_least, .ref a_this_stepsFrom, .ref a_this_most, .ref a_this_next, .ref a_this_otherSteps, .ref a_this_ahead, .ref a_this_now, .int v_seed])), (a_this_s, .inl (cI, 39, .inl g_s))] s.heap := hP
  have hl := lv_entry ([.ref a_this]) (n := 3) (Nat.le_of_ble_eq_true rfl)
  rw [lg_entry_eq]
  generalize (lg_sl ([.ref a_this]) ++ List.replicate (3 - (lg_sl ([.ref a_this])).length) Slot.unset).toArray = ls at hl ⊢
  have hl : lv_has ls 3 [(0, .ref a_this)] := hl
  have he := hf
  unfold f_M_heardMany at he
  refine zstart (D := (dC, dI)) (cl := vwCl) (A := A) (nL := 3) (fun WW hWW => ?_)
  refine lv_iconst (v := (0 : Int32)) hx hb dX8_heardMany_0 (by decide) ?_
  refine lv_istore_n (lv' := [(1, .int (0 : Int32)), (0, .ref a_this)]) hx hb dX8_heardMany_1 rfl hl (by decide) rfl (fun ls hl => ?_)
  refine lv_iconst (v := (0 : Int32)) hx hb dX8_heardMany_2 (by decide) ?_
  refine lv_istore_n (lv' := [(2, .int (0 : Int32)), (1, .int (0 : Int32)), (0, .ref a_this)]) hx hb dX8_heardMany_3 rfl hl (by decide) rfl (fun ls hl => ?_)
  refine (hWW _ _ _ _).mp (zl2_w he (fun (l1_1 : Int32) (l2_2 : Int32) => WW [(a_this, .inr (8, [.ref a_this_s, .ref a_this_image, .ref a_this_was, .int v_hasImage, .ref a_this_letters, .ref a_this_row, .ref a_this_refused, .int v_letterMany, .int v_rowMany, .int v_place, .ref a_this_numbers, .ref a_this_least, .ref a_this_stepsFrom, .ref a_this_most, .ref a_this_next, .ref a_this_otherSteps, .ref a_this_ahead, .ref a_this_now, .int v_seed])), (a_this_s, .inl (cI, 39, .inl g_s))] [(0, .ref a_this), (1, .int l1_1), (2, .int l2_2)] 4 []) (fun l1_1 l2_2 again3 hagain3 he => (hWW _ _ _ _).mpr (fun H locs ls hP hD hS hl => ?_))) _ _ _ hP hD hS (lv_sub hl [2, 1, 0] rfl)
  refine lv_iload_n hx hb dX8_heardMany_4 rfl (lv_at hl 2 rfl) ?_
  refine lv_bipush (v := (36 : Int32)) hx hb dX8_heardMany_5 (by decide) ?_
  refine lv_icmp_ge (tgt := 32) hx hb dX8_heardMany_7 (by decide) (fun c4 => ?_) (fun c4 => ?_)
  · have he := zif_t c4 he
    refine lv_iload_n hx hb dX8_heardMany_32 rfl (lv_at hl 1 rfl) ?_
    obtain ⟨rfl⟩ := zi1 he
    exact W.iret hx hb hr (fun t ht hW => ⟨⟨_, (), rfl, rfl, by rw [ht]; exact hP, va_K.moved hW.alike hK, hD⟩, hS.F ht⟩) hS.2.2 dX8_heardMany_33
  · have he := zif_f c4 he
    refine lv_iload_n hx hb dX8_heardMany_10 rfl (lv_at hl 1 rfl) ?_
    refine lv_aload_n hx hb dX8_heardMany_11 rfl (lv_at hl 0 rfl) ?_
    refine lv_iload_n hx hb dX8_heardMany_12 rfl (lv_at hl 2 rfl) ?_
    obtain ⟨r5, hf6, he⟩ := zb1_e he
    refine zc_i (wr := []) (ws' := [(a_this, .inr (8, [.ref a_this_s, .ref a_this_image, .ref a_this_was, .int v_hasImage, .ref a_this_letters, .ref a_this_row, .ref a_this_refused, .int v_letterMany, .int v_rowMany, .int v_place, .ref a_this_numbers, .ref a_this_least, .ref a_this_stepsFrom, .ref a_this_most, .ref a_this_next, .ref a_this_otherSteps, .ref a_this_ahead, .ref a_this_now, .int v_seed])), (a_this_s, .inl (cI, 39, .inl g_s))]) (va_runV (As := [.int l2_2]) (rest := [.int l1_1]) ⟨hx, hb, hml, hown, hts⟩ (k_M_isHeard l dC dI cI cZ tt sd a_this a_this_s a_this_image a_this_was a_this_letters a_this_row a_this_refused a_this_numbers a_this_least a_this_stepsFrom a_this_most a_this_next a_this_otherSteps a_this_ahead a_this_now H.size v_hasImage v_letterMany v_rowMany v_place v_seed g_s l2_2 r5 hf6) (cwV 1 hts gX8_heardMany_X8_isHeard rfl rfl rfl (by decide +kernel) ⟨Nat.le_of_ble_eq_true rfl, Nat.le_of_ble_eq_true rfl⟩) (zpV hP hD hK hS hA hZ [0, 1] rfl rfl 8 0 rfl rfl) rfl rfl hl.1 rfl (lv_room (Nat.le_of_ble_eq_true rfl)) dX8_heardMany_13 ⟨Nat.zero_le _, Nat.zero_le _⟩) hP hD hS hA [0, 1] [] [0, 1] rfl rfl rfl (by decide) rfl rfl rfl (fun H locs hP hD hS => ?_)
    refine zj1_w he (fun (s7 : Int32) => WW [(a_this, .inr (8, [.ref a_this_s, .ref a_this_image, .ref a_this_was, .int v_hasImage, .ref a_this_letters, .ref a_this_row, .ref a_this_refused, .int v_letterMany, .int v_rowMany, .int v_place, .ref a_this_numbers, .ref a_this_least, .ref a_this_stepsFrom, .ref a_this_most, .ref a_this_next, .ref a_this_otherSteps, .ref a_this_ahead, .ref a_this_now, .int v_seed])), (a_this_s, .inl (cI, 39, .inl g_s))] [(0, .ref a_this), (2, .int l2_2)] 24 [.int s7, .int l1_1]) (fun s7 he => (hWW _ _ _ _).mpr (fun H locs ls hP hD hS hl => ?_)) (fun k10 hk10 he => ?_)
    · refine lv_iadd hx hb dX8_heardMany_24 ?_
      refine lv_topi (fun x8 ex8 => ?_)
      have he := zn_e ex8 he
      refine lv_istore_n (lv' := [(1, .int x8), (0, .ref a_this), (2, .int l2_2)]) hx hb dX8_heardMany_25 rfl hl (by decide) rfl (fun ls hl => ?_)
      obtain ⟨x9, ex9⟩ : ∃ y : Int32, y = l2_2 + (1 : Int32) := ⟨_, rfl⟩
      have he := zn_e ex9 he
      refine lv_iinc (v := x9) (lv' := [(2, .int x9), (1, .int x8), (0, .ref a_this)]) hx hb dX8_heardMany_26 hl (k := 2) rfl (by rw [ex9]; rfl) (by decide) rfl (fun ls hl => ?_)
      refine lv_goto (tgt := 4) hx hb dX8_heardMany_29 (by decide) ?_
      exact (hWW _ _ _ _).mp (hagain3 x8 x9 he) _ _ _ hP hD hS (lv_sub hl [2, 1, 0] rfl)
    refine lv_if_eq (tgt := 23) hx hb dX8_heardMany_16 (by decide) (fun c11 => ?_) (fun c11 => ?_)
    · have he := zif_t c11 he
      refine lv_iconst (v := (0 : Int32)) hx hb dX8_heardMany_23 (by decide) ?_
      exact (hWW _ _ _ _).mp (hk10 (0 : Int32) he) _ _ _ hP hD hS (lv_sub hl [0, 2] rfl)
    · have he := zif_f c11 he
      refine lv_iconst (v := (1 : Int32)) hx hb dX8_heardMany_19 (by decide) ?_
      refine lv_goto (tgt := 24) hx hb dX8_heardMany_20 (by decide) ?_
      exact (hWW _ _ _ _).mp (hk10 (1 : Int32) he) _ _ _ hP hD hS (lv_sub hl [0, 2] rfl)
set_option maxHeartbeats 4000000 in
set_option maxRecDepth 100000 in
theorem k_M_newNiche (l : Launch) (dC : Nat → ClassId) (dI : Nat → Nat → Nat) (cI : ClassId) (cZ : ClassId) (tt : Nat → Nat) (sd : Nat → Nat) (a_this : Nat) (a_this_s : Nat) (a_this_image : Nat) (a_this_was : Nat) (a_this_letters : Nat) (a_this_row : Nat) (a_this_refused : Nat) (a_this_numbers : Nat) (a_this_least : Nat) (a_this_stepsFrom : Nat) (a_this_most : Nat) (a_this_next : Nat) (a_this_otherSteps : Nat) (a_this_ahead : Nat) (a_this_now : Nat) (sz : Nat) (v_hasImage : Int32) (v_letterMany : Int32) (v_rowMany : Int32) (v_place : Int32) (v_seed : Int32) (g_refused : Nat → Int32) (g_s : Nat → Int32) (p1 : Int32) (r0 : Int32) (w0 : Nat → Int32) (hf : f_M_newNiche g_refused g_s p1 = some (r0, w0)) : Met l yX8_newNiche wsX8_newNiche ({ frames := 4, cells := 0, slots := 0, locals := 85 }) (zPre (dC, dI) vwCl [(cI, .int), (cZ, .boolean)] tt sd [.ref a_this, .int p1] [(a_this, .inr (8, [.ref a_this_s, .ref a_this_image, .ref a_this_was, .int v_hasImage, .ref a_this_letters, .ref a_this_row, .ref a_this_refused, .int v_letterMany, .int v_rowMany, .int v_place, .ref a_this_numbers, .ref a_this_least, .ref a_this_stepsFrom, .ref a_this_most, .ref a_this_next, .ref a_this_otherSteps, .ref a_this_ahead, .ref a_this_now, .int v_seed])), (a_this_refused, .inl (cI, 7, .inl g_refused)), (a_this_s, .inl (cI, 39, .inl g_s))] sz) (zQi (dC, dI) vwCl [(cI, .int), (cZ, .boolean)] r0 [(a_this, .inr (8, [.ref a_this_s, .ref a_this_image, .ref a_this_was, .int v_hasImage, .ref a_this_letters, .ref a_this_row, .ref a_this_refused, .int v_letterMany, .int v_rowMany, .int v_place, .ref a_this_numbers, .ref a_this_least, .ref a_this_stepsFrom, .ref a_this_most, .ref a_this_next, .ref a_this_otherSteps, .ref a_this_ahead, .ref a_this_now, .int v_seed])), (a_this_refused, .inl (cI, 7, .inl w0)), (a_this_s, .inl (cI, 39, .inl g_s))] (va_A [(a_this, .inr (8, [.ref a_this_s, .ref a_this_image, .ref a_this_was, .int v_hasImage, .ref a_this_letters, .ref a_this_row, .ref a_this_refused, .int v_letterMany, .int v_rowMany, .int v_place, .ref a_this_numbers, .ref a_this_least, .ref a_this_stepsFrom, .ref a_this_most, .ref a_this_next, .ref a_this_otherSteps, .ref a_this_ahead, .ref a_this_now, .int v_seed])), (a_this_refused, .inl (cI, 7, .inl g_refused)), (a_this_s, .inl (cI, 39, .inl g_s))] sz)) 0 0 (va_A [(a_this, .inr (8, [.ref a_this_s, .ref a_this_image, .ref a_this_was, .int v_hasImage, .ref a_this_letters, .ref a_this_row, .ref a_this_refused, .int v_letterMany, .int v_rowMany, .int v_place, .ref a_this_numbers, .ref a_this_least, .ref a_this_stepsFrom, .ref a_this_most, .ref a_this_next, .ref a_this_otherSteps, .ref a_this_ahead, .ref a_this_now, .int v_seed])), (a_this_refused, .inl (cI, 7, .inl g_refused)), (a_this_s, .inl (cI, 39, .inl g_s))] sz) := by
  refine Met.ofW (cc := cX8_newNiche) (maxL := 7) (ret := (some .int)) (by decide) rfl ?_
  intro p e s m args below meth c s₁ B hml hv
  obtain ⟨rfl, hsz, hP, hK, hD0, hZ⟩ := hv
  have hx := B.exec
  have hb := B.bytes
  have hr := B.returns
  have hts := atoms_spec (ws := wsX8_newNiche) B.pre
  have hown : s.vm.findClass RX8 = some m.cls := findClass_of_methodNamed B.named
  have hlocks := B.notSynchronized
  subst hsz
  have hD := hD0.self (sz := s.heap.size)
  generalize hAe : va_A [(a_this, .inr (8, [.ref a_this_s, .ref a_this_image, .ref a_this_was, .int v_hasImage, .ref a_this_letters, .ref a_this_row, .ref a_this_refused, .int v_letterMany, .int v_rowMany, .int v_place, .ref a_this_numbers, .ref a_this_least, .ref a_this_stepsFrom, .ref a_this_most, .ref a_this_next, .ref a_this_otherSteps, .ref a_this_ahead, .ref a_this_now, .int v_seed])), (a_this_refused, .inl (cI, 7, .inl g_refused)), (a_this_s, .inl (cI, 39, .inl g_s))] s.heap.size = A at hD hZ ⊢
  have hA : ∀ q : Nat, s.heap.size ≤ q → A q := fun q h => by rw [← hAe]; exact Or.inr h
  have hS : va_S A s.heap s.heap [] := va_S.rf
  have hP : va_P (dC, dI) vwCl [(a_this, .inr (8, [.ref a_this_s, .ref a_this_image, .ref a_this_was, .int v_hasImage, .ref a_this_letters, .ref a_this_row, .ref a_this_refused, .int v_letterMany, .int v_rowMany, .int v_place, .ref a_this_numbers, .ref a_this_least, .ref a_this_stepsFrom, .ref a_this_most, .ref a_this_next, .ref a_this_otherSteps, .ref a_this_ahead, .ref a_this_now, .int v_seed])), (a_this_refused, .inl (cI, 7, .inl g_refused)), (a_this_s, .inl (cI, 39, .inl g_s))] s.heap := hP
  have hl := lv_entry ([.ref a_this, .int p1]) (n := 7) (Nat.le_of_ble_eq_true rfl)
  rw [lg_entry_eq]
  generalize (lg_sl ([.ref a_this, .int p1]) ++ List.replicate (7 - (lg_sl ([.ref a_this, .int p1])).length) Slot.unset).toArray = ls at hl ⊢
  have hl : lv_has ls 7 [(0, .ref a_this), (1, .int p1)] := hl
  have he := hf
  unfold f_M_newNiche at he
  refine zstart (D := (dC, dI)) (cl := vwCl) (A := A) (nL := 7) (fun WW hWW => ?_)
  refine lv_iload_n hx hb dX8_newNiche_0 rfl (lv_at hl 1 rfl) ?_
  refine lv_iconst (v := (0 : Int32)) hx hb dX8_newNiche_1 (by decide) ?_
  refine lv_iconst (v := (1 : Int32)) hx hb dX8_newNiche_2 (by decide) ?_
  obtain ⟨r1, hf2, he⟩ := zb1_e he
  refine zc_i (wr := [(a_this, .inr (8, [.ref a_this_s, .ref a_this_image, .ref a_this_was, .int v_hasImage, .ref a_this_letters, .ref a_this_row, .ref a_this_refused, .int v_letterMany, .int v_rowMany, .int v_place, .ref a_this_numbers, .ref a_this_least, .ref a_this_stepsFrom, .ref a_this_most, .ref a_this_next, .ref a_this_otherSteps, .ref a_this_ahead, .ref a_this_now, .int v_seed])), (a_this_refused, .inl (cI, 7, .inl g_refused)), (a_this_s, .inl (cI, 39, .inl g_s))]) (ws' := [(a_this, .inr (8, [.ref a_this_s, .ref a_this_image, .ref a_this_was, .int v_hasImage, .ref a_this_letters, .ref a_this_row, .ref a_this_refused, .int v_letterMany, .int v_rowMany, .int v_place, .ref a_this_numbers, .ref a_this_least, .ref a_this_stepsFrom, .ref a_this_most, .ref a_this_next, .ref a_this_otherSteps, .ref a_this_ahead, .ref a_this_now, .int v_seed])), (a_this_refused, .inl (cI, 7, .inl g_refused)), (a_this_s, .inl (cI, 39, .inl g_s))]) (va_runS (As := [.int p1, .int (0 : Int32), .int (1 : Int32)]) (rest := []) ⟨hx, hb, hml, hown, hts⟩ (k_M_isIn l dC dI cI cZ tt sd s.heap.size p1 (0 : Int32) (1 : Int32) r1 hf2) (va_cwS 3 hts gX8_newNiche_X8_isIn rfl rfl rfl (by decide +kernel) ⟨Nat.le_of_ble_eq_true rfl, Nat.le_of_ble_eq_true rfl⟩) (zpS hP hD hK hS hA hZ [] rfl rfl) rfl rfl hl.1 rfl (lv_room (Nat.le_of_ble_eq_true rfl)) dX8_newNiche_3 ⟨Nat.zero_le _, Nat.zero_le _⟩) hP hD hS hA [] [0, 1, 2] [0, 1, 2] rfl rfl rfl (by decide) rfl rfl rfl (fun H locs hP hD hS => ?_)
  refine lv_if_ne (tgt := 16) hx hb dX8_newNiche_6 (by decide) (fun c3 => ?_) (fun c3 => ?_)
  · have he := zif_f c3 he
    refine lv_bipush (v := (-9 : Int32)) hx hb dX8_newNiche_16 (by decide) ?_
    refine lv_istore_n (lv' := [(2, .int (-9 : Int32)), (0, .ref a_this), (1, .int p1)]) hx hb dX8_newNiche_18 rfl hl (by decide) rfl (fun ls hl => ?_)
    refine lv_iconst (v := (0 : Int32)) hx hb dX8_newNiche_19 (by decide) ?_
    refine lv_istore_n (lv' := [(3, .int (0 : Int32)), (2, .int (-9 : Int32)), (0, .ref a_this), (1, .int p1)]) hx hb dX8_newNiche_20 rfl hl (by decide) rfl (fun ls hl => ?_)
    refine lv_iconst (v := (0 : Int32)) hx hb dX8_newNiche_21 (by decide) ?_
    refine lv_istore (lv' := [(4, .int (0 : Int32)), (3, .int (0 : Int32)), (2, .int (-9 : Int32)), (0, .ref a_this), (1, .int p1)]) hx hb dX8_newNiche_22 hl (by decide) rfl (fun ls hl => ?_)
    refine zj2_w he (fun (l2_4 : Int32) (l3_5 : Int32) => WW [(a_this, .inr (8, [.ref a_this_s, .ref a_this_image, .ref a_this_was, .int v_hasImage, .ref a_this_letters, .ref a_this_row, .ref a_this_refused, .int v_letterMany, .int v_rowMany, .int v_place, .ref a_this_numbers, .ref a_this_least, .ref a_this_stepsFrom, .ref a_this_most, .ref a_this_next, .ref a_this_otherSteps, .ref a_this_ahead, .ref a_this_now, .int v_seed])), (a_this_refused, .inl (cI, 7, .inl g_refused)), (a_this_s, .inl (cI, 39, .inl g_s))] [(1, .int p1), (2, .int l2_4), (3, .int l3_5)] 125 []) (fun l2_4 l3_5 he => (hWW _ _ _ _).mpr (fun H locs ls hP hD hS hl => ?_)) (fun k8 hk8 he => ?_)
    · refine lv_iload_n hx hb dX8_newNiche_125 rfl (lv_at hl 0 rfl) ?_
      refine lv_if_eq (tgt := 133) hx hb dX8_newNiche_126 (by decide) (fun c6 => ?_) (fun c6 => ?_)
      · have he := zif_t c6 he
        refine lv_iload_n hx hb dX8_newNiche_133 rfl (lv_at hl 1 rfl) ?_
        refine lv_goto (tgt := 138) hx hb dX8_newNiche_134 (by decide) ?_
        obtain ⟨rfl, rfl⟩ := zi2 he
        exact W.iret hx hb hr (fun t ht hW => ⟨⟨_, (), rfl, rfl, by rw [ht]; exact hP, va_K.moved hW.alike hK, hD⟩, hS.F ht⟩) hS.2.2 dX8_newNiche_138
      · have he := zif_f c6 he
        refine lv_iload_n hx hb dX8_newNiche_129 rfl (lv_at hl 1 rfl) ?_
        refine lv_if_ge (tgt := 137) hx hb dX8_newNiche_130 (by decide) (fun c7 => ?_) (fun c7 => ?_)
        · have he := zif_t c7 he
          refine lv_iload_n hx hb dX8_newNiche_137 rfl (lv_at hl 2 rfl) ?_
          obtain ⟨rfl, rfl⟩ := zi2 he
          exact W.iret hx hb hr (fun t ht hW => ⟨⟨_, (), rfl, rfl, by rw [ht]; exact hP, va_K.moved hW.alike hK, hD⟩, hS.F ht⟩) hS.2.2 dX8_newNiche_138
        · have he := zif_f c7 he
          refine lv_iload_n hx hb dX8_newNiche_133 rfl (lv_at hl 1 rfl) ?_
          refine lv_goto (tgt := 138) hx hb dX8_newNiche_134 (by decide) ?_
          obtain ⟨rfl, rfl⟩ := zi2 he
          exact W.iret hx hb hr (fun t ht hW => ⟨⟨_, (), rfl, rfl, by rw [ht]; exact hP, va_K.moved hW.alike hK, hD⟩, hS.F ht⟩) hS.2.2 dX8_newNiche_138
    refine (hWW _ _ _ _).mp (zl3_w he (fun (l2_9 : Int32) (l3_10 : Int32) (l4_11 : Int32) => WW [(a_this, .inr (8, [.ref a_this_s, .ref a_this_image, .ref a_this_was, .int v_hasImage, .ref a_this_letters, .ref a_this_row, .ref a_this_refused, .int v_letterMany, .int v_rowMany, .int v_place, .ref a_this_numbers, .ref a_this_least, .ref a_this_stepsFrom, .ref a_this_most, .ref a_this_next, .ref a_this_otherSteps, .ref a_this_ahead, .ref a_this_now, .int v_seed])), (a_this_refused, .inl (cI, 7, .inl g_refused)), (a_this_s, .inl (cI, 39, .inl g_s))] [(0, .ref a_this), (1, .int p1), (2, .int l2_9), (3, .int l3_10), (4, .int l4_11)] 24 []) (fun l2_9 l3_10 l4_11 again12 hagain12 he => (hWW _ _ _ _).mpr (fun H locs ls hP hD hS hl => ?_))) _ _ _ hP hD hS (lv_sub hl [3, 4, 2, 1, 0] rfl)
    refine lv_iload hx hb dX8_newNiche_24 (lv_at hl 4 rfl) ?_
    refine lv_bipush (v := (36 : Int32)) hx hb dX8_newNiche_26 (by decide) ?_
    refine lv_icmp_ge (tgt := 125) hx hb dX8_newNiche_28 (by decide) (fun c13 => ?_) (fun c13 => ?_)
    · have he := zif_t c13 he
      exact (hWW _ _ _ _).mp (hk8 l2_9 l3_10 he) _ _ _ hP hD hS (lv_sub hl [1, 2, 3] rfl)
    · have he := zif_f c13 he
      refine lv_iload hx hb dX8_newNiche_31 (lv_at hl 4 rfl) ?_
      refine lv_aload_n hx hb dX8_newNiche_33 rfl (lv_at hl 0 rfl) ?_
      refine va_get (D := (dC, dI)) (ci := 8) (v := .ref a_this_s) (C := RX8) (T := TX8) (N := 19) hx hb hts (by decide +kernel) hown hK hP 0 rfl rfl 0 (by decide) (hts (.fieldLink RX8 9 "LawOfCornersModel" "s" "[I") (by decide +kernel)) (fun _ h9 => h9) rfl dX8_newNiche_34 ?_
      refine lv_bipush (v := (36 : Int32)) hx hb dX8_newNiche_37 (by decide) ?_
      obtain ⟨hg14, he⟩ := zg_e he
      refine va_iald hx hb hK hP 2 0 rfl rfl hg14 dX8_newNiche_39 ?_
      refine zj2_w he (fun (l2_15 : Int32) (l3_16 : Int32) => WW [(a_this, .inr (8, [.ref a_this_s, .ref a_this_image, .ref a_this_was, .int v_hasImage, .ref a_this_letters, .ref a_this_row, .ref a_this_refused, .int v_letterMany, .int v_rowMany, .int v_place, .ref a_this_numbers, .ref a_this_least, .ref a_this_stepsFrom, .ref a_this_most, .ref a_this_next, .ref a_this_otherSteps, .ref a_this_ahead, .ref a_this_now, .int v_seed])), (a_this_refused, .inl (cI, 7, .inl g_refused)), (a_this_s, .inl (cI, 39, .inl g_s))] [(0, .ref a_this), (1, .int p1), (2, .int l2_15), (3, .int l3_16), (4, .int l4_11)] 119 []) (fun l2_15 l3_16 he => (hWW _ _ _ _).mpr (fun H locs ls hP hD hS hl => ?_)) (fun k18 hk18 he => ?_)
      · obtain ⟨x17, ex17⟩ : ∃ y : Int32, y = l4_11 + (1 : Int32) := ⟨_, rfl⟩
        have he := zn_e ex17 he
        refine lv_iinc (v := x17) (lv' := [(4, .int x17), (0, .ref a_this), (1, .int p1), (2, .int l2_15), (3, .int l3_16)]) hx hb dX8_newNiche_119 hl (k := 4) rfl (by rw [ex17]; rfl) (by decide) rfl (fun ls hl => ?_)
        refine lv_goto (tgt := 24) hx hb dX8_newNiche_122 (by decide) ?_
        exact (hWW _ _ _ _).mp (hagain12 l2_15 l3_16 x17 he) _ _ _ hP hD hS (lv_sub hl [1, 2, 3, 4, 0] rfl)
      refine lv_icmp_eq (tgt := 119) hx hb dX8_newNiche_40 (by decide) (fun c19 => ?_) (fun c19 => ?_)
      · have he := zif_t c19 he
        exact (hWW _ _ _ _).mp (hk18 l2_9 l3_10 he) _ _ _ hP hD hS (lv_sub hl [0, 1, 2, 3, 4] rfl)
      · have he := zif_f c19 he
        refine lv_aload_n hx hb dX8_newNiche_43 rfl (lv_at hl 0 rfl) ?_
        refine lv_iload hx hb dX8_newNiche_44 (lv_at hl 4 rfl) ?_
        obtain ⟨r20, hf21, he⟩ := zb1_e he
        refine zc_i (wr := [(a_this_refused, .inl (cI, 7, .inl g_refused))]) (ws' := [(a_this, .inr (8, [.ref a_this_s, .ref a_this_image, .ref a_this_was, .int v_hasImage, .ref a_this_letters, .ref a_this_row, .ref a_this_refused, .int v_letterMany, .int v_rowMany, .int v_place, .ref a_this_numbers, .ref a_this_least, .ref a_this_stepsFrom, .ref a_this_most, .ref a_this_next, .ref a_this_otherSteps, .ref a_this_ahead, .ref a_this_now, .int v_seed])), (a_this_refused, .inl (cI, 7, .inl g_refused)), (a_this_s, .inl (cI, 39, .inl g_s))]) (va_runV (As := [.int l4_11]) (rest := []) ⟨hx, hb, hml, hown, hts⟩ (k_M_canBe l dC dI cI cZ tt sd a_this a_this_s a_this_image a_this_was a_this_letters a_this_row a_this_refused a_this_numbers a_this_least a_this_stepsFrom a_this_most a_this_next a_this_otherSteps a_this_ahead a_this_now H.size v_hasImage v_letterMany v_rowMany v_place v_seed g_s l4_11 r20 hf21) (cwV 1 hts gX8_newNiche_X8_canBe rfl rfl rfl (by decide +kernel) ⟨Nat.le_of_ble_eq_true rfl, Nat.le_of_ble_eq_true rfl⟩) (zpV hP hD hK hS hA hZ [0, 2] rfl rfl 8 0 rfl rfl) rfl rfl hl.1 rfl (lv_room (Nat.le_of_ble_eq_true rfl)) dX8_newNiche_46 ⟨Nat.zero_le _, Nat.zero_le _⟩) hP hD hS hA [0, 2] [1] [1, 0, 2] rfl rfl rfl (by decide) rfl rfl rfl (fun H locs hP hD hS => ?_)
        refine lv_if_ne (tgt := 55) hx hb dX8_newNiche_49 (by decide) (fun c22 => ?_) (fun c22 => ?_)
        · have he := zif_f c22 he
          refine lv_iconst (v := (0 : Int32)) hx hb dX8_newNiche_55 (by decide) ?_
          refine lv_istore (lv' := [(5, .int (0 : Int32)), (0, .ref a_this), (1, .int p1), (2, .int l2_9), (3, .int l3_10), (4, .int l4_11)]) hx hb dX8_newNiche_56 hl (by decide) rfl (fun ls hl => ?_)
          refine lv_iconst (v := (0 : Int32)) hx hb dX8_newNiche_58 (by decide) ?_
          refine lv_istore (lv' := [(6, .int (0 : Int32)), (5, .int (0 : Int32)), (0, .ref a_this), (1, .int p1), (2, .int l2_9), (3, .int l3_10), (4, .int l4_11)]) hx hb dX8_newNiche_59 hl (by decide) rfl (fun ls hl => ?_)
          refine zj1_w he (fun (l5_23 : Int32) => WW [(a_this, .inr (8, [.ref a_this_s, .ref a_this_image, .ref a_this_was, .int v_hasImage, .ref a_this_letters, .ref a_this_row, .ref a_this_refused, .int v_letterMany, .int v_rowMany, .int v_place, .ref a_this_numbers, .ref a_this_least, .ref a_this_stepsFrom, .ref a_this_most, .ref a_this_next, .ref a_this_otherSteps, .ref a_this_ahead, .ref a_this_now, .int v_seed])), (a_this_refused, .inl (cI, 7, .inl g_refused)), (a_this_s, .inl (cI, 39, .inl g_s))] [(0, .ref a_this), (1, .int p1), (2, .int l2_9), (3, .int l3_10), (4, .int l4_11), (5, .int l5_23)] 104 []) (fun l5_23 he => (hWW _ _ _ _).mpr (fun H locs ls hP hD hS hl => ?_)) (fun k25 hk25 he => ?_)
          · refine lv_iload hx hb dX8_newNiche_104 (lv_at hl 5 rfl) ?_
            refine lv_iload_n hx hb dX8_newNiche_106 rfl (lv_at hl 3 rfl) ?_
            refine lv_icmp_gt (tgt := 113) hx hb dX8_newNiche_107 (by decide) (fun c24 => ?_) (fun c24 => ?_)
            · have he := zif_t c24 he
              refine lv_iload hx hb dX8_newNiche_113 (lv_at hl 4 rfl) ?_
              refine lv_istore_n (lv' := [(2, .int l4_11), (0, .ref a_this), (1, .int p1), (3, .int l3_10), (4, .int l4_11), (5, .int l5_23)]) hx hb dX8_newNiche_115 rfl hl (by decide) rfl (fun ls hl => ?_)
              refine lv_iload hx hb dX8_newNiche_116 (lv_at hl 5 rfl) ?_
              refine lv_istore_n (lv' := [(3, .int l5_23), (2, .int l4_11), (0, .ref a_this), (1, .int p1), (4, .int l4_11), (5, .int l5_23)]) hx hb dX8_newNiche_118 rfl hl (by decide) rfl (fun ls hl => ?_)
              exact (hWW _ _ _ _).mp (hk18 l4_11 l5_23 he) _ _ _ hP hD hS (lv_sub hl [2, 3, 1, 0, 4] rfl)
            · have he := zif_f c24 he
              refine lv_goto (tgt := 119) hx hb dX8_newNiche_110 (by decide) ?_
              exact (hWW _ _ _ _).mp (hk18 l2_9 l3_10 he) _ _ _ hP hD hS (lv_sub hl [0, 1, 2, 3, 4] rfl)
          refine (hWW _ _ _ _).mp (zl2_w he (fun (l5_26 : Int32) (l6_27 : Int32) => WW [(a_this, .inr (8, [.ref a_this_s, .ref a_this_image, .ref a_this_was, .int v_hasImage, .ref a_this_letters, .ref a_this_row, .ref a_this_refused, .int v_letterMany, .int v_rowMany, .int v_place, .ref a_this_numbers, .ref a_this_least, .ref a_this_stepsFrom, .ref a_this_most, .ref a_this_next, .ref a_this_otherSteps, .ref a_this_ahead, .ref a_this_now, .int v_seed])), (a_this_refused, .inl (cI, 7, .inl g_refused)), (a_this_s, .inl (cI, 39, .inl g_s))] [(0, .ref a_this), (1, .int p1), (2, .int l2_9), (3, .int l3_10), (4, .int l4_11), (5, .int l5_26), (6, .int l6_27)] 61 []) (fun l5_26 l6_27 again28 hagain28 he => (hWW _ _ _ _).mpr (fun H locs ls hP hD hS hl => ?_))) _ _ _ hP hD hS (lv_sub hl [2, 3, 4, 5, 6, 1, 0] rfl)
          refine lv_iload hx hb dX8_newNiche_61 (lv_at hl 6 rfl) ?_
          refine lv_bipush (v := (36 : Int32)) hx hb dX8_newNiche_63 (by decide) ?_
          refine lv_icmp_ge (tgt := 104) hx hb dX8_newNiche_65 (by decide) (fun c29 => ?_) (fun c29 => ?_)
          · have he := zif_t c29 he
            exact (hWW _ _ _ _).mp (hk25 l5_26 he) _ _ _ hP hD hS (lv_sub hl [0, 1, 2, 3, 4, 5] rfl)
          · have he := zif_f c29 he
            refine lv_iload hx hb dX8_newNiche_68 (lv_at hl 5 rfl) ?_
            refine lv_iload hx hb dX8_newNiche_70 (lv_at hl 4 rfl) ?_
            refine lv_iload hx hb dX8_newNiche_72 (lv_at hl 6 rfl) ?_
            obtain ⟨r30, hf31, he⟩ := zb1_e he
            refine zc_i (wr := [(a_this, .inr (8, [.ref a_this_s, .ref a_this_image, .ref a_this_was, .int v_hasImage, .ref a_this_letters, .ref a_this_row, .ref a_this_refused, .int v_letterMany, .int v_rowMany, .int v_place, .ref a_this_numbers, .ref a_this_least, .ref a_this_stepsFrom, .ref a_this_most, .ref a_this_next, .ref a_this_otherSteps, .ref a_this_ahead, .ref a_this_now, .int v_seed])), (a_this_refused, .inl (cI, 7, .inl g_refused)), (a_this_s, .inl (cI, 39, .inl g_s))]) (ws' := [(a_this, .inr (8, [.ref a_this_s, .ref a_this_image, .ref a_this_was, .int v_hasImage, .ref a_this_letters, .ref a_this_row, .ref a_this_refused, .int v_letterMany, .int v_rowMany, .int v_place, .ref a_this_numbers, .ref a_this_least, .ref a_this_stepsFrom, .ref a_this_most, .ref a_this_next, .ref a_this_otherSteps, .ref a_this_ahead, .ref a_this_now, .int v_seed])), (a_this_refused, .inl (cI, 7, .inl g_refused)), (a_this_s, .inl (cI, 39, .inl g_s))]) (va_runS (As := [.int l4_11, .int l6_27]) (rest := [.int l5_26]) ⟨hx, hb, hml, hown, hts⟩ (k_M_apart l dC dI cI cZ tt sd H.size l4_11 l6_27 r30 hf31) (va_cwS 2 hts gX8_newNiche_X8_apart rfl rfl rfl (by decide +kernel) ⟨Nat.le_of_ble_eq_true rfl, Nat.le_of_ble_eq_true rfl⟩) (zpS hP hD hK hS hA hZ [] rfl rfl) rfl rfl hl.1 rfl (lv_room (Nat.le_of_ble_eq_true rfl)) dX8_newNiche_74 ⟨Nat.zero_le _, Nat.zero_le _⟩) hP hD hS hA [] [0, 1, 2] [0, 1, 2] rfl rfl rfl (by decide) rfl rfl rfl (fun H locs hP hD hS => ?_)
            refine lv_iconst (v := (1 : Int32)) hx hb dX8_newNiche_77 (by decide) ?_
            refine zj1_w he (fun (s32 : Int32) => WW [(a_this, .inr (8, [.ref a_this_s, .ref a_this_image, .ref a_this_was, .int v_hasImage, .ref a_this_letters, .ref a_this_row, .ref a_this_refused, .int v_letterMany, .int v_rowMany, .int v_place, .ref a_this_numbers, .ref a_this_least, .ref a_this_stepsFrom, .ref a_this_most, .ref a_this_next, .ref a_this_otherSteps, .ref a_this_ahead, .ref a_this_now, .int v_seed])), (a_this_refused, .inl (cI, 7, .inl g_refused)), (a_this_s, .inl (cI, 39, .inl g_s))] [(0, .ref a_this), (1, .int p1), (2, .int l2_9), (3, .int l3_10), (4, .int l4_11), (6, .int l6_27)] 95 [.int s32, .int l5_26]) (fun s32 he => (hWW _ _ _ _).mpr (fun H locs ls hP hD hS hl => ?_)) (fun k35 hk35 he => ?_)
            · refine lv_iadd hx hb dX8_newNiche_95 ?_
              refine lv_topi (fun x33 ex33 => ?_)
              have he := zn_e ex33 he
              refine lv_istore (lv' := [(5, .int x33), (0, .ref a_this), (1, .int p1), (2, .int l2_9), (3, .int l3_10), (4, .int l4_11), (6, .int l6_27)]) hx hb dX8_newNiche_96 hl (by decide) rfl (fun ls hl => ?_)
              obtain ⟨x34, ex34⟩ : ∃ y : Int32, y = l6_27 + (1 : Int32) := ⟨_, rfl⟩
              have he := zn_e ex34 he
              refine lv_iinc (v := x34) (lv' := [(6, .int x34), (5, .int x33), (0, .ref a_this), (1, .int p1), (2, .int l2_9), (3, .int l3_10), (4, .int l4_11)]) hx hb dX8_newNiche_98 hl (k := 6) rfl (by rw [ex34]; rfl) (by decide) rfl (fun ls hl => ?_)
              refine lv_goto (tgt := 61) hx hb dX8_newNiche_101 (by decide) ?_
              exact (hWW _ _ _ _).mp (hagain28 x33 x34 he) _ _ _ hP hD hS (lv_sub hl [2, 3, 4, 5, 6, 1, 0] rfl)
            refine zj1_w he (fun (_ : Unit) => WW [(a_this, .inr (8, [.ref a_this_s, .ref a_this_image, .ref a_this_was, .int v_hasImage, .ref a_this_letters, .ref a_this_row, .ref a_this_refused, .int v_letterMany, .int v_rowMany, .int v_place, .ref a_this_numbers, .ref a_this_least, .ref a_this_stepsFrom, .ref a_this_most, .ref a_this_next, .ref a_this_otherSteps, .ref a_this_ahead, .ref a_this_now, .int v_seed])), (a_this_refused, .inl (cI, 7, .inl g_refused)), (a_this_s, .inl (cI, 39, .inl g_s))] [(0, .ref a_this), (1, .int p1), (2, .int l2_9), (3, .int l3_10), (4, .int l4_11), (6, .int l6_27)] 94 [.int l5_26]) (fun _ he => (hWW _ _ _ _).mpr (fun H locs ls hP hD hS hl => ?_)) (fun k36 hk36 he => ?_)
            · refine lv_iconst (v := (0 : Int32)) hx hb dX8_newNiche_94 (by decide) ?_
              exact (hWW _ _ _ _).mp (hk35 (0 : Int32) he) _ _ _ hP hD hS (lv_sub hl [0, 1, 2, 3, 4, 5] rfl)
            refine lv_icmp_gt (tgt := 94) hx hb dX8_newNiche_78 (by decide) (fun c37 => ?_) (fun c37 => ?_)
            · have he := zif_t c37 he
              exact (hWW _ _ _ _).mp (hk36 () he) _ _ _ hP hD hS (lv_sub hl [0, 1, 2, 3, 4, 6] rfl)
            · have he := zif_f c37 he
              refine lv_aload_n hx hb dX8_newNiche_81 rfl (lv_at hl 0 rfl) ?_
              refine lv_iload hx hb dX8_newNiche_82 (lv_at hl 6 rfl) ?_
              obtain ⟨r38, hf39, he⟩ := zb1_e he
              refine zc_i (wr := [(a_this_refused, .inl (cI, 7, .inl g_refused))]) (ws' := [(a_this, .inr (8, [.ref a_this_s, .ref a_this_image, .ref a_this_was, .int v_hasImage, .ref a_this_letters, .ref a_this_row, .ref a_this_refused, .int v_letterMany, .int v_rowMany, .int v_place, .ref a_this_numbers, .ref a_this_least, .ref a_this_stepsFrom, .ref a_this_most, .ref a_this_next, .ref a_this_otherSteps, .ref a_this_ahead, .ref a_this_now, .int v_seed])), (a_this_refused, .inl (cI, 7, .inl g_refused)), (a_this_s, .inl (cI, 39, .inl g_s))]) (va_runV (As := [.int l6_27]) (rest := [.int l5_26]) ⟨hx, hb, hml, hown, hts⟩ (k_M_isHeard l dC dI cI cZ tt sd a_this a_this_s a_this_image a_this_was a_this_letters a_this_row a_this_refused a_this_numbers a_this_least a_this_stepsFrom a_this_most a_this_next a_this_otherSteps a_this_ahead a_this_now H.size v_hasImage v_letterMany v_rowMany v_place v_seed g_s l6_27 r38 hf39) (cwV 1 hts gX8_newNiche_X8_isHeard rfl rfl rfl (by decide +kernel) ⟨Nat.le_of_ble_eq_true rfl, Nat.le_of_ble_eq_true rfl⟩) (zpV hP hD hK hS hA hZ [0, 2] rfl rfl 8 0 rfl rfl) rfl rfl hl.1 rfl (lv_room (Nat.le_of_ble_eq_true rfl)) dX8_newNiche_84 ⟨Nat.zero_le _, Nat.zero_le _⟩) hP hD hS hA [0, 2] [1] [1, 0, 2] rfl rfl rfl (by decide) rfl rfl rfl (fun H locs hP hD hS => ?_)
              refine lv_if_ne (tgt := 94) hx hb dX8_newNiche_87 (by decide) (fun c40 => ?_) (fun c40 => ?_)
              · have he := zif_f c40 he
                exact (hWW _ _ _ _).mp (hk36 () he) _ _ _ hP hD hS (lv_sub hl [0, 1, 2, 3, 4, 6] rfl)
              · have he := zif_t c40 he
                refine lv_iconst (v := (1 : Int32)) hx hb dX8_newNiche_90 (by decide) ?_
                refine lv_goto (tgt := 95) hx hb dX8_newNiche_91 (by decide) ?_
                exact (hWW _ _ _ _).mp (hk35 (1 : Int32) he) _ _ _ hP hD hS (lv_sub hl [0, 1, 2, 3, 4, 6] rfl)
        · have he := zif_t c22 he
          refine lv_goto (tgt := 119) hx hb dX8_newNiche_52 (by decide) ?_
          exact (hWW _ _ _ _).mp (hk18 l2_9 l3_10 he) _ _ _ hP hD hS (lv_sub hl [0, 1, 2, 3, 4] rfl)
  · have he := zif_t c3 he
    refine lv_aload_n hx hb dX8_newNiche_9 rfl (lv_at hl 0 rfl) ?_
    refine lv_bipush (v := (-2 : Int32)) hx hb dX8_newNiche_10 (by decide) ?_
    obtain ⟨r41, g_refused_42, hf43, he⟩ := zb2_e he
    refine zc_i (wr := [(a_this_s, .inl (cI, 39, .inl g_s))]) (ws' := [(a_this, .inr (8, [.ref a_this_s, .ref a_this_image, .ref a_this_was, .int v_hasImage, .ref a_this_letters, .ref a_this_row, .ref a_this_refused, .int v_letterMany, .int v_rowMany, .int v_place, .ref a_this_numbers, .ref a_this_least, .ref a_this_stepsFrom, .ref a_this_most, .ref a_this_next, .ref a_this_otherSteps, .ref a_this_ahead, .ref a_this_now, .int v_seed])), (a_this_refused, .inl (cI, 7, .inl g_refused_42)), (a_this_s, .inl (cI, 39, .inl g_s))]) (va_runV (As := [.int (-2 : Int32)]) (rest := []) ⟨hx, hb, hml, hown, hts⟩ (k_M_no l dC dI cI cZ tt sd a_this a_this_s a_this_image a_this_was a_this_letters a_this_row a_this_refused a_this_numbers a_this_least a_this_stepsFrom a_this_most a_this_next a_this_otherSteps a_this_ahead a_this_now H.size v_hasImage v_letterMany v_rowMany v_place v_seed g_refused (-2 : Int32) r41 g_refused_42 hf43) (cwV 1 hts gX8_newNiche_X8_no rfl rfl rfl (by decide +kernel) ⟨Nat.le_of_ble_eq_true rfl, Nat.le_of_ble_eq_true rfl⟩) (zpV hP hD hK hS hA hZ [0, 1] rfl rfl 8 0 rfl rfl) rfl rfl hl.1 rfl (lv_room (Nat.le_of_ble_eq_true rfl)) dX8_newNiche_12 ⟨Nat.zero_le _, Nat.zero_le _⟩) hP hD hS hA [0, 1] [2] [1, 2, 0] rfl rfl rfl (by decide) rfl rfl rfl (fun H locs hP hD hS => ?_)
    obtain ⟨rfl, rfl⟩ := zi2 he
    exact W.iret hx hb hr (fun t ht hW => ⟨⟨_, (), rfl, rfl, by rw [ht]; exact hP, va_K.moved hW.alike hK, hD⟩, hS.F ht⟩) hS.2.2 dX8_newNiche_15
set_option maxHeartbeats 4000000 in
set_option maxRecDepth 100000 in
theorem k_M_bits (l : Launch) (dC : Nat → ClassId) (dI : Nat → Nat → Nat) (cI : ClassId) (cZ : ClassId) (tt : Nat → Nat) (sd : Nat → Nat) (sz : Nat) (p0 : Int32) (r0 : Int32) (hf : f_M_bits p0 = some (r0)) : Met l yX8_bits wsX8_bits ({ frames := 0, cells := 0, slots := 0, locals := 0 }) (zPre (dC, dI) vwCl [(cI, .int), (cZ, .boolean)] tt sd [.int p0] [] sz) (zQi (dC, dI) vwCl [(cI, .int), (cZ, .boolean)] r0 [] (va_A [] sz)) 0 0 (va_A [] sz) := by
  refine Met.ofW (cc := cX8_bits) (maxL := 3) (ret := (some .int)) (by decide) rfl ?_
  intro p e s m args below meth c s₁ B hml hv
  obtain ⟨rfl, hsz, hP, hK, hD0, hZ⟩ := hv
  have hx := B.exec
  have hb := B.bytes
  have hr := B.returns
  have hts := atoms_spec (ws := wsX8_bits) B.pre
  have hown : s.vm.findClass RX8 = some m.cls := findClass_of_methodNamed B.named
  have hlocks := B.notSynchronized
  subst hsz
  have hD := hD0.self (sz := s.heap.size)
  generalize hAe : va_A [] s.heap.size = A at hD hZ ⊢
  have hA : ∀ q : Nat, s.heap.size ≤ q → A q := fun q h => by rw [← hAe]; exact Or.inr h
  have hS : va_S A s.heap s.heap [] := va_S.rf
  have hP : va_P (dC, dI) vwCl [] s.heap := hP
  have hl := lv_entry ([.int p0]) (n := 3) (Nat.le_of_ble_eq_true rfl)
  rw [lg_entry_eq]
  generalize (lg_sl ([.int p0]) ++ List.replicate (3 - (lg_sl ([.int p0])).length) Slot.unset).toArray = ls at hl ⊢
  have hl : lv_has ls 3 [(0, .int p0)] := hl
  have he := hf
  unfold f_M_bits at he
  refine zstart (D := (dC, dI)) (cl := vwCl) (A := A) (nL := 3) (fun WW hWW => ?_)
  refine lv_iconst (v := (0 : Int32)) hx hb dX8_bits_0 (by decide) ?_
  refine lv_istore_n (lv' := [(1, .int (0 : Int32)), (0, .int p0)]) hx hb dX8_bits_1 rfl hl (by decide) rfl (fun ls hl => ?_)
  refine lv_iconst (v := (0 : Int32)) hx hb dX8_bits_2 (by decide) ?_
  refine lv_istore_n (lv' := [(2, .int (0 : Int32)), (1, .int (0 : Int32)), (0, .int p0)]) hx hb dX8_bits_3 rfl hl (by decide) rfl (fun ls hl => ?_)
  refine (hWW _ _ _ _).mp (zl2_w he (fun (l1_1 : Int32) (l2_2 : Int32) => WW [] [(0, .int p0), (1, .int l1_1), (2, .int l2_2)] 4 []) (fun l1_1 l2_2 again3 hagain3 he => (hWW _ _ _ _).mpr (fun H locs ls hP hD hS hl => ?_))) _ _ _ hP hD hS (lv_sub hl [2, 1, 0] rfl)
  refine lv_iload_n hx hb dX8_bits_4 rfl (lv_at hl 2 rfl) ?_
  refine lv_bipush (v := (8 : Int32)) hx hb dX8_bits_5 (by decide) ?_
  refine lv_icmp_ge (tgt := 24) hx hb dX8_bits_7 (by decide) (fun c4 => ?_) (fun c4 => ?_)
  · have he := zif_t c4 he
    refine lv_iload_n hx hb dX8_bits_24 rfl (lv_at hl 1 rfl) ?_
    obtain ⟨rfl⟩ := zi1 he
    exact W.iret hx hb hr (fun t ht hW => ⟨⟨_, (), rfl, rfl, by rw [ht]; exact hP, va_K.moved hW.alike hK, hD⟩, hS.F ht⟩) hS.2.2 dX8_bits_25
  · have he := zif_f c4 he
    refine lv_iload_n hx hb dX8_bits_10 rfl (lv_at hl 1 rfl) ?_
    refine lv_iload_n hx hb dX8_bits_11 rfl (lv_at hl 0 rfl) ?_
    refine lv_iload_n hx hb dX8_bits_12 rfl (lv_at hl 2 rfl) ?_
    refine lv_ishr hx hb dX8_bits_13 ?_
    refine lv_iconst (v := (1 : Int32)) hx hb dX8_bits_14 (by decide) ?_
    refine lv_iand hx hb dX8_bits_15 ?_
    refine lv_iadd hx hb dX8_bits_16 ?_
    refine lv_topi (fun x5 ex5 => ?_)
    have he := zn_e ex5 he
    refine lv_istore_n (lv' := [(1, .int x5), (0, .int p0), (2, .int l2_2)]) hx hb dX8_bits_17 rfl hl (by decide) rfl (fun ls hl => ?_)
    obtain ⟨x6, ex6⟩ : ∃ y : Int32, y = l2_2 + (1 : Int32) := ⟨_, rfl⟩
    have he := zn_e ex6 he
    refine lv_iinc (v := x6) (lv' := [(2, .int x6), (1, .int x5), (0, .int p0)]) hx hb dX8_bits_18 hl (k := 2) rfl (by rw [ex6]; rfl) (by decide) rfl (fun ls hl => ?_)
    refine lv_goto (tgt := 4) hx hb dX8_bits_21 (by decide) ?_
    exact (hWW _ _ _ _).mp (hagain3 x5 x6 he) _ _ _ hP hD hS (lv_sub hl [2, 1, 0] rfl)
set_option maxHeartbeats 4000000 in
set_option maxRecDepth 100000 in
theorem k_M_areAllHeard (l : Launch) (dC : Nat → ClassId) (dI : Nat → Nat → Nat) (cI : ClassId) (cZ : ClassId) (tt : Nat → Nat) (sd : Nat → Nat) (a_this : Nat) (a_this_s : Nat) (a_this_image : Nat) (a_this_was : Nat) (a_this_letters : Nat) (a_this_row : Nat) (a_this_refused : Nat) (a_this_numbers : Nat) (a_this_least : Nat) (a_this_stepsFrom : Nat) (a_this_most : Nat) (a_this_next : Nat) (a_this_otherSteps : Nat) (a_this_ahead : Nat) (a_this_now : Nat) (sz : Nat) (v_hasImage : Int32) (v_letterMany : Int32) (v_rowMany : Int32) (v_place : Int32) (v_seed : Int32) (g_s : Nat → Int32) (p1 : Int32) (r0 : Int32) (hf : f_M_areAllHeard g_s p1 = some (r0)) : Met l yX8_areAllHeard wsX8_areAllHeard ({ frames := 4, cells := 0, slots := 0, locals := 85 }) (zPre (dC, dI) vwCl [(cI, .int), (cZ, .boolean)] tt sd [.ref a_this, .int p1] [(a_this, .inr (8, [.ref a_this_s, .ref a_this_image, .ref a_this_was, .int v_hasImage, .ref a_this_letters, .ref a_this_row, .ref a_this_refused, .int v_letterMany, .int v_rowMany, .int v_place, .ref a_this_numbers, .ref a_this_least, .ref a_this_stepsFrom, .ref a_this_most, .ref a_this_next, .ref a_this_otherSteps, .ref a_this_ahead, .ref a_this_now, .int v_seed])), (a_this_s, .inl (cI, 39, .inl g_s))] sz) (zQi (dC, dI) vwCl [(cI, .int), (cZ, .boolean)] r0 [(a_this, .inr (8, [.ref a_this_s, .ref a_this_image, .ref a_this_was, .int v_hasImage, .ref a_this_letters, .ref a_this_row, .ref a_this_refused, .int v_letterMany, .int v_rowMany, .int v_place, .ref a_this_numbers, .ref a_this_least, .ref a_this_stepsFrom, .ref a_this_most, .ref a_this_next, .ref a_this_otherSteps, .ref a_this_ahead, .ref a_this_now, .int v_seed])), (a_this_s, .inl (cI, 39, .inl g_s))] (va_A [(a_this, .inr (8, [.ref a_this_s, .ref a_this_image, .ref a_this_was, .int v_hasImage, .ref a_this_letters, .ref a_this_row, .ref a_this_refused, .int v_letterMany, .int v_rowMany, .int v_place, .ref a_this_numbers, .ref a_this_least, .ref a_this_stepsFrom, .ref a_this_most, .ref a_this_next, .ref a_this_otherSteps, .ref a_this_ahead, .ref a_this_now, .int v_seed])), (a_this_s, .inl (cI, 39, .inl g_s))] sz)) 0 0 (va_A [(a_this, .inr (8, [.ref a_this_s, .ref a_this_image, .ref a_this_was, .int v_hasImage, .ref a_this_letters, .ref a_this_row, .ref a_this_refused, .int v_letterMany, .int v_rowMany, .int v_place, .ref a_this_numbers, .ref a_this_least, .ref a_this_stepsFrom, .ref a_this_most, .ref a_this_next, .ref a_this_otherSteps, .ref a_this_ahead, .ref a_this_now, .int v_seed])), (a_this_s, .inl (cI, 39, .inl g_s))] sz) := by
  refine Met.ofW (cc := cX8_areAllHeard) (maxL := 6) (ret := (some .boolean)) (by decide) rfl ?_
  intro p e s m args below meth c s₁ B hml hv
  obtain ⟨rfl, hsz, hP, hK, hD0, hZ⟩ := hv
  have hx := B.exec
  have hb := B.bytes
  have hr := B.returns
  have hts := atoms_spec (ws := wsX8_areAllHeard) B.pre
  have hown : s.vm.findClass RX8 = some m.cls := findClass_of_methodNamed B.named
  have hlocks := B.notSynchronized
  subst hsz
  have hD := hD0.self (sz := s.heap.size)
  generalize hAe : va_A [(a_this, .inr (8, [.ref a_this_s, .ref a_this_image, .ref a_this_was, .int v_hasImage, .ref a_this_letters, .ref a_this_row, .ref a_this_refused, .int v_letterMany, .int v_rowMany, .int v_place, .ref a_this_numbers, .ref a_this_least, .ref a_this_stepsFrom, .ref a_this_most, .ref a_this_next, .ref a_this_otherSteps, .ref a_this_ahead, .ref a_this_now, .int v_seed])), (a_this_s, .inl (cI, 39, .inl g_s))] s.heap.size = A at hD hZ ⊢
  have hA : ∀ q : Nat, s.heap.size ≤ q → A q := fun q h => by rw [← hAe]; exact Or.inr h
  have hS : va_S A s.heap s.heap [] := va_S.rf
  have hP : va_P (dC, dI) vwCl [(a_this, .inr (8, [.ref a_this_s, .ref a_this_image, .ref a_this_was, .int v_hasImage, .ref a_this_letters, .ref a_this_row, .ref a_this_refused, .int v_letterMany, .int v_rowMany, .int v_place, .ref a_this_numbers, .ref a_this_least, .ref a_this_stepsFrom, .ref a_this_most, .ref a_this_next, .ref a_this_otherSteps, .ref a_this_ahead, .ref a_this_now, .int v_seed])), (a_this_s, .inl (cI, 39, .inl g_s))] s.heap := hP
  have hl := lv_entry ([.ref a_this, .int p1]) (n := 6) (Nat.le_of_ble_eq_true rfl)
  rw [lg_entry_eq]
  generalize (lg_sl ([.ref a_this, .int p1]) ++ List.replicate (6 - (lg_sl ([.ref a_this, .int p1])).length) Slot.unset).toArray = ls at hl ⊢
  have hl : lv_has ls 6 [(0, .ref a_this), (1, .int p1)] := hl
  have he := hf
  unfold f_M_areAllHeard at he
  refine zstart (D := (dC, dI)) (cl := vwCl) (A := A) (nL := 6) (fun WW hWW => ?_)
  refine lv_iconst (v := (0 : Int32)) hx hb dX8_areAllHeard_0 (by decide) ?_
  refine lv_istore_n (lv' := [(2, .int (0 : Int32)), (0, .ref a_this), (1, .int p1)]) hx hb dX8_areAllHeard_1 rfl hl (by decide) rfl (fun ls hl => ?_)
  refine (hWW _ _ _ _).mp (zl1_w he (fun (l2_1 : Int32) => WW [(a_this, .inr (8, [.ref a_this_s, .ref a_this_image, .ref a_this_was, .int v_hasImage, .ref a_this_letters, .ref a_this_row, .ref a_this_refused, .int v_letterMany, .int v_rowMany, .int v_place, .ref a_this_numbers, .ref a_this_least, .ref a_this_stepsFrom, .ref a_this_most, .ref a_this_next, .ref a_this_otherSteps, .ref a_this_ahead, .ref a_this_now, .int v_seed])), (a_this_s, .inl (cI, 39, .inl g_s))] [(0, .ref a_this), (1, .int p1), (2, .int l2_1)] 2 []) (fun l2_1 again2 hagain2 he => (hWW _ _ _ _).mpr (fun H locs ls hP hD hS hl => ?_))) _ _ _ hP hD hS (lv_sub hl [1, 2, 0] rfl)
  refine lv_iload_n hx hb dX8_areAllHeard_2 rfl (lv_at hl 2 rfl) ?_
  refine lv_bipush (v := (36 : Int32)) hx hb dX8_areAllHeard_3 (by decide) ?_
  refine lv_icmp_ge (tgt := 109) hx hb dX8_areAllHeard_5 (by decide) (fun c3 => ?_) (fun c3 => ?_)
  · have he := zif_t c3 he
    refine lv_iconst (v := (1 : Int32)) hx hb dX8_areAllHeard_109 (by decide) ?_
    obtain ⟨rfl⟩ := zi1 he
    exact W.zret hx hb hr rfl (fun t ht hW => ⟨⟨_, (), rfl, rfl, by rw [ht]; exact hP, va_K.moved hW.alike hK, hD⟩, hS.F ht⟩) hS.2.2 dX8_areAllHeard_110
  · have he := zif_f c3 he
    refine lv_aload_n hx hb dX8_areAllHeard_8 rfl (lv_at hl 0 rfl) ?_
    refine lv_iload_n hx hb dX8_areAllHeard_9 rfl (lv_at hl 2 rfl) ?_
    obtain ⟨r4, hf5, he⟩ := zb1_e he
    refine zc_i (wr := []) (ws' := [(a_this, .inr (8, [.ref a_this_s, .ref a_this_image, .ref a_this_was, .int v_hasImage, .ref a_this_letters, .ref a_this_row, .ref a_this_refused, .int v_letterMany, .int v_rowMany, .int v_place, .ref a_this_numbers, .ref a_this_least, .ref a_this_stepsFrom, .ref a_this_most, .ref a_this_next, .ref a_this_otherSteps, .ref a_this_ahead, .ref a_this_now, .int v_seed])), (a_this_s, .inl (cI, 39, .inl g_s))]) (va_runV (As := [.int l2_1]) (rest := []) ⟨hx, hb, hml, hown, hts⟩ (k_M_isHeard l dC dI cI cZ tt sd a_this a_this_s a_this_image a_this_was a_this_letters a_this_row a_this_refused a_this_numbers a_this_least a_this_stepsFrom a_this_most a_this_next a_this_otherSteps a_this_ahead a_this_now H.size v_hasImage v_letterMany v_rowMany v_place v_seed g_s l2_1 r4 hf5) (cwV 1 hts gX8_areAllHeard_X8_isHeard rfl rfl rfl (by decide +kernel) ⟨Nat.le_of_ble_eq_true rfl, Nat.le_of_ble_eq_true rfl⟩) (zpV hP hD hK hS hA hZ [0, 1] rfl rfl 8 0 rfl rfl) rfl rfl hl.1 rfl (lv_room (Nat.le_of_ble_eq_true rfl)) dX8_areAllHeard_10 ⟨Nat.zero_le _, Nat.zero_le _⟩) hP hD hS hA [0, 1] [] [0, 1] rfl rfl rfl (by decide) rfl rfl rfl (fun H locs hP hD hS => ?_)
    refine zj1_w he (fun (s6 : Int32) => WW [(a_this, .inr (8, [.ref a_this_s, .ref a_this_image, .ref a_this_was, .int v_hasImage, .ref a_this_letters, .ref a_this_row, .ref a_this_refused, .int v_letterMany, .int v_rowMany, .int v_place, .ref a_this_numbers, .ref a_this_least, .ref a_this_stepsFrom, .ref a_this_most, .ref a_this_next, .ref a_this_otherSteps, .ref a_this_ahead, .ref a_this_now, .int v_seed])), (a_this_s, .inl (cI, 39, .inl g_s))] [(0, .ref a_this), (1, .int p1), (2, .int l2_1)] 21 [.int s6]) (fun s6 he => (hWW _ _ _ _).mpr (fun H locs ls hP hD hS hl => ?_)) (fun k36 hk36 he => ?_)
    · refine lv_istore_n (lv' := [(3, .int s6), (0, .ref a_this), (1, .int p1), (2, .int l2_1)]) hx hb dX8_areAllHeard_21 rfl hl (by decide) rfl (fun ls hl => ?_)
      refine lv_iconst (v := (0 : Int32)) hx hb dX8_areAllHeard_22 (by decide) ?_
      refine lv_istore (lv' := [(4, .int (0 : Int32)), (3, .int s6), (0, .ref a_this), (1, .int p1), (2, .int l2_1)]) hx hb dX8_areAllHeard_23 hl (by decide) rfl (fun ls hl => ?_)
      refine lv_iconst (v := (0 : Int32)) hx hb dX8_areAllHeard_25 (by decide) ?_
      refine lv_istore (lv' := [(5, .int (0 : Int32)), (4, .int (0 : Int32)), (3, .int s6), (0, .ref a_this), (1, .int p1), (2, .int l2_1)]) hx hb dX8_areAllHeard_26 hl (by decide) rfl (fun ls hl => ?_)
      refine zj1_w he (fun (l3_7 : Int32) => WW [(a_this, .inr (8, [.ref a_this_s, .ref a_this_image, .ref a_this_was, .int v_hasImage, .ref a_this_letters, .ref a_this_row, .ref a_this_refused, .int v_letterMany, .int v_rowMany, .int v_place, .ref a_this_numbers, .ref a_this_least, .ref a_this_stepsFrom, .ref a_this_most, .ref a_this_next, .ref a_this_otherSteps, .ref a_this_ahead, .ref a_this_now, .int v_seed])), (a_this_s, .inl (cI, 39, .inl g_s))] [(0, .ref a_this), (1, .int p1), (2, .int l2_1), (3, .int l3_7)] 97 []) (fun l3_7 he => (hWW _ _ _ _).mpr (fun H locs ls hP hD hS hl => ?_)) (fun k10 hk10 he => ?_)
      · refine lv_iload_n hx hb dX8_areAllHeard_97 rfl (lv_at hl 3 rfl) ?_
        refine lv_if_ne (tgt := 103) hx hb dX8_areAllHeard_98 (by decide) (fun c8 => ?_) (fun c8 => ?_)
        · have he := zif_f c8 he
          obtain ⟨x9, ex9⟩ : ∃ y : Int32, y = l2_1 + (1 : Int32) := ⟨_, rfl⟩
          have he := zn_e ex9 he
          refine lv_iinc (v := x9) (lv' := [(2, .int x9), (0, .ref a_this), (1, .int p1), (3, .int l3_7)]) hx hb dX8_areAllHeard_103 hl (k := 2) rfl (by rw [ex9]; rfl) (by decide) rfl (fun ls hl => ?_)
          refine lv_goto (tgt := 2) hx hb dX8_areAllHeard_106 (by decide) ?_
          exact (hWW _ _ _ _).mp (hagain2 x9 he) _ _ _ hP hD hS (lv_sub hl [1, 2, 0] rfl)
        · have he := zif_t c8 he
          refine lv_iconst (v := (0 : Int32)) hx hb dX8_areAllHeard_101 (by decide) ?_
          obtain ⟨rfl⟩ := zi1 he
          exact W.zret hx hb hr rfl (fun t ht hW => ⟨⟨_, (), rfl, rfl, by rw [ht]; exact hP, va_K.moved hW.alike hK, hD⟩, hS.F ht⟩) hS.2.2 dX8_areAllHeard_102
      refine (hWW _ _ _ _).mp (zl3_w he (fun (l3_11 : Int32) (l4_12 : Int32) (l5_13 : Int32) => WW [(a_this, .inr (8, [.ref a_this_s, .ref a_this_image, .ref a_this_was, .int v_hasImage, .ref a_this_letters, .ref a_this_row, .ref a_this_refused, .int v_letterMany, .int v_rowMany, .int v_place, .ref a_this_numbers, .ref a_this_least, .ref a_this_stepsFrom, .ref a_this_most, .ref a_this_next, .ref a_this_otherSteps, .ref a_this_ahead, .ref a_this_now, .int v_seed])), (a_this_s, .inl (cI, 39, .inl g_s))] [(0, .ref a_this), (1, .int p1), (2, .int l2_1), (3, .int l3_11), (4, .int l4_12), (5, .int l5_13)] 28 []) (fun l3_11 l4_12 l5_13 again14 hagain14 he => (hWW _ _ _ _).mpr (fun H locs ls hP hD hS hl => ?_))) _ _ _ hP hD hS (lv_sub hl [3, 4, 5, 2, 1, 0] rfl)
      refine lv_iload hx hb dX8_areAllHeard_28 (lv_at hl 5 rfl) ?_
      refine lv_bipush (v := (36 : Int32)) hx hb dX8_areAllHeard_30 (by decide) ?_
      refine lv_icmp_ge (tgt := 97) hx hb dX8_areAllHeard_32 (by decide) (fun c15 => ?_) (fun c15 => ?_)
      · have he := zif_t c15 he
        exact (hWW _ _ _ _).mp (hk10 l3_11 he) _ _ _ hP hD hS (lv_sub hl [0, 1, 2, 3] rfl)
      · have he := zif_f c15 he
        refine lv_aload_n hx hb dX8_areAllHeard_35 rfl (lv_at hl 0 rfl) ?_
        refine va_get (D := (dC, dI)) (ci := 8) (v := .ref a_this_s) (C := RX8) (T := TX8) (N := 19) hx hb hts (by decide +kernel) hown hK hP 0 rfl rfl 0 (by decide) (hts (.fieldLink RX8 9 "LawOfCornersModel" "s" "[I") (by decide +kernel)) (fun _ h9 => h9) rfl dX8_areAllHeard_36 ?_
        refine lv_iload hx hb dX8_areAllHeard_39 (lv_at hl 5 rfl) ?_
        obtain ⟨hg16, he⟩ := zg_e he
        refine va_iald hx hb hK hP 1 0 rfl rfl hg16 dX8_areAllHeard_41 ?_
        obtain ⟨r17, hf18, he⟩ := zb1_e he
        refine zc_i (wr := [(a_this, .inr (8, [.ref a_this_s, .ref a_this_image, .ref a_this_was, .int v_hasImage, .ref a_this_letters, .ref a_this_row, .ref a_this_refused, .int v_letterMany, .int v_rowMany, .int v_place, .ref a_this_numbers, .ref a_this_least, .ref a_this_stepsFrom, .ref a_this_most, .ref a_this_next, .ref a_this_otherSteps, .ref a_this_ahead, .ref a_this_now, .int v_seed])), (a_this_s, .inl (cI, 39, .inl g_s))]) (ws' := [(a_this, .inr (8, [.ref a_this_s, .ref a_this_image, .ref a_this_was, .int v_hasImage, .ref a_this_letters, .ref a_this_row, .ref a_this_refused, .int v_letterMany, .int v_rowMany, .int v_place, .ref a_this_numbers, .ref a_this_least, .ref a_this_stepsFrom, .ref a_this_most, .ref a_this_next, .ref a_this_otherSteps, .ref a_this_ahead, .ref a_this_now, .int v_seed])), (a_this_s, .inl (cI, 39, .inl g_s))]) (va_runS (As := [.int (g_s l5_13.toNatClampNeg)]) (rest := []) ⟨hx, hb, hml, hown, hts⟩ (k_M_hears l dC dI cI cZ tt sd H.size (g_s l5_13.toNatClampNeg) r17 hf18) (va_cwS 1 hts gX8_areAllHeard_X8_hears rfl rfl rfl (by decide +kernel) ⟨Nat.le_of_ble_eq_true rfl, Nat.le_of_ble_eq_true rfl⟩) (zpS hP hD hK hS hA hZ [] rfl rfl) rfl rfl hl.1 rfl (lv_room (Nat.le_of_ble_eq_true rfl)) dX8_areAllHeard_42 ⟨Nat.zero_le _, Nat.zero_le _⟩) hP hD hS hA [] [0, 1] [0, 1] rfl rfl rfl (by decide) rfl rfl rfl (fun H locs hP hD hS => ?_)
        refine zj2_w he (fun (l3_19 : Int32) (l4_20 : Int32) => WW [(a_this, .inr (8, [.ref a_this_s, .ref a_this_image, .ref a_this_was, .int v_hasImage, .ref a_this_letters, .ref a_this_row, .ref a_this_refused, .int v_letterMany, .int v_rowMany, .int v_place, .ref a_this_numbers, .ref a_this_least, .ref a_this_stepsFrom, .ref a_this_most, .ref a_this_next, .ref a_this_otherSteps, .ref a_this_ahead, .ref a_this_now, .int v_seed])), (a_this_s, .inl (cI, 39, .inl g_s))] [(0, .ref a_this), (1, .int p1), (2, .int l2_1), (3, .int l3_19), (4, .int l4_20), (5, .int l5_13)] 91 []) (fun l3_19 l4_20 he => (hWW _ _ _ _).mpr (fun H locs ls hP hD hS hl => ?_)) (fun k22 hk22 he => ?_)
        · obtain ⟨x21, ex21⟩ : ∃ y : Int32, y = l5_13 + (1 : Int32) := ⟨_, rfl⟩
          have he := zn_e ex21 he
          refine lv_iinc (v := x21) (lv' := [(5, .int x21), (0, .ref a_this), (1, .int p1), (2, .int l2_1), (3, .int l3_19), (4, .int l4_20)]) hx hb dX8_areAllHeard_91 hl (k := 5) rfl (by rw [ex21]; rfl) (by decide) rfl (fun ls hl => ?_)
          refine lv_goto (tgt := 28) hx hb dX8_areAllHeard_94 (by decide) ?_
          exact (hWW _ _ _ _).mp (hagain14 l3_19 l4_20 x21 he) _ _ _ hP hD hS (lv_sub hl [1, 2, 3, 4, 5, 0] rfl)
        refine lv_if_ge (tgt := 51) hx hb dX8_areAllHeard_45 (by decide) (fun c23 => ?_) (fun c23 => ?_)
        · have he := zif_t c23 he
          refine lv_iload_n hx hb dX8_areAllHeard_51 rfl (lv_at hl 3 rfl) ?_
          refine lv_iload_n hx hb dX8_areAllHeard_52 rfl (lv_at hl 1 rfl) ?_
          refine lv_iload hx hb dX8_areAllHeard_53 (lv_at hl 4 rfl) ?_
          refine lv_ishr hx hb dX8_areAllHeard_55 ?_
          refine lv_iconst (v := (1 : Int32)) hx hb dX8_areAllHeard_56 (by decide) ?_
          refine lv_iand hx hb dX8_areAllHeard_57 ?_
          refine lv_iconst (v := (1 : Int32)) hx hb dX8_areAllHeard_58 (by decide) ?_
          refine zj1_w he (fun (s24 : Int32) => WW [(a_this, .inr (8, [.ref a_this_s, .ref a_this_image, .ref a_this_was, .int v_hasImage, .ref a_this_letters, .ref a_this_row, .ref a_this_refused, .int v_letterMany, .int v_rowMany, .int v_place, .ref a_this_numbers, .ref a_this_least, .ref a_this_stepsFrom, .ref a_this_most, .ref a_this_next, .ref a_this_otherSteps, .ref a_this_ahead, .ref a_this_now, .int v_seed])), (a_this_s, .inl (cI, 39, .inl g_s))] [(0, .ref a_this), (1, .int p1), (2, .int l2_1), (4, .int l4_12), (5, .int l5_13)] 86 [.int s24, .int l3_11]) (fun s24 he => (hWW _ _ _ _).mpr (fun H locs ls hP hD hS hl => ?_)) (fun k27 hk27 he => ?_)
          · refine lv_ior hx hb dX8_areAllHeard_86 ?_
            refine lv_topi (fun x25 ex25 => ?_)
            have he := zn_e ex25 he
            refine lv_istore_n (lv' := [(3, .int x25), (0, .ref a_this), (1, .int p1), (2, .int l2_1), (4, .int l4_12), (5, .int l5_13)]) hx hb dX8_areAllHeard_87 rfl hl (by decide) rfl (fun ls hl => ?_)
            obtain ⟨x26, ex26⟩ : ∃ y : Int32, y = l4_12 + (1 : Int32) := ⟨_, rfl⟩
            have he := zn_e ex26 he
            refine lv_iinc (v := x26) (lv' := [(4, .int x26), (3, .int x25), (0, .ref a_this), (1, .int p1), (2, .int l2_1), (5, .int l5_13)]) hx hb dX8_areAllHeard_88 hl (k := 4) rfl (by rw [ex26]; rfl) (by decide) rfl (fun ls hl => ?_)
            exact (hWW _ _ _ _).mp (hk22 x25 x26 he) _ _ _ hP hD hS (lv_sub hl [2, 3, 4, 1, 0, 5] rfl)
          refine zj1_w he (fun (_ : Unit) => WW [(a_this, .inr (8, [.ref a_this_s, .ref a_this_image, .ref a_this_was, .int v_hasImage, .ref a_this_letters, .ref a_this_row, .ref a_this_refused, .int v_letterMany, .int v_rowMany, .int v_place, .ref a_this_numbers, .ref a_this_least, .ref a_this_stepsFrom, .ref a_this_most, .ref a_this_next, .ref a_this_otherSteps, .ref a_this_ahead, .ref a_this_now, .int v_seed])), (a_this_s, .inl (cI, 39, .inl g_s))] [(0, .ref a_this), (1, .int p1), (2, .int l2_1), (4, .int l4_12), (5, .int l5_13)] 85 [.int l3_11]) (fun _ he => (hWW _ _ _ _).mpr (fun H locs ls hP hD hS hl => ?_)) (fun k28 hk28 he => ?_)
          · refine lv_iconst (v := (0 : Int32)) hx hb dX8_areAllHeard_85 (by decide) ?_
            exact (hWW _ _ _ _).mp (hk27 (0 : Int32) he) _ _ _ hP hD hS (lv_sub hl [0, 1, 2, 3, 4] rfl)
          refine lv_icmp_ne (tgt := 85) hx hb dX8_areAllHeard_59 (by decide) (fun c29 => ?_) (fun c29 => ?_)
          · have he := zif_f c29 he
            exact (hWW _ _ _ _).mp (hk28 () he) _ _ _ hP hD hS (lv_sub hl [0, 1, 2, 4, 5] rfl)
          · have he := zif_t c29 he
            refine lv_aload_n hx hb dX8_areAllHeard_62 rfl (lv_at hl 0 rfl) ?_
            refine va_get (D := (dC, dI)) (ci := 8) (v := .ref a_this_s) (C := RX8) (T := TX8) (N := 19) hx hb hts (by decide +kernel) hown hK hP 0 rfl rfl 0 (by decide) (hts (.fieldLink RX8 9 "LawOfCornersModel" "s" "[I") (by decide +kernel)) (fun _ h9 => h9) rfl dX8_areAllHeard_63 ?_
            refine lv_iload hx hb dX8_areAllHeard_66 (lv_at hl 5 rfl) ?_
            obtain ⟨hg30, he⟩ := zg_e he
            refine va_iald hx hb hK hP 1 0 rfl rfl hg30 dX8_areAllHeard_68 ?_
            obtain ⟨r31, hf32, he⟩ := zb1_e he
            refine zc_i (wr := [(a_this, .inr (8, [.ref a_this_s, .ref a_this_image, .ref a_this_was, .int v_hasImage, .ref a_this_letters, .ref a_this_row, .ref a_this_refused, .int v_letterMany, .int v_rowMany, .int v_place, .ref a_this_numbers, .ref a_this_least, .ref a_this_stepsFrom, .ref a_this_most, .ref a_this_next, .ref a_this_otherSteps, .ref a_this_ahead, .ref a_this_now, .int v_seed])), (a_this_s, .inl (cI, 39, .inl g_s))]) (ws' := [(a_this, .inr (8, [.ref a_this_s, .ref a_this_image, .ref a_this_was, .int v_hasImage, .ref a_this_letters, .ref a_this_row, .ref a_this_refused, .int v_letterMany, .int v_rowMany, .int v_place, .ref a_this_numbers, .ref a_this_least, .ref a_this_stepsFrom, .ref a_this_most, .ref a_this_next, .ref a_this_otherSteps, .ref a_this_ahead, .ref a_this_now, .int v_seed])), (a_this_s, .inl (cI, 39, .inl g_s))]) (va_runS (As := [.int (g_s l5_13.toNatClampNeg)]) (rest := [.int l3_11]) ⟨hx, hb, hml, hown, hts⟩ (k_M_hears l dC dI cI cZ tt sd H.size (g_s l5_13.toNatClampNeg) r31 hf32) (va_cwS 1 hts gX8_areAllHeard_X8_hears rfl rfl rfl (by decide +kernel) ⟨Nat.le_of_ble_eq_true rfl, Nat.le_of_ble_eq_true rfl⟩) (zpS hP hD hK hS hA hZ [] rfl rfl) rfl rfl hl.1 rfl (lv_room (Nat.le_of_ble_eq_true rfl)) dX8_areAllHeard_69 ⟨Nat.zero_le _, Nat.zero_le _⟩) hP hD hS hA [] [0, 1] [0, 1] rfl rfl rfl (by decide) rfl rfl rfl (fun H locs hP hD hS => ?_)
            refine lv_iload hx hb dX8_areAllHeard_72 (lv_at hl 5 rfl) ?_
            refine lv_iload_n hx hb dX8_areAllHeard_74 rfl (lv_at hl 2 rfl) ?_
            obtain ⟨r33, hf34, he⟩ := zb1_e he
            refine zc_i (wr := [(a_this, .inr (8, [.ref a_this_s, .ref a_this_image, .ref a_this_was, .int v_hasImage, .ref a_this_letters, .ref a_this_row, .ref a_this_refused, .int v_letterMany, .int v_rowMany, .int v_place, .ref a_this_numbers, .ref a_this_least, .ref a_this_stepsFrom, .ref a_this_most, .ref a_this_next, .ref a_this_otherSteps, .ref a_this_ahead, .ref a_this_now, .int v_seed])), (a_this_s, .inl (cI, 39, .inl g_s))]) (ws' := [(a_this, .inr (8, [.ref a_this_s, .ref a_this_image, .ref a_this_was, .int v_hasImage, .ref a_this_letters, .ref a_this_row, .ref a_this_refused, .int v_letterMany, .int v_rowMany, .int v_place, .ref a_this_numbers, .ref a_this_least, .ref a_this_stepsFrom, .ref a_this_most, .ref a_this_next, .ref a_this_otherSteps, .ref a_this_ahead, .ref a_this_now, .int v_seed])), (a_this_s, .inl (cI, 39, .inl g_s))]) (va_runS (As := [.int l5_13, .int l2_1]) (rest := [.int r31, .int l3_11]) ⟨hx, hb, hml, hown, hts⟩ (k_M_apart l dC dI cI cZ tt sd H.size l5_13 l2_1 r33 hf34) (va_cwS 2 hts gX8_areAllHeard_X8_apart rfl rfl rfl (by decide +kernel) ⟨Nat.le_of_ble_eq_true rfl, Nat.le_of_ble_eq_true rfl⟩) (zpS hP hD hK hS hA hZ [] rfl rfl) rfl rfl hl.1 rfl (lv_room (Nat.le_of_ble_eq_true rfl)) dX8_areAllHeard_75 ⟨Nat.zero_le _, Nat.zero_le _⟩) hP hD hS hA [] [0, 1] [0, 1] rfl rfl rfl (by decide) rfl rfl rfl (fun H locs hP hD hS => ?_)
            refine lv_icmp_lt (tgt := 85) hx hb dX8_areAllHeard_78 (by decide) (fun c35 => ?_) (fun c35 => ?_)
            · have he := zif_t c35 he
              exact (hWW _ _ _ _).mp (hk28 () he) _ _ _ hP hD hS (lv_sub hl [0, 1, 2, 4, 5] rfl)
            · have he := zif_f c35 he
              refine lv_iconst (v := (1 : Int32)) hx hb dX8_areAllHeard_81 (by decide) ?_
              refine lv_goto (tgt := 86) hx hb dX8_areAllHeard_82 (by decide) ?_
              exact (hWW _ _ _ _).mp (hk27 (1 : Int32) he) _ _ _ hP hD hS (lv_sub hl [0, 1, 2, 4, 5] rfl)
        · have he := zif_f c23 he
          refine lv_goto (tgt := 91) hx hb dX8_areAllHeard_48 (by decide) ?_
          exact (hWW _ _ _ _).mp (hk22 l3_11 l4_12 he) _ _ _ hP hD hS (lv_sub hl [0, 1, 2, 3, 4, 5] rfl)
    refine lv_if_ne (tgt := 20) hx hb dX8_areAllHeard_13 (by decide) (fun c37 => ?_) (fun c37 => ?_)
    · have he := zif_f c37 he
      refine lv_iconst (v := (0 : Int32)) hx hb dX8_areAllHeard_20 (by decide) ?_
      exact (hWW _ _ _ _).mp (hk36 (0 : Int32) he) _ _ _ hP hD hS (lv_sub hl [0, 1, 2] rfl)
    · have he := zif_t c37 he
      refine lv_iconst (v := (1 : Int32)) hx hb dX8_areAllHeard_16 (by decide) ?_
      refine lv_goto (tgt := 21) hx hb dX8_areAllHeard_17 (by decide) ?_
      exact (hWW _ _ _ _).mp (hk36 (1 : Int32) he) _ _ _ hP hD hS (lv_sub hl [0, 1, 2] rfl)
set_option maxHeartbeats 4000000 in
set_option maxRecDepth 100000 in
theorem k_M_enough (l : Launch) (dC : Nat → ClassId) (dI : Nat → Nat → Nat) (cI : ClassId) (cZ : ClassId) (tt : Nat → Nat) (sd : Nat → Nat) (a_this : Nat) (a_this_s : Nat) (a_this_image : Nat) (a_this_was : Nat) (a_this_letters : Nat) (a_this_row : Nat) (a_this_refused : Nat) (a_this_numbers : Nat) (a_this_least : Nat) (a_this_stepsFrom : Nat) (a_this_most : Nat) (a_this_next : Nat) (a_this_otherSteps : Nat) (a_this_ahead : Nat) (a_this_now : Nat) (sz : Nat) (v_hasImage : Int32) (v_letterMany : Int32) (v_rowMany : Int32) (v_place : Int32) (v_seed : Int32) (g_refused : Nat → Int32) (g_s : Nat → Int32) (r0 : Int32) (w0 : Nat → Int32) (hf : f_M_enough g_refused g_s = some (r0, w0)) : Met l yX8_enough wsX8_enough ({ frames := 5, cells := 0, slots := 0, locals := 110 }) (zPre (dC, dI) vwCl [(cI, .int), (cZ, .boolean)] tt sd [.ref a_this] [(a_this, .inr (8, [.ref a_this_s, .ref a_this_image, .ref a_this_was, .int v_hasImage, .ref a_this_letters, .ref a_this_row, .ref a_this_refused, .int v_letterMany, .int v_rowMany, .int v_place, .ref a_this_numbers, .ref a_this_least, .ref a_this_stepsFrom, .ref a_this_most, .ref a_this_next, .ref a_this_otherSteps, .ref a_this_ahead, .ref a_this_now, .int v_seed])), (a_this_refused, .inl (cI, 7, .inl g_refused)), (a_this_s, .inl (cI, 39, .inl g_s))] sz) (zQi (dC, dI) vwCl [(cI, .int), (cZ, .boolean)] r0 [(a_this, .inr (8, [.ref a_this_s, .ref a_this_image, .ref a_this_was, .int v_hasImage, .ref a_this_letters, .ref a_this_row, .ref a_this_refused, .int v_letterMany, .int v_rowMany, .int v_place, .ref a_this_numbers, .ref a_this_least, .ref a_this_stepsFrom, .ref a_this_most, .ref a_this_next, .ref a_this_otherSteps, .ref a_this_ahead, .ref a_this_now, .int v_seed])), (a_this_refused, .inl (cI, 7, .inl w0)), (a_this_s, .inl (cI, 39, .inl g_s))] (va_A [(a_this, .inr (8, [.ref a_this_s, .ref a_this_image, .ref a_this_was, .int v_hasImage, .ref a_this_letters, .ref a_this_row, .ref a_this_refused, .int v_letterMany, .int v_rowMany, .int v_place, .ref a_this_numbers, .ref a_this_least, .ref a_this_stepsFrom, .ref a_this_most, .ref a_this_next, .ref a_this_otherSteps, .ref a_this_ahead, .ref a_this_now, .int v_seed])), (a_this_refused, .inl (cI, 7, .inl g_refused)), (a_this_s, .inl (cI, 39, .inl g_s))] sz)) 0 0 (va_A [(a_this, .inr (8, [.ref a_this_s, .ref a_this_image, .ref a_this_was, .int v_hasImage, .ref a_this_letters, .ref a_this_row, .ref a_this_refused, .int v_letterMany, .int v_rowMany, .int v_place, .ref a_this_numbers, .ref a_this_least, .ref a_this_stepsFrom, .ref a_this_most, .ref a_this_next, .ref a_this_otherSteps, .ref a_this_ahead, .ref a_this_now, .int v_seed])), (a_this_refused, .inl (cI, 7, .inl g_refused)), (a_this_s, .inl (cI, 39, .inl g_s))] sz) := by
  refine Met.ofW (cc := cX8_enough) (maxL := 4) (ret := (some .int)) (by decide) rfl ?_
  intro p e s m args below meth c s₁ B hml hv
  obtain ⟨rfl, hsz, hP, hK, hD0, hZ⟩ := hv
  have hx := B.exec
  have hb := B.bytes
  have hr := B.returns
  have hts := atoms_spec (ws := wsX8_enough) B.pre
  have hown : s.vm.findClass RX8 = some m.cls := findClass_of_methodNamed B.named
  have hlocks := B.notSynchronized
  subst hsz
  have hD := hD0.self (sz := s.heap.size)
  generalize hAe : va_A [(a_this, .inr (8, [.ref a_this_s, .ref a_this_image, .ref a_this_was, .int v_hasImage, .ref a_this_letters, .ref a_this_row, .ref a_this_refused, .int v_letterMany, .int v_rowMany, .int v_place, .ref a_this_numbers, .ref a_this_least, .ref a_this_stepsFrom, .ref a_this_most, .ref a_this_next, .ref a_this_otherSteps, .ref a_this_ahead, .ref a_this_now, .int v_seed])), (a_this_refused, .inl (cI, 7, .inl g_refused)), (a_this_s, .inl (cI, 39, .inl g_s))] s.heap.size = A at hD hZ ⊢
  have hA : ∀ q : Nat, s.heap.size ≤ q → A q := fun q h => by rw [← hAe]; exact Or.inr h
  have hS : va_S A s.heap s.heap [] := va_S.rf
  have hP : va_P (dC, dI) vwCl [(a_this, .inr (8, [.ref a_this_s, .ref a_this_image, .ref a_this_was, .int v_hasImage, .ref a_this_letters, .ref a_this_row, .ref a_this_refused, .int v_letterMany, .int v_rowMany, .int v_place, .ref a_this_numbers, .ref a_this_least, .ref a_this_stepsFrom, .ref a_this_most, .ref a_this_next, .ref a_this_otherSteps, .ref a_this_ahead, .ref a_this_now, .int v_seed])), (a_this_refused, .inl (cI, 7, .inl g_refused)), (a_this_s, .inl (cI, 39, .inl g_s))] s.heap := hP
  have hl := lv_entry ([.ref a_this]) (n := 4) (Nat.le_of_ble_eq_true rfl)
  rw [lg_entry_eq]
  generalize (lg_sl ([.ref a_this]) ++ List.replicate (4 - (lg_sl ([.ref a_this])).length) Slot.unset).toArray = ls at hl ⊢
  have hl : lv_has ls 4 [(0, .ref a_this)] := hl
  have he := hf
  unfold f_M_enough at he
  refine zstart (D := (dC, dI)) (cl := vwCl) (A := A) (nL := 4) (fun WW hWW => ?_)
  refine lv_iconst (v := (0 : Int32)) hx hb dX8_enough_0 (by decide) ?_
  refine lv_istore_n (lv' := [(1, .int (0 : Int32)), (0, .ref a_this)]) hx hb dX8_enough_1 rfl hl (by decide) rfl (fun ls hl => ?_)
  refine lv_iconst (v := (0 : Int32)) hx hb dX8_enough_2 (by decide) ?_
  refine lv_istore_n (lv' := [(2, .int (0 : Int32)), (1, .int (0 : Int32)), (0, .ref a_this)]) hx hb dX8_enough_3 rfl hl (by decide) rfl (fun ls hl => ?_)
  refine zj1_w he (fun (l1_1 : Int32) => WW [(a_this, .inr (8, [.ref a_this_s, .ref a_this_image, .ref a_this_was, .int v_hasImage, .ref a_this_letters, .ref a_this_row, .ref a_this_refused, .int v_letterMany, .int v_rowMany, .int v_place, .ref a_this_numbers, .ref a_this_least, .ref a_this_stepsFrom, .ref a_this_most, .ref a_this_next, .ref a_this_otherSteps, .ref a_this_ahead, .ref a_this_now, .int v_seed])), (a_this_refused, .inl (cI, 7, .inl g_refused)), (a_this_s, .inl (cI, 39, .inl g_s))] [(0, .ref a_this), (1, .int l1_1)] 36 []) (fun l1_1 he => (hWW _ _ _ _).mpr (fun H locs ls hP hD hS hl => ?_)) (fun k22 hk22 he => ?_)
  · refine lv_iload_n hx hb dX8_enough_36 rfl (lv_at hl 1 rfl) ?_
    refine lv_bipush (v := (8 : Int32)) hx hb dX8_enough_37 (by decide) ?_
    refine lv_icmp_le (tgt := 49) hx hb dX8_enough_39 (by decide) (fun c2 => ?_) (fun c2 => ?_)
    · have he := zif_t c2 he
      refine lv_iconst (v := (1 : Int32)) hx hb dX8_enough_49 (by decide) ?_
      refine lv_iload_n hx hb dX8_enough_50 rfl (lv_at hl 1 rfl) ?_
      refine lv_ishl hx hb dX8_enough_51 ?_
      refine lv_iconst (v := (1 : Int32)) hx hb dX8_enough_52 (by decide) ?_
      refine lv_isub hx hb dX8_enough_53 ?_
      refine lv_topi (fun x3 ex3 => ?_)
      have he := zn_e ex3 he
      refine lv_istore_n (lv' := [(2, .int x3), (0, .ref a_this), (1, .int l1_1)]) hx hb dX8_enough_54 rfl hl (by decide) rfl (fun ls hl => ?_)
      refine lv_iload_n hx hb dX8_enough_55 rfl (lv_at hl 0 rfl) ?_
      refine lv_istore_n (lv' := [(3, .int x3), (2, .int x3), (0, .ref a_this), (1, .int l1_1)]) hx hb dX8_enough_56 rfl hl (by decide) rfl (fun ls hl => ?_)
      refine (hWW _ _ _ _).mp (zl2_w he (fun (l2_4 : Int32) (l3_5 : Int32) => WW [(a_this, .inr (8, [.ref a_this_s, .ref a_this_image, .ref a_this_was, .int v_hasImage, .ref a_this_letters, .ref a_this_row, .ref a_this_refused, .int v_letterMany, .int v_rowMany, .int v_place, .ref a_this_numbers, .ref a_this_least, .ref a_this_stepsFrom, .ref a_this_most, .ref a_this_next, .ref a_this_otherSteps, .ref a_this_ahead, .ref a_this_now, .int v_seed])), (a_this_refused, .inl (cI, 7, .inl g_refused)), (a_this_s, .inl (cI, 39, .inl g_s))] [(0, .ref a_this), (2, .int l2_4), (3, .int l3_5)] 57 []) (fun l2_4 l3_5 again6 hagain6 he => (hWW _ _ _ _).mpr (fun H locs ls hP hD hS hl => ?_))) _ _ _ hP hD hS (lv_sub hl [2, 1, 0] rfl)
      refine lv_iload_n hx hb dX8_enough_57 rfl (lv_at hl 2 rfl) ?_
      refine lv_if_lt (tgt := 88) hx hb dX8_enough_58 (by decide) (fun c7 => ?_) (fun c7 => ?_)
      · have he := zif_t c7 he
        refine lv_iload_n hx hb dX8_enough_88 rfl (lv_at hl 1 rfl) ?_
        obtain ⟨rfl, rfl⟩ := zi2 he
        exact W.iret hx hb hr (fun t ht hW => ⟨⟨_, (), rfl, rfl, by rw [ht]; exact hP, va_K.moved hW.alike hK, hD⟩, hS.F ht⟩) hS.2.2 dX8_enough_89
      · have he := zif_f c7 he
        refine lv_iload_n hx hb dX8_enough_61 rfl (lv_at hl 2 rfl) ?_
        obtain ⟨r8, hf9, he⟩ := zb1_e he
        refine zc_i (wr := [(a_this, .inr (8, [.ref a_this_s, .ref a_this_image, .ref a_this_was, .int v_hasImage, .ref a_this_letters, .ref a_this_row, .ref a_this_refused, .int v_letterMany, .int v_rowMany, .int v_place, .ref a_this_numbers, .ref a_this_least, .ref a_this_stepsFrom, .ref a_this_most, .ref a_this_next, .ref a_this_otherSteps, .ref a_this_ahead, .ref a_this_now, .int v_seed])), (a_this_refused, .inl (cI, 7, .inl g_refused)), (a_this_s, .inl (cI, 39, .inl g_s))]) (ws' := [(a_this, .inr (8, [.ref a_this_s, .ref a_this_image, .ref a_this_was, .int v_hasImage, .ref a_this_letters, .ref a_this_row, .ref a_this_refused, .int v_letterMany, .int v_rowMany, .int v_place, .ref a_this_numbers, .ref a_this_least, .ref a_this_stepsFrom, .ref a_this_most, .ref a_this_next, .ref a_this_otherSteps, .ref a_this_ahead, .ref a_this_now, .int v_seed])), (a_this_refused, .inl (cI, 7, .inl g_refused)), (a_this_s, .inl (cI, 39, .inl g_s))]) (va_runS (As := [.int l3_5]) (rest := []) ⟨hx, hb, hml, hown, hts⟩ (k_M_bits l dC dI cI cZ tt sd H.size l3_5 r8 hf9) (va_cwS 1 hts gX8_enough_X8_bits rfl rfl rfl (by decide +kernel) ⟨Nat.le_of_ble_eq_true rfl, Nat.le_of_ble_eq_true rfl⟩) (zpS hP hD hK hS hA hZ [] rfl rfl) rfl rfl hl.1 rfl (lv_room (Nat.le_of_ble_eq_true rfl)) dX8_enough_62 ⟨Nat.zero_le _, Nat.zero_le _⟩) hP hD hS hA [] [0, 1, 2] [0, 1, 2] rfl rfl rfl (by decide) rfl rfl rfl (fun H locs hP hD hS => ?_)
        refine lv_iload_n hx hb dX8_enough_65 rfl (lv_at hl 1 rfl) ?_
        obtain ⟨r10, hf11, he⟩ := zb1_e he
        refine zc_i (wr := [(a_this, .inr (8, [.ref a_this_s, .ref a_this_image, .ref a_this_was, .int v_hasImage, .ref a_this_letters, .ref a_this_row, .ref a_this_refused, .int v_letterMany, .int v_rowMany, .int v_place, .ref a_this_numbers, .ref a_this_least, .ref a_this_stepsFrom, .ref a_this_most, .ref a_this_next, .ref a_this_otherSteps, .ref a_this_ahead, .ref a_this_now, .int v_seed])), (a_this_refused, .inl (cI, 7, .inl g_refused)), (a_this_s, .inl (cI, 39, .inl g_s))]) (ws' := [(a_this, .inr (8, [.ref a_this_s, .ref a_this_image, .ref a_this_was, .int v_hasImage, .ref a_this_letters, .ref a_this_row, .ref a_this_refused, .int v_letterMany, .int v_rowMany, .int v_place, .ref a_this_numbers, .ref a_this_least, .ref a_this_stepsFrom, .ref a_this_most, .ref a_this_next, .ref a_this_otherSteps, .ref a_this_ahead, .ref a_this_now, .int v_seed])), (a_this_refused, .inl (cI, 7, .inl g_refused)), (a_this_s, .inl (cI, 39, .inl g_s))]) (va_runS (As := [.int l2_4]) (rest := [.int r8]) ⟨hx, hb, hml, hown, hts⟩ (k_M_bits l dC dI cI cZ tt sd H.size l2_4 r10 hf11) (va_cwS 1 hts gX8_enough_X8_bits rfl rfl rfl (by decide +kernel) ⟨Nat.le_of_ble_eq_true rfl, Nat.le_of_ble_eq_true rfl⟩) (zpS hP hD hK hS hA hZ [] rfl rfl) rfl rfl hl.1 rfl (lv_room (Nat.le_of_ble_eq_true rfl)) dX8_enough_66 ⟨Nat.zero_le _, Nat.zero_le _⟩) hP hD hS hA [] [0, 1, 2] [0, 1, 2] rfl rfl rfl (by decide) rfl rfl rfl (fun H locs hP hD hS => ?_)
        refine zj1_w he (fun (l2_12 : Int32) => WW [(a_this, .inr (8, [.ref a_this_s, .ref a_this_image, .ref a_this_was, .int v_hasImage, .ref a_this_letters, .ref a_this_row, .ref a_this_refused, .int v_letterMany, .int v_rowMany, .int v_place, .ref a_this_numbers, .ref a_this_least, .ref a_this_stepsFrom, .ref a_this_most, .ref a_this_next, .ref a_this_otherSteps, .ref a_this_ahead, .ref a_this_now, .int v_seed])), (a_this_refused, .inl (cI, 7, .inl g_refused)), (a_this_s, .inl (cI, 39, .inl g_s))] [(0, .ref a_this), (2, .int l2_12), (3, .int l3_5)] 82 []) (fun l2_12 he => (hWW _ _ _ _).mpr (fun H locs ls hP hD hS hl => ?_)) (fun k14 hk14 he => ?_)
        · obtain ⟨x13, ex13⟩ : ∃ y : Int32, y = l3_5 + (-1 : Int32) := ⟨_, rfl⟩
          have he := zn_e ex13 he
          refine lv_iinc (v := x13) (lv' := [(3, .int x13), (0, .ref a_this), (2, .int l2_12)]) hx hb dX8_enough_82 hl (k := 2) rfl (by rw [ex13]; rfl) (by decide) rfl (fun ls hl => ?_)
          refine lv_goto (tgt := 57) hx hb dX8_enough_85 (by decide) ?_
          exact (hWW _ _ _ _).mp (hagain6 l2_12 x13 he) _ _ _ hP hD hS (lv_sub hl [1, 2, 0] rfl)
        refine lv_icmp_gt (tgt := 82) hx hb dX8_enough_69 (by decide) (fun c15 => ?_) (fun c15 => ?_)
        · have he := zif_t c15 he
          exact (hWW _ _ _ _).mp (hk14 l2_4 he) _ _ _ hP hD hS (lv_sub hl [0, 1, 2] rfl)
        · have he := zif_f c15 he
          refine lv_aload_n hx hb dX8_enough_72 rfl (lv_at hl 0 rfl) ?_
          refine lv_iload_n hx hb dX8_enough_73 rfl (lv_at hl 2 rfl) ?_
          obtain ⟨r16, hf17, he⟩ := zb1_e he
          refine zc_i (wr := [(a_this_refused, .inl (cI, 7, .inl g_refused))]) (ws' := [(a_this, .inr (8, [.ref a_this_s, .ref a_this_image, .ref a_this_was, .int v_hasImage, .ref a_this_letters, .ref a_this_row, .ref a_this_refused, .int v_letterMany, .int v_rowMany, .int v_place, .ref a_this_numbers, .ref a_this_least, .ref a_this_stepsFrom, .ref a_this_most, .ref a_this_next, .ref a_this_otherSteps, .ref a_this_ahead, .ref a_this_now, .int v_seed])), (a_this_refused, .inl (cI, 7, .inl g_refused)), (a_this_s, .inl (cI, 39, .inl g_s))]) (va_runV (As := [.int l3_5]) (rest := []) ⟨hx, hb, hml, hown, hts⟩ (k_M_areAllHeard l dC dI cI cZ tt sd a_this a_this_s a_this_image a_this_was a_this_letters a_this_row a_this_refused a_this_numbers a_this_least a_this_stepsFrom a_this_most a_this_next a_this_otherSteps a_this_ahead a_this_now H.size v_hasImage v_letterMany v_rowMany v_place v_seed g_s l3_5 r16 hf17) (cwV 1 hts gX8_enough_X8_areAllHeard rfl rfl rfl (by decide +kernel) ⟨Nat.le_of_ble_eq_true rfl, Nat.le_of_ble_eq_true rfl⟩) (zpV hP hD hK hS hA hZ [0, 2] rfl rfl 8 0 rfl rfl) rfl rfl hl.1 rfl (lv_room (Nat.le_of_ble_eq_true rfl)) dX8_enough_74 ⟨Nat.zero_le _, Nat.zero_le _⟩) hP hD hS hA [0, 2] [1] [1, 0, 2] rfl rfl rfl (by decide) rfl rfl rfl (fun H locs hP hD hS => ?_)
          refine lv_if_eq (tgt := 82) hx hb dX8_enough_77 (by decide) (fun c18 => ?_) (fun c18 => ?_)
          · have he := zif_t c18 he
            exact (hWW _ _ _ _).mp (hk14 l2_4 he) _ _ _ hP hD hS (lv_sub hl [0, 1, 2] rfl)
          · have he := zif_f c18 he
            refine lv_iload_n hx hb dX8_enough_80 rfl (lv_at hl 2 rfl) ?_
            refine lv_istore_n (lv' := [(2, .int l3_5), (0, .ref a_this), (3, .int l3_5)]) hx hb dX8_enough_81 rfl hl (by decide) rfl (fun ls hl => ?_)
            exact (hWW _ _ _ _).mp (hk14 l3_5 he) _ _ _ hP hD hS (lv_sub hl [1, 0, 2] rfl)
    · have he := zif_f c2 he
      refine lv_aload_n hx hb dX8_enough_42 rfl (lv_at hl 0 rfl) ?_
      refine lv_bipush (v := (-3 : Int32)) hx hb dX8_enough_43 (by decide) ?_
      obtain ⟨r19, g_refused_20, hf21, he⟩ := zb2_e he
      refine zc_i (wr := [(a_this_s, .inl (cI, 39, .inl g_s))]) (ws' := [(a_this, .inr (8, [.ref a_this_s, .ref a_this_image, .ref a_this_was, .int v_hasImage, .ref a_this_letters, .ref a_this_row, .ref a_this_refused, .int v_letterMany, .int v_rowMany, .int v_place, .ref a_this_numbers, .ref a_this_least, .ref a_this_stepsFrom, .ref a_this_most, .ref a_this_next, .ref a_this_otherSteps, .ref a_this_ahead, .ref a_this_now, .int v_seed])), (a_this_refused, .inl (cI, 7, .inl g_refused_20)), (a_this_s, .inl (cI, 39, .inl g_s))]) (va_runV (As := [.int (-3 : Int32)]) (rest := []) ⟨hx, hb, hml, hown, hts⟩ (k_M_no l dC dI cI cZ tt sd a_this a_this_s a_this_image a_this_was a_this_letters a_this_row a_this_refused a_this_numbers a_this_least a_this_stepsFrom a_this_most a_this_next a_this_otherSteps a_this_ahead a_this_now H.size v_hasImage v_letterMany v_rowMany v_place v_seed g_refused (-3 : Int32) r19 g_refused_20 hf21) (cwV 1 hts gX8_enough_X8_no rfl rfl rfl (by decide +kernel) ⟨Nat.le_of_ble_eq_true rfl, Nat.le_of_ble_eq_true rfl⟩) (zpV hP hD hK hS hA hZ [0, 1] rfl rfl 8 0 rfl rfl) rfl rfl hl.1 rfl (lv_room (Nat.le_of_ble_eq_true rfl)) dX8_enough_45 ⟨Nat.zero_le _, Nat.zero_le _⟩) hP hD hS hA [0, 1] [2] [1, 2, 0] rfl rfl rfl (by decide) rfl rfl rfl (fun H locs hP hD hS => ?_)
      obtain ⟨rfl, rfl⟩ := zi2 he
      exact W.iret hx hb hr (fun t ht hW => ⟨⟨_, (), rfl, rfl, by rw [ht]; exact hP, va_K.moved hW.alike hK, hD⟩, hS.F ht⟩) hS.2.2 dX8_enough_48
  refine (hWW _ _ _ _).mp (zl2_w he (fun (l1_23 : Int32) (l2_24 : Int32) => WW [(a_this, .inr (8, [.ref a_this_s, .ref a_this_image, .ref a_this_was, .int v_hasImage, .ref a_this_letters, .ref a_this_row, .ref a_this_refused, .int v_letterMany, .int v_rowMany, .int v_place, .ref a_this_numbers, .ref a_this_least, .ref a_this_stepsFrom, .ref a_this_most, .ref a_this_next, .ref a_this_otherSteps, .ref a_this_ahead, .ref a_this_now, .int v_seed])), (a_this_refused, .inl (cI, 7, .inl g_refused)), (a_this_s, .inl (cI, 39, .inl g_s))] [(0, .ref a_this), (1, .int l1_23), (2, .int l2_24)] 4 []) (fun l1_23 l2_24 again25 hagain25 he => (hWW _ _ _ _).mpr (fun H locs ls hP hD hS hl => ?_))) _ _ _ hP hD hS (lv_sub hl [2, 1, 0] rfl)
  refine lv_iload_n hx hb dX8_enough_4 rfl (lv_at hl 2 rfl) ?_
  refine lv_bipush (v := (36 : Int32)) hx hb dX8_enough_5 (by decide) ?_
  refine lv_icmp_ge (tgt := 36) hx hb dX8_enough_7 (by decide) (fun c26 => ?_) (fun c26 => ?_)
  · have he := zif_t c26 he
    exact (hWW _ _ _ _).mp (hk22 l1_23 he) _ _ _ hP hD hS (lv_sub hl [0, 1] rfl)
  · have he := zif_f c26 he
    refine lv_iload_n hx hb dX8_enough_10 rfl (lv_at hl 1 rfl) ?_
    refine lv_aload_n hx hb dX8_enough_11 rfl (lv_at hl 0 rfl) ?_
    refine va_get (D := (dC, dI)) (ci := 8) (v := .ref a_this_s) (C := RX8) (T := TX8) (N := 19) hx hb hts (by decide +kernel) hown hK hP 0 rfl rfl 0 (by decide) (hts (.fieldLink RX8 9 "LawOfCornersModel" "s" "[I") (by decide +kernel)) (fun _ h9 => h9) rfl dX8_enough_12 ?_
    refine lv_iload_n hx hb dX8_enough_15 rfl (lv_at hl 2 rfl) ?_
    obtain ⟨hg27, he⟩ := zg_e he
    refine va_iald hx hb hK hP 2 0 rfl rfl hg27 dX8_enough_16 ?_
    obtain ⟨r28, hf29, he⟩ := zb1_e he
    refine zc_i (wr := [(a_this, .inr (8, [.ref a_this_s, .ref a_this_image, .ref a_this_was, .int v_hasImage, .ref a_this_letters, .ref a_this_row, .ref a_this_refused, .int v_letterMany, .int v_rowMany, .int v_place, .ref a_this_numbers, .ref a_this_least, .ref a_this_stepsFrom, .ref a_this_most, .ref a_this_next, .ref a_this_otherSteps, .ref a_this_ahead, .ref a_this_now, .int v_seed])), (a_this_refused, .inl (cI, 7, .inl g_refused)), (a_this_s, .inl (cI, 39, .inl g_s))]) (ws' := [(a_this, .inr (8, [.ref a_this_s, .ref a_this_image, .ref a_this_was, .int v_hasImage, .ref a_this_letters, .ref a_this_row, .ref a_this_refused, .int v_letterMany, .int v_rowMany, .int v_place, .ref a_this_numbers, .ref a_this_least, .ref a_this_stepsFrom, .ref a_this_most, .ref a_this_next, .ref a_this_otherSteps, .ref a_this_ahead, .ref a_this_now, .int v_seed])), (a_this_refused, .inl (cI, 7, .inl g_refused)), (a_this_s, .inl (cI, 39, .inl g_s))]) (va_runS (As := [.int (g_s l2_24.toNatClampNeg)]) (rest := [.int l1_23]) ⟨hx, hb, hml, hown, hts⟩ (k_M_hears l dC dI cI cZ tt sd H.size (g_s l2_24.toNatClampNeg) r28 hf29) (va_cwS 1 hts gX8_enough_X8_hears rfl rfl rfl (by decide +kernel) ⟨Nat.le_of_ble_eq_true rfl, Nat.le_of_ble_eq_true rfl⟩) (zpS hP hD hK hS hA hZ [] rfl rfl) rfl rfl hl.1 rfl (lv_room (Nat.le_of_ble_eq_true rfl)) dX8_enough_17 ⟨Nat.zero_le _, Nat.zero_le _⟩) hP hD hS hA [] [0, 1, 2] [0, 1, 2] rfl rfl rfl (by decide) rfl rfl rfl (fun H locs hP hD hS => ?_)
    refine zj1_w he (fun (s30 : Int32) => WW [(a_this, .inr (8, [.ref a_this_s, .ref a_this_image, .ref a_this_was, .int v_hasImage, .ref a_this_letters, .ref a_this_row, .ref a_this_refused, .int v_letterMany, .int v_rowMany, .int v_place, .ref a_this_numbers, .ref a_this_least, .ref a_this_stepsFrom, .ref a_this_most, .ref a_this_next, .ref a_this_otherSteps, .ref a_this_ahead, .ref a_this_now, .int v_seed])), (a_this_refused, .inl (cI, 7, .inl g_refused)), (a_this_s, .inl (cI, 39, .inl g_s))] [(0, .ref a_this), (2, .int l2_24)] 28 [.int s30, .int l1_23]) (fun s30 he => (hWW _ _ _ _).mpr (fun H locs ls hP hD hS hl => ?_)) (fun k33 hk33 he => ?_)
    · refine lv_iadd hx hb dX8_enough_28 ?_
      refine lv_topi (fun x31 ex31 => ?_)
      have he := zn_e ex31 he
      refine lv_istore_n (lv' := [(1, .int x31), (0, .ref a_this), (2, .int l2_24)]) hx hb dX8_enough_29 rfl hl (by decide) rfl (fun ls hl => ?_)
      obtain ⟨x32, ex32⟩ : ∃ y : Int32, y = l2_24 + (1 : Int32) := ⟨_, rfl⟩
      have he := zn_e ex32 he
      refine lv_iinc (v := x32) (lv' := [(2, .int x32), (1, .int x31), (0, .ref a_this)]) hx hb dX8_enough_30 hl (k := 2) rfl (by rw [ex32]; rfl) (by decide) rfl (fun ls hl => ?_)
      refine lv_goto (tgt := 4) hx hb dX8_enough_33 (by decide) ?_
      exact (hWW _ _ _ _).mp (hagain25 x31 x32 he) _ _ _ hP hD hS (lv_sub hl [2, 1, 0] rfl)
    refine lv_if_lt (tgt := 27) hx hb dX8_enough_20 (by decide) (fun c34 => ?_) (fun c34 => ?_)
    · have he := zif_t c34 he
      refine lv_iconst (v := (0 : Int32)) hx hb dX8_enough_27 (by decide) ?_
      exact (hWW _ _ _ _).mp (hk33 (0 : Int32) he) _ _ _ hP hD hS (lv_sub hl [0, 2] rfl)
    · have he := zif_f c34 he
      refine lv_iconst (v := (1 : Int32)) hx hb dX8_enough_23 (by decide) ?_
      refine lv_goto (tgt := 28) hx hb dX8_enough_24 (by decide) ?_
      exact (hWW _ _ _ _).mp (hk33 (1 : Int32) he) _ _ _ hP hD hS (lv_sub hl [0, 2] rfl)
set_option maxHeartbeats 4000000 in
set_option maxRecDepth 100000 in
theorem k_M_quiet (l : Launch) (dC : Nat → ClassId) (dI : Nat → Nat → Nat) (cI : ClassId) (cZ : ClassId) (tt : Nat → Nat) (sd : Nat → Nat) (a_this : Nat) (a_this_s : Nat) (a_this_image : Nat) (a_this_was : Nat) (a_this_letters : Nat) (a_this_row : Nat) (a_this_refused : Nat) (a_this_numbers : Nat) (a_this_least : Nat) (a_this_stepsFrom : Nat) (a_this_most : Nat) (a_this_next : Nat) (a_this_otherSteps : Nat) (a_this_ahead : Nat) (a_this_now : Nat) (sz : Nat) (v_hasImage : Int32) (v_letterMany : Int32) (v_rowMany : Int32) (v_place : Int32) (v_seed : Int32) (g_s : Nat → Int32) (g_stepsFrom : Nat → Int32) (r0 : Int32) (w0 : Nat → Int32) (hf : f_M_quiet g_s g_stepsFrom = some (r0, w0)) : Met l yX8_quiet wsX8_quiet ({ frames := 4, cells := 0, slots := 0, locals := 90 }) (zPre (dC, dI) vwCl [(cI, .int), (cZ, .boolean)] tt sd [.ref a_this] [(a_this, .inr (8, [.ref a_this_s, .ref a_this_image, .ref a_this_was, .int v_hasImage, .ref a_this_letters, .ref a_this_row, .ref a_this_refused, .int v_letterMany, .int v_rowMany, .int v_place, .ref a_this_numbers, .ref a_this_least, .ref a_this_stepsFrom, .ref a_this_most, .ref a_this_next, .ref a_this_otherSteps, .ref a_this_ahead, .ref a_this_now, .int v_seed])), (a_this_s, .inl (cI, 39, .inl g_s)), (a_this_stepsFrom, .inl (cI, 36, .inl g_stepsFrom))] sz) (zQi (dC, dI) vwCl [(cI, .int), (cZ, .boolean)] r0 [(a_this, .inr (8, [.ref a_this_s, .ref a_this_image, .ref a_this_was, .int v_hasImage, .ref a_this_letters, .ref a_this_row, .ref a_this_refused, .int v_letterMany, .int v_rowMany, .int v_place, .ref a_this_numbers, .ref a_this_least, .ref a_this_stepsFrom, .ref a_this_most, .ref a_this_next, .ref a_this_otherSteps, .ref a_this_ahead, .ref a_this_now, .int v_seed])), (a_this_s, .inl (cI, 39, .inl g_s)), (a_this_stepsFrom, .inl (cI, 36, .inl w0))] (va_A [(a_this, .inr (8, [.ref a_this_s, .ref a_this_image, .ref a_this_was, .int v_hasImage, .ref a_this_letters, .ref a_this_row, .ref a_this_refused, .int v_letterMany, .int v_rowMany, .int v_place, .ref a_this_numbers, .ref a_this_least, .ref a_this_stepsFrom, .ref a_this_most, .ref a_this_next, .ref a_this_otherSteps, .ref a_this_ahead, .ref a_this_now, .int v_seed])), (a_this_s, .inl (cI, 39, .inl g_s)), (a_this_stepsFrom, .inl (cI, 36, .inl g_stepsFrom))] sz)) 0 0 (va_A [(a_this, .inr (8, [.ref a_this_s, .ref a_this_image, .ref a_this_was, .int v_hasImage, .ref a_this_letters, .ref a_this_row, .ref a_this_refused, .int v_letterMany, .int v_rowMany, .int v_place, .ref a_this_numbers, .ref a_this_least, .ref a_this_stepsFrom, .ref a_this_most, .ref a_this_next, .ref a_this_otherSteps, .ref a_this_ahead, .ref a_this_now, .int v_seed])), (a_this_s, .inl (cI, 39, .inl g_s)), (a_this_stepsFrom, .inl (cI, 36, .inl g_stepsFrom))] sz) := by
  refine Met.ofW (cc := cX8_quiet) (maxL := 6) (ret := (some .int)) (by decide) rfl ?_
  intro p e s m args below meth c s₁ B hml hv
  obtain ⟨rfl, hsz, hP, hK, hD0, hZ⟩ := hv
  have hx := B.exec
  have hb := B.bytes
  have hr := B.returns
  have hts := atoms_spec (ws := wsX8_quiet) B.pre
  have hown : s.vm.findClass RX8 = some m.cls := findClass_of_methodNamed B.named
  have hlocks := B.notSynchronized
  subst hsz
  have hD := hD0.self (sz := s.heap.size)
  generalize hAe : va_A [(a_this, .inr (8, [.ref a_this_s, .ref a_this_image, .ref a_this_was, .int v_hasImage, .ref a_this_letters, .ref a_this_row, .ref a_this_refused, .int v_letterMany, .int v_rowMany, .int v_place, .ref a_this_numbers, .ref a_this_least, .ref a_this_stepsFrom, .ref a_this_most, .ref a_this_next, .ref a_this_otherSteps, .ref a_this_ahead, .ref a_this_now, .int v_seed])), (a_this_s, .inl (cI, 39, .inl g_s)), (a_this_stepsFrom, .inl (cI, 36, .inl g_stepsFrom))] s.heap.size = A at hD hZ ⊢
  have hA : ∀ q : Nat, s.heap.size ≤ q → A q := fun q h => by rw [← hAe]; exact Or.inr h
  have hS : va_S A s.heap s.heap [] := va_S.rf
  have hP : va_P (dC, dI) vwCl [(a_this, .inr (8, [.ref a_this_s, .ref a_this_image, .ref a_this_was, .int v_hasImage, .ref a_this_letters, .ref a_this_row, .ref a_this_refused, .int v_letterMany, .int v_rowMany, .int v_place, .ref a_this_numbers, .ref a_this_least, .ref a_this_stepsFrom, .ref a_this_most, .ref a_this_next, .ref a_this_otherSteps, .ref a_this_ahead, .ref a_this_now, .int v_seed])), (a_this_s, .inl (cI, 39, .inl g_s)), (a_this_stepsFrom, .inl (cI, 36, .inl g_stepsFrom))] s.heap := hP
  have hl := lv_entry ([.ref a_this]) (n := 6) (Nat.le_of_ble_eq_true rfl)
  rw [lg_entry_eq]
  generalize (lg_sl ([.ref a_this]) ++ List.replicate (6 - (lg_sl ([.ref a_this])).length) Slot.unset).toArray = ls at hl ⊢
  have hl : lv_has ls 6 [(0, .ref a_this)] := hl
  have he := hf
  unfold f_M_quiet at he
  refine zstart (D := (dC, dI)) (cl := vwCl) (A := A) (nL := 6) (fun WW hWW => ?_)
  refine lv_bipush (v := (-9 : Int32)) hx hb dX8_quiet_0 (by decide) ?_
  refine lv_istore_n (lv' := [(1, .int (-9 : Int32)), (0, .ref a_this)]) hx hb dX8_quiet_2 rfl hl (by decide) rfl (fun ls hl => ?_)
  refine lv_iconst (v := (-1 : Int32)) hx hb dX8_quiet_3 (by decide) ?_
  refine lv_istore_n (lv' := [(2, .int (-1 : Int32)), (1, .int (-9 : Int32)), (0, .ref a_this)]) hx hb dX8_quiet_4 rfl hl (by decide) rfl (fun ls hl => ?_)
  refine lv_iconst (v := (0 : Int32)) hx hb dX8_quiet_5 (by decide) ?_
  refine lv_istore_n (lv' := [(3, .int (0 : Int32)), (2, .int (-1 : Int32)), (1, .int (-9 : Int32)), (0, .ref a_this)]) hx hb dX8_quiet_6 rfl hl (by decide) rfl (fun ls hl => ?_)
  refine (hWW _ _ _ _).mp (zl4_w he (fun (l1_1 : Int32) (l2_2 : Int32) (l3_3 : Int32) (g_stepsFrom_4 : Nat → Int32) => WW [(a_this, .inr (8, [.ref a_this_s, .ref a_this_image, .ref a_this_was, .int v_hasImage, .ref a_this_letters, .ref a_this_row, .ref a_this_refused, .int v_letterMany, .int v_rowMany, .int v_place, .ref a_this_numbers, .ref a_this_least, .ref a_this_stepsFrom, .ref a_this_most, .ref a_this_next, .ref a_this_otherSteps, .ref a_this_ahead, .ref a_this_now, .int v_seed])), (a_this_s, .inl (cI, 39, .inl g_s)), (a_this_stepsFrom, .inl (cI, 36, .inl g_stepsFrom_4))] [(0, .ref a_this), (1, .int l1_1), (2, .int l2_2), (3, .int l3_3)] 7 []) (fun l1_1 l2_2 l3_3 g_stepsFrom_4 again5 hagain5 he => (hWW _ _ _ _).mpr (fun H locs ls hP hD hS hl => ?_))) _ _ _ hP hD hS (lv_sub hl [3, 2, 1, 0] rfl)
  refine lv_iload_n hx hb dX8_quiet_7 rfl (lv_at hl 3 rfl) ?_
  refine lv_bipush (v := (36 : Int32)) hx hb dX8_quiet_8 (by decide) ?_
  refine lv_icmp_ge (tgt := 106) hx hb dX8_quiet_10 (by decide) (fun c6 => ?_) (fun c6 => ?_)
  · have he := zif_t c6 he
    refine lv_iload_n hx hb dX8_quiet_106 rfl (lv_at hl 1 rfl) ?_
    obtain ⟨rfl, rfl⟩ := zi2 he
    exact W.iret hx hb hr (fun t ht hW => ⟨⟨_, (), rfl, rfl, by rw [ht]; exact hP, va_K.moved hW.alike hK, hD⟩, hS.F ht⟩) hS.2.2 dX8_quiet_107
  · have he := zif_f c6 he
    refine lv_aload_n hx hb dX8_quiet_13 rfl (lv_at hl 0 rfl) ?_
    refine lv_iload_n hx hb dX8_quiet_14 rfl (lv_at hl 3 rfl) ?_
    obtain ⟨r7, hf8, he⟩ := zb1_e he
    refine zc_i (wr := [(a_this_stepsFrom, .inl (cI, 36, .inl g_stepsFrom_4))]) (ws' := [(a_this, .inr (8, [.ref a_this_s, .ref a_this_image, .ref a_this_was, .int v_hasImage, .ref a_this_letters, .ref a_this_row, .ref a_this_refused, .int v_letterMany, .int v_rowMany, .int v_place, .ref a_this_numbers, .ref a_this_least, .ref a_this_stepsFrom, .ref a_this_most, .ref a_this_next, .ref a_this_otherSteps, .ref a_this_ahead, .ref a_this_now, .int v_seed])), (a_this_s, .inl (cI, 39, .inl g_s)), (a_this_stepsFrom, .inl (cI, 36, .inl g_stepsFrom_4))]) (va_runV (As := [.int l3_3]) (rest := []) ⟨hx, hb, hml, hown, hts⟩ (k_M_canBe l dC dI cI cZ tt sd a_this a_this_s a_this_image a_this_was a_this_letters a_this_row a_this_refused a_this_numbers a_this_least a_this_stepsFrom a_this_most a_this_next a_this_otherSteps a_this_ahead a_this_now H.size v_hasImage v_letterMany v_rowMany v_place v_seed g_s l3_3 r7 hf8) (cwV 1 hts gX8_quiet_X8_canBe rfl rfl rfl (by decide +kernel) ⟨Nat.le_of_ble_eq_true rfl, Nat.le_of_ble_eq_true rfl⟩) (zpV hP hD hK hS hA hZ [0, 1] rfl rfl 8 0 rfl rfl) rfl rfl hl.1 rfl (lv_room (Nat.le_of_ble_eq_true rfl)) dX8_quiet_15 ⟨Nat.zero_le _, Nat.zero_le _⟩) hP hD hS hA [0, 1] [2] [1, 2, 0] rfl rfl rfl (by decide) rfl rfl rfl (fun H locs hP hD hS => ?_)
    refine zj3_w he (fun (l1_9 : Int32) (l2_10 : Int32) (g_stepsFrom_11 : Nat → Int32) => WW [(a_this, .inr (8, [.ref a_this_s, .ref a_this_image, .ref a_this_was, .int v_hasImage, .ref a_this_letters, .ref a_this_row, .ref a_this_refused, .int v_letterMany, .int v_rowMany, .int v_place, .ref a_this_numbers, .ref a_this_least, .ref a_this_stepsFrom, .ref a_this_most, .ref a_this_next, .ref a_this_otherSteps, .ref a_this_ahead, .ref a_this_now, .int v_seed])), (a_this_s, .inl (cI, 39, .inl g_s)), (a_this_stepsFrom, .inl (cI, 36, .inl g_stepsFrom_11))] [(0, .ref a_this), (1, .int l1_9), (2, .int l2_10), (3, .int l3_3)] 100 []) (fun l1_9 l2_10 g_stepsFrom_11 he => (hWW _ _ _ _).mpr (fun H locs ls hP hD hS hl => ?_)) (fun k13 hk13 he => ?_)
    · obtain ⟨x12, ex12⟩ : ∃ y : Int32, y = l3_3 + (1 : Int32) := ⟨_, rfl⟩
      have he := zn_e ex12 he
      refine lv_iinc (v := x12) (lv' := [(3, .int x12), (0, .ref a_this), (1, .int l1_9), (2, .int l2_10)]) hx hb dX8_quiet_100 hl (k := 3) rfl (by rw [ex12]; rfl) (by decide) rfl (fun ls hl => ?_)
      refine lv_goto (tgt := 7) hx hb dX8_quiet_103 (by decide) ?_
      exact (hWW _ _ _ _).mp (hagain5 l1_9 l2_10 x12 g_stepsFrom_11 he) _ _ _ hP hD hS (lv_sub hl [1, 2, 3, 0] rfl)
    refine lv_if_ne (tgt := 24) hx hb dX8_quiet_18 (by decide) (fun c14 => ?_) (fun c14 => ?_)
    · have he := zif_f c14 he
      refine lv_aload_n hx hb dX8_quiet_24 rfl (lv_at hl 0 rfl) ?_
      refine lv_iload_n hx hb dX8_quiet_25 rfl (lv_at hl 3 rfl) ?_
      obtain ⟨g_stepsFrom_15, hf16, he⟩ := zb1_e he
      refine zc_v (wr := []) (ws' := [(a_this, .inr (8, [.ref a_this_s, .ref a_this_image, .ref a_this_was, .int v_hasImage, .ref a_this_letters, .ref a_this_row, .ref a_this_refused, .int v_letterMany, .int v_rowMany, .int v_place, .ref a_this_numbers, .ref a_this_least, .ref a_this_stepsFrom, .ref a_this_most, .ref a_this_next, .ref a_this_otherSteps, .ref a_this_ahead, .ref a_this_now, .int v_seed])), (a_this_s, .inl (cI, 39, .inl g_s)), (a_this_stepsFrom, .inl (cI, 36, .inl g_stepsFrom_15))]) (va_runV (As := [.int l3_3]) (rest := []) ⟨hx, hb, hml, hown, hts⟩ (k_M_stepsAll l dC dI cI cZ tt sd a_this a_this_s a_this_image a_this_was a_this_letters a_this_row a_this_refused a_this_numbers a_this_least a_this_stepsFrom a_this_most a_this_next a_this_otherSteps a_this_ahead a_this_now H.size v_hasImage v_letterMany v_rowMany v_place v_seed g_s g_stepsFrom_4 l3_3 g_stepsFrom_15 hf16) (cwV 1 hts gX8_quiet_X8_stepsAll rfl rfl rfl (by decide +kernel) ⟨Nat.le_of_ble_eq_true rfl, Nat.le_of_ble_eq_true rfl⟩) (zpV hP hD hK hS hA hZ [0, 1, 2] rfl rfl 8 0 rfl rfl) rfl rfl hl.1 rfl (lv_room (Nat.le_of_ble_eq_true rfl)) dX8_quiet_26 ⟨Nat.zero_le _, Nat.zero_le _⟩) hP hD hS hA [0, 1, 2] [] [0, 1, 2] rfl rfl rfl (by decide) rfl rfl rfl (fun H locs hP hD hS => ?_)
      refine lv_ldc (v := (1000000000 : Int32)) hx hb hown (hts (.constant RX8 140 (1000000000 : Int32)) (by decide +kernel)) dX8_quiet_29 ?_
      refine lv_istore (lv' := [(4, .int (1000000000 : Int32)), (0, .ref a_this), (1, .int l1_1), (2, .int l2_2), (3, .int l3_3)]) hx hb dX8_quiet_31 hl (by decide) rfl (fun ls hl => ?_)
      refine lv_iconst (v := (0 : Int32)) hx hb dX8_quiet_33 (by decide) ?_
      refine lv_istore (lv' := [(5, .int (0 : Int32)), (4, .int (1000000000 : Int32)), (0, .ref a_this), (1, .int l1_1), (2, .int l2_2), (3, .int l3_3)]) hx hb dX8_quiet_34 hl (by decide) rfl (fun ls hl => ?_)
      refine zj1_w he (fun (l4_17 : Int32) => WW [(a_this, .inr (8, [.ref a_this_s, .ref a_this_image, .ref a_this_was, .int v_hasImage, .ref a_this_letters, .ref a_this_row, .ref a_this_refused, .int v_letterMany, .int v_rowMany, .int v_place, .ref a_this_numbers, .ref a_this_least, .ref a_this_stepsFrom, .ref a_this_most, .ref a_this_next, .ref a_this_otherSteps, .ref a_this_ahead, .ref a_this_now, .int v_seed])), (a_this_s, .inl (cI, 39, .inl g_s)), (a_this_stepsFrom, .inl (cI, 36, .inl g_stepsFrom_15))] [(0, .ref a_this), (1, .int l1_1), (2, .int l2_2), (3, .int l3_3), (4, .int l4_17)] 79 []) (fun l4_17 he => (hWW _ _ _ _).mpr (fun H locs ls hP hD hS hl => ?_)) (fun k20 hk20 he => ?_)
      · refine lv_iload hx hb dX8_quiet_79 (lv_at hl 4 rfl) ?_
        refine lv_ldc (v := (1000000000 : Int32)) hx hb hown (hts (.constant RX8 140 (1000000000 : Int32)) (by decide +kernel)) dX8_quiet_81 ?_
        refine lv_icmp_ge (tgt := 100) hx hb dX8_quiet_83 (by decide) (fun c18 => ?_) (fun c18 => ?_)
        · have he := zif_t c18 he
          exact (hWW _ _ _ _).mp (hk13 l1_1 l2_2 g_stepsFrom_15 he) _ _ _ hP hD hS (lv_sub hl [0, 1, 2, 3] rfl)
        · have he := zif_f c18 he
          refine lv_iload hx hb dX8_quiet_86 (lv_at hl 4 rfl) ?_
          refine lv_iload_n hx hb dX8_quiet_88 rfl (lv_at hl 2 rfl) ?_
          refine lv_icmp_gt (tgt := 95) hx hb dX8_quiet_89 (by decide) (fun c19 => ?_) (fun c19 => ?_)
          · have he := zif_t c19 he
            refine lv_iload_n hx hb dX8_quiet_95 rfl (lv_at hl 3 rfl) ?_
            refine lv_istore_n (lv' := [(1, .int l3_3), (0, .ref a_this), (2, .int l2_2), (3, .int l3_3), (4, .int l4_17)]) hx hb dX8_quiet_96 rfl hl (by decide) rfl (fun ls hl => ?_)
            refine lv_iload hx hb dX8_quiet_97 (lv_at hl 4 rfl) ?_
            refine lv_istore_n (lv' := [(2, .int l4_17), (1, .int l3_3), (0, .ref a_this), (3, .int l3_3), (4, .int l4_17)]) hx hb dX8_quiet_99 rfl hl (by decide) rfl (fun ls hl => ?_)
            exact (hWW _ _ _ _).mp (hk13 l3_3 l4_17 g_stepsFrom_15 he) _ _ _ hP hD hS (lv_sub hl [2, 1, 0, 3] rfl)
          · have he := zif_f c19 he
            refine lv_goto (tgt := 100) hx hb dX8_quiet_92 (by decide) ?_
            exact (hWW _ _ _ _).mp (hk13 l1_1 l2_2 g_stepsFrom_15 he) _ _ _ hP hD hS (lv_sub hl [0, 1, 2, 3] rfl)
      refine (hWW _ _ _ _).mp (zl2_w he (fun (l4_21 : Int32) (l5_22 : Int32) => WW [(a_this, .inr (8, [.ref a_this_s, .ref a_this_image, .ref a_this_was, .int v_hasImage, .ref a_this_letters, .ref a_this_row, .ref a_this_refused, .int v_letterMany, .int v_rowMany, .int v_place, .ref a_this_numbers, .ref a_this_least, .ref a_this_stepsFrom, .ref a_this_most, .ref a_this_next, .ref a_this_otherSteps, .ref a_this_ahead, .ref a_this_now, .int v_seed])), (a_this_s, .inl (cI, 39, .inl g_s)), (a_this_stepsFrom, .inl (cI, 36, .inl g_stepsFrom_15))] [(0, .ref a_this), (1, .int l1_1), (2, .int l2_2), (3, .int l3_3), (4, .int l4_21), (5, .int l5_22)] 36 []) (fun l4_21 l5_22 again23 hagain23 he => (hWW _ _ _ _).mpr (fun H locs ls hP hD hS hl => ?_))) _ _ _ hP hD hS (lv_sub hl [2, 3, 4, 5, 1, 0] rfl)
      refine lv_iload hx hb dX8_quiet_36 (lv_at hl 5 rfl) ?_
      refine lv_bipush (v := (36 : Int32)) hx hb dX8_quiet_38 (by decide) ?_
      refine lv_icmp_ge (tgt := 79) hx hb dX8_quiet_40 (by decide) (fun c24 => ?_) (fun c24 => ?_)
      · have he := zif_t c24 he
        exact (hWW _ _ _ _).mp (hk20 l4_21 he) _ _ _ hP hD hS (lv_sub hl [0, 1, 2, 3, 4] rfl)
      · have he := zif_f c24 he
        refine lv_aload_n hx hb dX8_quiet_43 rfl (lv_at hl 0 rfl) ?_
        refine va_get (D := (dC, dI)) (ci := 8) (v := .ref a_this_stepsFrom) (C := RX8) (T := TX8) (N := 19) hx hb hts (by decide +kernel) hown hK hP 0 rfl rfl 12 (by decide) (hts (.fieldLink RX8 34 "LawOfCornersModel" "stepsFrom" "[I") (by decide +kernel)) (fun _ h9 => h9) rfl dX8_quiet_44 ?_
        refine lv_iload hx hb dX8_quiet_47 (lv_at hl 5 rfl) ?_
        obtain ⟨hg25, he⟩ := zg_e he
        refine va_iald hx hb hK hP 2 0 rfl rfl hg25 dX8_quiet_49 ?_
        refine lv_iload hx hb dX8_quiet_50 (lv_at hl 4 rfl) ?_
        refine zj1_w he (fun (l4_26 : Int32) => WW [(a_this, .inr (8, [.ref a_this_s, .ref a_this_image, .ref a_this_was, .int v_hasImage, .ref a_this_letters, .ref a_this_row, .ref a_this_refused, .int v_letterMany, .int v_rowMany, .int v_place, .ref a_this_numbers, .ref a_this_least, .ref a_this_stepsFrom, .ref a_this_most, .ref a_this_next, .ref a_this_otherSteps, .ref a_this_ahead, .ref a_this_now, .int v_seed])), (a_this_s, .inl (cI, 39, .inl g_s)), (a_this_stepsFrom, .inl (cI, 36, .inl g_stepsFrom_15))] [(0, .ref a_this), (1, .int l1_1), (2, .int l2_2), (3, .int l3_3), (4, .int l4_26), (5, .int l5_22)] 73 []) (fun l4_26 he => (hWW _ _ _ _).mpr (fun H locs ls hP hD hS hl => ?_)) (fun k28 hk28 he => ?_)
        · obtain ⟨x27, ex27⟩ : ∃ y : Int32, y = l5_22 + (1 : Int32) := ⟨_, rfl⟩
          have he := zn_e ex27 he
          refine lv_iinc (v := x27) (lv' := [(5, .int x27), (0, .ref a_this), (1, .int l1_1), (2, .int l2_2), (3, .int l3_3), (4, .int l4_26)]) hx hb dX8_quiet_73 hl (k := 5) rfl (by rw [ex27]; rfl) (by decide) rfl (fun ls hl => ?_)
          refine lv_goto (tgt := 36) hx hb dX8_quiet_76 (by decide) ?_
          exact (hWW _ _ _ _).mp (hagain23 l4_26 x27 he) _ _ _ hP hD hS (lv_sub hl [1, 2, 3, 4, 5, 0] rfl)
        refine lv_icmp_ge (tgt := 73) hx hb dX8_quiet_52 (by decide) (fun c29 => ?_) (fun c29 => ?_)
        · have he := zif_t c29 he
          exact (hWW _ _ _ _).mp (hk28 l4_21 he) _ _ _ hP hD hS (lv_sub hl [0, 1, 2, 3, 4, 5] rfl)
        · have he := zif_f c29 he
          refine lv_aload_n hx hb dX8_quiet_55 rfl (lv_at hl 0 rfl) ?_
          refine lv_iload hx hb dX8_quiet_56 (lv_at hl 5 rfl) ?_
          obtain ⟨r30, hf31, he⟩ := zb1_e he
          refine zc_i (wr := [(a_this_stepsFrom, .inl (cI, 36, .inl g_stepsFrom_15))]) (ws' := [(a_this, .inr (8, [.ref a_this_s, .ref a_this_image, .ref a_this_was, .int v_hasImage, .ref a_this_letters, .ref a_this_row, .ref a_this_refused, .int v_letterMany, .int v_rowMany, .int v_place, .ref a_this_numbers, .ref a_this_least, .ref a_this_stepsFrom, .ref a_this_most, .ref a_this_next, .ref a_this_otherSteps, .ref a_this_ahead, .ref a_this_now, .int v_seed])), (a_this_s, .inl (cI, 39, .inl g_s)), (a_this_stepsFrom, .inl (cI, 36, .inl g_stepsFrom_15))]) (va_runV (As := [.int l5_22]) (rest := []) ⟨hx, hb, hml, hown, hts⟩ (k_M_isHeard l dC dI cI cZ tt sd a_this a_this_s a_this_image a_this_was a_this_letters a_this_row a_this_refused a_this_numbers a_this_least a_this_stepsFrom a_this_most a_this_next a_this_otherSteps a_this_ahead a_this_now H.size v_hasImage v_letterMany v_rowMany v_place v_seed g_s l5_22 r30 hf31) (cwV 1 hts gX8_quiet_X8_isHeard rfl rfl rfl (by decide +kernel) ⟨Nat.le_of_ble_eq_true rfl, Nat.le_of_ble_eq_true rfl⟩) (zpV hP hD hK hS hA hZ [0, 1] rfl rfl 8 0 rfl rfl) rfl rfl hl.1 rfl (lv_room (Nat.le_of_ble_eq_true rfl)) dX8_quiet_58 ⟨Nat.zero_le _, Nat.zero_le _⟩) hP hD hS hA [0, 1] [2] [1, 2, 0] rfl rfl rfl (by decide) rfl rfl rfl (fun H locs hP hD hS => ?_)
          refine lv_if_eq (tgt := 73) hx hb dX8_quiet_61 (by decide) (fun c32 => ?_) (fun c32 => ?_)
          · have he := zif_t c32 he
            exact (hWW _ _ _ _).mp (hk28 l4_21 he) _ _ _ hP hD hS (lv_sub hl [0, 1, 2, 3, 4, 5] rfl)
          · have he := zif_f c32 he
            refine lv_aload_n hx hb dX8_quiet_64 rfl (lv_at hl 0 rfl) ?_
            refine va_get (D := (dC, dI)) (ci := 8) (v := .ref a_this_stepsFrom) (C := RX8) (T := TX8) (N := 19) hx hb hts (by decide +kernel) hown hK hP 0 rfl rfl 12 (by decide) (hts (.fieldLink RX8 34 "LawOfCornersModel" "stepsFrom" "[I") (by decide +kernel)) (fun _ h9 => h9) rfl dX8_quiet_65 ?_
            refine lv_iload hx hb dX8_quiet_68 (lv_at hl 5 rfl) ?_
            obtain ⟨hg33, he⟩ := zg_e he
            refine va_iald hx hb hK hP 2 0 rfl rfl hg33 dX8_quiet_70 ?_
            refine lv_topi (fun x34 ex34 => ?_)
            have he := zn_e ex34 he
            refine lv_istore (lv' := [(4, .int x34), (0, .ref a_this), (1, .int l1_1), (2, .int l2_2), (3, .int l3_3), (5, .int l5_22)]) hx hb dX8_quiet_71 hl (by decide) rfl (fun ls hl => ?_)
            exact (hWW _ _ _ _).mp (hk28 x34 he) _ _ _ hP hD hS (lv_sub hl [1, 2, 3, 4, 0, 5] rfl)
    · have he := zif_t c14 he
      refine lv_goto (tgt := 100) hx hb dX8_quiet_21 (by decide) ?_
      exact (hWW _ _ _ _).mp (hk13 l1_1 l2_2 g_stepsFrom_4 he) _ _ _ hP hD hS (lv_sub hl [0, 1, 2, 3] rfl)
set_option maxHeartbeats 4000000 in
set_option maxRecDepth 100000 in
theorem k_M_isYard (l : Launch) (dC : Nat → ClassId) (dI : Nat → Nat → Nat) (cI : ClassId) (cZ : ClassId) (tt : Nat → Nat) (sd : Nat → Nat) (a_this : Nat) (a_this_s : Nat) (a_this_image : Nat) (a_this_was : Nat) (a_this_letters : Nat) (a_this_row : Nat) (a_this_refused : Nat) (a_this_numbers : Nat) (a_this_least : Nat) (a_this_stepsFrom : Nat) (a_this_most : Nat) (a_this_next : Nat) (a_this_otherSteps : Nat) (a_this_ahead : Nat) (a_this_now : Nat) (sz : Nat) (v_hasImage : Int32) (v_letterMany : Int32) (v_rowMany : Int32) (v_place : Int32) (v_seed : Int32) (g_s : Nat → Int32) (p1 : Int32) (r0 : Int32) (hf : f_M_isYard g_s p1 = some (r0)) : Met l yX8_isYard wsX8_isYard ({ frames := 3, cells := 0, slots := 0, locals := 65 }) (zPre (dC, dI) vwCl [(cI, .int), (cZ, .boolean)] tt sd [.ref a_this, .int p1] [(a_this, .inr (8, [.ref a_this_s, .ref a_this_image, .ref a_this_was, .int v_hasImage, .ref a_this_letters, .ref a_this_row, .ref a_this_refused, .int v_letterMany, .int v_rowMany, .int v_place, .ref a_this_numbers, .ref a_this_least, .ref a_this_stepsFrom, .ref a_this_most, .ref a_this_next, .ref a_this_otherSteps, .ref a_this_ahead, .ref a_this_now, .int v_seed])), (a_this_s, .inl (cI, 39, .inl g_s))] sz) (zQi (dC, dI) vwCl [(cI, .int), (cZ, .boolean)] r0 [(a_this, .inr (8, [.ref a_this_s, .ref a_this_image, .ref a_this_was, .int v_hasImage, .ref a_this_letters, .ref a_this_row, .ref a_this_refused, .int v_letterMany, .int v_rowMany, .int v_place, .ref a_this_numbers, .ref a_this_least, .ref a_this_stepsFrom, .ref a_this_most, .ref a_this_next, .ref a_this_otherSteps, .ref a_this_ahead, .ref a_this_now, .int v_seed])), (a_this_s, .inl (cI, 39, .inl g_s))] (va_A [(a_this, .inr (8, [.ref a_this_s, .ref a_this_image, .ref a_this_was, .int v_hasImage, .ref a_this_letters, .ref a_this_row, .ref a_this_refused, .int v_letterMany, .int v_rowMany, .int v_place, .ref a_this_numbers, .ref a_this_least, .ref a_this_stepsFrom, .ref a_this_most, .ref a_this_next, .ref a_this_otherSteps, .ref a_this_ahead, .ref a_this_now, .int v_seed])), (a_this_s, .inl (cI, 39, .inl g_s))] sz)) 0 0 (va_A [(a_this, .inr (8, [.ref a_this_s, .ref a_this_image, .ref a_this_was, .int v_hasImage, .ref a_this_letters, .ref a_this_row, .ref a_this_refused, .int v_letterMany, .int v_rowMany, .int v_place, .ref a_this_numbers, .ref a_this_least, .ref a_this_stepsFrom, .ref a_this_most, .ref a_this_next, .ref a_this_otherSteps, .ref a_this_ahead, .ref a_this_now, .int v_seed])), (a_this_s, .inl (cI, 39, .inl g_s))] sz) := by
  refine Met.ofW (cc := cX8_isYard) (maxL := 4) (ret := (some .boolean)) (by decide) rfl ?_
  intro p e s m args below meth c s₁ B hml hv
  obtain ⟨rfl, hsz, hP, hK, hD0, hZ⟩ := hv
  have hx := B.exec
  have hb := B.bytes
  have hr := B.returns
  have hts := atoms_spec (ws := wsX8_isYard) B.pre
  have hown : s.vm.findClass RX8 = some m.cls := findClass_of_methodNamed B.named
  have hlocks := B.notSynchronized
  subst hsz
  have hD := hD0.self (sz := s.heap.size)
  generalize hAe : va_A [(a_this, .inr (8, [.ref a_this_s, .ref a_this_image, .ref a_this_was, .int v_hasImage, .ref a_this_letters, .ref a_this_row, .ref a_this_refused, .int v_letterMany, .int v_rowMany, .int v_place, .ref a_this_numbers, .ref a_this_least, .ref a_this_stepsFrom, .ref a_this_most, .ref a_this_next, .ref a_this_otherSteps, .ref a_this_ahead, .ref a_this_now, .int v_seed])), (a_this_s, .inl (cI, 39, .inl g_s))] s.heap.size = A at hD hZ ⊢
  have hA : ∀ q : Nat, s.heap.size ≤ q → A q := fun q h => by rw [← hAe]; exact Or.inr h
  have hS : va_S A s.heap s.heap [] := va_S.rf
  have hP : va_P (dC, dI) vwCl [(a_this, .inr (8, [.ref a_this_s, .ref a_this_image, .ref a_this_was, .int v_hasImage, .ref a_this_letters, .ref a_this_row, .ref a_this_refused, .int v_letterMany, .int v_rowMany, .int v_place, .ref a_this_numbers, .ref a_this_least, .ref a_this_stepsFrom, .ref a_this_most, .ref a_this_next, .ref a_this_otherSteps, .ref a_this_ahead, .ref a_this_now, .int v_seed])), (a_this_s, .inl (cI, 39, .inl g_s))] s.heap := hP
  have hl := lv_entry ([.ref a_this, .int p1]) (n := 4) (Nat.le_of_ble_eq_true rfl)
  rw [lg_entry_eq]
  generalize (lg_sl ([.ref a_this, .int p1]) ++ List.replicate (4 - (lg_sl ([.ref a_this, .int p1])).length) Slot.unset).toArray = ls at hl ⊢
  have hl : lv_has ls 4 [(0, .ref a_this), (1, .int p1)] := hl
  have he := hf
  unfold f_M_isYard at he
  refine zstart (D := (dC, dI)) (cl := vwCl) (A := A) (nL := 4) (fun WW hWW => ?_)
  refine lv_aload_n hx hb dX8_isYard_0 rfl (lv_at hl 0 rfl) ?_
  refine lv_iload_n hx hb dX8_isYard_1 rfl (lv_at hl 1 rfl) ?_
  refine lv_iconst (v := (0 : Int32)) hx hb dX8_isYard_2 (by decide) ?_
  obtain ⟨r1, hf2, he⟩ := zb1_e he
  refine zc_i (wr := []) (ws' := [(a_this, .inr (8, [.ref a_this_s, .ref a_this_image, .ref a_this_was, .int v_hasImage, .ref a_this_letters, .ref a_this_row, .ref a_this_refused, .int v_letterMany, .int v_rowMany, .int v_place, .ref a_this_numbers, .ref a_this_least, .ref a_this_stepsFrom, .ref a_this_most, .ref a_this_next, .ref a_this_otherSteps, .ref a_this_ahead, .ref a_this_now, .int v_seed])), (a_this_s, .inl (cI, 39, .inl g_s))]) (va_runV (As := [.int p1, .int (0 : Int32)]) (rest := []) ⟨hx, hb, hml, hown, hts⟩ (k_M_gone l dC dI cI cZ tt sd a_this a_this_s a_this_image a_this_was a_this_letters a_this_row a_this_refused a_this_numbers a_this_least a_this_stepsFrom a_this_most a_this_next a_this_otherSteps a_this_ahead a_this_now s.heap.size v_hasImage v_letterMany v_rowMany v_place v_seed g_s p1 (0 : Int32) r1 hf2) (cwV 2 hts gX8_isYard_X8_gone rfl rfl rfl (by decide +kernel) ⟨Nat.le_of_ble_eq_true rfl, Nat.le_of_ble_eq_true rfl⟩) (zpV hP hD hK hS hA hZ [0, 1] rfl rfl 8 0 rfl rfl) rfl rfl hl.1 rfl (lv_room (Nat.le_of_ble_eq_true rfl)) dX8_isYard_3 ⟨Nat.zero_le _, Nat.zero_le _⟩) hP hD hS hA [0, 1] [] [0, 1] rfl rfl rfl (by decide) rfl rfl rfl (fun H locs hP hD hS => ?_)
  refine zj1_w he (fun (s3 : Int32) => WW [(a_this, .inr (8, [.ref a_this_s, .ref a_this_image, .ref a_this_was, .int v_hasImage, .ref a_this_letters, .ref a_this_row, .ref a_this_refused, .int v_letterMany, .int v_rowMany, .int v_place, .ref a_this_numbers, .ref a_this_least, .ref a_this_stepsFrom, .ref a_this_most, .ref a_this_next, .ref a_this_otherSteps, .ref a_this_ahead, .ref a_this_now, .int v_seed])), (a_this_s, .inl (cI, 39, .inl g_s))] [(0, .ref a_this), (1, .int p1)] 23 [.int s3]) (fun s3 he => (hWW _ _ _ _).mpr (fun H locs ls hP hD hS hl => ?_)) (fun k18 hk18 he => ?_)
  · refine lv_istore_n (lv' := [(2, .int s3), (0, .ref a_this), (1, .int p1)]) hx hb dX8_isYard_23 rfl hl (by decide) rfl (fun ls hl => ?_)
    refine lv_aload_n hx hb dX8_isYard_24 rfl (lv_at hl 1 rfl) ?_
    refine lv_iload_n hx hb dX8_isYard_25 rfl (lv_at hl 2 rfl) ?_
    refine lv_iconst (v := (1 : Int32)) hx hb dX8_isYard_26 (by decide) ?_
    obtain ⟨r4, hf5, he⟩ := zb1_e he
    refine zc_i (wr := []) (ws' := [(a_this, .inr (8, [.ref a_this_s, .ref a_this_image, .ref a_this_was, .int v_hasImage, .ref a_this_letters, .ref a_this_row, .ref a_this_refused, .int v_letterMany, .int v_rowMany, .int v_place, .ref a_this_numbers, .ref a_this_least, .ref a_this_stepsFrom, .ref a_this_most, .ref a_this_next, .ref a_this_otherSteps, .ref a_this_ahead, .ref a_this_now, .int v_seed])), (a_this_s, .inl (cI, 39, .inl g_s))]) (va_runV (As := [.int p1, .int (1 : Int32)]) (rest := []) ⟨hx, hb, hml, hown, hts⟩ (k_M_gone l dC dI cI cZ tt sd a_this a_this_s a_this_image a_this_was a_this_letters a_this_row a_this_refused a_this_numbers a_this_least a_this_stepsFrom a_this_most a_this_next a_this_otherSteps a_this_ahead a_this_now H.size v_hasImage v_letterMany v_rowMany v_place v_seed g_s p1 (1 : Int32) r4 hf5) (cwV 2 hts gX8_isYard_X8_gone rfl rfl rfl (by decide +kernel) ⟨Nat.le_of_ble_eq_true rfl, Nat.le_of_ble_eq_true rfl⟩) (zpV hP hD hK hS hA hZ [0, 1] rfl rfl 8 0 rfl rfl) rfl rfl hl.1 rfl (lv_room (Nat.le_of_ble_eq_true rfl)) dX8_isYard_27 ⟨Nat.zero_le _, Nat.zero_le _⟩) hP hD hS hA [0, 1] [] [0, 1] rfl rfl rfl (by decide) rfl rfl rfl (fun H locs hP hD hS => ?_)
    refine zj1_w he (fun (s6 : Int32) => WW [(a_this, .inr (8, [.ref a_this_s, .ref a_this_image, .ref a_this_was, .int v_hasImage, .ref a_this_letters, .ref a_this_row, .ref a_this_refused, .int v_letterMany, .int v_rowMany, .int v_place, .ref a_this_numbers, .ref a_this_least, .ref a_this_stepsFrom, .ref a_this_most, .ref a_this_next, .ref a_this_otherSteps, .ref a_this_ahead, .ref a_this_now, .int v_seed])), (a_this_s, .inl (cI, 39, .inl g_s))] [(0, .ref a_this), (1, .int p1), (2, .int s3)] 47 [.int s6]) (fun s6 he => (hWW _ _ _ _).mpr (fun H locs ls hP hD hS hl => ?_)) (fun k12 hk12 he => ?_)
    · refine lv_istore_n (lv' := [(3, .int s6), (0, .ref a_this), (1, .int p1), (2, .int s3)]) hx hb dX8_isYard_47 rfl hl (by decide) rfl (fun ls hl => ?_)
      refine lv_aload_n hx hb dX8_isYard_48 rfl (lv_at hl 1 rfl) ?_
      refine lv_iload_n hx hb dX8_isYard_49 rfl (lv_at hl 2 rfl) ?_
      obtain ⟨r7, hf8, he⟩ := zb1_e he
      refine zc_i (wr := []) (ws' := [(a_this, .inr (8, [.ref a_this_s, .ref a_this_image, .ref a_this_was, .int v_hasImage, .ref a_this_letters, .ref a_this_row, .ref a_this_refused, .int v_letterMany, .int v_rowMany, .int v_place, .ref a_this_numbers, .ref a_this_least, .ref a_this_stepsFrom, .ref a_this_most, .ref a_this_next, .ref a_this_otherSteps, .ref a_this_ahead, .ref a_this_now, .int v_seed])), (a_this_s, .inl (cI, 39, .inl g_s))]) (va_runV (As := [.int p1]) (rest := []) ⟨hx, hb, hml, hown, hts⟩ (k_M_isTurned l dC dI cI cZ tt sd a_this a_this_s a_this_image a_this_was a_this_letters a_this_row a_this_refused a_this_numbers a_this_least a_this_stepsFrom a_this_most a_this_next a_this_otherSteps a_this_ahead a_this_now H.size v_hasImage v_letterMany v_rowMany v_place v_seed g_s p1 r7 hf8) (cwV 1 hts gX8_isYard_X8_isTurned rfl rfl rfl (by decide +kernel) ⟨Nat.le_of_ble_eq_true rfl, Nat.le_of_ble_eq_true rfl⟩) (zpV hP hD hK hS hA hZ [0, 1] rfl rfl 8 0 rfl rfl) rfl rfl hl.1 rfl (lv_room (Nat.le_of_ble_eq_true rfl)) dX8_isYard_50 ⟨Nat.zero_le _, Nat.zero_le _⟩) hP hD hS hA [0, 1] [] [0, 1] rfl rfl rfl (by decide) rfl rfl rfl (fun H locs hP hD hS => ?_)
      refine lv_if_eq (tgt := 68) hx hb dX8_isYard_53 (by decide) (fun c9 => ?_) (fun c9 => ?_)
      · have he := zif_t c9 he
        refine lv_iconst (v := (0 : Int32)) hx hb dX8_isYard_68 (by decide) ?_
        obtain ⟨rfl⟩ := zi1 he
        exact W.zret hx hb hr rfl (fun t ht hW => ⟨⟨_, (), rfl, rfl, by rw [ht]; exact hP, va_K.moved hW.alike hK, hD⟩, hS.F ht⟩) hS.2.2 dX8_isYard_69
      · have he := zif_f c9 he
        refine lv_iload_n hx hb dX8_isYard_56 rfl (lv_at hl 3 rfl) ?_
        refine lv_if_eq (tgt := 68) hx hb dX8_isYard_57 (by decide) (fun c10 => ?_) (fun c10 => ?_)
        · have he := zif_t c10 he
          refine lv_iconst (v := (0 : Int32)) hx hb dX8_isYard_68 (by decide) ?_
          obtain ⟨rfl⟩ := zi1 he
          exact W.zret hx hb hr rfl (fun t ht hW => ⟨⟨_, (), rfl, rfl, by rw [ht]; exact hP, va_K.moved hW.alike hK, hD⟩, hS.F ht⟩) hS.2.2 dX8_isYard_69
        · have he := zif_f c10 he
          refine lv_iload_n hx hb dX8_isYard_60 rfl (lv_at hl 0 rfl) ?_
          refine lv_if_eq (tgt := 68) hx hb dX8_isYard_61 (by decide) (fun c11 => ?_) (fun c11 => ?_)
          · have he := zif_t c11 he
            refine lv_iconst (v := (0 : Int32)) hx hb dX8_isYard_68 (by decide) ?_
            obtain ⟨rfl⟩ := zi1 he
            exact W.zret hx hb hr rfl (fun t ht hW => ⟨⟨_, (), rfl, rfl, by rw [ht]; exact hP, va_K.moved hW.alike hK, hD⟩, hS.F ht⟩) hS.2.2 dX8_isYard_69
          · have he := zif_f c11 he
            refine lv_iconst (v := (1 : Int32)) hx hb dX8_isYard_64 (by decide) ?_
            refine lv_goto (tgt := 69) hx hb dX8_isYard_65 (by decide) ?_
            obtain ⟨rfl⟩ := zi1 he
            exact W.zret hx hb hr rfl (fun t ht hW => ⟨⟨_, (), rfl, rfl, by rw [ht]; exact hP, va_K.moved hW.alike hK, hD⟩, hS.F ht⟩) hS.2.2 dX8_isYard_69
    refine zj1_w he (fun (_ : Unit) => WW [(a_this, .inr (8, [.ref a_this_s, .ref a_this_image, .ref a_this_was, .int v_hasImage, .ref a_this_letters, .ref a_this_row, .ref a_this_refused, .int v_letterMany, .int v_rowMany, .int v_place, .ref a_this_numbers, .ref a_this_least, .ref a_this_stepsFrom, .ref a_this_most, .ref a_this_next, .ref a_this_otherSteps, .ref a_this_ahead, .ref a_this_now, .int v_seed])), (a_this_s, .inl (cI, 39, .inl g_s))] [(0, .ref a_this), (1, .int p1), (2, .int s3)] 42 []) (fun _ he => (hWW _ _ _ _).mpr (fun H locs ls hP hD hS hl => ?_)) (fun k13 hk13 he => ?_)
    · refine lv_iconst (v := (1 : Int32)) hx hb dX8_isYard_42 (by decide) ?_
      refine lv_goto (tgt := 47) hx hb dX8_isYard_43 (by decide) ?_
      exact (hWW _ _ _ _).mp (hk12 (1 : Int32) he) _ _ _ hP hD hS (lv_sub hl [0, 1, 2] rfl)
    refine lv_if_ge (tgt := 42) hx hb dX8_isYard_30 (by decide) (fun c14 => ?_) (fun c14 => ?_)
    · have he := zif_t c14 he
      exact (hWW _ _ _ _).mp (hk13 () he) _ _ _ hP hD hS (lv_sub hl [1, 2, 0] rfl)
    · have he := zif_f c14 he
      refine lv_aload_n hx hb dX8_isYard_33 rfl (lv_at hl 1 rfl) ?_
      refine lv_iload_n hx hb dX8_isYard_34 rfl (lv_at hl 2 rfl) ?_
      refine lv_iconst (v := (2 : Int32)) hx hb dX8_isYard_35 (by decide) ?_
      obtain ⟨r15, hf16, he⟩ := zb1_e he
      refine zc_i (wr := []) (ws' := [(a_this, .inr (8, [.ref a_this_s, .ref a_this_image, .ref a_this_was, .int v_hasImage, .ref a_this_letters, .ref a_this_row, .ref a_this_refused, .int v_letterMany, .int v_rowMany, .int v_place, .ref a_this_numbers, .ref a_this_least, .ref a_this_stepsFrom, .ref a_this_most, .ref a_this_next, .ref a_this_otherSteps, .ref a_this_ahead, .ref a_this_now, .int v_seed])), (a_this_s, .inl (cI, 39, .inl g_s))]) (va_runV (As := [.int p1, .int (2 : Int32)]) (rest := []) ⟨hx, hb, hml, hown, hts⟩ (k_M_gone l dC dI cI cZ tt sd a_this a_this_s a_this_image a_this_was a_this_letters a_this_row a_this_refused a_this_numbers a_this_least a_this_stepsFrom a_this_most a_this_next a_this_otherSteps a_this_ahead a_this_now H.size v_hasImage v_letterMany v_rowMany v_place v_seed g_s p1 (2 : Int32) r15 hf16) (cwV 2 hts gX8_isYard_X8_gone rfl rfl rfl (by decide +kernel) ⟨Nat.le_of_ble_eq_true rfl, Nat.le_of_ble_eq_true rfl⟩) (zpV hP hD hK hS hA hZ [0, 1] rfl rfl 8 0 rfl rfl) rfl rfl hl.1 rfl (lv_room (Nat.le_of_ble_eq_true rfl)) dX8_isYard_36 ⟨Nat.zero_le _, Nat.zero_le _⟩) hP hD hS hA [0, 1] [] [0, 1] rfl rfl rfl (by decide) rfl rfl rfl (fun H locs hP hD hS => ?_)
      refine lv_if_lt (tgt := 46) hx hb dX8_isYard_39 (by decide) (fun c17 => ?_) (fun c17 => ?_)
      · have he := zif_t c17 he
        refine lv_iconst (v := (0 : Int32)) hx hb dX8_isYard_46 (by decide) ?_
        exact (hWW _ _ _ _).mp (hk12 (0 : Int32) he) _ _ _ hP hD hS (lv_sub hl [1, 2, 0] rfl)
      · have he := zif_f c17 he
        exact (hWW _ _ _ _).mp (hk13 () he) _ _ _ hP hD hS (lv_sub hl [1, 2, 0] rfl)
  refine zj1_w he (fun (_ : Unit) => WW [(a_this, .inr (8, [.ref a_this_s, .ref a_this_image, .ref a_this_was, .int v_hasImage, .ref a_this_letters, .ref a_this_row, .ref a_this_refused, .int v_letterMany, .int v_rowMany, .int v_place, .ref a_this_numbers, .ref a_this_least, .ref a_this_stepsFrom, .ref a_this_most, .ref a_this_next, .ref a_this_otherSteps, .ref a_this_ahead, .ref a_this_now, .int v_seed])), (a_this_s, .inl (cI, 39, .inl g_s))] [(0, .ref a_this), (1, .int p1)] 18 []) (fun _ he => (hWW _ _ _ _).mpr (fun H locs ls hP hD hS hl => ?_)) (fun k19 hk19 he => ?_)
  · refine lv_iconst (v := (1 : Int32)) hx hb dX8_isYard_18 (by decide) ?_
    refine lv_goto (tgt := 23) hx hb dX8_isYard_19 (by decide) ?_
    exact (hWW _ _ _ _).mp (hk18 (1 : Int32) he) _ _ _ hP hD hS (lv_sub hl [0, 1] rfl)
  refine lv_if_ge (tgt := 18) hx hb dX8_isYard_6 (by decide) (fun c20 => ?_) (fun c20 => ?_)
  · have he := zif_t c20 he
    exact (hWW _ _ _ _).mp (hk19 () he) _ _ _ hP hD hS (lv_sub hl [0, 1] rfl)
  · have he := zif_f c20 he
    refine lv_aload_n hx hb dX8_isYard_9 rfl (lv_at hl 0 rfl) ?_
    refine lv_iload_n hx hb dX8_isYard_10 rfl (lv_at hl 1 rfl) ?_
    refine lv_iconst (v := (3 : Int32)) hx hb dX8_isYard_11 (by decide) ?_
    obtain ⟨r21, hf22, he⟩ := zb1_e he
    refine zc_i (wr := []) (ws' := [(a_this, .inr (8, [.ref a_this_s, .ref a_this_image, .ref a_this_was, .int v_hasImage, .ref a_this_letters, .ref a_this_row, .ref a_this_refused, .int v_letterMany, .int v_rowMany, .int v_place, .ref a_this_numbers, .ref a_this_least, .ref a_this_stepsFrom, .ref a_this_most, .ref a_this_next, .ref a_this_otherSteps, .ref a_this_ahead, .ref a_this_now, .int v_seed])), (a_this_s, .inl (cI, 39, .inl g_s))]) (va_runV (As := [.int p1, .int (3 : Int32)]) (rest := []) ⟨hx, hb, hml, hown, hts⟩ (k_M_gone l dC dI cI cZ tt sd a_this a_this_s a_this_image a_this_was a_this_letters a_this_row a_this_refused a_this_numbers a_this_least a_this_stepsFrom a_this_most a_this_next a_this_otherSteps a_this_ahead a_this_now H.size v_hasImage v_letterMany v_rowMany v_place v_seed g_s p1 (3 : Int32) r21 hf22) (cwV 2 hts gX8_isYard_X8_gone rfl rfl rfl (by decide +kernel) ⟨Nat.le_of_ble_eq_true rfl, Nat.le_of_ble_eq_true rfl⟩) (zpV hP hD hK hS hA hZ [0, 1] rfl rfl 8 0 rfl rfl) rfl rfl hl.1 rfl (lv_room (Nat.le_of_ble_eq_true rfl)) dX8_isYard_12 ⟨Nat.zero_le _, Nat.zero_le _⟩) hP hD hS hA [0, 1] [] [0, 1] rfl rfl rfl (by decide) rfl rfl rfl (fun H locs hP hD hS => ?_)
    refine lv_if_lt (tgt := 22) hx hb dX8_isYard_15 (by decide) (fun c23 => ?_) (fun c23 => ?_)
    · have he := zif_t c23 he
      refine lv_iconst (v := (0 : Int32)) hx hb dX8_isYard_22 (by decide) ?_
      exact (hWW _ _ _ _).mp (hk18 (0 : Int32) he) _ _ _ hP hD hS (lv_sub hl [0, 1] rfl)
    · have he := zif_f c23 he
      exact (hWW _ _ _ _).mp (hk19 () he) _ _ _ hP hD hS (lv_sub hl [0, 1] rfl)
