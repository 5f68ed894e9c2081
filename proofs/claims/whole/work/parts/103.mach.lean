set_option maxHeartbeats 4000000 in
set_option maxRecDepth 100000 in
theorem k_X_setHome (l : Launch) (dC : Nat → ClassId) (dI : Nat → Nat → Nat) (cI : ClassId) (cZ : ClassId) (tt : Nat → Nat) (sd : Nat → Nat) (a_this : Nat) (a_this_town : Nat) (a_this_trial : Nat) (a_this_kept : Nat) (a_this_letters : Nat) (a_this_told : Nat) (a_this_refused : Nat) (a_this_stroll : Nat) (a_this_reach : Nat) (a_this_otherReach : Nat) (a_this_routes : Nat) (a_this_talks : Nat) (a_this_hearers : Nat) (a_this_refused_all : Nat) (a_this_town_kinds : Nat) (a_this_town_kinds_all : Nat) (sz : Nat) (v_isKept : Int32) (v_toldCount : Int32) (g_refused_all : Nat → Int32) (v_town_home : Int32) (v_town_fine : Int32) (v_town_breath : Int32) (g_town_kinds_all : Nat → Int32) (p1 : Int32) (r0 : Int32) (w0 : Nat → Int32) (w1 : Int32) (hf : f_X_setHome g_refused_all v_town_home g_town_kinds_all p1 = some (r0, w0, w1)) : Met l yX7_setHome wsX7_setHome ({ frames := 3, cells := 0, slots := 0, locals := 63 }) (zPre (dC, dI) vwCl [(cI, .int), (cZ, .boolean)] tt sd [.ref a_this, .int p1] [(a_this, .inr (7, [.ref a_this_town, .ref a_this_trial, .ref a_this_kept, .int v_isKept, .ref a_this_letters, .ref a_this_told, .int v_toldCount, .ref a_this_refused, .ref a_this_stroll, .ref a_this_reach, .ref a_this_otherReach, .ref a_this_routes, .ref a_this_talks, .ref a_this_hearers])), (a_this_refused, .inr (1, [.ref a_this_refused_all])), (a_this_refused_all, .inl (cI, 7, .inl g_refused_all)), (a_this_town, .inr (6, [.ref a_this_town_kinds, .int v_town_home, .int v_town_fine, .int v_town_breath])), (a_this_town_kinds, .inr (1, [.ref a_this_town_kinds_all])), (a_this_town_kinds_all, .inl (cI, 36, .inl g_town_kinds_all))] sz) (zQi (dC, dI) vwCl [(cI, .int), (cZ, .boolean)] r0 [(a_this, .inr (7, [.ref a_this_town, .ref a_this_trial, .ref a_this_kept, .int v_isKept, .ref a_this_letters, .ref a_this_told, .int v_toldCount, .ref a_this_refused, .ref a_this_stroll, .ref a_this_reach, .ref a_this_otherReach, .ref a_this_routes, .ref a_this_talks, .ref a_this_hearers])), (a_this_refused, .inr (1, [.ref a_this_refused_all])), (a_this_refused_all, .inl (cI, 7, .inl w0)), (a_this_town, .inr (6, [.ref a_this_town_kinds, .int w1, .int v_town_fine, .int v_town_breath])), (a_this_town_kinds, .inr (1, [.ref a_this_town_kinds_all])), (a_this_town_kinds_all, .inl (cI, 36, .inl g_town_kinds_all))] (va_A [(a_this, .inr (7, [.ref a_this_town, .ref a_this_trial, .ref a_this_kept, .int v_isKept, .ref a_this_letters, .ref a_this_told, .int v_toldCount, .ref a_this_refused, .ref a_this_stroll, .ref a_this_reach, .ref a_this_otherReach, .ref a_this_routes, .ref a_this_talks, .ref a_this_hearers])), (a_this_refused, .inr (1, [.ref a_this_refused_all])), (a_this_refused_all, .inl (cI, 7, .inl g_refused_all)), (a_this_town, .inr (6, [.ref a_this_town_kinds, .int v_town_home, .int v_town_fine, .int v_town_breath])), (a_this_town_kinds, .inr (1, [.ref a_this_town_kinds_all])), (a_this_town_kinds_all, .inl (cI, 36, .inl g_town_kinds_all))] sz)) 0 0 (va_A [(a_this, .inr (7, [.ref a_this_town, .ref a_this_trial, .ref a_this_kept, .int v_isKept, .ref a_this_letters, .ref a_this_told, .int v_toldCount, .ref a_this_refused, .ref a_this_stroll, .ref a_this_reach, .ref a_this_otherReach, .ref a_this_routes, .ref a_this_talks, .ref a_this_hearers])), (a_this_refused, .inr (1, [.ref a_this_refused_all])), (a_this_refused_all, .inl (cI, 7, .inl g_refused_all)), (a_this_town, .inr (6, [.ref a_this_town_kinds, .int v_town_home, .int v_town_fine, .int v_town_breath])), (a_this_town_kinds, .inr (1, [.ref a_this_town_kinds_all])), (a_this_town_kinds_all, .inl (cI, 36, .inl g_town_kinds_all))] sz) := by
  refine Met.ofW (cc := cX7_setHome) (maxL := 3) (ret := (some .int)) (by decide) rfl ?_
  intro p e s m args below meth c s₁ B hml hv
  obtain ⟨rfl, hsz, hP, hK, hD0, hZ⟩ := hv
  have hx := B.exec
  have hb := B.bytes
  have hr := B.returns
  have hts := atoms_spec (ws := wsX7_setHome) B.pre
  have hown : s.vm.findClass RX7 = some m.cls := findClass_of_methodNamed B.named
  have hlocks := B.notSynchronized
  subst hsz
  have hD := hD0.self (sz := s.heap.size)
  generalize hAe : va_A [(a_this, .inr (7, [.ref a_this_town, .ref a_this_trial, .ref a_this_kept, .int v_isKept, .ref a_this_letters, .ref a_this_told, .int v_toldCount, .ref a_this_refused, .ref a_this_stroll, .ref a_this_reach, .ref a_this_otherReach, .ref a_this_routes, .ref a_this_talks, .ref a_this_hearers])), (a_this_refused, .inr (1, [.ref a_this_refused_all])), (a_this_refused_all, .inl (cI, 7, .inl g_refused_all)), (a_this_town, .inr (6, [.ref a_this_town_kinds, .int v_town_home, .int v_town_fine, .int v_town_breath])), (a_this_town_kinds, .inr (1, [.ref a_this_town_kinds_all])), (a_this_town_kinds_all, .inl (cI, 36, .inl g_town_kinds_all))] s.heap.size = A at hD hZ ⊢
  have hA : ∀ q : Nat, s.heap.size ≤ q → A q := fun q h => by rw [← hAe]; exact Or.inr h
  have hS : va_S A s.heap s.heap [] := va_S.rf
  have hP : va_P (dC, dI) vwCl [(a_this, .inr (7, [.ref a_this_town, .ref a_this_trial, .ref a_this_kept, .int v_isKept, .ref a_this_letters, .ref a_this_told, .int v_toldCount, .ref a_this_refused, .ref a_this_stroll, .ref a_this_reach, .ref a_this_otherReach, .ref a_this_routes, .ref a_this_talks, .ref a_this_hearers])), (a_this_refused, .inr (1, [.ref a_this_refused_all])), (a_this_refused_all, .inl (cI, 7, .inl g_refused_all)), (a_this_town, .inr (6, [.ref a_this_town_kinds, .int v_town_home, .int v_town_fine, .int v_town_breath])), (a_this_town_kinds, .inr (1, [.ref a_this_town_kinds_all])), (a_this_town_kinds_all, .inl (cI, 36, .inl g_town_kinds_all))] s.heap := hP
  have hl := lv_entry ([.ref a_this, .int p1]) (n := 3) (Nat.le_of_ble_eq_true rfl)
  rw [lg_entry_eq]
  generalize (lg_sl ([.ref a_this, .int p1]) ++ List.replicate (3 - (lg_sl ([.ref a_this, .int p1])).length) Slot.unset).toArray = ls at hl ⊢
  have hl : lv_has ls 3 [(0, .ref a_this), (1, .int p1)] := hl
  have he := hf
  unfold f_X_setHome at he
  refine lv_iload_n hx hb dX7_setHome_0 rfl (lv_at hl 1 rfl) ?_
  obtain ⟨r1, hf2, he⟩ := zb1_e he
  refine zc_i (wr := [(a_this, .inr (7, [.ref a_this_town, .ref a_this_trial, .ref a_this_kept, .int v_isKept, .ref a_this_letters, .ref a_this_told, .int v_toldCount, .ref a_this_refused, .ref a_this_stroll, .ref a_this_reach, .ref a_this_otherReach, .ref a_this_routes, .ref a_this_talks, .ref a_this_hearers])), (a_this_refused, .inr (1, [.ref a_this_refused_all])), (a_this_refused_all, .inl (cI, 7, .inl g_refused_all)), (a_this_town, .inr (6, [.ref a_this_town_kinds, .int v_town_home, .int v_town_fine, .int v_town_breath])), (a_this_town_kinds, .inr (1, [.ref a_this_town_kinds_all])), (a_this_town_kinds_all, .inl (cI, 36, .inl g_town_kinds_all))]) (ws' := [(a_this, .inr (7, [.ref a_this_town, .ref a_this_trial, .ref a_this_kept, .int v_isKept, .ref a_this_letters, .ref a_this_told, .int v_toldCount, .ref a_this_refused, .ref a_this_stroll, .ref a_this_reach, .ref a_this_otherReach, .ref a_this_routes, .ref a_this_talks, .ref a_this_hearers])), (a_this_refused, .inr (1, [.ref a_this_refused_all])), (a_this_refused_all, .inl (cI, 7, .inl g_refused_all)), (a_this_town, .inr (6, [.ref a_this_town_kinds, .int v_town_home, .int v_town_fine, .int v_town_breath])), (a_this_town_kinds, .inr (1, [.ref a_this_town_kinds_all])), (a_this_town_kinds_all, .inl (cI, 36, .inl g_town_kinds_all))]) (va_runS (As := [.int p1]) (rest := []) ⟨hx, hb, hml, hown, hts⟩ (k_X_isSquare l dC dI cI cZ tt sd s.heap.size p1 r1 hf2) (va_cwS 1 hts gX7_setHome_X7_isSquare rfl rfl rfl (by decide +kernel) ⟨Nat.le_of_ble_eq_true rfl, Nat.le_of_ble_eq_true rfl⟩) (zpS hP hD hK hS hA hZ [] rfl rfl) rfl rfl hl.1 rfl (lv_room (Nat.le_of_ble_eq_true rfl)) dX7_setHome_1 ⟨Nat.zero_le _, Nat.zero_le _⟩) hP hD hS hA [] [0, 1, 2, 3, 4, 5] [0, 1, 2, 3, 4, 5] rfl rfl rfl (by decide) rfl rfl rfl (fun H locs hP hD hS => ?_)
  refine lv_if_ne (tgt := 13) hx hb dX7_setHome_4 (by decide) (fun c3 => ?_) (fun c3 => ?_)
  · have he := zif_f c3 he
    refine lv_aload_n hx hb dX7_setHome_13 rfl (lv_at hl 0 rfl) ?_
    refine va_get (D := (dC, dI)) (ci := 7) (v := .ref a_this_town) (C := RX7) (T := TX7) (N := 14) hx hb hts (by decide +kernel) hown hK hP 0 rfl rfl 0 (by decide) (hts (.fieldLink RX7 12 "LawOfCorners" "town" "LLawOfCorners$Town;") (by decide +kernel)) (fun _ h9 => h9) rfl dX7_setHome_14 ?_
    obtain ⟨r4, hf5, he⟩ := zb1_e he
    refine zc_i (wr := [(a_this, .inr (7, [.ref a_this_town, .ref a_this_trial, .ref a_this_kept, .int v_isKept, .ref a_this_letters, .ref a_this_told, .int v_toldCount, .ref a_this_refused, .ref a_this_stroll, .ref a_this_reach, .ref a_this_otherReach, .ref a_this_routes, .ref a_this_talks, .ref a_this_hearers])), (a_this_refused, .inr (1, [.ref a_this_refused_all])), (a_this_refused_all, .inl (cI, 7, .inl g_refused_all)), (a_this_town_kinds, .inr (1, [.ref a_this_town_kinds_all])), (a_this_town_kinds_all, .inl (cI, 36, .inl g_town_kinds_all))]) (ws' := [(a_this, .inr (7, [.ref a_this_town, .ref a_this_trial, .ref a_this_kept, .int v_isKept, .ref a_this_letters, .ref a_this_told, .int v_toldCount, .ref a_this_refused, .ref a_this_stroll, .ref a_this_reach, .ref a_this_otherReach, .ref a_this_routes, .ref a_this_talks, .ref a_this_hearers])), (a_this_refused, .inr (1, [.ref a_this_refused_all])), (a_this_refused_all, .inl (cI, 7, .inl g_refused_all)), (a_this_town, .inr (6, [.ref a_this_town_kinds, .int v_town_home, .int v_town_fine, .int v_town_breath])), (a_this_town_kinds, .inr (1, [.ref a_this_town_kinds_all])), (a_this_town_kinds_all, .inl (cI, 36, .inl g_town_kinds_all))]) (va_runV (As := []) (rest := []) ⟨hx, hb, hml, hown, hts⟩ (k_Town_home l dC dI cI cZ tt sd a_this_town a_this_town_kinds H.size v_town_home v_town_fine v_town_breath r4 hf5) (cwV 0 hts gX7_setHome_X6_home rfl rfl rfl (by decide +kernel) ⟨Nat.le_of_ble_eq_true rfl, Nat.le_of_ble_eq_true rfl⟩) (zpV hP hD hK hS hA hZ [3] rfl rfl 6 3 rfl rfl) rfl rfl hl.1 rfl (lv_room (Nat.le_of_ble_eq_true rfl)) dX7_setHome_17 ⟨Nat.zero_le _, Nat.zero_le _⟩) hP hD hS hA [3] [0, 1, 2, 4, 5] [0, 1, 2, 5, 3, 4] rfl rfl rfl (by decide) rfl rfl rfl (fun H locs hP hD hS => ?_)
    refine lv_istore_n (lv' := [(2, .int r4), (0, .ref a_this), (1, .int p1)]) hx hb dX7_setHome_20 rfl hl (by decide) rfl (fun ls hl => ?_)
    refine lv_aload_n hx hb dX7_setHome_21 rfl (lv_at hl 1 rfl) ?_
    refine va_get (D := (dC, dI)) (ci := 7) (v := .ref a_this_town) (C := RX7) (T := TX7) (N := 14) hx hb hts (by decide +kernel) hown hK hP 0 rfl rfl 0 (by decide) (hts (.fieldLink RX7 12 "LawOfCorners" "town" "LLawOfCorners$Town;") (by decide +kernel)) (fun _ h9 => h9) rfl dX7_setHome_22 ?_
    refine lv_iload_n hx hb dX7_setHome_25 rfl (lv_at hl 2 rfl) ?_
    obtain ⟨r6, v_town_home_7, hf8, he⟩ := zb2_e he
    refine zc_i (wr := [(a_this, .inr (7, [.ref a_this_town, .ref a_this_trial, .ref a_this_kept, .int v_isKept, .ref a_this_letters, .ref a_this_told, .int v_toldCount, .ref a_this_refused, .ref a_this_stroll, .ref a_this_reach, .ref a_this_otherReach, .ref a_this_routes, .ref a_this_talks, .ref a_this_hearers])), (a_this_refused, .inr (1, [.ref a_this_refused_all])), (a_this_refused_all, .inl (cI, 7, .inl g_refused_all))]) (ws' := [(a_this, .inr (7, [.ref a_this_town, .ref a_this_trial, .ref a_this_kept, .int v_isKept, .ref a_this_letters, .ref a_this_told, .int v_toldCount, .ref a_this_refused, .ref a_this_stroll, .ref a_this_reach, .ref a_this_otherReach, .ref a_this_routes, .ref a_this_talks, .ref a_this_hearers])), (a_this_refused, .inr (1, [.ref a_this_refused_all])), (a_this_refused_all, .inl (cI, 7, .inl g_refused_all)), (a_this_town, .inr (6, [.ref a_this_town_kinds, .int v_town_home_7, .int v_town_fine, .int v_town_breath])), (a_this_town_kinds, .inr (1, [.ref a_this_town_kinds_all])), (a_this_town_kinds_all, .inl (cI, 36, .inl g_town_kinds_all))]) (va_runV (As := [.int p1]) (rest := []) ⟨hx, hb, hml, hown, hts⟩ (k_Town_moveHome l dC dI cI cZ tt sd a_this_town a_this_town_kinds a_this_town_kinds_all H.size v_town_home v_town_fine v_town_breath g_town_kinds_all p1 r6 v_town_home_7 hf8) (cwV 1 hts gX7_setHome_X6_moveHome rfl rfl rfl (by decide +kernel) ⟨Nat.le_of_ble_eq_true rfl, Nat.le_of_ble_eq_true rfl⟩) (zpV hP hD hK hS hA hZ [3, 4, 5] rfl rfl 6 3 rfl rfl) rfl rfl hl.1 rfl (lv_room (Nat.le_of_ble_eq_true rfl)) dX7_setHome_26 ⟨Nat.zero_le _, Nat.zero_le _⟩) hP hD hS hA [3, 4, 5] [0, 1, 2] [0, 1, 2, 3, 4, 5] rfl rfl rfl (by decide) rfl rfl rfl (fun H locs hP hD hS => ?_)
    refine lv_if_eq (tgt := 36) hx hb dX7_setHome_29 (by decide) (fun c9 => ?_) (fun c9 => ?_)
    · have he := zif_t c9 he
      refine lv_aload_n hx hb dX7_setHome_36 rfl (lv_at hl 1 rfl) ?_
      refine lv_bipush (v := (-3 : Int32)) hx hb dX7_setHome_37 (by decide) ?_
      obtain ⟨r10, g_refused_all_11, hf12, he⟩ := zb2_e he
      refine zc_i (wr := [(a_this_town, .inr (6, [.ref a_this_town_kinds, .int v_town_home_7, .int v_town_fine, .int v_town_breath])), (a_this_town_kinds, .inr (1, [.ref a_this_town_kinds_all])), (a_this_town_kinds_all, .inl (cI, 36, .inl g_town_kinds_all))]) (ws' := [(a_this, .inr (7, [.ref a_this_town, .ref a_this_trial, .ref a_this_kept, .int v_isKept, .ref a_this_letters, .ref a_this_told, .int v_toldCount, .ref a_this_refused, .ref a_this_stroll, .ref a_this_reach, .ref a_this_otherReach, .ref a_this_routes, .ref a_this_talks, .ref a_this_hearers])), (a_this_refused, .inr (1, [.ref a_this_refused_all])), (a_this_refused_all, .inl (cI, 7, .inl g_refused_all_11)), (a_this_town, .inr (6, [.ref a_this_town_kinds, .int v_town_home_7, .int v_town_fine, .int v_town_breath])), (a_this_town_kinds, .inr (1, [.ref a_this_town_kinds_all])), (a_this_town_kinds_all, .inl (cI, 36, .inl g_town_kinds_all))]) (va_runV (As := [.int (-3 : Int32)]) (rest := []) ⟨hx, hb, hml, hown, hts⟩ (k_X_refuse l dC dI cI cZ tt sd a_this a_this_town a_this_trial a_this_kept a_this_letters a_this_told a_this_refused a_this_stroll a_this_reach a_this_otherReach a_this_routes a_this_talks a_this_hearers a_this_refused_all H.size v_isKept v_toldCount g_refused_all (-3 : Int32) r10 g_refused_all_11 hf12) (cwV 1 hts gX7_setHome_X7_refuse rfl rfl rfl (by decide +kernel) ⟨Nat.le_of_ble_eq_true rfl, Nat.le_of_ble_eq_true rfl⟩) (zpV hP hD hK hS hA hZ [0, 1, 2] rfl rfl 7 0 rfl rfl) rfl rfl hl.1 rfl (lv_room (Nat.le_of_ble_eq_true rfl)) dX7_setHome_39 ⟨Nat.zero_le _, Nat.zero_le _⟩) hP hD hS hA [0, 1, 2] [3, 4, 5] [3, 4, 5, 0, 1, 2] rfl rfl rfl (by decide) rfl rfl rfl (fun H locs hP hD hS => ?_)
      cases he
      exact W.iret hx hb hr (fun t ht hW => ⟨⟨_, (), rfl, rfl, by rw [ht]; exact hP, va_K.moved hW.alike hK, hD⟩, hS.F ht⟩) hS.2.2 dX7_setHome_42
    · have he := zif_f c9 he
      refine lv_iload_n hx hb dX7_setHome_32 rfl (lv_at hl 0 rfl) ?_
      refine lv_goto (tgt := 42) hx hb dX7_setHome_33 (by decide) ?_
      cases he
      exact W.iret hx hb hr (fun t ht hW => ⟨⟨_, (), rfl, rfl, by rw [ht]; exact hP, va_K.moved hW.alike hK, hD⟩, hS.F ht⟩) hS.2.2 dX7_setHome_42
  · have he := zif_t c3 he
    refine lv_aload_n hx hb dX7_setHome_7 rfl (lv_at hl 0 rfl) ?_
    refine lv_iconst (v := (-1 : Int32)) hx hb dX7_setHome_8 (by decide) ?_
    obtain ⟨r13, g_refused_all_14, hf15, he⟩ := zb2_e he
    refine zc_i (wr := [(a_this_town, .inr (6, [.ref a_this_town_kinds, .int v_town_home, .int v_town_fine, .int v_town_breath])), (a_this_town_kinds, .inr (1, [.ref a_this_town_kinds_all])), (a_this_town_kinds_all, .inl (cI, 36, .inl g_town_kinds_all))]) (ws' := [(a_this, .inr (7, [.ref a_this_town, .ref a_this_trial, .ref a_this_kept, .int v_isKept, .ref a_this_letters, .ref a_this_told, .int v_toldCount, .ref a_this_refused, .ref a_this_stroll, .ref a_this_reach, .ref a_this_otherReach, .ref a_this_routes, .ref a_this_talks, .ref a_this_hearers])), (a_this_refused, .inr (1, [.ref a_this_refused_all])), (a_this_refused_all, .inl (cI, 7, .inl g_refused_all_14)), (a_this_town, .inr (6, [.ref a_this_town_kinds, .int v_town_home, .int v_town_fine, .int v_town_breath])), (a_this_town_kinds, .inr (1, [.ref a_this_town_kinds_all])), (a_this_town_kinds_all, .inl (cI, 36, .inl g_town_kinds_all))]) (va_runV (As := [.int (-1 : Int32)]) (rest := []) ⟨hx, hb, hml, hown, hts⟩ (k_X_refuse l dC dI cI cZ tt sd a_this a_this_town a_this_trial a_this_kept a_this_letters a_this_told a_this_refused a_this_stroll a_this_reach a_this_otherReach a_this_routes a_this_talks a_this_hearers a_this_refused_all H.size v_isKept v_toldCount g_refused_all (-1 : Int32) r13 g_refused_all_14 hf15) (cwV 1 hts gX7_setHome_X7_refuse rfl rfl rfl (by decide +kernel) ⟨Nat.le_of_ble_eq_true rfl, Nat.le_of_ble_eq_true rfl⟩) (zpV hP hD hK hS hA hZ [0, 1, 2] rfl rfl 7 0 rfl rfl) rfl rfl hl.1 rfl (lv_room (Nat.le_of_ble_eq_true rfl)) dX7_setHome_9 ⟨Nat.zero_le _, Nat.zero_le _⟩) hP hD hS hA [0, 1, 2] [3, 4, 5] [3, 4, 5, 0, 1, 2] rfl rfl rfl (by decide) rfl rfl rfl (fun H locs hP hD hS => ?_)
    cases he
    exact W.iret hx hb hr (fun t ht hW => ⟨⟨_, (), rfl, rfl, by rw [ht]; exact hP, va_K.moved hW.alike hK, hD⟩, hS.F ht⟩) hS.2.2 dX7_setHome_12
set_option maxHeartbeats 4000000 in
set_option maxRecDepth 100000 in
theorem k_X_set (l : Launch) (dC : Nat → ClassId) (dI : Nat → Nat → Nat) (cI : ClassId) (cZ : ClassId) (tt : Nat → Nat) (sd : Nat → Nat) (a_this : Nat) (a_this_town : Nat) (a_this_trial : Nat) (a_this_kept : Nat) (a_this_letters : Nat) (a_this_told : Nat) (a_this_refused : Nat) (a_this_stroll : Nat) (a_this_reach : Nat) (a_this_otherReach : Nat) (a_this_routes : Nat) (a_this_talks : Nat) (a_this_hearers : Nat) (a_this_refused_all : Nat) (a_this_town_kinds : Nat) (a_this_town_kinds_all : Nat) (sz : Nat) (v_isKept : Int32) (v_toldCount : Int32) (g_refused_all : Nat → Int32) (v_town_home : Int32) (v_town_fine : Int32) (v_town_breath : Int32) (g_town_kinds_all : Nat → Int32) (p1 : Int32) (p2 : Int32) (r0 : Int32) (w0 : Nat → Int32) (w1 : Int32) (w2 : Int32) (w3 : Int32) (hf : f_X_set g_refused_all v_town_breath v_town_fine v_town_home g_town_kinds_all p1 p2 = some (r0, w0, w1, w2, w3)) : Met l yX7_set wsX7_set ({ frames := 4, cells := 0, slots := 0, locals := 85 }) (zPre (dC, dI) vwCl [(cI, .int), (cZ, .boolean)] tt sd [.ref a_this, .int p1, .int p2] [(a_this, .inr (7, [.ref a_this_town, .ref a_this_trial, .ref a_this_kept, .int v_isKept, .ref a_this_letters, .ref a_this_told, .int v_toldCount, .ref a_this_refused, .ref a_this_stroll, .ref a_this_reach, .ref a_this_otherReach, .ref a_this_routes, .ref a_this_talks, .ref a_this_hearers])), (a_this_refused, .inr (1, [.ref a_this_refused_all])), (a_this_refused_all, .inl (cI, 7, .inl g_refused_all)), (a_this_town, .inr (6, [.ref a_this_town_kinds, .int v_town_home, .int v_town_fine, .int v_town_breath])), (a_this_town_kinds, .inr (1, [.ref a_this_town_kinds_all])), (a_this_town_kinds_all, .inl (cI, 36, .inl g_town_kinds_all))] sz) (zQi (dC, dI) vwCl [(cI, .int), (cZ, .boolean)] r0 [(a_this, .inr (7, [.ref a_this_town, .ref a_this_trial, .ref a_this_kept, .int v_isKept, .ref a_this_letters, .ref a_this_told, .int v_toldCount, .ref a_this_refused, .ref a_this_stroll, .ref a_this_reach, .ref a_this_otherReach, .ref a_this_routes, .ref a_this_talks, .ref a_this_hearers])), (a_this_refused, .inr (1, [.ref a_this_refused_all])), (a_this_refused_all, .inl (cI, 7, .inl w0)), (a_this_town, .inr (6, [.ref a_this_town_kinds, .int w3, .int w2, .int w1])), (a_this_town_kinds, .inr (1, [.ref a_this_town_kinds_all])), (a_this_town_kinds_all, .inl (cI, 36, .inl g_town_kinds_all))] (va_A [(a_this, .inr (7, [.ref a_this_town, .ref a_this_trial, .ref a_this_kept, .int v_isKept, .ref a_this_letters, .ref a_this_told, .int v_toldCount, .ref a_this_refused, .ref a_this_stroll, .ref a_this_reach, .ref a_this_otherReach, .ref a_this_routes, .ref a_this_talks, .ref a_this_hearers])), (a_this_refused, .inr (1, [.ref a_this_refused_all])), (a_this_refused_all, .inl (cI, 7, .inl g_refused_all)), (a_this_town, .inr (6, [.ref a_this_town_kinds, .int v_town_home, .int v_town_fine, .int v_town_breath])), (a_this_town_kinds, .inr (1, [.ref a_this_town_kinds_all])), (a_this_town_kinds_all, .inl (cI, 36, .inl g_town_kinds_all))] sz)) 0 0 (va_A [(a_this, .inr (7, [.ref a_this_town, .ref a_this_trial, .ref a_this_kept, .int v_isKept, .ref a_this_letters, .ref a_this_told, .int v_toldCount, .ref a_this_refused, .ref a_this_stroll, .ref a_this_reach, .ref a_this_otherReach, .ref a_this_routes, .ref a_this_talks, .ref a_this_hearers])), (a_this_refused, .inr (1, [.ref a_this_refused_all])), (a_this_refused_all, .inl (cI, 7, .inl g_refused_all)), (a_this_town, .inr (6, [.ref a_this_town_kinds, .int v_town_home, .int v_town_fine, .int v_town_breath])), (a_this_town_kinds, .inr (1, [.ref a_this_town_kinds_all])), (a_this_town_kinds_all, .inl (cI, 36, .inl g_town_kinds_all))] sz) := by
  refine Met.ofW (cc := cX7_set) (maxL := 3) (ret := (some .int)) (by decide) rfl ?_
  intro p e s m args below meth c s₁ B hml hv
  obtain ⟨rfl, hsz, hP, hK, hD0, hZ⟩ := hv
  have hx := B.exec
  have hb := B.bytes
  have hr := B.returns
  have hts := atoms_spec (ws := wsX7_set) B.pre
  have hown : s.vm.findClass RX7 = some m.cls := findClass_of_methodNamed B.named
  have hlocks := B.notSynchronized
  subst hsz
  have hD := hD0.self (sz := s.heap.size)
  generalize hAe : va_A [(a_this, .inr (7, [.ref a_this_town, .ref a_this_trial, .ref a_this_kept, .int v_isKept, .ref a_this_letters, .ref a_this_told, .int v_toldCount, .ref a_this_refused, .ref a_this_stroll, .ref a_this_reach, .ref a_this_otherReach, .ref a_this_routes, .ref a_this_talks, .ref a_this_hearers])), (a_this_refused, .inr (1, [.ref a_this_refused_all])), (a_this_refused_all, .inl (cI, 7, .inl g_refused_all)), (a_this_town, .inr (6, [.ref a_this_town_kinds, .int v_town_home, .int v_town_fine, .int v_town_breath])), (a_this_town_kinds, .inr (1, [.ref a_this_town_kinds_all])), (a_this_town_kinds_all, .inl (cI, 36, .inl g_town_kinds_all))] s.heap.size = A at hD hZ ⊢
  have hA : ∀ q : Nat, s.heap.size ≤ q → A q := fun q h => by rw [← hAe]; exact Or.inr h
  have hS : va_S A s.heap s.heap [] := va_S.rf
  have hP : va_P (dC, dI) vwCl [(a_this, .inr (7, [.ref a_this_town, .ref a_this_trial, .ref a_this_kept, .int v_isKept, .ref a_this_letters, .ref a_this_told, .int v_toldCount, .ref a_this_refused, .ref a_this_stroll, .ref a_this_reach, .ref a_this_otherReach, .ref a_this_routes, .ref a_this_talks, .ref a_this_hearers])), (a_this_refused, .inr (1, [.ref a_this_refused_all])), (a_this_refused_all, .inl (cI, 7, .inl g_refused_all)), (a_this_town, .inr (6, [.ref a_this_town_kinds, .int v_town_home, .int v_town_fine, .int v_town_breath])), (a_this_town_kinds, .inr (1, [.ref a_this_town_kinds_all])), (a_this_town_kinds_all, .inl (cI, 36, .inl g_town_kinds_all))] s.heap := hP
  have hl := lv_entry ([.ref a_this, .int p1, .int p2]) (n := 3) (Nat.le_of_ble_eq_true rfl)
  rw [lg_entry_eq]
  generalize (lg_sl ([.ref a_this, .int p1, .int p2]) ++ List.replicate (3 - (lg_sl ([.ref a_this, .int p1, .int p2])).length) Slot.unset).toArray = ls at hl ⊢
  have hl : lv_has ls 3 [(0, .ref a_this), (1, .int p1), (2, .int p2)] := hl
  have he := hf
  unfold f_X_set at he
  refine lv_iload_n hx hb dX7_set_0 rfl (lv_at hl 1 rfl) ?_
  by_cases c1 : p1 = (0 : Int32)
  · have he := zif_t c1 he
    refine lv_tableIn (off := 27) (tgt := 28) hx hb dX7_set_1 (by rw [c1]; decide) (by rw [c1]; decide) (by rw [c1]; rfl) (by decide) ?_
    refine lv_aload_n hx hb dX7_set_28 rfl (lv_at hl 0 rfl) ?_
    refine lv_iload_n hx hb dX7_set_29 rfl (lv_at hl 2 rfl) ?_
    obtain ⟨r2, g_refused_all_3, v_town_home_4, hf5, he⟩ := zb3_e he
    refine zc_i (wr := []) (ws' := [(a_this, .inr (7, [.ref a_this_town, .ref a_this_trial, .ref a_this_kept, .int v_isKept, .ref a_this_letters, .ref a_this_told, .int v_toldCount, .ref a_this_refused, .ref a_this_stroll, .ref a_this_reach, .ref a_this_otherReach, .ref a_this_routes, .ref a_this_talks, .ref a_this_hearers])), (a_this_refused, .inr (1, [.ref a_this_refused_all])), (a_this_refused_all, .inl (cI, 7, .inl g_refused_all_3)), (a_this_town, .inr (6, [.ref a_this_town_kinds, .int v_town_home_4, .int v_town_fine, .int v_town_breath])), (a_this_town_kinds, .inr (1, [.ref a_this_town_kinds_all])), (a_this_town_kinds_all, .inl (cI, 36, .inl g_town_kinds_all))]) (va_runV (As := [.int p2]) (rest := []) ⟨hx, hb, hml, hown, hts⟩ (k_X_setHome l dC dI cI cZ tt sd a_this a_this_town a_this_trial a_this_kept a_this_letters a_this_told a_this_refused a_this_stroll a_this_reach a_this_otherReach a_this_routes a_this_talks a_this_hearers a_this_refused_all a_this_town_kinds a_this_town_kinds_all s.heap.size v_isKept v_toldCount g_refused_all v_town_home v_town_fine v_town_breath g_town_kinds_all p2 r2 g_refused_all_3 v_town_home_4 hf5) (cwV 1 hts gX7_set_X7_setHome rfl rfl rfl (by decide +kernel) ⟨Nat.le_of_ble_eq_true rfl, Nat.le_of_ble_eq_true rfl⟩) (zpV hP hD hK hS hA hZ [0, 1, 2, 3, 4, 5] rfl rfl 7 0 rfl rfl) rfl rfl hl.1 rfl (lv_room (Nat.le_of_ble_eq_true rfl)) dX7_set_30 ⟨Nat.zero_le _, Nat.zero_le _⟩) hP hD hS hA [0, 1, 2, 3, 4, 5] [] [0, 1, 2, 3, 4, 5] rfl rfl rfl (by decide) rfl rfl rfl (fun H locs hP hD hS => ?_)
    cases he
    exact W.iret hx hb hr (fun t ht hW => ⟨⟨_, (), rfl, rfl, by rw [ht]; exact hP, va_K.moved hW.alike hK, hD⟩, hS.F ht⟩) hS.2.2 dX7_set_33
  have he := zif_f c1 he
  by_cases c6 : p1 = (1 : Int32)
  · have he := zif_t c6 he
    refine lv_tableIn (off := 33) (tgt := 34) hx hb dX7_set_1 (by rw [c6]; decide) (by rw [c6]; decide) (by rw [c6]; rfl) (by decide) ?_
    refine lv_aload_n hx hb dX7_set_34 rfl (lv_at hl 0 rfl) ?_
    refine lv_iload_n hx hb dX7_set_35 rfl (lv_at hl 2 rfl) ?_
    obtain ⟨r7, g_refused_all_8, v_town_fine_9, hf10, he⟩ := zb3_e he
    refine zc_i (wr := [(a_this_town_kinds, .inr (1, [.ref a_this_town_kinds_all])), (a_this_town_kinds_all, .inl (cI, 36, .inl g_town_kinds_all))]) (ws' := [(a_this, .inr (7, [.ref a_this_town, .ref a_this_trial, .ref a_this_kept, .int v_isKept, .ref a_this_letters, .ref a_this_told, .int v_toldCount, .ref a_this_refused, .ref a_this_stroll, .ref a_this_reach, .ref a_this_otherReach, .ref a_this_routes, .ref a_this_talks, .ref a_this_hearers])), (a_this_refused, .inr (1, [.ref a_this_refused_all])), (a_this_refused_all, .inl (cI, 7, .inl g_refused_all_8)), (a_this_town, .inr (6, [.ref a_this_town_kinds, .int v_town_home, .int v_town_fine_9, .int v_town_breath])), (a_this_town_kinds, .inr (1, [.ref a_this_town_kinds_all])), (a_this_town_kinds_all, .inl (cI, 36, .inl g_town_kinds_all))]) (va_runV (As := [.int p2]) (rest := []) ⟨hx, hb, hml, hown, hts⟩ (k_X_setFine l dC dI cI cZ tt sd a_this a_this_town a_this_trial a_this_kept a_this_letters a_this_told a_this_refused a_this_stroll a_this_reach a_this_otherReach a_this_routes a_this_talks a_this_hearers a_this_refused_all a_this_town_kinds s.heap.size v_isKept v_toldCount g_refused_all v_town_home v_town_fine v_town_breath p2 r7 g_refused_all_8 v_town_fine_9 hf10) (cwV 1 hts gX7_set_X7_setFine rfl rfl rfl (by decide +kernel) ⟨Nat.le_of_ble_eq_true rfl, Nat.le_of_ble_eq_true rfl⟩) (zpV hP hD hK hS hA hZ [0, 1, 2, 3] rfl rfl 7 0 rfl rfl) rfl rfl hl.1 rfl (lv_room (Nat.le_of_ble_eq_true rfl)) dX7_set_36 ⟨Nat.zero_le _, Nat.zero_le _⟩) hP hD hS hA [0, 1, 2, 3] [4, 5] [2, 3, 4, 5, 0, 1] rfl rfl rfl (by decide) rfl rfl rfl (fun H locs hP hD hS => ?_)
    cases he
    exact W.iret hx hb hr (fun t ht hW => ⟨⟨_, (), rfl, rfl, by rw [ht]; exact hP, va_K.moved hW.alike hK, hD⟩, hS.F ht⟩) hS.2.2 dX7_set_39
  have he := zif_f c6 he
  by_cases c11 : p1 = (2 : Int32)
  · have he := zif_t c11 he
    refine lv_tableIn (off := 39) (tgt := 40) hx hb dX7_set_1 (by rw [c11]; decide) (by rw [c11]; decide) (by rw [c11]; rfl) (by decide) ?_
    refine lv_aload_n hx hb dX7_set_40 rfl (lv_at hl 0 rfl) ?_
    refine lv_iload_n hx hb dX7_set_41 rfl (lv_at hl 2 rfl) ?_
    obtain ⟨r12, g_refused_all_13, v_town_breath_14, hf15, he⟩ := zb3_e he
    refine zc_i (wr := [(a_this_town_kinds, .inr (1, [.ref a_this_town_kinds_all])), (a_this_town_kinds_all, .inl (cI, 36, .inl g_town_kinds_all))]) (ws' := [(a_this, .inr (7, [.ref a_this_town, .ref a_this_trial, .ref a_this_kept, .int v_isKept, .ref a_this_letters, .ref a_this_told, .int v_toldCount, .ref a_this_refused, .ref a_this_stroll, .ref a_this_reach, .ref a_this_otherReach, .ref a_this_routes, .ref a_this_talks, .ref a_this_hearers])), (a_this_refused, .inr (1, [.ref a_this_refused_all])), (a_this_refused_all, .inl (cI, 7, .inl g_refused_all_13)), (a_this_town, .inr (6, [.ref a_this_town_kinds, .int v_town_home, .int v_town_fine, .int v_town_breath_14])), (a_this_town_kinds, .inr (1, [.ref a_this_town_kinds_all])), (a_this_town_kinds_all, .inl (cI, 36, .inl g_town_kinds_all))]) (va_runV (As := [.int p2]) (rest := []) ⟨hx, hb, hml, hown, hts⟩ (k_X_setBreath l dC dI cI cZ tt sd a_this a_this_town a_this_trial a_this_kept a_this_letters a_this_told a_this_refused a_this_stroll a_this_reach a_this_otherReach a_this_routes a_this_talks a_this_hearers a_this_refused_all a_this_town_kinds s.heap.size v_isKept v_toldCount g_refused_all v_town_home v_town_fine v_town_breath p2 r12 g_refused_all_13 v_town_breath_14 hf15) (cwV 1 hts gX7_set_X7_setBreath rfl rfl rfl (by decide +kernel) ⟨Nat.le_of_ble_eq_true rfl, Nat.le_of_ble_eq_true rfl⟩) (zpV hP hD hK hS hA hZ [0, 1, 2, 3] rfl rfl 7 0 rfl rfl) rfl rfl hl.1 rfl (lv_room (Nat.le_of_ble_eq_true rfl)) dX7_set_42 ⟨Nat.zero_le _, Nat.zero_le _⟩) hP hD hS hA [0, 1, 2, 3] [4, 5] [2, 3, 4, 5, 0, 1] rfl rfl rfl (by decide) rfl rfl rfl (fun H locs hP hD hS => ?_)
    cases he
    exact W.iret hx hb hr (fun t ht hW => ⟨⟨_, (), rfl, rfl, by rw [ht]; exact hP, va_K.moved hW.alike hK, hD⟩, hS.F ht⟩) hS.2.2 dX7_set_45
  have he := zif_f c11 he
  refine lv_tableOut (tgt := 46) hx hb dX7_set_1 (by have n0 := lv_neT (a := 0) c1 (by decide); have n1 := lv_neT (a := 1) c6 (by decide); have n2 := lv_neT (a := 2) c11 (by decide); omega) (by decide) ?_
  refine lv_aload_n hx hb dX7_set_46 rfl (lv_at hl 0 rfl) ?_
  refine lv_bipush (v := (-2 : Int32)) hx hb dX7_set_47 (by decide) ?_
  obtain ⟨r16, g_refused_all_17, hf18, he⟩ := zb2_e he
  refine zc_i (wr := [(a_this_town, .inr (6, [.ref a_this_town_kinds, .int v_town_home, .int v_town_fine, .int v_town_breath])), (a_this_town_kinds, .inr (1, [.ref a_this_town_kinds_all])), (a_this_town_kinds_all, .inl (cI, 36, .inl g_town_kinds_all))]) (ws' := [(a_this, .inr (7, [.ref a_this_town, .ref a_this_trial, .ref a_this_kept, .int v_isKept, .ref a_this_letters, .ref a_this_told, .int v_toldCount, .ref a_this_refused, .ref a_this_stroll, .ref a_this_reach, .ref a_this_otherReach, .ref a_this_routes, .ref a_this_talks, .ref a_this_hearers])), (a_this_refused, .inr (1, [.ref a_this_refused_all])), (a_this_refused_all, .inl (cI, 7, .inl g_refused_all_17)), (a_this_town, .inr (6, [.ref a_this_town_kinds, .int v_town_home, .int v_town_fine, .int v_town_breath])), (a_this_town_kinds, .inr (1, [.ref a_this_town_kinds_all])), (a_this_town_kinds_all, .inl (cI, 36, .inl g_town_kinds_all))]) (va_runV (As := [.int (-2 : Int32)]) (rest := []) ⟨hx, hb, hml, hown, hts⟩ (k_X_refuse l dC dI cI cZ tt sd a_this a_this_town a_this_trial a_this_kept a_this_letters a_this_told a_this_refused a_this_stroll a_this_reach a_this_otherReach a_this_routes a_this_talks a_this_hearers a_this_refused_all s.heap.size v_isKept v_toldCount g_refused_all (-2 : Int32) r16 g_refused_all_17 hf18) (cwV 1 hts gX7_set_X7_refuse rfl rfl rfl (by decide +kernel) ⟨Nat.le_of_ble_eq_true rfl, Nat.le_of_ble_eq_true rfl⟩) (zpV hP hD hK hS hA hZ [0, 1, 2] rfl rfl 7 0 rfl rfl) rfl rfl hl.1 rfl (lv_room (Nat.le_of_ble_eq_true rfl)) dX7_set_49 ⟨Nat.zero_le _, Nat.zero_le _⟩) hP hD hS hA [0, 1, 2] [3, 4, 5] [3, 4, 5, 0, 1, 2] rfl rfl rfl (by decide) rfl rfl rfl (fun H locs hP hD hS => ?_)
  cases he
  exact W.iret hx hb hr (fun t ht hW => ⟨⟨_, (), rfl, rfl, by rw [ht]; exact hP, va_K.moved hW.alike hK, hD⟩, hS.F ht⟩) hS.2.2 dX7_set_52
set_option maxHeartbeats 4000000 in
set_option maxRecDepth 100000 in
theorem k_Town_apart (l : Launch) (dC : Nat → ClassId) (dI : Nat → Nat → Nat) (cI : ClassId) (cZ : ClassId) (tt : Nat → Nat) (sd : Nat → Nat) (sz : Nat) (p0 : Int32) (p1 : Int32) (r0 : Int32) (hf : f_Town_apart p0 p1 = some (r0)) : Met l yX6_apart wsX6_apart ({ frames := 1, cells := 0, slots := 0, locals := 32 }) (zPre (dC, dI) vwCl [(cI, .int), (cZ, .boolean)] tt sd [.int p0, .int p1] [] sz) (zQi (dC, dI) vwCl [(cI, .int), (cZ, .boolean)] r0 [] (va_A [] sz)) 0 0 (va_A [] sz) := by
  refine Met.ofW (cc := cX6_apart) (maxL := 2) (ret := (some .int)) (by decide) rfl ?_
  intro p e s m args below meth c s₁ B hml hv
  obtain ⟨rfl, hsz, hP, hK, hD0, hZ⟩ := hv
  have hx := B.exec
  have hb := B.bytes
  have hr := B.returns
  have hts := atoms_spec (ws := wsX6_apart) B.pre
  have hown : s.vm.findClass RX6 = some m.cls := findClass_of_methodNamed B.named
  have hlocks := B.notSynchronized
  subst hsz
  have hD := hD0.self (sz := s.heap.size)
  generalize hAe : va_A [] s.heap.size = A at hD hZ ⊢
  have hA : ∀ q : Nat, s.heap.size ≤ q → A q := fun q h => by rw [← hAe]; exact Or.inr h
  have hS : va_S A s.heap s.heap [] := va_S.rf
  have hP : va_P (dC, dI) vwCl [] s.heap := hP
  have hl := lv_entry ([.int p0, .int p1]) (n := 2) (Nat.le_of_ble_eq_true rfl)
  rw [lg_entry_eq]
  generalize (lg_sl ([.int p0, .int p1]) ++ List.replicate (2 - (lg_sl ([.int p0, .int p1])).length) Slot.unset).toArray = ls at hl ⊢
  have hl : lv_has ls 2 [(0, .int p0), (1, .int p1)] := hl
  have he := hf
  unfold f_Town_apart at he
  refine lv_iload_n hx hb dX6_apart_0 rfl (lv_at hl 0 rfl) ?_
  refine lv_bipush (v := (6 : Int32)) hx hb dX6_apart_1 (by decide) ?_
  refine lv_idiv hx hb dX6_apart_3 (by decide) ?_
  refine lv_iload_n hx hb dX6_apart_4 rfl (lv_at hl 1 rfl) ?_
  refine lv_bipush (v := (6 : Int32)) hx hb dX6_apart_5 (by decide) ?_
  refine lv_idiv hx hb dX6_apart_7 (by decide) ?_
  refine lv_isub hx hb dX6_apart_8 ?_
  refine va_mabs hx hb (by rw [hml]; exact hl.1.symm) hown (hts (.methodLink RX6 69 Lib.Math.abs.name) (by decide +kernel)) (hts (.static Lib.Math.abs.name) (by decide +kernel)) (hts (.initialized "java/lang/Math") (by decide +kernel)) (hts (.code Lib.Math.abs.name Lib.Math.abs.code 1 (some .int)) (by decide +kernel)) (Nat.le_of_ble_eq_true rfl) (Nat.le_of_ble_eq_true rfl) (Nat.zero_le _) (Nat.zero_le _) dX6_apart_9 ?_
  refine lv_topi (fun x1 ex1 => ?_)
  have he := zn_e (show x1 = zabs ((p0 / (6 : Int32)) - (p1 / (6 : Int32))) from ex1) he
  refine lv_iload_n hx hb dX6_apart_12 rfl (lv_at hl 0 rfl) ?_
  refine lv_bipush (v := (6 : Int32)) hx hb dX6_apart_13 (by decide) ?_
  refine lv_irem hx hb dX6_apart_15 (by decide) ?_
  refine lv_iload_n hx hb dX6_apart_16 rfl (lv_at hl 1 rfl) ?_
  refine lv_bipush (v := (6 : Int32)) hx hb dX6_apart_17 (by decide) ?_
  refine lv_irem hx hb dX6_apart_19 (by decide) ?_
  refine lv_isub hx hb dX6_apart_20 ?_
  refine va_mabs hx hb (by rw [hml]; exact hl.1.symm) hown (hts (.methodLink RX6 69 Lib.Math.abs.name) (by decide +kernel)) (hts (.static Lib.Math.abs.name) (by decide +kernel)) (hts (.initialized "java/lang/Math") (by decide +kernel)) (hts (.code Lib.Math.abs.name Lib.Math.abs.code 1 (some .int)) (by decide +kernel)) (Nat.le_of_ble_eq_true rfl) (Nat.le_of_ble_eq_true rfl) (Nat.zero_le _) (Nat.zero_le _) dX6_apart_21 ?_
  refine lv_topi (fun x2 ex2 => ?_)
  have he := zn_e (show x2 = zabs ((zrem p0 (6 : Int32)) - (zrem p1 (6 : Int32))) from ex2) he
  refine lv_iadd hx hb dX6_apart_24 ?_
  cases he
  exact W.iret hx hb hr (fun t ht hW => ⟨⟨_, (), rfl, rfl, by rw [ht]; exact hP, va_K.moved hW.alike hK, hD⟩, hS.F ht⟩) hS.2.2 dX6_apart_25
set_option maxHeartbeats 4000000 in
set_option maxRecDepth 100000 in
theorem k_Town_heardBy (l : Launch) (dC : Nat → ClassId) (dI : Nat → Nat → Nat) (cI : ClassId) (cZ : ClassId) (tt : Nat → Nat) (sd : Nat → Nat) (a_this : Nat) (a_this_kinds : Nat) (a_this_kinds_all : Nat) (sz : Nat) (v_home : Int32) (v_fine : Int32) (v_breath : Int32) (g_kinds_all : Nat → Int32) (p1 : Int32) (r0 : Int32) (hf : f_Town_heardBy g_kinds_all p1 = some (r0)) : Met l yX6_heardBy wsX6_heardBy ({ frames := 2, cells := 0, slots := 0, locals := 53 }) (zPre (dC, dI) vwCl [(cI, .int), (cZ, .boolean)] tt sd [.ref a_this, .int p1] [(a_this, .inr (6, [.ref a_this_kinds, .int v_home, .int v_fine, .int v_breath])), (a_this_kinds, .inr (1, [.ref a_this_kinds_all])), (a_this_kinds_all, .inl (cI, 36, .inl g_kinds_all))] sz) (zQi (dC, dI) vwCl [(cI, .int), (cZ, .boolean)] r0 [(a_this, .inr (6, [.ref a_this_kinds, .int v_home, .int v_fine, .int v_breath])), (a_this_kinds, .inr (1, [.ref a_this_kinds_all])), (a_this_kinds_all, .inl (cI, 36, .inl g_kinds_all))] (va_A [(a_this, .inr (6, [.ref a_this_kinds, .int v_home, .int v_fine, .int v_breath])), (a_this_kinds, .inr (1, [.ref a_this_kinds_all])), (a_this_kinds_all, .inl (cI, 36, .inl g_kinds_all))] sz)) 0 0 (va_A [(a_this, .inr (6, [.ref a_this_kinds, .int v_home, .int v_fine, .int v_breath])), (a_this_kinds, .inr (1, [.ref a_this_kinds_all])), (a_this_kinds_all, .inl (cI, 36, .inl g_kinds_all))] sz) := by
  refine Met.ofW (cc := cX6_heardBy) (maxL := 4) (ret := (some .int)) (by decide) rfl ?_
  intro p e s m args below meth c s₁ B hml hv
  obtain ⟨rfl, hsz, hP, hK, hD0, hZ⟩ := hv
  have hx := B.exec
  have hb := B.bytes
  have hr := B.returns
  have hts := atoms_spec (ws := wsX6_heardBy) B.pre
  have hown : s.vm.findClass RX6 = some m.cls := findClass_of_methodNamed B.named
  have hlocks := B.notSynchronized
  subst hsz
  have hD := hD0.self (sz := s.heap.size)
  generalize hAe : va_A [(a_this, .inr (6, [.ref a_this_kinds, .int v_home, .int v_fine, .int v_breath])), (a_this_kinds, .inr (1, [.ref a_this_kinds_all])), (a_this_kinds_all, .inl (cI, 36, .inl g_kinds_all))] s.heap.size = A at hD hZ ⊢
  have hA : ∀ q : Nat, s.heap.size ≤ q → A q := fun q h => by rw [← hAe]; exact Or.inr h
  have hS : va_S A s.heap s.heap [] := va_S.rf
  have hP : va_P (dC, dI) vwCl [(a_this, .inr (6, [.ref a_this_kinds, .int v_home, .int v_fine, .int v_breath])), (a_this_kinds, .inr (1, [.ref a_this_kinds_all])), (a_this_kinds_all, .inl (cI, 36, .inl g_kinds_all))] s.heap := hP
  have hl := lv_entry ([.ref a_this, .int p1]) (n := 4) (Nat.le_of_ble_eq_true rfl)
  rw [lg_entry_eq]
  generalize (lg_sl ([.ref a_this, .int p1]) ++ List.replicate (4 - (lg_sl ([.ref a_this, .int p1])).length) Slot.unset).toArray = ls at hl ⊢
  have hl : lv_has ls 4 [(0, .ref a_this), (1, .int p1)] := hl
  have he := hf
  unfold f_Town_heardBy at he
  refine zstart (D := (dC, dI)) (cl := vwCl) (A := A) (nL := 4) (fun WW hWW => ?_)
  refine lv_iconst (v := (0 : Int32)) hx hb dX6_heardBy_0 (by decide) ?_
  refine lv_istore_n (lv' := [(2, .int (0 : Int32)), (0, .ref a_this), (1, .int p1)]) hx hb dX6_heardBy_1 rfl hl (by decide) rfl (fun ls hl => ?_)
  refine lv_iconst (v := (0 : Int32)) hx hb dX6_heardBy_2 (by decide) ?_
  refine lv_istore_n (lv' := [(3, .int (0 : Int32)), (2, .int (0 : Int32)), (0, .ref a_this), (1, .int p1)]) hx hb dX6_heardBy_3 rfl hl (by decide) rfl (fun ls hl => ?_)
  refine (hWW _ _ _ _).mp (zl2_w he (fun (l2_1 : Int32) (l3_2 : Int32) => WW [(a_this, .inr (6, [.ref a_this_kinds, .int v_home, .int v_fine, .int v_breath])), (a_this_kinds, .inr (1, [.ref a_this_kinds_all])), (a_this_kinds_all, .inl (cI, 36, .inl g_kinds_all))] [(0, .ref a_this), (1, .int p1), (2, .int l2_1), (3, .int l3_2)] 4 []) (fun l2_1 l3_2 again3 hagain3 he => (hWW _ _ _ _).mpr (fun H locs ls hP hD hS hl => ?_))) _ _ _ hP hD hS (lv_sub hl [2, 3, 1, 0] rfl)
  refine lv_iload_n hx hb dX6_heardBy_4 rfl (lv_at hl 3 rfl) ?_
  refine lv_bipush (v := (36 : Int32)) hx hb dX6_heardBy_5 (by decide) ?_
  refine lv_icmp_ge (tgt := 37) hx hb dX6_heardBy_7 (by decide) (fun c4 => ?_) (fun c4 => ?_)
  · have he := zif_t c4 he
    refine lv_iload_n hx hb dX6_heardBy_37 rfl (lv_at hl 2 rfl) ?_
    cases he
    exact W.iret hx hb hr (fun t ht hW => ⟨⟨_, (), rfl, rfl, by rw [ht]; exact hP, va_K.moved hW.alike hK, hD⟩, hS.F ht⟩) hS.2.2 dX6_heardBy_38
  · have he := zif_f c4 he
    refine lv_iload_n hx hb dX6_heardBy_10 rfl (lv_at hl 2 rfl) ?_
    refine lv_iload_n hx hb dX6_heardBy_11 rfl (lv_at hl 3 rfl) ?_
    refine lv_iload_n hx hb dX6_heardBy_12 rfl (lv_at hl 1 rfl) ?_
    obtain ⟨r5, hf6, he⟩ := zb1_e he
    refine zc_i (wr := [(a_this, .inr (6, [.ref a_this_kinds, .int v_home, .int v_fine, .int v_breath])), (a_this_kinds, .inr (1, [.ref a_this_kinds_all])), (a_this_kinds_all, .inl (cI, 36, .inl g_kinds_all))]) (ws' := [(a_this, .inr (6, [.ref a_this_kinds, .int v_home, .int v_fine, .int v_breath])), (a_this_kinds, .inr (1, [.ref a_this_kinds_all])), (a_this_kinds_all, .inl (cI, 36, .inl g_kinds_all))]) (va_runS (As := [.int l3_2, .int p1]) (rest := [.int l2_1]) ⟨hx, hb, hml, hown, hts⟩ (k_Town_apart l dC dI cI cZ tt sd H.size l3_2 p1 r5 hf6) (va_cwS 2 hts gX6_heardBy_X6_apart rfl rfl rfl (by decide +kernel) ⟨Nat.le_of_ble_eq_true rfl, Nat.le_of_ble_eq_true rfl⟩) (zpS hP hD hK hS hA hZ [] rfl rfl) rfl rfl hl.1 rfl (lv_room (Nat.le_of_ble_eq_true rfl)) dX6_heardBy_13 ⟨Nat.zero_le _, Nat.zero_le _⟩) hP hD hS hA [] [0, 1, 2] [0, 1, 2] rfl rfl rfl (by decide) rfl rfl rfl (fun H locs hP hD hS => ?_)
    refine lv_aload_n hx hb dX6_heardBy_16 rfl (lv_at hl 0 rfl) ?_
    refine lv_iload_n hx hb dX6_heardBy_17 rfl (lv_at hl 3 rfl) ?_
    obtain ⟨r7, hf8, he⟩ := zb1_e he
    refine zc_i (wr := []) (ws' := [(a_this, .inr (6, [.ref a_this_kinds, .int v_home, .int v_fine, .int v_breath])), (a_this_kinds, .inr (1, [.ref a_this_kinds_all])), (a_this_kinds_all, .inl (cI, 36, .inl g_kinds_all))]) (va_runV (As := [.int l3_2]) (rest := [.int r5, .int l2_1]) ⟨hx, hb, hml, hown, hts⟩ (k_Town_hearing l dC dI cI cZ tt sd a_this a_this_kinds a_this_kinds_all H.size v_home v_fine v_breath g_kinds_all l3_2 r7 hf8) (cwV 1 hts gX6_heardBy_X6_hearing rfl rfl rfl (by decide +kernel) ⟨Nat.le_of_ble_eq_true rfl, Nat.le_of_ble_eq_true rfl⟩) (zpV hP hD hK hS hA hZ [0, 1, 2] rfl rfl 6 0 rfl rfl) rfl rfl hl.1 rfl (lv_room (Nat.le_of_ble_eq_true rfl)) dX6_heardBy_18 ⟨Nat.zero_le _, Nat.zero_le _⟩) hP hD hS hA [0, 1, 2] [] [0, 1, 2] rfl rfl rfl (by decide) rfl rfl rfl (fun H locs hP hD hS => ?_)
    refine zj1_w he (fun (s9 : Int32) => WW [(a_this, .inr (6, [.ref a_this_kinds, .int v_home, .int v_fine, .int v_breath])), (a_this_kinds, .inr (1, [.ref a_this_kinds_all])), (a_this_kinds_all, .inl (cI, 36, .inl g_kinds_all))] [(0, .ref a_this), (1, .int p1), (3, .int l3_2)] 29 [.int s9, .int l2_1]) (fun s9 he => (hWW _ _ _ _).mpr (fun H locs ls hP hD hS hl => ?_)) (fun k12 hk12 he => ?_)
    · refine lv_iadd hx hb dX6_heardBy_29 ?_
      refine lv_topi (fun x10 ex10 => ?_)
      have he := zn_e ex10 he
      refine lv_istore_n (lv' := [(2, .int x10), (0, .ref a_this), (1, .int p1), (3, .int l3_2)]) hx hb dX6_heardBy_30 rfl hl (by decide) rfl (fun ls hl => ?_)
      obtain ⟨x11, ex11⟩ : ∃ y : Int32, y = l3_2 + (1 : Int32) := ⟨_, rfl⟩
      have he := zn_e ex11 he
      refine lv_iinc (v := x11) (lv' := [(3, .int x11), (2, .int x10), (0, .ref a_this), (1, .int p1)]) hx hb dX6_heardBy_31 hl (k := 3) rfl (by rw [ex11]; rfl) (by decide) rfl (fun ls hl => ?_)
      refine lv_goto (tgt := 4) hx hb dX6_heardBy_34 (by decide) ?_
      exact (hWW _ _ _ _).mp (hagain3 x10 x11 he) _ _ _ hP hD hS (lv_sub hl [2, 3, 1, 0] rfl)
    refine lv_icmp_gt (tgt := 28) hx hb dX6_heardBy_21 (by decide) (fun c13 => ?_) (fun c13 => ?_)
    · have he := zif_t c13 he
      refine lv_iconst (v := (0 : Int32)) hx hb dX6_heardBy_28 (by decide) ?_
      exact (hWW _ _ _ _).mp (hk12 (0 : Int32) he) _ _ _ hP hD hS (lv_sub hl [0, 1, 3] rfl)
    · have he := zif_f c13 he
      refine lv_iconst (v := (1 : Int32)) hx hb dX6_heardBy_24 (by decide) ?_
      refine lv_goto (tgt := 29) hx hb dX6_heardBy_25 (by decide) ?_
      exact (hWW _ _ _ _).mp (hk12 (1 : Int32) he) _ _ _ hP hD hS (lv_sub hl [0, 1, 3] rfl)
set_option maxHeartbeats 4000000 in
set_option maxRecDepth 100000 in
theorem k_X_heard (l : Launch) (dC : Nat → ClassId) (dI : Nat → Nat → Nat) (cI : ClassId) (cZ : ClassId) (tt : Nat → Nat) (sd : Nat → Nat) (a_this : Nat) (a_this_town : Nat) (a_this_trial : Nat) (a_this_kept : Nat) (a_this_letters : Nat) (a_this_told : Nat) (a_this_refused : Nat) (a_this_stroll : Nat) (a_this_reach : Nat) (a_this_otherReach : Nat) (a_this_routes : Nat) (a_this_talks : Nat) (a_this_hearers : Nat) (a_this_refused_all : Nat) (a_this_town_kinds : Nat) (a_this_town_kinds_all : Nat) (sz : Nat) (v_isKept : Int32) (v_toldCount : Int32) (g_refused_all : Nat → Int32) (v_town_home : Int32) (v_town_fine : Int32) (v_town_breath : Int32) (g_town_kinds_all : Nat → Int32) (p1 : Int32) (r0 : Int32) (w0 : Nat → Int32) (hf : f_X_heard g_refused_all g_town_kinds_all p1 = some (r0, w0)) : Met l yX7_heard wsX7_heard ({ frames := 3, cells := 0, slots := 0, locals := 76 }) (zPre (dC, dI) vwCl [(cI, .int), (cZ, .boolean)] tt sd [.ref a_this, .int p1] [(a_this, .inr (7, [.ref a_this_town, .ref a_this_trial, .ref a_this_kept, .int v_isKept, .ref a_this_letters, .ref a_this_told, .int v_toldCount, .ref a_this_refused, .ref a_this_stroll, .ref a_this_reach, .ref a_this_otherReach, .ref a_this_routes, .ref a_this_talks, .ref a_this_hearers])), (a_this_refused, .inr (1, [.ref a_this_refused_all])), (a_this_refused_all, .inl (cI, 7, .inl g_refused_all)), (a_this_town, .inr (6, [.ref a_this_town_kinds, .int v_town_home, .int v_town_fine, .int v_town_breath])), (a_this_town_kinds, .inr (1, [.ref a_this_town_kinds_all])), (a_this_town_kinds_all, .inl (cI, 36, .inl g_town_kinds_all))] sz) (zQi (dC, dI) vwCl [(cI, .int), (cZ, .boolean)] r0 [(a_this, .inr (7, [.ref a_this_town, .ref a_this_trial, .ref a_this_kept, .int v_isKept, .ref a_this_letters, .ref a_this_told, .int v_toldCount, .ref a_this_refused, .ref a_this_stroll, .ref a_this_reach, .ref a_this_otherReach, .ref a_this_routes, .ref a_this_talks, .ref a_this_hearers])), (a_this_refused, .inr (1, [.ref a_this_refused_all])), (a_this_refused_all, .inl (cI, 7, .inl w0)), (a_this_town, .inr (6, [.ref a_this_town_kinds, .int v_town_home, .int v_town_fine, .int v_town_breath])), (a_this_town_kinds, .inr (1, [.ref a_this_town_kinds_all])), (a_this_town_kinds_all, .inl (cI, 36, .inl g_town_kinds_all))] (va_A [(a_this, .inr (7, [.ref a_this_town, .ref a_this_trial, .ref a_this_kept, .int v_isKept, .ref a_this_letters, .ref a_this_told, .int v_toldCount, .ref a_this_refused, .ref a_this_stroll, .ref a_this_reach, .ref a_this_otherReach, .ref a_this_routes, .ref a_this_talks, .ref a_this_hearers])), (a_this_refused, .inr (1, [.ref a_this_refused_all])), (a_this_refused_all, .inl (cI, 7, .inl g_refused_all)), (a_this_town, .inr (6, [.ref a_this_town_kinds, .int v_town_home, .int v_town_fine, .int v_town_breath])), (a_this_town_kinds, .inr (1, [.ref a_this_town_kinds_all])), (a_this_town_kinds_all, .inl (cI, 36, .inl g_town_kinds_all))] sz)) 0 0 (va_A [(a_this, .inr (7, [.ref a_this_town, .ref a_this_trial, .ref a_this_kept, .int v_isKept, .ref a_this_letters, .ref a_this_told, .int v_toldCount, .ref a_this_refused, .ref a_this_stroll, .ref a_this_reach, .ref a_this_otherReach, .ref a_this_routes, .ref a_this_talks, .ref a_this_hearers])), (a_this_refused, .inr (1, [.ref a_this_refused_all])), (a_this_refused_all, .inl (cI, 7, .inl g_refused_all)), (a_this_town, .inr (6, [.ref a_this_town_kinds, .int v_town_home, .int v_town_fine, .int v_town_breath])), (a_this_town_kinds, .inr (1, [.ref a_this_town_kinds_all])), (a_this_town_kinds_all, .inl (cI, 36, .inl g_town_kinds_all))] sz) := by
  refine Met.ofW (cc := cX7_heard) (maxL := 2) (ret := (some .int)) (by decide) rfl ?_
  intro p e s m args below meth c s₁ B hml hv
  obtain ⟨rfl, hsz, hP, hK, hD0, hZ⟩ := hv
  have hx := B.exec
  have hb := B.bytes
  have hr := B.returns
  have hts := atoms_spec (ws := wsX7_heard) B.pre
  have hown : s.vm.findClass RX7 = some m.cls := findClass_of_methodNamed B.named
  have hlocks := B.notSynchronized
  subst hsz
  have hD := hD0.self (sz := s.heap.size)
  generalize hAe : va_A [(a_this, .inr (7, [.ref a_this_town, .ref a_this_trial, .ref a_this_kept, .int v_isKept, .ref a_this_letters, .ref a_this_told, .int v_toldCount, .ref a_this_refused, .ref a_this_stroll, .ref a_this_reach, .ref a_this_otherReach, .ref a_this_routes, .ref a_this_talks, .ref a_this_hearers])), (a_this_refused, .inr (1, [.ref a_this_refused_all])), (a_this_refused_all, .inl (cI, 7, .inl g_refused_all)), (a_this_town, .inr (6, [.ref a_this_town_kinds, .int v_town_home, .int v_town_fine, .int v_town_breath])), (a_this_town_kinds, .inr (1, [.ref a_this_town_kinds_all])), (a_this_town_kinds_all, .inl (cI, 36, .inl g_town_kinds_all))] s.heap.size = A at hD hZ ⊢
  have hA : ∀ q : Nat, s.heap.size ≤ q → A q := fun q h => by rw [← hAe]; exact Or.inr h
  have hS : va_S A s.heap s.heap [] := va_S.rf
  have hP : va_P (dC, dI) vwCl [(a_this, .inr (7, [.ref a_this_town, .ref a_this_trial, .ref a_this_kept, .int v_isKept, .ref a_this_letters, .ref a_this_told, .int v_toldCount, .ref a_this_refused, .ref a_this_stroll, .ref a_this_reach, .ref a_this_otherReach, .ref a_this_routes, .ref a_this_talks, .ref a_this_hearers])), (a_this_refused, .inr (1, [.ref a_this_refused_all])), (a_this_refused_all, .inl (cI, 7, .inl g_refused_all)), (a_this_town, .inr (6, [.ref a_this_town_kinds, .int v_town_home, .int v_town_fine, .int v_town_breath])), (a_this_town_kinds, .inr (1, [.ref a_this_town_kinds_all])), (a_this_town_kinds_all, .inl (cI, 36, .inl g_town_kinds_all))] s.heap := hP
  have hl := lv_entry ([.ref a_this, .int p1]) (n := 2) (Nat.le_of_ble_eq_true rfl)
  rw [lg_entry_eq]
  generalize (lg_sl ([.ref a_this, .int p1]) ++ List.replicate (2 - (lg_sl ([.ref a_this, .int p1])).length) Slot.unset).toArray = ls at hl ⊢
  have hl : lv_has ls 2 [(0, .ref a_this), (1, .int p1)] := hl
  have he := hf
  unfold f_X_heard at he
  refine lv_iload_n hx hb dX7_heard_0 rfl (lv_at hl 1 rfl) ?_
  obtain ⟨r1, hf2, he⟩ := zb1_e he
  refine zc_i (wr := [(a_this, .inr (7, [.ref a_this_town, .ref a_this_trial, .ref a_this_kept, .int v_isKept, .ref a_this_letters, .ref a_this_told, .int v_toldCount, .ref a_this_refused, .ref a_this_stroll, .ref a_this_reach, .ref a_this_otherReach, .ref a_this_routes, .ref a_this_talks, .ref a_this_hearers])), (a_this_refused, .inr (1, [.ref a_this_refused_all])), (a_this_refused_all, .inl (cI, 7, .inl g_refused_all)), (a_this_town, .inr (6, [.ref a_this_town_kinds, .int v_town_home, .int v_town_fine, .int v_town_breath])), (a_this_town_kinds, .inr (1, [.ref a_this_town_kinds_all])), (a_this_town_kinds_all, .inl (cI, 36, .inl g_town_kinds_all))]) (ws' := [(a_this, .inr (7, [.ref a_this_town, .ref a_this_trial, .ref a_this_kept, .int v_isKept, .ref a_this_letters, .ref a_this_told, .int v_toldCount, .ref a_this_refused, .ref a_this_stroll, .ref a_this_reach, .ref a_this_otherReach, .ref a_this_routes, .ref a_this_talks, .ref a_this_hearers])), (a_this_refused, .inr (1, [.ref a_this_refused_all])), (a_this_refused_all, .inl (cI, 7, .inl g_refused_all)), (a_this_town, .inr (6, [.ref a_this_town_kinds, .int v_town_home, .int v_town_fine, .int v_town_breath])), (a_this_town_kinds, .inr (1, [.ref a_this_town_kinds_all])), (a_this_town_kinds_all, .inl (cI, 36, .inl g_town_kinds_all))]) (va_runS (As := [.int p1]) (rest := []) ⟨hx, hb, hml, hown, hts⟩ (k_X_isSquare l dC dI cI cZ tt sd s.heap.size p1 r1 hf2) (va_cwS 1 hts gX7_heard_X7_isSquare rfl rfl rfl (by decide +kernel) ⟨Nat.le_of_ble_eq_true rfl, Nat.le_of_ble_eq_true rfl⟩) (zpS hP hD hK hS hA hZ [] rfl rfl) rfl rfl hl.1 rfl (lv_room (Nat.le_of_ble_eq_true rfl)) dX7_heard_1 ⟨Nat.zero_le _, Nat.zero_le _⟩) hP hD hS hA [] [0, 1, 2, 3, 4, 5] [0, 1, 2, 3, 4, 5] rfl rfl rfl (by decide) rfl rfl rfl (fun H locs hP hD hS => ?_)
  refine lv_if_ne (tgt := 13) hx hb dX7_heard_4 (by decide) (fun c3 => ?_) (fun c3 => ?_)
  · have he := zif_f c3 he
    refine lv_aload_n hx hb dX7_heard_13 rfl (lv_at hl 0 rfl) ?_
    refine va_get (D := (dC, dI)) (ci := 7) (v := .ref a_this_town) (C := RX7) (T := TX7) (N := 14) hx hb hts (by decide +kernel) hown hK hP 0 rfl rfl 0 (by decide) (hts (.fieldLink RX7 12 "LawOfCorners" "town" "LLawOfCorners$Town;") (by decide +kernel)) (fun _ h9 => h9) rfl dX7_heard_14 ?_
    refine lv_iload_n hx hb dX7_heard_17 rfl (lv_at hl 1 rfl) ?_
    obtain ⟨r4, hf5, he⟩ := zb1_e he
    refine zc_i (wr := [(a_this, .inr (7, [.ref a_this_town, .ref a_this_trial, .ref a_this_kept, .int v_isKept, .ref a_this_letters, .ref a_this_told, .int v_toldCount, .ref a_this_refused, .ref a_this_stroll, .ref a_this_reach, .ref a_this_otherReach, .ref a_this_routes, .ref a_this_talks, .ref a_this_hearers])), (a_this_refused, .inr (1, [.ref a_this_refused_all])), (a_this_refused_all, .inl (cI, 7, .inl g_refused_all))]) (ws' := [(a_this, .inr (7, [.ref a_this_town, .ref a_this_trial, .ref a_this_kept, .int v_isKept, .ref a_this_letters, .ref a_this_told, .int v_toldCount, .ref a_this_refused, .ref a_this_stroll, .ref a_this_reach, .ref a_this_otherReach, .ref a_this_routes, .ref a_this_talks, .ref a_this_hearers])), (a_this_refused, .inr (1, [.ref a_this_refused_all])), (a_this_refused_all, .inl (cI, 7, .inl g_refused_all)), (a_this_town, .inr (6, [.ref a_this_town_kinds, .int v_town_home, .int v_town_fine, .int v_town_breath])), (a_this_town_kinds, .inr (1, [.ref a_this_town_kinds_all])), (a_this_town_kinds_all, .inl (cI, 36, .inl g_town_kinds_all))]) (va_runV (As := [.int p1]) (rest := []) ⟨hx, hb, hml, hown, hts⟩ (k_Town_heardBy l dC dI cI cZ tt sd a_this_town a_this_town_kinds a_this_town_kinds_all H.size v_town_home v_town_fine v_town_breath g_town_kinds_all p1 r4 hf5) (cwV 1 hts gX7_heard_X6_heardBy rfl rfl rfl (by decide +kernel) ⟨Nat.le_of_ble_eq_true rfl, Nat.le_of_ble_eq_true rfl⟩) (zpV hP hD hK hS hA hZ [3, 4, 5] rfl rfl 6 3 rfl rfl) rfl rfl hl.1 rfl (lv_room (Nat.le_of_ble_eq_true rfl)) dX7_heard_18 ⟨Nat.zero_le _, Nat.zero_le _⟩) hP hD hS hA [3, 4, 5] [0, 1, 2] [0, 1, 2, 3, 4, 5] rfl rfl rfl (by decide) rfl rfl rfl (fun H locs hP hD hS => ?_)
    cases he
    exact W.iret hx hb hr (fun t ht hW => ⟨⟨_, (), rfl, rfl, by rw [ht]; exact hP, va_K.moved hW.alike hK, hD⟩, hS.F ht⟩) hS.2.2 dX7_heard_21
  · have he := zif_t c3 he
    refine lv_aload_n hx hb dX7_heard_7 rfl (lv_at hl 0 rfl) ?_
    refine lv_iconst (v := (-1 : Int32)) hx hb dX7_heard_8 (by decide) ?_
    obtain ⟨r6, g_refused_all_7, hf8, he⟩ := zb2_e he
    refine zc_i (wr := [(a_this_town, .inr (6, [.ref a_this_town_kinds, .int v_town_home, .int v_town_fine, .int v_town_breath])), (a_this_town_kinds, .inr (1, [.ref a_this_town_kinds_all])), (a_this_town_kinds_all, .inl (cI, 36, .inl g_town_kinds_all))]) (ws' := [(a_this, .inr (7, [.ref a_this_town, .ref a_this_trial, .ref a_this_kept, .int v_isKept, .ref a_this_letters, .ref a_this_told, .int v_toldCount, .ref a_this_refused, .ref a_this_stroll, .ref a_this_reach, .ref a_this_otherReach, .ref a_this_routes, .ref a_this_talks, .ref a_this_hearers])), (a_this_refused, .inr (1, [.ref a_this_refused_all])), (a_this_refused_all, .inl (cI, 7, .inl g_refused_all_7)), (a_this_town, .inr (6, [.ref a_this_town_kinds, .int v_town_home, .int v_town_fine, .int v_town_breath])), (a_this_town_kinds, .inr (1, [.ref a_this_town_kinds_all])), (a_this_town_kinds_all, .inl (cI, 36, .inl g_town_kinds_all))]) (va_runV (As := [.int (-1 : Int32)]) (rest := []) ⟨hx, hb, hml, hown, hts⟩ (k_X_refuse l dC dI cI cZ tt sd a_this a_this_town a_this_trial a_this_kept a_this_letters a_this_told a_this_refused a_this_stroll a_this_reach a_this_otherReach a_this_routes a_this_talks a_this_hearers a_this_refused_all H.size v_isKept v_toldCount g_refused_all (-1 : Int32) r6 g_refused_all_7 hf8) (cwV 1 hts gX7_heard_X7_refuse rfl rfl rfl (by decide +kernel) ⟨Nat.le_of_ble_eq_true rfl, Nat.le_of_ble_eq_true rfl⟩) (zpV hP hD hK hS hA hZ [0, 1, 2] rfl rfl 7 0 rfl rfl) rfl rfl hl.1 rfl (lv_room (Nat.le_of_ble_eq_true rfl)) dX7_heard_9 ⟨Nat.zero_le _, Nat.zero_le _⟩) hP hD hS hA [0, 1, 2] [3, 4, 5] [3, 4, 5, 0, 1, 2] rfl rfl rfl (by decide) rfl rfl rfl (fun H locs hP hD hS => ?_)
    cases he
    exact W.iret hx hb hr (fun t ht hW => ⟨⟨_, (), rfl, rfl, by rw [ht]; exact hP, va_K.moved hW.alike hK, hD⟩, hS.F ht⟩) hS.2.2 dX7_heard_12
set_option maxHeartbeats 4000000 in
set_option maxRecDepth 100000 in
theorem k_X_isRowOfWays (l : Launch) (dC : Nat → ClassId) (dI : Nat → Nat → Nat) (cI : ClassId) (cZ : ClassId) (tt : Nat → Nat) (sd : Nat → Nat) (a_this : Nat) (a_this_town : Nat) (a_this_trial : Nat) (a_this_kept : Nat) (a_this_letters : Nat) (a_this_told : Nat) (a_this_refused : Nat) (a_this_stroll : Nat) (a_this_reach : Nat) (a_this_otherReach : Nat) (a_this_routes : Nat) (a_this_talks : Nat) (a_this_hearers : Nat) (a_this_told_all : Nat) (sz : Nat) (v_isKept : Int32) (v_toldCount : Int32) (g_told_all : Nat → Int32) (r0 : Int32) (hf : f_X_isRowOfWays v_toldCount g_told_all = some (r0)) : Met l yX7_isRowOfWays wsX7_isRowOfWays ({ frames := 1, cells := 0, slots := 0, locals := 21 }) (zPre (dC, dI) vwCl [(cI, .int), (cZ, .boolean)] tt sd [.ref a_this] [(a_this, .inr (7, [.ref a_this_town, .ref a_this_trial, .ref a_this_kept, .int v_isKept, .ref a_this_letters, .ref a_this_told, .int v_toldCount, .ref a_this_refused, .ref a_this_stroll, .ref a_this_reach, .ref a_this_otherReach, .ref a_this_routes, .ref a_this_talks, .ref a_this_hearers])), (a_this_told, .inr (1, [.ref a_this_told_all])), (a_this_told_all, .inl (cI, 20, .inl g_told_all))] sz) (zQi (dC, dI) vwCl [(cI, .int), (cZ, .boolean)] r0 [(a_this, .inr (7, [.ref a_this_town, .ref a_this_trial, .ref a_this_kept, .int v_isKept, .ref a_this_letters, .ref a_this_told, .int v_toldCount, .ref a_this_refused, .ref a_this_stroll, .ref a_this_reach, .ref a_this_otherReach, .ref a_this_routes, .ref a_this_talks, .ref a_this_hearers])), (a_this_told, .inr (1, [.ref a_this_told_all])), (a_this_told_all, .inl (cI, 20, .inl g_told_all))] (va_A [(a_this, .inr (7, [.ref a_this_town, .ref a_this_trial, .ref a_this_kept, .int v_isKept, .ref a_this_letters, .ref a_this_told, .int v_toldCount, .ref a_this_refused, .ref a_this_stroll, .ref a_this_reach, .ref a_this_otherReach, .ref a_this_routes, .ref a_this_talks, .ref a_this_hearers])), (a_this_told, .inr (1, [.ref a_this_told_all])), (a_this_told_all, .inl (cI, 20, .inl g_told_all))] sz)) 0 0 (va_A [(a_this, .inr (7, [.ref a_this_town, .ref a_this_trial, .ref a_this_kept, .int v_isKept, .ref a_this_letters, .ref a_this_told, .int v_toldCount, .ref a_this_refused, .ref a_this_stroll, .ref a_this_reach, .ref a_this_otherReach, .ref a_this_routes, .ref a_this_talks, .ref a_this_hearers])), (a_this_told, .inr (1, [.ref a_this_told_all])), (a_this_told_all, .inl (cI, 20, .inl g_told_all))] sz) := by
  refine Met.ofW (cc := cX7_isRowOfWays) (maxL := 2) (ret := (some .boolean)) (by decide) rfl ?_
  intro p e s m args below meth c s₁ B hml hv
  obtain ⟨rfl, hsz, hP, hK, hD0, hZ⟩ := hv
  have hx := B.exec
  have hb := B.bytes
  have hr := B.returns
  have hts := atoms_spec (ws := wsX7_isRowOfWays) B.pre
  have hown : s.vm.findClass RX7 = some m.cls := findClass_of_methodNamed B.named
  have hlocks := B.notSynchronized
  subst hsz
  have hD := hD0.self (sz := s.heap.size)
  generalize hAe : va_A [(a_this, .inr (7, [.ref a_this_town, .ref a_this_trial, .ref a_this_kept, .int v_isKept, .ref a_this_letters, .ref a_this_told, .int v_toldCount, .ref a_this_refused, .ref a_this_stroll, .ref a_this_reach, .ref a_this_otherReach, .ref a_this_routes, .ref a_this_talks, .ref a_this_hearers])), (a_this_told, .inr (1, [.ref a_this_told_all])), (a_this_told_all, .inl (cI, 20, .inl g_told_all))] s.heap.size = A at hD hZ ⊢
  have hA : ∀ q : Nat, s.heap.size ≤ q → A q := fun q h => by rw [← hAe]; exact Or.inr h
  have hS : va_S A s.heap s.heap [] := va_S.rf
  have hP : va_P (dC, dI) vwCl [(a_this, .inr (7, [.ref a_this_town, .ref a_this_trial, .ref a_this_kept, .int v_isKept, .ref a_this_letters, .ref a_this_told, .int v_toldCount, .ref a_this_refused, .ref a_this_stroll, .ref a_this_reach, .ref a_this_otherReach, .ref a_this_routes, .ref a_this_talks, .ref a_this_hearers])), (a_this_told, .inr (1, [.ref a_this_told_all])), (a_this_told_all, .inl (cI, 20, .inl g_told_all))] s.heap := hP
  have hl := lv_entry ([.ref a_this]) (n := 2) (Nat.le_of_ble_eq_true rfl)
  rw [lg_entry_eq]
  generalize (lg_sl ([.ref a_this]) ++ List.replicate (2 - (lg_sl ([.ref a_this])).length) Slot.unset).toArray = ls at hl ⊢
  have hl : lv_has ls 2 [(0, .ref a_this)] := hl
  have he := hf
  unfold f_X_isRowOfWays at he
  refine zstart (D := (dC, dI)) (cl := vwCl) (A := A) (nL := 2) (fun WW hWW => ?_)
  refine lv_iconst (v := (0 : Int32)) hx hb dX7_isRowOfWays_0 (by decide) ?_
  refine lv_istore_n (lv' := [(1, .int (0 : Int32)), (0, .ref a_this)]) hx hb dX7_isRowOfWays_1 rfl hl (by decide) rfl (fun ls hl => ?_)
  refine (hWW _ _ _ _).mp (zl1_w he (fun (l1_1 : Int32) => WW [(a_this, .inr (7, [.ref a_this_town, .ref a_this_trial, .ref a_this_kept, .int v_isKept, .ref a_this_letters, .ref a_this_told, .int v_toldCount, .ref a_this_refused, .ref a_this_stroll, .ref a_this_reach, .ref a_this_otherReach, .ref a_this_routes, .ref a_this_talks, .ref a_this_hearers])), (a_this_told, .inr (1, [.ref a_this_told_all])), (a_this_told_all, .inl (cI, 20, .inl g_told_all))] [(0, .ref a_this), (1, .int l1_1)] 2 []) (fun l1_1 again2 hagain2 he => (hWW _ _ _ _).mpr (fun H locs ls hP hD hS hl => ?_))) _ _ _ hP hD hS (lv_sub hl [1, 0] rfl)
  refine lv_iload_n hx hb dX7_isRowOfWays_2 rfl (lv_at hl 1 rfl) ?_
  refine lv_aload_n hx hb dX7_isRowOfWays_3 rfl (lv_at hl 0 rfl) ?_
  refine va_get (D := (dC, dI)) (ci := 7) (v := .int v_toldCount) (C := RX7) (T := TX7) (N := 14) hx hb hts (by decide +kernel) hown hK hP 0 rfl rfl 6 (by decide) (hts (.fieldLink RX7 231 "LawOfCorners" "toldCount" "I") (by decide +kernel)) (fun _ h9 => h9) rfl dX7_isRowOfWays_4 ?_
  refine lv_icmp_ge (tgt := 30) hx hb dX7_isRowOfWays_7 (by decide) (fun c3 => ?_) (fun c3 => ?_)
  · have he := zif_t c3 he
    refine lv_iconst (v := (1 : Int32)) hx hb dX7_isRowOfWays_30 (by decide) ?_
    cases he
    exact W.zret hx hb hr rfl (fun t ht hW => ⟨⟨_, (), rfl, rfl, by rw [ht]; exact hP, va_K.moved hW.alike hK, hD⟩, hS.F ht⟩) hS.2.2 dX7_isRowOfWays_31
  · have he := zif_f c3 he
    refine lv_aload_n hx hb dX7_isRowOfWays_10 rfl (lv_at hl 0 rfl) ?_
    refine va_get (D := (dC, dI)) (ci := 7) (v := .ref a_this_told) (C := RX7) (T := TX7) (N := 14) hx hb hts (by decide +kernel) hown hK hP 0 rfl rfl 5 (by decide) (hts (.fieldLink RX7 34 "LawOfCorners" "told" "LLawOfCorners$Numbers;") (by decide +kernel)) (fun _ h9 => h9) rfl dX7_isRowOfWays_11 ?_
    refine lv_iload_n hx hb dX7_isRowOfWays_14 rfl (lv_at hl 1 rfl) ?_
    obtain ⟨r4, hf5, he⟩ := zb1_e he
    refine zc_i (wr := [(a_this, .inr (7, [.ref a_this_town, .ref a_this_trial, .ref a_this_kept, .int v_isKept, .ref a_this_letters, .ref a_this_told, .int v_toldCount, .ref a_this_refused, .ref a_this_stroll, .ref a_this_reach, .ref a_this_otherReach, .ref a_this_routes, .ref a_this_talks, .ref a_this_hearers]))]) (ws' := [(a_this, .inr (7, [.ref a_this_town, .ref a_this_trial, .ref a_this_kept, .int v_isKept, .ref a_this_letters, .ref a_this_told, .int v_toldCount, .ref a_this_refused, .ref a_this_stroll, .ref a_this_reach, .ref a_this_otherReach, .ref a_this_routes, .ref a_this_talks, .ref a_this_hearers])), (a_this_told, .inr (1, [.ref a_this_told_all])), (a_this_told_all, .inl (cI, 20, .inl g_told_all))]) (va_runV (As := [.int l1_1]) (rest := []) ⟨hx, hb, hml, hown, hts⟩ (k_Numbers_at l dC dI cI cZ tt sd a_this_told a_this_told_all H.size 20 g_told_all l1_1 r4 hf5) (cwV 1 hts gX7_isRowOfWays_X1_at rfl rfl rfl (by decide +kernel) ⟨Nat.le_of_ble_eq_true rfl, Nat.le_of_ble_eq_true rfl⟩) (zpV hP hD hK hS hA hZ [1, 2] rfl rfl 1 1 rfl rfl) rfl rfl hl.1 rfl (lv_room (Nat.le_of_ble_eq_true rfl)) dX7_isRowOfWays_15 ⟨Nat.zero_le _, Nat.zero_le _⟩) hP hD hS hA [1, 2] [0] [0, 1, 2] rfl rfl rfl (by decide) rfl rfl rfl (fun H locs hP hD hS => ?_)
    refine lv_iconst (v := (4 : Int32)) hx hb dX7_isRowOfWays_18 (by decide) ?_
    refine lv_icmp_lt (tgt := 24) hx hb dX7_isRowOfWays_19 (by decide) (fun c6 => ?_) (fun c6 => ?_)
    · have he := zif_t c6 he
      obtain ⟨x7, ex7⟩ : ∃ y : Int32, y = l1_1 + (1 : Int32) := ⟨_, rfl⟩
      have he := zn_e ex7 he
      refine lv_iinc (v := x7) (lv' := [(1, .int x7), (0, .ref a_this)]) hx hb dX7_isRowOfWays_24 hl (k := 1) rfl (by rw [ex7]; rfl) (by decide) rfl (fun ls hl => ?_)
      refine lv_goto (tgt := 2) hx hb dX7_isRowOfWays_27 (by decide) ?_
      exact (hWW _ _ _ _).mp (hagain2 x7 he) _ _ _ hP hD hS (lv_sub hl [1, 0] rfl)
    · have he := zif_f c6 he
      refine lv_iconst (v := (0 : Int32)) hx hb dX7_isRowOfWays_22 (by decide) ?_
      cases he
      exact W.zret hx hb hr rfl (fun t ht hW => ⟨⟨_, (), rfl, rfl, by rw [ht]; exact hP, va_K.moved hW.alike hK, hD⟩, hS.F ht⟩) hS.2.2 dX7_isRowOfWays_23
set_option maxHeartbeats 4000000 in
set_option maxRecDepth 100000 in
theorem k_Numbers_fill (l : Launch) (dC : Nat → ClassId) (dI : Nat → Nat → Nat) (cI : ClassId) (cZ : ClassId) (tt : Nat → Nat) (sd : Nat → Nat) (a_this : Nat) (a_this_all : Nat) (sz : Nat) (n : Nat) (g_all : Nat → Int32) (p1 : Int32) (w0 : Nat → Int32) (hf : f_Numbers_fill n g_all p1 = some (w0)) : Met l yX1_fill wsX1_fill ({ frames := 0, cells := 0, slots := 0, locals := 0 }) (zPre (dC, dI) vwCl [(cI, .int), (cZ, .boolean)] tt sd [.ref a_this, .int p1] [(a_this, .inr (1, [.ref a_this_all])), (a_this_all, .inl (cI, n, .inl g_all))] sz) (zQv (dC, dI) vwCl [(cI, .int), (cZ, .boolean)] [(a_this, .inr (1, [.ref a_this_all])), (a_this_all, .inl (cI, n, .inl w0))] (va_A [(a_this, .inr (1, [.ref a_this_all])), (a_this_all, .inl (cI, n, .inl g_all))] sz)) 0 0 (va_A [(a_this, .inr (1, [.ref a_this_all])), (a_this_all, .inl (cI, n, .inl g_all))] sz) := by
  refine Met.ofW (cc := cX1_fill) (maxL := 3) (ret := none) (by decide) rfl ?_
  intro p e s m args below meth c s₁ B hml hv
  obtain ⟨rfl, hsz, hP, hK, hD0, hZ⟩ := hv
  have hx := B.exec
  have hb := B.bytes
  have hr := B.returns
  have hts := atoms_spec (ws := wsX1_fill) B.pre
  have hown : s.vm.findClass RX1 = some m.cls := findClass_of_methodNamed B.named
  have hlocks := B.notSynchronized
  subst hsz
  have hD := hD0.self (sz := s.heap.size)
  generalize hAe : va_A [(a_this, .inr (1, [.ref a_this_all])), (a_this_all, .inl (cI, n, .inl g_all))] s.heap.size = A at hD hZ ⊢
  have hA : ∀ q : Nat, s.heap.size ≤ q → A q := fun q h => by rw [← hAe]; exact Or.inr h
  have hS : va_S A s.heap s.heap [] := va_S.rf
  have hP : va_P (dC, dI) vwCl [(a_this, .inr (1, [.ref a_this_all])), (a_this_all, .inl (cI, n, .inl g_all))] s.heap := hP
  have hl := lv_entry ([.ref a_this, .int p1]) (n := 3) (Nat.le_of_ble_eq_true rfl)
  rw [lg_entry_eq]
  generalize (lg_sl ([.ref a_this, .int p1]) ++ List.replicate (3 - (lg_sl ([.ref a_this, .int p1])).length) Slot.unset).toArray = ls at hl ⊢
  have hl : lv_has ls 3 [(0, .ref a_this), (1, .int p1)] := hl
  have he := hf
  unfold f_Numbers_fill at he
  refine zstart (D := (dC, dI)) (cl := vwCl) (A := A) (nL := 3) (fun WW hWW => ?_)
  refine lv_iconst (v := (0 : Int32)) hx hb dX1_fill_0 (by decide) ?_
  refine lv_istore_n (lv' := [(2, .int (0 : Int32)), (0, .ref a_this), (1, .int p1)]) hx hb dX1_fill_1 rfl hl (by decide) rfl (fun ls hl => ?_)
  refine (hWW _ _ _ _).mp (zl2_w he (fun (l2_1 : Int32) (g_all_2 : Nat → Int32) => WW [(a_this, .inr (1, [.ref a_this_all])), (a_this_all, .inl (cI, n, .inl g_all_2))] [(0, .ref a_this), (1, .int p1), (2, .int l2_1)] 2 []) (fun l2_1 g_all_2 again3 hagain3 he => (hWW _ _ _ _).mpr (fun H locs ls hP hD hS hl => ?_))) _ _ _ hP hD hS (lv_sub hl [1, 2, 0] rfl)
  refine lv_iload_n hx hb dX1_fill_2 rfl (lv_at hl 2 rfl) ?_
  refine lv_aload_n hx hb dX1_fill_3 rfl (lv_at hl 0 rfl) ?_
  refine va_get (D := (dC, dI)) (ci := 1) (v := .ref a_this_all) (C := RX1) (T := TX1) (N := 1) hx hb hts (by decide +kernel) hown hK hP 0 rfl rfl 0 (by decide) (hts (.fieldLink RX1 13 "LawOfCorners$Numbers" "all" "[I") (by decide +kernel)) (fun _ h9 => h9) rfl dX1_fill_4 ?_
  refine va_alen hx hb hK hP 1 0 rfl rfl (v := nI n) rfl dX1_fill_7 ?_
  refine lv_icmp_ge (tgt := 24) hx hb dX1_fill_8 (by decide) (fun c4 => ?_) (fun c4 => ?_)
  · have he := zif_t c4 he
    cases he
    exact W.vret hx hb hr (fun t ht hW => ⟨⟨(), rfl, trivial, by rw [ht]; exact hP, va_K.moved hW.alike hK, hD⟩, hS.F ht⟩) hS.2.2 dX1_fill_24
  · have he := zif_f c4 he
    refine lv_aload_n hx hb dX1_fill_11 rfl (lv_at hl 0 rfl) ?_
    refine va_get (D := (dC, dI)) (ci := 1) (v := .ref a_this_all) (C := RX1) (T := TX1) (N := 1) hx hb hts (by decide +kernel) hown hK hP 0 rfl rfl 0 (by decide) (hts (.fieldLink RX1 13 "LawOfCorners$Numbers" "all" "[I") (by decide +kernel)) (fun _ h9 => h9) rfl dX1_fill_12 ?_
    refine lv_iload_n hx hb dX1_fill_15 rfl (lv_at hl 2 rfl) ?_
    refine lv_iload_n hx hb dX1_fill_16 rfl (lv_at hl 1 rfl) ?_
    obtain ⟨hg5, he⟩ := zg_e he
    refine va_iast hx hb hK hP hD hS 1 0 rfl rfl hg5 dX1_fill_17 (fun H locs hP hD hS => ?_)
    obtain ⟨g6, eg6⟩ : ∃ y : Nat → Int32, y = upd g_all_2 l2_1.toNatClampNeg p1 := ⟨_, rfl⟩
    have he := zn_e eg6 he
    have hP : va_P (dC, dI) vwCl [(a_this, .inr (1, [.ref a_this_all])), (a_this_all, .inl (cI, n, .inl g6))] H := by rw [eg6]; exact hP
    have hD : va_D A [(a_this, .inr (1, [.ref a_this_all])), (a_this_all, .inl (cI, n, .inl g6))] := by rw [eg6]; exact hD
    obtain ⟨x7, ex7⟩ : ∃ y : Int32, y = l2_1 + (1 : Int32) := ⟨_, rfl⟩
    have he := zn_e ex7 he
    refine lv_iinc (v := x7) (lv' := [(2, .int x7), (0, .ref a_this), (1, .int p1)]) hx hb dX1_fill_18 hl (k := 2) rfl (by rw [ex7]; rfl) (by decide) rfl (fun ls hl => ?_)
    refine lv_goto (tgt := 2) hx hb dX1_fill_21 (by decide) ?_
    exact (hWW _ _ _ _).mp (hagain3 x7 g6 he) _ _ _ hP hD hS (lv_sub hl [1, 2, 0] rfl)
set_option maxHeartbeats 4000000 in
set_option maxRecDepth 100000 in
theorem k_Stroll_begin (l : Launch) (dC : Nat → ClassId) (dI : Nat → Nat → Nat) (cI : ClassId) (cZ : ClassId) (tt : Nat → Nat) (sd : Nat → Nat) (a_this : Nat) (a_this_town : Nat) (a_this_spoken : Nat) (a_this_spoken_all : Nat) (a_this_town_kinds : Nat) (sz : Nat) (v_square : Int32) (v_came : Int32) (v_allWords : Int32) (v_allCorners : Int32) (v_allCuts : Int32) (v_run : Int32) (v_longestRun : Int32) (g_spoken_all : Nat → Int32) (v_town_home : Int32) (v_town_fine : Int32) (v_town_breath : Int32) (w0 : Int32) (w1 : Int32) (w2 : Int32) (w3 : Int32) (w4 : Int32) (w5 : Int32) (w6 : Int32) (w7 : Nat → Int32) (hf : f_Stroll_begin v_allCorners v_allCuts v_allWords v_came v_longestRun v_run v_square g_spoken_all v_town_home = some (w0, w1, w2, w3, w4, w5, w6, w7)) : Met l yX4_begin wsX4_begin ({ frames := 1, cells := 0, slots := 0, locals := 22 }) (zPre (dC, dI) vwCl [(cI, .int), (cZ, .boolean)] tt sd [.ref a_this] [(a_this, .inr (4, [.ref a_this_town, .int v_square, .int v_came, .int v_allWords, .int v_allCorners, .int v_allCuts, .int v_run, .int v_longestRun, .ref a_this_spoken])), (a_this_spoken, .inr (1, [.ref a_this_spoken_all])), (a_this_spoken_all, .inl (cI, 36, .inl g_spoken_all)), (a_this_town, .inr (6, [.ref a_this_town_kinds, .int v_town_home, .int v_town_fine, .int v_town_breath]))] sz) (zQv (dC, dI) vwCl [(cI, .int), (cZ, .boolean)] [(a_this, .inr (4, [.ref a_this_town, .int w6, .int w3, .int w2, .int w0, .int w1, .int w5, .int w4, .ref a_this_spoken])), (a_this_spoken, .inr (1, [.ref a_this_spoken_all])), (a_this_spoken_all, .inl (cI, 36, .inl w7)), (a_this_town, .inr (6, [.ref a_this_town_kinds, .int v_town_home, .int v_town_fine, .int v_town_breath]))] (va_A [(a_this, .inr (4, [.ref a_this_town, .int v_square, .int v_came, .int v_allWords, .int v_allCorners, .int v_allCuts, .int v_run, .int v_longestRun, .ref a_this_spoken])), (a_this_spoken, .inr (1, [.ref a_this_spoken_all])), (a_this_spoken_all, .inl (cI, 36, .inl g_spoken_all)), (a_this_town, .inr (6, [.ref a_this_town_kinds, .int v_town_home, .int v_town_fine, .int v_town_breath]))] sz)) 0 0 (va_A [(a_this, .inr (4, [.ref a_this_town, .int v_square, .int v_came, .int v_allWords, .int v_allCorners, .int v_allCuts, .int v_run, .int v_longestRun, .ref a_this_spoken])), (a_this_spoken, .inr (1, [.ref a_this_spoken_all])), (a_this_spoken_all, .inl (cI, 36, .inl g_spoken_all)), (a_this_town, .inr (6, [.ref a_this_town_kinds, .int v_town_home, .int v_town_fine, .int v_town_breath]))] sz) := by
  refine Met.ofW (cc := cX4_begin) (maxL := 1) (ret := none) (by decide) rfl ?_
  intro p e s m args below meth c s₁ B hml hv
  obtain ⟨rfl, hsz, hP, hK, hD0, hZ⟩ := hv
  have hx := B.exec
  have hb := B.bytes
  have hr := B.returns
  have hts := atoms_spec (ws := wsX4_begin) B.pre
  have hown : s.vm.findClass RX4 = some m.cls := findClass_of_methodNamed B.named
  have hlocks := B.notSynchronized
  subst hsz
  have hD := hD0.self (sz := s.heap.size)
  generalize hAe : va_A [(a_this, .inr (4, [.ref a_this_town, .int v_square, .int v_came, .int v_allWords, .int v_allCorners, .int v_allCuts, .int v_run, .int v_longestRun, .ref a_this_spoken])), (a_this_spoken, .inr (1, [.ref a_this_spoken_all])), (a_this_spoken_all, .inl (cI, 36, .inl g_spoken_all)), (a_this_town, .inr (6, [.ref a_this_town_kinds, .int v_town_home, .int v_town_fine, .int v_town_breath]))] s.heap.size = A at hD hZ ⊢
  have hA : ∀ q : Nat, s.heap.size ≤ q → A q := fun q h => by rw [← hAe]; exact Or.inr h
  have hS : va_S A s.heap s.heap [] := va_S.rf
  have hP : va_P (dC, dI) vwCl [(a_this, .inr (4, [.ref a_this_town, .int v_square, .int v_came, .int v_allWords, .int v_allCorners, .int v_allCuts, .int v_run, .int v_longestRun, .ref a_this_spoken])), (a_this_spoken, .inr (1, [.ref a_this_spoken_all])), (a_this_spoken_all, .inl (cI, 36, .inl g_spoken_all)), (a_this_town, .inr (6, [.ref a_this_town_kinds, .int v_town_home, .int v_town_fine, .int v_town_breath]))] s.heap := hP
  have hl := lv_entry ([.ref a_this]) (n := 1) (Nat.le_of_ble_eq_true rfl)
  rw [lg_entry_eq]
  generalize (lg_sl ([.ref a_this]) ++ List.replicate (1 - (lg_sl ([.ref a_this])).length) Slot.unset).toArray = ls at hl ⊢
  have hl : lv_has ls 1 [(0, .ref a_this)] := hl
  have he := hf
  unfold f_Stroll_begin at he
  refine lv_aload_n hx hb dX4_begin_0 rfl (lv_at hl 0 rfl) ?_
  refine lv_aload_n hx hb dX4_begin_1 rfl (lv_at hl 0 rfl) ?_
  refine va_get (D := (dC, dI)) (ci := 4) (v := .ref a_this_town) (C := RX4) (T := TX4) (N := 9) hx hb hts (by decide +kernel) hown hK hP 0 rfl rfl 0 (by decide) (hts (.fieldLink RX4 20 "LawOfCorners$Stroll" "town" "LLawOfCorners$Town;") (by decide +kernel)) (fun _ h9 => h9) rfl dX4_begin_2 ?_
  obtain ⟨r1, hf2, he⟩ := zb1_e he
  refine zc_i (wr := [(a_this, .inr (4, [.ref a_this_town, .int v_square, .int v_came, .int v_allWords, .int v_allCorners, .int v_allCuts, .int v_run, .int v_longestRun, .ref a_this_spoken])), (a_this_spoken, .inr (1, [.ref a_this_spoken_all])), (a_this_spoken_all, .inl (cI, 36, .inl g_spoken_all))]) (ws' := [(a_this, .inr (4, [.ref a_this_town, .int v_square, .int v_came, .int v_allWords, .int v_allCorners, .int v_allCuts, .int v_run, .int v_longestRun, .ref a_this_spoken])), (a_this_spoken, .inr (1, [.ref a_this_spoken_all])), (a_this_spoken_all, .inl (cI, 36, .inl g_spoken_all)), (a_this_town, .inr (6, [.ref a_this_town_kinds, .int v_town_home, .int v_town_fine, .int v_town_breath]))]) (va_runV (As := []) (rest := [.ref a_this]) ⟨hx, hb, hml, hown, hts⟩ (k_Town_home l dC dI cI cZ tt sd a_this_town a_this_town_kinds s.heap.size v_town_home v_town_fine v_town_breath r1 hf2) (cwV 0 hts gX4_begin_X6_home rfl rfl rfl (by decide +kernel) ⟨Nat.le_of_ble_eq_true rfl, Nat.le_of_ble_eq_true rfl⟩) (zpV hP hD hK hS hA hZ [3] rfl rfl 6 3 rfl rfl) rfl rfl hl.1 rfl (lv_room (Nat.le_of_ble_eq_true rfl)) dX4_begin_5 ⟨Nat.zero_le _, Nat.zero_le _⟩) hP hD hS hA [3] [0, 1, 2] [0, 1, 2, 3] rfl rfl rfl (by decide) rfl rfl rfl (fun H locs hP hD hS => ?_)
  refine va_put (D := (dC, dI)) (ci := 4) (v := .int r1) (ty := .int) (C := RX4) (T := TX4) (N := 9) hx hb hts (by decide +kernel) tyX4 tyX4_ok nmX4 hown hK hP hD hS 0 rfl rfl 1 (by decide) (hts (.fieldLink RX4 30 "LawOfCorners$Stroll" "square" "I") (by decide +kernel)) (fun _ h9 => h9) rfl (by decide +kernel) rfl rfl (Nat.le_of_ble_eq_true rfl) dX4_begin_8 (fun H locs hP hD hS => ?_)
  have hP : va_P (dC, dI) vwCl [(a_this, .inr (4, [.ref a_this_town, .int r1, .int v_came, .int v_allWords, .int v_allCorners, .int v_allCuts, .int v_run, .int v_longestRun, .ref a_this_spoken])), (a_this_spoken, .inr (1, [.ref a_this_spoken_all])), (a_this_spoken_all, .inl (cI, 36, .inl g_spoken_all)), (a_this_town, .inr (6, [.ref a_this_town_kinds, .int v_town_home, .int v_town_fine, .int v_town_breath]))] H := hP
  have hD : va_D A [(a_this, .inr (4, [.ref a_this_town, .int r1, .int v_came, .int v_allWords, .int v_allCorners, .int v_allCuts, .int v_run, .int v_longestRun, .ref a_this_spoken])), (a_this_spoken, .inr (1, [.ref a_this_spoken_all])), (a_this_spoken_all, .inl (cI, 36, .inl g_spoken_all)), (a_this_town, .inr (6, [.ref a_this_town_kinds, .int v_town_home, .int v_town_fine, .int v_town_breath]))] := hD
  refine lv_aload_n hx hb dX4_begin_11 rfl (lv_at hl 0 rfl) ?_
  refine lv_iconst (v := (4 : Int32)) hx hb dX4_begin_12 (by decide) ?_
  refine va_put (D := (dC, dI)) (ci := 4) (v := .int (4 : Int32)) (ty := .int) (C := RX4) (T := TX4) (N := 9) hx hb hts (by decide +kernel) tyX4 tyX4_ok nmX4 hown hK hP hD hS 0 rfl rfl 2 (by decide) (hts (.fieldLink RX4 34 "LawOfCorners$Stroll" "came" "I") (by decide +kernel)) (fun _ h9 => h9) rfl (by decide +kernel) rfl rfl (Nat.le_of_ble_eq_true rfl) dX4_begin_13 (fun H locs hP hD hS => ?_)
  have hP : va_P (dC, dI) vwCl [(a_this, .inr (4, [.ref a_this_town, .int r1, .int (4 : Int32), .int v_allWords, .int v_allCorners, .int v_allCuts, .int v_run, .int v_longestRun, .ref a_this_spoken])), (a_this_spoken, .inr (1, [.ref a_this_spoken_all])), (a_this_spoken_all, .inl (cI, 36, .inl g_spoken_all)), (a_this_town, .inr (6, [.ref a_this_town_kinds, .int v_town_home, .int v_town_fine, .int v_town_breath]))] H := hP
  have hD : va_D A [(a_this, .inr (4, [.ref a_this_town, .int r1, .int (4 : Int32), .int v_allWords, .int v_allCorners, .int v_allCuts, .int v_run, .int v_longestRun, .ref a_this_spoken])), (a_this_spoken, .inr (1, [.ref a_this_spoken_all])), (a_this_spoken_all, .inl (cI, 36, .inl g_spoken_all)), (a_this_town, .inr (6, [.ref a_this_town_kinds, .int v_town_home, .int v_town_fine, .int v_town_breath]))] := hD
  refine lv_aload_n hx hb dX4_begin_16 rfl (lv_at hl 0 rfl) ?_
  refine lv_iconst (v := (0 : Int32)) hx hb dX4_begin_17 (by decide) ?_
  refine va_put (D := (dC, dI)) (ci := 4) (v := .int (0 : Int32)) (ty := .int) (C := RX4) (T := TX4) (N := 9) hx hb hts (by decide +kernel) tyX4 tyX4_ok nmX4 hown hK hP hD hS 0 rfl rfl 3 (by decide) (hts (.fieldLink RX4 37 "LawOfCorners$Stroll" "allWords" "I") (by decide +kernel)) (fun _ h9 => h9) rfl (by decide +kernel) rfl rfl (Nat.le_of_ble_eq_true rfl) dX4_begin_18 (fun H locs hP hD hS => ?_)
  have hP : va_P (dC, dI) vwCl [(a_this, .inr (4, [.ref a_this_town, .int r1, .int (4 : Int32), .int (0 : Int32), .int v_allCorners, .int v_allCuts, .int v_run, .int v_longestRun, .ref a_this_spoken])), (a_this_spoken, .inr (1, [.ref a_this_spoken_all])), (a_this_spoken_all, .inl (cI, 36, .inl g_spoken_all)), (a_this_town, .inr (6, [.ref a_this_town_kinds, .int v_town_home, .int v_town_fine, .int v_town_breath]))] H := hP
  have hD : va_D A [(a_this, .inr (4, [.ref a_this_town, .int r1, .int (4 : Int32), .int (0 : Int32), .int v_allCorners, .int v_allCuts, .int v_run, .int v_longestRun, .ref a_this_spoken])), (a_this_spoken, .inr (1, [.ref a_this_spoken_all])), (a_this_spoken_all, .inl (cI, 36, .inl g_spoken_all)), (a_this_town, .inr (6, [.ref a_this_town_kinds, .int v_town_home, .int v_town_fine, .int v_town_breath]))] := hD
  refine lv_aload_n hx hb dX4_begin_21 rfl (lv_at hl 0 rfl) ?_
  refine lv_iconst (v := (0 : Int32)) hx hb dX4_begin_22 (by decide) ?_
  refine va_put (D := (dC, dI)) (ci := 4) (v := .int (0 : Int32)) (ty := .int) (C := RX4) (T := TX4) (N := 9) hx hb hts (by decide +kernel) tyX4 tyX4_ok nmX4 hown hK hP hD hS 0 rfl rfl 4 (by decide) (hts (.fieldLink RX4 40 "LawOfCorners$Stroll" "allCorners" "I") (by decide +kernel)) (fun _ h9 => h9) rfl (by decide +kernel) rfl rfl (Nat.le_of_ble_eq_true rfl) dX4_begin_23 (fun H locs hP hD hS => ?_)
  have hP : va_P (dC, dI) vwCl [(a_this, .inr (4, [.ref a_this_town, .int r1, .int (4 : Int32), .int (0 : Int32), .int (0 : Int32), .int v_allCuts, .int v_run, .int v_longestRun, .ref a_this_spoken])), (a_this_spoken, .inr (1, [.ref a_this_spoken_all])), (a_this_spoken_all, .inl (cI, 36, .inl g_spoken_all)), (a_this_town, .inr (6, [.ref a_this_town_kinds, .int v_town_home, .int v_town_fine, .int v_town_breath]))] H := hP
  have hD : va_D A [(a_this, .inr (4, [.ref a_this_town, .int r1, .int (4 : Int32), .int (0 : Int32), .int (0 : Int32), .int v_allCuts, .int v_run, .int v_longestRun, .ref a_this_spoken])), (a_this_spoken, .inr (1, [.ref a_this_spoken_all])), (a_this_spoken_all, .inl (cI, 36, .inl g_spoken_all)), (a_this_town, .inr (6, [.ref a_this_town_kinds, .int v_town_home, .int v_town_fine, .int v_town_breath]))] := hD
  refine lv_aload_n hx hb dX4_begin_26 rfl (lv_at hl 0 rfl) ?_
  refine lv_iconst (v := (0 : Int32)) hx hb dX4_begin_27 (by decide) ?_
  refine va_put (D := (dC, dI)) (ci := 4) (v := .int (0 : Int32)) (ty := .int) (C := RX4) (T := TX4) (N := 9) hx hb hts (by decide +kernel) tyX4 tyX4_ok nmX4 hown hK hP hD hS 0 rfl rfl 5 (by decide) (hts (.fieldLink RX4 43 "LawOfCorners$Stroll" "allCuts" "I") (by decide +kernel)) (fun _ h9 => h9) rfl (by decide +kernel) rfl rfl (Nat.le_of_ble_eq_true rfl) dX4_begin_28 (fun H locs hP hD hS => ?_)
  have hP : va_P (dC, dI) vwCl [(a_this, .inr (4, [.ref a_this_town, .int r1, .int (4 : Int32), .int (0 : Int32), .int (0 : Int32), .int (0 : Int32), .int v_run, .int v_longestRun, .ref a_this_spoken])), (a_this_spoken, .inr (1, [.ref a_this_spoken_all])), (a_this_spoken_all, .inl (cI, 36, .inl g_spoken_all)), (a_this_town, .inr (6, [.ref a_this_town_kinds, .int v_town_home, .int v_town_fine, .int v_town_breath]))] H := hP
  have hD : va_D A [(a_this, .inr (4, [.ref a_this_town, .int r1, .int (4 : Int32), .int (0 : Int32), .int (0 : Int32), .int (0 : Int32), .int v_run, .int v_longestRun, .ref a_this_spoken])), (a_this_spoken, .inr (1, [.ref a_this_spoken_all])), (a_this_spoken_all, .inl (cI, 36, .inl g_spoken_all)), (a_this_town, .inr (6, [.ref a_this_town_kinds, .int v_town_home, .int v_town_fine, .int v_town_breath]))] := hD
  refine lv_aload_n hx hb dX4_begin_31 rfl (lv_at hl 0 rfl) ?_
  refine lv_iconst (v := (0 : Int32)) hx hb dX4_begin_32 (by decide) ?_
  refine va_put (D := (dC, dI)) (ci := 4) (v := .int (0 : Int32)) (ty := .int) (C := RX4) (T := TX4) (N := 9) hx hb hts (by decide +kernel) tyX4 tyX4_ok nmX4 hown hK hP hD hS 0 rfl rfl 6 (by decide) (hts (.fieldLink RX4 46 "LawOfCorners$Stroll" "run" "I") (by decide +kernel)) (fun _ h9 => h9) rfl (by decide +kernel) rfl rfl (Nat.le_of_ble_eq_true rfl) dX4_begin_33 (fun H locs hP hD hS => ?_)
  have hP : va_P (dC, dI) vwCl [(a_this, .inr (4, [.ref a_this_town, .int r1, .int (4 : Int32), .int (0 : Int32), .int (0 : Int32), .int (0 : Int32), .int (0 : Int32), .int v_longestRun, .ref a_this_spoken])), (a_this_spoken, .inr (1, [.ref a_this_spoken_all])), (a_this_spoken_all, .inl (cI, 36, .inl g_spoken_all)), (a_this_town, .inr (6, [.ref a_this_town_kinds, .int v_town_home, .int v_town_fine, .int v_town_breath]))] H := hP
  have hD : va_D A [(a_this, .inr (4, [.ref a_this_town, .int r1, .int (4 : Int32), .int (0 : Int32), .int (0 : Int32), .int (0 : Int32), .int (0 : Int32), .int v_longestRun, .ref a_this_spoken])), (a_this_spoken, .inr (1, [.ref a_this_spoken_all])), (a_this_spoken_all, .inl (cI, 36, .inl g_spoken_all)), (a_this_town, .inr (6, [.ref a_this_town_kinds, .int v_town_home, .int v_town_fine, .int v_town_breath]))] := hD
  refine lv_aload_n hx hb dX4_begin_36 rfl (lv_at hl 0 rfl) ?_
  refine lv_iconst (v := (0 : Int32)) hx hb dX4_begin_37 (by decide) ?_
  refine va_put (D := (dC, dI)) (ci := 4) (v := .int (0 : Int32)) (ty := .int) (C := RX4) (T := TX4) (N := 9) hx hb hts (by decide +kernel) tyX4 tyX4_ok nmX4 hown hK hP hD hS 0 rfl rfl 7 (by decide) (hts (.fieldLink RX4 49 "LawOfCorners$Stroll" "longestRun" "I") (by decide +kernel)) (fun _ h9 => h9) rfl (by decide +kernel) rfl rfl (Nat.le_of_ble_eq_true rfl) dX4_begin_38 (fun H locs hP hD hS => ?_)
  have hP : va_P (dC, dI) vwCl [(a_this, .inr (4, [.ref a_this_town, .int r1, .int (4 : Int32), .int (0 : Int32), .int (0 : Int32), .int (0 : Int32), .int (0 : Int32), .int (0 : Int32), .ref a_this_spoken])), (a_this_spoken, .inr (1, [.ref a_this_spoken_all])), (a_this_spoken_all, .inl (cI, 36, .inl g_spoken_all)), (a_this_town, .inr (6, [.ref a_this_town_kinds, .int v_town_home, .int v_town_fine, .int v_town_breath]))] H := hP
  have hD : va_D A [(a_this, .inr (4, [.ref a_this_town, .int r1, .int (4 : Int32), .int (0 : Int32), .int (0 : Int32), .int (0 : Int32), .int (0 : Int32), .int (0 : Int32), .ref a_this_spoken])), (a_this_spoken, .inr (1, [.ref a_this_spoken_all])), (a_this_spoken_all, .inl (cI, 36, .inl g_spoken_all)), (a_this_town, .inr (6, [.ref a_this_town_kinds, .int v_town_home, .int v_town_fine, .int v_town_breath]))] := hD
  refine lv_aload_n hx hb dX4_begin_41 rfl (lv_at hl 0 rfl) ?_
  refine va_get (D := (dC, dI)) (ci := 4) (v := .ref a_this_spoken) (C := RX4) (T := TX4) (N := 9) hx hb hts (by decide +kernel) hown hK hP 0 rfl rfl 8 (by decide) (hts (.fieldLink RX4 14 "LawOfCorners$Stroll" "spoken" "LLawOfCorners$Numbers;") (by decide +kernel)) (fun _ h9 => h9) rfl dX4_begin_42 ?_
  refine lv_iconst (v := (0 : Int32)) hx hb dX4_begin_45 (by decide) ?_
  obtain ⟨g_spoken_all_3, hf4, he⟩ := zb1_e he
  refine zc_v (wr := [(a_this, .inr (4, [.ref a_this_town, .int r1, .int (4 : Int32), .int (0 : Int32), .int (0 : Int32), .int (0 : Int32), .int (0 : Int32), .int (0 : Int32), .ref a_this_spoken])), (a_this_town, .inr (6, [.ref a_this_town_kinds, .int v_town_home, .int v_town_fine, .int v_town_breath]))]) (ws' := [(a_this, .inr (4, [.ref a_this_town, .int r1, .int (4 : Int32), .int (0 : Int32), .int (0 : Int32), .int (0 : Int32), .int (0 : Int32), .int (0 : Int32), .ref a_this_spoken])), (a_this_spoken, .inr (1, [.ref a_this_spoken_all])), (a_this_spoken_all, .inl (cI, 36, .inl g_spoken_all_3)), (a_this_town, .inr (6, [.ref a_this_town_kinds, .int v_town_home, .int v_town_fine, .int v_town_breath]))]) (va_runV (As := [.int (0 : Int32)]) (rest := []) ⟨hx, hb, hml, hown, hts⟩ (k_Numbers_fill l dC dI cI cZ tt sd a_this_spoken a_this_spoken_all H.size 36 g_spoken_all (0 : Int32) g_spoken_all_3 hf4) (cwV 1 hts gX4_begin_X1_fill rfl rfl rfl (by decide +kernel) ⟨Nat.le_of_ble_eq_true rfl, Nat.le_of_ble_eq_true rfl⟩) (zpV hP hD hK hS hA hZ [1, 2] rfl rfl 1 1 rfl rfl) rfl rfl hl.1 rfl (lv_room (Nat.le_of_ble_eq_true rfl)) dX4_begin_46 ⟨Nat.zero_le _, Nat.zero_le _⟩) hP hD hS hA [1, 2] [0, 3] [0, 2, 3, 1] rfl rfl rfl (by decide) rfl rfl rfl (fun H locs hP hD hS => ?_)
  cases he
  exact W.vret hx hb hr (fun t ht hW => ⟨⟨(), rfl, trivial, by rw [ht]; exact hP, va_K.moved hW.alike hK, hD⟩, hS.F ht⟩) hS.2.2 dX4_begin_49
set_option maxHeartbeats 4000000 in
set_option maxRecDepth 100000 in
theorem k_Stroll_speak (l : Launch) (dC : Nat → ClassId) (dI : Nat → Nat → Nat) (cI : ClassId) (cZ : ClassId) (tt : Nat → Nat) (sd : Nat → Nat) (a_this : Nat) (a_this_town : Nat) (a_this_spoken : Nat) (a_this_spoken_all : Nat) (a_this_town_kinds : Nat) (a_this_town_kinds_all : Nat) (sz : Nat) (v_square : Int32) (v_came : Int32) (v_allWords : Int32) (v_allCorners : Int32) (v_allCuts : Int32) (v_run : Int32) (v_longestRun : Int32) (g_spoken_all : Nat → Int32) (v_town_home : Int32) (v_town_fine : Int32) (v_town_breath : Int32) (g_town_kinds_all : Nat → Int32) (w0 : Int32) (w1 : Int32) (w2 : Nat → Int32) (hf : f_Stroll_speak v_allWords v_run v_square g_spoken_all g_town_kinds_all = some (w0, w1, w2)) : Met l yX4_speak wsX4_speak ({ frames := 2, cells := 0, slots := 0, locals := 42 }) (zPre (dC, dI) vwCl [(cI, .int), (cZ, .boolean)] tt sd [.ref a_this] [(a_this, .inr (4, [.ref a_this_town, .int v_square, .int v_came, .int v_allWords, .int v_allCorners, .int v_allCuts, .int v_run, .int v_longestRun, .ref a_this_spoken])), (a_this_spoken, .inr (1, [.ref a_this_spoken_all])), (a_this_spoken_all, .inl (cI, 36, .inl g_spoken_all)), (a_this_town, .inr (6, [.ref a_this_town_kinds, .int v_town_home, .int v_town_fine, .int v_town_breath])), (a_this_town_kinds, .inr (1, [.ref a_this_town_kinds_all])), (a_this_town_kinds_all, .inl (cI, 36, .inl g_town_kinds_all))] sz) (zQv (dC, dI) vwCl [(cI, .int), (cZ, .boolean)] [(a_this, .inr (4, [.ref a_this_town, .int v_square, .int v_came, .int w0, .int v_allCorners, .int v_allCuts, .int w1, .int v_longestRun, .ref a_this_spoken])), (a_this_spoken, .inr (1, [.ref a_this_spoken_all])), (a_this_spoken_all, .inl (cI, 36, .inl w2)), (a_this_town, .inr (6, [.ref a_this_town_kinds, .int v_town_home, .int v_town_fine, .int v_town_breath])), (a_this_town_kinds, .inr (1, [.ref a_this_town_kinds_all])), (a_this_town_kinds_all, .inl (cI, 36, .inl g_town_kinds_all))] (va_A [(a_this, .inr (4, [.ref a_this_town, .int v_square, .int v_came, .int v_allWords, .int v_allCorners, .int v_allCuts, .int v_run, .int v_longestRun, .ref a_this_spoken])), (a_this_spoken, .inr (1, [.ref a_this_spoken_all])), (a_this_spoken_all, .inl (cI, 36, .inl g_spoken_all)), (a_this_town, .inr (6, [.ref a_this_town_kinds, .int v_town_home, .int v_town_fine, .int v_town_breath])), (a_this_town_kinds, .inr (1, [.ref a_this_town_kinds_all])), (a_this_town_kinds_all, .inl (cI, 36, .inl g_town_kinds_all))] sz)) 0 0 (va_A [(a_this, .inr (4, [.ref a_this_town, .int v_square, .int v_came, .int v_allWords, .int v_allCorners, .int v_allCuts, .int v_run, .int v_longestRun, .ref a_this_spoken])), (a_this_spoken, .inr (1, [.ref a_this_spoken_all])), (a_this_spoken_all, .inl (cI, 36, .inl g_spoken_all)), (a_this_town, .inr (6, [.ref a_this_town_kinds, .int v_town_home, .int v_town_fine, .int v_town_breath])), (a_this_town_kinds, .inr (1, [.ref a_this_town_kinds_all])), (a_this_town_kinds_all, .inl (cI, 36, .inl g_town_kinds_all))] sz) := by
  refine Met.ofW (cc := cX4_speak) (maxL := 1) (ret := none) (by decide) rfl ?_
  intro p e s m args below meth c s₁ B hml hv
  obtain ⟨rfl, hsz, hP, hK, hD0, hZ⟩ := hv
  have hx := B.exec
  have hb := B.bytes
  have hr := B.returns
  have hts := atoms_spec (ws := wsX4_speak) B.pre
  have hown : s.vm.findClass RX4 = some m.cls := findClass_of_methodNamed B.named
  have hlocks := B.notSynchronized
  subst hsz
  have hD := hD0.self (sz := s.heap.size)
  generalize hAe : va_A [(a_this, .inr (4, [.ref a_this_town, .int v_square, .int v_came, .int v_allWords, .int v_allCorners, .int v_allCuts, .int v_run, .int v_longestRun, .ref a_this_spoken])), (a_this_spoken, .inr (1, [.ref a_this_spoken_all])), (a_this_spoken_all, .inl (cI, 36, .inl g_spoken_all)), (a_this_town, .inr (6, [.ref a_this_town_kinds, .int v_town_home, .int v_town_fine, .int v_town_breath])), (a_this_town_kinds, .inr (1, [.ref a_this_town_kinds_all])), (a_this_town_kinds_all, .inl (cI, 36, .inl g_town_kinds_all))] s.heap.size = A at hD hZ ⊢
  have hA : ∀ q : Nat, s.heap.size ≤ q → A q := fun q h => by rw [← hAe]; exact Or.inr h
  have hS : va_S A s.heap s.heap [] := va_S.rf
  have hP : va_P (dC, dI) vwCl [(a_this, .inr (4, [.ref a_this_town, .int v_square, .int v_came, .int v_allWords, .int v_allCorners, .int v_allCuts, .int v_run, .int v_longestRun, .ref a_this_spoken])), (a_this_spoken, .inr (1, [.ref a_this_spoken_all])), (a_this_spoken_all, .inl (cI, 36, .inl g_spoken_all)), (a_this_town, .inr (6, [.ref a_this_town_kinds, .int v_town_home, .int v_town_fine, .int v_town_breath])), (a_this_town_kinds, .inr (1, [.ref a_this_town_kinds_all])), (a_this_town_kinds_all, .inl (cI, 36, .inl g_town_kinds_all))] s.heap := hP
  have hl := lv_entry ([.ref a_this]) (n := 1) (Nat.le_of_ble_eq_true rfl)
  rw [lg_entry_eq]
  generalize (lg_sl ([.ref a_this]) ++ List.replicate (1 - (lg_sl ([.ref a_this])).length) Slot.unset).toArray = ls at hl ⊢
  have hl : lv_has ls 1 [(0, .ref a_this)] := hl
  have he := hf
  unfold f_Stroll_speak at he
  refine lv_aload_n hx hb dX4_speak_0 rfl (lv_at hl 0 rfl) ?_
  refine lv_dup hx hb dX4_speak_1 rfl ?_
  refine va_get (D := (dC, dI)) (ci := 4) (v := .int v_allWords) (C := RX4) (T := TX4) (N := 9) hx hb hts (by decide +kernel) hown hK hP 0 rfl rfl 3 (by decide) (hts (.fieldLink RX4 37 "LawOfCorners$Stroll" "allWords" "I") (by decide +kernel)) (fun _ h9 => h9) rfl dX4_speak_2 ?_
  refine lv_aload_n hx hb dX4_speak_5 rfl (lv_at hl 0 rfl) ?_
  refine va_get (D := (dC, dI)) (ci := 4) (v := .ref a_this_town) (C := RX4) (T := TX4) (N := 9) hx hb hts (by decide +kernel) hown hK hP 0 rfl rfl 0 (by decide) (hts (.fieldLink RX4 20 "LawOfCorners$Stroll" "town" "LLawOfCorners$Town;") (by decide +kernel)) (fun _ h9 => h9) rfl dX4_speak_6 ?_
  refine lv_aload_n hx hb dX4_speak_9 rfl (lv_at hl 0 rfl) ?_
  refine va_get (D := (dC, dI)) (ci := 4) (v := .int v_square) (C := RX4) (T := TX4) (N := 9) hx hb hts (by decide +kernel) hown hK hP 0 rfl rfl 1 (by decide) (hts (.fieldLink RX4 30 "LawOfCorners$Stroll" "square" "I") (by decide +kernel)) (fun _ h9 => h9) rfl dX4_speak_10 ?_
  obtain ⟨r1, hf2, he⟩ := zb1_e he
  refine zc_i (wr := [(a_this, .inr (4, [.ref a_this_town, .int v_square, .int v_came, .int v_allWords, .int v_allCorners, .int v_allCuts, .int v_run, .int v_longestRun, .ref a_this_spoken])), (a_this_spoken, .inr (1, [.ref a_this_spoken_all])), (a_this_spoken_all, .inl (cI, 36, .inl g_spoken_all))]) (ws' := [(a_this, .inr (4, [.ref a_this_town, .int v_square, .int v_came, .int v_allWords, .int v_allCorners, .int v_allCuts, .int v_run, .int v_longestRun, .ref a_this_spoken])), (a_this_spoken, .inr (1, [.ref a_this_spoken_all])), (a_this_spoken_all, .inl (cI, 36, .inl g_spoken_all)), (a_this_town, .inr (6, [.ref a_this_town_kinds, .int v_town_home, .int v_town_fine, .int v_town_breath])), (a_this_town_kinds, .inr (1, [.ref a_this_town_kinds_all])), (a_this_town_kinds_all, .inl (cI, 36, .inl g_town_kinds_all))]) (va_runV (As := [.int v_square]) (rest := [.int v_allWords, .ref a_this]) ⟨hx, hb, hml, hown, hts⟩ (k_Town_wordsOn l dC dI cI cZ tt sd a_this_town a_this_town_kinds a_this_town_kinds_all s.heap.size v_town_home v_town_fine v_town_breath g_town_kinds_all v_square r1 hf2) (cwV 1 hts gX4_speak_X6_wordsOn rfl rfl rfl (by decide +kernel) ⟨Nat.le_of_ble_eq_true rfl, Nat.le_of_ble_eq_true rfl⟩) (zpV hP hD hK hS hA hZ [3, 4, 5] rfl rfl 6 3 rfl rfl) rfl rfl hl.1 rfl (lv_room (Nat.le_of_ble_eq_true rfl)) dX4_speak_13 ⟨Nat.zero_le _, Nat.zero_le _⟩) hP hD hS hA [3, 4, 5] [0, 1, 2] [0, 1, 2, 3, 4, 5] rfl rfl rfl (by decide) rfl rfl rfl (fun H locs hP hD hS => ?_)
  refine lv_iadd hx hb dX4_speak_16 ?_
  refine lv_topi (fun x3 ex3 => ?_)
  have he := zn_e ex3 he
  refine va_put (D := (dC, dI)) (ci := 4) (v := .int x3) (ty := .int) (C := RX4) (T := TX4) (N := 9) hx hb hts (by decide +kernel) tyX4 tyX4_ok nmX4 hown hK hP hD hS 0 rfl rfl 3 (by decide) (hts (.fieldLink RX4 37 "LawOfCorners$Stroll" "allWords" "I") (by decide +kernel)) (fun _ h9 => h9) rfl (by decide +kernel) rfl rfl (Nat.le_of_ble_eq_true rfl) dX4_speak_17 (fun H locs hP hD hS => ?_)
  have hP : va_P (dC, dI) vwCl [(a_this, .inr (4, [.ref a_this_town, .int v_square, .int v_came, .int x3, .int v_allCorners, .int v_allCuts, .int v_run, .int v_longestRun, .ref a_this_spoken])), (a_this_spoken, .inr (1, [.ref a_this_spoken_all])), (a_this_spoken_all, .inl (cI, 36, .inl g_spoken_all)), (a_this_town, .inr (6, [.ref a_this_town_kinds, .int v_town_home, .int v_town_fine, .int v_town_breath])), (a_this_town_kinds, .inr (1, [.ref a_this_town_kinds_all])), (a_this_town_kinds_all, .inl (cI, 36, .inl g_town_kinds_all))] H := hP
  have hD : va_D A [(a_this, .inr (4, [.ref a_this_town, .int v_square, .int v_came, .int x3, .int v_allCorners, .int v_allCuts, .int v_run, .int v_longestRun, .ref a_this_spoken])), (a_this_spoken, .inr (1, [.ref a_this_spoken_all])), (a_this_spoken_all, .inl (cI, 36, .inl g_spoken_all)), (a_this_town, .inr (6, [.ref a_this_town_kinds, .int v_town_home, .int v_town_fine, .int v_town_breath])), (a_this_town_kinds, .inr (1, [.ref a_this_town_kinds_all])), (a_this_town_kinds_all, .inl (cI, 36, .inl g_town_kinds_all))] := hD
  refine lv_aload_n hx hb dX4_speak_20 rfl (lv_at hl 0 rfl) ?_
  refine va_get (D := (dC, dI)) (ci := 4) (v := .ref a_this_spoken) (C := RX4) (T := TX4) (N := 9) hx hb hts (by decide +kernel) hown hK hP 0 rfl rfl 8 (by decide) (hts (.fieldLink RX4 14 "LawOfCorners$Stroll" "spoken" "LLawOfCorners$Numbers;") (by decide +kernel)) (fun _ h9 => h9) rfl dX4_speak_21 ?_
  refine lv_aload_n hx hb dX4_speak_24 rfl (lv_at hl 0 rfl) ?_
  refine va_get (D := (dC, dI)) (ci := 4) (v := .int v_square) (C := RX4) (T := TX4) (N := 9) hx hb hts (by decide +kernel) hown hK hP 0 rfl rfl 1 (by decide) (hts (.fieldLink RX4 30 "LawOfCorners$Stroll" "square" "I") (by decide +kernel)) (fun _ h9 => h9) rfl dX4_speak_25 ?_
  refine lv_aload_n hx hb dX4_speak_28 rfl (lv_at hl 0 rfl) ?_
  refine va_get (D := (dC, dI)) (ci := 4) (v := .ref a_this_spoken) (C := RX4) (T := TX4) (N := 9) hx hb hts (by decide +kernel) hown hK hP 0 rfl rfl 8 (by decide) (hts (.fieldLink RX4 14 "LawOfCorners$Stroll" "spoken" "LLawOfCorners$Numbers;") (by decide +kernel)) (fun _ h9 => h9) rfl dX4_speak_29 ?_
  refine lv_aload_n hx hb dX4_speak_32 rfl (lv_at hl 0 rfl) ?_
  refine va_get (D := (dC, dI)) (ci := 4) (v := .int v_square) (C := RX4) (T := TX4) (N := 9) hx hb hts (by decide +kernel) hown hK hP 0 rfl rfl 1 (by decide) (hts (.fieldLink RX4 30 "LawOfCorners$Stroll" "square" "I") (by decide +kernel)) (fun _ h9 => h9) rfl dX4_speak_33 ?_
  obtain ⟨r4, hf5, he⟩ := zb1_e he
  refine zc_i (wr := [(a_this, .inr (4, [.ref a_this_town, .int v_square, .int v_came, .int x3, .int v_allCorners, .int v_allCuts, .int v_run, .int v_longestRun, .ref a_this_spoken])), (a_this_town, .inr (6, [.ref a_this_town_kinds, .int v_town_home, .int v_town_fine, .int v_town_breath])), (a_this_town_kinds, .inr (1, [.ref a_this_town_kinds_all])), (a_this_town_kinds_all, .inl (cI, 36, .inl g_town_kinds_all))]) (ws' := [(a_this, .inr (4, [.ref a_this_town, .int v_square, .int v_came, .int x3, .int v_allCorners, .int v_allCuts, .int v_run, .int v_longestRun, .ref a_this_spoken])), (a_this_spoken, .inr (1, [.ref a_this_spoken_all])), (a_this_spoken_all, .inl (cI, 36, .inl g_spoken_all)), (a_this_town, .inr (6, [.ref a_this_town_kinds, .int v_town_home, .int v_town_fine, .int v_town_breath])), (a_this_town_kinds, .inr (1, [.ref a_this_town_kinds_all])), (a_this_town_kinds_all, .inl (cI, 36, .inl g_town_kinds_all))]) (va_runV (As := [.int v_square]) (rest := [.int v_square, .ref a_this_spoken]) ⟨hx, hb, hml, hown, hts⟩ (k_Numbers_at l dC dI cI cZ tt sd a_this_spoken a_this_spoken_all H.size 36 g_spoken_all v_square r4 hf5) (cwV 1 hts gX4_speak_X1_at rfl rfl rfl (by decide +kernel) ⟨Nat.le_of_ble_eq_true rfl, Nat.le_of_ble_eq_true rfl⟩) (zpV hP hD hK hS hA hZ [1, 2] rfl rfl 1 1 rfl rfl) rfl rfl hl.1 rfl (lv_room (Nat.le_of_ble_eq_true rfl)) dX4_speak_36 ⟨Nat.zero_le _, Nat.zero_le _⟩) hP hD hS hA [1, 2] [0, 3, 4, 5] [0, 4, 5, 1, 2, 3] rfl rfl rfl (by decide) rfl rfl rfl (fun H locs hP hD hS => ?_)
  refine lv_iconst (v := (1 : Int32)) hx hb dX4_speak_39 (by decide) ?_
  refine lv_iadd hx hb dX4_speak_40 ?_
  obtain ⟨g_spoken_all_6, hf7, he⟩ := zb1_e he
  refine zc_v (wr := [(a_this, .inr (4, [.ref a_this_town, .int v_square, .int v_came, .int x3, .int v_allCorners, .int v_allCuts, .int v_run, .int v_longestRun, .ref a_this_spoken])), (a_this_town, .inr (6, [.ref a_this_town_kinds, .int v_town_home, .int v_town_fine, .int v_town_breath])), (a_this_town_kinds, .inr (1, [.ref a_this_town_kinds_all])), (a_this_town_kinds_all, .inl (cI, 36, .inl g_town_kinds_all))]) (ws' := [(a_this, .inr (4, [.ref a_this_town, .int v_square, .int v_came, .int x3, .int v_allCorners, .int v_allCuts, .int v_run, .int v_longestRun, .ref a_this_spoken])), (a_this_spoken, .inr (1, [.ref a_this_spoken_all])), (a_this_spoken_all, .inl (cI, 36, .inl g_spoken_all_6)), (a_this_town, .inr (6, [.ref a_this_town_kinds, .int v_town_home, .int v_town_fine, .int v_town_breath])), (a_this_town_kinds, .inr (1, [.ref a_this_town_kinds_all])), (a_this_town_kinds_all, .inl (cI, 36, .inl g_town_kinds_all))]) (va_runV (As := [.int v_square, .int (r4 + (1 : Int32))]) (rest := []) ⟨hx, hb, hml, hown, hts⟩ (k_Numbers_put l dC dI cI cZ tt sd a_this_spoken a_this_spoken_all H.size 36 g_spoken_all v_square (r4 + (1 : Int32)) g_spoken_all_6 hf7) (cwV 2 hts gX4_speak_X1_put rfl rfl rfl (by decide +kernel) ⟨Nat.le_of_ble_eq_true rfl, Nat.le_of_ble_eq_true rfl⟩) (zpV hP hD hK hS hA hZ [1, 2] rfl rfl 1 1 rfl rfl) rfl rfl hl.1 rfl (lv_room (Nat.le_of_ble_eq_true rfl)) dX4_speak_41 ⟨Nat.zero_le _, Nat.zero_le _⟩) hP hD hS hA [1, 2] [0, 3, 4, 5] [0, 4, 5, 1, 2, 3] rfl rfl rfl (by decide) rfl rfl rfl (fun H locs hP hD hS => ?_)
  refine lv_aload_n hx hb dX4_speak_44 rfl (lv_at hl 0 rfl) ?_
  refine lv_dup hx hb dX4_speak_45 rfl ?_
  refine va_get (D := (dC, dI)) (ci := 4) (v := .int v_run) (C := RX4) (T := TX4) (N := 9) hx hb hts (by decide +kernel) hown hK hP 0 rfl rfl 6 (by decide) (hts (.fieldLink RX4 46 "LawOfCorners$Stroll" "run" "I") (by decide +kernel)) (fun _ h9 => h9) rfl dX4_speak_46 ?_
  refine lv_aload_n hx hb dX4_speak_49 rfl (lv_at hl 0 rfl) ?_
  refine va_get (D := (dC, dI)) (ci := 4) (v := .ref a_this_town) (C := RX4) (T := TX4) (N := 9) hx hb hts (by decide +kernel) hown hK hP 0 rfl rfl 0 (by decide) (hts (.fieldLink RX4 20 "LawOfCorners$Stroll" "town" "LLawOfCorners$Town;") (by decide +kernel)) (fun _ h9 => h9) rfl dX4_speak_50 ?_
  refine lv_aload_n hx hb dX4_speak_53 rfl (lv_at hl 0 rfl) ?_
  refine va_get (D := (dC, dI)) (ci := 4) (v := .int v_square) (C := RX4) (T := TX4) (N := 9) hx hb hts (by decide +kernel) hown hK hP 0 rfl rfl 1 (by decide) (hts (.fieldLink RX4 30 "LawOfCorners$Stroll" "square" "I") (by decide +kernel)) (fun _ h9 => h9) rfl dX4_speak_54 ?_
  obtain ⟨r8, hf9, he⟩ := zb1_e he
  refine zc_i (wr := [(a_this, .inr (4, [.ref a_this_town, .int v_square, .int v_came, .int x3, .int v_allCorners, .int v_allCuts, .int v_run, .int v_longestRun, .ref a_this_spoken])), (a_this_spoken, .inr (1, [.ref a_this_spoken_all])), (a_this_spoken_all, .inl (cI, 36, .inl g_spoken_all_6))]) (ws' := [(a_this, .inr (4, [.ref a_this_town, .int v_square, .int v_came, .int x3, .int v_allCorners, .int v_allCuts, .int v_run, .int v_longestRun, .ref a_this_spoken])), (a_this_spoken, .inr (1, [.ref a_this_spoken_all])), (a_this_spoken_all, .inl (cI, 36, .inl g_spoken_all_6)), (a_this_town, .inr (6, [.ref a_this_town_kinds, .int v_town_home, .int v_town_fine, .int v_town_breath])), (a_this_town_kinds, .inr (1, [.ref a_this_town_kinds_all])), (a_this_town_kinds_all, .inl (cI, 36, .inl g_town_kinds_all))]) (va_runV (As := [.int v_square]) (rest := [.int v_run, .ref a_this]) ⟨hx, hb, hml, hown, hts⟩ (k_Town_wordsOn l dC dI cI cZ tt sd a_this_town a_this_town_kinds a_this_town_kinds_all H.size v_town_home v_town_fine v_town_breath g_town_kinds_all v_square r8 hf9) (cwV 1 hts gX4_speak_X6_wordsOn rfl rfl rfl (by decide +kernel) ⟨Nat.le_of_ble_eq_true rfl, Nat.le_of_ble_eq_true rfl⟩) (zpV hP hD hK hS hA hZ [3, 4, 5] rfl rfl 6 3 rfl rfl) rfl rfl hl.1 rfl (lv_room (Nat.le_of_ble_eq_true rfl)) dX4_speak_57 ⟨Nat.zero_le _, Nat.zero_le _⟩) hP hD hS hA [3, 4, 5] [0, 1, 2] [0, 1, 2, 3, 4, 5] rfl rfl rfl (by decide) rfl rfl rfl (fun H locs hP hD hS => ?_)
  refine lv_iadd hx hb dX4_speak_60 ?_
  refine lv_topi (fun x10 ex10 => ?_)
  have he := zn_e ex10 he
  refine va_put (D := (dC, dI)) (ci := 4) (v := .int x10) (ty := .int) (C := RX4) (T := TX4) (N := 9) hx hb hts (by decide +kernel) tyX4 tyX4_ok nmX4 hown hK hP hD hS 0 rfl rfl 6 (by decide) (hts (.fieldLink RX4 46 "LawOfCorners$Stroll" "run" "I") (by decide +kernel)) (fun _ h9 => h9) rfl (by decide +kernel) rfl rfl (Nat.le_of_ble_eq_true rfl) dX4_speak_61 (fun H locs hP hD hS => ?_)
  have hP : va_P (dC, dI) vwCl [(a_this, .inr (4, [.ref a_this_town, .int v_square, .int v_came, .int x3, .int v_allCorners, .int v_allCuts, .int x10, .int v_longestRun, .ref a_this_spoken])), (a_this_spoken, .inr (1, [.ref a_this_spoken_all])), (a_this_spoken_all, .inl (cI, 36, .inl g_spoken_all_6)), (a_this_town, .inr (6, [.ref a_this_town_kinds, .int v_town_home, .int v_town_fine, .int v_town_breath])), (a_this_town_kinds, .inr (1, [.ref a_this_town_kinds_all])), (a_this_town_kinds_all, .inl (cI, 36, .inl g_town_kinds_all))] H := hP
  have hD : va_D A [(a_this, .inr (4, [.ref a_this_town, .int v_square, .int v_came, .int x3, .int v_allCorners, .int v_allCuts, .int x10, .int v_longestRun, .ref a_this_spoken])), (a_this_spoken, .inr (1, [.ref a_this_spoken_all])), (a_this_spoken_all, .inl (cI, 36, .inl g_spoken_all_6)), (a_this_town, .inr (6, [.ref a_this_town_kinds, .int v_town_home, .int v_town_fine, .int v_town_breath])), (a_this_town_kinds, .inr (1, [.ref a_this_town_kinds_all])), (a_this_town_kinds_all, .inl (cI, 36, .inl g_town_kinds_all))] := hD
  cases he
  exact W.vret hx hb hr (fun t ht hW => ⟨⟨(), rfl, trivial, by rw [ht]; exact hP, va_K.moved hW.alike hK, hD⟩, hS.F ht⟩) hS.2.2 dX4_speak_64
set_option maxHeartbeats 4000000 in
set_option maxRecDepth 100000 in
theorem k_Stroll_endRun (l : Launch) (dC : Nat → ClassId) (dI : Nat → Nat → Nat) (cI : ClassId) (cZ : ClassId) (tt : Nat → Nat) (sd : Nat → Nat) (a_this : Nat) (a_this_town : Nat) (a_this_spoken : Nat) (a_this_town_kinds : Nat) (sz : Nat) (v_square : Int32) (v_came : Int32) (v_allWords : Int32) (v_allCorners : Int32) (v_allCuts : Int32) (v_run : Int32) (v_longestRun : Int32) (v_town_home : Int32) (v_town_fine : Int32) (v_town_breath : Int32) (w0 : Int32) (w1 : Int32) (w2 : Int32) (hf : f_Stroll_endRun v_allCuts v_longestRun v_run v_town_breath = some (w0, w1, w2)) : Met l yX4_endRun wsX4_endRun ({ frames := 1, cells := 0, slots := 0, locals := 32 }) (zPre (dC, dI) vwCl [(cI, .int), (cZ, .boolean)] tt sd [.ref a_this] [(a_this, .inr (4, [.ref a_this_town, .int v_square, .int v_came, .int v_allWords, .int v_allCorners, .int v_allCuts, .int v_run, .int v_longestRun, .ref a_this_spoken])), (a_this_town, .inr (6, [.ref a_this_town_kinds, .int v_town_home, .int v_town_fine, .int v_town_breath]))] sz) (zQv (dC, dI) vwCl [(cI, .int), (cZ, .boolean)] [(a_this, .inr (4, [.ref a_this_town, .int v_square, .int v_came, .int v_allWords, .int v_allCorners, .int w0, .int w2, .int w1, .ref a_this_spoken])), (a_this_town, .inr (6, [.ref a_this_town_kinds, .int v_town_home, .int v_town_fine, .int v_town_breath]))] (va_A [(a_this, .inr (4, [.ref a_this_town, .int v_square, .int v_came, .int v_allWords, .int v_allCorners, .int v_allCuts, .int v_run, .int v_longestRun, .ref a_this_spoken])), (a_this_town, .inr (6, [.ref a_this_town_kinds, .int v_town_home, .int v_town_fine, .int v_town_breath]))] sz)) 0 0 (va_A [(a_this, .inr (4, [.ref a_this_town, .int v_square, .int v_came, .int v_allWords, .int v_allCorners, .int v_allCuts, .int v_run, .int v_longestRun, .ref a_this_spoken])), (a_this_town, .inr (6, [.ref a_this_town_kinds, .int v_town_home, .int v_town_fine, .int v_town_breath]))] sz) := by
  refine Met.ofW (cc := cX4_endRun) (maxL := 2) (ret := none) (by decide) rfl ?_
  intro p e s m args below meth c s₁ B hml hv
  obtain ⟨rfl, hsz, hP, hK, hD0, hZ⟩ := hv
  have hx := B.exec
  have hb := B.bytes
  have hr := B.returns
  have hts := atoms_spec (ws := wsX4_endRun) B.pre
  have hown : s.vm.findClass RX4 = some m.cls := findClass_of_methodNamed B.named
  have hlocks := B.notSynchronized
  subst hsz
  have hD := hD0.self (sz := s.heap.size)
  generalize hAe : va_A [(a_this, .inr (4, [.ref a_this_town, .int v_square, .int v_came, .int v_allWords, .int v_allCorners, .int v_allCuts, .int v_run, .int v_longestRun, .ref a_this_spoken])), (a_this_town, .inr (6, [.ref a_this_town_kinds, .int v_town_home, .int v_town_fine, .int v_town_breath]))] s.heap.size = A at hD hZ ⊢
  have hA : ∀ q : Nat, s.heap.size ≤ q → A q := fun q h => by rw [← hAe]; exact Or.inr h
  have hS : va_S A s.heap s.heap [] := va_S.rf
  have hP : va_P (dC, dI) vwCl [(a_this, .inr (4, [.ref a_this_town, .int v_square, .int v_came, .int v_allWords, .int v_allCorners, .int v_allCuts, .int v_run, .int v_longestRun, .ref a_this_spoken])), (a_this_town, .inr (6, [.ref a_this_town_kinds, .int v_town_home, .int v_town_fine, .int v_town_breath]))] s.heap := hP
  have hl := lv_entry ([.ref a_this]) (n := 2) (Nat.le_of_ble_eq_true rfl)
  rw [lg_entry_eq]
  generalize (lg_sl ([.ref a_this]) ++ List.replicate (2 - (lg_sl ([.ref a_this])).length) Slot.unset).toArray = ls at hl ⊢
  have hl : lv_has ls 2 [(0, .ref a_this)] := hl
  have he := hf
  unfold f_Stroll_endRun at he
  refine zstart (D := (dC, dI)) (cl := vwCl) (A := A) (nL := 2) (fun WW hWW => ?_)
  refine lv_aload_n hx hb dX4_endRun_0 rfl (lv_at hl 0 rfl) ?_
  refine va_get (D := (dC, dI)) (ci := 4) (v := .ref a_this_town) (C := RX4) (T := TX4) (N := 9) hx hb hts (by decide +kernel) hown hK hP 0 rfl rfl 0 (by decide) (hts (.fieldLink RX4 20 "LawOfCorners$Stroll" "town" "LLawOfCorners$Town;") (by decide +kernel)) (fun _ h9 => h9) rfl dX4_endRun_1 ?_
  obtain ⟨r1, hf2, he⟩ := zb1_e he
  refine zc_i (wr := [(a_this, .inr (4, [.ref a_this_town, .int v_square, .int v_came, .int v_allWords, .int v_allCorners, .int v_allCuts, .int v_run, .int v_longestRun, .ref a_this_spoken]))]) (ws' := [(a_this, .inr (4, [.ref a_this_town, .int v_square, .int v_came, .int v_allWords, .int v_allCorners, .int v_allCuts, .int v_run, .int v_longestRun, .ref a_this_spoken])), (a_this_town, .inr (6, [.ref a_this_town_kinds, .int v_town_home, .int v_town_fine, .int v_town_breath]))]) (va_runV (As := []) (rest := []) ⟨hx, hb, hml, hown, hts⟩ (k_Town_breath l dC dI cI cZ tt sd a_this_town a_this_town_kinds s.heap.size v_town_home v_town_fine v_town_breath r1 hf2) (cwV 0 hts gX4_endRun_X6_breath rfl rfl rfl (by decide +kernel) ⟨Nat.le_of_ble_eq_true rfl, Nat.le_of_ble_eq_true rfl⟩) (zpV hP hD hK hS hA hZ [1] rfl rfl 6 1 rfl rfl) rfl rfl hl.1 rfl (lv_room (Nat.le_of_ble_eq_true rfl)) dX4_endRun_4 ⟨Nat.zero_le _, Nat.zero_le _⟩) hP hD hS hA [1] [0] [0, 1] rfl rfl rfl (by decide) rfl rfl rfl (fun H locs hP hD hS => ?_)
  refine lv_istore_n (lv' := [(1, .int r1), (0, .ref a_this)]) hx hb dX4_endRun_7 rfl hl (by decide) rfl (fun ls hl => ?_)
  refine lv_aload_n hx hb dX4_endRun_8 rfl (lv_at hl 1 rfl) ?_
  refine va_get (D := (dC, dI)) (ci := 4) (v := .int v_run) (C := RX4) (T := TX4) (N := 9) hx hb hts (by decide +kernel) hown hK hP 0 rfl rfl 6 (by decide) (hts (.fieldLink RX4 46 "LawOfCorners$Stroll" "run" "I") (by decide +kernel)) (fun _ h9 => h9) rfl dX4_endRun_9 ?_
  refine zj1_w he (fun (v_allCuts_3 : Int32) => WW [(a_this, .inr (4, [.ref a_this_town, .int v_square, .int v_came, .int v_allWords, .int v_allCorners, .int v_allCuts_3, .int v_run, .int v_longestRun, .ref a_this_spoken])), (a_this_town, .inr (6, [.ref a_this_town_kinds, .int v_town_home, .int v_town_fine, .int v_town_breath]))] [(0, .ref a_this)] 36 []) (fun v_allCuts_3 he => (hWW _ _ _ _).mpr (fun H locs ls hP hD hS hl => ?_)) (fun k5 hk5 he => ?_)
  · refine lv_aload_n hx hb dX4_endRun_36 rfl (lv_at hl 0 rfl) ?_
    refine lv_aload_n hx hb dX4_endRun_37 rfl (lv_at hl 0 rfl) ?_
    refine va_get (D := (dC, dI)) (ci := 4) (v := .int v_longestRun) (C := RX4) (T := TX4) (N := 9) hx hb hts (by decide +kernel) hown hK hP 0 rfl rfl 7 (by decide) (hts (.fieldLink RX4 49 "LawOfCorners$Stroll" "longestRun" "I") (by decide +kernel)) (fun _ h9 => h9) rfl dX4_endRun_38 ?_
    refine lv_aload_n hx hb dX4_endRun_41 rfl (lv_at hl 0 rfl) ?_
    refine va_get (D := (dC, dI)) (ci := 4) (v := .int v_run) (C := RX4) (T := TX4) (N := 9) hx hb hts (by decide +kernel) hown hK hP 0 rfl rfl 6 (by decide) (hts (.fieldLink RX4 46 "LawOfCorners$Stroll" "run" "I") (by decide +kernel)) (fun _ h9 => h9) rfl dX4_endRun_42 ?_
    refine va_mmax hx hb (by rw [hml]; exact hl.1.symm) hown (hts (.methodLink RX4 83 Lib.Math.max.name) (by decide +kernel)) (hts (.static Lib.Math.max.name) (by decide +kernel)) (hts (.initialized "java/lang/Math") (by decide +kernel)) (hts (.code Lib.Math.max.name Lib.Math.max.code 2 (some .int)) (by decide +kernel)) (Nat.le_of_ble_eq_true rfl) (Nat.le_of_ble_eq_true rfl) (Nat.zero_le _) (Nat.zero_le _) dX4_endRun_45 ?_
    refine lv_topi (fun x4 ex4 => ?_)
    have he := zn_e (show x4 = zmax v_longestRun v_run from ex4) he
    refine va_put (D := (dC, dI)) (ci := 4) (v := .int x4) (ty := .int) (C := RX4) (T := TX4) (N := 9) hx hb hts (by decide +kernel) tyX4 tyX4_ok nmX4 hown hK hP hD hS 0 rfl rfl 7 (by decide) (hts (.fieldLink RX4 49 "LawOfCorners$Stroll" "longestRun" "I") (by decide +kernel)) (fun _ h9 => h9) rfl (by decide +kernel) rfl rfl (Nat.le_of_ble_eq_true rfl) dX4_endRun_48 (fun H locs hP hD hS => ?_)
    have hP : va_P (dC, dI) vwCl [(a_this, .inr (4, [.ref a_this_town, .int v_square, .int v_came, .int v_allWords, .int v_allCorners, .int v_allCuts_3, .int v_run, .int x4, .ref a_this_spoken])), (a_this_town, .inr (6, [.ref a_this_town_kinds, .int v_town_home, .int v_town_fine, .int v_town_breath]))] H := hP
    have hD : va_D A [(a_this, .inr (4, [.ref a_this_town, .int v_square, .int v_came, .int v_allWords, .int v_allCorners, .int v_allCuts_3, .int v_run, .int x4, .ref a_this_spoken])), (a_this_town, .inr (6, [.ref a_this_town_kinds, .int v_town_home, .int v_town_fine, .int v_town_breath]))] := hD
    refine lv_aload_n hx hb dX4_endRun_51 rfl (lv_at hl 0 rfl) ?_
    refine lv_iconst (v := (0 : Int32)) hx hb dX4_endRun_52 (by decide) ?_
    refine va_put (D := (dC, dI)) (ci := 4) (v := .int (0 : Int32)) (ty := .int) (C := RX4) (T := TX4) (N := 9) hx hb hts (by decide +kernel) tyX4 tyX4_ok nmX4 hown hK hP hD hS 0 rfl rfl 6 (by decide) (hts (.fieldLink RX4 46 "LawOfCorners$Stroll" "run" "I") (by decide +kernel)) (fun _ h9 => h9) rfl (by decide +kernel) rfl rfl (Nat.le_of_ble_eq_true rfl) dX4_endRun_53 (fun H locs hP hD hS => ?_)
    have hP : va_P (dC, dI) vwCl [(a_this, .inr (4, [.ref a_this_town, .int v_square, .int v_came, .int v_allWords, .int v_allCorners, .int v_allCuts_3, .int (0 : Int32), .int x4, .ref a_this_spoken])), (a_this_town, .inr (6, [.ref a_this_town_kinds, .int v_town_home, .int v_town_fine, .int v_town_breath]))] H := hP
    have hD : va_D A [(a_this, .inr (4, [.ref a_this_town, .int v_square, .int v_came, .int v_allWords, .int v_allCorners, .int v_allCuts_3, .int (0 : Int32), .int x4, .ref a_this_spoken])), (a_this_town, .inr (6, [.ref a_this_town_kinds, .int v_town_home, .int v_town_fine, .int v_town_breath]))] := hD
    cases he
    exact W.vret hx hb hr (fun t ht hW => ⟨⟨(), rfl, trivial, by rw [ht]; exact hP, va_K.moved hW.alike hK, hD⟩, hS.F ht⟩) hS.2.2 dX4_endRun_56
  refine lv_if_le (tgt := 36) hx hb dX4_endRun_12 (by decide) (fun c6 => ?_) (fun c6 => ?_)
  · have he := zif_t c6 he
    exact (hWW _ _ _ _).mp (hk5 v_allCuts he) _ _ _ hP hD hS (lv_sub hl [1] rfl)
  · have he := zif_f c6 he
    refine lv_iload_n hx hb dX4_endRun_15 rfl (lv_at hl 0 rfl) ?_
    refine lv_if_le (tgt := 36) hx hb dX4_endRun_16 (by decide) (fun c7 => ?_) (fun c7 => ?_)
    · have he := zif_t c7 he
      exact (hWW _ _ _ _).mp (hk5 v_allCuts he) _ _ _ hP hD hS (lv_sub hl [1] rfl)
    · have he := zif_f c7 he
      refine lv_aload_n hx hb dX4_endRun_19 rfl (lv_at hl 1 rfl) ?_
      refine lv_dup hx hb dX4_endRun_20 rfl ?_
      refine va_get (D := (dC, dI)) (ci := 4) (v := .int v_allCuts) (C := RX4) (T := TX4) (N := 9) hx hb hts (by decide +kernel) hown hK hP 0 rfl rfl 5 (by decide) (hts (.fieldLink RX4 43 "LawOfCorners$Stroll" "allCuts" "I") (by decide +kernel)) (fun _ h9 => h9) rfl dX4_endRun_21 ?_
      refine lv_aload_n hx hb dX4_endRun_24 rfl (lv_at hl 1 rfl) ?_
      refine va_get (D := (dC, dI)) (ci := 4) (v := .int v_run) (C := RX4) (T := TX4) (N := 9) hx hb hts (by decide +kernel) hown hK hP 0 rfl rfl 6 (by decide) (hts (.fieldLink RX4 46 "LawOfCorners$Stroll" "run" "I") (by decide +kernel)) (fun _ h9 => h9) rfl dX4_endRun_25 ?_
      refine lv_iconst (v := (1 : Int32)) hx hb dX4_endRun_28 (by decide) ?_
      refine lv_isub hx hb dX4_endRun_29 ?_
      refine lv_iload_n hx hb dX4_endRun_30 rfl (lv_at hl 0 rfl) ?_
      obtain ⟨hg8, he⟩ := zg_e he
      refine lv_idiv hx hb dX4_endRun_31 hg8 ?_
      refine lv_iadd hx hb dX4_endRun_32 ?_
      refine lv_topi (fun x9 ex9 => ?_)
      have he := zn_e ex9 he
      refine va_put (D := (dC, dI)) (ci := 4) (v := .int x9) (ty := .int) (C := RX4) (T := TX4) (N := 9) hx hb hts (by decide +kernel) tyX4 tyX4_ok nmX4 hown hK hP hD hS 0 rfl rfl 5 (by decide) (hts (.fieldLink RX4 43 "LawOfCorners$Stroll" "allCuts" "I") (by decide +kernel)) (fun _ h9 => h9) rfl (by decide +kernel) rfl rfl (Nat.le_of_ble_eq_true rfl) dX4_endRun_33 (fun H locs hP hD hS => ?_)
      have hP : va_P (dC, dI) vwCl [(a_this, .inr (4, [.ref a_this_town, .int v_square, .int v_came, .int v_allWords, .int v_allCorners, .int x9, .int v_run, .int v_longestRun, .ref a_this_spoken])), (a_this_town, .inr (6, [.ref a_this_town_kinds, .int v_town_home, .int v_town_fine, .int v_town_breath]))] H := hP
      have hD : va_D A [(a_this, .inr (4, [.ref a_this_town, .int v_square, .int v_came, .int v_allWords, .int v_allCorners, .int x9, .int v_run, .int v_longestRun, .ref a_this_spoken])), (a_this_town, .inr (6, [.ref a_this_town_kinds, .int v_town_home, .int v_town_fine, .int v_town_breath]))] := hD
      exact (hWW _ _ _ _).mp (hk5 x9 he) _ _ _ hP hD hS (lv_sub hl [1] rfl)
set_option maxHeartbeats 4000000 in
set_option maxRecDepth 100000 in
theorem k_Stroll_end (l : Launch) (dC : Nat → ClassId) (dI : Nat → Nat → Nat) (cI : ClassId) (cZ : ClassId) (tt : Nat → Nat) (sd : Nat → Nat) (a_this : Nat) (a_this_town : Nat) (a_this_spoken : Nat) (a_this_spoken_all : Nat) (a_this_town_kinds : Nat) (a_this_town_kinds_all : Nat) (sz : Nat) (v_square : Int32) (v_came : Int32) (v_allWords : Int32) (v_allCorners : Int32) (v_allCuts : Int32) (v_run : Int32) (v_longestRun : Int32) (g_spoken_all : Nat → Int32) (v_town_home : Int32) (v_town_fine : Int32) (v_town_breath : Int32) (g_town_kinds_all : Nat → Int32) (w0 : Int32) (w1 : Int32) (w2 : Int32) (w3 : Int32) (w4 : Nat → Int32) (hf : f_Stroll_end v_allCuts v_allWords v_longestRun v_run v_square g_spoken_all v_town_breath g_town_kinds_all = some (w0, w1, w2, w3, w4)) : Met l yX4_end wsX4_end ({ frames := 3, cells := 0, slots := 0, locals := 62 }) (zPre (dC, dI) vwCl [(cI, .int), (cZ, .boolean)] tt sd [.ref a_this] [(a_this, .inr (4, [.ref a_this_town, .int v_square, .int v_came, .int v_allWords, .int v_allCorners, .int v_allCuts, .int v_run, .int v_longestRun, .ref a_this_spoken])), (a_this_spoken, .inr (1, [.ref a_this_spoken_all])), (a_this_spoken_all, .inl (cI, 36, .inl g_spoken_all)), (a_this_town, .inr (6, [.ref a_this_town_kinds, .int v_town_home, .int v_town_fine, .int v_town_breath])), (a_this_town_kinds, .inr (1, [.ref a_this_town_kinds_all])), (a_this_town_kinds_all, .inl (cI, 36, .inl g_town_kinds_all))] sz) (zQv (dC, dI) vwCl [(cI, .int), (cZ, .boolean)] [(a_this, .inr (4, [.ref a_this_town, .int v_square, .int v_came, .int w1, .int v_allCorners, .int w0, .int w3, .int w2, .ref a_this_spoken])), (a_this_spoken, .inr (1, [.ref a_this_spoken_all])), (a_this_spoken_all, .inl (cI, 36, .inl w4)), (a_this_town, .inr (6, [.ref a_this_town_kinds, .int v_town_home, .int v_town_fine, .int v_town_breath])), (a_this_town_kinds, .inr (1, [.ref a_this_town_kinds_all])), (a_this_town_kinds_all, .inl (cI, 36, .inl g_town_kinds_all))] (va_A [(a_this, .inr (4, [.ref a_this_town, .int v_square, .int v_came, .int v_allWords, .int v_allCorners, .int v_allCuts, .int v_run, .int v_longestRun, .ref a_this_spoken])), (a_this_spoken, .inr (1, [.ref a_this_spoken_all])), (a_this_spoken_all, .inl (cI, 36, .inl g_spoken_all)), (a_this_town, .inr (6, [.ref a_this_town_kinds, .int v_town_home, .int v_town_fine, .int v_town_breath])), (a_this_town_kinds, .inr (1, [.ref a_this_town_kinds_all])), (a_this_town_kinds_all, .inl (cI, 36, .inl g_town_kinds_all))] sz)) 0 0 (va_A [(a_this, .inr (4, [.ref a_this_town, .int v_square, .int v_came, .int v_allWords, .int v_allCorners, .int v_allCuts, .int v_run, .int v_longestRun, .ref a_this_spoken])), (a_this_spoken, .inr (1, [.ref a_this_spoken_all])), (a_this_spoken_all, .inl (cI, 36, .inl g_spoken_all)), (a_this_town, .inr (6, [.ref a_this_town_kinds, .int v_town_home, .int v_town_fine, .int v_town_breath])), (a_this_town_kinds, .inr (1, [.ref a_this_town_kinds_all])), (a_this_town_kinds_all, .inl (cI, 36, .inl g_town_kinds_all))] sz) := by
  refine Met.ofW (cc := cX4_end) (maxL := 1) (ret := none) (by decide) rfl ?_
  intro p e s m args below meth c s₁ B hml hv
  obtain ⟨rfl, hsz, hP, hK, hD0, hZ⟩ := hv
  have hx := B.exec
  have hb := B.bytes
  have hr := B.returns
  have hts := atoms_spec (ws := wsX4_end) B.pre
  have hown : s.vm.findClass RX4 = some m.cls := findClass_of_methodNamed B.named
  have hlocks := B.notSynchronized
  subst hsz
  have hD := hD0.self (sz := s.heap.size)
  generalize hAe : va_A [(a_this, .inr (4, [.ref a_this_town, .int v_square, .int v_came, .int v_allWords, .int v_allCorners, .int v_allCuts, .int v_run, .int v_longestRun, .ref a_this_spoken])), (a_this_spoken, .inr (1, [.ref a_this_spoken_all])), (a_this_spoken_all, .inl (cI, 36, .inl g_spoken_all)), (a_this_town, .inr (6, [.ref a_this_town_kinds, .int v_town_home, .int v_town_fine, .int v_town_breath])), (a_this_town_kinds, .inr (1, [.ref a_this_town_kinds_all])), (a_this_town_kinds_all, .inl (cI, 36, .inl g_town_kinds_all))] s.heap.size = A at hD hZ ⊢
  have hA : ∀ q : Nat, s.heap.size ≤ q → A q := fun q h => by rw [← hAe]; exact Or.inr h
  have hS : va_S A s.heap s.heap [] := va_S.rf
  have hP : va_P (dC, dI) vwCl [(a_this, .inr (4, [.ref a_this_town, .int v_square, .int v_came, .int v_allWords, .int v_allCorners, .int v_allCuts, .int v_run, .int v_longestRun, .ref a_this_spoken])), (a_this_spoken, .inr (1, [.ref a_this_spoken_all])), (a_this_spoken_all, .inl (cI, 36, .inl g_spoken_all)), (a_this_town, .inr (6, [.ref a_this_town_kinds, .int v_town_home, .int v_town_fine, .int v_town_breath])), (a_this_town_kinds, .inr (1, [.ref a_this_town_kinds_all])), (a_this_town_kinds_all, .inl (cI, 36, .inl g_town_kinds_all))] s.heap := hP
  have hl := lv_entry ([.ref a_this]) (n := 1) (Nat.le_of_ble_eq_true rfl)
  rw [lg_entry_eq]
  generalize (lg_sl ([.ref a_this]) ++ List.replicate (1 - (lg_sl ([.ref a_this])).length) Slot.unset).toArray = ls at hl ⊢
  have hl : lv_has ls 1 [(0, .ref a_this)] := hl
  have he := hf
  unfold f_Stroll_end at he
  refine lv_aload_n hx hb dX4_end_0 rfl (lv_at hl 0 rfl) ?_
  obtain ⟨v_allWords_1, v_run_2, g_spoken_all_3, hf4, he⟩ := zb3_e he
  refine zc_v (wr := []) (ws' := [(a_this, .inr (4, [.ref a_this_town, .int v_square, .int v_came, .int v_allWords_1, .int v_allCorners, .int v_allCuts, .int v_run_2, .int v_longestRun, .ref a_this_spoken])), (a_this_spoken, .inr (1, [.ref a_this_spoken_all])), (a_this_spoken_all, .inl (cI, 36, .inl g_spoken_all_3)), (a_this_town, .inr (6, [.ref a_this_town_kinds, .int v_town_home, .int v_town_fine, .int v_town_breath])), (a_this_town_kinds, .inr (1, [.ref a_this_town_kinds_all])), (a_this_town_kinds_all, .inl (cI, 36, .inl g_town_kinds_all))]) (va_runV (As := []) (rest := []) ⟨hx, hb, hml, hown, hts⟩ (k_Stroll_speak l dC dI cI cZ tt sd a_this a_this_town a_this_spoken a_this_spoken_all a_this_town_kinds a_this_town_kinds_all s.heap.size v_square v_came v_allWords v_allCorners v_allCuts v_run v_longestRun g_spoken_all v_town_home v_town_fine v_town_breath g_town_kinds_all v_allWords_1 v_run_2 g_spoken_all_3 hf4) (cwV 0 hts gX4_end_X4_speak rfl rfl rfl (by decide +kernel) ⟨Nat.le_of_ble_eq_true rfl, Nat.le_of_ble_eq_true rfl⟩) (zpV hP hD hK hS hA hZ [0, 1, 2, 3, 4, 5] rfl rfl 4 0 rfl rfl) rfl rfl hl.1 rfl (lv_room (Nat.le_of_ble_eq_true rfl)) dX4_end_1 ⟨Nat.zero_le _, Nat.zero_le _⟩) hP hD hS hA [0, 1, 2, 3, 4, 5] [] [0, 1, 2, 3, 4, 5] rfl rfl rfl (by decide) rfl rfl rfl (fun H locs hP hD hS => ?_)
  refine lv_aload_n hx hb dX4_end_4 rfl (lv_at hl 0 rfl) ?_
  obtain ⟨v_allCuts_5, v_longestRun_6, v_run_7, hf8, he⟩ := zb3_e he
  refine zc_v (wr := [(a_this_spoken, .inr (1, [.ref a_this_spoken_all])), (a_this_spoken_all, .inl (cI, 36, .inl g_spoken_all_3)), (a_this_town_kinds, .inr (1, [.ref a_this_town_kinds_all])), (a_this_town_kinds_all, .inl (cI, 36, .inl g_town_kinds_all))]) (ws' := [(a_this, .inr (4, [.ref a_this_town, .int v_square, .int v_came, .int v_allWords_1, .int v_allCorners, .int v_allCuts_5, .int v_run_7, .int v_longestRun_6, .ref a_this_spoken])), (a_this_spoken, .inr (1, [.ref a_this_spoken_all])), (a_this_spoken_all, .inl (cI, 36, .inl g_spoken_all_3)), (a_this_town, .inr (6, [.ref a_this_town_kinds, .int v_town_home, .int v_town_fine, .int v_town_breath])), (a_this_town_kinds, .inr (1, [.ref a_this_town_kinds_all])), (a_this_town_kinds_all, .inl (cI, 36, .inl g_town_kinds_all))]) (va_runV (As := []) (rest := []) ⟨hx, hb, hml, hown, hts⟩ (k_Stroll_endRun l dC dI cI cZ tt sd a_this a_this_town a_this_spoken a_this_town_kinds H.size v_square v_came v_allWords_1 v_allCorners v_allCuts v_run_2 v_longestRun v_town_home v_town_fine v_town_breath v_allCuts_5 v_longestRun_6 v_run_7 hf8) (cwV 0 hts gX4_end_X4_endRun rfl rfl rfl (by decide +kernel) ⟨Nat.le_of_ble_eq_true rfl, Nat.le_of_ble_eq_true rfl⟩) (zpV hP hD hK hS hA hZ [0, 3] rfl rfl 4 0 rfl rfl) rfl rfl hl.1 rfl (lv_room (Nat.le_of_ble_eq_true rfl)) dX4_end_5 ⟨Nat.zero_le _, Nat.zero_le _⟩) hP hD hS hA [0, 3] [1, 2, 4, 5] [4, 0, 1, 5, 2, 3] rfl rfl rfl (by decide) rfl rfl rfl (fun H locs hP hD hS => ?_)
  cases he
  exact W.vret hx hb hr (fun t ht hW => ⟨⟨(), rfl, trivial, by rw [ht]; exact hP, va_K.moved hW.alike hK, hD⟩, hS.F ht⟩) hS.2.2 dX4_end_8
