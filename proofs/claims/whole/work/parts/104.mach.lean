set_option maxHeartbeats 4000000 in
set_option maxRecDepth 100000 in
theorem k_Town_beside (l : Launch) (dC : Nat → ClassId) (dI : Nat → Nat → Nat) (cI : ClassId) (cZ : ClassId) (tt : Nat → Nat) (sd : Nat → Nat) (sz : Nat) (p0 : Int32) (p1 : Int32) (r0 : Int32) (hf : f_Town_beside p0 p1 = some (r0)) : Met l yX6_beside wsX6_beside ({ frames := 1, cells := 0, slots := 0, locals := 20 }) (zPre (dC, dI) vwCl [(cI, .int), (cZ, .boolean)] tt sd [.int p0, .int p1] [] sz) (zQi (dC, dI) vwCl [(cI, .int), (cZ, .boolean)] r0 [] (va_A [] sz)) 0 0 (va_A [] sz) := by
  refine Met.ofW (cc := cX6_beside) (maxL := 3) (ret := (some .int)) (by decide) rfl ?_
  intro p e s m args below meth c s₁ B hml hv
  obtain ⟨rfl, hsz, hP, hK, hD0, hZ⟩ := hv
  have hx := B.exec
  have hb := B.bytes
  have hr := B.returns
  have hts := atoms_spec (ws := wsX6_beside) B.pre
  have hown : s.vm.findClass RX6 = some m.cls := findClass_of_methodNamed B.named
  have hlocks := B.notSynchronized
  subst hsz
  have hD := hD0.self (sz := s.heap.size)
  generalize hAe : va_A [] s.heap.size = A at hD hZ ⊢
  have hA : ∀ q : Nat, s.heap.size ≤ q → A q := fun q h => by rw [← hAe]; exact Or.inr h
  have hS : va_S A s.heap s.heap [] := va_S.rf
  have hP : va_P (dC, dI) vwCl [] s.heap := hP
  have hl := lv_entry ([.int p0, .int p1]) (n := 3) (Nat.le_of_ble_eq_true rfl)
  rw [lg_entry_eq]
  generalize (lg_sl ([.int p0, .int p1]) ++ List.replicate (3 - (lg_sl ([.int p0, .int p1])).length) Slot.unset).toArray = ls at hl ⊢
  have hl : lv_has ls 3 [(0, .int p0), (1, .int p1)] := hl
  have he := hf
  unfold f_Town_beside at he
  refine lv_iload_n hx hb dX6_beside_0 rfl (lv_at hl 0 rfl) ?_
  obtain ⟨r1, hf2, he⟩ := zb1_e he
  refine zc_i (wr := []) (ws' := []) (va_runSN (As := [.int p0]) (rest := []) ⟨hx, hb, hml, hown, hts⟩ (k_X_isSquare l dC dI cI cZ tt sd s.heap.size p0 r1 hf2) ⟨va_cnB 1 hts gX6_beside_X7_isSquare_n38 rfl rfl rfl (zZ_N0 hZ) (hts (.initialized RX7) (by decide +kernel)) (by decide +kernel) ⟨Nat.le_of_ble_eq_true rfl, Nat.le_of_ble_eq_true rfl⟩, hts (.static yX7_isSquare) (by decide +kernel), trivial⟩ (zpS hP hD hK hS hA hZ [] rfl rfl) rfl rfl hl.1 rfl (lv_room (Nat.le_of_ble_eq_true rfl)) dX6_beside_1 ⟨Nat.zero_le _, Nat.zero_le _⟩) hP hD hS hA [] [] [] rfl rfl rfl (by decide) rfl rfl rfl (fun H locs hP hD hS => ?_)
  refine lv_if_ne (tgt := 9) hx hb dX6_beside_4 (by decide) (fun c3 => ?_) (fun c3 => ?_)
  · have he := zif_f c3 he
    refine lv_iload_n hx hb dX6_beside_9 rfl (lv_at hl 0 rfl) ?_
    refine lv_bipush (v := (6 : Int32)) hx hb dX6_beside_10 (by decide) ?_
    refine lv_irem hx hb dX6_beside_12 (by decide) ?_
    refine lv_topi (fun x4 ex4 => ?_)
    have he := zn_e ex4 he
    refine lv_istore_n (lv' := [(2, .int x4), (0, .int p0), (1, .int p1)]) hx hb dX6_beside_13 rfl hl (by decide) rfl (fun ls hl => ?_)
    refine lv_iload_n hx hb dX6_beside_14 rfl (lv_at hl 2 rfl) ?_
    by_cases c5 : p1 = (0 : Int32)
    · have he := zif_t c5 he
      refine lv_tableIn (off := 29) (tgt := 44) hx hb dX6_beside_15 (by rw [c5]; decide) (by rw [c5]; decide) (by rw [c5]; rfl) (by decide) ?_
      refine lv_iload_n hx hb dX6_beside_44 rfl (lv_at hl 1 rfl) ?_
      refine lv_bipush (v := (6 : Int32)) hx hb dX6_beside_45 (by decide) ?_
      refine lv_icmp_lt (tgt := 57) hx hb dX6_beside_47 (by decide) (fun c6 => ?_) (fun c6 => ?_)
      · have he := zif_t c6 he
        refine lv_iconst (v := (-1 : Int32)) hx hb dX6_beside_57 (by decide) ?_
        obtain ⟨rfl⟩ := zi1 he
        exact W.iret hx hb hr (fun t ht hW => ⟨⟨_, (), rfl, rfl, by rw [ht]; exact hP, va_K.moved hW.alike hK, hD⟩, hS.F ht⟩) hS.2.2 dX6_beside_58
      · have he := zif_f c6 he
        refine lv_iload_n hx hb dX6_beside_50 rfl (lv_at hl 1 rfl) ?_
        refine lv_bipush (v := (6 : Int32)) hx hb dX6_beside_51 (by decide) ?_
        refine lv_isub hx hb dX6_beside_53 ?_
        refine lv_goto (tgt := 58) hx hb dX6_beside_54 (by decide) ?_
        obtain ⟨rfl⟩ := zi1 he
        exact W.iret hx hb hr (fun t ht hW => ⟨⟨_, (), rfl, rfl, by rw [ht]; exact hP, va_K.moved hW.alike hK, hD⟩, hS.F ht⟩) hS.2.2 dX6_beside_58
    have he := zif_f c5 he
    by_cases c7 : p1 = (1 : Int32)
    · have he := zif_t c7 he
      refine lv_tableIn (off := 44) (tgt := 59) hx hb dX6_beside_15 (by rw [c7]; decide) (by rw [c7]; decide) (by rw [c7]; rfl) (by decide) ?_
      refine lv_iload_n hx hb dX6_beside_59 rfl (lv_at hl 0 rfl) ?_
      refine lv_if_le (tgt := 69) hx hb dX6_beside_60 (by decide) (fun c8 => ?_) (fun c8 => ?_)
      · have he := zif_t c8 he
        refine lv_iconst (v := (-1 : Int32)) hx hb dX6_beside_69 (by decide) ?_
        obtain ⟨rfl⟩ := zi1 he
        exact W.iret hx hb hr (fun t ht hW => ⟨⟨_, (), rfl, rfl, by rw [ht]; exact hP, va_K.moved hW.alike hK, hD⟩, hS.F ht⟩) hS.2.2 dX6_beside_70
      · have he := zif_f c8 he
        refine lv_iload_n hx hb dX6_beside_63 rfl (lv_at hl 1 rfl) ?_
        refine lv_iconst (v := (1 : Int32)) hx hb dX6_beside_64 (by decide) ?_
        refine lv_isub hx hb dX6_beside_65 ?_
        refine lv_goto (tgt := 70) hx hb dX6_beside_66 (by decide) ?_
        obtain ⟨rfl⟩ := zi1 he
        exact W.iret hx hb hr (fun t ht hW => ⟨⟨_, (), rfl, rfl, by rw [ht]; exact hP, va_K.moved hW.alike hK, hD⟩, hS.F ht⟩) hS.2.2 dX6_beside_70
    have he := zif_f c7 he
    by_cases c9 : p1 = (2 : Int32)
    · have he := zif_t c9 he
      refine lv_tableIn (off := 56) (tgt := 71) hx hb dX6_beside_15 (by rw [c9]; decide) (by rw [c9]; decide) (by rw [c9]; rfl) (by decide) ?_
      refine lv_iload_n hx hb dX6_beside_71 rfl (lv_at hl 0 rfl) ?_
      refine lv_iconst (v := (5 : Int32)) hx hb dX6_beside_72 (by decide) ?_
      refine lv_icmp_ge (tgt := 82) hx hb dX6_beside_73 (by decide) (fun c10 => ?_) (fun c10 => ?_)
      · have he := zif_t c10 he
        refine lv_iconst (v := (-1 : Int32)) hx hb dX6_beside_82 (by decide) ?_
        obtain ⟨rfl⟩ := zi1 he
        exact W.iret hx hb hr (fun t ht hW => ⟨⟨_, (), rfl, rfl, by rw [ht]; exact hP, va_K.moved hW.alike hK, hD⟩, hS.F ht⟩) hS.2.2 dX6_beside_83
      · have he := zif_f c10 he
        refine lv_iload_n hx hb dX6_beside_76 rfl (lv_at hl 1 rfl) ?_
        refine lv_iconst (v := (1 : Int32)) hx hb dX6_beside_77 (by decide) ?_
        refine lv_iadd hx hb dX6_beside_78 ?_
        refine lv_goto (tgt := 83) hx hb dX6_beside_79 (by decide) ?_
        obtain ⟨rfl⟩ := zi1 he
        exact W.iret hx hb hr (fun t ht hW => ⟨⟨_, (), rfl, rfl, by rw [ht]; exact hP, va_K.moved hW.alike hK, hD⟩, hS.F ht⟩) hS.2.2 dX6_beside_83
    have he := zif_f c9 he
    by_cases c11 : p1 = (3 : Int32)
    · have he := zif_t c11 he
      refine lv_tableIn (off := 69) (tgt := 84) hx hb dX6_beside_15 (by rw [c11]; decide) (by rw [c11]; decide) (by rw [c11]; rfl) (by decide) ?_
      refine lv_iload_n hx hb dX6_beside_84 rfl (lv_at hl 1 rfl) ?_
      refine lv_bipush (v := (30 : Int32)) hx hb dX6_beside_85 (by decide) ?_
      refine lv_icmp_ge (tgt := 97) hx hb dX6_beside_87 (by decide) (fun c12 => ?_) (fun c12 => ?_)
      · have he := zif_t c12 he
        refine lv_iconst (v := (-1 : Int32)) hx hb dX6_beside_97 (by decide) ?_
        obtain ⟨rfl⟩ := zi1 he
        exact W.iret hx hb hr (fun t ht hW => ⟨⟨_, (), rfl, rfl, by rw [ht]; exact hP, va_K.moved hW.alike hK, hD⟩, hS.F ht⟩) hS.2.2 dX6_beside_98
      · have he := zif_f c12 he
        refine lv_iload_n hx hb dX6_beside_90 rfl (lv_at hl 1 rfl) ?_
        refine lv_bipush (v := (6 : Int32)) hx hb dX6_beside_91 (by decide) ?_
        refine lv_iadd hx hb dX6_beside_93 ?_
        refine lv_goto (tgt := 98) hx hb dX6_beside_94 (by decide) ?_
        obtain ⟨rfl⟩ := zi1 he
        exact W.iret hx hb hr (fun t ht hW => ⟨⟨_, (), rfl, rfl, by rw [ht]; exact hP, va_K.moved hW.alike hK, hD⟩, hS.F ht⟩) hS.2.2 dX6_beside_98
    have he := zif_f c11 he
    refine lv_tableOut (tgt := 99) hx hb dX6_beside_15 (by have n0 := lv_neT (a := 0) c5 (by decide); have n1 := lv_neT (a := 1) c7 (by decide); have n2 := lv_neT (a := 2) c9 (by decide); have n3 := lv_neT (a := 3) c11 (by decide); omega) (by decide) ?_
    refine lv_iconst (v := (-1 : Int32)) hx hb dX6_beside_99 (by decide) ?_
    obtain ⟨rfl⟩ := zi1 he
    exact W.iret hx hb hr (fun t ht hW => ⟨⟨_, (), rfl, rfl, by rw [ht]; exact hP, va_K.moved hW.alike hK, hD⟩, hS.F ht⟩) hS.2.2 dX6_beside_100
  · have he := zif_t c3 he
    refine lv_iconst (v := (-1 : Int32)) hx hb dX6_beside_7 (by decide) ?_
    obtain ⟨rfl⟩ := zi1 he
    exact W.iret hx hb hr (fun t ht hW => ⟨⟨_, (), rfl, rfl, by rw [ht]; exact hP, va_K.moved hW.alike hK, hD⟩, hS.F ht⟩) hS.2.2 dX6_beside_8
set_option maxHeartbeats 4000000 in
set_option maxRecDepth 100000 in
theorem k_Town_next (l : Launch) (dC : Nat → ClassId) (dI : Nat → Nat → Nat) (cI : ClassId) (cZ : ClassId) (tt : Nat → Nat) (sd : Nat → Nat) (a_this : Nat) (a_this_kinds : Nat) (a_this_kinds_all : Nat) (sz : Nat) (v_home : Int32) (v_fine : Int32) (v_breath : Int32) (g_kinds_all : Nat → Int32) (p1 : Int32) (p2 : Int32) (r0 : Int32) (hf : f_Town_next g_kinds_all p1 p2 = some (r0)) : Met l yX6_next wsX6_next ({ frames := 2, cells := 0, slots := 0, locals := 42 }) (zPre (dC, dI) vwCl [(cI, .int), (cZ, .boolean)] tt sd [.ref a_this, .int p1, .int p2] [(a_this, .inr (6, [.ref a_this_kinds, .int v_home, .int v_fine, .int v_breath])), (a_this_kinds, .inr (1, [.ref a_this_kinds_all])), (a_this_kinds_all, .inl (cI, 36, .inl g_kinds_all))] sz) (zQi (dC, dI) vwCl [(cI, .int), (cZ, .boolean)] r0 [(a_this, .inr (6, [.ref a_this_kinds, .int v_home, .int v_fine, .int v_breath])), (a_this_kinds, .inr (1, [.ref a_this_kinds_all])), (a_this_kinds_all, .inl (cI, 36, .inl g_kinds_all))] (va_A [(a_this, .inr (6, [.ref a_this_kinds, .int v_home, .int v_fine, .int v_breath])), (a_this_kinds, .inr (1, [.ref a_this_kinds_all])), (a_this_kinds_all, .inl (cI, 36, .inl g_kinds_all))] sz)) 0 0 (va_A [(a_this, .inr (6, [.ref a_this_kinds, .int v_home, .int v_fine, .int v_breath])), (a_this_kinds, .inr (1, [.ref a_this_kinds_all])), (a_this_kinds_all, .inl (cI, 36, .inl g_kinds_all))] sz) := by
  refine Met.ofW (cc := cX6_next) (maxL := 4) (ret := (some .int)) (by decide) rfl ?_
  intro p e s m args below meth c s₁ B hml hv
  obtain ⟨rfl, hsz, hP, hK, hD0, hZ⟩ := hv
  have hx := B.exec
  have hb := B.bytes
  have hr := B.returns
  have hts := atoms_spec (ws := wsX6_next) B.pre
  have hown : s.vm.findClass RX6 = some m.cls := findClass_of_methodNamed B.named
  have hlocks := B.notSynchronized
  subst hsz
  have hD := hD0.self (sz := s.heap.size)
  generalize hAe : va_A [(a_this, .inr (6, [.ref a_this_kinds, .int v_home, .int v_fine, .int v_breath])), (a_this_kinds, .inr (1, [.ref a_this_kinds_all])), (a_this_kinds_all, .inl (cI, 36, .inl g_kinds_all))] s.heap.size = A at hD hZ ⊢
  have hA : ∀ q : Nat, s.heap.size ≤ q → A q := fun q h => by rw [← hAe]; exact Or.inr h
  have hS : va_S A s.heap s.heap [] := va_S.rf
  have hP : va_P (dC, dI) vwCl [(a_this, .inr (6, [.ref a_this_kinds, .int v_home, .int v_fine, .int v_breath])), (a_this_kinds, .inr (1, [.ref a_this_kinds_all])), (a_this_kinds_all, .inl (cI, 36, .inl g_kinds_all))] s.heap := hP
  have hl := lv_entry ([.ref a_this, .int p1, .int p2]) (n := 4) (Nat.le_of_ble_eq_true rfl)
  rw [lg_entry_eq]
  generalize (lg_sl ([.ref a_this, .int p1, .int p2]) ++ List.replicate (4 - (lg_sl ([.ref a_this, .int p1, .int p2])).length) Slot.unset).toArray = ls at hl ⊢
  have hl : lv_has ls 4 [(0, .ref a_this), (1, .int p1), (2, .int p2)] := hl
  have he := hf
  unfold f_Town_next at he
  refine lv_iload_n hx hb dX6_next_0 rfl (lv_at hl 1 rfl) ?_
  refine lv_iload_n hx hb dX6_next_1 rfl (lv_at hl 2 rfl) ?_
  obtain ⟨r1, hf2, he⟩ := zb1_e he
  refine zc_i (wr := [(a_this, .inr (6, [.ref a_this_kinds, .int v_home, .int v_fine, .int v_breath])), (a_this_kinds, .inr (1, [.ref a_this_kinds_all])), (a_this_kinds_all, .inl (cI, 36, .inl g_kinds_all))]) (ws' := [(a_this, .inr (6, [.ref a_this_kinds, .int v_home, .int v_fine, .int v_breath])), (a_this_kinds, .inr (1, [.ref a_this_kinds_all])), (a_this_kinds_all, .inl (cI, 36, .inl g_kinds_all))]) (va_runS (As := [.int p1, .int p2]) (rest := []) ⟨hx, hb, hml, hown, hts⟩ (k_Town_beside l dC dI cI cZ tt sd s.heap.size p1 p2 r1 hf2) (va_cwS 2 hts gX6_next_X6_beside rfl rfl rfl (by decide +kernel) ⟨Nat.le_of_ble_eq_true rfl, Nat.le_of_ble_eq_true rfl⟩) (zpS hP hD hK hS hA hZ [] rfl rfl) rfl rfl hl.1 rfl (lv_room (Nat.le_of_ble_eq_true rfl)) dX6_next_2 ⟨Nat.zero_le _, Nat.zero_le _⟩) hP hD hS hA [] [0, 1, 2] [0, 1, 2] rfl rfl rfl (by decide) rfl rfl rfl (fun H locs hP hD hS => ?_)
  refine lv_istore_n (lv' := [(3, .int r1), (0, .ref a_this), (1, .int p1), (2, .int p2)]) hx hb dX6_next_5 rfl hl (by decide) rfl (fun ls hl => ?_)
  refine lv_aload_n hx hb dX6_next_6 rfl (lv_at hl 1 rfl) ?_
  refine lv_iload_n hx hb dX6_next_7 rfl (lv_at hl 0 rfl) ?_
  obtain ⟨r3, hf4, he⟩ := zb1_e he
  refine zc_i (wr := []) (ws' := [(a_this, .inr (6, [.ref a_this_kinds, .int v_home, .int v_fine, .int v_breath])), (a_this_kinds, .inr (1, [.ref a_this_kinds_all])), (a_this_kinds_all, .inl (cI, 36, .inl g_kinds_all))]) (va_runV (As := [.int r1]) (rest := []) ⟨hx, hb, hml, hown, hts⟩ (k_Town_canBe l dC dI cI cZ tt sd a_this a_this_kinds a_this_kinds_all H.size v_home v_fine v_breath g_kinds_all r1 r3 hf4) (cwV 1 hts gX6_next_X6_canBe rfl rfl rfl (by decide +kernel) ⟨Nat.le_of_ble_eq_true rfl, Nat.le_of_ble_eq_true rfl⟩) (zpV hP hD hK hS hA hZ [0, 1, 2] rfl rfl 6 0 rfl rfl) rfl rfl hl.1 rfl (lv_room (Nat.le_of_ble_eq_true rfl)) dX6_next_8 ⟨Nat.zero_le _, Nat.zero_le _⟩) hP hD hS hA [0, 1, 2] [] [0, 1, 2] rfl rfl rfl (by decide) rfl rfl rfl (fun H locs hP hD hS => ?_)
  refine lv_if_eq (tgt := 18) hx hb dX6_next_11 (by decide) (fun c5 => ?_) (fun c5 => ?_)
  · have he := zif_t c5 he
    refine lv_iconst (v := (-1 : Int32)) hx hb dX6_next_18 (by decide) ?_
    obtain ⟨rfl⟩ := zi1 he
    exact W.iret hx hb hr (fun t ht hW => ⟨⟨_, (), rfl, rfl, by rw [ht]; exact hP, va_K.moved hW.alike hK, hD⟩, hS.F ht⟩) hS.2.2 dX6_next_19
  · have he := zif_f c5 he
    refine lv_iload_n hx hb dX6_next_14 rfl (lv_at hl 0 rfl) ?_
    refine lv_goto (tgt := 19) hx hb dX6_next_15 (by decide) ?_
    obtain ⟨rfl⟩ := zi1 he
    exact W.iret hx hb hr (fun t ht hW => ⟨⟨_, (), rfl, rfl, by rw [ht]; exact hP, va_K.moved hW.alike hK, hD⟩, hS.F ht⟩) hS.2.2 dX6_next_19
set_option maxHeartbeats 4000000 in
set_option maxRecDepth 100000 in
theorem k_Town_isCorner (l : Launch) (dC : Nat → ClassId) (dI : Nat → Nat → Nat) (cI : ClassId) (cZ : ClassId) (tt : Nat → Nat) (sd : Nat → Nat) (a_this : Nat) (a_this_kinds : Nat) (a_this_kinds_all : Nat) (sz : Nat) (v_home : Int32) (v_fine : Int32) (v_breath : Int32) (g_kinds_all : Nat → Int32) (p1 : Int32) (p2 : Int32) (p3 : Int32) (r0 : Int32) (hf : f_Town_isCorner g_kinds_all p1 p2 p3 = some (r0)) : Met l yX6_isCorner wsX6_isCorner ({ frames := 2, cells := 0, slots := 0, locals := 42 }) (zPre (dC, dI) vwCl [(cI, .int), (cZ, .boolean)] tt sd [.ref a_this, .int p1, .int p2, .int p3] [(a_this, .inr (6, [.ref a_this_kinds, .int v_home, .int v_fine, .int v_breath])), (a_this_kinds, .inr (1, [.ref a_this_kinds_all])), (a_this_kinds_all, .inl (cI, 36, .inl g_kinds_all))] sz) (zQi (dC, dI) vwCl [(cI, .int), (cZ, .boolean)] r0 [(a_this, .inr (6, [.ref a_this_kinds, .int v_home, .int v_fine, .int v_breath])), (a_this_kinds, .inr (1, [.ref a_this_kinds_all])), (a_this_kinds_all, .inl (cI, 36, .inl g_kinds_all))] (va_A [(a_this, .inr (6, [.ref a_this_kinds, .int v_home, .int v_fine, .int v_breath])), (a_this_kinds, .inr (1, [.ref a_this_kinds_all])), (a_this_kinds_all, .inl (cI, 36, .inl g_kinds_all))] sz)) 0 0 (va_A [(a_this, .inr (6, [.ref a_this_kinds, .int v_home, .int v_fine, .int v_breath])), (a_this_kinds, .inr (1, [.ref a_this_kinds_all])), (a_this_kinds_all, .inl (cI, 36, .inl g_kinds_all))] sz) := by
  refine Met.ofW (cc := cX6_isCorner) (maxL := 4) (ret := (some .boolean)) (by decide) rfl ?_
  intro p e s m args below meth c s₁ B hml hv
  obtain ⟨rfl, hsz, hP, hK, hD0, hZ⟩ := hv
  have hx := B.exec
  have hb := B.bytes
  have hr := B.returns
  have hts := atoms_spec (ws := wsX6_isCorner) B.pre
  have hown : s.vm.findClass RX6 = some m.cls := findClass_of_methodNamed B.named
  have hlocks := B.notSynchronized
  subst hsz
  have hD := hD0.self (sz := s.heap.size)
  generalize hAe : va_A [(a_this, .inr (6, [.ref a_this_kinds, .int v_home, .int v_fine, .int v_breath])), (a_this_kinds, .inr (1, [.ref a_this_kinds_all])), (a_this_kinds_all, .inl (cI, 36, .inl g_kinds_all))] s.heap.size = A at hD hZ ⊢
  have hA : ∀ q : Nat, s.heap.size ≤ q → A q := fun q h => by rw [← hAe]; exact Or.inr h
  have hS : va_S A s.heap s.heap [] := va_S.rf
  have hP : va_P (dC, dI) vwCl [(a_this, .inr (6, [.ref a_this_kinds, .int v_home, .int v_fine, .int v_breath])), (a_this_kinds, .inr (1, [.ref a_this_kinds_all])), (a_this_kinds_all, .inl (cI, 36, .inl g_kinds_all))] s.heap := hP
  have hl := lv_entry ([.ref a_this, .int p1, .int p2, .int p3]) (n := 4) (Nat.le_of_ble_eq_true rfl)
  rw [lg_entry_eq]
  generalize (lg_sl ([.ref a_this, .int p1, .int p2, .int p3]) ++ List.replicate (4 - (lg_sl ([.ref a_this, .int p1, .int p2, .int p3])).length) Slot.unset).toArray = ls at hl ⊢
  have hl : lv_has ls 4 [(0, .ref a_this), (1, .int p1), (2, .int p2), (3, .int p3)] := hl
  have he := hf
  unfold f_Town_isCorner at he
  refine lv_iload_n hx hb dX6_isCorner_0 rfl (lv_at hl 2 rfl) ?_
  refine lv_iconst (v := (4 : Int32)) hx hb dX6_isCorner_1 (by decide) ?_
  refine lv_icmp_eq (tgt := 22) hx hb dX6_isCorner_2 (by decide) (fun c1 => ?_) (fun c1 => ?_)
  · have he := zif_t c1 he
    refine lv_iconst (v := (0 : Int32)) hx hb dX6_isCorner_22 (by decide) ?_
    obtain ⟨rfl⟩ := zi1 he
    exact W.zret hx hb hr rfl (fun t ht hW => ⟨⟨_, (), rfl, rfl, by rw [ht]; exact hP, va_K.moved hW.alike hK, hD⟩, hS.F ht⟩) hS.2.2 dX6_isCorner_23
  · have he := zif_f c1 he
    refine lv_iload_n hx hb dX6_isCorner_5 rfl (lv_at hl 2 rfl) ?_
    refine lv_iload_n hx hb dX6_isCorner_6 rfl (lv_at hl 3 rfl) ?_
    refine lv_icmp_eq (tgt := 22) hx hb dX6_isCorner_7 (by decide) (fun c2 => ?_) (fun c2 => ?_)
    · have he := zif_t c2 he
      refine lv_iconst (v := (0 : Int32)) hx hb dX6_isCorner_22 (by decide) ?_
      obtain ⟨rfl⟩ := zi1 he
      exact W.zret hx hb hr rfl (fun t ht hW => ⟨⟨_, (), rfl, rfl, by rw [ht]; exact hP, va_K.moved hW.alike hK, hD⟩, hS.F ht⟩) hS.2.2 dX6_isCorner_23
    · have he := zif_f c2 he
      refine lv_aload_n hx hb dX6_isCorner_10 rfl (lv_at hl 0 rfl) ?_
      refine lv_iload_n hx hb dX6_isCorner_11 rfl (lv_at hl 1 rfl) ?_
      obtain ⟨r3, hf4, he⟩ := zb1_e he
      refine zc_i (wr := []) (ws' := [(a_this, .inr (6, [.ref a_this_kinds, .int v_home, .int v_fine, .int v_breath])), (a_this_kinds, .inr (1, [.ref a_this_kinds_all])), (a_this_kinds_all, .inl (cI, 36, .inl g_kinds_all))]) (va_runV (As := [.int p1]) (rest := []) ⟨hx, hb, hml, hown, hts⟩ (k_Town_turnsAreCorners l dC dI cI cZ tt sd a_this a_this_kinds a_this_kinds_all s.heap.size v_home v_fine v_breath g_kinds_all p1 r3 hf4) (cwV 1 hts gX6_isCorner_X6_turnsAreCorners rfl rfl rfl (by decide +kernel) ⟨Nat.le_of_ble_eq_true rfl, Nat.le_of_ble_eq_true rfl⟩) (zpV hP hD hK hS hA hZ [0, 1, 2] rfl rfl 6 0 rfl rfl) rfl rfl hl.1 rfl (lv_room (Nat.le_of_ble_eq_true rfl)) dX6_isCorner_12 ⟨Nat.zero_le _, Nat.zero_le _⟩) hP hD hS hA [0, 1, 2] [] [0, 1, 2] rfl rfl rfl (by decide) rfl rfl rfl (fun H locs hP hD hS => ?_)
      refine lv_if_eq (tgt := 22) hx hb dX6_isCorner_15 (by decide) (fun c5 => ?_) (fun c5 => ?_)
      · have he := zif_t c5 he
        refine lv_iconst (v := (0 : Int32)) hx hb dX6_isCorner_22 (by decide) ?_
        obtain ⟨rfl⟩ := zi1 he
        exact W.zret hx hb hr rfl (fun t ht hW => ⟨⟨_, (), rfl, rfl, by rw [ht]; exact hP, va_K.moved hW.alike hK, hD⟩, hS.F ht⟩) hS.2.2 dX6_isCorner_23
      · have he := zif_f c5 he
        refine lv_iconst (v := (1 : Int32)) hx hb dX6_isCorner_18 (by decide) ?_
        refine lv_goto (tgt := 23) hx hb dX6_isCorner_19 (by decide) ?_
        obtain ⟨rfl⟩ := zi1 he
        exact W.zret hx hb hr rfl (fun t ht hW => ⟨⟨_, (), rfl, rfl, by rw [ht]; exact hP, va_K.moved hW.alike hK, hD⟩, hS.F ht⟩) hS.2.2 dX6_isCorner_23
set_option maxHeartbeats 4000000 in
set_option maxRecDepth 100000 in
theorem k_Stroll_go (l : Launch) (dC : Nat → ClassId) (dI : Nat → Nat → Nat) (cI : ClassId) (cZ : ClassId) (tt : Nat → Nat) (sd : Nat → Nat) (a_this : Nat) (a_this_town : Nat) (a_this_spoken : Nat) (a_this_spoken_all : Nat) (a_this_town_kinds : Nat) (a_this_town_kinds_all : Nat) (sz : Nat) (v_square : Int32) (v_came : Int32) (v_allWords : Int32) (v_allCorners : Int32) (v_allCuts : Int32) (v_run : Int32) (v_longestRun : Int32) (g_spoken_all : Nat → Int32) (v_town_home : Int32) (v_town_fine : Int32) (v_town_breath : Int32) (g_town_kinds_all : Nat → Int32) (p1 : Int32) (r0 : Int32) (w0 : Int32) (w1 : Int32) (w2 : Int32) (w3 : Int32) (w4 : Int32) (w5 : Int32) (w6 : Int32) (w7 : Nat → Int32) (hf : f_Stroll_go v_allCorners v_allCuts v_allWords v_came v_longestRun v_run v_square g_spoken_all v_town_breath g_town_kinds_all p1 = some (r0, w0, w1, w2, w3, w4, w5, w6, w7)) : Met l yX4_go wsX4_go ({ frames := 3, cells := 0, slots := 0, locals := 65 }) (zPre (dC, dI) vwCl [(cI, .int), (cZ, .boolean)] tt sd [.ref a_this, .int p1] [(a_this, .inr (4, [.ref a_this_town, .int v_square, .int v_came, .int v_allWords, .int v_allCorners, .int v_allCuts, .int v_run, .int v_longestRun, .ref a_this_spoken])), (a_this_spoken, .inr (1, [.ref a_this_spoken_all])), (a_this_spoken_all, .inl (cI, 36, .inl g_spoken_all)), (a_this_town, .inr (6, [.ref a_this_town_kinds, .int v_town_home, .int v_town_fine, .int v_town_breath])), (a_this_town_kinds, .inr (1, [.ref a_this_town_kinds_all])), (a_this_town_kinds_all, .inl (cI, 36, .inl g_town_kinds_all))] sz) (zQi (dC, dI) vwCl [(cI, .int), (cZ, .boolean)] r0 [(a_this, .inr (4, [.ref a_this_town, .int w6, .int w3, .int w2, .int w0, .int w1, .int w5, .int w4, .ref a_this_spoken])), (a_this_spoken, .inr (1, [.ref a_this_spoken_all])), (a_this_spoken_all, .inl (cI, 36, .inl w7)), (a_this_town, .inr (6, [.ref a_this_town_kinds, .int v_town_home, .int v_town_fine, .int v_town_breath])), (a_this_town_kinds, .inr (1, [.ref a_this_town_kinds_all])), (a_this_town_kinds_all, .inl (cI, 36, .inl g_town_kinds_all))] (va_A [(a_this, .inr (4, [.ref a_this_town, .int v_square, .int v_came, .int v_allWords, .int v_allCorners, .int v_allCuts, .int v_run, .int v_longestRun, .ref a_this_spoken])), (a_this_spoken, .inr (1, [.ref a_this_spoken_all])), (a_this_spoken_all, .inl (cI, 36, .inl g_spoken_all)), (a_this_town, .inr (6, [.ref a_this_town_kinds, .int v_town_home, .int v_town_fine, .int v_town_breath])), (a_this_town_kinds, .inr (1, [.ref a_this_town_kinds_all])), (a_this_town_kinds_all, .inl (cI, 36, .inl g_town_kinds_all))] sz)) 0 0 (va_A [(a_this, .inr (4, [.ref a_this_town, .int v_square, .int v_came, .int v_allWords, .int v_allCorners, .int v_allCuts, .int v_run, .int v_longestRun, .ref a_this_spoken])), (a_this_spoken, .inr (1, [.ref a_this_spoken_all])), (a_this_spoken_all, .inl (cI, 36, .inl g_spoken_all)), (a_this_town, .inr (6, [.ref a_this_town_kinds, .int v_town_home, .int v_town_fine, .int v_town_breath])), (a_this_town_kinds, .inr (1, [.ref a_this_town_kinds_all])), (a_this_town_kinds_all, .inl (cI, 36, .inl g_town_kinds_all))] sz) := by
  refine Met.ofW (cc := cX4_go) (maxL := 3) (ret := (some .boolean)) (by decide) rfl ?_
  intro p e s m args below meth c s₁ B hml hv
  obtain ⟨rfl, hsz, hP, hK, hD0, hZ⟩ := hv
  have hx := B.exec
  have hb := B.bytes
  have hr := B.returns
  have hts := atoms_spec (ws := wsX4_go) B.pre
  have hown : s.vm.findClass RX4 = some m.cls := findClass_of_methodNamed B.named
  have hlocks := B.notSynchronized
  subst hsz
  have hD := hD0.self (sz := s.heap.size)
  generalize hAe : va_A [(a_this, .inr (4, [.ref a_this_town, .int v_square, .int v_came, .int v_allWords, .int v_allCorners, .int v_allCuts, .int v_run, .int v_longestRun, .ref a_this_spoken])), (a_this_spoken, .inr (1, [.ref a_this_spoken_all])), (a_this_spoken_all, .inl (cI, 36, .inl g_spoken_all)), (a_this_town, .inr (6, [.ref a_this_town_kinds, .int v_town_home, .int v_town_fine, .int v_town_breath])), (a_this_town_kinds, .inr (1, [.ref a_this_town_kinds_all])), (a_this_town_kinds_all, .inl (cI, 36, .inl g_town_kinds_all))] s.heap.size = A at hD hZ ⊢
  have hA : ∀ q : Nat, s.heap.size ≤ q → A q := fun q h => by rw [← hAe]; exact Or.inr h
  have hS : va_S A s.heap s.heap [] := va_S.rf
  have hP : va_P (dC, dI) vwCl [(a_this, .inr (4, [.ref a_this_town, .int v_square, .int v_came, .int v_allWords, .int v_allCorners, .int v_allCuts, .int v_run, .int v_longestRun, .ref a_this_spoken])), (a_this_spoken, .inr (1, [.ref a_this_spoken_all])), (a_this_spoken_all, .inl (cI, 36, .inl g_spoken_all)), (a_this_town, .inr (6, [.ref a_this_town_kinds, .int v_town_home, .int v_town_fine, .int v_town_breath])), (a_this_town_kinds, .inr (1, [.ref a_this_town_kinds_all])), (a_this_town_kinds_all, .inl (cI, 36, .inl g_town_kinds_all))] s.heap := hP
  have hl := lv_entry ([.ref a_this, .int p1]) (n := 3) (Nat.le_of_ble_eq_true rfl)
  rw [lg_entry_eq]
  generalize (lg_sl ([.ref a_this, .int p1]) ++ List.replicate (3 - (lg_sl ([.ref a_this, .int p1])).length) Slot.unset).toArray = ls at hl ⊢
  have hl : lv_has ls 3 [(0, .ref a_this), (1, .int p1)] := hl
  have he := hf
  unfold f_Stroll_go at he
  refine zstart (D := (dC, dI)) (cl := vwCl) (A := A) (nL := 3) (fun WW hWW => ?_)
  refine lv_aload_n hx hb dX4_go_0 rfl (lv_at hl 0 rfl) ?_
  refine va_get (D := (dC, dI)) (ci := 4) (v := .ref a_this_town) (C := RX4) (T := TX4) (N := 9) hx hb hts (by decide +kernel) hown hK hP 0 rfl rfl 0 (by decide) (hts (.fieldLink RX4 20 "LawOfCorners$Stroll" "town" "LLawOfCorners$Town;") (by decide +kernel)) (fun _ h9 => h9) rfl dX4_go_1 ?_
  refine lv_aload_n hx hb dX4_go_4 rfl (lv_at hl 0 rfl) ?_
  refine va_get (D := (dC, dI)) (ci := 4) (v := .int v_square) (C := RX4) (T := TX4) (N := 9) hx hb hts (by decide +kernel) hown hK hP 0 rfl rfl 1 (by decide) (hts (.fieldLink RX4 30 "LawOfCorners$Stroll" "square" "I") (by decide +kernel)) (fun _ h9 => h9) rfl dX4_go_5 ?_
  refine lv_iload_n hx hb dX4_go_8 rfl (lv_at hl 1 rfl) ?_
  obtain ⟨r1, hf2, he⟩ := zb1_e he
  refine zc_i (wr := [(a_this, .inr (4, [.ref a_this_town, .int v_square, .int v_came, .int v_allWords, .int v_allCorners, .int v_allCuts, .int v_run, .int v_longestRun, .ref a_this_spoken])), (a_this_spoken, .inr (1, [.ref a_this_spoken_all])), (a_this_spoken_all, .inl (cI, 36, .inl g_spoken_all))]) (ws' := [(a_this, .inr (4, [.ref a_this_town, .int v_square, .int v_came, .int v_allWords, .int v_allCorners, .int v_allCuts, .int v_run, .int v_longestRun, .ref a_this_spoken])), (a_this_spoken, .inr (1, [.ref a_this_spoken_all])), (a_this_spoken_all, .inl (cI, 36, .inl g_spoken_all)), (a_this_town, .inr (6, [.ref a_this_town_kinds, .int v_town_home, .int v_town_fine, .int v_town_breath])), (a_this_town_kinds, .inr (1, [.ref a_this_town_kinds_all])), (a_this_town_kinds_all, .inl (cI, 36, .inl g_town_kinds_all))]) (va_runV (As := [.int v_square, .int p1]) (rest := []) ⟨hx, hb, hml, hown, hts⟩ (k_Town_next l dC dI cI cZ tt sd a_this_town a_this_town_kinds a_this_town_kinds_all s.heap.size v_town_home v_town_fine v_town_breath g_town_kinds_all v_square p1 r1 hf2) (cwV 2 hts gX4_go_X6_next rfl rfl rfl (by decide +kernel) ⟨Nat.le_of_ble_eq_true rfl, Nat.le_of_ble_eq_true rfl⟩) (zpV hP hD hK hS hA hZ [3, 4, 5] rfl rfl 6 3 rfl rfl) rfl rfl hl.1 rfl (lv_room (Nat.le_of_ble_eq_true rfl)) dX4_go_9 ⟨Nat.zero_le _, Nat.zero_le _⟩) hP hD hS hA [3, 4, 5] [0, 1, 2] [0, 1, 2, 3, 4, 5] rfl rfl rfl (by decide) rfl rfl rfl (fun H locs hP hD hS => ?_)
  refine lv_istore_n (lv' := [(2, .int r1), (0, .ref a_this), (1, .int p1)]) hx hb dX4_go_12 rfl hl (by decide) rfl (fun ls hl => ?_)
  refine lv_iload_n hx hb dX4_go_13 rfl (lv_at hl 0 rfl) ?_
  refine lv_iconst (v := (-1 : Int32)) hx hb dX4_go_14 (by decide) ?_
  refine lv_icmp_ne (tgt := 20) hx hb dX4_go_15 (by decide) (fun c3 => ?_) (fun c3 => ?_)
  · have he := zif_f c3 he
    refine lv_aload_n hx hb dX4_go_20 rfl (lv_at hl 1 rfl) ?_
    refine va_get (D := (dC, dI)) (ci := 4) (v := .ref a_this_town) (C := RX4) (T := TX4) (N := 9) hx hb hts (by decide +kernel) hown hK hP 0 rfl rfl 0 (by decide) (hts (.fieldLink RX4 20 "LawOfCorners$Stroll" "town" "LLawOfCorners$Town;") (by decide +kernel)) (fun _ h9 => h9) rfl dX4_go_21 ?_
    refine lv_aload_n hx hb dX4_go_24 rfl (lv_at hl 1 rfl) ?_
    refine va_get (D := (dC, dI)) (ci := 4) (v := .int v_square) (C := RX4) (T := TX4) (N := 9) hx hb hts (by decide +kernel) hown hK hP 0 rfl rfl 1 (by decide) (hts (.fieldLink RX4 30 "LawOfCorners$Stroll" "square" "I") (by decide +kernel)) (fun _ h9 => h9) rfl dX4_go_25 ?_
    refine lv_aload_n hx hb dX4_go_28 rfl (lv_at hl 1 rfl) ?_
    refine va_get (D := (dC, dI)) (ci := 4) (v := .int v_came) (C := RX4) (T := TX4) (N := 9) hx hb hts (by decide +kernel) hown hK hP 0 rfl rfl 2 (by decide) (hts (.fieldLink RX4 34 "LawOfCorners$Stroll" "came" "I") (by decide +kernel)) (fun _ h9 => h9) rfl dX4_go_29 ?_
    refine lv_iload_n hx hb dX4_go_32 rfl (lv_at hl 2 rfl) ?_
    obtain ⟨r4, hf5, he⟩ := zb1_e he
    refine zc_i (wr := [(a_this, .inr (4, [.ref a_this_town, .int v_square, .int v_came, .int v_allWords, .int v_allCorners, .int v_allCuts, .int v_run, .int v_longestRun, .ref a_this_spoken])), (a_this_spoken, .inr (1, [.ref a_this_spoken_all])), (a_this_spoken_all, .inl (cI, 36, .inl g_spoken_all))]) (ws' := [(a_this, .inr (4, [.ref a_this_town, .int v_square, .int v_came, .int v_allWords, .int v_allCorners, .int v_allCuts, .int v_run, .int v_longestRun, .ref a_this_spoken])), (a_this_spoken, .inr (1, [.ref a_this_spoken_all])), (a_this_spoken_all, .inl (cI, 36, .inl g_spoken_all)), (a_this_town, .inr (6, [.ref a_this_town_kinds, .int v_town_home, .int v_town_fine, .int v_town_breath])), (a_this_town_kinds, .inr (1, [.ref a_this_town_kinds_all])), (a_this_town_kinds_all, .inl (cI, 36, .inl g_town_kinds_all))]) (va_runV (As := [.int v_square, .int v_came, .int p1]) (rest := []) ⟨hx, hb, hml, hown, hts⟩ (k_Town_isCorner l dC dI cI cZ tt sd a_this_town a_this_town_kinds a_this_town_kinds_all H.size v_town_home v_town_fine v_town_breath g_town_kinds_all v_square v_came p1 r4 hf5) (cwV 3 hts gX4_go_X6_isCorner rfl rfl rfl (by decide +kernel) ⟨Nat.le_of_ble_eq_true rfl, Nat.le_of_ble_eq_true rfl⟩) (zpV hP hD hK hS hA hZ [3, 4, 5] rfl rfl 6 3 rfl rfl) rfl rfl hl.1 rfl (lv_room (Nat.le_of_ble_eq_true rfl)) dX4_go_33 ⟨Nat.zero_le _, Nat.zero_le _⟩) hP hD hS hA [3, 4, 5] [0, 1, 2] [0, 1, 2, 3, 4, 5] rfl rfl rfl (by decide) rfl rfl rfl (fun H locs hP hD hS => ?_)
    refine zj6_w he (fun (v_allCorners_6 : Int32) (v_allCuts_7 : Int32) (v_allWords_8 : Int32) (v_longestRun_9 : Int32) (v_run_10 : Int32) (g_spoken_all_11 : Nat → Int32) => WW [(a_this, .inr (4, [.ref a_this_town, .int v_square, .int v_came, .int v_allWords_8, .int v_allCorners_6, .int v_allCuts_7, .int v_run_10, .int v_longestRun_9, .ref a_this_spoken])), (a_this_spoken, .inr (1, [.ref a_this_spoken_all])), (a_this_spoken_all, .inl (cI, 36, .inl g_spoken_all_11)), (a_this_town, .inr (6, [.ref a_this_town_kinds, .int v_town_home, .int v_town_fine, .int v_town_breath])), (a_this_town_kinds, .inr (1, [.ref a_this_town_kinds_all])), (a_this_town_kinds_all, .inl (cI, 36, .inl g_town_kinds_all))] [(0, .ref a_this), (1, .int p1), (2, .int r1)] 70 []) (fun v_allCorners_6 v_allCuts_7 v_allWords_8 v_longestRun_9 v_run_10 g_spoken_all_11 he => (hWW _ _ _ _).mpr (fun H locs ls hP hD hS hl => ?_)) (fun k12 hk12 he => ?_)
    · refine lv_aload_n hx hb dX4_go_70 rfl (lv_at hl 0 rfl) ?_
      refine lv_iload_n hx hb dX4_go_71 rfl (lv_at hl 2 rfl) ?_
      refine va_put (D := (dC, dI)) (ci := 4) (v := .int r1) (ty := .int) (C := RX4) (T := TX4) (N := 9) hx hb hts (by decide +kernel) tyX4 tyX4_ok nmX4 hown hK hP hD hS 0 rfl rfl 1 (by decide) (hts (.fieldLink RX4 30 "LawOfCorners$Stroll" "square" "I") (by decide +kernel)) (fun _ h9 => h9) rfl (by decide +kernel) rfl rfl (Nat.le_of_ble_eq_true rfl) dX4_go_72 (fun H locs hP hD hS => ?_)
      have hP : va_P (dC, dI) vwCl [(a_this, .inr (4, [.ref a_this_town, .int r1, .int v_came, .int v_allWords_8, .int v_allCorners_6, .int v_allCuts_7, .int v_run_10, .int v_longestRun_9, .ref a_this_spoken])), (a_this_spoken, .inr (1, [.ref a_this_spoken_all])), (a_this_spoken_all, .inl (cI, 36, .inl g_spoken_all_11)), (a_this_town, .inr (6, [.ref a_this_town_kinds, .int v_town_home, .int v_town_fine, .int v_town_breath])), (a_this_town_kinds, .inr (1, [.ref a_this_town_kinds_all])), (a_this_town_kinds_all, .inl (cI, 36, .inl g_town_kinds_all))] H := hP
      have hD : va_D A [(a_this, .inr (4, [.ref a_this_town, .int r1, .int v_came, .int v_allWords_8, .int v_allCorners_6, .int v_allCuts_7, .int v_run_10, .int v_longestRun_9, .ref a_this_spoken])), (a_this_spoken, .inr (1, [.ref a_this_spoken_all])), (a_this_spoken_all, .inl (cI, 36, .inl g_spoken_all_11)), (a_this_town, .inr (6, [.ref a_this_town_kinds, .int v_town_home, .int v_town_fine, .int v_town_breath])), (a_this_town_kinds, .inr (1, [.ref a_this_town_kinds_all])), (a_this_town_kinds_all, .inl (cI, 36, .inl g_town_kinds_all))] := hD
      refine lv_aload_n hx hb dX4_go_75 rfl (lv_at hl 0 rfl) ?_
      refine lv_iload_n hx hb dX4_go_76 rfl (lv_at hl 1 rfl) ?_
      refine va_put (D := (dC, dI)) (ci := 4) (v := .int p1) (ty := .int) (C := RX4) (T := TX4) (N := 9) hx hb hts (by decide +kernel) tyX4 tyX4_ok nmX4 hown hK hP hD hS 0 rfl rfl 2 (by decide) (hts (.fieldLink RX4 34 "LawOfCorners$Stroll" "came" "I") (by decide +kernel)) (fun _ h9 => h9) rfl (by decide +kernel) rfl rfl (Nat.le_of_ble_eq_true rfl) dX4_go_77 (fun H locs hP hD hS => ?_)
      have hP : va_P (dC, dI) vwCl [(a_this, .inr (4, [.ref a_this_town, .int r1, .int p1, .int v_allWords_8, .int v_allCorners_6, .int v_allCuts_7, .int v_run_10, .int v_longestRun_9, .ref a_this_spoken])), (a_this_spoken, .inr (1, [.ref a_this_spoken_all])), (a_this_spoken_all, .inl (cI, 36, .inl g_spoken_all_11)), (a_this_town, .inr (6, [.ref a_this_town_kinds, .int v_town_home, .int v_town_fine, .int v_town_breath])), (a_this_town_kinds, .inr (1, [.ref a_this_town_kinds_all])), (a_this_town_kinds_all, .inl (cI, 36, .inl g_town_kinds_all))] H := hP
      have hD : va_D A [(a_this, .inr (4, [.ref a_this_town, .int r1, .int p1, .int v_allWords_8, .int v_allCorners_6, .int v_allCuts_7, .int v_run_10, .int v_longestRun_9, .ref a_this_spoken])), (a_this_spoken, .inr (1, [.ref a_this_spoken_all])), (a_this_spoken_all, .inl (cI, 36, .inl g_spoken_all_11)), (a_this_town, .inr (6, [.ref a_this_town_kinds, .int v_town_home, .int v_town_fine, .int v_town_breath])), (a_this_town_kinds, .inr (1, [.ref a_this_town_kinds_all])), (a_this_town_kinds_all, .inl (cI, 36, .inl g_town_kinds_all))] := hD
      refine lv_iconst (v := (1 : Int32)) hx hb dX4_go_80 (by decide) ?_
      obtain ⟨rfl, rfl, rfl, rfl, rfl, rfl, rfl, rfl, rfl⟩ := zi9 he
      exact W.zret hx hb hr rfl (fun t ht hW => ⟨⟨_, (), rfl, rfl, by rw [ht]; exact hP, va_K.moved hW.alike hK, hD⟩, hS.F ht⟩) hS.2.2 dX4_go_81
    refine lv_if_eq (tgt := 66) hx hb dX4_go_36 (by decide) (fun c13 => ?_) (fun c13 => ?_)
    · have he := zif_t c13 he
      refine lv_aload_n hx hb dX4_go_66 rfl (lv_at hl 1 rfl) ?_
      obtain ⟨v_allWords_14, v_run_15, g_spoken_all_16, hf17, he⟩ := zb3_e he
      refine zc_v (wr := []) (ws' := [(a_this, .inr (4, [.ref a_this_town, .int v_square, .int v_came, .int v_allWords_14, .int v_allCorners, .int v_allCuts, .int v_run_15, .int v_longestRun, .ref a_this_spoken])), (a_this_spoken, .inr (1, [.ref a_this_spoken_all])), (a_this_spoken_all, .inl (cI, 36, .inl g_spoken_all_16)), (a_this_town, .inr (6, [.ref a_this_town_kinds, .int v_town_home, .int v_town_fine, .int v_town_breath])), (a_this_town_kinds, .inr (1, [.ref a_this_town_kinds_all])), (a_this_town_kinds_all, .inl (cI, 36, .inl g_town_kinds_all))]) (va_runV (As := []) (rest := []) ⟨hx, hb, hml, hown, hts⟩ (k_Stroll_speak l dC dI cI cZ tt sd a_this a_this_town a_this_spoken a_this_spoken_all a_this_town_kinds a_this_town_kinds_all H.size v_square v_came v_allWords v_allCorners v_allCuts v_run v_longestRun g_spoken_all v_town_home v_town_fine v_town_breath g_town_kinds_all v_allWords_14 v_run_15 g_spoken_all_16 hf17) (cwV 0 hts gX4_go_X4_speak rfl rfl rfl (by decide +kernel) ⟨Nat.le_of_ble_eq_true rfl, Nat.le_of_ble_eq_true rfl⟩) (zpV hP hD hK hS hA hZ [0, 1, 2, 3, 4, 5] rfl rfl 4 0 rfl rfl) rfl rfl hl.1 rfl (lv_room (Nat.le_of_ble_eq_true rfl)) dX4_go_67 ⟨Nat.zero_le _, Nat.zero_le _⟩) hP hD hS hA [0, 1, 2, 3, 4, 5] [] [0, 1, 2, 3, 4, 5] rfl rfl rfl (by decide) rfl rfl rfl (fun H locs hP hD hS => ?_)
      exact (hWW _ _ _ _).mp (hk12 v_allCorners v_allCuts v_allWords_14 v_longestRun v_run_15 g_spoken_all_16 he) _ _ _ hP hD hS (lv_sub hl [1, 2, 0] rfl)
    · have he := zif_f c13 he
      refine lv_aload_n hx hb dX4_go_39 rfl (lv_at hl 1 rfl) ?_
      refine lv_dup hx hb dX4_go_40 rfl ?_
      refine va_get (D := (dC, dI)) (ci := 4) (v := .int v_allCorners) (C := RX4) (T := TX4) (N := 9) hx hb hts (by decide +kernel) hown hK hP 0 rfl rfl 4 (by decide) (hts (.fieldLink RX4 40 "LawOfCorners$Stroll" "allCorners" "I") (by decide +kernel)) (fun _ h9 => h9) rfl dX4_go_41 ?_
      refine lv_iconst (v := (1 : Int32)) hx hb dX4_go_44 (by decide) ?_
      refine lv_iadd hx hb dX4_go_45 ?_
      refine lv_topi (fun x18 ex18 => ?_)
      have he := zn_e ex18 he
      refine va_put (D := (dC, dI)) (ci := 4) (v := .int x18) (ty := .int) (C := RX4) (T := TX4) (N := 9) hx hb hts (by decide +kernel) tyX4 tyX4_ok nmX4 hown hK hP hD hS 0 rfl rfl 4 (by decide) (hts (.fieldLink RX4 40 "LawOfCorners$Stroll" "allCorners" "I") (by decide +kernel)) (fun _ h9 => h9) rfl (by decide +kernel) rfl rfl (Nat.le_of_ble_eq_true rfl) dX4_go_46 (fun H locs hP hD hS => ?_)
      have hP : va_P (dC, dI) vwCl [(a_this, .inr (4, [.ref a_this_town, .int v_square, .int v_came, .int v_allWords, .int x18, .int v_allCuts, .int v_run, .int v_longestRun, .ref a_this_spoken])), (a_this_spoken, .inr (1, [.ref a_this_spoken_all])), (a_this_spoken_all, .inl (cI, 36, .inl g_spoken_all)), (a_this_town, .inr (6, [.ref a_this_town_kinds, .int v_town_home, .int v_town_fine, .int v_town_breath])), (a_this_town_kinds, .inr (1, [.ref a_this_town_kinds_all])), (a_this_town_kinds_all, .inl (cI, 36, .inl g_town_kinds_all))] H := hP
      have hD : va_D A [(a_this, .inr (4, [.ref a_this_town, .int v_square, .int v_came, .int v_allWords, .int x18, .int v_allCuts, .int v_run, .int v_longestRun, .ref a_this_spoken])), (a_this_spoken, .inr (1, [.ref a_this_spoken_all])), (a_this_spoken_all, .inl (cI, 36, .inl g_spoken_all)), (a_this_town, .inr (6, [.ref a_this_town_kinds, .int v_town_home, .int v_town_fine, .int v_town_breath])), (a_this_town_kinds, .inr (1, [.ref a_this_town_kinds_all])), (a_this_town_kinds_all, .inl (cI, 36, .inl g_town_kinds_all))] := hD
      refine lv_aload_n hx hb dX4_go_49 rfl (lv_at hl 1 rfl) ?_
      refine lv_dup hx hb dX4_go_50 rfl ?_
      refine va_get (D := (dC, dI)) (ci := 4) (v := .int v_allCuts) (C := RX4) (T := TX4) (N := 9) hx hb hts (by decide +kernel) hown hK hP 0 rfl rfl 5 (by decide) (hts (.fieldLink RX4 43 "LawOfCorners$Stroll" "allCuts" "I") (by decide +kernel)) (fun _ h9 => h9) rfl dX4_go_51 ?_
      refine lv_iconst (v := (1 : Int32)) hx hb dX4_go_54 (by decide) ?_
      refine lv_iadd hx hb dX4_go_55 ?_
      refine lv_topi (fun x19 ex19 => ?_)
      have he := zn_e ex19 he
      refine va_put (D := (dC, dI)) (ci := 4) (v := .int x19) (ty := .int) (C := RX4) (T := TX4) (N := 9) hx hb hts (by decide +kernel) tyX4 tyX4_ok nmX4 hown hK hP hD hS 0 rfl rfl 5 (by decide) (hts (.fieldLink RX4 43 "LawOfCorners$Stroll" "allCuts" "I") (by decide +kernel)) (fun _ h9 => h9) rfl (by decide +kernel) rfl rfl (Nat.le_of_ble_eq_true rfl) dX4_go_56 (fun H locs hP hD hS => ?_)
      have hP : va_P (dC, dI) vwCl [(a_this, .inr (4, [.ref a_this_town, .int v_square, .int v_came, .int v_allWords, .int x18, .int x19, .int v_run, .int v_longestRun, .ref a_this_spoken])), (a_this_spoken, .inr (1, [.ref a_this_spoken_all])), (a_this_spoken_all, .inl (cI, 36, .inl g_spoken_all)), (a_this_town, .inr (6, [.ref a_this_town_kinds, .int v_town_home, .int v_town_fine, .int v_town_breath])), (a_this_town_kinds, .inr (1, [.ref a_this_town_kinds_all])), (a_this_town_kinds_all, .inl (cI, 36, .inl g_town_kinds_all))] H := hP
      have hD : va_D A [(a_this, .inr (4, [.ref a_this_town, .int v_square, .int v_came, .int v_allWords, .int x18, .int x19, .int v_run, .int v_longestRun, .ref a_this_spoken])), (a_this_spoken, .inr (1, [.ref a_this_spoken_all])), (a_this_spoken_all, .inl (cI, 36, .inl g_spoken_all)), (a_this_town, .inr (6, [.ref a_this_town_kinds, .int v_town_home, .int v_town_fine, .int v_town_breath])), (a_this_town_kinds, .inr (1, [.ref a_this_town_kinds_all])), (a_this_town_kinds_all, .inl (cI, 36, .inl g_town_kinds_all))] := hD
      refine lv_aload_n hx hb dX4_go_59 rfl (lv_at hl 1 rfl) ?_
      obtain ⟨v_allCuts_20, v_longestRun_21, v_run_22, hf23, he⟩ := zb3_e he
      refine zc_v (wr := [(a_this_spoken, .inr (1, [.ref a_this_spoken_all])), (a_this_spoken_all, .inl (cI, 36, .inl g_spoken_all)), (a_this_town_kinds, .inr (1, [.ref a_this_town_kinds_all])), (a_this_town_kinds_all, .inl (cI, 36, .inl g_town_kinds_all))]) (ws' := [(a_this, .inr (4, [.ref a_this_town, .int v_square, .int v_came, .int v_allWords, .int x18, .int v_allCuts_20, .int v_run_22, .int v_longestRun_21, .ref a_this_spoken])), (a_this_spoken, .inr (1, [.ref a_this_spoken_all])), (a_this_spoken_all, .inl (cI, 36, .inl g_spoken_all)), (a_this_town, .inr (6, [.ref a_this_town_kinds, .int v_town_home, .int v_town_fine, .int v_town_breath])), (a_this_town_kinds, .inr (1, [.ref a_this_town_kinds_all])), (a_this_town_kinds_all, .inl (cI, 36, .inl g_town_kinds_all))]) (va_runV (As := []) (rest := []) ⟨hx, hb, hml, hown, hts⟩ (k_Stroll_endRun l dC dI cI cZ tt sd a_this a_this_town a_this_spoken a_this_town_kinds H.size v_square v_came v_allWords x18 x19 v_run v_longestRun v_town_home v_town_fine v_town_breath v_allCuts_20 v_longestRun_21 v_run_22 hf23) (cwV 0 hts gX4_go_X4_endRun rfl rfl rfl (by decide +kernel) ⟨Nat.le_of_ble_eq_true rfl, Nat.le_of_ble_eq_true rfl⟩) (zpV hP hD hK hS hA hZ [0, 3] rfl rfl 4 0 rfl rfl) rfl rfl hl.1 rfl (lv_room (Nat.le_of_ble_eq_true rfl)) dX4_go_60 ⟨Nat.zero_le _, Nat.zero_le _⟩) hP hD hS hA [0, 3] [1, 2, 4, 5] [4, 0, 1, 5, 2, 3] rfl rfl rfl (by decide) rfl rfl rfl (fun H locs hP hD hS => ?_)
      refine lv_goto (tgt := 70) hx hb dX4_go_63 (by decide) ?_
      exact (hWW _ _ _ _).mp (hk12 x18 v_allCuts_20 v_allWords v_longestRun_21 v_run_22 g_spoken_all he) _ _ _ hP hD hS (lv_sub hl [1, 2, 0] rfl)
  · have he := zif_t c3 he
    refine lv_iconst (v := (0 : Int32)) hx hb dX4_go_18 (by decide) ?_
    obtain ⟨rfl, rfl, rfl, rfl, rfl, rfl, rfl, rfl, rfl⟩ := zi9 he
    exact W.zret hx hb hr rfl (fun t ht hW => ⟨⟨_, (), rfl, rfl, by rw [ht]; exact hP, va_K.moved hW.alike hK, hD⟩, hS.F ht⟩) hS.2.2 dX4_go_19
set_option maxHeartbeats 4000000 in
set_option maxRecDepth 100000 in
theorem k_X_goTheRow (l : Launch) (dC : Nat → ClassId) (dI : Nat → Nat → Nat) (cI : ClassId) (cZ : ClassId) (tt : Nat → Nat) (sd : Nat → Nat) (a_this : Nat) (a_this_town : Nat) (a_this_trial : Nat) (a_this_kept : Nat) (a_this_letters : Nat) (a_this_told : Nat) (a_this_refused : Nat) (a_this_stroll : Nat) (a_this_reach : Nat) (a_this_otherReach : Nat) (a_this_routes : Nat) (a_this_talks : Nat) (a_this_hearers : Nat) (a_this_stroll_spoken : Nat) (a_this_stroll_spoken_all : Nat) (a_this_told_all : Nat) (a_this_town_kinds : Nat) (a_this_town_kinds_all : Nat) (sz : Nat) (v_isKept : Int32) (v_toldCount : Int32) (v_stroll_square : Int32) (v_stroll_came : Int32) (v_stroll_allWords : Int32) (v_stroll_allCorners : Int32) (v_stroll_allCuts : Int32) (v_stroll_run : Int32) (v_stroll_longestRun : Int32) (g_stroll_spoken_all : Nat → Int32) (g_told_all : Nat → Int32) (v_town_home : Int32) (v_town_fine : Int32) (v_town_breath : Int32) (g_town_kinds_all : Nat → Int32) (r0 : Int32) (w0 : Int32) (w1 : Int32) (w2 : Int32) (w3 : Int32) (w4 : Int32) (w5 : Int32) (w6 : Int32) (w7 : Nat → Int32) (hf : f_X_goTheRow v_toldCount v_stroll_allCorners v_stroll_allCuts v_stroll_allWords v_stroll_came v_stroll_longestRun v_stroll_run v_stroll_square g_stroll_spoken_all g_told_all v_town_breath v_town_home g_town_kinds_all = some (r0, w0, w1, w2, w3, w4, w5, w6, w7)) : Met l yX7_goTheRow wsX7_goTheRow ({ frames := 4, cells := 0, slots := 0, locals := 87 }) (zPre (dC, dI) vwCl [(cI, .int), (cZ, .boolean)] tt sd [.ref a_this] [(a_this, .inr (7, [.ref a_this_town, .ref a_this_trial, .ref a_this_kept, .int v_isKept, .ref a_this_letters, .ref a_this_told, .int v_toldCount, .ref a_this_refused, .ref a_this_stroll, .ref a_this_reach, .ref a_this_otherReach, .ref a_this_routes, .ref a_this_talks, .ref a_this_hearers])), (a_this_stroll, .inr (4, [.ref a_this_town, .int v_stroll_square, .int v_stroll_came, .int v_stroll_allWords, .int v_stroll_allCorners, .int v_stroll_allCuts, .int v_stroll_run, .int v_stroll_longestRun, .ref a_this_stroll_spoken])), (a_this_stroll_spoken, .inr (1, [.ref a_this_stroll_spoken_all])), (a_this_stroll_spoken_all, .inl (cI, 36, .inl g_stroll_spoken_all)), (a_this_told, .inr (1, [.ref a_this_told_all])), (a_this_told_all, .inl (cI, 20, .inl g_told_all)), (a_this_town, .inr (6, [.ref a_this_town_kinds, .int v_town_home, .int v_town_fine, .int v_town_breath])), (a_this_town_kinds, .inr (1, [.ref a_this_town_kinds_all])), (a_this_town_kinds_all, .inl (cI, 36, .inl g_town_kinds_all))] sz) (zQi (dC, dI) vwCl [(cI, .int), (cZ, .boolean)] r0 [(a_this, .inr (7, [.ref a_this_town, .ref a_this_trial, .ref a_this_kept, .int v_isKept, .ref a_this_letters, .ref a_this_told, .int v_toldCount, .ref a_this_refused, .ref a_this_stroll, .ref a_this_reach, .ref a_this_otherReach, .ref a_this_routes, .ref a_this_talks, .ref a_this_hearers])), (a_this_stroll, .inr (4, [.ref a_this_town, .int w6, .int w3, .int w2, .int w0, .int w1, .int w5, .int w4, .ref a_this_stroll_spoken])), (a_this_stroll_spoken, .inr (1, [.ref a_this_stroll_spoken_all])), (a_this_stroll_spoken_all, .inl (cI, 36, .inl w7)), (a_this_told, .inr (1, [.ref a_this_told_all])), (a_this_told_all, .inl (cI, 20, .inl g_told_all)), (a_this_town, .inr (6, [.ref a_this_town_kinds, .int v_town_home, .int v_town_fine, .int v_town_breath])), (a_this_town_kinds, .inr (1, [.ref a_this_town_kinds_all])), (a_this_town_kinds_all, .inl (cI, 36, .inl g_town_kinds_all))] (va_A [(a_this, .inr (7, [.ref a_this_town, .ref a_this_trial, .ref a_this_kept, .int v_isKept, .ref a_this_letters, .ref a_this_told, .int v_toldCount, .ref a_this_refused, .ref a_this_stroll, .ref a_this_reach, .ref a_this_otherReach, .ref a_this_routes, .ref a_this_talks, .ref a_this_hearers])), (a_this_stroll, .inr (4, [.ref a_this_town, .int v_stroll_square, .int v_stroll_came, .int v_stroll_allWords, .int v_stroll_allCorners, .int v_stroll_allCuts, .int v_stroll_run, .int v_stroll_longestRun, .ref a_this_stroll_spoken])), (a_this_stroll_spoken, .inr (1, [.ref a_this_stroll_spoken_all])), (a_this_stroll_spoken_all, .inl (cI, 36, .inl g_stroll_spoken_all)), (a_this_told, .inr (1, [.ref a_this_told_all])), (a_this_told_all, .inl (cI, 20, .inl g_told_all)), (a_this_town, .inr (6, [.ref a_this_town_kinds, .int v_town_home, .int v_town_fine, .int v_town_breath])), (a_this_town_kinds, .inr (1, [.ref a_this_town_kinds_all])), (a_this_town_kinds_all, .inl (cI, 36, .inl g_town_kinds_all))] sz)) 0 0 (va_A [(a_this, .inr (7, [.ref a_this_town, .ref a_this_trial, .ref a_this_kept, .int v_isKept, .ref a_this_letters, .ref a_this_told, .int v_toldCount, .ref a_this_refused, .ref a_this_stroll, .ref a_this_reach, .ref a_this_otherReach, .ref a_this_routes, .ref a_this_talks, .ref a_this_hearers])), (a_this_stroll, .inr (4, [.ref a_this_town, .int v_stroll_square, .int v_stroll_came, .int v_stroll_allWords, .int v_stroll_allCorners, .int v_stroll_allCuts, .int v_stroll_run, .int v_stroll_longestRun, .ref a_this_stroll_spoken])), (a_this_stroll_spoken, .inr (1, [.ref a_this_stroll_spoken_all])), (a_this_stroll_spoken_all, .inl (cI, 36, .inl g_stroll_spoken_all)), (a_this_told, .inr (1, [.ref a_this_told_all])), (a_this_told_all, .inl (cI, 20, .inl g_told_all)), (a_this_town, .inr (6, [.ref a_this_town_kinds, .int v_town_home, .int v_town_fine, .int v_town_breath])), (a_this_town_kinds, .inr (1, [.ref a_this_town_kinds_all])), (a_this_town_kinds_all, .inl (cI, 36, .inl g_town_kinds_all))] sz) := by
  refine Met.ofW (cc := cX7_goTheRow) (maxL := 3) (ret := (some .int)) (by decide) rfl ?_
  intro p e s m args below meth c s₁ B hml hv
  obtain ⟨rfl, hsz, hP, hK, hD0, hZ⟩ := hv
  have hx := B.exec
  have hb := B.bytes
  have hr := B.returns
  have hts := atoms_spec (ws := wsX7_goTheRow) B.pre
  have hown : s.vm.findClass RX7 = some m.cls := findClass_of_methodNamed B.named
  have hlocks := B.notSynchronized
  subst hsz
  have hD := hD0.self (sz := s.heap.size)
  generalize hAe : va_A [(a_this, .inr (7, [.ref a_this_town, .ref a_this_trial, .ref a_this_kept, .int v_isKept, .ref a_this_letters, .ref a_this_told, .int v_toldCount, .ref a_this_refused, .ref a_this_stroll, .ref a_this_reach, .ref a_this_otherReach, .ref a_this_routes, .ref a_this_talks, .ref a_this_hearers])), (a_this_stroll, .inr (4, [.ref a_this_town, .int v_stroll_square, .int v_stroll_came, .int v_stroll_allWords, .int v_stroll_allCorners, .int v_stroll_allCuts, .int v_stroll_run, .int v_stroll_longestRun, .ref a_this_stroll_spoken])), (a_this_stroll_spoken, .inr (1, [.ref a_this_stroll_spoken_all])), (a_this_stroll_spoken_all, .inl (cI, 36, .inl g_stroll_spoken_all)), (a_this_told, .inr (1, [.ref a_this_told_all])), (a_this_told_all, .inl (cI, 20, .inl g_told_all)), (a_this_town, .inr (6, [.ref a_this_town_kinds, .int v_town_home, .int v_town_fine, .int v_town_breath])), (a_this_town_kinds, .inr (1, [.ref a_this_town_kinds_all])), (a_this_town_kinds_all, .inl (cI, 36, .inl g_town_kinds_all))] s.heap.size = A at hD hZ ⊢
  have hA : ∀ q : Nat, s.heap.size ≤ q → A q := fun q h => by rw [← hAe]; exact Or.inr h
  have hS : va_S A s.heap s.heap [] := va_S.rf
  have hP : va_P (dC, dI) vwCl [(a_this, .inr (7, [.ref a_this_town, .ref a_this_trial, .ref a_this_kept, .int v_isKept, .ref a_this_letters, .ref a_this_told, .int v_toldCount, .ref a_this_refused, .ref a_this_stroll, .ref a_this_reach, .ref a_this_otherReach, .ref a_this_routes, .ref a_this_talks, .ref a_this_hearers])), (a_this_stroll, .inr (4, [.ref a_this_town, .int v_stroll_square, .int v_stroll_came, .int v_stroll_allWords, .int v_stroll_allCorners, .int v_stroll_allCuts, .int v_stroll_run, .int v_stroll_longestRun, .ref a_this_stroll_spoken])), (a_this_stroll_spoken, .inr (1, [.ref a_this_stroll_spoken_all])), (a_this_stroll_spoken_all, .inl (cI, 36, .inl g_stroll_spoken_all)), (a_this_told, .inr (1, [.ref a_this_told_all])), (a_this_told_all, .inl (cI, 20, .inl g_told_all)), (a_this_town, .inr (6, [.ref a_this_town_kinds, .int v_town_home, .int v_town_fine, .int v_town_breath])), (a_this_town_kinds, .inr (1, [.ref a_this_town_kinds_all])), (a_this_town_kinds_all, .inl (cI, 36, .inl g_town_kinds_all))] s.heap := hP
  have hl := lv_entry ([.ref a_this]) (n := 3) (Nat.le_of_ble_eq_true rfl)
  rw [lg_entry_eq]
  generalize (lg_sl ([.ref a_this]) ++ List.replicate (3 - (lg_sl ([.ref a_this])).length) Slot.unset).toArray = ls at hl ⊢
  have hl : lv_has ls 3 [(0, .ref a_this)] := hl
  have he := hf
  unfold f_X_goTheRow at he
  refine zstart (D := (dC, dI)) (cl := vwCl) (A := A) (nL := 3) (fun WW hWW => ?_)
  refine lv_bipush (v := (-9 : Int32)) hx hb dX7_goTheRow_0 (by decide) ?_
  refine lv_istore_n (lv' := [(1, .int (-9 : Int32)), (0, .ref a_this)]) hx hb dX7_goTheRow_2 rfl hl (by decide) rfl (fun ls hl => ?_)
  refine lv_aload_n hx hb dX7_goTheRow_3 rfl (lv_at hl 1 rfl) ?_
  refine va_get (D := (dC, dI)) (ci := 7) (v := .ref a_this_stroll) (C := RX7) (T := TX7) (N := 14) hx hb hts (by decide +kernel) hown hK hP 0 rfl rfl 8 (by decide) (hts (.fieldLink RX7 46 "LawOfCorners" "stroll" "LLawOfCorners$Stroll;") (by decide +kernel)) (fun _ h9 => h9) rfl dX7_goTheRow_4 ?_
  obtain ⟨v_stroll_allCorners_1, v_stroll_allCuts_2, v_stroll_allWords_3, v_stroll_came_4, v_stroll_longestRun_5, v_stroll_run_6, v_stroll_square_7, g_stroll_spoken_all_8, hf9, he⟩ := zb8_e he
  refine zc_v (wr := [(a_this, .inr (7, [.ref a_this_town, .ref a_this_trial, .ref a_this_kept, .int v_isKept, .ref a_this_letters, .ref a_this_told, .int v_toldCount, .ref a_this_refused, .ref a_this_stroll, .ref a_this_reach, .ref a_this_otherReach, .ref a_this_routes, .ref a_this_talks, .ref a_this_hearers])), (a_this_told, .inr (1, [.ref a_this_told_all])), (a_this_told_all, .inl (cI, 20, .inl g_told_all)), (a_this_town_kinds, .inr (1, [.ref a_this_town_kinds_all])), (a_this_town_kinds_all, .inl (cI, 36, .inl g_town_kinds_all))]) (ws' := [(a_this, .inr (7, [.ref a_this_town, .ref a_this_trial, .ref a_this_kept, .int v_isKept, .ref a_this_letters, .ref a_this_told, .int v_toldCount, .ref a_this_refused, .ref a_this_stroll, .ref a_this_reach, .ref a_this_otherReach, .ref a_this_routes, .ref a_this_talks, .ref a_this_hearers])), (a_this_stroll, .inr (4, [.ref a_this_town, .int v_stroll_square_7, .int v_stroll_came_4, .int v_stroll_allWords_3, .int v_stroll_allCorners_1, .int v_stroll_allCuts_2, .int v_stroll_run_6, .int v_stroll_longestRun_5, .ref a_this_stroll_spoken])), (a_this_stroll_spoken, .inr (1, [.ref a_this_stroll_spoken_all])), (a_this_stroll_spoken_all, .inl (cI, 36, .inl g_stroll_spoken_all_8)), (a_this_told, .inr (1, [.ref a_this_told_all])), (a_this_told_all, .inl (cI, 20, .inl g_told_all)), (a_this_town, .inr (6, [.ref a_this_town_kinds, .int v_town_home, .int v_town_fine, .int v_town_breath])), (a_this_town_kinds, .inr (1, [.ref a_this_town_kinds_all])), (a_this_town_kinds_all, .inl (cI, 36, .inl g_town_kinds_all))]) (va_runV (As := []) (rest := []) ⟨hx, hb, hml, hown, hts⟩ (k_Stroll_begin l dC dI cI cZ tt sd a_this_stroll a_this_town a_this_stroll_spoken a_this_stroll_spoken_all a_this_town_kinds s.heap.size v_stroll_square v_stroll_came v_stroll_allWords v_stroll_allCorners v_stroll_allCuts v_stroll_run v_stroll_longestRun g_stroll_spoken_all v_town_home v_town_fine v_town_breath v_stroll_allCorners_1 v_stroll_allCuts_2 v_stroll_allWords_3 v_stroll_came_4 v_stroll_longestRun_5 v_stroll_run_6 v_stroll_square_7 g_stroll_spoken_all_8 hf9) (cwV 0 hts gX7_goTheRow_X4_begin rfl rfl rfl (by decide +kernel) ⟨Nat.le_of_ble_eq_true rfl, Nat.le_of_ble_eq_true rfl⟩) (zpV hP hD hK hS hA hZ [1, 2, 3, 6] rfl rfl 4 1 rfl rfl) rfl rfl hl.1 rfl (lv_room (Nat.le_of_ble_eq_true rfl)) dX7_goTheRow_7 ⟨Nat.zero_le _, Nat.zero_le _⟩) hP hD hS hA [1, 2, 3, 6] [0, 4, 5, 7, 8] [0, 5, 6, 7, 1, 2, 8, 3, 4] rfl rfl rfl (by decide) rfl rfl rfl (fun H locs hP hD hS => ?_)
  refine lv_iconst (v := (0 : Int32)) hx hb dX7_goTheRow_10 (by decide) ?_
  refine lv_istore_n (lv' := [(2, .int (0 : Int32)), (1, .int (-9 : Int32)), (0, .ref a_this)]) hx hb dX7_goTheRow_11 rfl hl (by decide) rfl (fun ls hl => ?_)
  refine zj9_w he (fun (l1_10 : Int32) (v_stroll_allCorners_11 : Int32) (v_stroll_allCuts_12 : Int32) (v_stroll_allWords_13 : Int32) (v_stroll_came_14 : Int32) (v_stroll_longestRun_15 : Int32) (v_stroll_run_16 : Int32) (v_stroll_square_17 : Int32) (g_stroll_spoken_all_18 : Nat → Int32) => WW [(a_this, .inr (7, [.ref a_this_town, .ref a_this_trial, .ref a_this_kept, .int v_isKept, .ref a_this_letters, .ref a_this_told, .int v_toldCount, .ref a_this_refused, .ref a_this_stroll, .ref a_this_reach, .ref a_this_otherReach, .ref a_this_routes, .ref a_this_talks, .ref a_this_hearers])), (a_this_stroll, .inr (4, [.ref a_this_town, .int v_stroll_square_17, .int v_stroll_came_14, .int v_stroll_allWords_13, .int v_stroll_allCorners_11, .int v_stroll_allCuts_12, .int v_stroll_run_16, .int v_stroll_longestRun_15, .ref a_this_stroll_spoken])), (a_this_stroll_spoken, .inr (1, [.ref a_this_stroll_spoken_all])), (a_this_stroll_spoken_all, .inl (cI, 36, .inl g_stroll_spoken_all_18)), (a_this_told, .inr (1, [.ref a_this_told_all])), (a_this_told_all, .inl (cI, 20, .inl g_told_all)), (a_this_town, .inr (6, [.ref a_this_town_kinds, .int v_town_home, .int v_town_fine, .int v_town_breath])), (a_this_town_kinds, .inr (1, [.ref a_this_town_kinds_all])), (a_this_town_kinds_all, .inl (cI, 36, .inl g_town_kinds_all))] [(0, .ref a_this), (1, .int l1_10)] 52 []) (fun l1_10 v_stroll_allCorners_11 v_stroll_allCuts_12 v_stroll_allWords_13 v_stroll_came_14 v_stroll_longestRun_15 v_stroll_run_16 v_stroll_square_17 g_stroll_spoken_all_18 he => (hWW _ _ _ _).mpr (fun H locs ls hP hD hS hl => ?_)) (fun k25 hk25 he => ?_)
  · refine lv_aload_n hx hb dX7_goTheRow_52 rfl (lv_at hl 0 rfl) ?_
    refine va_get (D := (dC, dI)) (ci := 7) (v := .ref a_this_stroll) (C := RX7) (T := TX7) (N := 14) hx hb hts (by decide +kernel) hown hK hP 0 rfl rfl 8 (by decide) (hts (.fieldLink RX7 46 "LawOfCorners" "stroll" "LLawOfCorners$Stroll;") (by decide +kernel)) (fun _ h9 => h9) rfl dX7_goTheRow_53 ?_
    obtain ⟨v_stroll_allCuts_19, v_stroll_allWords_20, v_stroll_longestRun_21, v_stroll_run_22, g_stroll_spoken_all_23, hf24, he⟩ := zb5_e he
    refine zc_v (wr := [(a_this, .inr (7, [.ref a_this_town, .ref a_this_trial, .ref a_this_kept, .int v_isKept, .ref a_this_letters, .ref a_this_told, .int v_toldCount, .ref a_this_refused, .ref a_this_stroll, .ref a_this_reach, .ref a_this_otherReach, .ref a_this_routes, .ref a_this_talks, .ref a_this_hearers])), (a_this_told, .inr (1, [.ref a_this_told_all])), (a_this_told_all, .inl (cI, 20, .inl g_told_all))]) (ws' := [(a_this, .inr (7, [.ref a_this_town, .ref a_this_trial, .ref a_this_kept, .int v_isKept, .ref a_this_letters, .ref a_this_told, .int v_toldCount, .ref a_this_refused, .ref a_this_stroll, .ref a_this_reach, .ref a_this_otherReach, .ref a_this_routes, .ref a_this_talks, .ref a_this_hearers])), (a_this_stroll, .inr (4, [.ref a_this_town, .int v_stroll_square_17, .int v_stroll_came_14, .int v_stroll_allWords_20, .int v_stroll_allCorners_11, .int v_stroll_allCuts_19, .int v_stroll_run_22, .int v_stroll_longestRun_21, .ref a_this_stroll_spoken])), (a_this_stroll_spoken, .inr (1, [.ref a_this_stroll_spoken_all])), (a_this_stroll_spoken_all, .inl (cI, 36, .inl g_stroll_spoken_all_23)), (a_this_told, .inr (1, [.ref a_this_told_all])), (a_this_told_all, .inl (cI, 20, .inl g_told_all)), (a_this_town, .inr (6, [.ref a_this_town_kinds, .int v_town_home, .int v_town_fine, .int v_town_breath])), (a_this_town_kinds, .inr (1, [.ref a_this_town_kinds_all])), (a_this_town_kinds_all, .inl (cI, 36, .inl g_town_kinds_all))]) (va_runV (As := []) (rest := []) ⟨hx, hb, hml, hown, hts⟩ (k_Stroll_end l dC dI cI cZ tt sd a_this_stroll a_this_town a_this_stroll_spoken a_this_stroll_spoken_all a_this_town_kinds a_this_town_kinds_all H.size v_stroll_square_17 v_stroll_came_14 v_stroll_allWords_13 v_stroll_allCorners_11 v_stroll_allCuts_12 v_stroll_run_16 v_stroll_longestRun_15 g_stroll_spoken_all_18 v_town_home v_town_fine v_town_breath g_town_kinds_all v_stroll_allCuts_19 v_stroll_allWords_20 v_stroll_longestRun_21 v_stroll_run_22 g_stroll_spoken_all_23 hf24) (cwV 0 hts gX7_goTheRow_X4_end rfl rfl rfl (by decide +kernel) ⟨Nat.le_of_ble_eq_true rfl, Nat.le_of_ble_eq_true rfl⟩) (zpV hP hD hK hS hA hZ [1, 2, 3, 6, 7, 8] rfl rfl 4 1 rfl rfl) rfl rfl hl.1 rfl (lv_room (Nat.le_of_ble_eq_true rfl)) dX7_goTheRow_56 ⟨Nat.zero_le _, Nat.zero_le _⟩) hP hD hS hA [1, 2, 3, 6, 7, 8] [0, 4, 5] [0, 3, 4, 5, 1, 2, 6, 7, 8] rfl rfl rfl (by decide) rfl rfl rfl (fun H locs hP hD hS => ?_)
    refine lv_iload_n hx hb dX7_goTheRow_59 rfl (lv_at hl 1 rfl) ?_
    obtain ⟨rfl, rfl, rfl, rfl, rfl, rfl, rfl, rfl, rfl⟩ := zi9 he
    exact W.iret hx hb hr (fun t ht hW => ⟨⟨_, (), rfl, rfl, by rw [ht]; exact hP, va_K.moved hW.alike hK, hD⟩, hS.F ht⟩) hS.2.2 dX7_goTheRow_60
  refine (hWW _ _ _ _).mp (zl10_w he (fun (l1_26 : Int32) (l2_27 : Int32) (v_stroll_allCorners_28 : Int32) (v_stroll_allCuts_29 : Int32) (v_stroll_allWords_30 : Int32) (v_stroll_came_31 : Int32) (v_stroll_longestRun_32 : Int32) (v_stroll_run_33 : Int32) (v_stroll_square_34 : Int32) (g_stroll_spoken_all_35 : Nat → Int32) => WW [(a_this, .inr (7, [.ref a_this_town, .ref a_this_trial, .ref a_this_kept, .int v_isKept, .ref a_this_letters, .ref a_this_told, .int v_toldCount, .ref a_this_refused, .ref a_this_stroll, .ref a_this_reach, .ref a_this_otherReach, .ref a_this_routes, .ref a_this_talks, .ref a_this_hearers])), (a_this_stroll, .inr (4, [.ref a_this_town, .int v_stroll_square_34, .int v_stroll_came_31, .int v_stroll_allWords_30, .int v_stroll_allCorners_28, .int v_stroll_allCuts_29, .int v_stroll_run_33, .int v_stroll_longestRun_32, .ref a_this_stroll_spoken])), (a_this_stroll_spoken, .inr (1, [.ref a_this_stroll_spoken_all])), (a_this_stroll_spoken_all, .inl (cI, 36, .inl g_stroll_spoken_all_35)), (a_this_told, .inr (1, [.ref a_this_told_all])), (a_this_told_all, .inl (cI, 20, .inl g_told_all)), (a_this_town, .inr (6, [.ref a_this_town_kinds, .int v_town_home, .int v_town_fine, .int v_town_breath])), (a_this_town_kinds, .inr (1, [.ref a_this_town_kinds_all])), (a_this_town_kinds_all, .inl (cI, 36, .inl g_town_kinds_all))] [(0, .ref a_this), (1, .int l1_26), (2, .int l2_27)] 12 []) (fun l1_26 l2_27 v_stroll_allCorners_28 v_stroll_allCuts_29 v_stroll_allWords_30 v_stroll_came_31 v_stroll_longestRun_32 v_stroll_run_33 v_stroll_square_34 g_stroll_spoken_all_35 again36 hagain36 he => (hWW _ _ _ _).mpr (fun H locs ls hP hD hS hl => ?_))) _ _ _ hP hD hS (lv_sub hl [2, 1, 0] rfl)
  refine lv_iload_n hx hb dX7_goTheRow_12 rfl (lv_at hl 2 rfl) ?_
  refine lv_aload_n hx hb dX7_goTheRow_13 rfl (lv_at hl 0 rfl) ?_
  refine va_get (D := (dC, dI)) (ci := 7) (v := .int v_toldCount) (C := RX7) (T := TX7) (N := 14) hx hb hts (by decide +kernel) hown hK hP 0 rfl rfl 6 (by decide) (hts (.fieldLink RX7 231 "LawOfCorners" "toldCount" "I") (by decide +kernel)) (fun _ h9 => h9) rfl dX7_goTheRow_14 ?_
  refine lv_icmp_ge (tgt := 52) hx hb dX7_goTheRow_17 (by decide) (fun c37 => ?_) (fun c37 => ?_)
  · have he := zif_t c37 he
    exact (hWW _ _ _ _).mp (hk25 l1_26 v_stroll_allCorners_28 v_stroll_allCuts_29 v_stroll_allWords_30 v_stroll_came_31 v_stroll_longestRun_32 v_stroll_run_33 v_stroll_square_34 g_stroll_spoken_all_35 he) _ _ _ hP hD hS (lv_sub hl [0, 1] rfl)
  · have he := zif_f c37 he
    refine lv_iload_n hx hb dX7_goTheRow_20 rfl (lv_at hl 1 rfl) ?_
    refine lv_bipush (v := (-9 : Int32)) hx hb dX7_goTheRow_21 (by decide) ?_
    refine lv_icmp_ne (tgt := 52) hx hb dX7_goTheRow_23 (by decide) (fun c38 => ?_) (fun c38 => ?_)
    · have he := zif_f c38 he
      exact (hWW _ _ _ _).mp (hk25 l1_26 v_stroll_allCorners_28 v_stroll_allCuts_29 v_stroll_allWords_30 v_stroll_came_31 v_stroll_longestRun_32 v_stroll_run_33 v_stroll_square_34 g_stroll_spoken_all_35 he) _ _ _ hP hD hS (lv_sub hl [0, 1] rfl)
    · have he := zif_t c38 he
      refine lv_aload_n hx hb dX7_goTheRow_26 rfl (lv_at hl 0 rfl) ?_
      refine va_get (D := (dC, dI)) (ci := 7) (v := .ref a_this_stroll) (C := RX7) (T := TX7) (N := 14) hx hb hts (by decide +kernel) hown hK hP 0 rfl rfl 8 (by decide) (hts (.fieldLink RX7 46 "LawOfCorners" "stroll" "LLawOfCorners$Stroll;") (by decide +kernel)) (fun _ h9 => h9) rfl dX7_goTheRow_27 ?_
      refine lv_aload_n hx hb dX7_goTheRow_30 rfl (lv_at hl 0 rfl) ?_
      refine va_get (D := (dC, dI)) (ci := 7) (v := .ref a_this_told) (C := RX7) (T := TX7) (N := 14) hx hb hts (by decide +kernel) hown hK hP 0 rfl rfl 5 (by decide) (hts (.fieldLink RX7 34 "LawOfCorners" "told" "LLawOfCorners$Numbers;") (by decide +kernel)) (fun _ h9 => h9) rfl dX7_goTheRow_31 ?_
      refine lv_iload_n hx hb dX7_goTheRow_34 rfl (lv_at hl 2 rfl) ?_
      obtain ⟨r39, hf40, he⟩ := zb1_e he
      refine zc_i (wr := [(a_this, .inr (7, [.ref a_this_town, .ref a_this_trial, .ref a_this_kept, .int v_isKept, .ref a_this_letters, .ref a_this_told, .int v_toldCount, .ref a_this_refused, .ref a_this_stroll, .ref a_this_reach, .ref a_this_otherReach, .ref a_this_routes, .ref a_this_talks, .ref a_this_hearers])), (a_this_stroll, .inr (4, [.ref a_this_town, .int v_stroll_square_34, .int v_stroll_came_31, .int v_stroll_allWords_30, .int v_stroll_allCorners_28, .int v_stroll_allCuts_29, .int v_stroll_run_33, .int v_stroll_longestRun_32, .ref a_this_stroll_spoken])), (a_this_stroll_spoken, .inr (1, [.ref a_this_stroll_spoken_all])), (a_this_stroll_spoken_all, .inl (cI, 36, .inl g_stroll_spoken_all_35)), (a_this_town, .inr (6, [.ref a_this_town_kinds, .int v_town_home, .int v_town_fine, .int v_town_breath])), (a_this_town_kinds, .inr (1, [.ref a_this_town_kinds_all])), (a_this_town_kinds_all, .inl (cI, 36, .inl g_town_kinds_all))]) (ws' := [(a_this, .inr (7, [.ref a_this_town, .ref a_this_trial, .ref a_this_kept, .int v_isKept, .ref a_this_letters, .ref a_this_told, .int v_toldCount, .ref a_this_refused, .ref a_this_stroll, .ref a_this_reach, .ref a_this_otherReach, .ref a_this_routes, .ref a_this_talks, .ref a_this_hearers])), (a_this_stroll, .inr (4, [.ref a_this_town, .int v_stroll_square_34, .int v_stroll_came_31, .int v_stroll_allWords_30, .int v_stroll_allCorners_28, .int v_stroll_allCuts_29, .int v_stroll_run_33, .int v_stroll_longestRun_32, .ref a_this_stroll_spoken])), (a_this_stroll_spoken, .inr (1, [.ref a_this_stroll_spoken_all])), (a_this_stroll_spoken_all, .inl (cI, 36, .inl g_stroll_spoken_all_35)), (a_this_told, .inr (1, [.ref a_this_told_all])), (a_this_told_all, .inl (cI, 20, .inl g_told_all)), (a_this_town, .inr (6, [.ref a_this_town_kinds, .int v_town_home, .int v_town_fine, .int v_town_breath])), (a_this_town_kinds, .inr (1, [.ref a_this_town_kinds_all])), (a_this_town_kinds_all, .inl (cI, 36, .inl g_town_kinds_all))]) (va_runV (As := [.int l2_27]) (rest := [.ref a_this_stroll]) ⟨hx, hb, hml, hown, hts⟩ (k_Numbers_at l dC dI cI cZ tt sd a_this_told a_this_told_all H.size 20 g_told_all l2_27 r39 hf40) (cwV 1 hts gX7_goTheRow_X1_at rfl rfl rfl (by decide +kernel) ⟨Nat.le_of_ble_eq_true rfl, Nat.le_of_ble_eq_true rfl⟩) (zpV hP hD hK hS hA hZ [4, 5] rfl rfl 1 4 rfl rfl) rfl rfl hl.1 rfl (lv_room (Nat.le_of_ble_eq_true rfl)) dX7_goTheRow_35 ⟨Nat.zero_le _, Nat.zero_le _⟩) hP hD hS hA [4, 5] [0, 1, 2, 3, 6, 7, 8] [0, 1, 2, 3, 7, 8, 4, 5, 6] rfl rfl rfl (by decide) rfl rfl rfl (fun H locs hP hD hS => ?_)
      obtain ⟨r41, v_stroll_allCorners_42, v_stroll_allCuts_43, v_stroll_allWords_44, v_stroll_came_45, v_stroll_longestRun_46, v_stroll_run_47, v_stroll_square_48, g_stroll_spoken_all_49, hf50, he⟩ := zb9_e he
      refine zc_i (wr := [(a_this, .inr (7, [.ref a_this_town, .ref a_this_trial, .ref a_this_kept, .int v_isKept, .ref a_this_letters, .ref a_this_told, .int v_toldCount, .ref a_this_refused, .ref a_this_stroll, .ref a_this_reach, .ref a_this_otherReach, .ref a_this_routes, .ref a_this_talks, .ref a_this_hearers])), (a_this_told, .inr (1, [.ref a_this_told_all])), (a_this_told_all, .inl (cI, 20, .inl g_told_all))]) (ws' := [(a_this, .inr (7, [.ref a_this_town, .ref a_this_trial, .ref a_this_kept, .int v_isKept, .ref a_this_letters, .ref a_this_told, .int v_toldCount, .ref a_this_refused, .ref a_this_stroll, .ref a_this_reach, .ref a_this_otherReach, .ref a_this_routes, .ref a_this_talks, .ref a_this_hearers])), (a_this_stroll, .inr (4, [.ref a_this_town, .int v_stroll_square_48, .int v_stroll_came_45, .int v_stroll_allWords_44, .int v_stroll_allCorners_42, .int v_stroll_allCuts_43, .int v_stroll_run_47, .int v_stroll_longestRun_46, .ref a_this_stroll_spoken])), (a_this_stroll_spoken, .inr (1, [.ref a_this_stroll_spoken_all])), (a_this_stroll_spoken_all, .inl (cI, 36, .inl g_stroll_spoken_all_49)), (a_this_told, .inr (1, [.ref a_this_told_all])), (a_this_told_all, .inl (cI, 20, .inl g_told_all)), (a_this_town, .inr (6, [.ref a_this_town_kinds, .int v_town_home, .int v_town_fine, .int v_town_breath])), (a_this_town_kinds, .inr (1, [.ref a_this_town_kinds_all])), (a_this_town_kinds_all, .inl (cI, 36, .inl g_town_kinds_all))]) (va_runV (As := [.int r39]) (rest := []) ⟨hx, hb, hml, hown, hts⟩ (k_Stroll_go l dC dI cI cZ tt sd a_this_stroll a_this_town a_this_stroll_spoken a_this_stroll_spoken_all a_this_town_kinds a_this_town_kinds_all H.size v_stroll_square_34 v_stroll_came_31 v_stroll_allWords_30 v_stroll_allCorners_28 v_stroll_allCuts_29 v_stroll_run_33 v_stroll_longestRun_32 g_stroll_spoken_all_35 v_town_home v_town_fine v_town_breath g_town_kinds_all r39 r41 v_stroll_allCorners_42 v_stroll_allCuts_43 v_stroll_allWords_44 v_stroll_came_45 v_stroll_longestRun_46 v_stroll_run_47 v_stroll_square_48 g_stroll_spoken_all_49 hf50) (cwV 1 hts gX7_goTheRow_X4_go rfl rfl rfl (by decide +kernel) ⟨Nat.le_of_ble_eq_true rfl, Nat.le_of_ble_eq_true rfl⟩) (zpV hP hD hK hS hA hZ [1, 2, 3, 6, 7, 8] rfl rfl 4 1 rfl rfl) rfl rfl hl.1 rfl (lv_room (Nat.le_of_ble_eq_true rfl)) dX7_goTheRow_38 ⟨Nat.zero_le _, Nat.zero_le _⟩) hP hD hS hA [1, 2, 3, 6, 7, 8] [0, 4, 5] [0, 3, 4, 5, 1, 2, 6, 7, 8] rfl rfl rfl (by decide) rfl rfl rfl (fun H locs hP hD hS => ?_)
      refine zj1_w he (fun (l1_51 : Int32) => WW [(a_this, .inr (7, [.ref a_this_town, .ref a_this_trial, .ref a_this_kept, .int v_isKept, .ref a_this_letters, .ref a_this_told, .int v_toldCount, .ref a_this_refused, .ref a_this_stroll, .ref a_this_reach, .ref a_this_otherReach, .ref a_this_routes, .ref a_this_talks, .ref a_this_hearers])), (a_this_stroll, .inr (4, [.ref a_this_town, .int v_stroll_square_48, .int v_stroll_came_45, .int v_stroll_allWords_44, .int v_stroll_allCorners_42, .int v_stroll_allCuts_43, .int v_stroll_run_47, .int v_stroll_longestRun_46, .ref a_this_stroll_spoken])), (a_this_stroll_spoken, .inr (1, [.ref a_this_stroll_spoken_all])), (a_this_stroll_spoken_all, .inl (cI, 36, .inl g_stroll_spoken_all_49)), (a_this_told, .inr (1, [.ref a_this_told_all])), (a_this_told_all, .inl (cI, 20, .inl g_told_all)), (a_this_town, .inr (6, [.ref a_this_town_kinds, .int v_town_home, .int v_town_fine, .int v_town_breath])), (a_this_town_kinds, .inr (1, [.ref a_this_town_kinds_all])), (a_this_town_kinds_all, .inl (cI, 36, .inl g_town_kinds_all))] [(0, .ref a_this), (1, .int l1_51), (2, .int l2_27)] 46 []) (fun l1_51 he => (hWW _ _ _ _).mpr (fun H locs ls hP hD hS hl => ?_)) (fun k53 hk53 he => ?_)
      · obtain ⟨x52, ex52⟩ : ∃ y : Int32, y = l2_27 + (1 : Int32) := ⟨_, rfl⟩
        have he := zn_e ex52 he
        refine lv_iinc (v := x52) (lv' := [(2, .int x52), (0, .ref a_this), (1, .int l1_51)]) hx hb dX7_goTheRow_46 hl (k := 2) rfl (by rw [ex52]; rfl) (by decide) rfl (fun ls hl => ?_)
        refine lv_goto (tgt := 12) hx hb dX7_goTheRow_49 (by decide) ?_
        exact (hWW _ _ _ _).mp (hagain36 l1_51 x52 v_stroll_allCorners_42 v_stroll_allCuts_43 v_stroll_allWords_44 v_stroll_came_45 v_stroll_longestRun_46 v_stroll_run_47 v_stroll_square_48 g_stroll_spoken_all_49 he) _ _ _ hP hD hS (lv_sub hl [1, 2, 0] rfl)
      refine lv_if_ne (tgt := 46) hx hb dX7_goTheRow_41 (by decide) (fun c54 => ?_) (fun c54 => ?_)
      · have he := zif_f c54 he
        exact (hWW _ _ _ _).mp (hk53 l1_26 he) _ _ _ hP hD hS (lv_sub hl [0, 1, 2] rfl)
      · have he := zif_t c54 he
        refine lv_iload_n hx hb dX7_goTheRow_44 rfl (lv_at hl 2 rfl) ?_
        refine lv_istore_n (lv' := [(1, .int l2_27), (0, .ref a_this), (2, .int l2_27)]) hx hb dX7_goTheRow_45 rfl hl (by decide) rfl (fun ls hl => ?_)
        exact (hWW _ _ _ _).mp (hk53 l2_27 he) _ _ _ hP hD hS (lv_sub hl [1, 0, 2] rfl)
set_option maxHeartbeats 4000000 in
set_option maxRecDepth 100000 in
theorem k_Town_fineOn (l : Launch) (dC : Nat → ClassId) (dI : Nat → Nat → Nat) (cI : ClassId) (cZ : ClassId) (tt : Nat → Nat) (sd : Nat → Nat) (a_this : Nat) (a_this_kinds : Nat) (a_this_kinds_all : Nat) (sz : Nat) (v_home : Int32) (v_fine : Int32) (v_breath : Int32) (g_kinds_all : Nat → Int32) (p1 : Int32) (r0 : Int32) (hf : f_Town_fineOn v_fine g_kinds_all p1 = some (r0)) : Met l yX6_fineOn wsX6_fineOn ({ frames := 3, cells := 0, slots := 0, locals := 76 }) (zPre (dC, dI) vwCl [(cI, .int), (cZ, .boolean)] tt sd [.ref a_this, .int p1] [(a_this, .inr (6, [.ref a_this_kinds, .int v_home, .int v_fine, .int v_breath])), (a_this_kinds, .inr (1, [.ref a_this_kinds_all])), (a_this_kinds_all, .inl (cI, 36, .inl g_kinds_all))] sz) (zQi (dC, dI) vwCl [(cI, .int), (cZ, .boolean)] r0 [(a_this, .inr (6, [.ref a_this_kinds, .int v_home, .int v_fine, .int v_breath])), (a_this_kinds, .inr (1, [.ref a_this_kinds_all])), (a_this_kinds_all, .inl (cI, 36, .inl g_kinds_all))] (va_A [(a_this, .inr (6, [.ref a_this_kinds, .int v_home, .int v_fine, .int v_breath])), (a_this_kinds, .inr (1, [.ref a_this_kinds_all])), (a_this_kinds_all, .inl (cI, 36, .inl g_kinds_all))] sz)) 0 0 (va_A [(a_this, .inr (6, [.ref a_this_kinds, .int v_home, .int v_fine, .int v_breath])), (a_this_kinds, .inr (1, [.ref a_this_kinds_all])), (a_this_kinds_all, .inl (cI, 36, .inl g_kinds_all))] sz) := by
  refine Met.ofW (cc := cX6_fineOn) (maxL := 3) (ret := (some .int)) (by decide) rfl ?_
  intro p e s m args below meth c s₁ B hml hv
  obtain ⟨rfl, hsz, hP, hK, hD0, hZ⟩ := hv
  have hx := B.exec
  have hb := B.bytes
  have hr := B.returns
  have hts := atoms_spec (ws := wsX6_fineOn) B.pre
  have hown : s.vm.findClass RX6 = some m.cls := findClass_of_methodNamed B.named
  have hlocks := B.notSynchronized
  subst hsz
  have hD := hD0.self (sz := s.heap.size)
  generalize hAe : va_A [(a_this, .inr (6, [.ref a_this_kinds, .int v_home, .int v_fine, .int v_breath])), (a_this_kinds, .inr (1, [.ref a_this_kinds_all])), (a_this_kinds_all, .inl (cI, 36, .inl g_kinds_all))] s.heap.size = A at hD hZ ⊢
  have hA : ∀ q : Nat, s.heap.size ≤ q → A q := fun q h => by rw [← hAe]; exact Or.inr h
  have hS : va_S A s.heap s.heap [] := va_S.rf
  have hP : va_P (dC, dI) vwCl [(a_this, .inr (6, [.ref a_this_kinds, .int v_home, .int v_fine, .int v_breath])), (a_this_kinds, .inr (1, [.ref a_this_kinds_all])), (a_this_kinds_all, .inl (cI, 36, .inl g_kinds_all))] s.heap := hP
  have hl := lv_entry ([.ref a_this, .int p1]) (n := 3) (Nat.le_of_ble_eq_true rfl)
  rw [lg_entry_eq]
  generalize (lg_sl ([.ref a_this, .int p1]) ++ List.replicate (3 - (lg_sl ([.ref a_this, .int p1])).length) Slot.unset).toArray = ls at hl ⊢
  have hl : lv_has ls 3 [(0, .ref a_this), (1, .int p1)] := hl
  have he := hf
  unfold f_Town_fineOn at he
  refine lv_aload_n hx hb dX6_fineOn_0 rfl (lv_at hl 0 rfl) ?_
  refine lv_iload_n hx hb dX6_fineOn_1 rfl (lv_at hl 1 rfl) ?_
  obtain ⟨r1, hf2, he⟩ := zb1_e he
  refine zc_i (wr := []) (ws' := [(a_this, .inr (6, [.ref a_this_kinds, .int v_home, .int v_fine, .int v_breath])), (a_this_kinds, .inr (1, [.ref a_this_kinds_all])), (a_this_kinds_all, .inl (cI, 36, .inl g_kinds_all))]) (va_runV (As := [.int p1]) (rest := []) ⟨hx, hb, hml, hown, hts⟩ (k_Town_wordsOn l dC dI cI cZ tt sd a_this a_this_kinds a_this_kinds_all s.heap.size v_home v_fine v_breath g_kinds_all p1 r1 hf2) (cwV 1 hts gX6_fineOn_X6_wordsOn rfl rfl rfl (by decide +kernel) ⟨Nat.le_of_ble_eq_true rfl, Nat.le_of_ble_eq_true rfl⟩) (zpV hP hD hK hS hA hZ [0, 1, 2] rfl rfl 6 0 rfl rfl) rfl rfl hl.1 rfl (lv_room (Nat.le_of_ble_eq_true rfl)) dX6_fineOn_2 ⟨Nat.zero_le _, Nat.zero_le _⟩) hP hD hS hA [0, 1, 2] [] [0, 1, 2] rfl rfl rfl (by decide) rfl rfl rfl (fun H locs hP hD hS => ?_)
  refine lv_istore_n (lv' := [(2, .int r1), (0, .ref a_this), (1, .int p1)]) hx hb dX6_fineOn_5 rfl hl (by decide) rfl (fun ls hl => ?_)
  refine lv_iload_n hx hb dX6_fineOn_6 rfl (lv_at hl 0 rfl) ?_
  refine lv_if_eq (tgt := 17) hx hb dX6_fineOn_7 (by decide) (fun c3 => ?_) (fun c3 => ?_)
  · have he := zif_t c3 he
    refine lv_iconst (v := (0 : Int32)) hx hb dX6_fineOn_17 (by decide) ?_
    refine lv_goto (tgt := 33) hx hb dX6_fineOn_18 (by decide) ?_
    obtain ⟨rfl⟩ := zi1 he
    exact W.iret hx hb hr (fun t ht hW => ⟨⟨_, (), rfl, rfl, by rw [ht]; exact hP, va_K.moved hW.alike hK, hD⟩, hS.F ht⟩) hS.2.2 dX6_fineOn_33
  · have he := zif_f c3 he
    refine lv_aload_n hx hb dX6_fineOn_10 rfl (lv_at hl 1 rfl) ?_
    refine va_get (D := (dC, dI)) (ci := 6) (v := .int v_fine) (C := RX6) (T := TX6) (N := 4) hx hb hts (by decide +kernel) hown hK hP 0 rfl rfl 2 (by decide) (hts (.fieldLink RX6 24 "LawOfCorners$Town" "fine" "I") (by decide +kernel)) (fun _ h9 => h9) rfl dX6_fineOn_11 ?_
    refine lv_if_ne (tgt := 21) hx hb dX6_fineOn_14 (by decide) (fun c4 => ?_) (fun c4 => ?_)
    · have he := zif_f c4 he
      refine lv_iload_n hx hb dX6_fineOn_21 rfl (lv_at hl 0 rfl) ?_
      refine lv_aload_n hx hb dX6_fineOn_22 rfl (lv_at hl 1 rfl) ?_
      refine va_get (D := (dC, dI)) (ci := 6) (v := .int v_fine) (C := RX6) (T := TX6) (N := 4) hx hb hts (by decide +kernel) hown hK hP 0 rfl rfl 2 (by decide) (hts (.fieldLink RX6 24 "LawOfCorners$Town" "fine" "I") (by decide +kernel)) (fun _ h9 => h9) rfl dX6_fineOn_23 ?_
      refine lv_imul hx hb dX6_fineOn_26 ?_
      refine lv_aload_n hx hb dX6_fineOn_27 rfl (lv_at hl 1 rfl) ?_
      refine lv_iload_n hx hb dX6_fineOn_28 rfl (lv_at hl 2 rfl) ?_
      obtain ⟨r5, hf6, he⟩ := zb1_e he
      refine zc_i (wr := []) (ws' := [(a_this, .inr (6, [.ref a_this_kinds, .int v_home, .int v_fine, .int v_breath])), (a_this_kinds, .inr (1, [.ref a_this_kinds_all])), (a_this_kinds_all, .inl (cI, 36, .inl g_kinds_all))]) (va_runV (As := [.int p1]) (rest := [.int (r1 * v_fine)]) ⟨hx, hb, hml, hown, hts⟩ (k_Town_heardBy l dC dI cI cZ tt sd a_this a_this_kinds a_this_kinds_all H.size v_home v_fine v_breath g_kinds_all p1 r5 hf6) (cwV 1 hts gX6_fineOn_X6_heardBy rfl rfl rfl (by decide +kernel) ⟨Nat.le_of_ble_eq_true rfl, Nat.le_of_ble_eq_true rfl⟩) (zpV hP hD hK hS hA hZ [0, 1, 2] rfl rfl 6 0 rfl rfl) rfl rfl hl.1 rfl (lv_room (Nat.le_of_ble_eq_true rfl)) dX6_fineOn_29 ⟨Nat.zero_le _, Nat.zero_le _⟩) hP hD hS hA [0, 1, 2] [] [0, 1, 2] rfl rfl rfl (by decide) rfl rfl rfl (fun H locs hP hD hS => ?_)
      refine lv_imul hx hb dX6_fineOn_32 ?_
      obtain ⟨rfl⟩ := zi1 he
      exact W.iret hx hb hr (fun t ht hW => ⟨⟨_, (), rfl, rfl, by rw [ht]; exact hP, va_K.moved hW.alike hK, hD⟩, hS.F ht⟩) hS.2.2 dX6_fineOn_33
    · have he := zif_t c4 he
      refine lv_iconst (v := (0 : Int32)) hx hb dX6_fineOn_17 (by decide) ?_
      refine lv_goto (tgt := 33) hx hb dX6_fineOn_18 (by decide) ?_
      obtain ⟨rfl⟩ := zi1 he
      exact W.iret hx hb hr (fun t ht hW => ⟨⟨_, (), rfl, rfl, by rw [ht]; exact hP, va_K.moved hW.alike hK, hD⟩, hS.F ht⟩) hS.2.2 dX6_fineOn_33
set_option maxHeartbeats 4000000 in
set_option maxRecDepth 100000 in
theorem k_Stroll_allFines (l : Launch) (dC : Nat → ClassId) (dI : Nat → Nat → Nat) (cI : ClassId) (cZ : ClassId) (tt : Nat → Nat) (sd : Nat → Nat) (a_this : Nat) (a_this_town : Nat) (a_this_spoken : Nat) (a_this_spoken_all : Nat) (a_this_town_kinds : Nat) (a_this_town_kinds_all : Nat) (sz : Nat) (v_square : Int32) (v_came : Int32) (v_allWords : Int32) (v_allCorners : Int32) (v_allCuts : Int32) (v_run : Int32) (v_longestRun : Int32) (g_spoken_all : Nat → Int32) (v_town_home : Int32) (v_town_fine : Int32) (v_town_breath : Int32) (g_town_kinds_all : Nat → Int32) (r0 : Int32) (hf : f_Stroll_allFines g_spoken_all v_town_fine g_town_kinds_all = some (r0)) : Met l yX4_allFines wsX4_allFines ({ frames := 4, cells := 0, slots := 0, locals := 98 }) (zPre (dC, dI) vwCl [(cI, .int), (cZ, .boolean)] tt sd [.ref a_this] [(a_this, .inr (4, [.ref a_this_town, .int v_square, .int v_came, .int v_allWords, .int v_allCorners, .int v_allCuts, .int v_run, .int v_longestRun, .ref a_this_spoken])), (a_this_spoken, .inr (1, [.ref a_this_spoken_all])), (a_this_spoken_all, .inl (cI, 36, .inl g_spoken_all)), (a_this_town, .inr (6, [.ref a_this_town_kinds, .int v_town_home, .int v_town_fine, .int v_town_breath])), (a_this_town_kinds, .inr (1, [.ref a_this_town_kinds_all])), (a_this_town_kinds_all, .inl (cI, 36, .inl g_town_kinds_all))] sz) (zQi (dC, dI) vwCl [(cI, .int), (cZ, .boolean)] r0 [(a_this, .inr (4, [.ref a_this_town, .int v_square, .int v_came, .int v_allWords, .int v_allCorners, .int v_allCuts, .int v_run, .int v_longestRun, .ref a_this_spoken])), (a_this_spoken, .inr (1, [.ref a_this_spoken_all])), (a_this_spoken_all, .inl (cI, 36, .inl g_spoken_all)), (a_this_town, .inr (6, [.ref a_this_town_kinds, .int v_town_home, .int v_town_fine, .int v_town_breath])), (a_this_town_kinds, .inr (1, [.ref a_this_town_kinds_all])), (a_this_town_kinds_all, .inl (cI, 36, .inl g_town_kinds_all))] (va_A [(a_this, .inr (4, [.ref a_this_town, .int v_square, .int v_came, .int v_allWords, .int v_allCorners, .int v_allCuts, .int v_run, .int v_longestRun, .ref a_this_spoken])), (a_this_spoken, .inr (1, [.ref a_this_spoken_all])), (a_this_spoken_all, .inl (cI, 36, .inl g_spoken_all)), (a_this_town, .inr (6, [.ref a_this_town_kinds, .int v_town_home, .int v_town_fine, .int v_town_breath])), (a_this_town_kinds, .inr (1, [.ref a_this_town_kinds_all])), (a_this_town_kinds_all, .inl (cI, 36, .inl g_town_kinds_all))] sz)) 0 0 (va_A [(a_this, .inr (4, [.ref a_this_town, .int v_square, .int v_came, .int v_allWords, .int v_allCorners, .int v_allCuts, .int v_run, .int v_longestRun, .ref a_this_spoken])), (a_this_spoken, .inr (1, [.ref a_this_spoken_all])), (a_this_spoken_all, .inl (cI, 36, .inl g_spoken_all)), (a_this_town, .inr (6, [.ref a_this_town_kinds, .int v_town_home, .int v_town_fine, .int v_town_breath])), (a_this_town_kinds, .inr (1, [.ref a_this_town_kinds_all])), (a_this_town_kinds_all, .inl (cI, 36, .inl g_town_kinds_all))] sz) := by
  refine Met.ofW (cc := cX4_allFines) (maxL := 3) (ret := (some .int)) (by decide) rfl ?_
  intro p e s m args below meth c s₁ B hml hv
  obtain ⟨rfl, hsz, hP, hK, hD0, hZ⟩ := hv
  have hx := B.exec
  have hb := B.bytes
  have hr := B.returns
  have hts := atoms_spec (ws := wsX4_allFines) B.pre
  have hown : s.vm.findClass RX4 = some m.cls := findClass_of_methodNamed B.named
  have hlocks := B.notSynchronized
  subst hsz
  have hD := hD0.self (sz := s.heap.size)
  generalize hAe : va_A [(a_this, .inr (4, [.ref a_this_town, .int v_square, .int v_came, .int v_allWords, .int v_allCorners, .int v_allCuts, .int v_run, .int v_longestRun, .ref a_this_spoken])), (a_this_spoken, .inr (1, [.ref a_this_spoken_all])), (a_this_spoken_all, .inl (cI, 36, .inl g_spoken_all)), (a_this_town, .inr (6, [.ref a_this_town_kinds, .int v_town_home, .int v_town_fine, .int v_town_breath])), (a_this_town_kinds, .inr (1, [.ref a_this_town_kinds_all])), (a_this_town_kinds_all, .inl (cI, 36, .inl g_town_kinds_all))] s.heap.size = A at hD hZ ⊢
  have hA : ∀ q : Nat, s.heap.size ≤ q → A q := fun q h => by rw [← hAe]; exact Or.inr h
  have hS : va_S A s.heap s.heap [] := va_S.rf
  have hP : va_P (dC, dI) vwCl [(a_this, .inr (4, [.ref a_this_town, .int v_square, .int v_came, .int v_allWords, .int v_allCorners, .int v_allCuts, .int v_run, .int v_longestRun, .ref a_this_spoken])), (a_this_spoken, .inr (1, [.ref a_this_spoken_all])), (a_this_spoken_all, .inl (cI, 36, .inl g_spoken_all)), (a_this_town, .inr (6, [.ref a_this_town_kinds, .int v_town_home, .int v_town_fine, .int v_town_breath])), (a_this_town_kinds, .inr (1, [.ref a_this_town_kinds_all])), (a_this_town_kinds_all, .inl (cI, 36, .inl g_town_kinds_all))] s.heap := hP
  have hl := lv_entry ([.ref a_this]) (n := 3) (Nat.le_of_ble_eq_true rfl)
  rw [lg_entry_eq]
  generalize (lg_sl ([.ref a_this]) ++ List.replicate (3 - (lg_sl ([.ref a_this])).length) Slot.unset).toArray = ls at hl ⊢
  have hl : lv_has ls 3 [(0, .ref a_this)] := hl
  have he := hf
  unfold f_Stroll_allFines at he
  refine zstart (D := (dC, dI)) (cl := vwCl) (A := A) (nL := 3) (fun WW hWW => ?_)
  refine lv_iconst (v := (0 : Int32)) hx hb dX4_allFines_0 (by decide) ?_
  refine lv_istore_n (lv' := [(1, .int (0 : Int32)), (0, .ref a_this)]) hx hb dX4_allFines_1 rfl hl (by decide) rfl (fun ls hl => ?_)
  refine lv_iconst (v := (0 : Int32)) hx hb dX4_allFines_2 (by decide) ?_
  refine lv_istore_n (lv' := [(2, .int (0 : Int32)), (1, .int (0 : Int32)), (0, .ref a_this)]) hx hb dX4_allFines_3 rfl hl (by decide) rfl (fun ls hl => ?_)
  refine (hWW _ _ _ _).mp (zl2_w he (fun (l1_1 : Int32) (l2_2 : Int32) => WW [(a_this, .inr (4, [.ref a_this_town, .int v_square, .int v_came, .int v_allWords, .int v_allCorners, .int v_allCuts, .int v_run, .int v_longestRun, .ref a_this_spoken])), (a_this_spoken, .inr (1, [.ref a_this_spoken_all])), (a_this_spoken_all, .inl (cI, 36, .inl g_spoken_all)), (a_this_town, .inr (6, [.ref a_this_town_kinds, .int v_town_home, .int v_town_fine, .int v_town_breath])), (a_this_town_kinds, .inr (1, [.ref a_this_town_kinds_all])), (a_this_town_kinds_all, .inl (cI, 36, .inl g_town_kinds_all))] [(0, .ref a_this), (1, .int l1_1), (2, .int l2_2)] 4 []) (fun l1_1 l2_2 again3 hagain3 he => (hWW _ _ _ _).mpr (fun H locs ls hP hD hS hl => ?_))) _ _ _ hP hD hS (lv_sub hl [2, 1, 0] rfl)
  refine lv_iload_n hx hb dX4_allFines_4 rfl (lv_at hl 2 rfl) ?_
  refine lv_bipush (v := (36 : Int32)) hx hb dX4_allFines_5 (by decide) ?_
  refine lv_icmp_ge (tgt := 36) hx hb dX4_allFines_7 (by decide) (fun c4 => ?_) (fun c4 => ?_)
  · have he := zif_t c4 he
    refine lv_iload_n hx hb dX4_allFines_36 rfl (lv_at hl 1 rfl) ?_
    obtain ⟨rfl⟩ := zi1 he
    exact W.iret hx hb hr (fun t ht hW => ⟨⟨_, (), rfl, rfl, by rw [ht]; exact hP, va_K.moved hW.alike hK, hD⟩, hS.F ht⟩) hS.2.2 dX4_allFines_37
  · have he := zif_f c4 he
    refine lv_iload_n hx hb dX4_allFines_10 rfl (lv_at hl 1 rfl) ?_
    refine lv_aload_n hx hb dX4_allFines_11 rfl (lv_at hl 0 rfl) ?_
    refine va_get (D := (dC, dI)) (ci := 4) (v := .ref a_this_spoken) (C := RX4) (T := TX4) (N := 9) hx hb hts (by decide +kernel) hown hK hP 0 rfl rfl 8 (by decide) (hts (.fieldLink RX4 14 "LawOfCorners$Stroll" "spoken" "LLawOfCorners$Numbers;") (by decide +kernel)) (fun _ h9 => h9) rfl dX4_allFines_12 ?_
    refine lv_iload_n hx hb dX4_allFines_15 rfl (lv_at hl 2 rfl) ?_
    obtain ⟨r5, hf6, he⟩ := zb1_e he
    refine zc_i (wr := [(a_this, .inr (4, [.ref a_this_town, .int v_square, .int v_came, .int v_allWords, .int v_allCorners, .int v_allCuts, .int v_run, .int v_longestRun, .ref a_this_spoken])), (a_this_town, .inr (6, [.ref a_this_town_kinds, .int v_town_home, .int v_town_fine, .int v_town_breath])), (a_this_town_kinds, .inr (1, [.ref a_this_town_kinds_all])), (a_this_town_kinds_all, .inl (cI, 36, .inl g_town_kinds_all))]) (ws' := [(a_this, .inr (4, [.ref a_this_town, .int v_square, .int v_came, .int v_allWords, .int v_allCorners, .int v_allCuts, .int v_run, .int v_longestRun, .ref a_this_spoken])), (a_this_spoken, .inr (1, [.ref a_this_spoken_all])), (a_this_spoken_all, .inl (cI, 36, .inl g_spoken_all)), (a_this_town, .inr (6, [.ref a_this_town_kinds, .int v_town_home, .int v_town_fine, .int v_town_breath])), (a_this_town_kinds, .inr (1, [.ref a_this_town_kinds_all])), (a_this_town_kinds_all, .inl (cI, 36, .inl g_town_kinds_all))]) (va_runV (As := [.int l2_2]) (rest := [.int l1_1]) ⟨hx, hb, hml, hown, hts⟩ (k_Numbers_at l dC dI cI cZ tt sd a_this_spoken a_this_spoken_all H.size 36 g_spoken_all l2_2 r5 hf6) (cwV 1 hts gX4_allFines_X1_at rfl rfl rfl (by decide +kernel) ⟨Nat.le_of_ble_eq_true rfl, Nat.le_of_ble_eq_true rfl⟩) (zpV hP hD hK hS hA hZ [1, 2] rfl rfl 1 1 rfl rfl) rfl rfl hl.1 rfl (lv_room (Nat.le_of_ble_eq_true rfl)) dX4_allFines_16 ⟨Nat.zero_le _, Nat.zero_le _⟩) hP hD hS hA [1, 2] [0, 3, 4, 5] [0, 4, 5, 1, 2, 3] rfl rfl rfl (by decide) rfl rfl rfl (fun H locs hP hD hS => ?_)
    refine lv_aload_n hx hb dX4_allFines_19 rfl (lv_at hl 0 rfl) ?_
    refine va_get (D := (dC, dI)) (ci := 4) (v := .ref a_this_town) (C := RX4) (T := TX4) (N := 9) hx hb hts (by decide +kernel) hown hK hP 0 rfl rfl 0 (by decide) (hts (.fieldLink RX4 20 "LawOfCorners$Stroll" "town" "LLawOfCorners$Town;") (by decide +kernel)) (fun _ h9 => h9) rfl dX4_allFines_20 ?_
    refine lv_iload_n hx hb dX4_allFines_23 rfl (lv_at hl 2 rfl) ?_
    obtain ⟨r7, hf8, he⟩ := zb1_e he
    refine zc_i (wr := [(a_this, .inr (4, [.ref a_this_town, .int v_square, .int v_came, .int v_allWords, .int v_allCorners, .int v_allCuts, .int v_run, .int v_longestRun, .ref a_this_spoken])), (a_this_spoken, .inr (1, [.ref a_this_spoken_all])), (a_this_spoken_all, .inl (cI, 36, .inl g_spoken_all))]) (ws' := [(a_this, .inr (4, [.ref a_this_town, .int v_square, .int v_came, .int v_allWords, .int v_allCorners, .int v_allCuts, .int v_run, .int v_longestRun, .ref a_this_spoken])), (a_this_spoken, .inr (1, [.ref a_this_spoken_all])), (a_this_spoken_all, .inl (cI, 36, .inl g_spoken_all)), (a_this_town, .inr (6, [.ref a_this_town_kinds, .int v_town_home, .int v_town_fine, .int v_town_breath])), (a_this_town_kinds, .inr (1, [.ref a_this_town_kinds_all])), (a_this_town_kinds_all, .inl (cI, 36, .inl g_town_kinds_all))]) (va_runV (As := [.int l2_2]) (rest := [.int r5, .int l1_1]) ⟨hx, hb, hml, hown, hts⟩ (k_Town_fineOn l dC dI cI cZ tt sd a_this_town a_this_town_kinds a_this_town_kinds_all H.size v_town_home v_town_fine v_town_breath g_town_kinds_all l2_2 r7 hf8) (cwV 1 hts gX4_allFines_X6_fineOn rfl rfl rfl (by decide +kernel) ⟨Nat.le_of_ble_eq_true rfl, Nat.le_of_ble_eq_true rfl⟩) (zpV hP hD hK hS hA hZ [3, 4, 5] rfl rfl 6 3 rfl rfl) rfl rfl hl.1 rfl (lv_room (Nat.le_of_ble_eq_true rfl)) dX4_allFines_24 ⟨Nat.zero_le _, Nat.zero_le _⟩) hP hD hS hA [3, 4, 5] [0, 1, 2] [0, 1, 2, 3, 4, 5] rfl rfl rfl (by decide) rfl rfl rfl (fun H locs hP hD hS => ?_)
    refine lv_imul hx hb dX4_allFines_27 ?_
    refine lv_iadd hx hb dX4_allFines_28 ?_
    refine lv_topi (fun x9 ex9 => ?_)
    have he := zn_e ex9 he
    refine lv_istore_n (lv' := [(1, .int x9), (0, .ref a_this), (2, .int l2_2)]) hx hb dX4_allFines_29 rfl hl (by decide) rfl (fun ls hl => ?_)
    obtain ⟨x10, ex10⟩ : ∃ y : Int32, y = l2_2 + (1 : Int32) := ⟨_, rfl⟩
    have he := zn_e ex10 he
    refine lv_iinc (v := x10) (lv' := [(2, .int x10), (1, .int x9), (0, .ref a_this)]) hx hb dX4_allFines_30 hl (k := 2) rfl (by rw [ex10]; rfl) (by decide) rfl (fun ls hl => ?_)
    refine lv_goto (tgt := 4) hx hb dX4_allFines_33 (by decide) ?_
    exact (hWW _ _ _ _).mp (hagain3 x9 x10 he) _ _ _ hP hD hS (lv_sub hl [2, 1, 0] rfl)
set_option maxHeartbeats 4000000 in
set_option maxRecDepth 100000 in
theorem k_Stroll_answer (l : Launch) (dC : Nat → ClassId) (dI : Nat → Nat → Nat) (cI : ClassId) (cZ : ClassId) (tt : Nat → Nat) (sd : Nat → Nat) (a_this : Nat) (a_this_town : Nat) (a_this_spoken : Nat) (a_this_spoken_all : Nat) (a_this_town_kinds : Nat) (a_this_town_kinds_all : Nat) (sz : Nat) (v_square : Int32) (v_came : Int32) (v_allWords : Int32) (v_allCorners : Int32) (v_allCuts : Int32) (v_run : Int32) (v_longestRun : Int32) (g_spoken_all : Nat → Int32) (v_town_home : Int32) (v_town_fine : Int32) (v_town_breath : Int32) (g_town_kinds_all : Nat → Int32) (p1 : Int32) (r0 : Int32) (hf : f_Stroll_answer v_allCorners v_allCuts v_allWords v_longestRun v_square g_spoken_all v_town_fine g_town_kinds_all p1 = some (r0)) : Met l yX4_answer wsX4_answer ({ frames := 5, cells := 0, slots := 0, locals := 120 }) (zPre (dC, dI) vwCl [(cI, .int), (cZ, .boolean)] tt sd [.ref a_this, .int p1] [(a_this, .inr (4, [.ref a_this_town, .int v_square, .int v_came, .int v_allWords, .int v_allCorners, .int v_allCuts, .int v_run, .int v_longestRun, .ref a_this_spoken])), (a_this_spoken, .inr (1, [.ref a_this_spoken_all])), (a_this_spoken_all, .inl (cI, 36, .inl g_spoken_all)), (a_this_town, .inr (6, [.ref a_this_town_kinds, .int v_town_home, .int v_town_fine, .int v_town_breath])), (a_this_town_kinds, .inr (1, [.ref a_this_town_kinds_all])), (a_this_town_kinds_all, .inl (cI, 36, .inl g_town_kinds_all))] sz) (zQi (dC, dI) vwCl [(cI, .int), (cZ, .boolean)] r0 [(a_this, .inr (4, [.ref a_this_town, .int v_square, .int v_came, .int v_allWords, .int v_allCorners, .int v_allCuts, .int v_run, .int v_longestRun, .ref a_this_spoken])), (a_this_spoken, .inr (1, [.ref a_this_spoken_all])), (a_this_spoken_all, .inl (cI, 36, .inl g_spoken_all)), (a_this_town, .inr (6, [.ref a_this_town_kinds, .int v_town_home, .int v_town_fine, .int v_town_breath])), (a_this_town_kinds, .inr (1, [.ref a_this_town_kinds_all])), (a_this_town_kinds_all, .inl (cI, 36, .inl g_town_kinds_all))] (va_A [(a_this, .inr (4, [.ref a_this_town, .int v_square, .int v_came, .int v_allWords, .int v_allCorners, .int v_allCuts, .int v_run, .int v_longestRun, .ref a_this_spoken])), (a_this_spoken, .inr (1, [.ref a_this_spoken_all])), (a_this_spoken_all, .inl (cI, 36, .inl g_spoken_all)), (a_this_town, .inr (6, [.ref a_this_town_kinds, .int v_town_home, .int v_town_fine, .int v_town_breath])), (a_this_town_kinds, .inr (1, [.ref a_this_town_kinds_all])), (a_this_town_kinds_all, .inl (cI, 36, .inl g_town_kinds_all))] sz)) 0 0 (va_A [(a_this, .inr (4, [.ref a_this_town, .int v_square, .int v_came, .int v_allWords, .int v_allCorners, .int v_allCuts, .int v_run, .int v_longestRun, .ref a_this_spoken])), (a_this_spoken, .inr (1, [.ref a_this_spoken_all])), (a_this_spoken_all, .inl (cI, 36, .inl g_spoken_all)), (a_this_town, .inr (6, [.ref a_this_town_kinds, .int v_town_home, .int v_town_fine, .int v_town_breath])), (a_this_town_kinds, .inr (1, [.ref a_this_town_kinds_all])), (a_this_town_kinds_all, .inl (cI, 36, .inl g_town_kinds_all))] sz) := by
  refine Met.ofW (cc := cX4_answer) (maxL := 2) (ret := (some .int)) (by decide) rfl ?_
  intro p e s m args below meth c s₁ B hml hv
  obtain ⟨rfl, hsz, hP, hK, hD0, hZ⟩ := hv
  have hx := B.exec
  have hb := B.bytes
  have hr := B.returns
  have hts := atoms_spec (ws := wsX4_answer) B.pre
  have hown : s.vm.findClass RX4 = some m.cls := findClass_of_methodNamed B.named
  have hlocks := B.notSynchronized
  subst hsz
  have hD := hD0.self (sz := s.heap.size)
  generalize hAe : va_A [(a_this, .inr (4, [.ref a_this_town, .int v_square, .int v_came, .int v_allWords, .int v_allCorners, .int v_allCuts, .int v_run, .int v_longestRun, .ref a_this_spoken])), (a_this_spoken, .inr (1, [.ref a_this_spoken_all])), (a_this_spoken_all, .inl (cI, 36, .inl g_spoken_all)), (a_this_town, .inr (6, [.ref a_this_town_kinds, .int v_town_home, .int v_town_fine, .int v_town_breath])), (a_this_town_kinds, .inr (1, [.ref a_this_town_kinds_all])), (a_this_town_kinds_all, .inl (cI, 36, .inl g_town_kinds_all))] s.heap.size = A at hD hZ ⊢
  have hA : ∀ q : Nat, s.heap.size ≤ q → A q := fun q h => by rw [← hAe]; exact Or.inr h
  have hS : va_S A s.heap s.heap [] := va_S.rf
  have hP : va_P (dC, dI) vwCl [(a_this, .inr (4, [.ref a_this_town, .int v_square, .int v_came, .int v_allWords, .int v_allCorners, .int v_allCuts, .int v_run, .int v_longestRun, .ref a_this_spoken])), (a_this_spoken, .inr (1, [.ref a_this_spoken_all])), (a_this_spoken_all, .inl (cI, 36, .inl g_spoken_all)), (a_this_town, .inr (6, [.ref a_this_town_kinds, .int v_town_home, .int v_town_fine, .int v_town_breath])), (a_this_town_kinds, .inr (1, [.ref a_this_town_kinds_all])), (a_this_town_kinds_all, .inl (cI, 36, .inl g_town_kinds_all))] s.heap := hP
  have hl := lv_entry ([.ref a_this, .int p1]) (n := 2) (Nat.le_of_ble_eq_true rfl)
  rw [lg_entry_eq]
  generalize (lg_sl ([.ref a_this, .int p1]) ++ List.replicate (2 - (lg_sl ([.ref a_this, .int p1])).length) Slot.unset).toArray = ls at hl ⊢
  have hl : lv_has ls 2 [(0, .ref a_this), (1, .int p1)] := hl
  have he := hf
  unfold f_Stroll_answer at he
  refine lv_iload_n hx hb dX4_answer_0 rfl (lv_at hl 1 rfl) ?_
  by_cases c1 : p1 = (1 : Int32)
  · have he := zif_t c1 he
    refine lv_tableIn (off := 39) (tgt := 40) hx hb dX4_answer_1 (by rw [c1]; decide) (by rw [c1]; decide) (by rw [c1]; rfl) (by decide) ?_
    refine lv_aload_n hx hb dX4_answer_40 rfl (lv_at hl 0 rfl) ?_
    refine va_get (D := (dC, dI)) (ci := 4) (v := .int v_square) (C := RX4) (T := TX4) (N := 9) hx hb hts (by decide +kernel) hown hK hP 0 rfl rfl 1 (by decide) (hts (.fieldLink RX4 30 "LawOfCorners$Stroll" "square" "I") (by decide +kernel)) (fun _ h9 => h9) rfl dX4_answer_41 ?_
    obtain ⟨rfl⟩ := zi1 he
    exact W.iret hx hb hr (fun t ht hW => ⟨⟨_, (), rfl, rfl, by rw [ht]; exact hP, va_K.moved hW.alike hK, hD⟩, hS.F ht⟩) hS.2.2 dX4_answer_44
  have he := zif_f c1 he
  by_cases c2 : p1 = (2 : Int32)
  · have he := zif_t c2 he
    refine lv_tableIn (off := 44) (tgt := 45) hx hb dX4_answer_1 (by rw [c2]; decide) (by rw [c2]; decide) (by rw [c2]; rfl) (by decide) ?_
    refine lv_aload_n hx hb dX4_answer_45 rfl (lv_at hl 0 rfl) ?_
    refine va_get (D := (dC, dI)) (ci := 4) (v := .int v_allWords) (C := RX4) (T := TX4) (N := 9) hx hb hts (by decide +kernel) hown hK hP 0 rfl rfl 3 (by decide) (hts (.fieldLink RX4 37 "LawOfCorners$Stroll" "allWords" "I") (by decide +kernel)) (fun _ h9 => h9) rfl dX4_answer_46 ?_
    obtain ⟨rfl⟩ := zi1 he
    exact W.iret hx hb hr (fun t ht hW => ⟨⟨_, (), rfl, rfl, by rw [ht]; exact hP, va_K.moved hW.alike hK, hD⟩, hS.F ht⟩) hS.2.2 dX4_answer_49
  have he := zif_f c2 he
  by_cases c3 : p1 = (3 : Int32)
  · have he := zif_t c3 he
    refine lv_tableIn (off := 49) (tgt := 50) hx hb dX4_answer_1 (by rw [c3]; decide) (by rw [c3]; decide) (by rw [c3]; rfl) (by decide) ?_
    refine lv_aload_n hx hb dX4_answer_50 rfl (lv_at hl 0 rfl) ?_
    refine va_get (D := (dC, dI)) (ci := 4) (v := .int v_allCorners) (C := RX4) (T := TX4) (N := 9) hx hb hts (by decide +kernel) hown hK hP 0 rfl rfl 4 (by decide) (hts (.fieldLink RX4 40 "LawOfCorners$Stroll" "allCorners" "I") (by decide +kernel)) (fun _ h9 => h9) rfl dX4_answer_51 ?_
    obtain ⟨rfl⟩ := zi1 he
    exact W.iret hx hb hr (fun t ht hW => ⟨⟨_, (), rfl, rfl, by rw [ht]; exact hP, va_K.moved hW.alike hK, hD⟩, hS.F ht⟩) hS.2.2 dX4_answer_54
  have he := zif_f c3 he
  by_cases c4 : p1 = (4 : Int32)
  · have he := zif_t c4 he
    refine lv_tableIn (off := 54) (tgt := 55) hx hb dX4_answer_1 (by rw [c4]; decide) (by rw [c4]; decide) (by rw [c4]; rfl) (by decide) ?_
    refine lv_aload_n hx hb dX4_answer_55 rfl (lv_at hl 0 rfl) ?_
    refine va_get (D := (dC, dI)) (ci := 4) (v := .int v_allCuts) (C := RX4) (T := TX4) (N := 9) hx hb hts (by decide +kernel) hown hK hP 0 rfl rfl 5 (by decide) (hts (.fieldLink RX4 43 "LawOfCorners$Stroll" "allCuts" "I") (by decide +kernel)) (fun _ h9 => h9) rfl dX4_answer_56 ?_
    obtain ⟨rfl⟩ := zi1 he
    exact W.iret hx hb hr (fun t ht hW => ⟨⟨_, (), rfl, rfl, by rw [ht]; exact hP, va_K.moved hW.alike hK, hD⟩, hS.F ht⟩) hS.2.2 dX4_answer_59
  have he := zif_f c4 he
  by_cases c5 : p1 = (5 : Int32)
  · have he := zif_t c5 he
    refine lv_tableIn (off := 59) (tgt := 60) hx hb dX4_answer_1 (by rw [c5]; decide) (by rw [c5]; decide) (by rw [c5]; rfl) (by decide) ?_
    refine lv_aload_n hx hb dX4_answer_60 rfl (lv_at hl 0 rfl) ?_
    obtain ⟨r6, hf7, he⟩ := zb1_e he
    refine zc_i (wr := []) (ws' := [(a_this, .inr (4, [.ref a_this_town, .int v_square, .int v_came, .int v_allWords, .int v_allCorners, .int v_allCuts, .int v_run, .int v_longestRun, .ref a_this_spoken])), (a_this_spoken, .inr (1, [.ref a_this_spoken_all])), (a_this_spoken_all, .inl (cI, 36, .inl g_spoken_all)), (a_this_town, .inr (6, [.ref a_this_town_kinds, .int v_town_home, .int v_town_fine, .int v_town_breath])), (a_this_town_kinds, .inr (1, [.ref a_this_town_kinds_all])), (a_this_town_kinds_all, .inl (cI, 36, .inl g_town_kinds_all))]) (va_runV (As := []) (rest := []) ⟨hx, hb, hml, hown, hts⟩ (k_Stroll_allFines l dC dI cI cZ tt sd a_this a_this_town a_this_spoken a_this_spoken_all a_this_town_kinds a_this_town_kinds_all s.heap.size v_square v_came v_allWords v_allCorners v_allCuts v_run v_longestRun g_spoken_all v_town_home v_town_fine v_town_breath g_town_kinds_all r6 hf7) (cwV 0 hts gX4_answer_X4_allFines rfl rfl rfl (by decide +kernel) ⟨Nat.le_of_ble_eq_true rfl, Nat.le_of_ble_eq_true rfl⟩) (zpV hP hD hK hS hA hZ [0, 1, 2, 3, 4, 5] rfl rfl 4 0 rfl rfl) rfl rfl hl.1 rfl (lv_room (Nat.le_of_ble_eq_true rfl)) dX4_answer_61 ⟨Nat.zero_le _, Nat.zero_le _⟩) hP hD hS hA [0, 1, 2, 3, 4, 5] [] [0, 1, 2, 3, 4, 5] rfl rfl rfl (by decide) rfl rfl rfl (fun H locs hP hD hS => ?_)
    obtain ⟨rfl⟩ := zi1 he
    exact W.iret hx hb hr (fun t ht hW => ⟨⟨_, (), rfl, rfl, by rw [ht]; exact hP, va_K.moved hW.alike hK, hD⟩, hS.F ht⟩) hS.2.2 dX4_answer_64
  have he := zif_f c5 he
  by_cases c8 : p1 = (6 : Int32)
  · have he := zif_t c8 he
    refine lv_tableIn (off := 64) (tgt := 65) hx hb dX4_answer_1 (by rw [c8]; decide) (by rw [c8]; decide) (by rw [c8]; rfl) (by decide) ?_
    refine lv_aload_n hx hb dX4_answer_65 rfl (lv_at hl 0 rfl) ?_
    refine va_get (D := (dC, dI)) (ci := 4) (v := .int v_longestRun) (C := RX4) (T := TX4) (N := 9) hx hb hts (by decide +kernel) hown hK hP 0 rfl rfl 7 (by decide) (hts (.fieldLink RX4 49 "LawOfCorners$Stroll" "longestRun" "I") (by decide +kernel)) (fun _ h9 => h9) rfl dX4_answer_66 ?_
    obtain ⟨rfl⟩ := zi1 he
    exact W.iret hx hb hr (fun t ht hW => ⟨⟨_, (), rfl, rfl, by rw [ht]; exact hP, va_K.moved hW.alike hK, hD⟩, hS.F ht⟩) hS.2.2 dX4_answer_69
  have he := zif_f c8 he
  refine lv_tableOut (tgt := 70) hx hb dX4_answer_1 (by have n0 := lv_neT (a := 1) c1 (by decide); have n1 := lv_neT (a := 2) c2 (by decide); have n2 := lv_neT (a := 3) c3 (by decide); have n3 := lv_neT (a := 4) c4 (by decide); have n4 := lv_neT (a := 5) c5 (by decide); have n5 := lv_neT (a := 6) c8 (by decide); omega) (by decide) ?_
  refine lv_bipush (v := (-9 : Int32)) hx hb dX4_answer_70 (by decide) ?_
  obtain ⟨rfl⟩ := zi1 he
  exact W.iret hx hb hr (fun t ht hW => ⟨⟨_, (), rfl, rfl, by rw [ht]; exact hP, va_K.moved hW.alike hK, hD⟩, hS.F ht⟩) hS.2.2 dX4_answer_72
set_option maxHeartbeats 4000000 in
set_option maxRecDepth 100000 in
theorem k_X_walk (l : Launch) (dC : Nat → ClassId) (dI : Nat → Nat → Nat) (cI : ClassId) (cZ : ClassId) (tt : Nat → Nat) (sd : Nat → Nat) (a_this : Nat) (a_this_town : Nat) (a_this_trial : Nat) (a_this_kept : Nat) (a_this_letters : Nat) (a_this_told : Nat) (a_this_refused : Nat) (a_this_stroll : Nat) (a_this_reach : Nat) (a_this_otherReach : Nat) (a_this_routes : Nat) (a_this_talks : Nat) (a_this_hearers : Nat) (a_this_refused_all : Nat) (a_this_stroll_spoken : Nat) (a_this_stroll_spoken_all : Nat) (a_this_told_all : Nat) (a_this_town_kinds : Nat) (a_this_town_kinds_all : Nat) (sz : Nat) (v_isKept : Int32) (v_toldCount : Int32) (g_refused_all : Nat → Int32) (v_stroll_square : Int32) (v_stroll_came : Int32) (v_stroll_allWords : Int32) (v_stroll_allCorners : Int32) (v_stroll_allCuts : Int32) (v_stroll_run : Int32) (v_stroll_longestRun : Int32) (g_stroll_spoken_all : Nat → Int32) (g_told_all : Nat → Int32) (v_town_home : Int32) (v_town_fine : Int32) (v_town_breath : Int32) (g_town_kinds_all : Nat → Int32) (p1 : Int32) (r0 : Int32) (w0 : Nat → Int32) (w1 : Int32) (w2 : Int32) (w3 : Int32) (w4 : Int32) (w5 : Int32) (w6 : Int32) (w7 : Int32) (w8 : Nat → Int32) (hf : f_X_walk v_toldCount g_refused_all v_stroll_allCorners v_stroll_allCuts v_stroll_allWords v_stroll_came v_stroll_longestRun v_stroll_run v_stroll_square g_stroll_spoken_all g_told_all v_town_breath v_town_fine v_town_home g_town_kinds_all p1 = some (r0, w0, w1, w2, w3, w4, w5, w6, w7, w8)) : Met l yX7_walk wsX7_walk ({ frames := 6, cells := 0, slots := 0, locals := 141 }) (zPre (dC, dI) vwCl [(cI, .int), (cZ, .boolean)] tt sd [.ref a_this, .int p1] [(a_this, .inr (7, [.ref a_this_town, .ref a_this_trial, .ref a_this_kept, .int v_isKept, .ref a_this_letters, .ref a_this_told, .int v_toldCount, .ref a_this_refused, .ref a_this_stroll, .ref a_this_reach, .ref a_this_otherReach, .ref a_this_routes, .ref a_this_talks, .ref a_this_hearers])), (a_this_refused, .inr (1, [.ref a_this_refused_all])), (a_this_refused_all, .inl (cI, 7, .inl g_refused_all)), (a_this_stroll, .inr (4, [.ref a_this_town, .int v_stroll_square, .int v_stroll_came, .int v_stroll_allWords, .int v_stroll_allCorners, .int v_stroll_allCuts, .int v_stroll_run, .int v_stroll_longestRun, .ref a_this_stroll_spoken])), (a_this_stroll_spoken, .inr (1, [.ref a_this_stroll_spoken_all])), (a_this_stroll_spoken_all, .inl (cI, 36, .inl g_stroll_spoken_all)), (a_this_told, .inr (1, [.ref a_this_told_all])), (a_this_told_all, .inl (cI, 20, .inl g_told_all)), (a_this_town, .inr (6, [.ref a_this_town_kinds, .int v_town_home, .int v_town_fine, .int v_town_breath])), (a_this_town_kinds, .inr (1, [.ref a_this_town_kinds_all])), (a_this_town_kinds_all, .inl (cI, 36, .inl g_town_kinds_all))] sz) (zQi (dC, dI) vwCl [(cI, .int), (cZ, .boolean)] r0 [(a_this, .inr (7, [.ref a_this_town, .ref a_this_trial, .ref a_this_kept, .int v_isKept, .ref a_this_letters, .ref a_this_told, .int v_toldCount, .ref a_this_refused, .ref a_this_stroll, .ref a_this_reach, .ref a_this_otherReach, .ref a_this_routes, .ref a_this_talks, .ref a_this_hearers])), (a_this_refused, .inr (1, [.ref a_this_refused_all])), (a_this_refused_all, .inl (cI, 7, .inl w0)), (a_this_stroll, .inr (4, [.ref a_this_town, .int w7, .int w4, .int w3, .int w1, .int w2, .int w6, .int w5, .ref a_this_stroll_spoken])), (a_this_stroll_spoken, .inr (1, [.ref a_this_stroll_spoken_all])), (a_this_stroll_spoken_all, .inl (cI, 36, .inl w8)), (a_this_told, .inr (1, [.ref a_this_told_all])), (a_this_told_all, .inl (cI, 20, .inl g_told_all)), (a_this_town, .inr (6, [.ref a_this_town_kinds, .int v_town_home, .int v_town_fine, .int v_town_breath])), (a_this_town_kinds, .inr (1, [.ref a_this_town_kinds_all])), (a_this_town_kinds_all, .inl (cI, 36, .inl g_town_kinds_all))] (va_A [(a_this, .inr (7, [.ref a_this_town, .ref a_this_trial, .ref a_this_kept, .int v_isKept, .ref a_this_letters, .ref a_this_told, .int v_toldCount, .ref a_this_refused, .ref a_this_stroll, .ref a_this_reach, .ref a_this_otherReach, .ref a_this_routes, .ref a_this_talks, .ref a_this_hearers])), (a_this_refused, .inr (1, [.ref a_this_refused_all])), (a_this_refused_all, .inl (cI, 7, .inl g_refused_all)), (a_this_stroll, .inr (4, [.ref a_this_town, .int v_stroll_square, .int v_stroll_came, .int v_stroll_allWords, .int v_stroll_allCorners, .int v_stroll_allCuts, .int v_stroll_run, .int v_stroll_longestRun, .ref a_this_stroll_spoken])), (a_this_stroll_spoken, .inr (1, [.ref a_this_stroll_spoken_all])), (a_this_stroll_spoken_all, .inl (cI, 36, .inl g_stroll_spoken_all)), (a_this_told, .inr (1, [.ref a_this_told_all])), (a_this_told_all, .inl (cI, 20, .inl g_told_all)), (a_this_town, .inr (6, [.ref a_this_town_kinds, .int v_town_home, .int v_town_fine, .int v_town_breath])), (a_this_town_kinds, .inr (1, [.ref a_this_town_kinds_all])), (a_this_town_kinds_all, .inl (cI, 36, .inl g_town_kinds_all))] sz)) 0 0 (va_A [(a_this, .inr (7, [.ref a_this_town, .ref a_this_trial, .ref a_this_kept, .int v_isKept, .ref a_this_letters, .ref a_this_told, .int v_toldCount, .ref a_this_refused, .ref a_this_stroll, .ref a_this_reach, .ref a_this_otherReach, .ref a_this_routes, .ref a_this_talks, .ref a_this_hearers])), (a_this_refused, .inr (1, [.ref a_this_refused_all])), (a_this_refused_all, .inl (cI, 7, .inl g_refused_all)), (a_this_stroll, .inr (4, [.ref a_this_town, .int v_stroll_square, .int v_stroll_came, .int v_stroll_allWords, .int v_stroll_allCorners, .int v_stroll_allCuts, .int v_stroll_run, .int v_stroll_longestRun, .ref a_this_stroll_spoken])), (a_this_stroll_spoken, .inr (1, [.ref a_this_stroll_spoken_all])), (a_this_stroll_spoken_all, .inl (cI, 36, .inl g_stroll_spoken_all)), (a_this_told, .inr (1, [.ref a_this_told_all])), (a_this_told_all, .inl (cI, 20, .inl g_told_all)), (a_this_town, .inr (6, [.ref a_this_town_kinds, .int v_town_home, .int v_town_fine, .int v_town_breath])), (a_this_town_kinds, .inr (1, [.ref a_this_town_kinds_all])), (a_this_town_kinds_all, .inl (cI, 36, .inl g_town_kinds_all))] sz) := by
  refine Met.ofW (cc := cX7_walk) (maxL := 3) (ret := (some .int)) (by decide) rfl ?_
  intro p e s m args below meth c s₁ B hml hv
  obtain ⟨rfl, hsz, hP, hK, hD0, hZ⟩ := hv
  have hx := B.exec
  have hb := B.bytes
  have hr := B.returns
  have hts := atoms_spec (ws := wsX7_walk) B.pre
  have hown : s.vm.findClass RX7 = some m.cls := findClass_of_methodNamed B.named
  have hlocks := B.notSynchronized
  subst hsz
  have hD := hD0.self (sz := s.heap.size)
  generalize hAe : va_A [(a_this, .inr (7, [.ref a_this_town, .ref a_this_trial, .ref a_this_kept, .int v_isKept, .ref a_this_letters, .ref a_this_told, .int v_toldCount, .ref a_this_refused, .ref a_this_stroll, .ref a_this_reach, .ref a_this_otherReach, .ref a_this_routes, .ref a_this_talks, .ref a_this_hearers])), (a_this_refused, .inr (1, [.ref a_this_refused_all])), (a_this_refused_all, .inl (cI, 7, .inl g_refused_all)), (a_this_stroll, .inr (4, [.ref a_this_town, .int v_stroll_square, .int v_stroll_came, .int v_stroll_allWords, .int v_stroll_allCorners, .int v_stroll_allCuts, .int v_stroll_run, .int v_stroll_longestRun, .ref a_this_stroll_spoken])), (a_this_stroll_spoken, .inr (1, [.ref a_this_stroll_spoken_all])), (a_this_stroll_spoken_all, .inl (cI, 36, .inl g_stroll_spoken_all)), (a_this_told, .inr (1, [.ref a_this_told_all])), (a_this_told_all, .inl (cI, 20, .inl g_told_all)), (a_this_town, .inr (6, [.ref a_this_town_kinds, .int v_town_home, .int v_town_fine, .int v_town_breath])), (a_this_town_kinds, .inr (1, [.ref a_this_town_kinds_all])), (a_this_town_kinds_all, .inl (cI, 36, .inl g_town_kinds_all))] s.heap.size = A at hD hZ ⊢
  have hA : ∀ q : Nat, s.heap.size ≤ q → A q := fun q h => by rw [← hAe]; exact Or.inr h
  have hS : va_S A s.heap s.heap [] := va_S.rf
  have hP : va_P (dC, dI) vwCl [(a_this, .inr (7, [.ref a_this_town, .ref a_this_trial, .ref a_this_kept, .int v_isKept, .ref a_this_letters, .ref a_this_told, .int v_toldCount, .ref a_this_refused, .ref a_this_stroll, .ref a_this_reach, .ref a_this_otherReach, .ref a_this_routes, .ref a_this_talks, .ref a_this_hearers])), (a_this_refused, .inr (1, [.ref a_this_refused_all])), (a_this_refused_all, .inl (cI, 7, .inl g_refused_all)), (a_this_stroll, .inr (4, [.ref a_this_town, .int v_stroll_square, .int v_stroll_came, .int v_stroll_allWords, .int v_stroll_allCorners, .int v_stroll_allCuts, .int v_stroll_run, .int v_stroll_longestRun, .ref a_this_stroll_spoken])), (a_this_stroll_spoken, .inr (1, [.ref a_this_stroll_spoken_all])), (a_this_stroll_spoken_all, .inl (cI, 36, .inl g_stroll_spoken_all)), (a_this_told, .inr (1, [.ref a_this_told_all])), (a_this_told_all, .inl (cI, 20, .inl g_told_all)), (a_this_town, .inr (6, [.ref a_this_town_kinds, .int v_town_home, .int v_town_fine, .int v_town_breath])), (a_this_town_kinds, .inr (1, [.ref a_this_town_kinds_all])), (a_this_town_kinds_all, .inl (cI, 36, .inl g_town_kinds_all))] s.heap := hP
  have hl := lv_entry ([.ref a_this, .int p1]) (n := 3) (Nat.le_of_ble_eq_true rfl)
  rw [lg_entry_eq]
  generalize (lg_sl ([.ref a_this, .int p1]) ++ List.replicate (3 - (lg_sl ([.ref a_this, .int p1])).length) Slot.unset).toArray = ls at hl ⊢
  have hl : lv_has ls 3 [(0, .ref a_this), (1, .int p1)] := hl
  have he := hf
  unfold f_X_walk at he
  refine zstart (D := (dC, dI)) (cl := vwCl) (A := A) (nL := 3) (fun WW hWW => ?_)
  refine lv_iload_n hx hb dX7_walk_0 rfl (lv_at hl 1 rfl) ?_
  refine zj1_w he (fun (_ : Unit) => WW [(a_this, .inr (7, [.ref a_this_town, .ref a_this_trial, .ref a_this_kept, .int v_isKept, .ref a_this_letters, .ref a_this_told, .int v_toldCount, .ref a_this_refused, .ref a_this_stroll, .ref a_this_reach, .ref a_this_otherReach, .ref a_this_routes, .ref a_this_talks, .ref a_this_hearers])), (a_this_refused, .inr (1, [.ref a_this_refused_all])), (a_this_refused_all, .inl (cI, 7, .inl g_refused_all)), (a_this_stroll, .inr (4, [.ref a_this_town, .int v_stroll_square, .int v_stroll_came, .int v_stroll_allWords, .int v_stroll_allCorners, .int v_stroll_allCuts, .int v_stroll_run, .int v_stroll_longestRun, .ref a_this_stroll_spoken])), (a_this_stroll_spoken, .inr (1, [.ref a_this_stroll_spoken_all])), (a_this_stroll_spoken_all, .inl (cI, 36, .inl g_stroll_spoken_all)), (a_this_told, .inr (1, [.ref a_this_told_all])), (a_this_told_all, .inl (cI, 20, .inl g_told_all)), (a_this_town, .inr (6, [.ref a_this_town_kinds, .int v_town_home, .int v_town_fine, .int v_town_breath])), (a_this_town_kinds, .inr (1, [.ref a_this_town_kinds_all])), (a_this_town_kinds_all, .inl (cI, 36, .inl g_town_kinds_all))] [(0, .ref a_this)] 10 []) (fun _ he => (hWW _ _ _ _).mpr (fun H locs ls hP hD hS hl => ?_)) (fun k4 hk4 he => ?_)
  · refine lv_aload_n hx hb dX7_walk_10 rfl (lv_at hl 0 rfl) ?_
    refine lv_bipush (v := (-2 : Int32)) hx hb dX7_walk_11 (by decide) ?_
    obtain ⟨r1, g_refused_all_2, hf3, he⟩ := zb2_e he
    refine zc_i (wr := [(a_this_stroll, .inr (4, [.ref a_this_town, .int v_stroll_square, .int v_stroll_came, .int v_stroll_allWords, .int v_stroll_allCorners, .int v_stroll_allCuts, .int v_stroll_run, .int v_stroll_longestRun, .ref a_this_stroll_spoken])), (a_this_stroll_spoken, .inr (1, [.ref a_this_stroll_spoken_all])), (a_this_stroll_spoken_all, .inl (cI, 36, .inl g_stroll_spoken_all)), (a_this_told, .inr (1, [.ref a_this_told_all])), (a_this_told_all, .inl (cI, 20, .inl g_told_all)), (a_this_town, .inr (6, [.ref a_this_town_kinds, .int v_town_home, .int v_town_fine, .int v_town_breath])), (a_this_town_kinds, .inr (1, [.ref a_this_town_kinds_all])), (a_this_town_kinds_all, .inl (cI, 36, .inl g_town_kinds_all))]) (ws' := [(a_this, .inr (7, [.ref a_this_town, .ref a_this_trial, .ref a_this_kept, .int v_isKept, .ref a_this_letters, .ref a_this_told, .int v_toldCount, .ref a_this_refused, .ref a_this_stroll, .ref a_this_reach, .ref a_this_otherReach, .ref a_this_routes, .ref a_this_talks, .ref a_this_hearers])), (a_this_refused, .inr (1, [.ref a_this_refused_all])), (a_this_refused_all, .inl (cI, 7, .inl g_refused_all_2)), (a_this_stroll, .inr (4, [.ref a_this_town, .int v_stroll_square, .int v_stroll_came, .int v_stroll_allWords, .int v_stroll_allCorners, .int v_stroll_allCuts, .int v_stroll_run, .int v_stroll_longestRun, .ref a_this_stroll_spoken])), (a_this_stroll_spoken, .inr (1, [.ref a_this_stroll_spoken_all])), (a_this_stroll_spoken_all, .inl (cI, 36, .inl g_stroll_spoken_all)), (a_this_told, .inr (1, [.ref a_this_told_all])), (a_this_told_all, .inl (cI, 20, .inl g_told_all)), (a_this_town, .inr (6, [.ref a_this_town_kinds, .int v_town_home, .int v_town_fine, .int v_town_breath])), (a_this_town_kinds, .inr (1, [.ref a_this_town_kinds_all])), (a_this_town_kinds_all, .inl (cI, 36, .inl g_town_kinds_all))]) (va_runV (As := [.int (-2 : Int32)]) (rest := []) ⟨hx, hb, hml, hown, hts⟩ (k_X_refuse l dC dI cI cZ tt sd a_this a_this_town a_this_trial a_this_kept a_this_letters a_this_told a_this_refused a_this_stroll a_this_reach a_this_otherReach a_this_routes a_this_talks a_this_hearers a_this_refused_all H.size v_isKept v_toldCount g_refused_all (-2 : Int32) r1 g_refused_all_2 hf3) (cwV 1 hts gX7_walk_X7_refuse rfl rfl rfl (by decide +kernel) ⟨Nat.le_of_ble_eq_true rfl, Nat.le_of_ble_eq_true rfl⟩) (zpV hP hD hK hS hA hZ [0, 1, 2] rfl rfl 7 0 rfl rfl) rfl rfl hl.1 rfl (lv_room (Nat.le_of_ble_eq_true rfl)) dX7_walk_13 ⟨Nat.zero_le _, Nat.zero_le _⟩) hP hD hS hA [0, 1, 2] [3, 4, 5, 6, 7, 8, 9, 10] [8, 9, 10, 0, 1, 2, 3, 4, 5, 6, 7] rfl rfl rfl (by decide) rfl rfl rfl (fun H locs hP hD hS => ?_)
    obtain ⟨rfl, rfl, rfl, rfl, rfl, rfl, rfl, rfl, rfl, rfl⟩ := zi10 he
    exact W.iret hx hb hr (fun t ht hW => ⟨⟨_, (), rfl, rfl, by rw [ht]; exact hP, va_K.moved hW.alike hK, hD⟩, hS.F ht⟩) hS.2.2 dX7_walk_16
  refine lv_if_lt (tgt := 10) hx hb dX7_walk_1 (by decide) (fun c5 => ?_) (fun c5 => ?_)
  · have he := zif_t c5 he
    exact (hWW _ _ _ _).mp (hk4 () he) _ _ _ hP hD hS (lv_sub hl [0] rfl)
  · have he := zif_f c5 he
    refine lv_iload_n hx hb dX7_walk_4 rfl (lv_at hl 1 rfl) ?_
    refine lv_bipush (v := (6 : Int32)) hx hb dX7_walk_5 (by decide) ?_
    refine lv_icmp_le (tgt := 17) hx hb dX7_walk_7 (by decide) (fun c6 => ?_) (fun c6 => ?_)
    · have he := zif_t c6 he
      refine lv_aload_n hx hb dX7_walk_17 rfl (lv_at hl 0 rfl) ?_
      obtain ⟨r7, hf8, he⟩ := zb1_e he
      refine zc_i (wr := [(a_this_refused, .inr (1, [.ref a_this_refused_all])), (a_this_refused_all, .inl (cI, 7, .inl g_refused_all)), (a_this_stroll, .inr (4, [.ref a_this_town, .int v_stroll_square, .int v_stroll_came, .int v_stroll_allWords, .int v_stroll_allCorners, .int v_stroll_allCuts, .int v_stroll_run, .int v_stroll_longestRun, .ref a_this_stroll_spoken])), (a_this_stroll_spoken, .inr (1, [.ref a_this_stroll_spoken_all])), (a_this_stroll_spoken_all, .inl (cI, 36, .inl g_stroll_spoken_all)), (a_this_town, .inr (6, [.ref a_this_town_kinds, .int v_town_home, .int v_town_fine, .int v_town_breath])), (a_this_town_kinds, .inr (1, [.ref a_this_town_kinds_all])), (a_this_town_kinds_all, .inl (cI, 36, .inl g_town_kinds_all))]) (ws' := [(a_this, .inr (7, [.ref a_this_town, .ref a_this_trial, .ref a_this_kept, .int v_isKept, .ref a_this_letters, .ref a_this_told, .int v_toldCount, .ref a_this_refused, .ref a_this_stroll, .ref a_this_reach, .ref a_this_otherReach, .ref a_this_routes, .ref a_this_talks, .ref a_this_hearers])), (a_this_refused, .inr (1, [.ref a_this_refused_all])), (a_this_refused_all, .inl (cI, 7, .inl g_refused_all)), (a_this_stroll, .inr (4, [.ref a_this_town, .int v_stroll_square, .int v_stroll_came, .int v_stroll_allWords, .int v_stroll_allCorners, .int v_stroll_allCuts, .int v_stroll_run, .int v_stroll_longestRun, .ref a_this_stroll_spoken])), (a_this_stroll_spoken, .inr (1, [.ref a_this_stroll_spoken_all])), (a_this_stroll_spoken_all, .inl (cI, 36, .inl g_stroll_spoken_all)), (a_this_told, .inr (1, [.ref a_this_told_all])), (a_this_told_all, .inl (cI, 20, .inl g_told_all)), (a_this_town, .inr (6, [.ref a_this_town_kinds, .int v_town_home, .int v_town_fine, .int v_town_breath])), (a_this_town_kinds, .inr (1, [.ref a_this_town_kinds_all])), (a_this_town_kinds_all, .inl (cI, 36, .inl g_town_kinds_all))]) (va_runV (As := []) (rest := []) ⟨hx, hb, hml, hown, hts⟩ (k_X_isRowOfWays l dC dI cI cZ tt sd a_this a_this_town a_this_trial a_this_kept a_this_letters a_this_told a_this_refused a_this_stroll a_this_reach a_this_otherReach a_this_routes a_this_talks a_this_hearers a_this_told_all s.heap.size v_isKept v_toldCount g_told_all r7 hf8) (cwV 0 hts gX7_walk_X7_isRowOfWays rfl rfl rfl (by decide +kernel) ⟨Nat.le_of_ble_eq_true rfl, Nat.le_of_ble_eq_true rfl⟩) (zpV hP hD hK hS hA hZ [0, 6, 7] rfl rfl 7 0 rfl rfl) rfl rfl hl.1 rfl (lv_room (Nat.le_of_ble_eq_true rfl)) dX7_walk_18 ⟨Nat.zero_le _, Nat.zero_le _⟩) hP hD hS hA [0, 6, 7] [1, 2, 3, 4, 5, 8, 9, 10] [8, 0, 1, 2, 3, 4, 9, 10, 5, 6, 7] rfl rfl rfl (by decide) rfl rfl rfl (fun H locs hP hD hS => ?_)
      refine lv_if_ne (tgt := 31) hx hb dX7_walk_21 (by decide) (fun c9 => ?_) (fun c9 => ?_)
      · have he := zif_f c9 he
        refine lv_aload_n hx hb dX7_walk_31 rfl (lv_at hl 0 rfl) ?_
        obtain ⟨r10, v_stroll_allCorners_11, v_stroll_allCuts_12, v_stroll_allWords_13, v_stroll_came_14, v_stroll_longestRun_15, v_stroll_run_16, v_stroll_square_17, g_stroll_spoken_all_18, hf19, he⟩ := zb9_e he
        refine zc_i (wr := [(a_this_refused, .inr (1, [.ref a_this_refused_all])), (a_this_refused_all, .inl (cI, 7, .inl g_refused_all))]) (ws' := [(a_this, .inr (7, [.ref a_this_town, .ref a_this_trial, .ref a_this_kept, .int v_isKept, .ref a_this_letters, .ref a_this_told, .int v_toldCount, .ref a_this_refused, .ref a_this_stroll, .ref a_this_reach, .ref a_this_otherReach, .ref a_this_routes, .ref a_this_talks, .ref a_this_hearers])), (a_this_refused, .inr (1, [.ref a_this_refused_all])), (a_this_refused_all, .inl (cI, 7, .inl g_refused_all)), (a_this_stroll, .inr (4, [.ref a_this_town, .int v_stroll_square_17, .int v_stroll_came_14, .int v_stroll_allWords_13, .int v_stroll_allCorners_11, .int v_stroll_allCuts_12, .int v_stroll_run_16, .int v_stroll_longestRun_15, .ref a_this_stroll_spoken])), (a_this_stroll_spoken, .inr (1, [.ref a_this_stroll_spoken_all])), (a_this_stroll_spoken_all, .inl (cI, 36, .inl g_stroll_spoken_all_18)), (a_this_told, .inr (1, [.ref a_this_told_all])), (a_this_told_all, .inl (cI, 20, .inl g_told_all)), (a_this_town, .inr (6, [.ref a_this_town_kinds, .int v_town_home, .int v_town_fine, .int v_town_breath])), (a_this_town_kinds, .inr (1, [.ref a_this_town_kinds_all])), (a_this_town_kinds_all, .inl (cI, 36, .inl g_town_kinds_all))]) (va_runV (As := []) (rest := []) ⟨hx, hb, hml, hown, hts⟩ (k_X_goTheRow l dC dI cI cZ tt sd a_this a_this_town a_this_trial a_this_kept a_this_letters a_this_told a_this_refused a_this_stroll a_this_reach a_this_otherReach a_this_routes a_this_talks a_this_hearers a_this_stroll_spoken a_this_stroll_spoken_all a_this_told_all a_this_town_kinds a_this_town_kinds_all H.size v_isKept v_toldCount v_stroll_square v_stroll_came v_stroll_allWords v_stroll_allCorners v_stroll_allCuts v_stroll_run v_stroll_longestRun g_stroll_spoken_all g_told_all v_town_home v_town_fine v_town_breath g_town_kinds_all r10 v_stroll_allCorners_11 v_stroll_allCuts_12 v_stroll_allWords_13 v_stroll_came_14 v_stroll_longestRun_15 v_stroll_run_16 v_stroll_square_17 g_stroll_spoken_all_18 hf19) (cwV 0 hts gX7_walk_X7_goTheRow rfl rfl rfl (by decide +kernel) ⟨Nat.le_of_ble_eq_true rfl, Nat.le_of_ble_eq_true rfl⟩) (zpV hP hD hK hS hA hZ [0, 3, 4, 5, 6, 7, 8, 9, 10] rfl rfl 7 0 rfl rfl) rfl rfl hl.1 rfl (lv_room (Nat.le_of_ble_eq_true rfl)) dX7_walk_32 ⟨Nat.zero_le _, Nat.zero_le _⟩) hP hD hS hA [0, 3, 4, 5, 6, 7, 8, 9, 10] [1, 2] [2, 0, 1, 3, 4, 5, 6, 7, 8, 9, 10] rfl rfl rfl (by decide) rfl rfl rfl (fun H locs hP hD hS => ?_)
        refine lv_istore_n (lv' := [(2, .int r10), (0, .ref a_this), (1, .int p1)]) hx hb dX7_walk_35 rfl hl (by decide) rfl (fun ls hl => ?_)
        refine lv_iload_n hx hb dX7_walk_36 rfl (lv_at hl 2 rfl) ?_
        refine lv_if_ne (tgt := 44) hx hb dX7_walk_37 (by decide) (fun c20 => ?_) (fun c20 => ?_)
        · have he := zif_f c20 he
          refine lv_aload_n hx hb dX7_walk_44 rfl (lv_at hl 1 rfl) ?_
          refine va_get (D := (dC, dI)) (ci := 7) (v := .ref a_this_stroll) (C := RX7) (T := TX7) (N := 14) hx hb hts (by decide +kernel) hown hK hP 0 rfl rfl 8 (by decide) (hts (.fieldLink RX7 46 "LawOfCorners" "stroll" "LLawOfCorners$Stroll;") (by decide +kernel)) (fun _ h9 => h9) rfl dX7_walk_45 ?_
          refine lv_iload_n hx hb dX7_walk_48 rfl (lv_at hl 2 rfl) ?_
          obtain ⟨r21, hf22, he⟩ := zb1_e he
          refine zc_i (wr := [(a_this, .inr (7, [.ref a_this_town, .ref a_this_trial, .ref a_this_kept, .int v_isKept, .ref a_this_letters, .ref a_this_told, .int v_toldCount, .ref a_this_refused, .ref a_this_stroll, .ref a_this_reach, .ref a_this_otherReach, .ref a_this_routes, .ref a_this_talks, .ref a_this_hearers])), (a_this_refused, .inr (1, [.ref a_this_refused_all])), (a_this_refused_all, .inl (cI, 7, .inl g_refused_all)), (a_this_told, .inr (1, [.ref a_this_told_all])), (a_this_told_all, .inl (cI, 20, .inl g_told_all))]) (ws' := [(a_this, .inr (7, [.ref a_this_town, .ref a_this_trial, .ref a_this_kept, .int v_isKept, .ref a_this_letters, .ref a_this_told, .int v_toldCount, .ref a_this_refused, .ref a_this_stroll, .ref a_this_reach, .ref a_this_otherReach, .ref a_this_routes, .ref a_this_talks, .ref a_this_hearers])), (a_this_refused, .inr (1, [.ref a_this_refused_all])), (a_this_refused_all, .inl (cI, 7, .inl g_refused_all)), (a_this_stroll, .inr (4, [.ref a_this_town, .int v_stroll_square_17, .int v_stroll_came_14, .int v_stroll_allWords_13, .int v_stroll_allCorners_11, .int v_stroll_allCuts_12, .int v_stroll_run_16, .int v_stroll_longestRun_15, .ref a_this_stroll_spoken])), (a_this_stroll_spoken, .inr (1, [.ref a_this_stroll_spoken_all])), (a_this_stroll_spoken_all, .inl (cI, 36, .inl g_stroll_spoken_all_18)), (a_this_told, .inr (1, [.ref a_this_told_all])), (a_this_told_all, .inl (cI, 20, .inl g_told_all)), (a_this_town, .inr (6, [.ref a_this_town_kinds, .int v_town_home, .int v_town_fine, .int v_town_breath])), (a_this_town_kinds, .inr (1, [.ref a_this_town_kinds_all])), (a_this_town_kinds_all, .inl (cI, 36, .inl g_town_kinds_all))]) (va_runV (As := [.int p1]) (rest := []) ⟨hx, hb, hml, hown, hts⟩ (k_Stroll_answer l dC dI cI cZ tt sd a_this_stroll a_this_town a_this_stroll_spoken a_this_stroll_spoken_all a_this_town_kinds a_this_town_kinds_all H.size v_stroll_square_17 v_stroll_came_14 v_stroll_allWords_13 v_stroll_allCorners_11 v_stroll_allCuts_12 v_stroll_run_16 v_stroll_longestRun_15 g_stroll_spoken_all_18 v_town_home v_town_fine v_town_breath g_town_kinds_all p1 r21 hf22) (cwV 1 hts gX7_walk_X4_answer rfl rfl rfl (by decide +kernel) ⟨Nat.le_of_ble_eq_true rfl, Nat.le_of_ble_eq_true rfl⟩) (zpV hP hD hK hS hA hZ [3, 4, 5, 8, 9, 10] rfl rfl 4 3 rfl rfl) rfl rfl hl.1 rfl (lv_room (Nat.le_of_ble_eq_true rfl)) dX7_walk_49 ⟨Nat.zero_le _, Nat.zero_le _⟩) hP hD hS hA [3, 4, 5, 8, 9, 10] [0, 1, 2, 6, 7] [0, 1, 2, 5, 6, 7, 3, 4, 8, 9, 10] rfl rfl rfl (by decide) rfl rfl rfl (fun H locs hP hD hS => ?_)
          obtain ⟨rfl, rfl, rfl, rfl, rfl, rfl, rfl, rfl, rfl, rfl⟩ := zi10 he
          exact W.iret hx hb hr (fun t ht hW => ⟨⟨_, (), rfl, rfl, by rw [ht]; exact hP, va_K.moved hW.alike hK, hD⟩, hS.F ht⟩) hS.2.2 dX7_walk_52
        · have he := zif_t c20 he
          refine lv_iload_n hx hb dX7_walk_40 rfl (lv_at hl 0 rfl) ?_
          refine lv_goto (tgt := 52) hx hb dX7_walk_41 (by decide) ?_
          obtain ⟨rfl, rfl, rfl, rfl, rfl, rfl, rfl, rfl, rfl, rfl⟩ := zi10 he
          exact W.iret hx hb hr (fun t ht hW => ⟨⟨_, (), rfl, rfl, by rw [ht]; exact hP, va_K.moved hW.alike hK, hD⟩, hS.F ht⟩) hS.2.2 dX7_walk_52
      · have he := zif_t c9 he
        refine lv_aload_n hx hb dX7_walk_24 rfl (lv_at hl 0 rfl) ?_
        refine lv_bipush (v := (-3 : Int32)) hx hb dX7_walk_25 (by decide) ?_
        obtain ⟨r23, g_refused_all_24, hf25, he⟩ := zb2_e he
        refine zc_i (wr := [(a_this_stroll, .inr (4, [.ref a_this_town, .int v_stroll_square, .int v_stroll_came, .int v_stroll_allWords, .int v_stroll_allCorners, .int v_stroll_allCuts, .int v_stroll_run, .int v_stroll_longestRun, .ref a_this_stroll_spoken])), (a_this_stroll_spoken, .inr (1, [.ref a_this_stroll_spoken_all])), (a_this_stroll_spoken_all, .inl (cI, 36, .inl g_stroll_spoken_all)), (a_this_told, .inr (1, [.ref a_this_told_all])), (a_this_told_all, .inl (cI, 20, .inl g_told_all)), (a_this_town, .inr (6, [.ref a_this_town_kinds, .int v_town_home, .int v_town_fine, .int v_town_breath])), (a_this_town_kinds, .inr (1, [.ref a_this_town_kinds_all])), (a_this_town_kinds_all, .inl (cI, 36, .inl g_town_kinds_all))]) (ws' := [(a_this, .inr (7, [.ref a_this_town, .ref a_this_trial, .ref a_this_kept, .int v_isKept, .ref a_this_letters, .ref a_this_told, .int v_toldCount, .ref a_this_refused, .ref a_this_stroll, .ref a_this_reach, .ref a_this_otherReach, .ref a_this_routes, .ref a_this_talks, .ref a_this_hearers])), (a_this_refused, .inr (1, [.ref a_this_refused_all])), (a_this_refused_all, .inl (cI, 7, .inl g_refused_all_24)), (a_this_stroll, .inr (4, [.ref a_this_town, .int v_stroll_square, .int v_stroll_came, .int v_stroll_allWords, .int v_stroll_allCorners, .int v_stroll_allCuts, .int v_stroll_run, .int v_stroll_longestRun, .ref a_this_stroll_spoken])), (a_this_stroll_spoken, .inr (1, [.ref a_this_stroll_spoken_all])), (a_this_stroll_spoken_all, .inl (cI, 36, .inl g_stroll_spoken_all)), (a_this_told, .inr (1, [.ref a_this_told_all])), (a_this_told_all, .inl (cI, 20, .inl g_told_all)), (a_this_town, .inr (6, [.ref a_this_town_kinds, .int v_town_home, .int v_town_fine, .int v_town_breath])), (a_this_town_kinds, .inr (1, [.ref a_this_town_kinds_all])), (a_this_town_kinds_all, .inl (cI, 36, .inl g_town_kinds_all))]) (va_runV (As := [.int (-3 : Int32)]) (rest := []) ⟨hx, hb, hml, hown, hts⟩ (k_X_refuse l dC dI cI cZ tt sd a_this a_this_town a_this_trial a_this_kept a_this_letters a_this_told a_this_refused a_this_stroll a_this_reach a_this_otherReach a_this_routes a_this_talks a_this_hearers a_this_refused_all H.size v_isKept v_toldCount g_refused_all (-3 : Int32) r23 g_refused_all_24 hf25) (cwV 1 hts gX7_walk_X7_refuse rfl rfl rfl (by decide +kernel) ⟨Nat.le_of_ble_eq_true rfl, Nat.le_of_ble_eq_true rfl⟩) (zpV hP hD hK hS hA hZ [0, 1, 2] rfl rfl 7 0 rfl rfl) rfl rfl hl.1 rfl (lv_room (Nat.le_of_ble_eq_true rfl)) dX7_walk_27 ⟨Nat.zero_le _, Nat.zero_le _⟩) hP hD hS hA [0, 1, 2] [3, 4, 5, 6, 7, 8, 9, 10] [8, 9, 10, 0, 1, 2, 3, 4, 5, 6, 7] rfl rfl rfl (by decide) rfl rfl rfl (fun H locs hP hD hS => ?_)
        obtain ⟨rfl, rfl, rfl, rfl, rfl, rfl, rfl, rfl, rfl, rfl⟩ := zi10 he
        exact W.iret hx hb hr (fun t ht hW => ⟨⟨_, (), rfl, rfl, by rw [ht]; exact hP, va_K.moved hW.alike hK, hD⟩, hS.F ht⟩) hS.2.2 dX7_walk_30
    · have he := zif_f c6 he
      exact (hWW _ _ _ _).mp (hk4 () he) _ _ _ hP hD hS (lv_sub hl [0] rfl)
