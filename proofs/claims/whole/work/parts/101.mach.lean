set_option maxHeartbeats 4000000 in
set_option maxRecDepth 100000 in
theorem k_Letters_firstWrongLetter (l : Launch) (dC : Nat → ClassId) (dI : Nat → Nat → Nat) (cI : ClassId) (cZ : ClassId) (tt : Nat → Nat) (sd : Nat → Nat) (a_this : Nat) (a_this_all : Nat) (a_this_all_all : Nat) (sz : Nat) (v_count : Int32) (g_all_all : Nat → Int32) (r0 : Int32) (hf : f_Letters_firstWrongLetter v_count g_all_all = some (r0)) : Met l yX0_firstWrongLetter wsX0_firstWrongLetter ({ frames := 5, cells := 0, slots := 0, locals := 119 }) (zPre (dC, dI) vwCl [(cI, .int), (cZ, .boolean)] tt sd [.ref a_this] [(a_this, .inr (0, [.ref a_this_all, .int v_count])), (a_this_all, .inr (1, [.ref a_this_all_all])), (a_this_all_all, .inl (cI, 96, .inl g_all_all))] sz) (zQi (dC, dI) vwCl [(cI, .int), (cZ, .boolean)] r0 [(a_this, .inr (0, [.ref a_this_all, .int v_count])), (a_this_all, .inr (1, [.ref a_this_all_all])), (a_this_all_all, .inl (cI, 96, .inl g_all_all))] (va_A [(a_this, .inr (0, [.ref a_this_all, .int v_count])), (a_this_all, .inr (1, [.ref a_this_all_all])), (a_this_all_all, .inl (cI, 96, .inl g_all_all))] sz)) 0 0 (va_A [(a_this, .inr (0, [.ref a_this_all, .int v_count])), (a_this_all, .inr (1, [.ref a_this_all_all])), (a_this_all_all, .inl (cI, 96, .inl g_all_all))] sz) := by
  refine Met.ofW (cc := cX0_firstWrongLetter) (maxL := 4) (ret := (some .int)) (by decide) rfl ?_
  intro p e s m args below meth c s₁ B hml hv
  obtain ⟨rfl, hsz, hP, hK, hD0, hZ⟩ := hv
  have hx := B.exec
  have hb := B.bytes
  have hr := B.returns
  have hts := atoms_spec (ws := wsX0_firstWrongLetter) B.pre
  have hown : s.vm.findClass RX0 = some m.cls := findClass_of_methodNamed B.named
  have hlocks := B.notSynchronized
  subst hsz
  have hD := hD0.self (sz := s.heap.size)
  generalize hAe : va_A [(a_this, .inr (0, [.ref a_this_all, .int v_count])), (a_this_all, .inr (1, [.ref a_this_all_all])), (a_this_all_all, .inl (cI, 96, .inl g_all_all))] s.heap.size = A at hD hZ ⊢
  have hA : ∀ q : Nat, s.heap.size ≤ q → A q := fun q h => by rw [← hAe]; exact Or.inr h
  have hS : va_S A s.heap s.heap [] := va_S.rf
  have hP : va_P (dC, dI) vwCl [(a_this, .inr (0, [.ref a_this_all, .int v_count])), (a_this_all, .inr (1, [.ref a_this_all_all])), (a_this_all_all, .inl (cI, 96, .inl g_all_all))] s.heap := hP
  have hl := lv_entry ([.ref a_this]) (n := 4) (Nat.le_of_ble_eq_true rfl)
  rw [lg_entry_eq]
  generalize (lg_sl ([.ref a_this]) ++ List.replicate (4 - (lg_sl ([.ref a_this])).length) Slot.unset).toArray = ls at hl ⊢
  have hl : lv_has ls 4 [(0, .ref a_this)] := hl
  have he := hf
  unfold f_Letters_firstWrongLetter at he
  refine zstart (D := (dC, dI)) (cl := vwCl) (A := A) (nL := 4) (fun WW hWW => ?_)
  refine lv_iconst (v := (0 : Int32)) hx hb dX0_firstWrongLetter_0 (by decide) ?_
  refine lv_istore_n (lv' := [(1, .int (0 : Int32)), (0, .ref a_this)]) hx hb dX0_firstWrongLetter_1 rfl hl (by decide) rfl (fun ls hl => ?_)
  refine zj1_w he (fun (_ : Unit) => WW [(a_this, .inr (0, [.ref a_this_all, .int v_count])), (a_this_all, .inr (1, [.ref a_this_all_all])), (a_this_all_all, .inl (cI, 96, .inl g_all_all))] [(0, .ref a_this)] 85 []) (fun _ he => (hWW _ _ _ _).mpr (fun H locs ls hP hD hS hl => ?_)) (fun k2 hk2 he => ?_)
  · refine lv_aload_n hx hb dX0_firstWrongLetter_85 rfl (lv_at hl 0 rfl) ?_
    refine va_get (D := (dC, dI)) (ci := 0) (v := .int v_count) (C := RX0) (T := TX0) (N := 2) hx hb hts (by decide +kernel) hown hK hP 0 rfl rfl 1 (by decide) (hts (.fieldLink RX0 20 "LawOfCorners$Letters" "count" "I") (by decide +kernel)) (fun _ h9 => h9) rfl dX0_firstWrongLetter_86 ?_
    refine lv_if_ne (tgt := 96) hx hb dX0_firstWrongLetter_89 (by decide) (fun c1 => ?_) (fun c1 => ?_)
    · have he := zif_f c1 he
      refine lv_iconst (v := (-1 : Int32)) hx hb dX0_firstWrongLetter_96 (by decide) ?_
      obtain ⟨rfl⟩ := zi1 he
      exact W.iret hx hb hr (fun t ht hW => ⟨⟨_, (), rfl, rfl, by rw [ht]; exact hP, va_K.moved hW.alike hK, hD⟩, hS.F ht⟩) hS.2.2 dX0_firstWrongLetter_97
    · have he := zif_t c1 he
      refine lv_iconst (v := (0 : Int32)) hx hb dX0_firstWrongLetter_92 (by decide) ?_
      refine lv_goto (tgt := 97) hx hb dX0_firstWrongLetter_93 (by decide) ?_
      obtain ⟨rfl⟩ := zi1 he
      exact W.iret hx hb hr (fun t ht hW => ⟨⟨_, (), rfl, rfl, by rw [ht]; exact hP, va_K.moved hW.alike hK, hD⟩, hS.F ht⟩) hS.2.2 dX0_firstWrongLetter_97
  refine (hWW _ _ _ _).mp (zl1_w he (fun (l1_3 : Int32) => WW [(a_this, .inr (0, [.ref a_this_all, .int v_count])), (a_this_all, .inr (1, [.ref a_this_all_all])), (a_this_all_all, .inl (cI, 96, .inl g_all_all))] [(0, .ref a_this), (1, .int l1_3)] 2 []) (fun l1_3 again4 hagain4 he => (hWW _ _ _ _).mpr (fun H locs ls hP hD hS hl => ?_))) _ _ _ hP hD hS (lv_sub hl [1, 0] rfl)
  refine lv_iload_n hx hb dX0_firstWrongLetter_2 rfl (lv_at hl 1 rfl) ?_
  refine lv_aload_n hx hb dX0_firstWrongLetter_3 rfl (lv_at hl 0 rfl) ?_
  refine va_get (D := (dC, dI)) (ci := 0) (v := .int v_count) (C := RX0) (T := TX0) (N := 2) hx hb hts (by decide +kernel) hown hK hP 0 rfl rfl 1 (by decide) (hts (.fieldLink RX0 20 "LawOfCorners$Letters" "count" "I") (by decide +kernel)) (fun _ h9 => h9) rfl dX0_firstWrongLetter_4 ?_
  refine lv_icmp_ge (tgt := 85) hx hb dX0_firstWrongLetter_7 (by decide) (fun c5 => ?_) (fun c5 => ?_)
  · have he := zif_t c5 he
    exact (hWW _ _ _ _).mp (hk2 () he) _ _ _ hP hD hS (lv_sub hl [0] rfl)
  · have he := zif_f c5 he
    refine lv_aload_n hx hb dX0_firstWrongLetter_10 rfl (lv_at hl 0 rfl) ?_
    refine va_get (D := (dC, dI)) (ci := 0) (v := .ref a_this_all) (C := RX0) (T := TX0) (N := 2) hx hb hts (by decide +kernel) hown hK hP 0 rfl rfl 0 (by decide) (hts (.fieldLink RX0 14 "LawOfCorners$Letters" "all" "LLawOfCorners$Numbers;") (by decide +kernel)) (fun _ h9 => h9) rfl dX0_firstWrongLetter_11 ?_
    refine lv_iload_n hx hb dX0_firstWrongLetter_14 rfl (lv_at hl 1 rfl) ?_
    obtain ⟨r6, hf7, he⟩ := zb1_e he
    refine zc_i (wr := [(a_this, .inr (0, [.ref a_this_all, .int v_count]))]) (ws' := [(a_this, .inr (0, [.ref a_this_all, .int v_count])), (a_this_all, .inr (1, [.ref a_this_all_all])), (a_this_all_all, .inl (cI, 96, .inl g_all_all))]) (va_runV (As := [.int l1_3]) (rest := []) ⟨hx, hb, hml, hown, hts⟩ (k_Numbers_at l dC dI cI cZ tt sd a_this_all a_this_all_all H.size 96 g_all_all l1_3 r6 hf7) (cwV 1 hts gX0_firstWrongLetter_X1_at rfl rfl rfl (by decide +kernel) ⟨Nat.le_of_ble_eq_true rfl, Nat.le_of_ble_eq_true rfl⟩) (zpV hP hD hK hS hA hZ [1, 2] rfl rfl 1 1 rfl rfl) rfl rfl hl.1 rfl (lv_room (Nat.le_of_ble_eq_true rfl)) dX0_firstWrongLetter_15 ⟨Nat.zero_le _, Nat.zero_le _⟩) hP hD hS hA [1, 2] [0] [0, 1, 2] rfl rfl rfl (by decide) rfl rfl rfl (fun H locs hP hD hS => ?_)
    obtain ⟨r8, hf9, he⟩ := zb1_e he
    refine zc_s (wr := [(a_this, .inr (0, [.ref a_this_all, .int v_count])), (a_this_all, .inr (1, [.ref a_this_all_all])), (a_this_all_all, .inl (cI, 96, .inl g_all_all))]) (ws' := [(a_this, .inr (0, [.ref a_this_all, .int v_count])), (a_this_all, .inr (1, [.ref a_this_all_all])), (a_this_all_all, .inl (cI, 96, .inl g_all_all))]) (va_runS (As := [.int r6]) (rest := []) ⟨hx, hb, hml, hown, hts⟩ (k_Letters_formOf l dC dI cI cZ tt sd H.size r6 r8 hf9) (va_cwS 1 hts gX0_firstWrongLetter_X0_formOf rfl rfl rfl (by decide +kernel) ⟨Nat.le_of_ble_eq_true rfl, Nat.le_of_ble_eq_true rfl⟩) (zpS hP hD hK hS hA hZ [] rfl rfl) rfl rfl hl.1 rfl (lv_room (Nat.le_of_ble_eq_true rfl)) dX0_firstWrongLetter_18 ⟨Nat.zero_le _, Nat.zero_le _⟩) hP hD hS hA [] [0, 1, 2] [0, 1, 2] rfl rfl rfl (by decide) rfl rfl rfl (fun H locs hP hD hS => ?_)
    refine lv_astore_n (lv' := [(2, .ref (sd r8)), (0, .ref a_this), (1, .int l1_3)]) hx hb dX0_firstWrongLetter_21 rfl hl (by decide) rfl (fun ls hl => ?_)
    refine lv_aload_n hx hb dX0_firstWrongLetter_22 rfl (lv_at hl 0 rfl) ?_
    obtain ⟨hg10, he⟩ := zg_e he
    obtain ⟨r11, hf12, he⟩ := zb1_e he
    refine zc_i (wr := [(a_this, .inr (0, [.ref a_this_all, .int v_count])), (a_this_all, .inr (1, [.ref a_this_all_all])), (a_this_all_all, .inl (cI, 96, .inl g_all_all))]) (ws' := [(a_this, .inr (0, [.ref a_this_all, .int v_count])), (a_this_all, .inr (1, [.ref a_this_all_all])), (a_this_all_all, .inl (cI, 96, .inl g_all_all))]) (va_runV (As := []) (rest := []) ⟨hx, hb, hml, hown, hts⟩ (k_String_isEmpty l dC dI cI cZ tt sd H.size r8 r11 hf12) (cwV 0 hts gX0_firstWrongLetter_J0_isEmpty_aae02 rfl rfl rfl (by decide +kernel) ⟨Nat.le_of_ble_eq_true rfl, Nat.le_of_ble_eq_true rfl⟩) (zpW hP hD hK hS hA hZ [] rfl rfl hg10) rfl rfl hl.1 rfl (lv_room (Nat.le_of_ble_eq_true rfl)) dX0_firstWrongLetter_23 ⟨Nat.zero_le _, Nat.zero_le _⟩) hP hD hS hA [] [0, 1, 2] [0, 1, 2] rfl rfl rfl (by decide) rfl rfl rfl (fun H locs hP hD hS => ?_)
    refine lv_if_eq (tgt := 31) hx hb dX0_firstWrongLetter_26 (by decide) (fun c13 => ?_) (fun c13 => ?_)
    · have he := zif_t c13 he
      obtain ⟨x14, ex14⟩ : ∃ y : Int32, y = l1_3 + (1 : Int32) := ⟨_, rfl⟩
      have he := zn_e ex14 he
      refine lv_iinc (v := x14) (lv' := [(1, .int x14), (2, .ref (sd r8)), (0, .ref a_this)]) hx hb dX0_firstWrongLetter_31 hl (k := 2) rfl (by rw [ex14]; rfl) (by decide) rfl (fun ls hl => ?_)
      refine lv_iconst (v := (0 : Int32)) hx hb dX0_firstWrongLetter_34 (by decide) ?_
      refine lv_istore_n (lv' := [(3, .int (0 : Int32)), (1, .int x14), (2, .ref (sd r8)), (0, .ref a_this)]) hx hb dX0_firstWrongLetter_35 rfl hl (by decide) rfl (fun ls hl => ?_)
      refine zj1_w he (fun (l1_15 : Int32) => WW [(a_this, .inr (0, [.ref a_this_all, .int v_count])), (a_this_all, .inr (1, [.ref a_this_all_all])), (a_this_all_all, .inl (cI, 96, .inl g_all_all))] [(0, .ref a_this), (1, .int l1_15)] 82 []) (fun l1_15 he => (hWW _ _ _ _).mpr (fun H locs ls hP hD hS hl => ?_)) (fun k16 hk16 he => ?_)
      · refine lv_goto (tgt := 2) hx hb dX0_firstWrongLetter_82 (by decide) ?_
        exact (hWW _ _ _ _).mp (hagain4 l1_15 he) _ _ _ hP hD hS (lv_sub hl [0, 1] rfl)
      refine (hWW _ _ _ _).mp (zl2_w he (fun (l1_17 : Int32) (l3_18 : Int32) => WW [(a_this, .inr (0, [.ref a_this_all, .int v_count])), (a_this_all, .inr (1, [.ref a_this_all_all])), (a_this_all_all, .inl (cI, 96, .inl g_all_all))] [(0, .ref a_this), (1, .int l1_17), (2, .ref (sd r8)), (3, .int l3_18)] 36 []) (fun l1_17 l3_18 again19 hagain19 he => (hWW _ _ _ _).mpr (fun H locs ls hP hD hS hl => ?_))) _ _ _ hP hD hS (lv_sub hl [3, 1, 2, 0] rfl)
      refine lv_iload_n hx hb dX0_firstWrongLetter_36 rfl (lv_at hl 3 rfl) ?_
      refine lv_aload_n hx hb dX0_firstWrongLetter_37 rfl (lv_at hl 2 rfl) ?_
      obtain ⟨hg20, he⟩ := zg_e he
      obtain ⟨r21, hf22, he⟩ := zb1_e he
      refine zc_i (wr := [(a_this, .inr (0, [.ref a_this_all, .int v_count])), (a_this_all, .inr (1, [.ref a_this_all_all])), (a_this_all_all, .inl (cI, 96, .inl g_all_all))]) (ws' := [(a_this, .inr (0, [.ref a_this_all, .int v_count])), (a_this_all, .inr (1, [.ref a_this_all_all])), (a_this_all_all, .inl (cI, 96, .inl g_all_all))]) (va_runV (As := []) (rest := [.int l3_18]) ⟨hx, hb, hml, hown, hts⟩ (k_String_length l dC dI cI cZ tt sd H.size r8 r21 hf22) (cwV 0 hts gX0_firstWrongLetter_J0_length_8abf5 rfl rfl rfl (by decide +kernel) ⟨Nat.le_of_ble_eq_true rfl, Nat.le_of_ble_eq_true rfl⟩) (zpW hP hD hK hS hA hZ [] rfl rfl hg20) rfl rfl hl.1 rfl (lv_room (Nat.le_of_ble_eq_true rfl)) dX0_firstWrongLetter_38 ⟨Nat.zero_le _, Nat.zero_le _⟩) hP hD hS hA [] [0, 1, 2] [0, 1, 2] rfl rfl rfl (by decide) rfl rfl rfl (fun H locs hP hD hS => ?_)
      refine lv_icmp_ge (tgt := 82) hx hb dX0_firstWrongLetter_41 (by decide) (fun c23 => ?_) (fun c23 => ?_)
      · have he := zif_t c23 he
        exact (hWW _ _ _ _).mp (hk16 l1_17 he) _ _ _ hP hD hS (lv_sub hl [0, 1] rfl)
      · have he := zif_f c23 he
        refine lv_iload_n hx hb dX0_firstWrongLetter_44 rfl (lv_at hl 1 rfl) ?_
        refine lv_aload_n hx hb dX0_firstWrongLetter_45 rfl (lv_at hl 0 rfl) ?_
        refine va_get (D := (dC, dI)) (ci := 0) (v := .int v_count) (C := RX0) (T := TX0) (N := 2) hx hb hts (by decide +kernel) hown hK hP 0 rfl rfl 1 (by decide) (hts (.fieldLink RX0 20 "LawOfCorners$Letters" "count" "I") (by decide +kernel)) (fun _ h9 => h9) rfl dX0_firstWrongLetter_46 ?_
        refine lv_icmp_ge (tgt := 71) hx hb dX0_firstWrongLetter_49 (by decide) (fun c24 => ?_) (fun c24 => ?_)
        · have he := zif_t c24 he
          refine lv_iload_n hx hb dX0_firstWrongLetter_71 rfl (lv_at hl 1 rfl) ?_
          obtain ⟨rfl⟩ := zi1 he
          exact W.iret hx hb hr (fun t ht hW => ⟨⟨_, (), rfl, rfl, by rw [ht]; exact hP, va_K.moved hW.alike hK, hD⟩, hS.F ht⟩) hS.2.2 dX0_firstWrongLetter_72
        · have he := zif_f c24 he
          refine lv_aload_n hx hb dX0_firstWrongLetter_52 rfl (lv_at hl 2 rfl) ?_
          refine lv_iload_n hx hb dX0_firstWrongLetter_53 rfl (lv_at hl 3 rfl) ?_
          obtain ⟨hg25, he⟩ := zg_e he
          obtain ⟨r26, hf27, he⟩ := zb1_e he
          refine zc_i (wr := [(a_this, .inr (0, [.ref a_this_all, .int v_count])), (a_this_all, .inr (1, [.ref a_this_all_all])), (a_this_all_all, .inl (cI, 96, .inl g_all_all))]) (ws' := [(a_this, .inr (0, [.ref a_this_all, .int v_count])), (a_this_all, .inr (1, [.ref a_this_all_all])), (a_this_all_all, .inl (cI, 96, .inl g_all_all))]) (va_runV (As := [.int l3_18]) (rest := []) ⟨hx, hb, hml, hown, hts⟩ (k_String_charAt l dC dI cI cZ tt sd H.size r8 l3_18 r26 hf27) (cwV 1 hts gX0_firstWrongLetter_J0_charAt_5068e rfl rfl rfl (by decide +kernel) ⟨Nat.le_of_ble_eq_true rfl, Nat.le_of_ble_eq_true rfl⟩) (zpW hP hD hK hS hA hZ [] rfl rfl hg25) rfl rfl hl.1 rfl (lv_room (Nat.le_of_ble_eq_true rfl)) dX0_firstWrongLetter_54 ⟨Nat.zero_le _, Nat.zero_le _⟩) hP hD hS hA [] [0, 1, 2] [0, 1, 2] rfl rfl rfl (by decide) rfl rfl rfl (fun H locs hP hD hS => ?_)
          refine lv_aload_n hx hb dX0_firstWrongLetter_57 rfl (lv_at hl 0 rfl) ?_
          refine va_get (D := (dC, dI)) (ci := 0) (v := .ref a_this_all) (C := RX0) (T := TX0) (N := 2) hx hb hts (by decide +kernel) hown hK hP 0 rfl rfl 0 (by decide) (hts (.fieldLink RX0 14 "LawOfCorners$Letters" "all" "LLawOfCorners$Numbers;") (by decide +kernel)) (fun _ h9 => h9) rfl dX0_firstWrongLetter_58 ?_
          refine lv_iload_n hx hb dX0_firstWrongLetter_61 rfl (lv_at hl 1 rfl) ?_
          obtain ⟨r28, hf29, he⟩ := zb1_e he
          refine zc_i (wr := [(a_this, .inr (0, [.ref a_this_all, .int v_count]))]) (ws' := [(a_this, .inr (0, [.ref a_this_all, .int v_count])), (a_this_all, .inr (1, [.ref a_this_all_all])), (a_this_all_all, .inl (cI, 96, .inl g_all_all))]) (va_runV (As := [.int l1_17]) (rest := [.int r26]) ⟨hx, hb, hml, hown, hts⟩ (k_Numbers_at l dC dI cI cZ tt sd a_this_all a_this_all_all H.size 96 g_all_all l1_17 r28 hf29) (cwV 1 hts gX0_firstWrongLetter_X1_at rfl rfl rfl (by decide +kernel) ⟨Nat.le_of_ble_eq_true rfl, Nat.le_of_ble_eq_true rfl⟩) (zpV hP hD hK hS hA hZ [1, 2] rfl rfl 1 1 rfl rfl) rfl rfl hl.1 rfl (lv_room (Nat.le_of_ble_eq_true rfl)) dX0_firstWrongLetter_62 ⟨Nat.zero_le _, Nat.zero_le _⟩) hP hD hS hA [1, 2] [0] [0, 1, 2] rfl rfl rfl (by decide) rfl rfl rfl (fun H locs hP hD hS => ?_)
          obtain ⟨r30, hf31, he⟩ := zb1_e he
          refine zc_i (wr := [(a_this, .inr (0, [.ref a_this_all, .int v_count])), (a_this_all, .inr (1, [.ref a_this_all_all])), (a_this_all_all, .inl (cI, 96, .inl g_all_all))]) (ws' := [(a_this, .inr (0, [.ref a_this_all, .int v_count])), (a_this_all, .inr (1, [.ref a_this_all_all])), (a_this_all_all, .inl (cI, 96, .inl g_all_all))]) (va_runS (As := [.int r26, .int r28]) (rest := []) ⟨hx, hb, hml, hown, hts⟩ (k_Letters_fits l dC dI cI cZ tt sd H.size r26 r28 r30 hf31) (va_cwS 2 hts gX0_firstWrongLetter_X0_fits rfl rfl rfl (by decide +kernel) ⟨Nat.le_of_ble_eq_true rfl, Nat.le_of_ble_eq_true rfl⟩) (zpS hP hD hK hS hA hZ [] rfl rfl) rfl rfl hl.1 rfl (lv_room (Nat.le_of_ble_eq_true rfl)) dX0_firstWrongLetter_65 ⟨Nat.zero_le _, Nat.zero_le _⟩) hP hD hS hA [] [0, 1, 2] [0, 1, 2] rfl rfl rfl (by decide) rfl rfl rfl (fun H locs hP hD hS => ?_)
          refine lv_if_ne (tgt := 73) hx hb dX0_firstWrongLetter_68 (by decide) (fun c32 => ?_) (fun c32 => ?_)
          · have he := zif_f c32 he
            obtain ⟨x33, ex33⟩ : ∃ y : Int32, y = l1_17 + (1 : Int32) := ⟨_, rfl⟩
            have he := zn_e ex33 he
            refine lv_iinc (v := x33) (lv' := [(1, .int x33), (0, .ref a_this), (2, .ref (sd r8)), (3, .int l3_18)]) hx hb dX0_firstWrongLetter_73 hl (k := 1) rfl (by rw [ex33]; rfl) (by decide) rfl (fun ls hl => ?_)
            obtain ⟨x34, ex34⟩ : ∃ y : Int32, y = l3_18 + (1 : Int32) := ⟨_, rfl⟩
            have he := zn_e ex34 he
            refine lv_iinc (v := x34) (lv' := [(3, .int x34), (1, .int x33), (0, .ref a_this), (2, .ref (sd r8))]) hx hb dX0_firstWrongLetter_76 hl (k := 3) rfl (by rw [ex34]; rfl) (by decide) rfl (fun ls hl => ?_)
            refine lv_goto (tgt := 36) hx hb dX0_firstWrongLetter_79 (by decide) ?_
            exact (hWW _ _ _ _).mp (hagain19 x33 x34 he) _ _ _ hP hD hS (lv_sub hl [2, 1, 3, 0] rfl)
          · have he := zif_t c32 he
            refine lv_iload_n hx hb dX0_firstWrongLetter_71 rfl (lv_at hl 1 rfl) ?_
            obtain ⟨rfl⟩ := zi1 he
            exact W.iret hx hb hr (fun t ht hW => ⟨⟨_, (), rfl, rfl, by rw [ht]; exact hP, va_K.moved hW.alike hK, hD⟩, hS.F ht⟩) hS.2.2 dX0_firstWrongLetter_72
    · have he := zif_f c13 he
      refine lv_iload_n hx hb dX0_firstWrongLetter_29 rfl (lv_at hl 2 rfl) ?_
      obtain ⟨rfl⟩ := zi1 he
      exact W.iret hx hb hr (fun t ht hW => ⟨⟨_, (), rfl, rfl, by rw [ht]; exact hP, va_K.moved hW.alike hK, hD⟩, hS.F ht⟩) hS.2.2 dX0_firstWrongLetter_30
set_option maxHeartbeats 4000000 in
set_option maxRecDepth 100000 in
theorem k_Letters_digitAt (l : Launch) (dC : Nat → ClassId) (dI : Nat → Nat → Nat) (cI : ClassId) (cZ : ClassId) (tt : Nat → Nat) (sd : Nat → Nat) (a_this : Nat) (a_this_all : Nat) (a_this_all_all : Nat) (sz : Nat) (v_count : Int32) (g_all_all : Nat → Int32) (p1 : Int32) (r0 : Int32) (hf : f_Letters_digitAt g_all_all p1 = some (r0)) : Met l yX0_digitAt wsX0_digitAt ({ frames := 1, cells := 0, slots := 0, locals := 21 }) (zPre (dC, dI) vwCl [(cI, .int), (cZ, .boolean)] tt sd [.ref a_this, .int p1] [(a_this, .inr (0, [.ref a_this_all, .int v_count])), (a_this_all, .inr (1, [.ref a_this_all_all])), (a_this_all_all, .inl (cI, 96, .inl g_all_all))] sz) (zQi (dC, dI) vwCl [(cI, .int), (cZ, .boolean)] r0 [(a_this, .inr (0, [.ref a_this_all, .int v_count])), (a_this_all, .inr (1, [.ref a_this_all_all])), (a_this_all_all, .inl (cI, 96, .inl g_all_all))] (va_A [(a_this, .inr (0, [.ref a_this_all, .int v_count])), (a_this_all, .inr (1, [.ref a_this_all_all])), (a_this_all_all, .inl (cI, 96, .inl g_all_all))] sz)) 0 0 (va_A [(a_this, .inr (0, [.ref a_this_all, .int v_count])), (a_this_all, .inr (1, [.ref a_this_all_all])), (a_this_all_all, .inl (cI, 96, .inl g_all_all))] sz) := by
  refine Met.ofW (cc := cX0_digitAt) (maxL := 2) (ret := (some .int)) (by decide) rfl ?_
  intro p e s m args below meth c s₁ B hml hv
  obtain ⟨rfl, hsz, hP, hK, hD0, hZ⟩ := hv
  have hx := B.exec
  have hb := B.bytes
  have hr := B.returns
  have hts := atoms_spec (ws := wsX0_digitAt) B.pre
  have hown : s.vm.findClass RX0 = some m.cls := findClass_of_methodNamed B.named
  have hlocks := B.notSynchronized
  subst hsz
  have hD := hD0.self (sz := s.heap.size)
  generalize hAe : va_A [(a_this, .inr (0, [.ref a_this_all, .int v_count])), (a_this_all, .inr (1, [.ref a_this_all_all])), (a_this_all_all, .inl (cI, 96, .inl g_all_all))] s.heap.size = A at hD hZ ⊢
  have hA : ∀ q : Nat, s.heap.size ≤ q → A q := fun q h => by rw [← hAe]; exact Or.inr h
  have hS : va_S A s.heap s.heap [] := va_S.rf
  have hP : va_P (dC, dI) vwCl [(a_this, .inr (0, [.ref a_this_all, .int v_count])), (a_this_all, .inr (1, [.ref a_this_all_all])), (a_this_all_all, .inl (cI, 96, .inl g_all_all))] s.heap := hP
  have hl := lv_entry ([.ref a_this, .int p1]) (n := 2) (Nat.le_of_ble_eq_true rfl)
  rw [lg_entry_eq]
  generalize (lg_sl ([.ref a_this, .int p1]) ++ List.replicate (2 - (lg_sl ([.ref a_this, .int p1])).length) Slot.unset).toArray = ls at hl ⊢
  have hl : lv_has ls 2 [(0, .ref a_this), (1, .int p1)] := hl
  have he := hf
  unfold f_Letters_digitAt at he
  refine lv_aload_n hx hb dX0_digitAt_0 rfl (lv_at hl 0 rfl) ?_
  refine va_get (D := (dC, dI)) (ci := 0) (v := .ref a_this_all) (C := RX0) (T := TX0) (N := 2) hx hb hts (by decide +kernel) hown hK hP 0 rfl rfl 0 (by decide) (hts (.fieldLink RX0 14 "LawOfCorners$Letters" "all" "LLawOfCorners$Numbers;") (by decide +kernel)) (fun _ h9 => h9) rfl dX0_digitAt_1 ?_
  refine lv_iload_n hx hb dX0_digitAt_4 rfl (lv_at hl 1 rfl) ?_
  obtain ⟨r1, hf2, he⟩ := zb1_e he
  refine zc_i (wr := [(a_this, .inr (0, [.ref a_this_all, .int v_count]))]) (ws' := [(a_this, .inr (0, [.ref a_this_all, .int v_count])), (a_this_all, .inr (1, [.ref a_this_all_all])), (a_this_all_all, .inl (cI, 96, .inl g_all_all))]) (va_runV (As := [.int p1]) (rest := []) ⟨hx, hb, hml, hown, hts⟩ (k_Numbers_at l dC dI cI cZ tt sd a_this_all a_this_all_all s.heap.size 96 g_all_all p1 r1 hf2) (cwV 1 hts gX0_digitAt_X1_at rfl rfl rfl (by decide +kernel) ⟨Nat.le_of_ble_eq_true rfl, Nat.le_of_ble_eq_true rfl⟩) (zpV hP hD hK hS hA hZ [1, 2] rfl rfl 1 1 rfl rfl) rfl rfl hl.1 rfl (lv_room (Nat.le_of_ble_eq_true rfl)) dX0_digitAt_5 ⟨Nat.zero_le _, Nat.zero_le _⟩) hP hD hS hA [1, 2] [0] [0, 1, 2] rfl rfl rfl (by decide) rfl rfl rfl (fun H locs hP hD hS => ?_)
  refine lv_bipush (v := (48 : Int32)) hx hb dX0_digitAt_8 (by decide) ?_
  refine lv_isub hx hb dX0_digitAt_10 ?_
  obtain ⟨rfl⟩ := zi1 he
  exact W.iret hx hb hr (fun t ht hW => ⟨⟨_, (), rfl, rfl, by rw [ht]; exact hP, va_K.moved hW.alike hK, hD⟩, hS.F ht⟩) hS.2.2 dX0_digitAt_11
set_option maxHeartbeats 4000000 in
set_option maxRecDepth 100000 in
theorem k_Letters_squareAt (l : Launch) (dC : Nat → ClassId) (dI : Nat → Nat → Nat) (cI : ClassId) (cZ : ClassId) (tt : Nat → Nat) (sd : Nat → Nat) (a_this : Nat) (a_this_all : Nat) (a_this_all_all : Nat) (sz : Nat) (v_count : Int32) (g_all_all : Nat → Int32) (p1 : Int32) (r0 : Int32) (hf : f_Letters_squareAt g_all_all p1 = some (r0)) : Met l yX0_squareAt wsX0_squareAt ({ frames := 2, cells := 0, slots := 0, locals := 42 }) (zPre (dC, dI) vwCl [(cI, .int), (cZ, .boolean)] tt sd [.ref a_this, .int p1] [(a_this, .inr (0, [.ref a_this_all, .int v_count])), (a_this_all, .inr (1, [.ref a_this_all_all])), (a_this_all_all, .inl (cI, 96, .inl g_all_all))] sz) (zQi (dC, dI) vwCl [(cI, .int), (cZ, .boolean)] r0 [(a_this, .inr (0, [.ref a_this_all, .int v_count])), (a_this_all, .inr (1, [.ref a_this_all_all])), (a_this_all_all, .inl (cI, 96, .inl g_all_all))] (va_A [(a_this, .inr (0, [.ref a_this_all, .int v_count])), (a_this_all, .inr (1, [.ref a_this_all_all])), (a_this_all_all, .inl (cI, 96, .inl g_all_all))] sz)) 0 0 (va_A [(a_this, .inr (0, [.ref a_this_all, .int v_count])), (a_this_all, .inr (1, [.ref a_this_all_all])), (a_this_all_all, .inl (cI, 96, .inl g_all_all))] sz) := by
  refine Met.ofW (cc := cX0_squareAt) (maxL := 2) (ret := (some .int)) (by decide) rfl ?_
  intro p e s m args below meth c s₁ B hml hv
  obtain ⟨rfl, hsz, hP, hK, hD0, hZ⟩ := hv
  have hx := B.exec
  have hb := B.bytes
  have hr := B.returns
  have hts := atoms_spec (ws := wsX0_squareAt) B.pre
  have hown : s.vm.findClass RX0 = some m.cls := findClass_of_methodNamed B.named
  have hlocks := B.notSynchronized
  subst hsz
  have hD := hD0.self (sz := s.heap.size)
  generalize hAe : va_A [(a_this, .inr (0, [.ref a_this_all, .int v_count])), (a_this_all, .inr (1, [.ref a_this_all_all])), (a_this_all_all, .inl (cI, 96, .inl g_all_all))] s.heap.size = A at hD hZ ⊢
  have hA : ∀ q : Nat, s.heap.size ≤ q → A q := fun q h => by rw [← hAe]; exact Or.inr h
  have hS : va_S A s.heap s.heap [] := va_S.rf
  have hP : va_P (dC, dI) vwCl [(a_this, .inr (0, [.ref a_this_all, .int v_count])), (a_this_all, .inr (1, [.ref a_this_all_all])), (a_this_all_all, .inl (cI, 96, .inl g_all_all))] s.heap := hP
  have hl := lv_entry ([.ref a_this, .int p1]) (n := 2) (Nat.le_of_ble_eq_true rfl)
  rw [lg_entry_eq]
  generalize (lg_sl ([.ref a_this, .int p1]) ++ List.replicate (2 - (lg_sl ([.ref a_this, .int p1])).length) Slot.unset).toArray = ls at hl ⊢
  have hl : lv_has ls 2 [(0, .ref a_this), (1, .int p1)] := hl
  have he := hf
  unfold f_Letters_squareAt at he
  refine lv_aload_n hx hb dX0_squareAt_0 rfl (lv_at hl 0 rfl) ?_
  refine lv_iload_n hx hb dX0_squareAt_1 rfl (lv_at hl 1 rfl) ?_
  obtain ⟨r1, hf2, he⟩ := zb1_e he
  refine zc_i (wr := []) (ws' := [(a_this, .inr (0, [.ref a_this_all, .int v_count])), (a_this_all, .inr (1, [.ref a_this_all_all])), (a_this_all_all, .inl (cI, 96, .inl g_all_all))]) (va_runV (As := [.int p1]) (rest := []) ⟨hx, hb, hml, hown, hts⟩ (k_Letters_digitAt l dC dI cI cZ tt sd a_this a_this_all a_this_all_all s.heap.size v_count g_all_all p1 r1 hf2) (cwV 1 hts gX0_squareAt_X0_digitAt rfl rfl rfl (by decide +kernel) ⟨Nat.le_of_ble_eq_true rfl, Nat.le_of_ble_eq_true rfl⟩) (zpV hP hD hK hS hA hZ [0, 1, 2] rfl rfl 0 0 rfl rfl) rfl rfl hl.1 rfl (lv_room (Nat.le_of_ble_eq_true rfl)) dX0_squareAt_2 ⟨Nat.zero_le _, Nat.zero_le _⟩) hP hD hS hA [0, 1, 2] [] [0, 1, 2] rfl rfl rfl (by decide) rfl rfl rfl (fun H locs hP hD hS => ?_)
  refine lv_bipush (v := (10 : Int32)) hx hb dX0_squareAt_5 (by decide) ?_
  refine lv_imul hx hb dX0_squareAt_7 ?_
  refine lv_aload_n hx hb dX0_squareAt_8 rfl (lv_at hl 0 rfl) ?_
  refine lv_iload_n hx hb dX0_squareAt_9 rfl (lv_at hl 1 rfl) ?_
  refine lv_iconst (v := (1 : Int32)) hx hb dX0_squareAt_10 (by decide) ?_
  refine lv_iadd hx hb dX0_squareAt_11 ?_
  obtain ⟨r3, hf4, he⟩ := zb1_e he
  refine zc_i (wr := []) (ws' := [(a_this, .inr (0, [.ref a_this_all, .int v_count])), (a_this_all, .inr (1, [.ref a_this_all_all])), (a_this_all_all, .inl (cI, 96, .inl g_all_all))]) (va_runV (As := [.int (p1 + (1 : Int32))]) (rest := [.int (r1 * (10 : Int32))]) ⟨hx, hb, hml, hown, hts⟩ (k_Letters_digitAt l dC dI cI cZ tt sd a_this a_this_all a_this_all_all H.size v_count g_all_all (p1 + (1 : Int32)) r3 hf4) (cwV 1 hts gX0_squareAt_X0_digitAt rfl rfl rfl (by decide +kernel) ⟨Nat.le_of_ble_eq_true rfl, Nat.le_of_ble_eq_true rfl⟩) (zpV hP hD hK hS hA hZ [0, 1, 2] rfl rfl 0 0 rfl rfl) rfl rfl hl.1 rfl (lv_room (Nat.le_of_ble_eq_true rfl)) dX0_squareAt_12 ⟨Nat.zero_le _, Nat.zero_le _⟩) hP hD hS hA [0, 1, 2] [] [0, 1, 2] rfl rfl rfl (by decide) rfl rfl rfl (fun H locs hP hD hS => ?_)
  refine lv_iadd hx hb dX0_squareAt_15 ?_
  obtain ⟨rfl⟩ := zi1 he
  exact W.iret hx hb hr (fun t ht hW => ⟨⟨_, (), rfl, rfl, by rw [ht]; exact hP, va_K.moved hW.alike hK, hD⟩, hS.F ht⟩) hS.2.2 dX0_squareAt_16
set_option maxHeartbeats 4000000 in
set_option maxRecDepth 100000 in
theorem k_Letters_kindAt (l : Launch) (dC : Nat → ClassId) (dI : Nat → Nat → Nat) (cI : ClassId) (cZ : ClassId) (tt : Nat → Nat) (sd : Nat → Nat) (a_this : Nat) (a_this_all : Nat) (a_this_all_all : Nat) (sz : Nat) (v_count : Int32) (g_all_all : Nat → Int32) (p1 : Int32) (r0 : Int32) (hf : f_Letters_kindAt g_all_all p1 = some (r0)) : Met l yX0_kindAt wsX0_kindAt ({ frames := 4, cells := 0, slots := 0, locals := 98 }) (zPre (dC, dI) vwCl [(cI, .int), (cZ, .boolean)] tt sd [.ref a_this, .int p1] [(a_this, .inr (0, [.ref a_this_all, .int v_count])), (a_this_all, .inr (1, [.ref a_this_all_all])), (a_this_all_all, .inl (cI, 96, .inl g_all_all))] sz) (zQi (dC, dI) vwCl [(cI, .int), (cZ, .boolean)] r0 [(a_this, .inr (0, [.ref a_this_all, .int v_count])), (a_this_all, .inr (1, [.ref a_this_all_all])), (a_this_all_all, .inl (cI, 96, .inl g_all_all))] (va_A [(a_this, .inr (0, [.ref a_this_all, .int v_count])), (a_this_all, .inr (1, [.ref a_this_all_all])), (a_this_all_all, .inl (cI, 96, .inl g_all_all))] sz)) 0 0 (va_A [(a_this, .inr (0, [.ref a_this_all, .int v_count])), (a_this_all, .inr (1, [.ref a_this_all_all])), (a_this_all_all, .inl (cI, 96, .inl g_all_all))] sz) := by
  refine Met.ofW (cc := cX0_kindAt) (maxL := 2) (ret := (some .int)) (by decide) rfl ?_
  intro p e s m args below meth c s₁ B hml hv
  obtain ⟨rfl, hsz, hP, hK, hD0, hZ⟩ := hv
  have hx := B.exec
  have hb := B.bytes
  have hr := B.returns
  have hts := atoms_spec (ws := wsX0_kindAt) B.pre
  have hown : s.vm.findClass RX0 = some m.cls := findClass_of_methodNamed B.named
  have hlocks := B.notSynchronized
  subst hsz
  have hD := hD0.self (sz := s.heap.size)
  generalize hAe : va_A [(a_this, .inr (0, [.ref a_this_all, .int v_count])), (a_this_all, .inr (1, [.ref a_this_all_all])), (a_this_all_all, .inl (cI, 96, .inl g_all_all))] s.heap.size = A at hD hZ ⊢
  have hA : ∀ q : Nat, s.heap.size ≤ q → A q := fun q h => by rw [← hAe]; exact Or.inr h
  have hS : va_S A s.heap s.heap [] := va_S.rf
  have hP : va_P (dC, dI) vwCl [(a_this, .inr (0, [.ref a_this_all, .int v_count])), (a_this_all, .inr (1, [.ref a_this_all_all])), (a_this_all_all, .inl (cI, 96, .inl g_all_all))] s.heap := hP
  have hl := lv_entry ([.ref a_this, .int p1]) (n := 2) (Nat.le_of_ble_eq_true rfl)
  rw [lg_entry_eq]
  generalize (lg_sl ([.ref a_this, .int p1]) ++ List.replicate (2 - (lg_sl ([.ref a_this, .int p1])).length) Slot.unset).toArray = ls at hl ⊢
  have hl : lv_has ls 2 [(0, .ref a_this), (1, .int p1)] := hl
  have he := hf
  unfold f_Letters_kindAt at he
  refine va_ldcS hx hb hown (zZ_S5 hZ) dX0_kindAt_0 ?_
  refine lv_aload_n hx hb dX0_kindAt_2 rfl (lv_at hl 0 rfl) ?_
  refine va_get (D := (dC, dI)) (ci := 0) (v := .ref a_this_all) (C := RX0) (T := TX0) (N := 2) hx hb hts (by decide +kernel) hown hK hP 0 rfl rfl 0 (by decide) (hts (.fieldLink RX0 14 "LawOfCorners$Letters" "all" "LLawOfCorners$Numbers;") (by decide +kernel)) (fun _ h9 => h9) rfl dX0_kindAt_3 ?_
  refine lv_iload_n hx hb dX0_kindAt_6 rfl (lv_at hl 1 rfl) ?_
  obtain ⟨r1, hf2, he⟩ := zb1_e he
  refine zc_i (wr := [(a_this, .inr (0, [.ref a_this_all, .int v_count]))]) (ws' := [(a_this, .inr (0, [.ref a_this_all, .int v_count])), (a_this_all, .inr (1, [.ref a_this_all_all])), (a_this_all_all, .inl (cI, 96, .inl g_all_all))]) (va_runV (As := [.int p1]) (rest := [.ref (sd (5))]) ⟨hx, hb, hml, hown, hts⟩ (k_Numbers_at l dC dI cI cZ tt sd a_this_all a_this_all_all s.heap.size 96 g_all_all p1 r1 hf2) (cwV 1 hts gX0_kindAt_X1_at rfl rfl rfl (by decide +kernel) ⟨Nat.le_of_ble_eq_true rfl, Nat.le_of_ble_eq_true rfl⟩) (zpV hP hD hK hS hA hZ [1, 2] rfl rfl 1 1 rfl rfl) rfl rfl hl.1 rfl (lv_room (Nat.le_of_ble_eq_true rfl)) dX0_kindAt_7 ⟨Nat.zero_le _, Nat.zero_le _⟩) hP hD hS hA [1, 2] [0] [0, 1, 2] rfl rfl rfl (by decide) rfl rfl rfl (fun H locs hP hD hS => ?_)
  refine lv_i2c hx hb dX0_kindAt_10 rfl ?_
  obtain ⟨hg3, he⟩ := zg_e he
  obtain ⟨r4, hf5, he⟩ := zb1_e he
  refine zc_i (wr := [(a_this, .inr (0, [.ref a_this_all, .int v_count])), (a_this_all, .inr (1, [.ref a_this_all_all])), (a_this_all_all, .inl (cI, 96, .inl g_all_all))]) (ws' := [(a_this, .inr (0, [.ref a_this_all, .int v_count])), (a_this_all, .inr (1, [.ref a_this_all_all])), (a_this_all_all, .inl (cI, 96, .inl g_all_all))]) (va_runV (As := [.int (zi2c r1)]) (rest := []) ⟨hx, hb, hml, hown, hts⟩ (k_String_indexOf_0 l dC dI cI cZ tt sd H.size (5) (zi2c r1) r4 hf5) (cwV 1 hts gX0_kindAt_J0_indexOf_0f7a4 rfl rfl rfl (by decide +kernel) ⟨Nat.le_of_ble_eq_true rfl, Nat.le_of_ble_eq_true rfl⟩) (zpW hP hD hK hS hA hZ [] rfl rfl hg3) rfl rfl hl.1 rfl (lv_room (Nat.le_of_ble_eq_true rfl)) dX0_kindAt_11 ⟨Nat.zero_le _, Nat.zero_le _⟩) hP hD hS hA [] [0, 1, 2] [0, 1, 2] rfl rfl rfl (by decide) rfl rfl rfl (fun H locs hP hD hS => ?_)
  obtain ⟨rfl⟩ := zi1 he
  exact W.iret hx hb hr (fun t ht hW => ⟨⟨_, (), rfl, rfl, by rw [ht]; exact hP, va_K.moved hW.alike hK, hD⟩, hS.F ht⟩) hS.2.2 dX0_kindAt_14
set_option maxHeartbeats 4000000 in
set_option maxRecDepth 100000 in
theorem k_X_isSquare (l : Launch) (dC : Nat → ClassId) (dI : Nat → Nat → Nat) (cI : ClassId) (cZ : ClassId) (tt : Nat → Nat) (sd : Nat → Nat) (sz : Nat) (p0 : Int32) (r0 : Int32) (hf : f_X_isSquare p0 = some (r0)) : Met l yX7_isSquare wsX7_isSquare ({ frames := 0, cells := 0, slots := 0, locals := 0 }) (zPre (dC, dI) vwCl [(cI, .int), (cZ, .boolean)] tt sd [.int p0] [] sz) (zQi (dC, dI) vwCl [(cI, .int), (cZ, .boolean)] r0 [] (va_A [] sz)) 0 0 (va_A [] sz) := by
  refine Met.ofW (cc := cX7_isSquare) (maxL := 1) (ret := (some .boolean)) (by decide) rfl ?_
  intro p e s m args below meth c s₁ B hml hv
  obtain ⟨rfl, hsz, hP, hK, hD0, hZ⟩ := hv
  have hx := B.exec
  have hb := B.bytes
  have hr := B.returns
  have hts := atoms_spec (ws := wsX7_isSquare) B.pre
  have hown : s.vm.findClass RX7 = some m.cls := findClass_of_methodNamed B.named
  have hlocks := B.notSynchronized
  subst hsz
  have hD := hD0.self (sz := s.heap.size)
  generalize hAe : va_A [] s.heap.size = A at hD hZ ⊢
  have hA : ∀ q : Nat, s.heap.size ≤ q → A q := fun q h => by rw [← hAe]; exact Or.inr h
  have hS : va_S A s.heap s.heap [] := va_S.rf
  have hP : va_P (dC, dI) vwCl [] s.heap := hP
  have hl := lv_entry ([.int p0]) (n := 1) (Nat.le_of_ble_eq_true rfl)
  rw [lg_entry_eq]
  generalize (lg_sl ([.int p0]) ++ List.replicate (1 - (lg_sl ([.int p0])).length) Slot.unset).toArray = ls at hl ⊢
  have hl : lv_has ls 1 [(0, .int p0)] := hl
  have he := hf
  unfold f_X_isSquare at he
  refine lv_iload_n hx hb dX7_isSquare_0 rfl (lv_at hl 0 rfl) ?_
  refine lv_if_lt (tgt := 14) hx hb dX7_isSquare_1 (by decide) (fun c1 => ?_) (fun c1 => ?_)
  · have he := zif_t c1 he
    refine lv_iconst (v := (0 : Int32)) hx hb dX7_isSquare_14 (by decide) ?_
    obtain ⟨rfl⟩ := zi1 he
    exact W.zret hx hb hr rfl (fun t ht hW => ⟨⟨_, (), rfl, rfl, by rw [ht]; exact hP, va_K.moved hW.alike hK, hD⟩, hS.F ht⟩) hS.2.2 dX7_isSquare_15
  · have he := zif_f c1 he
    refine lv_iload_n hx hb dX7_isSquare_4 rfl (lv_at hl 0 rfl) ?_
    refine lv_bipush (v := (36 : Int32)) hx hb dX7_isSquare_5 (by decide) ?_
    refine lv_icmp_ge (tgt := 14) hx hb dX7_isSquare_7 (by decide) (fun c2 => ?_) (fun c2 => ?_)
    · have he := zif_t c2 he
      refine lv_iconst (v := (0 : Int32)) hx hb dX7_isSquare_14 (by decide) ?_
      obtain ⟨rfl⟩ := zi1 he
      exact W.zret hx hb hr rfl (fun t ht hW => ⟨⟨_, (), rfl, rfl, by rw [ht]; exact hP, va_K.moved hW.alike hK, hD⟩, hS.F ht⟩) hS.2.2 dX7_isSquare_15
    · have he := zif_f c2 he
      refine lv_iconst (v := (1 : Int32)) hx hb dX7_isSquare_10 (by decide) ?_
      refine lv_goto (tgt := 15) hx hb dX7_isSquare_11 (by decide) ?_
      obtain ⟨rfl⟩ := zi1 he
      exact W.zret hx hb hr rfl (fun t ht hW => ⟨⟨_, (), rfl, rfl, by rw [ht]; exact hP, va_K.moved hW.alike hK, hD⟩, hS.F ht⟩) hS.2.2 dX7_isSquare_15
set_option maxHeartbeats 4000000 in
set_option maxRecDepth 100000 in
theorem k_Town_trait {tn_p0 : Nat} {tf_p0 : Nat → Int32} (l : Launch) (dC : Nat → ClassId) (dI : Nat → Nat → Nat) (cI : ClassId) (cZ : ClassId) (tt : Nat → Nat) (sd : Nat → Nat) (sz : Nat) (ta_p0 : Nat) (hT_p0 : ∀ A U H, zZ tt sd A U H → va_T .int ta_p0 tn_p0 (fun j => .int (tf_p0 j)) A U H) (p1 : Int32) (r0 : Int32) (hf : f_Town_trait tn_p0 tf_p0 p1 = some (r0)) : Met l yX6_trait wsX6_trait ({ frames := 0, cells := 0, slots := 0, locals := 0 }) (zPre (dC, dI) vwCl [(cI, .int), (cZ, .boolean)] tt sd [.ref ta_p0, .int p1] [] sz) (zQi (dC, dI) vwCl [(cI, .int), (cZ, .boolean)] r0 [] (va_A [] sz)) 0 0 (va_A [] sz) := by
  refine Met.ofW (cc := cX6_trait) (maxL := 2) (ret := (some .int)) (by decide) rfl ?_
  intro p e s m args below meth c s₁ B hml hv
  obtain ⟨rfl, hsz, hP, hK, hD0, hZ⟩ := hv
  have hx := B.exec
  have hb := B.bytes
  have hr := B.returns
  have hts := atoms_spec (ws := wsX6_trait) B.pre
  have hown : s.vm.findClass RX6 = some m.cls := findClass_of_methodNamed B.named
  have hlocks := B.notSynchronized
  subst hsz
  have hD := hD0.self (sz := s.heap.size)
  generalize hAe : va_A [] s.heap.size = A at hD hZ ⊢
  have hA : ∀ q : Nat, s.heap.size ≤ q → A q := fun q h => by rw [← hAe]; exact Or.inr h
  have hS : va_S A s.heap s.heap [] := va_S.rf
  have hP : va_P (dC, dI) vwCl [] s.heap := hP
  have hl := lv_entry ([.ref ta_p0, .int p1]) (n := 2) (Nat.le_of_ble_eq_true rfl)
  rw [lg_entry_eq]
  generalize (lg_sl ([.ref ta_p0, .int p1]) ++ List.replicate (2 - (lg_sl ([.ref ta_p0, .int p1])).length) Slot.unset).toArray = ls at hl ⊢
  have hl : lv_has ls 2 [(0, .ref ta_p0), (1, .int p1)] := hl
  have he := hf
  unfold f_Town_trait at he
  refine lv_iload_n hx hb dX6_trait_0 rfl (lv_at hl 1 rfl) ?_
  refine lv_if_lt (tgt := 16) hx hb dX6_trait_1 (by decide) (fun c1 => ?_) (fun c1 => ?_)
  · have he := zif_t c1 he
    refine lv_iconst (v := (0 : Int32)) hx hb dX6_trait_16 (by decide) ?_
    obtain ⟨rfl⟩ := zi1 he
    exact W.iret hx hb hr (fun t ht hW => ⟨⟨_, (), rfl, rfl, by rw [ht]; exact hP, va_K.moved hW.alike hK, hD⟩, hS.F ht⟩) hS.2.2 dX6_trait_17
  · have he := zif_f c1 he
    refine lv_iload_n hx hb dX6_trait_4 rfl (lv_at hl 1 rfl) ?_
    refine lv_aload_n hx hb dX6_trait_5 rfl (lv_at hl 0 rfl) ?_
    refine va_tlen hx hb (hT_p0 _ _ _ hZ) hS (v := nI tn_p0) rfl dX6_trait_6 ?_
    refine lv_icmp_ge (tgt := 16) hx hb dX6_trait_7 (by decide) (fun c2 => ?_) (fun c2 => ?_)
    · have he := zif_t c2 he
      refine lv_iconst (v := (0 : Int32)) hx hb dX6_trait_16 (by decide) ?_
      obtain ⟨rfl⟩ := zi1 he
      exact W.iret hx hb hr (fun t ht hW => ⟨⟨_, (), rfl, rfl, by rw [ht]; exact hP, va_K.moved hW.alike hK, hD⟩, hS.F ht⟩) hS.2.2 dX6_trait_17
    · have he := zif_f c2 he
      refine lv_aload_n hx hb dX6_trait_10 rfl (lv_at hl 0 rfl) ?_
      refine lv_iload_n hx hb dX6_trait_11 rfl (lv_at hl 1 rfl) ?_
      obtain ⟨hg3, he⟩ := zg_e he
      refine va_ti hx hb (hT_p0 _ _ _ hZ) hS hg3 (v := .int (tf_p0 p1.toNatClampNeg)) rfl dX6_trait_12 ?_
      refine lv_goto (tgt := 17) hx hb dX6_trait_13 (by decide) ?_
      obtain ⟨rfl⟩ := zi1 he
      exact W.iret hx hb hr (fun t ht hW => ⟨⟨_, (), rfl, rfl, by rw [ht]; exact hP, va_K.moved hW.alike hK, hD⟩, hS.F ht⟩) hS.2.2 dX6_trait_17
set_option maxHeartbeats 4000000 in
set_option maxRecDepth 100000 in
theorem k_Town_rebuild (l : Launch) (dC : Nat → ClassId) (dI : Nat → Nat → Nat) (cI : ClassId) (cZ : ClassId) (tt : Nat → Nat) (sd : Nat → Nat) (a_this : Nat) (a_this_kinds : Nat) (a_this_kinds_all : Nat) (sz : Nat) (v_home : Int32) (v_fine : Int32) (v_breath : Int32) (g_kinds_all : Nat → Int32) (p1 : Int32) (p2 : Int32) (p3 : Int32) (r0 : Int32) (w0 : Nat → Int32) (hf : f_Town_rebuild v_home g_kinds_all p1 p2 p3 = some (r0, w0)) : Met l yX6_rebuild wsX6_rebuild ({ frames := 1, cells := 0, slots := 0, locals := 22 }) (zPre (dC, dI) vwCl [(cI, .int), (cZ, .boolean)] tt sd [.ref a_this, .int p1, .int p2, .int p3] [(a_this, .inr (6, [.ref a_this_kinds, .int v_home, .int v_fine, .int v_breath])), (a_this_kinds, .inr (1, [.ref a_this_kinds_all])), (a_this_kinds_all, .inl (cI, 36, .inl g_kinds_all))] sz) (zQi (dC, dI) vwCl [(cI, .int), (cZ, .boolean)] r0 [(a_this, .inr (6, [.ref a_this_kinds, .int v_home, .int v_fine, .int v_breath])), (a_this_kinds, .inr (1, [.ref a_this_kinds_all])), (a_this_kinds_all, .inl (cI, 36, .inl w0))] (va_A [(a_this, .inr (6, [.ref a_this_kinds, .int v_home, .int v_fine, .int v_breath])), (a_this_kinds, .inr (1, [.ref a_this_kinds_all])), (a_this_kinds_all, .inl (cI, 36, .inl g_kinds_all))] sz)) 0 0 (va_A [(a_this, .inr (6, [.ref a_this_kinds, .int v_home, .int v_fine, .int v_breath])), (a_this_kinds, .inr (1, [.ref a_this_kinds_all])), (a_this_kinds_all, .inl (cI, 36, .inl g_kinds_all))] sz) := by
  refine Met.ofW (cc := cX6_rebuild) (maxL := 5) (ret := (some .boolean)) (by decide) rfl ?_
  intro p e s m args below meth c s₁ B hml hv
  obtain ⟨rfl, hsz, hP, hK, hD0, hZ⟩ := hv
  have hx := B.exec
  have hb := B.bytes
  have hr := B.returns
  have hts := atoms_spec (ws := wsX6_rebuild) B.pre
  have hown : s.vm.findClass RX6 = some m.cls := findClass_of_methodNamed B.named
  have hlocks := B.notSynchronized
  subst hsz
  have hD := hD0.self (sz := s.heap.size)
  generalize hAe : va_A [(a_this, .inr (6, [.ref a_this_kinds, .int v_home, .int v_fine, .int v_breath])), (a_this_kinds, .inr (1, [.ref a_this_kinds_all])), (a_this_kinds_all, .inl (cI, 36, .inl g_kinds_all))] s.heap.size = A at hD hZ ⊢
  have hA : ∀ q : Nat, s.heap.size ≤ q → A q := fun q h => by rw [← hAe]; exact Or.inr h
  have hS : va_S A s.heap s.heap [] := va_S.rf
  have hP : va_P (dC, dI) vwCl [(a_this, .inr (6, [.ref a_this_kinds, .int v_home, .int v_fine, .int v_breath])), (a_this_kinds, .inr (1, [.ref a_this_kinds_all])), (a_this_kinds_all, .inl (cI, 36, .inl g_kinds_all))] s.heap := hP
  have hl := lv_entry ([.ref a_this, .int p1, .int p2, .int p3]) (n := 5) (Nat.le_of_ble_eq_true rfl)
  rw [lg_entry_eq]
  generalize (lg_sl ([.ref a_this, .int p1, .int p2, .int p3]) ++ List.replicate (5 - (lg_sl ([.ref a_this, .int p1, .int p2, .int p3])).length) Slot.unset).toArray = ls at hl ⊢
  have hl : lv_has ls 5 [(0, .ref a_this), (1, .int p1), (2, .int p2), (3, .int p3)] := hl
  have he := hf
  unfold f_Town_rebuild at he
  refine zstart (D := (dC, dI)) (cl := vwCl) (A := A) (nL := 5) (fun WW hWW => ?_)
  refine lv_iload_n hx hb dX6_rebuild_0 rfl (lv_at hl 1 rfl) ?_
  refine lv_iload_n hx hb dX6_rebuild_1 rfl (lv_at hl 2 rfl) ?_
  refine lv_icmp_gt (tgt := 19) hx hb dX6_rebuild_2 (by decide) (fun c1 => ?_) (fun c1 => ?_)
  · have he := zif_t c1 he
    refine lv_iconst (v := (0 : Int32)) hx hb dX6_rebuild_19 (by decide) ?_
    obtain ⟨rfl, rfl⟩ := zi2 he
    exact W.zret hx hb hr rfl (fun t ht hW => ⟨⟨_, (), rfl, rfl, by rw [ht]; exact hP, va_K.moved hW.alike hK, hD⟩, hS.F ht⟩) hS.2.2 dX6_rebuild_20
  · have he := zif_f c1 he
    refine lv_iload_n hx hb dX6_rebuild_5 rfl (lv_at hl 1 rfl) ?_
    obtain ⟨r2, hf3, he⟩ := zb1_e he
    refine zc_i (wr := [(a_this, .inr (6, [.ref a_this_kinds, .int v_home, .int v_fine, .int v_breath])), (a_this_kinds, .inr (1, [.ref a_this_kinds_all])), (a_this_kinds_all, .inl (cI, 36, .inl g_kinds_all))]) (ws' := [(a_this, .inr (6, [.ref a_this_kinds, .int v_home, .int v_fine, .int v_breath])), (a_this_kinds, .inr (1, [.ref a_this_kinds_all])), (a_this_kinds_all, .inl (cI, 36, .inl g_kinds_all))]) (va_runSN (As := [.int p1]) (rest := []) ⟨hx, hb, hml, hown, hts⟩ (k_X_isSquare l dC dI cI cZ tt sd s.heap.size p1 r2 hf3) ⟨va_cnB 1 hts gX6_rebuild_X7_isSquare_n38 rfl rfl rfl (zZ_N0 hZ) (hts (.initialized RX7) (by decide +kernel)) (by decide +kernel) ⟨Nat.le_of_ble_eq_true rfl, Nat.le_of_ble_eq_true rfl⟩, hts (.static yX7_isSquare) (by decide +kernel), trivial⟩ (zpS hP hD hK hS hA hZ [] rfl rfl) rfl rfl hl.1 rfl (lv_room (Nat.le_of_ble_eq_true rfl)) dX6_rebuild_6 ⟨Nat.zero_le _, Nat.zero_le _⟩) hP hD hS hA [] [0, 1, 2] [0, 1, 2] rfl rfl rfl (by decide) rfl rfl rfl (fun H locs hP hD hS => ?_)
    refine lv_if_eq (tgt := 19) hx hb dX6_rebuild_9 (by decide) (fun c4 => ?_) (fun c4 => ?_)
    · have he := zif_t c4 he
      refine lv_iconst (v := (0 : Int32)) hx hb dX6_rebuild_19 (by decide) ?_
      obtain ⟨rfl, rfl⟩ := zi2 he
      exact W.zret hx hb hr rfl (fun t ht hW => ⟨⟨_, (), rfl, rfl, by rw [ht]; exact hP, va_K.moved hW.alike hK, hD⟩, hS.F ht⟩) hS.2.2 dX6_rebuild_20
    · have he := zif_f c4 he
      refine lv_iload_n hx hb dX6_rebuild_12 rfl (lv_at hl 2 rfl) ?_
      obtain ⟨r5, hf6, he⟩ := zb1_e he
      refine zc_i (wr := [(a_this, .inr (6, [.ref a_this_kinds, .int v_home, .int v_fine, .int v_breath])), (a_this_kinds, .inr (1, [.ref a_this_kinds_all])), (a_this_kinds_all, .inl (cI, 36, .inl g_kinds_all))]) (ws' := [(a_this, .inr (6, [.ref a_this_kinds, .int v_home, .int v_fine, .int v_breath])), (a_this_kinds, .inr (1, [.ref a_this_kinds_all])), (a_this_kinds_all, .inl (cI, 36, .inl g_kinds_all))]) (va_runSN (As := [.int p2]) (rest := []) ⟨hx, hb, hml, hown, hts⟩ (k_X_isSquare l dC dI cI cZ tt sd H.size p2 r5 hf6) ⟨va_cnB 1 hts gX6_rebuild_X7_isSquare_n38 rfl rfl rfl (zZ_N0 hZ) (hts (.initialized RX7) (by decide +kernel)) (by decide +kernel) ⟨Nat.le_of_ble_eq_true rfl, Nat.le_of_ble_eq_true rfl⟩, hts (.static yX7_isSquare) (by decide +kernel), trivial⟩ (zpS hP hD hK hS hA hZ [] rfl rfl) rfl rfl hl.1 rfl (lv_room (Nat.le_of_ble_eq_true rfl)) dX6_rebuild_13 ⟨Nat.zero_le _, Nat.zero_le _⟩) hP hD hS hA [] [0, 1, 2] [0, 1, 2] rfl rfl rfl (by decide) rfl rfl rfl (fun H locs hP hD hS => ?_)
      refine lv_if_ne (tgt := 21) hx hb dX6_rebuild_16 (by decide) (fun c7 => ?_) (fun c7 => ?_)
      · have he := zif_f c7 he
        refine lv_iload_n hx hb dX6_rebuild_21 rfl (lv_at hl 1 rfl) ?_
        refine lv_aload_n hx hb dX6_rebuild_22 rfl (lv_at hl 0 rfl) ?_
        refine va_get (D := (dC, dI)) (ci := 6) (v := .int v_home) (C := RX6) (T := TX6) (N := 4) hx hb hts (by decide +kernel) hown hK hP 0 rfl rfl 1 (by decide) (hts (.fieldLink RX6 20 "LawOfCorners$Town" "home" "I") (by decide +kernel)) (fun _ h9 => h9) rfl dX6_rebuild_23 ?_
        refine zj1_w he (fun (_ : Unit) => WW [(a_this, .inr (6, [.ref a_this_kinds, .int v_home, .int v_fine, .int v_breath])), (a_this_kinds, .inr (1, [.ref a_this_kinds_all])), (a_this_kinds_all, .inl (cI, 36, .inl g_kinds_all))] [(0, .ref a_this), (1, .int p1), (2, .int p2), (3, .int p3)] 49 []) (fun _ he => (hWW _ _ _ _).mpr (fun H locs ls hP hD hS hl => ?_)) (fun k15 hk15 he => ?_)
        · refine lv_iload_n hx hb dX6_rebuild_49 rfl (lv_at hl 1 rfl) ?_
          refine lv_istore (lv' := [(4, .int p1), (0, .ref a_this), (1, .int p1), (2, .int p2), (3, .int p3)]) hx hb dX6_rebuild_50 hl (by decide) rfl (fun ls hl => ?_)
          refine (hWW _ _ _ _).mp (zl2_w he (fun (l4_8 : Int32) (g_kinds_all_9 : Nat → Int32) => WW [(a_this, .inr (6, [.ref a_this_kinds, .int v_home, .int v_fine, .int v_breath])), (a_this_kinds, .inr (1, [.ref a_this_kinds_all])), (a_this_kinds_all, .inl (cI, 36, .inl g_kinds_all_9))] [(0, .ref a_this), (2, .int p2), (3, .int p3), (4, .int l4_8)] 52 []) (fun l4_8 g_kinds_all_9 again10 hagain10 he => (hWW _ _ _ _).mpr (fun H locs ls hP hD hS hl => ?_))) _ _ _ hP hD hS (lv_sub hl [1, 3, 4, 0] rfl)
          refine lv_iload hx hb dX6_rebuild_52 (lv_at hl 3 rfl) ?_
          refine lv_iload_n hx hb dX6_rebuild_54 rfl (lv_at hl 1 rfl) ?_
          refine lv_icmp_gt (tgt := 74) hx hb dX6_rebuild_55 (by decide) (fun c11 => ?_) (fun c11 => ?_)
          · have he := zif_t c11 he
            refine lv_iconst (v := (1 : Int32)) hx hb dX6_rebuild_74 (by decide) ?_
            obtain ⟨rfl, rfl⟩ := zi2 he
            exact W.zret hx hb hr rfl (fun t ht hW => ⟨⟨_, (), rfl, rfl, by rw [ht]; exact hP, va_K.moved hW.alike hK, hD⟩, hS.F ht⟩) hS.2.2 dX6_rebuild_75
          · have he := zif_f c11 he
            refine lv_aload_n hx hb dX6_rebuild_58 rfl (lv_at hl 0 rfl) ?_
            refine va_get (D := (dC, dI)) (ci := 6) (v := .ref a_this_kinds) (C := RX6) (T := TX6) (N := 4) hx hb hts (by decide +kernel) hown hK hP 0 rfl rfl 0 (by decide) (hts (.fieldLink RX6 14 "LawOfCorners$Town" "kinds" "LLawOfCorners$Numbers;") (by decide +kernel)) (fun _ h9 => h9) rfl dX6_rebuild_59 ?_
            refine lv_iload hx hb dX6_rebuild_62 (lv_at hl 3 rfl) ?_
            refine lv_iload_n hx hb dX6_rebuild_64 rfl (lv_at hl 2 rfl) ?_
            obtain ⟨g_kinds_all_12, hf13, he⟩ := zb1_e he
            refine zc_v (wr := [(a_this, .inr (6, [.ref a_this_kinds, .int v_home, .int v_fine, .int v_breath]))]) (ws' := [(a_this, .inr (6, [.ref a_this_kinds, .int v_home, .int v_fine, .int v_breath])), (a_this_kinds, .inr (1, [.ref a_this_kinds_all])), (a_this_kinds_all, .inl (cI, 36, .inl g_kinds_all_12))]) (va_runV (As := [.int l4_8, .int p3]) (rest := []) ⟨hx, hb, hml, hown, hts⟩ (k_Numbers_put l dC dI cI cZ tt sd a_this_kinds a_this_kinds_all H.size 36 g_kinds_all_9 l4_8 p3 g_kinds_all_12 hf13) (cwV 2 hts gX6_rebuild_X1_put rfl rfl rfl (by decide +kernel) ⟨Nat.le_of_ble_eq_true rfl, Nat.le_of_ble_eq_true rfl⟩) (zpV hP hD hK hS hA hZ [1, 2] rfl rfl 1 1 rfl rfl) rfl rfl hl.1 rfl (lv_room (Nat.le_of_ble_eq_true rfl)) dX6_rebuild_65 ⟨Nat.zero_le _, Nat.zero_le _⟩) hP hD hS hA [1, 2] [0] [0, 1, 2] rfl rfl rfl (by decide) rfl rfl rfl (fun H locs hP hD hS => ?_)
            obtain ⟨x14, ex14⟩ : ∃ y : Int32, y = l4_8 + (1 : Int32) := ⟨_, rfl⟩
            have he := zn_e ex14 he
            refine lv_iinc (v := x14) (lv' := [(4, .int x14), (0, .ref a_this), (2, .int p2), (3, .int p3)]) hx hb dX6_rebuild_68 hl (k := 3) rfl (by rw [ex14]; rfl) (by decide) rfl (fun ls hl => ?_)
            refine lv_goto (tgt := 52) hx hb dX6_rebuild_71 (by decide) ?_
            exact (hWW _ _ _ _).mp (hagain10 x14 g_kinds_all_12 he) _ _ _ hP hD hS (lv_sub hl [1, 2, 3, 0] rfl)
        refine lv_icmp_gt (tgt := 49) hx hb dX6_rebuild_26 (by decide) (fun c16 => ?_) (fun c16 => ?_)
        · have he := zif_t c16 he
          exact (hWW _ _ _ _).mp (hk15 () he) _ _ _ hP hD hS (lv_sub hl [0, 1, 2, 3] rfl)
        · have he := zif_f c16 he
          refine lv_aload_n hx hb dX6_rebuild_29 rfl (lv_at hl 0 rfl) ?_
          refine va_get (D := (dC, dI)) (ci := 6) (v := .int v_home) (C := RX6) (T := TX6) (N := 4) hx hb hts (by decide +kernel) hown hK hP 0 rfl rfl 1 (by decide) (hts (.fieldLink RX6 20 "LawOfCorners$Town" "home" "I") (by decide +kernel)) (fun _ h9 => h9) rfl dX6_rebuild_30 ?_
          refine lv_iload_n hx hb dX6_rebuild_33 rfl (lv_at hl 2 rfl) ?_
          refine lv_icmp_gt (tgt := 49) hx hb dX6_rebuild_34 (by decide) (fun c17 => ?_) (fun c17 => ?_)
          · have he := zif_t c17 he
            exact (hWW _ _ _ _).mp (hk15 () he) _ _ _ hP hD hS (lv_sub hl [0, 1, 2, 3] rfl)
          · have he := zif_f c17 he
            refine va_getsN hx hb (zZ_Z0 hZ) hS hown (va_Nw.use rfl (zZ_N3 hZ)) (fun _ h9 => h9) dX6_rebuild_37 ?_
            refine lv_iload_n hx hb dX6_rebuild_40 rfl (lv_at hl 3 rfl) ?_
            obtain ⟨r18, hf19, he⟩ := zb1_e he
            refine zc_i (wr := [(a_this, .inr (6, [.ref a_this_kinds, .int v_home, .int v_fine, .int v_breath])), (a_this_kinds, .inr (1, [.ref a_this_kinds_all])), (a_this_kinds_all, .inl (cI, 36, .inl g_kinds_all))]) (ws' := [(a_this, .inr (6, [.ref a_this_kinds, .int v_home, .int v_fine, .int v_breath])), (a_this_kinds, .inr (1, [.ref a_this_kinds_all])), (a_this_kinds_all, .inl (cI, 36, .inl g_kinds_all))]) (va_runS (As := [.ref (tt 0), .int p3]) (rest := []) ⟨hx, hb, hml, hown, hts⟩ (k_Town_trait l dC dI cI cZ tt sd H.size (tt 0) (fun _ _ _ hZ => (zZ_T0 hZ)) p3 r18 hf19) (va_cwS 2 hts gX6_rebuild_X6_trait rfl rfl rfl (by decide +kernel) ⟨Nat.le_of_ble_eq_true rfl, Nat.le_of_ble_eq_true rfl⟩) (zpS hP hD hK hS hA hZ [] rfl rfl) rfl rfl hl.1 rfl (lv_room (Nat.le_of_ble_eq_true rfl)) dX6_rebuild_41 ⟨Nat.zero_le _, Nat.zero_le _⟩) hP hD hS hA [] [0, 1, 2] [0, 1, 2] rfl rfl rfl (by decide) rfl rfl rfl (fun H locs hP hD hS => ?_)
            refine lv_if_ne (tgt := 49) hx hb dX6_rebuild_44 (by decide) (fun c20 => ?_) (fun c20 => ?_)
            · have he := zif_f c20 he
              exact (hWW _ _ _ _).mp (hk15 () he) _ _ _ hP hD hS (lv_sub hl [0, 1, 2, 3] rfl)
            · have he := zif_t c20 he
              refine lv_iconst (v := (0 : Int32)) hx hb dX6_rebuild_47 (by decide) ?_
              obtain ⟨rfl, rfl⟩ := zi2 he
              exact W.zret hx hb hr rfl (fun t ht hW => ⟨⟨_, (), rfl, rfl, by rw [ht]; exact hP, va_K.moved hW.alike hK, hD⟩, hS.F ht⟩) hS.2.2 dX6_rebuild_48
      · have he := zif_t c7 he
        refine lv_iconst (v := (0 : Int32)) hx hb dX6_rebuild_19 (by decide) ?_
        obtain ⟨rfl, rfl⟩ := zi2 he
        exact W.zret hx hb hr rfl (fun t ht hW => ⟨⟨_, (), rfl, rfl, by rw [ht]; exact hP, va_K.moved hW.alike hK, hD⟩, hS.F ht⟩) hS.2.2 dX6_rebuild_20
set_option maxHeartbeats 4000000 in
set_option maxRecDepth 100000 in
theorem k_Town_canBe (l : Launch) (dC : Nat → ClassId) (dI : Nat → Nat → Nat) (cI : ClassId) (cZ : ClassId) (tt : Nat → Nat) (sd : Nat → Nat) (a_this : Nat) (a_this_kinds : Nat) (a_this_kinds_all : Nat) (sz : Nat) (v_home : Int32) (v_fine : Int32) (v_breath : Int32) (g_kinds_all : Nat → Int32) (p1 : Int32) (r0 : Int32) (hf : f_Town_canBe g_kinds_all p1 = some (r0)) : Met l yX6_canBe wsX6_canBe ({ frames := 1, cells := 0, slots := 0, locals := 21 }) (zPre (dC, dI) vwCl [(cI, .int), (cZ, .boolean)] tt sd [.ref a_this, .int p1] [(a_this, .inr (6, [.ref a_this_kinds, .int v_home, .int v_fine, .int v_breath])), (a_this_kinds, .inr (1, [.ref a_this_kinds_all])), (a_this_kinds_all, .inl (cI, 36, .inl g_kinds_all))] sz) (zQi (dC, dI) vwCl [(cI, .int), (cZ, .boolean)] r0 [(a_this, .inr (6, [.ref a_this_kinds, .int v_home, .int v_fine, .int v_breath])), (a_this_kinds, .inr (1, [.ref a_this_kinds_all])), (a_this_kinds_all, .inl (cI, 36, .inl g_kinds_all))] (va_A [(a_this, .inr (6, [.ref a_this_kinds, .int v_home, .int v_fine, .int v_breath])), (a_this_kinds, .inr (1, [.ref a_this_kinds_all])), (a_this_kinds_all, .inl (cI, 36, .inl g_kinds_all))] sz)) 0 0 (va_A [(a_this, .inr (6, [.ref a_this_kinds, .int v_home, .int v_fine, .int v_breath])), (a_this_kinds, .inr (1, [.ref a_this_kinds_all])), (a_this_kinds_all, .inl (cI, 36, .inl g_kinds_all))] sz) := by
  refine Met.ofW (cc := cX6_canBe) (maxL := 2) (ret := (some .boolean)) (by decide) rfl ?_
  intro p e s m args below meth c s₁ B hml hv
  obtain ⟨rfl, hsz, hP, hK, hD0, hZ⟩ := hv
  have hx := B.exec
  have hb := B.bytes
  have hr := B.returns
  have hts := atoms_spec (ws := wsX6_canBe) B.pre
  have hown : s.vm.findClass RX6 = some m.cls := findClass_of_methodNamed B.named
  have hlocks := B.notSynchronized
  subst hsz
  have hD := hD0.self (sz := s.heap.size)
  generalize hAe : va_A [(a_this, .inr (6, [.ref a_this_kinds, .int v_home, .int v_fine, .int v_breath])), (a_this_kinds, .inr (1, [.ref a_this_kinds_all])), (a_this_kinds_all, .inl (cI, 36, .inl g_kinds_all))] s.heap.size = A at hD hZ ⊢
  have hA : ∀ q : Nat, s.heap.size ≤ q → A q := fun q h => by rw [← hAe]; exact Or.inr h
  have hS : va_S A s.heap s.heap [] := va_S.rf
  have hP : va_P (dC, dI) vwCl [(a_this, .inr (6, [.ref a_this_kinds, .int v_home, .int v_fine, .int v_breath])), (a_this_kinds, .inr (1, [.ref a_this_kinds_all])), (a_this_kinds_all, .inl (cI, 36, .inl g_kinds_all))] s.heap := hP
  have hl := lv_entry ([.ref a_this, .int p1]) (n := 2) (Nat.le_of_ble_eq_true rfl)
  rw [lg_entry_eq]
  generalize (lg_sl ([.ref a_this, .int p1]) ++ List.replicate (2 - (lg_sl ([.ref a_this, .int p1])).length) Slot.unset).toArray = ls at hl ⊢
  have hl : lv_has ls 2 [(0, .ref a_this), (1, .int p1)] := hl
  have he := hf
  unfold f_Town_canBe at he
  refine lv_iload_n hx hb dX6_canBe_0 rfl (lv_at hl 1 rfl) ?_
  obtain ⟨r1, hf2, he⟩ := zb1_e he
  refine zc_i (wr := [(a_this, .inr (6, [.ref a_this_kinds, .int v_home, .int v_fine, .int v_breath])), (a_this_kinds, .inr (1, [.ref a_this_kinds_all])), (a_this_kinds_all, .inl (cI, 36, .inl g_kinds_all))]) (ws' := [(a_this, .inr (6, [.ref a_this_kinds, .int v_home, .int v_fine, .int v_breath])), (a_this_kinds, .inr (1, [.ref a_this_kinds_all])), (a_this_kinds_all, .inl (cI, 36, .inl g_kinds_all))]) (va_runSN (As := [.int p1]) (rest := []) ⟨hx, hb, hml, hown, hts⟩ (k_X_isSquare l dC dI cI cZ tt sd s.heap.size p1 r1 hf2) ⟨va_cnB 1 hts gX6_canBe_X7_isSquare_n38 rfl rfl rfl (zZ_N0 hZ) (hts (.initialized RX7) (by decide +kernel)) (by decide +kernel) ⟨Nat.le_of_ble_eq_true rfl, Nat.le_of_ble_eq_true rfl⟩, hts (.static yX7_isSquare) (by decide +kernel), trivial⟩ (zpS hP hD hK hS hA hZ [] rfl rfl) rfl rfl hl.1 rfl (lv_room (Nat.le_of_ble_eq_true rfl)) dX6_canBe_1 ⟨Nat.zero_le _, Nat.zero_le _⟩) hP hD hS hA [] [0, 1, 2] [0, 1, 2] rfl rfl rfl (by decide) rfl rfl rfl (fun H locs hP hD hS => ?_)
  refine lv_if_eq (tgt := 28) hx hb dX6_canBe_4 (by decide) (fun c3 => ?_) (fun c3 => ?_)
  · have he := zif_t c3 he
    refine lv_iconst (v := (0 : Int32)) hx hb dX6_canBe_28 (by decide) ?_
    obtain ⟨rfl⟩ := zi1 he
    exact W.zret hx hb hr rfl (fun t ht hW => ⟨⟨_, (), rfl, rfl, by rw [ht]; exact hP, va_K.moved hW.alike hK, hD⟩, hS.F ht⟩) hS.2.2 dX6_canBe_29
  · have he := zif_f c3 he
    refine va_getsN hx hb (zZ_Z0 hZ) hS hown (va_Nw.use rfl (zZ_N3 hZ)) (fun _ h9 => h9) dX6_canBe_7 ?_
    refine lv_aload_n hx hb dX6_canBe_10 rfl (lv_at hl 0 rfl) ?_
    refine va_get (D := (dC, dI)) (ci := 6) (v := .ref a_this_kinds) (C := RX6) (T := TX6) (N := 4) hx hb hts (by decide +kernel) hown hK hP 0 rfl rfl 0 (by decide) (hts (.fieldLink RX6 14 "LawOfCorners$Town" "kinds" "LLawOfCorners$Numbers;") (by decide +kernel)) (fun _ h9 => h9) rfl dX6_canBe_11 ?_
    refine lv_iload_n hx hb dX6_canBe_14 rfl (lv_at hl 1 rfl) ?_
    obtain ⟨r4, hf5, he⟩ := zb1_e he
    refine zc_i (wr := [(a_this, .inr (6, [.ref a_this_kinds, .int v_home, .int v_fine, .int v_breath]))]) (ws' := [(a_this, .inr (6, [.ref a_this_kinds, .int v_home, .int v_fine, .int v_breath])), (a_this_kinds, .inr (1, [.ref a_this_kinds_all])), (a_this_kinds_all, .inl (cI, 36, .inl g_kinds_all))]) (va_runV (As := [.int p1]) (rest := [.ref (tt 0)]) ⟨hx, hb, hml, hown, hts⟩ (k_Numbers_at l dC dI cI cZ tt sd a_this_kinds a_this_kinds_all H.size 36 g_kinds_all p1 r4 hf5) (cwV 1 hts gX6_canBe_X1_at rfl rfl rfl (by decide +kernel) ⟨Nat.le_of_ble_eq_true rfl, Nat.le_of_ble_eq_true rfl⟩) (zpV hP hD hK hS hA hZ [1, 2] rfl rfl 1 1 rfl rfl) rfl rfl hl.1 rfl (lv_room (Nat.le_of_ble_eq_true rfl)) dX6_canBe_15 ⟨Nat.zero_le _, Nat.zero_le _⟩) hP hD hS hA [1, 2] [0] [0, 1, 2] rfl rfl rfl (by decide) rfl rfl rfl (fun H locs hP hD hS => ?_)
    obtain ⟨r6, hf7, he⟩ := zb1_e he
    refine zc_i (wr := [(a_this, .inr (6, [.ref a_this_kinds, .int v_home, .int v_fine, .int v_breath])), (a_this_kinds, .inr (1, [.ref a_this_kinds_all])), (a_this_kinds_all, .inl (cI, 36, .inl g_kinds_all))]) (ws' := [(a_this, .inr (6, [.ref a_this_kinds, .int v_home, .int v_fine, .int v_breath])), (a_this_kinds, .inr (1, [.ref a_this_kinds_all])), (a_this_kinds_all, .inl (cI, 36, .inl g_kinds_all))]) (va_runS (As := [.ref (tt 0), .int r4]) (rest := []) ⟨hx, hb, hml, hown, hts⟩ (k_Town_trait l dC dI cI cZ tt sd H.size (tt 0) (fun _ _ _ hZ => (zZ_T0 hZ)) r4 r6 hf7) (va_cwS 2 hts gX6_canBe_X6_trait rfl rfl rfl (by decide +kernel) ⟨Nat.le_of_ble_eq_true rfl, Nat.le_of_ble_eq_true rfl⟩) (zpS hP hD hK hS hA hZ [] rfl rfl) rfl rfl hl.1 rfl (lv_room (Nat.le_of_ble_eq_true rfl)) dX6_canBe_18 ⟨Nat.zero_le _, Nat.zero_le _⟩) hP hD hS hA [] [0, 1, 2] [0, 1, 2] rfl rfl rfl (by decide) rfl rfl rfl (fun H locs hP hD hS => ?_)
    refine lv_if_eq (tgt := 28) hx hb dX6_canBe_21 (by decide) (fun c8 => ?_) (fun c8 => ?_)
    · have he := zif_t c8 he
      refine lv_iconst (v := (0 : Int32)) hx hb dX6_canBe_28 (by decide) ?_
      obtain ⟨rfl⟩ := zi1 he
      exact W.zret hx hb hr rfl (fun t ht hW => ⟨⟨_, (), rfl, rfl, by rw [ht]; exact hP, va_K.moved hW.alike hK, hD⟩, hS.F ht⟩) hS.2.2 dX6_canBe_29
    · have he := zif_f c8 he
      refine lv_iconst (v := (1 : Int32)) hx hb dX6_canBe_24 (by decide) ?_
      refine lv_goto (tgt := 29) hx hb dX6_canBe_25 (by decide) ?_
      obtain ⟨rfl⟩ := zi1 he
      exact W.zret hx hb hr rfl (fun t ht hW => ⟨⟨_, (), rfl, rfl, by rw [ht]; exact hP, va_K.moved hW.alike hK, hD⟩, hS.F ht⟩) hS.2.2 dX6_canBe_29
set_option maxHeartbeats 4000000 in
set_option maxRecDepth 100000 in
theorem k_Town_moveHome (l : Launch) (dC : Nat → ClassId) (dI : Nat → Nat → Nat) (cI : ClassId) (cZ : ClassId) (tt : Nat → Nat) (sd : Nat → Nat) (a_this : Nat) (a_this_kinds : Nat) (a_this_kinds_all : Nat) (sz : Nat) (v_home : Int32) (v_fine : Int32) (v_breath : Int32) (g_kinds_all : Nat → Int32) (p1 : Int32) (r0 : Int32) (w0 : Int32) (hf : f_Town_moveHome v_home g_kinds_all p1 = some (r0, w0)) : Met l yX6_moveHome wsX6_moveHome ({ frames := 2, cells := 0, slots := 0, locals := 42 }) (zPre (dC, dI) vwCl [(cI, .int), (cZ, .boolean)] tt sd [.ref a_this, .int p1] [(a_this, .inr (6, [.ref a_this_kinds, .int v_home, .int v_fine, .int v_breath])), (a_this_kinds, .inr (1, [.ref a_this_kinds_all])), (a_this_kinds_all, .inl (cI, 36, .inl g_kinds_all))] sz) (zQi (dC, dI) vwCl [(cI, .int), (cZ, .boolean)] r0 [(a_this, .inr (6, [.ref a_this_kinds, .int w0, .int v_fine, .int v_breath])), (a_this_kinds, .inr (1, [.ref a_this_kinds_all])), (a_this_kinds_all, .inl (cI, 36, .inl g_kinds_all))] (va_A [(a_this, .inr (6, [.ref a_this_kinds, .int v_home, .int v_fine, .int v_breath])), (a_this_kinds, .inr (1, [.ref a_this_kinds_all])), (a_this_kinds_all, .inl (cI, 36, .inl g_kinds_all))] sz)) 0 0 (va_A [(a_this, .inr (6, [.ref a_this_kinds, .int v_home, .int v_fine, .int v_breath])), (a_this_kinds, .inr (1, [.ref a_this_kinds_all])), (a_this_kinds_all, .inl (cI, 36, .inl g_kinds_all))] sz) := by
  refine Met.ofW (cc := cX6_moveHome) (maxL := 2) (ret := (some .boolean)) (by decide) rfl ?_
  intro p e s m args below meth c s₁ B hml hv
  obtain ⟨rfl, hsz, hP, hK, hD0, hZ⟩ := hv
  have hx := B.exec
  have hb := B.bytes
  have hr := B.returns
  have hts := atoms_spec (ws := wsX6_moveHome) B.pre
  have hown : s.vm.findClass RX6 = some m.cls := findClass_of_methodNamed B.named
  have hlocks := B.notSynchronized
  subst hsz
  have hD := hD0.self (sz := s.heap.size)
  generalize hAe : va_A [(a_this, .inr (6, [.ref a_this_kinds, .int v_home, .int v_fine, .int v_breath])), (a_this_kinds, .inr (1, [.ref a_this_kinds_all])), (a_this_kinds_all, .inl (cI, 36, .inl g_kinds_all))] s.heap.size = A at hD hZ ⊢
  have hA : ∀ q : Nat, s.heap.size ≤ q → A q := fun q h => by rw [← hAe]; exact Or.inr h
  have hS : va_S A s.heap s.heap [] := va_S.rf
  have hP : va_P (dC, dI) vwCl [(a_this, .inr (6, [.ref a_this_kinds, .int v_home, .int v_fine, .int v_breath])), (a_this_kinds, .inr (1, [.ref a_this_kinds_all])), (a_this_kinds_all, .inl (cI, 36, .inl g_kinds_all))] s.heap := hP
  have hl := lv_entry ([.ref a_this, .int p1]) (n := 2) (Nat.le_of_ble_eq_true rfl)
  rw [lg_entry_eq]
  generalize (lg_sl ([.ref a_this, .int p1]) ++ List.replicate (2 - (lg_sl ([.ref a_this, .int p1])).length) Slot.unset).toArray = ls at hl ⊢
  have hl : lv_has ls 2 [(0, .ref a_this), (1, .int p1)] := hl
  have he := hf
  unfold f_Town_moveHome at he
  refine lv_aload_n hx hb dX6_moveHome_0 rfl (lv_at hl 0 rfl) ?_
  refine lv_iload_n hx hb dX6_moveHome_1 rfl (lv_at hl 1 rfl) ?_
  obtain ⟨r1, hf2, he⟩ := zb1_e he
  refine zc_i (wr := []) (ws' := [(a_this, .inr (6, [.ref a_this_kinds, .int v_home, .int v_fine, .int v_breath])), (a_this_kinds, .inr (1, [.ref a_this_kinds_all])), (a_this_kinds_all, .inl (cI, 36, .inl g_kinds_all))]) (va_runV (As := [.int p1]) (rest := []) ⟨hx, hb, hml, hown, hts⟩ (k_Town_canBe l dC dI cI cZ tt sd a_this a_this_kinds a_this_kinds_all s.heap.size v_home v_fine v_breath g_kinds_all p1 r1 hf2) (cwV 1 hts gX6_moveHome_X6_canBe rfl rfl rfl (by decide +kernel) ⟨Nat.le_of_ble_eq_true rfl, Nat.le_of_ble_eq_true rfl⟩) (zpV hP hD hK hS hA hZ [0, 1, 2] rfl rfl 6 0 rfl rfl) rfl rfl hl.1 rfl (lv_room (Nat.le_of_ble_eq_true rfl)) dX6_moveHome_2 ⟨Nat.zero_le _, Nat.zero_le _⟩) hP hD hS hA [0, 1, 2] [] [0, 1, 2] rfl rfl rfl (by decide) rfl rfl rfl (fun H locs hP hD hS => ?_)
  refine lv_if_ne (tgt := 10) hx hb dX6_moveHome_5 (by decide) (fun c3 => ?_) (fun c3 => ?_)
  · have he := zif_f c3 he
    refine lv_aload_n hx hb dX6_moveHome_10 rfl (lv_at hl 0 rfl) ?_
    refine lv_iload_n hx hb dX6_moveHome_11 rfl (lv_at hl 1 rfl) ?_
    refine va_put (D := (dC, dI)) (ci := 6) (v := .int p1) (ty := .int) (C := RX6) (T := TX6) (N := 4) hx hb hts (by decide +kernel) tyX6 tyX6_ok nmX6 hown hK hP hD hS 0 rfl rfl 1 (by decide) (hts (.fieldLink RX6 20 "LawOfCorners$Town" "home" "I") (by decide +kernel)) (fun _ h9 => h9) rfl (by decide +kernel) rfl rfl (Nat.le_of_ble_eq_true rfl) dX6_moveHome_12 (fun H locs hP hD hS => ?_)
    have hP : va_P (dC, dI) vwCl [(a_this, .inr (6, [.ref a_this_kinds, .int p1, .int v_fine, .int v_breath])), (a_this_kinds, .inr (1, [.ref a_this_kinds_all])), (a_this_kinds_all, .inl (cI, 36, .inl g_kinds_all))] H := hP
    have hD : va_D A [(a_this, .inr (6, [.ref a_this_kinds, .int p1, .int v_fine, .int v_breath])), (a_this_kinds, .inr (1, [.ref a_this_kinds_all])), (a_this_kinds_all, .inl (cI, 36, .inl g_kinds_all))] := hD
    refine lv_iconst (v := (1 : Int32)) hx hb dX6_moveHome_15 (by decide) ?_
    obtain ⟨rfl, rfl⟩ := zi2 he
    exact W.zret hx hb hr rfl (fun t ht hW => ⟨⟨_, (), rfl, rfl, by rw [ht]; exact hP, va_K.moved hW.alike hK, hD⟩, hS.F ht⟩) hS.2.2 dX6_moveHome_16
  · have he := zif_t c3 he
    refine lv_iconst (v := (0 : Int32)) hx hb dX6_moveHome_8 (by decide) ?_
    obtain ⟨rfl, rfl⟩ := zi2 he
    exact W.zret hx hb hr rfl (fun t ht hW => ⟨⟨_, (), rfl, rfl, by rw [ht]; exact hP, va_K.moved hW.alike hK, hD⟩, hS.F ht⟩) hS.2.2 dX6_moveHome_9
set_option maxHeartbeats 4000000 in
set_option maxRecDepth 100000 in
theorem k_Town_changeFine (l : Launch) (dC : Nat → ClassId) (dI : Nat → Nat → Nat) (cI : ClassId) (cZ : ClassId) (tt : Nat → Nat) (sd : Nat → Nat) (a_this : Nat) (a_this_kinds : Nat) (sz : Nat) (v_home : Int32) (v_fine : Int32) (v_breath : Int32) (p1 : Int32) (r0 : Int32) (w0 : Int32) (hf : f_Town_changeFine v_fine p1 = some (r0, w0)) : Met l yX6_changeFine wsX6_changeFine ({ frames := 0, cells := 0, slots := 0, locals := 0 }) (zPre (dC, dI) vwCl [(cI, .int), (cZ, .boolean)] tt sd [.ref a_this, .int p1] [(a_this, .inr (6, [.ref a_this_kinds, .int v_home, .int v_fine, .int v_breath]))] sz) (zQi (dC, dI) vwCl [(cI, .int), (cZ, .boolean)] r0 [(a_this, .inr (6, [.ref a_this_kinds, .int v_home, .int w0, .int v_breath]))] (va_A [(a_this, .inr (6, [.ref a_this_kinds, .int v_home, .int v_fine, .int v_breath]))] sz)) 0 0 (va_A [(a_this, .inr (6, [.ref a_this_kinds, .int v_home, .int v_fine, .int v_breath]))] sz) := by
  refine Met.ofW (cc := cX6_changeFine) (maxL := 2) (ret := (some .boolean)) (by decide) rfl ?_
  intro p e s m args below meth c s₁ B hml hv
  obtain ⟨rfl, hsz, hP, hK, hD0, hZ⟩ := hv
  have hx := B.exec
  have hb := B.bytes
  have hr := B.returns
  have hts := atoms_spec (ws := wsX6_changeFine) B.pre
  have hown : s.vm.findClass RX6 = some m.cls := findClass_of_methodNamed B.named
  have hlocks := B.notSynchronized
  subst hsz
  have hD := hD0.self (sz := s.heap.size)
  generalize hAe : va_A [(a_this, .inr (6, [.ref a_this_kinds, .int v_home, .int v_fine, .int v_breath]))] s.heap.size = A at hD hZ ⊢
  have hA : ∀ q : Nat, s.heap.size ≤ q → A q := fun q h => by rw [← hAe]; exact Or.inr h
  have hS : va_S A s.heap s.heap [] := va_S.rf
  have hP : va_P (dC, dI) vwCl [(a_this, .inr (6, [.ref a_this_kinds, .int v_home, .int v_fine, .int v_breath]))] s.heap := hP
  have hl := lv_entry ([.ref a_this, .int p1]) (n := 2) (Nat.le_of_ble_eq_true rfl)
  rw [lg_entry_eq]
  generalize (lg_sl ([.ref a_this, .int p1]) ++ List.replicate (2 - (lg_sl ([.ref a_this, .int p1])).length) Slot.unset).toArray = ls at hl ⊢
  have hl : lv_has ls 2 [(0, .ref a_this), (1, .int p1)] := hl
  have he := hf
  unfold f_Town_changeFine at he
  refine lv_iload_n hx hb dX6_changeFine_0 rfl (lv_at hl 1 rfl) ?_
  refine lv_if_lt (tgt := 10) hx hb dX6_changeFine_1 (by decide) (fun c1 => ?_) (fun c1 => ?_)
  · have he := zif_t c1 he
    refine lv_iconst (v := (0 : Int32)) hx hb dX6_changeFine_10 (by decide) ?_
    obtain ⟨rfl, rfl⟩ := zi2 he
    exact W.zret hx hb hr rfl (fun t ht hW => ⟨⟨_, (), rfl, rfl, by rw [ht]; exact hP, va_K.moved hW.alike hK, hD⟩, hS.F ht⟩) hS.2.2 dX6_changeFine_11
  · have he := zif_f c1 he
    refine lv_iload_n hx hb dX6_changeFine_4 rfl (lv_at hl 1 rfl) ?_
    refine lv_bipush (v := (9 : Int32)) hx hb dX6_changeFine_5 (by decide) ?_
    refine lv_icmp_le (tgt := 12) hx hb dX6_changeFine_7 (by decide) (fun c2 => ?_) (fun c2 => ?_)
    · have he := zif_t c2 he
      refine lv_aload_n hx hb dX6_changeFine_12 rfl (lv_at hl 0 rfl) ?_
      refine lv_iload_n hx hb dX6_changeFine_13 rfl (lv_at hl 1 rfl) ?_
      refine va_put (D := (dC, dI)) (ci := 6) (v := .int p1) (ty := .int) (C := RX6) (T := TX6) (N := 4) hx hb hts (by decide +kernel) tyX6 tyX6_ok nmX6 hown hK hP hD hS 0 rfl rfl 2 (by decide) (hts (.fieldLink RX6 24 "LawOfCorners$Town" "fine" "I") (by decide +kernel)) (fun _ h9 => h9) rfl (by decide +kernel) rfl rfl (Nat.le_of_ble_eq_true rfl) dX6_changeFine_14 (fun H locs hP hD hS => ?_)
      have hP : va_P (dC, dI) vwCl [(a_this, .inr (6, [.ref a_this_kinds, .int v_home, .int p1, .int v_breath]))] H := hP
      have hD : va_D A [(a_this, .inr (6, [.ref a_this_kinds, .int v_home, .int p1, .int v_breath]))] := hD
      refine lv_iconst (v := (1 : Int32)) hx hb dX6_changeFine_17 (by decide) ?_
      obtain ⟨rfl, rfl⟩ := zi2 he
      exact W.zret hx hb hr rfl (fun t ht hW => ⟨⟨_, (), rfl, rfl, by rw [ht]; exact hP, va_K.moved hW.alike hK, hD⟩, hS.F ht⟩) hS.2.2 dX6_changeFine_18
    · have he := zif_f c2 he
      refine lv_iconst (v := (0 : Int32)) hx hb dX6_changeFine_10 (by decide) ?_
      obtain ⟨rfl, rfl⟩ := zi2 he
      exact W.zret hx hb hr rfl (fun t ht hW => ⟨⟨_, (), rfl, rfl, by rw [ht]; exact hP, va_K.moved hW.alike hK, hD⟩, hS.F ht⟩) hS.2.2 dX6_changeFine_11
set_option maxHeartbeats 4000000 in
set_option maxRecDepth 100000 in
theorem k_Town_changeBreath (l : Launch) (dC : Nat → ClassId) (dI : Nat → Nat → Nat) (cI : ClassId) (cZ : ClassId) (tt : Nat → Nat) (sd : Nat → Nat) (a_this : Nat) (a_this_kinds : Nat) (sz : Nat) (v_home : Int32) (v_fine : Int32) (v_breath : Int32) (p1 : Int32) (r0 : Int32) (w0 : Int32) (hf : f_Town_changeBreath v_breath p1 = some (r0, w0)) : Met l yX6_changeBreath wsX6_changeBreath ({ frames := 0, cells := 0, slots := 0, locals := 0 }) (zPre (dC, dI) vwCl [(cI, .int), (cZ, .boolean)] tt sd [.ref a_this, .int p1] [(a_this, .inr (6, [.ref a_this_kinds, .int v_home, .int v_fine, .int v_breath]))] sz) (zQi (dC, dI) vwCl [(cI, .int), (cZ, .boolean)] r0 [(a_this, .inr (6, [.ref a_this_kinds, .int v_home, .int v_fine, .int w0]))] (va_A [(a_this, .inr (6, [.ref a_this_kinds, .int v_home, .int v_fine, .int v_breath]))] sz)) 0 0 (va_A [(a_this, .inr (6, [.ref a_this_kinds, .int v_home, .int v_fine, .int v_breath]))] sz) := by
  refine Met.ofW (cc := cX6_changeBreath) (maxL := 2) (ret := (some .boolean)) (by decide) rfl ?_
  intro p e s m args below meth c s₁ B hml hv
  obtain ⟨rfl, hsz, hP, hK, hD0, hZ⟩ := hv
  have hx := B.exec
  have hb := B.bytes
  have hr := B.returns
  have hts := atoms_spec (ws := wsX6_changeBreath) B.pre
  have hown : s.vm.findClass RX6 = some m.cls := findClass_of_methodNamed B.named
  have hlocks := B.notSynchronized
  subst hsz
  have hD := hD0.self (sz := s.heap.size)
  generalize hAe : va_A [(a_this, .inr (6, [.ref a_this_kinds, .int v_home, .int v_fine, .int v_breath]))] s.heap.size = A at hD hZ ⊢
  have hA : ∀ q : Nat, s.heap.size ≤ q → A q := fun q h => by rw [← hAe]; exact Or.inr h
  have hS : va_S A s.heap s.heap [] := va_S.rf
  have hP : va_P (dC, dI) vwCl [(a_this, .inr (6, [.ref a_this_kinds, .int v_home, .int v_fine, .int v_breath]))] s.heap := hP
  have hl := lv_entry ([.ref a_this, .int p1]) (n := 2) (Nat.le_of_ble_eq_true rfl)
  rw [lg_entry_eq]
  generalize (lg_sl ([.ref a_this, .int p1]) ++ List.replicate (2 - (lg_sl ([.ref a_this, .int p1])).length) Slot.unset).toArray = ls at hl ⊢
  have hl : lv_has ls 2 [(0, .ref a_this), (1, .int p1)] := hl
  have he := hf
  unfold f_Town_changeBreath at he
  refine lv_iload_n hx hb dX6_changeBreath_0 rfl (lv_at hl 1 rfl) ?_
  refine lv_iconst (v := (1 : Int32)) hx hb dX6_changeBreath_1 (by decide) ?_
  refine lv_icmp_lt (tgt := 11) hx hb dX6_changeBreath_2 (by decide) (fun c1 => ?_) (fun c1 => ?_)
  · have he := zif_t c1 he
    refine lv_iconst (v := (0 : Int32)) hx hb dX6_changeBreath_11 (by decide) ?_
    obtain ⟨rfl, rfl⟩ := zi2 he
    exact W.zret hx hb hr rfl (fun t ht hW => ⟨⟨_, (), rfl, rfl, by rw [ht]; exact hP, va_K.moved hW.alike hK, hD⟩, hS.F ht⟩) hS.2.2 dX6_changeBreath_12
  · have he := zif_f c1 he
    refine lv_iload_n hx hb dX6_changeBreath_5 rfl (lv_at hl 1 rfl) ?_
    refine lv_bipush (v := (9 : Int32)) hx hb dX6_changeBreath_6 (by decide) ?_
    refine lv_icmp_le (tgt := 13) hx hb dX6_changeBreath_8 (by decide) (fun c2 => ?_) (fun c2 => ?_)
    · have he := zif_t c2 he
      refine lv_aload_n hx hb dX6_changeBreath_13 rfl (lv_at hl 0 rfl) ?_
      refine lv_iload_n hx hb dX6_changeBreath_14 rfl (lv_at hl 1 rfl) ?_
      refine va_put (D := (dC, dI)) (ci := 6) (v := .int p1) (ty := .int) (C := RX6) (T := TX6) (N := 4) hx hb hts (by decide +kernel) tyX6 tyX6_ok nmX6 hown hK hP hD hS 0 rfl rfl 3 (by decide) (hts (.fieldLink RX6 27 "LawOfCorners$Town" "breath" "I") (by decide +kernel)) (fun _ h9 => h9) rfl (by decide +kernel) rfl rfl (Nat.le_of_ble_eq_true rfl) dX6_changeBreath_15 (fun H locs hP hD hS => ?_)
      have hP : va_P (dC, dI) vwCl [(a_this, .inr (6, [.ref a_this_kinds, .int v_home, .int v_fine, .int p1]))] H := hP
      have hD : va_D A [(a_this, .inr (6, [.ref a_this_kinds, .int v_home, .int v_fine, .int p1]))] := hD
      refine lv_iconst (v := (1 : Int32)) hx hb dX6_changeBreath_18 (by decide) ?_
      obtain ⟨rfl, rfl⟩ := zi2 he
      exact W.zret hx hb hr rfl (fun t ht hW => ⟨⟨_, (), rfl, rfl, by rw [ht]; exact hP, va_K.moved hW.alike hK, hD⟩, hS.F ht⟩) hS.2.2 dX6_changeBreath_19
    · have he := zif_f c2 he
      refine lv_iconst (v := (0 : Int32)) hx hb dX6_changeBreath_11 (by decide) ?_
      obtain ⟨rfl, rfl⟩ := zi2 he
      exact W.zret hx hb hr rfl (fun t ht hW => ⟨⟨_, (), rfl, rfl, by rw [ht]; exact hP, va_K.moved hW.alike hK, hD⟩, hS.F ht⟩) hS.2.2 dX6_changeBreath_12
set_option maxHeartbeats 4000000 in
set_option maxRecDepth 100000 in
theorem k_Letters_obey (l : Launch) (dC : Nat → ClassId) (dI : Nat → Nat → Nat) (cI : ClassId) (cZ : ClassId) (tt : Nat → Nat) (sd : Nat → Nat) (a_p1 : Nat) (a_p1_kinds : Nat) (a_p1_kinds_all : Nat) (a_this : Nat) (a_this_all : Nat) (a_this_all_all : Nat) (sz : Nat) (v_p1_home : Int32) (v_p1_fine : Int32) (v_p1_breath : Int32) (g_p1_kinds_all : Nat → Int32) (v_count : Int32) (g_all_all : Nat → Int32) (p2 : Int32) (r0 : Int32) (w0 : Int32) (w1 : Int32) (w2 : Int32) (w3 : Nat → Int32) (hf : f_Letters_obey v_p1_breath v_p1_fine v_p1_home g_p1_kinds_all g_all_all p2 = some (r0, w0, w1, w2, w3)) : Met l yX0_obey wsX0_obey ({ frames := 5, cells := 0, slots := 0, locals := 119 }) (zPre (dC, dI) vwCl [(cI, .int), (cZ, .boolean)] tt sd [.ref a_this, .ref a_p1, .int p2] [(a_p1, .inr (6, [.ref a_p1_kinds, .int v_p1_home, .int v_p1_fine, .int v_p1_breath])), (a_p1_kinds, .inr (1, [.ref a_p1_kinds_all])), (a_p1_kinds_all, .inl (cI, 36, .inl g_p1_kinds_all)), (a_this, .inr (0, [.ref a_this_all, .int v_count])), (a_this_all, .inr (1, [.ref a_this_all_all])), (a_this_all_all, .inl (cI, 96, .inl g_all_all))] sz) (zQi (dC, dI) vwCl [(cI, .int), (cZ, .boolean)] r0 [(a_p1, .inr (6, [.ref a_p1_kinds, .int w2, .int w1, .int w0])), (a_p1_kinds, .inr (1, [.ref a_p1_kinds_all])), (a_p1_kinds_all, .inl (cI, 36, .inl w3)), (a_this, .inr (0, [.ref a_this_all, .int v_count])), (a_this_all, .inr (1, [.ref a_this_all_all])), (a_this_all_all, .inl (cI, 96, .inl g_all_all))] (va_A [(a_p1, .inr (6, [.ref a_p1_kinds, .int v_p1_home, .int v_p1_fine, .int v_p1_breath])), (a_p1_kinds, .inr (1, [.ref a_p1_kinds_all])), (a_p1_kinds_all, .inl (cI, 36, .inl g_p1_kinds_all)), (a_this, .inr (0, [.ref a_this_all, .int v_count])), (a_this_all, .inr (1, [.ref a_this_all_all])), (a_this_all_all, .inl (cI, 96, .inl g_all_all))] sz)) 0 0 (va_A [(a_p1, .inr (6, [.ref a_p1_kinds, .int v_p1_home, .int v_p1_fine, .int v_p1_breath])), (a_p1_kinds, .inr (1, [.ref a_p1_kinds_all])), (a_p1_kinds_all, .inl (cI, 36, .inl g_p1_kinds_all)), (a_this, .inr (0, [.ref a_this_all, .int v_count])), (a_this_all, .inr (1, [.ref a_this_all_all])), (a_this_all_all, .inl (cI, 96, .inl g_all_all))] sz) := by
  refine Met.ofW (cc := cX0_obey) (maxL := 3) (ret := (some .boolean)) (by decide) rfl ?_
  intro p e s m args below meth c s₁ B hml hv
  obtain ⟨rfl, hsz, hP, hK, hD0, hZ⟩ := hv
  have hx := B.exec
  have hb := B.bytes
  have hr := B.returns
  have hts := atoms_spec (ws := wsX0_obey) B.pre
  have hown : s.vm.findClass RX0 = some m.cls := findClass_of_methodNamed B.named
  have hlocks := B.notSynchronized
  subst hsz
  have hD := hD0.self (sz := s.heap.size)
  generalize hAe : va_A [(a_p1, .inr (6, [.ref a_p1_kinds, .int v_p1_home, .int v_p1_fine, .int v_p1_breath])), (a_p1_kinds, .inr (1, [.ref a_p1_kinds_all])), (a_p1_kinds_all, .inl (cI, 36, .inl g_p1_kinds_all)), (a_this, .inr (0, [.ref a_this_all, .int v_count])), (a_this_all, .inr (1, [.ref a_this_all_all])), (a_this_all_all, .inl (cI, 96, .inl g_all_all))] s.heap.size = A at hD hZ ⊢
  have hA : ∀ q : Nat, s.heap.size ≤ q → A q := fun q h => by rw [← hAe]; exact Or.inr h
  have hS : va_S A s.heap s.heap [] := va_S.rf
  have hP : va_P (dC, dI) vwCl [(a_p1, .inr (6, [.ref a_p1_kinds, .int v_p1_home, .int v_p1_fine, .int v_p1_breath])), (a_p1_kinds, .inr (1, [.ref a_p1_kinds_all])), (a_p1_kinds_all, .inl (cI, 36, .inl g_p1_kinds_all)), (a_this, .inr (0, [.ref a_this_all, .int v_count])), (a_this_all, .inr (1, [.ref a_this_all_all])), (a_this_all_all, .inl (cI, 96, .inl g_all_all))] s.heap := hP
  have hl := lv_entry ([.ref a_this, .ref a_p1, .int p2]) (n := 3) (Nat.le_of_ble_eq_true rfl)
  rw [lg_entry_eq]
  generalize (lg_sl ([.ref a_this, .ref a_p1, .int p2]) ++ List.replicate (3 - (lg_sl ([.ref a_this, .ref a_p1, .int p2])).length) Slot.unset).toArray = ls at hl ⊢
  have hl : lv_has ls 3 [(0, .ref a_this), (1, .ref a_p1), (2, .int p2)] := hl
  have he := hf
  unfold f_Letters_obey at he
  refine lv_aload_n hx hb dX0_obey_0 rfl (lv_at hl 0 rfl) ?_
  refine va_get (D := (dC, dI)) (ci := 0) (v := .ref a_this_all) (C := RX0) (T := TX0) (N := 2) hx hb hts (by decide +kernel) hown hK hP 3 rfl rfl 0 (by decide) (hts (.fieldLink RX0 14 "LawOfCorners$Letters" "all" "LLawOfCorners$Numbers;") (by decide +kernel)) (fun _ h9 => h9) rfl dX0_obey_1 ?_
  refine lv_iload_n hx hb dX0_obey_4 rfl (lv_at hl 2 rfl) ?_
  obtain ⟨r1, hf2, he⟩ := zb1_e he
  refine zc_i (wr := [(a_p1, .inr (6, [.ref a_p1_kinds, .int v_p1_home, .int v_p1_fine, .int v_p1_breath])), (a_p1_kinds, .inr (1, [.ref a_p1_kinds_all])), (a_p1_kinds_all, .inl (cI, 36, .inl g_p1_kinds_all)), (a_this, .inr (0, [.ref a_this_all, .int v_count]))]) (ws' := [(a_p1, .inr (6, [.ref a_p1_kinds, .int v_p1_home, .int v_p1_fine, .int v_p1_breath])), (a_p1_kinds, .inr (1, [.ref a_p1_kinds_all])), (a_p1_kinds_all, .inl (cI, 36, .inl g_p1_kinds_all)), (a_this, .inr (0, [.ref a_this_all, .int v_count])), (a_this_all, .inr (1, [.ref a_this_all_all])), (a_this_all_all, .inl (cI, 96, .inl g_all_all))]) (va_runV (As := [.int p2]) (rest := []) ⟨hx, hb, hml, hown, hts⟩ (k_Numbers_at l dC dI cI cZ tt sd a_this_all a_this_all_all s.heap.size 96 g_all_all p2 r1 hf2) (cwV 1 hts gX0_obey_X1_at rfl rfl rfl (by decide +kernel) ⟨Nat.le_of_ble_eq_true rfl, Nat.le_of_ble_eq_true rfl⟩) (zpV hP hD hK hS hA hZ [4, 5] rfl rfl 1 4 rfl rfl) rfl rfl hl.1 rfl (lv_room (Nat.le_of_ble_eq_true rfl)) dX0_obey_5 ⟨Nat.zero_le _, Nat.zero_le _⟩) hP hD hS hA [4, 5] [0, 1, 2, 3] [0, 1, 2, 3, 4, 5] rfl rfl rfl (by decide) rfl rfl rfl (fun H locs hP hD hS => ?_)
  by_cases c3 : r1 = (98 : Int32)
  · have he := zif_t c3 he
    refine lv_lookup (off := 128) (tgt := 136) hx hb dX0_obey_8 (by decide) (by rw [c3]; rfl) (by decide) ?_
    refine lv_aload_n hx hb dX0_obey_136 rfl (lv_at hl 1 rfl) ?_
    refine lv_aload_n hx hb dX0_obey_137 rfl (lv_at hl 0 rfl) ?_
    refine lv_iload_n hx hb dX0_obey_138 rfl (lv_at hl 2 rfl) ?_
    refine lv_iconst (v := (1 : Int32)) hx hb dX0_obey_139 (by decide) ?_
    refine lv_iadd hx hb dX0_obey_140 ?_
    obtain ⟨r4, hf5, he⟩ := zb1_e he
    refine zc_i (wr := [(a_p1, .inr (6, [.ref a_p1_kinds, .int v_p1_home, .int v_p1_fine, .int v_p1_breath])), (a_p1_kinds, .inr (1, [.ref a_p1_kinds_all])), (a_p1_kinds_all, .inl (cI, 36, .inl g_p1_kinds_all))]) (ws' := [(a_p1, .inr (6, [.ref a_p1_kinds, .int v_p1_home, .int v_p1_fine, .int v_p1_breath])), (a_p1_kinds, .inr (1, [.ref a_p1_kinds_all])), (a_p1_kinds_all, .inl (cI, 36, .inl g_p1_kinds_all)), (a_this, .inr (0, [.ref a_this_all, .int v_count])), (a_this_all, .inr (1, [.ref a_this_all_all])), (a_this_all_all, .inl (cI, 96, .inl g_all_all))]) (va_runV (As := [.int (p2 + (1 : Int32))]) (rest := [.ref a_p1]) ⟨hx, hb, hml, hown, hts⟩ (k_Letters_digitAt l dC dI cI cZ tt sd a_this a_this_all a_this_all_all H.size v_count g_all_all (p2 + (1 : Int32)) r4 hf5) (cwV 1 hts gX0_obey_X0_digitAt rfl rfl rfl (by decide +kernel) ⟨Nat.le_of_ble_eq_true rfl, Nat.le_of_ble_eq_true rfl⟩) (zpV hP hD hK hS hA hZ [3, 4, 5] rfl rfl 0 3 rfl rfl) rfl rfl hl.1 rfl (lv_room (Nat.le_of_ble_eq_true rfl)) dX0_obey_141 ⟨Nat.zero_le _, Nat.zero_le _⟩) hP hD hS hA [3, 4, 5] [0, 1, 2] [0, 1, 2, 3, 4, 5] rfl rfl rfl (by decide) rfl rfl rfl (fun H locs hP hD hS => ?_)
    obtain ⟨r6, v_p1_breath_7, hf8, he⟩ := zb2_e he
    refine zc_i (wr := [(a_p1_kinds, .inr (1, [.ref a_p1_kinds_all])), (a_p1_kinds_all, .inl (cI, 36, .inl g_p1_kinds_all)), (a_this, .inr (0, [.ref a_this_all, .int v_count])), (a_this_all, .inr (1, [.ref a_this_all_all])), (a_this_all_all, .inl (cI, 96, .inl g_all_all))]) (ws' := [(a_p1, .inr (6, [.ref a_p1_kinds, .int v_p1_home, .int v_p1_fine, .int v_p1_breath_7])), (a_p1_kinds, .inr (1, [.ref a_p1_kinds_all])), (a_p1_kinds_all, .inl (cI, 36, .inl g_p1_kinds_all)), (a_this, .inr (0, [.ref a_this_all, .int v_count])), (a_this_all, .inr (1, [.ref a_this_all_all])), (a_this_all_all, .inl (cI, 96, .inl g_all_all))]) (va_runV (As := [.int r4]) (rest := []) ⟨hx, hb, hml, hown, hts⟩ (k_Town_changeBreath l dC dI cI cZ tt sd a_p1 a_p1_kinds H.size v_p1_home v_p1_fine v_p1_breath r4 r6 v_p1_breath_7 hf8) (cwV 1 hts gX0_obey_X6_changeBreath rfl rfl rfl (by decide +kernel) ⟨Nat.le_of_ble_eq_true rfl, Nat.le_of_ble_eq_true rfl⟩) (zpV hP hD hK hS hA hZ [0] rfl rfl 6 0 rfl rfl) rfl rfl hl.1 rfl (lv_room (Nat.le_of_ble_eq_true rfl)) dX0_obey_144 ⟨Nat.zero_le _, Nat.zero_le _⟩) hP hD hS hA [0] [1, 2, 3, 4, 5] [5, 0, 1, 2, 3, 4] rfl rfl rfl (by decide) rfl rfl rfl (fun H locs hP hD hS => ?_)
    obtain ⟨hg9, he⟩ := zg_e he
    obtain ⟨rfl, rfl, rfl, rfl, rfl⟩ := zi5 he
    exact W.zret hx hb hr (zbool_n hg9) (fun t ht hW => ⟨⟨_, (), rfl, rfl, by rw [ht]; exact hP, va_K.moved hW.alike hK, hD⟩, hS.F ht⟩) hS.2.2 dX0_obey_147
  have he := zif_f c3 he
  by_cases c10 : r1 = (102 : Int32)
  · have he := zif_t c10 he
    refine lv_lookup (off := 116) (tgt := 124) hx hb dX0_obey_8 (by decide) (by rw [c10]; rfl) (by decide) ?_
    refine lv_aload_n hx hb dX0_obey_124 rfl (lv_at hl 1 rfl) ?_
    refine lv_aload_n hx hb dX0_obey_125 rfl (lv_at hl 0 rfl) ?_
    refine lv_iload_n hx hb dX0_obey_126 rfl (lv_at hl 2 rfl) ?_
    refine lv_iconst (v := (1 : Int32)) hx hb dX0_obey_127 (by decide) ?_
    refine lv_iadd hx hb dX0_obey_128 ?_
    obtain ⟨r11, hf12, he⟩ := zb1_e he
    refine zc_i (wr := [(a_p1, .inr (6, [.ref a_p1_kinds, .int v_p1_home, .int v_p1_fine, .int v_p1_breath])), (a_p1_kinds, .inr (1, [.ref a_p1_kinds_all])), (a_p1_kinds_all, .inl (cI, 36, .inl g_p1_kinds_all))]) (ws' := [(a_p1, .inr (6, [.ref a_p1_kinds, .int v_p1_home, .int v_p1_fine, .int v_p1_breath])), (a_p1_kinds, .inr (1, [.ref a_p1_kinds_all])), (a_p1_kinds_all, .inl (cI, 36, .inl g_p1_kinds_all)), (a_this, .inr (0, [.ref a_this_all, .int v_count])), (a_this_all, .inr (1, [.ref a_this_all_all])), (a_this_all_all, .inl (cI, 96, .inl g_all_all))]) (va_runV (As := [.int (p2 + (1 : Int32))]) (rest := [.ref a_p1]) ⟨hx, hb, hml, hown, hts⟩ (k_Letters_digitAt l dC dI cI cZ tt sd a_this a_this_all a_this_all_all H.size v_count g_all_all (p2 + (1 : Int32)) r11 hf12) (cwV 1 hts gX0_obey_X0_digitAt rfl rfl rfl (by decide +kernel) ⟨Nat.le_of_ble_eq_true rfl, Nat.le_of_ble_eq_true rfl⟩) (zpV hP hD hK hS hA hZ [3, 4, 5] rfl rfl 0 3 rfl rfl) rfl rfl hl.1 rfl (lv_room (Nat.le_of_ble_eq_true rfl)) dX0_obey_129 ⟨Nat.zero_le _, Nat.zero_le _⟩) hP hD hS hA [3, 4, 5] [0, 1, 2] [0, 1, 2, 3, 4, 5] rfl rfl rfl (by decide) rfl rfl rfl (fun H locs hP hD hS => ?_)
    obtain ⟨r13, v_p1_fine_14, hf15, he⟩ := zb2_e he
    refine zc_i (wr := [(a_p1_kinds, .inr (1, [.ref a_p1_kinds_all])), (a_p1_kinds_all, .inl (cI, 36, .inl g_p1_kinds_all)), (a_this, .inr (0, [.ref a_this_all, .int v_count])), (a_this_all, .inr (1, [.ref a_this_all_all])), (a_this_all_all, .inl (cI, 96, .inl g_all_all))]) (ws' := [(a_p1, .inr (6, [.ref a_p1_kinds, .int v_p1_home, .int v_p1_fine_14, .int v_p1_breath])), (a_p1_kinds, .inr (1, [.ref a_p1_kinds_all])), (a_p1_kinds_all, .inl (cI, 36, .inl g_p1_kinds_all)), (a_this, .inr (0, [.ref a_this_all, .int v_count])), (a_this_all, .inr (1, [.ref a_this_all_all])), (a_this_all_all, .inl (cI, 96, .inl g_all_all))]) (va_runV (As := [.int r11]) (rest := []) ⟨hx, hb, hml, hown, hts⟩ (k_Town_changeFine l dC dI cI cZ tt sd a_p1 a_p1_kinds H.size v_p1_home v_p1_fine v_p1_breath r11 r13 v_p1_fine_14 hf15) (cwV 1 hts gX0_obey_X6_changeFine rfl rfl rfl (by decide +kernel) ⟨Nat.le_of_ble_eq_true rfl, Nat.le_of_ble_eq_true rfl⟩) (zpV hP hD hK hS hA hZ [0] rfl rfl 6 0 rfl rfl) rfl rfl hl.1 rfl (lv_room (Nat.le_of_ble_eq_true rfl)) dX0_obey_132 ⟨Nat.zero_le _, Nat.zero_le _⟩) hP hD hS hA [0] [1, 2, 3, 4, 5] [5, 0, 1, 2, 3, 4] rfl rfl rfl (by decide) rfl rfl rfl (fun H locs hP hD hS => ?_)
    obtain ⟨hg16, he⟩ := zg_e he
    obtain ⟨rfl, rfl, rfl, rfl, rfl⟩ := zi5 he
    exact W.zret hx hb hr (zbool_n hg16) (fun t ht hW => ⟨⟨_, (), rfl, rfl, by rw [ht]; exact hP, va_K.moved hW.alike hK, hD⟩, hS.F ht⟩) hS.2.2 dX0_obey_135
  have he := zif_f c10 he
  by_cases c17 : r1 = (104 : Int32)
  · have he := zif_t c17 he
    refine lv_lookup (off := 104) (tgt := 112) hx hb dX0_obey_8 (by decide) (by rw [c17]; rfl) (by decide) ?_
    refine lv_aload_n hx hb dX0_obey_112 rfl (lv_at hl 1 rfl) ?_
    refine lv_aload_n hx hb dX0_obey_113 rfl (lv_at hl 0 rfl) ?_
    refine lv_iload_n hx hb dX0_obey_114 rfl (lv_at hl 2 rfl) ?_
    refine lv_iconst (v := (1 : Int32)) hx hb dX0_obey_115 (by decide) ?_
    refine lv_iadd hx hb dX0_obey_116 ?_
    obtain ⟨r18, hf19, he⟩ := zb1_e he
    refine zc_i (wr := [(a_p1, .inr (6, [.ref a_p1_kinds, .int v_p1_home, .int v_p1_fine, .int v_p1_breath])), (a_p1_kinds, .inr (1, [.ref a_p1_kinds_all])), (a_p1_kinds_all, .inl (cI, 36, .inl g_p1_kinds_all))]) (ws' := [(a_p1, .inr (6, [.ref a_p1_kinds, .int v_p1_home, .int v_p1_fine, .int v_p1_breath])), (a_p1_kinds, .inr (1, [.ref a_p1_kinds_all])), (a_p1_kinds_all, .inl (cI, 36, .inl g_p1_kinds_all)), (a_this, .inr (0, [.ref a_this_all, .int v_count])), (a_this_all, .inr (1, [.ref a_this_all_all])), (a_this_all_all, .inl (cI, 96, .inl g_all_all))]) (va_runV (As := [.int (p2 + (1 : Int32))]) (rest := [.ref a_p1]) ⟨hx, hb, hml, hown, hts⟩ (k_Letters_squareAt l dC dI cI cZ tt sd a_this a_this_all a_this_all_all H.size v_count g_all_all (p2 + (1 : Int32)) r18 hf19) (cwV 1 hts gX0_obey_X0_squareAt rfl rfl rfl (by decide +kernel) ⟨Nat.le_of_ble_eq_true rfl, Nat.le_of_ble_eq_true rfl⟩) (zpV hP hD hK hS hA hZ [3, 4, 5] rfl rfl 0 3 rfl rfl) rfl rfl hl.1 rfl (lv_room (Nat.le_of_ble_eq_true rfl)) dX0_obey_117 ⟨Nat.zero_le _, Nat.zero_le _⟩) hP hD hS hA [3, 4, 5] [0, 1, 2] [0, 1, 2, 3, 4, 5] rfl rfl rfl (by decide) rfl rfl rfl (fun H locs hP hD hS => ?_)
    obtain ⟨r20, v_p1_home_21, hf22, he⟩ := zb2_e he
    refine zc_i (wr := [(a_this, .inr (0, [.ref a_this_all, .int v_count])), (a_this_all, .inr (1, [.ref a_this_all_all])), (a_this_all_all, .inl (cI, 96, .inl g_all_all))]) (ws' := [(a_p1, .inr (6, [.ref a_p1_kinds, .int v_p1_home_21, .int v_p1_fine, .int v_p1_breath])), (a_p1_kinds, .inr (1, [.ref a_p1_kinds_all])), (a_p1_kinds_all, .inl (cI, 36, .inl g_p1_kinds_all)), (a_this, .inr (0, [.ref a_this_all, .int v_count])), (a_this_all, .inr (1, [.ref a_this_all_all])), (a_this_all_all, .inl (cI, 96, .inl g_all_all))]) (va_runV (As := [.int r18]) (rest := []) ⟨hx, hb, hml, hown, hts⟩ (k_Town_moveHome l dC dI cI cZ tt sd a_p1 a_p1_kinds a_p1_kinds_all H.size v_p1_home v_p1_fine v_p1_breath g_p1_kinds_all r18 r20 v_p1_home_21 hf22) (cwV 1 hts gX0_obey_X6_moveHome rfl rfl rfl (by decide +kernel) ⟨Nat.le_of_ble_eq_true rfl, Nat.le_of_ble_eq_true rfl⟩) (zpV hP hD hK hS hA hZ [0, 1, 2] rfl rfl 6 0 rfl rfl) rfl rfl hl.1 rfl (lv_room (Nat.le_of_ble_eq_true rfl)) dX0_obey_120 ⟨Nat.zero_le _, Nat.zero_le _⟩) hP hD hS hA [0, 1, 2] [3, 4, 5] [3, 4, 5, 0, 1, 2] rfl rfl rfl (by decide) rfl rfl rfl (fun H locs hP hD hS => ?_)
    obtain ⟨hg23, he⟩ := zg_e he
    obtain ⟨rfl, rfl, rfl, rfl, rfl⟩ := zi5 he
    exact W.zret hx hb hr (zbool_n hg23) (fun t ht hW => ⟨⟨_, (), rfl, rfl, by rw [ht]; exact hP, va_K.moved hW.alike hK, hD⟩, hS.F ht⟩) hS.2.2 dX0_obey_123
  have he := zif_f c17 he
  by_cases c24 : r1 = (107 : Int32)
  · have he := zif_t c24 he
    refine lv_lookup (off := 52) (tgt := 60) hx hb dX0_obey_8 (by decide) (by rw [c24]; rfl) (by decide) ?_
    refine lv_aload_n hx hb dX0_obey_60 rfl (lv_at hl 1 rfl) ?_
    refine lv_aload_n hx hb dX0_obey_61 rfl (lv_at hl 0 rfl) ?_
    refine lv_iload_n hx hb dX0_obey_62 rfl (lv_at hl 2 rfl) ?_
    refine lv_iconst (v := (2 : Int32)) hx hb dX0_obey_63 (by decide) ?_
    refine lv_iadd hx hb dX0_obey_64 ?_
    obtain ⟨r25, hf26, he⟩ := zb1_e he
    refine zc_i (wr := [(a_p1, .inr (6, [.ref a_p1_kinds, .int v_p1_home, .int v_p1_fine, .int v_p1_breath])), (a_p1_kinds, .inr (1, [.ref a_p1_kinds_all])), (a_p1_kinds_all, .inl (cI, 36, .inl g_p1_kinds_all))]) (ws' := [(a_p1, .inr (6, [.ref a_p1_kinds, .int v_p1_home, .int v_p1_fine, .int v_p1_breath])), (a_p1_kinds, .inr (1, [.ref a_p1_kinds_all])), (a_p1_kinds_all, .inl (cI, 36, .inl g_p1_kinds_all)), (a_this, .inr (0, [.ref a_this_all, .int v_count])), (a_this_all, .inr (1, [.ref a_this_all_all])), (a_this_all_all, .inl (cI, 96, .inl g_all_all))]) (va_runV (As := [.int (p2 + (2 : Int32))]) (rest := [.ref a_p1]) ⟨hx, hb, hml, hown, hts⟩ (k_Letters_squareAt l dC dI cI cZ tt sd a_this a_this_all a_this_all_all H.size v_count g_all_all (p2 + (2 : Int32)) r25 hf26) (cwV 1 hts gX0_obey_X0_squareAt rfl rfl rfl (by decide +kernel) ⟨Nat.le_of_ble_eq_true rfl, Nat.le_of_ble_eq_true rfl⟩) (zpV hP hD hK hS hA hZ [3, 4, 5] rfl rfl 0 3 rfl rfl) rfl rfl hl.1 rfl (lv_room (Nat.le_of_ble_eq_true rfl)) dX0_obey_65 ⟨Nat.zero_le _, Nat.zero_le _⟩) hP hD hS hA [3, 4, 5] [0, 1, 2] [0, 1, 2, 3, 4, 5] rfl rfl rfl (by decide) rfl rfl rfl (fun H locs hP hD hS => ?_)
    refine lv_aload_n hx hb dX0_obey_68 rfl (lv_at hl 0 rfl) ?_
    refine lv_iload_n hx hb dX0_obey_69 rfl (lv_at hl 2 rfl) ?_
    refine lv_iconst (v := (2 : Int32)) hx hb dX0_obey_70 (by decide) ?_
    refine lv_iadd hx hb dX0_obey_71 ?_
    obtain ⟨r27, hf28, he⟩ := zb1_e he
    refine zc_i (wr := [(a_p1, .inr (6, [.ref a_p1_kinds, .int v_p1_home, .int v_p1_fine, .int v_p1_breath])), (a_p1_kinds, .inr (1, [.ref a_p1_kinds_all])), (a_p1_kinds_all, .inl (cI, 36, .inl g_p1_kinds_all))]) (ws' := [(a_p1, .inr (6, [.ref a_p1_kinds, .int v_p1_home, .int v_p1_fine, .int v_p1_breath])), (a_p1_kinds, .inr (1, [.ref a_p1_kinds_all])), (a_p1_kinds_all, .inl (cI, 36, .inl g_p1_kinds_all)), (a_this, .inr (0, [.ref a_this_all, .int v_count])), (a_this_all, .inr (1, [.ref a_this_all_all])), (a_this_all_all, .inl (cI, 96, .inl g_all_all))]) (va_runV (As := [.int (p2 + (2 : Int32))]) (rest := [.int r25, .ref a_p1]) ⟨hx, hb, hml, hown, hts⟩ (k_Letters_squareAt l dC dI cI cZ tt sd a_this a_this_all a_this_all_all H.size v_count g_all_all (p2 + (2 : Int32)) r27 hf28) (cwV 1 hts gX0_obey_X0_squareAt rfl rfl rfl (by decide +kernel) ⟨Nat.le_of_ble_eq_true rfl, Nat.le_of_ble_eq_true rfl⟩) (zpV hP hD hK hS hA hZ [3, 4, 5] rfl rfl 0 3 rfl rfl) rfl rfl hl.1 rfl (lv_room (Nat.le_of_ble_eq_true rfl)) dX0_obey_72 ⟨Nat.zero_le _, Nat.zero_le _⟩) hP hD hS hA [3, 4, 5] [0, 1, 2] [0, 1, 2, 3, 4, 5] rfl rfl rfl (by decide) rfl rfl rfl (fun H locs hP hD hS => ?_)
    refine lv_aload_n hx hb dX0_obey_75 rfl (lv_at hl 0 rfl) ?_
    refine lv_iload_n hx hb dX0_obey_76 rfl (lv_at hl 2 rfl) ?_
    refine lv_iconst (v := (1 : Int32)) hx hb dX0_obey_77 (by decide) ?_
    refine lv_iadd hx hb dX0_obey_78 ?_
    obtain ⟨r29, hf30, he⟩ := zb1_e he
    refine zc_i (wr := [(a_p1, .inr (6, [.ref a_p1_kinds, .int v_p1_home, .int v_p1_fine, .int v_p1_breath])), (a_p1_kinds, .inr (1, [.ref a_p1_kinds_all])), (a_p1_kinds_all, .inl (cI, 36, .inl g_p1_kinds_all))]) (ws' := [(a_p1, .inr (6, [.ref a_p1_kinds, .int v_p1_home, .int v_p1_fine, .int v_p1_breath])), (a_p1_kinds, .inr (1, [.ref a_p1_kinds_all])), (a_p1_kinds_all, .inl (cI, 36, .inl g_p1_kinds_all)), (a_this, .inr (0, [.ref a_this_all, .int v_count])), (a_this_all, .inr (1, [.ref a_this_all_all])), (a_this_all_all, .inl (cI, 96, .inl g_all_all))]) (va_runV (As := [.int (p2 + (1 : Int32))]) (rest := [.int r27, .int r25, .ref a_p1]) ⟨hx, hb, hml, hown, hts⟩ (k_Letters_kindAt l dC dI cI cZ tt sd a_this a_this_all a_this_all_all H.size v_count g_all_all (p2 + (1 : Int32)) r29 hf30) (cwV 1 hts gX0_obey_X0_kindAt rfl rfl rfl (by decide +kernel) ⟨Nat.le_of_ble_eq_true rfl, Nat.le_of_ble_eq_true rfl⟩) (zpV hP hD hK hS hA hZ [3, 4, 5] rfl rfl 0 3 rfl rfl) rfl rfl hl.1 rfl (lv_room (Nat.le_of_ble_eq_true rfl)) dX0_obey_79 ⟨Nat.zero_le _, Nat.zero_le _⟩) hP hD hS hA [3, 4, 5] [0, 1, 2] [0, 1, 2, 3, 4, 5] rfl rfl rfl (by decide) rfl rfl rfl (fun H locs hP hD hS => ?_)
    obtain ⟨r31, g_p1_kinds_all_32, hf33, he⟩ := zb2_e he
    refine zc_i (wr := [(a_this, .inr (0, [.ref a_this_all, .int v_count])), (a_this_all, .inr (1, [.ref a_this_all_all])), (a_this_all_all, .inl (cI, 96, .inl g_all_all))]) (ws' := [(a_p1, .inr (6, [.ref a_p1_kinds, .int v_p1_home, .int v_p1_fine, .int v_p1_breath])), (a_p1_kinds, .inr (1, [.ref a_p1_kinds_all])), (a_p1_kinds_all, .inl (cI, 36, .inl g_p1_kinds_all_32)), (a_this, .inr (0, [.ref a_this_all, .int v_count])), (a_this_all, .inr (1, [.ref a_this_all_all])), (a_this_all_all, .inl (cI, 96, .inl g_all_all))]) (va_runV (As := [.int r25, .int r27, .int r29]) (rest := []) ⟨hx, hb, hml, hown, hts⟩ (k_Town_rebuild l dC dI cI cZ tt sd a_p1 a_p1_kinds a_p1_kinds_all H.size v_p1_home v_p1_fine v_p1_breath g_p1_kinds_all r25 r27 r29 r31 g_p1_kinds_all_32 hf33) (cwV 3 hts gX0_obey_X6_rebuild rfl rfl rfl (by decide +kernel) ⟨Nat.le_of_ble_eq_true rfl, Nat.le_of_ble_eq_true rfl⟩) (zpV hP hD hK hS hA hZ [0, 1, 2] rfl rfl 6 0 rfl rfl) rfl rfl hl.1 rfl (lv_room (Nat.le_of_ble_eq_true rfl)) dX0_obey_82 ⟨Nat.zero_le _, Nat.zero_le _⟩) hP hD hS hA [0, 1, 2] [3, 4, 5] [3, 4, 5, 0, 1, 2] rfl rfl rfl (by decide) rfl rfl rfl (fun H locs hP hD hS => ?_)
    obtain ⟨hg34, he⟩ := zg_e he
    obtain ⟨rfl, rfl, rfl, rfl, rfl⟩ := zi5 he
    exact W.zret hx hb hr (zbool_n hg34) (fun t ht hW => ⟨⟨_, (), rfl, rfl, by rw [ht]; exact hP, va_K.moved hW.alike hK, hD⟩, hS.F ht⟩) hS.2.2 dX0_obey_85
  have he := zif_f c24 he
  by_cases c35 : r1 = (118 : Int32)
  · have he := zif_t c35 he
    refine lv_lookup (off := 78) (tgt := 86) hx hb dX0_obey_8 (by decide) (by rw [c35]; rfl) (by decide) ?_
    refine lv_aload_n hx hb dX0_obey_86 rfl (lv_at hl 1 rfl) ?_
    refine lv_aload_n hx hb dX0_obey_87 rfl (lv_at hl 0 rfl) ?_
    refine lv_iload_n hx hb dX0_obey_88 rfl (lv_at hl 2 rfl) ?_
    refine lv_iconst (v := (2 : Int32)) hx hb dX0_obey_89 (by decide) ?_
    refine lv_iadd hx hb dX0_obey_90 ?_
    obtain ⟨r36, hf37, he⟩ := zb1_e he
    refine zc_i (wr := [(a_p1, .inr (6, [.ref a_p1_kinds, .int v_p1_home, .int v_p1_fine, .int v_p1_breath])), (a_p1_kinds, .inr (1, [.ref a_p1_kinds_all])), (a_p1_kinds_all, .inl (cI, 36, .inl g_p1_kinds_all))]) (ws' := [(a_p1, .inr (6, [.ref a_p1_kinds, .int v_p1_home, .int v_p1_fine, .int v_p1_breath])), (a_p1_kinds, .inr (1, [.ref a_p1_kinds_all])), (a_p1_kinds_all, .inl (cI, 36, .inl g_p1_kinds_all)), (a_this, .inr (0, [.ref a_this_all, .int v_count])), (a_this_all, .inr (1, [.ref a_this_all_all])), (a_this_all_all, .inl (cI, 96, .inl g_all_all))]) (va_runV (As := [.int (p2 + (2 : Int32))]) (rest := [.ref a_p1]) ⟨hx, hb, hml, hown, hts⟩ (k_Letters_squareAt l dC dI cI cZ tt sd a_this a_this_all a_this_all_all H.size v_count g_all_all (p2 + (2 : Int32)) r36 hf37) (cwV 1 hts gX0_obey_X0_squareAt rfl rfl rfl (by decide +kernel) ⟨Nat.le_of_ble_eq_true rfl, Nat.le_of_ble_eq_true rfl⟩) (zpV hP hD hK hS hA hZ [3, 4, 5] rfl rfl 0 3 rfl rfl) rfl rfl hl.1 rfl (lv_room (Nat.le_of_ble_eq_true rfl)) dX0_obey_91 ⟨Nat.zero_le _, Nat.zero_le _⟩) hP hD hS hA [3, 4, 5] [0, 1, 2] [0, 1, 2, 3, 4, 5] rfl rfl rfl (by decide) rfl rfl rfl (fun H locs hP hD hS => ?_)
    refine lv_aload_n hx hb dX0_obey_94 rfl (lv_at hl 0 rfl) ?_
    refine lv_iload_n hx hb dX0_obey_95 rfl (lv_at hl 2 rfl) ?_
    refine lv_iconst (v := (4 : Int32)) hx hb dX0_obey_96 (by decide) ?_
    refine lv_iadd hx hb dX0_obey_97 ?_
    obtain ⟨r38, hf39, he⟩ := zb1_e he
    refine zc_i (wr := [(a_p1, .inr (6, [.ref a_p1_kinds, .int v_p1_home, .int v_p1_fine, .int v_p1_breath])), (a_p1_kinds, .inr (1, [.ref a_p1_kinds_all])), (a_p1_kinds_all, .inl (cI, 36, .inl g_p1_kinds_all))]) (ws' := [(a_p1, .inr (6, [.ref a_p1_kinds, .int v_p1_home, .int v_p1_fine, .int v_p1_breath])), (a_p1_kinds, .inr (1, [.ref a_p1_kinds_all])), (a_p1_kinds_all, .inl (cI, 36, .inl g_p1_kinds_all)), (a_this, .inr (0, [.ref a_this_all, .int v_count])), (a_this_all, .inr (1, [.ref a_this_all_all])), (a_this_all_all, .inl (cI, 96, .inl g_all_all))]) (va_runV (As := [.int (p2 + (4 : Int32))]) (rest := [.int r36, .ref a_p1]) ⟨hx, hb, hml, hown, hts⟩ (k_Letters_squareAt l dC dI cI cZ tt sd a_this a_this_all a_this_all_all H.size v_count g_all_all (p2 + (4 : Int32)) r38 hf39) (cwV 1 hts gX0_obey_X0_squareAt rfl rfl rfl (by decide +kernel) ⟨Nat.le_of_ble_eq_true rfl, Nat.le_of_ble_eq_true rfl⟩) (zpV hP hD hK hS hA hZ [3, 4, 5] rfl rfl 0 3 rfl rfl) rfl rfl hl.1 rfl (lv_room (Nat.le_of_ble_eq_true rfl)) dX0_obey_98 ⟨Nat.zero_le _, Nat.zero_le _⟩) hP hD hS hA [3, 4, 5] [0, 1, 2] [0, 1, 2, 3, 4, 5] rfl rfl rfl (by decide) rfl rfl rfl (fun H locs hP hD hS => ?_)
    refine lv_aload_n hx hb dX0_obey_101 rfl (lv_at hl 0 rfl) ?_
    refine lv_iload_n hx hb dX0_obey_102 rfl (lv_at hl 2 rfl) ?_
    refine lv_iconst (v := (1 : Int32)) hx hb dX0_obey_103 (by decide) ?_
    refine lv_iadd hx hb dX0_obey_104 ?_
    obtain ⟨r40, hf41, he⟩ := zb1_e he
    refine zc_i (wr := [(a_p1, .inr (6, [.ref a_p1_kinds, .int v_p1_home, .int v_p1_fine, .int v_p1_breath])), (a_p1_kinds, .inr (1, [.ref a_p1_kinds_all])), (a_p1_kinds_all, .inl (cI, 36, .inl g_p1_kinds_all))]) (ws' := [(a_p1, .inr (6, [.ref a_p1_kinds, .int v_p1_home, .int v_p1_fine, .int v_p1_breath])), (a_p1_kinds, .inr (1, [.ref a_p1_kinds_all])), (a_p1_kinds_all, .inl (cI, 36, .inl g_p1_kinds_all)), (a_this, .inr (0, [.ref a_this_all, .int v_count])), (a_this_all, .inr (1, [.ref a_this_all_all])), (a_this_all_all, .inl (cI, 96, .inl g_all_all))]) (va_runV (As := [.int (p2 + (1 : Int32))]) (rest := [.int r38, .int r36, .ref a_p1]) ⟨hx, hb, hml, hown, hts⟩ (k_Letters_kindAt l dC dI cI cZ tt sd a_this a_this_all a_this_all_all H.size v_count g_all_all (p2 + (1 : Int32)) r40 hf41) (cwV 1 hts gX0_obey_X0_kindAt rfl rfl rfl (by decide +kernel) ⟨Nat.le_of_ble_eq_true rfl, Nat.le_of_ble_eq_true rfl⟩) (zpV hP hD hK hS hA hZ [3, 4, 5] rfl rfl 0 3 rfl rfl) rfl rfl hl.1 rfl (lv_room (Nat.le_of_ble_eq_true rfl)) dX0_obey_105 ⟨Nat.zero_le _, Nat.zero_le _⟩) hP hD hS hA [3, 4, 5] [0, 1, 2] [0, 1, 2, 3, 4, 5] rfl rfl rfl (by decide) rfl rfl rfl (fun H locs hP hD hS => ?_)
    obtain ⟨r42, g_p1_kinds_all_43, hf44, he⟩ := zb2_e he
    refine zc_i (wr := [(a_this, .inr (0, [.ref a_this_all, .int v_count])), (a_this_all, .inr (1, [.ref a_this_all_all])), (a_this_all_all, .inl (cI, 96, .inl g_all_all))]) (ws' := [(a_p1, .inr (6, [.ref a_p1_kinds, .int v_p1_home, .int v_p1_fine, .int v_p1_breath])), (a_p1_kinds, .inr (1, [.ref a_p1_kinds_all])), (a_p1_kinds_all, .inl (cI, 36, .inl g_p1_kinds_all_43)), (a_this, .inr (0, [.ref a_this_all, .int v_count])), (a_this_all, .inr (1, [.ref a_this_all_all])), (a_this_all_all, .inl (cI, 96, .inl g_all_all))]) (va_runV (As := [.int r36, .int r38, .int r40]) (rest := []) ⟨hx, hb, hml, hown, hts⟩ (k_Town_rebuild l dC dI cI cZ tt sd a_p1 a_p1_kinds a_p1_kinds_all H.size v_p1_home v_p1_fine v_p1_breath g_p1_kinds_all r36 r38 r40 r42 g_p1_kinds_all_43 hf44) (cwV 3 hts gX0_obey_X6_rebuild rfl rfl rfl (by decide +kernel) ⟨Nat.le_of_ble_eq_true rfl, Nat.le_of_ble_eq_true rfl⟩) (zpV hP hD hK hS hA hZ [0, 1, 2] rfl rfl 6 0 rfl rfl) rfl rfl hl.1 rfl (lv_room (Nat.le_of_ble_eq_true rfl)) dX0_obey_108 ⟨Nat.zero_le _, Nat.zero_le _⟩) hP hD hS hA [0, 1, 2] [3, 4, 5] [3, 4, 5, 0, 1, 2] rfl rfl rfl (by decide) rfl rfl rfl (fun H locs hP hD hS => ?_)
    obtain ⟨hg45, he⟩ := zg_e he
    obtain ⟨rfl, rfl, rfl, rfl, rfl⟩ := zi5 he
    exact W.zret hx hb hr (zbool_n hg45) (fun t ht hW => ⟨⟨_, (), rfl, rfl, by rw [ht]; exact hP, va_K.moved hW.alike hK, hD⟩, hS.F ht⟩) hS.2.2 dX0_obey_111
  have he := zif_f c35 he
  refine lv_lookup (off := 140) (tgt := 148) hx hb dX0_obey_8 (by decide) (by show Op.lookupswitch.offset [(98, 128), (102, 116), (104, 104), (107, 52), (118, 78)] (140) _ = _; rw [lv_osw c3 (by decide), lv_osw c10 (by decide), lv_osw c17 (by decide), lv_osw c24 (by decide), lv_osw c35 (by decide)]; rfl) (by decide) ?_
  refine lv_iconst (v := (0 : Int32)) hx hb dX0_obey_148 (by decide) ?_
  obtain ⟨rfl, rfl, rfl, rfl, rfl⟩ := zi5 he
  exact W.zret hx hb hr rfl (fun t ht hW => ⟨⟨_, (), rfl, rfl, by rw [ht]; exact hP, va_K.moved hW.alike hK, hD⟩, hS.F ht⟩) hS.2.2 dX0_obey_149
set_option maxHeartbeats 4000000 in
set_option maxRecDepth 100000 in
theorem k_Letters_build (l : Launch) (dC : Nat → ClassId) (dI : Nat → Nat → Nat) (cI : ClassId) (cZ : ClassId) (tt : Nat → Nat) (sd : Nat → Nat) (a_p1 : Nat) (a_p1_kinds : Nat) (a_p1_kinds_all : Nat) (a_this : Nat) (a_this_all : Nat) (a_this_all_all : Nat) (sz : Nat) (v_p1_home : Int32) (v_p1_fine : Int32) (v_p1_breath : Int32) (g_p1_kinds_all : Nat → Int32) (v_count : Int32) (g_all_all : Nat → Int32) (r0 : Int32) (w0 : Int32) (w1 : Int32) (w2 : Int32) (w3 : Nat → Int32) (hf : f_Letters_build v_p1_breath v_p1_fine v_p1_home g_p1_kinds_all v_count g_all_all = some (r0, w0, w1, w2, w3)) : Met l yX0_build wsX0_build ({ frames := 6, cells := 0, slots := 0, locals := 142 }) (zPre (dC, dI) vwCl [(cI, .int), (cZ, .boolean)] tt sd [.ref a_this, .ref a_p1] [(a_p1, .inr (6, [.ref a_p1_kinds, .int v_p1_home, .int v_p1_fine, .int v_p1_breath])), (a_p1_kinds, .inr (1, [.ref a_p1_kinds_all])), (a_p1_kinds_all, .inl (cI, 36, .inl g_p1_kinds_all)), (a_this, .inr (0, [.ref a_this_all, .int v_count])), (a_this_all, .inr (1, [.ref a_this_all_all])), (a_this_all_all, .inl (cI, 96, .inl g_all_all))] sz) (zQi (dC, dI) vwCl [(cI, .int), (cZ, .boolean)] r0 [(a_p1, .inr (6, [.ref a_p1_kinds, .int w2, .int w1, .int w0])), (a_p1_kinds, .inr (1, [.ref a_p1_kinds_all])), (a_p1_kinds_all, .inl (cI, 36, .inl w3)), (a_this, .inr (0, [.ref a_this_all, .int v_count])), (a_this_all, .inr (1, [.ref a_this_all_all])), (a_this_all_all, .inl (cI, 96, .inl g_all_all))] (va_A [(a_p1, .inr (6, [.ref a_p1_kinds, .int v_p1_home, .int v_p1_fine, .int v_p1_breath])), (a_p1_kinds, .inr (1, [.ref a_p1_kinds_all])), (a_p1_kinds_all, .inl (cI, 36, .inl g_p1_kinds_all)), (a_this, .inr (0, [.ref a_this_all, .int v_count])), (a_this_all, .inr (1, [.ref a_this_all_all])), (a_this_all_all, .inl (cI, 96, .inl g_all_all))] sz)) 0 0 (va_A [(a_p1, .inr (6, [.ref a_p1_kinds, .int v_p1_home, .int v_p1_fine, .int v_p1_breath])), (a_p1_kinds, .inr (1, [.ref a_p1_kinds_all])), (a_p1_kinds_all, .inl (cI, 36, .inl g_p1_kinds_all)), (a_this, .inr (0, [.ref a_this_all, .int v_count])), (a_this_all, .inr (1, [.ref a_this_all_all])), (a_this_all_all, .inl (cI, 96, .inl g_all_all))] sz) := by
  refine Met.ofW (cc := cX0_build) (maxL := 5) (ret := (some .int)) (by decide) rfl ?_
  intro p e s m args below meth c s₁ B hml hv
  obtain ⟨rfl, hsz, hP, hK, hD0, hZ⟩ := hv
  have hx := B.exec
  have hb := B.bytes
  have hr := B.returns
  have hts := atoms_spec (ws := wsX0_build) B.pre
  have hown : s.vm.findClass RX0 = some m.cls := findClass_of_methodNamed B.named
  have hlocks := B.notSynchronized
  subst hsz
  have hD := hD0.self (sz := s.heap.size)
  generalize hAe : va_A [(a_p1, .inr (6, [.ref a_p1_kinds, .int v_p1_home, .int v_p1_fine, .int v_p1_breath])), (a_p1_kinds, .inr (1, [.ref a_p1_kinds_all])), (a_p1_kinds_all, .inl (cI, 36, .inl g_p1_kinds_all)), (a_this, .inr (0, [.ref a_this_all, .int v_count])), (a_this_all, .inr (1, [.ref a_this_all_all])), (a_this_all_all, .inl (cI, 96, .inl g_all_all))] s.heap.size = A at hD hZ ⊢
  have hA : ∀ q : Nat, s.heap.size ≤ q → A q := fun q h => by rw [← hAe]; exact Or.inr h
  have hS : va_S A s.heap s.heap [] := va_S.rf
  have hP : va_P (dC, dI) vwCl [(a_p1, .inr (6, [.ref a_p1_kinds, .int v_p1_home, .int v_p1_fine, .int v_p1_breath])), (a_p1_kinds, .inr (1, [.ref a_p1_kinds_all])), (a_p1_kinds_all, .inl (cI, 36, .inl g_p1_kinds_all)), (a_this, .inr (0, [.ref a_this_all, .int v_count])), (a_this_all, .inr (1, [.ref a_this_all_all])), (a_this_all_all, .inl (cI, 96, .inl g_all_all))] s.heap := hP
  have hl := lv_entry ([.ref a_this, .ref a_p1]) (n := 5) (Nat.le_of_ble_eq_true rfl)
  rw [lg_entry_eq]
  generalize (lg_sl ([.ref a_this, .ref a_p1]) ++ List.replicate (5 - (lg_sl ([.ref a_this, .ref a_p1])).length) Slot.unset).toArray = ls at hl ⊢
  have hl : lv_has ls 5 [(0, .ref a_this), (1, .ref a_p1)] := hl
  have he := hf
  unfold f_Letters_build at he
  refine zstart (D := (dC, dI)) (cl := vwCl) (A := A) (nL := 5) (fun WW hWW => ?_)
  refine lv_aload_n hx hb dX0_build_0 rfl (lv_at hl 0 rfl) ?_
  obtain ⟨r1, hf2, he⟩ := zb1_e he
  refine zc_i (wr := [(a_p1, .inr (6, [.ref a_p1_kinds, .int v_p1_home, .int v_p1_fine, .int v_p1_breath])), (a_p1_kinds, .inr (1, [.ref a_p1_kinds_all])), (a_p1_kinds_all, .inl (cI, 36, .inl g_p1_kinds_all))]) (ws' := [(a_p1, .inr (6, [.ref a_p1_kinds, .int v_p1_home, .int v_p1_fine, .int v_p1_breath])), (a_p1_kinds, .inr (1, [.ref a_p1_kinds_all])), (a_p1_kinds_all, .inl (cI, 36, .inl g_p1_kinds_all)), (a_this, .inr (0, [.ref a_this_all, .int v_count])), (a_this_all, .inr (1, [.ref a_this_all_all])), (a_this_all_all, .inl (cI, 96, .inl g_all_all))]) (va_runV (As := []) (rest := []) ⟨hx, hb, hml, hown, hts⟩ (k_Letters_firstWrongLetter l dC dI cI cZ tt sd a_this a_this_all a_this_all_all s.heap.size v_count g_all_all r1 hf2) (cwV 0 hts gX0_build_X0_firstWrongLetter rfl rfl rfl (by decide +kernel) ⟨Nat.le_of_ble_eq_true rfl, Nat.le_of_ble_eq_true rfl⟩) (zpV hP hD hK hS hA hZ [3, 4, 5] rfl rfl 0 3 rfl rfl) rfl rfl hl.1 rfl (lv_room (Nat.le_of_ble_eq_true rfl)) dX0_build_1 ⟨Nat.zero_le _, Nat.zero_le _⟩) hP hD hS hA [3, 4, 5] [0, 1, 2] [0, 1, 2, 3, 4, 5] rfl rfl rfl (by decide) rfl rfl rfl (fun H locs hP hD hS => ?_)
  refine lv_istore_n (lv' := [(2, .int r1), (0, .ref a_this), (1, .ref a_p1)]) hx hb dX0_build_4 rfl hl (by decide) rfl (fun ls hl => ?_)
  refine lv_iload_n hx hb dX0_build_5 rfl (lv_at hl 0 rfl) ?_
  refine lv_iconst (v := (-1 : Int32)) hx hb dX0_build_6 (by decide) ?_
  refine lv_icmp_eq (tgt := 16) hx hb dX0_build_7 (by decide) (fun c3 => ?_) (fun c3 => ?_)
  · have he := zif_t c3 he
    refine lv_iconst (v := (0 : Int32)) hx hb dX0_build_16 (by decide) ?_
    refine lv_istore_n (lv' := [(3, .int (0 : Int32)), (2, .int r1), (0, .ref a_this), (1, .ref a_p1)]) hx hb dX0_build_17 rfl hl (by decide) rfl (fun ls hl => ?_)
    refine lv_iconst (v := (0 : Int32)) hx hb dX0_build_18 (by decide) ?_
    refine lv_istore (lv' := [(4, .int (0 : Int32)), (3, .int (0 : Int32)), (2, .int r1), (0, .ref a_this), (1, .ref a_p1)]) hx hb dX0_build_19 hl (by decide) rfl (fun ls hl => ?_)
    refine zj5_w he (fun (l4_4 : Int32) (v_p1_breath_5 : Int32) (v_p1_fine_6 : Int32) (v_p1_home_7 : Int32) (g_p1_kinds_all_8 : Nat → Int32) => WW [(a_p1, .inr (6, [.ref a_p1_kinds, .int v_p1_home_7, .int v_p1_fine_6, .int v_p1_breath_5])), (a_p1_kinds, .inr (1, [.ref a_p1_kinds_all])), (a_p1_kinds_all, .inl (cI, 36, .inl g_p1_kinds_all_8)), (a_this, .inr (0, [.ref a_this_all, .int v_count])), (a_this_all, .inr (1, [.ref a_this_all_all])), (a_this_all_all, .inl (cI, 96, .inl g_all_all))] [(4, .int l4_4)] 40 []) (fun l4_4 v_p1_breath_5 v_p1_fine_6 v_p1_home_7 g_p1_kinds_all_8 he => (hWW _ _ _ _).mpr (fun H locs ls hP hD hS hl => ?_)) (fun k9 hk9 he => ?_)
    · refine lv_sipush (v := (-2000 : Int32)) hx hb dX0_build_40 (by decide) ?_
      refine lv_iload hx hb dX0_build_43 (lv_at hl 0 rfl) ?_
      refine lv_isub hx hb dX0_build_45 ?_
      obtain ⟨rfl, rfl, rfl, rfl, rfl⟩ := zi5 he
      exact W.iret hx hb hr (fun t ht hW => ⟨⟨_, (), rfl, rfl, by rw [ht]; exact hP, va_K.moved hW.alike hK, hD⟩, hS.F ht⟩) hS.2.2 dX0_build_46
    refine (hWW _ _ _ _).mp (zl6_w he (fun (l3_10 : Int32) (l4_11 : Int32) (v_p1_breath_12 : Int32) (v_p1_fine_13 : Int32) (v_p1_home_14 : Int32) (g_p1_kinds_all_15 : Nat → Int32) => WW [(a_p1, .inr (6, [.ref a_p1_kinds, .int v_p1_home_14, .int v_p1_fine_13, .int v_p1_breath_12])), (a_p1_kinds, .inr (1, [.ref a_p1_kinds_all])), (a_p1_kinds_all, .inl (cI, 36, .inl g_p1_kinds_all_15)), (a_this, .inr (0, [.ref a_this_all, .int v_count])), (a_this_all, .inr (1, [.ref a_this_all_all])), (a_this_all_all, .inl (cI, 96, .inl g_all_all))] [(0, .ref a_this), (1, .ref a_p1), (3, .int l3_10), (4, .int l4_11)] 21 []) (fun l3_10 l4_11 v_p1_breath_12 v_p1_fine_13 v_p1_home_14 g_p1_kinds_all_15 again16 hagain16 he => (hWW _ _ _ _).mpr (fun H locs ls hP hD hS hl => ?_))) _ _ _ hP hD hS (lv_sub hl [3, 4, 1, 0] rfl)
    refine lv_iload hx hb dX0_build_21 (lv_at hl 3 rfl) ?_
    refine lv_aload_n hx hb dX0_build_23 rfl (lv_at hl 0 rfl) ?_
    refine va_get (D := (dC, dI)) (ci := 0) (v := .int v_count) (C := RX0) (T := TX0) (N := 2) hx hb hts (by decide +kernel) hown hK hP 3 rfl rfl 1 (by decide) (hts (.fieldLink RX0 20 "LawOfCorners$Letters" "count" "I") (by decide +kernel)) (fun _ h9 => h9) rfl dX0_build_24 ?_
    refine lv_icmp_ge (tgt := 75) hx hb dX0_build_27 (by decide) (fun c17 => ?_) (fun c17 => ?_)
    · have he := zif_t c17 he
      refine lv_iload_n hx hb dX0_build_75 rfl (lv_at hl 2 rfl) ?_
      obtain ⟨rfl, rfl, rfl, rfl, rfl⟩ := zi5 he
      exact W.iret hx hb hr (fun t ht hW => ⟨⟨_, (), rfl, rfl, by rw [ht]; exact hP, va_K.moved hW.alike hK, hD⟩, hS.F ht⟩) hS.2.2 dX0_build_76
    · have he := zif_f c17 he
      refine lv_aload_n hx hb dX0_build_30 rfl (lv_at hl 0 rfl) ?_
      refine lv_aload_n hx hb dX0_build_31 rfl (lv_at hl 1 rfl) ?_
      refine lv_iload hx hb dX0_build_32 (lv_at hl 3 rfl) ?_
      obtain ⟨r18, v_p1_breath_19, v_p1_fine_20, v_p1_home_21, g_p1_kinds_all_22, hf23, he⟩ := zb5_e he
      refine zc_i (wr := []) (ws' := [(a_p1, .inr (6, [.ref a_p1_kinds, .int v_p1_home_21, .int v_p1_fine_20, .int v_p1_breath_19])), (a_p1_kinds, .inr (1, [.ref a_p1_kinds_all])), (a_p1_kinds_all, .inl (cI, 36, .inl g_p1_kinds_all_22)), (a_this, .inr (0, [.ref a_this_all, .int v_count])), (a_this_all, .inr (1, [.ref a_this_all_all])), (a_this_all_all, .inl (cI, 96, .inl g_all_all))]) (va_runV (As := [.ref a_p1, .int l4_11]) (rest := []) ⟨hx, hb, hml, hown, hts⟩ (k_Letters_obey l dC dI cI cZ tt sd a_p1 a_p1_kinds a_p1_kinds_all a_this a_this_all a_this_all_all H.size v_p1_home_14 v_p1_fine_13 v_p1_breath_12 g_p1_kinds_all_15 v_count g_all_all l4_11 r18 v_p1_breath_19 v_p1_fine_20 v_p1_home_21 g_p1_kinds_all_22 hf23) (cwV 2 hts gX0_build_X0_obey rfl rfl rfl (by decide +kernel) ⟨Nat.le_of_ble_eq_true rfl, Nat.le_of_ble_eq_true rfl⟩) (zpV hP hD hK hS hA hZ [0, 1, 2, 3, 4, 5] rfl rfl 0 3 rfl rfl) rfl rfl hl.1 rfl (lv_room (Nat.le_of_ble_eq_true rfl)) dX0_build_34 ⟨Nat.zero_le _, Nat.zero_le _⟩) hP hD hS hA [0, 1, 2, 3, 4, 5] [] [0, 1, 2, 3, 4, 5] rfl rfl rfl (by decide) rfl rfl rfl (fun H locs hP hD hS => ?_)
      refine lv_if_ne (tgt := 47) hx hb dX0_build_37 (by decide) (fun c24 => ?_) (fun c24 => ?_)
      · have he := zif_f c24 he
        obtain ⟨x25, ex25⟩ : ∃ y : Int32, y = l3_10 + (1 : Int32) := ⟨_, rfl⟩
        have he := zn_e ex25 he
        refine lv_iinc (v := x25) (lv' := [(3, .int x25), (0, .ref a_this), (1, .ref a_p1), (4, .int l4_11)]) hx hb dX0_build_47 hl (k := 2) rfl (by rw [ex25]; rfl) (by decide) rfl (fun ls hl => ?_)
        refine lv_iload hx hb dX0_build_50 (lv_at hl 3 rfl) ?_
        refine lv_iconst (v := (1 : Int32)) hx hb dX0_build_52 (by decide) ?_
        refine lv_aload_n hx hb dX0_build_53 rfl (lv_at hl 1 rfl) ?_
        refine va_get (D := (dC, dI)) (ci := 0) (v := .ref a_this_all) (C := RX0) (T := TX0) (N := 2) hx hb hts (by decide +kernel) hown hK hP 3 rfl rfl 0 (by decide) (hts (.fieldLink RX0 14 "LawOfCorners$Letters" "all" "LLawOfCorners$Numbers;") (by decide +kernel)) (fun _ h9 => h9) rfl dX0_build_54 ?_
        refine lv_iload hx hb dX0_build_57 (lv_at hl 3 rfl) ?_
        obtain ⟨r26, hf27, he⟩ := zb1_e he
        refine zc_i (wr := [(a_p1, .inr (6, [.ref a_p1_kinds, .int v_p1_home_21, .int v_p1_fine_20, .int v_p1_breath_19])), (a_p1_kinds, .inr (1, [.ref a_p1_kinds_all])), (a_p1_kinds_all, .inl (cI, 36, .inl g_p1_kinds_all_22)), (a_this, .inr (0, [.ref a_this_all, .int v_count]))]) (ws' := [(a_p1, .inr (6, [.ref a_p1_kinds, .int v_p1_home_21, .int v_p1_fine_20, .int v_p1_breath_19])), (a_p1_kinds, .inr (1, [.ref a_p1_kinds_all])), (a_p1_kinds_all, .inl (cI, 36, .inl g_p1_kinds_all_22)), (a_this, .inr (0, [.ref a_this_all, .int v_count])), (a_this_all, .inr (1, [.ref a_this_all_all])), (a_this_all_all, .inl (cI, 96, .inl g_all_all))]) (va_runV (As := [.int l4_11]) (rest := [.int (1 : Int32), .int l4_11]) ⟨hx, hb, hml, hown, hts⟩ (k_Numbers_at l dC dI cI cZ tt sd a_this_all a_this_all_all H.size 96 g_all_all l4_11 r26 hf27) (cwV 1 hts gX0_build_X1_at rfl rfl rfl (by decide +kernel) ⟨Nat.le_of_ble_eq_true rfl, Nat.le_of_ble_eq_true rfl⟩) (zpV hP hD hK hS hA hZ [4, 5] rfl rfl 1 4 rfl rfl) rfl rfl hl.1 rfl (lv_room (Nat.le_of_ble_eq_true rfl)) dX0_build_59 ⟨Nat.zero_le _, Nat.zero_le _⟩) hP hD hS hA [4, 5] [0, 1, 2, 3] [0, 1, 2, 3, 4, 5] rfl rfl rfl (by decide) rfl rfl rfl (fun H locs hP hD hS => ?_)
        obtain ⟨r28, hf29, he⟩ := zb1_e he
        refine zc_s (wr := [(a_p1, .inr (6, [.ref a_p1_kinds, .int v_p1_home_21, .int v_p1_fine_20, .int v_p1_breath_19])), (a_p1_kinds, .inr (1, [.ref a_p1_kinds_all])), (a_p1_kinds_all, .inl (cI, 36, .inl g_p1_kinds_all_22)), (a_this, .inr (0, [.ref a_this_all, .int v_count])), (a_this_all, .inr (1, [.ref a_this_all_all])), (a_this_all_all, .inl (cI, 96, .inl g_all_all))]) (ws' := [(a_p1, .inr (6, [.ref a_p1_kinds, .int v_p1_home_21, .int v_p1_fine_20, .int v_p1_breath_19])), (a_p1_kinds, .inr (1, [.ref a_p1_kinds_all])), (a_p1_kinds_all, .inl (cI, 36, .inl g_p1_kinds_all_22)), (a_this, .inr (0, [.ref a_this_all, .int v_count])), (a_this_all, .inr (1, [.ref a_this_all_all])), (a_this_all_all, .inl (cI, 96, .inl g_all_all))]) (va_runS (As := [.int r26]) (rest := [.int (1 : Int32), .int l4_11]) ⟨hx, hb, hml, hown, hts⟩ (k_Letters_formOf l dC dI cI cZ tt sd H.size r26 r28 hf29) (va_cwS 1 hts gX0_build_X0_formOf rfl rfl rfl (by decide +kernel) ⟨Nat.le_of_ble_eq_true rfl, Nat.le_of_ble_eq_true rfl⟩) (zpS hP hD hK hS hA hZ [] rfl rfl) rfl rfl hl.1 rfl (lv_room (Nat.le_of_ble_eq_true rfl)) dX0_build_62 ⟨Nat.zero_le _, Nat.zero_le _⟩) hP hD hS hA [] [0, 1, 2, 3, 4, 5] [0, 1, 2, 3, 4, 5] rfl rfl rfl (by decide) rfl rfl rfl (fun H locs hP hD hS => ?_)
        obtain ⟨hg30, he⟩ := zg_e he
        obtain ⟨r31, hf32, he⟩ := zb1_e he
        refine zc_i (wr := [(a_p1, .inr (6, [.ref a_p1_kinds, .int v_p1_home_21, .int v_p1_fine_20, .int v_p1_breath_19])), (a_p1_kinds, .inr (1, [.ref a_p1_kinds_all])), (a_p1_kinds_all, .inl (cI, 36, .inl g_p1_kinds_all_22)), (a_this, .inr (0, [.ref a_this_all, .int v_count])), (a_this_all, .inr (1, [.ref a_this_all_all])), (a_this_all_all, .inl (cI, 96, .inl g_all_all))]) (ws' := [(a_p1, .inr (6, [.ref a_p1_kinds, .int v_p1_home_21, .int v_p1_fine_20, .int v_p1_breath_19])), (a_p1_kinds, .inr (1, [.ref a_p1_kinds_all])), (a_p1_kinds_all, .inl (cI, 36, .inl g_p1_kinds_all_22)), (a_this, .inr (0, [.ref a_this_all, .int v_count])), (a_this_all, .inr (1, [.ref a_this_all_all])), (a_this_all_all, .inl (cI, 96, .inl g_all_all))]) (va_runV (As := []) (rest := [.int (1 : Int32), .int l4_11]) ⟨hx, hb, hml, hown, hts⟩ (k_String_length l dC dI cI cZ tt sd H.size r28 r31 hf32) (cwV 0 hts gX0_build_J0_length_8abf5 rfl rfl rfl (by decide +kernel) ⟨Nat.le_of_ble_eq_true rfl, Nat.le_of_ble_eq_true rfl⟩) (zpW hP hD hK hS hA hZ [] rfl rfl hg30) rfl rfl hl.1 rfl (lv_room (Nat.le_of_ble_eq_true rfl)) dX0_build_65 ⟨Nat.zero_le _, Nat.zero_le _⟩) hP hD hS hA [] [0, 1, 2, 3, 4, 5] [0, 1, 2, 3, 4, 5] rfl rfl rfl (by decide) rfl rfl rfl (fun H locs hP hD hS => ?_)
        refine lv_iadd hx hb dX0_build_68 ?_
        refine lv_iadd hx hb dX0_build_69 ?_
        refine lv_topi (fun x33 ex33 => ?_)
        have he := zn_e ex33 he
        refine lv_istore (lv' := [(4, .int x33), (3, .int x25), (0, .ref a_this), (1, .ref a_p1)]) hx hb dX0_build_70 hl (by decide) rfl (fun ls hl => ?_)
        refine lv_goto (tgt := 21) hx hb dX0_build_72 (by decide) ?_
        exact (hWW _ _ _ _).mp (hagain16 x25 x33 v_p1_breath_19 v_p1_fine_20 v_p1_home_21 g_p1_kinds_all_22 he) _ _ _ hP hD hS (lv_sub hl [2, 3, 1, 0] rfl)
      · have he := zif_t c24 he
        exact (hWW _ _ _ _).mp (hk9 l4_11 v_p1_breath_19 v_p1_fine_20 v_p1_home_21 g_p1_kinds_all_22 he) _ _ _ hP hD hS (lv_sub hl [3] rfl)
  · have he := zif_f c3 he
    refine lv_sipush (v := (-1000 : Int32)) hx hb dX0_build_10 (by decide) ?_
    refine lv_iload_n hx hb dX0_build_13 rfl (lv_at hl 0 rfl) ?_
    refine lv_isub hx hb dX0_build_14 ?_
    obtain ⟨rfl, rfl, rfl, rfl, rfl⟩ := zi5 he
    exact W.iret hx hb hr (fun t ht hW => ⟨⟨_, (), rfl, rfl, by rw [ht]; exact hP, va_K.moved hW.alike hK, hD⟩, hS.F ht⟩) hS.2.2 dX0_build_15
set_option maxHeartbeats 4000000 in
set_option maxRecDepth 100000 in
theorem k_Letters_forget (l : Launch) (dC : Nat → ClassId) (dI : Nat → Nat → Nat) (cI : ClassId) (cZ : ClassId) (tt : Nat → Nat) (sd : Nat → Nat) (a_this : Nat) (a_this_all : Nat) (sz : Nat) (v_count : Int32) (w0 : Int32) (hf : f_Letters_forget v_count = some (w0)) : Met l yX0_forget wsX0_forget ({ frames := 0, cells := 0, slots := 0, locals := 0 }) (zPre (dC, dI) vwCl [(cI, .int), (cZ, .boolean)] tt sd [.ref a_this] [(a_this, .inr (0, [.ref a_this_all, .int v_count]))] sz) (zQv (dC, dI) vwCl [(cI, .int), (cZ, .boolean)] [(a_this, .inr (0, [.ref a_this_all, .int w0]))] (va_A [(a_this, .inr (0, [.ref a_this_all, .int v_count]))] sz)) 0 0 (va_A [(a_this, .inr (0, [.ref a_this_all, .int v_count]))] sz) := by
  refine Met.ofW (cc := cX0_forget) (maxL := 1) (ret := none) (by decide) rfl ?_
  intro p e s m args below meth c s₁ B hml hv
  obtain ⟨rfl, hsz, hP, hK, hD0, hZ⟩ := hv
  have hx := B.exec
  have hb := B.bytes
  have hr := B.returns
  have hts := atoms_spec (ws := wsX0_forget) B.pre
  have hown : s.vm.findClass RX0 = some m.cls := findClass_of_methodNamed B.named
  have hlocks := B.notSynchronized
  subst hsz
  have hD := hD0.self (sz := s.heap.size)
  generalize hAe : va_A [(a_this, .inr (0, [.ref a_this_all, .int v_count]))] s.heap.size = A at hD hZ ⊢
  have hA : ∀ q : Nat, s.heap.size ≤ q → A q := fun q h => by rw [← hAe]; exact Or.inr h
  have hS : va_S A s.heap s.heap [] := va_S.rf
  have hP : va_P (dC, dI) vwCl [(a_this, .inr (0, [.ref a_this_all, .int v_count]))] s.heap := hP
  have hl := lv_entry ([.ref a_this]) (n := 1) (Nat.le_of_ble_eq_true rfl)
  rw [lg_entry_eq]
  generalize (lg_sl ([.ref a_this]) ++ List.replicate (1 - (lg_sl ([.ref a_this])).length) Slot.unset).toArray = ls at hl ⊢
  have hl : lv_has ls 1 [(0, .ref a_this)] := hl
  have he := hf
  unfold f_Letters_forget at he
  refine lv_aload_n hx hb dX0_forget_0 rfl (lv_at hl 0 rfl) ?_
  refine lv_iconst (v := (0 : Int32)) hx hb dX0_forget_1 (by decide) ?_
  refine va_put (D := (dC, dI)) (ci := 0) (v := .int (0 : Int32)) (ty := .int) (C := RX0) (T := TX0) (N := 2) hx hb hts (by decide +kernel) tyX0 tyX0_ok nmX0 hown hK hP hD hS 0 rfl rfl 1 (by decide) (hts (.fieldLink RX0 20 "LawOfCorners$Letters" "count" "I") (by decide +kernel)) (fun _ h9 => h9) rfl (by decide +kernel) rfl rfl (Nat.le_of_ble_eq_true rfl) dX0_forget_2 (fun H locs hP hD hS => ?_)
  have hP : va_P (dC, dI) vwCl [(a_this, .inr (0, [.ref a_this_all, .int (0 : Int32)]))] H := hP
  have hD : va_D A [(a_this, .inr (0, [.ref a_this_all, .int (0 : Int32)]))] := hD
  obtain ⟨rfl⟩ := zi1 he
  exact W.vret hx hb hr (fun t ht hW => ⟨⟨(), rfl, trivial, by rw [ht]; exact hP, va_K.moved hW.alike hK, hD⟩, hS.F ht⟩) hS.2.2 dX0_forget_5
