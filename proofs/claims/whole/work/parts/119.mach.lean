set_option maxHeartbeats 4000000 in
set_option maxRecDepth 100000 in
theorem k_M_stepsAll (l : Launch) (dC : Nat → ClassId) (dI : Nat → Nat → Nat) (cI : ClassId) (cZ : ClassId) (tt : Nat → Nat) (sd : Nat → Nat) (a_this : Nat) (a_this_s : Nat) (a_this_image : Nat) (a_this_was : Nat) (a_this_letters : Nat) (a_this_row : Nat) (a_this_refused : Nat) (a_this_numbers : Nat) (a_this_least : Nat) (a_this_stepsFrom : Nat) (a_this_most : Nat) (a_this_next : Nat) (a_this_otherSteps : Nat) (a_this_ahead : Nat) (a_this_now : Nat) (sz : Nat) (v_hasImage : Int32) (v_letterMany : Int32) (v_rowMany : Int32) (v_place : Int32) (v_seed : Int32) (g_s : Nat → Int32) (g_stepsFrom : Nat → Int32) (p1 : Int32) (w0 : Nat → Int32) (hf : f_M_stepsAll g_s g_stepsFrom p1 = some (w0)) : Met l yX8_stepsAll wsX8_stepsAll ({ frames := 3, cells := 0, slots := 0, locals := 65 }) (zPre (dC, dI) vwCl [(cI, .int), (cZ, .boolean)] tt sd [.ref a_this, .int p1] [(a_this, .inr (8, [.ref a_this_s, .ref a_this_image, .ref a_this_was, .int v_hasImage, .ref a_this_letters, .ref a_this_row, .ref a_this_refused, .int v_letterMany, .int v_rowMany, .int v_place, .ref a_this_numbers, .ref a_this_least, .ref a_this_stepsFrom, .ref a_this_most, .ref a_this_next, .ref a_this_otherSteps, .ref a_this_ahead, .ref a_this_now, .int v_seed])), (a_this_s, .inl (cI, 39, .inl g_s)), (a_this_stepsFrom, .inl (cI, 36, .inl g_stepsFrom))] sz) (zQv (dC, dI) vwCl [(cI, .int), (cZ, .boolean)] [(a_this, .inr (8, [.ref a_this_s, .ref a_this_image, .ref a_this_was, .int v_hasImage, .ref a_this_letters, .ref a_this_row, .ref a_this_refused, .int v_letterMany, .int v_rowMany, .int v_place, .ref a_this_numbers, .ref a_this_least, .ref a_this_stepsFrom, .ref a_this_most, .ref a_this_next, .ref a_this_otherSteps, .ref a_this_ahead, .ref a_this_now, .int v_seed])), (a_this_s, .inl (cI, 39, .inl g_s)), (a_this_stepsFrom, .inl (cI, 36, .inl w0))] (va_A [(a_this, .inr (8, [.ref a_this_s, .ref a_this_image, .ref a_this_was, .int v_hasImage, .ref a_this_letters, .ref a_this_row, .ref a_this_refused, .int v_letterMany, .int v_rowMany, .int v_place, .ref a_this_numbers, .ref a_this_least, .ref a_this_stepsFrom, .ref a_this_most, .ref a_this_next, .ref a_this_otherSteps, .ref a_this_ahead, .ref a_this_now, .int v_seed])), (a_this_s, .inl (cI, 39, .inl g_s)), (a_this_stepsFrom, .inl (cI, 36, .inl g_stepsFrom))] sz)) 0 0 (va_A [(a_this, .inr (8, [.ref a_this_s, .ref a_this_image, .ref a_this_was, .int v_hasImage, .ref a_this_letters, .ref a_this_row, .ref a_this_refused, .int v_letterMany, .int v_rowMany, .int v_place, .ref a_this_numbers, .ref a_this_least, .ref a_this_stepsFrom, .ref a_this_most, .ref a_this_next, .ref a_this_otherSteps, .ref a_this_ahead, .ref a_this_now, .int v_seed])), (a_this_s, .inl (cI, 39, .inl g_s)), (a_this_stepsFrom, .inl (cI, 36, .inl g_stepsFrom))] sz) := by
  refine Met.ofW (cc := cX8_stepsAll) (maxL := 6) (ret := none) (by decide) rfl ?_
  intro p e s m args below meth c s₁ B hml hv
  obtain ⟨rfl, hsz, hP, hK, hD0, hZ⟩ := hv
  have hx := B.exec
  have hb := B.bytes
  have hr := B.returns
  have hts := atoms_spec (ws := wsX8_stepsAll) B.pre
  have hown : s.vm.findClass RX8 = some m.cls := findClass_of_methodNamed B.named
  have hlocks := B.notSynchronized
  subst hsz
  have hD := hD0.self (sz := s.heap.size)
  generalize hAe : va_A [(a_this, .inr (8, [.ref a_this_s, .ref a_this_image, .ref a_this_was, .int v_hasImage, .ref a_this_letters, .ref a_this_row, .ref a_this_refused, .int v_letterMany, .int v_rowMany, .int v_place, .ref a_this_numbers, .ref a_this_least, .ref a_this_stepsFrom, .ref a_this_most, .ref a_this_next, .ref a_this_otherSteps, .ref a_this_ahead, .ref a_this_now, .int v_seed])), (a_this_s, .inl (cI, 39, .inl g_s)), (a_this_stepsFrom, .inl (cI, 36, .inl g_stepsFrom))] s.heap.size = A at hD hZ ⊢
  have hA : ∀ q : Nat, s.heap.size ≤ q → A q := fun q h => by rw [← hAe]; exact Or.inr h
  have hS : va_S A s.heap s.heap [] := va_S.rf
  have hP : va_P (dC, dI) vwCl [(a_this, .inr (8, [.ref a_this_s, .ref a_this_image, .ref a_this_was, .int v_hasImage, .ref a_this_letters, .ref a_this_row, .ref a_this_refused, .int v_letterMany, .int v_rowMany, .int v_place, .ref a_this_numbers, .ref a_this_least, .ref a_this_stepsFrom, .ref a_this_most, .ref a_this_next, .ref a_this_otherSteps, .ref a_this_ahead, .ref a_this_now, .int v_seed])), (a_this_s, .inl (cI, 39, .inl g_s)), (a_this_stepsFrom, .inl (cI, 36, .inl g_stepsFrom))] s.heap := hP
  have hl := lv_entry ([.ref a_this, .int p1]) (n := 6) (Nat.le_of_ble_eq_true rfl)
  rw [lg_entry_eq]
  generalize (lg_sl ([.ref a_this, .int p1]) ++ List.replicate (6 - (lg_sl ([.ref a_this, .int p1])).length) Slot.unset).toArray = ls at hl ⊢
  have hl : lv_has ls 6 [(0, .ref a_this), (1, .int p1)] := hl
  have he := hf
  unfold f_M_stepsAll at he
  refine zstart (D := (dC, dI)) (cl := vwCl) (A := A) (nL := 6) (fun WW hWW => ?_)
  refine lv_iconst (v := (0 : Int32)) hx hb dX8_stepsAll_0 (by decide) ?_
  refine lv_istore_n (lv' := [(2, .int (0 : Int32)), (0, .ref a_this), (1, .int p1)]) hx hb dX8_stepsAll_1 rfl hl (by decide) rfl (fun ls hl => ?_)
  refine zj1_w he (fun (g_stepsFrom_1 : Nat → Int32) => WW [(a_this, .inr (8, [.ref a_this_s, .ref a_this_image, .ref a_this_was, .int v_hasImage, .ref a_this_letters, .ref a_this_row, .ref a_this_refused, .int v_letterMany, .int v_rowMany, .int v_place, .ref a_this_numbers, .ref a_this_least, .ref a_this_stepsFrom, .ref a_this_most, .ref a_this_next, .ref a_this_otherSteps, .ref a_this_ahead, .ref a_this_now, .int v_seed])), (a_this_s, .inl (cI, 39, .inl g_s)), (a_this_stepsFrom, .inl (cI, 36, .inl g_stepsFrom_1))] [(0, .ref a_this)] 39 []) (fun g_stepsFrom_1 he => (hWW _ _ _ _).mpr (fun H locs ls hP hD hS hl => ?_)) (fun k37 hk37 he => ?_)
  · refine lv_iconst (v := (1 : Int32)) hx hb dX8_stepsAll_39 (by decide) ?_
    refine lv_istore_n (lv' := [(2, .int (1 : Int32)), (0, .ref a_this)]) hx hb dX8_stepsAll_40 rfl hl (by decide) rfl (fun ls hl => ?_)
    refine (hWW _ _ _ _).mp (zl2_w he (fun (l2_2 : Int32) (g_stepsFrom_3 : Nat → Int32) => WW [(a_this, .inr (8, [.ref a_this_s, .ref a_this_image, .ref a_this_was, .int v_hasImage, .ref a_this_letters, .ref a_this_row, .ref a_this_refused, .int v_letterMany, .int v_rowMany, .int v_place, .ref a_this_numbers, .ref a_this_least, .ref a_this_stepsFrom, .ref a_this_most, .ref a_this_next, .ref a_this_otherSteps, .ref a_this_ahead, .ref a_this_now, .int v_seed])), (a_this_s, .inl (cI, 39, .inl g_s)), (a_this_stepsFrom, .inl (cI, 36, .inl g_stepsFrom_3))] [(0, .ref a_this), (2, .int l2_2)] 41 []) (fun l2_2 g_stepsFrom_3 again4 hagain4 he => (hWW _ _ _ _).mpr (fun H locs ls hP hD hS hl => ?_))) _ _ _ hP hD hS (lv_sub hl [1, 0] rfl)
    refine lv_iload_n hx hb dX8_stepsAll_41 rfl (lv_at hl 1 rfl) ?_
    refine lv_if_eq (tgt := 131) hx hb dX8_stepsAll_42 (by decide) (fun c5 => ?_) (fun c5 => ?_)
    · have he := zif_t c5 he
      obtain ⟨rfl⟩ := zi1 he
      exact W.vret hx hb hr (fun t ht hW => ⟨⟨(), rfl, trivial, by rw [ht]; exact hP, va_K.moved hW.alike hK, hD⟩, hS.F ht⟩) hS.2.2 dX8_stepsAll_131
    · have he := zif_f c5 he
      refine lv_iconst (v := (0 : Int32)) hx hb dX8_stepsAll_45 (by decide) ?_
      refine lv_istore_n (lv' := [(2, .int (0 : Int32)), (0, .ref a_this)]) hx hb dX8_stepsAll_46 rfl hl (by decide) rfl (fun ls hl => ?_)
      refine lv_iconst (v := (0 : Int32)) hx hb dX8_stepsAll_47 (by decide) ?_
      refine lv_istore_n (lv' := [(3, .int (0 : Int32)), (2, .int (0 : Int32)), (0, .ref a_this)]) hx hb dX8_stepsAll_48 rfl hl (by decide) rfl (fun ls hl => ?_)
      refine zj2_w he (fun (l2_6 : Int32) (g_stepsFrom_7 : Nat → Int32) => WW [(a_this, .inr (8, [.ref a_this_s, .ref a_this_image, .ref a_this_was, .int v_hasImage, .ref a_this_letters, .ref a_this_row, .ref a_this_refused, .int v_letterMany, .int v_rowMany, .int v_place, .ref a_this_numbers, .ref a_this_least, .ref a_this_stepsFrom, .ref a_this_most, .ref a_this_next, .ref a_this_otherSteps, .ref a_this_ahead, .ref a_this_now, .int v_seed])), (a_this_s, .inl (cI, 39, .inl g_s)), (a_this_stepsFrom, .inl (cI, 36, .inl g_stepsFrom_7))] [(0, .ref a_this), (2, .int l2_6)] 128 []) (fun l2_6 g_stepsFrom_7 he => (hWW _ _ _ _).mpr (fun H locs ls hP hD hS hl => ?_)) (fun k8 hk8 he => ?_)
      · refine lv_goto (tgt := 41) hx hb dX8_stepsAll_128 (by decide) ?_
        exact (hWW _ _ _ _).mp (hagain4 l2_6 g_stepsFrom_7 he) _ _ _ hP hD hS (lv_sub hl [0, 1] rfl)
      refine (hWW _ _ _ _).mp (zl3_w he (fun (l2_9 : Int32) (l3_10 : Int32) (g_stepsFrom_11 : Nat → Int32) => WW [(a_this, .inr (8, [.ref a_this_s, .ref a_this_image, .ref a_this_was, .int v_hasImage, .ref a_this_letters, .ref a_this_row, .ref a_this_refused, .int v_letterMany, .int v_rowMany, .int v_place, .ref a_this_numbers, .ref a_this_least, .ref a_this_stepsFrom, .ref a_this_most, .ref a_this_next, .ref a_this_otherSteps, .ref a_this_ahead, .ref a_this_now, .int v_seed])), (a_this_s, .inl (cI, 39, .inl g_s)), (a_this_stepsFrom, .inl (cI, 36, .inl g_stepsFrom_11))] [(0, .ref a_this), (2, .int l2_9), (3, .int l3_10)] 49 []) (fun l2_9 l3_10 g_stepsFrom_11 again12 hagain12 he => (hWW _ _ _ _).mpr (fun H locs ls hP hD hS hl => ?_))) _ _ _ hP hD hS (lv_sub hl [2, 1, 0] rfl)
      refine lv_iload_n hx hb dX8_stepsAll_49 rfl (lv_at hl 2 rfl) ?_
      refine lv_bipush (v := (36 : Int32)) hx hb dX8_stepsAll_50 (by decide) ?_
      refine lv_icmp_ge (tgt := 128) hx hb dX8_stepsAll_52 (by decide) (fun c13 => ?_) (fun c13 => ?_)
      · have he := zif_t c13 he
        exact (hWW _ _ _ _).mp (hk8 l2_9 g_stepsFrom_11 he) _ _ _ hP hD hS (lv_sub hl [0, 1] rfl)
      · have he := zif_f c13 he
        refine lv_iconst (v := (0 : Int32)) hx hb dX8_stepsAll_55 (by decide) ?_
        refine lv_istore (lv' := [(4, .int (0 : Int32)), (0, .ref a_this), (2, .int l2_9), (3, .int l3_10)]) hx hb dX8_stepsAll_56 hl (by decide) rfl (fun ls hl => ?_)
        refine zj2_w he (fun (l2_14 : Int32) (g_stepsFrom_15 : Nat → Int32) => WW [(a_this, .inr (8, [.ref a_this_s, .ref a_this_image, .ref a_this_was, .int v_hasImage, .ref a_this_letters, .ref a_this_row, .ref a_this_refused, .int v_letterMany, .int v_rowMany, .int v_place, .ref a_this_numbers, .ref a_this_least, .ref a_this_stepsFrom, .ref a_this_most, .ref a_this_next, .ref a_this_otherSteps, .ref a_this_ahead, .ref a_this_now, .int v_seed])), (a_this_s, .inl (cI, 39, .inl g_s)), (a_this_stepsFrom, .inl (cI, 36, .inl g_stepsFrom_15))] [(0, .ref a_this), (2, .int l2_14), (3, .int l3_10)] 122 []) (fun l2_14 g_stepsFrom_15 he => (hWW _ _ _ _).mpr (fun H locs ls hP hD hS hl => ?_)) (fun k17 hk17 he => ?_)
        · obtain ⟨x16, ex16⟩ : ∃ y : Int32, y = l3_10 + (1 : Int32) := ⟨_, rfl⟩
          have he := zn_e ex16 he
          refine lv_iinc (v := x16) (lv' := [(3, .int x16), (0, .ref a_this), (2, .int l2_14)]) hx hb dX8_stepsAll_122 hl (k := 2) rfl (by rw [ex16]; rfl) (by decide) rfl (fun ls hl => ?_)
          refine lv_goto (tgt := 49) hx hb dX8_stepsAll_125 (by decide) ?_
          exact (hWW _ _ _ _).mp (hagain12 l2_14 x16 g_stepsFrom_15 he) _ _ _ hP hD hS (lv_sub hl [1, 2, 0] rfl)
        refine (hWW _ _ _ _).mp (zl3_w he (fun (l2_18 : Int32) (l4_19 : Int32) (g_stepsFrom_20 : Nat → Int32) => WW [(a_this, .inr (8, [.ref a_this_s, .ref a_this_image, .ref a_this_was, .int v_hasImage, .ref a_this_letters, .ref a_this_row, .ref a_this_refused, .int v_letterMany, .int v_rowMany, .int v_place, .ref a_this_numbers, .ref a_this_least, .ref a_this_stepsFrom, .ref a_this_most, .ref a_this_next, .ref a_this_otherSteps, .ref a_this_ahead, .ref a_this_now, .int v_seed])), (a_this_s, .inl (cI, 39, .inl g_s)), (a_this_stepsFrom, .inl (cI, 36, .inl g_stepsFrom_20))] [(0, .ref a_this), (2, .int l2_18), (3, .int l3_10), (4, .int l4_19)] 58 []) (fun l2_18 l4_19 g_stepsFrom_20 again21 hagain21 he => (hWW _ _ _ _).mpr (fun H locs ls hP hD hS hl => ?_))) _ _ _ hP hD hS (lv_sub hl [1, 2, 3, 0] rfl)
        refine lv_iload hx hb dX8_stepsAll_58 (lv_at hl 3 rfl) ?_
        refine lv_iconst (v := (4 : Int32)) hx hb dX8_stepsAll_60 (by decide) ?_
        refine lv_icmp_ge (tgt := 122) hx hb dX8_stepsAll_61 (by decide) (fun c22 => ?_) (fun c22 => ?_)
        · have he := zif_t c22 he
          exact (hWW _ _ _ _).mp (hk17 l2_18 g_stepsFrom_20 he) _ _ _ hP hD hS (lv_sub hl [0, 1, 2] rfl)
        · have he := zif_f c22 he
          refine lv_aload_n hx hb dX8_stepsAll_64 rfl (lv_at hl 0 rfl) ?_
          refine lv_iload_n hx hb dX8_stepsAll_65 rfl (lv_at hl 2 rfl) ?_
          refine lv_iload hx hb dX8_stepsAll_66 (lv_at hl 3 rfl) ?_
          obtain ⟨r23, hf24, he⟩ := zb1_e he
          refine zc_i (wr := [(a_this_stepsFrom, .inl (cI, 36, .inl g_stepsFrom_20))]) (ws' := [(a_this, .inr (8, [.ref a_this_s, .ref a_this_image, .ref a_this_was, .int v_hasImage, .ref a_this_letters, .ref a_this_row, .ref a_this_refused, .int v_letterMany, .int v_rowMany, .int v_place, .ref a_this_numbers, .ref a_this_least, .ref a_this_stepsFrom, .ref a_this_most, .ref a_this_next, .ref a_this_otherSteps, .ref a_this_ahead, .ref a_this_now, .int v_seed])), (a_this_s, .inl (cI, 39, .inl g_s)), (a_this_stepsFrom, .inl (cI, 36, .inl g_stepsFrom_20))]) (va_runV (As := [.int l3_10, .int l4_19]) (rest := []) ⟨hx, hb, hml, hown, hts⟩ (k_M_gone l dC dI cI cZ tt sd a_this a_this_s a_this_image a_this_was a_this_letters a_this_row a_this_refused a_this_numbers a_this_least a_this_stepsFrom a_this_most a_this_next a_this_otherSteps a_this_ahead a_this_now H.size v_hasImage v_letterMany v_rowMany v_place v_seed g_s l3_10 l4_19 r23 hf24) (cwV 2 hts gX8_stepsAll_X8_gone rfl rfl rfl (by decide +kernel) ⟨Nat.le_of_ble_eq_true rfl, Nat.le_of_ble_eq_true rfl⟩) (zpV hP hD hK hS hA hZ [0, 1] rfl rfl 8 0 rfl rfl) rfl rfl hl.1 rfl (lv_room (Nat.le_of_ble_eq_true rfl)) dX8_stepsAll_68 ⟨Nat.zero_le _, Nat.zero_le _⟩) hP hD hS hA [0, 1] [2] [1, 2, 0] rfl rfl rfl (by decide) rfl rfl rfl (fun H locs hP hD hS => ?_)
          refine lv_istore (lv' := [(5, .int r23), (0, .ref a_this), (2, .int l2_18), (3, .int l3_10), (4, .int l4_19)]) hx hb dX8_stepsAll_71 hl (by decide) rfl (fun ls hl => ?_)
          refine lv_iload hx hb dX8_stepsAll_73 (lv_at hl 0 rfl) ?_
          refine zj2_w he (fun (l2_25 : Int32) (g_stepsFrom_26 : Nat → Int32) => WW [(a_this, .inr (8, [.ref a_this_s, .ref a_this_image, .ref a_this_was, .int v_hasImage, .ref a_this_letters, .ref a_this_row, .ref a_this_refused, .int v_letterMany, .int v_rowMany, .int v_place, .ref a_this_numbers, .ref a_this_least, .ref a_this_stepsFrom, .ref a_this_most, .ref a_this_next, .ref a_this_otherSteps, .ref a_this_ahead, .ref a_this_now, .int v_seed])), (a_this_s, .inl (cI, 39, .inl g_s)), (a_this_stepsFrom, .inl (cI, 36, .inl g_stepsFrom_26))] [(0, .ref a_this), (2, .int l2_25), (3, .int l3_10), (4, .int l4_19)] 116 []) (fun l2_25 g_stepsFrom_26 he => (hWW _ _ _ _).mpr (fun H locs ls hP hD hS hl => ?_)) (fun k28 hk28 he => ?_)
          · obtain ⟨x27, ex27⟩ : ∃ y : Int32, y = l4_19 + (1 : Int32) := ⟨_, rfl⟩
            have he := zn_e ex27 he
            refine lv_iinc (v := x27) (lv' := [(4, .int x27), (0, .ref a_this), (2, .int l2_25), (3, .int l3_10)]) hx hb dX8_stepsAll_116 hl (k := 3) rfl (by rw [ex27]; rfl) (by decide) rfl (fun ls hl => ?_)
            refine lv_goto (tgt := 58) hx hb dX8_stepsAll_119 (by decide) ?_
            exact (hWW _ _ _ _).mp (hagain21 l2_25 x27 g_stepsFrom_26 he) _ _ _ hP hD hS (lv_sub hl [1, 2, 3, 0] rfl)
          refine lv_if_lt (tgt := 116) hx hb dX8_stepsAll_75 (by decide) (fun c29 => ?_) (fun c29 => ?_)
          · have he := zif_t c29 he
            exact (hWW _ _ _ _).mp (hk28 l2_18 g_stepsFrom_20 he) _ _ _ hP hD hS (lv_sub hl [1, 2, 3, 4] rfl)
          · have he := zif_f c29 he
            refine lv_aload_n hx hb dX8_stepsAll_78 rfl (lv_at hl 1 rfl) ?_
            refine va_get (D := (dC, dI)) (ci := 8) (v := .ref a_this_stepsFrom) (C := RX8) (T := TX8) (N := 19) hx hb hts (by decide +kernel) hown hK hP 0 rfl rfl 12 (by decide) (hts (.fieldLink RX8 34 "LawOfCornersModel" "stepsFrom" "[I") (by decide +kernel)) (fun _ h9 => h9) rfl dX8_stepsAll_79 ?_
            refine lv_iload_n hx hb dX8_stepsAll_82 rfl (lv_at hl 3 rfl) ?_
            obtain ⟨hg30, he⟩ := zg_e he
            refine va_iald hx hb hK hP 2 0 rfl rfl hg30 dX8_stepsAll_83 ?_
            refine lv_iconst (v := (1 : Int32)) hx hb dX8_stepsAll_84 (by decide) ?_
            refine lv_iadd hx hb dX8_stepsAll_85 ?_
            refine lv_aload_n hx hb dX8_stepsAll_86 rfl (lv_at hl 1 rfl) ?_
            refine va_get (D := (dC, dI)) (ci := 8) (v := .ref a_this_stepsFrom) (C := RX8) (T := TX8) (N := 19) hx hb hts (by decide +kernel) hown hK hP 0 rfl rfl 12 (by decide) (hts (.fieldLink RX8 34 "LawOfCornersModel" "stepsFrom" "[I") (by decide +kernel)) (fun _ h9 => h9) rfl dX8_stepsAll_87 ?_
            refine lv_iload hx hb dX8_stepsAll_90 (lv_at hl 0 rfl) ?_
            obtain ⟨hg31, he⟩ := zg_e he
            refine va_iald hx hb hK hP 2 0 rfl rfl hg31 dX8_stepsAll_92 ?_
            refine lv_icmp_lt (tgt := 99) hx hb dX8_stepsAll_93 (by decide) (fun c32 => ?_) (fun c32 => ?_)
            · have he := zif_t c32 he
              refine lv_aload_n hx hb dX8_stepsAll_99 rfl (lv_at hl 1 rfl) ?_
              refine va_get (D := (dC, dI)) (ci := 8) (v := .ref a_this_stepsFrom) (C := RX8) (T := TX8) (N := 19) hx hb hts (by decide +kernel) hown hK hP 0 rfl rfl 12 (by decide) (hts (.fieldLink RX8 34 "LawOfCornersModel" "stepsFrom" "[I") (by decide +kernel)) (fun _ h9 => h9) rfl dX8_stepsAll_100 ?_
              refine lv_iload hx hb dX8_stepsAll_103 (lv_at hl 0 rfl) ?_
              refine lv_aload_n hx hb dX8_stepsAll_105 rfl (lv_at hl 1 rfl) ?_
              refine va_get (D := (dC, dI)) (ci := 8) (v := .ref a_this_stepsFrom) (C := RX8) (T := TX8) (N := 19) hx hb hts (by decide +kernel) hown hK hP 0 rfl rfl 12 (by decide) (hts (.fieldLink RX8 34 "LawOfCornersModel" "stepsFrom" "[I") (by decide +kernel)) (fun _ h9 => h9) rfl dX8_stepsAll_106 ?_
              refine lv_iload_n hx hb dX8_stepsAll_109 rfl (lv_at hl 3 rfl) ?_
              obtain ⟨hg33, he⟩ := zg_e he
              refine va_iald hx hb hK hP 2 0 rfl rfl hg33 dX8_stepsAll_110 ?_
              refine lv_iconst (v := (1 : Int32)) hx hb dX8_stepsAll_111 (by decide) ?_
              refine lv_iadd hx hb dX8_stepsAll_112 ?_
              refine lv_topi (fun x34 ex34 => ?_)
              have he := zn_e ex34 he
              obtain ⟨hg35, he⟩ := zg_e he
              refine va_iast hx hb hK hP hD hS 2 0 rfl rfl hg35 dX8_stepsAll_113 (fun H locs hP hD hS => ?_)
              obtain ⟨g36, eg36⟩ : ∃ y : Nat → Int32, y = upd g_stepsFrom_20 r23.toNatClampNeg x34 := ⟨_, rfl⟩
              have he := zn_e eg36 he
              have hP : va_P (dC, dI) vwCl [(a_this, .inr (8, [.ref a_this_s, .ref a_this_image, .ref a_this_was, .int v_hasImage, .ref a_this_letters, .ref a_this_row, .ref a_this_refused, .int v_letterMany, .int v_rowMany, .int v_place, .ref a_this_numbers, .ref a_this_least, .ref a_this_stepsFrom, .ref a_this_most, .ref a_this_next, .ref a_this_otherSteps, .ref a_this_ahead, .ref a_this_now, .int v_seed])), (a_this_s, .inl (cI, 39, .inl g_s)), (a_this_stepsFrom, .inl (cI, 36, .inl g36))] H := by rw [eg36]; exact hP
              have hD : va_D A [(a_this, .inr (8, [.ref a_this_s, .ref a_this_image, .ref a_this_was, .int v_hasImage, .ref a_this_letters, .ref a_this_row, .ref a_this_refused, .int v_letterMany, .int v_rowMany, .int v_place, .ref a_this_numbers, .ref a_this_least, .ref a_this_stepsFrom, .ref a_this_most, .ref a_this_next, .ref a_this_otherSteps, .ref a_this_ahead, .ref a_this_now, .int v_seed])), (a_this_s, .inl (cI, 39, .inl g_s)), (a_this_stepsFrom, .inl (cI, 36, .inl g36))] := by rw [eg36]; exact hD
              refine lv_iconst (v := (1 : Int32)) hx hb dX8_stepsAll_114 (by decide) ?_
              refine lv_istore_n (lv' := [(2, .int (1 : Int32)), (5, .int r23), (0, .ref a_this), (3, .int l3_10), (4, .int l4_19)]) hx hb dX8_stepsAll_115 rfl hl (by decide) rfl (fun ls hl => ?_)
              exact (hWW _ _ _ _).mp (hk28 (1 : Int32) g36 he) _ _ _ hP hD hS (lv_sub hl [2, 0, 3, 4] rfl)
            · have he := zif_f c32 he
              refine lv_goto (tgt := 116) hx hb dX8_stepsAll_96 (by decide) ?_
              exact (hWW _ _ _ _).mp (hk28 l2_18 g_stepsFrom_20 he) _ _ _ hP hD hS (lv_sub hl [1, 2, 3, 4] rfl)
  refine (hWW _ _ _ _).mp (zl2_w he (fun (l2_38 : Int32) (g_stepsFrom_39 : Nat → Int32) => WW [(a_this, .inr (8, [.ref a_this_s, .ref a_this_image, .ref a_this_was, .int v_hasImage, .ref a_this_letters, .ref a_this_row, .ref a_this_refused, .int v_letterMany, .int v_rowMany, .int v_place, .ref a_this_numbers, .ref a_this_least, .ref a_this_stepsFrom, .ref a_this_most, .ref a_this_next, .ref a_this_otherSteps, .ref a_this_ahead, .ref a_this_now, .int v_seed])), (a_this_s, .inl (cI, 39, .inl g_s)), (a_this_stepsFrom, .inl (cI, 36, .inl g_stepsFrom_39))] [(0, .ref a_this), (1, .int p1), (2, .int l2_38)] 2 []) (fun l2_38 g_stepsFrom_39 again40 hagain40 he => (hWW _ _ _ _).mpr (fun H locs ls hP hD hS hl => ?_))) _ _ _ hP hD hS (lv_sub hl [1, 2, 0] rfl)
  refine lv_iload_n hx hb dX8_stepsAll_2 rfl (lv_at hl 2 rfl) ?_
  refine lv_bipush (v := (36 : Int32)) hx hb dX8_stepsAll_3 (by decide) ?_
  refine lv_icmp_ge (tgt := 39) hx hb dX8_stepsAll_5 (by decide) (fun c41 => ?_) (fun c41 => ?_)
  · have he := zif_t c41 he
    exact (hWW _ _ _ _).mp (hk37 g_stepsFrom_39 he) _ _ _ hP hD hS (lv_sub hl [0] rfl)
  · have he := zif_f c41 he
    refine lv_aload_n hx hb dX8_stepsAll_8 rfl (lv_at hl 0 rfl) ?_
    refine va_get (D := (dC, dI)) (ci := 8) (v := .ref a_this_stepsFrom) (C := RX8) (T := TX8) (N := 19) hx hb hts (by decide +kernel) hown hK hP 0 rfl rfl 12 (by decide) (hts (.fieldLink RX8 34 "LawOfCornersModel" "stepsFrom" "[I") (by decide +kernel)) (fun _ h9 => h9) rfl dX8_stepsAll_9 ?_
    refine lv_iload_n hx hb dX8_stepsAll_12 rfl (lv_at hl 2 rfl) ?_
    refine lv_iload_n hx hb dX8_stepsAll_13 rfl (lv_at hl 2 rfl) ?_
    refine lv_iload_n hx hb dX8_stepsAll_14 rfl (lv_at hl 1 rfl) ?_
    refine zj1_w he (fun (s42 : Int32) => WW [(a_this, .inr (8, [.ref a_this_s, .ref a_this_image, .ref a_this_was, .int v_hasImage, .ref a_this_letters, .ref a_this_row, .ref a_this_refused, .int v_letterMany, .int v_rowMany, .int v_place, .ref a_this_numbers, .ref a_this_least, .ref a_this_stepsFrom, .ref a_this_most, .ref a_this_next, .ref a_this_otherSteps, .ref a_this_ahead, .ref a_this_now, .int v_seed])), (a_this_s, .inl (cI, 39, .inl g_s)), (a_this_stepsFrom, .inl (cI, 36, .inl g_stepsFrom_39))] [(0, .ref a_this), (1, .int p1), (2, .int l2_38)] 32 [.int s42, .int l2_38, .ref a_this_stepsFrom]) (fun s42 he => (hWW _ _ _ _).mpr (fun H locs ls hP hD hS hl => ?_)) (fun k46 hk46 he => ?_)
    · obtain ⟨hg43, he⟩ := zg_e he
      refine va_iast hx hb hK hP hD hS 2 0 rfl rfl hg43 dX8_stepsAll_32 (fun H locs hP hD hS => ?_)
      obtain ⟨g44, eg44⟩ : ∃ y : Nat → Int32, y = upd g_stepsFrom_39 l2_38.toNatClampNeg s42 := ⟨_, rfl⟩
      have he := zn_e eg44 he
      have hP : va_P (dC, dI) vwCl [(a_this, .inr (8, [.ref a_this_s, .ref a_this_image, .ref a_this_was, .int v_hasImage, .ref a_this_letters, .ref a_this_row, .ref a_this_refused, .int v_letterMany, .int v_rowMany, .int v_place, .ref a_this_numbers, .ref a_this_least, .ref a_this_stepsFrom, .ref a_this_most, .ref a_this_next, .ref a_this_otherSteps, .ref a_this_ahead, .ref a_this_now, .int v_seed])), (a_this_s, .inl (cI, 39, .inl g_s)), (a_this_stepsFrom, .inl (cI, 36, .inl g44))] H := by rw [eg44]; exact hP
      have hD : va_D A [(a_this, .inr (8, [.ref a_this_s, .ref a_this_image, .ref a_this_was, .int v_hasImage, .ref a_this_letters, .ref a_this_row, .ref a_this_refused, .int v_letterMany, .int v_rowMany, .int v_place, .ref a_this_numbers, .ref a_this_least, .ref a_this_stepsFrom, .ref a_this_most, .ref a_this_next, .ref a_this_otherSteps, .ref a_this_ahead, .ref a_this_now, .int v_seed])), (a_this_s, .inl (cI, 39, .inl g_s)), (a_this_stepsFrom, .inl (cI, 36, .inl g44))] := by rw [eg44]; exact hD
      obtain ⟨x45, ex45⟩ : ∃ y : Int32, y = l2_38 + (1 : Int32) := ⟨_, rfl⟩
      have he := zn_e ex45 he
      refine lv_iinc (v := x45) (lv' := [(2, .int x45), (0, .ref a_this), (1, .int p1)]) hx hb dX8_stepsAll_33 hl (k := 2) rfl (by rw [ex45]; rfl) (by decide) rfl (fun ls hl => ?_)
      refine lv_goto (tgt := 2) hx hb dX8_stepsAll_36 (by decide) ?_
      exact (hWW _ _ _ _).mp (hagain40 x45 g44 he) _ _ _ hP hD hS (lv_sub hl [1, 2, 0] rfl)
    refine zj1_w he (fun (_ : Unit) => WW [(a_this, .inr (8, [.ref a_this_s, .ref a_this_image, .ref a_this_was, .int v_hasImage, .ref a_this_letters, .ref a_this_row, .ref a_this_refused, .int v_letterMany, .int v_rowMany, .int v_place, .ref a_this_numbers, .ref a_this_least, .ref a_this_stepsFrom, .ref a_this_most, .ref a_this_next, .ref a_this_otherSteps, .ref a_this_ahead, .ref a_this_now, .int v_seed])), (a_this_s, .inl (cI, 39, .inl g_s)), (a_this_stepsFrom, .inl (cI, 36, .inl g_stepsFrom_39))] [(0, .ref a_this), (1, .int p1), (2, .int l2_38)] 30 [.int l2_38, .ref a_this_stepsFrom]) (fun _ he => (hWW _ _ _ _).mpr (fun H locs ls hP hD hS hl => ?_)) (fun k47 hk47 he => ?_)
    · refine lv_ldc (v := (1000000000 : Int32)) hx hb hown (hts (.constant RX8 140 (1000000000 : Int32)) (by decide +kernel)) dX8_stepsAll_30 ?_
      exact (hWW _ _ _ _).mp (hk46 (1000000000 : Int32) he) _ _ _ hP hD hS (lv_sub hl [0, 1, 2] rfl)
    refine lv_icmp_ne (tgt := 30) hx hb dX8_stepsAll_15 (by decide) (fun c48 => ?_) (fun c48 => ?_)
    · have he := zif_f c48 he
      exact (hWW _ _ _ _).mp (hk47 () he) _ _ _ hP hD hS (lv_sub hl [0, 1, 2] rfl)
    · have he := zif_t c48 he
      refine lv_aload_n hx hb dX8_stepsAll_18 rfl (lv_at hl 0 rfl) ?_
      refine lv_iload_n hx hb dX8_stepsAll_19 rfl (lv_at hl 2 rfl) ?_
      obtain ⟨r49, hf50, he⟩ := zb1_e he
      refine zc_i (wr := [(a_this_stepsFrom, .inl (cI, 36, .inl g_stepsFrom_39))]) (ws' := [(a_this, .inr (8, [.ref a_this_s, .ref a_this_image, .ref a_this_was, .int v_hasImage, .ref a_this_letters, .ref a_this_row, .ref a_this_refused, .int v_letterMany, .int v_rowMany, .int v_place, .ref a_this_numbers, .ref a_this_least, .ref a_this_stepsFrom, .ref a_this_most, .ref a_this_next, .ref a_this_otherSteps, .ref a_this_ahead, .ref a_this_now, .int v_seed])), (a_this_s, .inl (cI, 39, .inl g_s)), (a_this_stepsFrom, .inl (cI, 36, .inl g_stepsFrom_39))]) (va_runV (As := [.int l2_38]) (rest := [.int l2_38, .ref a_this_stepsFrom]) ⟨hx, hb, hml, hown, hts⟩ (k_M_canBe l dC dI cI cZ tt sd a_this a_this_s a_this_image a_this_was a_this_letters a_this_row a_this_refused a_this_numbers a_this_least a_this_stepsFrom a_this_most a_this_next a_this_otherSteps a_this_ahead a_this_now H.size v_hasImage v_letterMany v_rowMany v_place v_seed g_s l2_38 r49 hf50) (cwV 1 hts gX8_stepsAll_X8_canBe rfl rfl rfl (by decide +kernel) ⟨Nat.le_of_ble_eq_true rfl, Nat.le_of_ble_eq_true rfl⟩) (zpV hP hD hK hS hA hZ [0, 1] rfl rfl 8 0 rfl rfl) rfl rfl hl.1 rfl (lv_room (Nat.le_of_ble_eq_true rfl)) dX8_stepsAll_20 ⟨Nat.zero_le _, Nat.zero_le _⟩) hP hD hS hA [0, 1] [2] [1, 2, 0] rfl rfl rfl (by decide) rfl rfl rfl (fun H locs hP hD hS => ?_)
      refine lv_if_eq (tgt := 30) hx hb dX8_stepsAll_23 (by decide) (fun c51 => ?_) (fun c51 => ?_)
      · have he := zif_t c51 he
        exact (hWW _ _ _ _).mp (hk47 () he) _ _ _ hP hD hS (lv_sub hl [0, 1, 2] rfl)
      · have he := zif_f c51 he
        refine lv_iconst (v := (0 : Int32)) hx hb dX8_stepsAll_26 (by decide) ?_
        refine lv_goto (tgt := 32) hx hb dX8_stepsAll_27 (by decide) ?_
        exact (hWW _ _ _ _).mp (hk46 (0 : Int32) he) _ _ _ hP hD hS (lv_sub hl [0, 1, 2] rfl)
set_option maxHeartbeats 4000000 in
set_option maxRecDepth 100000 in
theorem k_M_orNone (l : Launch) (dC : Nat → ClassId) (dI : Nat → Nat → Nat) (cI : ClassId) (cZ : ClassId) (tt : Nat → Nat) (sd : Nat → Nat) (sz : Nat) (p0 : Int32) (r0 : Int32) (hf : f_M_orNone p0 = some (r0)) : Met l yX8_orNone wsX8_orNone ({ frames := 0, cells := 0, slots := 0, locals := 0 }) (zPre (dC, dI) vwCl [(cI, .int), (cZ, .boolean)] tt sd [.int p0] [] sz) (zQi (dC, dI) vwCl [(cI, .int), (cZ, .boolean)] r0 [] (va_A [] sz)) 0 0 (va_A [] sz) := by
  refine Met.ofW (cc := cX8_orNone) (maxL := 1) (ret := (some .int)) (by decide) rfl ?_
  intro p e s m args below meth c s₁ B hml hv
  obtain ⟨rfl, hsz, hP, hK, hD0, hZ⟩ := hv
  have hx := B.exec
  have hb := B.bytes
  have hr := B.returns
  have hts := atoms_spec (ws := wsX8_orNone) B.pre
  have hown : s.vm.findClass RX8 = some m.cls := findClass_of_methodNamed B.named
  have hlocks := B.notSynchronized
  subst hsz
  have hD := hD0.self (sz := s.heap.size)
  generalize hAe : va_A [] s.heap.size = A at hD hZ ⊢
  have hA : ∀ q : Nat, s.heap.size ≤ q → A q := fun q h => by rw [← hAe]; exact Or.inr h
  have hS : va_S A s.heap s.heap [] := va_S.rf
  have hP : va_P (dC, dI) vwCl [] s.heap := hP
  have hl := lv_entry ([.int p0]) (n := 1) (Nat.le_of_ble_eq_true rfl)
  rw [lg_entry_eq]
  generalize (lg_sl ([.int p0]) ++ List.replicate (1 - (lg_sl ([.int p0])).length) Slot.unset).toArray = ls at hl ⊢
  have hl : lv_has ls 1 [(0, .int p0)] := hl
  have he := hf
  unfold f_M_orNone at he
  refine lv_iload_n hx hb dX8_orNone_0 rfl (lv_at hl 0 rfl) ?_
  refine lv_ldc (v := (1000000000 : Int32)) hx hb hown (hts (.constant RX8 140 (1000000000 : Int32)) (by decide +kernel)) dX8_orNone_1 ?_
  refine lv_icmp_lt (tgt := 11) hx hb dX8_orNone_3 (by decide) (fun c1 => ?_) (fun c1 => ?_)
  · have he := zif_t c1 he
    refine lv_iload_n hx hb dX8_orNone_11 rfl (lv_at hl 0 rfl) ?_
    obtain ⟨rfl⟩ := zi1 he
    exact W.iret hx hb hr (fun t ht hW => ⟨⟨_, (), rfl, rfl, by rw [ht]; exact hP, va_K.moved hW.alike hK, hD⟩, hS.F ht⟩) hS.2.2 dX8_orNone_12
  · have he := zif_f c1 he
    refine lv_bipush (v := (-9 : Int32)) hx hb dX8_orNone_6 (by decide) ?_
    refine lv_goto (tgt := 12) hx hb dX8_orNone_8 (by decide) ?_
    obtain ⟨rfl⟩ := zi1 he
    exact W.iret hx hb hr (fun t ht hW => ⟨⟨_, (), rfl, rfl, by rw [ht]; exact hP, va_K.moved hW.alike hK, hD⟩, hS.F ht⟩) hS.2.2 dX8_orNone_12
set_option maxHeartbeats 4000000 in
set_option maxRecDepth 100000 in
theorem k_M_steps (l : Launch) (dC : Nat → ClassId) (dI : Nat → Nat → Nat) (cI : ClassId) (cZ : ClassId) (tt : Nat → Nat) (sd : Nat → Nat) (a_this : Nat) (a_this_s : Nat) (a_this_image : Nat) (a_this_was : Nat) (a_this_letters : Nat) (a_this_row : Nat) (a_this_refused : Nat) (a_this_numbers : Nat) (a_this_least : Nat) (a_this_stepsFrom : Nat) (a_this_most : Nat) (a_this_next : Nat) (a_this_otherSteps : Nat) (a_this_ahead : Nat) (a_this_now : Nat) (sz : Nat) (v_hasImage : Int32) (v_letterMany : Int32) (v_rowMany : Int32) (v_place : Int32) (v_seed : Int32) (g_refused : Nat → Int32) (g_s : Nat → Int32) (g_stepsFrom : Nat → Int32) (p1 : Int32) (p2 : Int32) (r0 : Int32) (w0 : Nat → Int32) (w1 : Nat → Int32) (hf : f_M_steps g_refused g_s g_stepsFrom p1 p2 = some (r0, w0, w1)) : Met l yX8_steps wsX8_steps ({ frames := 4, cells := 0, slots := 0, locals := 90 }) (zPre (dC, dI) vwCl [(cI, .int), (cZ, .boolean)] tt sd [.ref a_this, .int p1, .int p2] [(a_this, .inr (8, [.ref a_this_s, .ref a_this_image, .ref a_this_was, .int v_hasImage, .ref a_this_letters, .ref a_this_row, .ref a_this_refused, .int v_letterMany, .int v_rowMany, .int v_place, .ref a_this_numbers, .ref a_this_least, .ref a_this_stepsFrom, .ref a_this_most, .ref a_this_next, .ref a_this_otherSteps, .ref a_this_ahead, .ref a_this_now, .int v_seed])), (a_this_refused, .inl (cI, 7, .inl g_refused)), (a_this_s, .inl (cI, 39, .inl g_s)), (a_this_stepsFrom, .inl (cI, 36, .inl g_stepsFrom))] sz) (zQi (dC, dI) vwCl [(cI, .int), (cZ, .boolean)] r0 [(a_this, .inr (8, [.ref a_this_s, .ref a_this_image, .ref a_this_was, .int v_hasImage, .ref a_this_letters, .ref a_this_row, .ref a_this_refused, .int v_letterMany, .int v_rowMany, .int v_place, .ref a_this_numbers, .ref a_this_least, .ref a_this_stepsFrom, .ref a_this_most, .ref a_this_next, .ref a_this_otherSteps, .ref a_this_ahead, .ref a_this_now, .int v_seed])), (a_this_refused, .inl (cI, 7, .inl w0)), (a_this_s, .inl (cI, 39, .inl g_s)), (a_this_stepsFrom, .inl (cI, 36, .inl w1))] (va_A [(a_this, .inr (8, [.ref a_this_s, .ref a_this_image, .ref a_this_was, .int v_hasImage, .ref a_this_letters, .ref a_this_row, .ref a_this_refused, .int v_letterMany, .int v_rowMany, .int v_place, .ref a_this_numbers, .ref a_this_least, .ref a_this_stepsFrom, .ref a_this_most, .ref a_this_next, .ref a_this_otherSteps, .ref a_this_ahead, .ref a_this_now, .int v_seed])), (a_this_refused, .inl (cI, 7, .inl g_refused)), (a_this_s, .inl (cI, 39, .inl g_s)), (a_this_stepsFrom, .inl (cI, 36, .inl g_stepsFrom))] sz)) 0 0 (va_A [(a_this, .inr (8, [.ref a_this_s, .ref a_this_image, .ref a_this_was, .int v_hasImage, .ref a_this_letters, .ref a_this_row, .ref a_this_refused, .int v_letterMany, .int v_rowMany, .int v_place, .ref a_this_numbers, .ref a_this_least, .ref a_this_stepsFrom, .ref a_this_most, .ref a_this_next, .ref a_this_otherSteps, .ref a_this_ahead, .ref a_this_now, .int v_seed])), (a_this_refused, .inl (cI, 7, .inl g_refused)), (a_this_s, .inl (cI, 39, .inl g_s)), (a_this_stepsFrom, .inl (cI, 36, .inl g_stepsFrom))] sz) := by
  refine Met.ofW (cc := cX8_steps) (maxL := 3) (ret := (some .int)) (by decide) rfl ?_
  intro p e s m args below meth c s₁ B hml hv
  obtain ⟨rfl, hsz, hP, hK, hD0, hZ⟩ := hv
  have hx := B.exec
  have hb := B.bytes
  have hr := B.returns
  have hts := atoms_spec (ws := wsX8_steps) B.pre
  have hown : s.vm.findClass RX8 = some m.cls := findClass_of_methodNamed B.named
  have hlocks := B.notSynchronized
  subst hsz
  have hD := hD0.self (sz := s.heap.size)
  generalize hAe : va_A [(a_this, .inr (8, [.ref a_this_s, .ref a_this_image, .ref a_this_was, .int v_hasImage, .ref a_this_letters, .ref a_this_row, .ref a_this_refused, .int v_letterMany, .int v_rowMany, .int v_place, .ref a_this_numbers, .ref a_this_least, .ref a_this_stepsFrom, .ref a_this_most, .ref a_this_next, .ref a_this_otherSteps, .ref a_this_ahead, .ref a_this_now, .int v_seed])), (a_this_refused, .inl (cI, 7, .inl g_refused)), (a_this_s, .inl (cI, 39, .inl g_s)), (a_this_stepsFrom, .inl (cI, 36, .inl g_stepsFrom))] s.heap.size = A at hD hZ ⊢
  have hA : ∀ q : Nat, s.heap.size ≤ q → A q := fun q h => by rw [← hAe]; exact Or.inr h
  have hS : va_S A s.heap s.heap [] := va_S.rf
  have hP : va_P (dC, dI) vwCl [(a_this, .inr (8, [.ref a_this_s, .ref a_this_image, .ref a_this_was, .int v_hasImage, .ref a_this_letters, .ref a_this_row, .ref a_this_refused, .int v_letterMany, .int v_rowMany, .int v_place, .ref a_this_numbers, .ref a_this_least, .ref a_this_stepsFrom, .ref a_this_most, .ref a_this_next, .ref a_this_otherSteps, .ref a_this_ahead, .ref a_this_now, .int v_seed])), (a_this_refused, .inl (cI, 7, .inl g_refused)), (a_this_s, .inl (cI, 39, .inl g_s)), (a_this_stepsFrom, .inl (cI, 36, .inl g_stepsFrom))] s.heap := hP
  have hl := lv_entry ([.ref a_this, .int p1, .int p2]) (n := 3) (Nat.le_of_ble_eq_true rfl)
  rw [lg_entry_eq]
  generalize (lg_sl ([.ref a_this, .int p1, .int p2]) ++ List.replicate (3 - (lg_sl ([.ref a_this, .int p1, .int p2])).length) Slot.unset).toArray = ls at hl ⊢
  have hl : lv_has ls 3 [(0, .ref a_this), (1, .int p1), (2, .int p2)] := hl
  have he := hf
  unfold f_M_steps at he
  refine zstart (D := (dC, dI)) (cl := vwCl) (A := A) (nL := 3) (fun WW hWW => ?_)
  refine lv_iload_n hx hb dX8_steps_0 rfl (lv_at hl 1 rfl) ?_
  obtain ⟨r1, hf2, he⟩ := zb1_e he
  refine zc_i (wr := [(a_this, .inr (8, [.ref a_this_s, .ref a_this_image, .ref a_this_was, .int v_hasImage, .ref a_this_letters, .ref a_this_row, .ref a_this_refused, .int v_letterMany, .int v_rowMany, .int v_place, .ref a_this_numbers, .ref a_this_least, .ref a_this_stepsFrom, .ref a_this_most, .ref a_this_next, .ref a_this_otherSteps, .ref a_this_ahead, .ref a_this_now, .int v_seed])), (a_this_refused, .inl (cI, 7, .inl g_refused)), (a_this_s, .inl (cI, 39, .inl g_s)), (a_this_stepsFrom, .inl (cI, 36, .inl g_stepsFrom))]) (ws' := [(a_this, .inr (8, [.ref a_this_s, .ref a_this_image, .ref a_this_was, .int v_hasImage, .ref a_this_letters, .ref a_this_row, .ref a_this_refused, .int v_letterMany, .int v_rowMany, .int v_place, .ref a_this_numbers, .ref a_this_least, .ref a_this_stepsFrom, .ref a_this_most, .ref a_this_next, .ref a_this_otherSteps, .ref a_this_ahead, .ref a_this_now, .int v_seed])), (a_this_refused, .inl (cI, 7, .inl g_refused)), (a_this_s, .inl (cI, 39, .inl g_s)), (a_this_stepsFrom, .inl (cI, 36, .inl g_stepsFrom))]) (va_runS (As := [.int p1]) (rest := []) ⟨hx, hb, hml, hown, hts⟩ (k_M_isSquare l dC dI cI cZ tt sd s.heap.size p1 r1 hf2) (va_cwS 1 hts gX8_steps_X8_isSquare rfl rfl rfl (by decide +kernel) ⟨Nat.le_of_ble_eq_true rfl, Nat.le_of_ble_eq_true rfl⟩) (zpS hP hD hK hS hA hZ [] rfl rfl) rfl rfl hl.1 rfl (lv_room (Nat.le_of_ble_eq_true rfl)) dX8_steps_1 ⟨Nat.zero_le _, Nat.zero_le _⟩) hP hD hS hA [] [0, 1, 2, 3] [0, 1, 2, 3] rfl rfl rfl (by decide) rfl rfl rfl (fun H locs hP hD hS => ?_)
  refine zj1_w he (fun (_ : Unit) => WW [(a_this, .inr (8, [.ref a_this_s, .ref a_this_image, .ref a_this_was, .int v_hasImage, .ref a_this_letters, .ref a_this_row, .ref a_this_refused, .int v_letterMany, .int v_rowMany, .int v_place, .ref a_this_numbers, .ref a_this_least, .ref a_this_stepsFrom, .ref a_this_most, .ref a_this_next, .ref a_this_otherSteps, .ref a_this_ahead, .ref a_this_now, .int v_seed])), (a_this_refused, .inl (cI, 7, .inl g_refused)), (a_this_s, .inl (cI, 39, .inl g_s)), (a_this_stepsFrom, .inl (cI, 36, .inl g_stepsFrom))] [(0, .ref a_this)] 14 []) (fun _ he => (hWW _ _ _ _).mpr (fun H locs ls hP hD hS hl => ?_)) (fun k6 hk6 he => ?_)
  · refine lv_aload_n hx hb dX8_steps_14 rfl (lv_at hl 0 rfl) ?_
    refine lv_iconst (v := (-1 : Int32)) hx hb dX8_steps_15 (by decide) ?_
    obtain ⟨r3, g_refused_4, hf5, he⟩ := zb2_e he
    refine zc_i (wr := [(a_this_s, .inl (cI, 39, .inl g_s)), (a_this_stepsFrom, .inl (cI, 36, .inl g_stepsFrom))]) (ws' := [(a_this, .inr (8, [.ref a_this_s, .ref a_this_image, .ref a_this_was, .int v_hasImage, .ref a_this_letters, .ref a_this_row, .ref a_this_refused, .int v_letterMany, .int v_rowMany, .int v_place, .ref a_this_numbers, .ref a_this_least, .ref a_this_stepsFrom, .ref a_this_most, .ref a_this_next, .ref a_this_otherSteps, .ref a_this_ahead, .ref a_this_now, .int v_seed])), (a_this_refused, .inl (cI, 7, .inl g_refused_4)), (a_this_s, .inl (cI, 39, .inl g_s)), (a_this_stepsFrom, .inl (cI, 36, .inl g_stepsFrom))]) (va_runV (As := [.int (-1 : Int32)]) (rest := []) ⟨hx, hb, hml, hown, hts⟩ (k_M_no l dC dI cI cZ tt sd a_this a_this_s a_this_image a_this_was a_this_letters a_this_row a_this_refused a_this_numbers a_this_least a_this_stepsFrom a_this_most a_this_next a_this_otherSteps a_this_ahead a_this_now H.size v_hasImage v_letterMany v_rowMany v_place v_seed g_refused (-1 : Int32) r3 g_refused_4 hf5) (cwV 1 hts gX8_steps_X8_no rfl rfl rfl (by decide +kernel) ⟨Nat.le_of_ble_eq_true rfl, Nat.le_of_ble_eq_true rfl⟩) (zpV hP hD hK hS hA hZ [0, 1] rfl rfl 8 0 rfl rfl) rfl rfl hl.1 rfl (lv_room (Nat.le_of_ble_eq_true rfl)) dX8_steps_16 ⟨Nat.zero_le _, Nat.zero_le _⟩) hP hD hS hA [0, 1] [2, 3] [2, 3, 0, 1] rfl rfl rfl (by decide) rfl rfl rfl (fun H locs hP hD hS => ?_)
    obtain ⟨rfl, rfl, rfl⟩ := zi3 he
    exact W.iret hx hb hr (fun t ht hW => ⟨⟨_, (), rfl, rfl, by rw [ht]; exact hP, va_K.moved hW.alike hK, hD⟩, hS.F ht⟩) hS.2.2 dX8_steps_19
  refine lv_if_eq (tgt := 14) hx hb dX8_steps_4 (by decide) (fun c7 => ?_) (fun c7 => ?_)
  · have he := zif_t c7 he
    exact (hWW _ _ _ _).mp (hk6 () he) _ _ _ hP hD hS (lv_sub hl [0] rfl)
  · have he := zif_f c7 he
    refine lv_iload_n hx hb dX8_steps_7 rfl (lv_at hl 2 rfl) ?_
    obtain ⟨r8, hf9, he⟩ := zb1_e he
    refine zc_i (wr := [(a_this, .inr (8, [.ref a_this_s, .ref a_this_image, .ref a_this_was, .int v_hasImage, .ref a_this_letters, .ref a_this_row, .ref a_this_refused, .int v_letterMany, .int v_rowMany, .int v_place, .ref a_this_numbers, .ref a_this_least, .ref a_this_stepsFrom, .ref a_this_most, .ref a_this_next, .ref a_this_otherSteps, .ref a_this_ahead, .ref a_this_now, .int v_seed])), (a_this_refused, .inl (cI, 7, .inl g_refused)), (a_this_s, .inl (cI, 39, .inl g_s)), (a_this_stepsFrom, .inl (cI, 36, .inl g_stepsFrom))]) (ws' := [(a_this, .inr (8, [.ref a_this_s, .ref a_this_image, .ref a_this_was, .int v_hasImage, .ref a_this_letters, .ref a_this_row, .ref a_this_refused, .int v_letterMany, .int v_rowMany, .int v_place, .ref a_this_numbers, .ref a_this_least, .ref a_this_stepsFrom, .ref a_this_most, .ref a_this_next, .ref a_this_otherSteps, .ref a_this_ahead, .ref a_this_now, .int v_seed])), (a_this_refused, .inl (cI, 7, .inl g_refused)), (a_this_s, .inl (cI, 39, .inl g_s)), (a_this_stepsFrom, .inl (cI, 36, .inl g_stepsFrom))]) (va_runS (As := [.int p2]) (rest := []) ⟨hx, hb, hml, hown, hts⟩ (k_M_isSquare l dC dI cI cZ tt sd H.size p2 r8 hf9) (va_cwS 1 hts gX8_steps_X8_isSquare rfl rfl rfl (by decide +kernel) ⟨Nat.le_of_ble_eq_true rfl, Nat.le_of_ble_eq_true rfl⟩) (zpS hP hD hK hS hA hZ [] rfl rfl) rfl rfl hl.1 rfl (lv_room (Nat.le_of_ble_eq_true rfl)) dX8_steps_8 ⟨Nat.zero_le _, Nat.zero_le _⟩) hP hD hS hA [] [0, 1, 2, 3] [0, 1, 2, 3] rfl rfl rfl (by decide) rfl rfl rfl (fun H locs hP hD hS => ?_)
    refine lv_if_ne (tgt := 20) hx hb dX8_steps_11 (by decide) (fun c10 => ?_) (fun c10 => ?_)
    · have he := zif_f c10 he
      refine lv_aload_n hx hb dX8_steps_20 rfl (lv_at hl 0 rfl) ?_
      refine lv_iload_n hx hb dX8_steps_21 rfl (lv_at hl 1 rfl) ?_
      obtain ⟨g_stepsFrom_11, hf12, he⟩ := zb1_e he
      refine zc_v (wr := [(a_this_refused, .inl (cI, 7, .inl g_refused))]) (ws' := [(a_this, .inr (8, [.ref a_this_s, .ref a_this_image, .ref a_this_was, .int v_hasImage, .ref a_this_letters, .ref a_this_row, .ref a_this_refused, .int v_letterMany, .int v_rowMany, .int v_place, .ref a_this_numbers, .ref a_this_least, .ref a_this_stepsFrom, .ref a_this_most, .ref a_this_next, .ref a_this_otherSteps, .ref a_this_ahead, .ref a_this_now, .int v_seed])), (a_this_refused, .inl (cI, 7, .inl g_refused)), (a_this_s, .inl (cI, 39, .inl g_s)), (a_this_stepsFrom, .inl (cI, 36, .inl g_stepsFrom_11))]) (va_runV (As := [.int p1]) (rest := []) ⟨hx, hb, hml, hown, hts⟩ (k_M_stepsAll l dC dI cI cZ tt sd a_this a_this_s a_this_image a_this_was a_this_letters a_this_row a_this_refused a_this_numbers a_this_least a_this_stepsFrom a_this_most a_this_next a_this_otherSteps a_this_ahead a_this_now H.size v_hasImage v_letterMany v_rowMany v_place v_seed g_s g_stepsFrom p1 g_stepsFrom_11 hf12) (cwV 1 hts gX8_steps_X8_stepsAll rfl rfl rfl (by decide +kernel) ⟨Nat.le_of_ble_eq_true rfl, Nat.le_of_ble_eq_true rfl⟩) (zpV hP hD hK hS hA hZ [0, 2, 3] rfl rfl 8 0 rfl rfl) rfl rfl hl.1 rfl (lv_room (Nat.le_of_ble_eq_true rfl)) dX8_steps_22 ⟨Nat.zero_le _, Nat.zero_le _⟩) hP hD hS hA [0, 2, 3] [1] [1, 0, 2, 3] rfl rfl rfl (by decide) rfl rfl rfl (fun H locs hP hD hS => ?_)
      refine lv_aload_n hx hb dX8_steps_25 rfl (lv_at hl 0 rfl) ?_
      refine va_get (D := (dC, dI)) (ci := 8) (v := .ref a_this_stepsFrom) (C := RX8) (T := TX8) (N := 19) hx hb hts (by decide +kernel) hown hK hP 0 rfl rfl 12 (by decide) (hts (.fieldLink RX8 34 "LawOfCornersModel" "stepsFrom" "[I") (by decide +kernel)) (fun _ h9 => h9) rfl dX8_steps_26 ?_
      refine lv_iload_n hx hb dX8_steps_29 rfl (lv_at hl 2 rfl) ?_
      obtain ⟨hg13, he⟩ := zg_e he
      refine va_iald hx hb hK hP 3 0 rfl rfl hg13 dX8_steps_30 ?_
      obtain ⟨r14, hf15, he⟩ := zb1_e he
      refine zc_i (wr := [(a_this, .inr (8, [.ref a_this_s, .ref a_this_image, .ref a_this_was, .int v_hasImage, .ref a_this_letters, .ref a_this_row, .ref a_this_refused, .int v_letterMany, .int v_rowMany, .int v_place, .ref a_this_numbers, .ref a_this_least, .ref a_this_stepsFrom, .ref a_this_most, .ref a_this_next, .ref a_this_otherSteps, .ref a_this_ahead, .ref a_this_now, .int v_seed])), (a_this_refused, .inl (cI, 7, .inl g_refused)), (a_this_s, .inl (cI, 39, .inl g_s)), (a_this_stepsFrom, .inl (cI, 36, .inl g_stepsFrom_11))]) (ws' := [(a_this, .inr (8, [.ref a_this_s, .ref a_this_image, .ref a_this_was, .int v_hasImage, .ref a_this_letters, .ref a_this_row, .ref a_this_refused, .int v_letterMany, .int v_rowMany, .int v_place, .ref a_this_numbers, .ref a_this_least, .ref a_this_stepsFrom, .ref a_this_most, .ref a_this_next, .ref a_this_otherSteps, .ref a_this_ahead, .ref a_this_now, .int v_seed])), (a_this_refused, .inl (cI, 7, .inl g_refused)), (a_this_s, .inl (cI, 39, .inl g_s)), (a_this_stepsFrom, .inl (cI, 36, .inl g_stepsFrom_11))]) (va_runS (As := [.int (g_stepsFrom_11 p2.toNatClampNeg)]) (rest := []) ⟨hx, hb, hml, hown, hts⟩ (k_M_orNone l dC dI cI cZ tt sd H.size (g_stepsFrom_11 p2.toNatClampNeg) r14 hf15) (va_cwS 1 hts gX8_steps_X8_orNone rfl rfl rfl (by decide +kernel) ⟨Nat.le_of_ble_eq_true rfl, Nat.le_of_ble_eq_true rfl⟩) (zpS hP hD hK hS hA hZ [] rfl rfl) rfl rfl hl.1 rfl (lv_room (Nat.le_of_ble_eq_true rfl)) dX8_steps_31 ⟨Nat.zero_le _, Nat.zero_le _⟩) hP hD hS hA [] [0, 1, 2, 3] [0, 1, 2, 3] rfl rfl rfl (by decide) rfl rfl rfl (fun H locs hP hD hS => ?_)
      obtain ⟨rfl, rfl, rfl⟩ := zi3 he
      exact W.iret hx hb hr (fun t ht hW => ⟨⟨_, (), rfl, rfl, by rw [ht]; exact hP, va_K.moved hW.alike hK, hD⟩, hS.F ht⟩) hS.2.2 dX8_steps_34
    · have he := zif_t c10 he
      exact (hWW _ _ _ _).mp (hk6 () he) _ _ _ hP hD hS (lv_sub hl [0] rfl)
set_option maxHeartbeats 4000000 in
set_option maxRecDepth 100000 in
theorem k_M_costOf (l : Launch) (dC : Nat → ClassId) (dI : Nat → Nat → Nat) (cI : ClassId) (cZ : ClassId) (tt : Nat → Nat) (sd : Nat → Nat) (a_this : Nat) (a_this_s : Nat) (a_this_image : Nat) (a_this_was : Nat) (a_this_letters : Nat) (a_this_row : Nat) (a_this_refused : Nat) (a_this_numbers : Nat) (a_this_least : Nat) (a_this_stepsFrom : Nat) (a_this_most : Nat) (a_this_next : Nat) (a_this_otherSteps : Nat) (a_this_ahead : Nat) (a_this_now : Nat) (sz : Nat) (v_hasImage : Int32) (v_letterMany : Int32) (v_rowMany : Int32) (v_place : Int32) (v_seed : Int32) (g_s : Nat → Int32) (p1 : Int32) (p2 : Int32) (p3 : Int32) (p4 : Int32) (r0 : Int32) (hf : f_M_costOf g_s p1 p2 p3 p4 = some (r0)) : Met l yX8_costOf wsX8_costOf ({ frames := 3, cells := 0, slots := 0, locals := 67 }) (zPre (dC, dI) vwCl [(cI, .int), (cZ, .boolean)] tt sd [.ref a_this, .int p1, .int p2, .int p3, .int p4] [(a_this, .inr (8, [.ref a_this_s, .ref a_this_image, .ref a_this_was, .int v_hasImage, .ref a_this_letters, .ref a_this_row, .ref a_this_refused, .int v_letterMany, .int v_rowMany, .int v_place, .ref a_this_numbers, .ref a_this_least, .ref a_this_stepsFrom, .ref a_this_most, .ref a_this_next, .ref a_this_otherSteps, .ref a_this_ahead, .ref a_this_now, .int v_seed])), (a_this_s, .inl (cI, 39, .inl g_s))] sz) (zQi (dC, dI) vwCl [(cI, .int), (cZ, .boolean)] r0 [(a_this, .inr (8, [.ref a_this_s, .ref a_this_image, .ref a_this_was, .int v_hasImage, .ref a_this_letters, .ref a_this_row, .ref a_this_refused, .int v_letterMany, .int v_rowMany, .int v_place, .ref a_this_numbers, .ref a_this_least, .ref a_this_stepsFrom, .ref a_this_most, .ref a_this_next, .ref a_this_otherSteps, .ref a_this_ahead, .ref a_this_now, .int v_seed])), (a_this_s, .inl (cI, 39, .inl g_s))] (va_A [(a_this, .inr (8, [.ref a_this_s, .ref a_this_image, .ref a_this_was, .int v_hasImage, .ref a_this_letters, .ref a_this_row, .ref a_this_refused, .int v_letterMany, .int v_rowMany, .int v_place, .ref a_this_numbers, .ref a_this_least, .ref a_this_stepsFrom, .ref a_this_most, .ref a_this_next, .ref a_this_otherSteps, .ref a_this_ahead, .ref a_this_now, .int v_seed])), (a_this_s, .inl (cI, 39, .inl g_s))] sz)) 0 0 (va_A [(a_this, .inr (8, [.ref a_this_s, .ref a_this_image, .ref a_this_was, .int v_hasImage, .ref a_this_letters, .ref a_this_row, .ref a_this_refused, .int v_letterMany, .int v_rowMany, .int v_place, .ref a_this_numbers, .ref a_this_least, .ref a_this_stepsFrom, .ref a_this_most, .ref a_this_next, .ref a_this_otherSteps, .ref a_this_ahead, .ref a_this_now, .int v_seed])), (a_this_s, .inl (cI, 39, .inl g_s))] sz) := by
  refine Met.ofW (cc := cX8_costOf) (maxL := 5) (ret := (some .int)) (by decide) rfl ?_
  intro p e s m args below meth c s₁ B hml hv
  obtain ⟨rfl, hsz, hP, hK, hD0, hZ⟩ := hv
  have hx := B.exec
  have hb := B.bytes
  have hr := B.returns
  have hts := atoms_spec (ws := wsX8_costOf) B.pre
  have hown : s.vm.findClass RX8 = some m.cls := findClass_of_methodNamed B.named
  have hlocks := B.notSynchronized
  subst hsz
  have hD := hD0.self (sz := s.heap.size)
  generalize hAe : va_A [(a_this, .inr (8, [.ref a_this_s, .ref a_this_image, .ref a_this_was, .int v_hasImage, .ref a_this_letters, .ref a_this_row, .ref a_this_refused, .int v_letterMany, .int v_rowMany, .int v_place, .ref a_this_numbers, .ref a_this_least, .ref a_this_stepsFrom, .ref a_this_most, .ref a_this_next, .ref a_this_otherSteps, .ref a_this_ahead, .ref a_this_now, .int v_seed])), (a_this_s, .inl (cI, 39, .inl g_s))] s.heap.size = A at hD hZ ⊢
  have hA : ∀ q : Nat, s.heap.size ≤ q → A q := fun q h => by rw [← hAe]; exact Or.inr h
  have hS : va_S A s.heap s.heap [] := va_S.rf
  have hP : va_P (dC, dI) vwCl [(a_this, .inr (8, [.ref a_this_s, .ref a_this_image, .ref a_this_was, .int v_hasImage, .ref a_this_letters, .ref a_this_row, .ref a_this_refused, .int v_letterMany, .int v_rowMany, .int v_place, .ref a_this_numbers, .ref a_this_least, .ref a_this_stepsFrom, .ref a_this_most, .ref a_this_next, .ref a_this_otherSteps, .ref a_this_ahead, .ref a_this_now, .int v_seed])), (a_this_s, .inl (cI, 39, .inl g_s))] s.heap := hP
  have hl := lv_entry ([.ref a_this, .int p1, .int p2, .int p3, .int p4]) (n := 5) (Nat.le_of_ble_eq_true rfl)
  rw [lg_entry_eq]
  generalize (lg_sl ([.ref a_this, .int p1, .int p2, .int p3, .int p4]) ++ List.replicate (5 - (lg_sl ([.ref a_this, .int p1, .int p2, .int p3, .int p4])).length) Slot.unset).toArray = ls at hl ⊢
  have hl : lv_has ls 5 [(0, .ref a_this), (1, .int p1), (2, .int p2), (3, .int p3), (4, .int p4)] := hl
  have he := hf
  unfold f_M_costOf at he
  refine zstart (D := (dC, dI)) (cl := vwCl) (A := A) (nL := 5) (fun WW hWW => ?_)
  refine lv_iload hx hb dX8_costOf_0 (lv_at hl 4 rfl) ?_
  refine lv_if_eq (tgt := 29) hx hb dX8_costOf_2 (by decide) (fun c1 => ?_) (fun c1 => ?_)
  · have he := zif_t c1 he
    refine lv_aload_n hx hb dX8_costOf_29 rfl (lv_at hl 0 rfl) ?_
    refine lv_iload_n hx hb dX8_costOf_30 rfl (lv_at hl 1 rfl) ?_
    refine lv_iload_n hx hb dX8_costOf_31 rfl (lv_at hl 2 rfl) ?_
    refine lv_iload_n hx hb dX8_costOf_32 rfl (lv_at hl 3 rfl) ?_
    obtain ⟨r2, hf3, he⟩ := zb1_e he
    refine zc_i (wr := []) (ws' := [(a_this, .inr (8, [.ref a_this_s, .ref a_this_image, .ref a_this_was, .int v_hasImage, .ref a_this_letters, .ref a_this_row, .ref a_this_refused, .int v_letterMany, .int v_rowMany, .int v_place, .ref a_this_numbers, .ref a_this_least, .ref a_this_stepsFrom, .ref a_this_most, .ref a_this_next, .ref a_this_otherSteps, .ref a_this_ahead, .ref a_this_now, .int v_seed])), (a_this_s, .inl (cI, 39, .inl g_s))]) (va_runV (As := [.int p1, .int p2, .int p3]) (rest := []) ⟨hx, hb, hml, hown, hts⟩ (k_M_isCorner l dC dI cI cZ tt sd a_this a_this_s a_this_image a_this_was a_this_letters a_this_row a_this_refused a_this_numbers a_this_least a_this_stepsFrom a_this_most a_this_next a_this_otherSteps a_this_ahead a_this_now s.heap.size v_hasImage v_letterMany v_rowMany v_place v_seed g_s p1 p2 p3 r2 hf3) (cwV 3 hts gX8_costOf_X8_isCorner rfl rfl rfl (by decide +kernel) ⟨Nat.le_of_ble_eq_true rfl, Nat.le_of_ble_eq_true rfl⟩) (zpV hP hD hK hS hA hZ [0, 1] rfl rfl 8 0 rfl rfl) rfl rfl hl.1 rfl (lv_room (Nat.le_of_ble_eq_true rfl)) dX8_costOf_33 ⟨Nat.zero_le _, Nat.zero_le _⟩) hP hD hS hA [0, 1] [] [0, 1] rfl rfl rfl (by decide) rfl rfl rfl (fun H locs hP hD hS => ?_)
    refine zj1_w he (fun (s4 : Int32) => WW [(a_this, .inr (8, [.ref a_this_s, .ref a_this_image, .ref a_this_was, .int v_hasImage, .ref a_this_letters, .ref a_this_row, .ref a_this_refused, .int v_letterMany, .int v_rowMany, .int v_place, .ref a_this_numbers, .ref a_this_least, .ref a_this_stepsFrom, .ref a_this_most, .ref a_this_next, .ref a_this_otherSteps, .ref a_this_ahead, .ref a_this_now, .int v_seed])), (a_this_s, .inl (cI, 39, .inl g_s))] [] 46 [.int s4]) (fun s4 he => (hWW _ _ _ _).mpr (fun H locs ls hP hD hS hl => ?_)) (fun k5 hk5 he => ?_)
    · refine lv_iconst (v := (1 : Int32)) hx hb dX8_costOf_46 (by decide) ?_
      refine lv_iadd hx hb dX8_costOf_47 ?_
      obtain ⟨rfl⟩ := zi1 he
      exact W.iret hx hb hr (fun t ht hW => ⟨⟨_, (), rfl, rfl, by rw [ht]; exact hP, va_K.moved hW.alike hK, hD⟩, hS.F ht⟩) hS.2.2 dX8_costOf_48
    refine lv_if_eq (tgt := 45) hx hb dX8_costOf_36 (by decide) (fun c6 => ?_) (fun c6 => ?_)
    · have he := zif_t c6 he
      refine lv_iconst (v := (0 : Int32)) hx hb dX8_costOf_45 (by decide) ?_
      exact (hWW _ _ _ _).mp (hk5 (0 : Int32) he) _ _ _ hP hD hS (lv_sub hl [] rfl)
    · have he := zif_f c6 he
      refine lv_sipush (v := (1000 : Int32)) hx hb dX8_costOf_39 (by decide) ?_
      refine lv_goto (tgt := 46) hx hb dX8_costOf_42 (by decide) ?_
      exact (hWW _ _ _ _).mp (hk5 (1000 : Int32) he) _ _ _ hP hD hS (lv_sub hl [] rfl)
  · have he := zif_f c1 he
    refine lv_aload_n hx hb dX8_costOf_5 rfl (lv_at hl 0 rfl) ?_
    refine lv_iload_n hx hb dX8_costOf_6 rfl (lv_at hl 1 rfl) ?_
    refine lv_iload_n hx hb dX8_costOf_7 rfl (lv_at hl 2 rfl) ?_
    refine lv_iload_n hx hb dX8_costOf_8 rfl (lv_at hl 3 rfl) ?_
    obtain ⟨r7, hf8, he⟩ := zb1_e he
    refine zc_i (wr := []) (ws' := [(a_this, .inr (8, [.ref a_this_s, .ref a_this_image, .ref a_this_was, .int v_hasImage, .ref a_this_letters, .ref a_this_row, .ref a_this_refused, .int v_letterMany, .int v_rowMany, .int v_place, .ref a_this_numbers, .ref a_this_least, .ref a_this_stepsFrom, .ref a_this_most, .ref a_this_next, .ref a_this_otherSteps, .ref a_this_ahead, .ref a_this_now, .int v_seed])), (a_this_s, .inl (cI, 39, .inl g_s))]) (va_runV (As := [.int p1, .int p2, .int p3]) (rest := []) ⟨hx, hb, hml, hown, hts⟩ (k_M_saidOn l dC dI cI cZ tt sd a_this a_this_s a_this_image a_this_was a_this_letters a_this_row a_this_refused a_this_numbers a_this_least a_this_stepsFrom a_this_most a_this_next a_this_otherSteps a_this_ahead a_this_now s.heap.size v_hasImage v_letterMany v_rowMany v_place v_seed g_s p1 p2 p3 r7 hf8) (cwV 3 hts gX8_costOf_X8_saidOn rfl rfl rfl (by decide +kernel) ⟨Nat.le_of_ble_eq_true rfl, Nat.le_of_ble_eq_true rfl⟩) (zpV hP hD hK hS hA hZ [0, 1] rfl rfl 8 0 rfl rfl) rfl rfl hl.1 rfl (lv_room (Nat.le_of_ble_eq_true rfl)) dX8_costOf_9 ⟨Nat.zero_le _, Nat.zero_le _⟩) hP hD hS hA [0, 1] [] [0, 1] rfl rfl rfl (by decide) rfl rfl rfl (fun H locs hP hD hS => ?_)
    refine lv_aload_n hx hb dX8_costOf_12 rfl (lv_at hl 0 rfl) ?_
    refine va_get (D := (dC, dI)) (ci := 8) (v := .ref a_this_s) (C := RX8) (T := TX8) (N := 19) hx hb hts (by decide +kernel) hown hK hP 0 rfl rfl 0 (by decide) (hts (.fieldLink RX8 9 "LawOfCornersModel" "s" "[I") (by decide +kernel)) (fun _ h9 => h9) rfl dX8_costOf_13 ?_
    refine lv_bipush (v := (37 : Int32)) hx hb dX8_costOf_16 (by decide) ?_
    obtain ⟨hg9, he⟩ := zg_e he
    refine va_iald hx hb hK hP 1 0 rfl rfl hg9 dX8_costOf_18 ?_
    refine lv_imul hx hb dX8_costOf_19 ?_
    refine lv_aload_n hx hb dX8_costOf_20 rfl (lv_at hl 0 rfl) ?_
    refine lv_iload_n hx hb dX8_costOf_21 rfl (lv_at hl 1 rfl) ?_
    obtain ⟨r10, hf11, he⟩ := zb1_e he
    refine zc_i (wr := []) (ws' := [(a_this, .inr (8, [.ref a_this_s, .ref a_this_image, .ref a_this_was, .int v_hasImage, .ref a_this_letters, .ref a_this_row, .ref a_this_refused, .int v_letterMany, .int v_rowMany, .int v_place, .ref a_this_numbers, .ref a_this_least, .ref a_this_stepsFrom, .ref a_this_most, .ref a_this_next, .ref a_this_otherSteps, .ref a_this_ahead, .ref a_this_now, .int v_seed])), (a_this_s, .inl (cI, 39, .inl g_s))]) (va_runV (As := [.int p1]) (rest := [.int (r7 * (g_s (37 : Int32).toNatClampNeg))]) ⟨hx, hb, hml, hown, hts⟩ (k_M_heardBy l dC dI cI cZ tt sd a_this a_this_s a_this_image a_this_was a_this_letters a_this_row a_this_refused a_this_numbers a_this_least a_this_stepsFrom a_this_most a_this_next a_this_otherSteps a_this_ahead a_this_now H.size v_hasImage v_letterMany v_rowMany v_place v_seed g_s p1 r10 hf11) (cwV 1 hts gX8_costOf_X8_heardBy rfl rfl rfl (by decide +kernel) ⟨Nat.le_of_ble_eq_true rfl, Nat.le_of_ble_eq_true rfl⟩) (zpV hP hD hK hS hA hZ [0, 1] rfl rfl 8 0 rfl rfl) rfl rfl hl.1 rfl (lv_room (Nat.le_of_ble_eq_true rfl)) dX8_costOf_22 ⟨Nat.zero_le _, Nat.zero_le _⟩) hP hD hS hA [0, 1] [] [0, 1] rfl rfl rfl (by decide) rfl rfl rfl (fun H locs hP hD hS => ?_)
    refine lv_imul hx hb dX8_costOf_25 ?_
    refine lv_goto (tgt := 48) hx hb dX8_costOf_26 (by decide) ?_
    obtain ⟨rfl⟩ := zi1 he
    exact W.iret hx hb hr (fun t ht hW => ⟨⟨_, (), rfl, rfl, by rw [ht]; exact hP, va_K.moved hW.alike hK, hD⟩, hS.F ht⟩) hS.2.2 dX8_costOf_48
set_option maxHeartbeats 4000000 in
set_option maxRecDepth 100000 in
theorem k_M_leastAll (l : Launch) (dC : Nat → ClassId) (dI : Nat → Nat → Nat) (cI : ClassId) (cZ : ClassId) (tt : Nat → Nat) (sd : Nat → Nat) (a_this : Nat) (a_this_s : Nat) (a_this_image : Nat) (a_this_was : Nat) (a_this_letters : Nat) (a_this_row : Nat) (a_this_refused : Nat) (a_this_numbers : Nat) (a_this_least : Nat) (a_this_stepsFrom : Nat) (a_this_most : Nat) (a_this_next : Nat) (a_this_otherSteps : Nat) (a_this_ahead : Nat) (a_this_now : Nat) (sz : Nat) (v_hasImage : Int32) (v_letterMany : Int32) (v_rowMany : Int32) (v_place : Int32) (v_seed : Int32) (g_least : Nat → Int32) (g_s : Nat → Int32) (p1 : Int32) (p2 : Int32) (p3 : Int32) (w0 : Nat → Int32) (hf : f_M_leastAll g_least g_s p1 p2 p3 = some (w0)) : Met l yX8_leastAll wsX8_leastAll ({ frames := 4, cells := 0, slots := 0, locals := 91 }) (zPre (dC, dI) vwCl [(cI, .int), (cZ, .boolean)] tt sd [.ref a_this, .int p1, .int p2, .int p3] [(a_this, .inr (8, [.ref a_this_s, .ref a_this_image, .ref a_this_was, .int v_hasImage, .ref a_this_letters, .ref a_this_row, .ref a_this_refused, .int v_letterMany, .int v_rowMany, .int v_place, .ref a_this_numbers, .ref a_this_least, .ref a_this_stepsFrom, .ref a_this_most, .ref a_this_next, .ref a_this_otherSteps, .ref a_this_ahead, .ref a_this_now, .int v_seed])), (a_this_least, .inl (cI, 180, .inl g_least)), (a_this_s, .inl (cI, 39, .inl g_s))] sz) (zQv (dC, dI) vwCl [(cI, .int), (cZ, .boolean)] [(a_this, .inr (8, [.ref a_this_s, .ref a_this_image, .ref a_this_was, .int v_hasImage, .ref a_this_letters, .ref a_this_row, .ref a_this_refused, .int v_letterMany, .int v_rowMany, .int v_place, .ref a_this_numbers, .ref a_this_least, .ref a_this_stepsFrom, .ref a_this_most, .ref a_this_next, .ref a_this_otherSteps, .ref a_this_ahead, .ref a_this_now, .int v_seed])), (a_this_least, .inl (cI, 180, .inl w0)), (a_this_s, .inl (cI, 39, .inl g_s))] (va_A [(a_this, .inr (8, [.ref a_this_s, .ref a_this_image, .ref a_this_was, .int v_hasImage, .ref a_this_letters, .ref a_this_row, .ref a_this_refused, .int v_letterMany, .int v_rowMany, .int v_place, .ref a_this_numbers, .ref a_this_least, .ref a_this_stepsFrom, .ref a_this_most, .ref a_this_next, .ref a_this_otherSteps, .ref a_this_ahead, .ref a_this_now, .int v_seed])), (a_this_least, .inl (cI, 180, .inl g_least)), (a_this_s, .inl (cI, 39, .inl g_s))] sz)) 0 0 (va_A [(a_this, .inr (8, [.ref a_this_s, .ref a_this_image, .ref a_this_was, .int v_hasImage, .ref a_this_letters, .ref a_this_row, .ref a_this_refused, .int v_letterMany, .int v_rowMany, .int v_place, .ref a_this_numbers, .ref a_this_least, .ref a_this_stepsFrom, .ref a_this_most, .ref a_this_next, .ref a_this_otherSteps, .ref a_this_ahead, .ref a_this_now, .int v_seed])), (a_this_least, .inl (cI, 180, .inl g_least)), (a_this_s, .inl (cI, 39, .inl g_s))] sz) := by
  refine Met.ofW (cc := cX8_leastAll) (maxL := 10) (ret := none) (by decide) rfl ?_
  intro p e s m args below meth c s₁ B hml hv
  obtain ⟨rfl, hsz, hP, hK, hD0, hZ⟩ := hv
  have hx := B.exec
  have hb := B.bytes
  have hr := B.returns
  have hts := atoms_spec (ws := wsX8_leastAll) B.pre
  have hown : s.vm.findClass RX8 = some m.cls := findClass_of_methodNamed B.named
  have hlocks := B.notSynchronized
  subst hsz
  have hD := hD0.self (sz := s.heap.size)
  generalize hAe : va_A [(a_this, .inr (8, [.ref a_this_s, .ref a_this_image, .ref a_this_was, .int v_hasImage, .ref a_this_letters, .ref a_this_row, .ref a_this_refused, .int v_letterMany, .int v_rowMany, .int v_place, .ref a_this_numbers, .ref a_this_least, .ref a_this_stepsFrom, .ref a_this_most, .ref a_this_next, .ref a_this_otherSteps, .ref a_this_ahead, .ref a_this_now, .int v_seed])), (a_this_least, .inl (cI, 180, .inl g_least)), (a_this_s, .inl (cI, 39, .inl g_s))] s.heap.size = A at hD hZ ⊢
  have hA : ∀ q : Nat, s.heap.size ≤ q → A q := fun q h => by rw [← hAe]; exact Or.inr h
  have hS : va_S A s.heap s.heap [] := va_S.rf
  have hP : va_P (dC, dI) vwCl [(a_this, .inr (8, [.ref a_this_s, .ref a_this_image, .ref a_this_was, .int v_hasImage, .ref a_this_letters, .ref a_this_row, .ref a_this_refused, .int v_letterMany, .int v_rowMany, .int v_place, .ref a_this_numbers, .ref a_this_least, .ref a_this_stepsFrom, .ref a_this_most, .ref a_this_next, .ref a_this_otherSteps, .ref a_this_ahead, .ref a_this_now, .int v_seed])), (a_this_least, .inl (cI, 180, .inl g_least)), (a_this_s, .inl (cI, 39, .inl g_s))] s.heap := hP
  have hl := lv_entry ([.ref a_this, .int p1, .int p2, .int p3]) (n := 10) (Nat.le_of_ble_eq_true rfl)
  rw [lg_entry_eq]
  generalize (lg_sl ([.ref a_this, .int p1, .int p2, .int p3]) ++ List.replicate (10 - (lg_sl ([.ref a_this, .int p1, .int p2, .int p3])).length) Slot.unset).toArray = ls at hl ⊢
  have hl : lv_has ls 10 [(0, .ref a_this), (1, .int p1), (2, .int p2), (3, .int p3)] := hl
  have he := hf
  unfold f_M_leastAll at he
  refine zstart (D := (dC, dI)) (cl := vwCl) (A := A) (nL := 10) (fun WW hWW => ?_)
  refine lv_iconst (v := (0 : Int32)) hx hb dX8_leastAll_0 (by decide) ?_
  refine lv_istore (lv' := [(4, .int (0 : Int32)), (0, .ref a_this), (1, .int p1), (2, .int p2), (3, .int p3)]) hx hb dX8_leastAll_1 hl (by decide) rfl (fun ls hl => ?_)
  refine zj1_w he (fun (g_least_1 : Nat → Int32) => WW [(a_this, .inr (8, [.ref a_this_s, .ref a_this_image, .ref a_this_was, .int v_hasImage, .ref a_this_letters, .ref a_this_row, .ref a_this_refused, .int v_letterMany, .int v_rowMany, .int v_place, .ref a_this_numbers, .ref a_this_least, .ref a_this_stepsFrom, .ref a_this_most, .ref a_this_next, .ref a_this_otherSteps, .ref a_this_ahead, .ref a_this_now, .int v_seed])), (a_this_least, .inl (cI, 180, .inl g_least_1)), (a_this_s, .inl (cI, 39, .inl g_s))] [(0, .ref a_this), (1, .int p1), (2, .int p2), (3, .int p3)] 26 []) (fun g_least_1 he => (hWW _ _ _ _).mpr (fun H locs ls hP hD hS hl => ?_)) (fun k68 hk68 he => ?_)
  · refine lv_aload_n hx hb dX8_leastAll_26 rfl (lv_at hl 0 rfl) ?_
    refine lv_iload_n hx hb dX8_leastAll_27 rfl (lv_at hl 1 rfl) ?_
    obtain ⟨r2, hf3, he⟩ := zb1_e he
    refine zc_i (wr := [(a_this_least, .inl (cI, 180, .inl g_least_1))]) (ws' := [(a_this, .inr (8, [.ref a_this_s, .ref a_this_image, .ref a_this_was, .int v_hasImage, .ref a_this_letters, .ref a_this_row, .ref a_this_refused, .int v_letterMany, .int v_rowMany, .int v_place, .ref a_this_numbers, .ref a_this_least, .ref a_this_stepsFrom, .ref a_this_most, .ref a_this_next, .ref a_this_otherSteps, .ref a_this_ahead, .ref a_this_now, .int v_seed])), (a_this_least, .inl (cI, 180, .inl g_least_1)), (a_this_s, .inl (cI, 39, .inl g_s))]) (va_runV (As := [.int p1]) (rest := []) ⟨hx, hb, hml, hown, hts⟩ (k_M_canBe l dC dI cI cZ tt sd a_this a_this_s a_this_image a_this_was a_this_letters a_this_row a_this_refused a_this_numbers a_this_least a_this_stepsFrom a_this_most a_this_next a_this_otherSteps a_this_ahead a_this_now H.size v_hasImage v_letterMany v_rowMany v_place v_seed g_s p1 r2 hf3) (cwV 1 hts gX8_leastAll_X8_canBe rfl rfl rfl (by decide +kernel) ⟨Nat.le_of_ble_eq_true rfl, Nat.le_of_ble_eq_true rfl⟩) (zpV hP hD hK hS hA hZ [0, 2] rfl rfl 8 0 rfl rfl) rfl rfl hl.1 rfl (lv_room (Nat.le_of_ble_eq_true rfl)) dX8_leastAll_28 ⟨Nat.zero_le _, Nat.zero_le _⟩) hP hD hS hA [0, 2] [1] [1, 0, 2] rfl rfl rfl (by decide) rfl rfl rfl (fun H locs hP hD hS => ?_)
    refine lv_if_ne (tgt := 35) hx hb dX8_leastAll_31 (by decide) (fun c4 => ?_) (fun c4 => ?_)
    · have he := zif_f c4 he
      refine lv_aload_n hx hb dX8_leastAll_35 rfl (lv_at hl 0 rfl) ?_
      refine va_get (D := (dC, dI)) (ci := 8) (v := .ref a_this_least) (C := RX8) (T := TX8) (N := 19) hx hb hts (by decide +kernel) hown hK hP 0 rfl rfl 11 (by decide) (hts (.fieldLink RX8 31 "LawOfCornersModel" "least" "[I") (by decide +kernel)) (fun _ h9 => h9) rfl dX8_leastAll_36 ?_
      refine lv_iload_n hx hb dX8_leastAll_39 rfl (lv_at hl 1 rfl) ?_
      refine lv_iconst (v := (4 : Int32)) hx hb dX8_leastAll_40 (by decide) ?_
      obtain ⟨r5, hf6, he⟩ := zb1_e he
      refine zc_i (wr := [(a_this, .inr (8, [.ref a_this_s, .ref a_this_image, .ref a_this_was, .int v_hasImage, .ref a_this_letters, .ref a_this_row, .ref a_this_refused, .int v_letterMany, .int v_rowMany, .int v_place, .ref a_this_numbers, .ref a_this_least, .ref a_this_stepsFrom, .ref a_this_most, .ref a_this_next, .ref a_this_otherSteps, .ref a_this_ahead, .ref a_this_now, .int v_seed])), (a_this_least, .inl (cI, 180, .inl g_least_1)), (a_this_s, .inl (cI, 39, .inl g_s))]) (ws' := [(a_this, .inr (8, [.ref a_this_s, .ref a_this_image, .ref a_this_was, .int v_hasImage, .ref a_this_letters, .ref a_this_row, .ref a_this_refused, .int v_letterMany, .int v_rowMany, .int v_place, .ref a_this_numbers, .ref a_this_least, .ref a_this_stepsFrom, .ref a_this_most, .ref a_this_next, .ref a_this_otherSteps, .ref a_this_ahead, .ref a_this_now, .int v_seed])), (a_this_least, .inl (cI, 180, .inl g_least_1)), (a_this_s, .inl (cI, 39, .inl g_s))]) (va_runS (As := [.int p1, .int (4 : Int32)]) (rest := [.ref a_this_least]) ⟨hx, hb, hml, hown, hts⟩ (k_M_at l dC dI cI cZ tt sd H.size p1 (4 : Int32) r5 hf6) (va_cwS 2 hts gX8_leastAll_X8_at rfl rfl rfl (by decide +kernel) ⟨Nat.le_of_ble_eq_true rfl, Nat.le_of_ble_eq_true rfl⟩) (zpS hP hD hK hS hA hZ [] rfl rfl) rfl rfl hl.1 rfl (lv_room (Nat.le_of_ble_eq_true rfl)) dX8_leastAll_41 ⟨Nat.zero_le _, Nat.zero_le _⟩) hP hD hS hA [] [0, 1, 2] [0, 1, 2] rfl rfl rfl (by decide) rfl rfl rfl (fun H locs hP hD hS => ?_)
      refine lv_iconst (v := (0 : Int32)) hx hb dX8_leastAll_44 (by decide) ?_
      obtain ⟨hg7, he⟩ := zg_e he
      refine va_iast hx hb hK hP hD hS 1 0 rfl rfl hg7 dX8_leastAll_45 (fun H locs hP hD hS => ?_)
      obtain ⟨g8, eg8⟩ : ∃ y : Nat → Int32, y = upd g_least_1 r5.toNatClampNeg (0 : Int32) := ⟨_, rfl⟩
      have he := zn_e eg8 he
      have hP : va_P (dC, dI) vwCl [(a_this, .inr (8, [.ref a_this_s, .ref a_this_image, .ref a_this_was, .int v_hasImage, .ref a_this_letters, .ref a_this_row, .ref a_this_refused, .int v_letterMany, .int v_rowMany, .int v_place, .ref a_this_numbers, .ref a_this_least, .ref a_this_stepsFrom, .ref a_this_most, .ref a_this_next, .ref a_this_otherSteps, .ref a_this_ahead, .ref a_this_now, .int v_seed])), (a_this_least, .inl (cI, 180, .inl g8)), (a_this_s, .inl (cI, 39, .inl g_s))] H := by rw [eg8]; exact hP
      have hD : va_D A [(a_this, .inr (8, [.ref a_this_s, .ref a_this_image, .ref a_this_was, .int v_hasImage, .ref a_this_letters, .ref a_this_row, .ref a_this_refused, .int v_letterMany, .int v_rowMany, .int v_place, .ref a_this_numbers, .ref a_this_least, .ref a_this_stepsFrom, .ref a_this_most, .ref a_this_next, .ref a_this_otherSteps, .ref a_this_ahead, .ref a_this_now, .int v_seed])), (a_this_least, .inl (cI, 180, .inl g8)), (a_this_s, .inl (cI, 39, .inl g_s))] := by rw [eg8]; exact hD
      refine lv_iconst (v := (1 : Int32)) hx hb dX8_leastAll_46 (by decide) ?_
      refine lv_istore (lv' := [(4, .int (1 : Int32)), (0, .ref a_this), (1, .int p1), (2, .int p2), (3, .int p3)]) hx hb dX8_leastAll_47 hl (by decide) rfl (fun ls hl => ?_)
      refine (hWW _ _ _ _).mp (zl2_w he (fun (l4_9 : Int32) (g_least_10 : Nat → Int32) => WW [(a_this, .inr (8, [.ref a_this_s, .ref a_this_image, .ref a_this_was, .int v_hasImage, .ref a_this_letters, .ref a_this_row, .ref a_this_refused, .int v_letterMany, .int v_rowMany, .int v_place, .ref a_this_numbers, .ref a_this_least, .ref a_this_stepsFrom, .ref a_this_most, .ref a_this_next, .ref a_this_otherSteps, .ref a_this_ahead, .ref a_this_now, .int v_seed])), (a_this_least, .inl (cI, 180, .inl g_least_10)), (a_this_s, .inl (cI, 39, .inl g_s))] [(0, .ref a_this), (2, .int p2), (3, .int p3), (4, .int l4_9)] 49 []) (fun l4_9 g_least_10 again11 hagain11 he => (hWW _ _ _ _).mpr (fun H locs ls hP hD hS hl => ?_))) _ _ _ hP hD hS (lv_sub hl [1, 3, 4, 0] rfl)
      refine lv_iload hx hb dX8_leastAll_49 (lv_at hl 3 rfl) ?_
      refine lv_if_eq (tgt := 223) hx hb dX8_leastAll_51 (by decide) (fun c12 => ?_) (fun c12 => ?_)
      · have he := zif_t c12 he
        obtain ⟨rfl⟩ := zi1 he
        exact W.vret hx hb hr (fun t ht hW => ⟨⟨(), rfl, trivial, by rw [ht]; exact hP, va_K.moved hW.alike hK, hD⟩, hS.F ht⟩) hS.2.2 dX8_leastAll_223
      · have he := zif_f c12 he
        refine lv_iconst (v := (0 : Int32)) hx hb dX8_leastAll_54 (by decide) ?_
        refine lv_istore (lv' := [(4, .int (0 : Int32)), (0, .ref a_this), (2, .int p2), (3, .int p3)]) hx hb dX8_leastAll_55 hl (by decide) rfl (fun ls hl => ?_)
        refine lv_iconst (v := (0 : Int32)) hx hb dX8_leastAll_57 (by decide) ?_
        refine lv_istore (lv' := [(5, .int (0 : Int32)), (4, .int (0 : Int32)), (0, .ref a_this), (2, .int p2), (3, .int p3)]) hx hb dX8_leastAll_58 hl (by decide) rfl (fun ls hl => ?_)
        refine zj2_w he (fun (l4_13 : Int32) (g_least_14 : Nat → Int32) => WW [(a_this, .inr (8, [.ref a_this_s, .ref a_this_image, .ref a_this_was, .int v_hasImage, .ref a_this_letters, .ref a_this_row, .ref a_this_refused, .int v_letterMany, .int v_rowMany, .int v_place, .ref a_this_numbers, .ref a_this_least, .ref a_this_stepsFrom, .ref a_this_most, .ref a_this_next, .ref a_this_otherSteps, .ref a_this_ahead, .ref a_this_now, .int v_seed])), (a_this_least, .inl (cI, 180, .inl g_least_14)), (a_this_s, .inl (cI, 39, .inl g_s))] [(0, .ref a_this), (2, .int p2), (3, .int p3), (4, .int l4_13)] 220 []) (fun l4_13 g_least_14 he => (hWW _ _ _ _).mpr (fun H locs ls hP hD hS hl => ?_)) (fun k15 hk15 he => ?_)
        · refine lv_goto (tgt := 49) hx hb dX8_leastAll_220 (by decide) ?_
          exact (hWW _ _ _ _).mp (hagain11 l4_13 g_least_14 he) _ _ _ hP hD hS (lv_sub hl [0, 1, 2, 3] rfl)
        refine (hWW _ _ _ _).mp (zl3_w he (fun (l4_16 : Int32) (l5_17 : Int32) (g_least_18 : Nat → Int32) => WW [(a_this, .inr (8, [.ref a_this_s, .ref a_this_image, .ref a_this_was, .int v_hasImage, .ref a_this_letters, .ref a_this_row, .ref a_this_refused, .int v_letterMany, .int v_rowMany, .int v_place, .ref a_this_numbers, .ref a_this_least, .ref a_this_stepsFrom, .ref a_this_most, .ref a_this_next, .ref a_this_otherSteps, .ref a_this_ahead, .ref a_this_now, .int v_seed])), (a_this_least, .inl (cI, 180, .inl g_least_18)), (a_this_s, .inl (cI, 39, .inl g_s))] [(0, .ref a_this), (2, .int p2), (3, .int p3), (4, .int l4_16), (5, .int l5_17)] 60 []) (fun l4_16 l5_17 g_least_18 again19 hagain19 he => (hWW _ _ _ _).mpr (fun H locs ls hP hD hS hl => ?_))) _ _ _ hP hD hS (lv_sub hl [2, 3, 4, 1, 0] rfl)
        refine lv_iload hx hb dX8_leastAll_60 (lv_at hl 4 rfl) ?_
        refine lv_bipush (v := (36 : Int32)) hx hb dX8_leastAll_62 (by decide) ?_
        refine lv_icmp_ge (tgt := 220) hx hb dX8_leastAll_64 (by decide) (fun c20 => ?_) (fun c20 => ?_)
        · have he := zif_t c20 he
          exact (hWW _ _ _ _).mp (hk15 l4_16 g_least_18 he) _ _ _ hP hD hS (lv_sub hl [0, 1, 2, 3] rfl)
        · have he := zif_f c20 he
          refine lv_iconst (v := (0 : Int32)) hx hb dX8_leastAll_67 (by decide) ?_
          refine lv_istore (lv' := [(6, .int (0 : Int32)), (0, .ref a_this), (2, .int p2), (3, .int p3), (4, .int l4_16), (5, .int l5_17)]) hx hb dX8_leastAll_68 hl (by decide) rfl (fun ls hl => ?_)
          refine zj2_w he (fun (l4_21 : Int32) (g_least_22 : Nat → Int32) => WW [(a_this, .inr (8, [.ref a_this_s, .ref a_this_image, .ref a_this_was, .int v_hasImage, .ref a_this_letters, .ref a_this_row, .ref a_this_refused, .int v_letterMany, .int v_rowMany, .int v_place, .ref a_this_numbers, .ref a_this_least, .ref a_this_stepsFrom, .ref a_this_most, .ref a_this_next, .ref a_this_otherSteps, .ref a_this_ahead, .ref a_this_now, .int v_seed])), (a_this_least, .inl (cI, 180, .inl g_least_22)), (a_this_s, .inl (cI, 39, .inl g_s))] [(0, .ref a_this), (2, .int p2), (3, .int p3), (4, .int l4_21), (5, .int l5_17)] 214 []) (fun l4_21 g_least_22 he => (hWW _ _ _ _).mpr (fun H locs ls hP hD hS hl => ?_)) (fun k24 hk24 he => ?_)
          · obtain ⟨x23, ex23⟩ : ∃ y : Int32, y = l5_17 + (1 : Int32) := ⟨_, rfl⟩
            have he := zn_e ex23 he
            refine lv_iinc (v := x23) (lv' := [(5, .int x23), (0, .ref a_this), (2, .int p2), (3, .int p3), (4, .int l4_21)]) hx hb dX8_leastAll_214 hl (k := 4) rfl (by rw [ex23]; rfl) (by decide) rfl (fun ls hl => ?_)
            refine lv_goto (tgt := 60) hx hb dX8_leastAll_217 (by decide) ?_
            exact (hWW _ _ _ _).mp (hagain19 l4_21 x23 g_least_22 he) _ _ _ hP hD hS (lv_sub hl [1, 2, 3, 4, 0] rfl)
          refine (hWW _ _ _ _).mp (zl3_w he (fun (l4_25 : Int32) (l6_26 : Int32) (g_least_27 : Nat → Int32) => WW [(a_this, .inr (8, [.ref a_this_s, .ref a_this_image, .ref a_this_was, .int v_hasImage, .ref a_this_letters, .ref a_this_row, .ref a_this_refused, .int v_letterMany, .int v_rowMany, .int v_place, .ref a_this_numbers, .ref a_this_least, .ref a_this_stepsFrom, .ref a_this_most, .ref a_this_next, .ref a_this_otherSteps, .ref a_this_ahead, .ref a_this_now, .int v_seed])), (a_this_least, .inl (cI, 180, .inl g_least_27)), (a_this_s, .inl (cI, 39, .inl g_s))] [(0, .ref a_this), (2, .int p2), (3, .int p3), (4, .int l4_25), (5, .int l5_17), (6, .int l6_26)] 70 []) (fun l4_25 l6_26 g_least_27 again28 hagain28 he => (hWW _ _ _ _).mpr (fun H locs ls hP hD hS hl => ?_))) _ _ _ hP hD hS (lv_sub hl [1, 2, 3, 4, 5, 0] rfl)
          refine lv_iload hx hb dX8_leastAll_70 (lv_at hl 5 rfl) ?_
          refine lv_iconst (v := (4 : Int32)) hx hb dX8_leastAll_72 (by decide) ?_
          refine lv_icmp_gt (tgt := 214) hx hb dX8_leastAll_73 (by decide) (fun c29 => ?_) (fun c29 => ?_)
          · have he := zif_t c29 he
            exact (hWW _ _ _ _).mp (hk24 l4_25 g_least_27 he) _ _ _ hP hD hS (lv_sub hl [0, 1, 2, 3, 4] rfl)
          · have he := zif_f c29 he
            refine lv_aload_n hx hb dX8_leastAll_76 rfl (lv_at hl 0 rfl) ?_
            refine va_get (D := (dC, dI)) (ci := 8) (v := .ref a_this_least) (C := RX8) (T := TX8) (N := 19) hx hb hts (by decide +kernel) hown hK hP 0 rfl rfl 11 (by decide) (hts (.fieldLink RX8 31 "LawOfCornersModel" "least" "[I") (by decide +kernel)) (fun _ h9 => h9) rfl dX8_leastAll_77 ?_
            refine lv_iload hx hb dX8_leastAll_80 (lv_at hl 4 rfl) ?_
            refine lv_iload hx hb dX8_leastAll_82 (lv_at hl 5 rfl) ?_
            obtain ⟨r30, hf31, he⟩ := zb1_e he
            refine zc_i (wr := [(a_this, .inr (8, [.ref a_this_s, .ref a_this_image, .ref a_this_was, .int v_hasImage, .ref a_this_letters, .ref a_this_row, .ref a_this_refused, .int v_letterMany, .int v_rowMany, .int v_place, .ref a_this_numbers, .ref a_this_least, .ref a_this_stepsFrom, .ref a_this_most, .ref a_this_next, .ref a_this_otherSteps, .ref a_this_ahead, .ref a_this_now, .int v_seed])), (a_this_least, .inl (cI, 180, .inl g_least_27)), (a_this_s, .inl (cI, 39, .inl g_s))]) (ws' := [(a_this, .inr (8, [.ref a_this_s, .ref a_this_image, .ref a_this_was, .int v_hasImage, .ref a_this_letters, .ref a_this_row, .ref a_this_refused, .int v_letterMany, .int v_rowMany, .int v_place, .ref a_this_numbers, .ref a_this_least, .ref a_this_stepsFrom, .ref a_this_most, .ref a_this_next, .ref a_this_otherSteps, .ref a_this_ahead, .ref a_this_now, .int v_seed])), (a_this_least, .inl (cI, 180, .inl g_least_27)), (a_this_s, .inl (cI, 39, .inl g_s))]) (va_runS (As := [.int l5_17, .int l6_26]) (rest := [.ref a_this_least]) ⟨hx, hb, hml, hown, hts⟩ (k_M_at l dC dI cI cZ tt sd H.size l5_17 l6_26 r30 hf31) (va_cwS 2 hts gX8_leastAll_X8_at rfl rfl rfl (by decide +kernel) ⟨Nat.le_of_ble_eq_true rfl, Nat.le_of_ble_eq_true rfl⟩) (zpS hP hD hK hS hA hZ [] rfl rfl) rfl rfl hl.1 rfl (lv_room (Nat.le_of_ble_eq_true rfl)) dX8_leastAll_84 ⟨Nat.zero_le _, Nat.zero_le _⟩) hP hD hS hA [] [0, 1, 2] [0, 1, 2] rfl rfl rfl (by decide) rfl rfl rfl (fun H locs hP hD hS => ?_)
            obtain ⟨hg32, he⟩ := zg_e he
            refine va_iald hx hb hK hP 1 0 rfl rfl hg32 dX8_leastAll_87 ?_
            refine lv_ldc (v := (1000000000 : Int32)) hx hb hown (hts (.constant RX8 140 (1000000000 : Int32)) (by decide +kernel)) dX8_leastAll_88 ?_
            refine zj2_w he (fun (l4_33 : Int32) (g_least_34 : Nat → Int32) => WW [(a_this, .inr (8, [.ref a_this_s, .ref a_this_image, .ref a_this_was, .int v_hasImage, .ref a_this_letters, .ref a_this_row, .ref a_this_refused, .int v_letterMany, .int v_rowMany, .int v_place, .ref a_this_numbers, .ref a_this_least, .ref a_this_stepsFrom, .ref a_this_most, .ref a_this_next, .ref a_this_otherSteps, .ref a_this_ahead, .ref a_this_now, .int v_seed])), (a_this_least, .inl (cI, 180, .inl g_least_34)), (a_this_s, .inl (cI, 39, .inl g_s))] [(0, .ref a_this), (2, .int p2), (3, .int p3), (4, .int l4_33), (5, .int l5_17), (6, .int l6_26)] 208 []) (fun l4_33 g_least_34 he => (hWW _ _ _ _).mpr (fun H locs ls hP hD hS hl => ?_)) (fun k36 hk36 he => ?_)
            · obtain ⟨x35, ex35⟩ : ∃ y : Int32, y = l6_26 + (1 : Int32) := ⟨_, rfl⟩
              have he := zn_e ex35 he
              refine lv_iinc (v := x35) (lv' := [(6, .int x35), (0, .ref a_this), (2, .int p2), (3, .int p3), (4, .int l4_33), (5, .int l5_17)]) hx hb dX8_leastAll_208 hl (k := 5) rfl (by rw [ex35]; rfl) (by decide) rfl (fun ls hl => ?_)
              refine lv_goto (tgt := 70) hx hb dX8_leastAll_211 (by decide) ?_
              exact (hWW _ _ _ _).mp (hagain28 l4_33 x35 g_least_34 he) _ _ _ hP hD hS (lv_sub hl [1, 2, 3, 4, 5, 0] rfl)
            refine lv_icmp_lt (tgt := 96) hx hb dX8_leastAll_90 (by decide) (fun c37 => ?_) (fun c37 => ?_)
            · have he := zif_t c37 he
              refine lv_iconst (v := (0 : Int32)) hx hb dX8_leastAll_96 (by decide) ?_
              refine lv_istore (lv' := [(7, .int (0 : Int32)), (0, .ref a_this), (2, .int p2), (3, .int p3), (4, .int l4_25), (5, .int l5_17), (6, .int l6_26)]) hx hb dX8_leastAll_97 hl (by decide) rfl (fun ls hl => ?_)
              refine (hWW _ _ _ _).mp (zl3_w he (fun (l4_38 : Int32) (l7_39 : Int32) (g_least_40 : Nat → Int32) => WW [(a_this, .inr (8, [.ref a_this_s, .ref a_this_image, .ref a_this_was, .int v_hasImage, .ref a_this_letters, .ref a_this_row, .ref a_this_refused, .int v_letterMany, .int v_rowMany, .int v_place, .ref a_this_numbers, .ref a_this_least, .ref a_this_stepsFrom, .ref a_this_most, .ref a_this_next, .ref a_this_otherSteps, .ref a_this_ahead, .ref a_this_now, .int v_seed])), (a_this_least, .inl (cI, 180, .inl g_least_40)), (a_this_s, .inl (cI, 39, .inl g_s))] [(0, .ref a_this), (2, .int p2), (3, .int p3), (4, .int l4_38), (5, .int l5_17), (6, .int l6_26), (7, .int l7_39)] 99 []) (fun l4_38 l7_39 g_least_40 again41 hagain41 he => (hWW _ _ _ _).mpr (fun H locs ls hP hD hS hl => ?_))) _ _ _ hP hD hS (lv_sub hl [1, 2, 3, 4, 5, 6, 0] rfl)
              refine lv_iload hx hb dX8_leastAll_99 (lv_at hl 6 rfl) ?_
              refine lv_iconst (v := (4 : Int32)) hx hb dX8_leastAll_101 (by decide) ?_
              refine lv_icmp_ge (tgt := 208) hx hb dX8_leastAll_102 (by decide) (fun c42 => ?_) (fun c42 => ?_)
              · have he := zif_t c42 he
                exact (hWW _ _ _ _).mp (hk36 l4_38 g_least_40 he) _ _ _ hP hD hS (lv_sub hl [0, 1, 2, 3, 4, 5] rfl)
              · have he := zif_f c42 he
                refine lv_aload_n hx hb dX8_leastAll_105 rfl (lv_at hl 0 rfl) ?_
                refine lv_iload hx hb dX8_leastAll_106 (lv_at hl 4 rfl) ?_
                refine lv_iload hx hb dX8_leastAll_108 (lv_at hl 6 rfl) ?_
                obtain ⟨r43, hf44, he⟩ := zb1_e he
                refine zc_i (wr := [(a_this_least, .inl (cI, 180, .inl g_least_40))]) (ws' := [(a_this, .inr (8, [.ref a_this_s, .ref a_this_image, .ref a_this_was, .int v_hasImage, .ref a_this_letters, .ref a_this_row, .ref a_this_refused, .int v_letterMany, .int v_rowMany, .int v_place, .ref a_this_numbers, .ref a_this_least, .ref a_this_stepsFrom, .ref a_this_most, .ref a_this_next, .ref a_this_otherSteps, .ref a_this_ahead, .ref a_this_now, .int v_seed])), (a_this_least, .inl (cI, 180, .inl g_least_40)), (a_this_s, .inl (cI, 39, .inl g_s))]) (va_runV (As := [.int l5_17, .int l7_39]) (rest := []) ⟨hx, hb, hml, hown, hts⟩ (k_M_gone l dC dI cI cZ tt sd a_this a_this_s a_this_image a_this_was a_this_letters a_this_row a_this_refused a_this_numbers a_this_least a_this_stepsFrom a_this_most a_this_next a_this_otherSteps a_this_ahead a_this_now H.size v_hasImage v_letterMany v_rowMany v_place v_seed g_s l5_17 l7_39 r43 hf44) (cwV 2 hts gX8_leastAll_X8_gone rfl rfl rfl (by decide +kernel) ⟨Nat.le_of_ble_eq_true rfl, Nat.le_of_ble_eq_true rfl⟩) (zpV hP hD hK hS hA hZ [0, 2] rfl rfl 8 0 rfl rfl) rfl rfl hl.1 rfl (lv_room (Nat.le_of_ble_eq_true rfl)) dX8_leastAll_110 ⟨Nat.zero_le _, Nat.zero_le _⟩) hP hD hS hA [0, 2] [1] [1, 0, 2] rfl rfl rfl (by decide) rfl rfl rfl (fun H locs hP hD hS => ?_)
                refine lv_istore (lv' := [(8, .int r43), (0, .ref a_this), (2, .int p2), (3, .int p3), (4, .int l4_38), (5, .int l5_17), (6, .int l6_26), (7, .int l7_39)]) hx hb dX8_leastAll_113 hl (by decide) rfl (fun ls hl => ?_)
                refine lv_iload hx hb dX8_leastAll_115 (lv_at hl 0 rfl) ?_
                refine zj2_w he (fun (l4_45 : Int32) (g_least_46 : Nat → Int32) => WW [(a_this, .inr (8, [.ref a_this_s, .ref a_this_image, .ref a_this_was, .int v_hasImage, .ref a_this_letters, .ref a_this_row, .ref a_this_refused, .int v_letterMany, .int v_rowMany, .int v_place, .ref a_this_numbers, .ref a_this_least, .ref a_this_stepsFrom, .ref a_this_most, .ref a_this_next, .ref a_this_otherSteps, .ref a_this_ahead, .ref a_this_now, .int v_seed])), (a_this_least, .inl (cI, 180, .inl g_least_46)), (a_this_s, .inl (cI, 39, .inl g_s))] [(0, .ref a_this), (2, .int p2), (3, .int p3), (4, .int l4_45), (5, .int l5_17), (6, .int l6_26), (7, .int l7_39)] 202 []) (fun l4_45 g_least_46 he => (hWW _ _ _ _).mpr (fun H locs ls hP hD hS hl => ?_)) (fun k48 hk48 he => ?_)
                · obtain ⟨x47, ex47⟩ : ∃ y : Int32, y = l7_39 + (1 : Int32) := ⟨_, rfl⟩
                  have he := zn_e ex47 he
                  refine lv_iinc (v := x47) (lv' := [(7, .int x47), (0, .ref a_this), (2, .int p2), (3, .int p3), (4, .int l4_45), (5, .int l5_17), (6, .int l6_26)]) hx hb dX8_leastAll_202 hl (k := 6) rfl (by rw [ex47]; rfl) (by decide) rfl (fun ls hl => ?_)
                  refine lv_goto (tgt := 99) hx hb dX8_leastAll_205 (by decide) ?_
                  exact (hWW _ _ _ _).mp (hagain41 l4_45 x47 g_least_46 he) _ _ _ hP hD hS (lv_sub hl [1, 2, 3, 4, 5, 6, 0] rfl)
                refine lv_if_lt (tgt := 202) hx hb dX8_leastAll_117 (by decide) (fun c49 => ?_) (fun c49 => ?_)
                · have he := zif_t c49 he
                  exact (hWW _ _ _ _).mp (hk48 l4_38 g_least_40 he) _ _ _ hP hD hS (lv_sub hl [1, 2, 3, 4, 5, 6, 7] rfl)
                · have he := zif_f c49 he
                  refine lv_iload hx hb dX8_leastAll_120 (lv_at hl 6 rfl) ?_
                  refine lv_iconst (v := (4 : Int32)) hx hb dX8_leastAll_122 (by decide) ?_
                  refine zj1_w he (fun (_ : Unit) => WW [(a_this, .inr (8, [.ref a_this_s, .ref a_this_image, .ref a_this_was, .int v_hasImage, .ref a_this_letters, .ref a_this_row, .ref a_this_refused, .int v_letterMany, .int v_rowMany, .int v_place, .ref a_this_numbers, .ref a_this_least, .ref a_this_stepsFrom, .ref a_this_most, .ref a_this_next, .ref a_this_otherSteps, .ref a_this_ahead, .ref a_this_now, .int v_seed])), (a_this_least, .inl (cI, 180, .inl g_least_40)), (a_this_s, .inl (cI, 39, .inl g_s))] [(0, .ref a_this), (2, .int p2), (3, .int p3), (4, .int l4_38), (5, .int l5_17), (6, .int l6_26), (7, .int l7_39), (8, .int r43)] 139 []) (fun _ he => (hWW _ _ _ _).mpr (fun H locs ls hP hD hS hl => ?_)) (fun k64 hk64 he => ?_)
                  · refine lv_aload_n hx hb dX8_leastAll_139 rfl (lv_at hl 0 rfl) ?_
                    refine va_get (D := (dC, dI)) (ci := 8) (v := .ref a_this_least) (C := RX8) (T := TX8) (N := 19) hx hb hts (by decide +kernel) hown hK hP 0 rfl rfl 11 (by decide) (hts (.fieldLink RX8 31 "LawOfCornersModel" "least" "[I") (by decide +kernel)) (fun _ h9 => h9) rfl dX8_leastAll_140 ?_
                    refine lv_iload hx hb dX8_leastAll_143 (lv_at hl 4 rfl) ?_
                    refine lv_iload hx hb dX8_leastAll_145 (lv_at hl 5 rfl) ?_
                    obtain ⟨r50, hf51, he⟩ := zb1_e he
                    refine zc_i (wr := [(a_this, .inr (8, [.ref a_this_s, .ref a_this_image, .ref a_this_was, .int v_hasImage, .ref a_this_letters, .ref a_this_row, .ref a_this_refused, .int v_letterMany, .int v_rowMany, .int v_place, .ref a_this_numbers, .ref a_this_least, .ref a_this_stepsFrom, .ref a_this_most, .ref a_this_next, .ref a_this_otherSteps, .ref a_this_ahead, .ref a_this_now, .int v_seed])), (a_this_least, .inl (cI, 180, .inl g_least_40)), (a_this_s, .inl (cI, 39, .inl g_s))]) (ws' := [(a_this, .inr (8, [.ref a_this_s, .ref a_this_image, .ref a_this_was, .int v_hasImage, .ref a_this_letters, .ref a_this_row, .ref a_this_refused, .int v_letterMany, .int v_rowMany, .int v_place, .ref a_this_numbers, .ref a_this_least, .ref a_this_stepsFrom, .ref a_this_most, .ref a_this_next, .ref a_this_otherSteps, .ref a_this_ahead, .ref a_this_now, .int v_seed])), (a_this_least, .inl (cI, 180, .inl g_least_40)), (a_this_s, .inl (cI, 39, .inl g_s))]) (va_runS (As := [.int l5_17, .int l6_26]) (rest := [.ref a_this_least]) ⟨hx, hb, hml, hown, hts⟩ (k_M_at l dC dI cI cZ tt sd H.size l5_17 l6_26 r50 hf51) (va_cwS 2 hts gX8_leastAll_X8_at rfl rfl rfl (by decide +kernel) ⟨Nat.le_of_ble_eq_true rfl, Nat.le_of_ble_eq_true rfl⟩) (zpS hP hD hK hS hA hZ [] rfl rfl) rfl rfl hl.1 rfl (lv_room (Nat.le_of_ble_eq_true rfl)) dX8_leastAll_147 ⟨Nat.zero_le _, Nat.zero_le _⟩) hP hD hS hA [] [0, 1, 2] [0, 1, 2] rfl rfl rfl (by decide) rfl rfl rfl (fun H locs hP hD hS => ?_)
                    obtain ⟨hg52, he⟩ := zg_e he
                    refine va_iald hx hb hK hP 1 0 rfl rfl hg52 dX8_leastAll_150 ?_
                    refine lv_aload_n hx hb dX8_leastAll_151 rfl (lv_at hl 0 rfl) ?_
                    refine lv_iload hx hb dX8_leastAll_152 (lv_at hl 4 rfl) ?_
                    refine lv_iload hx hb dX8_leastAll_154 (lv_at hl 5 rfl) ?_
                    refine lv_iload hx hb dX8_leastAll_156 (lv_at hl 6 rfl) ?_
                    refine lv_iload_n hx hb dX8_leastAll_158 rfl (lv_at hl 2 rfl) ?_
                    obtain ⟨r53, hf54, he⟩ := zb1_e he
                    refine zc_i (wr := [(a_this_least, .inl (cI, 180, .inl g_least_40))]) (ws' := [(a_this, .inr (8, [.ref a_this_s, .ref a_this_image, .ref a_this_was, .int v_hasImage, .ref a_this_letters, .ref a_this_row, .ref a_this_refused, .int v_letterMany, .int v_rowMany, .int v_place, .ref a_this_numbers, .ref a_this_least, .ref a_this_stepsFrom, .ref a_this_most, .ref a_this_next, .ref a_this_otherSteps, .ref a_this_ahead, .ref a_this_now, .int v_seed])), (a_this_least, .inl (cI, 180, .inl g_least_40)), (a_this_s, .inl (cI, 39, .inl g_s))]) (va_runV (As := [.int l5_17, .int l6_26, .int l7_39, .int p3]) (rest := [.int (g_least_40 r50.toNatClampNeg)]) ⟨hx, hb, hml, hown, hts⟩ (k_M_costOf l dC dI cI cZ tt sd a_this a_this_s a_this_image a_this_was a_this_letters a_this_row a_this_refused a_this_numbers a_this_least a_this_stepsFrom a_this_most a_this_next a_this_otherSteps a_this_ahead a_this_now H.size v_hasImage v_letterMany v_rowMany v_place v_seed g_s l5_17 l6_26 l7_39 p3 r53 hf54) (cwV 4 hts gX8_leastAll_X8_costOf rfl rfl rfl (by decide +kernel) ⟨Nat.le_of_ble_eq_true rfl, Nat.le_of_ble_eq_true rfl⟩) (zpV hP hD hK hS hA hZ [0, 2] rfl rfl 8 0 rfl rfl) rfl rfl hl.1 rfl (lv_room (Nat.le_of_ble_eq_true rfl)) dX8_leastAll_159 ⟨Nat.zero_le _, Nat.zero_le _⟩) hP hD hS hA [0, 2] [1] [1, 0, 2] rfl rfl rfl (by decide) rfl rfl rfl (fun H locs hP hD hS => ?_)
                    refine lv_iadd hx hb dX8_leastAll_162 ?_
                    refine lv_topi (fun x55 ex55 => ?_)
                    have he := zn_e ex55 he
                    refine lv_istore (lv' := [(9, .int x55), (0, .ref a_this), (2, .int p2), (3, .int p3), (4, .int l4_38), (5, .int l5_17), (6, .int l6_26), (7, .int l7_39), (8, .int r43)]) hx hb dX8_leastAll_163 hl (by decide) rfl (fun ls hl => ?_)
                    refine lv_iload hx hb dX8_leastAll_165 (lv_at hl 0 rfl) ?_
                    refine lv_aload_n hx hb dX8_leastAll_167 rfl (lv_at hl 1 rfl) ?_
                    refine va_get (D := (dC, dI)) (ci := 8) (v := .ref a_this_least) (C := RX8) (T := TX8) (N := 19) hx hb hts (by decide +kernel) hown hK hP 0 rfl rfl 11 (by decide) (hts (.fieldLink RX8 31 "LawOfCornersModel" "least" "[I") (by decide +kernel)) (fun _ h9 => h9) rfl dX8_leastAll_168 ?_
                    refine lv_iload hx hb dX8_leastAll_171 (lv_at hl 8 rfl) ?_
                    refine lv_iload hx hb dX8_leastAll_173 (lv_at hl 7 rfl) ?_
                    obtain ⟨r56, hf57, he⟩ := zb1_e he
                    refine zc_i (wr := [(a_this, .inr (8, [.ref a_this_s, .ref a_this_image, .ref a_this_was, .int v_hasImage, .ref a_this_letters, .ref a_this_row, .ref a_this_refused, .int v_letterMany, .int v_rowMany, .int v_place, .ref a_this_numbers, .ref a_this_least, .ref a_this_stepsFrom, .ref a_this_most, .ref a_this_next, .ref a_this_otherSteps, .ref a_this_ahead, .ref a_this_now, .int v_seed])), (a_this_least, .inl (cI, 180, .inl g_least_40)), (a_this_s, .inl (cI, 39, .inl g_s))]) (ws' := [(a_this, .inr (8, [.ref a_this_s, .ref a_this_image, .ref a_this_was, .int v_hasImage, .ref a_this_letters, .ref a_this_row, .ref a_this_refused, .int v_letterMany, .int v_rowMany, .int v_place, .ref a_this_numbers, .ref a_this_least, .ref a_this_stepsFrom, .ref a_this_most, .ref a_this_next, .ref a_this_otherSteps, .ref a_this_ahead, .ref a_this_now, .int v_seed])), (a_this_least, .inl (cI, 180, .inl g_least_40)), (a_this_s, .inl (cI, 39, .inl g_s))]) (va_runS (As := [.int r43, .int l7_39]) (rest := [.ref a_this_least, .int x55]) ⟨hx, hb, hml, hown, hts⟩ (k_M_at l dC dI cI cZ tt sd H.size r43 l7_39 r56 hf57) (va_cwS 2 hts gX8_leastAll_X8_at rfl rfl rfl (by decide +kernel) ⟨Nat.le_of_ble_eq_true rfl, Nat.le_of_ble_eq_true rfl⟩) (zpS hP hD hK hS hA hZ [] rfl rfl) rfl rfl hl.1 rfl (lv_room (Nat.le_of_ble_eq_true rfl)) dX8_leastAll_175 ⟨Nat.zero_le _, Nat.zero_le _⟩) hP hD hS hA [] [0, 1, 2] [0, 1, 2] rfl rfl rfl (by decide) rfl rfl rfl (fun H locs hP hD hS => ?_)
                    obtain ⟨hg58, he⟩ := zg_e he
                    refine va_iald hx hb hK hP 1 0 rfl rfl hg58 dX8_leastAll_178 ?_
                    refine lv_icmp_lt (tgt := 185) hx hb dX8_leastAll_179 (by decide) (fun c59 => ?_) (fun c59 => ?_)
                    · have he := zif_t c59 he
                      refine lv_aload_n hx hb dX8_leastAll_185 rfl (lv_at hl 1 rfl) ?_
                      refine va_get (D := (dC, dI)) (ci := 8) (v := .ref a_this_least) (C := RX8) (T := TX8) (N := 19) hx hb hts (by decide +kernel) hown hK hP 0 rfl rfl 11 (by decide) (hts (.fieldLink RX8 31 "LawOfCornersModel" "least" "[I") (by decide +kernel)) (fun _ h9 => h9) rfl dX8_leastAll_186 ?_
                      refine lv_iload hx hb dX8_leastAll_189 (lv_at hl 8 rfl) ?_
                      refine lv_iload hx hb dX8_leastAll_191 (lv_at hl 7 rfl) ?_
                      obtain ⟨r60, hf61, he⟩ := zb1_e he
                      refine zc_i (wr := [(a_this, .inr (8, [.ref a_this_s, .ref a_this_image, .ref a_this_was, .int v_hasImage, .ref a_this_letters, .ref a_this_row, .ref a_this_refused, .int v_letterMany, .int v_rowMany, .int v_place, .ref a_this_numbers, .ref a_this_least, .ref a_this_stepsFrom, .ref a_this_most, .ref a_this_next, .ref a_this_otherSteps, .ref a_this_ahead, .ref a_this_now, .int v_seed])), (a_this_least, .inl (cI, 180, .inl g_least_40)), (a_this_s, .inl (cI, 39, .inl g_s))]) (ws' := [(a_this, .inr (8, [.ref a_this_s, .ref a_this_image, .ref a_this_was, .int v_hasImage, .ref a_this_letters, .ref a_this_row, .ref a_this_refused, .int v_letterMany, .int v_rowMany, .int v_place, .ref a_this_numbers, .ref a_this_least, .ref a_this_stepsFrom, .ref a_this_most, .ref a_this_next, .ref a_this_otherSteps, .ref a_this_ahead, .ref a_this_now, .int v_seed])), (a_this_least, .inl (cI, 180, .inl g_least_40)), (a_this_s, .inl (cI, 39, .inl g_s))]) (va_runS (As := [.int r43, .int l7_39]) (rest := [.ref a_this_least]) ⟨hx, hb, hml, hown, hts⟩ (k_M_at l dC dI cI cZ tt sd H.size r43 l7_39 r60 hf61) (va_cwS 2 hts gX8_leastAll_X8_at rfl rfl rfl (by decide +kernel) ⟨Nat.le_of_ble_eq_true rfl, Nat.le_of_ble_eq_true rfl⟩) (zpS hP hD hK hS hA hZ [] rfl rfl) rfl rfl hl.1 rfl (lv_room (Nat.le_of_ble_eq_true rfl)) dX8_leastAll_193 ⟨Nat.zero_le _, Nat.zero_le _⟩) hP hD hS hA [] [0, 1, 2] [0, 1, 2] rfl rfl rfl (by decide) rfl rfl rfl (fun H locs hP hD hS => ?_)
                      refine lv_iload hx hb dX8_leastAll_196 (lv_at hl 0 rfl) ?_
                      obtain ⟨hg62, he⟩ := zg_e he
                      refine va_iast hx hb hK hP hD hS 1 0 rfl rfl hg62 dX8_leastAll_198 (fun H locs hP hD hS => ?_)
                      obtain ⟨g63, eg63⟩ : ∃ y : Nat → Int32, y = upd g_least_40 r60.toNatClampNeg x55 := ⟨_, rfl⟩
                      have he := zn_e eg63 he
                      have hP : va_P (dC, dI) vwCl [(a_this, .inr (8, [.ref a_this_s, .ref a_this_image, .ref a_this_was, .int v_hasImage, .ref a_this_letters, .ref a_this_row, .ref a_this_refused, .int v_letterMany, .int v_rowMany, .int v_place, .ref a_this_numbers, .ref a_this_least, .ref a_this_stepsFrom, .ref a_this_most, .ref a_this_next, .ref a_this_otherSteps, .ref a_this_ahead, .ref a_this_now, .int v_seed])), (a_this_least, .inl (cI, 180, .inl g63)), (a_this_s, .inl (cI, 39, .inl g_s))] H := by rw [eg63]; exact hP
                      have hD : va_D A [(a_this, .inr (8, [.ref a_this_s, .ref a_this_image, .ref a_this_was, .int v_hasImage, .ref a_this_letters, .ref a_this_row, .ref a_this_refused, .int v_letterMany, .int v_rowMany, .int v_place, .ref a_this_numbers, .ref a_this_least, .ref a_this_stepsFrom, .ref a_this_most, .ref a_this_next, .ref a_this_otherSteps, .ref a_this_ahead, .ref a_this_now, .int v_seed])), (a_this_least, .inl (cI, 180, .inl g63)), (a_this_s, .inl (cI, 39, .inl g_s))] := by rw [eg63]; exact hD
                      refine lv_iconst (v := (1 : Int32)) hx hb dX8_leastAll_199 (by decide) ?_
                      refine lv_istore (lv' := [(4, .int (1 : Int32)), (9, .int x55), (0, .ref a_this), (2, .int p2), (3, .int p3), (5, .int l5_17), (6, .int l6_26), (7, .int l7_39), (8, .int r43)]) hx hb dX8_leastAll_200 hl (by decide) rfl (fun ls hl => ?_)
                      exact (hWW _ _ _ _).mp (hk48 (1 : Int32) g63 he) _ _ _ hP hD hS (lv_sub hl [2, 3, 4, 0, 5, 6, 7] rfl)
                    · have he := zif_f c59 he
                      refine lv_goto (tgt := 202) hx hb dX8_leastAll_182 (by decide) ?_
                      exact (hWW _ _ _ _).mp (hk48 l4_38 g_least_40 he) _ _ _ hP hD hS (lv_sub hl [1, 2, 3, 4, 5, 6, 7] rfl)
                  refine lv_icmp_ne (tgt := 139) hx hb dX8_leastAll_123 (by decide) (fun c65 => ?_) (fun c65 => ?_)
                  · have he := zif_f c65 he
                    exact (hWW _ _ _ _).mp (hk64 () he) _ _ _ hP hD hS (lv_sub hl [1, 2, 3, 4, 5, 6, 7, 0] rfl)
                  · have he := zif_t c65 he
                    refine lv_iload_n hx hb dX8_leastAll_126 rfl (lv_at hl 2 rfl) ?_
                    refine lv_if_lt (tgt := 139) hx hb dX8_leastAll_127 (by decide) (fun c66 => ?_) (fun c66 => ?_)
                    · have he := zif_t c66 he
                      exact (hWW _ _ _ _).mp (hk64 () he) _ _ _ hP hD hS (lv_sub hl [1, 2, 3, 4, 5, 6, 7, 0] rfl)
                    · have he := zif_f c66 he
                      refine lv_iload hx hb dX8_leastAll_130 (lv_at hl 7 rfl) ?_
                      refine lv_iload_n hx hb dX8_leastAll_132 rfl (lv_at hl 2 rfl) ?_
                      refine lv_icmp_eq (tgt := 139) hx hb dX8_leastAll_133 (by decide) (fun c67 => ?_) (fun c67 => ?_)
                      · have he := zif_t c67 he
                        exact (hWW _ _ _ _).mp (hk64 () he) _ _ _ hP hD hS (lv_sub hl [1, 2, 3, 4, 5, 6, 7, 0] rfl)
                      · have he := zif_f c67 he
                        refine lv_goto (tgt := 202) hx hb dX8_leastAll_136 (by decide) ?_
                        exact (hWW _ _ _ _).mp (hk48 l4_38 g_least_40 he) _ _ _ hP hD hS (lv_sub hl [1, 2, 3, 4, 5, 6, 7] rfl)
            · have he := zif_f c37 he
              refine lv_goto (tgt := 208) hx hb dX8_leastAll_93 (by decide) ?_
              exact (hWW _ _ _ _).mp (hk36 l4_25 g_least_27 he) _ _ _ hP hD hS (lv_sub hl [0, 1, 2, 3, 4, 5] rfl)
    · have he := zif_t c4 he
      obtain ⟨rfl⟩ := zi1 he
      exact W.vret hx hb hr (fun t ht hW => ⟨⟨(), rfl, trivial, by rw [ht]; exact hP, va_K.moved hW.alike hK, hD⟩, hS.F ht⟩) hS.2.2 dX8_leastAll_34
  refine (hWW _ _ _ _).mp (zl2_w he (fun (l4_69 : Int32) (g_least_70 : Nat → Int32) => WW [(a_this, .inr (8, [.ref a_this_s, .ref a_this_image, .ref a_this_was, .int v_hasImage, .ref a_this_letters, .ref a_this_row, .ref a_this_refused, .int v_letterMany, .int v_rowMany, .int v_place, .ref a_this_numbers, .ref a_this_least, .ref a_this_stepsFrom, .ref a_this_most, .ref a_this_next, .ref a_this_otherSteps, .ref a_this_ahead, .ref a_this_now, .int v_seed])), (a_this_least, .inl (cI, 180, .inl g_least_70)), (a_this_s, .inl (cI, 39, .inl g_s))] [(0, .ref a_this), (1, .int p1), (2, .int p2), (3, .int p3), (4, .int l4_69)] 3 []) (fun l4_69 g_least_70 again71 hagain71 he => (hWW _ _ _ _).mpr (fun H locs ls hP hD hS hl => ?_))) _ _ _ hP hD hS (lv_sub hl [1, 2, 3, 4, 0] rfl)
  refine lv_iload hx hb dX8_leastAll_3 (lv_at hl 4 rfl) ?_
  refine lv_sipush (v := (180 : Int32)) hx hb dX8_leastAll_5 (by decide) ?_
  refine lv_icmp_ge (tgt := 26) hx hb dX8_leastAll_8 (by decide) (fun c72 => ?_) (fun c72 => ?_)
  · have he := zif_t c72 he
    exact (hWW _ _ _ _).mp (hk68 g_least_70 he) _ _ _ hP hD hS (lv_sub hl [0, 1, 2, 3] rfl)
  · have he := zif_f c72 he
    refine lv_aload_n hx hb dX8_leastAll_11 rfl (lv_at hl 0 rfl) ?_
    refine va_get (D := (dC, dI)) (ci := 8) (v := .ref a_this_least) (C := RX8) (T := TX8) (N := 19) hx hb hts (by decide +kernel) hown hK hP 0 rfl rfl 11 (by decide) (hts (.fieldLink RX8 31 "LawOfCornersModel" "least" "[I") (by decide +kernel)) (fun _ h9 => h9) rfl dX8_leastAll_12 ?_
    refine lv_iload hx hb dX8_leastAll_15 (lv_at hl 4 rfl) ?_
    refine lv_ldc (v := (1000000000 : Int32)) hx hb hown (hts (.constant RX8 140 (1000000000 : Int32)) (by decide +kernel)) dX8_leastAll_17 ?_
    obtain ⟨hg73, he⟩ := zg_e he
    refine va_iast hx hb hK hP hD hS 1 0 rfl rfl hg73 dX8_leastAll_19 (fun H locs hP hD hS => ?_)
    obtain ⟨g74, eg74⟩ : ∃ y : Nat → Int32, y = upd g_least_70 l4_69.toNatClampNeg (1000000000 : Int32) := ⟨_, rfl⟩
    have he := zn_e eg74 he
    have hP : va_P (dC, dI) vwCl [(a_this, .inr (8, [.ref a_this_s, .ref a_this_image, .ref a_this_was, .int v_hasImage, .ref a_this_letters, .ref a_this_row, .ref a_this_refused, .int v_letterMany, .int v_rowMany, .int v_place, .ref a_this_numbers, .ref a_this_least, .ref a_this_stepsFrom, .ref a_this_most, .ref a_this_next, .ref a_this_otherSteps, .ref a_this_ahead, .ref a_this_now, .int v_seed])), (a_this_least, .inl (cI, 180, .inl g74)), (a_this_s, .inl (cI, 39, .inl g_s))] H := by rw [eg74]; exact hP
    have hD : va_D A [(a_this, .inr (8, [.ref a_this_s, .ref a_this_image, .ref a_this_was, .int v_hasImage, .ref a_this_letters, .ref a_this_row, .ref a_this_refused, .int v_letterMany, .int v_rowMany, .int v_place, .ref a_this_numbers, .ref a_this_least, .ref a_this_stepsFrom, .ref a_this_most, .ref a_this_next, .ref a_this_otherSteps, .ref a_this_ahead, .ref a_this_now, .int v_seed])), (a_this_least, .inl (cI, 180, .inl g74)), (a_this_s, .inl (cI, 39, .inl g_s))] := by rw [eg74]; exact hD
    obtain ⟨x75, ex75⟩ : ∃ y : Int32, y = l4_69 + (1 : Int32) := ⟨_, rfl⟩
    have he := zn_e ex75 he
    refine lv_iinc (v := x75) (lv' := [(4, .int x75), (0, .ref a_this), (1, .int p1), (2, .int p2), (3, .int p3)]) hx hb dX8_leastAll_20 hl (k := 4) rfl (by rw [ex75]; rfl) (by decide) rfl (fun ls hl => ?_)
    refine lv_goto (tgt := 3) hx hb dX8_leastAll_23 (by decide) ?_
    exact (hWW _ _ _ _).mp (hagain71 x75 g74 he) _ _ _ hP hD hS (lv_sub hl [1, 2, 3, 4, 0] rfl)
set_option maxHeartbeats 4000000 in
set_option maxRecDepth 100000 in
theorem k_M_leastAt (l : Launch) (dC : Nat → ClassId) (dI : Nat → Nat → Nat) (cI : ClassId) (cZ : ClassId) (tt : Nat → Nat) (sd : Nat → Nat) (a_this : Nat) (a_this_s : Nat) (a_this_image : Nat) (a_this_was : Nat) (a_this_letters : Nat) (a_this_row : Nat) (a_this_refused : Nat) (a_this_numbers : Nat) (a_this_least : Nat) (a_this_stepsFrom : Nat) (a_this_most : Nat) (a_this_next : Nat) (a_this_otherSteps : Nat) (a_this_ahead : Nat) (a_this_now : Nat) (sz : Nat) (v_hasImage : Int32) (v_letterMany : Int32) (v_rowMany : Int32) (v_place : Int32) (v_seed : Int32) (g_least : Nat → Int32) (p1 : Int32) (r0 : Int32) (hf : f_M_leastAt g_least p1 = some (r0)) : Met l yX8_leastAt wsX8_leastAt ({ frames := 1, cells := 0, slots := 0, locals := 21 }) (zPre (dC, dI) vwCl [(cI, .int), (cZ, .boolean)] tt sd [.ref a_this, .int p1] [(a_this, .inr (8, [.ref a_this_s, .ref a_this_image, .ref a_this_was, .int v_hasImage, .ref a_this_letters, .ref a_this_row, .ref a_this_refused, .int v_letterMany, .int v_rowMany, .int v_place, .ref a_this_numbers, .ref a_this_least, .ref a_this_stepsFrom, .ref a_this_most, .ref a_this_next, .ref a_this_otherSteps, .ref a_this_ahead, .ref a_this_now, .int v_seed])), (a_this_least, .inl (cI, 180, .inl g_least))] sz) (zQi (dC, dI) vwCl [(cI, .int), (cZ, .boolean)] r0 [(a_this, .inr (8, [.ref a_this_s, .ref a_this_image, .ref a_this_was, .int v_hasImage, .ref a_this_letters, .ref a_this_row, .ref a_this_refused, .int v_letterMany, .int v_rowMany, .int v_place, .ref a_this_numbers, .ref a_this_least, .ref a_this_stepsFrom, .ref a_this_most, .ref a_this_next, .ref a_this_otherSteps, .ref a_this_ahead, .ref a_this_now, .int v_seed])), (a_this_least, .inl (cI, 180, .inl g_least))] (va_A [(a_this, .inr (8, [.ref a_this_s, .ref a_this_image, .ref a_this_was, .int v_hasImage, .ref a_this_letters, .ref a_this_row, .ref a_this_refused, .int v_letterMany, .int v_rowMany, .int v_place, .ref a_this_numbers, .ref a_this_least, .ref a_this_stepsFrom, .ref a_this_most, .ref a_this_next, .ref a_this_otherSteps, .ref a_this_ahead, .ref a_this_now, .int v_seed])), (a_this_least, .inl (cI, 180, .inl g_least))] sz)) 0 0 (va_A [(a_this, .inr (8, [.ref a_this_s, .ref a_this_image, .ref a_this_was, .int v_hasImage, .ref a_this_letters, .ref a_this_row, .ref a_this_refused, .int v_letterMany, .int v_rowMany, .int v_place, .ref a_this_numbers, .ref a_this_least, .ref a_this_stepsFrom, .ref a_this_most, .ref a_this_next, .ref a_this_otherSteps, .ref a_this_ahead, .ref a_this_now, .int v_seed])), (a_this_least, .inl (cI, 180, .inl g_least))] sz) := by
  refine Met.ofW (cc := cX8_leastAt) (maxL := 4) (ret := (some .int)) (by decide) rfl ?_
  intro p e s m args below meth c s₁ B hml hv
  obtain ⟨rfl, hsz, hP, hK, hD0, hZ⟩ := hv
  have hx := B.exec
  have hb := B.bytes
  have hr := B.returns
  have hts := atoms_spec (ws := wsX8_leastAt) B.pre
  have hown : s.vm.findClass RX8 = some m.cls := findClass_of_methodNamed B.named
  have hlocks := B.notSynchronized
  subst hsz
  have hD := hD0.self (sz := s.heap.size)
  generalize hAe : va_A [(a_this, .inr (8, [.ref a_this_s, .ref a_this_image, .ref a_this_was, .int v_hasImage, .ref a_this_letters, .ref a_this_row, .ref a_this_refused, .int v_letterMany, .int v_rowMany, .int v_place, .ref a_this_numbers, .ref a_this_least, .ref a_this_stepsFrom, .ref a_this_most, .ref a_this_next, .ref a_this_otherSteps, .ref a_this_ahead, .ref a_this_now, .int v_seed])), (a_this_least, .inl (cI, 180, .inl g_least))] s.heap.size = A at hD hZ ⊢
  have hA : ∀ q : Nat, s.heap.size ≤ q → A q := fun q h => by rw [← hAe]; exact Or.inr h
  have hS : va_S A s.heap s.heap [] := va_S.rf
  have hP : va_P (dC, dI) vwCl [(a_this, .inr (8, [.ref a_this_s, .ref a_this_image, .ref a_this_was, .int v_hasImage, .ref a_this_letters, .ref a_this_row, .ref a_this_refused, .int v_letterMany, .int v_rowMany, .int v_place, .ref a_this_numbers, .ref a_this_least, .ref a_this_stepsFrom, .ref a_this_most, .ref a_this_next, .ref a_this_otherSteps, .ref a_this_ahead, .ref a_this_now, .int v_seed])), (a_this_least, .inl (cI, 180, .inl g_least))] s.heap := hP
  have hl := lv_entry ([.ref a_this, .int p1]) (n := 4) (Nat.le_of_ble_eq_true rfl)
  rw [lg_entry_eq]
  generalize (lg_sl ([.ref a_this, .int p1]) ++ List.replicate (4 - (lg_sl ([.ref a_this, .int p1])).length) Slot.unset).toArray = ls at hl ⊢
  have hl : lv_has ls 4 [(0, .ref a_this), (1, .int p1)] := hl
  have he := hf
  unfold f_M_leastAt at he
  refine zstart (D := (dC, dI)) (cl := vwCl) (A := A) (nL := 4) (fun WW hWW => ?_)
  refine lv_ldc (v := (1000000000 : Int32)) hx hb hown (hts (.constant RX8 140 (1000000000 : Int32)) (by decide +kernel)) dX8_leastAt_0 ?_
  refine lv_istore_n (lv' := [(2, .int (1000000000 : Int32)), (0, .ref a_this), (1, .int p1)]) hx hb dX8_leastAt_2 rfl hl (by decide) rfl (fun ls hl => ?_)
  refine lv_iconst (v := (0 : Int32)) hx hb dX8_leastAt_3 (by decide) ?_
  refine lv_istore_n (lv' := [(3, .int (0 : Int32)), (2, .int (1000000000 : Int32)), (0, .ref a_this), (1, .int p1)]) hx hb dX8_leastAt_4 rfl hl (by decide) rfl (fun ls hl => ?_)
  refine (hWW _ _ _ _).mp (zl2_w he (fun (l2_1 : Int32) (l3_2 : Int32) => WW [(a_this, .inr (8, [.ref a_this_s, .ref a_this_image, .ref a_this_was, .int v_hasImage, .ref a_this_letters, .ref a_this_row, .ref a_this_refused, .int v_letterMany, .int v_rowMany, .int v_place, .ref a_this_numbers, .ref a_this_least, .ref a_this_stepsFrom, .ref a_this_most, .ref a_this_next, .ref a_this_otherSteps, .ref a_this_ahead, .ref a_this_now, .int v_seed])), (a_this_least, .inl (cI, 180, .inl g_least))] [(0, .ref a_this), (1, .int p1), (2, .int l2_1), (3, .int l3_2)] 5 []) (fun l2_1 l3_2 again3 hagain3 he => (hWW _ _ _ _).mpr (fun H locs ls hP hD hS hl => ?_))) _ _ _ hP hD hS (lv_sub hl [2, 3, 1, 0] rfl)
  refine lv_iload_n hx hb dX8_leastAt_5 rfl (lv_at hl 3 rfl) ?_
  refine lv_iconst (v := (4 : Int32)) hx hb dX8_leastAt_6 (by decide) ?_
  refine lv_icmp_gt (tgt := 45) hx hb dX8_leastAt_7 (by decide) (fun c4 => ?_) (fun c4 => ?_)
  · have he := zif_t c4 he
    refine lv_iload_n hx hb dX8_leastAt_45 rfl (lv_at hl 2 rfl) ?_
    obtain ⟨rfl⟩ := zi1 he
    exact W.iret hx hb hr (fun t ht hW => ⟨⟨_, (), rfl, rfl, by rw [ht]; exact hP, va_K.moved hW.alike hK, hD⟩, hS.F ht⟩) hS.2.2 dX8_leastAt_46
  · have he := zif_f c4 he
    refine lv_aload_n hx hb dX8_leastAt_10 rfl (lv_at hl 0 rfl) ?_
    refine va_get (D := (dC, dI)) (ci := 8) (v := .ref a_this_least) (C := RX8) (T := TX8) (N := 19) hx hb hts (by decide +kernel) hown hK hP 0 rfl rfl 11 (by decide) (hts (.fieldLink RX8 31 "LawOfCornersModel" "least" "[I") (by decide +kernel)) (fun _ h9 => h9) rfl dX8_leastAt_11 ?_
    refine lv_iload_n hx hb dX8_leastAt_14 rfl (lv_at hl 1 rfl) ?_
    refine lv_iload_n hx hb dX8_leastAt_15 rfl (lv_at hl 3 rfl) ?_
    obtain ⟨r5, hf6, he⟩ := zb1_e he
    refine zc_i (wr := [(a_this, .inr (8, [.ref a_this_s, .ref a_this_image, .ref a_this_was, .int v_hasImage, .ref a_this_letters, .ref a_this_row, .ref a_this_refused, .int v_letterMany, .int v_rowMany, .int v_place, .ref a_this_numbers, .ref a_this_least, .ref a_this_stepsFrom, .ref a_this_most, .ref a_this_next, .ref a_this_otherSteps, .ref a_this_ahead, .ref a_this_now, .int v_seed])), (a_this_least, .inl (cI, 180, .inl g_least))]) (ws' := [(a_this, .inr (8, [.ref a_this_s, .ref a_this_image, .ref a_this_was, .int v_hasImage, .ref a_this_letters, .ref a_this_row, .ref a_this_refused, .int v_letterMany, .int v_rowMany, .int v_place, .ref a_this_numbers, .ref a_this_least, .ref a_this_stepsFrom, .ref a_this_most, .ref a_this_next, .ref a_this_otherSteps, .ref a_this_ahead, .ref a_this_now, .int v_seed])), (a_this_least, .inl (cI, 180, .inl g_least))]) (va_runS (As := [.int p1, .int l3_2]) (rest := [.ref a_this_least]) ⟨hx, hb, hml, hown, hts⟩ (k_M_at l dC dI cI cZ tt sd H.size p1 l3_2 r5 hf6) (va_cwS 2 hts gX8_leastAt_X8_at rfl rfl rfl (by decide +kernel) ⟨Nat.le_of_ble_eq_true rfl, Nat.le_of_ble_eq_true rfl⟩) (zpS hP hD hK hS hA hZ [] rfl rfl) rfl rfl hl.1 rfl (lv_room (Nat.le_of_ble_eq_true rfl)) dX8_leastAt_16 ⟨Nat.zero_le _, Nat.zero_le _⟩) hP hD hS hA [] [0, 1] [0, 1] rfl rfl rfl (by decide) rfl rfl rfl (fun H locs hP hD hS => ?_)
    obtain ⟨hg7, he⟩ := zg_e he
    refine va_iald hx hb hK hP 1 0 rfl rfl hg7 dX8_leastAt_19 ?_
    refine lv_iload_n hx hb dX8_leastAt_20 rfl (lv_at hl 2 rfl) ?_
    refine zj1_w he (fun (s8 : Int32) => WW [(a_this, .inr (8, [.ref a_this_s, .ref a_this_image, .ref a_this_was, .int v_hasImage, .ref a_this_letters, .ref a_this_row, .ref a_this_refused, .int v_letterMany, .int v_rowMany, .int v_place, .ref a_this_numbers, .ref a_this_least, .ref a_this_stepsFrom, .ref a_this_most, .ref a_this_next, .ref a_this_otherSteps, .ref a_this_ahead, .ref a_this_now, .int v_seed])), (a_this_least, .inl (cI, 180, .inl g_least))] [(0, .ref a_this), (1, .int p1), (3, .int l3_2)] 38 [.int s8]) (fun s8 he => (hWW _ _ _ _).mpr (fun H locs ls hP hD hS hl => ?_)) (fun k10 hk10 he => ?_)
    · refine lv_istore_n (lv' := [(2, .int s8), (0, .ref a_this), (1, .int p1), (3, .int l3_2)]) hx hb dX8_leastAt_38 rfl hl (by decide) rfl (fun ls hl => ?_)
      obtain ⟨x9, ex9⟩ : ∃ y : Int32, y = l3_2 + (1 : Int32) := ⟨_, rfl⟩
      have he := zn_e ex9 he
      refine lv_iinc (v := x9) (lv' := [(3, .int x9), (2, .int s8), (0, .ref a_this), (1, .int p1)]) hx hb dX8_leastAt_39 hl (k := 3) rfl (by rw [ex9]; rfl) (by decide) rfl (fun ls hl => ?_)
      refine lv_goto (tgt := 5) hx hb dX8_leastAt_42 (by decide) ?_
      exact (hWW _ _ _ _).mp (hagain3 s8 x9 he) _ _ _ hP hD hS (lv_sub hl [2, 3, 1, 0] rfl)
    refine lv_icmp_ge (tgt := 37) hx hb dX8_leastAt_21 (by decide) (fun c11 => ?_) (fun c11 => ?_)
    · have he := zif_t c11 he
      refine lv_iload_n hx hb dX8_leastAt_37 rfl (lv_at hl 2 rfl) ?_
      exact (hWW _ _ _ _).mp (hk10 l2_1 he) _ _ _ hP hD hS (lv_sub hl [0, 1, 3] rfl)
    · have he := zif_f c11 he
      refine lv_aload_n hx hb dX8_leastAt_24 rfl (lv_at hl 0 rfl) ?_
      refine va_get (D := (dC, dI)) (ci := 8) (v := .ref a_this_least) (C := RX8) (T := TX8) (N := 19) hx hb hts (by decide +kernel) hown hK hP 0 rfl rfl 11 (by decide) (hts (.fieldLink RX8 31 "LawOfCornersModel" "least" "[I") (by decide +kernel)) (fun _ h9 => h9) rfl dX8_leastAt_25 ?_
      refine lv_iload_n hx hb dX8_leastAt_28 rfl (lv_at hl 1 rfl) ?_
      refine lv_iload_n hx hb dX8_leastAt_29 rfl (lv_at hl 3 rfl) ?_
      obtain ⟨r12, hf13, he⟩ := zb1_e he
      refine zc_i (wr := [(a_this, .inr (8, [.ref a_this_s, .ref a_this_image, .ref a_this_was, .int v_hasImage, .ref a_this_letters, .ref a_this_row, .ref a_this_refused, .int v_letterMany, .int v_rowMany, .int v_place, .ref a_this_numbers, .ref a_this_least, .ref a_this_stepsFrom, .ref a_this_most, .ref a_this_next, .ref a_this_otherSteps, .ref a_this_ahead, .ref a_this_now, .int v_seed])), (a_this_least, .inl (cI, 180, .inl g_least))]) (ws' := [(a_this, .inr (8, [.ref a_this_s, .ref a_this_image, .ref a_this_was, .int v_hasImage, .ref a_this_letters, .ref a_this_row, .ref a_this_refused, .int v_letterMany, .int v_rowMany, .int v_place, .ref a_this_numbers, .ref a_this_least, .ref a_this_stepsFrom, .ref a_this_most, .ref a_this_next, .ref a_this_otherSteps, .ref a_this_ahead, .ref a_this_now, .int v_seed])), (a_this_least, .inl (cI, 180, .inl g_least))]) (va_runS (As := [.int p1, .int l3_2]) (rest := [.ref a_this_least]) ⟨hx, hb, hml, hown, hts⟩ (k_M_at l dC dI cI cZ tt sd H.size p1 l3_2 r12 hf13) (va_cwS 2 hts gX8_leastAt_X8_at rfl rfl rfl (by decide +kernel) ⟨Nat.le_of_ble_eq_true rfl, Nat.le_of_ble_eq_true rfl⟩) (zpS hP hD hK hS hA hZ [] rfl rfl) rfl rfl hl.1 rfl (lv_room (Nat.le_of_ble_eq_true rfl)) dX8_leastAt_30 ⟨Nat.zero_le _, Nat.zero_le _⟩) hP hD hS hA [] [0, 1] [0, 1] rfl rfl rfl (by decide) rfl rfl rfl (fun H locs hP hD hS => ?_)
      obtain ⟨hg14, he⟩ := zg_e he
      refine va_iald hx hb hK hP 1 0 rfl rfl hg14 dX8_leastAt_33 ?_
      refine lv_goto (tgt := 38) hx hb dX8_leastAt_34 (by decide) ?_
      exact (hWW _ _ _ _).mp (hk10 (g_least r12.toNatClampNeg) he) _ _ _ hP hD hS (lv_sub hl [0, 1, 3] rfl)
set_option maxHeartbeats 4000000 in
set_option maxRecDepth 100000 in
theorem k_M_cornersBy (l : Launch) (dC : Nat → ClassId) (dI : Nat → Nat → Nat) (cI : ClassId) (cZ : ClassId) (tt : Nat → Nat) (sd : Nat → Nat) (a_this : Nat) (a_this_s : Nat) (a_this_image : Nat) (a_this_was : Nat) (a_this_letters : Nat) (a_this_row : Nat) (a_this_refused : Nat) (a_this_numbers : Nat) (a_this_least : Nat) (a_this_stepsFrom : Nat) (a_this_most : Nat) (a_this_next : Nat) (a_this_otherSteps : Nat) (a_this_ahead : Nat) (a_this_now : Nat) (sz : Nat) (v_hasImage : Int32) (v_letterMany : Int32) (v_rowMany : Int32) (v_place : Int32) (v_seed : Int32) (g_least : Nat → Int32) (g_s : Nat → Int32) (p1 : Int32) (p2 : Int32) (p3 : Int32) (r0 : Int32) (w0 : Nat → Int32) (hf : f_M_cornersBy g_least g_s p1 p2 p3 = some (r0, w0)) : Met l yX8_cornersBy wsX8_cornersBy ({ frames := 5, cells := 0, slots := 0, locals := 120 }) (zPre (dC, dI) vwCl [(cI, .int), (cZ, .boolean)] tt sd [.ref a_this, .int p1, .int p2, .int p3] [(a_this, .inr (8, [.ref a_this_s, .ref a_this_image, .ref a_this_was, .int v_hasImage, .ref a_this_letters, .ref a_this_row, .ref a_this_refused, .int v_letterMany, .int v_rowMany, .int v_place, .ref a_this_numbers, .ref a_this_least, .ref a_this_stepsFrom, .ref a_this_most, .ref a_this_next, .ref a_this_otherSteps, .ref a_this_ahead, .ref a_this_now, .int v_seed])), (a_this_least, .inl (cI, 180, .inl g_least)), (a_this_s, .inl (cI, 39, .inl g_s))] sz) (zQi (dC, dI) vwCl [(cI, .int), (cZ, .boolean)] r0 [(a_this, .inr (8, [.ref a_this_s, .ref a_this_image, .ref a_this_was, .int v_hasImage, .ref a_this_letters, .ref a_this_row, .ref a_this_refused, .int v_letterMany, .int v_rowMany, .int v_place, .ref a_this_numbers, .ref a_this_least, .ref a_this_stepsFrom, .ref a_this_most, .ref a_this_next, .ref a_this_otherSteps, .ref a_this_ahead, .ref a_this_now, .int v_seed])), (a_this_least, .inl (cI, 180, .inl w0)), (a_this_s, .inl (cI, 39, .inl g_s))] (va_A [(a_this, .inr (8, [.ref a_this_s, .ref a_this_image, .ref a_this_was, .int v_hasImage, .ref a_this_letters, .ref a_this_row, .ref a_this_refused, .int v_letterMany, .int v_rowMany, .int v_place, .ref a_this_numbers, .ref a_this_least, .ref a_this_stepsFrom, .ref a_this_most, .ref a_this_next, .ref a_this_otherSteps, .ref a_this_ahead, .ref a_this_now, .int v_seed])), (a_this_least, .inl (cI, 180, .inl g_least)), (a_this_s, .inl (cI, 39, .inl g_s))] sz)) 0 0 (va_A [(a_this, .inr (8, [.ref a_this_s, .ref a_this_image, .ref a_this_was, .int v_hasImage, .ref a_this_letters, .ref a_this_row, .ref a_this_refused, .int v_letterMany, .int v_rowMany, .int v_place, .ref a_this_numbers, .ref a_this_least, .ref a_this_stepsFrom, .ref a_this_most, .ref a_this_next, .ref a_this_otherSteps, .ref a_this_ahead, .ref a_this_now, .int v_seed])), (a_this_least, .inl (cI, 180, .inl g_least)), (a_this_s, .inl (cI, 39, .inl g_s))] sz) := by
  refine Met.ofW (cc := cX8_cornersBy) (maxL := 4) (ret := (some .int)) (by decide) rfl ?_
  intro p e s m args below meth c s₁ B hml hv
  obtain ⟨rfl, hsz, hP, hK, hD0, hZ⟩ := hv
  have hx := B.exec
  have hb := B.bytes
  have hr := B.returns
  have hts := atoms_spec (ws := wsX8_cornersBy) B.pre
  have hown : s.vm.findClass RX8 = some m.cls := findClass_of_methodNamed B.named
  have hlocks := B.notSynchronized
  subst hsz
  have hD := hD0.self (sz := s.heap.size)
  generalize hAe : va_A [(a_this, .inr (8, [.ref a_this_s, .ref a_this_image, .ref a_this_was, .int v_hasImage, .ref a_this_letters, .ref a_this_row, .ref a_this_refused, .int v_letterMany, .int v_rowMany, .int v_place, .ref a_this_numbers, .ref a_this_least, .ref a_this_stepsFrom, .ref a_this_most, .ref a_this_next, .ref a_this_otherSteps, .ref a_this_ahead, .ref a_this_now, .int v_seed])), (a_this_least, .inl (cI, 180, .inl g_least)), (a_this_s, .inl (cI, 39, .inl g_s))] s.heap.size = A at hD hZ ⊢
  have hA : ∀ q : Nat, s.heap.size ≤ q → A q := fun q h => by rw [← hAe]; exact Or.inr h
  have hS : va_S A s.heap s.heap [] := va_S.rf
  have hP : va_P (dC, dI) vwCl [(a_this, .inr (8, [.ref a_this_s, .ref a_this_image, .ref a_this_was, .int v_hasImage, .ref a_this_letters, .ref a_this_row, .ref a_this_refused, .int v_letterMany, .int v_rowMany, .int v_place, .ref a_this_numbers, .ref a_this_least, .ref a_this_stepsFrom, .ref a_this_most, .ref a_this_next, .ref a_this_otherSteps, .ref a_this_ahead, .ref a_this_now, .int v_seed])), (a_this_least, .inl (cI, 180, .inl g_least)), (a_this_s, .inl (cI, 39, .inl g_s))] s.heap := hP
  have hl := lv_entry ([.ref a_this, .int p1, .int p2, .int p3]) (n := 4) (Nat.le_of_ble_eq_true rfl)
  rw [lg_entry_eq]
  generalize (lg_sl ([.ref a_this, .int p1, .int p2, .int p3]) ++ List.replicate (4 - (lg_sl ([.ref a_this, .int p1, .int p2, .int p3])).length) Slot.unset).toArray = ls at hl ⊢
  have hl : lv_has ls 4 [(0, .ref a_this), (1, .int p1), (2, .int p2), (3, .int p3)] := hl
  have he := hf
  unfold f_M_cornersBy at he
  refine lv_aload_n hx hb dX8_cornersBy_0 rfl (lv_at hl 0 rfl) ?_
  refine lv_iload_n hx hb dX8_cornersBy_1 rfl (lv_at hl 1 rfl) ?_
  refine lv_iload_n hx hb dX8_cornersBy_2 rfl (lv_at hl 3 rfl) ?_
  refine lv_iconst (v := (0 : Int32)) hx hb dX8_cornersBy_3 (by decide) ?_
  obtain ⟨g_least_1, hf2, he⟩ := zb1_e he
  refine zc_v (wr := []) (ws' := [(a_this, .inr (8, [.ref a_this_s, .ref a_this_image, .ref a_this_was, .int v_hasImage, .ref a_this_letters, .ref a_this_row, .ref a_this_refused, .int v_letterMany, .int v_rowMany, .int v_place, .ref a_this_numbers, .ref a_this_least, .ref a_this_stepsFrom, .ref a_this_most, .ref a_this_next, .ref a_this_otherSteps, .ref a_this_ahead, .ref a_this_now, .int v_seed])), (a_this_least, .inl (cI, 180, .inl g_least_1)), (a_this_s, .inl (cI, 39, .inl g_s))]) (va_runV (As := [.int p1, .int p3, .int (0 : Int32)]) (rest := []) ⟨hx, hb, hml, hown, hts⟩ (k_M_leastAll l dC dI cI cZ tt sd a_this a_this_s a_this_image a_this_was a_this_letters a_this_row a_this_refused a_this_numbers a_this_least a_this_stepsFrom a_this_most a_this_next a_this_otherSteps a_this_ahead a_this_now s.heap.size v_hasImage v_letterMany v_rowMany v_place v_seed g_least g_s p1 p3 (0 : Int32) g_least_1 hf2) (cwV 3 hts gX8_cornersBy_X8_leastAll rfl rfl rfl (by decide +kernel) ⟨Nat.le_of_ble_eq_true rfl, Nat.le_of_ble_eq_true rfl⟩) (zpV hP hD hK hS hA hZ [0, 1, 2] rfl rfl 8 0 rfl rfl) rfl rfl hl.1 rfl (lv_room (Nat.le_of_ble_eq_true rfl)) dX8_cornersBy_4 ⟨Nat.zero_le _, Nat.zero_le _⟩) hP hD hS hA [0, 1, 2] [] [0, 1, 2] rfl rfl rfl (by decide) rfl rfl rfl (fun H locs hP hD hS => ?_)
  refine lv_aload_n hx hb dX8_cornersBy_7 rfl (lv_at hl 0 rfl) ?_
  refine lv_iload_n hx hb dX8_cornersBy_8 rfl (lv_at hl 2 rfl) ?_
  obtain ⟨r3, hf4, he⟩ := zb1_e he
  refine zc_i (wr := [(a_this_s, .inl (cI, 39, .inl g_s))]) (ws' := [(a_this, .inr (8, [.ref a_this_s, .ref a_this_image, .ref a_this_was, .int v_hasImage, .ref a_this_letters, .ref a_this_row, .ref a_this_refused, .int v_letterMany, .int v_rowMany, .int v_place, .ref a_this_numbers, .ref a_this_least, .ref a_this_stepsFrom, .ref a_this_most, .ref a_this_next, .ref a_this_otherSteps, .ref a_this_ahead, .ref a_this_now, .int v_seed])), (a_this_least, .inl (cI, 180, .inl g_least_1)), (a_this_s, .inl (cI, 39, .inl g_s))]) (va_runV (As := [.int p2]) (rest := []) ⟨hx, hb, hml, hown, hts⟩ (k_M_leastAt l dC dI cI cZ tt sd a_this a_this_s a_this_image a_this_was a_this_letters a_this_row a_this_refused a_this_numbers a_this_least a_this_stepsFrom a_this_most a_this_next a_this_otherSteps a_this_ahead a_this_now H.size v_hasImage v_letterMany v_rowMany v_place v_seed g_least_1 p2 r3 hf4) (cwV 1 hts gX8_cornersBy_X8_leastAt rfl rfl rfl (by decide +kernel) ⟨Nat.le_of_ble_eq_true rfl, Nat.le_of_ble_eq_true rfl⟩) (zpV hP hD hK hS hA hZ [0, 1] rfl rfl 8 0 rfl rfl) rfl rfl hl.1 rfl (lv_room (Nat.le_of_ble_eq_true rfl)) dX8_cornersBy_9 ⟨Nat.zero_le _, Nat.zero_le _⟩) hP hD hS hA [0, 1] [2] [1, 2, 0] rfl rfl rfl (by decide) rfl rfl rfl (fun H locs hP hD hS => ?_)
  obtain ⟨rfl, rfl⟩ := zi2 he
  exact W.iret hx hb hr (fun t ht hW => ⟨⟨_, (), rfl, rfl, by rw [ht]; exact hP, va_K.moved hW.alike hK, hD⟩, hS.F ht⟩) hS.2.2 dX8_cornersBy_12
