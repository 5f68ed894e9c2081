set_option maxHeartbeats 4000000 in
set_option maxRecDepth 100000 in
theorem k_X_squaresHeard (l : Launch) (dC : Nat → ClassId) (dI : Nat → Nat → Nat) (cI : ClassId) (cZ : ClassId) (tt : Nat → Nat) (sd : Nat → Nat) (a_this : Nat) (a_this_town : Nat) (a_this_trial : Nat) (a_this_kept : Nat) (a_this_letters : Nat) (a_this_told : Nat) (a_this_refused : Nat) (a_this_stroll : Nat) (a_this_reach : Nat) (a_this_otherReach : Nat) (a_this_routes : Nat) (a_this_talks : Nat) (a_this_hearers : Nat) (a_this_town_kinds : Nat) (a_this_town_kinds_all : Nat) (sz : Nat) (v_isKept : Int32) (v_toldCount : Int32) (v_town_home : Int32) (v_town_fine : Int32) (v_town_breath : Int32) (g_town_kinds_all : Nat → Int32) (r0 : Int32) (hf : f_X_squaresHeard g_town_kinds_all = some (r0)) : Met l yX7_squaresHeard wsX7_squaresHeard ({ frames := 3, cells := 0, slots := 0, locals := 76 }) (zPre (dC, dI) vwCl [(cI, .int), (cZ, .boolean)] tt sd [.ref a_this] [(a_this, .inr (7, [.ref a_this_town, .ref a_this_trial, .ref a_this_kept, .int v_isKept, .ref a_this_letters, .ref a_this_told, .int v_toldCount, .ref a_this_refused, .ref a_this_stroll, .ref a_this_reach, .ref a_this_otherReach, .ref a_this_routes, .ref a_this_talks, .ref a_this_hearers])), (a_this_town, .inr (6, [.ref a_this_town_kinds, .int v_town_home, .int v_town_fine, .int v_town_breath])), (a_this_town_kinds, .inr (1, [.ref a_this_town_kinds_all])), (a_this_town_kinds_all, .inl (cI, 36, .inl g_town_kinds_all))] sz) (zQi (dC, dI) vwCl [(cI, .int), (cZ, .boolean)] r0 [(a_this, .inr (7, [.ref a_this_town, .ref a_this_trial, .ref a_this_kept, .int v_isKept, .ref a_this_letters, .ref a_this_told, .int v_toldCount, .ref a_this_refused, .ref a_this_stroll, .ref a_this_reach, .ref a_this_otherReach, .ref a_this_routes, .ref a_this_talks, .ref a_this_hearers])), (a_this_town, .inr (6, [.ref a_this_town_kinds, .int v_town_home, .int v_town_fine, .int v_town_breath])), (a_this_town_kinds, .inr (1, [.ref a_this_town_kinds_all])), (a_this_town_kinds_all, .inl (cI, 36, .inl g_town_kinds_all))] (va_A [(a_this, .inr (7, [.ref a_this_town, .ref a_this_trial, .ref a_this_kept, .int v_isKept, .ref a_this_letters, .ref a_this_told, .int v_toldCount, .ref a_this_refused, .ref a_this_stroll, .ref a_this_reach, .ref a_this_otherReach, .ref a_this_routes, .ref a_this_talks, .ref a_this_hearers])), (a_this_town, .inr (6, [.ref a_this_town_kinds, .int v_town_home, .int v_town_fine, .int v_town_breath])), (a_this_town_kinds, .inr (1, [.ref a_this_town_kinds_all])), (a_this_town_kinds_all, .inl (cI, 36, .inl g_town_kinds_all))] sz)) 0 0 (va_A [(a_this, .inr (7, [.ref a_this_town, .ref a_this_trial, .ref a_this_kept, .int v_isKept, .ref a_this_letters, .ref a_this_told, .int v_toldCount, .ref a_this_refused, .ref a_this_stroll, .ref a_this_reach, .ref a_this_otherReach, .ref a_this_routes, .ref a_this_talks, .ref a_this_hearers])), (a_this_town, .inr (6, [.ref a_this_town_kinds, .int v_town_home, .int v_town_fine, .int v_town_breath])), (a_this_town_kinds, .inr (1, [.ref a_this_town_kinds_all])), (a_this_town_kinds_all, .inl (cI, 36, .inl g_town_kinds_all))] sz) := by
  refine Met.ofW (cc := cX7_squaresHeard) (maxL := 3) (ret := (some .int)) (by decide) rfl ?_
  intro p e s m args below meth c s₁ B hml hv
  obtain ⟨rfl, hsz, hP, hK, hD0, hZ⟩ := hv
  have hx := B.exec
  have hb := B.bytes
  have hr := B.returns
  have hts := atoms_spec (ws := wsX7_squaresHeard) B.pre
  have hown : s.vm.findClass RX7 = some m.cls := findClass_of_methodNamed B.named
  have hlocks := B.notSynchronized
  subst hsz
  have hD := hD0.self (sz := s.heap.size)
  generalize hAe : va_A [(a_this, .inr (7, [.ref a_this_town, .ref a_this_trial, .ref a_this_kept, .int v_isKept, .ref a_this_letters, .ref a_this_told, .int v_toldCount, .ref a_this_refused, .ref a_this_stroll, .ref a_this_reach, .ref a_this_otherReach, .ref a_this_routes, .ref a_this_talks, .ref a_this_hearers])), (a_this_town, .inr (6, [.ref a_this_town_kinds, .int v_town_home, .int v_town_fine, .int v_town_breath])), (a_this_town_kinds, .inr (1, [.ref a_this_town_kinds_all])), (a_this_town_kinds_all, .inl (cI, 36, .inl g_town_kinds_all))] s.heap.size = A at hD hZ ⊢
  have hA : ∀ q : Nat, s.heap.size ≤ q → A q := fun q h => by rw [← hAe]; exact Or.inr h
  have hS : va_S A s.heap s.heap [] := va_S.rf
  have hP : va_P (dC, dI) vwCl [(a_this, .inr (7, [.ref a_this_town, .ref a_this_trial, .ref a_this_kept, .int v_isKept, .ref a_this_letters, .ref a_this_told, .int v_toldCount, .ref a_this_refused, .ref a_this_stroll, .ref a_this_reach, .ref a_this_otherReach, .ref a_this_routes, .ref a_this_talks, .ref a_this_hearers])), (a_this_town, .inr (6, [.ref a_this_town_kinds, .int v_town_home, .int v_town_fine, .int v_town_breath])), (a_this_town_kinds, .inr (1, [.ref a_this_town_kinds_all])), (a_this_town_kinds_all, .inl (cI, 36, .inl g_town_kinds_all))] s.heap := hP
  have hl := lv_entry ([.ref a_this]) (n := 3) (Nat.le_of_ble_eq_true rfl)
  rw [lg_entry_eq]
  generalize (lg_sl ([.ref a_this]) ++ List.replicate (3 - (lg_sl ([.ref a_this])).length) Slot.unset).toArray = ls at hl ⊢
  have hl : lv_has ls 3 [(0, .ref a_this)] := hl
  have he := hf
  unfold f_X_squaresHeard at he
  refine zstart (D := (dC, dI)) (cl := vwCl) (A := A) (nL := 3) (fun WW hWW => ?_)
  refine lv_iconst (v := (0 : Int32)) hx hb dX7_squaresHeard_0 (by decide) ?_
  refine lv_istore_n (lv' := [(1, .int (0 : Int32)), (0, .ref a_this)]) hx hb dX7_squaresHeard_1 rfl hl (by decide) rfl (fun ls hl => ?_)
  refine lv_iconst (v := (0 : Int32)) hx hb dX7_squaresHeard_2 (by decide) ?_
  refine lv_istore_n (lv' := [(2, .int (0 : Int32)), (1, .int (0 : Int32)), (0, .ref a_this)]) hx hb dX7_squaresHeard_3 rfl hl (by decide) rfl (fun ls hl => ?_)
  refine (hWW _ _ _ _).mp (zl2_w he (fun (l1_1 : Int32) (l2_2 : Int32) => WW [(a_this, .inr (7, [.ref a_this_town, .ref a_this_trial, .ref a_this_kept, .int v_isKept, .ref a_this_letters, .ref a_this_told, .int v_toldCount, .ref a_this_refused, .ref a_this_stroll, .ref a_this_reach, .ref a_this_otherReach, .ref a_this_routes, .ref a_this_talks, .ref a_this_hearers])), (a_this_town, .inr (6, [.ref a_this_town_kinds, .int v_town_home, .int v_town_fine, .int v_town_breath])), (a_this_town_kinds, .inr (1, [.ref a_this_town_kinds_all])), (a_this_town_kinds_all, .inl (cI, 36, .inl g_town_kinds_all))] [(0, .ref a_this), (1, .int l1_1), (2, .int l2_2)] 4 []) (fun l1_1 l2_2 again3 hagain3 he => (hWW _ _ _ _).mpr (fun H locs ls hP hD hS hl => ?_))) _ _ _ hP hD hS (lv_sub hl [2, 1, 0] rfl)
  refine lv_iload_n hx hb dX7_squaresHeard_4 rfl (lv_at hl 2 rfl) ?_
  refine lv_bipush (v := (36 : Int32)) hx hb dX7_squaresHeard_5 (by decide) ?_
  refine lv_icmp_ge (tgt := 35) hx hb dX7_squaresHeard_7 (by decide) (fun c4 => ?_) (fun c4 => ?_)
  · have he := zif_t c4 he
    refine lv_iload_n hx hb dX7_squaresHeard_35 rfl (lv_at hl 1 rfl) ?_
    obtain ⟨rfl⟩ := zi1 he
    exact W.iret hx hb hr (fun t ht hW => ⟨⟨_, (), rfl, rfl, by rw [ht]; exact hP, va_K.moved hW.alike hK, hD⟩, hS.F ht⟩) hS.2.2 dX7_squaresHeard_36
  · have he := zif_f c4 he
    refine lv_iload_n hx hb dX7_squaresHeard_10 rfl (lv_at hl 1 rfl) ?_
    refine lv_aload_n hx hb dX7_squaresHeard_11 rfl (lv_at hl 0 rfl) ?_
    refine va_get (D := (dC, dI)) (ci := 7) (v := .ref a_this_town) (C := RX7) (T := TX7) (N := 14) hx hb hts (by decide +kernel) hown hK hP 0 rfl rfl 0 (by decide) (hts (.fieldLink RX7 12 "LawOfCorners" "town" "LLawOfCorners$Town;") (by decide +kernel)) (fun _ h9 => h9) rfl dX7_squaresHeard_12 ?_
    refine lv_iload_n hx hb dX7_squaresHeard_15 rfl (lv_at hl 2 rfl) ?_
    obtain ⟨r5, hf6, he⟩ := zb1_e he
    refine zc_i (wr := [(a_this, .inr (7, [.ref a_this_town, .ref a_this_trial, .ref a_this_kept, .int v_isKept, .ref a_this_letters, .ref a_this_told, .int v_toldCount, .ref a_this_refused, .ref a_this_stroll, .ref a_this_reach, .ref a_this_otherReach, .ref a_this_routes, .ref a_this_talks, .ref a_this_hearers]))]) (ws' := [(a_this, .inr (7, [.ref a_this_town, .ref a_this_trial, .ref a_this_kept, .int v_isKept, .ref a_this_letters, .ref a_this_told, .int v_toldCount, .ref a_this_refused, .ref a_this_stroll, .ref a_this_reach, .ref a_this_otherReach, .ref a_this_routes, .ref a_this_talks, .ref a_this_hearers])), (a_this_town, .inr (6, [.ref a_this_town_kinds, .int v_town_home, .int v_town_fine, .int v_town_breath])), (a_this_town_kinds, .inr (1, [.ref a_this_town_kinds_all])), (a_this_town_kinds_all, .inl (cI, 36, .inl g_town_kinds_all))]) (va_runV (As := [.int l2_2]) (rest := [.int l1_1]) ⟨hx, hb, hml, hown, hts⟩ (k_Town_heardBy l dC dI cI cZ tt sd a_this_town a_this_town_kinds a_this_town_kinds_all H.size v_town_home v_town_fine v_town_breath g_town_kinds_all l2_2 r5 hf6) (cwV 1 hts gX7_squaresHeard_X6_heardBy rfl rfl rfl (by decide +kernel) ⟨Nat.le_of_ble_eq_true rfl, Nat.le_of_ble_eq_true rfl⟩) (zpV hP hD hK hS hA hZ [1, 2, 3] rfl rfl 6 1 rfl rfl) rfl rfl hl.1 rfl (lv_room (Nat.le_of_ble_eq_true rfl)) dX7_squaresHeard_16 ⟨Nat.zero_le _, Nat.zero_le _⟩) hP hD hS hA [1, 2, 3] [0] [0, 1, 2, 3] rfl rfl rfl (by decide) rfl rfl rfl (fun H locs hP hD hS => ?_)
    refine zj1_w he (fun (s7 : Int32) => WW [(a_this, .inr (7, [.ref a_this_town, .ref a_this_trial, .ref a_this_kept, .int v_isKept, .ref a_this_letters, .ref a_this_told, .int v_toldCount, .ref a_this_refused, .ref a_this_stroll, .ref a_this_reach, .ref a_this_otherReach, .ref a_this_routes, .ref a_this_talks, .ref a_this_hearers])), (a_this_town, .inr (6, [.ref a_this_town_kinds, .int v_town_home, .int v_town_fine, .int v_town_breath])), (a_this_town_kinds, .inr (1, [.ref a_this_town_kinds_all])), (a_this_town_kinds_all, .inl (cI, 36, .inl g_town_kinds_all))] [(0, .ref a_this), (2, .int l2_2)] 27 [.int s7, .int l1_1]) (fun s7 he => (hWW _ _ _ _).mpr (fun H locs ls hP hD hS hl => ?_)) (fun k10 hk10 he => ?_)
    · refine lv_iadd hx hb dX7_squaresHeard_27 ?_
      refine lv_topi (fun x8 ex8 => ?_)
      have he := zn_e ex8 he
      refine lv_istore_n (lv' := [(1, .int x8), (0, .ref a_this), (2, .int l2_2)]) hx hb dX7_squaresHeard_28 rfl hl (by decide) rfl (fun ls hl => ?_)
      obtain ⟨x9, ex9⟩ : ∃ y : Int32, y = l2_2 + (1 : Int32) := ⟨_, rfl⟩
      have he := zn_e ex9 he
      refine lv_iinc (v := x9) (lv' := [(2, .int x9), (1, .int x8), (0, .ref a_this)]) hx hb dX7_squaresHeard_29 hl (k := 2) rfl (by rw [ex9]; rfl) (by decide) rfl (fun ls hl => ?_)
      refine lv_goto (tgt := 4) hx hb dX7_squaresHeard_32 (by decide) ?_
      exact (hWW _ _ _ _).mp (hagain3 x8 x9 he) _ _ _ hP hD hS (lv_sub hl [2, 1, 0] rfl)
    refine lv_if_le (tgt := 26) hx hb dX7_squaresHeard_19 (by decide) (fun c11 => ?_) (fun c11 => ?_)
    · have he := zif_t c11 he
      refine lv_iconst (v := (0 : Int32)) hx hb dX7_squaresHeard_26 (by decide) ?_
      exact (hWW _ _ _ _).mp (hk10 (0 : Int32) he) _ _ _ hP hD hS (lv_sub hl [0, 2] rfl)
    · have he := zif_f c11 he
      refine lv_iconst (v := (1 : Int32)) hx hb dX7_squaresHeard_22 (by decide) ?_
      refine lv_goto (tgt := 27) hx hb dX7_squaresHeard_23 (by decide) ?_
      exact (hWW _ _ _ _).mp (hk10 (1 : Int32) he) _ _ _ hP hD hS (lv_sub hl [0, 2] rfl)
set_option maxHeartbeats 4000000 in
set_option maxRecDepth 100000 in
theorem k_X_squaresOneCanBeOn (l : Launch) (dC : Nat → ClassId) (dI : Nat → Nat → Nat) (cI : ClassId) (cZ : ClassId) (tt : Nat → Nat) (sd : Nat → Nat) (a_this : Nat) (a_this_town : Nat) (a_this_trial : Nat) (a_this_kept : Nat) (a_this_letters : Nat) (a_this_told : Nat) (a_this_refused : Nat) (a_this_stroll : Nat) (a_this_reach : Nat) (a_this_otherReach : Nat) (a_this_routes : Nat) (a_this_talks : Nat) (a_this_hearers : Nat) (a_this_town_kinds : Nat) (a_this_town_kinds_all : Nat) (sz : Nat) (v_isKept : Int32) (v_toldCount : Int32) (v_town_home : Int32) (v_town_fine : Int32) (v_town_breath : Int32) (g_town_kinds_all : Nat → Int32) (r0 : Int32) (hf : f_X_squaresOneCanBeOn g_town_kinds_all = some (r0)) : Met l yX7_squaresOneCanBeOn wsX7_squaresOneCanBeOn ({ frames := 2, cells := 0, slots := 0, locals := 42 }) (zPre (dC, dI) vwCl [(cI, .int), (cZ, .boolean)] tt sd [.ref a_this] [(a_this, .inr (7, [.ref a_this_town, .ref a_this_trial, .ref a_this_kept, .int v_isKept, .ref a_this_letters, .ref a_this_told, .int v_toldCount, .ref a_this_refused, .ref a_this_stroll, .ref a_this_reach, .ref a_this_otherReach, .ref a_this_routes, .ref a_this_talks, .ref a_this_hearers])), (a_this_town, .inr (6, [.ref a_this_town_kinds, .int v_town_home, .int v_town_fine, .int v_town_breath])), (a_this_town_kinds, .inr (1, [.ref a_this_town_kinds_all])), (a_this_town_kinds_all, .inl (cI, 36, .inl g_town_kinds_all))] sz) (zQi (dC, dI) vwCl [(cI, .int), (cZ, .boolean)] r0 [(a_this, .inr (7, [.ref a_this_town, .ref a_this_trial, .ref a_this_kept, .int v_isKept, .ref a_this_letters, .ref a_this_told, .int v_toldCount, .ref a_this_refused, .ref a_this_stroll, .ref a_this_reach, .ref a_this_otherReach, .ref a_this_routes, .ref a_this_talks, .ref a_this_hearers])), (a_this_town, .inr (6, [.ref a_this_town_kinds, .int v_town_home, .int v_town_fine, .int v_town_breath])), (a_this_town_kinds, .inr (1, [.ref a_this_town_kinds_all])), (a_this_town_kinds_all, .inl (cI, 36, .inl g_town_kinds_all))] (va_A [(a_this, .inr (7, [.ref a_this_town, .ref a_this_trial, .ref a_this_kept, .int v_isKept, .ref a_this_letters, .ref a_this_told, .int v_toldCount, .ref a_this_refused, .ref a_this_stroll, .ref a_this_reach, .ref a_this_otherReach, .ref a_this_routes, .ref a_this_talks, .ref a_this_hearers])), (a_this_town, .inr (6, [.ref a_this_town_kinds, .int v_town_home, .int v_town_fine, .int v_town_breath])), (a_this_town_kinds, .inr (1, [.ref a_this_town_kinds_all])), (a_this_town_kinds_all, .inl (cI, 36, .inl g_town_kinds_all))] sz)) 0 0 (va_A [(a_this, .inr (7, [.ref a_this_town, .ref a_this_trial, .ref a_this_kept, .int v_isKept, .ref a_this_letters, .ref a_this_told, .int v_toldCount, .ref a_this_refused, .ref a_this_stroll, .ref a_this_reach, .ref a_this_otherReach, .ref a_this_routes, .ref a_this_talks, .ref a_this_hearers])), (a_this_town, .inr (6, [.ref a_this_town_kinds, .int v_town_home, .int v_town_fine, .int v_town_breath])), (a_this_town_kinds, .inr (1, [.ref a_this_town_kinds_all])), (a_this_town_kinds_all, .inl (cI, 36, .inl g_town_kinds_all))] sz) := by
  refine Met.ofW (cc := cX7_squaresOneCanBeOn) (maxL := 3) (ret := (some .int)) (by decide) rfl ?_
  intro p e s m args below meth c s₁ B hml hv
  obtain ⟨rfl, hsz, hP, hK, hD0, hZ⟩ := hv
  have hx := B.exec
  have hb := B.bytes
  have hr := B.returns
  have hts := atoms_spec (ws := wsX7_squaresOneCanBeOn) B.pre
  have hown : s.vm.findClass RX7 = some m.cls := findClass_of_methodNamed B.named
  have hlocks := B.notSynchronized
  subst hsz
  have hD := hD0.self (sz := s.heap.size)
  generalize hAe : va_A [(a_this, .inr (7, [.ref a_this_town, .ref a_this_trial, .ref a_this_kept, .int v_isKept, .ref a_this_letters, .ref a_this_told, .int v_toldCount, .ref a_this_refused, .ref a_this_stroll, .ref a_this_reach, .ref a_this_otherReach, .ref a_this_routes, .ref a_this_talks, .ref a_this_hearers])), (a_this_town, .inr (6, [.ref a_this_town_kinds, .int v_town_home, .int v_town_fine, .int v_town_breath])), (a_this_town_kinds, .inr (1, [.ref a_this_town_kinds_all])), (a_this_town_kinds_all, .inl (cI, 36, .inl g_town_kinds_all))] s.heap.size = A at hD hZ ⊢
  have hA : ∀ q : Nat, s.heap.size ≤ q → A q := fun q h => by rw [← hAe]; exact Or.inr h
  have hS : va_S A s.heap s.heap [] := va_S.rf
  have hP : va_P (dC, dI) vwCl [(a_this, .inr (7, [.ref a_this_town, .ref a_this_trial, .ref a_this_kept, .int v_isKept, .ref a_this_letters, .ref a_this_told, .int v_toldCount, .ref a_this_refused, .ref a_this_stroll, .ref a_this_reach, .ref a_this_otherReach, .ref a_this_routes, .ref a_this_talks, .ref a_this_hearers])), (a_this_town, .inr (6, [.ref a_this_town_kinds, .int v_town_home, .int v_town_fine, .int v_town_breath])), (a_this_town_kinds, .inr (1, [.ref a_this_town_kinds_all])), (a_this_town_kinds_all, .inl (cI, 36, .inl g_town_kinds_all))] s.heap := hP
  have hl := lv_entry ([.ref a_this]) (n := 3) (Nat.le_of_ble_eq_true rfl)
  rw [lg_entry_eq]
  generalize (lg_sl ([.ref a_this]) ++ List.replicate (3 - (lg_sl ([.ref a_this])).length) Slot.unset).toArray = ls at hl ⊢
  have hl : lv_has ls 3 [(0, .ref a_this)] := hl
  have he := hf
  unfold f_X_squaresOneCanBeOn at he
  refine zstart (D := (dC, dI)) (cl := vwCl) (A := A) (nL := 3) (fun WW hWW => ?_)
  refine lv_iconst (v := (0 : Int32)) hx hb dX7_squaresOneCanBeOn_0 (by decide) ?_
  refine lv_istore_n (lv' := [(1, .int (0 : Int32)), (0, .ref a_this)]) hx hb dX7_squaresOneCanBeOn_1 rfl hl (by decide) rfl (fun ls hl => ?_)
  refine lv_iconst (v := (0 : Int32)) hx hb dX7_squaresOneCanBeOn_2 (by decide) ?_
  refine lv_istore_n (lv' := [(2, .int (0 : Int32)), (1, .int (0 : Int32)), (0, .ref a_this)]) hx hb dX7_squaresOneCanBeOn_3 rfl hl (by decide) rfl (fun ls hl => ?_)
  refine (hWW _ _ _ _).mp (zl2_w he (fun (l1_1 : Int32) (l2_2 : Int32) => WW [(a_this, .inr (7, [.ref a_this_town, .ref a_this_trial, .ref a_this_kept, .int v_isKept, .ref a_this_letters, .ref a_this_told, .int v_toldCount, .ref a_this_refused, .ref a_this_stroll, .ref a_this_reach, .ref a_this_otherReach, .ref a_this_routes, .ref a_this_talks, .ref a_this_hearers])), (a_this_town, .inr (6, [.ref a_this_town_kinds, .int v_town_home, .int v_town_fine, .int v_town_breath])), (a_this_town_kinds, .inr (1, [.ref a_this_town_kinds_all])), (a_this_town_kinds_all, .inl (cI, 36, .inl g_town_kinds_all))] [(0, .ref a_this), (1, .int l1_1), (2, .int l2_2)] 4 []) (fun l1_1 l2_2 again3 hagain3 he => (hWW _ _ _ _).mpr (fun H locs ls hP hD hS hl => ?_))) _ _ _ hP hD hS (lv_sub hl [2, 1, 0] rfl)
  refine lv_iload_n hx hb dX7_squaresOneCanBeOn_4 rfl (lv_at hl 2 rfl) ?_
  refine lv_bipush (v := (36 : Int32)) hx hb dX7_squaresOneCanBeOn_5 (by decide) ?_
  refine lv_icmp_ge (tgt := 35) hx hb dX7_squaresOneCanBeOn_7 (by decide) (fun c4 => ?_) (fun c4 => ?_)
  · have he := zif_t c4 he
    refine lv_iload_n hx hb dX7_squaresOneCanBeOn_35 rfl (lv_at hl 1 rfl) ?_
    obtain ⟨rfl⟩ := zi1 he
    exact W.iret hx hb hr (fun t ht hW => ⟨⟨_, (), rfl, rfl, by rw [ht]; exact hP, va_K.moved hW.alike hK, hD⟩, hS.F ht⟩) hS.2.2 dX7_squaresOneCanBeOn_36
  · have he := zif_f c4 he
    refine lv_iload_n hx hb dX7_squaresOneCanBeOn_10 rfl (lv_at hl 1 rfl) ?_
    refine lv_aload_n hx hb dX7_squaresOneCanBeOn_11 rfl (lv_at hl 0 rfl) ?_
    refine va_get (D := (dC, dI)) (ci := 7) (v := .ref a_this_town) (C := RX7) (T := TX7) (N := 14) hx hb hts (by decide +kernel) hown hK hP 0 rfl rfl 0 (by decide) (hts (.fieldLink RX7 12 "LawOfCorners" "town" "LLawOfCorners$Town;") (by decide +kernel)) (fun _ h9 => h9) rfl dX7_squaresOneCanBeOn_12 ?_
    refine lv_iload_n hx hb dX7_squaresOneCanBeOn_15 rfl (lv_at hl 2 rfl) ?_
    obtain ⟨r5, hf6, he⟩ := zb1_e he
    refine zc_i (wr := [(a_this, .inr (7, [.ref a_this_town, .ref a_this_trial, .ref a_this_kept, .int v_isKept, .ref a_this_letters, .ref a_this_told, .int v_toldCount, .ref a_this_refused, .ref a_this_stroll, .ref a_this_reach, .ref a_this_otherReach, .ref a_this_routes, .ref a_this_talks, .ref a_this_hearers]))]) (ws' := [(a_this, .inr (7, [.ref a_this_town, .ref a_this_trial, .ref a_this_kept, .int v_isKept, .ref a_this_letters, .ref a_this_told, .int v_toldCount, .ref a_this_refused, .ref a_this_stroll, .ref a_this_reach, .ref a_this_otherReach, .ref a_this_routes, .ref a_this_talks, .ref a_this_hearers])), (a_this_town, .inr (6, [.ref a_this_town_kinds, .int v_town_home, .int v_town_fine, .int v_town_breath])), (a_this_town_kinds, .inr (1, [.ref a_this_town_kinds_all])), (a_this_town_kinds_all, .inl (cI, 36, .inl g_town_kinds_all))]) (va_runV (As := [.int l2_2]) (rest := [.int l1_1]) ⟨hx, hb, hml, hown, hts⟩ (k_Town_canBe l dC dI cI cZ tt sd a_this_town a_this_town_kinds a_this_town_kinds_all H.size v_town_home v_town_fine v_town_breath g_town_kinds_all l2_2 r5 hf6) (cwV 1 hts gX7_squaresOneCanBeOn_X6_canBe rfl rfl rfl (by decide +kernel) ⟨Nat.le_of_ble_eq_true rfl, Nat.le_of_ble_eq_true rfl⟩) (zpV hP hD hK hS hA hZ [1, 2, 3] rfl rfl 6 1 rfl rfl) rfl rfl hl.1 rfl (lv_room (Nat.le_of_ble_eq_true rfl)) dX7_squaresOneCanBeOn_16 ⟨Nat.zero_le _, Nat.zero_le _⟩) hP hD hS hA [1, 2, 3] [0] [0, 1, 2, 3] rfl rfl rfl (by decide) rfl rfl rfl (fun H locs hP hD hS => ?_)
    refine zj1_w he (fun (s7 : Int32) => WW [(a_this, .inr (7, [.ref a_this_town, .ref a_this_trial, .ref a_this_kept, .int v_isKept, .ref a_this_letters, .ref a_this_told, .int v_toldCount, .ref a_this_refused, .ref a_this_stroll, .ref a_this_reach, .ref a_this_otherReach, .ref a_this_routes, .ref a_this_talks, .ref a_this_hearers])), (a_this_town, .inr (6, [.ref a_this_town_kinds, .int v_town_home, .int v_town_fine, .int v_town_breath])), (a_this_town_kinds, .inr (1, [.ref a_this_town_kinds_all])), (a_this_town_kinds_all, .inl (cI, 36, .inl g_town_kinds_all))] [(0, .ref a_this), (2, .int l2_2)] 27 [.int s7, .int l1_1]) (fun s7 he => (hWW _ _ _ _).mpr (fun H locs ls hP hD hS hl => ?_)) (fun k10 hk10 he => ?_)
    · refine lv_iadd hx hb dX7_squaresOneCanBeOn_27 ?_
      refine lv_topi (fun x8 ex8 => ?_)
      have he := zn_e ex8 he
      refine lv_istore_n (lv' := [(1, .int x8), (0, .ref a_this), (2, .int l2_2)]) hx hb dX7_squaresOneCanBeOn_28 rfl hl (by decide) rfl (fun ls hl => ?_)
      obtain ⟨x9, ex9⟩ : ∃ y : Int32, y = l2_2 + (1 : Int32) := ⟨_, rfl⟩
      have he := zn_e ex9 he
      refine lv_iinc (v := x9) (lv' := [(2, .int x9), (1, .int x8), (0, .ref a_this)]) hx hb dX7_squaresOneCanBeOn_29 hl (k := 2) rfl (by rw [ex9]; rfl) (by decide) rfl (fun ls hl => ?_)
      refine lv_goto (tgt := 4) hx hb dX7_squaresOneCanBeOn_32 (by decide) ?_
      exact (hWW _ _ _ _).mp (hagain3 x8 x9 he) _ _ _ hP hD hS (lv_sub hl [2, 1, 0] rfl)
    refine lv_if_eq (tgt := 26) hx hb dX7_squaresOneCanBeOn_19 (by decide) (fun c11 => ?_) (fun c11 => ?_)
    · have he := zif_t c11 he
      refine lv_iconst (v := (0 : Int32)) hx hb dX7_squaresOneCanBeOn_26 (by decide) ?_
      exact (hWW _ _ _ _).mp (hk10 (0 : Int32) he) _ _ _ hP hD hS (lv_sub hl [0, 2] rfl)
    · have he := zif_f c11 he
      refine lv_iconst (v := (1 : Int32)) hx hb dX7_squaresOneCanBeOn_22 (by decide) ?_
      refine lv_goto (tgt := 27) hx hb dX7_squaresOneCanBeOn_23 (by decide) ?_
      exact (hWW _ _ _ _).mp (hk10 (1 : Int32) he) _ _ _ hP hD hS (lv_sub hl [0, 2] rfl)
set_option maxHeartbeats 4000000 in
set_option maxRecDepth 100000 in
theorem k_X_count (l : Launch) (dC : Nat → ClassId) (dI : Nat → Nat → Nat) (cI : ClassId) (cZ : ClassId) (tt : Nat → Nat) (sd : Nat → Nat) (a_this : Nat) (a_this_town : Nat) (a_this_trial : Nat) (a_this_kept : Nat) (a_this_letters : Nat) (a_this_told : Nat) (a_this_refused : Nat) (a_this_stroll : Nat) (a_this_reach : Nat) (a_this_otherReach : Nat) (a_this_routes : Nat) (a_this_talks : Nat) (a_this_hearers : Nat) (a_this_letters_all : Nat) (a_this_refused_all : Nat) (a_this_town_kinds : Nat) (a_this_town_kinds_all : Nat) (sz : Nat) (v_isKept : Int32) (v_toldCount : Int32) (v_letters_count : Int32) (g_refused_all : Nat → Int32) (v_town_home : Int32) (v_town_fine : Int32) (v_town_breath : Int32) (g_town_kinds_all : Nat → Int32) (p1 : Int32) (r0 : Int32) (hf : f_X_count v_toldCount v_letters_count g_refused_all v_town_breath v_town_fine v_town_home g_town_kinds_all p1 = some (r0)) : Met l yX7_count wsX7_count ({ frames := 4, cells := 0, slots := 0, locals := 98 }) (zPre (dC, dI) vwCl [(cI, .int), (cZ, .boolean)] tt sd [.ref a_this, .int p1] [(a_this, .inr (7, [.ref a_this_town, .ref a_this_trial, .ref a_this_kept, .int v_isKept, .ref a_this_letters, .ref a_this_told, .int v_toldCount, .ref a_this_refused, .ref a_this_stroll, .ref a_this_reach, .ref a_this_otherReach, .ref a_this_routes, .ref a_this_talks, .ref a_this_hearers])), (a_this_letters, .inr (0, [.ref a_this_letters_all, .int v_letters_count])), (a_this_refused, .inr (1, [.ref a_this_refused_all])), (a_this_refused_all, .inl (cI, 7, .inl g_refused_all)), (a_this_town, .inr (6, [.ref a_this_town_kinds, .int v_town_home, .int v_town_fine, .int v_town_breath])), (a_this_town_kinds, .inr (1, [.ref a_this_town_kinds_all])), (a_this_town_kinds_all, .inl (cI, 36, .inl g_town_kinds_all))] sz) (zQi (dC, dI) vwCl [(cI, .int), (cZ, .boolean)] r0 [(a_this, .inr (7, [.ref a_this_town, .ref a_this_trial, .ref a_this_kept, .int v_isKept, .ref a_this_letters, .ref a_this_told, .int v_toldCount, .ref a_this_refused, .ref a_this_stroll, .ref a_this_reach, .ref a_this_otherReach, .ref a_this_routes, .ref a_this_talks, .ref a_this_hearers])), (a_this_letters, .inr (0, [.ref a_this_letters_all, .int v_letters_count])), (a_this_refused, .inr (1, [.ref a_this_refused_all])), (a_this_refused_all, .inl (cI, 7, .inl g_refused_all)), (a_this_town, .inr (6, [.ref a_this_town_kinds, .int v_town_home, .int v_town_fine, .int v_town_breath])), (a_this_town_kinds, .inr (1, [.ref a_this_town_kinds_all])), (a_this_town_kinds_all, .inl (cI, 36, .inl g_town_kinds_all))] (va_A [(a_this, .inr (7, [.ref a_this_town, .ref a_this_trial, .ref a_this_kept, .int v_isKept, .ref a_this_letters, .ref a_this_told, .int v_toldCount, .ref a_this_refused, .ref a_this_stroll, .ref a_this_reach, .ref a_this_otherReach, .ref a_this_routes, .ref a_this_talks, .ref a_this_hearers])), (a_this_letters, .inr (0, [.ref a_this_letters_all, .int v_letters_count])), (a_this_refused, .inr (1, [.ref a_this_refused_all])), (a_this_refused_all, .inl (cI, 7, .inl g_refused_all)), (a_this_town, .inr (6, [.ref a_this_town_kinds, .int v_town_home, .int v_town_fine, .int v_town_breath])), (a_this_town_kinds, .inr (1, [.ref a_this_town_kinds_all])), (a_this_town_kinds_all, .inl (cI, 36, .inl g_town_kinds_all))] sz)) 0 0 (va_A [(a_this, .inr (7, [.ref a_this_town, .ref a_this_trial, .ref a_this_kept, .int v_isKept, .ref a_this_letters, .ref a_this_told, .int v_toldCount, .ref a_this_refused, .ref a_this_stroll, .ref a_this_reach, .ref a_this_otherReach, .ref a_this_routes, .ref a_this_talks, .ref a_this_hearers])), (a_this_letters, .inr (0, [.ref a_this_letters_all, .int v_letters_count])), (a_this_refused, .inr (1, [.ref a_this_refused_all])), (a_this_refused_all, .inl (cI, 7, .inl g_refused_all)), (a_this_town, .inr (6, [.ref a_this_town_kinds, .int v_town_home, .int v_town_fine, .int v_town_breath])), (a_this_town_kinds, .inr (1, [.ref a_this_town_kinds_all])), (a_this_town_kinds_all, .inl (cI, 36, .inl g_town_kinds_all))] sz) := by
  refine Met.ofW (cc := cX7_count) (maxL := 2) (ret := (some .int)) (by decide) rfl ?_
  intro p e s m args below meth c s₁ B hml hv
  obtain ⟨rfl, hsz, hP, hK, hD0, hZ⟩ := hv
  have hx := B.exec
  have hb := B.bytes
  have hr := B.returns
  have hts := atoms_spec (ws := wsX7_count) B.pre
  have hown : s.vm.findClass RX7 = some m.cls := findClass_of_methodNamed B.named
  have hlocks := B.notSynchronized
  subst hsz
  have hD := hD0.self (sz := s.heap.size)
  generalize hAe : va_A [(a_this, .inr (7, [.ref a_this_town, .ref a_this_trial, .ref a_this_kept, .int v_isKept, .ref a_this_letters, .ref a_this_told, .int v_toldCount, .ref a_this_refused, .ref a_this_stroll, .ref a_this_reach, .ref a_this_otherReach, .ref a_this_routes, .ref a_this_talks, .ref a_this_hearers])), (a_this_letters, .inr (0, [.ref a_this_letters_all, .int v_letters_count])), (a_this_refused, .inr (1, [.ref a_this_refused_all])), (a_this_refused_all, .inl (cI, 7, .inl g_refused_all)), (a_this_town, .inr (6, [.ref a_this_town_kinds, .int v_town_home, .int v_town_fine, .int v_town_breath])), (a_this_town_kinds, .inr (1, [.ref a_this_town_kinds_all])), (a_this_town_kinds_all, .inl (cI, 36, .inl g_town_kinds_all))] s.heap.size = A at hD hZ ⊢
  have hA : ∀ q : Nat, s.heap.size ≤ q → A q := fun q h => by rw [← hAe]; exact Or.inr h
  have hS : va_S A s.heap s.heap [] := va_S.rf
  have hP : va_P (dC, dI) vwCl [(a_this, .inr (7, [.ref a_this_town, .ref a_this_trial, .ref a_this_kept, .int v_isKept, .ref a_this_letters, .ref a_this_told, .int v_toldCount, .ref a_this_refused, .ref a_this_stroll, .ref a_this_reach, .ref a_this_otherReach, .ref a_this_routes, .ref a_this_talks, .ref a_this_hearers])), (a_this_letters, .inr (0, [.ref a_this_letters_all, .int v_letters_count])), (a_this_refused, .inr (1, [.ref a_this_refused_all])), (a_this_refused_all, .inl (cI, 7, .inl g_refused_all)), (a_this_town, .inr (6, [.ref a_this_town_kinds, .int v_town_home, .int v_town_fine, .int v_town_breath])), (a_this_town_kinds, .inr (1, [.ref a_this_town_kinds_all])), (a_this_town_kinds_all, .inl (cI, 36, .inl g_town_kinds_all))] s.heap := hP
  have hl := lv_entry ([.ref a_this, .int p1]) (n := 2) (Nat.le_of_ble_eq_true rfl)
  rw [lg_entry_eq]
  generalize (lg_sl ([.ref a_this, .int p1]) ++ List.replicate (2 - (lg_sl ([.ref a_this, .int p1])).length) Slot.unset).toArray = ls at hl ⊢
  have hl : lv_has ls 2 [(0, .ref a_this), (1, .int p1)] := hl
  have he := hf
  unfold f_X_count at he
  refine lv_iload_n hx hb dX7_count_0 rfl (lv_at hl 1 rfl) ?_
  by_cases c1 : p1 = (0 : Int32)
  · have he := zif_t c1 he
    refine lv_tableIn (off := 51) (tgt := 52) hx hb dX7_count_1 (by rw [c1]; decide) (by rw [c1]; decide) (by rw [c1]; rfl) (by decide) ?_
    refine lv_aload_n hx hb dX7_count_52 rfl (lv_at hl 0 rfl) ?_
    refine va_get (D := (dC, dI)) (ci := 7) (v := .ref a_this_town) (C := RX7) (T := TX7) (N := 14) hx hb hts (by decide +kernel) hown hK hP 0 rfl rfl 0 (by decide) (hts (.fieldLink RX7 12 "LawOfCorners" "town" "LLawOfCorners$Town;") (by decide +kernel)) (fun _ h9 => h9) rfl dX7_count_53 ?_
    obtain ⟨r2, hf3, he⟩ := zb1_e he
    refine zc_i (wr := [(a_this, .inr (7, [.ref a_this_town, .ref a_this_trial, .ref a_this_kept, .int v_isKept, .ref a_this_letters, .ref a_this_told, .int v_toldCount, .ref a_this_refused, .ref a_this_stroll, .ref a_this_reach, .ref a_this_otherReach, .ref a_this_routes, .ref a_this_talks, .ref a_this_hearers])), (a_this_letters, .inr (0, [.ref a_this_letters_all, .int v_letters_count])), (a_this_refused, .inr (1, [.ref a_this_refused_all])), (a_this_refused_all, .inl (cI, 7, .inl g_refused_all)), (a_this_town_kinds, .inr (1, [.ref a_this_town_kinds_all])), (a_this_town_kinds_all, .inl (cI, 36, .inl g_town_kinds_all))]) (ws' := [(a_this, .inr (7, [.ref a_this_town, .ref a_this_trial, .ref a_this_kept, .int v_isKept, .ref a_this_letters, .ref a_this_told, .int v_toldCount, .ref a_this_refused, .ref a_this_stroll, .ref a_this_reach, .ref a_this_otherReach, .ref a_this_routes, .ref a_this_talks, .ref a_this_hearers])), (a_this_letters, .inr (0, [.ref a_this_letters_all, .int v_letters_count])), (a_this_refused, .inr (1, [.ref a_this_refused_all])), (a_this_refused_all, .inl (cI, 7, .inl g_refused_all)), (a_this_town, .inr (6, [.ref a_this_town_kinds, .int v_town_home, .int v_town_fine, .int v_town_breath])), (a_this_town_kinds, .inr (1, [.ref a_this_town_kinds_all])), (a_this_town_kinds_all, .inl (cI, 36, .inl g_town_kinds_all))]) (va_runV (As := []) (rest := []) ⟨hx, hb, hml, hown, hts⟩ (k_Town_home l dC dI cI cZ tt sd a_this_town a_this_town_kinds s.heap.size v_town_home v_town_fine v_town_breath r2 hf3) (cwV 0 hts gX7_count_X6_home rfl rfl rfl (by decide +kernel) ⟨Nat.le_of_ble_eq_true rfl, Nat.le_of_ble_eq_true rfl⟩) (zpV hP hD hK hS hA hZ [4] rfl rfl 6 4 rfl rfl) rfl rfl hl.1 rfl (lv_room (Nat.le_of_ble_eq_true rfl)) dX7_count_56 ⟨Nat.zero_le _, Nat.zero_le _⟩) hP hD hS hA [4] [0, 1, 2, 3, 5, 6] [0, 1, 2, 3, 6, 4, 5] rfl rfl rfl (by decide) rfl rfl rfl (fun H locs hP hD hS => ?_)
    obtain ⟨rfl⟩ := zi1 he
    exact W.iret hx hb hr (fun t ht hW => ⟨⟨_, (), rfl, rfl, by rw [ht]; exact hP, va_K.moved hW.alike hK, hD⟩, hS.F ht⟩) hS.2.2 dX7_count_59
  have he := zif_f c1 he
  by_cases c4 : p1 = (1 : Int32)
  · have he := zif_t c4 he
    refine lv_tableIn (off := 59) (tgt := 60) hx hb dX7_count_1 (by rw [c4]; decide) (by rw [c4]; decide) (by rw [c4]; rfl) (by decide) ?_
    refine lv_aload_n hx hb dX7_count_60 rfl (lv_at hl 0 rfl) ?_
    refine va_get (D := (dC, dI)) (ci := 7) (v := .ref a_this_town) (C := RX7) (T := TX7) (N := 14) hx hb hts (by decide +kernel) hown hK hP 0 rfl rfl 0 (by decide) (hts (.fieldLink RX7 12 "LawOfCorners" "town" "LLawOfCorners$Town;") (by decide +kernel)) (fun _ h9 => h9) rfl dX7_count_61 ?_
    obtain ⟨r5, hf6, he⟩ := zb1_e he
    refine zc_i (wr := [(a_this, .inr (7, [.ref a_this_town, .ref a_this_trial, .ref a_this_kept, .int v_isKept, .ref a_this_letters, .ref a_this_told, .int v_toldCount, .ref a_this_refused, .ref a_this_stroll, .ref a_this_reach, .ref a_this_otherReach, .ref a_this_routes, .ref a_this_talks, .ref a_this_hearers])), (a_this_letters, .inr (0, [.ref a_this_letters_all, .int v_letters_count])), (a_this_refused, .inr (1, [.ref a_this_refused_all])), (a_this_refused_all, .inl (cI, 7, .inl g_refused_all)), (a_this_town_kinds, .inr (1, [.ref a_this_town_kinds_all])), (a_this_town_kinds_all, .inl (cI, 36, .inl g_town_kinds_all))]) (ws' := [(a_this, .inr (7, [.ref a_this_town, .ref a_this_trial, .ref a_this_kept, .int v_isKept, .ref a_this_letters, .ref a_this_told, .int v_toldCount, .ref a_this_refused, .ref a_this_stroll, .ref a_this_reach, .ref a_this_otherReach, .ref a_this_routes, .ref a_this_talks, .ref a_this_hearers])), (a_this_letters, .inr (0, [.ref a_this_letters_all, .int v_letters_count])), (a_this_refused, .inr (1, [.ref a_this_refused_all])), (a_this_refused_all, .inl (cI, 7, .inl g_refused_all)), (a_this_town, .inr (6, [.ref a_this_town_kinds, .int v_town_home, .int v_town_fine, .int v_town_breath])), (a_this_town_kinds, .inr (1, [.ref a_this_town_kinds_all])), (a_this_town_kinds_all, .inl (cI, 36, .inl g_town_kinds_all))]) (va_runV (As := []) (rest := []) ⟨hx, hb, hml, hown, hts⟩ (k_Town_fine l dC dI cI cZ tt sd a_this_town a_this_town_kinds s.heap.size v_town_home v_town_fine v_town_breath r5 hf6) (cwV 0 hts gX7_count_X6_fine rfl rfl rfl (by decide +kernel) ⟨Nat.le_of_ble_eq_true rfl, Nat.le_of_ble_eq_true rfl⟩) (zpV hP hD hK hS hA hZ [4] rfl rfl 6 4 rfl rfl) rfl rfl hl.1 rfl (lv_room (Nat.le_of_ble_eq_true rfl)) dX7_count_64 ⟨Nat.zero_le _, Nat.zero_le _⟩) hP hD hS hA [4] [0, 1, 2, 3, 5, 6] [0, 1, 2, 3, 6, 4, 5] rfl rfl rfl (by decide) rfl rfl rfl (fun H locs hP hD hS => ?_)
    obtain ⟨rfl⟩ := zi1 he
    exact W.iret hx hb hr (fun t ht hW => ⟨⟨_, (), rfl, rfl, by rw [ht]; exact hP, va_K.moved hW.alike hK, hD⟩, hS.F ht⟩) hS.2.2 dX7_count_67
  have he := zif_f c4 he
  by_cases c7 : p1 = (2 : Int32)
  · have he := zif_t c7 he
    refine lv_tableIn (off := 67) (tgt := 68) hx hb dX7_count_1 (by rw [c7]; decide) (by rw [c7]; decide) (by rw [c7]; rfl) (by decide) ?_
    refine lv_aload_n hx hb dX7_count_68 rfl (lv_at hl 0 rfl) ?_
    refine va_get (D := (dC, dI)) (ci := 7) (v := .ref a_this_town) (C := RX7) (T := TX7) (N := 14) hx hb hts (by decide +kernel) hown hK hP 0 rfl rfl 0 (by decide) (hts (.fieldLink RX7 12 "LawOfCorners" "town" "LLawOfCorners$Town;") (by decide +kernel)) (fun _ h9 => h9) rfl dX7_count_69 ?_
    obtain ⟨r8, hf9, he⟩ := zb1_e he
    refine zc_i (wr := [(a_this, .inr (7, [.ref a_this_town, .ref a_this_trial, .ref a_this_kept, .int v_isKept, .ref a_this_letters, .ref a_this_told, .int v_toldCount, .ref a_this_refused, .ref a_this_stroll, .ref a_this_reach, .ref a_this_otherReach, .ref a_this_routes, .ref a_this_talks, .ref a_this_hearers])), (a_this_letters, .inr (0, [.ref a_this_letters_all, .int v_letters_count])), (a_this_refused, .inr (1, [.ref a_this_refused_all])), (a_this_refused_all, .inl (cI, 7, .inl g_refused_all)), (a_this_town_kinds, .inr (1, [.ref a_this_town_kinds_all])), (a_this_town_kinds_all, .inl (cI, 36, .inl g_town_kinds_all))]) (ws' := [(a_this, .inr (7, [.ref a_this_town, .ref a_this_trial, .ref a_this_kept, .int v_isKept, .ref a_this_letters, .ref a_this_told, .int v_toldCount, .ref a_this_refused, .ref a_this_stroll, .ref a_this_reach, .ref a_this_otherReach, .ref a_this_routes, .ref a_this_talks, .ref a_this_hearers])), (a_this_letters, .inr (0, [.ref a_this_letters_all, .int v_letters_count])), (a_this_refused, .inr (1, [.ref a_this_refused_all])), (a_this_refused_all, .inl (cI, 7, .inl g_refused_all)), (a_this_town, .inr (6, [.ref a_this_town_kinds, .int v_town_home, .int v_town_fine, .int v_town_breath])), (a_this_town_kinds, .inr (1, [.ref a_this_town_kinds_all])), (a_this_town_kinds_all, .inl (cI, 36, .inl g_town_kinds_all))]) (va_runV (As := []) (rest := []) ⟨hx, hb, hml, hown, hts⟩ (k_Town_breath l dC dI cI cZ tt sd a_this_town a_this_town_kinds s.heap.size v_town_home v_town_fine v_town_breath r8 hf9) (cwV 0 hts gX7_count_X6_breath rfl rfl rfl (by decide +kernel) ⟨Nat.le_of_ble_eq_true rfl, Nat.le_of_ble_eq_true rfl⟩) (zpV hP hD hK hS hA hZ [4] rfl rfl 6 4 rfl rfl) rfl rfl hl.1 rfl (lv_room (Nat.le_of_ble_eq_true rfl)) dX7_count_72 ⟨Nat.zero_le _, Nat.zero_le _⟩) hP hD hS hA [4] [0, 1, 2, 3, 5, 6] [0, 1, 2, 3, 6, 4, 5] rfl rfl rfl (by decide) rfl rfl rfl (fun H locs hP hD hS => ?_)
    obtain ⟨rfl⟩ := zi1 he
    exact W.iret hx hb hr (fun t ht hW => ⟨⟨_, (), rfl, rfl, by rw [ht]; exact hP, va_K.moved hW.alike hK, hD⟩, hS.F ht⟩) hS.2.2 dX7_count_75
  have he := zif_f c7 he
  by_cases c10 : p1 = (3 : Int32)
  · have he := zif_t c10 he
    refine lv_tableIn (off := 75) (tgt := 76) hx hb dX7_count_1 (by rw [c10]; decide) (by rw [c10]; decide) (by rw [c10]; rfl) (by decide) ?_
    refine lv_aload_n hx hb dX7_count_76 rfl (lv_at hl 0 rfl) ?_
    obtain ⟨r11, hf12, he⟩ := zb1_e he
    refine zc_i (wr := [(a_this_letters, .inr (0, [.ref a_this_letters_all, .int v_letters_count])), (a_this_refused, .inr (1, [.ref a_this_refused_all])), (a_this_refused_all, .inl (cI, 7, .inl g_refused_all))]) (ws' := [(a_this, .inr (7, [.ref a_this_town, .ref a_this_trial, .ref a_this_kept, .int v_isKept, .ref a_this_letters, .ref a_this_told, .int v_toldCount, .ref a_this_refused, .ref a_this_stroll, .ref a_this_reach, .ref a_this_otherReach, .ref a_this_routes, .ref a_this_talks, .ref a_this_hearers])), (a_this_letters, .inr (0, [.ref a_this_letters_all, .int v_letters_count])), (a_this_refused, .inr (1, [.ref a_this_refused_all])), (a_this_refused_all, .inl (cI, 7, .inl g_refused_all)), (a_this_town, .inr (6, [.ref a_this_town_kinds, .int v_town_home, .int v_town_fine, .int v_town_breath])), (a_this_town_kinds, .inr (1, [.ref a_this_town_kinds_all])), (a_this_town_kinds_all, .inl (cI, 36, .inl g_town_kinds_all))]) (va_runV (As := []) (rest := []) ⟨hx, hb, hml, hown, hts⟩ (k_X_squaresOneCanBeOn l dC dI cI cZ tt sd a_this a_this_town a_this_trial a_this_kept a_this_letters a_this_told a_this_refused a_this_stroll a_this_reach a_this_otherReach a_this_routes a_this_talks a_this_hearers a_this_town_kinds a_this_town_kinds_all s.heap.size v_isKept v_toldCount v_town_home v_town_fine v_town_breath g_town_kinds_all r11 hf12) (cwV 0 hts gX7_count_X7_squaresOneCanBeOn rfl rfl rfl (by decide +kernel) ⟨Nat.le_of_ble_eq_true rfl, Nat.le_of_ble_eq_true rfl⟩) (zpV hP hD hK hS hA hZ [0, 4, 5, 6] rfl rfl 7 0 rfl rfl) rfl rfl hl.1 rfl (lv_room (Nat.le_of_ble_eq_true rfl)) dX7_count_77 ⟨Nat.zero_le _, Nat.zero_le _⟩) hP hD hS hA [0, 4, 5, 6] [1, 2, 3] [3, 0, 1, 2, 4, 5, 6] rfl rfl rfl (by decide) rfl rfl rfl (fun H locs hP hD hS => ?_)
    obtain ⟨rfl⟩ := zi1 he
    exact W.iret hx hb hr (fun t ht hW => ⟨⟨_, (), rfl, rfl, by rw [ht]; exact hP, va_K.moved hW.alike hK, hD⟩, hS.F ht⟩) hS.2.2 dX7_count_80
  have he := zif_f c10 he
  by_cases c13 : p1 = (4 : Int32)
  · have he := zif_t c13 he
    refine lv_tableIn (off := 80) (tgt := 81) hx hb dX7_count_1 (by rw [c13]; decide) (by rw [c13]; decide) (by rw [c13]; rfl) (by decide) ?_
    refine lv_aload_n hx hb dX7_count_81 rfl (lv_at hl 0 rfl) ?_
    obtain ⟨r14, hf15, he⟩ := zb1_e he
    refine zc_i (wr := [(a_this_letters, .inr (0, [.ref a_this_letters_all, .int v_letters_count])), (a_this_refused, .inr (1, [.ref a_this_refused_all])), (a_this_refused_all, .inl (cI, 7, .inl g_refused_all))]) (ws' := [(a_this, .inr (7, [.ref a_this_town, .ref a_this_trial, .ref a_this_kept, .int v_isKept, .ref a_this_letters, .ref a_this_told, .int v_toldCount, .ref a_this_refused, .ref a_this_stroll, .ref a_this_reach, .ref a_this_otherReach, .ref a_this_routes, .ref a_this_talks, .ref a_this_hearers])), (a_this_letters, .inr (0, [.ref a_this_letters_all, .int v_letters_count])), (a_this_refused, .inr (1, [.ref a_this_refused_all])), (a_this_refused_all, .inl (cI, 7, .inl g_refused_all)), (a_this_town, .inr (6, [.ref a_this_town_kinds, .int v_town_home, .int v_town_fine, .int v_town_breath])), (a_this_town_kinds, .inr (1, [.ref a_this_town_kinds_all])), (a_this_town_kinds_all, .inl (cI, 36, .inl g_town_kinds_all))]) (va_runV (As := []) (rest := []) ⟨hx, hb, hml, hown, hts⟩ (k_X_informers l dC dI cI cZ tt sd a_this a_this_town a_this_trial a_this_kept a_this_letters a_this_told a_this_refused a_this_stroll a_this_reach a_this_otherReach a_this_routes a_this_talks a_this_hearers a_this_town_kinds a_this_town_kinds_all s.heap.size v_isKept v_toldCount v_town_home v_town_fine v_town_breath g_town_kinds_all r14 hf15) (cwV 0 hts gX7_count_X7_informers rfl rfl rfl (by decide +kernel) ⟨Nat.le_of_ble_eq_true rfl, Nat.le_of_ble_eq_true rfl⟩) (zpV hP hD hK hS hA hZ [0, 4, 5, 6] rfl rfl 7 0 rfl rfl) rfl rfl hl.1 rfl (lv_room (Nat.le_of_ble_eq_true rfl)) dX7_count_82 ⟨Nat.zero_le _, Nat.zero_le _⟩) hP hD hS hA [0, 4, 5, 6] [1, 2, 3] [3, 0, 1, 2, 4, 5, 6] rfl rfl rfl (by decide) rfl rfl rfl (fun H locs hP hD hS => ?_)
    obtain ⟨rfl⟩ := zi1 he
    exact W.iret hx hb hr (fun t ht hW => ⟨⟨_, (), rfl, rfl, by rw [ht]; exact hP, va_K.moved hW.alike hK, hD⟩, hS.F ht⟩) hS.2.2 dX7_count_85
  have he := zif_f c13 he
  by_cases c16 : p1 = (5 : Int32)
  · have he := zif_t c16 he
    refine lv_tableIn (off := 85) (tgt := 86) hx hb dX7_count_1 (by rw [c16]; decide) (by rw [c16]; decide) (by rw [c16]; rfl) (by decide) ?_
    refine lv_aload_n hx hb dX7_count_86 rfl (lv_at hl 0 rfl) ?_
    obtain ⟨r17, hf18, he⟩ := zb1_e he
    refine zc_i (wr := [(a_this_letters, .inr (0, [.ref a_this_letters_all, .int v_letters_count])), (a_this_refused, .inr (1, [.ref a_this_refused_all])), (a_this_refused_all, .inl (cI, 7, .inl g_refused_all))]) (ws' := [(a_this, .inr (7, [.ref a_this_town, .ref a_this_trial, .ref a_this_kept, .int v_isKept, .ref a_this_letters, .ref a_this_told, .int v_toldCount, .ref a_this_refused, .ref a_this_stroll, .ref a_this_reach, .ref a_this_otherReach, .ref a_this_routes, .ref a_this_talks, .ref a_this_hearers])), (a_this_letters, .inr (0, [.ref a_this_letters_all, .int v_letters_count])), (a_this_refused, .inr (1, [.ref a_this_refused_all])), (a_this_refused_all, .inl (cI, 7, .inl g_refused_all)), (a_this_town, .inr (6, [.ref a_this_town_kinds, .int v_town_home, .int v_town_fine, .int v_town_breath])), (a_this_town_kinds, .inr (1, [.ref a_this_town_kinds_all])), (a_this_town_kinds_all, .inl (cI, 36, .inl g_town_kinds_all))]) (va_runV (As := []) (rest := []) ⟨hx, hb, hml, hown, hts⟩ (k_X_squaresHeard l dC dI cI cZ tt sd a_this a_this_town a_this_trial a_this_kept a_this_letters a_this_told a_this_refused a_this_stroll a_this_reach a_this_otherReach a_this_routes a_this_talks a_this_hearers a_this_town_kinds a_this_town_kinds_all s.heap.size v_isKept v_toldCount v_town_home v_town_fine v_town_breath g_town_kinds_all r17 hf18) (cwV 0 hts gX7_count_X7_squaresHeard rfl rfl rfl (by decide +kernel) ⟨Nat.le_of_ble_eq_true rfl, Nat.le_of_ble_eq_true rfl⟩) (zpV hP hD hK hS hA hZ [0, 4, 5, 6] rfl rfl 7 0 rfl rfl) rfl rfl hl.1 rfl (lv_room (Nat.le_of_ble_eq_true rfl)) dX7_count_87 ⟨Nat.zero_le _, Nat.zero_le _⟩) hP hD hS hA [0, 4, 5, 6] [1, 2, 3] [3, 0, 1, 2, 4, 5, 6] rfl rfl rfl (by decide) rfl rfl rfl (fun H locs hP hD hS => ?_)
    obtain ⟨rfl⟩ := zi1 he
    exact W.iret hx hb hr (fun t ht hW => ⟨⟨_, (), rfl, rfl, by rw [ht]; exact hP, va_K.moved hW.alike hK, hD⟩, hS.F ht⟩) hS.2.2 dX7_count_90
  have he := zif_f c16 he
  by_cases c19 : p1 = (6 : Int32)
  · have he := zif_t c19 he
    refine lv_tableIn (off := 90) (tgt := 91) hx hb dX7_count_1 (by rw [c19]; decide) (by rw [c19]; decide) (by rw [c19]; rfl) (by decide) ?_
    refine lv_aload_n hx hb dX7_count_91 rfl (lv_at hl 0 rfl) ?_
    refine va_get (D := (dC, dI)) (ci := 7) (v := .ref a_this_town) (C := RX7) (T := TX7) (N := 14) hx hb hts (by decide +kernel) hown hK hP 0 rfl rfl 0 (by decide) (hts (.fieldLink RX7 12 "LawOfCorners" "town" "LLawOfCorners$Town;") (by decide +kernel)) (fun _ h9 => h9) rfl dX7_count_92 ?_
    refine lv_iconst (v := (2 : Int32)) hx hb dX7_count_95 (by decide) ?_
    obtain ⟨r20, hf21, he⟩ := zb1_e he
    refine zc_i (wr := [(a_this, .inr (7, [.ref a_this_town, .ref a_this_trial, .ref a_this_kept, .int v_isKept, .ref a_this_letters, .ref a_this_told, .int v_toldCount, .ref a_this_refused, .ref a_this_stroll, .ref a_this_reach, .ref a_this_otherReach, .ref a_this_routes, .ref a_this_talks, .ref a_this_hearers])), (a_this_letters, .inr (0, [.ref a_this_letters_all, .int v_letters_count])), (a_this_refused, .inr (1, [.ref a_this_refused_all])), (a_this_refused_all, .inl (cI, 7, .inl g_refused_all))]) (ws' := [(a_this, .inr (7, [.ref a_this_town, .ref a_this_trial, .ref a_this_kept, .int v_isKept, .ref a_this_letters, .ref a_this_told, .int v_toldCount, .ref a_this_refused, .ref a_this_stroll, .ref a_this_reach, .ref a_this_otherReach, .ref a_this_routes, .ref a_this_talks, .ref a_this_hearers])), (a_this_letters, .inr (0, [.ref a_this_letters_all, .int v_letters_count])), (a_this_refused, .inr (1, [.ref a_this_refused_all])), (a_this_refused_all, .inl (cI, 7, .inl g_refused_all)), (a_this_town, .inr (6, [.ref a_this_town_kinds, .int v_town_home, .int v_town_fine, .int v_town_breath])), (a_this_town_kinds, .inr (1, [.ref a_this_town_kinds_all])), (a_this_town_kinds_all, .inl (cI, 36, .inl g_town_kinds_all))]) (va_runV (As := [.int (2 : Int32)]) (rest := []) ⟨hx, hb, hml, hown, hts⟩ (k_Town_countKind l dC dI cI cZ tt sd a_this_town a_this_town_kinds a_this_town_kinds_all s.heap.size v_town_home v_town_fine v_town_breath g_town_kinds_all (2 : Int32) r20 hf21) (cwV 1 hts gX7_count_X6_countKind rfl rfl rfl (by decide +kernel) ⟨Nat.le_of_ble_eq_true rfl, Nat.le_of_ble_eq_true rfl⟩) (zpV hP hD hK hS hA hZ [4, 5, 6] rfl rfl 6 4 rfl rfl) rfl rfl hl.1 rfl (lv_room (Nat.le_of_ble_eq_true rfl)) dX7_count_96 ⟨Nat.zero_le _, Nat.zero_le _⟩) hP hD hS hA [4, 5, 6] [0, 1, 2, 3] [0, 1, 2, 3, 4, 5, 6] rfl rfl rfl (by decide) rfl rfl rfl (fun H locs hP hD hS => ?_)
    refine lv_aload_n hx hb dX7_count_99 rfl (lv_at hl 0 rfl) ?_
    refine va_get (D := (dC, dI)) (ci := 7) (v := .ref a_this_town) (C := RX7) (T := TX7) (N := 14) hx hb hts (by decide +kernel) hown hK hP 0 rfl rfl 0 (by decide) (hts (.fieldLink RX7 12 "LawOfCorners" "town" "LLawOfCorners$Town;") (by decide +kernel)) (fun _ h9 => h9) rfl dX7_count_100 ?_
    refine lv_iconst (v := (5 : Int32)) hx hb dX7_count_103 (by decide) ?_
    obtain ⟨r22, hf23, he⟩ := zb1_e he
    refine zc_i (wr := [(a_this, .inr (7, [.ref a_this_town, .ref a_this_trial, .ref a_this_kept, .int v_isKept, .ref a_this_letters, .ref a_this_told, .int v_toldCount, .ref a_this_refused, .ref a_this_stroll, .ref a_this_reach, .ref a_this_otherReach, .ref a_this_routes, .ref a_this_talks, .ref a_this_hearers])), (a_this_letters, .inr (0, [.ref a_this_letters_all, .int v_letters_count])), (a_this_refused, .inr (1, [.ref a_this_refused_all])), (a_this_refused_all, .inl (cI, 7, .inl g_refused_all))]) (ws' := [(a_this, .inr (7, [.ref a_this_town, .ref a_this_trial, .ref a_this_kept, .int v_isKept, .ref a_this_letters, .ref a_this_told, .int v_toldCount, .ref a_this_refused, .ref a_this_stroll, .ref a_this_reach, .ref a_this_otherReach, .ref a_this_routes, .ref a_this_talks, .ref a_this_hearers])), (a_this_letters, .inr (0, [.ref a_this_letters_all, .int v_letters_count])), (a_this_refused, .inr (1, [.ref a_this_refused_all])), (a_this_refused_all, .inl (cI, 7, .inl g_refused_all)), (a_this_town, .inr (6, [.ref a_this_town_kinds, .int v_town_home, .int v_town_fine, .int v_town_breath])), (a_this_town_kinds, .inr (1, [.ref a_this_town_kinds_all])), (a_this_town_kinds_all, .inl (cI, 36, .inl g_town_kinds_all))]) (va_runV (As := [.int (5 : Int32)]) (rest := [.int r20]) ⟨hx, hb, hml, hown, hts⟩ (k_Town_countKind l dC dI cI cZ tt sd a_this_town a_this_town_kinds a_this_town_kinds_all H.size v_town_home v_town_fine v_town_breath g_town_kinds_all (5 : Int32) r22 hf23) (cwV 1 hts gX7_count_X6_countKind rfl rfl rfl (by decide +kernel) ⟨Nat.le_of_ble_eq_true rfl, Nat.le_of_ble_eq_true rfl⟩) (zpV hP hD hK hS hA hZ [4, 5, 6] rfl rfl 6 4 rfl rfl) rfl rfl hl.1 rfl (lv_room (Nat.le_of_ble_eq_true rfl)) dX7_count_104 ⟨Nat.zero_le _, Nat.zero_le _⟩) hP hD hS hA [4, 5, 6] [0, 1, 2, 3] [0, 1, 2, 3, 4, 5, 6] rfl rfl rfl (by decide) rfl rfl rfl (fun H locs hP hD hS => ?_)
    refine lv_iadd hx hb dX7_count_107 ?_
    obtain ⟨rfl⟩ := zi1 he
    exact W.iret hx hb hr (fun t ht hW => ⟨⟨_, (), rfl, rfl, by rw [ht]; exact hP, va_K.moved hW.alike hK, hD⟩, hS.F ht⟩) hS.2.2 dX7_count_108
  have he := zif_f c19 he
  by_cases c24 : p1 = (7 : Int32)
  · have he := zif_t c24 he
    refine lv_tableIn (off := 108) (tgt := 109) hx hb dX7_count_1 (by rw [c24]; decide) (by rw [c24]; decide) (by rw [c24]; rfl) (by decide) ?_
    refine lv_aload_n hx hb dX7_count_109 rfl (lv_at hl 0 rfl) ?_
    refine va_get (D := (dC, dI)) (ci := 7) (v := .int v_toldCount) (C := RX7) (T := TX7) (N := 14) hx hb hts (by decide +kernel) hown hK hP 0 rfl rfl 6 (by decide) (hts (.fieldLink RX7 231 "LawOfCorners" "toldCount" "I") (by decide +kernel)) (fun _ h9 => h9) rfl dX7_count_110 ?_
    obtain ⟨rfl⟩ := zi1 he
    exact W.iret hx hb hr (fun t ht hW => ⟨⟨_, (), rfl, rfl, by rw [ht]; exact hP, va_K.moved hW.alike hK, hD⟩, hS.F ht⟩) hS.2.2 dX7_count_113
  have he := zif_f c24 he
  by_cases c25 : p1 = (8 : Int32)
  · have he := zif_t c25 he
    refine lv_tableIn (off := 113) (tgt := 114) hx hb dX7_count_1 (by rw [c25]; decide) (by rw [c25]; decide) (by rw [c25]; rfl) (by decide) ?_
    refine lv_aload_n hx hb dX7_count_114 rfl (lv_at hl 0 rfl) ?_
    refine va_get (D := (dC, dI)) (ci := 7) (v := .ref a_this_letters) (C := RX7) (T := TX7) (N := 14) hx hb hts (by decide +kernel) hown hK hP 0 rfl rfl 4 (by decide) (hts (.fieldLink RX7 25 "LawOfCorners" "letters" "LLawOfCorners$Letters;") (by decide +kernel)) (fun _ h9 => h9) rfl dX7_count_115 ?_
    obtain ⟨r26, hf27, he⟩ := zb1_e he
    refine zc_i (wr := [(a_this, .inr (7, [.ref a_this_town, .ref a_this_trial, .ref a_this_kept, .int v_isKept, .ref a_this_letters, .ref a_this_told, .int v_toldCount, .ref a_this_refused, .ref a_this_stroll, .ref a_this_reach, .ref a_this_otherReach, .ref a_this_routes, .ref a_this_talks, .ref a_this_hearers])), (a_this_refused, .inr (1, [.ref a_this_refused_all])), (a_this_refused_all, .inl (cI, 7, .inl g_refused_all)), (a_this_town, .inr (6, [.ref a_this_town_kinds, .int v_town_home, .int v_town_fine, .int v_town_breath])), (a_this_town_kinds, .inr (1, [.ref a_this_town_kinds_all])), (a_this_town_kinds_all, .inl (cI, 36, .inl g_town_kinds_all))]) (ws' := [(a_this, .inr (7, [.ref a_this_town, .ref a_this_trial, .ref a_this_kept, .int v_isKept, .ref a_this_letters, .ref a_this_told, .int v_toldCount, .ref a_this_refused, .ref a_this_stroll, .ref a_this_reach, .ref a_this_otherReach, .ref a_this_routes, .ref a_this_talks, .ref a_this_hearers])), (a_this_letters, .inr (0, [.ref a_this_letters_all, .int v_letters_count])), (a_this_refused, .inr (1, [.ref a_this_refused_all])), (a_this_refused_all, .inl (cI, 7, .inl g_refused_all)), (a_this_town, .inr (6, [.ref a_this_town_kinds, .int v_town_home, .int v_town_fine, .int v_town_breath])), (a_this_town_kinds, .inr (1, [.ref a_this_town_kinds_all])), (a_this_town_kinds_all, .inl (cI, 36, .inl g_town_kinds_all))]) (va_runV (As := []) (rest := []) ⟨hx, hb, hml, hown, hts⟩ (k_Letters_size l dC dI cI cZ tt sd a_this_letters a_this_letters_all s.heap.size v_letters_count r26 hf27) (cwV 0 hts gX7_count_X0_size rfl rfl rfl (by decide +kernel) ⟨Nat.le_of_ble_eq_true rfl, Nat.le_of_ble_eq_true rfl⟩) (zpV hP hD hK hS hA hZ [1] rfl rfl 0 1 rfl rfl) rfl rfl hl.1 rfl (lv_room (Nat.le_of_ble_eq_true rfl)) dX7_count_118 ⟨Nat.zero_le _, Nat.zero_le _⟩) hP hD hS hA [1] [0, 2, 3, 4, 5, 6] [0, 6, 1, 2, 3, 4, 5] rfl rfl rfl (by decide) rfl rfl rfl (fun H locs hP hD hS => ?_)
    obtain ⟨rfl⟩ := zi1 he
    exact W.iret hx hb hr (fun t ht hW => ⟨⟨_, (), rfl, rfl, by rw [ht]; exact hP, va_K.moved hW.alike hK, hD⟩, hS.F ht⟩) hS.2.2 dX7_count_121
  have he := zif_f c25 he
  refine lv_tableOut (tgt := 122) hx hb dX7_count_1 (by have n0 := lv_neT (a := 0) c1 (by decide); have n1 := lv_neT (a := 1) c4 (by decide); have n2 := lv_neT (a := 2) c7 (by decide); have n3 := lv_neT (a := 3) c10 (by decide); have n4 := lv_neT (a := 4) c13 (by decide); have n5 := lv_neT (a := 5) c16 (by decide); have n6 := lv_neT (a := 6) c19 (by decide); have n7 := lv_neT (a := 7) c24 (by decide); have n8 := lv_neT (a := 8) c25 (by decide); omega) (by decide) ?_
  refine lv_iload_n hx hb dX7_count_122 rfl (lv_at hl 1 rfl) ?_
  refine lv_bipush (v := (10 : Int32)) hx hb dX7_count_123 (by decide) ?_
  refine lv_icmp_le (tgt := 148) hx hb dX7_count_125 (by decide) (fun c28 => ?_) (fun c28 => ?_)
  · have he := zif_t c28 he
    refine lv_bipush (v := (-9 : Int32)) hx hb dX7_count_148 (by decide) ?_
    obtain ⟨rfl⟩ := zi1 he
    exact W.iret hx hb hr (fun t ht hW => ⟨⟨_, (), rfl, rfl, by rw [ht]; exact hP, va_K.moved hW.alike hK, hD⟩, hS.F ht⟩) hS.2.2 dX7_count_150
  · have he := zif_f c28 he
    refine lv_iload_n hx hb dX7_count_128 rfl (lv_at hl 1 rfl) ?_
    refine lv_bipush (v := (16 : Int32)) hx hb dX7_count_129 (by decide) ?_
    refine lv_icmp_gt (tgt := 148) hx hb dX7_count_131 (by decide) (fun c29 => ?_) (fun c29 => ?_)
    · have he := zif_t c29 he
      refine lv_bipush (v := (-9 : Int32)) hx hb dX7_count_148 (by decide) ?_
      obtain ⟨rfl⟩ := zi1 he
      exact W.iret hx hb hr (fun t ht hW => ⟨⟨_, (), rfl, rfl, by rw [ht]; exact hP, va_K.moved hW.alike hK, hD⟩, hS.F ht⟩) hS.2.2 dX7_count_150
    · have he := zif_f c29 he
      refine lv_aload_n hx hb dX7_count_134 rfl (lv_at hl 0 rfl) ?_
      refine va_get (D := (dC, dI)) (ci := 7) (v := .ref a_this_refused) (C := RX7) (T := TX7) (N := 14) hx hb hts (by decide +kernel) hown hK hP 0 rfl rfl 7 (by decide) (hts (.fieldLink RX7 38 "LawOfCorners" "refused" "LLawOfCorners$Numbers;") (by decide +kernel)) (fun _ h9 => h9) rfl dX7_count_135 ?_
      refine lv_iload_n hx hb dX7_count_138 rfl (lv_at hl 1 rfl) ?_
      refine lv_bipush (v := (10 : Int32)) hx hb dX7_count_139 (by decide) ?_
      refine lv_isub hx hb dX7_count_141 ?_
      obtain ⟨r30, hf31, he⟩ := zb1_e he
      refine zc_i (wr := [(a_this, .inr (7, [.ref a_this_town, .ref a_this_trial, .ref a_this_kept, .int v_isKept, .ref a_this_letters, .ref a_this_told, .int v_toldCount, .ref a_this_refused, .ref a_this_stroll, .ref a_this_reach, .ref a_this_otherReach, .ref a_this_routes, .ref a_this_talks, .ref a_this_hearers])), (a_this_letters, .inr (0, [.ref a_this_letters_all, .int v_letters_count])), (a_this_town, .inr (6, [.ref a_this_town_kinds, .int v_town_home, .int v_town_fine, .int v_town_breath])), (a_this_town_kinds, .inr (1, [.ref a_this_town_kinds_all])), (a_this_town_kinds_all, .inl (cI, 36, .inl g_town_kinds_all))]) (ws' := [(a_this, .inr (7, [.ref a_this_town, .ref a_this_trial, .ref a_this_kept, .int v_isKept, .ref a_this_letters, .ref a_this_told, .int v_toldCount, .ref a_this_refused, .ref a_this_stroll, .ref a_this_reach, .ref a_this_otherReach, .ref a_this_routes, .ref a_this_talks, .ref a_this_hearers])), (a_this_letters, .inr (0, [.ref a_this_letters_all, .int v_letters_count])), (a_this_refused, .inr (1, [.ref a_this_refused_all])), (a_this_refused_all, .inl (cI, 7, .inl g_refused_all)), (a_this_town, .inr (6, [.ref a_this_town_kinds, .int v_town_home, .int v_town_fine, .int v_town_breath])), (a_this_town_kinds, .inr (1, [.ref a_this_town_kinds_all])), (a_this_town_kinds_all, .inl (cI, 36, .inl g_town_kinds_all))]) (va_runV (As := [.int (p1 - (10 : Int32))]) (rest := []) ⟨hx, hb, hml, hown, hts⟩ (k_Numbers_at l dC dI cI cZ tt sd a_this_refused a_this_refused_all s.heap.size 7 g_refused_all (p1 - (10 : Int32)) r30 hf31) (cwV 1 hts gX7_count_X1_at rfl rfl rfl (by decide +kernel) ⟨Nat.le_of_ble_eq_true rfl, Nat.le_of_ble_eq_true rfl⟩) (zpV hP hD hK hS hA hZ [2, 3] rfl rfl 1 2 rfl rfl) rfl rfl hl.1 rfl (lv_room (Nat.le_of_ble_eq_true rfl)) dX7_count_142 ⟨Nat.zero_le _, Nat.zero_le _⟩) hP hD hS hA [2, 3] [0, 1, 4, 5, 6] [0, 1, 5, 6, 2, 3, 4] rfl rfl rfl (by decide) rfl rfl rfl (fun H locs hP hD hS => ?_)
      refine lv_goto (tgt := 150) hx hb dX7_count_145 (by decide) ?_
      obtain ⟨rfl⟩ := zi1 he
      exact W.iret hx hb hr (fun t ht hW => ⟨⟨_, (), rfl, rfl, by rw [ht]; exact hP, va_K.moved hW.alike hK, hD⟩, hS.F ht⟩) hS.2.2 dX7_count_150
set_option maxHeartbeats 4000000 in
set_option maxRecDepth 100000 in
theorem k_M_isIn (l : Launch) (dC : Nat → ClassId) (dI : Nat → Nat → Nat) (cI : ClassId) (cZ : ClassId) (tt : Nat → Nat) (sd : Nat → Nat) (sz : Nat) (p0 : Int32) (p1 : Int32) (p2 : Int32) (r0 : Int32) (hf : f_M_isIn p0 p1 p2 = some (r0)) : Met l yX8_isIn wsX8_isIn ({ frames := 0, cells := 0, slots := 0, locals := 0 }) (zPre (dC, dI) vwCl [(cI, .int), (cZ, .boolean)] tt sd [.int p0, .int p1, .int p2] [] sz) (zQi (dC, dI) vwCl [(cI, .int), (cZ, .boolean)] r0 [] (va_A [] sz)) 0 0 (va_A [] sz) := by
  refine Met.ofW (cc := cX8_isIn) (maxL := 3) (ret := (some .boolean)) (by decide) rfl ?_
  intro p e s m args below meth c s₁ B hml hv
  obtain ⟨rfl, hsz, hP, hK, hD0, hZ⟩ := hv
  have hx := B.exec
  have hb := B.bytes
  have hr := B.returns
  have hts := atoms_spec (ws := wsX8_isIn) B.pre
  have hown : s.vm.findClass RX8 = some m.cls := findClass_of_methodNamed B.named
  have hlocks := B.notSynchronized
  subst hsz
  have hD := hD0.self (sz := s.heap.size)
  generalize hAe : va_A [] s.heap.size = A at hD hZ ⊢
  have hA : ∀ q : Nat, s.heap.size ≤ q → A q := fun q h => by rw [← hAe]; exact Or.inr h
  have hS : va_S A s.heap s.heap [] := va_S.rf
  have hP : va_P (dC, dI) vwCl [] s.heap := hP
  have hl := lv_entry ([.int p0, .int p1, .int p2]) (n := 3) (Nat.le_of_ble_eq_true rfl)
  rw [lg_entry_eq]
  generalize (lg_sl ([.int p0, .int p1, .int p2]) ++ List.replicate (3 - (lg_sl ([.int p0, .int p1, .int p2])).length) Slot.unset).toArray = ls at hl ⊢
  have hl : lv_has ls 3 [(0, .int p0), (1, .int p1), (2, .int p2)] := hl
  have he := hf
  unfold f_M_isIn at he
  refine lv_iload_n hx hb dX8_isIn_0 rfl (lv_at hl 0 rfl) ?_
  refine lv_iload_n hx hb dX8_isIn_1 rfl (lv_at hl 1 rfl) ?_
  refine lv_icmp_lt (tgt := 14) hx hb dX8_isIn_2 (by decide) (fun c1 => ?_) (fun c1 => ?_)
  · have he := zif_t c1 he
    refine lv_iconst (v := (0 : Int32)) hx hb dX8_isIn_14 (by decide) ?_
    obtain ⟨rfl⟩ := zi1 he
    exact W.zret hx hb hr rfl (fun t ht hW => ⟨⟨_, (), rfl, rfl, by rw [ht]; exact hP, va_K.moved hW.alike hK, hD⟩, hS.F ht⟩) hS.2.2 dX8_isIn_15
  · have he := zif_f c1 he
    refine lv_iload_n hx hb dX8_isIn_5 rfl (lv_at hl 0 rfl) ?_
    refine lv_iload_n hx hb dX8_isIn_6 rfl (lv_at hl 2 rfl) ?_
    refine lv_icmp_gt (tgt := 14) hx hb dX8_isIn_7 (by decide) (fun c2 => ?_) (fun c2 => ?_)
    · have he := zif_t c2 he
      refine lv_iconst (v := (0 : Int32)) hx hb dX8_isIn_14 (by decide) ?_
      obtain ⟨rfl⟩ := zi1 he
      exact W.zret hx hb hr rfl (fun t ht hW => ⟨⟨_, (), rfl, rfl, by rw [ht]; exact hP, va_K.moved hW.alike hK, hD⟩, hS.F ht⟩) hS.2.2 dX8_isIn_15
    · have he := zif_f c2 he
      refine lv_iconst (v := (1 : Int32)) hx hb dX8_isIn_10 (by decide) ?_
      refine lv_goto (tgt := 15) hx hb dX8_isIn_11 (by decide) ?_
      obtain ⟨rfl⟩ := zi1 he
      exact W.zret hx hb hr rfl (fun t ht hW => ⟨⟨_, (), rfl, rfl, by rw [ht]; exact hP, va_K.moved hW.alike hK, hD⟩, hS.F ht⟩) hS.2.2 dX8_isIn_15
set_option maxHeartbeats 4000000 in
set_option maxRecDepth 100000 in
theorem k_M_size (l : Launch) (dC : Nat → ClassId) (dI : Nat → Nat → Nat) (cI : ClassId) (cZ : ClassId) (tt : Nat → Nat) (sd : Nat → Nat) (sz : Nat) (p0 : Int32) (r0 : Int32) (hf : f_M_size p0 = some (r0)) : Met l yX8_size wsX8_size ({ frames := 0, cells := 0, slots := 0, locals := 0 }) (zPre (dC, dI) vwCl [(cI, .int), (cZ, .boolean)] tt sd [.int p0] [] sz) (zQi (dC, dI) vwCl [(cI, .int), (cZ, .boolean)] r0 [] (va_A [] sz)) 0 0 (va_A [] sz) := by
  refine Met.ofW (cc := cX8_size) (maxL := 1) (ret := (some .int)) (by decide) rfl ?_
  intro p e s m args below meth c s₁ B hml hv
  obtain ⟨rfl, hsz, hP, hK, hD0, hZ⟩ := hv
  have hx := B.exec
  have hb := B.bytes
  have hr := B.returns
  have hts := atoms_spec (ws := wsX8_size) B.pre
  have hown : s.vm.findClass RX8 = some m.cls := findClass_of_methodNamed B.named
  have hlocks := B.notSynchronized
  subst hsz
  have hD := hD0.self (sz := s.heap.size)
  generalize hAe : va_A [] s.heap.size = A at hD hZ ⊢
  have hA : ∀ q : Nat, s.heap.size ≤ q → A q := fun q h => by rw [← hAe]; exact Or.inr h
  have hS : va_S A s.heap s.heap [] := va_S.rf
  have hP : va_P (dC, dI) vwCl [] s.heap := hP
  have hl := lv_entry ([.int p0]) (n := 1) (Nat.le_of_ble_eq_true rfl)
  rw [lg_entry_eq]
  generalize (lg_sl ([.int p0]) ++ List.replicate (1 - (lg_sl ([.int p0])).length) Slot.unset).toArray = ls at hl ⊢
  have hl : lv_has ls 1 [(0, .int p0)] := hl
  have he := hf
  unfold f_M_size at he
  refine lv_iload_n hx hb dX8_size_0 rfl (lv_at hl 0 rfl) ?_
  refine lv_if_ge (tgt := 9) hx hb dX8_size_1 (by decide) (fun c1 => ?_) (fun c1 => ?_)
  · have he := zif_t c1 he
    refine lv_iload_n hx hb dX8_size_9 rfl (lv_at hl 0 rfl) ?_
    obtain ⟨rfl⟩ := zi1 he
    exact W.iret hx hb hr (fun t ht hW => ⟨⟨_, (), rfl, rfl, by rw [ht]; exact hP, va_K.moved hW.alike hK, hD⟩, hS.F ht⟩) hS.2.2 dX8_size_10
  · have he := zif_f c1 he
    refine lv_iload_n hx hb dX8_size_4 rfl (lv_at hl 0 rfl) ?_
    refine lv_ineg hx hb dX8_size_5 ?_
    refine lv_goto (tgt := 10) hx hb dX8_size_6 (by decide) ?_
    obtain ⟨rfl⟩ := zi1 he
    exact W.iret hx hb hr (fun t ht hW => ⟨⟨_, (), rfl, rfl, by rw [ht]; exact hP, va_K.moved hW.alike hK, hD⟩, hS.F ht⟩) hS.2.2 dX8_size_10
set_option maxHeartbeats 4000000 in
set_option maxRecDepth 100000 in
theorem k_M_lays (l : Launch) (dC : Nat → ClassId) (dI : Nat → Nat → Nat) (cI : ClassId) (cZ : ClassId) (tt : Nat → Nat) (sd : Nat → Nat) (a_p0 : Nat) (a_p1 : Nat) (sz : Nat) (g_p0 : Nat → Int32) (g_p1 : Nat → Int32) (w0 : Nat → Int32) (hf : f_M_lays g_p0 g_p1 = some (w0)) : Met l yX8_lays wsX8_lays ({ frames := 0, cells := 0, slots := 0, locals := 0 }) (zPre (dC, dI) vwCl [(cI, .int), (cZ, .boolean)] tt sd [.ref a_p0, .ref a_p1] [(a_p0, .inl (cI, 39, .inl g_p0)), (a_p1, .inl (cI, 39, .inl g_p1))] sz) (zQv (dC, dI) vwCl [(cI, .int), (cZ, .boolean)] [(a_p0, .inl (cI, 39, .inl g_p0)), (a_p1, .inl (cI, 39, .inl w0))] (va_A [(a_p0, .inl (cI, 39, .inl g_p0)), (a_p1, .inl (cI, 39, .inl g_p1))] sz)) 0 0 (va_A [(a_p0, .inl (cI, 39, .inl g_p0)), (a_p1, .inl (cI, 39, .inl g_p1))] sz) := by
  refine Met.ofW (cc := cX8_lays) (maxL := 3) (ret := none) (by decide) rfl ?_
  intro p e s m args below meth c s₁ B hml hv
  obtain ⟨rfl, hsz, hP, hK, hD0, hZ⟩ := hv
  have hx := B.exec
  have hb := B.bytes
  have hr := B.returns
  have hts := atoms_spec (ws := wsX8_lays) B.pre
  have hown : s.vm.findClass RX8 = some m.cls := findClass_of_methodNamed B.named
  have hlocks := B.notSynchronized
  subst hsz
  have hD := hD0.self (sz := s.heap.size)
  generalize hAe : va_A [(a_p0, .inl (cI, 39, .inl g_p0)), (a_p1, .inl (cI, 39, .inl g_p1))] s.heap.size = A at hD hZ ⊢
  have hA : ∀ q : Nat, s.heap.size ≤ q → A q := fun q h => by rw [← hAe]; exact Or.inr h
  have hS : va_S A s.heap s.heap [] := va_S.rf
  have hP : va_P (dC, dI) vwCl [(a_p0, .inl (cI, 39, .inl g_p0)), (a_p1, .inl (cI, 39, .inl g_p1))] s.heap := hP
  have hl := lv_entry ([.ref a_p0, .ref a_p1]) (n := 3) (Nat.le_of_ble_eq_true rfl)
  rw [lg_entry_eq]
  generalize (lg_sl ([.ref a_p0, .ref a_p1]) ++ List.replicate (3 - (lg_sl ([.ref a_p0, .ref a_p1])).length) Slot.unset).toArray = ls at hl ⊢
  have hl : lv_has ls 3 [(0, .ref a_p0), (1, .ref a_p1)] := hl
  have he := hf
  unfold f_M_lays at he
  refine zstart (D := (dC, dI)) (cl := vwCl) (A := A) (nL := 3) (fun WW hWW => ?_)
  refine lv_iconst (v := (0 : Int32)) hx hb dX8_lays_0 (by decide) ?_
  refine lv_istore_n (lv' := [(2, .int (0 : Int32)), (0, .ref a_p0), (1, .ref a_p1)]) hx hb dX8_lays_1 rfl hl (by decide) rfl (fun ls hl => ?_)
  refine (hWW _ _ _ _).mp (zl2_w he (fun (l2_1 : Int32) (g_p1_2 : Nat → Int32) => WW [(a_p0, .inl (cI, 39, .inl g_p0)), (a_p1, .inl (cI, 39, .inl g_p1_2))] [(0, .ref a_p0), (1, .ref a_p1), (2, .int l2_1)] 2 []) (fun l2_1 g_p1_2 again3 hagain3 he => (hWW _ _ _ _).mpr (fun H locs ls hP hD hS hl => ?_))) _ _ _ hP hD hS (lv_sub hl [1, 2, 0] rfl)
  refine lv_iload_n hx hb dX8_lays_2 rfl (lv_at hl 2 rfl) ?_
  refine lv_bipush (v := (39 : Int32)) hx hb dX8_lays_3 (by decide) ?_
  refine lv_icmp_ge (tgt := 20) hx hb dX8_lays_5 (by decide) (fun c4 => ?_) (fun c4 => ?_)
  · have he := zif_t c4 he
    obtain ⟨rfl⟩ := zi1 he
    exact W.vret hx hb hr (fun t ht hW => ⟨⟨(), rfl, trivial, by rw [ht]; exact hP, va_K.moved hW.alike hK, hD⟩, hS.F ht⟩) hS.2.2 dX8_lays_20
  · have he := zif_f c4 he
    refine lv_aload_n hx hb dX8_lays_8 rfl (lv_at hl 1 rfl) ?_
    refine lv_iload_n hx hb dX8_lays_9 rfl (lv_at hl 2 rfl) ?_
    refine lv_aload_n hx hb dX8_lays_10 rfl (lv_at hl 0 rfl) ?_
    refine lv_iload_n hx hb dX8_lays_11 rfl (lv_at hl 2 rfl) ?_
    obtain ⟨hg5, he⟩ := zg_e he
    refine va_iald hx hb hK hP 0 0 rfl rfl hg5 dX8_lays_12 ?_
    refine lv_topi (fun x6 ex6 => ?_)
    have he := zn_e ex6 he
    obtain ⟨hg7, he⟩ := zg_e he
    refine va_iast hx hb hK hP hD hS 1 0 rfl rfl hg7 dX8_lays_13 (fun H locs hP hD hS => ?_)
    obtain ⟨g8, eg8⟩ : ∃ y : Nat → Int32, y = upd g_p1_2 l2_1.toNatClampNeg x6 := ⟨_, rfl⟩
    have he := zn_e eg8 he
    have hP : va_P (dC, dI) vwCl [(a_p0, .inl (cI, 39, .inl g_p0)), (a_p1, .inl (cI, 39, .inl g8))] H := by rw [eg8]; exact hP
    have hD : va_D A [(a_p0, .inl (cI, 39, .inl g_p0)), (a_p1, .inl (cI, 39, .inl g8))] := by rw [eg8]; exact hD
    obtain ⟨x9, ex9⟩ : ∃ y : Int32, y = l2_1 + (1 : Int32) := ⟨_, rfl⟩
    have he := zn_e ex9 he
    refine lv_iinc (v := x9) (lv' := [(2, .int x9), (0, .ref a_p0), (1, .ref a_p1)]) hx hb dX8_lays_14 hl (k := 2) rfl (by rw [ex9]; rfl) (by decide) rfl (fun ls hl => ?_)
    refine lv_goto (tgt := 2) hx hb dX8_lays_17 (by decide) ?_
    exact (hWW _ _ _ _).mp (hagain3 x9 g8 he) _ _ _ hP hD hS (lv_sub hl [1, 2, 0] rfl)
set_option maxHeartbeats 4000000 in
set_option maxRecDepth 100000 in
theorem k_M_no (l : Launch) (dC : Nat → ClassId) (dI : Nat → Nat → Nat) (cI : ClassId) (cZ : ClassId) (tt : Nat → Nat) (sd : Nat → Nat) (a_this : Nat) (a_this_s : Nat) (a_this_image : Nat) (a_this_was : Nat) (a_this_letters : Nat) (a_this_row : Nat) (a_this_refused : Nat) (a_this_numbers : Nat) (a_this_least : Nat) (a_this_stepsFrom : Nat) (a_this_most : Nat) (a_this_next : Nat) (a_this_otherSteps : Nat) (a_this_ahead : Nat) (a_this_now : Nat) (sz : Nat) (v_hasImage : Int32) (v_letterMany : Int32) (v_rowMany : Int32) (v_place : Int32) (v_seed : Int32) (g_refused : Nat → Int32) (p1 : Int32) (r0 : Int32) (w0 : Nat → Int32) (hf : f_M_no g_refused p1 = some (r0, w0)) : Met l yX8_no wsX8_no ({ frames := 0, cells := 0, slots := 0, locals := 0 }) (zPre (dC, dI) vwCl [(cI, .int), (cZ, .boolean)] tt sd [.ref a_this, .int p1] [(a_this, .inr (8, [.ref a_this_s, .ref a_this_image, .ref a_this_was, .int v_hasImage, .ref a_this_letters, .ref a_this_row, .ref a_this_refused, .int v_letterMany, .int v_rowMany, .int v_place, .ref a_this_numbers, .ref a_this_least, .ref a_this_stepsFrom, .ref a_this_most, .ref a_this_next, .ref a_this_otherSteps, .ref a_this_ahead, .ref a_this_now, .int v_seed])), (a_this_refused, .inl (cI, 7, .inl g_refused))] sz) (zQi (dC, dI) vwCl [(cI, .int), (cZ, .boolean)] r0 [(a_this, .inr (8, [.ref a_this_s, .ref a_this_image, .ref a_this_was, .int v_hasImage, .ref a_this_letters, .ref a_this_row, .ref a_this_refused, .int v_letterMany, .int v_rowMany, .int v_place, .ref a_this_numbers, .ref a_this_least, .ref a_this_stepsFrom, .ref a_this_most, .ref a_this_next, .ref a_this_otherSteps, .ref a_this_ahead, .ref a_this_now, .int v_seed])), (a_this_refused, .inl (cI, 7, .inl w0))] (va_A [(a_this, .inr (8, [.ref a_this_s, .ref a_this_image, .ref a_this_was, .int v_hasImage, .ref a_this_letters, .ref a_this_row, .ref a_this_refused, .int v_letterMany, .int v_rowMany, .int v_place, .ref a_this_numbers, .ref a_this_least, .ref a_this_stepsFrom, .ref a_this_most, .ref a_this_next, .ref a_this_otherSteps, .ref a_this_ahead, .ref a_this_now, .int v_seed])), (a_this_refused, .inl (cI, 7, .inl g_refused))] sz)) 0 0 (va_A [(a_this, .inr (8, [.ref a_this_s, .ref a_this_image, .ref a_this_was, .int v_hasImage, .ref a_this_letters, .ref a_this_row, .ref a_this_refused, .int v_letterMany, .int v_rowMany, .int v_place, .ref a_this_numbers, .ref a_this_least, .ref a_this_stepsFrom, .ref a_this_most, .ref a_this_next, .ref a_this_otherSteps, .ref a_this_ahead, .ref a_this_now, .int v_seed])), (a_this_refused, .inl (cI, 7, .inl g_refused))] sz) := by
  refine Met.ofW (cc := cX8_no) (maxL := 2) (ret := (some .int)) (by decide) rfl ?_
  intro p e s m args below meth c s₁ B hml hv
  obtain ⟨rfl, hsz, hP, hK, hD0, hZ⟩ := hv
  have hx := B.exec
  have hb := B.bytes
  have hr := B.returns
  have hts := atoms_spec (ws := wsX8_no) B.pre
  have hown : s.vm.findClass RX8 = some m.cls := findClass_of_methodNamed B.named
  have hlocks := B.notSynchronized
  subst hsz
  have hD := hD0.self (sz := s.heap.size)
  generalize hAe : va_A [(a_this, .inr (8, [.ref a_this_s, .ref a_this_image, .ref a_this_was, .int v_hasImage, .ref a_this_letters, .ref a_this_row, .ref a_this_refused, .int v_letterMany, .int v_rowMany, .int v_place, .ref a_this_numbers, .ref a_this_least, .ref a_this_stepsFrom, .ref a_this_most, .ref a_this_next, .ref a_this_otherSteps, .ref a_this_ahead, .ref a_this_now, .int v_seed])), (a_this_refused, .inl (cI, 7, .inl g_refused))] s.heap.size = A at hD hZ ⊢
  have hA : ∀ q : Nat, s.heap.size ≤ q → A q := fun q h => by rw [← hAe]; exact Or.inr h
  have hS : va_S A s.heap s.heap [] := va_S.rf
  have hP : va_P (dC, dI) vwCl [(a_this, .inr (8, [.ref a_this_s, .ref a_this_image, .ref a_this_was, .int v_hasImage, .ref a_this_letters, .ref a_this_row, .ref a_this_refused, .int v_letterMany, .int v_rowMany, .int v_place, .ref a_this_numbers, .ref a_this_least, .ref a_this_stepsFrom, .ref a_this_most, .ref a_this_next, .ref a_this_otherSteps, .ref a_this_ahead, .ref a_this_now, .int v_seed])), (a_this_refused, .inl (cI, 7, .inl g_refused))] s.heap := hP
  have hl := lv_entry ([.ref a_this, .int p1]) (n := 2) (Nat.le_of_ble_eq_true rfl)
  rw [lg_entry_eq]
  generalize (lg_sl ([.ref a_this, .int p1]) ++ List.replicate (2 - (lg_sl ([.ref a_this, .int p1])).length) Slot.unset).toArray = ls at hl ⊢
  have hl : lv_has ls 2 [(0, .ref a_this), (1, .int p1)] := hl
  have he := hf
  unfold f_M_no at he
  refine lv_aload_n hx hb dX8_no_0 rfl (lv_at hl 0 rfl) ?_
  refine va_get (D := (dC, dI)) (ci := 8) (v := .ref a_this_refused) (C := RX8) (T := TX8) (N := 19) hx hb hts (by decide +kernel) hown hK hP 0 rfl rfl 6 (by decide) (hts (.fieldLink RX8 25 "LawOfCornersModel" "refused" "[I") (by decide +kernel)) (fun _ h9 => h9) rfl dX8_no_1 ?_
  refine lv_iload_n hx hb dX8_no_4 rfl (lv_at hl 1 rfl) ?_
  refine lv_ineg hx hb dX8_no_5 ?_
  refine lv_topi (fun x1 ex1 => ?_)
  have he := zn_e ex1 he
  refine lv_dup2_11 hx hb dX8_no_6 rfl rfl ?_
  obtain ⟨hg2, he⟩ := zg_e he
  refine va_iald hx hb hK hP 1 0 rfl rfl hg2 dX8_no_7 ?_
  refine lv_iconst (v := (1 : Int32)) hx hb dX8_no_8 (by decide) ?_
  refine lv_iadd hx hb dX8_no_9 ?_
  refine lv_topi (fun x3 ex3 => ?_)
  have he := zn_e ex3 he
  obtain ⟨hg4, he⟩ := zg_e he
  refine va_iast hx hb hK hP hD hS 1 0 rfl rfl hg4 dX8_no_10 (fun H locs hP hD hS => ?_)
  obtain ⟨g5, eg5⟩ : ∃ y : Nat → Int32, y = upd g_refused x1.toNatClampNeg x3 := ⟨_, rfl⟩
  have he := zn_e eg5 he
  have hP : va_P (dC, dI) vwCl [(a_this, .inr (8, [.ref a_this_s, .ref a_this_image, .ref a_this_was, .int v_hasImage, .ref a_this_letters, .ref a_this_row, .ref a_this_refused, .int v_letterMany, .int v_rowMany, .int v_place, .ref a_this_numbers, .ref a_this_least, .ref a_this_stepsFrom, .ref a_this_most, .ref a_this_next, .ref a_this_otherSteps, .ref a_this_ahead, .ref a_this_now, .int v_seed])), (a_this_refused, .inl (cI, 7, .inl g5))] H := by rw [eg5]; exact hP
  have hD : va_D A [(a_this, .inr (8, [.ref a_this_s, .ref a_this_image, .ref a_this_was, .int v_hasImage, .ref a_this_letters, .ref a_this_row, .ref a_this_refused, .int v_letterMany, .int v_rowMany, .int v_place, .ref a_this_numbers, .ref a_this_least, .ref a_this_stepsFrom, .ref a_this_most, .ref a_this_next, .ref a_this_otherSteps, .ref a_this_ahead, .ref a_this_now, .int v_seed])), (a_this_refused, .inl (cI, 7, .inl g5))] := by rw [eg5]; exact hD
  refine lv_iload_n hx hb dX8_no_11 rfl (lv_at hl 1 rfl) ?_
  obtain ⟨rfl, rfl⟩ := zi2 he
  exact W.iret hx hb hr (fun t ht hW => ⟨⟨_, (), rfl, rfl, by rw [ht]; exact hP, va_K.moved hW.alike hK, hD⟩, hS.F ht⟩) hS.2.2 dX8_no_12
set_option maxHeartbeats 4000000 in
set_option maxRecDepth 100000 in
theorem k_M_isSquare (l : Launch) (dC : Nat → ClassId) (dI : Nat → Nat → Nat) (cI : ClassId) (cZ : ClassId) (tt : Nat → Nat) (sd : Nat → Nat) (sz : Nat) (p0 : Int32) (r0 : Int32) (hf : f_M_isSquare p0 = some (r0)) : Met l yX8_isSquare wsX8_isSquare ({ frames := 1, cells := 0, slots := 0, locals := 22 }) (zPre (dC, dI) vwCl [(cI, .int), (cZ, .boolean)] tt sd [.int p0] [] sz) (zQi (dC, dI) vwCl [(cI, .int), (cZ, .boolean)] r0 [] (va_A [] sz)) 0 0 (va_A [] sz) := by
  refine Met.ofW (cc := cX8_isSquare) (maxL := 1) (ret := (some .boolean)) (by decide) rfl ?_
  intro p e s m args below meth c s₁ B hml hv
  obtain ⟨rfl, hsz, hP, hK, hD0, hZ⟩ := hv
  have hx := B.exec
  have hb := B.bytes
  have hr := B.returns
  have hts := atoms_spec (ws := wsX8_isSquare) B.pre
  have hown : s.vm.findClass RX8 = some m.cls := findClass_of_methodNamed B.named
  have hlocks := B.notSynchronized
  subst hsz
  have hD := hD0.self (sz := s.heap.size)
  generalize hAe : va_A [] s.heap.size = A at hD hZ ⊢
  have hA : ∀ q : Nat, s.heap.size ≤ q → A q := fun q h => by rw [← hAe]; exact Or.inr h
  have hS : va_S A s.heap s.heap [] := va_S.rf
  have hP : va_P (dC, dI) vwCl [] s.heap := hP
  have hl := lv_entry ([.int p0]) (n := 1) (Nat.le_of_ble_eq_true rfl)
  rw [lg_entry_eq]
  generalize (lg_sl ([.int p0]) ++ List.replicate (1 - (lg_sl ([.int p0])).length) Slot.unset).toArray = ls at hl ⊢
  have hl : lv_has ls 1 [(0, .int p0)] := hl
  have he := hf
  unfold f_M_isSquare at he
  refine lv_iload_n hx hb dX8_isSquare_0 rfl (lv_at hl 0 rfl) ?_
  refine lv_iconst (v := (0 : Int32)) hx hb dX8_isSquare_1 (by decide) ?_
  refine lv_bipush (v := (35 : Int32)) hx hb dX8_isSquare_2 (by decide) ?_
  obtain ⟨r1, hf2, he⟩ := zb1_e he
  refine zc_i (wr := []) (ws' := []) (va_runS (As := [.int p0, .int (0 : Int32), .int (35 : Int32)]) (rest := []) ⟨hx, hb, hml, hown, hts⟩ (k_M_isIn l dC dI cI cZ tt sd s.heap.size p0 (0 : Int32) (35 : Int32) r1 hf2) (va_cwS 3 hts gX8_isSquare_X8_isIn rfl rfl rfl (by decide +kernel) ⟨Nat.le_of_ble_eq_true rfl, Nat.le_of_ble_eq_true rfl⟩) (zpS hP hD hK hS hA hZ [] rfl rfl) rfl rfl hl.1 rfl (lv_room (Nat.le_of_ble_eq_true rfl)) dX8_isSquare_4 ⟨Nat.zero_le _, Nat.zero_le _⟩) hP hD hS hA [] [] [] rfl rfl rfl (by decide) rfl rfl rfl (fun H locs hP hD hS => ?_)
  obtain ⟨hg3, he⟩ := zg_e he
  obtain ⟨rfl⟩ := zi1 he
  exact W.zret hx hb hr (zbool_n hg3) (fun t ht hW => ⟨⟨_, (), rfl, rfl, by rw [ht]; exact hP, va_K.moved hW.alike hK, hD⟩, hS.F ht⟩) hS.2.2 dX8_isSquare_7
set_option maxHeartbeats 4000000 in
set_option maxRecDepth 100000 in
theorem k_M_canStand (l : Launch) (dC : Nat → ClassId) (dI : Nat → Nat → Nat) (cI : ClassId) (cZ : ClassId) (tt : Nat → Nat) (sd : Nat → Nat) (sz : Nat) (p0 : Int32) (r0 : Int32) (hf : f_M_canStand p0 = some (r0)) : Met l yX8_canStand wsX8_canStand ({ frames := 0, cells := 0, slots := 0, locals := 0 }) (zPre (dC, dI) vwCl [(cI, .int), (cZ, .boolean)] tt sd [.int p0] [] sz) (zQi (dC, dI) vwCl [(cI, .int), (cZ, .boolean)] r0 [] (va_A [] sz)) 0 0 (va_A [] sz) := by
  refine Met.ofW (cc := cX8_canStand) (maxL := 1) (ret := (some .boolean)) (by decide) rfl ?_
  intro p e s m args below meth c s₁ B hml hv
  obtain ⟨rfl, hsz, hP, hK, hD0, hZ⟩ := hv
  have hx := B.exec
  have hb := B.bytes
  have hr := B.returns
  have hts := atoms_spec (ws := wsX8_canStand) B.pre
  have hown : s.vm.findClass RX8 = some m.cls := findClass_of_methodNamed B.named
  have hlocks := B.notSynchronized
  subst hsz
  have hD := hD0.self (sz := s.heap.size)
  generalize hAe : va_A [] s.heap.size = A at hD hZ ⊢
  have hA : ∀ q : Nat, s.heap.size ≤ q → A q := fun q h => by rw [← hAe]; exact Or.inr h
  have hS : va_S A s.heap s.heap [] := va_S.rf
  have hP : va_P (dC, dI) vwCl [] s.heap := hP
  have hl := lv_entry ([.int p0]) (n := 1) (Nat.le_of_ble_eq_true rfl)
  rw [lg_entry_eq]
  generalize (lg_sl ([.int p0]) ++ List.replicate (1 - (lg_sl ([.int p0])).length) Slot.unset).toArray = ls at hl ⊢
  have hl : lv_has ls 1 [(0, .int p0)] := hl
  have he := hf
  unfold f_M_canStand at he
  refine lv_iload_n hx hb dX8_canStand_0 rfl (lv_at hl 0 rfl) ?_
  refine lv_iconst (v := (1 : Int32)) hx hb dX8_canStand_1 (by decide) ?_
  refine lv_icmp_eq (tgt := 14) hx hb dX8_canStand_2 (by decide) (fun c1 => ?_) (fun c1 => ?_)
  · have he := zif_t c1 he
    refine lv_iconst (v := (0 : Int32)) hx hb dX8_canStand_14 (by decide) ?_
    obtain ⟨rfl⟩ := zi1 he
    exact W.zret hx hb hr rfl (fun t ht hW => ⟨⟨_, (), rfl, rfl, by rw [ht]; exact hP, va_K.moved hW.alike hK, hD⟩, hS.F ht⟩) hS.2.2 dX8_canStand_15
  · have he := zif_f c1 he
    refine lv_iload_n hx hb dX8_canStand_5 rfl (lv_at hl 0 rfl) ?_
    refine lv_iconst (v := (4 : Int32)) hx hb dX8_canStand_6 (by decide) ?_
    refine lv_icmp_eq (tgt := 14) hx hb dX8_canStand_7 (by decide) (fun c2 => ?_) (fun c2 => ?_)
    · have he := zif_t c2 he
      refine lv_iconst (v := (0 : Int32)) hx hb dX8_canStand_14 (by decide) ?_
      obtain ⟨rfl⟩ := zi1 he
      exact W.zret hx hb hr rfl (fun t ht hW => ⟨⟨_, (), rfl, rfl, by rw [ht]; exact hP, va_K.moved hW.alike hK, hD⟩, hS.F ht⟩) hS.2.2 dX8_canStand_15
    · have he := zif_f c2 he
      refine lv_iconst (v := (1 : Int32)) hx hb dX8_canStand_10 (by decide) ?_
      refine lv_goto (tgt := 15) hx hb dX8_canStand_11 (by decide) ?_
      obtain ⟨rfl⟩ := zi1 he
      exact W.zret hx hb hr rfl (fun t ht hW => ⟨⟨_, (), rfl, rfl, by rw [ht]; exact hP, va_K.moved hW.alike hK, hD⟩, hS.F ht⟩) hS.2.2 dX8_canStand_15
set_option maxHeartbeats 4000000 in
set_option maxRecDepth 100000 in
theorem k_M_canBe (l : Launch) (dC : Nat → ClassId) (dI : Nat → Nat → Nat) (cI : ClassId) (cZ : ClassId) (tt : Nat → Nat) (sd : Nat → Nat) (a_this : Nat) (a_this_s : Nat) (a_this_image : Nat) (a_this_was : Nat) (a_this_letters : Nat) (a_this_row : Nat) (a_this_refused : Nat) (a_this_numbers : Nat) (a_this_least : Nat) (a_this_stepsFrom : Nat) (a_this_most : Nat) (a_this_next : Nat) (a_this_otherSteps : Nat) (a_this_ahead : Nat) (a_this_now : Nat) (sz : Nat) (v_hasImage : Int32) (v_letterMany : Int32) (v_rowMany : Int32) (v_place : Int32) (v_seed : Int32) (g_s : Nat → Int32) (p1 : Int32) (r0 : Int32) (hf : f_M_canBe g_s p1 = some (r0)) : Met l yX8_canBe wsX8_canBe ({ frames := 1, cells := 0, slots := 0, locals := 20 }) (zPre (dC, dI) vwCl [(cI, .int), (cZ, .boolean)] tt sd [.ref a_this, .int p1] [(a_this, .inr (8, [.ref a_this_s, .ref a_this_image, .ref a_this_was, .int v_hasImage, .ref a_this_letters, .ref a_this_row, .ref a_this_refused, .int v_letterMany, .int v_rowMany, .int v_place, .ref a_this_numbers, .ref a_this_least, .ref a_this_stepsFrom, .ref a_this_most, .ref a_this_next, .ref a_this_otherSteps, .ref a_this_ahead, .ref a_this_now, .int v_seed])), (a_this_s, .inl (cI, 39, .inl g_s))] sz) (zQi (dC, dI) vwCl [(cI, .int), (cZ, .boolean)] r0 [(a_this, .inr (8, [.ref a_this_s, .ref a_this_image, .ref a_this_was, .int v_hasImage, .ref a_this_letters, .ref a_this_row, .ref a_this_refused, .int v_letterMany, .int v_rowMany, .int v_place, .ref a_this_numbers, .ref a_this_least, .ref a_this_stepsFrom, .ref a_this_most, .ref a_this_next, .ref a_this_otherSteps, .ref a_this_ahead, .ref a_this_now, .int v_seed])), (a_this_s, .inl (cI, 39, .inl g_s))] (va_A [(a_this, .inr (8, [.ref a_this_s, .ref a_this_image, .ref a_this_was, .int v_hasImage, .ref a_this_letters, .ref a_this_row, .ref a_this_refused, .int v_letterMany, .int v_rowMany, .int v_place, .ref a_this_numbers, .ref a_this_least, .ref a_this_stepsFrom, .ref a_this_most, .ref a_this_next, .ref a_this_otherSteps, .ref a_this_ahead, .ref a_this_now, .int v_seed])), (a_this_s, .inl (cI, 39, .inl g_s))] sz)) 0 0 (va_A [(a_this, .inr (8, [.ref a_this_s, .ref a_this_image, .ref a_this_was, .int v_hasImage, .ref a_this_letters, .ref a_this_row, .ref a_this_refused, .int v_letterMany, .int v_rowMany, .int v_place, .ref a_this_numbers, .ref a_this_least, .ref a_this_stepsFrom, .ref a_this_most, .ref a_this_next, .ref a_this_otherSteps, .ref a_this_ahead, .ref a_this_now, .int v_seed])), (a_this_s, .inl (cI, 39, .inl g_s))] sz) := by
  refine Met.ofW (cc := cX8_canBe) (maxL := 2) (ret := (some .boolean)) (by decide) rfl ?_
  intro p e s m args below meth c s₁ B hml hv
  obtain ⟨rfl, hsz, hP, hK, hD0, hZ⟩ := hv
  have hx := B.exec
  have hb := B.bytes
  have hr := B.returns
  have hts := atoms_spec (ws := wsX8_canBe) B.pre
  have hown : s.vm.findClass RX8 = some m.cls := findClass_of_methodNamed B.named
  have hlocks := B.notSynchronized
  subst hsz
  have hD := hD0.self (sz := s.heap.size)
  generalize hAe : va_A [(a_this, .inr (8, [.ref a_this_s, .ref a_this_image, .ref a_this_was, .int v_hasImage, .ref a_this_letters, .ref a_this_row, .ref a_this_refused, .int v_letterMany, .int v_rowMany, .int v_place, .ref a_this_numbers, .ref a_this_least, .ref a_this_stepsFrom, .ref a_this_most, .ref a_this_next, .ref a_this_otherSteps, .ref a_this_ahead, .ref a_this_now, .int v_seed])), (a_this_s, .inl (cI, 39, .inl g_s))] s.heap.size = A at hD hZ ⊢
  have hA : ∀ q : Nat, s.heap.size ≤ q → A q := fun q h => by rw [← hAe]; exact Or.inr h
  have hS : va_S A s.heap s.heap [] := va_S.rf
  have hP : va_P (dC, dI) vwCl [(a_this, .inr (8, [.ref a_this_s, .ref a_this_image, .ref a_this_was, .int v_hasImage, .ref a_this_letters, .ref a_this_row, .ref a_this_refused, .int v_letterMany, .int v_rowMany, .int v_place, .ref a_this_numbers, .ref a_this_least, .ref a_this_stepsFrom, .ref a_this_most, .ref a_this_next, .ref a_this_otherSteps, .ref a_this_ahead, .ref a_this_now, .int v_seed])), (a_this_s, .inl (cI, 39, .inl g_s))] s.heap := hP
  have hl := lv_entry ([.ref a_this, .int p1]) (n := 2) (Nat.le_of_ble_eq_true rfl)
  rw [lg_entry_eq]
  generalize (lg_sl ([.ref a_this, .int p1]) ++ List.replicate (2 - (lg_sl ([.ref a_this, .int p1])).length) Slot.unset).toArray = ls at hl ⊢
  have hl : lv_has ls 2 [(0, .ref a_this), (1, .int p1)] := hl
  have he := hf
  unfold f_M_canBe at he
  refine lv_aload_n hx hb dX8_canBe_0 rfl (lv_at hl 0 rfl) ?_
  refine va_get (D := (dC, dI)) (ci := 8) (v := .ref a_this_s) (C := RX8) (T := TX8) (N := 19) hx hb hts (by decide +kernel) hown hK hP 0 rfl rfl 0 (by decide) (hts (.fieldLink RX8 9 "LawOfCornersModel" "s" "[I") (by decide +kernel)) (fun _ h9 => h9) rfl dX8_canBe_1 ?_
  refine lv_iload_n hx hb dX8_canBe_4 rfl (lv_at hl 1 rfl) ?_
  obtain ⟨hg1, he⟩ := zg_e he
  refine va_iald hx hb hK hP 1 0 rfl rfl hg1 dX8_canBe_5 ?_
  obtain ⟨r2, hf3, he⟩ := zb1_e he
  refine zc_i (wr := [(a_this, .inr (8, [.ref a_this_s, .ref a_this_image, .ref a_this_was, .int v_hasImage, .ref a_this_letters, .ref a_this_row, .ref a_this_refused, .int v_letterMany, .int v_rowMany, .int v_place, .ref a_this_numbers, .ref a_this_least, .ref a_this_stepsFrom, .ref a_this_most, .ref a_this_next, .ref a_this_otherSteps, .ref a_this_ahead, .ref a_this_now, .int v_seed])), (a_this_s, .inl (cI, 39, .inl g_s))]) (ws' := [(a_this, .inr (8, [.ref a_this_s, .ref a_this_image, .ref a_this_was, .int v_hasImage, .ref a_this_letters, .ref a_this_row, .ref a_this_refused, .int v_letterMany, .int v_rowMany, .int v_place, .ref a_this_numbers, .ref a_this_least, .ref a_this_stepsFrom, .ref a_this_most, .ref a_this_next, .ref a_this_otherSteps, .ref a_this_ahead, .ref a_this_now, .int v_seed])), (a_this_s, .inl (cI, 39, .inl g_s))]) (va_runS (As := [.int (g_s p1.toNatClampNeg)]) (rest := []) ⟨hx, hb, hml, hown, hts⟩ (k_M_canStand l dC dI cI cZ tt sd s.heap.size (g_s p1.toNatClampNeg) r2 hf3) (va_cwS 1 hts gX8_canBe_X8_canStand rfl rfl rfl (by decide +kernel) ⟨Nat.le_of_ble_eq_true rfl, Nat.le_of_ble_eq_true rfl⟩) (zpS hP hD hK hS hA hZ [] rfl rfl) rfl rfl hl.1 rfl (lv_room (Nat.le_of_ble_eq_true rfl)) dX8_canBe_6 ⟨Nat.zero_le _, Nat.zero_le _⟩) hP hD hS hA [] [0, 1] [0, 1] rfl rfl rfl (by decide) rfl rfl rfl (fun H locs hP hD hS => ?_)
  obtain ⟨hg4, he⟩ := zg_e he
  obtain ⟨rfl⟩ := zi1 he
  exact W.zret hx hb hr (zbool_n hg4) (fun t ht hW => ⟨⟨_, (), rfl, rfl, by rw [ht]; exact hP, va_K.moved hW.alike hK, hD⟩, hS.F ht⟩) hS.2.2 dX8_canBe_9
set_option maxHeartbeats 4000000 in
set_option maxRecDepth 100000 in
theorem k_M_wordsOn (l : Launch) (dC : Nat → ClassId) (dI : Nat → Nat → Nat) (cI : ClassId) (cZ : ClassId) (tt : Nat → Nat) (sd : Nat → Nat) (a_this : Nat) (a_this_s : Nat) (a_this_image : Nat) (a_this_was : Nat) (a_this_letters : Nat) (a_this_row : Nat) (a_this_refused : Nat) (a_this_numbers : Nat) (a_this_least : Nat) (a_this_stepsFrom : Nat) (a_this_most : Nat) (a_this_next : Nat) (a_this_otherSteps : Nat) (a_this_ahead : Nat) (a_this_now : Nat) (sz : Nat) (v_hasImage : Int32) (v_letterMany : Int32) (v_rowMany : Int32) (v_place : Int32) (v_seed : Int32) (g_s : Nat → Int32) (p1 : Int32) (r0 : Int32) (hf : f_M_wordsOn g_s p1 = some (r0)) : Met l yX8_wordsOn wsX8_wordsOn ({ frames := 0, cells := 0, slots := 0, locals := 0 }) (zPre (dC, dI) vwCl [(cI, .int), (cZ, .boolean)] tt sd [.ref a_this, .int p1] [(a_this, .inr (8, [.ref a_this_s, .ref a_this_image, .ref a_this_was, .int v_hasImage, .ref a_this_letters, .ref a_this_row, .ref a_this_refused, .int v_letterMany, .int v_rowMany, .int v_place, .ref a_this_numbers, .ref a_this_least, .ref a_this_stepsFrom, .ref a_this_most, .ref a_this_next, .ref a_this_otherSteps, .ref a_this_ahead, .ref a_this_now, .int v_seed])), (a_this_s, .inl (cI, 39, .inl g_s))] sz) (zQi (dC, dI) vwCl [(cI, .int), (cZ, .boolean)] r0 [(a_this, .inr (8, [.ref a_this_s, .ref a_this_image, .ref a_this_was, .int v_hasImage, .ref a_this_letters, .ref a_this_row, .ref a_this_refused, .int v_letterMany, .int v_rowMany, .int v_place, .ref a_this_numbers, .ref a_this_least, .ref a_this_stepsFrom, .ref a_this_most, .ref a_this_next, .ref a_this_otherSteps, .ref a_this_ahead, .ref a_this_now, .int v_seed])), (a_this_s, .inl (cI, 39, .inl g_s))] (va_A [(a_this, .inr (8, [.ref a_this_s, .ref a_this_image, .ref a_this_was, .int v_hasImage, .ref a_this_letters, .ref a_this_row, .ref a_this_refused, .int v_letterMany, .int v_rowMany, .int v_place, .ref a_this_numbers, .ref a_this_least, .ref a_this_stepsFrom, .ref a_this_most, .ref a_this_next, .ref a_this_otherSteps, .ref a_this_ahead, .ref a_this_now, .int v_seed])), (a_this_s, .inl (cI, 39, .inl g_s))] sz)) 0 0 (va_A [(a_this, .inr (8, [.ref a_this_s, .ref a_this_image, .ref a_this_was, .int v_hasImage, .ref a_this_letters, .ref a_this_row, .ref a_this_refused, .int v_letterMany, .int v_rowMany, .int v_place, .ref a_this_numbers, .ref a_this_least, .ref a_this_stepsFrom, .ref a_this_most, .ref a_this_next, .ref a_this_otherSteps, .ref a_this_ahead, .ref a_this_now, .int v_seed])), (a_this_s, .inl (cI, 39, .inl g_s))] sz) := by
  refine Met.ofW (cc := cX8_wordsOn) (maxL := 2) (ret := (some .int)) (by decide) rfl ?_
  intro p e s m args below meth c s₁ B hml hv
  obtain ⟨rfl, hsz, hP, hK, hD0, hZ⟩ := hv
  have hx := B.exec
  have hb := B.bytes
  have hr := B.returns
  have hts := atoms_spec (ws := wsX8_wordsOn) B.pre
  have hown : s.vm.findClass RX8 = some m.cls := findClass_of_methodNamed B.named
  have hlocks := B.notSynchronized
  subst hsz
  have hD := hD0.self (sz := s.heap.size)
  generalize hAe : va_A [(a_this, .inr (8, [.ref a_this_s, .ref a_this_image, .ref a_this_was, .int v_hasImage, .ref a_this_letters, .ref a_this_row, .ref a_this_refused, .int v_letterMany, .int v_rowMany, .int v_place, .ref a_this_numbers, .ref a_this_least, .ref a_this_stepsFrom, .ref a_this_most, .ref a_this_next, .ref a_this_otherSteps, .ref a_this_ahead, .ref a_this_now, .int v_seed])), (a_this_s, .inl (cI, 39, .inl g_s))] s.heap.size = A at hD hZ ⊢
  have hA : ∀ q : Nat, s.heap.size ≤ q → A q := fun q h => by rw [← hAe]; exact Or.inr h
  have hS : va_S A s.heap s.heap [] := va_S.rf
  have hP : va_P (dC, dI) vwCl [(a_this, .inr (8, [.ref a_this_s, .ref a_this_image, .ref a_this_was, .int v_hasImage, .ref a_this_letters, .ref a_this_row, .ref a_this_refused, .int v_letterMany, .int v_rowMany, .int v_place, .ref a_this_numbers, .ref a_this_least, .ref a_this_stepsFrom, .ref a_this_most, .ref a_this_next, .ref a_this_otherSteps, .ref a_this_ahead, .ref a_this_now, .int v_seed])), (a_this_s, .inl (cI, 39, .inl g_s))] s.heap := hP
  have hl := lv_entry ([.ref a_this, .int p1]) (n := 2) (Nat.le_of_ble_eq_true rfl)
  rw [lg_entry_eq]
  generalize (lg_sl ([.ref a_this, .int p1]) ++ List.replicate (2 - (lg_sl ([.ref a_this, .int p1])).length) Slot.unset).toArray = ls at hl ⊢
  have hl : lv_has ls 2 [(0, .ref a_this), (1, .int p1)] := hl
  have he := hf
  unfold f_M_wordsOn at he
  refine lv_aload_n hx hb dX8_wordsOn_0 rfl (lv_at hl 0 rfl) ?_
  refine va_get (D := (dC, dI)) (ci := 8) (v := .ref a_this_s) (C := RX8) (T := TX8) (N := 19) hx hb hts (by decide +kernel) hown hK hP 0 rfl rfl 0 (by decide) (hts (.fieldLink RX8 9 "LawOfCornersModel" "s" "[I") (by decide +kernel)) (fun _ h9 => h9) rfl dX8_wordsOn_1 ?_
  refine lv_iload_n hx hb dX8_wordsOn_4 rfl (lv_at hl 1 rfl) ?_
  obtain ⟨hg1, he⟩ := zg_e he
  refine va_iald hx hb hK hP 1 0 rfl rfl hg1 dX8_wordsOn_5 ?_
  refine lv_iconst (v := (5 : Int32)) hx hb dX8_wordsOn_6 (by decide) ?_
  refine lv_icmp_ne (tgt := 14) hx hb dX8_wordsOn_7 (by decide) (fun c2 => ?_) (fun c2 => ?_)
  · have he := zif_f c2 he
    refine lv_aload_n hx hb dX8_wordsOn_14 rfl (lv_at hl 0 rfl) ?_
    refine va_get (D := (dC, dI)) (ci := 8) (v := .ref a_this_s) (C := RX8) (T := TX8) (N := 19) hx hb hts (by decide +kernel) hown hK hP 0 rfl rfl 0 (by decide) (hts (.fieldLink RX8 9 "LawOfCornersModel" "s" "[I") (by decide +kernel)) (fun _ h9 => h9) rfl dX8_wordsOn_15 ?_
    refine lv_iload_n hx hb dX8_wordsOn_18 rfl (lv_at hl 1 rfl) ?_
    obtain ⟨hg3, he⟩ := zg_e he
    refine va_iald hx hb hK hP 1 0 rfl rfl hg3 dX8_wordsOn_19 ?_
    refine lv_if_eq (tgt := 33) hx hb dX8_wordsOn_20 (by decide) (fun c4 => ?_) (fun c4 => ?_)
    · have he := zif_t c4 he
      refine lv_iconst (v := (1 : Int32)) hx hb dX8_wordsOn_33 (by decide) ?_
      refine lv_goto (tgt := 38) hx hb dX8_wordsOn_34 (by decide) ?_
      obtain ⟨rfl⟩ := zi1 he
      exact W.iret hx hb hr (fun t ht hW => ⟨⟨_, (), rfl, rfl, by rw [ht]; exact hP, va_K.moved hW.alike hK, hD⟩, hS.F ht⟩) hS.2.2 dX8_wordsOn_38
    · have he := zif_f c4 he
      refine lv_aload_n hx hb dX8_wordsOn_23 rfl (lv_at hl 0 rfl) ?_
      refine va_get (D := (dC, dI)) (ci := 8) (v := .ref a_this_s) (C := RX8) (T := TX8) (N := 19) hx hb hts (by decide +kernel) hown hK hP 0 rfl rfl 0 (by decide) (hts (.fieldLink RX8 9 "LawOfCornersModel" "s" "[I") (by decide +kernel)) (fun _ h9 => h9) rfl dX8_wordsOn_24 ?_
      refine lv_iload_n hx hb dX8_wordsOn_27 rfl (lv_at hl 1 rfl) ?_
      obtain ⟨hg5, he⟩ := zg_e he
      refine va_iald hx hb hK hP 1 0 rfl rfl hg5 dX8_wordsOn_28 ?_
      refine lv_iconst (v := (2 : Int32)) hx hb dX8_wordsOn_29 (by decide) ?_
      refine lv_icmp_ne (tgt := 37) hx hb dX8_wordsOn_30 (by decide) (fun c6 => ?_) (fun c6 => ?_)
      · have he := zif_f c6 he
        refine lv_iconst (v := (0 : Int32)) hx hb dX8_wordsOn_37 (by decide) ?_
        obtain ⟨rfl⟩ := zi1 he
        exact W.iret hx hb hr (fun t ht hW => ⟨⟨_, (), rfl, rfl, by rw [ht]; exact hP, va_K.moved hW.alike hK, hD⟩, hS.F ht⟩) hS.2.2 dX8_wordsOn_38
      · have he := zif_t c6 he
        refine lv_iconst (v := (1 : Int32)) hx hb dX8_wordsOn_33 (by decide) ?_
        refine lv_goto (tgt := 38) hx hb dX8_wordsOn_34 (by decide) ?_
        obtain ⟨rfl⟩ := zi1 he
        exact W.iret hx hb hr (fun t ht hW => ⟨⟨_, (), rfl, rfl, by rw [ht]; exact hP, va_K.moved hW.alike hK, hD⟩, hS.F ht⟩) hS.2.2 dX8_wordsOn_38
  · have he := zif_t c2 he
    refine lv_iconst (v := (2 : Int32)) hx hb dX8_wordsOn_10 (by decide) ?_
    refine lv_goto (tgt := 38) hx hb dX8_wordsOn_11 (by decide) ?_
    obtain ⟨rfl⟩ := zi1 he
    exact W.iret hx hb hr (fun t ht hW => ⟨⟨_, (), rfl, rfl, by rw [ht]; exact hP, va_K.moved hW.alike hK, hD⟩, hS.F ht⟩) hS.2.2 dX8_wordsOn_38
set_option maxHeartbeats 4000000 in
set_option maxRecDepth 100000 in
theorem k_M_hears (l : Launch) (dC : Nat → ClassId) (dI : Nat → Nat → Nat) (cI : ClassId) (cZ : ClassId) (tt : Nat → Nat) (sd : Nat → Nat) (sz : Nat) (p0 : Int32) (r0 : Int32) (hf : f_M_hears p0 = some (r0)) : Met l yX8_hears wsX8_hears ({ frames := 0, cells := 0, slots := 0, locals := 0 }) (zPre (dC, dI) vwCl [(cI, .int), (cZ, .boolean)] tt sd [.int p0] [] sz) (zQi (dC, dI) vwCl [(cI, .int), (cZ, .boolean)] r0 [] (va_A [] sz)) 0 0 (va_A [] sz) := by
  refine Met.ofW (cc := cX8_hears) (maxL := 1) (ret := (some .int)) (by decide) rfl ?_
  intro p e s m args below meth c s₁ B hml hv
  obtain ⟨rfl, hsz, hP, hK, hD0, hZ⟩ := hv
  have hx := B.exec
  have hb := B.bytes
  have hr := B.returns
  have hts := atoms_spec (ws := wsX8_hears) B.pre
  have hown : s.vm.findClass RX8 = some m.cls := findClass_of_methodNamed B.named
  have hlocks := B.notSynchronized
  subst hsz
  have hD := hD0.self (sz := s.heap.size)
  generalize hAe : va_A [] s.heap.size = A at hD hZ ⊢
  have hA : ∀ q : Nat, s.heap.size ≤ q → A q := fun q h => by rw [← hAe]; exact Or.inr h
  have hS : va_S A s.heap s.heap [] := va_S.rf
  have hP : va_P (dC, dI) vwCl [] s.heap := hP
  have hl := lv_entry ([.int p0]) (n := 1) (Nat.le_of_ble_eq_true rfl)
  rw [lg_entry_eq]
  generalize (lg_sl ([.int p0]) ++ List.replicate (1 - (lg_sl ([.int p0])).length) Slot.unset).toArray = ls at hl ⊢
  have hl : lv_has ls 1 [(0, .int p0)] := hl
  have he := hf
  unfold f_M_hears at he
  refine lv_iload_n hx hb dX8_hears_0 rfl (lv_at hl 0 rfl) ?_
  refine lv_iconst (v := (3 : Int32)) hx hb dX8_hears_1 (by decide) ?_
  refine lv_icmp_ne (tgt := 9) hx hb dX8_hears_2 (by decide) (fun c1 => ?_) (fun c1 => ?_)
  · have he := zif_f c1 he
    refine lv_iload_n hx hb dX8_hears_9 rfl (lv_at hl 0 rfl) ?_
    refine lv_iconst (v := (4 : Int32)) hx hb dX8_hears_10 (by decide) ?_
    refine lv_icmp_ne (tgt := 18) hx hb dX8_hears_11 (by decide) (fun c2 => ?_) (fun c2 => ?_)
    · have he := zif_f c2 he
      refine lv_bipush (v := (-9 : Int32)) hx hb dX8_hears_18 (by decide) ?_
      obtain ⟨rfl⟩ := zi1 he
      exact W.iret hx hb hr (fun t ht hW => ⟨⟨_, (), rfl, rfl, by rw [ht]; exact hP, va_K.moved hW.alike hK, hD⟩, hS.F ht⟩) hS.2.2 dX8_hears_20
    · have he := zif_t c2 he
      refine lv_iconst (v := (2 : Int32)) hx hb dX8_hears_14 (by decide) ?_
      refine lv_goto (tgt := 20) hx hb dX8_hears_15 (by decide) ?_
      obtain ⟨rfl⟩ := zi1 he
      exact W.iret hx hb hr (fun t ht hW => ⟨⟨_, (), rfl, rfl, by rw [ht]; exact hP, va_K.moved hW.alike hK, hD⟩, hS.F ht⟩) hS.2.2 dX8_hears_20
  · have he := zif_t c1 he
    refine lv_iconst (v := (1 : Int32)) hx hb dX8_hears_5 (by decide) ?_
    refine lv_goto (tgt := 20) hx hb dX8_hears_6 (by decide) ?_
    obtain ⟨rfl⟩ := zi1 he
    exact W.iret hx hb hr (fun t ht hW => ⟨⟨_, (), rfl, rfl, by rw [ht]; exact hP, va_K.moved hW.alike hK, hD⟩, hS.F ht⟩) hS.2.2 dX8_hears_20
set_option maxHeartbeats 4000000 in
set_option maxRecDepth 100000 in
theorem k_M_isTurned (l : Launch) (dC : Nat → ClassId) (dI : Nat → Nat → Nat) (cI : ClassId) (cZ : ClassId) (tt : Nat → Nat) (sd : Nat → Nat) (a_this : Nat) (a_this_s : Nat) (a_this_image : Nat) (a_this_was : Nat) (a_this_letters : Nat) (a_this_row : Nat) (a_this_refused : Nat) (a_this_numbers : Nat) (a_this_least : Nat) (a_this_stepsFrom : Nat) (a_this_most : Nat) (a_this_next : Nat) (a_this_otherSteps : Nat) (a_this_ahead : Nat) (a_this_now : Nat) (sz : Nat) (v_hasImage : Int32) (v_letterMany : Int32) (v_rowMany : Int32) (v_place : Int32) (v_seed : Int32) (g_s : Nat → Int32) (p1 : Int32) (r0 : Int32) (hf : f_M_isTurned g_s p1 = some (r0)) : Met l yX8_isTurned wsX8_isTurned ({ frames := 0, cells := 0, slots := 0, locals := 0 }) (zPre (dC, dI) vwCl [(cI, .int), (cZ, .boolean)] tt sd [.ref a_this, .int p1] [(a_this, .inr (8, [.ref a_this_s, .ref a_this_image, .ref a_this_was, .int v_hasImage, .ref a_this_letters, .ref a_this_row, .ref a_this_refused, .int v_letterMany, .int v_rowMany, .int v_place, .ref a_this_numbers, .ref a_this_least, .ref a_this_stepsFrom, .ref a_this_most, .ref a_this_next, .ref a_this_otherSteps, .ref a_this_ahead, .ref a_this_now, .int v_seed])), (a_this_s, .inl (cI, 39, .inl g_s))] sz) (zQi (dC, dI) vwCl [(cI, .int), (cZ, .boolean)] r0 [(a_this, .inr (8, [.ref a_this_s, .ref a_this_image, .ref a_this_was, .int v_hasImage, .ref a_this_letters, .ref a_this_row, .ref a_this_refused, .int v_letterMany, .int v_rowMany, .int v_place, .ref a_this_numbers, .ref a_this_least, .ref a_this_stepsFrom, .ref a_this_most, .ref a_this_next, .ref a_this_otherSteps, .ref a_this_ahead, .ref a_this_now, .int v_seed])), (a_this_s, .inl (cI, 39, .inl g_s))] (va_A [(a_this, .inr (8, [.ref a_this_s, .ref a_this_image, .ref a_this_was, .int v_hasImage, .ref a_this_letters, .ref a_this_row, .ref a_this_refused, .int v_letterMany, .int v_rowMany, .int v_place, .ref a_this_numbers, .ref a_this_least, .ref a_this_stepsFrom, .ref a_this_most, .ref a_this_next, .ref a_this_otherSteps, .ref a_this_ahead, .ref a_this_now, .int v_seed])), (a_this_s, .inl (cI, 39, .inl g_s))] sz)) 0 0 (va_A [(a_this, .inr (8, [.ref a_this_s, .ref a_this_image, .ref a_this_was, .int v_hasImage, .ref a_this_letters, .ref a_this_row, .ref a_this_refused, .int v_letterMany, .int v_rowMany, .int v_place, .ref a_this_numbers, .ref a_this_least, .ref a_this_stepsFrom, .ref a_this_most, .ref a_this_next, .ref a_this_otherSteps, .ref a_this_ahead, .ref a_this_now, .int v_seed])), (a_this_s, .inl (cI, 39, .inl g_s))] sz) := by
  refine Met.ofW (cc := cX8_isTurned) (maxL := 2) (ret := (some .boolean)) (by decide) rfl ?_
  intro p e s m args below meth c s₁ B hml hv
  obtain ⟨rfl, hsz, hP, hK, hD0, hZ⟩ := hv
  have hx := B.exec
  have hb := B.bytes
  have hr := B.returns
  have hts := atoms_spec (ws := wsX8_isTurned) B.pre
  have hown : s.vm.findClass RX8 = some m.cls := findClass_of_methodNamed B.named
  have hlocks := B.notSynchronized
  subst hsz
  have hD := hD0.self (sz := s.heap.size)
  generalize hAe : va_A [(a_this, .inr (8, [.ref a_this_s, .ref a_this_image, .ref a_this_was, .int v_hasImage, .ref a_this_letters, .ref a_this_row, .ref a_this_refused, .int v_letterMany, .int v_rowMany, .int v_place, .ref a_this_numbers, .ref a_this_least, .ref a_this_stepsFrom, .ref a_this_most, .ref a_this_next, .ref a_this_otherSteps, .ref a_this_ahead, .ref a_this_now, .int v_seed])), (a_this_s, .inl (cI, 39, .inl g_s))] s.heap.size = A at hD hZ ⊢
  have hA : ∀ q : Nat, s.heap.size ≤ q → A q := fun q h => by rw [← hAe]; exact Or.inr h
  have hS : va_S A s.heap s.heap [] := va_S.rf
  have hP : va_P (dC, dI) vwCl [(a_this, .inr (8, [.ref a_this_s, .ref a_this_image, .ref a_this_was, .int v_hasImage, .ref a_this_letters, .ref a_this_row, .ref a_this_refused, .int v_letterMany, .int v_rowMany, .int v_place, .ref a_this_numbers, .ref a_this_least, .ref a_this_stepsFrom, .ref a_this_most, .ref a_this_next, .ref a_this_otherSteps, .ref a_this_ahead, .ref a_this_now, .int v_seed])), (a_this_s, .inl (cI, 39, .inl g_s))] s.heap := hP
  have hl := lv_entry ([.ref a_this, .int p1]) (n := 2) (Nat.le_of_ble_eq_true rfl)
  rw [lg_entry_eq]
  generalize (lg_sl ([.ref a_this, .int p1]) ++ List.replicate (2 - (lg_sl ([.ref a_this, .int p1])).length) Slot.unset).toArray = ls at hl ⊢
  have hl : lv_has ls 2 [(0, .ref a_this), (1, .int p1)] := hl
  have he := hf
  unfold f_M_isTurned at he
  refine lv_aload_n hx hb dX8_isTurned_0 rfl (lv_at hl 0 rfl) ?_
  refine va_get (D := (dC, dI)) (ci := 8) (v := .ref a_this_s) (C := RX8) (T := TX8) (N := 19) hx hb hts (by decide +kernel) hown hK hP 0 rfl rfl 0 (by decide) (hts (.fieldLink RX8 9 "LawOfCornersModel" "s" "[I") (by decide +kernel)) (fun _ h9 => h9) rfl dX8_isTurned_1 ?_
  refine lv_iload_n hx hb dX8_isTurned_4 rfl (lv_at hl 1 rfl) ?_
  obtain ⟨hg1, he⟩ := zg_e he
  refine va_iald hx hb hK hP 1 0 rfl rfl hg1 dX8_isTurned_5 ?_
  refine lv_iconst (v := (2 : Int32)) hx hb dX8_isTurned_6 (by decide) ?_
  refine lv_icmp_eq (tgt := 24) hx hb dX8_isTurned_7 (by decide) (fun c2 => ?_) (fun c2 => ?_)
  · have he := zif_t c2 he
    refine lv_iconst (v := (0 : Int32)) hx hb dX8_isTurned_24 (by decide) ?_
    obtain ⟨rfl⟩ := zi1 he
    exact W.zret hx hb hr rfl (fun t ht hW => ⟨⟨_, (), rfl, rfl, by rw [ht]; exact hP, va_K.moved hW.alike hK, hD⟩, hS.F ht⟩) hS.2.2 dX8_isTurned_25
  · have he := zif_f c2 he
    refine lv_aload_n hx hb dX8_isTurned_10 rfl (lv_at hl 0 rfl) ?_
    refine va_get (D := (dC, dI)) (ci := 8) (v := .ref a_this_s) (C := RX8) (T := TX8) (N := 19) hx hb hts (by decide +kernel) hown hK hP 0 rfl rfl 0 (by decide) (hts (.fieldLink RX8 9 "LawOfCornersModel" "s" "[I") (by decide +kernel)) (fun _ h9 => h9) rfl dX8_isTurned_11 ?_
    refine lv_iload_n hx hb dX8_isTurned_14 rfl (lv_at hl 1 rfl) ?_
    obtain ⟨hg3, he⟩ := zg_e he
    refine va_iald hx hb hK hP 1 0 rfl rfl hg3 dX8_isTurned_15 ?_
    refine lv_iconst (v := (5 : Int32)) hx hb dX8_isTurned_16 (by decide) ?_
    refine lv_icmp_eq (tgt := 24) hx hb dX8_isTurned_17 (by decide) (fun c4 => ?_) (fun c4 => ?_)
    · have he := zif_t c4 he
      refine lv_iconst (v := (0 : Int32)) hx hb dX8_isTurned_24 (by decide) ?_
      obtain ⟨rfl⟩ := zi1 he
      exact W.zret hx hb hr rfl (fun t ht hW => ⟨⟨_, (), rfl, rfl, by rw [ht]; exact hP, va_K.moved hW.alike hK, hD⟩, hS.F ht⟩) hS.2.2 dX8_isTurned_25
    · have he := zif_f c4 he
      refine lv_iconst (v := (1 : Int32)) hx hb dX8_isTurned_20 (by decide) ?_
      refine lv_goto (tgt := 25) hx hb dX8_isTurned_21 (by decide) ?_
      obtain ⟨rfl⟩ := zi1 he
      exact W.zret hx hb hr rfl (fun t ht hW => ⟨⟨_, (), rfl, rfl, by rw [ht]; exact hP, va_K.moved hW.alike hK, hD⟩, hS.F ht⟩) hS.2.2 dX8_isTurned_25
set_option maxHeartbeats 4000000 in
set_option maxRecDepth 100000 in
theorem k_M_apart (l : Launch) (dC : Nat → ClassId) (dI : Nat → Nat → Nat) (cI : ClassId) (cZ : ClassId) (tt : Nat → Nat) (sd : Nat → Nat) (sz : Nat) (p0 : Int32) (p1 : Int32) (r0 : Int32) (hf : f_M_apart p0 p1 = some (r0)) : Met l yX8_apart wsX8_apart ({ frames := 1, cells := 0, slots := 0, locals := 20 }) (zPre (dC, dI) vwCl [(cI, .int), (cZ, .boolean)] tt sd [.int p0, .int p1] [] sz) (zQi (dC, dI) vwCl [(cI, .int), (cZ, .boolean)] r0 [] (va_A [] sz)) 0 0 (va_A [] sz) := by
  refine Met.ofW (cc := cX8_apart) (maxL := 2) (ret := (some .int)) (by decide) rfl ?_
  intro p e s m args below meth c s₁ B hml hv
  obtain ⟨rfl, hsz, hP, hK, hD0, hZ⟩ := hv
  have hx := B.exec
  have hb := B.bytes
  have hr := B.returns
  have hts := atoms_spec (ws := wsX8_apart) B.pre
  have hown : s.vm.findClass RX8 = some m.cls := findClass_of_methodNamed B.named
  have hlocks := B.notSynchronized
  subst hsz
  have hD := hD0.self (sz := s.heap.size)
  generalize hAe : va_A [] s.heap.size = A at hD hZ ⊢
  have hA : ∀ q : Nat, s.heap.size ≤ q → A q := fun q h => by rw [← hAe]; exact Or.inr h
  have hS : va_S A s.heap s.heap [] := va_S.rf
  have hP : va_P (dC, dI) vwCl [] s.heap := hP
  have hl := lv_entry ([.int p0, .int p1]) (n := 2) (Nat.le_of_ble_eq_true rfl)
  rw [lg_entry_eq]
  generalize (lg_sl ([.int p0, .int p1]) ++ List.replicate (2 - (lg_sl ([.int p0, .int p1])).length) Slot.unset).toArray = ls at hl ⊢
  have hl : lv_has ls 2 [(0, .int p0), (1, .int p1)] := hl
  have he := hf
  unfold f_M_apart at he
  refine lv_iload_n hx hb dX8_apart_0 rfl (lv_at hl 0 rfl) ?_
  refine lv_bipush (v := (6 : Int32)) hx hb dX8_apart_1 (by decide) ?_
  refine lv_idiv hx hb dX8_apart_3 (by decide) ?_
  refine lv_iload_n hx hb dX8_apart_4 rfl (lv_at hl 1 rfl) ?_
  refine lv_bipush (v := (6 : Int32)) hx hb dX8_apart_5 (by decide) ?_
  refine lv_idiv hx hb dX8_apart_7 (by decide) ?_
  refine lv_isub hx hb dX8_apart_8 ?_
  obtain ⟨r1, hf2, he⟩ := zb1_e he
  refine zc_i (wr := []) (ws' := []) (va_runS (As := [.int ((p0 / (6 : Int32)) - (p1 / (6 : Int32)))]) (rest := []) ⟨hx, hb, hml, hown, hts⟩ (k_M_size l dC dI cI cZ tt sd s.heap.size ((p0 / (6 : Int32)) - (p1 / (6 : Int32))) r1 hf2) (va_cwS 1 hts gX8_apart_X8_size rfl rfl rfl (by decide +kernel) ⟨Nat.le_of_ble_eq_true rfl, Nat.le_of_ble_eq_true rfl⟩) (zpS hP hD hK hS hA hZ [] rfl rfl) rfl rfl hl.1 rfl (lv_room (Nat.le_of_ble_eq_true rfl)) dX8_apart_9 ⟨Nat.zero_le _, Nat.zero_le _⟩) hP hD hS hA [] [] [] rfl rfl rfl (by decide) rfl rfl rfl (fun H locs hP hD hS => ?_)
  refine lv_iload_n hx hb dX8_apart_12 rfl (lv_at hl 0 rfl) ?_
  refine lv_bipush (v := (6 : Int32)) hx hb dX8_apart_13 (by decide) ?_
  refine lv_irem hx hb dX8_apart_15 (by decide) ?_
  refine lv_iload_n hx hb dX8_apart_16 rfl (lv_at hl 1 rfl) ?_
  refine lv_bipush (v := (6 : Int32)) hx hb dX8_apart_17 (by decide) ?_
  refine lv_irem hx hb dX8_apart_19 (by decide) ?_
  refine lv_isub hx hb dX8_apart_20 ?_
  obtain ⟨r3, hf4, he⟩ := zb1_e he
  refine zc_i (wr := []) (ws' := []) (va_runS (As := [.int ((zrem p0 (6 : Int32)) - (zrem p1 (6 : Int32)))]) (rest := [.int r1]) ⟨hx, hb, hml, hown, hts⟩ (k_M_size l dC dI cI cZ tt sd H.size ((zrem p0 (6 : Int32)) - (zrem p1 (6 : Int32))) r3 hf4) (va_cwS 1 hts gX8_apart_X8_size rfl rfl rfl (by decide +kernel) ⟨Nat.le_of_ble_eq_true rfl, Nat.le_of_ble_eq_true rfl⟩) (zpS hP hD hK hS hA hZ [] rfl rfl) rfl rfl hl.1 rfl (lv_room (Nat.le_of_ble_eq_true rfl)) dX8_apart_21 ⟨Nat.zero_le _, Nat.zero_le _⟩) hP hD hS hA [] [] [] rfl rfl rfl (by decide) rfl rfl rfl (fun H locs hP hD hS => ?_)
  refine lv_iadd hx hb dX8_apart_24 ?_
  obtain ⟨rfl⟩ := zi1 he
  exact W.iret hx hb hr (fun t ht hW => ⟨⟨_, (), rfl, rfl, by rw [ht]; exact hP, va_K.moved hW.alike hK, hD⟩, hS.F ht⟩) hS.2.2 dX8_apart_25
set_option maxHeartbeats 4000000 in
set_option maxRecDepth 100000 in
theorem k_M_heardBy (l : Launch) (dC : Nat → ClassId) (dI : Nat → Nat → Nat) (cI : ClassId) (cZ : ClassId) (tt : Nat → Nat) (sd : Nat → Nat) (a_this : Nat) (a_this_s : Nat) (a_this_image : Nat) (a_this_was : Nat) (a_this_letters : Nat) (a_this_row : Nat) (a_this_refused : Nat) (a_this_numbers : Nat) (a_this_least : Nat) (a_this_stepsFrom : Nat) (a_this_most : Nat) (a_this_next : Nat) (a_this_otherSteps : Nat) (a_this_ahead : Nat) (a_this_now : Nat) (sz : Nat) (v_hasImage : Int32) (v_letterMany : Int32) (v_rowMany : Int32) (v_place : Int32) (v_seed : Int32) (g_s : Nat → Int32) (p1 : Int32) (r0 : Int32) (hf : f_M_heardBy g_s p1 = some (r0)) : Met l yX8_heardBy wsX8_heardBy ({ frames := 2, cells := 0, slots := 0, locals := 41 }) (zPre (dC, dI) vwCl [(cI, .int), (cZ, .boolean)] tt sd [.ref a_this, .int p1] [(a_this, .inr (8, [.ref a_this_s, .ref a_this_image, .ref a_this_was, .int v_hasImage, .ref a_this_letters, .ref a_this_row, .ref a_this_refused, .int v_letterMany, .int v_rowMany, .int v_place, .ref a_this_numbers, .ref a_this_least, .ref a_this_stepsFrom, .ref a_this_most, .ref a_this_next, .ref a_this_otherSteps, .ref a_this_ahead, .ref a_this_now, .int v_seed])), (a_this_s, .inl (cI, 39, .inl g_s))] sz) (zQi (dC, dI) vwCl [(cI, .int), (cZ, .boolean)] r0 [(a_this, .inr (8, [.ref a_this_s, .ref a_this_image, .ref a_this_was, .int v_hasImage, .ref a_this_letters, .ref a_this_row, .ref a_this_refused, .int v_letterMany, .int v_rowMany, .int v_place, .ref a_this_numbers, .ref a_this_least, .ref a_this_stepsFrom, .ref a_this_most, .ref a_this_next, .ref a_this_otherSteps, .ref a_this_ahead, .ref a_this_now, .int v_seed])), (a_this_s, .inl (cI, 39, .inl g_s))] (va_A [(a_this, .inr (8, [.ref a_this_s, .ref a_this_image, .ref a_this_was, .int v_hasImage, .ref a_this_letters, .ref a_this_row, .ref a_this_refused, .int v_letterMany, .int v_rowMany, .int v_place, .ref a_this_numbers, .ref a_this_least, .ref a_this_stepsFrom, .ref a_this_most, .ref a_this_next, .ref a_this_otherSteps, .ref a_this_ahead, .ref a_this_now, .int v_seed])), (a_this_s, .inl (cI, 39, .inl g_s))] sz)) 0 0 (va_A [(a_this, .inr (8, [.ref a_this_s, .ref a_this_image, .ref a_this_was, .int v_hasImage, .ref a_this_letters, .ref a_this_row, .ref a_this_refused, .int v_letterMany, .int v_rowMany, .int v_place, .ref a_this_numbers, .ref a_this_least, .ref a_this_stepsFrom, .ref a_this_most, .ref a_this_next, .ref a_this_otherSteps, .ref a_this_ahead, .ref a_this_now, .int v_seed])), (a_this_s, .inl (cI, 39, .inl g_s))] sz) := by
  refine Met.ofW (cc := cX8_heardBy) (maxL := 4) (ret := (some .int)) (by decide) rfl ?_
  intro p e s m args below meth c s₁ B hml hv
  obtain ⟨rfl, hsz, hP, hK, hD0, hZ⟩ := hv
  have hx := B.exec
  have hb := B.bytes
  have hr := B.returns
  have hts := atoms_spec (ws := wsX8_heardBy) B.pre
  have hown : s.vm.findClass RX8 = some m.cls := findClass_of_methodNamed B.named
  have hlocks := B.notSynchronized
  subst hsz
  have hD := hD0.self (sz := s.heap.size)
  generalize hAe : va_A [(a_this, .inr (8, [.ref a_this_s, .ref a_this_image, .ref a_this_was, .int v_hasImage, .ref a_this_letters, .ref a_this_row, .ref a_this_refused, .int v_letterMany, .int v_rowMany, .int v_place, .ref a_this_numbers, .ref a_this_least, .ref a_this_stepsFrom, .ref a_this_most, .ref a_this_next, .ref a_this_otherSteps, .ref a_this_ahead, .ref a_this_now, .int v_seed])), (a_this_s, .inl (cI, 39, .inl g_s))] s.heap.size = A at hD hZ ⊢
  have hA : ∀ q : Nat, s.heap.size ≤ q → A q := fun q h => by rw [← hAe]; exact Or.inr h
  have hS : va_S A s.heap s.heap [] := va_S.rf
  have hP : va_P (dC, dI) vwCl [(a_this, .inr (8, [.ref a_this_s, .ref a_this_image, .ref a_this_was, .int v_hasImage, .ref a_this_letters, .ref a_this_row, .ref a_this_refused, .int v_letterMany, .int v_rowMany, .int v_place, .ref a_this_numbers, .ref a_this_least, .ref a_this_stepsFrom, .ref a_this_most, .ref a_this_next, .ref a_this_otherSteps, .ref a_this_ahead, .ref a_this_now, .int v_seed])), (a_this_s, .inl (cI, 39, .inl g_s))] s.heap := hP
  have hl := lv_entry ([.ref a_this, .int p1]) (n := 4) (Nat.le_of_ble_eq_true rfl)
  rw [lg_entry_eq]
  generalize (lg_sl ([.ref a_this, .int p1]) ++ List.replicate (4 - (lg_sl ([.ref a_this, .int p1])).length) Slot.unset).toArray = ls at hl ⊢
  have hl : lv_has ls 4 [(0, .ref a_this), (1, .int p1)] := hl
  have he := hf
  unfold f_M_heardBy at he
  refine zstart (D := (dC, dI)) (cl := vwCl) (A := A) (nL := 4) (fun WW hWW => ?_)
  refine lv_iconst (v := (0 : Int32)) hx hb dX8_heardBy_0 (by decide) ?_
  refine lv_istore_n (lv' := [(2, .int (0 : Int32)), (0, .ref a_this), (1, .int p1)]) hx hb dX8_heardBy_1 rfl hl (by decide) rfl (fun ls hl => ?_)
  refine lv_iconst (v := (0 : Int32)) hx hb dX8_heardBy_2 (by decide) ?_
  refine lv_istore_n (lv' := [(3, .int (0 : Int32)), (2, .int (0 : Int32)), (0, .ref a_this), (1, .int p1)]) hx hb dX8_heardBy_3 rfl hl (by decide) rfl (fun ls hl => ?_)
  refine (hWW _ _ _ _).mp (zl2_w he (fun (l2_1 : Int32) (l3_2 : Int32) => WW [(a_this, .inr (8, [.ref a_this_s, .ref a_this_image, .ref a_this_was, .int v_hasImage, .ref a_this_letters, .ref a_this_row, .ref a_this_refused, .int v_letterMany, .int v_rowMany, .int v_place, .ref a_this_numbers, .ref a_this_least, .ref a_this_stepsFrom, .ref a_this_most, .ref a_this_next, .ref a_this_otherSteps, .ref a_this_ahead, .ref a_this_now, .int v_seed])), (a_this_s, .inl (cI, 39, .inl g_s))] [(0, .ref a_this), (1, .int p1), (2, .int l2_1), (3, .int l3_2)] 4 []) (fun l2_1 l3_2 again3 hagain3 he => (hWW _ _ _ _).mpr (fun H locs ls hP hD hS hl => ?_))) _ _ _ hP hD hS (lv_sub hl [2, 3, 1, 0] rfl)
  refine lv_iload_n hx hb dX8_heardBy_4 rfl (lv_at hl 3 rfl) ?_
  refine lv_bipush (v := (36 : Int32)) hx hb dX8_heardBy_5 (by decide) ?_
  refine lv_icmp_ge (tgt := 41) hx hb dX8_heardBy_7 (by decide) (fun c4 => ?_) (fun c4 => ?_)
  · have he := zif_t c4 he
    refine lv_iload_n hx hb dX8_heardBy_41 rfl (lv_at hl 2 rfl) ?_
    obtain ⟨rfl⟩ := zi1 he
    exact W.iret hx hb hr (fun t ht hW => ⟨⟨_, (), rfl, rfl, by rw [ht]; exact hP, va_K.moved hW.alike hK, hD⟩, hS.F ht⟩) hS.2.2 dX8_heardBy_42
  · have he := zif_f c4 he
    refine lv_iload_n hx hb dX8_heardBy_10 rfl (lv_at hl 2 rfl) ?_
    refine lv_aload_n hx hb dX8_heardBy_11 rfl (lv_at hl 0 rfl) ?_
    refine va_get (D := (dC, dI)) (ci := 8) (v := .ref a_this_s) (C := RX8) (T := TX8) (N := 19) hx hb hts (by decide +kernel) hown hK hP 0 rfl rfl 0 (by decide) (hts (.fieldLink RX8 9 "LawOfCornersModel" "s" "[I") (by decide +kernel)) (fun _ h9 => h9) rfl dX8_heardBy_12 ?_
    refine lv_iload_n hx hb dX8_heardBy_15 rfl (lv_at hl 3 rfl) ?_
    obtain ⟨hg5, he⟩ := zg_e he
    refine va_iald hx hb hK hP 1 0 rfl rfl hg5 dX8_heardBy_16 ?_
    obtain ⟨r6, hf7, he⟩ := zb1_e he
    refine zc_i (wr := [(a_this, .inr (8, [.ref a_this_s, .ref a_this_image, .ref a_this_was, .int v_hasImage, .ref a_this_letters, .ref a_this_row, .ref a_this_refused, .int v_letterMany, .int v_rowMany, .int v_place, .ref a_this_numbers, .ref a_this_least, .ref a_this_stepsFrom, .ref a_this_most, .ref a_this_next, .ref a_this_otherSteps, .ref a_this_ahead, .ref a_this_now, .int v_seed])), (a_this_s, .inl (cI, 39, .inl g_s))]) (ws' := [(a_this, .inr (8, [.ref a_this_s, .ref a_this_image, .ref a_this_was, .int v_hasImage, .ref a_this_letters, .ref a_this_row, .ref a_this_refused, .int v_letterMany, .int v_rowMany, .int v_place, .ref a_this_numbers, .ref a_this_least, .ref a_this_stepsFrom, .ref a_this_most, .ref a_this_next, .ref a_this_otherSteps, .ref a_this_ahead, .ref a_this_now, .int v_seed])), (a_this_s, .inl (cI, 39, .inl g_s))]) (va_runS (As := [.int (g_s l3_2.toNatClampNeg)]) (rest := [.int l2_1]) ⟨hx, hb, hml, hown, hts⟩ (k_M_hears l dC dI cI cZ tt sd H.size (g_s l3_2.toNatClampNeg) r6 hf7) (va_cwS 1 hts gX8_heardBy_X8_hears rfl rfl rfl (by decide +kernel) ⟨Nat.le_of_ble_eq_true rfl, Nat.le_of_ble_eq_true rfl⟩) (zpS hP hD hK hS hA hZ [] rfl rfl) rfl rfl hl.1 rfl (lv_room (Nat.le_of_ble_eq_true rfl)) dX8_heardBy_17 ⟨Nat.zero_le _, Nat.zero_le _⟩) hP hD hS hA [] [0, 1] [0, 1] rfl rfl rfl (by decide) rfl rfl rfl (fun H locs hP hD hS => ?_)
    refine lv_iload_n hx hb dX8_heardBy_20 rfl (lv_at hl 3 rfl) ?_
    refine lv_iload_n hx hb dX8_heardBy_21 rfl (lv_at hl 1 rfl) ?_
    obtain ⟨r8, hf9, he⟩ := zb1_e he
    refine zc_i (wr := [(a_this, .inr (8, [.ref a_this_s, .ref a_this_image, .ref a_this_was, .int v_hasImage, .ref a_this_letters, .ref a_this_row, .ref a_this_refused, .int v_letterMany, .int v_rowMany, .int v_place, .ref a_this_numbers, .ref a_this_least, .ref a_this_stepsFrom, .ref a_this_most, .ref a_this_next, .ref a_this_otherSteps, .ref a_this_ahead, .ref a_this_now, .int v_seed])), (a_this_s, .inl (cI, 39, .inl g_s))]) (ws' := [(a_this, .inr (8, [.ref a_this_s, .ref a_this_image, .ref a_this_was, .int v_hasImage, .ref a_this_letters, .ref a_this_row, .ref a_this_refused, .int v_letterMany, .int v_rowMany, .int v_place, .ref a_this_numbers, .ref a_this_least, .ref a_this_stepsFrom, .ref a_this_most, .ref a_this_next, .ref a_this_otherSteps, .ref a_this_ahead, .ref a_this_now, .int v_seed])), (a_this_s, .inl (cI, 39, .inl g_s))]) (va_runS (As := [.int l3_2, .int p1]) (rest := [.int r6, .int l2_1]) ⟨hx, hb, hml, hown, hts⟩ (k_M_apart l dC dI cI cZ tt sd H.size l3_2 p1 r8 hf9) (va_cwS 2 hts gX8_heardBy_X8_apart rfl rfl rfl (by decide +kernel) ⟨Nat.le_of_ble_eq_true rfl, Nat.le_of_ble_eq_true rfl⟩) (zpS hP hD hK hS hA hZ [] rfl rfl) rfl rfl hl.1 rfl (lv_room (Nat.le_of_ble_eq_true rfl)) dX8_heardBy_22 ⟨Nat.zero_le _, Nat.zero_le _⟩) hP hD hS hA [] [0, 1] [0, 1] rfl rfl rfl (by decide) rfl rfl rfl (fun H locs hP hD hS => ?_)
    refine zj1_w he (fun (s10 : Int32) => WW [(a_this, .inr (8, [.ref a_this_s, .ref a_this_image, .ref a_this_was, .int v_hasImage, .ref a_this_letters, .ref a_this_row, .ref a_this_refused, .int v_letterMany, .int v_rowMany, .int v_place, .ref a_this_numbers, .ref a_this_least, .ref a_this_stepsFrom, .ref a_this_most, .ref a_this_next, .ref a_this_otherSteps, .ref a_this_ahead, .ref a_this_now, .int v_seed])), (a_this_s, .inl (cI, 39, .inl g_s))] [(0, .ref a_this), (1, .int p1), (3, .int l3_2)] 33 [.int s10, .int l2_1]) (fun s10 he => (hWW _ _ _ _).mpr (fun H locs ls hP hD hS hl => ?_)) (fun k13 hk13 he => ?_)
    · refine lv_iadd hx hb dX8_heardBy_33 ?_
      refine lv_topi (fun x11 ex11 => ?_)
      have he := zn_e ex11 he
      refine lv_istore_n (lv' := [(2, .int x11), (0, .ref a_this), (1, .int p1), (3, .int l3_2)]) hx hb dX8_heardBy_34 rfl hl (by decide) rfl (fun ls hl => ?_)
      obtain ⟨x12, ex12⟩ : ∃ y : Int32, y = l3_2 + (1 : Int32) := ⟨_, rfl⟩
      have he := zn_e ex12 he
      refine lv_iinc (v := x12) (lv' := [(3, .int x12), (2, .int x11), (0, .ref a_this), (1, .int p1)]) hx hb dX8_heardBy_35 hl (k := 3) rfl (by rw [ex12]; rfl) (by decide) rfl (fun ls hl => ?_)
      refine lv_goto (tgt := 4) hx hb dX8_heardBy_38 (by decide) ?_
      exact (hWW _ _ _ _).mp (hagain3 x11 x12 he) _ _ _ hP hD hS (lv_sub hl [2, 3, 1, 0] rfl)
    refine lv_icmp_lt (tgt := 32) hx hb dX8_heardBy_25 (by decide) (fun c14 => ?_) (fun c14 => ?_)
    · have he := zif_t c14 he
      refine lv_iconst (v := (0 : Int32)) hx hb dX8_heardBy_32 (by decide) ?_
      exact (hWW _ _ _ _).mp (hk13 (0 : Int32) he) _ _ _ hP hD hS (lv_sub hl [0, 1, 3] rfl)
    · have he := zif_f c14 he
      refine lv_iconst (v := (1 : Int32)) hx hb dX8_heardBy_28 (by decide) ?_
      refine lv_goto (tgt := 33) hx hb dX8_heardBy_29 (by decide) ?_
      exact (hWW _ _ _ _).mp (hk13 (1 : Int32) he) _ _ _ hP hD hS (lv_sub hl [0, 1, 3] rfl)
