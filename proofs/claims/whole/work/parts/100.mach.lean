set_option maxHeartbeats 4000000 in
set_option maxRecDepth 100000 in
theorem k_Numbers_at (l : Launch) (dC : Nat → ClassId) (dI : Nat → Nat → Nat) (cI : ClassId) (cZ : ClassId) (tt : Nat → Nat) (sd : Nat → Nat) (a_this : Nat) (a_this_all : Nat) (sz : Nat) (n : Nat) (g_all : Nat → Int32) (p1 : Int32) (r0 : Int32) (hf : f_Numbers_at n g_all p1 = some (r0)) : Met l yX1_at wsX1_at ({ frames := 0, cells := 0, slots := 0, locals := 0 }) (zPre (dC, dI) vwCl [(cI, .int), (cZ, .boolean)] tt sd [.ref a_this, .int p1] [(a_this, .inr (1, [.ref a_this_all])), (a_this_all, .inl (cI, n, .inl g_all))] sz) (zQi (dC, dI) vwCl [(cI, .int), (cZ, .boolean)] r0 [(a_this, .inr (1, [.ref a_this_all])), (a_this_all, .inl (cI, n, .inl g_all))] (va_A [(a_this, .inr (1, [.ref a_this_all])), (a_this_all, .inl (cI, n, .inl g_all))] sz)) 0 0 (va_A [(a_this, .inr (1, [.ref a_this_all])), (a_this_all, .inl (cI, n, .inl g_all))] sz) := by
  refine Met.ofW (cc := cX1_at) (maxL := 2) (ret := (some .int)) (by decide) rfl ?_
  intro p e s m args below meth c s₁ B hml hv
  obtain ⟨rfl, hsz, hP, hK, hD0, hZ⟩ := hv
  have hx := B.exec
  have hb := B.bytes
  have hr := B.returns
  have hts := atoms_spec (ws := wsX1_at) B.pre
  have hown : s.vm.findClass RX1 = some m.cls := findClass_of_methodNamed B.named
  have hlocks := B.notSynchronized
  subst hsz
  have hD := hD0.self (sz := s.heap.size)
  generalize hAe : va_A [(a_this, .inr (1, [.ref a_this_all])), (a_this_all, .inl (cI, n, .inl g_all))] s.heap.size = A at hD hZ ⊢
  have hA : ∀ q : Nat, s.heap.size ≤ q → A q := fun q h => by rw [← hAe]; exact Or.inr h
  have hS : va_S A s.heap s.heap [] := va_S.rf
  have hP : va_P (dC, dI) vwCl [(a_this, .inr (1, [.ref a_this_all])), (a_this_all, .inl (cI, n, .inl g_all))] s.heap := hP
  have hl := lv_entry ([.ref a_this, .int p1]) (n := 2) (Nat.le_of_ble_eq_true rfl)
  rw [lg_entry_eq]
  generalize (lg_sl ([.ref a_this, .int p1]) ++ List.replicate (2 - (lg_sl ([.ref a_this, .int p1])).length) Slot.unset).toArray = ls at hl ⊢
  have hl : lv_has ls 2 [(0, .ref a_this), (1, .int p1)] := hl
  have he := hf
  unfold f_Numbers_at at he
  refine lv_iload_n hx hb dX1_at_0 rfl (lv_at hl 1 rfl) ?_
  refine lv_if_lt (tgt := 22) hx hb dX1_at_1 (by decide) (fun c1 => ?_) (fun c1 => ?_)
  · have he := zif_t c1 he
    refine lv_iconst (v := (0 : Int32)) hx hb dX1_at_22 (by decide) ?_
    obtain ⟨rfl⟩ := zi1 he
    exact W.iret hx hb hr (fun t ht hW => ⟨⟨_, (), rfl, rfl, by rw [ht]; exact hP, va_K.moved hW.alike hK, hD⟩, hS.F ht⟩) hS.2.2 dX1_at_23
  · have he := zif_f c1 he
    refine lv_iload_n hx hb dX1_at_4 rfl (lv_at hl 1 rfl) ?_
    refine lv_aload_n hx hb dX1_at_5 rfl (lv_at hl 0 rfl) ?_
    refine va_get (D := (dC, dI)) (ci := 1) (v := .ref a_this_all) (C := RX1) (T := TX1) (N := 1) hx hb hts (by decide +kernel) hown hK hP 0 rfl rfl 0 (by decide) (hts (.fieldLink RX1 13 "LawOfCorners$Numbers" "all" "[I") (by decide +kernel)) (fun _ h9 => h9) rfl dX1_at_6 ?_
    refine va_alen hx hb hK hP 1 0 rfl rfl (v := nI n) rfl dX1_at_9 ?_
    refine lv_icmp_ge (tgt := 22) hx hb dX1_at_10 (by decide) (fun c2 => ?_) (fun c2 => ?_)
    · have he := zif_t c2 he
      refine lv_iconst (v := (0 : Int32)) hx hb dX1_at_22 (by decide) ?_
      obtain ⟨rfl⟩ := zi1 he
      exact W.iret hx hb hr (fun t ht hW => ⟨⟨_, (), rfl, rfl, by rw [ht]; exact hP, va_K.moved hW.alike hK, hD⟩, hS.F ht⟩) hS.2.2 dX1_at_23
    · have he := zif_f c2 he
      refine lv_aload_n hx hb dX1_at_13 rfl (lv_at hl 0 rfl) ?_
      refine va_get (D := (dC, dI)) (ci := 1) (v := .ref a_this_all) (C := RX1) (T := TX1) (N := 1) hx hb hts (by decide +kernel) hown hK hP 0 rfl rfl 0 (by decide) (hts (.fieldLink RX1 13 "LawOfCorners$Numbers" "all" "[I") (by decide +kernel)) (fun _ h9 => h9) rfl dX1_at_14 ?_
      refine lv_iload_n hx hb dX1_at_17 rfl (lv_at hl 1 rfl) ?_
      obtain ⟨hg3, he⟩ := zg_e he
      refine va_iald hx hb hK hP 1 0 rfl rfl hg3 dX1_at_18 ?_
      refine lv_goto (tgt := 23) hx hb dX1_at_19 (by decide) ?_
      obtain ⟨rfl⟩ := zi1 he
      exact W.iret hx hb hr (fun t ht hW => ⟨⟨_, (), rfl, rfl, by rw [ht]; exact hP, va_K.moved hW.alike hK, hD⟩, hS.F ht⟩) hS.2.2 dX1_at_23
set_option maxHeartbeats 4000000 in
set_option maxRecDepth 100000 in
theorem k_Numbers_put (l : Launch) (dC : Nat → ClassId) (dI : Nat → Nat → Nat) (cI : ClassId) (cZ : ClassId) (tt : Nat → Nat) (sd : Nat → Nat) (a_this : Nat) (a_this_all : Nat) (sz : Nat) (n : Nat) (g_all : Nat → Int32) (p1 : Int32) (p2 : Int32) (w0 : Nat → Int32) (hf : f_Numbers_put n g_all p1 p2 = some (w0)) : Met l yX1_put wsX1_put ({ frames := 0, cells := 0, slots := 0, locals := 0 }) (zPre (dC, dI) vwCl [(cI, .int), (cZ, .boolean)] tt sd [.ref a_this, .int p1, .int p2] [(a_this, .inr (1, [.ref a_this_all])), (a_this_all, .inl (cI, n, .inl g_all))] sz) (zQv (dC, dI) vwCl [(cI, .int), (cZ, .boolean)] [(a_this, .inr (1, [.ref a_this_all])), (a_this_all, .inl (cI, n, .inl w0))] (va_A [(a_this, .inr (1, [.ref a_this_all])), (a_this_all, .inl (cI, n, .inl g_all))] sz)) 0 0 (va_A [(a_this, .inr (1, [.ref a_this_all])), (a_this_all, .inl (cI, n, .inl g_all))] sz) := by
  refine Met.ofW (cc := cX1_put) (maxL := 3) (ret := none) (by decide) rfl ?_
  intro p e s m args below meth c s₁ B hml hv
  obtain ⟨rfl, hsz, hP, hK, hD0, hZ⟩ := hv
  have hx := B.exec
  have hb := B.bytes
  have hr := B.returns
  have hts := atoms_spec (ws := wsX1_put) B.pre
  have hown : s.vm.findClass RX1 = some m.cls := findClass_of_methodNamed B.named
  have hlocks := B.notSynchronized
  subst hsz
  have hD := hD0.self (sz := s.heap.size)
  generalize hAe : va_A [(a_this, .inr (1, [.ref a_this_all])), (a_this_all, .inl (cI, n, .inl g_all))] s.heap.size = A at hD hZ ⊢
  have hA : ∀ q : Nat, s.heap.size ≤ q → A q := fun q h => by rw [← hAe]; exact Or.inr h
  have hS : va_S A s.heap s.heap [] := va_S.rf
  have hP : va_P (dC, dI) vwCl [(a_this, .inr (1, [.ref a_this_all])), (a_this_all, .inl (cI, n, .inl g_all))] s.heap := hP
  have hl := lv_entry ([.ref a_this, .int p1, .int p2]) (n := 3) (Nat.le_of_ble_eq_true rfl)
  rw [lg_entry_eq]
  generalize (lg_sl ([.ref a_this, .int p1, .int p2]) ++ List.replicate (3 - (lg_sl ([.ref a_this, .int p1, .int p2])).length) Slot.unset).toArray = ls at hl ⊢
  have hl : lv_has ls 3 [(0, .ref a_this), (1, .int p1), (2, .int p2)] := hl
  have he := hf
  unfold f_Numbers_put at he
  refine lv_iload_n hx hb dX1_put_0 rfl (lv_at hl 1 rfl) ?_
  refine lv_if_lt (tgt := 20) hx hb dX1_put_1 (by decide) (fun c1 => ?_) (fun c1 => ?_)
  · have he := zif_t c1 he
    obtain ⟨rfl⟩ := zi1 he
    exact W.vret hx hb hr (fun t ht hW => ⟨⟨(), rfl, trivial, by rw [ht]; exact hP, va_K.moved hW.alike hK, hD⟩, hS.F ht⟩) hS.2.2 dX1_put_20
  · have he := zif_f c1 he
    refine lv_iload_n hx hb dX1_put_4 rfl (lv_at hl 1 rfl) ?_
    refine lv_aload_n hx hb dX1_put_5 rfl (lv_at hl 0 rfl) ?_
    refine va_get (D := (dC, dI)) (ci := 1) (v := .ref a_this_all) (C := RX1) (T := TX1) (N := 1) hx hb hts (by decide +kernel) hown hK hP 0 rfl rfl 0 (by decide) (hts (.fieldLink RX1 13 "LawOfCorners$Numbers" "all" "[I") (by decide +kernel)) (fun _ h9 => h9) rfl dX1_put_6 ?_
    refine va_alen hx hb hK hP 1 0 rfl rfl (v := nI n) rfl dX1_put_9 ?_
    refine lv_icmp_ge (tgt := 20) hx hb dX1_put_10 (by decide) (fun c2 => ?_) (fun c2 => ?_)
    · have he := zif_t c2 he
      obtain ⟨rfl⟩ := zi1 he
      exact W.vret hx hb hr (fun t ht hW => ⟨⟨(), rfl, trivial, by rw [ht]; exact hP, va_K.moved hW.alike hK, hD⟩, hS.F ht⟩) hS.2.2 dX1_put_20
    · have he := zif_f c2 he
      refine lv_aload_n hx hb dX1_put_13 rfl (lv_at hl 0 rfl) ?_
      refine va_get (D := (dC, dI)) (ci := 1) (v := .ref a_this_all) (C := RX1) (T := TX1) (N := 1) hx hb hts (by decide +kernel) hown hK hP 0 rfl rfl 0 (by decide) (hts (.fieldLink RX1 13 "LawOfCorners$Numbers" "all" "[I") (by decide +kernel)) (fun _ h9 => h9) rfl dX1_put_14 ?_
      refine lv_iload_n hx hb dX1_put_17 rfl (lv_at hl 1 rfl) ?_
      refine lv_iload_n hx hb dX1_put_18 rfl (lv_at hl 2 rfl) ?_
      obtain ⟨hg3, he⟩ := zg_e he
      refine va_iast hx hb hK hP hD hS 1 0 rfl rfl hg3 dX1_put_19 (fun H locs hP hD hS => ?_)
      obtain ⟨g4, eg4⟩ : ∃ y : Nat → Int32, y = upd g_all p1.toNatClampNeg p2 := ⟨_, rfl⟩
      have he := zn_e eg4 he
      have hP : va_P (dC, dI) vwCl [(a_this, .inr (1, [.ref a_this_all])), (a_this_all, .inl (cI, n, .inl g4))] H := by rw [eg4]; exact hP
      have hD : va_D A [(a_this, .inr (1, [.ref a_this_all])), (a_this_all, .inl (cI, n, .inl g4))] := by rw [eg4]; exact hD
      obtain ⟨rfl⟩ := zi1 he
      exact W.vret hx hb hr (fun t ht hW => ⟨⟨(), rfl, trivial, by rw [ht]; exact hP, va_K.moved hW.alike hK, hD⟩, hS.F ht⟩) hS.2.2 dX1_put_20
set_option maxHeartbeats 4000000 in
set_option maxRecDepth 100000 in
theorem k_X_refuse (l : Launch) (dC : Nat → ClassId) (dI : Nat → Nat → Nat) (cI : ClassId) (cZ : ClassId) (tt : Nat → Nat) (sd : Nat → Nat) (a_this : Nat) (a_this_town : Nat) (a_this_trial : Nat) (a_this_kept : Nat) (a_this_letters : Nat) (a_this_told : Nat) (a_this_refused : Nat) (a_this_stroll : Nat) (a_this_reach : Nat) (a_this_otherReach : Nat) (a_this_routes : Nat) (a_this_talks : Nat) (a_this_hearers : Nat) (a_this_refused_all : Nat) (sz : Nat) (v_isKept : Int32) (v_toldCount : Int32) (g_refused_all : Nat → Int32) (p1 : Int32) (r0 : Int32) (w0 : Nat → Int32) (hf : f_X_refuse g_refused_all p1 = some (r0, w0)) : Met l yX7_refuse wsX7_refuse ({ frames := 1, cells := 0, slots := 0, locals := 22 }) (zPre (dC, dI) vwCl [(cI, .int), (cZ, .boolean)] tt sd [.ref a_this, .int p1] [(a_this, .inr (7, [.ref a_this_town, .ref a_this_trial, .ref a_this_kept, .int v_isKept, .ref a_this_letters, .ref a_this_told, .int v_toldCount, .ref a_this_refused, .ref a_this_stroll, .ref a_this_reach, .ref a_this_otherReach, .ref a_this_routes, .ref a_this_talks, .ref a_this_hearers])), (a_this_refused, .inr (1, [.ref a_this_refused_all])), (a_this_refused_all, .inl (cI, 7, .inl g_refused_all))] sz) (zQi (dC, dI) vwCl [(cI, .int), (cZ, .boolean)] r0 [(a_this, .inr (7, [.ref a_this_town, .ref a_this_trial, .ref a_this_kept, .int v_isKept, .ref a_this_letters, .ref a_this_told, .int v_toldCount, .ref a_this_refused, .ref a_this_stroll, .ref a_this_reach, .ref a_this_otherReach, .ref a_this_routes, .ref a_this_talks, .ref a_this_hearers])), (a_this_refused, .inr (1, [.ref a_this_refused_all])), (a_this_refused_all, .inl (cI, 7, .inl w0))] (va_A [(a_this, .inr (7, [.ref a_this_town, .ref a_this_trial, .ref a_this_kept, .int v_isKept, .ref a_this_letters, .ref a_this_told, .int v_toldCount, .ref a_this_refused, .ref a_this_stroll, .ref a_this_reach, .ref a_this_otherReach, .ref a_this_routes, .ref a_this_talks, .ref a_this_hearers])), (a_this_refused, .inr (1, [.ref a_this_refused_all])), (a_this_refused_all, .inl (cI, 7, .inl g_refused_all))] sz)) 0 0 (va_A [(a_this, .inr (7, [.ref a_this_town, .ref a_this_trial, .ref a_this_kept, .int v_isKept, .ref a_this_letters, .ref a_this_told, .int v_toldCount, .ref a_this_refused, .ref a_this_stroll, .ref a_this_reach, .ref a_this_otherReach, .ref a_this_routes, .ref a_this_talks, .ref a_this_hearers])), (a_this_refused, .inr (1, [.ref a_this_refused_all])), (a_this_refused_all, .inl (cI, 7, .inl g_refused_all))] sz) := by
  refine Met.ofW (cc := cX7_refuse) (maxL := 2) (ret := (some .int)) (by decide) rfl ?_
  intro p e s m args below meth c s₁ B hml hv
  obtain ⟨rfl, hsz, hP, hK, hD0, hZ⟩ := hv
  have hx := B.exec
  have hb := B.bytes
  have hr := B.returns
  have hts := atoms_spec (ws := wsX7_refuse) B.pre
  have hown : s.vm.findClass RX7 = some m.cls := findClass_of_methodNamed B.named
  have hlocks := B.notSynchronized
  subst hsz
  have hD := hD0.self (sz := s.heap.size)
  generalize hAe : va_A [(a_this, .inr (7, [.ref a_this_town, .ref a_this_trial, .ref a_this_kept, .int v_isKept, .ref a_this_letters, .ref a_this_told, .int v_toldCount, .ref a_this_refused, .ref a_this_stroll, .ref a_this_reach, .ref a_this_otherReach, .ref a_this_routes, .ref a_this_talks, .ref a_this_hearers])), (a_this_refused, .inr (1, [.ref a_this_refused_all])), (a_this_refused_all, .inl (cI, 7, .inl g_refused_all))] s.heap.size = A at hD hZ ⊢
  have hA : ∀ q : Nat, s.heap.size ≤ q → A q := fun q h => by rw [← hAe]; exact Or.inr h
  have hS : va_S A s.heap s.heap [] := va_S.rf
  have hP : va_P (dC, dI) vwCl [(a_this, .inr (7, [.ref a_this_town, .ref a_this_trial, .ref a_this_kept, .int v_isKept, .ref a_this_letters, .ref a_this_told, .int v_toldCount, .ref a_this_refused, .ref a_this_stroll, .ref a_this_reach, .ref a_this_otherReach, .ref a_this_routes, .ref a_this_talks, .ref a_this_hearers])), (a_this_refused, .inr (1, [.ref a_this_refused_all])), (a_this_refused_all, .inl (cI, 7, .inl g_refused_all))] s.heap := hP
  have hl := lv_entry ([.ref a_this, .int p1]) (n := 2) (Nat.le_of_ble_eq_true rfl)
  rw [lg_entry_eq]
  generalize (lg_sl ([.ref a_this, .int p1]) ++ List.replicate (2 - (lg_sl ([.ref a_this, .int p1])).length) Slot.unset).toArray = ls at hl ⊢
  have hl : lv_has ls 2 [(0, .ref a_this), (1, .int p1)] := hl
  have he := hf
  unfold f_X_refuse at he
  refine lv_aload_n hx hb dX7_refuse_0 rfl (lv_at hl 0 rfl) ?_
  refine va_get (D := (dC, dI)) (ci := 7) (v := .ref a_this_refused) (C := RX7) (T := TX7) (N := 14) hx hb hts (by decide +kernel) hown hK hP 0 rfl rfl 7 (by decide) (hts (.fieldLink RX7 38 "LawOfCorners" "refused" "LLawOfCorners$Numbers;") (by decide +kernel)) (fun _ h9 => h9) rfl dX7_refuse_1 ?_
  refine lv_iload_n hx hb dX7_refuse_4 rfl (lv_at hl 1 rfl) ?_
  refine lv_ineg hx hb dX7_refuse_5 ?_
  refine lv_aload_n hx hb dX7_refuse_6 rfl (lv_at hl 0 rfl) ?_
  refine va_get (D := (dC, dI)) (ci := 7) (v := .ref a_this_refused) (C := RX7) (T := TX7) (N := 14) hx hb hts (by decide +kernel) hown hK hP 0 rfl rfl 7 (by decide) (hts (.fieldLink RX7 38 "LawOfCorners" "refused" "LLawOfCorners$Numbers;") (by decide +kernel)) (fun _ h9 => h9) rfl dX7_refuse_7 ?_
  refine lv_iload_n hx hb dX7_refuse_10 rfl (lv_at hl 1 rfl) ?_
  refine lv_ineg hx hb dX7_refuse_11 ?_
  obtain ⟨r1, hf2, he⟩ := zb1_e he
  refine zc_i (wr := [(a_this, .inr (7, [.ref a_this_town, .ref a_this_trial, .ref a_this_kept, .int v_isKept, .ref a_this_letters, .ref a_this_told, .int v_toldCount, .ref a_this_refused, .ref a_this_stroll, .ref a_this_reach, .ref a_this_otherReach, .ref a_this_routes, .ref a_this_talks, .ref a_this_hearers]))]) (ws' := [(a_this, .inr (7, [.ref a_this_town, .ref a_this_trial, .ref a_this_kept, .int v_isKept, .ref a_this_letters, .ref a_this_told, .int v_toldCount, .ref a_this_refused, .ref a_this_stroll, .ref a_this_reach, .ref a_this_otherReach, .ref a_this_routes, .ref a_this_talks, .ref a_this_hearers])), (a_this_refused, .inr (1, [.ref a_this_refused_all])), (a_this_refused_all, .inl (cI, 7, .inl g_refused_all))]) (va_runV (As := [.int (-p1)]) (rest := [.int (-p1), .ref a_this_refused]) ⟨hx, hb, hml, hown, hts⟩ (k_Numbers_at l dC dI cI cZ tt sd a_this_refused a_this_refused_all s.heap.size 7 g_refused_all (-p1) r1 hf2) (cwV 1 hts gX7_refuse_X1_at rfl rfl rfl (by decide +kernel) ⟨Nat.le_of_ble_eq_true rfl, Nat.le_of_ble_eq_true rfl⟩) (zpV hP hD hK hS hA hZ [1, 2] rfl rfl 1 1 rfl rfl) rfl rfl hl.1 rfl (lv_room (Nat.le_of_ble_eq_true rfl)) dX7_refuse_12 ⟨Nat.zero_le _, Nat.zero_le _⟩) hP hD hS hA [1, 2] [0] [0, 1, 2] rfl rfl rfl (by decide) rfl rfl rfl (fun H locs hP hD hS => ?_)
  refine lv_iconst (v := (1 : Int32)) hx hb dX7_refuse_15 (by decide) ?_
  refine lv_iadd hx hb dX7_refuse_16 ?_
  obtain ⟨g_refused_all_3, hf4, he⟩ := zb1_e he
  refine zc_v (wr := [(a_this, .inr (7, [.ref a_this_town, .ref a_this_trial, .ref a_this_kept, .int v_isKept, .ref a_this_letters, .ref a_this_told, .int v_toldCount, .ref a_this_refused, .ref a_this_stroll, .ref a_this_reach, .ref a_this_otherReach, .ref a_this_routes, .ref a_this_talks, .ref a_this_hearers]))]) (ws' := [(a_this, .inr (7, [.ref a_this_town, .ref a_this_trial, .ref a_this_kept, .int v_isKept, .ref a_this_letters, .ref a_this_told, .int v_toldCount, .ref a_this_refused, .ref a_this_stroll, .ref a_this_reach, .ref a_this_otherReach, .ref a_this_routes, .ref a_this_talks, .ref a_this_hearers])), (a_this_refused, .inr (1, [.ref a_this_refused_all])), (a_this_refused_all, .inl (cI, 7, .inl g_refused_all_3))]) (va_runV (As := [.int (-p1), .int (r1 + (1 : Int32))]) (rest := []) ⟨hx, hb, hml, hown, hts⟩ (k_Numbers_put l dC dI cI cZ tt sd a_this_refused a_this_refused_all H.size 7 g_refused_all (-p1) (r1 + (1 : Int32)) g_refused_all_3 hf4) (cwV 2 hts gX7_refuse_X1_put rfl rfl rfl (by decide +kernel) ⟨Nat.le_of_ble_eq_true rfl, Nat.le_of_ble_eq_true rfl⟩) (zpV hP hD hK hS hA hZ [1, 2] rfl rfl 1 1 rfl rfl) rfl rfl hl.1 rfl (lv_room (Nat.le_of_ble_eq_true rfl)) dX7_refuse_17 ⟨Nat.zero_le _, Nat.zero_le _⟩) hP hD hS hA [1, 2] [0] [0, 1, 2] rfl rfl rfl (by decide) rfl rfl rfl (fun H locs hP hD hS => ?_)
  refine lv_iload_n hx hb dX7_refuse_20 rfl (lv_at hl 1 rfl) ?_
  obtain ⟨rfl, rfl⟩ := zi2 he
  exact W.iret hx hb hr (fun t ht hW => ⟨⟨_, (), rfl, rfl, by rw [ht]; exact hP, va_K.moved hW.alike hK, hD⟩, hS.F ht⟩) hS.2.2 dX7_refuse_21
set_option maxHeartbeats 4000000 in
set_option maxRecDepth 100000 in
theorem k_Letters_size (l : Launch) (dC : Nat → ClassId) (dI : Nat → Nat → Nat) (cI : ClassId) (cZ : ClassId) (tt : Nat → Nat) (sd : Nat → Nat) (a_this : Nat) (a_this_all : Nat) (sz : Nat) (v_count : Int32) (r0 : Int32) (hf : f_Letters_size v_count = some (r0)) : Met l yX0_size wsX0_size ({ frames := 0, cells := 0, slots := 0, locals := 0 }) (zPre (dC, dI) vwCl [(cI, .int), (cZ, .boolean)] tt sd [.ref a_this] [(a_this, .inr (0, [.ref a_this_all, .int v_count]))] sz) (zQi (dC, dI) vwCl [(cI, .int), (cZ, .boolean)] r0 [(a_this, .inr (0, [.ref a_this_all, .int v_count]))] (va_A [(a_this, .inr (0, [.ref a_this_all, .int v_count]))] sz)) 0 0 (va_A [(a_this, .inr (0, [.ref a_this_all, .int v_count]))] sz) := by
  refine Met.ofW (cc := cX0_size) (maxL := 1) (ret := (some .int)) (by decide) rfl ?_
  intro p e s m args below meth c s₁ B hml hv
  obtain ⟨rfl, hsz, hP, hK, hD0, hZ⟩ := hv
  have hx := B.exec
  have hb := B.bytes
  have hr := B.returns
  have hts := atoms_spec (ws := wsX0_size) B.pre
  have hown : s.vm.findClass RX0 = some m.cls := findClass_of_methodNamed B.named
  have hlocks := B.notSynchronized
  subst hsz
  have hD := hD0.self (sz := s.heap.size)
  generalize hAe : va_A [(a_this, .inr (0, [.ref a_this_all, .int v_count]))] s.heap.size = A at hD hZ ⊢
  have hA : ∀ q : Nat, s.heap.size ≤ q → A q := fun q h => by rw [← hAe]; exact Or.inr h
  have hS : va_S A s.heap s.heap [] := va_S.rf
  have hP : va_P (dC, dI) vwCl [(a_this, .inr (0, [.ref a_this_all, .int v_count]))] s.heap := hP
  have hl := lv_entry ([.ref a_this]) (n := 1) (Nat.le_of_ble_eq_true rfl)
  rw [lg_entry_eq]
  generalize (lg_sl ([.ref a_this]) ++ List.replicate (1 - (lg_sl ([.ref a_this])).length) Slot.unset).toArray = ls at hl ⊢
  have hl : lv_has ls 1 [(0, .ref a_this)] := hl
  have he := hf
  unfold f_Letters_size at he
  refine lv_aload_n hx hb dX0_size_0 rfl (lv_at hl 0 rfl) ?_
  refine va_get (D := (dC, dI)) (ci := 0) (v := .int v_count) (C := RX0) (T := TX0) (N := 2) hx hb hts (by decide +kernel) hown hK hP 0 rfl rfl 1 (by decide) (hts (.fieldLink RX0 20 "LawOfCorners$Letters" "count" "I") (by decide +kernel)) (fun _ h9 => h9) rfl dX0_size_1 ?_
  obtain ⟨rfl⟩ := zi1 he
  exact W.iret hx hb hr (fun t ht hW => ⟨⟨_, (), rfl, rfl, by rw [ht]; exact hP, va_K.moved hW.alike hK, hD⟩, hS.F ht⟩) hS.2.2 dX0_size_4
set_option maxHeartbeats 4000000 in
set_option maxRecDepth 100000 in
theorem k_Letters_append (l : Launch) (dC : Nat → ClassId) (dI : Nat → Nat → Nat) (cI : ClassId) (cZ : ClassId) (tt : Nat → Nat) (sd : Nat → Nat) (a_this : Nat) (a_this_all : Nat) (a_this_all_all : Nat) (sz : Nat) (v_count : Int32) (g_all_all : Nat → Int32) (p1 : Int32) (w0 : Int32) (w1 : Nat → Int32) (hf : f_Letters_append v_count g_all_all p1 = some (w0, w1)) : Met l yX0_append wsX0_append ({ frames := 1, cells := 0, slots := 0, locals := 22 }) (zPre (dC, dI) vwCl [(cI, .int), (cZ, .boolean)] tt sd [.ref a_this, .int p1] [(a_this, .inr (0, [.ref a_this_all, .int v_count])), (a_this_all, .inr (1, [.ref a_this_all_all])), (a_this_all_all, .inl (cI, 96, .inl g_all_all))] sz) (zQv (dC, dI) vwCl [(cI, .int), (cZ, .boolean)] [(a_this, .inr (0, [.ref a_this_all, .int w0])), (a_this_all, .inr (1, [.ref a_this_all_all])), (a_this_all_all, .inl (cI, 96, .inl w1))] (va_A [(a_this, .inr (0, [.ref a_this_all, .int v_count])), (a_this_all, .inr (1, [.ref a_this_all_all])), (a_this_all_all, .inl (cI, 96, .inl g_all_all))] sz)) 0 0 (va_A [(a_this, .inr (0, [.ref a_this_all, .int v_count])), (a_this_all, .inr (1, [.ref a_this_all_all])), (a_this_all_all, .inl (cI, 96, .inl g_all_all))] sz) := by
  refine Met.ofW (cc := cX0_append) (maxL := 2) (ret := none) (by decide) rfl ?_
  intro p e s m args below meth c s₁ B hml hv
  obtain ⟨rfl, hsz, hP, hK, hD0, hZ⟩ := hv
  have hx := B.exec
  have hb := B.bytes
  have hr := B.returns
  have hts := atoms_spec (ws := wsX0_append) B.pre
  have hown : s.vm.findClass RX0 = some m.cls := findClass_of_methodNamed B.named
  have hlocks := B.notSynchronized
  subst hsz
  have hD := hD0.self (sz := s.heap.size)
  generalize hAe : va_A [(a_this, .inr (0, [.ref a_this_all, .int v_count])), (a_this_all, .inr (1, [.ref a_this_all_all])), (a_this_all_all, .inl (cI, 96, .inl g_all_all))] s.heap.size = A at hD hZ ⊢
  have hA : ∀ q : Nat, s.heap.size ≤ q → A q := fun q h => by rw [← hAe]; exact Or.inr h
  have hS : va_S A s.heap s.heap [] := va_S.rf
  have hP : va_P (dC, dI) vwCl [(a_this, .inr (0, [.ref a_this_all, .int v_count])), (a_this_all, .inr (1, [.ref a_this_all_all])), (a_this_all_all, .inl (cI, 96, .inl g_all_all))] s.heap := hP
  have hl := lv_entry ([.ref a_this, .int p1]) (n := 2) (Nat.le_of_ble_eq_true rfl)
  rw [lg_entry_eq]
  generalize (lg_sl ([.ref a_this, .int p1]) ++ List.replicate (2 - (lg_sl ([.ref a_this, .int p1])).length) Slot.unset).toArray = ls at hl ⊢
  have hl : lv_has ls 2 [(0, .ref a_this), (1, .int p1)] := hl
  have he := hf
  unfold f_Letters_append at he
  refine lv_aload_n hx hb dX0_append_0 rfl (lv_at hl 0 rfl) ?_
  refine va_get (D := (dC, dI)) (ci := 0) (v := .int v_count) (C := RX0) (T := TX0) (N := 2) hx hb hts (by decide +kernel) hown hK hP 0 rfl rfl 1 (by decide) (hts (.fieldLink RX0 20 "LawOfCorners$Letters" "count" "I") (by decide +kernel)) (fun _ h9 => h9) rfl dX0_append_1 ?_
  refine lv_bipush (v := (96 : Int32)) hx hb dX0_append_4 (by decide) ?_
  refine lv_icmp_ge (tgt := 31) hx hb dX0_append_6 (by decide) (fun c1 => ?_) (fun c1 => ?_)
  · have he := zif_t c1 he
    obtain ⟨rfl, rfl⟩ := zi2 he
    exact W.vret hx hb hr (fun t ht hW => ⟨⟨(), rfl, trivial, by rw [ht]; exact hP, va_K.moved hW.alike hK, hD⟩, hS.F ht⟩) hS.2.2 dX0_append_31
  · have he := zif_f c1 he
    refine lv_aload_n hx hb dX0_append_9 rfl (lv_at hl 0 rfl) ?_
    refine va_get (D := (dC, dI)) (ci := 0) (v := .ref a_this_all) (C := RX0) (T := TX0) (N := 2) hx hb hts (by decide +kernel) hown hK hP 0 rfl rfl 0 (by decide) (hts (.fieldLink RX0 14 "LawOfCorners$Letters" "all" "LLawOfCorners$Numbers;") (by decide +kernel)) (fun _ h9 => h9) rfl dX0_append_10 ?_
    refine lv_aload_n hx hb dX0_append_13 rfl (lv_at hl 0 rfl) ?_
    refine va_get (D := (dC, dI)) (ci := 0) (v := .int v_count) (C := RX0) (T := TX0) (N := 2) hx hb hts (by decide +kernel) hown hK hP 0 rfl rfl 1 (by decide) (hts (.fieldLink RX0 20 "LawOfCorners$Letters" "count" "I") (by decide +kernel)) (fun _ h9 => h9) rfl dX0_append_14 ?_
    refine lv_iload_n hx hb dX0_append_17 rfl (lv_at hl 1 rfl) ?_
    obtain ⟨g_all_all_2, hf3, he⟩ := zb1_e he
    refine zc_v (wr := [(a_this, .inr (0, [.ref a_this_all, .int v_count]))]) (ws' := [(a_this, .inr (0, [.ref a_this_all, .int v_count])), (a_this_all, .inr (1, [.ref a_this_all_all])), (a_this_all_all, .inl (cI, 96, .inl g_all_all_2))]) (va_runV (As := [.int v_count, .int p1]) (rest := []) ⟨hx, hb, hml, hown, hts⟩ (k_Numbers_put l dC dI cI cZ tt sd a_this_all a_this_all_all s.heap.size 96 g_all_all v_count p1 g_all_all_2 hf3) (cwV 2 hts gX0_append_X1_put rfl rfl rfl (by decide +kernel) ⟨Nat.le_of_ble_eq_true rfl, Nat.le_of_ble_eq_true rfl⟩) (zpV hP hD hK hS hA hZ [1, 2] rfl rfl 1 1 rfl rfl) rfl rfl hl.1 rfl (lv_room (Nat.le_of_ble_eq_true rfl)) dX0_append_18 ⟨Nat.zero_le _, Nat.zero_le _⟩) hP hD hS hA [1, 2] [0] [0, 1, 2] rfl rfl rfl (by decide) rfl rfl rfl (fun H locs hP hD hS => ?_)
    refine lv_aload_n hx hb dX0_append_21 rfl (lv_at hl 0 rfl) ?_
    refine lv_dup hx hb dX0_append_22 rfl ?_
    refine va_get (D := (dC, dI)) (ci := 0) (v := .int v_count) (C := RX0) (T := TX0) (N := 2) hx hb hts (by decide +kernel) hown hK hP 0 rfl rfl 1 (by decide) (hts (.fieldLink RX0 20 "LawOfCorners$Letters" "count" "I") (by decide +kernel)) (fun _ h9 => h9) rfl dX0_append_23 ?_
    refine lv_iconst (v := (1 : Int32)) hx hb dX0_append_26 (by decide) ?_
    refine lv_iadd hx hb dX0_append_27 ?_
    refine lv_topi (fun x4 ex4 => ?_)
    have he := zn_e ex4 he
    refine va_put (D := (dC, dI)) (ci := 0) (v := .int x4) (ty := .int) (C := RX0) (T := TX0) (N := 2) hx hb hts (by decide +kernel) tyX0 tyX0_ok nmX0 hown hK hP hD hS 0 rfl rfl 1 (by decide) (hts (.fieldLink RX0 20 "LawOfCorners$Letters" "count" "I") (by decide +kernel)) (fun _ h9 => h9) rfl (by decide +kernel) rfl rfl (Nat.le_of_ble_eq_true rfl) dX0_append_28 (fun H locs hP hD hS => ?_)
    have hP : va_P (dC, dI) vwCl [(a_this, .inr (0, [.ref a_this_all, .int x4])), (a_this_all, .inr (1, [.ref a_this_all_all])), (a_this_all_all, .inl (cI, 96, .inl g_all_all_2))] H := hP
    have hD : va_D A [(a_this, .inr (0, [.ref a_this_all, .int x4])), (a_this_all, .inr (1, [.ref a_this_all_all])), (a_this_all_all, .inl (cI, 96, .inl g_all_all_2))] := hD
    obtain ⟨rfl, rfl⟩ := zi2 he
    exact W.vret hx hb hr (fun t ht hW => ⟨⟨(), rfl, trivial, by rw [ht]; exact hP, va_K.moved hW.alike hK, hD⟩, hS.F ht⟩) hS.2.2 dX0_append_31
set_option maxHeartbeats 4000000 in
set_option maxRecDepth 100000 in
theorem k_X_letter (l : Launch) (dC : Nat → ClassId) (dI : Nat → Nat → Nat) (cI : ClassId) (cZ : ClassId) (tt : Nat → Nat) (sd : Nat → Nat) (a_this : Nat) (a_this_town : Nat) (a_this_trial : Nat) (a_this_kept : Nat) (a_this_letters : Nat) (a_this_told : Nat) (a_this_refused : Nat) (a_this_stroll : Nat) (a_this_reach : Nat) (a_this_otherReach : Nat) (a_this_routes : Nat) (a_this_talks : Nat) (a_this_hearers : Nat) (a_this_letters_all : Nat) (a_this_letters_all_all : Nat) (a_this_refused_all : Nat) (sz : Nat) (v_isKept : Int32) (v_toldCount : Int32) (v_letters_count : Int32) (g_letters_all_all : Nat → Int32) (g_refused_all : Nat → Int32) (p1 : Int32) (r0 : Int32) (w0 : Int32) (w1 : Nat → Int32) (w2 : Nat → Int32) (hf : f_X_letter v_letters_count g_letters_all_all g_refused_all p1 = some (r0, w0, w1, w2)) : Met l yX7_letter wsX7_letter ({ frames := 2, cells := 0, slots := 0, locals := 43 }) (zPre (dC, dI) vwCl [(cI, .int), (cZ, .boolean)] tt sd [.ref a_this, .int p1] [(a_this, .inr (7, [.ref a_this_town, .ref a_this_trial, .ref a_this_kept, .int v_isKept, .ref a_this_letters, .ref a_this_told, .int v_toldCount, .ref a_this_refused, .ref a_this_stroll, .ref a_this_reach, .ref a_this_otherReach, .ref a_this_routes, .ref a_this_talks, .ref a_this_hearers])), (a_this_letters, .inr (0, [.ref a_this_letters_all, .int v_letters_count])), (a_this_letters_all, .inr (1, [.ref a_this_letters_all_all])), (a_this_letters_all_all, .inl (cI, 96, .inl g_letters_all_all)), (a_this_refused, .inr (1, [.ref a_this_refused_all])), (a_this_refused_all, .inl (cI, 7, .inl g_refused_all))] sz) (zQi (dC, dI) vwCl [(cI, .int), (cZ, .boolean)] r0 [(a_this, .inr (7, [.ref a_this_town, .ref a_this_trial, .ref a_this_kept, .int v_isKept, .ref a_this_letters, .ref a_this_told, .int v_toldCount, .ref a_this_refused, .ref a_this_stroll, .ref a_this_reach, .ref a_this_otherReach, .ref a_this_routes, .ref a_this_talks, .ref a_this_hearers])), (a_this_letters, .inr (0, [.ref a_this_letters_all, .int w0])), (a_this_letters_all, .inr (1, [.ref a_this_letters_all_all])), (a_this_letters_all_all, .inl (cI, 96, .inl w1)), (a_this_refused, .inr (1, [.ref a_this_refused_all])), (a_this_refused_all, .inl (cI, 7, .inl w2))] (va_A [(a_this, .inr (7, [.ref a_this_town, .ref a_this_trial, .ref a_this_kept, .int v_isKept, .ref a_this_letters, .ref a_this_told, .int v_toldCount, .ref a_this_refused, .ref a_this_stroll, .ref a_this_reach, .ref a_this_otherReach, .ref a_this_routes, .ref a_this_talks, .ref a_this_hearers])), (a_this_letters, .inr (0, [.ref a_this_letters_all, .int v_letters_count])), (a_this_letters_all, .inr (1, [.ref a_this_letters_all_all])), (a_this_letters_all_all, .inl (cI, 96, .inl g_letters_all_all)), (a_this_refused, .inr (1, [.ref a_this_refused_all])), (a_this_refused_all, .inl (cI, 7, .inl g_refused_all))] sz)) 0 0 (va_A [(a_this, .inr (7, [.ref a_this_town, .ref a_this_trial, .ref a_this_kept, .int v_isKept, .ref a_this_letters, .ref a_this_told, .int v_toldCount, .ref a_this_refused, .ref a_this_stroll, .ref a_this_reach, .ref a_this_otherReach, .ref a_this_routes, .ref a_this_talks, .ref a_this_hearers])), (a_this_letters, .inr (0, [.ref a_this_letters_all, .int v_letters_count])), (a_this_letters_all, .inr (1, [.ref a_this_letters_all_all])), (a_this_letters_all_all, .inl (cI, 96, .inl g_letters_all_all)), (a_this_refused, .inr (1, [.ref a_this_refused_all])), (a_this_refused_all, .inl (cI, 7, .inl g_refused_all))] sz) := by
  refine Met.ofW (cc := cX7_letter) (maxL := 2) (ret := (some .int)) (by decide) rfl ?_
  intro p e s m args below meth c s₁ B hml hv
  obtain ⟨rfl, hsz, hP, hK, hD0, hZ⟩ := hv
  have hx := B.exec
  have hb := B.bytes
  have hr := B.returns
  have hts := atoms_spec (ws := wsX7_letter) B.pre
  have hown : s.vm.findClass RX7 = some m.cls := findClass_of_methodNamed B.named
  have hlocks := B.notSynchronized
  subst hsz
  have hD := hD0.self (sz := s.heap.size)
  generalize hAe : va_A [(a_this, .inr (7, [.ref a_this_town, .ref a_this_trial, .ref a_this_kept, .int v_isKept, .ref a_this_letters, .ref a_this_told, .int v_toldCount, .ref a_this_refused, .ref a_this_stroll, .ref a_this_reach, .ref a_this_otherReach, .ref a_this_routes, .ref a_this_talks, .ref a_this_hearers])), (a_this_letters, .inr (0, [.ref a_this_letters_all, .int v_letters_count])), (a_this_letters_all, .inr (1, [.ref a_this_letters_all_all])), (a_this_letters_all_all, .inl (cI, 96, .inl g_letters_all_all)), (a_this_refused, .inr (1, [.ref a_this_refused_all])), (a_this_refused_all, .inl (cI, 7, .inl g_refused_all))] s.heap.size = A at hD hZ ⊢
  have hA : ∀ q : Nat, s.heap.size ≤ q → A q := fun q h => by rw [← hAe]; exact Or.inr h
  have hS : va_S A s.heap s.heap [] := va_S.rf
  have hP : va_P (dC, dI) vwCl [(a_this, .inr (7, [.ref a_this_town, .ref a_this_trial, .ref a_this_kept, .int v_isKept, .ref a_this_letters, .ref a_this_told, .int v_toldCount, .ref a_this_refused, .ref a_this_stroll, .ref a_this_reach, .ref a_this_otherReach, .ref a_this_routes, .ref a_this_talks, .ref a_this_hearers])), (a_this_letters, .inr (0, [.ref a_this_letters_all, .int v_letters_count])), (a_this_letters_all, .inr (1, [.ref a_this_letters_all_all])), (a_this_letters_all_all, .inl (cI, 96, .inl g_letters_all_all)), (a_this_refused, .inr (1, [.ref a_this_refused_all])), (a_this_refused_all, .inl (cI, 7, .inl g_refused_all))] s.heap := hP
  have hl := lv_entry ([.ref a_this, .int p1]) (n := 2) (Nat.le_of_ble_eq_true rfl)
  rw [lg_entry_eq]
  generalize (lg_sl ([.ref a_this, .int p1]) ++ List.replicate (2 - (lg_sl ([.ref a_this, .int p1])).length) Slot.unset).toArray = ls at hl ⊢
  have hl : lv_has ls 2 [(0, .ref a_this), (1, .int p1)] := hl
  have he := hf
  unfold f_X_letter at he
  refine zstart (D := (dC, dI)) (cl := vwCl) (A := A) (nL := 2) (fun WW hWW => ?_)
  refine lv_iload_n hx hb dX7_letter_0 rfl (lv_at hl 1 rfl) ?_
  refine lv_if_ge (tgt := 11) hx hb dX7_letter_1 (by decide) (fun c1 => ?_) (fun c1 => ?_)
  · have he := zif_t c1 he
    refine lv_iload_n hx hb dX7_letter_11 rfl (lv_at hl 1 rfl) ?_
    refine lv_sipush (v := (255 : Int32)) hx hb dX7_letter_12 (by decide) ?_
    refine zj1_w he (fun (_ : Unit) => WW [(a_this, .inr (7, [.ref a_this_town, .ref a_this_trial, .ref a_this_kept, .int v_isKept, .ref a_this_letters, .ref a_this_told, .int v_toldCount, .ref a_this_refused, .ref a_this_stroll, .ref a_this_reach, .ref a_this_otherReach, .ref a_this_routes, .ref a_this_talks, .ref a_this_hearers])), (a_this_letters, .inr (0, [.ref a_this_letters_all, .int v_letters_count])), (a_this_letters_all, .inr (1, [.ref a_this_letters_all_all])), (a_this_letters_all_all, .inl (cI, 96, .inl g_letters_all_all)), (a_this_refused, .inr (1, [.ref a_this_refused_all])), (a_this_refused_all, .inl (cI, 7, .inl g_refused_all))] [(0, .ref a_this)] 30 []) (fun _ he => (hWW _ _ _ _).mpr (fun H locs ls hP hD hS hl => ?_)) (fun k5 hk5 he => ?_)
    · refine lv_aload_n hx hb dX7_letter_30 rfl (lv_at hl 0 rfl) ?_
      refine lv_bipush (v := (-6 : Int32)) hx hb dX7_letter_31 (by decide) ?_
      obtain ⟨r2, g_refused_all_3, hf4, he⟩ := zb2_e he
      refine zc_i (wr := [(a_this_letters, .inr (0, [.ref a_this_letters_all, .int v_letters_count])), (a_this_letters_all, .inr (1, [.ref a_this_letters_all_all])), (a_this_letters_all_all, .inl (cI, 96, .inl g_letters_all_all))]) (ws' := [(a_this, .inr (7, [.ref a_this_town, .ref a_this_trial, .ref a_this_kept, .int v_isKept, .ref a_this_letters, .ref a_this_told, .int v_toldCount, .ref a_this_refused, .ref a_this_stroll, .ref a_this_reach, .ref a_this_otherReach, .ref a_this_routes, .ref a_this_talks, .ref a_this_hearers])), (a_this_letters, .inr (0, [.ref a_this_letters_all, .int v_letters_count])), (a_this_letters_all, .inr (1, [.ref a_this_letters_all_all])), (a_this_letters_all_all, .inl (cI, 96, .inl g_letters_all_all)), (a_this_refused, .inr (1, [.ref a_this_refused_all])), (a_this_refused_all, .inl (cI, 7, .inl g_refused_all_3))]) (va_runV (As := [.int (-6 : Int32)]) (rest := []) ⟨hx, hb, hml, hown, hts⟩ (k_X_refuse l dC dI cI cZ tt sd a_this a_this_town a_this_trial a_this_kept a_this_letters a_this_told a_this_refused a_this_stroll a_this_reach a_this_otherReach a_this_routes a_this_talks a_this_hearers a_this_refused_all H.size v_isKept v_toldCount g_refused_all (-6 : Int32) r2 g_refused_all_3 hf4) (cwV 1 hts gX7_letter_X7_refuse rfl rfl rfl (by decide +kernel) ⟨Nat.le_of_ble_eq_true rfl, Nat.le_of_ble_eq_true rfl⟩) (zpV hP hD hK hS hA hZ [0, 4, 5] rfl rfl 7 0 rfl rfl) rfl rfl hl.1 rfl (lv_room (Nat.le_of_ble_eq_true rfl)) dX7_letter_33 ⟨Nat.zero_le _, Nat.zero_le _⟩) hP hD hS hA [0, 4, 5] [1, 2, 3] [3, 0, 1, 2, 4, 5] rfl rfl rfl (by decide) rfl rfl rfl (fun H locs hP hD hS => ?_)
      obtain ⟨rfl, rfl, rfl, rfl⟩ := zi4 he
      exact W.iret hx hb hr (fun t ht hW => ⟨⟨_, (), rfl, rfl, by rw [ht]; exact hP, va_K.moved hW.alike hK, hD⟩, hS.F ht⟩) hS.2.2 dX7_letter_36
    refine lv_icmp_gt (tgt := 30) hx hb dX7_letter_15 (by decide) (fun c6 => ?_) (fun c6 => ?_)
    · have he := zif_t c6 he
      exact (hWW _ _ _ _).mp (hk5 () he) _ _ _ hP hD hS (lv_sub hl [0] rfl)
    · have he := zif_f c6 he
      refine lv_aload_n hx hb dX7_letter_18 rfl (lv_at hl 0 rfl) ?_
      refine va_get (D := (dC, dI)) (ci := 7) (v := .ref a_this_letters) (C := RX7) (T := TX7) (N := 14) hx hb hts (by decide +kernel) hown hK hP 0 rfl rfl 4 (by decide) (hts (.fieldLink RX7 25 "LawOfCorners" "letters" "LLawOfCorners$Letters;") (by decide +kernel)) (fun _ h9 => h9) rfl dX7_letter_19 ?_
      obtain ⟨r7, hf8, he⟩ := zb1_e he
      refine zc_i (wr := [(a_this, .inr (7, [.ref a_this_town, .ref a_this_trial, .ref a_this_kept, .int v_isKept, .ref a_this_letters, .ref a_this_told, .int v_toldCount, .ref a_this_refused, .ref a_this_stroll, .ref a_this_reach, .ref a_this_otherReach, .ref a_this_routes, .ref a_this_talks, .ref a_this_hearers])), (a_this_letters_all, .inr (1, [.ref a_this_letters_all_all])), (a_this_letters_all_all, .inl (cI, 96, .inl g_letters_all_all)), (a_this_refused, .inr (1, [.ref a_this_refused_all])), (a_this_refused_all, .inl (cI, 7, .inl g_refused_all))]) (ws' := [(a_this, .inr (7, [.ref a_this_town, .ref a_this_trial, .ref a_this_kept, .int v_isKept, .ref a_this_letters, .ref a_this_told, .int v_toldCount, .ref a_this_refused, .ref a_this_stroll, .ref a_this_reach, .ref a_this_otherReach, .ref a_this_routes, .ref a_this_talks, .ref a_this_hearers])), (a_this_letters, .inr (0, [.ref a_this_letters_all, .int v_letters_count])), (a_this_letters_all, .inr (1, [.ref a_this_letters_all_all])), (a_this_letters_all_all, .inl (cI, 96, .inl g_letters_all_all)), (a_this_refused, .inr (1, [.ref a_this_refused_all])), (a_this_refused_all, .inl (cI, 7, .inl g_refused_all))]) (va_runV (As := []) (rest := []) ⟨hx, hb, hml, hown, hts⟩ (k_Letters_size l dC dI cI cZ tt sd a_this_letters a_this_letters_all s.heap.size v_letters_count r7 hf8) (cwV 0 hts gX7_letter_X0_size rfl rfl rfl (by decide +kernel) ⟨Nat.le_of_ble_eq_true rfl, Nat.le_of_ble_eq_true rfl⟩) (zpV hP hD hK hS hA hZ [1] rfl rfl 0 1 rfl rfl) rfl rfl hl.1 rfl (lv_room (Nat.le_of_ble_eq_true rfl)) dX7_letter_22 ⟨Nat.zero_le _, Nat.zero_le _⟩) hP hD hS hA [1] [0, 2, 3, 4, 5] [0, 5, 1, 2, 3, 4] rfl rfl rfl (by decide) rfl rfl rfl (fun H locs hP hD hS => ?_)
      refine lv_bipush (v := (96 : Int32)) hx hb dX7_letter_25 (by decide) ?_
      refine lv_icmp_lt (tgt := 37) hx hb dX7_letter_27 (by decide) (fun c9 => ?_) (fun c9 => ?_)
      · have he := zif_t c9 he
        refine lv_aload_n hx hb dX7_letter_37 rfl (lv_at hl 0 rfl) ?_
        refine va_get (D := (dC, dI)) (ci := 7) (v := .ref a_this_letters) (C := RX7) (T := TX7) (N := 14) hx hb hts (by decide +kernel) hown hK hP 0 rfl rfl 4 (by decide) (hts (.fieldLink RX7 25 "LawOfCorners" "letters" "LLawOfCorners$Letters;") (by decide +kernel)) (fun _ h9 => h9) rfl dX7_letter_38 ?_
        refine lv_iload_n hx hb dX7_letter_41 rfl (lv_at hl 1 rfl) ?_
        obtain ⟨v_letters_count_10, g_letters_all_all_11, hf12, he⟩ := zb2_e he
        refine zc_v (wr := [(a_this, .inr (7, [.ref a_this_town, .ref a_this_trial, .ref a_this_kept, .int v_isKept, .ref a_this_letters, .ref a_this_told, .int v_toldCount, .ref a_this_refused, .ref a_this_stroll, .ref a_this_reach, .ref a_this_otherReach, .ref a_this_routes, .ref a_this_talks, .ref a_this_hearers])), (a_this_refused, .inr (1, [.ref a_this_refused_all])), (a_this_refused_all, .inl (cI, 7, .inl g_refused_all))]) (ws' := [(a_this, .inr (7, [.ref a_this_town, .ref a_this_trial, .ref a_this_kept, .int v_isKept, .ref a_this_letters, .ref a_this_told, .int v_toldCount, .ref a_this_refused, .ref a_this_stroll, .ref a_this_reach, .ref a_this_otherReach, .ref a_this_routes, .ref a_this_talks, .ref a_this_hearers])), (a_this_letters, .inr (0, [.ref a_this_letters_all, .int v_letters_count_10])), (a_this_letters_all, .inr (1, [.ref a_this_letters_all_all])), (a_this_letters_all_all, .inl (cI, 96, .inl g_letters_all_all_11)), (a_this_refused, .inr (1, [.ref a_this_refused_all])), (a_this_refused_all, .inl (cI, 7, .inl g_refused_all))]) (va_runV (As := [.int p1]) (rest := []) ⟨hx, hb, hml, hown, hts⟩ (k_Letters_append l dC dI cI cZ tt sd a_this_letters a_this_letters_all a_this_letters_all_all H.size v_letters_count g_letters_all_all p1 v_letters_count_10 g_letters_all_all_11 hf12) (cwV 1 hts gX7_letter_X0_append rfl rfl rfl (by decide +kernel) ⟨Nat.le_of_ble_eq_true rfl, Nat.le_of_ble_eq_true rfl⟩) (zpV hP hD hK hS hA hZ [1, 2, 3] rfl rfl 0 1 rfl rfl) rfl rfl hl.1 rfl (lv_room (Nat.le_of_ble_eq_true rfl)) dX7_letter_42 ⟨Nat.zero_le _, Nat.zero_le _⟩) hP hD hS hA [1, 2, 3] [0, 4, 5] [0, 3, 4, 5, 1, 2] rfl rfl rfl (by decide) rfl rfl rfl (fun H locs hP hD hS => ?_)
        refine lv_aload_n hx hb dX7_letter_45 rfl (lv_at hl 0 rfl) ?_
        refine va_get (D := (dC, dI)) (ci := 7) (v := .ref a_this_letters) (C := RX7) (T := TX7) (N := 14) hx hb hts (by decide +kernel) hown hK hP 0 rfl rfl 4 (by decide) (hts (.fieldLink RX7 25 "LawOfCorners" "letters" "LLawOfCorners$Letters;") (by decide +kernel)) (fun _ h9 => h9) rfl dX7_letter_46 ?_
        obtain ⟨r13, hf14, he⟩ := zb1_e he
        refine zc_i (wr := [(a_this, .inr (7, [.ref a_this_town, .ref a_this_trial, .ref a_this_kept, .int v_isKept, .ref a_this_letters, .ref a_this_told, .int v_toldCount, .ref a_this_refused, .ref a_this_stroll, .ref a_this_reach, .ref a_this_otherReach, .ref a_this_routes, .ref a_this_talks, .ref a_this_hearers])), (a_this_letters_all, .inr (1, [.ref a_this_letters_all_all])), (a_this_letters_all_all, .inl (cI, 96, .inl g_letters_all_all_11)), (a_this_refused, .inr (1, [.ref a_this_refused_all])), (a_this_refused_all, .inl (cI, 7, .inl g_refused_all))]) (ws' := [(a_this, .inr (7, [.ref a_this_town, .ref a_this_trial, .ref a_this_kept, .int v_isKept, .ref a_this_letters, .ref a_this_told, .int v_toldCount, .ref a_this_refused, .ref a_this_stroll, .ref a_this_reach, .ref a_this_otherReach, .ref a_this_routes, .ref a_this_talks, .ref a_this_hearers])), (a_this_letters, .inr (0, [.ref a_this_letters_all, .int v_letters_count_10])), (a_this_letters_all, .inr (1, [.ref a_this_letters_all_all])), (a_this_letters_all_all, .inl (cI, 96, .inl g_letters_all_all_11)), (a_this_refused, .inr (1, [.ref a_this_refused_all])), (a_this_refused_all, .inl (cI, 7, .inl g_refused_all))]) (va_runV (As := []) (rest := []) ⟨hx, hb, hml, hown, hts⟩ (k_Letters_size l dC dI cI cZ tt sd a_this_letters a_this_letters_all H.size v_letters_count_10 r13 hf14) (cwV 0 hts gX7_letter_X0_size rfl rfl rfl (by decide +kernel) ⟨Nat.le_of_ble_eq_true rfl, Nat.le_of_ble_eq_true rfl⟩) (zpV hP hD hK hS hA hZ [1] rfl rfl 0 1 rfl rfl) rfl rfl hl.1 rfl (lv_room (Nat.le_of_ble_eq_true rfl)) dX7_letter_49 ⟨Nat.zero_le _, Nat.zero_le _⟩) hP hD hS hA [1] [0, 2, 3, 4, 5] [0, 5, 1, 2, 3, 4] rfl rfl rfl (by decide) rfl rfl rfl (fun H locs hP hD hS => ?_)
        obtain ⟨rfl, rfl, rfl, rfl⟩ := zi4 he
        exact W.iret hx hb hr (fun t ht hW => ⟨⟨_, (), rfl, rfl, by rw [ht]; exact hP, va_K.moved hW.alike hK, hD⟩, hS.F ht⟩) hS.2.2 dX7_letter_52
      · have he := zif_f c9 he
        exact (hWW _ _ _ _).mp (hk5 () he) _ _ _ hP hD hS (lv_sub hl [0] rfl)
  · have he := zif_f c1 he
    refine lv_aload_n hx hb dX7_letter_4 rfl (lv_at hl 0 rfl) ?_
    refine lv_bipush (v := (-4 : Int32)) hx hb dX7_letter_5 (by decide) ?_
    obtain ⟨r15, g_refused_all_16, hf17, he⟩ := zb2_e he
    refine zc_i (wr := [(a_this_letters, .inr (0, [.ref a_this_letters_all, .int v_letters_count])), (a_this_letters_all, .inr (1, [.ref a_this_letters_all_all])), (a_this_letters_all_all, .inl (cI, 96, .inl g_letters_all_all))]) (ws' := [(a_this, .inr (7, [.ref a_this_town, .ref a_this_trial, .ref a_this_kept, .int v_isKept, .ref a_this_letters, .ref a_this_told, .int v_toldCount, .ref a_this_refused, .ref a_this_stroll, .ref a_this_reach, .ref a_this_otherReach, .ref a_this_routes, .ref a_this_talks, .ref a_this_hearers])), (a_this_letters, .inr (0, [.ref a_this_letters_all, .int v_letters_count])), (a_this_letters_all, .inr (1, [.ref a_this_letters_all_all])), (a_this_letters_all_all, .inl (cI, 96, .inl g_letters_all_all)), (a_this_refused, .inr (1, [.ref a_this_refused_all])), (a_this_refused_all, .inl (cI, 7, .inl g_refused_all_16))]) (va_runV (As := [.int (-4 : Int32)]) (rest := []) ⟨hx, hb, hml, hown, hts⟩ (k_X_refuse l dC dI cI cZ tt sd a_this a_this_town a_this_trial a_this_kept a_this_letters a_this_told a_this_refused a_this_stroll a_this_reach a_this_otherReach a_this_routes a_this_talks a_this_hearers a_this_refused_all s.heap.size v_isKept v_toldCount g_refused_all (-4 : Int32) r15 g_refused_all_16 hf17) (cwV 1 hts gX7_letter_X7_refuse rfl rfl rfl (by decide +kernel) ⟨Nat.le_of_ble_eq_true rfl, Nat.le_of_ble_eq_true rfl⟩) (zpV hP hD hK hS hA hZ [0, 4, 5] rfl rfl 7 0 rfl rfl) rfl rfl hl.1 rfl (lv_room (Nat.le_of_ble_eq_true rfl)) dX7_letter_7 ⟨Nat.zero_le _, Nat.zero_le _⟩) hP hD hS hA [0, 4, 5] [1, 2, 3] [3, 0, 1, 2, 4, 5] rfl rfl rfl (by decide) rfl rfl rfl (fun H locs hP hD hS => ?_)
    obtain ⟨rfl, rfl, rfl, rfl⟩ := zi4 he
    exact W.iret hx hb hr (fun t ht hW => ⟨⟨_, (), rfl, rfl, by rw [ht]; exact hP, va_K.moved hW.alike hK, hD⟩, hS.F ht⟩) hS.2.2 dX7_letter_10
set_option maxHeartbeats 4000000 in
set_option maxRecDepth 100000 in
theorem k_Numbers_takeOver (l : Launch) (dC : Nat → ClassId) (dI : Nat → Nat → Nat) (cI : ClassId) (cZ : ClassId) (tt : Nat → Nat) (sd : Nat → Nat) (a_p1 : Nat) (a_p1_all : Nat) (a_this : Nat) (a_this_all : Nat) (sz : Nat) (n_p1 : Nat) (n : Nat) (g_p1_all : Nat → Int32) (g_all : Nat → Int32) (w0 : Nat → Int32) (hf : f_Numbers_takeOver n_p1 n g_p1_all g_all = some (w0)) : Met l yX1_takeOver wsX1_takeOver ({ frames := 1, cells := 0, slots := 0, locals := 21 }) (zPre (dC, dI) vwCl [(cI, .int), (cZ, .boolean)] tt sd [.ref a_this, .ref a_p1] [(a_p1, .inr (1, [.ref a_p1_all])), (a_p1_all, .inl (cI, n_p1, .inl g_p1_all)), (a_this, .inr (1, [.ref a_this_all])), (a_this_all, .inl (cI, n, .inl g_all))] sz) (zQv (dC, dI) vwCl [(cI, .int), (cZ, .boolean)] [(a_p1, .inr (1, [.ref a_p1_all])), (a_p1_all, .inl (cI, n_p1, .inl g_p1_all)), (a_this, .inr (1, [.ref a_this_all])), (a_this_all, .inl (cI, n, .inl w0))] (va_A [(a_p1, .inr (1, [.ref a_p1_all])), (a_p1_all, .inl (cI, n_p1, .inl g_p1_all)), (a_this, .inr (1, [.ref a_this_all])), (a_this_all, .inl (cI, n, .inl g_all))] sz)) 0 0 (va_A [(a_p1, .inr (1, [.ref a_p1_all])), (a_p1_all, .inl (cI, n_p1, .inl g_p1_all)), (a_this, .inr (1, [.ref a_this_all])), (a_this_all, .inl (cI, n, .inl g_all))] sz) := by
  refine Met.ofW (cc := cX1_takeOver) (maxL := 3) (ret := none) (by decide) rfl ?_
  intro p e s m args below meth c s₁ B hml hv
  obtain ⟨rfl, hsz, hP, hK, hD0, hZ⟩ := hv
  have hx := B.exec
  have hb := B.bytes
  have hr := B.returns
  have hts := atoms_spec (ws := wsX1_takeOver) B.pre
  have hown : s.vm.findClass RX1 = some m.cls := findClass_of_methodNamed B.named
  have hlocks := B.notSynchronized
  subst hsz
  have hD := hD0.self (sz := s.heap.size)
  generalize hAe : va_A [(a_p1, .inr (1, [.ref a_p1_all])), (a_p1_all, .inl (cI, n_p1, .inl g_p1_all)), (a_this, .inr (1, [.ref a_this_all])), (a_this_all, .inl (cI, n, .inl g_all))] s.heap.size = A at hD hZ ⊢
  have hA : ∀ q : Nat, s.heap.size ≤ q → A q := fun q h => by rw [← hAe]; exact Or.inr h
  have hS : va_S A s.heap s.heap [] := va_S.rf
  have hP : va_P (dC, dI) vwCl [(a_p1, .inr (1, [.ref a_p1_all])), (a_p1_all, .inl (cI, n_p1, .inl g_p1_all)), (a_this, .inr (1, [.ref a_this_all])), (a_this_all, .inl (cI, n, .inl g_all))] s.heap := hP
  have hl := lv_entry ([.ref a_this, .ref a_p1]) (n := 3) (Nat.le_of_ble_eq_true rfl)
  rw [lg_entry_eq]
  generalize (lg_sl ([.ref a_this, .ref a_p1]) ++ List.replicate (3 - (lg_sl ([.ref a_this, .ref a_p1])).length) Slot.unset).toArray = ls at hl ⊢
  have hl : lv_has ls 3 [(0, .ref a_this), (1, .ref a_p1)] := hl
  have he := hf
  unfold f_Numbers_takeOver at he
  refine zstart (D := (dC, dI)) (cl := vwCl) (A := A) (nL := 3) (fun WW hWW => ?_)
  refine lv_iconst (v := (0 : Int32)) hx hb dX1_takeOver_0 (by decide) ?_
  refine lv_istore_n (lv' := [(2, .int (0 : Int32)), (0, .ref a_this), (1, .ref a_p1)]) hx hb dX1_takeOver_1 rfl hl (by decide) rfl (fun ls hl => ?_)
  refine (hWW _ _ _ _).mp (zl2_w he (fun (l2_1 : Int32) (g_all_2 : Nat → Int32) => WW [(a_p1, .inr (1, [.ref a_p1_all])), (a_p1_all, .inl (cI, n_p1, .inl g_p1_all)), (a_this, .inr (1, [.ref a_this_all])), (a_this_all, .inl (cI, n, .inl g_all_2))] [(0, .ref a_this), (1, .ref a_p1), (2, .int l2_1)] 2 []) (fun l2_1 g_all_2 again3 hagain3 he => (hWW _ _ _ _).mpr (fun H locs ls hP hD hS hl => ?_))) _ _ _ hP hD hS (lv_sub hl [1, 2, 0] rfl)
  refine lv_iload_n hx hb dX1_takeOver_2 rfl (lv_at hl 2 rfl) ?_
  refine lv_aload_n hx hb dX1_takeOver_3 rfl (lv_at hl 0 rfl) ?_
  refine va_get (D := (dC, dI)) (ci := 1) (v := .ref a_this_all) (C := RX1) (T := TX1) (N := 1) hx hb hts (by decide +kernel) hown hK hP 2 rfl rfl 0 (by decide) (hts (.fieldLink RX1 13 "LawOfCorners$Numbers" "all" "[I") (by decide +kernel)) (fun _ h9 => h9) rfl dX1_takeOver_4 ?_
  refine va_alen hx hb hK hP 3 0 rfl rfl (v := nI n) rfl dX1_takeOver_7 ?_
  refine lv_icmp_ge (tgt := 28) hx hb dX1_takeOver_8 (by decide) (fun c4 => ?_) (fun c4 => ?_)
  · have he := zif_t c4 he
    obtain ⟨rfl⟩ := zi1 he
    exact W.vret hx hb hr (fun t ht hW => ⟨⟨(), rfl, trivial, by rw [ht]; exact hP, va_K.moved hW.alike hK, hD⟩, hS.F ht⟩) hS.2.2 dX1_takeOver_28
  · have he := zif_f c4 he
    refine lv_aload_n hx hb dX1_takeOver_11 rfl (lv_at hl 0 rfl) ?_
    refine va_get (D := (dC, dI)) (ci := 1) (v := .ref a_this_all) (C := RX1) (T := TX1) (N := 1) hx hb hts (by decide +kernel) hown hK hP 2 rfl rfl 0 (by decide) (hts (.fieldLink RX1 13 "LawOfCorners$Numbers" "all" "[I") (by decide +kernel)) (fun _ h9 => h9) rfl dX1_takeOver_12 ?_
    refine lv_iload_n hx hb dX1_takeOver_15 rfl (lv_at hl 2 rfl) ?_
    refine lv_aload_n hx hb dX1_takeOver_16 rfl (lv_at hl 1 rfl) ?_
    refine lv_iload_n hx hb dX1_takeOver_17 rfl (lv_at hl 2 rfl) ?_
    obtain ⟨r5, hf6, he⟩ := zb1_e he
    refine zc_i (wr := [(a_this, .inr (1, [.ref a_this_all])), (a_this_all, .inl (cI, n, .inl g_all_2))]) (ws' := [(a_p1, .inr (1, [.ref a_p1_all])), (a_p1_all, .inl (cI, n_p1, .inl g_p1_all)), (a_this, .inr (1, [.ref a_this_all])), (a_this_all, .inl (cI, n, .inl g_all_2))]) (va_runV (As := [.int l2_1]) (rest := [.int l2_1, .ref a_this_all]) ⟨hx, hb, hml, hown, hts⟩ (k_Numbers_at l dC dI cI cZ tt sd a_p1 a_p1_all H.size n_p1 g_p1_all l2_1 r5 hf6) (cwV 1 hts gX1_takeOver_X1_at rfl rfl rfl (by decide +kernel) ⟨Nat.le_of_ble_eq_true rfl, Nat.le_of_ble_eq_true rfl⟩) (zpV hP hD hK hS hA hZ [0, 1] rfl rfl 1 0 rfl rfl) rfl rfl hl.1 rfl (lv_room (Nat.le_of_ble_eq_true rfl)) dX1_takeOver_18 ⟨Nat.zero_le _, Nat.zero_le _⟩) hP hD hS hA [0, 1] [2, 3] [2, 3, 0, 1] rfl rfl rfl (by decide) rfl rfl rfl (fun H locs hP hD hS => ?_)
    obtain ⟨hg7, he⟩ := zg_e he
    refine va_iast hx hb hK hP hD hS 3 0 rfl rfl hg7 dX1_takeOver_21 (fun H locs hP hD hS => ?_)
    obtain ⟨g8, eg8⟩ : ∃ y : Nat → Int32, y = upd g_all_2 l2_1.toNatClampNeg r5 := ⟨_, rfl⟩
    have he := zn_e eg8 he
    have hP : va_P (dC, dI) vwCl [(a_p1, .inr (1, [.ref a_p1_all])), (a_p1_all, .inl (cI, n_p1, .inl g_p1_all)), (a_this, .inr (1, [.ref a_this_all])), (a_this_all, .inl (cI, n, .inl g8))] H := by rw [eg8]; exact hP
    have hD : va_D A [(a_p1, .inr (1, [.ref a_p1_all])), (a_p1_all, .inl (cI, n_p1, .inl g_p1_all)), (a_this, .inr (1, [.ref a_this_all])), (a_this_all, .inl (cI, n, .inl g8))] := by rw [eg8]; exact hD
    obtain ⟨x9, ex9⟩ : ∃ y : Int32, y = l2_1 + (1 : Int32) := ⟨_, rfl⟩
    have he := zn_e ex9 he
    refine lv_iinc (v := x9) (lv' := [(2, .int x9), (0, .ref a_this), (1, .ref a_p1)]) hx hb dX1_takeOver_22 hl (k := 2) rfl (by rw [ex9]; rfl) (by decide) rfl (fun ls hl => ?_)
    refine lv_goto (tgt := 2) hx hb dX1_takeOver_25 (by decide) ?_
    exact (hWW _ _ _ _).mp (hagain3 x9 g8 he) _ _ _ hP hD hS (lv_sub hl [1, 2, 0] rfl)
set_option maxHeartbeats 4000000 in
set_option maxRecDepth 100000 in
theorem k_Town_takeOver (l : Launch) (dC : Nat → ClassId) (dI : Nat → Nat → Nat) (cI : ClassId) (cZ : ClassId) (tt : Nat → Nat) (sd : Nat → Nat) (a_p1 : Nat) (a_p1_kinds : Nat) (a_p1_kinds_all : Nat) (a_this : Nat) (a_this_kinds : Nat) (a_this_kinds_all : Nat) (sz : Nat) (v_p1_home : Int32) (v_p1_fine : Int32) (v_p1_breath : Int32) (g_p1_kinds_all : Nat → Int32) (v_home : Int32) (v_fine : Int32) (v_breath : Int32) (g_kinds_all : Nat → Int32) (w0 : Int32) (w1 : Int32) (w2 : Int32) (w3 : Nat → Int32) (hf : f_Town_takeOver v_p1_breath v_p1_fine v_p1_home g_p1_kinds_all v_breath v_fine v_home g_kinds_all = some (w0, w1, w2, w3)) : Met l yX6_takeOver wsX6_takeOver ({ frames := 2, cells := 0, slots := 0, locals := 43 }) (zPre (dC, dI) vwCl [(cI, .int), (cZ, .boolean)] tt sd [.ref a_this, .ref a_p1] [(a_p1, .inr (6, [.ref a_p1_kinds, .int v_p1_home, .int v_p1_fine, .int v_p1_breath])), (a_p1_kinds, .inr (1, [.ref a_p1_kinds_all])), (a_p1_kinds_all, .inl (cI, 36, .inl g_p1_kinds_all)), (a_this, .inr (6, [.ref a_this_kinds, .int v_home, .int v_fine, .int v_breath])), (a_this_kinds, .inr (1, [.ref a_this_kinds_all])), (a_this_kinds_all, .inl (cI, 36, .inl g_kinds_all))] sz) (zQv (dC, dI) vwCl [(cI, .int), (cZ, .boolean)] [(a_p1, .inr (6, [.ref a_p1_kinds, .int v_p1_home, .int v_p1_fine, .int v_p1_breath])), (a_p1_kinds, .inr (1, [.ref a_p1_kinds_all])), (a_p1_kinds_all, .inl (cI, 36, .inl g_p1_kinds_all)), (a_this, .inr (6, [.ref a_this_kinds, .int w2, .int w1, .int w0])), (a_this_kinds, .inr (1, [.ref a_this_kinds_all])), (a_this_kinds_all, .inl (cI, 36, .inl w3))] (va_A [(a_p1, .inr (6, [.ref a_p1_kinds, .int v_p1_home, .int v_p1_fine, .int v_p1_breath])), (a_p1_kinds, .inr (1, [.ref a_p1_kinds_all])), (a_p1_kinds_all, .inl (cI, 36, .inl g_p1_kinds_all)), (a_this, .inr (6, [.ref a_this_kinds, .int v_home, .int v_fine, .int v_breath])), (a_this_kinds, .inr (1, [.ref a_this_kinds_all])), (a_this_kinds_all, .inl (cI, 36, .inl g_kinds_all))] sz)) 0 0 (va_A [(a_p1, .inr (6, [.ref a_p1_kinds, .int v_p1_home, .int v_p1_fine, .int v_p1_breath])), (a_p1_kinds, .inr (1, [.ref a_p1_kinds_all])), (a_p1_kinds_all, .inl (cI, 36, .inl g_p1_kinds_all)), (a_this, .inr (6, [.ref a_this_kinds, .int v_home, .int v_fine, .int v_breath])), (a_this_kinds, .inr (1, [.ref a_this_kinds_all])), (a_this_kinds_all, .inl (cI, 36, .inl g_kinds_all))] sz) := by
  refine Met.ofW (cc := cX6_takeOver) (maxL := 2) (ret := none) (by decide) rfl ?_
  intro p e s m args below meth c s₁ B hml hv
  obtain ⟨rfl, hsz, hP, hK, hD0, hZ⟩ := hv
  have hx := B.exec
  have hb := B.bytes
  have hr := B.returns
  have hts := atoms_spec (ws := wsX6_takeOver) B.pre
  have hown : s.vm.findClass RX6 = some m.cls := findClass_of_methodNamed B.named
  have hlocks := B.notSynchronized
  subst hsz
  have hD := hD0.self (sz := s.heap.size)
  generalize hAe : va_A [(a_p1, .inr (6, [.ref a_p1_kinds, .int v_p1_home, .int v_p1_fine, .int v_p1_breath])), (a_p1_kinds, .inr (1, [.ref a_p1_kinds_all])), (a_p1_kinds_all, .inl (cI, 36, .inl g_p1_kinds_all)), (a_this, .inr (6, [.ref a_this_kinds, .int v_home, .int v_fine, .int v_breath])), (a_this_kinds, .inr (1, [.ref a_this_kinds_all])), (a_this_kinds_all, .inl (cI, 36, .inl g_kinds_all))] s.heap.size = A at hD hZ ⊢
  have hA : ∀ q : Nat, s.heap.size ≤ q → A q := fun q h => by rw [← hAe]; exact Or.inr h
  have hS : va_S A s.heap s.heap [] := va_S.rf
  have hP : va_P (dC, dI) vwCl [(a_p1, .inr (6, [.ref a_p1_kinds, .int v_p1_home, .int v_p1_fine, .int v_p1_breath])), (a_p1_kinds, .inr (1, [.ref a_p1_kinds_all])), (a_p1_kinds_all, .inl (cI, 36, .inl g_p1_kinds_all)), (a_this, .inr (6, [.ref a_this_kinds, .int v_home, .int v_fine, .int v_breath])), (a_this_kinds, .inr (1, [.ref a_this_kinds_all])), (a_this_kinds_all, .inl (cI, 36, .inl g_kinds_all))] s.heap := hP
  have hl := lv_entry ([.ref a_this, .ref a_p1]) (n := 2) (Nat.le_of_ble_eq_true rfl)
  rw [lg_entry_eq]
  generalize (lg_sl ([.ref a_this, .ref a_p1]) ++ List.replicate (2 - (lg_sl ([.ref a_this, .ref a_p1])).length) Slot.unset).toArray = ls at hl ⊢
  have hl : lv_has ls 2 [(0, .ref a_this), (1, .ref a_p1)] := hl
  have he := hf
  unfold f_Town_takeOver at he
  refine lv_aload_n hx hb dX6_takeOver_0 rfl (lv_at hl 0 rfl) ?_
  refine va_get (D := (dC, dI)) (ci := 6) (v := .ref a_this_kinds) (C := RX6) (T := TX6) (N := 4) hx hb hts (by decide +kernel) hown hK hP 3 rfl rfl 0 (by decide) (hts (.fieldLink RX6 14 "LawOfCorners$Town" "kinds" "LLawOfCorners$Numbers;") (by decide +kernel)) (fun _ h9 => h9) rfl dX6_takeOver_1 ?_
  refine lv_aload_n hx hb dX6_takeOver_4 rfl (lv_at hl 1 rfl) ?_
  refine va_get (D := (dC, dI)) (ci := 6) (v := .ref a_p1_kinds) (C := RX6) (T := TX6) (N := 4) hx hb hts (by decide +kernel) hown hK hP 0 rfl rfl 0 (by decide) (hts (.fieldLink RX6 14 "LawOfCorners$Town" "kinds" "LLawOfCorners$Numbers;") (by decide +kernel)) (fun _ h9 => h9) rfl dX6_takeOver_5 ?_
  obtain ⟨g_kinds_all_1, hf2, he⟩ := zb1_e he
  refine zc_v (wr := [(a_p1, .inr (6, [.ref a_p1_kinds, .int v_p1_home, .int v_p1_fine, .int v_p1_breath])), (a_this, .inr (6, [.ref a_this_kinds, .int v_home, .int v_fine, .int v_breath]))]) (ws' := [(a_p1, .inr (6, [.ref a_p1_kinds, .int v_p1_home, .int v_p1_fine, .int v_p1_breath])), (a_p1_kinds, .inr (1, [.ref a_p1_kinds_all])), (a_p1_kinds_all, .inl (cI, 36, .inl g_p1_kinds_all)), (a_this, .inr (6, [.ref a_this_kinds, .int v_home, .int v_fine, .int v_breath])), (a_this_kinds, .inr (1, [.ref a_this_kinds_all])), (a_this_kinds_all, .inl (cI, 36, .inl g_kinds_all_1))]) (va_runV (As := [.ref a_p1_kinds]) (rest := []) ⟨hx, hb, hml, hown, hts⟩ (k_Numbers_takeOver l dC dI cI cZ tt sd a_p1_kinds a_p1_kinds_all a_this_kinds a_this_kinds_all s.heap.size 36 36 g_p1_kinds_all g_kinds_all g_kinds_all_1 hf2) (cwV 1 hts gX6_takeOver_X1_takeOver rfl rfl rfl (by decide +kernel) ⟨Nat.le_of_ble_eq_true rfl, Nat.le_of_ble_eq_true rfl⟩) (zpV hP hD hK hS hA hZ [1, 2, 4, 5] rfl rfl 1 4 rfl rfl) rfl rfl hl.1 rfl (lv_room (Nat.le_of_ble_eq_true rfl)) dX6_takeOver_8 ⟨Nat.zero_le _, Nat.zero_le _⟩) hP hD hS hA [1, 2, 4, 5] [0, 3] [0, 2, 3, 1, 4, 5] rfl rfl rfl (by decide) rfl rfl rfl (fun H locs hP hD hS => ?_)
  refine lv_aload_n hx hb dX6_takeOver_11 rfl (lv_at hl 0 rfl) ?_
  refine lv_aload_n hx hb dX6_takeOver_12 rfl (lv_at hl 1 rfl) ?_
  refine va_get (D := (dC, dI)) (ci := 6) (v := .int v_p1_home) (C := RX6) (T := TX6) (N := 4) hx hb hts (by decide +kernel) hown hK hP 0 rfl rfl 1 (by decide) (hts (.fieldLink RX6 20 "LawOfCorners$Town" "home" "I") (by decide +kernel)) (fun _ h9 => h9) rfl dX6_takeOver_13 ?_
  refine va_put (D := (dC, dI)) (ci := 6) (v := .int v_p1_home) (ty := .int) (C := RX6) (T := TX6) (N := 4) hx hb hts (by decide +kernel) tyX6 tyX6_ok nmX6 hown hK hP hD hS 3 rfl rfl 1 (by decide) (hts (.fieldLink RX6 20 "LawOfCorners$Town" "home" "I") (by decide +kernel)) (fun _ h9 => h9) rfl (by decide +kernel) rfl rfl (Nat.le_of_ble_eq_true rfl) dX6_takeOver_16 (fun H locs hP hD hS => ?_)
  have hP : va_P (dC, dI) vwCl [(a_p1, .inr (6, [.ref a_p1_kinds, .int v_p1_home, .int v_p1_fine, .int v_p1_breath])), (a_p1_kinds, .inr (1, [.ref a_p1_kinds_all])), (a_p1_kinds_all, .inl (cI, 36, .inl g_p1_kinds_all)), (a_this, .inr (6, [.ref a_this_kinds, .int v_p1_home, .int v_fine, .int v_breath])), (a_this_kinds, .inr (1, [.ref a_this_kinds_all])), (a_this_kinds_all, .inl (cI, 36, .inl g_kinds_all_1))] H := hP
  have hD : va_D A [(a_p1, .inr (6, [.ref a_p1_kinds, .int v_p1_home, .int v_p1_fine, .int v_p1_breath])), (a_p1_kinds, .inr (1, [.ref a_p1_kinds_all])), (a_p1_kinds_all, .inl (cI, 36, .inl g_p1_kinds_all)), (a_this, .inr (6, [.ref a_this_kinds, .int v_p1_home, .int v_fine, .int v_breath])), (a_this_kinds, .inr (1, [.ref a_this_kinds_all])), (a_this_kinds_all, .inl (cI, 36, .inl g_kinds_all_1))] := hD
  refine lv_aload_n hx hb dX6_takeOver_19 rfl (lv_at hl 0 rfl) ?_
  refine lv_aload_n hx hb dX6_takeOver_20 rfl (lv_at hl 1 rfl) ?_
  refine va_get (D := (dC, dI)) (ci := 6) (v := .int v_p1_fine) (C := RX6) (T := TX6) (N := 4) hx hb hts (by decide +kernel) hown hK hP 0 rfl rfl 2 (by decide) (hts (.fieldLink RX6 24 "LawOfCorners$Town" "fine" "I") (by decide +kernel)) (fun _ h9 => h9) rfl dX6_takeOver_21 ?_
  refine va_put (D := (dC, dI)) (ci := 6) (v := .int v_p1_fine) (ty := .int) (C := RX6) (T := TX6) (N := 4) hx hb hts (by decide +kernel) tyX6 tyX6_ok nmX6 hown hK hP hD hS 3 rfl rfl 2 (by decide) (hts (.fieldLink RX6 24 "LawOfCorners$Town" "fine" "I") (by decide +kernel)) (fun _ h9 => h9) rfl (by decide +kernel) rfl rfl (Nat.le_of_ble_eq_true rfl) dX6_takeOver_24 (fun H locs hP hD hS => ?_)
  have hP : va_P (dC, dI) vwCl [(a_p1, .inr (6, [.ref a_p1_kinds, .int v_p1_home, .int v_p1_fine, .int v_p1_breath])), (a_p1_kinds, .inr (1, [.ref a_p1_kinds_all])), (a_p1_kinds_all, .inl (cI, 36, .inl g_p1_kinds_all)), (a_this, .inr (6, [.ref a_this_kinds, .int v_p1_home, .int v_p1_fine, .int v_breath])), (a_this_kinds, .inr (1, [.ref a_this_kinds_all])), (a_this_kinds_all, .inl (cI, 36, .inl g_kinds_all_1))] H := hP
  have hD : va_D A [(a_p1, .inr (6, [.ref a_p1_kinds, .int v_p1_home, .int v_p1_fine, .int v_p1_breath])), (a_p1_kinds, .inr (1, [.ref a_p1_kinds_all])), (a_p1_kinds_all, .inl (cI, 36, .inl g_p1_kinds_all)), (a_this, .inr (6, [.ref a_this_kinds, .int v_p1_home, .int v_p1_fine, .int v_breath])), (a_this_kinds, .inr (1, [.ref a_this_kinds_all])), (a_this_kinds_all, .inl (cI, 36, .inl g_kinds_all_1))] := hD
  refine lv_aload_n hx hb dX6_takeOver_27 rfl (lv_at hl 0 rfl) ?_
  refine lv_aload_n hx hb dX6_takeOver_28 rfl (lv_at hl 1 rfl) ?_
  refine va_get (D := (dC, dI)) (ci := 6) (v := .int v_p1_breath) (C := RX6) (T := TX6) (N := 4) hx hb hts (by decide +kernel) hown hK hP 0 rfl rfl 3 (by decide) (hts (.fieldLink RX6 27 "LawOfCorners$Town" "breath" "I") (by decide +kernel)) (fun _ h9 => h9) rfl dX6_takeOver_29 ?_
  refine va_put (D := (dC, dI)) (ci := 6) (v := .int v_p1_breath) (ty := .int) (C := RX6) (T := TX6) (N := 4) hx hb hts (by decide +kernel) tyX6 tyX6_ok nmX6 hown hK hP hD hS 3 rfl rfl 3 (by decide) (hts (.fieldLink RX6 27 "LawOfCorners$Town" "breath" "I") (by decide +kernel)) (fun _ h9 => h9) rfl (by decide +kernel) rfl rfl (Nat.le_of_ble_eq_true rfl) dX6_takeOver_32 (fun H locs hP hD hS => ?_)
  have hP : va_P (dC, dI) vwCl [(a_p1, .inr (6, [.ref a_p1_kinds, .int v_p1_home, .int v_p1_fine, .int v_p1_breath])), (a_p1_kinds, .inr (1, [.ref a_p1_kinds_all])), (a_p1_kinds_all, .inl (cI, 36, .inl g_p1_kinds_all)), (a_this, .inr (6, [.ref a_this_kinds, .int v_p1_home, .int v_p1_fine, .int v_p1_breath])), (a_this_kinds, .inr (1, [.ref a_this_kinds_all])), (a_this_kinds_all, .inl (cI, 36, .inl g_kinds_all_1))] H := hP
  have hD : va_D A [(a_p1, .inr (6, [.ref a_p1_kinds, .int v_p1_home, .int v_p1_fine, .int v_p1_breath])), (a_p1_kinds, .inr (1, [.ref a_p1_kinds_all])), (a_p1_kinds_all, .inl (cI, 36, .inl g_p1_kinds_all)), (a_this, .inr (6, [.ref a_this_kinds, .int v_p1_home, .int v_p1_fine, .int v_p1_breath])), (a_this_kinds, .inr (1, [.ref a_this_kinds_all])), (a_this_kinds_all, .inl (cI, 36, .inl g_kinds_all_1))] := hD
  obtain ⟨rfl, rfl, rfl, rfl⟩ := zi4 he
  exact W.vret hx hb hr (fun t ht hW => ⟨⟨(), rfl, trivial, by rw [ht]; exact hP, va_K.moved hW.alike hK, hD⟩, hS.F ht⟩) hS.2.2 dX6_takeOver_35
set_option maxHeartbeats 4000000 in
set_option maxRecDepth 100000 in
theorem k_Letters_formOf (l : Launch) (dC : Nat → ClassId) (dI : Nat → Nat → Nat) (cI : ClassId) (cZ : ClassId) (tt : Nat → Nat) (sd : Nat → Nat) (sz : Nat) (p0 : Int32) (r0 : Nat) (hf : f_Letters_formOf p0 = some (r0)) : Met l yX0_formOf wsX0_formOf ({ frames := 0, cells := 0, slots := 0, locals := 0 }) (zPre (dC, dI) vwCl [(cI, .int), (cZ, .boolean)] tt sd [.int p0] [] sz) (zQs (dC, dI) vwCl [(cI, .int), (cZ, .boolean)] (sd r0) [] (va_A [] sz)) 0 0 (va_A [] sz) := by
  refine Met.ofW (cc := cX0_formOf) (maxL := 1) (ret := (some (.object "java/lang/String"))) (by decide) rfl ?_
  intro p e s m args below meth c s₁ B hml hv
  obtain ⟨rfl, hsz, hP, hK, hD0, hZ⟩ := hv
  have hx := B.exec
  have hb := B.bytes
  have hr := B.returns
  have hts := atoms_spec (ws := wsX0_formOf) B.pre
  have hown : s.vm.findClass RX0 = some m.cls := findClass_of_methodNamed B.named
  have hlocks := B.notSynchronized
  subst hsz
  have hD := hD0.self (sz := s.heap.size)
  generalize hAe : va_A [] s.heap.size = A at hD hZ ⊢
  have hA : ∀ q : Nat, s.heap.size ≤ q → A q := fun q h => by rw [← hAe]; exact Or.inr h
  have hS : va_S A s.heap s.heap [] := va_S.rf
  have hP : va_P (dC, dI) vwCl [] s.heap := hP
  have hl := lv_entry ([.int p0]) (n := 1) (Nat.le_of_ble_eq_true rfl)
  rw [lg_entry_eq]
  generalize (lg_sl ([.int p0]) ++ List.replicate (1 - (lg_sl ([.int p0])).length) Slot.unset).toArray = ls at hl ⊢
  have hl : lv_has ls 1 [(0, .int p0)] := hl
  have he := hf
  unfold f_Letters_formOf at he
  refine lv_iload_n hx hb dX0_formOf_0 rfl (lv_at hl 0 rfl) ?_
  by_cases c1 : p0 = (98 : Int32)
  · have he := zif_t c1 he
    refine lv_lookup (off := 63) (tgt := 64) hx hb dX0_formOf_1 (by decide) (by rw [c1]; rfl) (by decide) ?_
    refine va_ldcS hx hb hown (zZ_S3 hZ) dX0_formOf_64 ?_
    obtain ⟨rfl⟩ := zi1 he
    exact W.aret hx hb hr (Or.inl ⟨_, rfl⟩) (Or.inr ⟨_, rfl⟩) (fun t ht hW => ⟨⟨(), _, rfl, trivial, rfl, by rw [ht]; exact hP, va_K.moved hW.alike hK, hD⟩, hS.F ht⟩) hS.2.2 dX0_formOf_66
  have he := zif_f c1 he
  by_cases c2 : p0 = (102 : Int32)
  · have he := zif_t c2 he
    refine lv_lookup (off := 60) (tgt := 61) hx hb dX0_formOf_1 (by decide) (by rw [c2]; rfl) (by decide) ?_
    refine va_ldcS hx hb hown (zZ_S3 hZ) dX0_formOf_61 ?_
    obtain ⟨rfl⟩ := zi1 he
    exact W.aret hx hb hr (Or.inl ⟨_, rfl⟩) (Or.inr ⟨_, rfl⟩) (fun t ht hW => ⟨⟨(), _, rfl, trivial, rfl, by rw [ht]; exact hP, va_K.moved hW.alike hK, hD⟩, hS.F ht⟩) hS.2.2 dX0_formOf_63
  have he := zif_f c2 he
  by_cases c3 : p0 = (104 : Int32)
  · have he := zif_t c3 he
    refine lv_lookup (off := 57) (tgt := 58) hx hb dX0_formOf_1 (by decide) (by rw [c3]; rfl) (by decide) ?_
    refine va_ldcS hx hb hown (zZ_S2 hZ) dX0_formOf_58 ?_
    obtain ⟨rfl⟩ := zi1 he
    exact W.aret hx hb hr (Or.inl ⟨_, rfl⟩) (Or.inr ⟨_, rfl⟩) (fun t ht hW => ⟨⟨(), _, rfl, trivial, rfl, by rw [ht]; exact hP, va_K.moved hW.alike hK, hD⟩, hS.F ht⟩) hS.2.2 dX0_formOf_60
  have he := zif_f c3 he
  by_cases c4 : p0 = (107 : Int32)
  · have he := zif_t c4 he
    refine lv_lookup (off := 51) (tgt := 52) hx hb dX0_formOf_1 (by decide) (by rw [c4]; rfl) (by decide) ?_
    refine va_ldcS hx hb hown (zZ_S0 hZ) dX0_formOf_52 ?_
    obtain ⟨rfl⟩ := zi1 he
    exact W.aret hx hb hr (Or.inl ⟨_, rfl⟩) (Or.inr ⟨_, rfl⟩) (fun t ht hW => ⟨⟨(), _, rfl, trivial, rfl, by rw [ht]; exact hP, va_K.moved hW.alike hK, hD⟩, hS.F ht⟩) hS.2.2 dX0_formOf_54
  have he := zif_f c4 he
  by_cases c5 : p0 = (118 : Int32)
  · have he := zif_t c5 he
    refine lv_lookup (off := 54) (tgt := 55) hx hb dX0_formOf_1 (by decide) (by rw [c5]; rfl) (by decide) ?_
    refine va_ldcS hx hb hown (zZ_S1 hZ) dX0_formOf_55 ?_
    obtain ⟨rfl⟩ := zi1 he
    exact W.aret hx hb hr (Or.inl ⟨_, rfl⟩) (Or.inr ⟨_, rfl⟩) (fun t ht hW => ⟨⟨(), _, rfl, trivial, rfl, by rw [ht]; exact hP, va_K.moved hW.alike hK, hD⟩, hS.F ht⟩) hS.2.2 dX0_formOf_57
  have he := zif_f c5 he
  refine lv_lookup (off := 66) (tgt := 67) hx hb dX0_formOf_1 (by decide) (by show Op.lookupswitch.offset [(98, 63), (102, 60), (104, 57), (107, 51), (118, 54)] (66) _ = _; rw [lv_osw c1 (by decide), lv_osw c2 (by decide), lv_osw c3 (by decide), lv_osw c4 (by decide), lv_osw c5 (by decide)]; rfl) (by decide) ?_
  refine va_ldcS hx hb hown (zZ_S4 hZ) dX0_formOf_67 ?_
  obtain ⟨rfl⟩ := zi1 he
  exact W.aret hx hb hr (Or.inl ⟨_, rfl⟩) (Or.inr ⟨_, rfl⟩) (fun t ht hW => ⟨⟨(), _, rfl, trivial, rfl, by rw [ht]; exact hP, va_K.moved hW.alike hK, hD⟩, hS.F ht⟩) hS.2.2 dX0_formOf_69
set_option maxHeartbeats 4000000 in
set_option maxRecDepth 100000 in
theorem k_String_isEmpty (l : Launch) (dC : Nat → ClassId) (dI : Nat → Nat → Nat) (cI : ClassId) (cZ : ClassId) (tt : Nat → Nat) (sd : Nat → Nat) (sz : Nat) (p0 : Nat) (r0 : Int32) (hf : f_String_isEmpty p0 = some (r0)) : Met l yJ0_isEmpty_aae02 wsJ0_isEmpty_aae02 ({ frames := 0, cells := 0, slots := 0, locals := 0 }) (zPre (dC, dI) vwCl [(cI, .int), (cZ, .boolean)] tt sd [.ref (sd p0)] [] sz) (zQi (dC, dI) vwCl [(cI, .int), (cZ, .boolean)] r0 [] (va_A [] sz)) 0 0 (va_A [] sz) := by
  refine Met.ofW (cc := cJ0_isEmpty_aae02) (maxL := 1) (ret := (some .boolean)) (by decide) rfl ?_
  intro p e s m args below meth c s₁ B hml hv
  obtain ⟨rfl, hsz, hP, hK, hD0, hZ⟩ := hv
  have hx := B.exec
  have hb := B.bytes
  have hr := B.returns
  have hts := atoms_spec (ws := wsJ0_isEmpty_aae02) B.pre
  have hown : s.vm.findClass RJ0 = some m.cls := findClass_of_methodNamed B.named
  have hlocks := B.notSynchronized
  subst hsz
  have hD := hD0.self (sz := s.heap.size)
  generalize hAe : va_A [] s.heap.size = A at hD hZ ⊢
  have hA : ∀ q : Nat, s.heap.size ≤ q → A q := fun q h => by rw [← hAe]; exact Or.inr h
  have hS : va_S A s.heap s.heap [] := va_S.rf
  have hP : va_P (dC, dI) vwCl [] s.heap := hP
  have hl := lv_entry ([.ref (sd p0)]) (n := 1) (Nat.le_of_ble_eq_true rfl)
  rw [lg_entry_eq]
  generalize (lg_sl ([.ref (sd p0)]) ++ List.replicate (1 - (lg_sl ([.ref (sd p0)])).length) Slot.unset).toArray = ls at hl ⊢
  have hl : lv_has ls 1 [(0, .ref (sd p0))] := hl
  have he := hf
  unfold f_String_isEmpty at he
  refine lv_aload_n hx hb dJ0_isEmpty_aae02_0 rfl (lv_at hl 0 rfl) ?_
  obtain ⟨hg1, he⟩ := zg_e he
  refine vk_getf hx hb (zZ_K hZ hg1).2.2.1 hS hown (hts (.fieldLink RJ0 9 "java/lang/String" "value" "[B") (by decide +kernel)) (fun _ h9 => h9) dJ0_isEmpty_aae02_1 ?_
  obtain ⟨hg2, he⟩ := zg_e he
  refine va_tlen hx hb (zZ_K hZ hg2).2.2.2 hS (v := nI (zSL p0)) rfl dJ0_isEmpty_aae02_4 ?_
  refine lv_if_ne (tgt := 12) hx hb dJ0_isEmpty_aae02_5 (by decide) (fun c3 => ?_) (fun c3 => ?_)
  · have he := zif_f c3 he
    refine lv_iconst (v := (0 : Int32)) hx hb dJ0_isEmpty_aae02_12 (by decide) ?_
    obtain ⟨rfl⟩ := zi1 he
    exact W.zret hx hb hr rfl (fun t ht hW => ⟨⟨_, (), rfl, rfl, by rw [ht]; exact hP, va_K.moved hW.alike hK, hD⟩, hS.F ht⟩) hS.2.2 dJ0_isEmpty_aae02_13
  · have he := zif_t c3 he
    refine lv_iconst (v := (1 : Int32)) hx hb dJ0_isEmpty_aae02_8 (by decide) ?_
    refine lv_goto (tgt := 13) hx hb dJ0_isEmpty_aae02_9 (by decide) ?_
    obtain ⟨rfl⟩ := zi1 he
    exact W.zret hx hb hr rfl (fun t ht hW => ⟨⟨_, (), rfl, rfl, by rw [ht]; exact hP, va_K.moved hW.alike hK, hD⟩, hS.F ht⟩) hS.2.2 dJ0_isEmpty_aae02_13
set_option maxHeartbeats 4000000 in
set_option maxRecDepth 100000 in
theorem k_String_coder (l : Launch) (dC : Nat → ClassId) (dI : Nat → Nat → Nat) (cI : ClassId) (cZ : ClassId) (tt : Nat → Nat) (sd : Nat → Nat) (sz : Nat) (p0 : Nat) (r0 : Int32) (hf : f_String_coder p0 = some (r0)) : Met l yJ0_coder_7d493 wsJ0_coder_7d493 ({ frames := 0, cells := 0, slots := 0, locals := 0 }) (zPre (dC, dI) vwCl [(cI, .int), (cZ, .boolean)] tt sd [.ref (sd p0)] [] sz) (zQi (dC, dI) vwCl [(cI, .int), (cZ, .boolean)] r0 [] (va_A [] sz)) 0 0 (va_A [] sz) := by
  refine Met.ofW (cc := cJ0_coder_7d493) (maxL := 1) (ret := (some .byte)) (by decide) rfl ?_
  intro p e s m args below meth c s₁ B hml hv
  obtain ⟨rfl, hsz, hP, hK, hD0, hZ⟩ := hv
  have hx := B.exec
  have hb := B.bytes
  have hr := B.returns
  have hts := atoms_spec (ws := wsJ0_coder_7d493) B.pre
  have hown : s.vm.findClass RJ0 = some m.cls := findClass_of_methodNamed B.named
  have hlocks := B.notSynchronized
  subst hsz
  have hD := hD0.self (sz := s.heap.size)
  generalize hAe : va_A [] s.heap.size = A at hD hZ ⊢
  have hA : ∀ q : Nat, s.heap.size ≤ q → A q := fun q h => by rw [← hAe]; exact Or.inr h
  have hS : va_S A s.heap s.heap [] := va_S.rf
  have hP : va_P (dC, dI) vwCl [] s.heap := hP
  have hl := lv_entry ([.ref (sd p0)]) (n := 1) (Nat.le_of_ble_eq_true rfl)
  rw [lg_entry_eq]
  generalize (lg_sl ([.ref (sd p0)]) ++ List.replicate (1 - (lg_sl ([.ref (sd p0)])).length) Slot.unset).toArray = ls at hl ⊢
  have hl : lv_has ls 1 [(0, .ref (sd p0))] := hl
  have he := hf
  unfold f_String_coder at he
  refine va_gets hx hb (zZ_C hZ) hS hown (hts (.fieldLink RJ0 38 "java/lang/String" "COMPACT_STRINGS" "Z") (by decide +kernel)) (fun _ h9 => h9) dJ0_coder_7d493_0 ?_
  refine lv_if_eq (tgt := 13) hx hb dJ0_coder_7d493_3 (by decide) (fun c1 => ?_) (fun c1 => ?_)
  · have he := zif_t c1 he
    refine lv_iconst (v := (1 : Int32)) hx hb dJ0_coder_7d493_13 (by decide) ?_
    obtain ⟨hg2, he⟩ := zg_e he
    obtain ⟨rfl⟩ := zi1 he
    exact W.zret hx hb hr (zbyte_n hg2) (fun t ht hW => ⟨⟨_, (), rfl, rfl, by rw [ht]; exact hP, va_K.moved hW.alike hK, hD⟩, hS.F ht⟩) hS.2.2 dJ0_coder_7d493_14
  · have he := zif_f c1 he
    refine lv_aload_n hx hb dJ0_coder_7d493_6 rfl (lv_at hl 0 rfl) ?_
    obtain ⟨hg3, he⟩ := zg_e he
    refine vk_getf hx hb (zZ_K hZ hg3).2.1 hS hown (hts (.fieldLink RJ0 15 "java/lang/String" "coder" "B") (by decide +kernel)) (fun _ h9 => h9) dJ0_coder_7d493_7 ?_
    refine lv_goto (tgt := 14) hx hb dJ0_coder_7d493_10 (by decide) ?_
    obtain ⟨hg4, he⟩ := zg_e he
    obtain ⟨rfl⟩ := zi1 he
    exact W.zret hx hb hr (zbyte_n hg4) (fun t ht hW => ⟨⟨_, (), rfl, rfl, by rw [ht]; exact hP, va_K.moved hW.alike hK, hD⟩, hS.F ht⟩) hS.2.2 dJ0_coder_7d493_14
set_option maxHeartbeats 4000000 in
set_option maxRecDepth 100000 in
theorem k_String_length (l : Launch) (dC : Nat → ClassId) (dI : Nat → Nat → Nat) (cI : ClassId) (cZ : ClassId) (tt : Nat → Nat) (sd : Nat → Nat) (sz : Nat) (p0 : Nat) (r0 : Int32) (hf : f_String_length p0 = some (r0)) : Met l yJ0_length_8abf5 wsJ0_length_8abf5 ({ frames := 1, cells := 0, slots := 0, locals := 20 }) (zPre (dC, dI) vwCl [(cI, .int), (cZ, .boolean)] tt sd [.ref (sd p0)] [] sz) (zQi (dC, dI) vwCl [(cI, .int), (cZ, .boolean)] r0 [] (va_A [] sz)) 0 0 (va_A [] sz) := by
  refine Met.ofW (cc := cJ0_length_8abf5) (maxL := 1) (ret := (some .int)) (by decide) rfl ?_
  intro p e s m args below meth c s₁ B hml hv
  obtain ⟨rfl, hsz, hP, hK, hD0, hZ⟩ := hv
  have hx := B.exec
  have hb := B.bytes
  have hr := B.returns
  have hts := atoms_spec (ws := wsJ0_length_8abf5) B.pre
  have hown : s.vm.findClass RJ0 = some m.cls := findClass_of_methodNamed B.named
  have hlocks := B.notSynchronized
  subst hsz
  have hD := hD0.self (sz := s.heap.size)
  generalize hAe : va_A [] s.heap.size = A at hD hZ ⊢
  have hA : ∀ q : Nat, s.heap.size ≤ q → A q := fun q h => by rw [← hAe]; exact Or.inr h
  have hS : va_S A s.heap s.heap [] := va_S.rf
  have hP : va_P (dC, dI) vwCl [] s.heap := hP
  have hl := lv_entry ([.ref (sd p0)]) (n := 1) (Nat.le_of_ble_eq_true rfl)
  rw [lg_entry_eq]
  generalize (lg_sl ([.ref (sd p0)]) ++ List.replicate (1 - (lg_sl ([.ref (sd p0)])).length) Slot.unset).toArray = ls at hl ⊢
  have hl : lv_has ls 1 [(0, .ref (sd p0))] := hl
  have he := hf
  unfold f_String_length at he
  refine lv_aload_n hx hb dJ0_length_8abf5_0 rfl (lv_at hl 0 rfl) ?_
  obtain ⟨hg1, he⟩ := zg_e he
  refine vk_getf hx hb (zZ_K hZ hg1).2.2.1 hS hown (hts (.fieldLink RJ0 9 "java/lang/String" "value" "[B") (by decide +kernel)) (fun _ h9 => h9) dJ0_length_8abf5_1 ?_
  obtain ⟨hg2, he⟩ := zg_e he
  refine va_tlen hx hb (zZ_K hZ hg2).2.2.2 hS (v := nI (zSL p0)) rfl dJ0_length_8abf5_4 ?_
  refine lv_aload_n hx hb dJ0_length_8abf5_5 rfl (lv_at hl 0 rfl) ?_
  obtain ⟨hg3, he⟩ := zg_e he
  obtain ⟨r4, hf5, he⟩ := zb1_e he
  refine zc_i (wr := []) (ws' := []) (va_runV (As := []) (rest := [.int (nI (zSL p0))]) ⟨hx, hb, hml, hown, hts⟩ (k_String_coder l dC dI cI cZ tt sd s.heap.size p0 r4 hf5) (cwV 0 hts gJ0_length_8abf5_J0_coder_7d493 rfl rfl rfl (by decide +kernel) ⟨Nat.le_of_ble_eq_true rfl, Nat.le_of_ble_eq_true rfl⟩) (zpW hP hD hK hS hA hZ [] rfl rfl hg3) rfl rfl hl.1 rfl (lv_room (Nat.le_of_ble_eq_true rfl)) dJ0_length_8abf5_6 ⟨Nat.zero_le _, Nat.zero_le _⟩) hP hD hS hA [] [] [] rfl rfl rfl (by decide) rfl rfl rfl (fun H locs hP hD hS => ?_)
  refine lv_ishr hx hb dJ0_length_8abf5_9 ?_
  obtain ⟨rfl⟩ := zi1 he
  exact W.iret hx hb hr (fun t ht hW => ⟨⟨_, (), rfl, rfl, by rw [ht]; exact hP, va_K.moved hW.alike hK, hD⟩, hS.F ht⟩) hS.2.2 dJ0_length_8abf5_10
set_option maxHeartbeats 4000000 in
set_option maxRecDepth 100000 in
theorem k_String_isLatin1 (l : Launch) (dC : Nat → ClassId) (dI : Nat → Nat → Nat) (cI : ClassId) (cZ : ClassId) (tt : Nat → Nat) (sd : Nat → Nat) (sz : Nat) (p0 : Nat) (r0 : Int32) (hf : f_String_isLatin1 p0 = some (r0)) : Met l yJ0_isLatin1_aae02 wsJ0_isLatin1_aae02 ({ frames := 0, cells := 0, slots := 0, locals := 0 }) (zPre (dC, dI) vwCl [(cI, .int), (cZ, .boolean)] tt sd [.ref (sd p0)] [] sz) (zQi (dC, dI) vwCl [(cI, .int), (cZ, .boolean)] r0 [] (va_A [] sz)) 0 0 (va_A [] sz) := by
  refine Met.ofW (cc := cJ0_isLatin1_aae02) (maxL := 1) (ret := (some .boolean)) (by decide) rfl ?_
  intro p e s m args below meth c s₁ B hml hv
  obtain ⟨rfl, hsz, hP, hK, hD0, hZ⟩ := hv
  have hx := B.exec
  have hb := B.bytes
  have hr := B.returns
  have hts := atoms_spec (ws := wsJ0_isLatin1_aae02) B.pre
  have hown : s.vm.findClass RJ0 = some m.cls := findClass_of_methodNamed B.named
  have hlocks := B.notSynchronized
  subst hsz
  have hD := hD0.self (sz := s.heap.size)
  generalize hAe : va_A [] s.heap.size = A at hD hZ ⊢
  have hA : ∀ q : Nat, s.heap.size ≤ q → A q := fun q h => by rw [← hAe]; exact Or.inr h
  have hS : va_S A s.heap s.heap [] := va_S.rf
  have hP : va_P (dC, dI) vwCl [] s.heap := hP
  have hl := lv_entry ([.ref (sd p0)]) (n := 1) (Nat.le_of_ble_eq_true rfl)
  rw [lg_entry_eq]
  generalize (lg_sl ([.ref (sd p0)]) ++ List.replicate (1 - (lg_sl ([.ref (sd p0)])).length) Slot.unset).toArray = ls at hl ⊢
  have hl : lv_has ls 1 [(0, .ref (sd p0))] := hl
  have he := hf
  unfold f_String_isLatin1 at he
  refine va_gets hx hb (zZ_C hZ) hS hown (hts (.fieldLink RJ0 38 "java/lang/String" "COMPACT_STRINGS" "Z") (by decide +kernel)) (fun _ h9 => h9) dJ0_isLatin1_aae02_0 ?_
  refine lv_if_eq (tgt := 17) hx hb dJ0_isLatin1_aae02_3 (by decide) (fun c1 => ?_) (fun c1 => ?_)
  · have he := zif_t c1 he
    refine lv_iconst (v := (0 : Int32)) hx hb dJ0_isLatin1_aae02_17 (by decide) ?_
    obtain ⟨rfl⟩ := zi1 he
    exact W.zret hx hb hr rfl (fun t ht hW => ⟨⟨_, (), rfl, rfl, by rw [ht]; exact hP, va_K.moved hW.alike hK, hD⟩, hS.F ht⟩) hS.2.2 dJ0_isLatin1_aae02_18
  · have he := zif_f c1 he
    refine lv_aload_n hx hb dJ0_isLatin1_aae02_6 rfl (lv_at hl 0 rfl) ?_
    obtain ⟨hg2, he⟩ := zg_e he
    refine vk_getf hx hb (zZ_K hZ hg2).2.1 hS hown (hts (.fieldLink RJ0 15 "java/lang/String" "coder" "B") (by decide +kernel)) (fun _ h9 => h9) dJ0_isLatin1_aae02_7 ?_
    refine lv_if_ne (tgt := 17) hx hb dJ0_isLatin1_aae02_10 (by decide) (fun c3 => ?_) (fun c3 => ?_)
    · have he := zif_f c3 he
      refine lv_iconst (v := (0 : Int32)) hx hb dJ0_isLatin1_aae02_17 (by decide) ?_
      obtain ⟨rfl⟩ := zi1 he
      exact W.zret hx hb hr rfl (fun t ht hW => ⟨⟨_, (), rfl, rfl, by rw [ht]; exact hP, va_K.moved hW.alike hK, hD⟩, hS.F ht⟩) hS.2.2 dJ0_isLatin1_aae02_18
    · have he := zif_t c3 he
      refine lv_iconst (v := (1 : Int32)) hx hb dJ0_isLatin1_aae02_13 (by decide) ?_
      refine lv_goto (tgt := 18) hx hb dJ0_isLatin1_aae02_14 (by decide) ?_
      obtain ⟨rfl⟩ := zi1 he
      exact W.zret hx hb hr rfl (fun t ht hW => ⟨⟨_, (), rfl, rfl, by rw [ht]; exact hP, va_K.moved hW.alike hK, hD⟩, hS.F ht⟩) hS.2.2 dJ0_isLatin1_aae02_18
set_option maxHeartbeats 4000000 in
set_option maxRecDepth 100000 in
theorem k_Preconditions_checkIndex_n (l : Launch) (dC : Nat → ClassId) (dI : Nat → Nat → Nat) (cI : ClassId) (cZ : ClassId) (tt : Nat → Nat) (sd : Nat → Nat) (sz : Nat) (p0 : Int32) (p1 : Int32) (r0 : Int32) (hf : f_Preconditions_checkIndex p0 p1 = some (r0)) : Met l yJ3_checkIndex_8e157 wsJ3_checkIndex_8e157 ({ frames := 0, cells := 0, slots := 0, locals := 0 }) (zPre (dC, dI) vwCl [(cI, .int), (cZ, .boolean)] tt sd [.int p0, .int p1, .null] [] sz) (zQi (dC, dI) vwCl [(cI, .int), (cZ, .boolean)] r0 [] (va_A [] sz)) 0 0 (va_A [] sz) := by
  refine Met.ofW (cc := cJ3_checkIndex_8e157) (maxL := 3) (ret := (some .int)) (by decide) rfl ?_
  intro p e s m args below meth c s₁ B hml hv
  obtain ⟨rfl, hsz, hP, hK, hD0, hZ⟩ := hv
  have hx := B.exec
  have hb := B.bytes
  have hr := B.returns
  have hts := atoms_spec (ws := wsJ3_checkIndex_8e157) B.pre
  have hown : s.vm.findClass RJ3 = some m.cls := findClass_of_methodNamed B.named
  have hlocks := B.notSynchronized
  subst hsz
  have hD := hD0.self (sz := s.heap.size)
  generalize hAe : va_A [] s.heap.size = A at hD hZ ⊢
  have hA : ∀ q : Nat, s.heap.size ≤ q → A q := fun q h => by rw [← hAe]; exact Or.inr h
  have hS : va_S A s.heap s.heap [] := va_S.rf
  have hP : va_P (dC, dI) vwCl [] s.heap := hP
  have hl := lv_entry ([.int p0, .int p1, .null]) (n := 3) (Nat.le_of_ble_eq_true rfl)
  rw [lg_entry_eq]
  generalize (lg_sl ([.int p0, .int p1, .null]) ++ List.replicate (3 - (lg_sl ([.int p0, .int p1, .null])).length) Slot.unset).toArray = ls at hl ⊢
  have hl : lv_has ls 3 [(0, .int p0), (1, .int p1), (2, .null)] := hl
  have he := hf
  unfold f_Preconditions_checkIndex at he
  refine zstart (D := (dC, dI)) (cl := vwCl) (A := A) (nL := 3) (fun WW hWW => ?_)
  refine lv_iload_n hx hb dJ3_checkIndex_8e157_0 rfl (lv_at hl 0 rfl) ?_
  refine zj1_w he (fun (_ : Unit) => WW [] [(0, .int p0), (1, .int p1), (2, .null)] 9 []) (fun _ he => (hWW _ _ _ _).mpr (fun H locs ls hP hD hS hl => ?_)) (fun k1 hk1 he => ?_)
  · cases he
  refine lv_if_lt (tgt := 9) hx hb dJ3_checkIndex_8e157_1 (by decide) (fun c2 => ?_) (fun c2 => ?_)
  · have he := zif_t c2 he
    exact (hWW _ _ _ _).mp (hk1 () he) _ _ _ hP hD hS (lv_sub hl [0, 1, 2] rfl)
  · have he := zif_f c2 he
    refine lv_iload_n hx hb dJ3_checkIndex_8e157_4 rfl (lv_at hl 0 rfl) ?_
    refine lv_iload_n hx hb dJ3_checkIndex_8e157_5 rfl (lv_at hl 1 rfl) ?_
    refine lv_icmp_lt (tgt := 16) hx hb dJ3_checkIndex_8e157_6 (by decide) (fun c3 => ?_) (fun c3 => ?_)
    · have he := zif_t c3 he
      refine lv_iload_n hx hb dJ3_checkIndex_8e157_16 rfl (lv_at hl 0 rfl) ?_
      obtain ⟨rfl⟩ := zi1 he
      exact W.iret hx hb hr (fun t ht hW => ⟨⟨_, (), rfl, rfl, by rw [ht]; exact hP, va_K.moved hW.alike hK, hD⟩, hS.F ht⟩) hS.2.2 dJ3_checkIndex_8e157_17
    · have he := zif_f c3 he
      exact (hWW _ _ _ _).mp (hk1 () he) _ _ _ hP hD hS (lv_sub hl [0, 1, 2] rfl)
set_option maxHeartbeats 4000000 in
set_option maxRecDepth 100000 in
theorem k_Preconditions_checkIndex_r (zq : Nat) (l : Launch) (dC : Nat → ClassId) (dI : Nat → Nat → Nat) (cI : ClassId) (cZ : ClassId) (tt : Nat → Nat) (sd : Nat → Nat) (sz : Nat) (p0 : Int32) (p1 : Int32) (r0 : Int32) (hf : f_Preconditions_checkIndex p0 p1 = some (r0)) : Met l yJ3_checkIndex_8e157 wsJ3_checkIndex_8e157 ({ frames := 0, cells := 0, slots := 0, locals := 0 }) (zPre (dC, dI) vwCl [(cI, .int), (cZ, .boolean)] tt sd [.int p0, .int p1, (.ref zq)] [] sz) (zQi (dC, dI) vwCl [(cI, .int), (cZ, .boolean)] r0 [] (va_A [] sz)) 0 0 (va_A [] sz) := by
  refine Met.ofW (cc := cJ3_checkIndex_8e157) (maxL := 3) (ret := (some .int)) (by decide) rfl ?_
  intro p e s m args below meth c s₁ B hml hv
  obtain ⟨rfl, hsz, hP, hK, hD0, hZ⟩ := hv
  have hx := B.exec
  have hb := B.bytes
  have hr := B.returns
  have hts := atoms_spec (ws := wsJ3_checkIndex_8e157) B.pre
  have hown : s.vm.findClass RJ3 = some m.cls := findClass_of_methodNamed B.named
  have hlocks := B.notSynchronized
  subst hsz
  have hD := hD0.self (sz := s.heap.size)
  generalize hAe : va_A [] s.heap.size = A at hD hZ ⊢
  have hA : ∀ q : Nat, s.heap.size ≤ q → A q := fun q h => by rw [← hAe]; exact Or.inr h
  have hS : va_S A s.heap s.heap [] := va_S.rf
  have hP : va_P (dC, dI) vwCl [] s.heap := hP
  have hl := lv_entry ([.int p0, .int p1, (.ref zq)]) (n := 3) (Nat.le_of_ble_eq_true rfl)
  rw [lg_entry_eq]
  generalize (lg_sl ([.int p0, .int p1, (.ref zq)]) ++ List.replicate (3 - (lg_sl ([.int p0, .int p1, (.ref zq)])).length) Slot.unset).toArray = ls at hl ⊢
  have hl : lv_has ls 3 [(0, .int p0), (1, .int p1), (2, (.ref zq))] := hl
  have he := hf
  unfold f_Preconditions_checkIndex at he
  refine zstart (D := (dC, dI)) (cl := vwCl) (A := A) (nL := 3) (fun WW hWW => ?_)
  refine lv_iload_n hx hb dJ3_checkIndex_8e157_0 rfl (lv_at hl 0 rfl) ?_
  refine zj1_w he (fun (_ : Unit) => WW [] [(0, .int p0), (1, .int p1), (2, (.ref zq))] 9 []) (fun _ he => (hWW _ _ _ _).mpr (fun H locs ls hP hD hS hl => ?_)) (fun k1 hk1 he => ?_)
  · cases he
  refine lv_if_lt (tgt := 9) hx hb dJ3_checkIndex_8e157_1 (by decide) (fun c2 => ?_) (fun c2 => ?_)
  · have he := zif_t c2 he
    exact (hWW _ _ _ _).mp (hk1 () he) _ _ _ hP hD hS (lv_sub hl [0, 1, 2] rfl)
  · have he := zif_f c2 he
    refine lv_iload_n hx hb dJ3_checkIndex_8e157_4 rfl (lv_at hl 0 rfl) ?_
    refine lv_iload_n hx hb dJ3_checkIndex_8e157_5 rfl (lv_at hl 1 rfl) ?_
    refine lv_icmp_lt (tgt := 16) hx hb dJ3_checkIndex_8e157_6 (by decide) (fun c3 => ?_) (fun c3 => ?_)
    · have he := zif_t c3 he
      refine lv_iload_n hx hb dJ3_checkIndex_8e157_16 rfl (lv_at hl 0 rfl) ?_
      obtain ⟨rfl⟩ := zi1 he
      exact W.iret hx hb hr (fun t ht hW => ⟨⟨_, (), rfl, rfl, by rw [ht]; exact hP, va_K.moved hW.alike hK, hD⟩, hS.F ht⟩) hS.2.2 dJ3_checkIndex_8e157_17
    · have he := zif_f c3 he
      exact (hWW _ _ _ _).mp (hk1 () he) _ _ _ hP hD hS (lv_sub hl [0, 1, 2] rfl)
set_option maxHeartbeats 4000000 in
theorem k_Preconditions_checkIndex (l : Launch) (dC : Nat → ClassId) (dI : Nat → Nat → Nat) (cI : ClassId) (cZ : ClassId) (tt : Nat → Nat) (sd : Nat → Nat) (sz : Nat) (p0 : Int32) (p1 : Int32) (r0 : Int32) (hf : f_Preconditions_checkIndex p0 p1 = some (r0)) : Met l yJ3_checkIndex_8e157 wsJ3_checkIndex_8e157 ({ frames := 0, cells := 0, slots := 0, locals := 0 }) (zPre (dC, dI) vwCl [(cI, .int), (cZ, .boolean)] tt sd [.int p0, .int p1, zsv tt] [] sz) (zQi (dC, dI) vwCl [(cI, .int), (cZ, .boolean)] r0 [] (va_A [] sz)) 0 0 (va_A [] sz) := by
  by_cases h : tt 99 = 0
  · have e : zsv tt = .null := if_pos h
    rw [e]; exact k_Preconditions_checkIndex_n l dC dI cI cZ tt sd sz p0 p1 r0 hf
  · have e : zsv tt = .ref (tt 98) := if_neg h
    rw [e]; exact k_Preconditions_checkIndex_r (tt 98) l dC dI cI cZ tt sd sz p0 p1 r0 hf
set_option maxHeartbeats 4000000 in
set_option maxRecDepth 100000 in
theorem k_String_checkIndex (l : Launch) (dC : Nat → ClassId) (dI : Nat → Nat → Nat) (cI : ClassId) (cZ : ClassId) (tt : Nat → Nat) (sd : Nat → Nat) (sz : Nat) (p0 : Int32) (p1 : Int32) (hf : f_String_checkIndex p0 p1 = some (())) : Met l yJ0_checkIndex_df160 wsJ0_checkIndex_df160 ({ frames := 1, cells := 0, slots := 0, locals := 22 }) (zPre (dC, dI) vwCl [(cI, .int), (cZ, .boolean)] tt sd [.int p0, .int p1] [] sz) (zQv (dC, dI) vwCl [(cI, .int), (cZ, .boolean)] [] (va_A [] sz)) 0 0 (va_A [] sz) := by
  refine Met.ofW (cc := cJ0_checkIndex_df160) (maxL := 2) (ret := none) (by decide) rfl ?_
  intro p e s m args below meth c s₁ B hml hv
  obtain ⟨rfl, hsz, hP, hK, hD0, hZ⟩ := hv
  have hx := B.exec
  have hb := B.bytes
  have hr := B.returns
  have hts := atoms_spec (ws := wsJ0_checkIndex_df160) B.pre
  have hown : s.vm.findClass RJ0 = some m.cls := findClass_of_methodNamed B.named
  have hlocks := B.notSynchronized
  subst hsz
  have hD := hD0.self (sz := s.heap.size)
  generalize hAe : va_A [] s.heap.size = A at hD hZ ⊢
  have hA : ∀ q : Nat, s.heap.size ≤ q → A q := fun q h => by rw [← hAe]; exact Or.inr h
  have hS : va_S A s.heap s.heap [] := va_S.rf
  have hP : va_P (dC, dI) vwCl [] s.heap := hP
  have hl := lv_entry ([.int p0, .int p1]) (n := 2) (Nat.le_of_ble_eq_true rfl)
  rw [lg_entry_eq]
  generalize (lg_sl ([.int p0, .int p1]) ++ List.replicate (2 - (lg_sl ([.int p0, .int p1])).length) Slot.unset).toArray = ls at hl ⊢
  have hl : lv_has ls 2 [(0, .int p0), (1, .int p1)] := hl
  have he := hf
  unfold f_String_checkIndex at he
  refine lv_iload_n hx hb dJ0_checkIndex_df160_0 rfl (lv_at hl 0 rfl) ?_
  refine lv_iload_n hx hb dJ0_checkIndex_df160_1 rfl (lv_at hl 1 rfl) ?_
  refine va_gets hx hb (zZ_Q hZ) hS hown (hts (.fieldLink RJ0 1053 "jdk/internal/util/Preconditions" "SIOOBE_FORMATTER" "Ljava/util/function/BiFunction;") (by decide +kernel)) (fun _ h9 => h9) dJ0_checkIndex_df160_2 ?_
  obtain ⟨r1, hf2, he⟩ := zb1_e he
  refine zc_i (wr := []) (ws' := []) (va_runS (As := [.int p0, .int p1, zsv tt]) (rest := []) ⟨hx, hb, hml, hown, hts⟩ (k_Preconditions_checkIndex l dC dI cI cZ tt sd s.heap.size p0 p1 r1 hf2) (va_cwS 3 hts gJ0_checkIndex_df160_J3_checkIndex_8e157 rfl rfl rfl (by decide +kernel) ⟨Nat.le_of_ble_eq_true rfl, Nat.le_of_ble_eq_true rfl⟩) (zpS hP hD hK hS hA hZ [] rfl rfl) rfl rfl hl.1 rfl (lv_room (Nat.le_of_ble_eq_true rfl)) dJ0_checkIndex_df160_5 ⟨Nat.zero_le _, Nat.zero_le _⟩) hP hD hS hA [] [] [] rfl rfl rfl (by decide) rfl rfl rfl (fun H locs hP hD hS => ?_)
  refine lv_pop hx hb dJ0_checkIndex_df160_8 rfl ?_
  exact W.vret hx hb hr (fun t ht hW => ⟨⟨(), rfl, trivial, by rw [ht]; exact hP, va_K.moved hW.alike hK, hD⟩, hS.F ht⟩) hS.2.2 dJ0_checkIndex_df160_9
set_option maxHeartbeats 4000000 in
set_option maxRecDepth 100000 in
theorem k_StringLatin1_charAt (l : Launch) (dC : Nat → ClassId) (dI : Nat → Nat → Nat) (cI : ClassId) (cZ : ClassId) (tt : Nat → Nat) (sd : Nat → Nat) (sz : Nat) (p0 : Nat) (p1 : Int32) (r0 : Int32) (hf : f_StringLatin1_charAt p0 p1 = some (r0)) : Met l yJ1_charAt_3b067 wsJ1_charAt_3b067 ({ frames := 2, cells := 0, slots := 0, locals := 43 }) (zPre (dC, dI) vwCl [(cI, .int), (cZ, .boolean)] tt sd [.ref (sd (1000 + p0)), .int p1] [] sz) (zQi (dC, dI) vwCl [(cI, .int), (cZ, .boolean)] r0 [] (va_A [] sz)) 0 0 (va_A [] sz) := by
  refine Met.ofW (cc := cJ1_charAt_3b067) (maxL := 2) (ret := (some .char)) (by decide) rfl ?_
  intro p e s m args below meth c s₁ B hml hv
  obtain ⟨rfl, hsz, hP, hK, hD0, hZ⟩ := hv
  have hx := B.exec
  have hb := B.bytes
  have hr := B.returns
  have hts := atoms_spec (ws := wsJ1_charAt_3b067) B.pre
  have hown : s.vm.findClass RJ1 = some m.cls := findClass_of_methodNamed B.named
  have hlocks := B.notSynchronized
  subst hsz
  have hD := hD0.self (sz := s.heap.size)
  generalize hAe : va_A [] s.heap.size = A at hD hZ ⊢
  have hA : ∀ q : Nat, s.heap.size ≤ q → A q := fun q h => by rw [← hAe]; exact Or.inr h
  have hS : va_S A s.heap s.heap [] := va_S.rf
  have hP : va_P (dC, dI) vwCl [] s.heap := hP
  have hl := lv_entry ([.ref (sd (1000 + p0)), .int p1]) (n := 2) (Nat.le_of_ble_eq_true rfl)
  rw [lg_entry_eq]
  generalize (lg_sl ([.ref (sd (1000 + p0)), .int p1]) ++ List.replicate (2 - (lg_sl ([.ref (sd (1000 + p0)), .int p1])).length) Slot.unset).toArray = ls at hl ⊢
  have hl : lv_has ls 2 [(0, .ref (sd (1000 + p0))), (1, .int p1)] := hl
  have he := hf
  unfold f_StringLatin1_charAt at he
  refine lv_iload_n hx hb dJ1_charAt_3b067_0 rfl (lv_at hl 1 rfl) ?_
  refine lv_aload_n hx hb dJ1_charAt_3b067_1 rfl (lv_at hl 0 rfl) ?_
  obtain ⟨hg1, he⟩ := zg_e he
  refine va_tlen hx hb (zZ_K hZ hg1).2.2.2 hS (v := nI (zSL p0)) rfl dJ1_charAt_3b067_2 ?_
  obtain ⟨_, hf2, he⟩ := zb1_e he
  refine zc_v (wr := []) (ws' := []) (va_runS (As := [.int p1, .int (nI (zSL p0))]) (rest := []) ⟨hx, hb, hml, hown, hts⟩ (k_String_checkIndex l dC dI cI cZ tt sd s.heap.size p1 (nI (zSL p0)) hf2) (va_cwS 2 hts gJ1_charAt_3b067_J0_checkIndex_df160 rfl rfl rfl (by decide +kernel) ⟨Nat.le_of_ble_eq_true rfl, Nat.le_of_ble_eq_true rfl⟩) (zpS hP hD hK hS hA hZ [] rfl rfl) rfl rfl hl.1 rfl (lv_room (Nat.le_of_ble_eq_true rfl)) dJ1_charAt_3b067_3 ⟨Nat.zero_le _, Nat.zero_le _⟩) hP hD hS hA [] [] [] rfl rfl rfl (by decide) rfl rfl rfl (fun H locs hP hD hS => ?_)
  refine lv_aload_n hx hb dJ1_charAt_3b067_6 rfl (lv_at hl 0 rfl) ?_
  refine lv_iload_n hx hb dJ1_charAt_3b067_7 rfl (lv_at hl 1 rfl) ?_
  obtain ⟨hg3, he⟩ := zg_e he
  obtain ⟨hg4, he⟩ := zg_e he
  refine va_tb hx hb (zZ_K hZ hg3).2.2.2 hS hg4 (v := .int (zSB p0 p1)) rfl dJ1_charAt_3b067_8 ?_
  refine lv_sipush (v := (255 : Int32)) hx hb dJ1_charAt_3b067_9 (by decide) ?_
  refine lv_iand hx hb dJ1_charAt_3b067_12 ?_
  refine lv_i2c hx hb dJ1_charAt_3b067_13 rfl ?_
  obtain ⟨hg5, he⟩ := zg_e he
  obtain ⟨rfl⟩ := zi1 he
  exact W.zret hx hb hr (zchar_n hg5) (fun t ht hW => ⟨⟨_, (), rfl, rfl, by rw [ht]; exact hP, va_K.moved hW.alike hK, hD⟩, hS.F ht⟩) hS.2.2 dJ1_charAt_3b067_14
set_option maxHeartbeats 4000000 in
set_option maxRecDepth 100000 in
theorem k_String_charAt (l : Launch) (dC : Nat → ClassId) (dI : Nat → Nat → Nat) (cI : ClassId) (cZ : ClassId) (tt : Nat → Nat) (sd : Nat → Nat) (sz : Nat) (p0 : Nat) (p1 : Int32) (r0 : Int32) (hf : f_String_charAt p0 p1 = some (r0)) : Met l yJ0_charAt_5068e wsJ0_charAt_5068e ({ frames := 3, cells := 0, slots := 0, locals := 64 }) (zPre (dC, dI) vwCl [(cI, .int), (cZ, .boolean)] tt sd [.ref (sd p0), .int p1] [] sz) (zQi (dC, dI) vwCl [(cI, .int), (cZ, .boolean)] r0 [] (va_A [] sz)) 0 0 (va_A [] sz) := by
  refine Met.ofW (cc := cJ0_charAt_5068e) (maxL := 2) (ret := (some .char)) (by decide) rfl ?_
  intro p e s m args below meth c s₁ B hml hv
  obtain ⟨rfl, hsz, hP, hK, hD0, hZ⟩ := hv
  have hx := B.exec
  have hb := B.bytes
  have hr := B.returns
  have hts := atoms_spec (ws := wsJ0_charAt_5068e) B.pre
  have hown : s.vm.findClass RJ0 = some m.cls := findClass_of_methodNamed B.named
  have hlocks := B.notSynchronized
  subst hsz
  have hD := hD0.self (sz := s.heap.size)
  generalize hAe : va_A [] s.heap.size = A at hD hZ ⊢
  have hA : ∀ q : Nat, s.heap.size ≤ q → A q := fun q h => by rw [← hAe]; exact Or.inr h
  have hS : va_S A s.heap s.heap [] := va_S.rf
  have hP : va_P (dC, dI) vwCl [] s.heap := hP
  have hl := lv_entry ([.ref (sd p0), .int p1]) (n := 2) (Nat.le_of_ble_eq_true rfl)
  rw [lg_entry_eq]
  generalize (lg_sl ([.ref (sd p0), .int p1]) ++ List.replicate (2 - (lg_sl ([.ref (sd p0), .int p1])).length) Slot.unset).toArray = ls at hl ⊢
  have hl : lv_has ls 2 [(0, .ref (sd p0)), (1, .int p1)] := hl
  have he := hf
  unfold f_String_charAt at he
  refine lv_aload_n hx hb dJ0_charAt_5068e_0 rfl (lv_at hl 0 rfl) ?_
  obtain ⟨hg1, he⟩ := zg_e he
  obtain ⟨r2, hf3, he⟩ := zb1_e he
  refine zc_i (wr := []) (ws' := []) (va_runV (As := []) (rest := []) ⟨hx, hb, hml, hown, hts⟩ (k_String_isLatin1 l dC dI cI cZ tt sd s.heap.size p0 r2 hf3) (cwV 0 hts gJ0_charAt_5068e_J0_isLatin1_aae02 rfl rfl rfl (by decide +kernel) ⟨Nat.le_of_ble_eq_true rfl, Nat.le_of_ble_eq_true rfl⟩) (zpW hP hD hK hS hA hZ [] rfl rfl hg1) rfl rfl hl.1 rfl (lv_room (Nat.le_of_ble_eq_true rfl)) dJ0_charAt_5068e_1 ⟨Nat.zero_le _, Nat.zero_le _⟩) hP hD hS hA [] [] [] rfl rfl rfl (by decide) rfl rfl rfl (fun H locs hP hD hS => ?_)
  refine lv_if_eq (tgt := 16) hx hb dJ0_charAt_5068e_4 (by decide) (fun c4 => ?_) (fun c4 => ?_)
  · have he := zif_t c4 he
    cases he
  · have he := zif_f c4 he
    refine lv_aload_n hx hb dJ0_charAt_5068e_7 rfl (lv_at hl 0 rfl) ?_
    obtain ⟨hg5, he⟩ := zg_e he
    refine vk_getf hx hb (zZ_K hZ hg5).2.2.1 hS hown (hts (.fieldLink RJ0 9 "java/lang/String" "value" "[B") (by decide +kernel)) (fun _ h9 => h9) dJ0_charAt_5068e_8 ?_
    refine lv_iload_n hx hb dJ0_charAt_5068e_11 rfl (lv_at hl 1 rfl) ?_
    obtain ⟨r6, hf7, he⟩ := zb1_e he
    refine zc_i (wr := []) (ws' := []) (va_runS (As := [.ref (sd (1000 + p0)), .int p1]) (rest := []) ⟨hx, hb, hml, hown, hts⟩ (k_StringLatin1_charAt l dC dI cI cZ tt sd H.size p0 p1 r6 hf7) (va_cwS 2 hts gJ0_charAt_5068e_J1_charAt_3b067 rfl rfl rfl (by decide +kernel) ⟨Nat.le_of_ble_eq_true rfl, Nat.le_of_ble_eq_true rfl⟩) (zpS hP hD hK hS hA hZ [] rfl rfl) rfl rfl hl.1 rfl (lv_room (Nat.le_of_ble_eq_true rfl)) dJ0_charAt_5068e_12 ⟨Nat.zero_le _, Nat.zero_le _⟩) hP hD hS hA [] [] [] rfl rfl rfl (by decide) rfl rfl rfl (fun H locs hP hD hS => ?_)
    obtain ⟨hg8, he⟩ := zg_e he
    obtain ⟨rfl⟩ := zi1 he
    exact W.zret hx hb hr (zchar_n hg8) (fun t ht hW => ⟨⟨_, (), rfl, rfl, by rw [ht]; exact hP, va_K.moved hW.alike hK, hD⟩, hS.F ht⟩) hS.2.2 dJ0_charAt_5068e_15
set_option maxHeartbeats 4000000 in
set_option maxRecDepth 100000 in
theorem k_StringLatin1_canEncode (l : Launch) (dC : Nat → ClassId) (dI : Nat → Nat → Nat) (cI : ClassId) (cZ : ClassId) (tt : Nat → Nat) (sd : Nat → Nat) (sz : Nat) (p0 : Int32) (r0 : Int32) (hf : f_StringLatin1_canEncode p0 = some (r0)) : Met l yJ1_canEncode_9a6ad wsJ1_canEncode_9a6ad ({ frames := 0, cells := 0, slots := 0, locals := 0 }) (zPre (dC, dI) vwCl [(cI, .int), (cZ, .boolean)] tt sd [.int p0] [] sz) (zQi (dC, dI) vwCl [(cI, .int), (cZ, .boolean)] r0 [] (va_A [] sz)) 0 0 (va_A [] sz) := by
  refine Met.ofW (cc := cJ1_canEncode_9a6ad) (maxL := 1) (ret := (some .boolean)) (by decide) rfl ?_
  intro p e s m args below meth c s₁ B hml hv
  obtain ⟨rfl, hsz, hP, hK, hD0, hZ⟩ := hv
  have hx := B.exec
  have hb := B.bytes
  have hr := B.returns
  have hts := atoms_spec (ws := wsJ1_canEncode_9a6ad) B.pre
  have hown : s.vm.findClass RJ1 = some m.cls := findClass_of_methodNamed B.named
  have hlocks := B.notSynchronized
  subst hsz
  have hD := hD0.self (sz := s.heap.size)
  generalize hAe : va_A [] s.heap.size = A at hD hZ ⊢
  have hA : ∀ q : Nat, s.heap.size ≤ q → A q := fun q h => by rw [← hAe]; exact Or.inr h
  have hS : va_S A s.heap s.heap [] := va_S.rf
  have hP : va_P (dC, dI) vwCl [] s.heap := hP
  have hl := lv_entry ([.int p0]) (n := 1) (Nat.le_of_ble_eq_true rfl)
  rw [lg_entry_eq]
  generalize (lg_sl ([.int p0]) ++ List.replicate (1 - (lg_sl ([.int p0])).length) Slot.unset).toArray = ls at hl ⊢
  have hl : lv_has ls 1 [(0, .int p0)] := hl
  have he := hf
  unfold f_StringLatin1_canEncode at he
  refine lv_iload_n hx hb dJ1_canEncode_9a6ad_0 rfl (lv_at hl 0 rfl) ?_
  refine lv_if_lt (tgt := 15) hx hb dJ1_canEncode_9a6ad_1 (by decide) (fun c1 => ?_) (fun c1 => ?_)
  · have he := zif_t c1 he
    refine lv_iconst (v := (0 : Int32)) hx hb dJ1_canEncode_9a6ad_15 (by decide) ?_
    obtain ⟨rfl⟩ := zi1 he
    exact W.zret hx hb hr rfl (fun t ht hW => ⟨⟨_, (), rfl, rfl, by rw [ht]; exact hP, va_K.moved hW.alike hK, hD⟩, hS.F ht⟩) hS.2.2 dJ1_canEncode_9a6ad_16
  · have he := zif_f c1 he
    refine lv_iload_n hx hb dJ1_canEncode_9a6ad_4 rfl (lv_at hl 0 rfl) ?_
    refine lv_sipush (v := (255 : Int32)) hx hb dJ1_canEncode_9a6ad_5 (by decide) ?_
    refine lv_icmp_gt (tgt := 15) hx hb dJ1_canEncode_9a6ad_8 (by decide) (fun c2 => ?_) (fun c2 => ?_)
    · have he := zif_t c2 he
      refine lv_iconst (v := (0 : Int32)) hx hb dJ1_canEncode_9a6ad_15 (by decide) ?_
      obtain ⟨rfl⟩ := zi1 he
      exact W.zret hx hb hr rfl (fun t ht hW => ⟨⟨_, (), rfl, rfl, by rw [ht]; exact hP, va_K.moved hW.alike hK, hD⟩, hS.F ht⟩) hS.2.2 dJ1_canEncode_9a6ad_16
    · have he := zif_f c2 he
      refine lv_iconst (v := (1 : Int32)) hx hb dJ1_canEncode_9a6ad_11 (by decide) ?_
      refine lv_goto (tgt := 16) hx hb dJ1_canEncode_9a6ad_12 (by decide) ?_
      obtain ⟨rfl⟩ := zi1 he
      exact W.zret hx hb hr rfl (fun t ht hW => ⟨⟨_, (), rfl, rfl, by rw [ht]; exact hP, va_K.moved hW.alike hK, hD⟩, hS.F ht⟩) hS.2.2 dJ1_canEncode_9a6ad_16
set_option maxHeartbeats 4000000 in
set_option maxRecDepth 100000 in
theorem k_StringLatin1_indexOfChar (l : Launch) (dC : Nat → ClassId) (dI : Nat → Nat → Nat) (cI : ClassId) (cZ : ClassId) (tt : Nat → Nat) (sd : Nat → Nat) (sz : Nat) (p0 : Nat) (p1 : Int32) (p2 : Int32) (p3 : Int32) (r0 : Int32) (hf : f_StringLatin1_indexOfChar p0 p1 p2 p3 = some (r0)) : Met l yJ1_indexOfChar_4cfef wsJ1_indexOfChar_4cfef ({ frames := 0, cells := 0, slots := 0, locals := 0 }) (zPre (dC, dI) vwCl [(cI, .int), (cZ, .boolean)] tt sd [.ref (sd (1000 + p0)), .int p1, .int p2, .int p3] [] sz) (zQi (dC, dI) vwCl [(cI, .int), (cZ, .boolean)] r0 [] (va_A [] sz)) 0 0 (va_A [] sz) := by
  refine Met.ofW (cc := cJ1_indexOfChar_4cfef) (maxL := 6) (ret := (some .int)) (by decide) rfl ?_
  intro p e s m args below meth c s₁ B hml hv
  obtain ⟨rfl, hsz, hP, hK, hD0, hZ⟩ := hv
  have hx := B.exec
  have hb := B.bytes
  have hr := B.returns
  have hts := atoms_spec (ws := wsJ1_indexOfChar_4cfef) B.pre
  have hown : s.vm.findClass RJ1 = some m.cls := findClass_of_methodNamed B.named
  have hlocks := B.notSynchronized
  subst hsz
  have hD := hD0.self (sz := s.heap.size)
  generalize hAe : va_A [] s.heap.size = A at hD hZ ⊢
  have hA : ∀ q : Nat, s.heap.size ≤ q → A q := fun q h => by rw [← hAe]; exact Or.inr h
  have hS : va_S A s.heap s.heap [] := va_S.rf
  have hP : va_P (dC, dI) vwCl [] s.heap := hP
  have hl := lv_entry ([.ref (sd (1000 + p0)), .int p1, .int p2, .int p3]) (n := 6) (Nat.le_of_ble_eq_true rfl)
  rw [lg_entry_eq]
  generalize (lg_sl ([.ref (sd (1000 + p0)), .int p1, .int p2, .int p3]) ++ List.replicate (6 - (lg_sl ([.ref (sd (1000 + p0)), .int p1, .int p2, .int p3])).length) Slot.unset).toArray = ls at hl ⊢
  have hl : lv_has ls 6 [(0, .ref (sd (1000 + p0))), (1, .int p1), (2, .int p2), (3, .int p3)] := hl
  have he := hf
  unfold f_StringLatin1_indexOfChar at he
  refine zstart (D := (dC, dI)) (cl := vwCl) (A := A) (nL := 6) (fun WW hWW => ?_)
  refine lv_iload_n hx hb dJ1_indexOfChar_4cfef_0 rfl (lv_at hl 1 rfl) ?_
  refine lv_i2b hx hb dJ1_indexOfChar_4cfef_1 rfl ?_
  refine lv_topi (fun x1 ex1 => ?_)
  have he := zn_e ex1 he
  refine lv_istore (lv' := [(4, .int x1), (0, .ref (sd (1000 + p0))), (1, .int p1), (2, .int p2), (3, .int p3)]) hx hb dJ1_indexOfChar_4cfef_2 hl (by decide) rfl (fun ls hl => ?_)
  refine lv_iload_n hx hb dJ1_indexOfChar_4cfef_4 rfl (lv_at hl 3 rfl) ?_
  refine lv_istore (lv' := [(5, .int p2), (4, .int x1), (0, .ref (sd (1000 + p0))), (1, .int p1), (2, .int p2), (3, .int p3)]) hx hb dJ1_indexOfChar_4cfef_5 hl (by decide) rfl (fun ls hl => ?_)
  refine (hWW _ _ _ _).mp (zl1_w he (fun (l5_2 : Int32) => WW [] [(0, .ref (sd (1000 + p0))), (3, .int p3), (4, .int x1), (5, .int l5_2)] 7 []) (fun l5_2 again3 hagain3 he => (hWW _ _ _ _).mpr (fun H locs ls hP hD hS hl => ?_))) _ _ _ hP hD hS (lv_sub hl [2, 5, 1, 0] rfl)
  refine lv_iload hx hb dJ1_indexOfChar_4cfef_7 (lv_at hl 3 rfl) ?_
  refine lv_iload_n hx hb dJ1_indexOfChar_4cfef_9 rfl (lv_at hl 1 rfl) ?_
  refine lv_icmp_ge (tgt := 31) hx hb dJ1_indexOfChar_4cfef_10 (by decide) (fun c4 => ?_) (fun c4 => ?_)
  · have he := zif_t c4 he
    refine lv_iconst (v := (-1 : Int32)) hx hb dJ1_indexOfChar_4cfef_31 (by decide) ?_
    obtain ⟨rfl⟩ := zi1 he
    exact W.iret hx hb hr (fun t ht hW => ⟨⟨_, (), rfl, rfl, by rw [ht]; exact hP, va_K.moved hW.alike hK, hD⟩, hS.F ht⟩) hS.2.2 dJ1_indexOfChar_4cfef_32
  · have he := zif_f c4 he
    refine lv_aload_n hx hb dJ1_indexOfChar_4cfef_13 rfl (lv_at hl 0 rfl) ?_
    refine lv_iload hx hb dJ1_indexOfChar_4cfef_14 (lv_at hl 3 rfl) ?_
    obtain ⟨hg5, he⟩ := zg_e he
    obtain ⟨hg6, he⟩ := zg_e he
    refine va_tb hx hb (zZ_K hZ hg5).2.2.2 hS hg6 (v := .int (zSB p0 l5_2)) rfl dJ1_indexOfChar_4cfef_16 ?_
    refine lv_iload hx hb dJ1_indexOfChar_4cfef_17 (lv_at hl 2 rfl) ?_
    refine lv_icmp_ne (tgt := 25) hx hb dJ1_indexOfChar_4cfef_19 (by decide) (fun c7 => ?_) (fun c7 => ?_)
    · have he := zif_f c7 he
      obtain ⟨x8, ex8⟩ : ∃ y : Int32, y = l5_2 + (1 : Int32) := ⟨_, rfl⟩
      have he := zn_e ex8 he
      refine lv_iinc (v := x8) (lv' := [(5, .int x8), (0, .ref (sd (1000 + p0))), (3, .int p3), (4, .int x1)]) hx hb dJ1_indexOfChar_4cfef_25 hl (k := 3) rfl (by rw [ex8]; rfl) (by decide) rfl (fun ls hl => ?_)
      refine lv_goto (tgt := 7) hx hb dJ1_indexOfChar_4cfef_28 (by decide) ?_
      exact (hWW _ _ _ _).mp (hagain3 x8 he) _ _ _ hP hD hS (lv_sub hl [1, 2, 3, 0] rfl)
    · have he := zif_t c7 he
      refine lv_iload hx hb dJ1_indexOfChar_4cfef_22 (lv_at hl 3 rfl) ?_
      obtain ⟨rfl⟩ := zi1 he
      exact W.iret hx hb hr (fun t ht hW => ⟨⟨_, (), rfl, rfl, by rw [ht]; exact hP, va_K.moved hW.alike hK, hD⟩, hS.F ht⟩) hS.2.2 dJ1_indexOfChar_4cfef_24
set_option maxHeartbeats 4000000 in
set_option maxRecDepth 100000 in
theorem k_StringLatin1_indexOf (l : Launch) (dC : Nat → ClassId) (dI : Nat → Nat → Nat) (cI : ClassId) (cZ : ClassId) (tt : Nat → Nat) (sd : Nat → Nat) (sz : Nat) (p0 : Nat) (p1 : Int32) (p2 : Int32) (p3 : Int32) (r0 : Int32) (hf : f_StringLatin1_indexOf p0 p1 p2 p3 = some (r0)) : Met l yJ1_indexOf_4cfef wsJ1_indexOf_4cfef ({ frames := 1, cells := 0, slots := 0, locals := 32 }) (zPre (dC, dI) vwCl [(cI, .int), (cZ, .boolean)] tt sd [.ref (sd (1000 + p0)), .int p1, .int p2, .int p3] [] sz) (zQi (dC, dI) vwCl [(cI, .int), (cZ, .boolean)] r0 [] (va_A [] sz)) 0 0 (va_A [] sz) := by
  refine Met.ofW (cc := cJ1_indexOf_4cfef) (maxL := 4) (ret := (some .int)) (by decide) rfl ?_
  intro p e s m args below meth c s₁ B hml hv
  obtain ⟨rfl, hsz, hP, hK, hD0, hZ⟩ := hv
  have hx := B.exec
  have hb := B.bytes
  have hr := B.returns
  have hts := atoms_spec (ws := wsJ1_indexOf_4cfef) B.pre
  have hown : s.vm.findClass RJ1 = some m.cls := findClass_of_methodNamed B.named
  have hlocks := B.notSynchronized
  subst hsz
  have hD := hD0.self (sz := s.heap.size)
  generalize hAe : va_A [] s.heap.size = A at hD hZ ⊢
  have hA : ∀ q : Nat, s.heap.size ≤ q → A q := fun q h => by rw [← hAe]; exact Or.inr h
  have hS : va_S A s.heap s.heap [] := va_S.rf
  have hP : va_P (dC, dI) vwCl [] s.heap := hP
  have hl := lv_entry ([.ref (sd (1000 + p0)), .int p1, .int p2, .int p3]) (n := 4) (Nat.le_of_ble_eq_true rfl)
  rw [lg_entry_eq]
  generalize (lg_sl ([.ref (sd (1000 + p0)), .int p1, .int p2, .int p3]) ++ List.replicate (4 - (lg_sl ([.ref (sd (1000 + p0)), .int p1, .int p2, .int p3])).length) Slot.unset).toArray = ls at hl ⊢
  have hl : lv_has ls 4 [(0, .ref (sd (1000 + p0))), (1, .int p1), (2, .int p2), (3, .int p3)] := hl
  have he := hf
  unfold f_StringLatin1_indexOf at he
  refine lv_iload_n hx hb dJ1_indexOf_4cfef_0 rfl (lv_at hl 1 rfl) ?_
  obtain ⟨r1, hf2, he⟩ := zb1_e he
  refine zc_i (wr := []) (ws' := []) (va_runS (As := [.int p1]) (rest := []) ⟨hx, hb, hml, hown, hts⟩ (k_StringLatin1_canEncode l dC dI cI cZ tt sd s.heap.size p1 r1 hf2) (va_cwS 1 hts gJ1_indexOf_4cfef_J1_canEncode_9a6ad rfl rfl rfl (by decide +kernel) ⟨Nat.le_of_ble_eq_true rfl, Nat.le_of_ble_eq_true rfl⟩) (zpS hP hD hK hS hA hZ [] rfl rfl) rfl rfl hl.1 rfl (lv_room (Nat.le_of_ble_eq_true rfl)) dJ1_indexOf_4cfef_1 ⟨Nat.zero_le _, Nat.zero_le _⟩) hP hD hS hA [] [] [] rfl rfl rfl (by decide) rfl rfl rfl (fun H locs hP hD hS => ?_)
  refine lv_if_ne (tgt := 9) hx hb dJ1_indexOf_4cfef_4 (by decide) (fun c3 => ?_) (fun c3 => ?_)
  · have he := zif_f c3 he
    refine lv_iload_n hx hb dJ1_indexOf_4cfef_9 rfl (lv_at hl 2 rfl) ?_
    refine lv_iconst (v := (0 : Int32)) hx hb dJ1_indexOf_4cfef_10 (by decide) ?_
    refine va_mmax hx hb (by rw [hml]; exact hl.1.symm) hown (hts (.methodLink RJ1 92 Lib.Math.max.name) (by decide +kernel)) (hts (.static Lib.Math.max.name) (by decide +kernel)) (hts (.initialized "java/lang/Math") (by decide +kernel)) (hts (.code Lib.Math.max.name Lib.Math.max.code 2 (some .int)) (by decide +kernel)) (Nat.le_of_ble_eq_true rfl) (Nat.le_of_ble_eq_true rfl) (Nat.zero_le _) (Nat.zero_le _) dJ1_indexOf_4cfef_11 ?_
    refine lv_topi (fun x4 ex4 => ?_)
    have he := zn_e (show x4 = zmax p2 (0 : Int32) from ex4) he
    refine lv_istore_n (lv' := [(2, .int x4), (0, .ref (sd (1000 + p0))), (1, .int p1), (3, .int p3)]) hx hb dJ1_indexOf_4cfef_14 rfl hl (by decide) rfl (fun ls hl => ?_)
    refine lv_iload_n hx hb dJ1_indexOf_4cfef_15 rfl (lv_at hl 3 rfl) ?_
    refine lv_aload_n hx hb dJ1_indexOf_4cfef_16 rfl (lv_at hl 1 rfl) ?_
    obtain ⟨hg5, he⟩ := zg_e he
    refine va_tlen hx hb (zZ_K hZ hg5).2.2.2 hS (v := nI (zSL p0)) rfl dJ1_indexOf_4cfef_17 ?_
    refine va_mmin hx hb (by rw [hml]; exact hl.1.symm) hown (hts (.methodLink RJ1 38 Lib.Math.min.name) (by decide +kernel)) (hts (.static Lib.Math.min.name) (by decide +kernel)) (hts (.initialized "java/lang/Math") (by decide +kernel)) (hts (.code Lib.Math.min.name Lib.Math.min.code 2 (some .int)) (by decide +kernel)) (Nat.le_of_ble_eq_true rfl) (Nat.le_of_ble_eq_true rfl) (Nat.zero_le _) (Nat.zero_le _) dJ1_indexOf_4cfef_18 ?_
    refine lv_topi (fun x6 ex6 => ?_)
    have he := zn_e (show x6 = zmin p3 (nI (zSL p0)) from ex6) he
    refine lv_istore_n (lv' := [(3, .int x6), (2, .int x4), (0, .ref (sd (1000 + p0))), (1, .int p1)]) hx hb dJ1_indexOf_4cfef_21 rfl hl (by decide) rfl (fun ls hl => ?_)
    refine lv_iload_n hx hb dJ1_indexOf_4cfef_22 rfl (lv_at hl 1 rfl) ?_
    refine lv_iload_n hx hb dJ1_indexOf_4cfef_23 rfl (lv_at hl 0 rfl) ?_
    refine lv_icmp_lt (tgt := 29) hx hb dJ1_indexOf_4cfef_24 (by decide) (fun c7 => ?_) (fun c7 => ?_)
    · have he := zif_t c7 he
      refine lv_aload_n hx hb dJ1_indexOf_4cfef_29 rfl (lv_at hl 2 rfl) ?_
      refine lv_iload_n hx hb dJ1_indexOf_4cfef_30 rfl (lv_at hl 3 rfl) ?_
      refine lv_iload_n hx hb dJ1_indexOf_4cfef_31 rfl (lv_at hl 1 rfl) ?_
      refine lv_iload_n hx hb dJ1_indexOf_4cfef_32 rfl (lv_at hl 0 rfl) ?_
      obtain ⟨r8, hf9, he⟩ := zb1_e he
      refine zc_i (wr := []) (ws' := []) (va_runS (As := [.ref (sd (1000 + p0)), .int p1, .int x4, .int x6]) (rest := []) ⟨hx, hb, hml, hown, hts⟩ (k_StringLatin1_indexOfChar l dC dI cI cZ tt sd H.size p0 p1 x4 x6 r8 hf9) (va_cwS 4 hts gJ1_indexOf_4cfef_J1_indexOfChar_4cfef rfl rfl rfl (by decide +kernel) ⟨Nat.le_of_ble_eq_true rfl, Nat.le_of_ble_eq_true rfl⟩) (zpS hP hD hK hS hA hZ [] rfl rfl) rfl rfl hl.1 rfl (lv_room (Nat.le_of_ble_eq_true rfl)) dJ1_indexOf_4cfef_33 ⟨Nat.zero_le _, Nat.zero_le _⟩) hP hD hS hA [] [] [] rfl rfl rfl (by decide) rfl rfl rfl (fun H locs hP hD hS => ?_)
      obtain ⟨rfl⟩ := zi1 he
      exact W.iret hx hb hr (fun t ht hW => ⟨⟨_, (), rfl, rfl, by rw [ht]; exact hP, va_K.moved hW.alike hK, hD⟩, hS.F ht⟩) hS.2.2 dJ1_indexOf_4cfef_36
    · have he := zif_f c7 he
      refine lv_iconst (v := (-1 : Int32)) hx hb dJ1_indexOf_4cfef_27 (by decide) ?_
      obtain ⟨rfl⟩ := zi1 he
      exact W.iret hx hb hr (fun t ht hW => ⟨⟨_, (), rfl, rfl, by rw [ht]; exact hP, va_K.moved hW.alike hK, hD⟩, hS.F ht⟩) hS.2.2 dJ1_indexOf_4cfef_28
  · have he := zif_t c3 he
    refine lv_iconst (v := (-1 : Int32)) hx hb dJ1_indexOf_4cfef_7 (by decide) ?_
    obtain ⟨rfl⟩ := zi1 he
    exact W.iret hx hb hr (fun t ht hW => ⟨⟨_, (), rfl, rfl, by rw [ht]; exact hP, va_K.moved hW.alike hK, hD⟩, hS.F ht⟩) hS.2.2 dJ1_indexOf_4cfef_8
set_option maxHeartbeats 4000000 in
set_option maxRecDepth 100000 in
theorem k_String_indexOf_1 (l : Launch) (dC : Nat → ClassId) (dI : Nat → Nat → Nat) (cI : ClassId) (cZ : ClassId) (tt : Nat → Nat) (sd : Nat → Nat) (sz : Nat) (p0 : Nat) (p1 : Int32) (p2 : Int32) (r0 : Int32) (hf : f_String_indexOf_1 p0 p1 p2 = some (r0)) : Met l yJ0_indexOf_7cf53 wsJ0_indexOf_7cf53 ({ frames := 2, cells := 0, slots := 0, locals := 55 }) (zPre (dC, dI) vwCl [(cI, .int), (cZ, .boolean)] tt sd [.ref (sd p0), .int p1, .int p2] [] sz) (zQi (dC, dI) vwCl [(cI, .int), (cZ, .boolean)] r0 [] (va_A [] sz)) 0 0 (va_A [] sz) := by
  refine Met.ofW (cc := cJ0_indexOf_7cf53) (maxL := 3) (ret := (some .int)) (by decide) rfl ?_
  intro p e s m args below meth c s₁ B hml hv
  obtain ⟨rfl, hsz, hP, hK, hD0, hZ⟩ := hv
  have hx := B.exec
  have hb := B.bytes
  have hr := B.returns
  have hts := atoms_spec (ws := wsJ0_indexOf_7cf53) B.pre
  have hown : s.vm.findClass RJ0 = some m.cls := findClass_of_methodNamed B.named
  have hlocks := B.notSynchronized
  subst hsz
  have hD := hD0.self (sz := s.heap.size)
  generalize hAe : va_A [] s.heap.size = A at hD hZ ⊢
  have hA : ∀ q : Nat, s.heap.size ≤ q → A q := fun q h => by rw [← hAe]; exact Or.inr h
  have hS : va_S A s.heap s.heap [] := va_S.rf
  have hP : va_P (dC, dI) vwCl [] s.heap := hP
  have hl := lv_entry ([.ref (sd p0), .int p1, .int p2]) (n := 3) (Nat.le_of_ble_eq_true rfl)
  rw [lg_entry_eq]
  generalize (lg_sl ([.ref (sd p0), .int p1, .int p2]) ++ List.replicate (3 - (lg_sl ([.ref (sd p0), .int p1, .int p2])).length) Slot.unset).toArray = ls at hl ⊢
  have hl : lv_has ls 3 [(0, .ref (sd p0)), (1, .int p1), (2, .int p2)] := hl
  have he := hf
  unfold f_String_indexOf_1 at he
  refine lv_aload_n hx hb dJ0_indexOf_7cf53_0 rfl (lv_at hl 0 rfl) ?_
  obtain ⟨hg1, he⟩ := zg_e he
  obtain ⟨r2, hf3, he⟩ := zb1_e he
  refine zc_i (wr := []) (ws' := []) (va_runV (As := []) (rest := []) ⟨hx, hb, hml, hown, hts⟩ (k_String_isLatin1 l dC dI cI cZ tt sd s.heap.size p0 r2 hf3) (cwV 0 hts gJ0_indexOf_7cf53_J0_isLatin1_aae02 rfl rfl rfl (by decide +kernel) ⟨Nat.le_of_ble_eq_true rfl, Nat.le_of_ble_eq_true rfl⟩) (zpW hP hD hK hS hA hZ [] rfl rfl hg1) rfl rfl hl.1 rfl (lv_room (Nat.le_of_ble_eq_true rfl)) dJ0_indexOf_7cf53_1 ⟨Nat.zero_le _, Nat.zero_le _⟩) hP hD hS hA [] [] [] rfl rfl rfl (by decide) rfl rfl rfl (fun H locs hP hD hS => ?_)
  refine lv_if_eq (tgt := 23) hx hb dJ0_indexOf_7cf53_4 (by decide) (fun c4 => ?_) (fun c4 => ?_)
  · have he := zif_t c4 he
    cases he
  · have he := zif_f c4 he
    refine lv_aload_n hx hb dJ0_indexOf_7cf53_7 rfl (lv_at hl 0 rfl) ?_
    obtain ⟨hg5, he⟩ := zg_e he
    refine vk_getf hx hb (zZ_K hZ hg5).2.2.1 hS hown (hts (.fieldLink RJ0 9 "java/lang/String" "value" "[B") (by decide +kernel)) (fun _ h9 => h9) dJ0_indexOf_7cf53_8 ?_
    refine lv_iload_n hx hb dJ0_indexOf_7cf53_11 rfl (lv_at hl 1 rfl) ?_
    refine lv_iload_n hx hb dJ0_indexOf_7cf53_12 rfl (lv_at hl 2 rfl) ?_
    refine lv_aload_n hx hb dJ0_indexOf_7cf53_13 rfl (lv_at hl 0 rfl) ?_
    obtain ⟨hg6, he⟩ := zg_e he
    obtain ⟨r7, hf8, he⟩ := zb1_e he
    refine zc_i (wr := []) (ws' := []) (va_runV (As := []) (rest := [.int p2, .int p1, .ref (sd (1000 + p0))]) ⟨hx, hb, hml, hown, hts⟩ (k_String_length l dC dI cI cZ tt sd H.size p0 r7 hf8) (cwV 0 hts gJ0_indexOf_7cf53_J0_length_8abf5 rfl rfl rfl (by decide +kernel) ⟨Nat.le_of_ble_eq_true rfl, Nat.le_of_ble_eq_true rfl⟩) (zpW hP hD hK hS hA hZ [] rfl rfl hg6) rfl rfl hl.1 rfl (lv_room (Nat.le_of_ble_eq_true rfl)) dJ0_indexOf_7cf53_14 ⟨Nat.zero_le _, Nat.zero_le _⟩) hP hD hS hA [] [] [] rfl rfl rfl (by decide) rfl rfl rfl (fun H locs hP hD hS => ?_)
    obtain ⟨r9, hf10, he⟩ := zb1_e he
    refine zc_i (wr := []) (ws' := []) (va_runS (As := [.ref (sd (1000 + p0)), .int p1, .int p2, .int r7]) (rest := []) ⟨hx, hb, hml, hown, hts⟩ (k_StringLatin1_indexOf l dC dI cI cZ tt sd H.size p0 p1 p2 r7 r9 hf10) (va_cwS 4 hts gJ0_indexOf_7cf53_J1_indexOf_4cfef rfl rfl rfl (by decide +kernel) ⟨Nat.le_of_ble_eq_true rfl, Nat.le_of_ble_eq_true rfl⟩) (zpS hP hD hK hS hA hZ [] rfl rfl) rfl rfl hl.1 rfl (lv_room (Nat.le_of_ble_eq_true rfl)) dJ0_indexOf_7cf53_17 ⟨Nat.zero_le _, Nat.zero_le _⟩) hP hD hS hA [] [] [] rfl rfl rfl (by decide) rfl rfl rfl (fun H locs hP hD hS => ?_)
    refine lv_goto (tgt := 36) hx hb dJ0_indexOf_7cf53_20 (by decide) ?_
    obtain ⟨rfl⟩ := zi1 he
    exact W.iret hx hb hr (fun t ht hW => ⟨⟨_, (), rfl, rfl, by rw [ht]; exact hP, va_K.moved hW.alike hK, hD⟩, hS.F ht⟩) hS.2.2 dJ0_indexOf_7cf53_36
set_option maxHeartbeats 4000000 in
set_option maxRecDepth 100000 in
theorem k_String_indexOf_0 (l : Launch) (dC : Nat → ClassId) (dI : Nat → Nat → Nat) (cI : ClassId) (cZ : ClassId) (tt : Nat → Nat) (sd : Nat → Nat) (sz : Nat) (p0 : Nat) (p1 : Int32) (r0 : Int32) (hf : f_String_indexOf_0 p0 p1 = some (r0)) : Met l yJ0_indexOf_0f7a4 wsJ0_indexOf_0f7a4 ({ frames := 3, cells := 0, slots := 0, locals := 77 }) (zPre (dC, dI) vwCl [(cI, .int), (cZ, .boolean)] tt sd [.ref (sd p0), .int p1] [] sz) (zQi (dC, dI) vwCl [(cI, .int), (cZ, .boolean)] r0 [] (va_A [] sz)) 0 0 (va_A [] sz) := by
  refine Met.ofW (cc := cJ0_indexOf_0f7a4) (maxL := 2) (ret := (some .int)) (by decide) rfl ?_
  intro p e s m args below meth c s₁ B hml hv
  obtain ⟨rfl, hsz, hP, hK, hD0, hZ⟩ := hv
  have hx := B.exec
  have hb := B.bytes
  have hr := B.returns
  have hts := atoms_spec (ws := wsJ0_indexOf_0f7a4) B.pre
  have hown : s.vm.findClass RJ0 = some m.cls := findClass_of_methodNamed B.named
  have hlocks := B.notSynchronized
  subst hsz
  have hD := hD0.self (sz := s.heap.size)
  generalize hAe : va_A [] s.heap.size = A at hD hZ ⊢
  have hA : ∀ q : Nat, s.heap.size ≤ q → A q := fun q h => by rw [← hAe]; exact Or.inr h
  have hS : va_S A s.heap s.heap [] := va_S.rf
  have hP : va_P (dC, dI) vwCl [] s.heap := hP
  have hl := lv_entry ([.ref (sd p0), .int p1]) (n := 2) (Nat.le_of_ble_eq_true rfl)
  rw [lg_entry_eq]
  generalize (lg_sl ([.ref (sd p0), .int p1]) ++ List.replicate (2 - (lg_sl ([.ref (sd p0), .int p1])).length) Slot.unset).toArray = ls at hl ⊢
  have hl : lv_has ls 2 [(0, .ref (sd p0)), (1, .int p1)] := hl
  have he := hf
  unfold f_String_indexOf_0 at he
  refine lv_aload_n hx hb dJ0_indexOf_0f7a4_0 rfl (lv_at hl 0 rfl) ?_
  refine lv_iload_n hx hb dJ0_indexOf_0f7a4_1 rfl (lv_at hl 1 rfl) ?_
  refine lv_iconst (v := (0 : Int32)) hx hb dJ0_indexOf_0f7a4_2 (by decide) ?_
  obtain ⟨hg1, he⟩ := zg_e he
  obtain ⟨r2, hf3, he⟩ := zb1_e he
  refine zc_i (wr := []) (ws' := []) (va_runV (As := [.int p1, .int (0 : Int32)]) (rest := []) ⟨hx, hb, hml, hown, hts⟩ (k_String_indexOf_1 l dC dI cI cZ tt sd s.heap.size p0 p1 (0 : Int32) r2 hf3) (cwV 2 hts gJ0_indexOf_0f7a4_J0_indexOf_7cf53 rfl rfl rfl (by decide +kernel) ⟨Nat.le_of_ble_eq_true rfl, Nat.le_of_ble_eq_true rfl⟩) (zpW hP hD hK hS hA hZ [] rfl rfl hg1) rfl rfl hl.1 rfl (lv_room (Nat.le_of_ble_eq_true rfl)) dJ0_indexOf_0f7a4_3 ⟨Nat.zero_le _, Nat.zero_le _⟩) hP hD hS hA [] [] [] rfl rfl rfl (by decide) rfl rfl rfl (fun H locs hP hD hS => ?_)
  obtain ⟨rfl⟩ := zi1 he
  exact W.iret hx hb hr (fun t ht hW => ⟨⟨_, (), rfl, rfl, by rw [ht]; exact hP, va_K.moved hW.alike hK, hD⟩, hS.F ht⟩) hS.2.2 dJ0_indexOf_0f7a4_6
set_option maxHeartbeats 4000000 in
set_option maxRecDepth 100000 in
theorem k_Letters_fits (l : Launch) (dC : Nat → ClassId) (dI : Nat → Nat → Nat) (cI : ClassId) (cZ : ClassId) (tt : Nat → Nat) (sd : Nat → Nat) (sz : Nat) (p0 : Int32) (p1 : Int32) (r0 : Int32) (hf : f_Letters_fits p0 p1 = some (r0)) : Met l yX0_fits wsX0_fits ({ frames := 4, cells := 0, slots := 0, locals := 98 }) (zPre (dC, dI) vwCl [(cI, .int), (cZ, .boolean)] tt sd [.int p0, .int p1] [] sz) (zQi (dC, dI) vwCl [(cI, .int), (cZ, .boolean)] r0 [] (va_A [] sz)) 0 0 (va_A [] sz) := by
  refine Met.ofW (cc := cX0_fits) (maxL := 2) (ret := (some .boolean)) (by decide) rfl ?_
  intro p e s m args below meth c s₁ B hml hv
  obtain ⟨rfl, hsz, hP, hK, hD0, hZ⟩ := hv
  have hx := B.exec
  have hb := B.bytes
  have hr := B.returns
  have hts := atoms_spec (ws := wsX0_fits) B.pre
  have hown : s.vm.findClass RX0 = some m.cls := findClass_of_methodNamed B.named
  have hlocks := B.notSynchronized
  subst hsz
  have hD := hD0.self (sz := s.heap.size)
  generalize hAe : va_A [] s.heap.size = A at hD hZ ⊢
  have hA : ∀ q : Nat, s.heap.size ≤ q → A q := fun q h => by rw [← hAe]; exact Or.inr h
  have hS : va_S A s.heap s.heap [] := va_S.rf
  have hP : va_P (dC, dI) vwCl [] s.heap := hP
  have hl := lv_entry ([.int p0, .int p1]) (n := 2) (Nat.le_of_ble_eq_true rfl)
  rw [lg_entry_eq]
  generalize (lg_sl ([.int p0, .int p1]) ++ List.replicate (2 - (lg_sl ([.int p0, .int p1])).length) Slot.unset).toArray = ls at hl ⊢
  have hl : lv_has ls 2 [(0, .int p0), (1, .int p1)] := hl
  have he := hf
  unfold f_Letters_fits at he
  refine lv_iload_n hx hb dX0_fits_0 rfl (lv_at hl 0 rfl) ?_
  refine lv_bipush (v := (75 : Int32)) hx hb dX0_fits_1 (by decide) ?_
  refine lv_icmp_ne (tgt := 22) hx hb dX0_fits_3 (by decide) (fun c1 => ?_) (fun c1 => ?_)
  · have he := zif_f c1 he
    refine lv_iload_n hx hb dX0_fits_22 rfl (lv_at hl 0 rfl) ?_
    refine lv_bipush (v := (68 : Int32)) hx hb dX0_fits_23 (by decide) ?_
    refine lv_icmp_ne (tgt := 46) hx hb dX0_fits_25 (by decide) (fun c2 => ?_) (fun c2 => ?_)
    · have he := zif_f c2 he
      refine lv_iload_n hx hb dX0_fits_46 rfl (lv_at hl 1 rfl) ?_
      refine lv_iload_n hx hb dX0_fits_47 rfl (lv_at hl 0 rfl) ?_
      refine lv_icmp_ne (tgt := 55) hx hb dX0_fits_48 (by decide) (fun c3 => ?_) (fun c3 => ?_)
      · have he := zif_f c3 he
        refine lv_iconst (v := (0 : Int32)) hx hb dX0_fits_55 (by decide) ?_
        obtain ⟨rfl⟩ := zi1 he
        exact W.zret hx hb hr rfl (fun t ht hW => ⟨⟨_, (), rfl, rfl, by rw [ht]; exact hP, va_K.moved hW.alike hK, hD⟩, hS.F ht⟩) hS.2.2 dX0_fits_56
      · have he := zif_t c3 he
        refine lv_iconst (v := (1 : Int32)) hx hb dX0_fits_51 (by decide) ?_
        refine lv_goto (tgt := 56) hx hb dX0_fits_52 (by decide) ?_
        obtain ⟨rfl⟩ := zi1 he
        exact W.zret hx hb hr rfl (fun t ht hW => ⟨⟨_, (), rfl, rfl, by rw [ht]; exact hP, va_K.moved hW.alike hK, hD⟩, hS.F ht⟩) hS.2.2 dX0_fits_56
    · have he := zif_t c2 he
      refine lv_iload_n hx hb dX0_fits_28 rfl (lv_at hl 1 rfl) ?_
      refine lv_bipush (v := (48 : Int32)) hx hb dX0_fits_29 (by decide) ?_
      refine lv_icmp_lt (tgt := 44) hx hb dX0_fits_31 (by decide) (fun c4 => ?_) (fun c4 => ?_)
      · have he := zif_t c4 he
        refine lv_iconst (v := (0 : Int32)) hx hb dX0_fits_44 (by decide) ?_
        obtain ⟨rfl⟩ := zi1 he
        exact W.zret hx hb hr rfl (fun t ht hW => ⟨⟨_, (), rfl, rfl, by rw [ht]; exact hP, va_K.moved hW.alike hK, hD⟩, hS.F ht⟩) hS.2.2 dX0_fits_45
      · have he := zif_f c4 he
        refine lv_iload_n hx hb dX0_fits_34 rfl (lv_at hl 1 rfl) ?_
        refine lv_bipush (v := (57 : Int32)) hx hb dX0_fits_35 (by decide) ?_
        refine lv_icmp_gt (tgt := 44) hx hb dX0_fits_37 (by decide) (fun c5 => ?_) (fun c5 => ?_)
        · have he := zif_t c5 he
          refine lv_iconst (v := (0 : Int32)) hx hb dX0_fits_44 (by decide) ?_
          obtain ⟨rfl⟩ := zi1 he
          exact W.zret hx hb hr rfl (fun t ht hW => ⟨⟨_, (), rfl, rfl, by rw [ht]; exact hP, va_K.moved hW.alike hK, hD⟩, hS.F ht⟩) hS.2.2 dX0_fits_45
        · have he := zif_f c5 he
          refine lv_iconst (v := (1 : Int32)) hx hb dX0_fits_40 (by decide) ?_
          refine lv_goto (tgt := 45) hx hb dX0_fits_41 (by decide) ?_
          obtain ⟨rfl⟩ := zi1 he
          exact W.zret hx hb hr rfl (fun t ht hW => ⟨⟨_, (), rfl, rfl, by rw [ht]; exact hP, va_K.moved hW.alike hK, hD⟩, hS.F ht⟩) hS.2.2 dX0_fits_45
  · have he := zif_t c1 he
    refine va_ldcS hx hb hown (zZ_S5 hZ) dX0_fits_6 ?_
    refine lv_iload_n hx hb dX0_fits_8 rfl (lv_at hl 1 rfl) ?_
    refine lv_i2c hx hb dX0_fits_9 rfl ?_
    obtain ⟨hg6, he⟩ := zg_e he
    obtain ⟨r7, hf8, he⟩ := zb1_e he
    refine zc_i (wr := []) (ws' := []) (va_runV (As := [.int (zi2c p1)]) (rest := []) ⟨hx, hb, hml, hown, hts⟩ (k_String_indexOf_0 l dC dI cI cZ tt sd s.heap.size (5) (zi2c p1) r7 hf8) (cwV 1 hts gX0_fits_J0_indexOf_0f7a4 rfl rfl rfl (by decide +kernel) ⟨Nat.le_of_ble_eq_true rfl, Nat.le_of_ble_eq_true rfl⟩) (zpW hP hD hK hS hA hZ [] rfl rfl hg6) rfl rfl hl.1 rfl (lv_room (Nat.le_of_ble_eq_true rfl)) dX0_fits_10 ⟨Nat.zero_le _, Nat.zero_le _⟩) hP hD hS hA [] [] [] rfl rfl rfl (by decide) rfl rfl rfl (fun H locs hP hD hS => ?_)
    refine lv_if_lt (tgt := 20) hx hb dX0_fits_13 (by decide) (fun c9 => ?_) (fun c9 => ?_)
    · have he := zif_t c9 he
      refine lv_iconst (v := (0 : Int32)) hx hb dX0_fits_20 (by decide) ?_
      obtain ⟨rfl⟩ := zi1 he
      exact W.zret hx hb hr rfl (fun t ht hW => ⟨⟨_, (), rfl, rfl, by rw [ht]; exact hP, va_K.moved hW.alike hK, hD⟩, hS.F ht⟩) hS.2.2 dX0_fits_21
    · have he := zif_f c9 he
      refine lv_iconst (v := (1 : Int32)) hx hb dX0_fits_16 (by decide) ?_
      refine lv_goto (tgt := 21) hx hb dX0_fits_17 (by decide) ?_
      obtain ⟨rfl⟩ := zi1 he
      exact W.zret hx hb hr rfl (fun t ht hW => ⟨⟨_, (), rfl, rfl, by rw [ht]; exact hP, va_K.moved hW.alike hK, hD⟩, hS.F ht⟩) hS.2.2 dX0_fits_21
