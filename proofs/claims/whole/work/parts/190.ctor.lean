set_option maxHeartbeats 4000000 in
set_option maxRecDepth 100000 in
theorem k_Numbers_init (l : Launch) (dC : Nat → ClassId) (dI : Nat → Nat → Nat) (cI cZ : ClassId) (tt sd : Nat → Nat) (a_this : Nat) (sz : Nat) (p1 : Int32) (N : Nat) (hN1 : ¬ zmax p1 (0 : Int32) < 0) (hN2 : (zmax p1 (0 : Int32)).toNatClampNeg = N) (hN3 : N * 4 ≤ 536870912) : Met l yX1_init wsX1_init ({ frames := 1, cells := 1, slots := N, locals := 32 }) (zPre (dC, dI) vwCl [(cI, .int), (cZ, .boolean)] tt sd [.ref a_this, .int p1] [(a_this, .inr (1, [.null]))] sz) (zQn (S := Nat) (dC, dI) vwCl [(cI, .int), (cZ, .boolean)] (fun u : Nat => match u with | (q1) => [(a_this, .inr (1, [.ref q1])), (q1, .inl (cI, N, .inl (fun _ => 0)))]) (va_A [(a_this, .inr (1, [.null]))] sz)) 1 (N) (va_A [(a_this, .inr (1, [.null]))] sz) := by
  refine Met.ofW (cc := cX1_init) (maxL := 2) (ret := none) (by decide) rfl ?_
  intro p e s m args below meth c s₁ B hml hv
  obtain ⟨rfl, hsz, hP, hK, hD0, hZ⟩ := hv
  have hx := B.exec
  have hb := B.bytes
  have hr := B.returns
  have hts := atoms_spec (ws := wsX1_init) B.pre
  have hown : s.vm.findClass RX1 = some m.cls := findClass_of_methodNamed B.named
  have hlocks := B.notSynchronized
  have hin : meth.name = "<init>" := (name_of_methodNamed B.named B.method).1
  subst hsz
  have hD := hD0.self (sz := s.heap.size)
  generalize hAe : va_A [(a_this, .inr (1, [.null]))] s.heap.size = A at hD hZ ⊢
  have hA : ∀ q : Nat, s.heap.size ≤ q → A q := fun q h => by rw [← hAe]; exact Or.inr h
  have hS : va_S A s.heap s.heap [] := va_S.rf
  have hP : va_P (dC, dI) vwCl [(a_this, .inr (1, [.null]))] s.heap := hP
  have hl := lv_entry ([.ref a_this, .int p1]) (n := 2) (Nat.le_of_ble_eq_true rfl)
  rw [lg_entry_eq]
  generalize (lg_sl ([.ref a_this, .int p1]) ++ List.replicate (2 - (lg_sl ([.ref a_this, .int p1])).length) Slot.unset).toArray = ls at hl ⊢
  have hl : lv_has ls 2 [(0, .ref a_this), (1, .int p1)] := hl
  refine lv_aload_n hx hb dX1_init_0 rfl (lv_at hl 0 rfl) ?_
  refine W.objInit hx hb hown (hts (.methodLink RX1 1 objectInit) (by decide +kernel)) (hts (.instanceMethod objectInit) (by decide +kernel)) (hts _ (show Cond.code objectInit ⟨#[0xb1]⟩ 1 none ∈ wsX1_init by decide +kernel)) rfl (by rw [hml]; exact hl.1) rfl dX1_init_1 (Nat.le_of_ble_eq_true rfl) (Nat.le_of_ble_eq_true rfl) ?_
  refine W.eq (g2 := F0 m 4 ls []) rfl ?_
  refine lv_aload_n hx hb dX1_init_4 rfl (lv_at hl 0 rfl) ?_
  refine lv_iload_n hx hb dX1_init_5 rfl (lv_at hl 1 rfl) ?_
  refine lv_iconst (v := (0 : Int32)) hx hb dX1_init_6 (by decide) ?_
  refine va_mmax hx hb (by rw [hml]; exact hl.1.symm) hown (hts (.methodLink RX1 7 Lib.Math.max.name) (by decide +kernel)) (hts (.static Lib.Math.max.name) (by decide +kernel)) (hts (.initialized "java/lang/Math") (by decide +kernel)) (hts (.code Lib.Math.max.name Lib.Math.max.code 2 (some .int)) (by decide +kernel)) (Nat.le_of_ble_eq_true rfl) (Nat.le_of_ble_eq_true rfl) (Nat.zero_le _) (Nat.zero_le _) dX1_init_7 ?_
  refine zc_newa (N := N) hx hb (hts (.arrayClass .int) (by decide +kernel)) hK hP hD hS hA hN1 hN2 hN3 (Nat.le_of_ble_eq_true rfl) (by show _ + N ≤ N; omega) dX1_init_10 (fun q1 H hP hD hS => ?_)
  have hP : va_P (dC, dI) vwCl [(a_this, .inr (1, [.null])), (q1, .inl (cI, N, .inl (fun _ => 0)))] H := hP
  have hD : va_D A [(a_this, .inr (1, [.null])), (q1, .inl (cI, N, .inl (fun _ => 0)))] := hD
  refine W.widen (k := 1) (n := N) (by omega) (by omega) ?_
  refine va_putF (D := (dC, dI)) (ci := 1) (v := .ref q1) (ty := (.array .int)) (C := RX1) (T := TX1) (N := 1) hx hb hts (by decide +kernel) tyX1 tyX1_ok nmX1 hown hK hP hD hS 0 rfl rfl 0 (by decide) (hts (.fieldLink RX1 13 "LawOfCorners$Numbers" "all" "[I") (by decide +kernel)) (fun _ h9 => h9) rfl hin rfl (by decide +kernel) rfl rfl (Nat.le_of_ble_eq_true rfl) dX1_init_12 (fun H locs hP hD hS => ?_)
  have hP : va_P (dC, dI) vwCl [(a_this, .inr (1, [.ref q1])), (q1, .inl (cI, N, .inl (fun _ => 0)))] H := hP
  have hD : va_D A [(a_this, .inr (1, [.ref q1])), (q1, .inl (cI, N, .inl (fun _ => 0)))] := hD
  have hP : va_P (dC, dI) vwCl [(a_this, .inr (1, [.ref q1])), (q1, .inl (cI, N, .inl (fun _ => 0)))] H := hP.sub [0, 1] rfl
  have hD : va_D A [(a_this, .inr (1, [.ref q1])), (q1, .inl (cI, N, .inl (fun _ => 0)))] := hD.sub [0, 1] rfl rfl
  exact W.vret hx hb hr (fun t ht hW => ⟨⟨(q1), rfl, trivial, by rw [ht]; exact hP, va_K.moved hW.alike hK, hD⟩, hS.F ht⟩) hS.2.2 dX1_init_15
set_option maxHeartbeats 4000000 in
set_option maxRecDepth 100000 in
theorem k_Town_init (l : Launch) (dC : Nat → ClassId) (dI : Nat → Nat → Nat) (cI cZ : ClassId) (tt sd : Nat → Nat) (a_this : Nat) (sz : Nat) : Met l yX6_init wsX6_init ({ frames := 2, cells := 2, slots := 37, locals := 53 }) (zPre (dC, dI) vwCl [(cI, .int), (cZ, .boolean)] tt sd [.ref a_this] [(a_this, .inr (6, [.null, .int (0 : Int32), .int (0 : Int32), .int (0 : Int32)]))] sz) (zQn (S := Nat × Nat) (dC, dI) vwCl [(cI, .int), (cZ, .boolean)] (fun u : Nat × Nat => match u with | (q1, q2) => [(a_this, .inr (6, [.ref q1, .int (0 : Int32), .int (2 : Int32), .int (5 : Int32)])), (q1, .inr (1, [.ref q2])), (q2, .inl (cI, 36, .inl (fun _ => 0)))]) (va_A [(a_this, .inr (6, [.null, .int (0 : Int32), .int (0 : Int32), .int (0 : Int32)]))] sz)) 2 (37) (va_A [(a_this, .inr (6, [.null, .int (0 : Int32), .int (0 : Int32), .int (0 : Int32)]))] sz) := by
  refine Met.ofW (cc := cX6_init) (maxL := 1) (ret := none) (by decide) rfl ?_
  intro p e s m args below meth c s₁ B hml hv
  obtain ⟨rfl, hsz, hP, hK, hD0, hZ⟩ := hv
  have hx := B.exec
  have hb := B.bytes
  have hr := B.returns
  have hts := atoms_spec (ws := wsX6_init) B.pre
  have hown : s.vm.findClass RX6 = some m.cls := findClass_of_methodNamed B.named
  have hlocks := B.notSynchronized
  have hin : meth.name = "<init>" := (name_of_methodNamed B.named B.method).1
  subst hsz
  have hD := hD0.self (sz := s.heap.size)
  generalize hAe : va_A [(a_this, .inr (6, [.null, .int (0 : Int32), .int (0 : Int32), .int (0 : Int32)]))] s.heap.size = A at hD hZ ⊢
  have hA : ∀ q : Nat, s.heap.size ≤ q → A q := fun q h => by rw [← hAe]; exact Or.inr h
  have hS : va_S A s.heap s.heap [] := va_S.rf
  have hP : va_P (dC, dI) vwCl [(a_this, .inr (6, [.null, .int (0 : Int32), .int (0 : Int32), .int (0 : Int32)]))] s.heap := hP
  have hl := lv_entry ([.ref a_this]) (n := 1) (Nat.le_of_ble_eq_true rfl)
  rw [lg_entry_eq]
  generalize (lg_sl ([.ref a_this]) ++ List.replicate (1 - (lg_sl ([.ref a_this])).length) Slot.unset).toArray = ls at hl ⊢
  have hl : lv_has ls 1 [(0, .ref a_this)] := hl
  refine lv_aload_n hx hb dX6_init_0 rfl (lv_at hl 0 rfl) ?_
  refine W.objInit hx hb hown (hts (.methodLink RX6 3 objectInit) (by decide +kernel)) (hts (.instanceMethod objectInit) (by decide +kernel)) (hts _ (show Cond.code objectInit ⟨#[0xb1]⟩ 1 none ∈ wsX6_init by decide +kernel)) rfl (by rw [hml]; exact hl.1) rfl dX6_init_1 (Nat.le_of_ble_eq_true rfl) (Nat.le_of_ble_eq_true rfl) ?_
  refine W.eq (g2 := F0 m 4 ls []) rfl ?_
  refine lv_aload_n hx hb dX6_init_4 rfl (lv_at hl 0 rfl) ?_
  refine va_new (ci := 1) (fs := [.null]) (C := RX1) (T := TX1) (N := 1) hx hb hts (by decide +kernel) tyX1 tyX1_ok hown (hts (.classLink RX6 9 RX1) (by decide +kernel)) (hts (.instantiable RX1 1) (by decide +kernel)) (hts (.initialized RX1) (by decide +kernel)) hK hP hD hS hA rfl (fun j hj => by rcases (show j = 0 by omega) with rfl <;> rfl) (Nat.le_of_ble_eq_true rfl) (Nat.le_of_ble_eq_true rfl) dX6_init_5 (fun q1 H hP hD hS => ?_)
  have hP : va_P (dC, dI) vwCl [(a_this, .inr (6, [.null, .int (0 : Int32), .int (0 : Int32), .int (0 : Int32)])), (q1, .inr (1, [.null]))] H := hP
  have hD : va_D A [(a_this, .inr (6, [.null, .int (0 : Int32), .int (0 : Int32), .int (0 : Int32)])), (q1, .inr (1, [.null]))] := hD
  refine W.widen (k := 1) (n := 1) (by omega) (by omega) ?_
  refine lv_dup hx hb dX6_init_8 rfl ?_
  refine lv_bipush (v := (36 : Int32)) hx hb dX6_init_9 (by decide) ?_
  refine zc_n (wr := [(a_this, .inr (6, [.null, .int (0 : Int32), .int (0 : Int32), .int (0 : Int32)]))]) (va_runI (As := [.int (36 : Int32)]) (rest := [.ref q1, .ref a_this]) ⟨hx, hb, hml, hown, hts⟩ (k_Numbers_init l dC dI cI cZ tt sd q1 H.size (36 : Int32) 36 (by decide) (by decide) (by decide)) (cwI 1 hts gX6_init_X1_init rfl rfl rfl (hts (.initialized RX1) (by decide +kernel)) (hts (.methodLink RX6 11 yX1_init) (by decide +kernel)) (hts (.instanceMethod yX1_init) (by decide +kernel)) rfl (by decide +kernel) ⟨Nat.le_of_ble_eq_true rfl, Nat.le_of_ble_eq_true rfl⟩) (zpS hP hD hK hS hA hZ [1] rfl rfl) rfl rfl hl.1 rfl (lv_room (Nat.le_of_ble_eq_true rfl)) dX6_init_11 ⟨Nat.le_of_ble_eq_true rfl, Nat.le_of_ble_eq_true rfl⟩) hP hD hS hA [1] [0] rfl rfl rfl (by decide) (fun u H locs hP hD hS => ?_)
  obtain ⟨q2, rfl⟩ : ∃ z : Nat, z = u := ⟨_, rfl⟩
  have hP : va_P (dC, dI) vwCl [(a_this, .inr (6, [.null, .int (0 : Int32), .int (0 : Int32), .int (0 : Int32)])), (q1, .inr (1, [.ref q2])), (q2, .inl (cI, 36, .inl (fun _ => 0)))] H := hP
  have hD : va_D A [(a_this, .inr (6, [.null, .int (0 : Int32), .int (0 : Int32), .int (0 : Int32)])), (q1, .inr (1, [.ref q2])), (q2, .inl (cI, 36, .inl (fun _ => 0)))] := hD
  refine W.widen (k := 2) (n := 1 + 36) (by omega) (by omega) ?_
  refine va_putF (D := (dC, dI)) (ci := 6) (v := .ref q1) (ty := (.object "LawOfCorners$Numbers")) (C := RX6) (T := TX6) (N := 4) hx hb hts (by decide +kernel) tyX6 tyX6_ok nmX6 hown hK hP hD hS 0 rfl rfl 0 (by decide) (hts (.fieldLink RX6 14 "LawOfCorners$Town" "kinds" "LLawOfCorners$Numbers;") (by decide +kernel)) (fun _ h9 => h9) rfl hin rfl (by decide +kernel) rfl rfl (Nat.le_of_ble_eq_true rfl) dX6_init_14 (fun H locs hP hD hS => ?_)
  have hP : va_P (dC, dI) vwCl [(a_this, .inr (6, [.ref q1, .int (0 : Int32), .int (0 : Int32), .int (0 : Int32)])), (q1, .inr (1, [.ref q2])), (q2, .inl (cI, 36, .inl (fun _ => 0)))] H := hP
  have hD : va_D A [(a_this, .inr (6, [.ref q1, .int (0 : Int32), .int (0 : Int32), .int (0 : Int32)])), (q1, .inr (1, [.ref q2])), (q2, .inl (cI, 36, .inl (fun _ => 0)))] := hD
  refine lv_aload_n hx hb dX6_init_17 rfl (lv_at hl 0 rfl) ?_
  refine lv_iconst (v := (0 : Int32)) hx hb dX6_init_18 (by decide) ?_
  refine va_put (D := (dC, dI)) (ci := 6) (v := .int (0 : Int32)) (ty := .int) (C := RX6) (T := TX6) (N := 4) hx hb hts (by decide +kernel) tyX6 tyX6_ok nmX6 hown hK hP hD hS 0 rfl rfl 1 (by decide) (hts (.fieldLink RX6 20 "LawOfCorners$Town" "home" "I") (by decide +kernel)) (fun _ h9 => h9) rfl (by decide +kernel) rfl rfl (Nat.le_of_ble_eq_true rfl) dX6_init_19 (fun H locs hP hD hS => ?_)
  have hP : va_P (dC, dI) vwCl [(a_this, .inr (6, [.ref q1, .int (0 : Int32), .int (0 : Int32), .int (0 : Int32)])), (q1, .inr (1, [.ref q2])), (q2, .inl (cI, 36, .inl (fun _ => 0)))] H := hP
  have hD : va_D A [(a_this, .inr (6, [.ref q1, .int (0 : Int32), .int (0 : Int32), .int (0 : Int32)])), (q1, .inr (1, [.ref q2])), (q2, .inl (cI, 36, .inl (fun _ => 0)))] := hD
  refine lv_aload_n hx hb dX6_init_22 rfl (lv_at hl 0 rfl) ?_
  refine lv_iconst (v := (2 : Int32)) hx hb dX6_init_23 (by decide) ?_
  refine va_put (D := (dC, dI)) (ci := 6) (v := .int (2 : Int32)) (ty := .int) (C := RX6) (T := TX6) (N := 4) hx hb hts (by decide +kernel) tyX6 tyX6_ok nmX6 hown hK hP hD hS 0 rfl rfl 2 (by decide) (hts (.fieldLink RX6 24 "LawOfCorners$Town" "fine" "I") (by decide +kernel)) (fun _ h9 => h9) rfl (by decide +kernel) rfl rfl (Nat.le_of_ble_eq_true rfl) dX6_init_24 (fun H locs hP hD hS => ?_)
  have hP : va_P (dC, dI) vwCl [(a_this, .inr (6, [.ref q1, .int (0 : Int32), .int (2 : Int32), .int (0 : Int32)])), (q1, .inr (1, [.ref q2])), (q2, .inl (cI, 36, .inl (fun _ => 0)))] H := hP
  have hD : va_D A [(a_this, .inr (6, [.ref q1, .int (0 : Int32), .int (2 : Int32), .int (0 : Int32)])), (q1, .inr (1, [.ref q2])), (q2, .inl (cI, 36, .inl (fun _ => 0)))] := hD
  refine lv_aload_n hx hb dX6_init_27 rfl (lv_at hl 0 rfl) ?_
  refine lv_iconst (v := (5 : Int32)) hx hb dX6_init_28 (by decide) ?_
  refine va_put (D := (dC, dI)) (ci := 6) (v := .int (5 : Int32)) (ty := .int) (C := RX6) (T := TX6) (N := 4) hx hb hts (by decide +kernel) tyX6 tyX6_ok nmX6 hown hK hP hD hS 0 rfl rfl 3 (by decide) (hts (.fieldLink RX6 27 "LawOfCorners$Town" "breath" "I") (by decide +kernel)) (fun _ h9 => h9) rfl (by decide +kernel) rfl rfl (Nat.le_of_ble_eq_true rfl) dX6_init_29 (fun H locs hP hD hS => ?_)
  have hP : va_P (dC, dI) vwCl [(a_this, .inr (6, [.ref q1, .int (0 : Int32), .int (2 : Int32), .int (5 : Int32)])), (q1, .inr (1, [.ref q2])), (q2, .inl (cI, 36, .inl (fun _ => 0)))] H := hP
  have hD : va_D A [(a_this, .inr (6, [.ref q1, .int (0 : Int32), .int (2 : Int32), .int (5 : Int32)])), (q1, .inr (1, [.ref q2])), (q2, .inl (cI, 36, .inl (fun _ => 0)))] := hD
  have hP : va_P (dC, dI) vwCl [(a_this, .inr (6, [.ref q1, .int (0 : Int32), .int (2 : Int32), .int (5 : Int32)])), (q1, .inr (1, [.ref q2])), (q2, .inl (cI, 36, .inl (fun _ => 0)))] H := hP.sub [0, 1, 2] rfl
  have hD : va_D A [(a_this, .inr (6, [.ref q1, .int (0 : Int32), .int (2 : Int32), .int (5 : Int32)])), (q1, .inr (1, [.ref q2])), (q2, .inl (cI, 36, .inl (fun _ => 0)))] := hD.sub [0, 1, 2] rfl rfl
  exact W.vret hx hb hr (fun t ht hW => ⟨⟨(q1, q2), rfl, trivial, by rw [ht]; exact hP, va_K.moved hW.alike hK, hD⟩, hS.F ht⟩) hS.2.2 dX6_init_32
set_option maxHeartbeats 4000000 in
set_option maxRecDepth 100000 in
theorem k_Letters_init (l : Launch) (dC : Nat → ClassId) (dI : Nat → Nat → Nat) (cI cZ : ClassId) (tt sd : Nat → Nat) (a_this : Nat) (sz : Nat) : Met l yX0_init wsX0_init ({ frames := 2, cells := 2, slots := 97, locals := 53 }) (zPre (dC, dI) vwCl [(cI, .int), (cZ, .boolean)] tt sd [.ref a_this] [(a_this, .inr (0, [.null, .int (0 : Int32)]))] sz) (zQn (S := Nat × Nat) (dC, dI) vwCl [(cI, .int), (cZ, .boolean)] (fun u : Nat × Nat => match u with | (q1, q2) => [(a_this, .inr (0, [.ref q1, .int (0 : Int32)])), (q1, .inr (1, [.ref q2])), (q2, .inl (cI, 96, .inl (fun _ => 0)))]) (va_A [(a_this, .inr (0, [.null, .int (0 : Int32)]))] sz)) 2 (97) (va_A [(a_this, .inr (0, [.null, .int (0 : Int32)]))] sz) := by
  refine Met.ofW (cc := cX0_init) (maxL := 1) (ret := none) (by decide) rfl ?_
  intro p e s m args below meth c s₁ B hml hv
  obtain ⟨rfl, hsz, hP, hK, hD0, hZ⟩ := hv
  have hx := B.exec
  have hb := B.bytes
  have hr := B.returns
  have hts := atoms_spec (ws := wsX0_init) B.pre
  have hown : s.vm.findClass RX0 = some m.cls := findClass_of_methodNamed B.named
  have hlocks := B.notSynchronized
  have hin : meth.name = "<init>" := (name_of_methodNamed B.named B.method).1
  subst hsz
  have hD := hD0.self (sz := s.heap.size)
  generalize hAe : va_A [(a_this, .inr (0, [.null, .int (0 : Int32)]))] s.heap.size = A at hD hZ ⊢
  have hA : ∀ q : Nat, s.heap.size ≤ q → A q := fun q h => by rw [← hAe]; exact Or.inr h
  have hS : va_S A s.heap s.heap [] := va_S.rf
  have hP : va_P (dC, dI) vwCl [(a_this, .inr (0, [.null, .int (0 : Int32)]))] s.heap := hP
  have hl := lv_entry ([.ref a_this]) (n := 1) (Nat.le_of_ble_eq_true rfl)
  rw [lg_entry_eq]
  generalize (lg_sl ([.ref a_this]) ++ List.replicate (1 - (lg_sl ([.ref a_this])).length) Slot.unset).toArray = ls at hl ⊢
  have hl : lv_has ls 1 [(0, .ref a_this)] := hl
  refine lv_aload_n hx hb dX0_init_0 rfl (lv_at hl 0 rfl) ?_
  refine W.objInit hx hb hown (hts (.methodLink RX0 3 objectInit) (by decide +kernel)) (hts (.instanceMethod objectInit) (by decide +kernel)) (hts _ (show Cond.code objectInit ⟨#[0xb1]⟩ 1 none ∈ wsX0_init by decide +kernel)) rfl (by rw [hml]; exact hl.1) rfl dX0_init_1 (Nat.le_of_ble_eq_true rfl) (Nat.le_of_ble_eq_true rfl) ?_
  refine W.eq (g2 := F0 m 4 ls []) rfl ?_
  refine lv_aload_n hx hb dX0_init_4 rfl (lv_at hl 0 rfl) ?_
  refine va_new (ci := 1) (fs := [.null]) (C := RX1) (T := TX1) (N := 1) hx hb hts (by decide +kernel) tyX1 tyX1_ok hown (hts (.classLink RX0 9 RX1) (by decide +kernel)) (hts (.instantiable RX1 1) (by decide +kernel)) (hts (.initialized RX1) (by decide +kernel)) hK hP hD hS hA rfl (fun j hj => by rcases (show j = 0 by omega) with rfl <;> rfl) (Nat.le_of_ble_eq_true rfl) (Nat.le_of_ble_eq_true rfl) dX0_init_5 (fun q1 H hP hD hS => ?_)
  have hP : va_P (dC, dI) vwCl [(a_this, .inr (0, [.null, .int (0 : Int32)])), (q1, .inr (1, [.null]))] H := hP
  have hD : va_D A [(a_this, .inr (0, [.null, .int (0 : Int32)])), (q1, .inr (1, [.null]))] := hD
  refine W.widen (k := 1) (n := 1) (by omega) (by omega) ?_
  refine lv_dup hx hb dX0_init_8 rfl ?_
  refine lv_bipush (v := (96 : Int32)) hx hb dX0_init_9 (by decide) ?_
  refine zc_n (wr := [(a_this, .inr (0, [.null, .int (0 : Int32)]))]) (va_runI (As := [.int (96 : Int32)]) (rest := [.ref q1, .ref a_this]) ⟨hx, hb, hml, hown, hts⟩ (k_Numbers_init l dC dI cI cZ tt sd q1 H.size (96 : Int32) 96 (by decide) (by decide) (by decide)) (cwI 1 hts gX0_init_X1_init rfl rfl rfl (hts (.initialized RX1) (by decide +kernel)) (hts (.methodLink RX0 11 yX1_init) (by decide +kernel)) (hts (.instanceMethod yX1_init) (by decide +kernel)) rfl (by decide +kernel) ⟨Nat.le_of_ble_eq_true rfl, Nat.le_of_ble_eq_true rfl⟩) (zpS hP hD hK hS hA hZ [1] rfl rfl) rfl rfl hl.1 rfl (lv_room (Nat.le_of_ble_eq_true rfl)) dX0_init_11 ⟨Nat.le_of_ble_eq_true rfl, Nat.le_of_ble_eq_true rfl⟩) hP hD hS hA [1] [0] rfl rfl rfl (by decide) (fun u H locs hP hD hS => ?_)
  obtain ⟨q2, rfl⟩ : ∃ z : Nat, z = u := ⟨_, rfl⟩
  have hP : va_P (dC, dI) vwCl [(a_this, .inr (0, [.null, .int (0 : Int32)])), (q1, .inr (1, [.ref q2])), (q2, .inl (cI, 96, .inl (fun _ => 0)))] H := hP
  have hD : va_D A [(a_this, .inr (0, [.null, .int (0 : Int32)])), (q1, .inr (1, [.ref q2])), (q2, .inl (cI, 96, .inl (fun _ => 0)))] := hD
  refine W.widen (k := 2) (n := 1 + 96) (by omega) (by omega) ?_
  refine va_putF (D := (dC, dI)) (ci := 0) (v := .ref q1) (ty := (.object "LawOfCorners$Numbers")) (C := RX0) (T := TX0) (N := 2) hx hb hts (by decide +kernel) tyX0 tyX0_ok nmX0 hown hK hP hD hS 0 rfl rfl 0 (by decide) (hts (.fieldLink RX0 14 "LawOfCorners$Letters" "all" "LLawOfCorners$Numbers;") (by decide +kernel)) (fun _ h9 => h9) rfl hin rfl (by decide +kernel) rfl rfl (Nat.le_of_ble_eq_true rfl) dX0_init_14 (fun H locs hP hD hS => ?_)
  have hP : va_P (dC, dI) vwCl [(a_this, .inr (0, [.ref q1, .int (0 : Int32)])), (q1, .inr (1, [.ref q2])), (q2, .inl (cI, 96, .inl (fun _ => 0)))] H := hP
  have hD : va_D A [(a_this, .inr (0, [.ref q1, .int (0 : Int32)])), (q1, .inr (1, [.ref q2])), (q2, .inl (cI, 96, .inl (fun _ => 0)))] := hD
  have hP : va_P (dC, dI) vwCl [(a_this, .inr (0, [.ref q1, .int (0 : Int32)])), (q1, .inr (1, [.ref q2])), (q2, .inl (cI, 96, .inl (fun _ => 0)))] H := hP.sub [0, 1, 2] rfl
  have hD : va_D A [(a_this, .inr (0, [.ref q1, .int (0 : Int32)])), (q1, .inr (1, [.ref q2])), (q2, .inl (cI, 96, .inl (fun _ => 0)))] := hD.sub [0, 1, 2] rfl rfl
  exact W.vret hx hb hr (fun t ht hW => ⟨⟨(q1, q2), rfl, trivial, by rw [ht]; exact hP, va_K.moved hW.alike hK, hD⟩, hS.F ht⟩) hS.2.2 dX0_init_17
set_option maxHeartbeats 4000000 in
set_option maxRecDepth 100000 in
theorem k_Stroll_init (l : Launch) (dC : Nat → ClassId) (dI : Nat → Nat → Nat) (cI cZ : ClassId) (tt sd : Nat → Nat) (a_this : Nat) (sz : Nat) (a_p1 : Nat) : Met l yX4_init wsX4_init ({ frames := 2, cells := 2, slots := 37, locals := 53 }) (zPre (dC, dI) vwCl [(cI, .int), (cZ, .boolean)] tt sd [.ref a_this, .ref a_p1] [(a_this, .inr (4, [.null, .int (0 : Int32), .int (0 : Int32), .int (0 : Int32), .int (0 : Int32), .int (0 : Int32), .int (0 : Int32), .int (0 : Int32), .null]))] sz) (zQn (S := Nat × Nat) (dC, dI) vwCl [(cI, .int), (cZ, .boolean)] (fun u : Nat × Nat => match u with | (q1, q2) => [(a_this, .inr (4, [.ref a_p1, .int (0 : Int32), .int (0 : Int32), .int (0 : Int32), .int (0 : Int32), .int (0 : Int32), .int (0 : Int32), .int (0 : Int32), .ref q1])), (q1, .inr (1, [.ref q2])), (q2, .inl (cI, 36, .inl (fun _ => 0)))]) (va_A [(a_this, .inr (4, [.null, .int (0 : Int32), .int (0 : Int32), .int (0 : Int32), .int (0 : Int32), .int (0 : Int32), .int (0 : Int32), .int (0 : Int32), .null]))] sz)) 2 (37) (va_A [(a_this, .inr (4, [.null, .int (0 : Int32), .int (0 : Int32), .int (0 : Int32), .int (0 : Int32), .int (0 : Int32), .int (0 : Int32), .int (0 : Int32), .null]))] sz) := by
  refine Met.ofW (cc := cX4_init) (maxL := 2) (ret := none) (by decide) rfl ?_
  intro p e s m args below meth c s₁ B hml hv
  obtain ⟨rfl, hsz, hP, hK, hD0, hZ⟩ := hv
  have hx := B.exec
  have hb := B.bytes
  have hr := B.returns
  have hts := atoms_spec (ws := wsX4_init) B.pre
  have hown : s.vm.findClass RX4 = some m.cls := findClass_of_methodNamed B.named
  have hlocks := B.notSynchronized
  have hin : meth.name = "<init>" := (name_of_methodNamed B.named B.method).1
  subst hsz
  have hD := hD0.self (sz := s.heap.size)
  generalize hAe : va_A [(a_this, .inr (4, [.null, .int (0 : Int32), .int (0 : Int32), .int (0 : Int32), .int (0 : Int32), .int (0 : Int32), .int (0 : Int32), .int (0 : Int32), .null]))] s.heap.size = A at hD hZ ⊢
  have hA : ∀ q : Nat, s.heap.size ≤ q → A q := fun q h => by rw [← hAe]; exact Or.inr h
  have hS : va_S A s.heap s.heap [] := va_S.rf
  have hP : va_P (dC, dI) vwCl [(a_this, .inr (4, [.null, .int (0 : Int32), .int (0 : Int32), .int (0 : Int32), .int (0 : Int32), .int (0 : Int32), .int (0 : Int32), .int (0 : Int32), .null]))] s.heap := hP
  have hl := lv_entry ([.ref a_this, .ref a_p1]) (n := 2) (Nat.le_of_ble_eq_true rfl)
  rw [lg_entry_eq]
  generalize (lg_sl ([.ref a_this, .ref a_p1]) ++ List.replicate (2 - (lg_sl ([.ref a_this, .ref a_p1])).length) Slot.unset).toArray = ls at hl ⊢
  have hl : lv_has ls 2 [(0, .ref a_this), (1, .ref a_p1)] := hl
  refine lv_aload_n hx hb dX4_init_0 rfl (lv_at hl 0 rfl) ?_
  refine W.objInit hx hb hown (hts (.methodLink RX4 3 objectInit) (by decide +kernel)) (hts (.instanceMethod objectInit) (by decide +kernel)) (hts _ (show Cond.code objectInit ⟨#[0xb1]⟩ 1 none ∈ wsX4_init by decide +kernel)) rfl (by rw [hml]; exact hl.1) rfl dX4_init_1 (Nat.le_of_ble_eq_true rfl) (Nat.le_of_ble_eq_true rfl) ?_
  refine W.eq (g2 := F0 m 4 ls []) rfl ?_
  refine lv_aload_n hx hb dX4_init_4 rfl (lv_at hl 0 rfl) ?_
  refine va_new (ci := 1) (fs := [.null]) (C := RX1) (T := TX1) (N := 1) hx hb hts (by decide +kernel) tyX1 tyX1_ok hown (hts (.classLink RX4 9 RX1) (by decide +kernel)) (hts (.instantiable RX1 1) (by decide +kernel)) (hts (.initialized RX1) (by decide +kernel)) hK hP hD hS hA rfl (fun j hj => by rcases (show j = 0 by omega) with rfl <;> rfl) (Nat.le_of_ble_eq_true rfl) (Nat.le_of_ble_eq_true rfl) dX4_init_5 (fun q1 H hP hD hS => ?_)
  have hP : va_P (dC, dI) vwCl [(a_this, .inr (4, [.null, .int (0 : Int32), .int (0 : Int32), .int (0 : Int32), .int (0 : Int32), .int (0 : Int32), .int (0 : Int32), .int (0 : Int32), .null])), (q1, .inr (1, [.null]))] H := hP
  have hD : va_D A [(a_this, .inr (4, [.null, .int (0 : Int32), .int (0 : Int32), .int (0 : Int32), .int (0 : Int32), .int (0 : Int32), .int (0 : Int32), .int (0 : Int32), .null])), (q1, .inr (1, [.null]))] := hD
  refine W.widen (k := 1) (n := 1) (by omega) (by omega) ?_
  refine lv_dup hx hb dX4_init_8 rfl ?_
  refine lv_bipush (v := (36 : Int32)) hx hb dX4_init_9 (by decide) ?_
  refine zc_n (wr := [(a_this, .inr (4, [.null, .int (0 : Int32), .int (0 : Int32), .int (0 : Int32), .int (0 : Int32), .int (0 : Int32), .int (0 : Int32), .int (0 : Int32), .null]))]) (va_runI (As := [.int (36 : Int32)]) (rest := [.ref q1, .ref a_this]) ⟨hx, hb, hml, hown, hts⟩ (k_Numbers_init l dC dI cI cZ tt sd q1 H.size (36 : Int32) 36 (by decide) (by decide) (by decide)) (cwI 1 hts gX4_init_X1_init rfl rfl rfl (hts (.initialized RX1) (by decide +kernel)) (hts (.methodLink RX4 11 yX1_init) (by decide +kernel)) (hts (.instanceMethod yX1_init) (by decide +kernel)) rfl (by decide +kernel) ⟨Nat.le_of_ble_eq_true rfl, Nat.le_of_ble_eq_true rfl⟩) (zpS hP hD hK hS hA hZ [1] rfl rfl) rfl rfl hl.1 rfl (lv_room (Nat.le_of_ble_eq_true rfl)) dX4_init_11 ⟨Nat.le_of_ble_eq_true rfl, Nat.le_of_ble_eq_true rfl⟩) hP hD hS hA [1] [0] rfl rfl rfl (by decide) (fun u H locs hP hD hS => ?_)
  obtain ⟨q2, rfl⟩ : ∃ z : Nat, z = u := ⟨_, rfl⟩
  have hP : va_P (dC, dI) vwCl [(a_this, .inr (4, [.null, .int (0 : Int32), .int (0 : Int32), .int (0 : Int32), .int (0 : Int32), .int (0 : Int32), .int (0 : Int32), .int (0 : Int32), .null])), (q1, .inr (1, [.ref q2])), (q2, .inl (cI, 36, .inl (fun _ => 0)))] H := hP
  have hD : va_D A [(a_this, .inr (4, [.null, .int (0 : Int32), .int (0 : Int32), .int (0 : Int32), .int (0 : Int32), .int (0 : Int32), .int (0 : Int32), .int (0 : Int32), .null])), (q1, .inr (1, [.ref q2])), (q2, .inl (cI, 36, .inl (fun _ => 0)))] := hD
  refine W.widen (k := 2) (n := 1 + 36) (by omega) (by omega) ?_
  refine va_putF (D := (dC, dI)) (ci := 4) (v := .ref q1) (ty := (.object "LawOfCorners$Numbers")) (C := RX4) (T := TX4) (N := 9) hx hb hts (by decide +kernel) tyX4 tyX4_ok nmX4 hown hK hP hD hS 0 rfl rfl 8 (by decide) (hts (.fieldLink RX4 14 "LawOfCorners$Stroll" "spoken" "LLawOfCorners$Numbers;") (by decide +kernel)) (fun _ h9 => h9) rfl hin rfl (by decide +kernel) rfl rfl (Nat.le_of_ble_eq_true rfl) dX4_init_14 (fun H locs hP hD hS => ?_)
  have hP : va_P (dC, dI) vwCl [(a_this, .inr (4, [.null, .int (0 : Int32), .int (0 : Int32), .int (0 : Int32), .int (0 : Int32), .int (0 : Int32), .int (0 : Int32), .int (0 : Int32), .ref q1])), (q1, .inr (1, [.ref q2])), (q2, .inl (cI, 36, .inl (fun _ => 0)))] H := hP
  have hD : va_D A [(a_this, .inr (4, [.null, .int (0 : Int32), .int (0 : Int32), .int (0 : Int32), .int (0 : Int32), .int (0 : Int32), .int (0 : Int32), .int (0 : Int32), .ref q1])), (q1, .inr (1, [.ref q2])), (q2, .inl (cI, 36, .inl (fun _ => 0)))] := hD
  refine lv_aload_n hx hb dX4_init_17 rfl (lv_at hl 0 rfl) ?_
  refine lv_aload_n hx hb dX4_init_18 rfl (lv_at hl 1 rfl) ?_
  refine va_putF (D := (dC, dI)) (ci := 4) (v := .ref a_p1) (ty := (.object "LawOfCorners$Town")) (C := RX4) (T := TX4) (N := 9) hx hb hts (by decide +kernel) tyX4 tyX4_ok nmX4 hown hK hP hD hS 0 rfl rfl 0 (by decide) (hts (.fieldLink RX4 20 "LawOfCorners$Stroll" "town" "LLawOfCorners$Town;") (by decide +kernel)) (fun _ h9 => h9) rfl hin rfl (by decide +kernel) rfl rfl (Nat.le_of_ble_eq_true rfl) dX4_init_19 (fun H locs hP hD hS => ?_)
  have hP : va_P (dC, dI) vwCl [(a_this, .inr (4, [.ref a_p1, .int (0 : Int32), .int (0 : Int32), .int (0 : Int32), .int (0 : Int32), .int (0 : Int32), .int (0 : Int32), .int (0 : Int32), .ref q1])), (q1, .inr (1, [.ref q2])), (q2, .inl (cI, 36, .inl (fun _ => 0)))] H := hP
  have hD : va_D A [(a_this, .inr (4, [.ref a_p1, .int (0 : Int32), .int (0 : Int32), .int (0 : Int32), .int (0 : Int32), .int (0 : Int32), .int (0 : Int32), .int (0 : Int32), .ref q1])), (q1, .inr (1, [.ref q2])), (q2, .inl (cI, 36, .inl (fun _ => 0)))] := hD
  have hP : va_P (dC, dI) vwCl [(a_this, .inr (4, [.ref a_p1, .int (0 : Int32), .int (0 : Int32), .int (0 : Int32), .int (0 : Int32), .int (0 : Int32), .int (0 : Int32), .int (0 : Int32), .ref q1])), (q1, .inr (1, [.ref q2])), (q2, .inl (cI, 36, .inl (fun _ => 0)))] H := hP.sub [0, 1, 2] rfl
  have hD : va_D A [(a_this, .inr (4, [.ref a_p1, .int (0 : Int32), .int (0 : Int32), .int (0 : Int32), .int (0 : Int32), .int (0 : Int32), .int (0 : Int32), .int (0 : Int32), .ref q1])), (q1, .inr (1, [.ref q2])), (q2, .inl (cI, 36, .inl (fun _ => 0)))] := hD.sub [0, 1, 2] rfl rfl
  exact W.vret hx hb hr (fun t ht hW => ⟨⟨(q1, q2), rfl, trivial, by rw [ht]; exact hP, va_K.moved hW.alike hK, hD⟩, hS.F ht⟩) hS.2.2 dX4_init_22
set_option maxHeartbeats 4000000 in
set_option maxRecDepth 100000 in
theorem k_Reach_init (l : Launch) (dC : Nat → ClassId) (dI : Nat → Nat → Nat) (cI cZ : ClassId) (tt sd : Nat → Nat) (a_this : Nat) (sz : Nat) (a_p1 : Nat) : Met l yX2_init wsX2_init ({ frames := 2, cells := 4, slots := 74, locals := 53 }) (zPre (dC, dI) vwCl [(cI, .int), (cZ, .boolean)] tt sd [.ref a_this, .ref a_p1] [(a_this, .inr (2, [.null, .null, .null, .int (0 : Int32)]))] sz) (zQn (S := Nat × Nat × Nat × Nat) (dC, dI) vwCl [(cI, .int), (cZ, .boolean)] (fun u : Nat × Nat × Nat × Nat => match u with | (q3, q4, q1, q2) => [(a_this, .inr (2, [.ref a_p1, .ref q1, .ref q3, .int (0 : Int32)])), (q3, .inr (1, [.ref q4])), (q4, .inl (cI, 36, .inl (fun _ => 0))), (q1, .inr (1, [.ref q2])), (q2, .inl (cI, 36, .inl (fun _ => 0)))]) (va_A [(a_this, .inr (2, [.null, .null, .null, .int (0 : Int32)]))] sz)) 4 (74) (va_A [(a_this, .inr (2, [.null, .null, .null, .int (0 : Int32)]))] sz) := by
  refine Met.ofW (cc := cX2_init) (maxL := 2) (ret := none) (by decide) rfl ?_
  intro p e s m args below meth c s₁ B hml hv
  obtain ⟨rfl, hsz, hP, hK, hD0, hZ⟩ := hv
  have hx := B.exec
  have hb := B.bytes
  have hr := B.returns
  have hts := atoms_spec (ws := wsX2_init) B.pre
  have hown : s.vm.findClass RX2 = some m.cls := findClass_of_methodNamed B.named
  have hlocks := B.notSynchronized
  have hin : meth.name = "<init>" := (name_of_methodNamed B.named B.method).1
  subst hsz
  have hD := hD0.self (sz := s.heap.size)
  generalize hAe : va_A [(a_this, .inr (2, [.null, .null, .null, .int (0 : Int32)]))] s.heap.size = A at hD hZ ⊢
  have hA : ∀ q : Nat, s.heap.size ≤ q → A q := fun q h => by rw [← hAe]; exact Or.inr h
  have hS : va_S A s.heap s.heap [] := va_S.rf
  have hP : va_P (dC, dI) vwCl [(a_this, .inr (2, [.null, .null, .null, .int (0 : Int32)]))] s.heap := hP
  have hl := lv_entry ([.ref a_this, .ref a_p1]) (n := 2) (Nat.le_of_ble_eq_true rfl)
  rw [lg_entry_eq]
  generalize (lg_sl ([.ref a_this, .ref a_p1]) ++ List.replicate (2 - (lg_sl ([.ref a_this, .ref a_p1])).length) Slot.unset).toArray = ls at hl ⊢
  have hl : lv_has ls 2 [(0, .ref a_this), (1, .ref a_p1)] := hl
  refine lv_aload_n hx hb dX2_init_0 rfl (lv_at hl 0 rfl) ?_
  refine W.objInit hx hb hown (hts (.methodLink RX2 3 objectInit) (by decide +kernel)) (hts (.instanceMethod objectInit) (by decide +kernel)) (hts _ (show Cond.code objectInit ⟨#[0xb1]⟩ 1 none ∈ wsX2_init by decide +kernel)) rfl (by rw [hml]; exact hl.1) rfl dX2_init_1 (Nat.le_of_ble_eq_true rfl) (Nat.le_of_ble_eq_true rfl) ?_
  refine W.eq (g2 := F0 m 4 ls []) rfl ?_
  refine lv_aload_n hx hb dX2_init_4 rfl (lv_at hl 0 rfl) ?_
  refine va_new (ci := 1) (fs := [.null]) (C := RX1) (T := TX1) (N := 1) hx hb hts (by decide +kernel) tyX1 tyX1_ok hown (hts (.classLink RX2 9 RX1) (by decide +kernel)) (hts (.instantiable RX1 1) (by decide +kernel)) (hts (.initialized RX1) (by decide +kernel)) hK hP hD hS hA rfl (fun j hj => by rcases (show j = 0 by omega) with rfl <;> rfl) (Nat.le_of_ble_eq_true rfl) (Nat.le_of_ble_eq_true rfl) dX2_init_5 (fun q1 H hP hD hS => ?_)
  have hP : va_P (dC, dI) vwCl [(a_this, .inr (2, [.null, .null, .null, .int (0 : Int32)])), (q1, .inr (1, [.null]))] H := hP
  have hD : va_D A [(a_this, .inr (2, [.null, .null, .null, .int (0 : Int32)])), (q1, .inr (1, [.null]))] := hD
  refine W.widen (k := 1) (n := 1) (by omega) (by omega) ?_
  refine lv_dup hx hb dX2_init_8 rfl ?_
  refine lv_bipush (v := (36 : Int32)) hx hb dX2_init_9 (by decide) ?_
  refine zc_n (wr := [(a_this, .inr (2, [.null, .null, .null, .int (0 : Int32)]))]) (va_runI (As := [.int (36 : Int32)]) (rest := [.ref q1, .ref a_this]) ⟨hx, hb, hml, hown, hts⟩ (k_Numbers_init l dC dI cI cZ tt sd q1 H.size (36 : Int32) 36 (by decide) (by decide) (by decide)) (cwI 1 hts gX2_init_X1_init rfl rfl rfl (hts (.initialized RX1) (by decide +kernel)) (hts (.methodLink RX2 11 yX1_init) (by decide +kernel)) (hts (.instanceMethod yX1_init) (by decide +kernel)) rfl (by decide +kernel) ⟨Nat.le_of_ble_eq_true rfl, Nat.le_of_ble_eq_true rfl⟩) (zpS hP hD hK hS hA hZ [1] rfl rfl) rfl rfl hl.1 rfl (lv_room (Nat.le_of_ble_eq_true rfl)) dX2_init_11 ⟨Nat.le_of_ble_eq_true rfl, Nat.le_of_ble_eq_true rfl⟩) hP hD hS hA [1] [0] rfl rfl rfl (by decide) (fun u H locs hP hD hS => ?_)
  obtain ⟨q2, rfl⟩ : ∃ z : Nat, z = u := ⟨_, rfl⟩
  have hP : va_P (dC, dI) vwCl [(a_this, .inr (2, [.null, .null, .null, .int (0 : Int32)])), (q1, .inr (1, [.ref q2])), (q2, .inl (cI, 36, .inl (fun _ => 0)))] H := hP
  have hD : va_D A [(a_this, .inr (2, [.null, .null, .null, .int (0 : Int32)])), (q1, .inr (1, [.ref q2])), (q2, .inl (cI, 36, .inl (fun _ => 0)))] := hD
  refine W.widen (k := 2) (n := 1 + 36) (by omega) (by omega) ?_
  refine va_putF (D := (dC, dI)) (ci := 2) (v := .ref q1) (ty := (.object "LawOfCorners$Numbers")) (C := RX2) (T := TX2) (N := 4) hx hb hts (by decide +kernel) tyX2 tyX2_ok nmX2 hown hK hP hD hS 0 rfl rfl 1 (by decide) (hts (.fieldLink RX2 14 "LawOfCorners$Reach" "far" "LLawOfCorners$Numbers;") (by decide +kernel)) (fun _ h9 => h9) rfl hin rfl (by decide +kernel) rfl rfl (Nat.le_of_ble_eq_true rfl) dX2_init_14 (fun H locs hP hD hS => ?_)
  have hP : va_P (dC, dI) vwCl [(a_this, .inr (2, [.null, .ref q1, .null, .int (0 : Int32)])), (q1, .inr (1, [.ref q2])), (q2, .inl (cI, 36, .inl (fun _ => 0)))] H := hP
  have hD : va_D A [(a_this, .inr (2, [.null, .ref q1, .null, .int (0 : Int32)])), (q1, .inr (1, [.ref q2])), (q2, .inl (cI, 36, .inl (fun _ => 0)))] := hD
  refine lv_aload_n hx hb dX2_init_17 rfl (lv_at hl 0 rfl) ?_
  refine va_new (ci := 1) (fs := [.null]) (C := RX1) (T := TX1) (N := 1) hx hb hts (by decide +kernel) tyX1 tyX1_ok hown (hts (.classLink RX2 9 RX1) (by decide +kernel)) (hts (.instantiable RX1 1) (by decide +kernel)) (hts (.initialized RX1) (by decide +kernel)) hK hP hD hS hA rfl (fun j hj => by rcases (show j = 0 by omega) with rfl <;> rfl) (Nat.le_of_ble_eq_true rfl) (Nat.le_of_ble_eq_true rfl) dX2_init_18 (fun q3 H hP hD hS => ?_)
  have hP : va_P (dC, dI) vwCl [(a_this, .inr (2, [.null, .ref q1, .null, .int (0 : Int32)])), (q1, .inr (1, [.ref q2])), (q2, .inl (cI, 36, .inl (fun _ => 0))), (q3, .inr (1, [.null]))] H := hP
  have hD : va_D A [(a_this, .inr (2, [.null, .ref q1, .null, .int (0 : Int32)])), (q1, .inr (1, [.ref q2])), (q2, .inl (cI, 36, .inl (fun _ => 0))), (q3, .inr (1, [.null]))] := hD
  refine W.widen (k := 3) (n := 1 + 36 + 1) (by omega) (by omega) ?_
  refine lv_dup hx hb dX2_init_21 rfl ?_
  refine lv_bipush (v := (36 : Int32)) hx hb dX2_init_22 (by decide) ?_
  refine zc_n (wr := [(a_this, .inr (2, [.null, .ref q1, .null, .int (0 : Int32)])), (q1, .inr (1, [.ref q2])), (q2, .inl (cI, 36, .inl (fun _ => 0)))]) (va_runI (As := [.int (36 : Int32)]) (rest := [.ref q3, .ref a_this]) ⟨hx, hb, hml, hown, hts⟩ (k_Numbers_init l dC dI cI cZ tt sd q3 H.size (36 : Int32) 36 (by decide) (by decide) (by decide)) (cwI 1 hts gX2_init_X1_init rfl rfl rfl (hts (.initialized RX1) (by decide +kernel)) (hts (.methodLink RX2 11 yX1_init) (by decide +kernel)) (hts (.instanceMethod yX1_init) (by decide +kernel)) rfl (by decide +kernel) ⟨Nat.le_of_ble_eq_true rfl, Nat.le_of_ble_eq_true rfl⟩) (zpS hP hD hK hS hA hZ [3] rfl rfl) rfl rfl hl.1 rfl (lv_room (Nat.le_of_ble_eq_true rfl)) dX2_init_24 ⟨Nat.le_of_ble_eq_true rfl, Nat.le_of_ble_eq_true rfl⟩) hP hD hS hA [3] [0, 1, 2] rfl rfl rfl (by decide) (fun u H locs hP hD hS => ?_)
  obtain ⟨q4, rfl⟩ : ∃ z : Nat, z = u := ⟨_, rfl⟩
  have hP : va_P (dC, dI) vwCl [(a_this, .inr (2, [.null, .ref q1, .null, .int (0 : Int32)])), (q1, .inr (1, [.ref q2])), (q2, .inl (cI, 36, .inl (fun _ => 0))), (q3, .inr (1, [.ref q4])), (q4, .inl (cI, 36, .inl (fun _ => 0)))] H := hP
  have hD : va_D A [(a_this, .inr (2, [.null, .ref q1, .null, .int (0 : Int32)])), (q1, .inr (1, [.ref q2])), (q2, .inl (cI, 36, .inl (fun _ => 0))), (q3, .inr (1, [.ref q4])), (q4, .inl (cI, 36, .inl (fun _ => 0)))] := hD
  refine W.widen (k := 4) (n := 1 + 36 + 1 + 36) (by omega) (by omega) ?_
  refine va_putF (D := (dC, dI)) (ci := 2) (v := .ref q3) (ty := (.object "LawOfCorners$Numbers")) (C := RX2) (T := TX2) (N := 4) hx hb hts (by decide +kernel) tyX2 tyX2_ok nmX2 hown hK hP hD hS 0 rfl rfl 2 (by decide) (hts (.fieldLink RX2 20 "LawOfCorners$Reach" "come" "LLawOfCorners$Numbers;") (by decide +kernel)) (fun _ h9 => h9) rfl hin rfl (by decide +kernel) rfl rfl (Nat.le_of_ble_eq_true rfl) dX2_init_27 (fun H locs hP hD hS => ?_)
  have hP : va_P (dC, dI) vwCl [(a_this, .inr (2, [.null, .ref q1, .ref q3, .int (0 : Int32)])), (q1, .inr (1, [.ref q2])), (q2, .inl (cI, 36, .inl (fun _ => 0))), (q3, .inr (1, [.ref q4])), (q4, .inl (cI, 36, .inl (fun _ => 0)))] H := hP
  have hD : va_D A [(a_this, .inr (2, [.null, .ref q1, .ref q3, .int (0 : Int32)])), (q1, .inr (1, [.ref q2])), (q2, .inl (cI, 36, .inl (fun _ => 0))), (q3, .inr (1, [.ref q4])), (q4, .inl (cI, 36, .inl (fun _ => 0)))] := hD
  refine lv_aload_n hx hb dX2_init_30 rfl (lv_at hl 0 rfl) ?_
  refine lv_aload_n hx hb dX2_init_31 rfl (lv_at hl 1 rfl) ?_
  refine va_putF (D := (dC, dI)) (ci := 2) (v := .ref a_p1) (ty := (.object "LawOfCorners$Town")) (C := RX2) (T := TX2) (N := 4) hx hb hts (by decide +kernel) tyX2 tyX2_ok nmX2 hown hK hP hD hS 0 rfl rfl 0 (by decide) (hts (.fieldLink RX2 23 "LawOfCorners$Reach" "town" "LLawOfCorners$Town;") (by decide +kernel)) (fun _ h9 => h9) rfl hin rfl (by decide +kernel) rfl rfl (Nat.le_of_ble_eq_true rfl) dX2_init_32 (fun H locs hP hD hS => ?_)
  have hP : va_P (dC, dI) vwCl [(a_this, .inr (2, [.ref a_p1, .ref q1, .ref q3, .int (0 : Int32)])), (q1, .inr (1, [.ref q2])), (q2, .inl (cI, 36, .inl (fun _ => 0))), (q3, .inr (1, [.ref q4])), (q4, .inl (cI, 36, .inl (fun _ => 0)))] H := hP
  have hD : va_D A [(a_this, .inr (2, [.ref a_p1, .ref q1, .ref q3, .int (0 : Int32)])), (q1, .inr (1, [.ref q2])), (q2, .inl (cI, 36, .inl (fun _ => 0))), (q3, .inr (1, [.ref q4])), (q4, .inl (cI, 36, .inl (fun _ => 0)))] := hD
  have hP : va_P (dC, dI) vwCl [(a_this, .inr (2, [.ref a_p1, .ref q1, .ref q3, .int (0 : Int32)])), (q3, .inr (1, [.ref q4])), (q4, .inl (cI, 36, .inl (fun _ => 0))), (q1, .inr (1, [.ref q2])), (q2, .inl (cI, 36, .inl (fun _ => 0)))] H := hP.sub [0, 3, 4, 1, 2] rfl
  have hD : va_D A [(a_this, .inr (2, [.ref a_p1, .ref q1, .ref q3, .int (0 : Int32)])), (q3, .inr (1, [.ref q4])), (q4, .inl (cI, 36, .inl (fun _ => 0))), (q1, .inr (1, [.ref q2])), (q2, .inl (cI, 36, .inl (fun _ => 0)))] := hD.sub [0, 3, 4, 1, 2] rfl rfl
  exact W.vret hx hb hr (fun t ht hW => ⟨⟨(q3, q4, q1, q2), rfl, trivial, by rw [ht]; exact hP, va_K.moved hW.alike hK, hD⟩, hS.F ht⟩) hS.2.2 dX2_init_35
set_option maxHeartbeats 4000000 in
set_option maxRecDepth 100000 in
theorem k_Routes_init (l : Launch) (dC : Nat → ClassId) (dI : Nat → Nat → Nat) (cI cZ : ClassId) (tt sd : Nat → Nat) (a_this : Nat) (sz : Nat) (a_p1 : Nat) : Met l yX3_init wsX3_init ({ frames := 2, cells := 8, slots := 580, locals := 53 }) (zPre (dC, dI) vwCl [(cI, .int), (cZ, .boolean)] tt sd [.ref a_this, .ref a_p1] [(a_this, .inr (3, [.null, .null, .null, .null, .int (0 : Int32), .int (0 : Int32), .null, .int (0 : Int32), .int (0 : Int32)]))] sz) (zQn (S := Nat × Nat × Nat × Nat × Nat × Nat × Nat × Nat) (dC, dI) vwCl [(cI, .int), (cZ, .boolean)] (fun u : Nat × Nat × Nat × Nat × Nat × Nat × Nat × Nat => match u with | (q5, q6, q1, q2, q7, q8, q3, q4) => [(a_this, .inr (3, [.ref a_p1, .ref q1, .ref q3, .ref q5, .int (0 : Int32), .int (0 : Int32), .ref q7, .int (0 : Int32), .int (0 : Int32)])), (q5, .inr (1, [.ref q6])), (q6, .inl (cI, 180, .inl (fun _ => 0))), (q1, .inr (1, [.ref q2])), (q2, .inl (cI, 180, .inl (fun _ => 0))), (q7, .inr (1, [.ref q8])), (q8, .inl (cI, 36, .inl (fun _ => 0))), (q3, .inr (1, [.ref q4])), (q4, .inl (cI, 180, .inl (fun _ => 0)))]) (va_A [(a_this, .inr (3, [.null, .null, .null, .null, .int (0 : Int32), .int (0 : Int32), .null, .int (0 : Int32), .int (0 : Int32)]))] sz)) 8 (580) (va_A [(a_this, .inr (3, [.null, .null, .null, .null, .int (0 : Int32), .int (0 : Int32), .null, .int (0 : Int32), .int (0 : Int32)]))] sz) := by
  refine Met.ofW (cc := cX3_init) (maxL := 2) (ret := none) (by decide) rfl ?_
  intro p e s m args below meth c s₁ B hml hv
  obtain ⟨rfl, hsz, hP, hK, hD0, hZ⟩ := hv
  have hx := B.exec
  have hb := B.bytes
  have hr := B.returns
  have hts := atoms_spec (ws := wsX3_init) B.pre
  have hown : s.vm.findClass RX3 = some m.cls := findClass_of_methodNamed B.named
  have hlocks := B.notSynchronized
  have hin : meth.name = "<init>" := (name_of_methodNamed B.named B.method).1
  subst hsz
  have hD := hD0.self (sz := s.heap.size)
  generalize hAe : va_A [(a_this, .inr (3, [.null, .null, .null, .null, .int (0 : Int32), .int (0 : Int32), .null, .int (0 : Int32), .int (0 : Int32)]))] s.heap.size = A at hD hZ ⊢
  have hA : ∀ q : Nat, s.heap.size ≤ q → A q := fun q h => by rw [← hAe]; exact Or.inr h
  have hS : va_S A s.heap s.heap [] := va_S.rf
  have hP : va_P (dC, dI) vwCl [(a_this, .inr (3, [.null, .null, .null, .null, .int (0 : Int32), .int (0 : Int32), .null, .int (0 : Int32), .int (0 : Int32)]))] s.heap := hP
  have hl := lv_entry ([.ref a_this, .ref a_p1]) (n := 2) (Nat.le_of_ble_eq_true rfl)
  rw [lg_entry_eq]
  generalize (lg_sl ([.ref a_this, .ref a_p1]) ++ List.replicate (2 - (lg_sl ([.ref a_this, .ref a_p1])).length) Slot.unset).toArray = ls at hl ⊢
  have hl : lv_has ls 2 [(0, .ref a_this), (1, .ref a_p1)] := hl
  refine lv_aload_n hx hb dX3_init_0 rfl (lv_at hl 0 rfl) ?_
  refine W.objInit hx hb hown (hts (.methodLink RX3 3 objectInit) (by decide +kernel)) (hts (.instanceMethod objectInit) (by decide +kernel)) (hts _ (show Cond.code objectInit ⟨#[0xb1]⟩ 1 none ∈ wsX3_init by decide +kernel)) rfl (by rw [hml]; exact hl.1) rfl dX3_init_1 (Nat.le_of_ble_eq_true rfl) (Nat.le_of_ble_eq_true rfl) ?_
  refine W.eq (g2 := F0 m 4 ls []) rfl ?_
  refine lv_aload_n hx hb dX3_init_4 rfl (lv_at hl 0 rfl) ?_
  refine va_new (ci := 1) (fs := [.null]) (C := RX1) (T := TX1) (N := 1) hx hb hts (by decide +kernel) tyX1 tyX1_ok hown (hts (.classLink RX3 9 RX1) (by decide +kernel)) (hts (.instantiable RX1 1) (by decide +kernel)) (hts (.initialized RX1) (by decide +kernel)) hK hP hD hS hA rfl (fun j hj => by rcases (show j = 0 by omega) with rfl <;> rfl) (Nat.le_of_ble_eq_true rfl) (Nat.le_of_ble_eq_true rfl) dX3_init_5 (fun q1 H hP hD hS => ?_)
  have hP : va_P (dC, dI) vwCl [(a_this, .inr (3, [.null, .null, .null, .null, .int (0 : Int32), .int (0 : Int32), .null, .int (0 : Int32), .int (0 : Int32)])), (q1, .inr (1, [.null]))] H := hP
  have hD : va_D A [(a_this, .inr (3, [.null, .null, .null, .null, .int (0 : Int32), .int (0 : Int32), .null, .int (0 : Int32), .int (0 : Int32)])), (q1, .inr (1, [.null]))] := hD
  refine W.widen (k := 1) (n := 1) (by omega) (by omega) ?_
  refine lv_dup hx hb dX3_init_8 rfl ?_
  refine lv_sipush (v := (180 : Int32)) hx hb dX3_init_9 (by decide) ?_
  refine zc_n (wr := [(a_this, .inr (3, [.null, .null, .null, .null, .int (0 : Int32), .int (0 : Int32), .null, .int (0 : Int32), .int (0 : Int32)]))]) (va_runI (As := [.int (180 : Int32)]) (rest := [.ref q1, .ref a_this]) ⟨hx, hb, hml, hown, hts⟩ (k_Numbers_init l dC dI cI cZ tt sd q1 H.size (180 : Int32) 180 (by decide) (by decide) (by decide)) (cwI 1 hts gX3_init_X1_init rfl rfl rfl (hts (.initialized RX1) (by decide +kernel)) (hts (.methodLink RX3 11 yX1_init) (by decide +kernel)) (hts (.instanceMethod yX1_init) (by decide +kernel)) rfl (by decide +kernel) ⟨Nat.le_of_ble_eq_true rfl, Nat.le_of_ble_eq_true rfl⟩) (zpS hP hD hK hS hA hZ [1] rfl rfl) rfl rfl hl.1 rfl (lv_room (Nat.le_of_ble_eq_true rfl)) dX3_init_12 ⟨Nat.le_of_ble_eq_true rfl, Nat.le_of_ble_eq_true rfl⟩) hP hD hS hA [1] [0] rfl rfl rfl (by decide) (fun u H locs hP hD hS => ?_)
  obtain ⟨q2, rfl⟩ : ∃ z : Nat, z = u := ⟨_, rfl⟩
  have hP : va_P (dC, dI) vwCl [(a_this, .inr (3, [.null, .null, .null, .null, .int (0 : Int32), .int (0 : Int32), .null, .int (0 : Int32), .int (0 : Int32)])), (q1, .inr (1, [.ref q2])), (q2, .inl (cI, 180, .inl (fun _ => 0)))] H := hP
  have hD : va_D A [(a_this, .inr (3, [.null, .null, .null, .null, .int (0 : Int32), .int (0 : Int32), .null, .int (0 : Int32), .int (0 : Int32)])), (q1, .inr (1, [.ref q2])), (q2, .inl (cI, 180, .inl (fun _ => 0)))] := hD
  refine W.widen (k := 2) (n := 1 + 180) (by omega) (by omega) ?_
  refine va_putF (D := (dC, dI)) (ci := 3) (v := .ref q1) (ty := (.object "LawOfCorners$Numbers")) (C := RX3) (T := TX3) (N := 9) hx hb hts (by decide +kernel) tyX3 tyX3_ok nmX3 hown hK hP hD hS 0 rfl rfl 1 (by decide) (hts (.fieldLink RX3 14 "LawOfCorners$Routes" "label" "LLawOfCorners$Numbers;") (by decide +kernel)) (fun _ h9 => h9) rfl hin rfl (by decide +kernel) rfl rfl (Nat.le_of_ble_eq_true rfl) dX3_init_15 (fun H locs hP hD hS => ?_)
  have hP : va_P (dC, dI) vwCl [(a_this, .inr (3, [.null, .ref q1, .null, .null, .int (0 : Int32), .int (0 : Int32), .null, .int (0 : Int32), .int (0 : Int32)])), (q1, .inr (1, [.ref q2])), (q2, .inl (cI, 180, .inl (fun _ => 0)))] H := hP
  have hD : va_D A [(a_this, .inr (3, [.null, .ref q1, .null, .null, .int (0 : Int32), .int (0 : Int32), .null, .int (0 : Int32), .int (0 : Int32)])), (q1, .inr (1, [.ref q2])), (q2, .inl (cI, 180, .inl (fun _ => 0)))] := hD
  refine lv_aload_n hx hb dX3_init_18 rfl (lv_at hl 0 rfl) ?_
  refine va_new (ci := 1) (fs := [.null]) (C := RX1) (T := TX1) (N := 1) hx hb hts (by decide +kernel) tyX1 tyX1_ok hown (hts (.classLink RX3 9 RX1) (by decide +kernel)) (hts (.instantiable RX1 1) (by decide +kernel)) (hts (.initialized RX1) (by decide +kernel)) hK hP hD hS hA rfl (fun j hj => by rcases (show j = 0 by omega) with rfl <;> rfl) (Nat.le_of_ble_eq_true rfl) (Nat.le_of_ble_eq_true rfl) dX3_init_19 (fun q3 H hP hD hS => ?_)
  have hP : va_P (dC, dI) vwCl [(a_this, .inr (3, [.null, .ref q1, .null, .null, .int (0 : Int32), .int (0 : Int32), .null, .int (0 : Int32), .int (0 : Int32)])), (q1, .inr (1, [.ref q2])), (q2, .inl (cI, 180, .inl (fun _ => 0))), (q3, .inr (1, [.null]))] H := hP
  have hD : va_D A [(a_this, .inr (3, [.null, .ref q1, .null, .null, .int (0 : Int32), .int (0 : Int32), .null, .int (0 : Int32), .int (0 : Int32)])), (q1, .inr (1, [.ref q2])), (q2, .inl (cI, 180, .inl (fun _ => 0))), (q3, .inr (1, [.null]))] := hD
  refine W.widen (k := 3) (n := 1 + 180 + 1) (by omega) (by omega) ?_
  refine lv_dup hx hb dX3_init_22 rfl ?_
  refine lv_sipush (v := (180 : Int32)) hx hb dX3_init_23 (by decide) ?_
  refine zc_n (wr := [(a_this, .inr (3, [.null, .ref q1, .null, .null, .int (0 : Int32), .int (0 : Int32), .null, .int (0 : Int32), .int (0 : Int32)])), (q1, .inr (1, [.ref q2])), (q2, .inl (cI, 180, .inl (fun _ => 0)))]) (va_runI (As := [.int (180 : Int32)]) (rest := [.ref q3, .ref a_this]) ⟨hx, hb, hml, hown, hts⟩ (k_Numbers_init l dC dI cI cZ tt sd q3 H.size (180 : Int32) 180 (by decide) (by decide) (by decide)) (cwI 1 hts gX3_init_X1_init rfl rfl rfl (hts (.initialized RX1) (by decide +kernel)) (hts (.methodLink RX3 11 yX1_init) (by decide +kernel)) (hts (.instanceMethod yX1_init) (by decide +kernel)) rfl (by decide +kernel) ⟨Nat.le_of_ble_eq_true rfl, Nat.le_of_ble_eq_true rfl⟩) (zpS hP hD hK hS hA hZ [3] rfl rfl) rfl rfl hl.1 rfl (lv_room (Nat.le_of_ble_eq_true rfl)) dX3_init_26 ⟨Nat.le_of_ble_eq_true rfl, Nat.le_of_ble_eq_true rfl⟩) hP hD hS hA [3] [0, 1, 2] rfl rfl rfl (by decide) (fun u H locs hP hD hS => ?_)
  obtain ⟨q4, rfl⟩ : ∃ z : Nat, z = u := ⟨_, rfl⟩
  have hP : va_P (dC, dI) vwCl [(a_this, .inr (3, [.null, .ref q1, .null, .null, .int (0 : Int32), .int (0 : Int32), .null, .int (0 : Int32), .int (0 : Int32)])), (q1, .inr (1, [.ref q2])), (q2, .inl (cI, 180, .inl (fun _ => 0))), (q3, .inr (1, [.ref q4])), (q4, .inl (cI, 180, .inl (fun _ => 0)))] H := hP
  have hD : va_D A [(a_this, .inr (3, [.null, .ref q1, .null, .null, .int (0 : Int32), .int (0 : Int32), .null, .int (0 : Int32), .int (0 : Int32)])), (q1, .inr (1, [.ref q2])), (q2, .inl (cI, 180, .inl (fun _ => 0))), (q3, .inr (1, [.ref q4])), (q4, .inl (cI, 180, .inl (fun _ => 0)))] := hD
  refine W.widen (k := 4) (n := 1 + 180 + 1 + 180) (by omega) (by omega) ?_
  refine va_putF (D := (dC, dI)) (ci := 3) (v := .ref q3) (ty := (.object "LawOfCorners$Numbers")) (C := RX3) (T := TX3) (N := 9) hx hb hts (by decide +kernel) tyX3 tyX3_ok nmX3 hown hK hP hD hS 0 rfl rfl 2 (by decide) (hts (.fieldLink RX3 20 "LawOfCorners$Routes" "waiting" "LLawOfCorners$Numbers;") (by decide +kernel)) (fun _ h9 => h9) rfl hin rfl (by decide +kernel) rfl rfl (Nat.le_of_ble_eq_true rfl) dX3_init_29 (fun H locs hP hD hS => ?_)
  have hP : va_P (dC, dI) vwCl [(a_this, .inr (3, [.null, .ref q1, .ref q3, .null, .int (0 : Int32), .int (0 : Int32), .null, .int (0 : Int32), .int (0 : Int32)])), (q1, .inr (1, [.ref q2])), (q2, .inl (cI, 180, .inl (fun _ => 0))), (q3, .inr (1, [.ref q4])), (q4, .inl (cI, 180, .inl (fun _ => 0)))] H := hP
  have hD : va_D A [(a_this, .inr (3, [.null, .ref q1, .ref q3, .null, .int (0 : Int32), .int (0 : Int32), .null, .int (0 : Int32), .int (0 : Int32)])), (q1, .inr (1, [.ref q2])), (q2, .inl (cI, 180, .inl (fun _ => 0))), (q3, .inr (1, [.ref q4])), (q4, .inl (cI, 180, .inl (fun _ => 0)))] := hD
  refine lv_aload_n hx hb dX3_init_32 rfl (lv_at hl 0 rfl) ?_
  refine va_new (ci := 1) (fs := [.null]) (C := RX1) (T := TX1) (N := 1) hx hb hts (by decide +kernel) tyX1 tyX1_ok hown (hts (.classLink RX3 9 RX1) (by decide +kernel)) (hts (.instantiable RX1 1) (by decide +kernel)) (hts (.initialized RX1) (by decide +kernel)) hK hP hD hS hA rfl (fun j hj => by rcases (show j = 0 by omega) with rfl <;> rfl) (Nat.le_of_ble_eq_true rfl) (Nat.le_of_ble_eq_true rfl) dX3_init_33 (fun q5 H hP hD hS => ?_)
  have hP : va_P (dC, dI) vwCl [(a_this, .inr (3, [.null, .ref q1, .ref q3, .null, .int (0 : Int32), .int (0 : Int32), .null, .int (0 : Int32), .int (0 : Int32)])), (q1, .inr (1, [.ref q2])), (q2, .inl (cI, 180, .inl (fun _ => 0))), (q3, .inr (1, [.ref q4])), (q4, .inl (cI, 180, .inl (fun _ => 0))), (q5, .inr (1, [.null]))] H := hP
  have hD : va_D A [(a_this, .inr (3, [.null, .ref q1, .ref q3, .null, .int (0 : Int32), .int (0 : Int32), .null, .int (0 : Int32), .int (0 : Int32)])), (q1, .inr (1, [.ref q2])), (q2, .inl (cI, 180, .inl (fun _ => 0))), (q3, .inr (1, [.ref q4])), (q4, .inl (cI, 180, .inl (fun _ => 0))), (q5, .inr (1, [.null]))] := hD
  refine W.widen (k := 5) (n := 1 + 180 + 1 + 180 + 1) (by omega) (by omega) ?_
  refine lv_dup hx hb dX3_init_36 rfl ?_
  refine lv_sipush (v := (180 : Int32)) hx hb dX3_init_37 (by decide) ?_
  refine zc_n (wr := [(a_this, .inr (3, [.null, .ref q1, .ref q3, .null, .int (0 : Int32), .int (0 : Int32), .null, .int (0 : Int32), .int (0 : Int32)])), (q1, .inr (1, [.ref q2])), (q2, .inl (cI, 180, .inl (fun _ => 0))), (q3, .inr (1, [.ref q4])), (q4, .inl (cI, 180, .inl (fun _ => 0)))]) (va_runI (As := [.int (180 : Int32)]) (rest := [.ref q5, .ref a_this]) ⟨hx, hb, hml, hown, hts⟩ (k_Numbers_init l dC dI cI cZ tt sd q5 H.size (180 : Int32) 180 (by decide) (by decide) (by decide)) (cwI 1 hts gX3_init_X1_init rfl rfl rfl (hts (.initialized RX1) (by decide +kernel)) (hts (.methodLink RX3 11 yX1_init) (by decide +kernel)) (hts (.instanceMethod yX1_init) (by decide +kernel)) rfl (by decide +kernel) ⟨Nat.le_of_ble_eq_true rfl, Nat.le_of_ble_eq_true rfl⟩) (zpS hP hD hK hS hA hZ [5] rfl rfl) rfl rfl hl.1 rfl (lv_room (Nat.le_of_ble_eq_true rfl)) dX3_init_40 ⟨Nat.le_of_ble_eq_true rfl, Nat.le_of_ble_eq_true rfl⟩) hP hD hS hA [5] [0, 1, 2, 3, 4] rfl rfl rfl (by decide) (fun u H locs hP hD hS => ?_)
  obtain ⟨q6, rfl⟩ : ∃ z : Nat, z = u := ⟨_, rfl⟩
  have hP : va_P (dC, dI) vwCl [(a_this, .inr (3, [.null, .ref q1, .ref q3, .null, .int (0 : Int32), .int (0 : Int32), .null, .int (0 : Int32), .int (0 : Int32)])), (q1, .inr (1, [.ref q2])), (q2, .inl (cI, 180, .inl (fun _ => 0))), (q3, .inr (1, [.ref q4])), (q4, .inl (cI, 180, .inl (fun _ => 0))), (q5, .inr (1, [.ref q6])), (q6, .inl (cI, 180, .inl (fun _ => 0)))] H := hP
  have hD : va_D A [(a_this, .inr (3, [.null, .ref q1, .ref q3, .null, .int (0 : Int32), .int (0 : Int32), .null, .int (0 : Int32), .int (0 : Int32)])), (q1, .inr (1, [.ref q2])), (q2, .inl (cI, 180, .inl (fun _ => 0))), (q3, .inr (1, [.ref q4])), (q4, .inl (cI, 180, .inl (fun _ => 0))), (q5, .inr (1, [.ref q6])), (q6, .inl (cI, 180, .inl (fun _ => 0)))] := hD
  refine W.widen (k := 6) (n := 1 + 180 + 1 + 180 + 1 + 180) (by omega) (by omega) ?_
  refine va_putF (D := (dC, dI)) (ci := 3) (v := .ref q5) (ty := (.object "LawOfCorners$Numbers")) (C := RX3) (T := TX3) (N := 9) hx hb hts (by decide +kernel) tyX3 tyX3_ok nmX3 hown hK hP hD hS 0 rfl rfl 3 (by decide) (hts (.fieldLink RX3 23 "LawOfCorners$Routes" "isWaiting" "LLawOfCorners$Numbers;") (by decide +kernel)) (fun _ h9 => h9) rfl hin rfl (by decide +kernel) rfl rfl (Nat.le_of_ble_eq_true rfl) dX3_init_43 (fun H locs hP hD hS => ?_)
  have hP : va_P (dC, dI) vwCl [(a_this, .inr (3, [.null, .ref q1, .ref q3, .ref q5, .int (0 : Int32), .int (0 : Int32), .null, .int (0 : Int32), .int (0 : Int32)])), (q1, .inr (1, [.ref q2])), (q2, .inl (cI, 180, .inl (fun _ => 0))), (q3, .inr (1, [.ref q4])), (q4, .inl (cI, 180, .inl (fun _ => 0))), (q5, .inr (1, [.ref q6])), (q6, .inl (cI, 180, .inl (fun _ => 0)))] H := hP
  have hD : va_D A [(a_this, .inr (3, [.null, .ref q1, .ref q3, .ref q5, .int (0 : Int32), .int (0 : Int32), .null, .int (0 : Int32), .int (0 : Int32)])), (q1, .inr (1, [.ref q2])), (q2, .inl (cI, 180, .inl (fun _ => 0))), (q3, .inr (1, [.ref q4])), (q4, .inl (cI, 180, .inl (fun _ => 0))), (q5, .inr (1, [.ref q6])), (q6, .inl (cI, 180, .inl (fun _ => 0)))] := hD
  refine lv_aload_n hx hb dX3_init_46 rfl (lv_at hl 0 rfl) ?_
  refine va_new (ci := 1) (fs := [.null]) (C := RX1) (T := TX1) (N := 1) hx hb hts (by decide +kernel) tyX1 tyX1_ok hown (hts (.classLink RX3 9 RX1) (by decide +kernel)) (hts (.instantiable RX1 1) (by decide +kernel)) (hts (.initialized RX1) (by decide +kernel)) hK hP hD hS hA rfl (fun j hj => by rcases (show j = 0 by omega) with rfl <;> rfl) (Nat.le_of_ble_eq_true rfl) (Nat.le_of_ble_eq_true rfl) dX3_init_47 (fun q7 H hP hD hS => ?_)
  have hP : va_P (dC, dI) vwCl [(a_this, .inr (3, [.null, .ref q1, .ref q3, .ref q5, .int (0 : Int32), .int (0 : Int32), .null, .int (0 : Int32), .int (0 : Int32)])), (q1, .inr (1, [.ref q2])), (q2, .inl (cI, 180, .inl (fun _ => 0))), (q3, .inr (1, [.ref q4])), (q4, .inl (cI, 180, .inl (fun _ => 0))), (q5, .inr (1, [.ref q6])), (q6, .inl (cI, 180, .inl (fun _ => 0))), (q7, .inr (1, [.null]))] H := hP
  have hD : va_D A [(a_this, .inr (3, [.null, .ref q1, .ref q3, .ref q5, .int (0 : Int32), .int (0 : Int32), .null, .int (0 : Int32), .int (0 : Int32)])), (q1, .inr (1, [.ref q2])), (q2, .inl (cI, 180, .inl (fun _ => 0))), (q3, .inr (1, [.ref q4])), (q4, .inl (cI, 180, .inl (fun _ => 0))), (q5, .inr (1, [.ref q6])), (q6, .inl (cI, 180, .inl (fun _ => 0))), (q7, .inr (1, [.null]))] := hD
  refine W.widen (k := 7) (n := 1 + 180 + 1 + 180 + 1 + 180 + 1) (by omega) (by omega) ?_
  refine lv_dup hx hb dX3_init_50 rfl ?_
  refine lv_bipush (v := (36 : Int32)) hx hb dX3_init_51 (by decide) ?_
  refine zc_n (wr := [(a_this, .inr (3, [.null, .ref q1, .ref q3, .ref q5, .int (0 : Int32), .int (0 : Int32), .null, .int (0 : Int32), .int (0 : Int32)])), (q1, .inr (1, [.ref q2])), (q2, .inl (cI, 180, .inl (fun _ => 0))), (q3, .inr (1, [.ref q4])), (q4, .inl (cI, 180, .inl (fun _ => 0))), (q5, .inr (1, [.ref q6])), (q6, .inl (cI, 180, .inl (fun _ => 0)))]) (va_runI (As := [.int (36 : Int32)]) (rest := [.ref q7, .ref a_this]) ⟨hx, hb, hml, hown, hts⟩ (k_Numbers_init l dC dI cI cZ tt sd q7 H.size (36 : Int32) 36 (by decide) (by decide) (by decide)) (cwI 1 hts gX3_init_X1_init rfl rfl rfl (hts (.initialized RX1) (by decide +kernel)) (hts (.methodLink RX3 11 yX1_init) (by decide +kernel)) (hts (.instanceMethod yX1_init) (by decide +kernel)) rfl (by decide +kernel) ⟨Nat.le_of_ble_eq_true rfl, Nat.le_of_ble_eq_true rfl⟩) (zpS hP hD hK hS hA hZ [7] rfl rfl) rfl rfl hl.1 rfl (lv_room (Nat.le_of_ble_eq_true rfl)) dX3_init_53 ⟨Nat.le_of_ble_eq_true rfl, Nat.le_of_ble_eq_true rfl⟩) hP hD hS hA [7] [0, 1, 2, 3, 4, 5, 6] rfl rfl rfl (by decide) (fun u H locs hP hD hS => ?_)
  obtain ⟨q8, rfl⟩ : ∃ z : Nat, z = u := ⟨_, rfl⟩
  have hP : va_P (dC, dI) vwCl [(a_this, .inr (3, [.null, .ref q1, .ref q3, .ref q5, .int (0 : Int32), .int (0 : Int32), .null, .int (0 : Int32), .int (0 : Int32)])), (q1, .inr (1, [.ref q2])), (q2, .inl (cI, 180, .inl (fun _ => 0))), (q3, .inr (1, [.ref q4])), (q4, .inl (cI, 180, .inl (fun _ => 0))), (q5, .inr (1, [.ref q6])), (q6, .inl (cI, 180, .inl (fun _ => 0))), (q7, .inr (1, [.ref q8])), (q8, .inl (cI, 36, .inl (fun _ => 0)))] H := hP
  have hD : va_D A [(a_this, .inr (3, [.null, .ref q1, .ref q3, .ref q5, .int (0 : Int32), .int (0 : Int32), .null, .int (0 : Int32), .int (0 : Int32)])), (q1, .inr (1, [.ref q2])), (q2, .inl (cI, 180, .inl (fun _ => 0))), (q3, .inr (1, [.ref q4])), (q4, .inl (cI, 180, .inl (fun _ => 0))), (q5, .inr (1, [.ref q6])), (q6, .inl (cI, 180, .inl (fun _ => 0))), (q7, .inr (1, [.ref q8])), (q8, .inl (cI, 36, .inl (fun _ => 0)))] := hD
  refine W.widen (k := 8) (n := 1 + 180 + 1 + 180 + 1 + 180 + 1 + 36) (by omega) (by omega) ?_
  refine va_putF (D := (dC, dI)) (ci := 3) (v := .ref q7) (ty := (.object "LawOfCorners$Numbers")) (C := RX3) (T := TX3) (N := 9) hx hb hts (by decide +kernel) tyX3 tyX3_ok nmX3 hown hK hP hD hS 0 rfl rfl 6 (by decide) (hts (.fieldLink RX3 26 "LawOfCorners$Routes" "toll" "LLawOfCorners$Numbers;") (by decide +kernel)) (fun _ h9 => h9) rfl hin rfl (by decide +kernel) rfl rfl (Nat.le_of_ble_eq_true rfl) dX3_init_56 (fun H locs hP hD hS => ?_)
  have hP : va_P (dC, dI) vwCl [(a_this, .inr (3, [.null, .ref q1, .ref q3, .ref q5, .int (0 : Int32), .int (0 : Int32), .ref q7, .int (0 : Int32), .int (0 : Int32)])), (q1, .inr (1, [.ref q2])), (q2, .inl (cI, 180, .inl (fun _ => 0))), (q3, .inr (1, [.ref q4])), (q4, .inl (cI, 180, .inl (fun _ => 0))), (q5, .inr (1, [.ref q6])), (q6, .inl (cI, 180, .inl (fun _ => 0))), (q7, .inr (1, [.ref q8])), (q8, .inl (cI, 36, .inl (fun _ => 0)))] H := hP
  have hD : va_D A [(a_this, .inr (3, [.null, .ref q1, .ref q3, .ref q5, .int (0 : Int32), .int (0 : Int32), .ref q7, .int (0 : Int32), .int (0 : Int32)])), (q1, .inr (1, [.ref q2])), (q2, .inl (cI, 180, .inl (fun _ => 0))), (q3, .inr (1, [.ref q4])), (q4, .inl (cI, 180, .inl (fun _ => 0))), (q5, .inr (1, [.ref q6])), (q6, .inl (cI, 180, .inl (fun _ => 0))), (q7, .inr (1, [.ref q8])), (q8, .inl (cI, 36, .inl (fun _ => 0)))] := hD
  refine lv_aload_n hx hb dX3_init_59 rfl (lv_at hl 0 rfl) ?_
  refine lv_aload_n hx hb dX3_init_60 rfl (lv_at hl 1 rfl) ?_
  refine va_putF (D := (dC, dI)) (ci := 3) (v := .ref a_p1) (ty := (.object "LawOfCorners$Town")) (C := RX3) (T := TX3) (N := 9) hx hb hts (by decide +kernel) tyX3 tyX3_ok nmX3 hown hK hP hD hS 0 rfl rfl 0 (by decide) (hts (.fieldLink RX3 29 "LawOfCorners$Routes" "town" "LLawOfCorners$Town;") (by decide +kernel)) (fun _ h9 => h9) rfl hin rfl (by decide +kernel) rfl rfl (Nat.le_of_ble_eq_true rfl) dX3_init_61 (fun H locs hP hD hS => ?_)
  have hP : va_P (dC, dI) vwCl [(a_this, .inr (3, [.ref a_p1, .ref q1, .ref q3, .ref q5, .int (0 : Int32), .int (0 : Int32), .ref q7, .int (0 : Int32), .int (0 : Int32)])), (q1, .inr (1, [.ref q2])), (q2, .inl (cI, 180, .inl (fun _ => 0))), (q3, .inr (1, [.ref q4])), (q4, .inl (cI, 180, .inl (fun _ => 0))), (q5, .inr (1, [.ref q6])), (q6, .inl (cI, 180, .inl (fun _ => 0))), (q7, .inr (1, [.ref q8])), (q8, .inl (cI, 36, .inl (fun _ => 0)))] H := hP
  have hD : va_D A [(a_this, .inr (3, [.ref a_p1, .ref q1, .ref q3, .ref q5, .int (0 : Int32), .int (0 : Int32), .ref q7, .int (0 : Int32), .int (0 : Int32)])), (q1, .inr (1, [.ref q2])), (q2, .inl (cI, 180, .inl (fun _ => 0))), (q3, .inr (1, [.ref q4])), (q4, .inl (cI, 180, .inl (fun _ => 0))), (q5, .inr (1, [.ref q6])), (q6, .inl (cI, 180, .inl (fun _ => 0))), (q7, .inr (1, [.ref q8])), (q8, .inl (cI, 36, .inl (fun _ => 0)))] := hD
  have hP : va_P (dC, dI) vwCl [(a_this, .inr (3, [.ref a_p1, .ref q1, .ref q3, .ref q5, .int (0 : Int32), .int (0 : Int32), .ref q7, .int (0 : Int32), .int (0 : Int32)])), (q5, .inr (1, [.ref q6])), (q6, .inl (cI, 180, .inl (fun _ => 0))), (q1, .inr (1, [.ref q2])), (q2, .inl (cI, 180, .inl (fun _ => 0))), (q7, .inr (1, [.ref q8])), (q8, .inl (cI, 36, .inl (fun _ => 0))), (q3, .inr (1, [.ref q4])), (q4, .inl (cI, 180, .inl (fun _ => 0)))] H := hP.sub [0, 5, 6, 1, 2, 7, 8, 3, 4] rfl
  have hD : va_D A [(a_this, .inr (3, [.ref a_p1, .ref q1, .ref q3, .ref q5, .int (0 : Int32), .int (0 : Int32), .ref q7, .int (0 : Int32), .int (0 : Int32)])), (q5, .inr (1, [.ref q6])), (q6, .inl (cI, 180, .inl (fun _ => 0))), (q1, .inr (1, [.ref q2])), (q2, .inl (cI, 180, .inl (fun _ => 0))), (q7, .inr (1, [.ref q8])), (q8, .inl (cI, 36, .inl (fun _ => 0))), (q3, .inr (1, [.ref q4])), (q4, .inl (cI, 180, .inl (fun _ => 0)))] := hD.sub [0, 5, 6, 1, 2, 7, 8, 3, 4] rfl rfl
  exact W.vret hx hb hr (fun t ht hW => ⟨⟨(q5, q6, q1, q2, q7, q8, q3, q4), rfl, trivial, by rw [ht]; exact hP, va_K.moved hW.alike hK, hD⟩, hS.F ht⟩) hS.2.2 dX3_init_64
set_option maxHeartbeats 4000000 in
set_option maxRecDepth 100000 in
theorem k_Talks_init (l : Launch) (dC : Nat → ClassId) (dI : Nat → Nat → Nat) (cI cZ : ClassId) (tt sd : Nat → Nat) (a_this : Nat) (sz : Nat) (a_p1 : Nat) : Met l yX5_init wsX5_init ({ frames := 2, cells := 6, slots := 399, locals := 53 }) (zPre (dC, dI) vwCl [(cI, .int), (cZ, .boolean)] tt sd [.ref a_this, .ref a_p1] [(a_this, .inr (5, [.null, .null, .null, .null]))] sz) (zQn (S := Nat × Nat × Nat × Nat × Nat × Nat) (dC, dI) vwCl [(cI, .int), (cZ, .boolean)] (fun u : Nat × Nat × Nat × Nat × Nat × Nat => match u with | (q5, q6, q1, q2, q3, q4) => [(a_this, .inr (5, [.ref a_p1, .ref q1, .ref q3, .ref q5])), (q5, .inr (1, [.ref q6])), (q6, .inl (cI, 36, .inl (fun _ => 0))), (q1, .inr (1, [.ref q2])), (q2, .inl (cI, 180, .inl (fun _ => 0))), (q3, .inr (1, [.ref q4])), (q4, .inl (cI, 180, .inl (fun _ => 0)))]) (va_A [(a_this, .inr (5, [.null, .null, .null, .null]))] sz)) 6 (399) (va_A [(a_this, .inr (5, [.null, .null, .null, .null]))] sz) := by
  refine Met.ofW (cc := cX5_init) (maxL := 2) (ret := none) (by decide) rfl ?_
  intro p e s m args below meth c s₁ B hml hv
  obtain ⟨rfl, hsz, hP, hK, hD0, hZ⟩ := hv
  have hx := B.exec
  have hb := B.bytes
  have hr := B.returns
  have hts := atoms_spec (ws := wsX5_init) B.pre
  have hown : s.vm.findClass RX5 = some m.cls := findClass_of_methodNamed B.named
  have hlocks := B.notSynchronized
  have hin : meth.name = "<init>" := (name_of_methodNamed B.named B.method).1
  subst hsz
  have hD := hD0.self (sz := s.heap.size)
  generalize hAe : va_A [(a_this, .inr (5, [.null, .null, .null, .null]))] s.heap.size = A at hD hZ ⊢
  have hA : ∀ q : Nat, s.heap.size ≤ q → A q := fun q h => by rw [← hAe]; exact Or.inr h
  have hS : va_S A s.heap s.heap [] := va_S.rf
  have hP : va_P (dC, dI) vwCl [(a_this, .inr (5, [.null, .null, .null, .null]))] s.heap := hP
  have hl := lv_entry ([.ref a_this, .ref a_p1]) (n := 2) (Nat.le_of_ble_eq_true rfl)
  rw [lg_entry_eq]
  generalize (lg_sl ([.ref a_this, .ref a_p1]) ++ List.replicate (2 - (lg_sl ([.ref a_this, .ref a_p1])).length) Slot.unset).toArray = ls at hl ⊢
  have hl : lv_has ls 2 [(0, .ref a_this), (1, .ref a_p1)] := hl
  refine lv_aload_n hx hb dX5_init_0 rfl (lv_at hl 0 rfl) ?_
  refine W.objInit hx hb hown (hts (.methodLink RX5 3 objectInit) (by decide +kernel)) (hts (.instanceMethod objectInit) (by decide +kernel)) (hts _ (show Cond.code objectInit ⟨#[0xb1]⟩ 1 none ∈ wsX5_init by decide +kernel)) rfl (by rw [hml]; exact hl.1) rfl dX5_init_1 (Nat.le_of_ble_eq_true rfl) (Nat.le_of_ble_eq_true rfl) ?_
  refine W.eq (g2 := F0 m 4 ls []) rfl ?_
  refine lv_aload_n hx hb dX5_init_4 rfl (lv_at hl 0 rfl) ?_
  refine va_new (ci := 1) (fs := [.null]) (C := RX1) (T := TX1) (N := 1) hx hb hts (by decide +kernel) tyX1 tyX1_ok hown (hts (.classLink RX5 9 RX1) (by decide +kernel)) (hts (.instantiable RX1 1) (by decide +kernel)) (hts (.initialized RX1) (by decide +kernel)) hK hP hD hS hA rfl (fun j hj => by rcases (show j = 0 by omega) with rfl <;> rfl) (Nat.le_of_ble_eq_true rfl) (Nat.le_of_ble_eq_true rfl) dX5_init_5 (fun q1 H hP hD hS => ?_)
  have hP : va_P (dC, dI) vwCl [(a_this, .inr (5, [.null, .null, .null, .null])), (q1, .inr (1, [.null]))] H := hP
  have hD : va_D A [(a_this, .inr (5, [.null, .null, .null, .null])), (q1, .inr (1, [.null]))] := hD
  refine W.widen (k := 1) (n := 1) (by omega) (by omega) ?_
  refine lv_dup hx hb dX5_init_8 rfl ?_
  refine lv_sipush (v := (180 : Int32)) hx hb dX5_init_9 (by decide) ?_
  refine zc_n (wr := [(a_this, .inr (5, [.null, .null, .null, .null]))]) (va_runI (As := [.int (180 : Int32)]) (rest := [.ref q1, .ref a_this]) ⟨hx, hb, hml, hown, hts⟩ (k_Numbers_init l dC dI cI cZ tt sd q1 H.size (180 : Int32) 180 (by decide) (by decide) (by decide)) (cwI 1 hts gX5_init_X1_init rfl rfl rfl (hts (.initialized RX1) (by decide +kernel)) (hts (.methodLink RX5 11 yX1_init) (by decide +kernel)) (hts (.instanceMethod yX1_init) (by decide +kernel)) rfl (by decide +kernel) ⟨Nat.le_of_ble_eq_true rfl, Nat.le_of_ble_eq_true rfl⟩) (zpS hP hD hK hS hA hZ [1] rfl rfl) rfl rfl hl.1 rfl (lv_room (Nat.le_of_ble_eq_true rfl)) dX5_init_12 ⟨Nat.le_of_ble_eq_true rfl, Nat.le_of_ble_eq_true rfl⟩) hP hD hS hA [1] [0] rfl rfl rfl (by decide) (fun u H locs hP hD hS => ?_)
  obtain ⟨q2, rfl⟩ : ∃ z : Nat, z = u := ⟨_, rfl⟩
  have hP : va_P (dC, dI) vwCl [(a_this, .inr (5, [.null, .null, .null, .null])), (q1, .inr (1, [.ref q2])), (q2, .inl (cI, 180, .inl (fun _ => 0)))] H := hP
  have hD : va_D A [(a_this, .inr (5, [.null, .null, .null, .null])), (q1, .inr (1, [.ref q2])), (q2, .inl (cI, 180, .inl (fun _ => 0)))] := hD
  refine W.widen (k := 2) (n := 1 + 180) (by omega) (by omega) ?_
  refine va_putF (D := (dC, dI)) (ci := 5) (v := .ref q1) (ty := (.object "LawOfCorners$Numbers")) (C := RX5) (T := TX5) (N := 4) hx hb hts (by decide +kernel) tyX5 tyX5_ok nmX5 hown hK hP hD hS 0 rfl rfl 1 (by decide) (hts (.fieldLink RX5 14 "LawOfCorners$Talks" "now" "LLawOfCorners$Numbers;") (by decide +kernel)) (fun _ h9 => h9) rfl hin rfl (by decide +kernel) rfl rfl (Nat.le_of_ble_eq_true rfl) dX5_init_15 (fun H locs hP hD hS => ?_)
  have hP : va_P (dC, dI) vwCl [(a_this, .inr (5, [.null, .ref q1, .null, .null])), (q1, .inr (1, [.ref q2])), (q2, .inl (cI, 180, .inl (fun _ => 0)))] H := hP
  have hD : va_D A [(a_this, .inr (5, [.null, .ref q1, .null, .null])), (q1, .inr (1, [.ref q2])), (q2, .inl (cI, 180, .inl (fun _ => 0)))] := hD
  refine lv_aload_n hx hb dX5_init_18 rfl (lv_at hl 0 rfl) ?_
  refine va_new (ci := 1) (fs := [.null]) (C := RX1) (T := TX1) (N := 1) hx hb hts (by decide +kernel) tyX1 tyX1_ok hown (hts (.classLink RX5 9 RX1) (by decide +kernel)) (hts (.instantiable RX1 1) (by decide +kernel)) (hts (.initialized RX1) (by decide +kernel)) hK hP hD hS hA rfl (fun j hj => by rcases (show j = 0 by omega) with rfl <;> rfl) (Nat.le_of_ble_eq_true rfl) (Nat.le_of_ble_eq_true rfl) dX5_init_19 (fun q3 H hP hD hS => ?_)
  have hP : va_P (dC, dI) vwCl [(a_this, .inr (5, [.null, .ref q1, .null, .null])), (q1, .inr (1, [.ref q2])), (q2, .inl (cI, 180, .inl (fun _ => 0))), (q3, .inr (1, [.null]))] H := hP
  have hD : va_D A [(a_this, .inr (5, [.null, .ref q1, .null, .null])), (q1, .inr (1, [.ref q2])), (q2, .inl (cI, 180, .inl (fun _ => 0))), (q3, .inr (1, [.null]))] := hD
  refine W.widen (k := 3) (n := 1 + 180 + 1) (by omega) (by omega) ?_
  refine lv_dup hx hb dX5_init_22 rfl ?_
  refine lv_sipush (v := (180 : Int32)) hx hb dX5_init_23 (by decide) ?_
  refine zc_n (wr := [(a_this, .inr (5, [.null, .ref q1, .null, .null])), (q1, .inr (1, [.ref q2])), (q2, .inl (cI, 180, .inl (fun _ => 0)))]) (va_runI (As := [.int (180 : Int32)]) (rest := [.ref q3, .ref a_this]) ⟨hx, hb, hml, hown, hts⟩ (k_Numbers_init l dC dI cI cZ tt sd q3 H.size (180 : Int32) 180 (by decide) (by decide) (by decide)) (cwI 1 hts gX5_init_X1_init rfl rfl rfl (hts (.initialized RX1) (by decide +kernel)) (hts (.methodLink RX5 11 yX1_init) (by decide +kernel)) (hts (.instanceMethod yX1_init) (by decide +kernel)) rfl (by decide +kernel) ⟨Nat.le_of_ble_eq_true rfl, Nat.le_of_ble_eq_true rfl⟩) (zpS hP hD hK hS hA hZ [3] rfl rfl) rfl rfl hl.1 rfl (lv_room (Nat.le_of_ble_eq_true rfl)) dX5_init_26 ⟨Nat.le_of_ble_eq_true rfl, Nat.le_of_ble_eq_true rfl⟩) hP hD hS hA [3] [0, 1, 2] rfl rfl rfl (by decide) (fun u H locs hP hD hS => ?_)
  obtain ⟨q4, rfl⟩ : ∃ z : Nat, z = u := ⟨_, rfl⟩
  have hP : va_P (dC, dI) vwCl [(a_this, .inr (5, [.null, .ref q1, .null, .null])), (q1, .inr (1, [.ref q2])), (q2, .inl (cI, 180, .inl (fun _ => 0))), (q3, .inr (1, [.ref q4])), (q4, .inl (cI, 180, .inl (fun _ => 0)))] H := hP
  have hD : va_D A [(a_this, .inr (5, [.null, .ref q1, .null, .null])), (q1, .inr (1, [.ref q2])), (q2, .inl (cI, 180, .inl (fun _ => 0))), (q3, .inr (1, [.ref q4])), (q4, .inl (cI, 180, .inl (fun _ => 0)))] := hD
  refine W.widen (k := 4) (n := 1 + 180 + 1 + 180) (by omega) (by omega) ?_
  refine va_putF (D := (dC, dI)) (ci := 5) (v := .ref q3) (ty := (.object "LawOfCorners$Numbers")) (C := RX5) (T := TX5) (N := 4) hx hb hts (by decide +kernel) tyX5 tyX5_ok nmX5 hown hK hP hD hS 0 rfl rfl 2 (by decide) (hts (.fieldLink RX5 20 "LawOfCorners$Talks" "then" "LLawOfCorners$Numbers;") (by decide +kernel)) (fun _ h9 => h9) rfl hin rfl (by decide +kernel) rfl rfl (Nat.le_of_ble_eq_true rfl) dX5_init_29 (fun H locs hP hD hS => ?_)
  have hP : va_P (dC, dI) vwCl [(a_this, .inr (5, [.null, .ref q1, .ref q3, .null])), (q1, .inr (1, [.ref q2])), (q2, .inl (cI, 180, .inl (fun _ => 0))), (q3, .inr (1, [.ref q4])), (q4, .inl (cI, 180, .inl (fun _ => 0)))] H := hP
  have hD : va_D A [(a_this, .inr (5, [.null, .ref q1, .ref q3, .null])), (q1, .inr (1, [.ref q2])), (q2, .inl (cI, 180, .inl (fun _ => 0))), (q3, .inr (1, [.ref q4])), (q4, .inl (cI, 180, .inl (fun _ => 0)))] := hD
  refine lv_aload_n hx hb dX5_init_32 rfl (lv_at hl 0 rfl) ?_
  refine va_new (ci := 1) (fs := [.null]) (C := RX1) (T := TX1) (N := 1) hx hb hts (by decide +kernel) tyX1 tyX1_ok hown (hts (.classLink RX5 9 RX1) (by decide +kernel)) (hts (.instantiable RX1 1) (by decide +kernel)) (hts (.initialized RX1) (by decide +kernel)) hK hP hD hS hA rfl (fun j hj => by rcases (show j = 0 by omega) with rfl <;> rfl) (Nat.le_of_ble_eq_true rfl) (Nat.le_of_ble_eq_true rfl) dX5_init_33 (fun q5 H hP hD hS => ?_)
  have hP : va_P (dC, dI) vwCl [(a_this, .inr (5, [.null, .ref q1, .ref q3, .null])), (q1, .inr (1, [.ref q2])), (q2, .inl (cI, 180, .inl (fun _ => 0))), (q3, .inr (1, [.ref q4])), (q4, .inl (cI, 180, .inl (fun _ => 0))), (q5, .inr (1, [.null]))] H := hP
  have hD : va_D A [(a_this, .inr (5, [.null, .ref q1, .ref q3, .null])), (q1, .inr (1, [.ref q2])), (q2, .inl (cI, 180, .inl (fun _ => 0))), (q3, .inr (1, [.ref q4])), (q4, .inl (cI, 180, .inl (fun _ => 0))), (q5, .inr (1, [.null]))] := hD
  refine W.widen (k := 5) (n := 1 + 180 + 1 + 180 + 1) (by omega) (by omega) ?_
  refine lv_dup hx hb dX5_init_36 rfl ?_
  refine lv_bipush (v := (36 : Int32)) hx hb dX5_init_37 (by decide) ?_
  refine zc_n (wr := [(a_this, .inr (5, [.null, .ref q1, .ref q3, .null])), (q1, .inr (1, [.ref q2])), (q2, .inl (cI, 180, .inl (fun _ => 0))), (q3, .inr (1, [.ref q4])), (q4, .inl (cI, 180, .inl (fun _ => 0)))]) (va_runI (As := [.int (36 : Int32)]) (rest := [.ref q5, .ref a_this]) ⟨hx, hb, hml, hown, hts⟩ (k_Numbers_init l dC dI cI cZ tt sd q5 H.size (36 : Int32) 36 (by decide) (by decide) (by decide)) (cwI 1 hts gX5_init_X1_init rfl rfl rfl (hts (.initialized RX1) (by decide +kernel)) (hts (.methodLink RX5 11 yX1_init) (by decide +kernel)) (hts (.instanceMethod yX1_init) (by decide +kernel)) rfl (by decide +kernel) ⟨Nat.le_of_ble_eq_true rfl, Nat.le_of_ble_eq_true rfl⟩) (zpS hP hD hK hS hA hZ [5] rfl rfl) rfl rfl hl.1 rfl (lv_room (Nat.le_of_ble_eq_true rfl)) dX5_init_39 ⟨Nat.le_of_ble_eq_true rfl, Nat.le_of_ble_eq_true rfl⟩) hP hD hS hA [5] [0, 1, 2, 3, 4] rfl rfl rfl (by decide) (fun u H locs hP hD hS => ?_)
  obtain ⟨q6, rfl⟩ : ∃ z : Nat, z = u := ⟨_, rfl⟩
  have hP : va_P (dC, dI) vwCl [(a_this, .inr (5, [.null, .ref q1, .ref q3, .null])), (q1, .inr (1, [.ref q2])), (q2, .inl (cI, 180, .inl (fun _ => 0))), (q3, .inr (1, [.ref q4])), (q4, .inl (cI, 180, .inl (fun _ => 0))), (q5, .inr (1, [.ref q6])), (q6, .inl (cI, 36, .inl (fun _ => 0)))] H := hP
  have hD : va_D A [(a_this, .inr (5, [.null, .ref q1, .ref q3, .null])), (q1, .inr (1, [.ref q2])), (q2, .inl (cI, 180, .inl (fun _ => 0))), (q3, .inr (1, [.ref q4])), (q4, .inl (cI, 180, .inl (fun _ => 0))), (q5, .inr (1, [.ref q6])), (q6, .inl (cI, 36, .inl (fun _ => 0)))] := hD
  refine W.widen (k := 6) (n := 1 + 180 + 1 + 180 + 1 + 36) (by omega) (by omega) ?_
  refine va_putF (D := (dC, dI)) (ci := 5) (v := .ref q5) (ty := (.object "LawOfCorners$Numbers")) (C := RX5) (T := TX5) (N := 4) hx hb hts (by decide +kernel) tyX5 tyX5_ok nmX5 hown hK hP hD hS 0 rfl rfl 3 (by decide) (hts (.fieldLink RX5 23 "LawOfCorners$Talks" "isHushed" "LLawOfCorners$Numbers;") (by decide +kernel)) (fun _ h9 => h9) rfl hin rfl (by decide +kernel) rfl rfl (Nat.le_of_ble_eq_true rfl) dX5_init_42 (fun H locs hP hD hS => ?_)
  have hP : va_P (dC, dI) vwCl [(a_this, .inr (5, [.null, .ref q1, .ref q3, .ref q5])), (q1, .inr (1, [.ref q2])), (q2, .inl (cI, 180, .inl (fun _ => 0))), (q3, .inr (1, [.ref q4])), (q4, .inl (cI, 180, .inl (fun _ => 0))), (q5, .inr (1, [.ref q6])), (q6, .inl (cI, 36, .inl (fun _ => 0)))] H := hP
  have hD : va_D A [(a_this, .inr (5, [.null, .ref q1, .ref q3, .ref q5])), (q1, .inr (1, [.ref q2])), (q2, .inl (cI, 180, .inl (fun _ => 0))), (q3, .inr (1, [.ref q4])), (q4, .inl (cI, 180, .inl (fun _ => 0))), (q5, .inr (1, [.ref q6])), (q6, .inl (cI, 36, .inl (fun _ => 0)))] := hD
  refine lv_aload_n hx hb dX5_init_45 rfl (lv_at hl 0 rfl) ?_
  refine lv_aload_n hx hb dX5_init_46 rfl (lv_at hl 1 rfl) ?_
  refine va_putF (D := (dC, dI)) (ci := 5) (v := .ref a_p1) (ty := (.object "LawOfCorners$Town")) (C := RX5) (T := TX5) (N := 4) hx hb hts (by decide +kernel) tyX5 tyX5_ok nmX5 hown hK hP hD hS 0 rfl rfl 0 (by decide) (hts (.fieldLink RX5 26 "LawOfCorners$Talks" "town" "LLawOfCorners$Town;") (by decide +kernel)) (fun _ h9 => h9) rfl hin rfl (by decide +kernel) rfl rfl (Nat.le_of_ble_eq_true rfl) dX5_init_47 (fun H locs hP hD hS => ?_)
  have hP : va_P (dC, dI) vwCl [(a_this, .inr (5, [.ref a_p1, .ref q1, .ref q3, .ref q5])), (q1, .inr (1, [.ref q2])), (q2, .inl (cI, 180, .inl (fun _ => 0))), (q3, .inr (1, [.ref q4])), (q4, .inl (cI, 180, .inl (fun _ => 0))), (q5, .inr (1, [.ref q6])), (q6, .inl (cI, 36, .inl (fun _ => 0)))] H := hP
  have hD : va_D A [(a_this, .inr (5, [.ref a_p1, .ref q1, .ref q3, .ref q5])), (q1, .inr (1, [.ref q2])), (q2, .inl (cI, 180, .inl (fun _ => 0))), (q3, .inr (1, [.ref q4])), (q4, .inl (cI, 180, .inl (fun _ => 0))), (q5, .inr (1, [.ref q6])), (q6, .inl (cI, 36, .inl (fun _ => 0)))] := hD
  have hP : va_P (dC, dI) vwCl [(a_this, .inr (5, [.ref a_p1, .ref q1, .ref q3, .ref q5])), (q5, .inr (1, [.ref q6])), (q6, .inl (cI, 36, .inl (fun _ => 0))), (q1, .inr (1, [.ref q2])), (q2, .inl (cI, 180, .inl (fun _ => 0))), (q3, .inr (1, [.ref q4])), (q4, .inl (cI, 180, .inl (fun _ => 0)))] H := hP.sub [0, 5, 6, 1, 2, 3, 4] rfl
  have hD : va_D A [(a_this, .inr (5, [.ref a_p1, .ref q1, .ref q3, .ref q5])), (q5, .inr (1, [.ref q6])), (q6, .inl (cI, 36, .inl (fun _ => 0))), (q1, .inr (1, [.ref q2])), (q2, .inl (cI, 180, .inl (fun _ => 0))), (q3, .inr (1, [.ref q4])), (q4, .inl (cI, 180, .inl (fun _ => 0)))] := hD.sub [0, 5, 6, 1, 2, 3, 4] rfl rfl
  exact W.vret hx hb hr (fun t ht hW => ⟨⟨(q5, q6, q1, q2, q3, q4), rfl, trivial, by rw [ht]; exact hP, va_K.moved hW.alike hK, hD⟩, hS.F ht⟩) hS.2.2 dX5_init_50
