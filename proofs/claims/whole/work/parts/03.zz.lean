def T_KIND_CAN_BE : Nat → Int32 := fun k => match k with
  | 0 => 1
  | 1 => 0
  | 2 => 1
  | 3 => 1
  | 4 => 0
  | _ => 1
def T_KIND_WORDS : Nat → Int32 := fun k => match k with
  | 0 => 1
  | 1 => 0
  | 2 => 1
  | 3 => 0
  | 4 => 0
  | _ => 2
def T_KIND_HEARS : Nat → Int32 := fun k => match k with
  | 0 => -9
  | 1 => -9
  | 2 => -9
  | 3 => 1
  | 4 => 2
  | _ => -9
def T_KIND_CORNER : Nat → Int32 := fun k => match k with
  | 0 => 1
  | 1 => 1
  | 2 => 0
  | 3 => 1
  | 4 => 1
  | _ => 0
def zsv (tt : Nat → Nat) : Value := if tt 99 = 0 then .null else .ref (tt 98)
/-- what stays as it was at the start: tables, and links across the nest -/
def zZ (tt sd : Nat → Nat) (A : Nat → Prop) (U : State) (H : Heap) : Prop :=
  va_Z "LawOfCorners" "KIND_CAN_BE" "[I" (.ref (tt 0)) A U H ∧
  va_T .int (tt 0) 6 (fun j => .int (T_KIND_CAN_BE j)) A U H ∧
  va_Z "LawOfCorners" "KIND_WORDS" "[I" (.ref (tt 1)) A U H ∧
  va_T .int (tt 1) 6 (fun j => .int (T_KIND_WORDS j)) A U H ∧
  va_Z "LawOfCorners" "KIND_HEARS" "[I" (.ref (tt 2)) A U H ∧
  va_T .int (tt 2) 6 (fun j => .int (T_KIND_HEARS j)) A U H ∧
  va_Z "LawOfCorners" "KIND_CORNER" "[I" (.ref (tt 3)) A U H ∧
  va_T .int (tt 3) 6 (fun j => .int (T_KIND_CORNER j)) A U H ∧
  va_Nw (.methodLinkNest RX6 38 yX7_isSquare "LawOfCorners") U ∧
  va_Nw (.methodLinkNest RX7 11 yX6_init "LawOfCorners") U ∧
  va_Nw (.methodLinkNest RX7 24 yX0_init "LawOfCorners") U ∧
  va_Nw (.fieldLinkNest RX6 41 "LawOfCorners" "KIND_CAN_BE" "[I" "LawOfCorners") U ∧
  va_Nw (.fieldLinkNest RX6 57 "LawOfCorners" "KIND_WORDS" "[I" "LawOfCorners") U ∧
  va_Nw (.fieldLinkNest RX6 60 "LawOfCorners" "KIND_HEARS" "[I" "LawOfCorners") U ∧
  va_Nw (.fieldLinkNest RX6 63 "LawOfCorners" "KIND_CORNER" "[I" "LawOfCorners") U ∧
  vk_R RX0 49 "KDD;" (sd 0) U ∧
  vk_R RX0 51 "KDDDD;" (sd 1) U ∧
  vk_R RX0 53 "DD;" (sd 2) U ∧
  vk_R RX0 55 "D;" (sd 3) U ∧
  vk_R RX0 57 "" (sd 4) U ∧
  vk_R RX0 71 "swcntm" (sd 5) U ∧
  vk_S 6 zSlen zSbyt sd (fun i => sd (1000 + i)) A U H ∧
  va_Z "java/lang/String" "COMPACT_STRINGS" "Z" (.int 1) A U H ∧
  va_Z "jdk/internal/util/Preconditions" "SIOOBE_FORMATTER" "Ljava/util/function/BiFunction;" (zsv tt) A U H ∧
  True
theorem zZ_Z0 {tt sd : Nat → Nat} {A : Nat → Prop} {U : State} {H : Heap} (h : zZ tt sd A U H) : va_Z "LawOfCorners" "KIND_CAN_BE" "[I" (.ref (tt 0)) A U H := h.1
theorem zZ_T0 {tt sd : Nat → Nat} {A : Nat → Prop} {U : State} {H : Heap} (h : zZ tt sd A U H) : va_T .int (tt 0) 6 (fun j => .int (T_KIND_CAN_BE j)) A U H := h.2.1
theorem zZ_Z1 {tt sd : Nat → Nat} {A : Nat → Prop} {U : State} {H : Heap} (h : zZ tt sd A U H) : va_Z "LawOfCorners" "KIND_WORDS" "[I" (.ref (tt 1)) A U H := h.2.2.1
theorem zZ_T1 {tt sd : Nat → Nat} {A : Nat → Prop} {U : State} {H : Heap} (h : zZ tt sd A U H) : va_T .int (tt 1) 6 (fun j => .int (T_KIND_WORDS j)) A U H := h.2.2.2.1
theorem zZ_Z2 {tt sd : Nat → Nat} {A : Nat → Prop} {U : State} {H : Heap} (h : zZ tt sd A U H) : va_Z "LawOfCorners" "KIND_HEARS" "[I" (.ref (tt 2)) A U H := h.2.2.2.2.1
theorem zZ_T2 {tt sd : Nat → Nat} {A : Nat → Prop} {U : State} {H : Heap} (h : zZ tt sd A U H) : va_T .int (tt 2) 6 (fun j => .int (T_KIND_HEARS j)) A U H := h.2.2.2.2.2.1
theorem zZ_Z3 {tt sd : Nat → Nat} {A : Nat → Prop} {U : State} {H : Heap} (h : zZ tt sd A U H) : va_Z "LawOfCorners" "KIND_CORNER" "[I" (.ref (tt 3)) A U H := h.2.2.2.2.2.2.1
theorem zZ_T3 {tt sd : Nat → Nat} {A : Nat → Prop} {U : State} {H : Heap} (h : zZ tt sd A U H) : va_T .int (tt 3) 6 (fun j => .int (T_KIND_CORNER j)) A U H := h.2.2.2.2.2.2.2.1
theorem zZ_N0 {tt sd : Nat → Nat} {A : Nat → Prop} {U : State} {H : Heap} (h : zZ tt sd A U H) : va_Nw (.methodLinkNest RX6 38 yX7_isSquare "LawOfCorners") U := h.2.2.2.2.2.2.2.2.1
theorem zZ_N1 {tt sd : Nat → Nat} {A : Nat → Prop} {U : State} {H : Heap} (h : zZ tt sd A U H) : va_Nw (.methodLinkNest RX7 11 yX6_init "LawOfCorners") U := h.2.2.2.2.2.2.2.2.2.1
theorem zZ_N2 {tt sd : Nat → Nat} {A : Nat → Prop} {U : State} {H : Heap} (h : zZ tt sd A U H) : va_Nw (.methodLinkNest RX7 24 yX0_init "LawOfCorners") U := h.2.2.2.2.2.2.2.2.2.2.1
theorem zZ_N3 {tt sd : Nat → Nat} {A : Nat → Prop} {U : State} {H : Heap} (h : zZ tt sd A U H) : va_Nw (.fieldLinkNest RX6 41 "LawOfCorners" "KIND_CAN_BE" "[I" "LawOfCorners") U := h.2.2.2.2.2.2.2.2.2.2.2.1
theorem zZ_N4 {tt sd : Nat → Nat} {A : Nat → Prop} {U : State} {H : Heap} (h : zZ tt sd A U H) : va_Nw (.fieldLinkNest RX6 57 "LawOfCorners" "KIND_WORDS" "[I" "LawOfCorners") U := h.2.2.2.2.2.2.2.2.2.2.2.2.1
theorem zZ_N5 {tt sd : Nat → Nat} {A : Nat → Prop} {U : State} {H : Heap} (h : zZ tt sd A U H) : va_Nw (.fieldLinkNest RX6 60 "LawOfCorners" "KIND_HEARS" "[I" "LawOfCorners") U := h.2.2.2.2.2.2.2.2.2.2.2.2.2.1
theorem zZ_N6 {tt sd : Nat → Nat} {A : Nat → Prop} {U : State} {H : Heap} (h : zZ tt sd A U H) : va_Nw (.fieldLinkNest RX6 63 "LawOfCorners" "KIND_CORNER" "[I" "LawOfCorners") U := h.2.2.2.2.2.2.2.2.2.2.2.2.2.2.1
theorem zZ_S0 {tt sd : Nat → Nat} {A : Nat → Prop} {U : State} {H : Heap} (h : zZ tt sd A U H) : vk_R RX0 49 "KDD;" (sd 0) U := h.2.2.2.2.2.2.2.2.2.2.2.2.2.2.2.1
theorem zZ_S1 {tt sd : Nat → Nat} {A : Nat → Prop} {U : State} {H : Heap} (h : zZ tt sd A U H) : vk_R RX0 51 "KDDDD;" (sd 1) U := h.2.2.2.2.2.2.2.2.2.2.2.2.2.2.2.2.1
theorem zZ_S2 {tt sd : Nat → Nat} {A : Nat → Prop} {U : State} {H : Heap} (h : zZ tt sd A U H) : vk_R RX0 53 "DD;" (sd 2) U := h.2.2.2.2.2.2.2.2.2.2.2.2.2.2.2.2.2.1
theorem zZ_S3 {tt sd : Nat → Nat} {A : Nat → Prop} {U : State} {H : Heap} (h : zZ tt sd A U H) : vk_R RX0 55 "D;" (sd 3) U := h.2.2.2.2.2.2.2.2.2.2.2.2.2.2.2.2.2.2.1
theorem zZ_S4 {tt sd : Nat → Nat} {A : Nat → Prop} {U : State} {H : Heap} (h : zZ tt sd A U H) : vk_R RX0 57 "" (sd 4) U := h.2.2.2.2.2.2.2.2.2.2.2.2.2.2.2.2.2.2.2.1
theorem zZ_S5 {tt sd : Nat → Nat} {A : Nat → Prop} {U : State} {H : Heap} (h : zZ tt sd A U H) : vk_R RX0 71 "swcntm" (sd 5) U := h.2.2.2.2.2.2.2.2.2.2.2.2.2.2.2.2.2.2.2.2.1
theorem zZ_KK {tt sd : Nat → Nat} {A : Nat → Prop} {U : State} {H : Heap} (h : zZ tt sd A U H) : vk_S 6 zSlen zSbyt sd (fun i => sd (1000 + i)) A U H := h.2.2.2.2.2.2.2.2.2.2.2.2.2.2.2.2.2.2.2.2.2.1
theorem zZ_C {tt sd : Nat → Nat} {A : Nat → Prop} {U : State} {H : Heap} (h : zZ tt sd A U H) : va_Z "java/lang/String" "COMPACT_STRINGS" "Z" (.int 1) A U H := h.2.2.2.2.2.2.2.2.2.2.2.2.2.2.2.2.2.2.2.2.2.2.1
theorem zZ_Q {tt sd : Nat → Nat} {A : Nat → Prop} {U : State} {H : Heap} (h : zZ tt sd A U H) : va_Z "jdk/internal/util/Preconditions" "SIOOBE_FORMATTER" "Ljava/util/function/BiFunction;" (zsv tt) A U H := h.2.2.2.2.2.2.2.2.2.2.2.2.2.2.2.2.2.2.2.2.2.2.2.1
theorem zZ_K {tt sd : Nat → Nat} {A : Nat → Prop} {U : State} {H : Heap} (h : zZ tt sd A U H) {i : Nat} (hi : i < 6) : va_O "java/lang/String" (sd i) A U H ∧ va_OF "java/lang/String" "coder" "B" (.int 0) (sd i) A U H ∧ va_OF "java/lang/String" "value" "[B" (.ref (sd (1000 + i))) (sd i) A U H ∧ va_T .byte (sd (1000 + i)) (zSlen.getD i 0) (fun j => .int ((zSbyt.getD i []).getD j 0)) A U H := (zZ_KK h).1 i hi
theorem zZ_warm {tt sd : Nat → Nat} {A : Nat → Prop} {s U : State} {H : Heap} (hW : s.WarmedH U.vm) (h : zZ tt sd A s H) : zZ tt sd A U H := ⟨va_Z.moved hW.alike (h.1), va_T.moved hW.alike (h.2.1), va_Z.moved hW.alike (h.2.2.1), va_T.moved hW.alike (h.2.2.2.1), va_Z.moved hW.alike (h.2.2.2.2.1), va_T.moved hW.alike (h.2.2.2.2.2.1), va_Z.moved hW.alike (h.2.2.2.2.2.2.1), va_T.moved hW.alike (h.2.2.2.2.2.2.2.1), va_Nw.warmM hW (h.2.2.2.2.2.2.2.2.1), va_Nw.warmM hW (h.2.2.2.2.2.2.2.2.2.1), va_Nw.warmM hW (h.2.2.2.2.2.2.2.2.2.2.1), va_Nw.warmF hW (h.2.2.2.2.2.2.2.2.2.2.2.1), va_Nw.warmF hW (h.2.2.2.2.2.2.2.2.2.2.2.2.1), va_Nw.warmF hW (h.2.2.2.2.2.2.2.2.2.2.2.2.2.1), va_Nw.warmF hW (h.2.2.2.2.2.2.2.2.2.2.2.2.2.2.1), vk_R.warm hW (h.2.2.2.2.2.2.2.2.2.2.2.2.2.2.2.1), vk_R.warm hW (h.2.2.2.2.2.2.2.2.2.2.2.2.2.2.2.2.1), vk_R.warm hW (h.2.2.2.2.2.2.2.2.2.2.2.2.2.2.2.2.2.1), vk_R.warm hW (h.2.2.2.2.2.2.2.2.2.2.2.2.2.2.2.2.2.2.1), vk_R.warm hW (h.2.2.2.2.2.2.2.2.2.2.2.2.2.2.2.2.2.2.2.1), vk_R.warm hW (h.2.2.2.2.2.2.2.2.2.2.2.2.2.2.2.2.2.2.2.2.1), vk_S.moved hW.alike (h.2.2.2.2.2.2.2.2.2.2.2.2.2.2.2.2.2.2.2.2.2.1), va_Z.moved hW.alike (h.2.2.2.2.2.2.2.2.2.2.2.2.2.2.2.2.2.2.2.2.2.2.1), va_Z.moved hW.alike (h.2.2.2.2.2.2.2.2.2.2.2.2.2.2.2.2.2.2.2.2.2.2.2.1), trivial⟩
theorem zZ_kept {tt sd : Nat → Nat} {A : Nat → Prop} {U : State} {H H1 : Heap} (h : zZ tt sd A U H) (hq : ∀ a : Nat, a < H.size → ¬ A a → H1[a]? = H[a]?) : zZ tt sd A U H1 := ⟨(h.1).kept hq, (h.2.1).kept hq, (h.2.2.1).kept hq, (h.2.2.2.1).kept hq, (h.2.2.2.2.1).kept hq, (h.2.2.2.2.2.1).kept hq, (h.2.2.2.2.2.2.1).kept hq, (h.2.2.2.2.2.2.2.1).kept hq, (h.2.2.2.2.2.2.2.2.1), (h.2.2.2.2.2.2.2.2.2.1), (h.2.2.2.2.2.2.2.2.2.2.1), (h.2.2.2.2.2.2.2.2.2.2.2.1), (h.2.2.2.2.2.2.2.2.2.2.2.2.1), (h.2.2.2.2.2.2.2.2.2.2.2.2.2.1), (h.2.2.2.2.2.2.2.2.2.2.2.2.2.2.1), (h.2.2.2.2.2.2.2.2.2.2.2.2.2.2.2.1), (h.2.2.2.2.2.2.2.2.2.2.2.2.2.2.2.2.1), (h.2.2.2.2.2.2.2.2.2.2.2.2.2.2.2.2.2.1), (h.2.2.2.2.2.2.2.2.2.2.2.2.2.2.2.2.2.2.1), (h.2.2.2.2.2.2.2.2.2.2.2.2.2.2.2.2.2.2.2.1), (h.2.2.2.2.2.2.2.2.2.2.2.2.2.2.2.2.2.2.2.2.1), (h.2.2.2.2.2.2.2.2.2.2.2.2.2.2.2.2.2.2.2.2.2.1).kept hq, (h.2.2.2.2.2.2.2.2.2.2.2.2.2.2.2.2.2.2.2.2.2.2.1).kept hq, (h.2.2.2.2.2.2.2.2.2.2.2.2.2.2.2.2.2.2.2.2.2.2.2.1).kept hq, trivial⟩
theorem zZ_narrow {tt sd : Nat → Nat} {A B : Nat → Prop} {U : State} {H : Heap} (h : zZ tt sd A U H) (hAB : ∀ q, B q → A q) : zZ tt sd B U H := ⟨(h.1).narrow hAB, (h.2.1).narrow hAB, (h.2.2.1).narrow hAB, (h.2.2.2.1).narrow hAB, (h.2.2.2.2.1).narrow hAB, (h.2.2.2.2.2.1).narrow hAB, (h.2.2.2.2.2.2.1).narrow hAB, (h.2.2.2.2.2.2.2.1).narrow hAB, (h.2.2.2.2.2.2.2.2.1), (h.2.2.2.2.2.2.2.2.2.1), (h.2.2.2.2.2.2.2.2.2.2.1), (h.2.2.2.2.2.2.2.2.2.2.2.1), (h.2.2.2.2.2.2.2.2.2.2.2.2.1), (h.2.2.2.2.2.2.2.2.2.2.2.2.2.1), (h.2.2.2.2.2.2.2.2.2.2.2.2.2.2.1), (h.2.2.2.2.2.2.2.2.2.2.2.2.2.2.2.1), (h.2.2.2.2.2.2.2.2.2.2.2.2.2.2.2.2.1), (h.2.2.2.2.2.2.2.2.2.2.2.2.2.2.2.2.2.1), (h.2.2.2.2.2.2.2.2.2.2.2.2.2.2.2.2.2.2.1), (h.2.2.2.2.2.2.2.2.2.2.2.2.2.2.2.2.2.2.2.1), (h.2.2.2.2.2.2.2.2.2.2.2.2.2.2.2.2.2.2.2.2.1), (h.2.2.2.2.2.2.2.2.2.2.2.2.2.2.2.2.2.2.2.2.2.1).narrow hAB, (h.2.2.2.2.2.2.2.2.2.2.2.2.2.2.2.2.2.2.2.2.2.2.1).narrow hAB, (h.2.2.2.2.2.2.2.2.2.2.2.2.2.2.2.2.2.2.2.2.2.2.2.1).narrow hAB, trivial⟩
theorem zZ_call {tt sd : Nat → Nat} {A : Nat → Prop} {U : State} {H : Heap} {g : JFrame} {mk : MethodId} {a : Array Value} (h : zZ tt sd A U H) : zZ tt sd A (U.calling g mk a) H := ⟨va_Z.moved (u := U) (U := U.calling g mk a) (Vm.Alike.refl U.vm) (h.1), va_T.moved (u := U) (U := U.calling g mk a) (Vm.Alike.refl U.vm) (h.2.1), va_Z.moved (u := U) (U := U.calling g mk a) (Vm.Alike.refl U.vm) (h.2.2.1), va_T.moved (u := U) (U := U.calling g mk a) (Vm.Alike.refl U.vm) (h.2.2.2.1), va_Z.moved (u := U) (U := U.calling g mk a) (Vm.Alike.refl U.vm) (h.2.2.2.2.1), va_T.moved (u := U) (U := U.calling g mk a) (Vm.Alike.refl U.vm) (h.2.2.2.2.2.1), va_Z.moved (u := U) (U := U.calling g mk a) (Vm.Alike.refl U.vm) (h.2.2.2.2.2.2.1), va_T.moved (u := U) (U := U.calling g mk a) (Vm.Alike.refl U.vm) (h.2.2.2.2.2.2.2.1), va_Nw.same rfl rfl (h.2.2.2.2.2.2.2.2.1), va_Nw.same rfl rfl (h.2.2.2.2.2.2.2.2.2.1), va_Nw.same rfl rfl (h.2.2.2.2.2.2.2.2.2.2.1), va_Nw.same rfl rfl (h.2.2.2.2.2.2.2.2.2.2.2.1), va_Nw.same rfl rfl (h.2.2.2.2.2.2.2.2.2.2.2.2.1), va_Nw.same rfl rfl (h.2.2.2.2.2.2.2.2.2.2.2.2.2.1), va_Nw.same rfl rfl (h.2.2.2.2.2.2.2.2.2.2.2.2.2.2.1), vk_R.same rfl (h.2.2.2.2.2.2.2.2.2.2.2.2.2.2.2.1), vk_R.same rfl (h.2.2.2.2.2.2.2.2.2.2.2.2.2.2.2.2.1), vk_R.same rfl (h.2.2.2.2.2.2.2.2.2.2.2.2.2.2.2.2.2.1), vk_R.same rfl (h.2.2.2.2.2.2.2.2.2.2.2.2.2.2.2.2.2.2.1), vk_R.same rfl (h.2.2.2.2.2.2.2.2.2.2.2.2.2.2.2.2.2.2.2.1), vk_R.same rfl (h.2.2.2.2.2.2.2.2.2.2.2.2.2.2.2.2.2.2.2.2.1), vk_S.moved (u := U) (U := U.calling g mk a) (Vm.Alike.refl U.vm) (h.2.2.2.2.2.2.2.2.2.2.2.2.2.2.2.2.2.2.2.2.2.1), va_Z.moved (u := U) (U := U.calling g mk a) (Vm.Alike.refl U.vm) (h.2.2.2.2.2.2.2.2.2.2.2.2.2.2.2.2.2.2.2.2.2.2.1), va_Z.moved (u := U) (U := U.calling g mk a) (Vm.Alike.refl U.vm) (h.2.2.2.2.2.2.2.2.2.2.2.2.2.2.2.2.2.2.2.2.2.2.2.1), trivial⟩
theorem zbool_n {x : Int32} (h : x &&& 1 = x) : narrow .boolean (.int x) = .int x := by show Value.int (x &&& 1) = .int x; rw [h]
theorem zchar_n {x : Int32} (h : (x.toUInt32 % 65536).toInt32 = x) : narrow .char (.int x) = .int x := by
  have q := pk_nc x
  rw [h] at q
  exact q
theorem zbyte_n {x : Int32} (h : x.toInt8.toInt32 = x) : narrow .byte (.int x) = .int x := by
  have q := pk_nb x
  rw [h] at q
  exact q
theorem zvnar {x : Int32} (h : x &&& 1 = x) : vp_nar .boolean x = x := by show x &&& 1 = x; exact h

-- wrappers of the kit's rows: one picture of a call
section
variable {p : Program} {l : Launch} {e : Env} {R : Room} {s : State} {m : MethodId} {args : Array Value} {below : List Frame} {meth : Method} {c : Code} {H : Heap} {locs : List Loc} {cells slots : Nat} {Q : State → Prop}
variable {pc nL : Nat} {ls : Array Slot} {rest st0 : List Value} {a : Array Value} {A : Nat → Prop} {D : va_G} {cl : List vw_C} {tys : List (ClassId × FieldType)} {tt sd : Nat → Nat}
def zPre (D : va_G) (cl : List vw_C) (tys : List (ClassId × FieldType)) (tt sd : Nat → Nat) (av : List Value) (ws : va_W) (sz : Nat) : Array Value → State → Prop := va_Pc av (fun U => U.heap.size = sz ∧ va_P D cl ws U.heap ∧ va_K D cl tys U ∧ va_D (fun _ => True) ws ∧ zZ tt sd (va_A ws sz) U U.heap)
abbrev zB (D : va_G) (cl : List vw_C) (tys : List (ClassId × FieldType)) (ws : va_W) (A : Nat → Prop) : Unit → State → Prop := fun _ t => va_P D cl ws t.heap ∧ va_K D cl tys t ∧ va_D A ws
abbrev zQi (D : va_G) (cl : List vw_C) (tys : List (ClassId × FieldType)) (r0 : Int32) (ws : va_W) (A : Nat → Prop) := va_Qi (S := Unit) (fun r _ => r = r0) (zB D cl tys ws A) A
abbrev zQs (D : va_G) (cl : List vw_C) (tys : List (ClassId × FieldType)) (a0 : Nat) (ws : va_W) (A : Nat → Prop) := va_Qr (S := Unit) (fun _ => True) (fun _ x t => x = a0 ∧ va_P D cl ws t.heap ∧ va_K D cl tys t ∧ va_D A ws) A
abbrev zQv (D : va_G) (cl : List vw_C) (tys : List (ClassId × FieldType)) (ws : va_W) (A : Nat → Prop) := va_Qv (S := Unit) (fun _ => True) (zB D cl tys ws A) A
theorem zPre_blind {av : List Value} {ws : va_W} {sz : Nat} : FrameBlind (zPre D cl tys tt sd av ws sz) := fun a U g mk q => by
  obtain ⟨q0, q1, qP, qK, qD, qZ⟩ := q
  exact ⟨q0, q1, qP, va_K.moved (u := U) (U := U.calling g mk a) (Vm.Alike.refl U.vm) qK, qD, zZ_call qZ⟩
/-- what a call needs at its start -/
theorem zpS {ws wc : va_W} {As : List Value} (hP : va_P D cl ws H) (hD : va_D A ws) (hK : va_K D cl tys s) (hS : va_S A s.heap H locs) (hA : ∀ q, s.heap.size ≤ q → A q) (hZ : zZ tt sd A s s.heap) (isC : List Nat) (hn : va_nd isC = true) (hC : isC.map (fun i => ws[i]?) = wc.map some) : PreS s H (zPre D cl tys tt sd As wc H.size) As := by
  refine ⟨zPre_blind, fun U hU hW => ⟨rfl, by rw [hU], ?_, va_K.moved hW.alike hK, (hD.sub isC hn hC).weaken (fun _ _ _ _ => trivial), ?_⟩⟩
  · rw [hU]
    intro k q hq
    have h1 : (isC.map (fun i => ws[i]?))[k]? = some (some q) := by rw [hC, List.getElem?_map, hq]; rfl
    rw [List.getElem?_map] at h1
    cases hi : isC[k]? with
    | none => rw [hi] at h1; cases h1
    | some i => rw [hi] at h1; exact hP i q (Option.some.inj h1)
  · rw [hU]
    exact zZ_warm hW (zZ_narrow (zZ_kept hZ hS.2.1) (va_free hD hS hA isC hC))
theorem zpV {ws wc : va_W} {As : List Value} {b : Nat} (hP : va_P D cl ws H) (hD : va_D A ws) (hK : va_K D cl tys s) (hS : va_S A s.heap H locs) (hA : ∀ q, s.heap.size ≤ q → A q) (hZ : zZ tt sd A s s.heap) (isC : List Nat) (hn : va_nd isC = true) (hC : isC.map (fun i => ws[i]?) = wc.map some) (ci i0 : Nat) {q : vw_C} {fs : List Value} (hc : cl[ci]? = some q) (h0 : ws[i0]? = some (b, .inr (ci, fs))) : PreV s H q.1 b (zPre D cl tys tt sd (.ref b :: As) wc H.size) As := by
  obtain ⟨h1, h2⟩ := zpS (As := .ref b :: As) hP hD hK hS hA hZ isC hn hC
  exact ⟨h1, va_recv hK hP hc h0, h2⟩
theorem zpW {ws wc : va_W} {As : List Value} {i : Nat} (hP : va_P D cl ws H) (hD : va_D A ws) (hK : va_K D cl tys s) (hS : va_S A s.heap H locs) (hA : ∀ q, s.heap.size ≤ q → A q) (hZ : zZ tt sd A s s.heap) (isC : List Nat) (hn : va_nd isC = true) (hC : isC.map (fun i => ws[i]?) = wc.map some) (hi : i < 6) : PreV s H "java/lang/String" (sd i) (zPre D cl tys tt sd (.ref (sd i) :: As) wc H.size) As := by
  obtain ⟨h1, h2⟩ := zpS (As := .ref (sd i) :: As) hP hD hK hS hA hZ isC hn hC
  exact ⟨h1, vk_recv (zZ_KK hZ) hi hS, h2⟩
theorem zc_i {ws wc wr wc' ws' : va_W} {r0 : Int32} (hr : va_Run p l e R s m args below meth c H locs cells slots 0 0 (F0 m pc ls st0) rest (zQi D cl tys r0 wc' (va_A wc H.size) a) (va_A wc H.size))
    (hP : va_P D cl ws H) (hD : va_D A ws) (hS : va_S A s.heap H locs) (hA : ∀ q, s.heap.size ≤ q → A q) (isC isR isF : List Nat) (hC : isC.map (fun i => ws[i]?) = wc.map some) (hR : isR.map (fun i => ws[i]?) = wr.map some) (hn : va_nd isR = true) (hdis : ∀ i ∈ isR, i ∉ isC) (hF1 : isF.filterMap (fun i => (wr ++ wc')[i]?) = ws') (hF2 : va_nd isF = true) (hF3 : isF.map (fun i => (wr ++ wc')[i]?) = ws'.map some)
    (kk : ∀ (H1 : Heap) (locs1 : List Loc), va_P D cl ws' H1 → va_D A ws' → va_S A s.heap H1 locs1 → W p l e R s m args below meth c H1 locs1 cells slots Q (F0 m (pc + 3) ls (.int r0 :: rest))) : W p l e R s m args below meth c H locs cells slots Q (F0 m pc ls st0) := by
  have hFc := va_free hD hS hA isC hC
  refine va_calli hr hS (fun q _ h => hFc q h) hFc (fun r u t H1 locs1 ht hvm hw hB hz1 hk1 hS1 => ?_)
  obtain ⟨hP1, hK1, hD1⟩ := hB
  rw [ht] at hP1
  obtain ⟨hP2, hD2⟩ := va_join hP hD isC isR hC hR hn hdis hk1 hFc hP1 hD1
  rw [show r = r0 from hw]
  exact kk H1 locs1 (hP2.sub isF hF1) (hD2.sub isF hF2 hF3) hS1
theorem zc_v {ws wc wr wc' ws' : va_W} (hr : va_Run p l e R s m args below meth c H locs cells slots 0 0 (F0 m pc ls st0) rest (zQv D cl tys wc' (va_A wc H.size) a) (va_A wc H.size))
    (hP : va_P D cl ws H) (hD : va_D A ws) (hS : va_S A s.heap H locs) (hA : ∀ q, s.heap.size ≤ q → A q) (isC isR isF : List Nat) (hC : isC.map (fun i => ws[i]?) = wc.map some) (hR : isR.map (fun i => ws[i]?) = wr.map some) (hn : va_nd isR = true) (hdis : ∀ i ∈ isR, i ∉ isC) (hF1 : isF.filterMap (fun i => (wr ++ wc')[i]?) = ws') (hF2 : va_nd isF = true) (hF3 : isF.map (fun i => (wr ++ wc')[i]?) = ws'.map some)
    (kk : ∀ (H1 : Heap) (locs1 : List Loc), va_P D cl ws' H1 → va_D A ws' → va_S A s.heap H1 locs1 → W p l e R s m args below meth c H1 locs1 cells slots Q (F0 m (pc + 3) ls rest)) : W p l e R s m args below meth c H locs cells slots Q (F0 m pc ls st0) := by
  have hFc := va_free hD hS hA isC hC
  refine va_callv hr hS (fun q _ h => hFc q h) hFc (fun u t H1 locs1 ht hvm hw hB hz1 hk1 hS1 => ?_)
  obtain ⟨hP1, hK1, hD1⟩ := hB
  rw [ht] at hP1
  obtain ⟨hP2, hD2⟩ := va_join hP hD isC isR hC hR hn hdis hk1 hFc hP1 hD1
  exact kk H1 locs1 (hP2.sub isF hF1) (hD2.sub isF hF2 hF3) hS1
theorem zc_s {ws wc wr wc' ws' : va_W} {a0 : Nat} (hr : va_Run p l e R s m args below meth c H locs cells slots 0 0 (F0 m pc ls st0) rest (zQs D cl tys a0 wc' (va_A wc H.size) a) (va_A wc H.size))
    (hP : va_P D cl ws H) (hD : va_D A ws) (hS : va_S A s.heap H locs) (hA : ∀ q, s.heap.size ≤ q → A q) (isC isR isF : List Nat) (hC : isC.map (fun i => ws[i]?) = wc.map some) (hR : isR.map (fun i => ws[i]?) = wr.map some) (hn : va_nd isR = true) (hdis : ∀ i ∈ isR, i ∉ isC) (hF1 : isF.filterMap (fun i => (wr ++ wc')[i]?) = ws') (hF2 : va_nd isF = true) (hF3 : isF.map (fun i => (wr ++ wc')[i]?) = ws'.map some)
    (kk : ∀ (H1 : Heap) (locs1 : List Loc), va_P D cl ws' H1 → va_D A ws' → va_S A s.heap H1 locs1 → W p l e R s m args below meth c H1 locs1 cells slots Q (F0 m (pc + 3) ls (.ref a0 :: rest))) : W p l e R s m args below meth c H locs cells slots Q (F0 m pc ls st0) := by
  have hFc := va_free hD hS hA isC hC
  refine va_callr hr hS (fun q _ h => hFc q h) hFc (fun u ra t H1 locs1 ht hvm hw hB hz1 hk1 hS1 => ?_)
  obtain ⟨ha1, hP1, hK1, hD1⟩ := hB
  subst ha1
  rw [ht] at hP1
  obtain ⟨hP2, hD2⟩ := va_join hP hD isC isR hC hR hn hdis hk1 hFc hP1 hD1
  exact kk H1 locs1 (hP2.sub isF hF1) (hD2.sub isF hF2 hF3) hS1
/-- the goal's own words, to be said again at joins and loops -/
theorem zstart {g : JFrame} (K : ∀ WW : va_W → List (Nat × Value) → Nat → List Value → Prop, (∀ ws lv pc st, WW ws lv pc st ↔ ∀ (H : Heap) (locs : List Loc) (ls : Array Slot), va_P D cl ws H → va_D A ws → va_S A s.heap H locs → lv_has ls nL lv → W p l e R s m args below meth c H locs cells slots Q (F0 m pc ls st)) → W p l e R s m args below meth c H locs cells slots Q g) : W p l e R s m args below meth c H locs cells slots Q g := K _ (fun _ _ _ _ => Iff.rfl)
end

section
variable {p : Program} {l : Launch} {e : Env} {R : Room} {s : State} {m : MethodId} {args : Array Value} {below : List Frame} {meth : Method} {c : Code} {H : Heap} {locs : List Loc} {cells slots : Nat} {Q : State → Prop}
variable {pc : Nat} {ls : Array Slot} {rest st0 : List Value} {a : Array Value} {A : Nat → Prop} {D : va_G} {cl : List vw_C} {tys : List (ClassId × FieldType)}
abbrev zQn {S : Type} (D : va_G) (cl : List vw_C) (tys : List (ClassId × FieldType)) (B' : S → va_W) (A : Nat → Prop) := va_Qv (S := S) (fun _ => True) (fun u t => va_P D cl (B' u) t.heap ∧ va_K D cl tys t ∧ va_D A (B' u)) A
theorem zc_n {S : Type} {mc ms : Nat} {ws wc wr : va_W} {B' : S → va_W} (hr : va_Run p l e R s m args below meth c H locs cells slots mc ms (F0 m pc ls st0) rest (zQn D cl tys B' (va_A wc H.size) a) (va_A wc H.size))
    (hP : va_P D cl ws H) (hD : va_D A ws) (hS : va_S A s.heap H locs) (hA : ∀ q, s.heap.size ≤ q → A q) (isC isR : List Nat) (hC : isC.map (fun i => ws[i]?) = wc.map some) (hR : isR.map (fun i => ws[i]?) = wr.map some) (hn : va_nd isR = true) (hdis : ∀ i ∈ isR, i ∉ isC)
    (kk : ∀ (u : S) (H1 : Heap) (locs1 : List Loc), va_P D cl (wr ++ B' u) H1 → va_D A (wr ++ B' u) → va_S A s.heap H1 locs1 → W p l e R s m args below meth c H1 locs1 (cells + mc) (slots + ms) Q (F0 m (pc + 3) ls rest)) : W p l e R s m args below meth c H locs cells slots Q (F0 m pc ls st0) := by
  have hFc := va_free hD hS hA isC hC
  refine va_callv hr hS (fun q _ h => hFc q h) hFc (fun u t H1 locs1 ht hvm hw hB hz1 hk1 hS1 => ?_)
  obtain ⟨hP1, hK1, hD1⟩ := hB
  rw [ht] at hP1
  obtain ⟨hP2, hD2⟩ := va_join hP hD isC isR hC hR hn hdis hk1 hFc hP1 hD1
  exact kk u H1 locs1 hP2 hD2 hS1
theorem zc_newa {cc : ByteArray} {ws : va_W} {cI cZ : ClassId} (hexec : p.tables.exec = Jvm.exec) (hb : c.code = cc) (harr : (Cond.arrayClass .int).before args s = true) (hK : va_K D cl [(cI, .int), (cZ, .boolean)] s) (hP : va_P D cl ws H) (hD : va_D A ws) (hS : va_S A s.heap H locs) (hA : ∀ q, s.heap.size ≤ q → A q)
    {n : Int32} {N : Nat} (hn : ¬ n < 0) (hN : n.toNatClampNeg = N) (hbytes : N * 4 ≤ 536870912) (hcells : cells + 1 ≤ R.cells) (hslots : slots + N ≤ R.slots) (hdg : decode cc pc = .ok (.newarray .int, 2))
    (kk : ∀ (q : Nat) (H1 : Heap), va_P D cl (ws ++ [(q, .inl (cI, N, .inl (fun _ => 0)))]) H1 → va_D A (ws ++ [(q, .inl (cI, N, .inl (fun _ => 0)))]) → va_S A s.heap H1 locs →
      W p l e R s m args below meth c H1 locs (cells + 1) (slots + N) Q (F0 m (pc + 2) ls (.ref q :: rest))) : W p l e R s m args below meth c H locs cells slots Q (F0 m pc ls (.int n :: rest)) := by
  refine va_newa (atype := .int) (ty := .int) (a0 := (N, .inl (fun _ => 0))) hexec hb harr rfl hK hP hD hS hA (fun cA => rfl) hn hN hbytes hcells hslots hdg (fun q cA H1 hK1 hP1 hD1 hS1 => ?_)
  have e1 := (hK1.2 0 (cI, .int) rfl).2
  have e2 := (hK1.2 2 (cA, .int) rfl).2
  have e3 : cI = cA := Option.some.inj (Eq.trans (Eq.symm e1) e2)
  subst e3
  exact kk q H1 hP1 hD1 hS1
theorem zc_newz {cc : ByteArray} {ws : va_W} {cI cZ : ClassId} (hexec : p.tables.exec = Jvm.exec) (hb : c.code = cc) (harr : (Cond.arrayClass .boolean).before args s = true) (hK : va_K D cl [(cI, .int), (cZ, .boolean)] s) (hP : va_P D cl ws H) (hD : va_D A ws) (hS : va_S A s.heap H locs) (hA : ∀ q, s.heap.size ≤ q → A q)
    {n : Int32} {N : Nat} (hn : ¬ n < 0) (hN : n.toNatClampNeg = N) (hbytes : N * 1 ≤ 536870912) (hcells : cells + 1 ≤ R.cells) (hslots : slots + N ≤ R.slots) (hdg : decode cc pc = .ok (.newarray .boolean, 2))
    (kk : ∀ (q : Nat) (H1 : Heap), va_P D cl (ws ++ [(q, .inl (cZ, N, .inl (fun _ => 0)))]) H1 → va_D A (ws ++ [(q, .inl (cZ, N, .inl (fun _ => 0)))]) → va_S A s.heap H1 locs →
      W p l e R s m args below meth c H1 locs (cells + 1) (slots + N) Q (F0 m (pc + 2) ls (.ref q :: rest))) : W p l e R s m args below meth c H locs cells slots Q (F0 m pc ls (.int n :: rest)) := by
  refine va_newa (atype := .boolean) (ty := .boolean) (a0 := (N, .inl (fun _ => 0))) hexec hb harr rfl hK hP hD hS hA (fun cA => rfl) hn hN hbytes hcells hslots hdg (fun q cA H1 hK1 hP1 hD1 hS1 => ?_)
  have e1 := (hK1.2 1 (cZ, .boolean) rfl).2
  have e2 := (hK1.2 2 (cA, .boolean) rfl).2
  have e3 : cZ = cA := Option.some.inj (Eq.trans (Eq.symm e1) e2)
  subst e3
  exact kk q H1 hP1 hD1 hS1
end
