set_option maxHeartbeats 4000000 in
set_option maxRecDepth 100000 in
theorem zK_start {b : Nat} {s : State} (hts0 : ∀ w ∈ lw_tbl, w.before #[Value.ref b] s = true) : ∃ (dC : Nat → ClassId) (dI : Nat → Nat → Nat) (cI cZ : ClassId), va_K (dC, dI) vwCl [(cI, .int), (cZ, .boolean)] s := by
  have hts := fun w h => hts0 w (wsL_law_in w h)
  obtain ⟨c0, i0, h0⟩ := u_known (C := RX0) (T := TX0) (N := 2) (n := 2) hts inlX0 (hts (.instantiable RX0 2) (by decide +kernel))
  obtain ⟨c1, i1, h1⟩ := u_known (C := RX1) (T := TX1) (N := 1) (n := 1) hts inlX1 (hts (.instantiable RX1 1) (by decide +kernel))
  obtain ⟨c2, i2, h2⟩ := u_known (C := RX2) (T := TX2) (N := 4) (n := 4) hts inlX2 (hts (.instantiable RX2 4) (by decide +kernel))
  obtain ⟨c3, i3, h3⟩ := u_known (C := RX3) (T := TX3) (N := 9) (n := 9) hts inlX3 (hts (.instantiable RX3 9) (by decide +kernel))
  obtain ⟨c4, i4, h4⟩ := u_known (C := RX4) (T := TX4) (N := 9) (n := 9) hts inlX4 (hts (.instantiable RX4 9) (by decide +kernel))
  obtain ⟨c5, i5, h5⟩ := u_known (C := RX5) (T := TX5) (N := 4) (n := 4) hts inlX5 (hts (.instantiable RX5 4) (by decide +kernel))
  obtain ⟨c6, i6, h6⟩ := u_known (C := RX6) (T := TX6) (N := 4) (n := 4) hts inlX6 (hts (.instantiable RX6 4) (by decide +kernel))
  obtain ⟨c7, i7, h7⟩ := u_known (C := RX7) (T := TX7) (N := 14) (n := 14) hts inlX7 (hts (.instantiable RX7 14) (by decide +kernel))
  obtain ⟨c8, i8, h8⟩ := u_known (C := RX8) (T := TX8) (N := 19) (n := 19) hts inlX8 (hts (.instantiable RX8 19) (by decide +kernel))
  obtain ⟨dC, dI, hKc⟩ : ∃ (dC : Nat → ClassId) (dI : Nat → Nat → Nat), ∀ (k : Nat) (q : vw_C), vwCl[k]? = some q → u_Kn s q.1 q.2.1 q.2.2 (dC k) (dI k) := by
    refine ⟨fun k => if k = 0 then c0 else if k = 1 then c1 else if k = 2 then c2 else if k = 3 then c3 else if k = 4 then c4 else if k = 5 then c5 else if k = 6 then c6 else if k = 7 then c7 else c8, fun k => if k = 0 then i0 else if k = 1 then i1 else if k = 2 then i2 else if k = 3 then i3 else if k = 4 then i4 else if k = 5 then i5 else if k = 6 then i6 else if k = 7 then i7 else i8, ?_⟩
    intro k q hq
    match k, hq with
    | 0, hq => cases hq; exact h0
    | 1, hq => cases hq; exact h1
    | 2, hq => cases hq; exact h2
    | 3, hq => cases hq; exact h3
    | 4, hq => cases hq; exact h4
    | 5, hq => cases hq; exact h5
    | 6, hq => cases hq; exact h6
    | 7, hq => cases hq; exact h7
    | 8, hq => cases hq; exact h8
    | k + 9, hq => simp [vwCl] at hq
  obtain ⟨cI, kI, pI, a1, a2, a3⟩ := Cond.arrayClass_spec (hts0 (.arrayClass .int) (by decide +kernel))
  obtain ⟨cZ, kZ, pZ, b1, b2, b3⟩ := Cond.arrayClass_spec (hts0 (.arrayClass .boolean) (by decide +kernel))
  refine ⟨dC, dI, cI, cZ, hKc, fun k q h => ?_⟩
  match k, h with
  | 0, h => cases h; exact ⟨fun n z => ⟨fun k h => (by cases h), kI, a2, pI, a3⟩, a1⟩
  | 1, h => cases h; exact ⟨fun n z => ⟨fun k h => (by cases h), kZ, b2, pZ, b3⟩, b1⟩
  | k + 2, h => simp at h
theorem zsd_S {adK adV : Nat → Nat} {A : Nat → Prop} {U : State} {H : Heap} (h : vk_S 6 zSlen zSbyt adK adV A U H) : vk_S 6 zSlen zSbyt (fun n => if n < 1000 then adK n else adV (n - 1000)) (fun i => (fun n => if n < 1000 then adK n else adV (n - 1000)) (1000 + i)) A U H := by
  have e1 : ∀ i, i < 6 → (if i < 1000 then adK i else adV (i - 1000)) = adK i := fun i h => if_pos (by omega)
  have e2 : ∀ i, (if 1000 + i < 1000 then adK (1000 + i) else adV (1000 + i - 1000)) = adV i := fun i => by rw [if_neg (by omega), Nat.add_sub_cancel_left]
  refine ⟨fun i hi => ?_, fun i j hi hj q => ?_⟩
  · have h1 := h.1 i hi
    show va_O "java/lang/String" (if i < 1000 then adK i else adV (i - 1000)) A U H ∧ va_OF "java/lang/String" "coder" "B" (.int 0) (if i < 1000 then adK i else adV (i - 1000)) A U H ∧ va_OF "java/lang/String" "value" "[B" (.ref (if 1000 + i < 1000 then adK (1000 + i) else adV (1000 + i - 1000))) (if i < 1000 then adK i else adV (i - 1000)) A U H ∧ va_T .byte (if 1000 + i < 1000 then adK (1000 + i) else adV (1000 + i - 1000)) (zSlen.getD i 0) (fun j => .int ((zSbyt.getD i []).getD j 0)) A U H
    rw [e1 i hi, e2 i]
    exact h1
  · have q1 : (if i < 1000 then adK i else adV (i - 1000)) = (if j < 1000 then adK j else adV (j - 1000)) := q
    rw [e1 i hi, e1 j hj] at q1
    exact h.2 i j hi hj q1
def zSix : List Nat := [49, 51, 53, 55, 57, 71]
abbrev zStm (i : Nat) : Term := .string "LawOfCorners$Letters" (zSix.getD i 0)
abbrev zGv : Cond := Jvm.Cond.and given_1 narrow_1
set_option maxHeartbeats 4000000 in
set_option maxRecDepth 100000 in
theorem zT0_start {b : Nat} {s : State} {A : Nat → Prop} (hgv : zGv.before #[Value.ref b] s = true) (hAn : ∀ a : Nat, a < s.heap.size → ¬ A a) : ∃ t : Nat, (Term.static "LawOfCorners" "KIND_CAN_BE" "[I").eval #[Value.ref b] s none [] s = some (.ref t) ∧ va_T .int t 6 (fun j => .int (T_KIND_CAN_BE j)) A s s.heap := by
  have hg := flat_of_before _ hgv
  have hm : ∀ j, j < 6 → Cond.eq (.elem (.static "LawOfCorners" "KIND_CAN_BE" "[I") (.int (Int32.ofNat j))) (.int (T_KIND_CAN_BE j)) ∈ flatC zGv := by decide +kernel
  exact va_Tof (f := fun j => .int (T_KIND_CAN_BE j)) (by decide) (hg (.arrayOf (.static "LawOfCorners" "KIND_CAN_BE" "[I") .int) (by decide +kernel)) (va_eqt (z := Int32.ofNat 6) (hg (.eq (.length (.static "LawOfCorners" "KIND_CAN_BE" "[I")) (.int (Int32.ofNat 6))) (by decide +kernel))) (fun j hj => va_eqt (hg _ (hm j hj))) hAn
set_option maxHeartbeats 4000000 in
set_option maxRecDepth 100000 in
theorem zT1_start {b : Nat} {s : State} {A : Nat → Prop} (hgv : zGv.before #[Value.ref b] s = true) (hAn : ∀ a : Nat, a < s.heap.size → ¬ A a) : ∃ t : Nat, (Term.static "LawOfCorners" "KIND_WORDS" "[I").eval #[Value.ref b] s none [] s = some (.ref t) ∧ va_T .int t 6 (fun j => .int (T_KIND_WORDS j)) A s s.heap := by
  have hg := flat_of_before _ hgv
  have hm : ∀ j, j < 6 → Cond.eq (.elem (.static "LawOfCorners" "KIND_WORDS" "[I") (.int (Int32.ofNat j))) (.int (T_KIND_WORDS j)) ∈ flatC zGv := by decide +kernel
  exact va_Tof (f := fun j => .int (T_KIND_WORDS j)) (by decide) (hg (.arrayOf (.static "LawOfCorners" "KIND_WORDS" "[I") .int) (by decide +kernel)) (va_eqt (z := Int32.ofNat 6) (hg (.eq (.length (.static "LawOfCorners" "KIND_WORDS" "[I")) (.int (Int32.ofNat 6))) (by decide +kernel))) (fun j hj => va_eqt (hg _ (hm j hj))) hAn
set_option maxHeartbeats 4000000 in
set_option maxRecDepth 100000 in
theorem zT2_start {b : Nat} {s : State} {A : Nat → Prop} (hgv : zGv.before #[Value.ref b] s = true) (hAn : ∀ a : Nat, a < s.heap.size → ¬ A a) : ∃ t : Nat, (Term.static "LawOfCorners" "KIND_HEARS" "[I").eval #[Value.ref b] s none [] s = some (.ref t) ∧ va_T .int t 6 (fun j => .int (T_KIND_HEARS j)) A s s.heap := by
  have hg := flat_of_before _ hgv
  have hm : ∀ j, j < 6 → Cond.eq (.elem (.static "LawOfCorners" "KIND_HEARS" "[I") (.int (Int32.ofNat j))) (.int (T_KIND_HEARS j)) ∈ flatC zGv := by decide +kernel
  exact va_Tof (f := fun j => .int (T_KIND_HEARS j)) (by decide) (hg (.arrayOf (.static "LawOfCorners" "KIND_HEARS" "[I") .int) (by decide +kernel)) (va_eqt (z := Int32.ofNat 6) (hg (.eq (.length (.static "LawOfCorners" "KIND_HEARS" "[I")) (.int (Int32.ofNat 6))) (by decide +kernel))) (fun j hj => va_eqt (hg _ (hm j hj))) hAn
set_option maxHeartbeats 4000000 in
set_option maxRecDepth 100000 in
theorem zT3_start {b : Nat} {s : State} {A : Nat → Prop} (hgv : zGv.before #[Value.ref b] s = true) (hAn : ∀ a : Nat, a < s.heap.size → ¬ A a) : ∃ t : Nat, (Term.static "LawOfCorners" "KIND_CORNER" "[I").eval #[Value.ref b] s none [] s = some (.ref t) ∧ va_T .int t 6 (fun j => .int (T_KIND_CORNER j)) A s s.heap := by
  have hg := flat_of_before _ hgv
  have hm : ∀ j, j < 6 → Cond.eq (.elem (.static "LawOfCorners" "KIND_CORNER" "[I") (.int (Int32.ofNat j))) (.int (T_KIND_CORNER j)) ∈ flatC zGv := by decide +kernel
  exact va_Tof (f := fun j => .int (T_KIND_CORNER j)) (by decide) (hg (.arrayOf (.static "LawOfCorners" "KIND_CORNER" "[I") .int) (by decide +kernel)) (va_eqt (z := Int32.ofNat 6) (hg (.eq (.length (.static "LawOfCorners" "KIND_CORNER" "[I")) (.int (Int32.ofNat 6))) (by decide +kernel))) (fun j hj => va_eqt (hg _ (hm j hj))) hAn
set_option maxHeartbeats 4000000 in
set_option maxRecDepth 100000 in
theorem zS_start {b : Nat} {s : State} {A : Nat → Prop} (hgv : zGv.before #[Value.ref b] s = true) (hAn : ∀ a : Nat, a < s.heap.size → ¬ A a) : ∃ adK adV : Nat → Nat, vk_S 6 zSlen zSbyt adK adV A s s.heap ∧ ∀ i : Nat, i < 6 → (zStm i).eval #[Value.ref b] s none [] s = some (.ref (adK i)) := by
  have hg := flat_of_before _ hgv
  have h1 : ∀ i, i < 6 → Cond.exactly (zStm i) "java/lang/String" ∈ flatC zGv := by decide +kernel
  have h2 : ∀ i, i < 6 → Cond.eq (.field (zStm i) "java/lang/String" "coder" "B") (.int 0) ∈ flatC zGv := by decide +kernel
  have h3 : ∀ i, i < 6 → Cond.arrayOf (.field (zStm i) "java/lang/String" "value" "[B") .byte ∈ flatC zGv := by decide +kernel
  have h4 : ∀ i, i < 6 → Cond.eq (.length (.field (zStm i) "java/lang/String" "value" "[B")) (.int (Int32.ofNat (zSlen.getD i 0))) ∈ flatC zGv := by decide +kernel
  have h5 : ∀ i, i < 6 → ∀ j, j < zSlen.getD i 0 → Cond.eq (.elem (.field (zStm i) "java/lang/String" "value" "[B") (.int (Int32.ofNat j))) (.int ((zSbyt.getD i []).getD j 0)) ∈ flatC zGv := by decide +kernel
  have h6 : ∀ i, i < 6 → ∀ j, j < 6 → i ≠ j → Cond.not (Cond.eq (zStm i) (zStm j)) ∈ flatC zGv ∨ Cond.not (Cond.eq (zStm j) (zStm i)) ∈ flatC zGv := by decide +kernel
  exact vk_Sof (tm := zStm) (by decide) (fun i hi => hg _ (h1 i hi)) (fun i hi => hg _ (h2 i hi)) (fun i hi => hg _ (h3 i hi)) (fun i hi => hg _ (h4 i hi)) (fun i hi j hj => hg _ (h5 i hi j hj)) (fun i j hi hj hij => (h6 i hi j hj hij).imp (fun h => hg _ h) (fun h => hg _ h)) hAn
set_option maxHeartbeats 4000000 in
set_option maxRecDepth 100000 in
theorem zZ_start {b : Nat} {s : State} {A : Nat → Prop} (hts0 : ∀ w ∈ lw_tbl, w.before #[Value.ref b] s = true) (hgv : zGv.before #[Value.ref b] s = true) (hAn : ∀ a : Nat, a < s.heap.size → ¬ A a) : ∃ tt sd : Nat → Nat, zZ tt sd A s s.heap := by
  have hg := flat_of_before _ hgv
  obtain ⟨t0, e0, T0⟩ := zT0_start hgv hAn
  obtain ⟨t1, e1, T1⟩ := zT1_start hgv hAn
  obtain ⟨t2, e2, T2⟩ := zT2_start hgv hAn
  obtain ⟨t3, e3, T3⟩ := zT3_start hgv hAn
  obtain ⟨adK, adV, hSS, hSe⟩ := zS_start hgv hAn
  obtain ⟨fq, fr, hF⟩ : ∃ fq fr : Nat, va_Z "jdk/internal/util/Preconditions" "SIOOBE_FORMATTER" "Ljava/util/function/BiFunction;" (if fq = 0 then .null else .ref fr) A s s.heap := by
    rcases va_Zqof (C := "jdk/internal/util/Preconditions") (n := "SIOOBE_FORMATTER") (d := "Ljava/util/function/BiFunction;") (hts0 (.laysStatic "jdk/internal/util/Preconditions" "SIOOBE_FORMATTER" "Ljava/util/function/BiFunction;") (by decide +kernel)) (hts0 (.initialized "jdk/internal/util/Preconditions") (by decide +kernel)) (hg (.isRef (.static "jdk/internal/util/Preconditions" "SIOOBE_FORMATTER" "Ljava/util/function/BiFunction;")) (by decide +kernel)) hAn with h | ⟨t, h⟩
    · exact ⟨0, 0, h⟩
    · exact ⟨1, t, h⟩
  refine ⟨fun n => if n = 0 then t0 else if n = 1 then t1 else if n = 2 then t2 else if n = 3 then t3 else if n = 98 then fr else if n = 99 then fq else 0, fun n => if n < 1000 then adK n else adV (n - 1000), ?_⟩
  exact ⟨va_Zref (hts0 (.laysStatic "LawOfCorners" "KIND_CAN_BE" "[I") (by decide +kernel)) (hts0 (.initialized "LawOfCorners") (by decide +kernel)) e0 hAn,
    T0,
    va_Zref (hts0 (.laysStatic "LawOfCorners" "KIND_WORDS" "[I") (by decide +kernel)) (hts0 (.initialized "LawOfCorners") (by decide +kernel)) e1 hAn,
    T1,
    va_Zref (hts0 (.laysStatic "LawOfCorners" "KIND_HEARS" "[I") (by decide +kernel)) (hts0 (.initialized "LawOfCorners") (by decide +kernel)) e2 hAn,
    T2,
    va_Zref (hts0 (.laysStatic "LawOfCorners" "KIND_CORNER" "[I") (by decide +kernel)) (hts0 (.initialized "LawOfCorners") (by decide +kernel)) e3 hAn,
    T3,
    va_Nw.of rfl (hts0 (.methodLinkNest RX6 38 yX7_isSquare "LawOfCorners") (by decide +kernel)),
    va_Nw.of rfl (hts0 (.methodLinkNest RX7 11 yX6_init "LawOfCorners") (by decide +kernel)),
    va_Nw.of rfl (hts0 (.methodLinkNest RX7 24 yX0_init "LawOfCorners") (by decide +kernel)),
    va_Nw.of rfl (hts0 (.fieldLinkNest RX6 41 "LawOfCorners" "KIND_CAN_BE" "[I" "LawOfCorners") (by decide +kernel)),
    va_Nw.of rfl (hts0 (.fieldLinkNest RX6 57 "LawOfCorners" "KIND_WORDS" "[I" "LawOfCorners") (by decide +kernel)),
    va_Nw.of rfl (hts0 (.fieldLinkNest RX6 60 "LawOfCorners" "KIND_HEARS" "[I" "LawOfCorners") (by decide +kernel)),
    va_Nw.of rfl (hts0 (.fieldLinkNest RX6 63 "LawOfCorners" "KIND_CORNER" "[I" "LawOfCorners") (by decide +kernel)),
    vk_R.of (hts0 (.stringRef RX0 49 "KDD;") (by decide +kernel)) (hSe 0 (by decide)),
    vk_R.of (hts0 (.stringRef RX0 51 "KDDDD;") (by decide +kernel)) (hSe 1 (by decide)),
    vk_R.of (hts0 (.stringRef RX0 53 "DD;") (by decide +kernel)) (hSe 2 (by decide)),
    vk_R.of (hts0 (.stringRef RX0 55 "D;") (by decide +kernel)) (hSe 3 (by decide)),
    vk_R.of (hts0 (.stringRef RX0 57 "") (by decide +kernel)) (hSe 4 (by decide)),
    vk_R.of (hts0 (.stringRef RX0 71 "swcntm") (by decide +kernel)) (hSe 5 (by decide)),
    zsd_S hSS,
    va_Zof (hts0 (.laysStatic "java/lang/String" "COMPACT_STRINGS" "Z") (by decide +kernel)) (hts0 (.initialized "java/lang/String") (by decide +kernel)) (va_eqt (z := 1) (hg (.eq (.static "java/lang/String" "COMPACT_STRINGS" "Z") (.int 1)) (by decide +kernel))) hAn,
    hF,
    trivial⟩
