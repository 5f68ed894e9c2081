-- own text: enough
def zBt (m : Nat) : Int := cnt (fun i => m / 2 ^ i % 2 = 1) 8
theorem zbt_full : ∀ k, k < 9 → ∀ m, m < 256 → m < 2 ^ k - 1 → zBt m < zBt (2 ^ k - 1) := by decide +kernel
theorem zbt_bc : ∀ m, m < 256 → g_Integer_bitCount ((m : Nat) : Int) = some (zBt m) := by decide +kernel
theorem zbt_bit : ∀ m, m < 256 → ∀ i, i < 8 → zandI (zshrI ((m : Nat) : Int) ((i : Nat) : Int)) 1 = ((m / 2 ^ i % 2 : Nat) : Int) := by decide +kernel
theorem zbt_shl : ∀ k, k < 9 → zshlI ((2 ^ k : Nat) : Int) 1 = ((2 ^ (k + 1) : Nat) : Int) := by decide +kernel
theorem zbt_one : ∀ k, k < 9 → zshlI 1 ((k : Nat) : Int) = ((2 ^ k : Nat) : Int) := by decide +kernel
theorem zbt_or : ∀ t, t < 8 → ∀ x, x < 128 → x < 2 ^ t → zorI ((x : Nat) : Int) ((2 ^ t : Nat) : Int) = ((x + 2 ^ t : Nat) : Int) := by decide +kernel
theorem zbt_and : ∀ x, x < 256 → ∀ m, m < 256 → zandI ((x : Nat) : Int) ((m : Nat) : Int) = ((x &&& m : Nat) : Int) := by decide +kernel
theorem zbt_add : ∀ t, t < 8 → ∀ x, x < 2 ^ t → ∀ m, m < 256 → ((x + 2 ^ t) &&& m = 0 ↔ (x &&& m = 0 ∧ m / 2 ^ t % 2 = 0)) := by decide +kernel
theorem zbt_rng (m : Nat) : 0 ≤ zBt m ∧ zBt m ≤ 8 := cnt_rng _ 8
theorem e_M_bits {m : Nat} (h : m < 256) : g_M_bits (m : Int) = some (zBt m) := by
  refine ev_is ?_
  unfold g_M_bits
  refine ev_f2_2 8 (by decide) (fun i v => v = cnt (fun i => m / 2 ^ i % 2 = 1) i) (fun i v ag hi hQ hag => ?_) rfl
  refine ev_g (by omega) (ev_if (fun c => ev_some ?_) (fun c => ev_n (ev_n (hag _ (by omega) ?_))))
  · have i8 : i = 8 := by omega
    subst i8
    exact hQ
  · rw [zbt_bit m h i (by omega), cnt_s, hQ]
    have := Nat.mod_two_eq_zero_or_one (m / 2 ^ i)
    rcases this with e | e
    · rw [if_neg (by omega), e]; rfl
    · rw [if_pos e, e]; rfl
def zNm (K : Nat → Int) : Nat → Nat
  | 0 => 0
  | i + 1 => zNm K i + if 0 ≤ zhr (K i) then 1 else 0
theorem zNm_c (K : Nat → Int) : ∀ i, ((zNm K i : Nat) : Int) = cnt (fun u => 0 ≤ zhr (K u)) i
  | 0 => rfl
  | i + 1 => by
    rw [cnt_s, ← zNm_c K i]
    show ((zNm K i + if 0 ≤ zhr (K i) then 1 else 0 : Nat) : Int) = _
    by_cases c : 0 ≤ zhr (K i)
    · rw [if_pos c, if_pos c]; omega
    · rw [if_neg c, if_neg c]; omega
theorem zNm_le (K : Nat → Int) (i : Nat) : ∀ d, zNm K i ≤ zNm K (i + d)
  | 0 => Nat.le_refl _
  | d + 1 => Nat.le_trans (zNm_le K i d) (by show zNm K (i + d) ≤ zNm K (i + d) + if 0 ≤ zhr (K (i + d)) then 1 else 0; omega)
theorem zNm_s {K : Nat → Int} {i : Nat} (c : 0 ≤ zhr (K i)) : zNm K (i + 1) = zNm K i + 1 := by
  show zNm K i + (if 0 ≤ zhr (K i) then 1 else 0) = _
  rw [if_pos c]
theorem zNm_7 {K : Nat → Int} (h : zNm K 36 ≤ 8) {i : Nat} (hi : i < 36) (c : 0 ≤ zhr (K i)) : zNm K i < 8 := by
  have a := zNm_le K (i + 1) (35 - i)
  rw [show i + 1 + (35 - i) = 36 by omega] at a
  have b := zNm_s c
  omega
theorem zNm_8 {K : Nat → Int} (h : zNm K 36 ≤ 8) {i : Nat} (hi : i ≤ 36) : zNm K i ≤ 8 := by
  have a := zNm_le K i (36 - i)
  rw [show i + (36 - i) = 36 by omega] at a
  omega
abbrev zEar (K : Nat → Int) (u q : Nat) : Prop := zap u q ≤ zhr (K u)
theorem zEar_i {K : Nat → Int} {u q : Nat} (hu : u < 36) (hq : q < 36) (h : zEar K u q) : 0 ≤ zhr (K u) := by
  have := zap_rng hu hq
  omega
def zMk (K : Nat → Int) (q : Nat) : Nat → Nat
  | 0 => 0
  | i + 1 => if zEar K i q then zMk K q i + 2 ^ zNm K i else zMk K q i
theorem zMk_lt {K : Nat → Int} {q : Nat} (hq : q < 36) : ∀ i, i ≤ 36 → zMk K q i < 2 ^ zNm K i
  | 0, _ => by show 0 < 2 ^ 0; decide
  | i + 1, hi => by
    have ih := zMk_lt (K := K) hq i (by omega)
    have m := zNm_le K i 1
    show (if zEar K i q then zMk K q i + 2 ^ zNm K i else zMk K q i) < 2 ^ zNm K (i + 1)
    by_cases c : zEar K i q
    · rw [if_pos c, zNm_s (zEar_i (by omega) hq c), Nat.pow_succ]; omega
    · rw [if_neg c]
      exact Nat.lt_of_lt_of_le ih (Nat.pow_le_pow_right (by decide) m)
theorem zMk_and {K : Nat → Int} {q : Nat} (hq : q < 36) (h : zNm K 36 ≤ 8) {m : Nat} (hm : m < 256) : ∀ i, i ≤ 36 → (zMk K q i &&& m = 0 ↔ ∀ u, u < i → ¬ (zEar K u q ∧ m / 2 ^ zNm K u % 2 = 1))
  | 0, _ => ⟨fun _ u hu => absurd hu (Nat.not_lt_zero u), fun _ => by show 0 &&& m = 0; exact Nat.zero_and m⟩
  | i + 1, hi => by
    have ih := zMk_and (K := K) hq h hm i (by omega)
    have lt := zMk_lt (K := K) hq i (by omega)
    show ((if zEar K i q then zMk K q i + 2 ^ zNm K i else zMk K q i) &&& m = 0 ↔ _)
    by_cases c : zEar K i q
    · rw [if_pos c, zbt_add _ (zNm_7 h (by omega) (zEar_i (by omega) hq c)) _ lt m hm, ih]
      constructor
      · intro x u hu y
        by_cases e : u = i
        · subst e; have := x.2; have := y.2; omega
        · exact x.1 u (by omega) y
      · intro x
        refine ⟨fun u hu => x u (by omega), ?_⟩
        have y := x i (by omega)
        have := Nat.mod_two_eq_zero_or_one (m / 2 ^ zNm K i)
        rcases this with e | e
        · exact e
        · exact absurd ⟨c, e⟩ y
    · rw [if_neg c, ih]
      constructor
      · intro x u hu y
        by_cases e : u = i
        · subst e; exact c y.1
        · exact x u (by omega) y
      · exact fun x u hu => x u (by omega)
theorem zMk_0 {K : Nat → Int} {q : Nat} : ∀ i, (zMk K q i = 0 ↔ ∀ u, u < i → ¬ zEar K u q)
  | 0 => ⟨fun _ u hu => absurd hu (Nat.not_lt_zero u), fun _ => rfl⟩
  | i + 1 => by
    have ih := zMk_0 (K := K) (q := q) i
    have p : 0 < 2 ^ zNm K i := Nat.two_pow_pos _
    show ((if zEar K i q then zMk K q i + 2 ^ zNm K i else zMk K q i) = 0 ↔ _)
    by_cases c : zEar K i q
    · rw [if_pos c]
      exact ⟨fun x => by omega, fun x => absurd c (x i (by omega))⟩
    · rw [if_neg c, ih]
      constructor
      · intro x u hu y
        by_cases e : u = i
        · subst e; exact c y
        · exact x u (by omega) y
      · exact fun x u hu => x u (by omega)
abbrev zHq (K : Nat → Int) (m q : Nat) : Prop := (∀ u, u < 36 → ¬ zEar K u q) ∨ ∃ u, u < 36 ∧ zEar K u q ∧ m / 2 ^ zNm K u % 2 = 1
abbrev zHa (K : Nat → Int) (m : Nat) : Prop := ∀ q, q < 36 → zHq K m q
theorem e_hears {K : Nat → Int} (hK : zK K) {u q : Nat} (hu : u < 36) (hq : q < 36) : g_Town_hears K (u : Int) (q : Int) = some (if zEar K u q then 1 else 0) := by
  have a := zap_rng hu hq
  have b := zhr_rng (K u)
  refine ev_is ?_
  unfold g_Town_hears
  refine ev_c1 (e_apart hu hq) (ev_c1 (e_hearing hK hu) (ev_g (by omega) (ev_g (by omega) (ev_if (fun c => ev_some ?_) (fun c => ev_some ?_)))))
  · rw [if_neg (fun x => by have x : zap u q ≤ zhr (K u) := x; omega)]
  · rw [if_pos (show zap u q ≤ zhr (K u) by omega)]
theorem e_note {K : Nat → Int} (hK : zK K) (hh : Nat → Int) (h8 : zNm K 36 ≤ 8) : ev (g_X_noteHearers hh K) (fun r => r.1 = ((2 ^ zNm K 36 - 1 : Nat) : Int) ∧ ∀ q, q < 36 → r.2 q = ((zMk K q 36 : Nat) : Int)) := by
  unfold g_X_noteHearers
  refine ev_b1 (e_fill (by decide) hh 0) (fun h1 e1 => ?_)
  refine ev_j2 (fun b x => b = ((2 ^ zNm K 36 : Nat) : Int) ∧ ∀ q, q < 36 → x q = ((zMk K q 36 : Nat) : Int)) (fun b x hx => ev_some ⟨?_, hx.2⟩) (fun k2 hk => ?_)
  · have p : 0 < 2 ^ zNm K 36 := Nat.two_pow_pos _
    show b - 1 = _
    rw [hx.1]; omega
  refine ev_f3_2 36 (by decide) (fun i b x => b = ((2 ^ zNm K i : Nat) : Int) ∧ ∀ q, q < 36 → x q = ((zMk K q i : Nat) : Int)) (fun i b x ag hi hQ hag => ?_) ⟨rfl, fun q hq => e1 q hq⟩
  obtain ⟨rfl, q2⟩ := hQ
  refine ev_g (by omega) (ev_if (fun c => hk _ _ ?_) (fun c => ?_))
  · have i36 : i = 36 := by omega
    subst i36
    exact ⟨rfl, q2⟩
  have hl : i < 36 := by omega
  have b := zhr_rng (K i)
  refine ev_c1 (e_hearing hK hl) ?_
  refine ev_j2 (fun b x => b = ((2 ^ zNm K (i + 1) : Nat) : Int) ∧ ∀ q, q < 36 → x q = ((zMk K q (i + 1) : Nat) : Int)) (fun b x h => ev_n (hag _ _ hl h)) (fun k3 hk3 => ?_)
  refine ev_g (by omega) (ev_if (fun c2 => ?_) (fun c2 => hk3 _ _ ⟨?_, fun q hq => ?_⟩))
  · have n7 := zNm_7 h8 hl c2
    refine ev_j1 (fun x => ∀ q, q < 36 → x q = ((zMk K q (i + 1) : Nat) : Int)) (fun x hx => ev_n (hk3 _ _ ⟨?_, hx⟩)) (fun k4 hk4 => ?_)
    · rw [zbt_shl _ (by omega), zNm_s c2]
    refine ev_f2_1 36 (by decide) (fun q x => ∀ v, v < 36 → x v = if v < q then ((zMk K v (i + 1) : Nat) : Int) else ((zMk K v i : Nat) : Int)) (fun q x ag2 hq36 hQ2 hag2 => ?_) (fun v hv => by rw [if_neg (Nat.not_lt_zero v)]; exact q2 v hv)
    refine ev_g (by omega) (ev_if (fun c3 => hk4 _ (fun v hv => by rw [hQ2 v hv, if_pos (by omega)])) (fun c3 => ?_))
    have hq : q < 36 := by omega
    refine ev_c1 (e_hears hK hl hq) ?_
    have xq := hQ2 q hq
    rw [if_neg (Nat.lt_irrefl q)] at xq
    have lt := zMk_lt (K := K) hq i (by omega)
    have p7 : 2 ^ zNm K i ≤ 2 ^ 7 := Nat.pow_le_pow_right (by decide) (by omega)
    have st : zMk K q (i + 1) = if zEar K i q then zMk K q i + 2 ^ zNm K i else zMk K q i := rfl
    refine ev_j1 (fun y => ∀ v, v < 36 → y v = if v < q + 1 then ((zMk K v (i + 1) : Nat) : Int) else ((zMk K v i : Nat) : Int)) (fun y hy => ev_n (hag2 _ hq hy)) (fun k5 hk5 => ?_)
    have go : ∀ y : Nat → Int, (y q = ((zMk K q (i + 1) : Nat) : Int)) → (∀ v, v ≠ q → y v = x v) → ∀ v, v < 36 → y v = if v < q + 1 then ((zMk K v (i + 1) : Nat) : Int) else ((zMk K v i : Nat) : Int) := fun y h1 h2 v hv => by
      by_cases e : v = q
      · subst e; rw [if_pos (Nat.lt_succ_self v)]; exact h1
      · rw [h2 v e, hQ2 v hv]
        by_cases l : v < q
        · rw [if_pos l, if_pos (by omega)]
        · rw [if_neg l, if_neg (by omega)]
    by_cases ce : zEar K i q
    · rw [if_pos ce]
      rw [if_pos ce] at st
      refine ev_g (by decide) (ev_f (by decide) (ev_c1 (e_atN (by decide) hq) ?_))
      rw [xq, zbt_or _ n7 _ (by omega) lt]
      refine ev_c1 (e_putN (by decide) hq) (hk5 _ (go _ ?_ (fun v hv => updI_ne _ _ hv)))
      rw [updI_at, st]
    · rw [if_neg ce]
      rw [if_neg ce] at st
      exact ev_g (by decide) (ev_t rfl (hk5 _ (go _ (by rw [st]; exact xq) (fun v _ => rfl))))
  · show _ = ((2 ^ (zNm K i + if 0 ≤ zhr (K i) then 1 else 0) : Nat) : Int)
    rw [if_neg c2]; rfl
  · show x q = ((if zEar K i q then zMk K q i + 2 ^ zNm K i else zMk K q i : Nat) : Int)
    rw [if_neg (fun y => c2 (zEar_i hl hq y))]
    exact q2 q hq
theorem e_hearAll {K : Nat → Int} {hh : Nat → Int} (h8 : zNm K 36 ≤ 8) (h : ∀ q, q < 36 → hh q = ((zMk K q 36 : Nat) : Int)) {m : Nat} (hm : m < 256) : ev (g_X_hearAll hh (m : Int)) (fun r => (r = 1 ∧ zHa K m) ∨ (r = 0 ∧ ¬ zHa K m)) := by
  unfold g_X_hearAll
  refine ev_f1_1 36 (by decide) (fun i => ∀ q, q < i → zHq K m q) (fun i ag hi hQ hag => ?_) (fun q hq => absurd hq (Nat.not_lt_zero q))
  refine ev_g (by omega) (ev_if (fun c => ev_some (Or.inl ⟨rfl, fun q hq => hQ q (by omega)⟩)) (fun c => ?_))
  have hl : i < 36 := by omega
  have lt := zMk_lt (K := K) hl 36 (Nat.le_refl _)
  have p8 : 2 ^ zNm K 36 ≤ 2 ^ 8 := Nat.pow_le_pow_right (by decide) h8
  have m8 : zMk K i 36 < 256 := by omega
  have eq0 := zMk_0 (K := K) (q := i) 36
  have eqa := zMk_and (K := K) hl h8 hm 36 (Nat.le_refl _)
  refine ev_c1 (e_atN (by decide) hl) ?_
  rw [h i hl]
  refine ev_j1 (fun _ => zHq K m i) (fun _ hx => ev_n (hag () hl (fun q hq => ?_))) (fun k2 hk => ?_)
  · by_cases e : q = i
    · subst e; exact hx
    · exact hQ q (by omega)
  refine ev_g (by omega) (ev_if (fun c2 => hk () (Or.inl (eq0.mp (by omega)))) (fun c2 => ?_))
  refine ev_c1 (e_atN (by decide) hl) ?_
  rw [h i hl, zbt_and _ m8 m hm]
  have al : zMk K i 36 &&& m ≤ zMk K i 36 := Nat.and_le_left
  refine ev_g (by omega) (ev_if (fun c3 => ev_some (Or.inr ⟨rfl, fun x => ?_⟩)) (fun c3 => hk () ?_))
  · have a := eqa.mp (by omega)
    rcases x i hl with y | ⟨u, y1, y2, y3⟩
    · exact c2 (by have := eq0.mpr y; omega)
    · exact a u y1 ⟨y2, y3⟩
  · by_cases e : ∃ u, u < 36 ∧ zEar K u i ∧ m / 2 ^ zNm K u % 2 = 1
    · exact Or.inr e
    · exact absurd (eqa.mpr (fun u hu y => e ⟨u, hu, y.1, y.2⟩)) (by omega)
theorem zHB_ear {K : Nat → Int} {q : Nat} : 0 < zHB K q ↔ ∃ u, u < 36 ∧ zEar K u q := by
  constructor
  · intro h
    by_cases e : ∃ u, u < 36 ∧ zEar K u q
    · exact e
    · have := cnt_none (p := fun k => zap k q ≤ zhr (K k)) 36 (fun i hi x => e ⟨i, hi, x⟩)
      have h2 : 0 < cnt (fun k => zap k q ≤ zhr (K k)) 36 := h
      omega
  · rintro ⟨u, hu, h⟩
    have := cnt_one (p := fun k => zap k q ≤ zhr (K k)) (t := u) h 36 hu
    show 0 < cnt (fun k => zap k q ≤ zhr (K k)) 36
    omega
theorem zor_v {a b : Int} (ha : a = 0 ∨ a = 1) (hb : b = 0 ∨ b = 1) : (zorI a b = 0 ∨ zorI a b = 1) ∧ (zorI a b = 1 ↔ (a = 1 ∨ b = 1)) := by
  rcases ha with rfl | rfl
  · rcases hb with rfl | rfl
    · decide +kernel
    · decide +kernel
  · rcases hb with rfl | rfl
    · decide +kernel
    · decide +kernel
theorem e_M_all {s K : Nat → Int} (hs : zR s K) (hK : zK K) (h8 : zNm K 36 ≤ 8) {m : Nat} (hm : m < 256) : ev (g_M_areAllHeard s (m : Int)) (fun r => (r = 1 ∧ zHa K m) ∨ (r = 0 ∧ ¬ zHa K m)) := by
  unfold g_M_areAllHeard
  refine ev_f1_1 36 (by decide) (fun i => ∀ q, q < i → zHq K m q) (fun i ag hi hQ hag => ?_) (fun q hq => absurd hq (Nat.not_lt_zero q))
  refine ev_g (by omega) (ev_if (fun c => ev_some (Or.inl ⟨rfl, fun q hq => hQ q (by omega)⟩)) (fun c => ?_))
  have hl : i < 36 := by omega
  refine ev_c1 (e_M_isHeard hs hK hl) ?_
  refine ev_j1 (fun v => (v = 0 ∨ v = 1) ∧ (v = 1 ↔ ¬ 0 < zHB K i)) (fun v hv => ?_) (fun k2 hk => ?_)
  case refine_2 =>
    by_cases cb : 0 < zHB K i
    · rw [if_pos cb]
      exact ev_g (by decide) (ev_f (by decide) (hk _ ⟨Or.inl rfl, ⟨fun x => absurd x (by decide), fun x => absurd cb x⟩⟩))
    · rw [if_neg cb]
      exact ev_g (by decide) (ev_t rfl (hk _ ⟨Or.inr rfl, ⟨fun _ => cb, fun _ => rfl⟩⟩))
  refine ev_j1 (fun v => (v = 0 ∨ v = 1) ∧ (v = 1 ↔ (¬ 0 < zHB K i ∨ ∃ u, u < 36 ∧ zEar K u i ∧ m / 2 ^ zNm K u % 2 = 1))) (fun v hv => ?_) (fun k2 hk => ?_)
  · have hb := zHB_ear (K := K) (q := i)
    have vz : zr v := by
      rcases hv.1 with z | z
      · rw [z]; decide
      · rw [z]; decide
    refine ev_g vz (ev_if (fun c0 => ev_some (Or.inr ⟨rfl, fun x => ?_⟩)) (fun c0 => ev_n (hag () hl (fun q hq => ?_))))
    · have nv : ¬ v = 1 := fun z => absurd (c0.symm.trans z) (by decide)
      rcases x i hl with y | y
      · exact nv (hv.2.mpr (Or.inl (fun z => by
          obtain ⟨u, hu, z2⟩ := hb.mp z
          exact y u hu z2)))
      · exact nv (hv.2.mpr (Or.inr y))
    · by_cases e : q = i
      · subst e
        rcases hv.2.mp (hv.1.resolve_left c0) with y | y
        · exact Or.inl (fun u hu z => y (hb.mpr ⟨u, hu, z⟩))
        · exact Or.inr y
      · exact hQ q (by omega)
  refine ev_f3_3 36 (by decide) (fun u f n => n = ((zNm K u : Nat) : Int) ∧ (f = 0 ∨ f = 1) ∧ (f = 1 ↔ (¬ 0 < zHB K i ∨ ∃ t, t < u ∧ zEar K t i ∧ m / 2 ^ zNm K t % 2 = 1))) (fun u f n ag2 hu hQ2 hag2 => ?_) ⟨rfl, hv.1, by
    rw [hv.2]
    exact ⟨Or.inl, fun x => by
      rcases x with x | ⟨t, x, _⟩
      · exact x
      · omega⟩⟩
  obtain ⟨rfl, q2, q3⟩ := hQ2
  refine ev_g (by omega) (ev_if (fun c3 => hk _ ?_) (fun c3 => ?_))
  · have u36 : u = 36 := by omega
    subst u36
    exact ⟨q2, q3⟩
  have ul : u < 36 := by omega
  have zh := zhr_rng (K u)
  refine ev_g (by omega) ?_
  rw [Int.toNat_natCast, hs u ul]
  refine ev_c1 (e_M_hears (hK u ul)) ?_
  refine ev_j2 (fun f n => n = ((zNm K (u + 1) : Nat) : Int) ∧ (f = 0 ∨ f = 1) ∧ (f = 1 ↔ (¬ 0 < zHB K i ∨ ∃ t, t < u + 1 ∧ zEar K t i ∧ m / 2 ^ zNm K t % 2 = 1))) (fun f n h => ev_n (hag2 _ _ ul h)) (fun k4 hk4 => ?_)
  refine ev_g (by omega) (ev_if (fun c4 => ?_) (fun c4 => hk4 _ _ ⟨?_, q2, ?_⟩))
  · have n7 := zNm_7 h8 ul c4
    refine ev_j1 (fun b => (b = 0 ∨ b = 1) ∧ (b = 1 ↔ (zEar K u i ∧ m / 2 ^ zNm K u % 2 = 1))) (fun b hb => ?_) (fun k5 hk5 => ?_)
    · have ov := zor_v q2 hb.1
      refine ev_n (ev_n (hk4 _ _ ⟨by rw [zNm_s c4]; omega, ov.1, ?_⟩))
      rw [ov.2, q3, hb.2]
      constructor
      · intro x
        rcases x with (x | ⟨t, x1, x2⟩) | x
        · exact Or.inl x
        · exact Or.inr ⟨t, by omega, x2⟩
        · exact Or.inr ⟨u, by omega, x⟩
      · intro x
        rcases x with x | ⟨t, x1, x2⟩
        · exact Or.inl (Or.inl x)
        · by_cases e : t = u
          · subst e; exact Or.inr x2
          · exact Or.inl (Or.inr ⟨t, by omega, x2⟩)
    · refine ev_j1 (fun _ => ¬ (zEar K u i ∧ m / 2 ^ zNm K u % 2 = 1)) (fun _ hx => hk5 _ ⟨Or.inl rfl, ⟨fun y => absurd y (by decide), fun y => absurd y hx⟩⟩) (fun k6 hk6 => ?_)
      rw [zbt_bit m hm _ n7]
      refine ev_g (by omega) (ev_if (fun c5 => ?_) (fun c5 => hk6 () (fun y => c5 (by have := y.2; omega))))
      have ap := zap_rng ul hl
      refine ev_c1 (e_M_hears (hK u ul)) (ev_c1 (e_M_apart ul hl) (ev_g (by omega) (ev_g (by omega) (ev_if (fun c6 => hk6 () (fun y => by have y : zap u i ≤ zhr (K u) := y.1; omega)) (fun c6 => hk5 _ ⟨Or.inr rfl, ⟨fun _ => ⟨?_, by omega⟩, fun _ => rfl⟩⟩)))))
      show zap u i ≤ zhr (K u)
      omega
  · show _ = ((zNm K u + if 0 ≤ zhr (K u) then 1 else 0 : Nat) : Int)
    rw [if_neg c4]; rfl
  · rw [q3]
    constructor
    · intro x
      rcases x with x | ⟨t, x1, x2⟩
      · exact Or.inl x
      · exact Or.inr ⟨t, by omega, x2⟩
    · intro x
      rcases x with x | ⟨t, x1, x2⟩
      · exact Or.inl x
      · by_cases e : t = u
        · subst e; exact absurd (zEar_i ul hl x2.1) c4
        · exact Or.inr ⟨t, by omega, x2⟩
abbrev zBb (b m : Nat) : Prop := zBt b < zBt m ∨ (zBt b = zBt m ∧ b ≤ m)
abbrev zBst (K : Nat → Int) (F b : Nat) : Prop := (b = F ∨ zHa K b) ∧ b ≤ F ∧ ∀ m, m ≤ F → (m = F ∨ zHa K m) → zBb b m
theorem zBst_u {K : Nat → Int} {F b b' : Nat} (h : zBst K F b) (h' : zBst K F b') : b = b' := by
  have a := h.2.2 b' h'.2.1 h'.1
  have d := h'.2.2 b h.2.1 h.1
  rcases a with a | a
  · rcases d with d | d
    · omega
    · omega
  · rcases d with d | d
    · omega
    · omega
theorem e_eX {K : Nat → Int} (hK : zK K) (hh ra : Nat → Int) (h8 : zNm K 36 ≤ 8) : ev (g_X_enough hh ra K) (fun r => (∃ b, r.1 = ((b : Nat) : Int) ∧ zBst K (2 ^ zNm K 36 - 1) b) ∧ r.2.2 = ra) := by
  unfold g_X_enough
  have nc := zNm_c K 36
  refine ev_c1 (e_informers hK) ?_
  rw [← nc]
  refine ev_g (by omega) (ev_t (by omega) ?_)
  refine ev_b2 (e_note hK hh h8) (fun f hx h => ?_)
  obtain ⟨g1, g2⟩ := h
  have h1 : f = ((2 ^ zNm K 36 - 1 : Nat) : Int) := g1
  have h2 : ∀ q, q < 36 → hx q = ((zMk K q 36 : Nat) : Int) := g2
  clear g1 g2
  subst h1
  have p8 : 2 ^ zNm K 36 ≤ 2 ^ 8 := Nat.pow_le_pow_right (by decide) h8
  have full := zbt_full (zNm K 36) (by omega)
  obtain ⟨F, eF⟩ : ∃ F, F = 2 ^ zNm K 36 - 1 := ⟨_, rfl⟩
  rw [← eF] at full ⊢
  have F8 : F < 256 := by omega
  clear eF p8
  refine ev_f2_2 F (by omega) (fun i v => ∃ b : Nat, v = (b : Int) ∧ (b = F ∨ (b < i ∧ zHa K b)) ∧ b ≤ F ∧ ∀ m, m < i → zHa K m → zBb b m) (fun i v ag hi hQ hag => ?_) ⟨F, rfl, Or.inl rfl, Nat.le_refl F, fun m hm => absurd hm (Nat.not_lt_zero m)⟩
  obtain ⟨b, rfl, b1, b2, b3⟩ := hQ
  refine ev_g (by omega) (ev_g (by omega) (ev_if (fun c => ev_some ⟨⟨b, rfl, ?_, b2, fun m hm hA => ?_⟩, rfl⟩) (fun c => ?_)))
  · rcases b1 with x | x
    · exact Or.inl x
    · exact Or.inr x.2
  · by_cases e : m = F
    · subst e
      by_cases e2 : b = m
      · subst e2; exact Or.inr ⟨rfl, Nat.le_refl b⟩
      · exact Or.inl (full b (by omega) (by omega))
    · rcases hA with x | x
      · exact absurd x e
      · exact b3 m (by omega) x
  have il : i < F := by omega
  have zi := zbt_rng i
  have zb := zbt_rng b
  refine ev_c1 (zbt_bc i (by omega)) (ev_c1 (zbt_bc b (by omega)) ?_)
  refine ev_j1 (fun v => ∃ b : Nat, v = (b : Int) ∧ (b = F ∨ (b < i + 1 ∧ zHa K b)) ∧ b ≤ F ∧ ∀ m, m < i + 1 → zHa K m → zBb b m) (fun v h => ev_n (hag _ il h)) (fun k2 hk => ?_)
  have w1 : b = F ∨ (b < i + 1 ∧ zHa K b) := by
    rcases b1 with x | x
    · exact Or.inl x
    · exact Or.inr ⟨by omega, x.2⟩
  refine ev_g (by omega) (ev_g (by omega) (ev_if (fun c1 => hk _ ⟨b, rfl, w1, b2, fun m hm hH => ?_⟩) (fun c1 => ?_)))
  · by_cases e : m = i
    · subst e
      rcases b1 with x | x
      · subst x
        have := full m (by omega) il
        omega
      · rcases Int.lt_or_le (zBt b) (zBt m) with y | y
        · exact Or.inl y
        · exact Or.inr ⟨by omega, by omega⟩
    · exact b3 m (by omega) hH
  · refine ev_b1 (e_hearAll h8 h2 (m := i) (by omega)) (fun r hr => ?_)
    rcases hr with ⟨r1, r2⟩ | ⟨r1, r2⟩
    · refine ev_g (by omega) (ev_f (by omega) (hk _ ⟨i, rfl, Or.inr ⟨by omega, r2⟩, by omega, fun m hm hH => ?_⟩))
      by_cases e : m = i
      · subst e; exact Or.inr ⟨rfl, Nat.le_refl m⟩
      · rcases b3 m (by omega) hH with y | y
        · exact Or.inl (by omega)
        · exact Or.inl (by omega)
    · refine ev_g (by omega) (ev_t r1 (hk _ ⟨b, rfl, w1, b2, fun m hm hH => ?_⟩))
      by_cases e : m = i
      · subst e; exact absurd hH r2
      · exact b3 m (by omega) hH
theorem e_eM {s K : Nat → Int} (hs : zR s K) (hK : zK K) (rb : Nat → Int) : ev (g_M_enough rb s) (fun r => (zNm K 36 ≤ 8 → (∃ b, r.1 = ((b : Nat) : Int) ∧ zBst K (2 ^ zNm K 36 - 1) b) ∧ r.2 = rb) ∧ (¬ zNm K 36 ≤ 8 → r = (-3, updI rb 3 (rb 3 + 1)))) := by
  unfold g_M_enough
  refine ev_j1 (fun v => v = ((zNm K 36 : Nat) : Int)) (fun v hv => ?_) (fun k2 hk => ?_)
  case refine_2 =>
    refine ev_f2_2 36 (by decide) (fun i v => v = ((zNm K i : Nat) : Int)) (fun i v ag hi hQ hag => ?_) rfl
    subst hQ
    refine ev_g (by omega) (ev_if (fun c => hk _ ?_) (fun c => ?_))
    · have i36 : i = 36 := by omega
      subst i36; rfl
    have hl : i < 36 := by omega
    have zh := zhr_rng (K i)
    refine ev_g (by omega) ?_
    rw [Int.toNat_natCast, hs i hl]
    have st : zNm K (i + 1) = zNm K i + if 0 ≤ zhr (K i) then 1 else 0 := rfl
    refine ev_c1 (e_M_hears (hK i hl)) (ev_i1 (ev_g (by omega) (ev_if (fun c2 => ev_n (ev_n (hag _ hl ?_))) (fun c2 => ev_n (ev_n (hag _ hl ?_))))))
    · rw [st, if_neg (by omega)]; rfl
    · rw [st, if_pos (by omega)]; omega
  have n36 : zNm K 36 ≤ 36 := by
    have a := zNm_c K 36
    have b := (cnt_rng (fun u => 0 ≤ zhr (K u)) 36).2
    omega
  subst hv
  refine ev_g (by omega) (ev_if (fun c => ?_) (fun c => ev_c2 (en_3 rb) (ev_some ⟨fun x => by omega, fun _ => rfl⟩)))
  have h8 : zNm K 36 ≤ 8 := by omega
  have p8 : 2 ^ zNm K 36 ≤ 2 ^ 8 := Nat.pow_le_pow_right (by decide) h8
  have p0 : 0 < 2 ^ zNm K 36 := Nat.two_pow_pos _
  have full := zbt_full (zNm K 36) (by omega)
  rw [zbt_one _ (by omega)]
  obtain ⟨F, eF⟩ : ∃ F, F = 2 ^ zNm K 36 - 1 := ⟨_, rfl⟩
  rw [show ((2 ^ zNm K 36 : Nat) : Int) - 1 = (F : Int) by omega]
  rw [← eF] at full ⊢
  have F8 : F < 256 := by omega
  clear eF p8 p0
  refine ev_n ?_
  refine ev_l2 (fun μ v l => ∃ b i : Nat, v = (b : Int) ∧ l = (i : Int) - 1 ∧ i ≤ F + 1 ∧ μ = i ∧ (b = F ∨ zHa K b) ∧ b ≤ F ∧ ∀ m, m ≤ F → i ≤ m → (m = F ∨ zHa K m) → zBb b m) (fun μ v l ag hI hag => ?_) (m := F + 1) (zF_gt (by omega)) ⟨F, F + 1, rfl, by omega, Nat.le_refl _, rfl, Or.inl rfl, Nat.le_refl F, fun m h1 h2 => by omega⟩
  obtain ⟨b, i, rfl, rfl, i1, i2, b1, b2, b3⟩ := hI
  refine ev_g (by omega) (ev_if (fun c1 => ev_some ⟨fun _ => ⟨⟨b, rfl, b1, b2, fun m hm hA => b3 m hm (by omega) hA⟩, rfl⟩, fun x => absurd h8 x⟩) (fun c1 => ?_))
  obtain ⟨j, ej⟩ : ∃ j, i = j + 1 := ⟨i - 1, by omega⟩
  subst ej
  rw [show ((j + 1 : Nat) : Int) - 1 = (j : Int) by omega]
  have zj := zbt_rng j
  have zb := zbt_rng b
  refine ev_c1 (e_M_bits (m := j) (by omega)) (ev_c1 (e_M_bits (m := b) (by omega)) ?_)
  refine ev_j1 (fun v => ∃ b : Nat, v = (b : Int) ∧ (b = F ∨ zHa K b) ∧ b ≤ F ∧ ∀ m, m ≤ F → j ≤ m → (m = F ∨ zHa K m) → zBb b m) (fun v h => ev_n ?_) (fun k2 hk => ?_)
  · obtain ⟨b', d1, d2, d3, d4⟩ := h
    exact hag j _ _ (by omega) ⟨b', j, d1, by omega, by omega, rfl, d2, d3, d4⟩
  refine ev_g (by omega) (ev_g (by omega) (ev_if (fun c2 => hk _ ⟨b, rfl, b1, b2, fun m hm hj hA => ?_⟩) (fun c2 => ?_)))
  · by_cases e : m = j
    · subst e; exact Or.inl c2
    · exact b3 m hm (by omega) hA
  · refine ev_b1 (e_M_all hs hK h8 (m := j) (by omega)) (fun r hr => ?_)
    rcases hr with ⟨r1, r2⟩ | ⟨r1, r2⟩
    · refine ev_g (by omega) (ev_f (by omega) (hk _ ⟨j, rfl, Or.inr r2, by omega, fun m hm hj hA => ?_⟩))
      by_cases e : m = j
      · subst e; exact Or.inr ⟨rfl, Nat.le_refl m⟩
      · rcases b3 m hm (by omega) hA with y | y
        · exact Or.inl (by omega)
        · rcases Int.lt_or_le (zBt j) (zBt m) with z | z
          · exact Or.inl z
          · exact Or.inr ⟨by omega, hj⟩
    · refine ev_g (by omega) (ev_t r1 (hk _ ⟨b, rfl, b1, b2, fun m hm hj hA => ?_⟩))
      by_cases e : m = j
      · subst e
        rcases hA with x | x
        · subst x
          by_cases e2 : b = m
          · subst e2; exact Or.inr ⟨rfl, Nat.le_refl b⟩
          · exact Or.inl (full b (by omega) (by omega))
        · exact absurd x r2
      · exact b3 m hm (by omega) hA
theorem m_enough {K s ra rb : Nat → Int} (hh : Nat → Int) (hK : zK K) (hs : zR s K) (hr : iRef ra rb) : ev2 (g_X_enough hh ra K) (g_M_enough rb s) (fun x y => x.1 = y.1 ∧ iRef x.2.2 y.2) := by
  by_cases h8 : zNm K 36 ≤ 8
  · refine e2_ev (ev_mono (e_eX hK hh ra h8) (fun x hx => ev_mono (e_eM hs hK rb) (fun y hy => ?_)))
    obtain ⟨⟨b, x1, x2⟩, x3⟩ := hx
    obtain ⟨⟨b', y1, y2⟩, y3⟩ := hy.1 h8
    rw [x1, y1, x3, y3, zBst_u x2 y2]
    exact ⟨rfl, hr⟩
  · have nc := zNm_c K 36
    unfold g_X_enough
    have n36 := (cnt_rng (fun u => 0 ≤ zhr (K u)) 36).2
    refine l_c1 (e_informers hK) (l_g (by omega) (l_f (by omega) (l_c2 (er_3 ra) ?_)))
    refine e2_ev (ev_some (ev_mono (e_eM hs hK rb) (fun y hy => ?_)))
    rw [hy.2 h8]
    exact ⟨rfl, iRef_up hr 3 (by decide)⟩
