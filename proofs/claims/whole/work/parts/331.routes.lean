-- own text: routes
abbrev zAny : Nat → Nat → Prop := fun _ _ => True
def zQu (f n : Nat) (iw wq : Nat → Int) : Prop := f < 180 ∧ (n : Int) = cnt (fun j => iw j = 1) 180 ∧ (∀ i, i < n → ∃ j : Nat, j < 180 ∧ wq ((f + i) % 180) = (j : Int) ∧ iw j = 1) ∧ (∀ i i', i < i' → i' < n → wq ((f + i) % 180) ≠ wq ((f + i') % 180)) ∧ (∀ j : Nat, j < 180 → iw j = 0 ∨ (iw j = 1 ∧ ∃ i, i < n ∧ wq ((f + i) % 180) = (j : Int)))
theorem zQu_push {f n t : Nat} {iw wq : Nat → Int} (h : zQu f n iw wq) (ht : t < 180) (h0 : iw t = 0) : n < 180 ∧ zQu f (n + 1) (updI iw t 1) (updI wq ((f + n) % 180) (t : Int)) ∧ ∀ i, i < n → updI wq ((f + n) % 180) (t : Int) ((f + i) % 180) = wq ((f + i) % 180) := by
  obtain ⟨a1, a2, a3, a4, a5⟩ := h
  have nt : ¬ (fun j => iw j = 1) t := fun x => by have x : iw t = 1 := x; omega
  have mi := cnt_miss (p := fun j => iw j = 1) nt ht
  have n1 : n < 180 := by omega
  have ca := cnt_add (p := fun j => iw j = 1) (p' := fun j => updI iw t 1 j = 1) nt (fun i => by
    show updI iw t 1 i = 1 ↔ (iw i = 1 ∨ i = t)
    by_cases e : i = t
    · subst e
      rw [updI_at]
      exact ⟨fun _ => Or.inr rfl, fun _ => rfl⟩
    · rw [updI_ne _ _ e]
      exact ⟨Or.inl, fun x => x.resolve_right e⟩) 180
  rw [if_pos ht] at ca
  have same : ∀ i, i < n → updI wq ((f + n) % 180) (t : Int) ((f + i) % 180) = wq ((f + i) % 180) := fun i hi => updI_ne _ _ (by omega)
  refine ⟨n1, ⟨a1, by omega, ?_, ?_, ?_⟩, same⟩
  · intro i hi
    by_cases e : i = n
    · subst e
      exact ⟨t, ht, updI_at _ _ _, updI_at _ _ _⟩
    · obtain ⟨j, b1, b2, b3⟩ := a3 i (by omega)
      have jt : j ≠ t := fun x => by rw [x] at b3; omega
      exact ⟨j, b1, by rw [same i (by omega)]; exact b2, by rw [updI_ne _ _ jt]; exact b3⟩
  · intro i i' h1 h2
    by_cases e : i' = n
    · subst e
      rw [same i h1, updI_at]
      obtain ⟨j, b1, b2, b3⟩ := a3 i h1
      rw [b2]
      intro x
      have : j = t := by omega
      rw [this] at b3
      omega
    · rw [same i (by omega), same i' (by omega)]
      exact a4 i i' h1 (by omega)
  · intro j hj
    by_cases e : j = t
    · subst e
      exact Or.inr ⟨updI_at _ _ _, n, by omega, updI_at _ _ _⟩
    · rw [updI_ne _ _ e]
      rcases a5 j hj with z | ⟨z, i, z1, z2⟩
      · exact Or.inl z
      · exact Or.inr ⟨z, i, by omega, by rw [same i z1]; exact z2⟩
theorem zQu_pop {f n : Nat} {iw wq : Nat → Int} (h : zQu f (n + 1) iw wq) : ∃ j : Nat, j < 180 ∧ wq f = (j : Int) ∧ iw j = 1 ∧ zQu ((f + 1) % 180) n (updI iw j 0) wq ∧ (∀ i, wq (((f + 1) % 180 + i) % 180) = wq ((f + (i + 1)) % 180)) ∧ (∀ i, 0 < i → i < n + 1 → wq ((f + i) % 180) ≠ (j : Int)) := by
  obtain ⟨a1, a2, a3, a4, a5⟩ := h
  obtain ⟨j, b1, b2, b3⟩ := a3 0 (by omega)
  have sh : ∀ i, wq (((f + 1) % 180 + i) % 180) = wq ((f + (i + 1)) % 180) := fun i => congrArg wq (by omega)
  have b4 : wq f = (j : Int) := by rw [← b2]; exact congrArg wq (by omega)
  have other : ∀ i, 0 < i → i < n + 1 → wq ((f + i) % 180) ≠ (j : Int) := fun i h1 h2 x => a4 0 i h1 h2 (by rw [b2, x])
  have nj : ¬ (fun u => updI iw j 0 u = 1) j := fun x => by
    have x : updI iw j 0 j = 1 := x
    rw [updI_at] at x
    omega
  have ca := cnt_add (p := fun u => updI iw j 0 u = 1) (p' := fun u => iw u = 1) nj (fun i => by
    show iw i = 1 ↔ (updI iw j 0 i = 1 ∨ i = j)
    by_cases e : i = j
    · subst e
      exact ⟨fun _ => Or.inr rfl, fun _ => b3⟩
    · rw [updI_ne _ _ e]
      exact ⟨Or.inl, fun x => x.resolve_right e⟩) 180
  rw [if_pos b1] at ca
  refine ⟨j, b1, b4, b3, ⟨by omega, by omega, ?_, ?_, ?_⟩, sh, other⟩
  · intro i hi
    obtain ⟨u, c1, c2, c3⟩ := a3 (i + 1) (by omega)
    have ne : u ≠ j := fun x => other (i + 1) (by omega) (by omega) (by rw [c2, x])
    exact ⟨u, c1, by rw [sh]; exact c2, by rw [updI_ne _ _ ne]; exact c3⟩
  · intro i i' h1 h2
    rw [sh, sh]
    exact a4 (i + 1) (i' + 1) (by omega) (by omega)
  · intro u hu
    by_cases e : u = j
    · subst e
      exact Or.inl (updI_at _ _ _)
    · rw [updI_ne _ _ e]
      rcases a5 u hu with z | ⟨z, i, z1, z2⟩
      · exact Or.inl z
      · have i0 : i ≠ 0 := fun x => by
          rw [x, b2] at z2
          omega
        exact Or.inr ⟨z, i - 1, by omega, by rw [sh, show i - 1 + 1 = i by omega]; exact z2⟩
def zIv (K : Nat → Int) (c : Nat → Nat → Int) (s k r T f n : Nat) (iw L wq : Nat → Int) (e : Nat → Prop) : Prop := zQu f n iw wq ∧ (r ≤ n ∧ k ≤ 179 ∧ (k = 179 → n = r)) ∧ (∀ v, v < 180 → (L v = 2147483647 ∧ iw v = 0) ∨ (L v ≤ 5000 * (T : Int) ∧ ∃ m, zTour K c zAny s m v (L v))) ∧ (∀ m v x, m ≤ k → zTour K c zAny s m v x → L v ≤ x) ∧ (∀ j : Nat, j < 180 → ¬ e j → (∀ i, i < r → wq ((f + i) % 180) ≠ (j : Int)) → ∀ w, w < 4 → 0 ≤ zN K (j / 5) w → ∀ m x, m ≤ k → zTour K c zAny s m j x → L (zTo K j w) ≤ x + c j w) ∧ (∀ j, j < 180 → ¬ e j → iw j = 0 → L j < 2147483647 → ∀ w, w < 4 → 0 ≤ zN K (j / 5) w → L (zTo K j w) ≤ L j + c j w)
theorem zIv_L {K : Nat → Int} {c : Nat → Nat → Int} {s k r T f n : Nat} {iw L wq : Nat → Int} {e : Nat → Prop} (hc : ∀ j w, j < 180 → w < 4 → 0 ≤ c j w ∧ c j w ≤ 5000) (hT : T ≤ 40000) (H : zIv K c s k r T f n iw L wq e) {v : Nat} (hv : v < 180) : 0 ≤ L v ∧ L v ≤ 2147483647 ∧ (L v < 2147483647 → L v ≤ 5000 * (T : Int) ∧ ∃ m, zTour K c zAny s m v (L v)) := by
  rcases H.2.2.1 v hv with ⟨a, b⟩ | ⟨a, m, b⟩
  · exact ⟨by omega, by omega, fun x => by omega⟩
  · have r := zTour_rng (B := 5000) hc b
    exact ⟨by omega, by omega, fun _ => ⟨a, m, b⟩⟩
theorem e_mend {K : Nat → Int} {c : Nat → Nat → Int} {s k r T f n : Nat} {iw L wq : Nat → Int} {e : Nat → Prop} (hs : s < 180) (hc : ∀ j w, j < 180 → w < 4 → 0 ≤ c j w ∧ c j w ≤ 5000) (hT : T ≤ 40000) (H : zIv K c s k r T f n iw L wq e) {t : Nat} (ht : t < 180) {v : Int} (hv : v ≤ 5000 * (T : Int)) (hw : ∃ m, zTour K c zAny s m t v) : ev (g_Routes_mend (f : Int) (n : Int) iw L wq (t : Int) v) (fun R => ∃ n' : Nat, R.1 = (n' : Int) ∧ zIv K c s k r T f n' R.2.1 R.2.2.1 R.2.2.2 e ∧ R.2.2.1 t ≤ v ∧ (∀ u, R.2.2.1 u ≤ L u) ∧ ∀ u, u ≠ t → R.2.2.1 u = L u) := by
  unfold g_Routes_mend
  obtain ⟨m0, hm0⟩ := hw
  have vr := zTour_rng (B := 5000) hc hm0
  have lt := zIv_L hc hT H ht
  refine ev_c1 (e_atN (by decide) ht) (ev_g (by omega) (ev_g (by omega) (ev_if (fun c1 => ?_) (fun c1 => ev_some ⟨n, rfl, H, by show L t ≤ v; omega, fun u => Int.le_refl _, fun u _ => rfl⟩))))
  obtain ⟨h1, ⟨h2, h3, h4⟩, h5, h6, h7, h8⟩ := H
  refine ev_c1 (e_putN (by decide) ht) (ev_c1 (e_atN (by decide) ht) ?_)
  have mono : ∀ u, updI L t v u ≤ L u := fun u => by
    by_cases e : u = t
    · subst e; rw [updI_at]; omega
    · rw [updI_ne _ _ e]; exact Int.le_refl _
  have oth : ∀ u, u ≠ t → updI L t v u = L u := fun u hu => updI_ne _ _ hu
  have nk : k ≠ 179 := fun x => by
    obtain ⟨m', x', d1, d2, d3⟩ := zShort hs (fun j w a b => (hc j w a b).1) hm0
    have := h6 m' t x' (by omega) d3
    omega
  have g6 : ∀ m u x, m ≤ k → zTour K c zAny s m u x → updI L t v u ≤ x := fun m u x a b => Int.le_trans (mono u) (h6 m u x a b)
  have n0 : iw t = 0 ∨ iw t = 1 := by
    rcases h1.2.2.2.2 t ht with z | z
    · exact Or.inl z
    · exact Or.inr z.1
  rcases n0 with n0 | n0
  · obtain ⟨p1, p2, p3⟩ := zQu_push h1 ht n0
    have f1 := h1.1
    refine ev_g (by omega) (ev_t n0 (ev_c1 (e_putN (by decide) ht) (ev_g (by omega) ?_)))
    rw [show ((f : Int) + (n : Int)) % 180 = (((f + n) % 180 : Nat) : Int) by omega]
    refine ev_c1 (e_putN (by decide) (by omega)) (ev_n (ev_some ⟨n + 1, by show (n : Int) + 1 = _; omega, ⟨p2, ⟨by omega, h3, fun x => absurd x nk⟩, ?_, g6, ?_, ?_⟩, ?_, mono, oth⟩))
    · intro u hu
      show (updI L t v u = 2147483647 ∧ updI iw t 1 u = 0) ∨ (updI L t v u ≤ 5000 * (T : Int) ∧ ∃ m, zTour K c zAny s m u (updI L t v u))
      by_cases e : u = t
      · subst e
        rw [updI_at]
        exact Or.inr ⟨hv, m0, hm0⟩
      · rw [updI_ne _ _ e, updI_ne _ _ e]
        exact h5 u hu
    · intro j hj nj hq w hw hN m x hm hx
      refine Int.le_trans (mono _) (h7 j hj nj (fun i hi => ?_) w hw hN m x hm hx)
      rw [← p3 i (by omega)]
      exact hq i hi
    · intro j hj nj hi hl w hw hN
      have hi : updI iw t 1 j = 0 := hi
      have hl : updI L t v j < 2147483647 := hl
      have jt : j ≠ t := fun x => by
        rw [x, updI_at] at hi
        omega
      rw [updI_ne _ _ jt] at hi hl
      show updI L t v (zTo K j w) ≤ updI L t v j + c j w
      rw [oth j jt]
      exact Int.le_trans (mono _) (h8 j hj nj hi hl w hw hN)
    · show updI L t v t ≤ v
      rw [updI_at]
      exact Int.le_refl _
  · refine ev_g (by omega) (ev_f (by omega) (ev_some ⟨n, rfl, ⟨h1, ⟨h2, h3, h4⟩, ?_, g6, ?_, ?_⟩, ?_, mono, oth⟩))
    · intro u hu
      show (updI L t v u = 2147483647 ∧ iw u = 0) ∨ (updI L t v u ≤ 5000 * (T : Int) ∧ ∃ m, zTour K c zAny s m u (updI L t v u))
      by_cases e : u = t
      · subst e
        rw [updI_at]
        exact Or.inr ⟨hv, m0, hm0⟩
      · rw [updI_ne _ _ e]
        exact h5 u hu
    · intro j hj nj hq w hw hN m x hm hx
      exact Int.le_trans (mono _) (h7 j hj nj hq w hw hN m x hm hx)
    · intro j hj nj hi hl w hw hN
      have hi : iw j = 0 := hi
      have hl : updI L t v j < 2147483647 := hl
      have jt : j ≠ t := fun x => by
        rw [x] at hi
        omega
      rw [updI_ne _ _ jt] at hl
      show updI L t v (zTo K j w) ≤ updI L t v j + c j w
      rw [oth j jt]
      exact Int.le_trans (mono _) (h8 j hj nj hi hl w hw hN)
    · show updI L t v t ≤ v
      rw [updI_at]
      exact Int.le_refl _
theorem zN_ne {K : Nat → Int} {q w : Nat} : zN K q w ≠ (q : Int) := by
  have h : zBs q w ≠ (q : Int) := by unfold zBs; grind
  unfold zN
  by_cases c : 0 ≤ zBs q w ∧ zcan (K (zBs q w).toNat)
  · rw [if_pos c]; exact h
  · rw [if_neg c]; omega
def zPr (K : Nat → Int) (pc ps : Int) (tl : Nat → Int) (j w : Nat) : Int := (ps + (if zCn K (j / 5) (j % 5) w then pc else tl (j / 5))) * 4 + (if j % 5 = 4 then (w : Int) else 0)
theorem e_goFrom {K : Nat → Int} (hK : zK K) {pc ps : Int} {tl : Nat → Int} {s k r T f n j : Nat} {iw L wq : Nat → Int} (hs : s < 180) (hc : ∀ j w, j < 180 → w < 4 → 0 ≤ zPr K pc ps tl j w ∧ zPr K pc ps tl j w ≤ 5000) (hT : T < 40000) (H : zIv K (zPr K pc ps tl) s k r (T + 1) f n iw L wq (fun u => u = j)) (hj : j < 180) (hL : L j ≤ 5000 * (T : Int)) (hm : ∃ m, zTour K (zPr K pc ps tl) zAny s m j (L j)) : ev (g_Routes_goOnFrom pc (f : Int) ps (n : Int) iw L tl K wq (j : Int)) (fun R => ∃ n' : Nat, R.1 = (n' : Int) ∧ zIv K (zPr K pc ps tl) s k r (T + 1) f n' R.2.1 R.2.2.1 R.2.2.2 (fun _ => False)) := by
  unfold g_Routes_goOnFrom
  have e5 : (j : Int) / 5 = ((j / 5 : Nat) : Int) := by omega
  have e6 : (j : Int) % 5 = ((j % 5 : Nat) : Int) := by omega
  refine ev_g (by omega) (ev_n (ev_n ?_))
  rw [e5, e6]
  have hq : j / 5 < 36 := by omega
  have hc5 : j % 5 < 5 := by omega
  obtain ⟨m0, hm0⟩ := hm
  have l0 := zTour_rng (B := 5000) hc hm0
  refine ev_f5_1 4 (by decide) (fun i nI iw' L' wq' => ∃ n' : Nat, nI = (n' : Int) ∧ zIv K (zPr K pc ps tl) s k r (T + 1) f n' iw' L' wq' (fun u => u = j) ∧ L' j = L j ∧ ∀ w, w < i → 0 ≤ zN K (j / 5) w → L' (zTo K j w) ≤ L j + zPr K pc ps tl j w) (fun i nI iw' L' wq' ag hi hQ hag => ?_) ⟨n, rfl, H, rfl, fun w hw => absurd hw (Nat.not_lt_zero w)⟩
  obtain ⟨n', rfl, H', hLj, hd⟩ := hQ
  refine ev_g (by omega) (ev_if (fun c1 => ev_some ⟨n', rfl, ?_⟩) (fun c1 => ?_))
  · have i4 : i = 4 := by omega
    subst i4
    obtain ⟨h1, h2, h5, h6, h7, h8⟩ := H'
    refine ⟨h1, h2, h5, h6, ?_, ?_⟩
    · intro u hu _ hq2 w hw hN m x hm2 hx
      by_cases e : u = j
      · subst e
        have a := hd w hw hN
        have b := h6 m _ x hm2 hx
        show L' (zTo K u w) ≤ x + zPr K pc ps tl u w
        omega
      · exact h7 u hu e hq2 w hw hN m x hm2 hx
    · intro u hu _ hi2 hl w hw hN
      by_cases e : u = j
      · subst e
        have a := hd w hw hN
        show L' (zTo K u w) ≤ L' u + zPr K pc ps tl u w
        omega
      · exact h8 u hu e hi2 hl w hw hN
  have hl : i < 4 := by omega
  have zr0 := zN_rng (K := K) (q := j / 5) (w := i) hq
  refine ev_c1 (e_next hK hq hl) ?_
  refine ev_j4 (fun nI iw2 L2 wq2 => ∃ n2 : Nat, nI = (n2 : Int) ∧ zIv K (zPr K pc ps tl) s k r (T + 1) f n2 iw2 L2 wq2 (fun u => u = j) ∧ L2 j = L j ∧ ∀ w, w < i + 1 → 0 ≤ zN K (j / 5) w → L2 (zTo K j w) ≤ L j + zPr K pc ps tl j w) (fun nI iw2 L2 wq2 h => ev_n (hag _ _ _ _ hl h)) (fun k2 hk => ?_)
  refine ev_g (by omega) (ev_if (fun c2 => hk _ _ _ _ ⟨n', rfl, H', hLj, fun w hw hN => ?_⟩) (fun c2 => ?_))
  · by_cases e : w = i
    · subst e; omega
    · exact hd w (by omega) hN
  have hN : 0 ≤ zN K (j / 5) i := by omega
  refine ev_c1 (e_corner hK hq hc5 (by omega)) ?_
  refine ev_j1 (fun v => v = if zCn K (j / 5) (j % 5) i then pc else tl (j / 5)) (fun v hv => ?_) (fun k3 hk3 => ?_)
  · refine ev_n ?_
    refine ev_j1 (fun u => u = if j % 5 = 4 then (i : Int) else 0) (fun u hu => ?_) (fun k4 hk4 => ?_)
    · have et : zN K (j / 5) i * 5 + (i : Int) = ((zTo K j i : Nat) : Int) := by unfold zTo; omega
      have tl2 := zTo_lt (K := K) hj hl
      refine ev_c1 (e_atN (by decide) hj) ?_
      have ev : L' j + ((ps + v) * 4) + u = L j + zPr K pc ps tl j i := by
        unfold zPr
        rw [hv, hu, hLj]
        omega
      rw [et, ev]
      have cr := hc j i hj hl
      refine ev_b4 (e_mend hs hc (by omega) H' tl2 (by omega) ⟨m0 + 1, zTour_s hj hl hN trivial hm0⟩) (fun nI iw2 L2 wq2 hR => hk _ _ _ _ ?_)
      obtain ⟨n2, b1, b2, b3, b4, b5⟩ := hR
      have b1 : nI = (n2 : Int) := b1
      have b2 : zIv K (zPr K pc ps tl) s k r (T + 1) f n2 iw2 L2 wq2 (fun u => u = j) := b2
      have b3 : L2 (zTo K j i) ≤ L j + zPr K pc ps tl j i := b3
      have b4 : ∀ u, L2 u ≤ L' u := b4
      have b5 : ∀ u, u ≠ zTo K j i → L2 u = L' u := b5
      refine ⟨n2, b1, b2, ?_, fun w hw hN2 => ?_⟩
      · rw [b5 j ?_]
        · exact hLj
        · intro x
          have ne := zN_ne (K := K) (q := j / 5) (w := i)
          have z5 : zTo K j i / 5 = (zN K (j / 5) i).toNat := by unfold zTo; omega
          rw [← x] at z5
          omega
      · by_cases e : w = i
        · subst e; exact b3
        · exact Int.le_trans (b4 _) (hd w (by omega) hN2)
    · refine ev_g (by omega) (ev_if (fun c4 => hk4 _ (by rw [if_pos (by omega)])) (fun c4 => hk4 _ (by rw [if_neg (by omega)])))
  · by_cases cc : zCn K (j / 5) (j % 5) i
    · rw [if_pos cc]
      exact ev_g (by decide) (ev_f (by decide) (hk3 _ (by rw [if_pos cc])))
    · rw [if_neg cc]
      exact ev_g (by decide) (ev_t rfl (ev_c1 (e_atN (by decide) hq) (hk3 _ (by rw [if_neg cc]))))
theorem zIv_next {K : Nat → Int} {c : Nat → Nat → Int} {s k T f n : Nat} {iw L wq : Nat → Int} (hc : ∀ j w, j < 180 → w < 4 → 0 ≤ c j w ∧ c j w ≤ 5000) (hs : s < 180) (hT : T ≤ 40000) (H : zIv K c s k 0 T f n iw L wq (fun _ => False)) (hn : 0 < n) : zIv K c s (k + 1) n T f n iw L wq (fun _ => False) := by
  have lr := fun v hv => zIv_L (v := v) hc hT H hv
  obtain ⟨h1, ⟨h2, h3, h4⟩, h5, h6, h7, h8⟩ := H
  have kk : k ≠ 179 := fun x => by have := h4 x; omega
  have g6 : ∀ m v x, m ≤ k + 1 → zTour K c zAny s m v x → L v ≤ x := fun m v x hm hx => by
    by_cases e : m = k + 1
    · subst e
      obtain ⟨j, w, a1, a2, a3, a4, a5, a6⟩ := hx
      have := h7 j a1 (fun x => x) (fun i hi => absurd hi (Nat.not_lt_zero i)) w a2 a3 k _ (Nat.le_refl k) a6
      rw [a5] at this
      omega
    · exact h6 m v x (by omega) hx
  refine ⟨h1, ⟨Nat.le_refl n, by omega, fun _ => rfl⟩, h5, g6, ?_, h8⟩
  intro j hj _ hq w hw hN m x hm hx
  have i0 : iw j = 0 := by
    rcases h1.2.2.2.2 j hj with z | ⟨z, i, z1, z2⟩
    · exact z
    · exact absurd z2 (hq i z1)
  have a := g6 m j x hm hx
  have b := lr j hj
  have d := lr (zTo K j w) (zTo_lt hj hw)
  have cr := (hc j w hj hw).1
  by_cases e : L j < 2147483647
  · have := h8 j hj (fun x => x) i0 e w hw hN
    omega
  · omega
theorem zIv_pop {K : Nat → Int} {c : Nat → Nat → Int} {s k r T f n : Nat} {iw L wq : Nat → Int} (H : zIv K c s k (r + 1) T f (n + 1) iw L wq (fun _ => False)) : ∃ j : Nat, j < 180 ∧ wq f = (j : Int) ∧ L j ≤ 5000 * (T : Int) ∧ (∃ m, zTour K c zAny s m j (L j)) ∧ zIv K c s k r (T + 1) ((f + 1) % 180) n (updI iw j 0) L wq (fun u => u = j) := by
  obtain ⟨h1, ⟨h2, h3, h4⟩, h5, h6, h7, h8⟩ := H
  obtain ⟨j, b1, b2, b3, b4, b5, b6⟩ := zQu_pop h1
  have lj : L j ≤ 5000 * (T : Int) ∧ ∃ m, zTour K c zAny s m j (L j) := by
    rcases h5 j b1 with ⟨_, z⟩ | z
    · omega
    · exact z
  refine ⟨j, b1, b2, lj.1, lj.2, b4, ⟨by omega, h3, fun x => by have := h4 x; omega⟩, ?_, h6, ?_, ?_⟩
  · intro v hv
    by_cases e : v = j
    · subst e
      exact Or.inr ⟨by have := lj.1; omega, lj.2⟩
    · rw [updI_ne _ _ e]
      rcases h5 v hv with z | ⟨z, z2⟩
      · exact Or.inl z
      · exact Or.inr ⟨by omega, z2⟩
  · intro u hu nu hq w hw hN m x hm hx
    refine h7 u hu (fun x => x) (fun i hi => ?_) w hw hN m x hm hx
    rcases Nat.eq_zero_or_pos i with e | e
    · subst e
      intro y
      have fl := h1.1
      rw [show (f + 0) % 180 = f by omega, b2] at y
      exact nu (by omega)
    · have := hq (i - 1) (by omega)
      rw [b5, show i - 1 + 1 = i by omega] at this
      exact this
  · intro u hu nu hi hl w hw hN
    rw [updI_ne _ _ nu] at hi
    exact h8 u hu (fun x => x) hi hl w hw hN
