-- own text: routes
abbrev zOk (f : Int) : Nat → Nat → Prop := fun j w => j % 5 = 4 → (f < 0 ∨ (w : Int) = f)
theorem zTour_can {K : Nat → Int} {c : Nat → Nat → Int} {ok : Nat → Nat → Prop} {p : Nat} (hp : zcan (K p)) : ∀ {m v x}, zTour K c ok (p * 5 + 4) m v x → zcan (K (v / 5))
  | 0, v, x, h => by
    rw [h.1, show (p * 5 + 4) / 5 = p by omega]
    exact hp
  | m + 1, v, x, h => by
    obtain ⟨j, w, h1, h2, h3, h4, h5, h6⟩ := h
    have r := zN_rng (K := K) (q := j / 5) (w := w) (by omega)
    have z : zTo K j w / 5 = (zN K (j / 5) w).toNat := by unfold zTo; omega
    rw [← h5, z]
    exact r.2.2 h3
abbrev zVAL (K : Nat → Int) (C : Nat → Nat → Int) (f : Int) (s : Nat) (x : Nat → Int) : Prop := ∀ v, v < 180 → x v = 1000000000 ∨ (x v < 1000000000 ∧ ∃ m, zTour K C (zOk f) s m v (x v))
abbrev zREL (K : Nat → Int) (C : Nat → Nat → Int) (f : Int) (x : Nat → Int) (j w : Nat) : Prop := 0 ≤ zN K (j / 5) w → zOk f j w → x j < 1000000000 → x (zTo K j w) ≤ x j + C j w
abbrev zPI (K : Nat → Int) (C : Nat → Nat → Int) (f : Int) (s : Nat) (x0 : Nat → Int) (l : Int) (x : Nat → Int) (i : Nat) : Prop := zVAL K C f s x ∧ x s ≤ 0 ∧ ((l = 1 ∧ smN x 180 < smN x0 180) ∨ (l = 0 ∧ x = x0 ∧ ∀ j, j < i → ∀ w, w < 4 → zREL K C f x0 j w))
theorem zPI_w {K : Nat → Int} {C : Nat → Nat → Int} {f : Int} {s : Nat} {x0 : Nat → Int} {l : Int} {x : Nat → Int} {i i' : Nat} (h : zPI K C f s x0 l x i) (e : i' = i) : zPI K C f s x0 l x i' := by subst e; exact h
theorem e_M_leastAll {s K : Nat → Int} (hs : zR s K) (hK : zK K) {md f : Int} (hf : zr f) {C : Nat → Nat → Int} (hC : ∀ q c w : Nat, q < 36 → c < 5 → w < 4 → g_M_costOf s (q : Int) (c : Int) (w : Int) md = some (C (q * 5 + c) w)) (hc : ∀ j w, j < 180 → w < 4 → 0 ≤ C j w ∧ C j w ≤ 5000) (g : Nat → Int) {p : Nat} (hp : p < 36) : ev (g_M_leastAll g s (p : Int) f md) (fun r => (¬ zcan (K p) ∧ ∀ v, v < 180 → r v = 1000000000) ∨ (zcan (K p) ∧ zRes K C (zOk f) (p * 5 + 4) 1000000000 r)) := by
  unfold g_M_leastAll
  refine ev_j1 (fun y => zE y (fun _ => 1000000000)) (fun y hy => ?_) (fun k2 hk => e_fillM hk)
  by_cases c : zcan (K p)
  case neg => exact ev_c1 (e_McanF hs hK hp c) (ev_g (by decide) (ev_t rfl (ev_some (Or.inl ⟨c, hy⟩))))
  refine ev_c1 (e_McanT hs hK hp c) (ev_g (by decide) (ev_f (by decide) (ev_c1 (e_M_at (q := p) (c := 4)) (ev_g (by omega) (ev_n ?_)))))
  rw [Int.toNat_natCast]
  obtain ⟨S, es⟩ : ∃ S, S = p * 5 + 4 := ⟨_, rfl⟩
  have hS : S < 180 := by omega
  have can : ∀ {m v x}, zTour K C (zOk f) S m v x → zcan (K (v / 5)) := fun {m v x} h => zTour_can c (by rw [es] at h; exact h)
  rw [← es]
  have v0 : zVAL K C f S (updI y S 0) := fun v hv => by
    by_cases e : v = S
    · subst e
      rw [updI_at]
      exact Or.inr ⟨by decide, 0, rfl, rfl⟩
    · rw [updI_ne _ _ e]
      exact Or.inl (hy v hv)
  have up : ∀ v, v < 180 → updI y S 0 v ≤ ((1000000000 : Nat) : Int) := fun v hv => by
    rcases v0 v hv with z | z
    · omega
    · have := z.1; omega
  refine ev_l2 (fun μ l x => (l = 0 ∨ l = 1) ∧ zVAL K C f S x ∧ x S ≤ 0 ∧ (l = 0 → ∀ j, j < 180 → ∀ w, w < 4 → zREL K C f x j w) ∧ μ = smN x 180 + l.toNat) (fun μ l x ag hI hag => ?_) (m := smN (updI y S 0) 180 + 1) (by have := smN_le (b := 1000000000) 180 up; unfold zF; omega) ⟨Or.inr rfl, v0, by rw [updI_at]; exact Int.le_refl _, fun h => absurd h (by decide), rfl⟩
  obtain ⟨i1, i2, i3, i4, i5⟩ := hI
  refine ev_g (by omega) (ev_if (fun c1 => ev_some (Or.inr ⟨c, ?_⟩)) (fun c1 => ?_))
  · exact zRes_rel hS (by decide) hc i2 i3 (fun j w hj hw hN hk hl => i4 c1 j hj w hw hN hk hl)
  have l1 : l = 1 := by omega
  subst l1
  clear i4 i1 c1
  have i5 : μ = smN x 180 + 1 := i5
  refine ev_j2 (fun l' x' => zPI K C f S x l' x' 180) (fun l' x' h => ?_) (fun k2 hk => ?_)
  · obtain ⟨a1, a2, a3⟩ := h
    rcases a3 with ⟨b1, b2⟩ | ⟨b1, b2, b3⟩
    · exact hag (smN x' 180 + 1) _ _ (by omega) ⟨Or.inr b1, a1, a2, fun h => absurd (b1.symm.trans h) (by decide), by rw [b1]; rfl⟩
    · subst b2
      exact hag (smN x' 180) _ _ (by omega) ⟨Or.inl b1, a1, a2, fun _ => b3, by rw [b1]; show smN x' 180 = smN x' 180 + 0; exact (Nat.add_zero _).symm⟩
  refine ev_f3_2 36 (by decide) (fun q l' x' => zPI K C f S x l' x' (q * 5)) (fun q l' x' ag2 hq36 hQ hag2 => ?_) ⟨i2, i3, Or.inr ⟨rfl, rfl, fun j hj => absurd hj (by omega)⟩⟩
  refine ev_g (by omega) (ev_if (fun c2 => hk _ _ (zPI_w hQ (by omega))) (fun c2 => ?_))
  have hq : q < 36 := by omega
  refine ev_j2 (fun l' x' => zPI K C f S x l' x' (q * 5 + 5)) (fun l' x' h => ev_n (hag2 _ _ hq (zPI_w h (by omega)))) (fun k3 hk3 => ?_)
  refine ev_f3_2 5 (by decide) (fun cc l' x' => zPI K C f S x l' x' (q * 5 + cc)) (fun cc l' x' ag3 hc5 hQ hag3 => ?_) hQ
  refine ev_g (by omega) (ev_if (fun c3 => hk3 _ _ (zPI_w hQ (by omega))) (fun c3 => ?_))
  have hc4 : cc < 5 := by omega
  obtain ⟨j, ej⟩ : ∃ j, j = q * 5 + cc := ⟨_, rfl⟩
  have hj : j < 180 := by omega
  have jq : j / 5 = q := by omega
  have jc : j % 5 = cc := by omega
  refine ev_c1 e_M_at (ev_g (by omega) ?_)
  rw [Int.toNat_natCast, ← ej]
  rw [← ej] at hQ
  refine ev_j2 (fun l' x' => zPI K C f S x l' x' (j + 1)) (fun l' x' h => ev_n (hag3 _ _ hc4 (zPI_w h (by omega)))) (fun k4 hk4 => ?_)
  obtain ⟨a1, a2, a3⟩ := hQ
  have xr : x' j ≤ 1000000000 ∧ 0 ≤ x' j := by
    rcases a1 j hj with z | ⟨z, m, z2⟩
    · omega
    · have := zTour_rng (B := 5000) hc z2; omega
  refine ev_g (by omega) (ev_if (fun c4 => ?_) (fun c4 => hk4 _ _ ⟨a1, a2, ?_⟩))
  case refine_2 =>
    rcases a3 with z | ⟨b1, b2, b3⟩
    · exact Or.inl z
    · refine Or.inr ⟨b1, b2, fun u hu w hw => ?_⟩
      by_cases e : u = j
      · subst e
        intro _ _ hx
        rw [b2] at c4
        exact absurd hx c4
      · exact b3 u (by omega) w hw
  refine ev_f3_2 4 (by decide) (fun w l' x' => zVAL K C f S x' ∧ x' S ≤ 0 ∧ x' j < 1000000000 ∧ ((l' = 1 ∧ smN x' 180 < smN x 180) ∨ (l' = 0 ∧ x' = x ∧ (∀ u, u < j → ∀ w, w < 4 → zREL K C f x u w) ∧ ∀ w', w' < w → zREL K C f x j w'))) (fun w l' x' ag4 hw4 hQ hag4 => ?_) ⟨a1, a2, c4, ?_⟩
  case refine_2 =>
    rcases a3 with z | ⟨b1, b2, b3⟩
    · exact Or.inl z
    · exact Or.inr ⟨b1, b2, b3, fun w hw => absurd hw (Nat.not_lt_zero w)⟩
  clear a1 a2 a3 xr c4
  obtain ⟨a1, a2, c4, a3⟩ := hQ
  refine ev_g (by omega) (ev_if (fun c5 => hk4 _ _ ⟨a1, a2, ?_⟩) (fun c5 => ?_))
  · rcases a3 with z | ⟨b1, b2, b3, b4⟩
    · exact Or.inl z
    · refine Or.inr ⟨b1, b2, fun u hu w2 hw2 => ?_⟩
      by_cases e : u = j
      · subst e; exact b4 w2 (by omega)
      · exact b3 u (by omega) w2 hw2
  have hw : w < 4 := by omega
  have tj : x' j < 1000000000 ∧ ∃ m, zTour K C (zOk f) S m j (x' j) := by
    rcases a1 j hj with z | z
    · omega
    · exact z
  obtain ⟨_, m, tm⟩ := tj
  have xr := zTour_rng (B := 5000) hc tm
  have cq := can tm
  rw [jq] at cq
  have r := zN_rng (K := K) (q := q) (w := w) hq
  refine ev_c1 (e_M_gone hs hK hq hw) ?_
  refine ev_j2 (fun l' x' => zVAL K C f S x' ∧ x' S ≤ 0 ∧ x' j < 1000000000 ∧ ((l' = 1 ∧ smN x' 180 < smN x 180) ∨ (l' = 0 ∧ x' = x ∧ (∀ u, u < j → ∀ w, w < 4 → zREL K C f x u w) ∧ ∀ w', w' < w + 1 → zREL K C f x j w'))) (fun l' x' h => ev_n (hag4 _ _ hw h)) (fun k5 hk5 => ?_)
  have keep : (x' = x → zREL K C f x j w) → zVAL K C f S x' ∧ x' S ≤ 0 ∧ x' j < 1000000000 ∧ ((l' = 1 ∧ smN x' 180 < smN x 180) ∨ (l' = 0 ∧ x' = x ∧ (∀ u, u < j → ∀ w, w < 4 → zREL K C f x u w) ∧ ∀ w', w' < w + 1 → zREL K C f x j w')) := fun h => by
    refine ⟨a1, a2, c4, ?_⟩
    rcases a3 with z | ⟨b1, b2, b3, b4⟩
    · exact Or.inl z
    · refine Or.inr ⟨b1, b2, b3, fun w' hw' => ?_⟩
      by_cases e : w' = w
      · subst e; exact h b2
      · exact b4 w' (by omega)
  by_cases c6 : 0 ≤ zN K q w
  case neg =>
    rw [if_neg (fun x => c6 x.2)]
    exact ev_g (by decide) (ev_t (by decide) (hk5 _ _ (keep (fun _ hN => absurd hN (by rw [jq]; exact c6)))))
  rw [if_pos ⟨cq, c6⟩]
  refine ev_g (by omega) (ev_f (by omega) ?_)
  refine ev_j1 (fun _ => zOk f j w) (fun _ hok => ?_) (fun k6 hk6 => ?_)
  · obtain ⟨u, et⟩ := Int.eq_ofNat_of_zero_le c6
    have hu : u < 36 := by omega
    have to : zTo K j w = u * 5 + w := by unfold zTo; rw [jq, et, Int.toNat_natCast]
    have tl : u * 5 + w < 180 := by omega
    have hN : 0 ≤ zN K (j / 5) w := by rw [jq]; exact c6
    have cr := hc j w hj hw
    have cost := hC q cc w hq hc4 hw
    rw [← ej] at cost
    have tn := zTour_s hj hw hN hok tm
    rw [to] at tn
    have tr : x' (u * 5 + w) ≤ 1000000000 ∧ 0 ≤ x' (u * 5 + w) := by
      rcases a1 _ tl with z | ⟨z, m, z2⟩
      · omega
      · have := zTour_rng (B := 5000) hc z2; omega
    rw [et]
    refine ev_c1 e_M_at (ev_g (by omega) (ev_c1 cost (ev_n (ev_c1 e_M_at (ev_g (by omega) ?_)))))
    rw [Int.toNat_natCast, Int.toNat_natCast, ← ej]
    refine ev_g (by omega) (ev_g (by omega) (ev_if (fun c7 => ev_c1 e_M_at (ev_g (by omega) (ev_n (hk5 _ _ ?_)))) (fun c7 => hk5 _ _ (keep (fun ex _ _ _ => ?_)))))
    · rw [Int.toNat_natCast]
      have sl := smN_lt (f := x') (t := u * 5 + w) (v := x' j + C j w) (n := 180) (by omega) c7 tl
      refine ⟨fun v hv => ?_, ?_, ?_, Or.inl ⟨rfl, ?_⟩⟩
      · by_cases e : v = u * 5 + w
        · subst e
          rw [updI_at]
          exact Or.inr ⟨by omega, m + 1, tn⟩
        · rw [updI_ne _ _ e]; exact a1 v hv
      · by_cases e : S = u * 5 + w
        · rw [e, updI_at]; rw [e] at a2; omega
        · rw [updI_ne _ _ e]; exact a2
      · by_cases e : j = u * 5 + w
        · rw [← e] at c7 tr ⊢
          rw [updI_at]; omega
        · rw [updI_ne _ _ e]; exact c4
      · rcases a3 with z | ⟨b1, b2, b3, b4⟩
        · have := z.2; omega
        · rw [b2] at sl ⊢; exact sl
    · rw [to, ← ex]; omega
  · refine ev_if (fun c7 => ?_) (fun c7 => hk6 () (fun x => by omega))
    exact ev_g hf (ev_if (fun c8 => hk6 () (fun _ => Or.inl c8)) (fun c8 => ev_if (fun c9 => hk6 () (fun _ => Or.inr c9)) (fun c9 => hk5 _ _ (keep (fun _ _ hok => by
      rcases hok (by omega) with z | z
      · exact absurd z c8
      · exact absurd z c9)))))
theorem e_M_leastAt {L : Nat → Int} (hL : ∀ v, v < 180 → 0 ≤ L v ∧ L v ≤ 1000000000) {t : Nat} (ht : t < 36) : g_M_leastAt L (t : Int) = some (zM5 L 1000000000 t 5) := by
  refine ev_is ?_
  unfold g_M_leastAt
  refine ev_f2_2 5 (by decide) (fun i v => v = zM5 L 1000000000 t i) (fun i v ag hi hQ hag => ?_) rfl
  refine ev_g (by omega) (ev_if (fun c1 => ev_some ?_) (fun c1 => ?_))
  · have i5 : i = 5 := by omega
    subst i5
    exact hQ
  have il : i < 5 := by omega
  have m5 := zM5_rng (t := t) (INF := 1000000000) (by decide) (fun v hv => (hL v hv).1) ht i hi
  have l5 := hL (t * 5 + i) (by omega)
  have es : zM5 L 1000000000 t (i + 1) = min (zM5 L 1000000000 t i) (L (t * 5 + i)) := rfl
  refine ev_c1 e_M_at (ev_g (by omega) ?_)
  rw [Int.toNat_natCast]
  refine ev_j1 (fun v => v = zM5 L 1000000000 t (i + 1)) (fun v hv => ev_n (hag _ il hv)) (fun k2 hk => ?_)
  refine ev_g (by omega) (ev_g (by omega) (ev_if (fun c2 => hk _ (by omega)) (fun c2 => ev_c1 e_M_at (ev_g (by omega) (hk _ ?_)))))
  rw [Int.toNat_natCast]
  omega
theorem zRes_rng {K : Nat → Int} {c : Nat → Nat → Int} {ok : Nat → Nat → Prop} {s : Nat} {INF : Int} {L : Nat → Int} (h : zRes K c ok s INF L) (h0 : 0 ≤ INF) {v : Nat} (hv : v < 180) : 0 ≤ L v ∧ L v ≤ INF := by
  rcases h v hv with ⟨z, _⟩ | ⟨z, z2, _⟩
  · omega
  · omega
theorem e_M_leastTo {s K : Nat → Int} (hs : zR s K) (hK : zK K) {md f : Int} (hf : zr f) {C : Nat → Nat → Int} (hC : ∀ q c w : Nat, q < 36 → c < 5 → w < 4 → g_M_costOf s (q : Int) (c : Int) (w : Int) md = some (C (q * 5 + c) w)) (hc : ∀ j w, j < 180 → w < 4 → 0 ≤ C j w ∧ C j w ≤ 5000) (g : Nat → Int) {p t : Nat} (hp : p < 36) (ht : t < 36) : ev (g_M_leastAll g s (p : Int) f md) (fun L => ∃ r, g_M_leastAt L (t : Int) = some r ∧ ((r = 1000000000 ∧ (¬ zcan (K p) ∨ zNo K C (zOk f) (p * 5 + 4) t)) ∨ (zcan (K p) ∧ 0 ≤ r ∧ r < 1000000000 ∧ zSq K C (zOk f) (p * 5 + 4) t r))) := by
  refine ev_mono (e_M_leastAll hs hK hf hC hc g hp) (fun L hL => ?_)
  rcases hL with ⟨a, b⟩ | ⟨a, b⟩
  · refine ⟨_, e_M_leastAt (fun v hv => by rw [b v hv]; decide) ht, Or.inl ⟨?_, Or.inl a⟩⟩
    rcases zM5_at (L := L) (INF := 1000000000) (t := t) 5 with z | ⟨i, z1, z2⟩
    · exact z
    · rw [z2, b _ (by omega)]
  · refine ⟨_, e_M_leastAt (fun v hv => zRes_rng b (by decide) hv) ht, ?_⟩
    rcases zM5_sq (by omega) ht b with ⟨z1, z2⟩ | ⟨z1, z2, z3⟩
    · exact Or.inl ⟨z1, Or.inr z2⟩
    · exact Or.inr ⟨a, z1, z2, z3⟩
