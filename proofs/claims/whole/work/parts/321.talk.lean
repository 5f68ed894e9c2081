-- own text: talk
theorem zHu_0 {K : Nat → Int} {q : Nat} : ¬ zHu K 0 q := fun x => x.1 rfl
theorem zMx_mono {K : Nat → Int} {h : Int} {G G' : Nat → Int} (h0 : ∀ j, -1 ≤ G j) (hg : ∀ j, G j ≤ G' j) : ∀ n, zMx K h G n ≤ zMx K h G' n
  | 0 => Int.le_refl _
  | n + 1 => by
    have ih := zMx_mono (K := K) (h := h) h0 hg n
    have a := h0 n
    have b := hg n
    show (if G n = -1 ∨ zHu K h (n / 5) then zMx K h G n else max (zMx K h G n) (G n + zwd (K (n / 5)))) ≤ (if G' n = -1 ∨ zHu K h (n / 5) then zMx K h G' n else max (zMx K h G' n) (G' n + zwd (K (n / 5))))
    by_cases u : zHu K h (n / 5)
    · have a1 : G n = -1 ∨ zHu K h (n / 5) := Or.inr u
      have a2 : G' n = -1 ∨ zHu K h (n / 5) := Or.inr u
      rw [if_pos a1, if_pos a2]; exact ih
    · by_cases c : G n = -1
      · have a1 : G n = -1 ∨ zHu K h (n / 5) := Or.inl c
        rw [if_pos a1]
        by_cases d : G' n = -1
        · have a2 : G' n = -1 ∨ zHu K h (n / 5) := Or.inl d
          rw [if_pos a2]; exact ih
        · have a2 : ¬ (G' n = -1 ∨ zHu K h (n / 5)) := fun x => by
            rcases x with x | x
            · exact d x
            · exact u x
          rw [if_neg a2]; omega
      · have a1 : ¬ (G n = -1 ∨ zHu K h (n / 5)) := fun x => by
          rcases x with x | x
          · exact c x
          · exact u x
        have a2 : ¬ (G' n = -1 ∨ zHu K h (n / 5)) := fun x => by
          rcases x with x | x
          · omega
          · exact u x
        rw [if_neg a1, if_neg a2]; omega
theorem zRx_ge {K : Nat → Int} {h m : Int} {F G : Nat → Int} {j w : Nat} (i : Nat) : G i ≤ zRx K h m F j w G i := by
  unfold zRx
  by_cases k : zBk K h F j w
  · rw [if_pos k]; exact Int.le_refl _
  · rw [if_neg k]
    by_cases e : i = zTo K j w
    · rw [e, updI_at]; omega
    · rw [updI_ne _ _ e]; exact Int.le_refl _
theorem zL4_ge {K : Nat → Int} {h m : Int} {F G : Nat → Int} {j : Nat} (i w : Nat) : ∀ d, zL4 K h m F j G w i ≤ zL4 K h m F j G (w + d) i
  | 0 => Int.le_refl _
  | d + 1 => Int.le_trans (zL4_ge i w d) (zRx_ge i)
theorem zLy_ge {K : Nat → Int} {h m : Int} {F : Nat → Int} (i j : Nat) : ∀ d, zLy K h m F j i ≤ zLy K h m F (j + d) i
  | 0 => Int.le_refl _
  | d + 1 => Int.le_trans (zLy_ge i j d) (zL4_ge (F := F) (G := zLy K h m F (j + d)) (j := j + d) i 0 4)
theorem zMx_hit {K : Nat → Int} {h m b : Int} {F : Nat → Int} {j w : Nat} (hb : 0 ≤ b) (hF : zI F b) (hj : j < 180) (hw : w < 4) (nb : ¬ zBk K h F j w) (nu : ¬ zHu K h (zTo K j w / 5)) : zVl K m F j w + zwd (K (zTo K j w / 5)) ≤ zMx K h (zLy K h m F 180) 180 := by
  have gr := zL4_rng (K := K) (h := h) (m := m) (j := j) hF (zLy_rng (K := K) (h := h) (m := m) (by omega) hF j) w
  have gr1 := zL4_rng (K := K) (h := h) (m := m) (j := j) hF (zLy_rng (K := K) (h := h) (m := m) (by omega) hF j) (w + 1)
  have fj := hF j
  have f0 : 0 ≤ F j := by
    rcases Int.lt_or_le (F j) 0 with x | x
    · exact absurd (Or.inl x) nb
    · exact x
  have vr := zVl_rng (K := K) (m := m) (w := w) f0 fj.2
  have up := zMx_up (K := K) (h := h) (i := zTo K j w) vr.1 (fun j => (gr j).1) 180
  have tl := zTo_lt (K := K) hj hw
  have tt : zTo K j w < 180 ∧ ¬ zHu K h (zTo K j w / 5) := ⟨tl, nu⟩
  rw [if_pos tt] at up
  have g1 : zL4 K h m F j (zLy K h m F j) (w + 1) = updI (zL4 K h m F j (zLy K h m F j) w) (zTo K j w) (max (zL4 K h m F j (zLy K h m F j) w (zTo K j w)) (zVl K m F j w)) := by
    show zRx K h m F j w _ = _
    unfold zRx
    rw [if_neg nb]
  rw [← g1] at up
  have m1 := zMx_mono (K := K) (h := h) (G := zL4 K h m F j (zLy K h m F j) (w + 1)) (G' := zLy K h m F 180) (fun i => (gr1 i).1) (fun i => by
    have a1 := zL4_ge (K := K) (h := h) (m := m) (F := F) (G := zLy K h m F j) (j := j) i (w + 1) (3 - w)
    rw [show w + 1 + (3 - w) = 4 by omega] at a1
    have a2 := zLy_ge (K := K) (h := h) (m := m) (F := F) i (j + 1) (179 - j)
    rw [show j + 1 + (179 - j) = 180 by omega] at a2
    exact Int.le_trans a1 a2) 180
  omega
abbrev zTq (K : Nat → Int) (p : Nat) (t r : Int) : Prop := (∃ k : Nat, k ≤ 40 ∧ r = (k : Int) ∧ t ≤ zMx K 0 (zTr K 0 1 p k) 180 ∧ ∀ i, i < k → zMx K 0 (zTr K 0 1 p i) 180 < t) ∨ (r = -9 ∧ ∀ i, i ≤ 40 → zMx K 0 (zTr K 0 1 p i) 180 < t)
theorem zTq_u {K : Nat → Int} {p : Nat} {t r r' : Int} (h : zTq K p t r) (h' : zTq K p t r') : r = r' := by
  rcases h with ⟨k, a1, a2, a3, a4⟩ | ⟨a1, a2⟩
  · rcases h' with ⟨k', b1, b2, b3, b4⟩ | ⟨b1, b2⟩
    · rcases Nat.lt_trichotomy k k' with c | c | c
      · have := b4 k c; omega
      · rw [a2, b2, c]
      · have := a4 k' c; omega
    · have := b2 k a1; omega
  · rcases h' with ⟨k', b1, b2, b3, b4⟩ | ⟨b1, b2⟩
    · have := a2 k' b1; omega
    · rw [a1, b1]
theorem e_stepsUncut {K : Nat → Int} (hK : zK K) (ish now th : Nat → Int) {p : Nat} (hp : p < 36) {t : Int} (ht : zr t) : ev (g_Talks_stepsToUncut ish now th K (p : Int) t) (fun r => if zcan (K p) then zTq K p t r.1 else r.1 = -9) := by
  unfold g_Talks_stepsToUncut
  refine ev_b1 (e_hush hK ish (h := 0) (by decide)) (fun hu hi => ?_)
  refine ev_b2 (e_tbegin hK now 0 1 hp) (fun r1 n0 hr => ?_)
  obtain ⟨g1, g2⟩ := hr
  have h1 : r1 = if zcan (K p) then 1 else 0 := g1
  have h2 : zE n0 (zTr K 0 1 p 0) := g2
  clear g1 g2
  by_cases c : zcan (K p)
  case neg =>
    rw [if_neg c] at h1
    exact ev_g (by omega) (ev_t h1 (ev_some (by rw [if_neg c])))
  rw [if_pos c] at h1
  refine ev_g (by omega) (ev_f (by omega) ?_)
  refine ev_f3_1 41 (by decide) (fun i x y => zE x (zTr K 0 1 p i) ∧ ∀ k, k < i → zMx K 0 (zTr K 0 1 p k) 180 < t) (fun i x y ag hi8 hQ hag => ?_) ⟨h2, fun k hk => absurd hk (Nat.not_lt_zero k)⟩
  refine ev_g (by omega) (ev_if (fun c1 => ev_some ?_) (fun c1 => ?_))
  · rw [if_pos c]; exact Or.inr ⟨rfl, fun k hk => hQ.2 k (by omega)⟩
  have il : i ≤ 40 := by omega
  have mr := zMx_rng (K := K) (h := 0) (by omega) (zTr_rng (K := K) (h := 0) (m := 1) (p := p) i) 180
  refine ev_c1 (e_most hK hi hQ.1 (zTr_rng i) (by omega) (by omega)) (ev_g (by omega) (ev_g ht (ev_if (fun c2 => ?_) (fun c2 => ev_some ?_))))
  · refine ev_b2 (e_goOn hK y hi hQ.1 (zTr_rng i) (by omega) (by omega) (m := 1) (by decide)) (fun x2 y2 hx => ev_n (hag _ _ (by omega) ⟨hx, fun k hk => ?_⟩))
    by_cases e : k = i
    · subst e; exact c2
    · exact hQ.2 k (by omega)
  · rw [if_pos c]; exact Or.inl ⟨i, il, rfl, by omega, hQ.2⟩
theorem e_M_talk {s K : Nat → Int} (hs : zR s K) (hK : zK K) (mo ne rb : Nat → Int) {p : Nat} (hp : p < 36) {t : Int} (t1 : 1 ≤ t) (t2 : t ≤ 40) : ev (g_M_talk mo ne rb s (p : Int) t) (fun r => (if zcan (K p) then zTq K p t r.1 else r.1 = -9) ∧ r.2.2.2 = rb) := by
  unfold g_M_talk
  have hp2 : 0 ≤ (p : Int) ∧ (p : Int) < 36 := by omega
  refine ev_c1 (e_wrong (by omega) (by decide) (by omega) (by decide)) ?_
  rw [if_pos hp2, if_pos t1, if_pos t2]
  refine ev_g (by decide) (ev_t rfl (ev_c1 (e_M_canBe hs hK hp) ?_))
  by_cases c : zcan (K p)
  case neg =>
    rw [if_neg c]
    exact ev_g (by decide) (ev_t rfl (ev_some ⟨by rw [if_neg c], rfl⟩))
  rw [if_pos c]
  refine ev_g (by decide) (ev_f (by decide) ?_)
  have d := zwd_rng (K p)
  refine ev_j1 (fun y => zE y (fun _ => -1)) (fun y hy => ?_) (fun k2 hk => e_fillM hk)
  have w0 : zMx K 0 (zTr K 0 1 p 0) 180 = zwd (K p) := by rw [zMx_0 hp, if_neg zHu_0]
  refine ev_c1 (e_M_at (q := p) (c := 4)) (ev_g (by omega) (ev_n (ev_c1 (e_M_words hs hK hp) (ev_g (by omega) (ev_g (by omega) (ev_if (fun c1 => ?_) (fun c1 => ev_some ⟨?_, rfl⟩)))))))
  case refine_2 =>
    rw [if_pos c]; exact Or.inl ⟨0, by omega, rfl, by omega, fun k hk => absurd hk (Nat.not_lt_zero k)⟩
  rw [Int.toNat_natCast]
  have z0 : zE (updI y (p * 5 + 4) 0) (zTr K 0 1 p 0) := zE_up (G := fun _ => -1) hy _ _
  refine ev_l3 (fun μ l x y => ∃ i : Nat, l = (i : Int) + 1 ∧ i ≤ 40 ∧ μ = 41 - i ∧ zE x (zTr K 0 1 p i) ∧ ∀ k, k ≤ i → zMx K 0 (zTr K 0 1 p k) 180 < t) (fun μ l x y ag hI hag => ?_) (m := 41) (zF_gt (by decide)) ⟨0, by omega, by omega, by omega, z0, fun k hk => by rw [show k = 0 by omega, w0]; exact c1⟩
  obtain ⟨i, rfl, i2, i3, i4, i5⟩ := hI
  refine ev_g (by omega) (ev_if (fun c2 => ev_some ⟨?_, rfl⟩) (fun c2 => ?_))
  · rw [if_pos c]; exact Or.inr ⟨rfl, fun k hk => i5 k (by omega)⟩
  have il : i < 40 := by omega
  have hF := zTr_rng (K := K) (h := 0) (m := 1) (p := p) i
  have hC := zTr_can (K := K) (h := 0) (m := 1) (p := p) c i
  have zs : zTr K 0 1 p (i + 1) = zLy K 0 1 (zTr K 0 1 p i) 180 := rfl
  have hit : t ≤ zMx K 0 (zLy K 0 1 (zTr K 0 1 p i) 180) 180 → zTq K p t ((i : Int) + 1) := fun x => Or.inl ⟨i + 1, by omega, by omega, x, fun k hk => i5 k (by omega)⟩
  generalize zTr K 0 1 p i = F at hF hC i4 zs hit
  refine ev_j1 (fun y => zE y (fun _ => -1)) (fun y1 hy1 => ?_) (fun k2 hk => e_fillM hk)
  refine ev_j1 (fun y => zMx K 0 (zLy K 0 1 F 180) 180 < t ∧ zE y (zLy K 0 1 F 180)) (fun y2 hy2 => ?_) (fun k2 hk => ?_)
  · clear hit
    refine ev_j1 (fun z => zE z (zLy K 0 1 F 180)) (fun z hz => ev_n (hag (μ - 1) _ _ _ (by omega) ⟨i + 1, by omega, by omega, by omega, by rw [zs]; exact hz, fun k hk => ?_⟩)) (fun k2 hk => e_copyM hy2.2 hk)
    by_cases e : k = i + 1
    · subst e; rw [zs]; exact hy2.1
    · exact i5 k (by omega)
  refine ev_f2_1 36 (by decide) (fun q x => zMx K 0 (zLy K 0 1 F (q * 5)) 180 < t ∧ zE x (zLy K 0 1 F (q * 5))) (fun q x ag2 hq36 hQ hag2 => ?_) ⟨by show zMx K 0 (zLy K 0 1 F 0) 180 < t; show zMx K 0 (fun _ => -1) 180 < t; rw [zMx_none]; omega, hy1⟩
  refine ev_g (by omega) (ev_if (fun c3 => hk _ ?_) (fun c3 => ?_))
  · have : q = 36 := by omega
    subst this
    exact hQ
  have hq : q < 36 := by omega
  refine ev_j1 (fun x => zMx K 0 (zLy K 0 1 F (q * 5 + 5)) 180 < t ∧ zE x (zLy K 0 1 F (q * 5 + 5))) (fun x hx => ev_n (hag2 _ hq ?_)) (fun k3 hk3 => ?_)
  · rw [show (q + 1) * 5 = q * 5 + 5 by omega]; exact hx
  refine ev_f2_1 5 (by decide) (fun c x => zMx K 0 (zLy K 0 1 F (q * 5 + c)) 180 < t ∧ zE x (zLy K 0 1 F (q * 5 + c))) (fun cc x ag3 hc5 hQ hag3 => ?_) hQ
  refine ev_g (by omega) (ev_if (fun c2 => hk3 _ ?_) (fun c2 => ?_))
  · have : cc = 5 := by omega
    subst this
    exact hQ
  have hc : cc < 5 := by omega
  obtain ⟨j, ej⟩ : ∃ j, j = q * 5 + cc := ⟨_, rfl⟩
  have hj : j < 180 := by omega
  have jq : j / 5 = q := by omega
  have jc : j % 5 = cc := by omega
  refine ev_c1 e_M_at (ev_g (by omega) (ev_n ?_))
  rw [Int.toNat_natCast, ← ej, i4 j hj]
  rw [← ej] at hQ
  have fj := hF j
  refine ev_j1 (fun x => zMx K 0 (zLy K 0 1 F (j + 1)) 180 < t ∧ zE x (zLy K 0 1 F (j + 1))) (fun x hx => ev_n (hag3 _ hc ?_)) (fun k4 hk4 => ?_)
  · rw [show q * 5 + (cc + 1) = j + 1 by omega]; exact hx
  refine ev_f2_1 4 (by decide) (fun w x => zMx K 0 (zL4 K 0 1 F j (zLy K 0 1 F j) w) 180 < t ∧ zE x (zL4 K 0 1 F j (zLy K 0 1 F j) w)) (fun w x ag4 hw4 hQ hag4 => ?_) hQ
  refine ev_g (by omega) (ev_if (fun c2 => hk4 _ ?_) (fun c2 => ?_))
  · have : w = 4 := by omega
    subst this
    exact hQ
  have hw : w < 4 := by omega
  refine ev_g (by omega) (ev_if (fun c3 => hk4 _ ?_) (fun c3 => ?_))
  · rw [zL4_bk (fun w hw => Or.inl c3) w (by omega)] at hQ
    show zMx K 0 (zL4 K 0 1 F j (zLy K 0 1 F j) 4) 180 < t ∧ zE _ (zL4 K 0 1 F j (zLy K 0 1 F j) 4)
    rw [zL4_bk (fun w hw => Or.inl c3) 4 (by omega)]
    exact hQ
  have cq := hC j (by omega)
  rw [jq] at cq
  have r := zN_rng (K := K) (q := q) (w := w) hq
  have dq := zwd_rng (K q)
  have gr := zL4_rng (K := K) (h := 0) (m := 1) (j := j) hF (zLy_rng (K := K) (h := 0) (m := 1) (by omega) hF j) w
  refine ev_c1 (e_M_gone hs hK hq hw) ?_
  refine ev_j1 (fun x => zMx K 0 (zL4 K 0 1 F j (zLy K 0 1 F j) (w + 1)) 180 < t ∧ zE x (zL4 K 0 1 F j (zLy K 0 1 F j) (w + 1))) (fun x hx => ev_n (hag4 _ hw hx)) (fun k5 hk5 => ?_)
  by_cases c4 : 0 ≤ zN K q w
  case neg =>
    rw [if_neg (fun x => c4 x.2)]
    have bb : zBk K 0 F j w := Or.inr (Or.inl (by rw [jq]; omega))
    refine ev_g (by decide) (ev_f (by decide) (hk5 _ ?_))
    show zMx K 0 (zRx K 0 1 F j w (zL4 K 0 1 F j (zLy K 0 1 F j) w)) 180 < t ∧ zE x (zRx K 0 1 F j w (zL4 K 0 1 F j (zLy K 0 1 F j) w))
    unfold zRx
    rw [if_pos bb]; exact hQ
  rw [if_pos ⟨cq, c4⟩]
  have nbk : ¬ zBk K 0 F j w := fun x => by
    rcases x with x | x | x
    · omega
    · rw [jq] at x; omega
    · exact zHu_0 x.1
  have vr := zVl_rng (K := K) (m := 1) (w := w) (show 0 ≤ F j by omega) fj.2
  refine ev_g (by omega) (ev_t c4 (ev_c1 (e_M_corner hs hK hq hc (by omega)) ?_))
  refine ev_j1 (fun v => v = zVl K 1 F j w) (fun v hv => ?_) (fun k6 hk6 => ?_)
  case refine_2 =>
    by_cases k : zCn K q cc w
    · rw [if_pos k]
      refine ev_g (by decide) (ev_f (by decide) (hk6 _ ?_))
      unfold zVl
      rw [jq, jc, if_pos k]
      rfl
    · rw [if_neg k]
      refine ev_g (by decide) (ev_t rfl (ev_c1 (e_M_words hs hK hq) (hk6 _ ?_)))
      unfold zVl
      rw [jq, jc, if_neg k]
  obtain ⟨u, et⟩ := Int.eq_ofNat_of_zero_le c4
  have hu : u < 36 := by omega
  have to : zTo K j w = u * 5 + w := by unfold zTo; rw [jq, et, Int.toNat_natCast]
  have t5 : (u * 5 + w) / 5 = u := by omega
  have du := zwd_rng (K u)
  have tl : u * 5 + w < 180 := by omega
  have up := zMx_up (K := K) (h := 0) (i := u * 5 + w) vr.1 (fun j => (gr j).1) 180
  have ht2 := zMx_hit (K := K) (h := 0) (m := 1) (b := 2 * (i : Int)) (by omega) hF hj hw nbk zHu_0
  rw [to, t5] at ht2
  rw [t5] at up
  have tt : u * 5 + w < 180 ∧ ¬ zHu K 0 u := ⟨tl, zHu_0⟩
  rw [if_pos tt] at up
  have gz : zL4 K 0 1 F j (zLy K 0 1 F j) (w + 1) = updI (zL4 K 0 1 F j (zLy K 0 1 F j) w) (u * 5 + w) (max (zL4 K 0 1 F j (zLy K 0 1 F j) w (u * 5 + w)) (zVl K 1 F j w)) := by
    show zRx K 0 1 F j w _ = _
    unfold zRx
    rw [if_neg nbk, to]
  have gt := gr (u * 5 + w)
  rw [gz, up] at hk5
  rw [et]
  subst hv
  generalize zL4 K 0 1 F j (zLy K 0 1 F j) w = G at *
  generalize zVl K 1 F j w = V at *
  refine ev_c1 (e_M_words hs hK hu) (ev_g (by omega) (ev_if (fun c5 => ?_) (fun c5 => ev_some ⟨?_, rfl⟩)))
  case refine_2 =>
    rw [if_pos c]; exact hit (by omega)
  refine ev_c1 e_M_at (ev_g (by omega) (ev_g (by omega) ?_))
  rw [Int.toNat_natCast, hQ.2 _ tl]
  have hm := hQ.1
  refine ev_g (by omega) (ev_if (fun c6 => hk5 _ ⟨by omega, fun j2 hj2 => ?_⟩) (fun c6 => ?_))
  · by_cases e : j2 = u * 5 + w
    · subst e; rw [updI_at, hQ.2 _ tl]; omega
    · rw [updI_ne _ _ e]; exact hQ.2 j2 hj2
  · refine ev_c1 e_M_at (ev_g (by omega) (ev_n (hk5 _ ⟨by omega, fun j2 hj2 => ?_⟩)))
    rw [Int.toNat_natCast]
    by_cases e : j2 = u * 5 + w
    · subst e; rw [updI_at, updI_at]; omega
    · rw [updI_ne _ _ e, updI_ne _ _ e]; exact hQ.2 j2 hj2
theorem m_talk {K s ra rb : Nat → Int} {a b : Int} (ish now th mo ne : Nat → Int) (hK : zK K) (hs : zR s K) (hr : iRef ra rb) (ha : zr a) (hb : zr b) : ev2 (g_X_talk ra ish now th K a b) (g_M_talk mo ne rb s a b) (fun x y => x.1 = y.1 ∧ iRef x.2.1 y.2.2.2) := by
  by_cases c : 0 ≤ a ∧ a < 36
  · by_cases c1 : 1 ≤ b
    · by_cases c2 : b ≤ 40
      · obtain ⟨p, rfl⟩ := Int.eq_ofNat_of_zero_le c.1
        have hp : p < 36 := by omega
        unfold g_X_talk
        refine e2_ev (ev_c1 (e_sqT ha c) (ev_g (by decide) (ev_f (by decide) (ev_g hb (ev_t c1 (ev_t c2 ?_))))))
        refine ev_b4 (e_stepsUncut hK ish now th hp hb) (fun r i2 n2 t2 hr2 => ev_some ?_)
        refine ev_mono (e_M_talk hs hK mo ne rb hp c1 c2) (fun y hy => ⟨?_, ?_⟩)
        · have h1 : if zcan (K p) then zTq K p b r else r = -9 := hr2
          have h2 := hy.1
          by_cases k : zcan (K p)
          · rw [if_pos k] at h1 h2; exact zTq_u h1 h2
          · rw [if_neg k] at h1 h2; exact h1.trans h2.symm
        · rw [hy.2]; exact hr
      · unfold g_M_talk
        refine r_c1 (e_wrong ha (by decide) hb (by decide)) ?_
        rw [if_pos c, if_pos c1, if_neg c2]
        unfold g_X_talk
        exact r_g (by decide) (r_f (by decide) (l_c1 (e_sqT ha c) (l_g (by decide) (l_f (by decide) (l_g hb (l_t c1 (l_f c2 (l_c2 (er_6 ra) (r_c2 (en_6 rb) (e2_some ⟨rfl, iRef_up hr 6 (by decide)⟩))))))))))
    · unfold g_M_talk
      refine r_c1 (e_wrong ha (by decide) hb (by decide)) ?_
      rw [if_pos c, if_neg c1]
      unfold g_X_talk
      exact r_g (by decide) (r_f (by decide) (l_c1 (e_sqT ha c) (l_g (by decide) (l_f (by decide) (l_g hb (l_f c1 (l_c2 (er_4 ra) (r_c2 (en_4 rb) (e2_some ⟨rfl, iRef_up hr 4 (by decide)⟩)))))))))
  · unfold g_M_talk
    refine r_c1 (e_wrong ha (by decide) hb (by decide)) ?_
    rw [if_neg c]
    unfold g_X_talk
    exact r_g (by decide) (r_f (by decide) (l_c1 (e_sqF ha c) (l_g (by decide) (l_t rfl (l_c2 (er_1 ra) (r_c2 (en_1 rb) (e2_some ⟨rfl, iRef_up hr 1 (by decide)⟩)))))))
