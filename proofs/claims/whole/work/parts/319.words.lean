-- own text: words, unheard: the reference
theorem e_M_at {q c : Nat} : g_M_at (q : Int) (c : Int) = some ((q * 5 + c : Nat) : Int) := by
  show some ((q : Int) * 5 + (c : Int)) = _
  congr 1
theorem e_fillM {g : Nat → Int} {v : Int} {ρ : Type} {P : ρ → Prop} {k : (Nat → Int) → Option ρ} (hk : ∀ y, zE y (fun _ => v) → ev (k y) P) : ev (zl2 (fun (l : Int) (g2 : Nat → Int) again => zg (zr l) <| if (180 : Int) ≤ l then (k g2) else (zg (0 ≤ l ∧ l < 180) <| zn (updI g2 l.toNat v) fun (g3 : Nat → Int) => zn (l + (1 : Int)) fun (x : Int) => again x g3)) zF (0 : Int) g) P := by
  refine ev_f2_1 180 (by decide) (fun i x => ∀ j, j < i → x j = v) (fun i x ag hi hQ hag => ?_) (fun j hj => absurd hj (Nat.not_lt_zero j))
  refine ev_g (by omega) (ev_if (fun c => hk x (fun j hj => hQ j (by omega))) (fun c => ?_))
  refine ev_g (by omega) (ev_n (ev_n (hag _ (by omega) (fun j hj => ?_))))
  rw [Int.toNat_natCast]
  by_cases e : j = i
  · subst e; rw [updI_at]
  · rw [updI_ne _ _ e]; exact hQ j (by omega)
theorem e_copyM {g src F : Nat → Int} {ρ : Type} {P : ρ → Prop} {k : (Nat → Int) → Option ρ} (hs : zE src F) (hk : ∀ y, zE y F → ev (k y) P) : ev (zl2 (fun (l : Int) (g2 : Nat → Int) again => zg (zr l) <| if (180 : Int) ≤ l then (k g2) else (zg (0 ≤ l ∧ l < 180) <| zn (src l.toNat) fun (v : Int) => zn (updI g2 l.toNat v) fun (g3 : Nat → Int) => zn (l + (1 : Int)) fun (x : Int) => again x g3)) zF (0 : Int) g) P := by
  refine ev_f2_1 180 (by decide) (fun i x => ∀ j, j < i → x j = F j) (fun i x ag hi hQ hag => ?_) (fun j hj => absurd hj (Nat.not_lt_zero j))
  refine ev_g (by omega) (ev_if (fun c => hk x (fun j hj => hQ j (by omega))) (fun c => ?_))
  refine ev_g (by omega) (ev_n (ev_n (ev_n (hag _ (by omega) (fun j hj => ?_)))))
  rw [Int.toNat_natCast]
  by_cases e : j = i
  · subst e; rw [updI_at]; exact hs j (by omega)
  · rw [updI_ne _ _ e]; exact hQ j (by omega)
theorem e_M_mostIn {s K : Nat → Int} (hs : zR s K) (hK : zK K) (mo ne : Nat → Int) {h : Int} (hh : zr h) {p : Nat} (hp : p < 36) {n : Int} (hn0 : 0 ≤ n) (hn1 : n ≤ 20) : ev (g_M_mostIn mo ne s (p : Int) n h) (fun r => r.1 = if ¬ zcan (K p) ∨ zHu K h p then -9 else zBe K h 0 p n.toNat) := by
  unfold g_M_mostIn
  refine ev_c1 (e_M_canBe hs hK hp) ?_
  by_cases c : zcan (K p)
  case neg =>
    rw [if_neg c]
    exact ev_g (by decide) (ev_t rfl (ev_some (by rw [if_pos (Or.inl c)])))
  rw [if_pos c]
  refine ev_g (by decide) (ev_f (by decide) ?_)
  have d := zwd_rng (K p)
  have hb0 := zHB_rng K p
  refine ev_j1 (fun _ => ¬ zHu K h p) (fun _ nu => ?_) (fun k2 hk => ?_)
  case refine_2 =>
    refine ev_g hh (ev_if (fun x => hk () (fun y => y.1 x)) (fun x => ev_c1 (e_M_isHeard hs hK hp) ?_))
    by_cases hb : 0 < zHB K p
    · rw [if_pos hb]
      refine ev_g (by decide) (ev_f (by decide) (ev_c1 (e_M_words hs hK hp) (ev_g (by omega) (ev_if (fun y => hk () (fun z => by have := z.2.1; omega)) (fun y => ev_some ?_)))))
      rw [if_pos (Or.inr ⟨x, by omega, hb⟩)]
    · rw [if_neg hb]
      exact ev_g (by decide) (ev_t rfl (hk () (fun z => hb z.2.2)))
  refine ev_j1 (fun y => zE y (fun _ => -1)) (fun y hy => ?_) (fun k2 hk => e_fillM hk)
  refine ev_c1 (e_M_at (q := p) (c := 4)) (ev_g (by omega) (ev_n (ev_c1 (e_M_words hs hK hp) ?_)))
  rw [Int.toNat_natCast]
  have z0 : zE (updI y (p * 5 + 4) 0) (zTr K h 0 p 0) := zE_up (G := fun _ => -1) hy _ _
  refine ev_f4_2 21 (by decide) (fun i v x y => (i : Int) ≤ n ∧ v = zBe K h 0 p i ∧ zE x (zTr K h 0 p i)) (fun i v x y ag hi8 hQ hag => ?_) ⟨by omega, by show _ = zMx K h (zTr K h 0 p 0) 180; rw [zMx_0 hp, if_neg nu], z0⟩
  obtain ⟨i1, i2, i3⟩ := hQ
  refine ev_g (by omega) (ev_g (by omega) (ev_if (fun c1 => ev_some ?_) (fun c1 => ?_)))
  · have e : i = n.toNat := by omega
    show v = _
    rw [← e, if_neg (by intro x; rcases x with x | x; exact x c; exact nu x)]; exact i2
  have hF := zTr_rng (K := K) (h := h) (m := 0) (p := p) i
  have hC := zTr_can (K := K) (h := h) (m := 0) (p := p) c i
  have bq := zBe_rng (K := K) (h := h) (m := 0) (p := p) i
  have zs : zTr K h 0 p (i + 1) = zLy K h 0 (zTr K h 0 p i) 180 := rfl
  have bs : zBe K h 0 p (i + 1) = max (zBe K h 0 p i) (zMx K h (zTr K h 0 p (i + 1)) 180) := rfl
  rw [zs] at bs
  rw [zs, bs] at hag
  clear zs bs
  generalize zTr K h 0 p i = F at hF hC i3 hag
  refine ev_j1 (fun y => zE y (fun _ => -1)) (fun y hy => ?_) (fun k2 hk => e_fillM hk)
  refine ev_j2 (fun b y => b = max (zBe K h 0 p i) (zMx K h (zLy K h 0 F 180) 180) ∧ zE y (zLy K h 0 F 180)) (fun b y hy => ?_) (fun k2 hk => ?_)
  · refine ev_j1 (fun z => zE z (zLy K h 0 F 180)) (fun z hz => ev_n (hag _ _ _ (by omega) ⟨by omega, hy.1, hz⟩)) (fun k2 hk => e_copyM hy.2 hk)
  refine ev_f3_2 36 (by decide) (fun q b x => b = max (zBe K h 0 p i) (zMx K h (zLy K h 0 F (q * 5)) 180) ∧ zE x (zLy K h 0 F (q * 5))) (fun q b x ag2 hq36 hQ hag2 => ?_) ⟨by show v = max _ (zMx K h (zLy K h 0 F 0) 180); show v = max _ (zMx K h (fun _ => -1) 180); rw [zMx_none]; omega, hy⟩
  refine ev_g (by omega) (ev_if (fun c2 => hk _ _ ?_) (fun c2 => ?_))
  · have : q = 36 := by omega
    subst this
    exact hQ
  have hq : q < 36 := by omega
  refine ev_j2 (fun b x => b = max (zBe K h 0 p i) (zMx K h (zLy K h 0 F (q * 5 + 5)) 180) ∧ zE x (zLy K h 0 F (q * 5 + 5))) (fun b x hx => ev_n (hag2 _ _ hq ?_)) (fun k3 hk3 => ?_)
  · rw [show (q + 1) * 5 = q * 5 + 5 by omega]; exact hx
  refine ev_f3_2 5 (by decide) (fun c b x => b = max (zBe K h 0 p i) (zMx K h (zLy K h 0 F (q * 5 + c)) 180) ∧ zE x (zLy K h 0 F (q * 5 + c))) (fun cc b x ag3 hc5 hQ hag3 => ?_) hQ
  refine ev_g (by omega) (ev_if (fun c2 => hk3 _ _ ?_) (fun c2 => ?_))
  · have : cc = 5 := by omega
    subst this
    exact hQ
  have hc : cc < 5 := by omega
  obtain ⟨j, ej⟩ : ∃ j, j = q * 5 + cc := ⟨_, rfl⟩
  have hj : j < 180 := by omega
  have jq : j / 5 = q := by omega
  have jc : j % 5 = cc := by omega
  refine ev_c1 e_M_at (ev_g (by omega) (ev_n ?_))
  rw [Int.toNat_natCast, ← ej, i3 j hj]
  rw [← ej] at hQ
  have fj := hF j
  refine ev_j2 (fun b x => b = max (zBe K h 0 p i) (zMx K h (zLy K h 0 F (j + 1)) 180) ∧ zE x (zLy K h 0 F (j + 1))) (fun b x hx => ev_n (hag3 _ _ hc ?_)) (fun k4 hk4 => ?_)
  · rw [show q * 5 + (cc + 1) = j + 1 by omega]; exact hx
  refine ev_f3_2 4 (by decide) (fun w b x => b = max (zBe K h 0 p i) (zMx K h (zL4 K h 0 F j (zLy K h 0 F j) w) 180) ∧ zE x (zL4 K h 0 F j (zLy K h 0 F j) w)) (fun w b x ag4 hw4 hQ hag4 => ?_) hQ
  refine ev_g (by omega) (ev_if (fun c2 => hk4 _ _ ?_) (fun c2 => ?_))
  · have : w = 4 := by omega
    subst this
    exact hQ
  have hw : w < 4 := by omega
  refine ev_g (by omega) (ev_if (fun c3 => hk4 _ _ ?_) (fun c3 => ?_))
  · rw [zL4_bk (fun w hw => Or.inl c3) w (by omega)] at hQ
    show _ = max _ (zMx K h (zL4 K h 0 F j (zLy K h 0 F j) 4) 180) ∧ zE _ (zL4 K h 0 F j (zLy K h 0 F j) 4)
    rw [zL4_bk (fun w hw => Or.inl c3) 4 (by omega)]
    exact hQ
  have cq := hC j (by omega)
  rw [jq] at cq
  have r := zN_rng (K := K) (q := q) (w := w) hq
  have dq := zwd_rng (K q)
  have gr := zL4_rng (K := K) (h := h) (m := 0) (j := j) hF (zLy_rng (K := K) (h := h) (m := 0) (by omega) hF j) w
  have mr := zMx_rng (K := K) (h := h) (by omega) gr 180
  refine ev_c1 (e_M_gone hs hK hq hw) (ev_c1 (e_M_said hs hK hq hc (by omega)) ?_)
  refine ev_j2 (fun b x => b = max (zBe K h 0 p i) (zMx K h (zL4 K h 0 F j (zLy K h 0 F j) (w + 1)) 180) ∧ zE x (zL4 K h 0 F j (zLy K h 0 F j) (w + 1))) (fun b x hx => ev_n (hag4 _ _ hw hx)) (fun k5 hk5 => ?_)
  have bk : zBk K h F j w → b = max (zBe K h 0 p i) (zMx K h (zL4 K h 0 F j (zLy K h 0 F j) (w + 1)) 180) ∧ zE x (zL4 K h 0 F j (zLy K h 0 F j) (w + 1)) := fun bb => by
    show b = max _ (zMx K h (zRx K h 0 F j w (zL4 K h 0 F j (zLy K h 0 F j) w)) 180) ∧ zE x (zRx K h 0 F j w (zL4 K h 0 F j (zLy K h 0 F j) w))
    unfold zRx
    rw [if_pos bb]; exact hQ
  by_cases c4 : 0 ≤ zN K q w
  case neg =>
    rw [if_neg (fun x => c4 x.2)]
    exact ev_g (by decide) (ev_t (by decide) (hk5 _ _ (bk (Or.inr (Or.inl (by rw [jq]; omega))))))
  rw [if_pos ⟨cq, c4⟩]
  refine ev_g (by omega) (ev_f (by omega) ?_)
  have vle : (if cc ≠ 4 ∧ cc ≠ w ∧ ztn (K q) then 0 else zwd (K q)) = zVl K 0 F j w - F j := by
    unfold zVl
    rw [jq, jc]
    by_cases k : zCn K q cc w
    · rw [if_pos k, if_pos k, if_pos rfl]; omega
    · rw [if_neg k, if_neg k]; omega
  refine ev_j1 (fun _ => ¬ (zHu K h q ∧ ¬ zCn K q cc w)) (fun _ nb => ?_) (fun k6 hk6 => ?_)
  case refine_2 =>
    refine ev_g hh (ev_if (fun x => hk6 () (fun y => y.1.1 x)) (fun x => ?_))
    by_cases k : zCn K q cc w
    · rw [if_pos k]
      exact ev_g (by decide) (ev_t (by decide) (hk6 () (fun y => y.2 k)))
    · rw [if_neg k]
      refine ev_g (by omega) (ev_if (fun y => hk6 () (fun z => by have := z.1.2.1; omega)) (fun y => ev_c1 (e_M_isHeard hs hK hq) ?_))
      by_cases hb : 0 < zHB K q
      · rw [if_pos hb]
        exact ev_g (by decide) (ev_f (by decide) (hk5 _ _ (bk (Or.inr (Or.inr (by rw [jq, jc]; exact ⟨⟨x, by omega, hb⟩, k⟩))))))
      · rw [if_neg hb]
        exact ev_g (by decide) (ev_t rfl (hk6 () (fun z => hb z.1.2.2)))
  have nbk : ¬ zBk K h F j w := fun x => by
    rcases x with x | x | x
    · omega
    · rw [jq] at x; omega
    · rw [jq, jc] at x; exact nb x
  have vr := zVl_rng (K := K) (m := 0) (w := w) (show 0 ≤ F j by omega) fj.2
  obtain ⟨t, et⟩ := Int.eq_ofNat_of_zero_le c4
  have ht : t < 36 := by omega
  have to : zTo K j w = t * 5 + w := by unfold zTo; rw [jq, et, Int.toNat_natCast]
  have t5 : (t * 5 + w) / 5 = t := by omega
  have dt := zwd_rng (K t)
  have up := zMx_up (K := K) (h := h) (i := t * 5 + w) vr.1 (fun j => (gr j).1) 180
  rw [t5] at up
  have gz : zL4 K h 0 F j (zLy K h 0 F j) (w + 1) = updI (zL4 K h 0 F j (zLy K h 0 F j) w) (t * 5 + w) (max (zL4 K h 0 F j (zLy K h 0 F j) w (t * 5 + w)) (zVl K 0 F j w)) := by
    show zRx K h 0 F j w _ = _
    unfold zRx
    rw [if_neg nbk, to]
  have gt := gr (t * 5 + w)
  rw [gz, up] at hk5
  rw [et, vle, show F j + (zVl K 0 F j w - F j) = zVl K 0 F j w by omega]
  generalize zL4 K h 0 F j (zLy K h 0 F j) w = G at *
  generalize zVl K 0 F j w = V at *
  refine ev_c1 e_M_at (ev_g (by omega) ?_)
  rw [Int.toNat_natCast]
  refine ev_j1 (fun y => zE y (updI G (t * 5 + w) (max (G (t * 5 + w)) V))) (fun y hy => ?_) (fun k7 hk7 => ?_)
  · refine ev_j1 (fun _ => ¬ zHu K h t) (fun _ nu2 => ?_) (fun k8 hk8 => ?_)
    · refine ev_c1 (e_M_words hs hK ht) ?_
      have tl : t * 5 + w < 180 ∧ ¬ zHu K h t := ⟨by omega, nu2⟩
      rw [if_pos tl] at hk5
      refine ev_j1 (fun v2 => v2 = max b (V + zwd (K t))) (fun v2 hv2 => hk5 _ _ ⟨by rw [hv2, hQ.1]; omega, hy⟩) (fun k9 hk9 => ?_)
      exact ev_g (by omega) (ev_g (by omega) (ev_if (fun c5 => hk9 _ (by omega)) (fun c5 => ev_c1 (e_M_words hs hK ht) (hk9 _ (by omega)))))
    · have nh : zHu K h t → b = max (zBe K h 0 p i) (if t * 5 + w < 180 ∧ ¬ zHu K h t then max (zMx K h G 180) (V + zwd (K t)) else zMx K h G 180) := fun u => by
        rw [if_neg (fun x => x.2 u)]; exact hQ.1
      refine ev_g hh (ev_if (fun x => hk8 () (fun y => y.1 x)) (fun x => ev_c1 (e_M_words hs hK ht) (ev_g (by omega) (ev_if (fun y => hk8 () (fun z => by have := z.2.1; omega)) (fun y => ev_c1 (e_M_isHeard hs hK ht) ?_)))))
      by_cases hb : 0 < zHB K t
      · rw [if_pos hb]
        exact ev_g (by decide) (ev_f (by decide) (hk5 _ _ ⟨nh ⟨x, by omega, hb⟩, hy⟩))
      · rw [if_neg hb]
        exact ev_g (by decide) (ev_t rfl (hk8 () (fun z => hb z.2.2)))
  · have tl : t * 5 + w < 180 := by omega
    rw [hQ.2 _ tl]
    refine ev_g (by omega) (ev_g (by omega) (ev_if (fun c5 => hk7 _ (fun j2 hj2 => ?_)) (fun c5 => ?_)))
    · by_cases e : j2 = t * 5 + w
      · subst e; rw [updI_at, hQ.2 _ tl]; omega
      · rw [updI_ne _ _ e]; exact hQ.2 j2 hj2
    · refine ev_c1 e_M_at (ev_n (ev_g (by omega) (ev_n (hk7 _ (fun j2 hj2 => ?_)))))
      rw [Int.toNat_natCast]
      by_cases e : j2 = t * 5 + w
      · subst e; rw [updI_at, updI_at]; omega
      · rw [updI_ne _ _ e, updI_ne _ _ e]; exact hQ.2 j2 hj2
