-- own text: steps; the class's spreading
def Wk (K : Nat → Int) (A : Nat → Prop) : Nat → Nat → Prop
  | 0, t => t < 36 ∧ zcan (K t) ∧ A t
  | n + 1, t => ∃ u w : Nat, u < 36 ∧ w < 4 ∧ Wk K A n u ∧ zN K u w = (t : Int)
theorem Wk_can {K : Nat → Int} {A : Nat → Prop} : ∀ {n t : Nat}, Wk K A n t → t < 36 ∧ zcan (K t)
  | 0, _, h => ⟨h.1, h.2.1⟩
  | n + 1, t, ⟨u, w, h1, h2, h3, h4⟩ => by
    have r := zN_rng (K := K) (w := w) h1
    rw [h4] at r
    exact ⟨by omega, by have := r.2.2 (by omega); rw [Int.toNat_natCast] at this; exact this⟩
def Dist (K : Nat → Int) (A : Nat → Prop) (t n : Nat) : Prop := Wk K A n t ∧ ∀ m, Wk K A m t → n ≤ m
theorem Dist_one {K : Nat → Int} {A : Nat → Prop} {t n m : Nat} (h1 : Dist K A t n) (h2 : Dist K A t m) : n = m := Nat.le_antisymm (h1.2 m h2.1) (h2.2 n h1.1)
theorem relax_le {K : Nat → Int} {A : Nat → Prop} {f : Nat → Int} {R : Nat → Prop} (h0 : ∀ t, Wk K A 0 t → R t ∧ f t ≤ 0) (h1 : ∀ u w t : Nat, u < 36 → w < 4 → R u → zN K u w = (t : Int) → R t ∧ f t ≤ f u + 1) : ∀ n t, Wk K A n t → R t ∧ f t ≤ n := by
  intro n
  induction n with
  | zero => intro t h; exact h0 t h
  | succ n ih =>
    intro t h
    obtain ⟨u, w, a1, a2, a3, a4⟩ := h
    obtain ⟨b1, b2⟩ := ih u a3
    obtain ⟨c1, c2⟩ := h1 u w t a1 a2 b1 a4
    exact ⟨c1, by omega⟩
theorem bfs_exact {K : Nat → Int} {A : Nat → Prop} {f : Nat → Int} {R : Nat → Prop} (h0 : ∀ t, Wk K A 0 t → R t ∧ f t ≤ 0) (h1 : ∀ u w t : Nat, u < 36 → w < 4 → R u → zN K u w = (t : Int) → R t ∧ f t ≤ f u + 1) (hv : ∀ t, R t → t < 36 → ∃ n : Nat, f t = n ∧ Wk K A n t) {t : Nat} (ht : t < 36) : (¬ R t → ∀ n, ¬ Wk K A n t) ∧ (R t → ∃ n : Nat, f t = n ∧ Dist K A t n) := by
  have key := relax_le h0 h1
  refine ⟨fun h n hn => h (key n t hn).1, fun h => ?_⟩
  obtain ⟨n, e, hw⟩ := hv t h ht
  exact ⟨n, e, hw, fun m hm => by have := (key m t hm).2; omega⟩
theorem cnt_add {p p' : Nat → Prop} [DecidablePred p] [DecidablePred p'] {t : Nat} (hp : ¬ p t) (h : ∀ i, p' i ↔ (p i ∨ i = t)) : ∀ n, cnt p' n = cnt p n + (if t < n then 1 else 0)
  | 0 => by rw [if_neg (Nat.not_lt_zero t)]; rfl
  | n + 1 => by
    have ih := cnt_add hp h n
    rw [cnt_s, cnt_s, ih]
    by_cases e : n = t
    · subst e
      rw [if_neg (Nat.lt_irrefl n), if_pos ((h n).mpr (Or.inr rfl)), if_neg hp, if_pos (show n < n + 1 by omega)]
      try omega
    · have e2 : p' n ↔ p n := ⟨fun x => ((h n).mp x).elim id (fun y => absurd y e), fun x => (h n).mpr (Or.inl x)⟩
      by_cases hn : p n
      · rw [if_pos hn, if_pos (e2.mpr hn)]
        by_cases l : t < n
        · rw [if_pos l, if_pos (show t < n + 1 by omega)]; try omega
        · rw [if_neg l, if_neg (show ¬ t < n + 1 by omega)]; try omega
      · rw [if_neg hn, if_neg (fun x => hn (e2.mp x))]
        by_cases l : t < n
        · rw [if_pos l, if_pos (show t < n + 1 by omega)]; try omega
        · rw [if_neg l, if_neg (show ¬ t < n + 1 by omega)]; try omega
theorem cnt_miss {p : Nat → Prop} [DecidablePred p] {t n : Nat} (hp : ¬ p t) (ht : t < n) : cnt p n + 1 ≤ n := by
  have h := cnt_add (p' := fun i => p i ∨ i = t) hp (fun i => Iff.rfl) n
  have r := cnt_rng (fun i => p i ∨ i = t) n
  rw [if_pos ht] at h
  omega
/-- what is reached, and the row of what is reached -/
def bB (K : Nat → Int) (A : Nat → Prop) (c : Int) (come far : Nat → Int) : Prop :=
  c = cnt (fun t => 0 ≤ far t) 36 ∧
  (∀ t, t < 36 → far t = -9 ∨ ∃ n : Nat, far t = n ∧ Wk K A n t ∧ ∃ j : Nat, (j : Int) < c ∧ come j = t) ∧
  (∀ j : Nat, (j : Int) < c → ∃ u : Nat, u < 36 ∧ come j = u ∧ 0 ≤ far u ∧ far u ≤ j) ∧
  (∀ (j k u v : Nat), j ≤ k → (k : Int) < c → come j = u → come k = v → far u ≤ far v)
theorem bB_c {K : Nat → Int} {A : Nat → Prop} {c : Int} {come far : Nat → Int} (h : bB K A c come far) : 0 ≤ c ∧ c ≤ 36 := by
  have := cnt_rng (fun t => 0 ≤ far t) 36
  have := h.1
  omega
theorem bB_far {K : Nat → Int} {A : Nat → Prop} {c : Int} {come far : Nat → Int} (h : bB K A c come far) {t : Nat} (ht : t < 36) : far t = -9 ∨ (0 ≤ far t ∧ far t ≤ 36) := by
  rcases h.2.1 t ht with e | ⟨n, e, _, j, hj, ej⟩
  · exact Or.inl e
  · obtain ⟨u, _, eu, f0, f1⟩ := h.2.2.1 j hj
    have : u = t := by omega
    subst this
    have := (bB_c h).2
    exact Or.inr ⟨f0, by omega⟩
/-- a square more -/
theorem bB_add {K : Nat → Int} {A : Nat → Prop} {c : Int} {come far : Nat → Int} (h : bB K A c come far) {t n : Nat} (ht : t < 36) (hf : far t = -9) (hw : Wk K A n t) (hn : (n : Int) ≤ c) (hm : ∀ (j u : Nat), (j : Int) < c → come j = u → far u ≤ n) : c < 36 ∧ bB K A (c + 1) (updI come c.toNat t) (updI far t n) := by
  have hc := bB_c h
  obtain ⟨h1, h2, h3, h4⟩ := h
  have lt : c < 36 := by
    have := cnt_miss (p := fun t => 0 ≤ far t) (t := t) (n := 36) (by show ¬ 0 ≤ far t; omega) ht
    omega
  have ne : ∀ u : Nat, 0 ≤ far u → updI far t n u = far u := fun u hu => updI_ne _ _ (fun e => by rw [e] at hu; omega)
  have nc : ∀ j : Nat, (j : Int) < c → updI come c.toNat t j = come j := fun j hj => updI_ne _ _ (by omega)
  have cc : updI come c.toNat t c.toNat = t := updI_at _ _ _
  have tt : updI far t n t = n := updI_at _ _ _
  refine ⟨lt, ?_, ?_, ?_, ?_⟩
  · rw [cnt_add (p := fun u => 0 ≤ far u) (p' := fun u => 0 ≤ updI far t n u) (t := t) (by show ¬ 0 ≤ far t; omega) (fun i => ?_) 36, if_pos ht, ← h1]
    show 0 ≤ updI far t n i ↔ (0 ≤ far i ∨ i = t)
    by_cases e : i = t
    · subst e; rw [tt]; exact ⟨fun _ => Or.inr rfl, fun _ => by omega⟩
    · rw [updI_ne _ _ e]; exact ⟨Or.inl, fun x => x.elim id (fun y => absurd y e)⟩
  · intro u hu
    by_cases e : u = t
    · subst e; exact Or.inr ⟨n, tt, hw, c.toNat, by omega, cc⟩
    · rw [updI_ne _ _ e]
      rcases h2 u hu with x | ⟨m, x1, x2, j, x3, x4⟩
      · exact Or.inl x
      · exact Or.inr ⟨m, x1, x2, j, by omega, by rw [nc j x3]; exact x4⟩
  · intro j hj
    by_cases e : (j : Int) < c
    · obtain ⟨u, u1, u2, u3, u4⟩ := h3 j e
      exact ⟨u, u1, by rw [nc j e]; exact u2, by rw [ne u u3]; exact u3, by rw [ne u u3]; exact u4⟩
    · have : j = c.toNat := by omega
      subst this
      exact ⟨t, ht, cc, by rw [tt]; omega, by rw [tt]; omega⟩
  · intro j k u v hjk hk eu ev
    have full : ∀ (i x : Nat), (i : Int) < c → come i = x → 0 ≤ far x := fun i x hi ex => by
      obtain ⟨y, _, y2, y3, _⟩ := h3 i hi
      have : x = y := by omega
      rw [this]; exact y3
    by_cases e : (k : Int) < c
    · rw [nc j (by omega)] at eu
      rw [nc k e] at ev
      rw [ne u (full j u (by omega) eu), ne v (full k v e ev)]
      exact h4 j k u v hjk e eu ev
    · have ek : k = c.toNat := by omega
      subst ek
      rw [cc] at ev
      have : v = t := by omega
      subst this
      rw [tt]
      by_cases e2 : (j : Int) < c
      · rw [nc j e2] at eu
        rw [ne u (full j u e2 eu)]
        exact hm j u e2 eu
      · have : j = c.toNat := by omega
        subst this
        rw [cc] at eu
        have : u = v := by omega
        subst this
        rw [tt]
        exact Int.le_refl _
theorem e_reachAt {c v : Int} {come far : Nat → Int} {t : Nat} (ht : t < 36) (hz : zr (far t)) (hc : 0 ≤ c ∧ c < 100) : g_Reach_reachAt c come far (t : Int) v = some (if far t = -9 then (c + 1, (if c < 36 then updI come c.toNat t else come), updI far t v) else (c, come, far)) := by
  refine ev_is ?_
  unfold g_Reach_reachAt
  refine ev_c1 (e_atN (by decide) ht) (ev_g hz (ev_if (fun h => ?_) (fun h => ?_)))
  · rw [if_pos h]
    refine ev_c1 (v1 := updI far t v) (by rw [e_put (n := 36) (by decide) ⟨by omega, by omega⟩, if_pos (by omega), Int.toNat_natCast]) (ev_c1 (e_put (n := 36) (by decide) ⟨by omega, by omega⟩) (ev_n (ev_some ?_)))
    by_cases h2 : c < 36
    · rw [if_pos h2, if_pos (by omega)]
    · rw [if_neg h2, if_neg (by omega)]
  · rw [if_neg h]
    exact ev_some rfl
/-- the squares from which all is gone on from -/
def bD (K : Nat → Int) (far : Nat → Int) (u : Nat) (w0 : Nat) : Prop := ∀ w t : Nat, w < w0 → zN K u w = (t : Int) → 0 ≤ far t ∧ far t ≤ far u + 1
def bExact (K : Nat → Int) (A : Nat → Prop) (far : Nat → Int) : Prop := ∀ t, t < 36 → (far t = -9 ∧ ∀ n, ¬ Wk K A n t) ∨ ∃ n : Nat, far t = n ∧ n ≤ 36 ∧ Dist K A t n
theorem e_spread {K : Nat → Int} {A : Nat → Prop} (hK : zK K) {c : Int} {come far : Nat → Int} (hB : bB K A c come far) (hs : ∀ t, Wk K A 0 t → far t = 0) (h0 : ∀ t, t < 36 → far t ≤ 0) : ev (g_Reach_spread c come far K) (fun r => bExact K A r.2.2) := by
  unfold g_Reach_spread
  refine ev_f4_1 36 (by decide) (fun i c come far => bB K A c come far ∧ (i : Int) ≤ c ∧ (∀ t, Wk K A 0 t → far t = 0) ∧ (∀ (j u : Nat), j < i → come j = u → bD K far u 4) ∧ (∀ (k u v : Nat), (i : Int) < c → (k : Int) < c → come i = u → come k = v → far v ≤ far u + 1)) (fun i c come far ag hi hQ hag => ?_) ⟨hB, (bB_c hB).1, hs, fun j u hj => absurd hj (Nat.not_lt_zero j), fun k u v a1 a2 a3 a4 => ?_⟩
  · obtain ⟨b1, b2, b3, b4, b5⟩ := hQ
    have hc := bB_c b1
    refine ev_g (by omega) (ev_g (by omega) (ev_if (fun h => ?_) (fun h => ?_)))
    · refine ev_some ?_
      show bExact K A far
      intro t ht
      have ex := bfs_exact (K := K) (A := A) (f := far) (R := fun t => 0 ≤ far t) (fun t h => by rw [b3 t h]; exact ⟨Int.le_refl 0, Int.le_refl 0⟩) (fun u w t hu hw hR e => by
        rcases b1.2.1 u hu with x | ⟨n, _, _, j, x3, x4⟩
        · rw [x] at hR; exact absurd hR (by decide)
        · exact b4 j u (by omega) x4 w t hw e) (fun t hR ht => by
        rcases b1.2.1 t ht with x | ⟨n, x1, x2, _⟩
        · rw [x] at hR; exact absurd hR (by decide)
        · exact ⟨n, x1, x2⟩) ht
      rcases bB_far b1 ht with x | x
      · exact Or.inl ⟨x, ex.1 (by show ¬ 0 ≤ far t; omega)⟩
      · obtain ⟨n, e, hd⟩ := ex.2 x.1
        exact Or.inr ⟨n, e, by omega, hd⟩
    · refine ev_f (by omega) ?_
      obtain ⟨u, u1, u2, u3, u4⟩ := b1.2.2.1 i (by omega)
      have hi2 : i < 36 := by omega
      refine ev_c1 (by rw [e_atN (by decide) hi2, u2]) (ev_i3 ?_)
      refine ev_f4_1 4 (by decide) (fun w c come far2 => bB K A c come far2 ∧ (i : Int) < c ∧ (∀ t, Wk K A 0 t → far2 t = 0) ∧ come i = u ∧ far2 u = far u ∧ (∀ (j v : Nat), j < i → come j = v → bD K far2 v 4) ∧ bD K far2 u w ∧ (∀ (k v : Nat), (k : Int) < c → come k = v → far2 v ≤ far u + 1)) (fun w c come far2 ag2 hw hQ2 hag2 => ?_) ⟨b1, by omega, b3, u2, rfl, b4, fun w t hw => absurd hw (Nat.not_lt_zero w), fun k v hk ek => b5 k u v (by omega) hk u2 ek⟩
      obtain ⟨d1, d2, d3, d4, d5, d6, d7, d8⟩ := hQ2
      have hc2 := bB_c d1
      refine ev_g (by omega) (ev_if (fun h4 => ?_) (fun h4 => ?_))
      · have : w = 4 := by omega
        subst this
        refine ev_n (hag c come far2 hi2 ⟨d1, by omega, d3, fun j v hj ej => ?_, fun k v x a1 a2 a3 a4 => ?_⟩)
        · by_cases e : j = i
          · subst e
            have : v = u := by omega
            subst this
            exact d7
          · exact d6 j v (by omega) ej
        · have m1 := d1.2.2.2 i (i + 1) u v (by omega) (by omega) d4 a3
          have m2 := d8 k x a2 a4
          omega
      · have hw2 : w < 4 := by omega
        have r := zN_rng (K := K) (w := w) u1
        refine ev_c1 (e_next hK u1 hw2) (ev_i3 (ev_g (by omega) (ev_if (fun h5 => ?_) (fun h5 => ?_))))
        · refine ev_n (hag2 c come far2 hw2 ⟨d1, d2, d3, d4, d5, d6, fun w' t hw' e => ?_, d8⟩)
          by_cases ew : w' = w
          · subst ew; omega
          · exact d7 w' t (by omega) e
        · obtain ⟨t, et⟩ := Int.eq_ofNat_of_zero_le (show 0 ≤ zN K u w by omega)
          have ht : t < 36 := by omega
          rw [et]
          have ft := bB_far d1 ht
          have fu : ∃ n : Nat, far2 u = n ∧ Wk K A n u := by
            rcases d1.2.1 u u1 with x | ⟨n, x1, x2, _⟩
            · omega
            · exact ⟨n, x1, x2⟩
          obtain ⟨n, n1, n2⟩ := fu
          refine ev_c1 (by rw [e_atN (by decide) u1]) ?_
          have ra := e_reachAt (v := far2 u + 1) (come := come) ht (show zr (far2 t) by omega) (show 0 ≤ c ∧ c < 100 by omega)
          by_cases h6 : far2 t = -9
          · have li : far2 u ≤ i := by
              obtain ⟨x, _, x2, _, x4⟩ := d1.2.2.1 i d2
              have : x = u := by omega
              rw [← this]; exact x4
            obtain ⟨lt, nB⟩ := bB_add d1 (n := n + 1) ht h6 ⟨u, w, u1, hw2, n2, et⟩ (by omega) (fun j x hj ex => by have := d8 j x hj ex; omega)
            have en : far2 u + 1 = ((n + 1 : Nat) : Int) := by omega
            rw [if_pos h6, if_pos lt, en] at ra
            have ne : ∀ x : Nat, 0 ≤ far2 x → updI far2 t ((n + 1 : Nat) : Int) x = far2 x := fun x hx => updI_ne _ _ (fun e => by rw [e] at hx; omega)
            have nc : ∀ j : Nat, (j : Int) < c → updI come c.toNat (t : Int) j = come j := fun j hj => updI_ne _ _ (by omega)
            have tt : updI far2 t ((n + 1 : Nat) : Int) t = ((n + 1 : Nat) : Int) := updI_at _ _ _
            have uu := ne u (by omega)
            rw [en]
            refine ev_c3 ra (ev_n (hag2 (c + 1) _ _ hw2 ⟨nB, by omega, fun x hx => ?_, ?_, ?_, fun j v hj ej => ?_, fun w' x hw' e => ?_, fun k v hk ek => ?_⟩))
            · rw [ne x (by rw [d3 x hx]; exact Int.le_refl 0)]; exact d3 x hx
            · rw [nc i d2]; exact d4
            · rw [uu]; exact d5
            · rw [nc j (by omega)] at ej
              have hv : 0 ≤ far2 v := by
                obtain ⟨y, _, y2, y3, _⟩ := d1.2.2.1 j (by omega)
                have : y = v := by omega
                rw [← this]; exact y3
              intro w' x hw' e
              have q := d6 j v hj ej w' x hw' e
              rw [ne x q.1, ne v hv]
              exact q
            · by_cases ew : w' = w
              · subst ew
                have : x = t := by omega
                subst this
                rw [tt, uu]; omega
              · have q := d7 w' x (by omega) e
                rw [ne x q.1, uu]
                exact q
            · by_cases e : (k : Int) < c
              · rw [nc k e] at ek
                have hv : 0 ≤ far2 v := by
                  obtain ⟨y, _, y2, y3, _⟩ := d1.2.2.1 k e
                  have : y = v := by omega
                  rw [← this]; exact y3
                rw [ne v hv]
                exact d8 k v e ek
              · have : k = c.toNat := by omega
                subst this
                rw [updI_at] at ek
                have : v = t := by omega
                subst this
                rw [tt]; omega
          · rw [if_neg h6] at ra
            have ft2 : 0 ≤ far2 t := by omega
            refine ev_c3 ra (ev_n (hag2 c come far2 hw2 ⟨d1, d2, d3, d4, d5, d6, fun w' x hw' e => ?_, d8⟩))
            by_cases ew : w' = w
            · subst ew
              have : x = t := by omega
              subst this
              rcases d1.2.1 x ht with y | ⟨_, _, _, j, y3, y4⟩
              · omega
              · exact ⟨ft2, by have := d8 j x y3 y4; omega⟩
            · exact d7 w' x (by omega) e
  · obtain ⟨x, x1, x2, x3, _⟩ := hB.2.2.1 0 a1
    obtain ⟨y, y1, y2, _, _⟩ := hB.2.2.1 k a2
    have e1 : x = u := by omega
    have e2 : y = v := by omega
    rw [← e1, ← e2]
    have := h0 y y1
    omega
