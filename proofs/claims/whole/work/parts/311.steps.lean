-- own text: steps, from one square; the reference's rounds
theorem e_fill {n : Nat} (hn : n < 2147483648) (g : Nat → Int) (v : Int) : ev (g_Numbers_fill n g v) (fun r => ∀ i, i < n → r i = v) := by
  unfold g_Numbers_fill
  refine ev_f2_1 n hn (fun i r => ∀ j, j < i → r j = v) (fun i r ag hi hQ hag => ?_) (fun j h => absurd h (Nat.not_lt_zero j))
  refine ev_g (by omega) (ev_g (by omega) (ev_if (fun h => ?_) (fun h => ?_)))
  · exact ev_some (fun j hj => hQ j (by omega))
  · refine ev_g (by omega) (ev_n (ev_n (hag _ (by omega) (fun j hj => ?_))))
    show (if j = (i : Int).toNat then v else r j) = v
    rw [Int.toNat_natCast]
    by_cases e : j = i
    · rw [if_pos e]
    · rw [if_neg e]; exact hQ j (by omega)
theorem cnt_none {p : Nat → Prop} [DecidablePred p] : ∀ n, (∀ i, i < n → ¬ p i) → cnt p n = 0
  | 0, _ => rfl
  | n + 1, h => by rw [cnt_s, cnt_none n (fun i hi => h i (by omega)), if_neg (h n (by omega))]; rfl
theorem bB_0 {K : Nat → Int} {A : Nat → Prop} {come far : Nat → Int} (h : ∀ t, t < 36 → far t = -9) : bB K A 0 come far :=
  ⟨(cnt_none 36 (fun i hi => by rw [h i hi]; decide)).symm, fun t ht => Or.inl (h t ht), fun j hj => absurd hj (by omega), fun j k u v _ hk => absurd hk (by omega)⟩
theorem e_spreadFrom {K : Nat → Int} (hK : zK K) (c : Int) (come far : Nat → Int) {q : Nat} (hq : q < 36) : ev (g_Reach_spreadFrom c come far K (q : Int)) (fun r => bExact K (fun t => t = q) r.2.2) := by
  unfold g_Reach_spreadFrom g_Reach_begin
  refine ev_b2 (Q := fun r => r.1 = 0 ∧ ∀ i, i < 36 → r.2 i = -9) (ev_b1 (e_fill (by decide) far (-9)) (fun r hr => ev_some ⟨rfl, hr⟩)) (fun c0 f0 h0 => ?_)
  have hf : ∀ i, i < 36 → f0 i = -9 := h0.2
  have z0 : c0 = 0 := h0.1
  clear h0
  subst z0
  unfold g_Reach_setOut
  by_cases hc : zcan (K q)
  · have ra := e_reachAt (c := 0) (v := 0) (come := come) (far := f0) hq (by rw [hf q hq]; decide) (by decide)
    rw [if_pos (hf q hq), if_pos (by decide)] at ra
    obtain ⟨_, nB⟩ := bB_add (A := fun t => t = q) (K := K) (come := come) (bB_0 hf) (n := 0) hq (hf q hq) ⟨hq, hc, rfl⟩ (by decide) (fun j u hj => absurd hj (by omega))
    refine ev_b3 (Q := fun r => r = (0 + 1, updI come (0 : Int).toNat (q : Int), updI f0 q 0)) (ev_c1 (e_canT hK hq hc) (ev_g (by omega) (ev_f (by decide) (ev_c3 ra (ev_some rfl))))) (fun a b d h => ?_)
    cases h
    refine ev_b3 (e_spread hK nB (fun t ht => ?_) (fun t ht => ?_)) (fun a b d h => ev_some h)
    · have : t = q := ht.2.2
      rw [this]; exact updI_at _ _ _
    · by_cases e : t = q
      · rw [e, updI_at]; exact Int.le_refl 0
      · rw [updI_ne _ _ e, hf t ht]; decide
  · refine ev_b3 (Q := fun r => r = (0, come, f0)) (ev_c1 (e_canF hK hq hc) (ev_g (by omega) (ev_t rfl (ev_some rfl)))) (fun a b d h => ?_)
    cases h
    refine ev_b3 (e_spread hK (bB_0 hf) (fun t ht => ?_) (fun t ht => ?_)) (fun a b d h => ev_some h)
    · have : t = q := ht.2.2
      exact absurd (by rw [← this]; exact ht.2.1) hc
    · rw [hf t ht]; decide
/-- a sum of numbers -/
def smN (f : Nat → Int) : Nat → Nat
  | 0 => 0
  | n + 1 => smN f n + (f n).toNat
theorem smN_up {f : Nat → Int} {t : Nat} {v : Int} (h0 : 0 ≤ v) (h : v < f t) : ∀ n, smN (updI f t v) n + (if t < n then (f t).toNat - v.toNat else 0) = smN f n
  | 0 => by rw [if_neg (Nat.not_lt_zero t)]; rfl
  | n + 1 => by
    have ih := smN_up h0 h n
    show smN (updI f t v) n + (updI f t v n).toNat + _ = smN f n + (f n).toNat
    by_cases e : n = t
    · subst e
      rw [if_neg (Nat.lt_irrefl n)] at ih
      rw [updI_at, if_pos (show n < n + 1 by omega)]
      omega
    · rw [updI_ne _ _ e]
      by_cases l : t < n
      · rw [if_pos l] at ih
        rw [if_pos (show t < n + 1 by omega)]
        omega
      · rw [if_neg l] at ih
        rw [if_neg (show ¬ t < n + 1 by omega)]
        omega
theorem smN_lt {f : Nat → Int} {t : Nat} {v : Int} {n : Nat} (h0 : 0 ≤ v) (h : v < f t) (ht : t < n) : smN (updI f t v) n < smN f n := by
  have := smN_up h0 h n
  rw [if_pos ht] at this
  omega
theorem smN_le {f : Nat → Int} {b : Nat} : ∀ n, (∀ t, t < n → f t ≤ b) → smN f n ≤ n * b
  | 0, _ => by rw [Nat.zero_mul]; exact Nat.le_refl 0
  | n + 1, h => by
    have ih := smN_le n (fun t ht => h t (by omega))
    have := h n (by omega)
    show smN f n + (f n).toNat ≤ (n + 1) * b
    rw [Nat.succ_mul]
    omega
theorem cnt_one {p : Nat → Prop} [DecidablePred p] {t : Nat} (hp : p t) : ∀ n, t < n → 1 ≤ cnt p n
  | 0, h => absurd h (Nat.not_lt_zero t)
  | n + 1, h => by
    have r := cnt_rng p n
    rw [cnt_s]
    by_cases e : n = t
    · subst e; rw [if_pos hp]; omega
    · have := cnt_one hp n (by omega)
      split <;> omega
theorem cnt_cong {p p' : Nat → Prop} [DecidablePred p] [DecidablePred p'] (h : ∀ i, p' i ↔ p i) : ∀ n, cnt p' n = cnt p n
  | 0 => rfl
  | n + 1 => by
    rw [cnt_s, cnt_s, cnt_cong h n]
    by_cases hp : p n
    · rw [if_pos hp, if_pos ((h n).mpr hp)]
    · rw [if_neg hp, if_neg (fun x => hp ((h n).mp x))]
def sV (K : Nat → Int) (A : Nat → Prop) (f : Nat → Int) : Prop := (∀ t, t < 36 → 0 ≤ f t ∧ f t ≤ 1000000000 ∧ (f t < 1000000000 → ∃ n : Nat, f t = n ∧ Wk K A n t)) ∧ (∀ t, Wk K A 0 t → f t = 0) ∧ ∀ t, t < 36 → f t < 1000000000 → f t + 1 ≤ cnt (fun t => f t < 1000000000) 36
def sRel (K f : Nat → Int) (u w : Nat) : Prop := zcan (K u) → ∀ t : Nat, zN K u w = (t : Int) → f t ≤ f u + 1
def sExact (K : Nat → Int) (A : Nat → Prop) (f : Nat → Int) : Prop := ∀ t, t < 36 → (f t = 1000000000 ∧ ∀ n, ¬ Wk K A n t) ∨ ∃ n : Nat, f t = n ∧ f t < 1000000000 ∧ Dist K A t n
theorem sExact_of {K : Nat → Int} {A : Nat → Prop} {f : Nat → Int} (hv : sV K A f) (hr : ∀ u w : Nat, u < 36 → w < 4 → sRel K f u w) : sExact K A f := by
  intro t ht
  have ex := bfs_exact (K := K) (A := A) (f := f) (R := fun t => f t < 1000000000) (fun t h => by rw [hv.2.1 t h]; exact ⟨by decide, Int.le_refl 0⟩) (fun u w t hu hw hR e => by
    obtain ⟨n, n1, n2⟩ := (hv.1 u hu).2.2 hR
    have c := Wk_can n2
    have q := hr u w hu hw c.2 t e
    have r := zN_rng (K := K) (w := w) hu
    have v := hv.1 t (by omega)
    refine ⟨?_, q⟩
    show f t < 1000000000
    have hR : f u < 1000000000 := hR
    by_cases h9 : f t < 1000000000
    · exact h9
    · have b1 := hv.2.2 u hu hR
      have b2 := cnt_rng (fun t => f t < 1000000000) 36
      omega) (fun t hR ht => (hv.1 t ht).2.2 hR) ht
  have v := hv.1 t ht
  by_cases h : f t < 1000000000
  · obtain ⟨n, e, d⟩ := ex.2 h
    exact Or.inr ⟨n, e, h, d⟩
  · exact Or.inl ⟨by omega, ex.1 h⟩
theorem e_stepsAll {s K : Nat → Int} (hs : zR s K) (hK : zK K) (f : Nat → Int) {q : Nat} (hq : q < 36) : ev (g_M_stepsAll s f (q : Int)) (fun r => sExact K (fun t => t = q) r) := by
  unfold g_M_stepsAll
  refine ev_j1 (fun f => ∀ t, t < 36 → f t = if t = q ∧ zcan (K t) then 0 else 1000000000) (fun f hf => ?_) (fun k' hk' => ?_)
  · have hv : sV K (fun t => t = q) f := by
      refine ⟨fun t ht => ?_, fun t ht => ?_, fun t ht h1 => ?_⟩
      · rw [hf t ht]
        by_cases h : t = q ∧ zcan (K t)
        · rw [if_pos h]; exact ⟨by decide, by decide, fun _ => ⟨0, rfl, ht, h.2, h.1⟩⟩
        · rw [if_neg h]; exact ⟨by decide, by decide, fun x => absurd x (by decide)⟩
      · rw [hf t ht.1, if_pos ⟨ht.2.2, ht.2.1⟩]
      · have c1 := cnt_one (p := fun t => f t < 1000000000) h1 36 ht
        have e1 := hf t ht
        by_cases h : t = q ∧ zcan (K t)
        · rw [if_pos h] at e1; omega
        · rw [if_neg h] at e1; omega
    have bd : ∀ f, sV K (fun t => t = q) f → smN f 36 ≤ 36 * 1000000000 := fun f h => smN_le 36 (fun t ht => (h.1 t ht).2.1)
    have b0 := bd f hv
    refine ev_l2 (fun m mo f => sV K (fun t => t = q) f ∧ ((mo = 1 ∧ m = smN f 36 + 1) ∨ (mo = 0 ∧ m = 0 ∧ ∀ u w : Nat, u < 36 → w < 4 → sRel K f u w))) ?_ (m := smN f 36 + 1) (by unfold zF; omega) ⟨hv, Or.inl ⟨rfl, rfl⟩⟩
    intro m mo f ag hI hag
    obtain ⟨v, h1⟩ := hI
    rcases h1 with ⟨e1, e2⟩ | ⟨e1, e2, e3⟩
    case inr =>
      subst e1
      exact ev_g (by omega) (ev_t rfl (ev_some (sExact_of v e3)))
    subst e1
    refine ev_g (by omega) (ev_f (by decide) (ev_i2 ?_))
    refine ev_f3_2 36 (by decide) (fun u mo g => sV K (fun t => t = q) g ∧ ((mo = 1 ∧ smN g 36 < smN f 36) ∨ (mo = 0 ∧ g = f ∧ ∀ u' w : Nat, u' < u → w < 4 → sRel K g u' w))) (fun u mo g ag2 hu hQ hag2 => ?_) ⟨v, Or.inr ⟨rfl, rfl, fun u' w hu => absurd hu (Nat.not_lt_zero u')⟩⟩
    obtain ⟨gv, g1⟩ := hQ
    refine ev_g (by omega) (ev_if (fun h9 => ?_) (fun h9 => ?_))
    · have : u = 36 := by omega
      subst this
      rcases g1 with ⟨x1, x2⟩ | ⟨x1, x2, x3⟩
      · exact hag (smN g 36 + 1) mo g (by omega) ⟨gv, Or.inl ⟨x1, rfl⟩⟩
      · exact hag 0 mo g (by omega) ⟨gv, Or.inr ⟨x1, rfl, x3⟩⟩
    have hu2 : u < 36 := by omega
    refine ev_i2 ?_
    refine ev_f3_2 4 (by decide) (fun w mo g => sV K (fun t => t = q) g ∧ ((mo = 1 ∧ smN g 36 < smN f 36) ∨ (mo = 0 ∧ g = f ∧ (∀ u' w : Nat, u' < u → w < 4 → sRel K g u' w) ∧ ∀ w', w' < w → sRel K g u w'))) (fun w mo g ag3 hw hQ3 hag3 => ?_) ⟨gv, g1.imp id (fun x => ⟨x.1, x.2.1, x.2.2, fun w' hw' => absurd hw' (Nat.not_lt_zero w')⟩)⟩
    obtain ⟨gv, g1⟩ := hQ3
    refine ev_g (by omega) (ev_if (fun h8 => ?_) (fun h8 => ?_))
    · have : w = 4 := by omega
      subst this
      refine ev_n (hag2 mo g hu2 ⟨gv, g1.imp id (fun x => ⟨x.1, x.2.1, fun u' w' hu' hw' => ?_⟩)⟩)
      by_cases e : u' = u
      · subst e; exact x.2.2.2 w' hw'
      · exact x.2.2.1 u' w' (by omega) hw'
    have hw2 : w < 4 := by omega
    have r := zN_rng (K := K) (w := w) hu2
    refine ev_c1 (e_M_gone hs hK hu2 hw2) (ev_i2 ?_)
    have skip : sRel K g u w → ev (ag3 mo ((w : Int) + 1) g) _ := fun y => hag3 mo g hw2 ⟨gv, g1.imp id (fun x => ⟨x.1, x.2.1, x.2.2.1, fun w' hw' => by
      by_cases e : w' = w
      · subst e; exact y
      · exact x.2.2.2 w' (by omega)⟩)⟩
    by_cases h7 : zcan (K u) ∧ 0 ≤ zN K u w
    case neg =>
      rw [if_neg h7]
      exact ev_g (by omega) (ev_t (by decide) (ev_n (skip (fun hc t e => absurd ⟨hc, by omega⟩ h7))))
    rw [if_pos h7]
    obtain ⟨t, et⟩ := Int.eq_ofNat_of_zero_le h7.2
    have ht : t < 36 := by omega
    rw [et]
    have vu := gv.1 u hu2
    have vt := gv.1 t ht
    refine ev_g (by omega) (ev_f (by omega) (ev_g (by omega) (ev_g (by omega) ?_)))
    rw [Int.toNat_natCast, Int.toNat_natCast]
    refine ev_g (by omega) (ev_g (by omega) (ev_if (fun h6 => ?_) (fun h6 => ?_)))
    · obtain ⟨n, n1, n2⟩ := vu.2.2 (by omega)
      have bu := gv.2.2 u hu2 (by omega)
      have bc := cnt_rng (fun t => g t < 1000000000) 36
      refine ev_n (ev_n (ev_n (hag3 1 _ hw2 ⟨⟨fun x hx => ?_, fun x hx => ?_, fun x hx h1 => ?_⟩, Or.inl ⟨rfl, ?_⟩⟩)))
      · by_cases e : x = t
        · rw [e, updI_at]
          exact ⟨by omega, by omega, fun _ => ⟨n + 1, by omega, u, w, hu2, hw2, n2, et⟩⟩
        · rw [updI_ne _ _ e]; exact gv.1 x hx
      · have e : x ≠ t := fun e => by have := gv.2.1 x hx; rw [e] at this; omega
        rw [updI_ne _ _ e]; exact gv.2.1 x hx
      · have cc : cnt (fun x => updI g t (g u + 1) x < 1000000000) 36 = cnt (fun x => g x < 1000000000) 36 + (if g t < 1000000000 then 0 else 1) := by
          by_cases h : g t < 1000000000
          · rw [if_pos h, cnt_cong (p := fun x => g x < 1000000000) (p' := fun x => updI g t (g u + 1) x < 1000000000) (fun i => ?_) 36, Int.add_zero]
            show updI g t (g u + 1) i < 1000000000 ↔ g i < 1000000000
            by_cases e : i = t
            · rw [e, updI_at]; constructor <;> intro _ <;> omega
            · rw [updI_ne _ _ e]
          · rw [if_neg h, cnt_add (p := fun x => g x < 1000000000) (p' := fun x => updI g t (g u + 1) x < 1000000000) (t := t) h (fun i => ?_) 36, if_pos ht]
            show updI g t (g u + 1) i < 1000000000 ↔ (g i < 1000000000 ∨ i = t)
            by_cases e : i = t
            · rw [e, updI_at]; exact ⟨fun _ => Or.inr rfl, fun _ => by omega⟩
            · rw [updI_ne _ _ e]; exact ⟨Or.inl, fun x => x.elim id (fun y => absurd y e)⟩
        show updI g t (g u + 1) x + 1 ≤ cnt (fun x => updI g t (g u + 1) x < 1000000000) 36
        rw [cc]
        by_cases e : x = t
        · rw [e, updI_at]
          by_cases h : g t < 1000000000
          · have bt := gv.2.2 t ht h
            rw [if_pos h]; omega
          · rw [if_neg h]; omega
        · rw [updI_ne _ _ e] at h1 ⊢
          have bx := gv.2.2 x hx h1
          split <;> omega
      · have := smN_lt (f := g) (t := t) (v := g u + 1) (n := 36) (by omega) h6 ht
        rcases g1 with ⟨_, x2⟩ | ⟨_, x2, _⟩
        · omega
        · rw [← x2]; exact this
    · refine ev_n (skip (fun _ x e => ?_))
      have : x = t := by omega
      subst this
      omega
  · refine ev_f2_1 36 (by decide) (fun i g => ∀ t, t < i → g t = if t = q ∧ zcan (K t) then 0 else 1000000000) (fun i g ag hi hQ hag => ?_) (fun j h => absurd h (Nat.not_lt_zero j))
    refine ev_g (by omega) (ev_if (fun h => hk' _ (fun t ht => hQ t (by omega))) (fun h => ?_))
    have hi2 : i < 36 := by omega
    have step : ∀ v : Int, v = (if i = q ∧ zcan (K i) then 0 else 1000000000) → ev (ag ((i : Int) + 1) (updI g (i : Int).toNat v)) _ := fun v e => hag _ hi2 (fun t ht => by
      rw [Int.toNat_natCast]
      by_cases et : t = i
      · rw [et, updI_at]; exact e
      · rw [updI_ne _ _ et]; exact hQ t (by omega))
    refine ev_i1 (ev_i1 (ev_g (by omega) (ev_if (fun h2 => ?_) (fun h2 => ?_))))
    · by_cases hc : zcan (K i)
      · exact ev_c1 (e_McanT hs hK hi2 hc) (ev_g (by omega) (ev_f (by decide) (ev_g (by omega) (ev_n (ev_n (step 0 (by rw [if_pos ⟨by omega, hc⟩])))))))
      · exact ev_c1 (e_McanF hs hK hi2 hc) (ev_g (by omega) (ev_t rfl (ev_g (by omega) (ev_n (ev_n (step _ (by rw [if_neg (fun x => hc x.2)])))))))
    · exact ev_g (by omega) (ev_n (ev_n (step _ (by rw [if_neg (fun x => h2 (by omega))]))))
