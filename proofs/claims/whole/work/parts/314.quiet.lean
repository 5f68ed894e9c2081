-- own text: quiet
theorem e2_f33_43 {α1 α2 β1 β2 β4 ρ σ : Type} {P : ρ → σ → Prop} {b : α1 → α2 → Int → (α1 → α2 → Int → Option ρ) → Option ρ} {b2 : β1 → β2 → Int → β4 → (β1 → β2 → Int → β4 → Option σ) → Option σ} (N : Nat) (hN : N < 2147483648) (Q : Nat → α1 → α2 → β1 → β2 → β4 → Prop) (h : ∀ (i : Nat) (x1 : α1) (x2 : α2) (y1 : β1) (y2 : β2) (y4 : β4) (ag : α1 → α2 → Int → Option ρ) (ag2 : β1 → β2 → Int → β4 → Option σ), i ≤ N → Q i x1 x2 y1 y2 y4 → (∀ (z1 : α1) (z2 : α2) (w1 : β1) (w2 : β2) (w4 : β4), i < N → Q (i + 1) z1 z2 w1 w2 w4 → ev2 (ag z1 z2 ((i : Int) + 1)) (ag2 w1 w2 ((i : Int) + 1) w4) P) → ev2 (b x1 x2 (i : Int) ag) (b2 y1 y2 (i : Int) y4 ag2) P) {x1 : α1} {x2 : α2} {y1 : β1} {y2 : β2} {y4 : β4} (h0 : Q 0 x1 x2 y1 y2 y4) : ev2 (zl3 b zF x1 x2 0) (zl4 b2 zF y1 y2 0 y4) P := by
  have key : ∀ (f i : Nat) (x1 : α1) (x2 : α2) (y1 : β1) (y2 : β2) (y4 : β4), i ≤ N → N < f + i → Q i x1 x2 y1 y2 y4 → ev2 (zl3 b f x1 x2 (i : Int)) (zl4 b2 f y1 y2 (i : Int) y4) P := by
    intro f
    induction f with
    | zero => intro i x1 x2 y1 y2 y4 h1 h2; omega
    | succ f ih =>
      intro i x1 x2 y1 y2 y4 h1 h2 h3
      exact h i x1 x2 y1 y2 y4 (zl3 b f) (zl4 b2 f) h1 h3 (fun z1 z2 w1 w2 w4 hl hq => ih (i + 1) z1 z2 w1 w2 w4 hl (by omega) hq)
  exact key zF 0 x1 x2 y1 y2 y4 (Nat.zero_le _) (by have := zF_gt hN; omega) h0
theorem l_f4_1 {α2 α3 α4 ρ σ : Type} {P : ρ → σ → Prop} {u : Option σ} {b : Int → α2 → α3 → α4 → (Int → α2 → α3 → α4 → Option ρ) → Option ρ} (N : Nat) (hN : N < 2147483648) (Q : Nat → α2 → α3 → α4 → Prop) (h : ∀ (i : Nat) (x2 : α2) (x3 : α3) (x4 : α4) (ag : Int → α2 → α3 → α4 → Option ρ), i ≤ N → Q i x2 x3 x4 → (∀ (z2 : α2) (z3 : α3) (z4 : α4), i < N → Q (i + 1) z2 z3 z4 → ev2 (ag ((i : Int) + 1) z2 z3 z4) u P) → ev2 (b (i : Int) x2 x3 x4 ag) u P) {x2 : α2} {x3 : α3} {x4 : α4} (h0 : Q 0 x2 x3 x4) : ev2 (zl4 b zF 0 x2 x3 x4) u P :=
  e2_l.mpr (ev_f4_1 N hN Q (fun i x2 x3 x4 ag hi hQ hag => e2_l.mp (h i x2 x3 x4 ag hi hQ (fun z2 z3 z4 hl hq => e2_l.mpr (hag z2 z3 z4 hl hq)))) h0)
theorem r_f4_1 {α2 α3 α4 ρ σ : Type} {P : ρ → σ → Prop} {u : Option ρ} {b : Int → α2 → α3 → α4 → (Int → α2 → α3 → α4 → Option σ) → Option σ} (N : Nat) (hN : N < 2147483648) (Q : Nat → α2 → α3 → α4 → Prop) (h : ∀ (i : Nat) (x2 : α2) (x3 : α3) (x4 : α4) (ag : Int → α2 → α3 → α4 → Option σ), i ≤ N → Q i x2 x3 x4 → (∀ (z2 : α2) (z3 : α3) (z4 : α4), i < N → Q (i + 1) z2 z3 z4 → ev2 u (ag ((i : Int) + 1) z2 z3 z4) P) → ev2 u (b (i : Int) x2 x3 x4 ag) P) {x2 : α2} {x3 : α3} {x4 : α4} (h0 : Q 0 x2 x3 x4) : ev2 u (zl4 b zF 0 x2 x3 x4) P :=
  e2_r.mpr (ev_f4_1 N hN Q (fun i x2 x3 x4 ag hi hQ hag => e2_r.mp (h i x2 x3 x4 ag hi hQ (fun z2 z3 z4 hl hq => e2_r.mpr (hag z2 z3 z4 hl hq)))) h0)
theorem zBs_back : ∀ u : Nat, u < 36 → ∀ w : Nat, w < 4 → 0 ≤ zBs u w → zBs (zBs u w).toNat (3 - w) = u := by decide +kernel
theorem zN_back {K : Nat → Int} {u w t : Nat} (hu : u < 36) (hw : w < 4) (hc : zcan (K u)) (h : zN K u w = (t : Int)) : zN K t (3 - w) = (u : Int) := by
  have e : zBs u w = (t : Int) := by
    unfold zN at h
    by_cases h1 : 0 ≤ zBs u w ∧ zcan (K (zBs u w).toNat)
    · rw [if_pos h1] at h; exact h
    · rw [if_neg h1] at h; omega
  have b := zBs_back u hu w hw (by omega)
  rw [e, Int.toNat_natCast] at b
  unfold zN
  rw [b, if_pos ⟨by omega, by rw [Int.toNat_natCast]; exact hc⟩]
theorem Wk_cons {K : Nat → Int} {u w t : Nat} (hu : u < 36) (hw : w < 4) (hc : zcan (K u)) (h : zN K u w = (t : Int)) : ∀ n x, Wk K (fun y => y = t) n x → Wk K (fun y => y = u) (n + 1) x := by
  intro n
  induction n with
  | zero =>
    intro x hx
    have : x = t := hx.2.2
    subst this
    exact ⟨u, w, hu, hw, ⟨hu, hc, rfl⟩, h⟩
  | succ n ih =>
    intro x hx
    obtain ⟨y, w2, y1, y2, y3, y4⟩ := hx
    exact ⟨y, w2, y1, y2, ih y y3, y4⟩
theorem Wk_rev {K : Nat → Int} {a : Nat} : ∀ n t, Wk K (fun y => y = a) n t → Wk K (fun y => y = t) n a := by
  intro n
  induction n with
  | zero =>
    intro t h
    have : t = a := h.2.2
    subst this
    exact h
  | succ n ih =>
    intro t h
    obtain ⟨u, w, h1, h2, h3, h4⟩ := h
    have cu := Wk_can h3
    have ct := Wk_can (K := K) (A := fun y => y = a) (n := n + 1) (t := t) ⟨u, w, h1, h2, h3, h4⟩
    exact Wk_cons ct.1 (show 3 - w < 4 by omega) ct.2 (zN_back h1 h2 cu.2 h4) n a (ih u h3)
theorem Wk_from {K : Nat → Int} {A : Nat → Prop} : ∀ n t, Wk K A n t → ∃ a, a < 36 ∧ A a ∧ Wk K (fun y => y = a) n t := by
  intro n
  induction n with
  | zero => intro t h; exact ⟨t, h.1, h.2.2, h.1, h.2.1, rfl⟩
  | succ n ih =>
    intro t h
    obtain ⟨u, w, h1, h2, h3, h4⟩ := h
    obtain ⟨a, a1, a2, a3⟩ := ih u h3
    exact ⟨a, a1, a2, u, w, h1, h2, a3, h4⟩
theorem Wk_to {K : Nat → Int} {A : Nat → Prop} {a : Nat} (ha : A a) : ∀ n t, Wk K (fun y => y = a) n t → Wk K A n t := by
  intro n
  induction n with
  | zero =>
    intro t h
    have : t = a := h.2.2
    subst this
    exact ⟨h.1, h.2.1, ha⟩
  | succ n ih =>
    intro t h
    obtain ⟨u, w, h1, h2, h3, h4⟩ := h
    exact ⟨u, w, h1, h2, ih u h3, h4⟩
/-- the least of what is heard -/
def zLe (K f : Nat → Int) (i : Nat) (v : Int) : Prop := (∀ k, k < i → 0 < zHB K k → v ≤ f k) ∧ (v = 1000000000 ∨ ∃ k, k < i ∧ 0 < zHB K k ∧ v = f k ∧ f k < 1000000000)
theorem q_eq {K far f : Nat → Int} {q : Nat} (hq : q < 36) (hx : bExact K (fun t => 0 < zHB K t) far) (hy : sExact K (fun t => t = q) f) {v : Int} (hv : zLe K f 36 v) : (far q = -9 ∧ v = 1000000000) ∨ (far q = v ∧ 0 ≤ v ∧ v ≤ 36) := by
  rcases hx q hq with ⟨a1, a2⟩ | ⟨n, a1, a2, a3⟩
  · rcases hv.2 with e | ⟨k, k1, k2, k3, k4⟩
    · exact Or.inl ⟨a1, e⟩
    · rcases hy k k1 with ⟨b1, _⟩ | ⟨m, _, _, b3⟩
      · omega
      · exact absurd (Wk_to (A := fun t => 0 < zHB K t) k2 m q (Wk_rev m k b3.1)) (a2 m)
  · obtain ⟨a, x1, x2, x3⟩ := Wk_from n q a3.1
    have r := Wk_rev n q x3
    have va := hv.1 a x1 x2
    rcases hy a x1 with ⟨_, b2⟩ | ⟨m, b1, b2, b3⟩
    · exact absurd r (b2 n)
    · have mn := b3.2 n r
      rcases hv.2 with e | ⟨k, k1, k2, k3, k4⟩
      · omega
      · rcases hy k k1 with ⟨c1, _⟩ | ⟨l, c1, _, c3⟩
        · omega
        · have := a3.2 l (Wk_to (A := fun t => 0 < zHB K t) k2 l q (Wk_rev l k c3.1))
          exact Or.inr ⟨by omega, by omega, by omega⟩
theorem m_quiet {K s : Nat → Int} (c : Int) (come far f : Nat → Int) (hK : zK K) (hs : zR s K) : ev2 (g_X_quiet c come far K) (g_M_quiet s f) (fun x y => x.1 = y.1) := by
  unfold g_X_quiet g_M_quiet g_Reach_begin
  refine l_b2 (Q := fun r => r.1 = 0 ∧ ∀ i, i < 36 → r.2 i = -9) (ev_b1 (e_fill (by decide) far (-9)) (fun r hr => ev_some ⟨rfl, hr⟩)) (fun c0 f0 h0 => ?_)
  have hf : ∀ i, i < 36 → f0 i = -9 := h0.2
  have z0 : c0 = 0 := h0.1
  clear h0
  subst z0
  refine l_j3 (fun c come far => bB K (fun t => 0 < zHB K t) c come far ∧ (∀ t, t < 36 → far t ≤ 0) ∧ ∀ t, t < 36 → zcan (K t) → 0 < zHB K t → far t = 0) (fun c come far hJ => ?_) (fun k2 hk2 => ?_)
  case refine_2 =>
    refine l_f4_1 36 (by decide) (fun i c come far => bB K (fun t => 0 < zHB K t) c come far ∧ (∀ t, t < 36 → far t ≤ 0) ∧ (∀ t, t < i → zcan (K t) → 0 < zHB K t → far t = 0) ∧ ∀ t, t < 36 → i ≤ t → far t = -9) (fun i c come far ag hi hQ hag => ?_) ⟨bB_0 hf, fun t ht => by rw [hf t ht]; decide, fun t ht => absurd ht (Nat.not_lt_zero t), fun t ht _ => hf t ht⟩
    obtain ⟨b1, b2, b3, b4⟩ := hQ
    refine l_g (by omega) (l_if (fun h9 => hk2 _ _ _ ⟨b1, b2, fun t ht => b3 t (by omega)⟩) (fun h9 => ?_))
    have hi2 : i < 36 := by omega
    have rr := zHB_rng K i
    have hc := bB_c b1
    refine l_c1 (e_heardBy hK hi2) (l_i3 (l_g (by omega) (l_if (fun h8 => ?_) (fun h8 => ?_))))
    · exact l_n (hag _ _ _ hi2 ⟨b1, b2, fun t ht hc hh => by
        by_cases e : t = i
        · subst e; omega
        · exact b3 t (by omega) hc hh, fun t ht h => b4 t ht (by omega)⟩)
    · unfold g_Reach_setOut
      by_cases hz : zcan (K i)
      · have fi := b4 i hi2 (Nat.le_refl i)
        have ra := e_reachAt (c := c) (v := 0) (come := come) (far := far) hi2 (by rw [fi]; decide) ⟨hc.1, by omega⟩
        obtain ⟨lt, nB⟩ := bB_add b1 (n := 0) hi2 fi ⟨hi2, hz, by show 0 < zHB K i; omega⟩ (by omega) (fun j u hj ej => by
          obtain ⟨y, y1, y2, _, _⟩ := b1.2.2.1 j hj
          have : y = u := by omega
          have := b2 y y1
          subst y
          omega)
        rw [if_pos fi, if_pos lt] at ra
        refine l_b3 (Q := fun r => r = (c + 1, updI come c.toNat (i : Int), updI far i 0)) (ev_c1 (e_canT hK hi2 hz) (ev_g (by omega) (ev_f (by decide) (ev_c3 ra (ev_some rfl))))) (fun a b d h => ?_)
        cases h
        refine l_n (hag _ _ _ hi2 ⟨nB, fun t ht => ?_, fun t ht hc hh => ?_, fun t ht h => ?_⟩)
        · by_cases e : t = i
          · rw [e, updI_at]; exact Int.le_refl 0
          · rw [updI_ne _ _ e]; exact b2 t ht
        · by_cases e : t = i
          · rw [e, updI_at]
          · rw [updI_ne _ _ e]; exact b3 t (by omega) hc hh
        · rw [updI_ne _ _ (by omega)]; exact b4 t ht (by omega)
      · refine l_b3 (Q := fun r => r = (c, come, far)) (ev_c1 (e_canF hK hi2 hz) (ev_g (by omega) (ev_t rfl (ev_some rfl)))) (fun a b d h => ?_)
        cases h
        exact l_n (hag _ _ _ hi2 ⟨b1, b2, fun t ht hc hh => by
          by_cases e : t = i
          · subst e; exact absurd hc hz
          · exact b3 t (by omega) hc hh, fun t ht h => b4 t ht (by omega)⟩)
  obtain ⟨b1, b2, b3⟩ := hJ
  refine l_b3 (e_spread hK b1 (fun t ht => b3 t ht.1 ht.2.1 ht.2.2) b2) (fun c1 come1 far1 hx => ?_)
  have hx : bExact K (fun t => 0 < zHB K t) far1 := hx
  refine e2_f33_43 36 (by decide) (fun i m b fo bm _ => (m = -9 ∧ b = -9 ∧ fo = -9 ∧ bm = -1) ∨ (m = bm ∧ b = fo ∧ 0 ≤ bm ∧ bm ≤ 36)) (fun i m b fo bm f2 ag ag2 hi hQ hag => ?_) (Or.inl ⟨rfl, rfl, rfl, rfl⟩)
  refine l_g (by omega) (r_g (by omega) ?_)
  by_cases h9 : i = 36
  · subst h9
    exact l_t (by omega) (r_t (by omega) (e2_some (by show b = fo; omega)))
  have hi2 : i < 36 := by omega
  have keep := fun f3 => hag m b fo bm f3 hi2 hQ
  refine l_f (by omega) (r_f (by omega) (l_c1 (e_stepsTo hi2) (l_i2 ?_)))
  by_cases hc : zcan (K i)
  case neg =>
    have e9 : far1 i = -9 := by
      rcases hx i hi2 with x | ⟨n, _, _, x⟩
      · exact x.1
      · exact absurd (Wk_can x.1).2 hc
    exact r_c1 (e_McanF hs hK hi2 hc) (r_i3 (r_g (by omega) (r_t rfl (r_n (l_g (by omega) (l_g (by omega) (l_t (by omega) (l_n (keep _)))))))))
  refine r_c1 (e_McanT hs hK hi2 hc) (r_i3 (r_g (by omega) (r_f (by decide) (r_b1 (e_stepsAll hs hK f2 hi2) (fun f3 hy => r_i1 ?_)))))
  refine r_f2_2 36 (by decide) (fun k v => zLe K f3 k v) (fun k v ag3 hk hv hag3 => ?_) ⟨fun k hk => absurd hk (Nat.not_lt_zero k), Or.inl rfl⟩
  have vr : 0 ≤ v ∧ v ≤ 1000000000 := by
    rcases hv.2 with e | ⟨k2, k3, _, k5, k6⟩
    · omega
    · rcases hy k2 (by omega) with ⟨x, _⟩ | ⟨n, x, _, _⟩ <;> omega
  refine r_g (by omega) (r_if (fun h8 => ?_) (fun h8 => ?_))
  · have : k = 36 := by omega
    subst this
    have e := q_eq hi2 hx hy hv
    refine r_g (by omega) (l_g (by omega) (l_g (by omega) ?_))
    rcases e with e | e
    · exact r_t (by omega) (r_n (l_t (by omega) (l_n (keep _))))
    · refine r_f (by omega) (r_g (by omega) ?_)
      by_cases h7 : bm < v
      · refine r_t h7 (r_n (l_f (by omega) (l_c1 (e_stepsTo hi2) (l_n (hag _ _ _ _ _ hi2 (Or.inr ⟨e.1, rfl, e.2.1, e.2.2⟩))))))
      · exact r_f h7 (r_n (l_t (by omega) (l_n (keep _))))
  · have hk2 : k < 36 := by omega
    have fr : 0 ≤ f3 k ∧ f3 k ≤ 1000000000 := by
      rcases hy k hk2 with ⟨x, _⟩ | ⟨n, x, _, _⟩ <;> omega
    refine r_g (by omega) (r_i1 (r_g (by omega) ?_))
    rw [Int.toNat_natCast]
    have old : v ≤ f3 k ∨ ¬ 0 < zHB K k → ev2 _ (ag3 v ((k : Int) + 1)) _ := fun ho => hag3 v hk2 ⟨fun j hj hh => by
      by_cases e : j = k
      · subst e; exact ho.elim id (fun x => absurd hh x)
      · exact hv.1 j (by omega) hh, hv.2.imp id (fun ⟨j, j1, j2, j3, j4⟩ => ⟨j, by omega, j2, j3, j4⟩)⟩
    refine r_g (by omega) (r_if (fun h7 => r_n (old (Or.inl h7))) (fun h7 => r_c1 (e_M_isHeard hs hK hk2) ?_))
    by_cases h6 : 0 < zHB K k
    · rw [if_pos h6]
      refine r_g (by omega) (r_f (by decide) (r_n (r_n (hag3 _ hk2 ⟨fun j hj hh => ?_, Or.inr ⟨k, by omega, h6, rfl, by omega⟩⟩))))
      by_cases e : j = k
      · subst e; exact Int.le_refl _
      · have := hv.1 j (by omega) hh; omega
    · rw [if_neg h6]
      exact r_g (by omega) (r_t rfl (r_n (old (Or.inr h6))))
