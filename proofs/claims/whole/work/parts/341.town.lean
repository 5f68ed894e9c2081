-- own text: the town told in letters, whole
abbrev zT4 : Type := Int × Int × Int × (Nat → Int)
def zRch (a : Nat → Int) (n : Nat) (t0 : zT4) : Nat → zT4 → Prop
  | 0, t => t = t0
  | k + 1, t => ∃ (t' : zT4) (p : Nat), zRch a n t0 k t' ∧ zCh a n k p ∧ p < n ∧ g_Letters_obey t'.1 t'.2.1 t'.2.2.1 t'.2.2.2 a (p : Int) = some (1, t)
theorem zRch_u {a : Nat → Int} {n : Nat} {t0 : zT4} : ∀ {k t t'}, zRch a n t0 k t → zRch a n t0 k t' → t = t'
  | 0, t, t', h, h' => by
    have h : t = t0 := h
    have h' : t' = t0 := h'
    rw [h, h']
  | k + 1, t, t', h, h' => by
    obtain ⟨x, p, a1, a2, a3, a4⟩ := h
    obtain ⟨y, q, b1, b2, b3, b4⟩ := h'
    have e := zRch_u a1 b1
    subst e
    have e2 := zCh_u a2 b2
    subst e2
    have e3 := a4.symm.trans b4
    exact (Prod.mk.inj (Option.some.inj e3)).2
theorem zRch_pre {a : Nat → Int} {n k : Nat} {t0 : zT4} : ∀ {N t}, zRch a n t0 N t → k < N → ∃ (t' t2 : zT4) (p : Nat), zRch a n t0 k t' ∧ zCh a n k p ∧ p < n ∧ g_Letters_obey t'.1 t'.2.1 t'.2.2.1 t'.2.2.2 a (p : Int) = some (1, t2)
  | 0, _, _, l => absurd l (Nat.not_lt_zero k)
  | N + 1, t, h, l => by
    obtain ⟨x, p, a1, a2, a3, a4⟩ := h
    by_cases c : k = N
    · subst c
      exact ⟨x, t, p, a1, a2, a3, a4⟩
    · exact zRch_pre (k := k) a1 (by omega)
abbrev zTi (t : zT4) (s : Nat → Int) : Prop := iTown t.2.2.2 s t.2.2.1 t.2.1 t.1
abbrev zFail (a : Nat → Int) (n : Nat) (t0 : zT4) (p : Nat) : Prop := ∃ (k : Nat) (t t' : zT4), zRch a n t0 k t ∧ zCh a n k p ∧ p < n ∧ g_Letters_obey t.1 t.2.1 t.2.2.1 t.2.2.2 a (p : Int) = some (0, t')
abbrev zWrg (a : Nat → Int) (n q : Nat) : Prop := ∃ k p : Nat, zCh a n k p ∧ p < n ∧ zPs a n p 0 q
theorem zFail_end {a : Nat → Int} {n p N : Nat} {t0 t : zT4} (h : zFail a n t0 p) (hN : zCh a n N n) (hR : zRch a n t0 N t) : False := by
  obtain ⟨k, x, y, a1, a2, a3, a4⟩ := h
  rcases Nat.lt_trichotomy k N with c | c | c
  · obtain ⟨x2, y2, p2, b1, b2, b3, b4⟩ := zRch_pre hR c
    have e := zRch_u a1 b1
    subst e
    have e2 := zCh_u a2 b2
    subst e2
    have e3 := a4.symm.trans b4
    have e5 := (Prod.mk.inj (Option.some.inj e3)).1
    exact absurd e5 (by decide)
  · subst c
    have := zCh_u a2 hN
    omega
  · obtain ⟨x2, q2, g1, g2, g3, g4⟩ := zCh_pre a2 c
    have := zCh_u g1 hN
    omega
theorem zFail_u {a : Nat → Int} {n p p' : Nat} {t0 : zT4} (h : zFail a n t0 p) (h' : zFail a n t0 p') : p = p' := by
  obtain ⟨k, x, y, a1, a2, a3, a4⟩ := h
  obtain ⟨k', x', y', b1, b2, b3, b4⟩ := h'
  rcases Nat.lt_trichotomy k k' with c | c | c
  · obtain ⟨x2, y2, p2, d1, d2, d3, d4⟩ := zRch_pre b1 c
    have e := zRch_u a1 d1
    subst e
    have e2 := zCh_u a2 d2
    subst e2
    have e3 := a4.symm.trans d4
    have e5 := (Prod.mk.inj (Option.some.inj e3)).1
    exact absurd e5 (by decide)
  · subst c
    exact zCh_u a2 b2
  · obtain ⟨x2, y2, p2, d1, d2, d3, d4⟩ := zRch_pre a1 c
    have e := zRch_u b1 d1
    subst e
    have e2 := zCh_u b2 d2
    subst e2
    have e3 := b4.symm.trans d4
    have e5 := (Prod.mk.inj (Option.some.inj e3)).1
    exact absurd e5 (by decide)
theorem zNb_e {a : Nat → Int} {n p q : Nat} (hn : n ≤ 96) (ha : ∀ i, i < n → 0 ≤ a i ∧ a i ≤ 255) (hp : p < n) (hP : zPs a n p 1 q) : ∃ nu, zNb a p nu := by
  obtain ⟨r, _, q2, _, _, h3, h4⟩ := e_reads hn (fun i _ => rfl) ha (fun _ => 0) hp
  exact ⟨r.2.2, h4 (zPs_u h3 hP).1⟩
theorem e_build {a : Nat → Int} {n : Nat} (hn : n ≤ 96) (ha : ∀ i, i < n → 0 ≤ a i ∧ a i ≤ 255) {br fi ho : Int} {K s0 : Nat → Int} (hT : iTown K s0 ho fi br) : ev (g_Letters_build br fi ho K (n : Int) a) (fun r => (n = 0 ∧ r.1 = -1000) ∨ (∃ q : Nat, zWrg a n q ∧ r.1 = -1000 - (q : Int) ∧ q ≤ n) ∨ (0 < n ∧ ∃ (N : Nat) (t : zT4) (s : Nat → Int), zCh a n N n ∧ zRch a n (br, fi, ho, K) N t ∧ zTi t s ∧ r = ((N : Int), t)) ∨ (0 < n ∧ ∃ N p : Nat, zCh a n N n ∧ p < n ∧ zFail a n (br, fi, ho, K) p ∧ r.1 = -2000 - (p : Int))) := by
  unfold g_Letters_build
  refine ev_b1 (e_first hn ha) (fun r hr => ?_)
  rcases hr with ⟨h0, h1⟩ | ⟨h0, h1, N, hN⟩ | ⟨k, p, q, h1, h2, h3, h4, h5⟩
  · subst h1
    exact ev_g (by decide) (ev_f (by decide) (ev_some (Or.inl ⟨h0, rfl⟩)))
  · subst h1
    refine ev_g (by decide) (ev_t rfl ?_)
    refine ev_j5 (fun l4 _ _ _ _ => ∃ p : Nat, l4 = (p : Int) ∧ p < n ∧ zFail a n (br, fi, ho, K) p) (fun l4 b1 f1 o1 K1 h => ?_) (fun k2 hk => ?_)
    · obtain ⟨p, rfl, hp, h⟩ := h
      exact ev_some (Or.inr (Or.inr (Or.inr ⟨h0, N, p, hN, hp, h, rfl⟩)))
    refine ev_l6 (fun μ l3 l4 b1 f1 o1 K1 => ∃ (k p : Nat) (s : Nat → Int), l3 = (k : Int) ∧ l4 = (p : Int) ∧ zCh a n k p ∧ zRch a n (br, fi, ho, K) k (b1, f1, o1, K1) ∧ iTown K1 s o1 f1 b1 ∧ μ = n - p) (fun μ l3 l4 b1 f1 o1 K1 ag hI hag => ?_) (m := n) (zF_gt (by omega)) ⟨0, 0, s0, rfl, rfl, rfl, rfl, hT, rfl⟩
    obtain ⟨k, p, s, rfl, rfl, i1, i2, i3, i4⟩ := hI
    have pl := zCh_le i1
    refine ev_g (by omega) (ev_g (by omega) (ev_if (fun c => ev_some (Or.inr (Or.inr (Or.inl ⟨h0, k, (b1, f1, o1, K1), s, ?_, i2, i3, rfl⟩)))) (fun c => ?_)))
    · rw [show p = n by omega] at i1
      exact i1
    have hp : p < n := by omega
    have kN : k < N := by
      rcases Nat.lt_or_ge k N with z | z
      · exact z
      · exfalso
        rcases Nat.lt_or_ge N k with z2 | z2
        · obtain ⟨x, y, g1, g2, g3, g4⟩ := zCh_pre i1 z2
          have := zCh_u g1 hN
          omega
        · have e : k = N := by omega
          subst e
          have := zCh_u i1 hN
          omega
    obtain ⟨x, q, g1, g2, g3, g4⟩ := zCh_pre hN kN
    have e := zCh_u g1 i1
    subst e
    obtain ⟨nu, hnu⟩ := zNb_e hn ha hp g3
    obtain ⟨r, er, y, ey, o1', o2', o3'⟩ := e_obey i3 hn ha hp g3 hnu
    obtain ⟨r1, b2, f2, o2, K2⟩ := r
    have o2' : r1 = 0 ∨ r1 = 1 := o2'
    have o3' : r1 = 1 → iTown K2 y.2 o2 f2 b2 := o3'
    refine ev_c5 er (ev_g (by omega) (ev_if (fun c1 => hk _ _ _ _ _ ⟨x, rfl, hp, k, (b1, f1, o1, K1), (b2, f2, o2, K2), i2, i1, hp, by rw [← c1]; exact er⟩) (fun c1 => ?_)))
    have r11 : r1 = 1 := by omega
    subst r11
    have ax := ha x hp
    have F5 := zFm_le (a x)
    obtain ⟨F4, eq, gd, ql⟩ := zPs_1 g3
    refine ev_n (ev_c1 (e_atN (by decide) (by omega)) (ev_c1 (e_form (by omega)) (ev_g (by omega) (ev_c1 (e_len _ (by omega)) (ev_n ?_)))))
    exact hag (n - q) _ _ _ _ _ _ (by omega) ⟨k + 1, q, y.2, by omega, by omega, ⟨x, i1, hp, g3⟩, ⟨(b1, f1, o1, K1), x, i2, i1, hp, er⟩, o3' rfl, rfl⟩
  · refine ev_g (by omega) (ev_f (by omega) (ev_some (Or.inr (Or.inl ⟨q, ⟨k, p, h1, h2, h3⟩, by rw [← h4], h5⟩))))
theorem zPs_q {a : Nat → Int} {n p q : Nat} {r : Int} (hp : p < n) (h : zPs a n p r q) : p ≤ q ∧ q ≤ n := by
  rcases h with ⟨_, _, a3⟩ | ⟨_, a2, i, a3, a4, a5, _⟩ | ⟨a1, a2, a3, a4⟩
  · omega
  · refine ⟨by omega, ?_⟩
    rcases Nat.eq_zero_or_pos i with z | z
    · omega
    · have := (a5 (i - 1) (by omega)).1
      omega
  · subst a1
    have := zPs_1 (Or.inr (Or.inr ⟨rfl, a2, a3, a4⟩))
    omega
theorem e_townM {a b : Nat → Int} {n : Nat} (hn : n ≤ 96) (hab : ∀ i, i < n → b i = a i) (ha : ∀ i, i < n → 0 ≤ a i ∧ a i ≤ 255) {br fi ho : Int} {K s : Nat → Int} (pl : Int) (nu was : Nat → Int) (hT : iTown K s ho fi br) : ev (g_M_town (n : Int) pl b nu s was) (fun r => r.2.1 = 0 ∧ ((n = 0 ∧ r.1 = -1000 ∧ iTown K r.2.2.2.2.1 ho fi br) ∨ (∃ q : Nat, zWrg a n q ∧ r.1 = -1000 - (q : Int) ∧ iTown K r.2.2.2.2.1 ho fi br) ∨ (0 < n ∧ ∃ (N : Nat) (t : zT4), zCh a n N n ∧ zRch a n (br, fi, ho, K) N t ∧ zTi t r.2.2.2.2.1 ∧ r.1 = (N : Int)) ∨ (0 < n ∧ ∃ N p : Nat, zCh a n N n ∧ p < n ∧ zFail a n (br, fi, ho, K) p ∧ r.1 = -2000 - (p : Int) ∧ iTown K r.2.2.2.2.1 ho fi br))) := by
  unfold g_M_town
  refine ev_j4 (fun l1 l2 _ _ => (0 < n ∧ l2 = -9 ∧ ∃ N : Nat, l1 = (N : Int) ∧ zCh a n N n) ∨ (l2 ≠ -9 ∧ zr l2 ∧ ((n = 0 ∧ l2 = -1000) ∨ ∃ q : Nat, zWrg a n q ∧ l2 = -1000 - (q : Int)))) (fun l1 l2 pl2 nu2 h => ?_) (fun k2 hk => ?_)
  · refine ev_b1 (e_lays s was) (fun w hw => ?_)
    refine ev_j4 (fun l3 _ _ s2 => (l2 ≠ -9 ∧ l3 = l2 ∧ s2 = s) ∨ (l2 = -9 ∧ l3 = -9 ∧ ∃ (N : Nat) (t : zT4), zCh a n N n ∧ zRch a n (br, fi, ho, K) N t ∧ zTi t s2) ∨ (l2 = -9 ∧ ∃ p : Nat, p < n ∧ zFail a n (br, fi, ho, K) p ∧ l3 = -2000 - (p : Int) ∧ iTown K s2 ho fi br)) (fun l3 pl3 nu3 s3 g => ?_) (fun k3 hk3 => ?_)
    · rcases g with ⟨g1, rfl, rfl⟩ | ⟨g1, rfl, N, t, g3, g4, g5⟩ | ⟨g1, p, g2, g3, rfl, g5⟩
      · rcases h with ⟨h0, h1, _⟩ | ⟨h0, hz, h1⟩
        · exact absurd h1 g1
        · refine ev_g hz (ev_f g1 (ev_some ⟨rfl, ?_⟩))
          rcases h1 with ⟨h1, h2⟩ | ⟨q, h1, h2⟩
          · exact Or.inl ⟨h1, h2, hT⟩
          · exact Or.inr (Or.inl ⟨q, h1, h2, hT⟩)
      · rcases h with ⟨h0, h1, N', h2, h3⟩ | ⟨h0, _⟩
        · refine ev_g (by decide) (ev_t rfl (ev_some ⟨rfl, Or.inr (Or.inr (Or.inl ⟨h0, N, t, g3, g4, g5, ?_⟩))⟩))
          have := zCh_k h3 g3
          show l1 = (N : Int)
          rw [h2, this]
        · exact absurd g1 h0
      · rcases h with ⟨h0, h1, N', h2, h3⟩ | ⟨h0, _⟩
        · exact ev_g (by omega) (ev_f (by omega) (ev_some ⟨rfl, Or.inr (Or.inr (Or.inr ⟨h0, N', p, h3, g2, g3, rfl, g5⟩))⟩))
        · exact absurd g1 h0
    · rcases h with ⟨h0, h1, N, h2, h3⟩ | ⟨h0, hz, h1⟩
      · subst h1
        refine ev_l4 (fun μ l q _ s2 => (l = -9 ∧ ∃ (k p : Nat) (t : zT4), q = (p : Int) ∧ zCh a n k p ∧ zRch a n (br, fi, ho, K) k t ∧ zTi t s2 ∧ μ = n - p + 1) ∨ (∃ p : Nat, p < n ∧ zFail a n (br, fi, ho, K) p ∧ l = -2000 - (p : Int) ∧ iTown K s2 ho fi br ∧ μ = 0)) (fun μ l q nu3 s3 ag hI hag => ?_) (m := n + 1) (zF_gt (by omega)) (Or.inl ⟨rfl, 0, 0, (br, fi, ho, K), rfl, rfl, rfl, hT, rfl⟩)
        rcases hI with ⟨rfl, k, p, t, rfl, i1, i2, i3, i4⟩ | ⟨p, i1, i2, rfl, i4, i5⟩
        · have pl4 := zCh_le i1
          refine ev_g (by decide) (ev_t rfl (ev_g (by omega) (ev_g (by omega) (ev_if (fun c => hk3 _ _ _ _ (Or.inr (Or.inl ⟨rfl, rfl, k, t, ?_, i2, i3⟩))) (fun c => ?_)))))
          · rw [show p = n by omega] at i1
            exact i1
          have hp : p < n := by omega
          refine ev_c1 (e_here hn hab p (by omega)) ?_
          rw [if_pos hp]
          refine ev_b3 (e_reads hn hab ha nu3 hp) (fun r1 q1 nu4 hr => ?_)
          obtain ⟨q, e1, e2, e3, e4⟩ := hr
          have e1 : q1 = (q : Int) := e1
          have e3 : zPs a n p r1 q := e3
          have e4 : r1 = 1 → zNb a p nu4 := e4
          have r11 : r1 = 1 := by
            rcases e2 with z | z
            · have z : r1 = 0 := z
              subst z
              exact (zCh_no i1 hp e3 h3).elim
            · exact z
          subst r11
          obtain ⟨x, ex, y, ey, o1, o2, o3⟩ := e_obey i3 hn ha hp e3 (e4 rfl)
          obtain ⟨x1, x2⟩ := x
          obtain ⟨y1, s4⟩ := y
          have o1 : y1 = x1 := o1
          have o2 : x1 = 0 ∨ x1 = 1 := o2
          have o3 : x1 = 1 → zTi x2 s4 := o3
          subst o1
          refine ev_c2 ey (ev_g (by omega) (ev_if (fun c1 => ?_) (fun c1 => ?_)))
          · refine ev_n (ev_b1 (e_lays w s4) (fun s5 hs5 => ?_))
            refine hag 0 _ _ _ _ (by omega) (Or.inr ⟨p, hp, ⟨k, t, x2, i2, i1, hp, by rw [← c1]; exact ex⟩, rfl, ?_, rfl⟩)
            exact iTown_c hT (fun _ _ => rfl) (fun i hi => (hs5 i hi).trans (hw i hi))
          · have y11 : y1 = 1 := by omega
            subst y11
            have qb := zPs_q hp e3
            have qe := (zPs_1 e3).2.1
            exact hag (n - q + 1) _ _ _ _ (by omega) (Or.inl ⟨rfl, k + 1, q, x2, e1, ⟨p, i1, hp, e3⟩, ⟨t, p, i2, i1, hp, ex⟩, o3 rfl, rfl⟩)
        · exact ev_g (by omega) (ev_f (by omega) (hk3 _ _ _ _ (Or.inr (Or.inr ⟨rfl, p, i1, i2, rfl, i4⟩))))
      · refine ev_l4 (fun μ l _ _ s2 => l = l2 ∧ s2 = s) (fun μ l q nu3 s3 ag hI hag => ?_) (m := 0) (zF_gt (by decide)) ⟨rfl, rfl⟩
        obtain ⟨rfl, rfl⟩ := hI
        exact ev_g hz (ev_f h0 (hk3 _ _ _ _ (Or.inl ⟨h0, rfl, rfl⟩)))
  · rcases Nat.eq_zero_or_pos n with hz | hz
    · subst hz
      refine ev_l4 (fun μ l1 l2 q nu => l2 = -9 ∧ q = 0) (fun μ l1 l2 q nu2 ag hI hag => ?_) (m := 0) (zF_gt (by decide)) ⟨rfl, rfl⟩
      obtain ⟨rfl, rfl⟩ := hI
      have rd : g_M_readsStatement ((0 : Nat) : Int) 0 b nu2 = some (0, 0, nu2) := by
        refine ev_is ?_
        unfold g_M_readsStatement
        refine ev_c1 (v1 := -1) ?_ (ev_n (ev_i3 (ev_g (by decide) (ev_f (by decide) (ev_f (by decide) (ev_f (by decide) (ev_f (by decide) (ev_f (by decide) (ev_n (ev_some rfl)))))))))) 
        refine ev_is ?_
        unfold g_M_here
        exact ev_g (by decide) (ev_g (by decide) (ev_t (by decide) (ev_some rfl)))
      refine ev_c3 rd (ev_i1 (ev_g (by decide) (ev_t rfl (ev_n (ev_n (ev_g (by decide) (ev_f (by decide) (hk _ _ _ _ (Or.inr ⟨by decide, by decide, Or.inl ⟨rfl, rfl⟩⟩)))))))))
    · refine ev_l4 (fun μ l1 l2 q nu => ∃ k p : Nat, l1 = (k : Int) ∧ l2 = -9 ∧ q = (p : Int) ∧ zCh a n k p ∧ p < n ∧ μ = n - p) (fun μ l1 l2 q nu2 ag hI hag => ?_) (m := n) (zF_gt (by omega)) ⟨0, 0, rfl, rfl, rfl, rfl, hz, rfl⟩
      obtain ⟨k, p, rfl, rfl, rfl, i1, hp, i3⟩ := hI
      refine ev_b3 (e_reads hn hab ha nu2 hp) (fun r1 q1 nu4 hr => ?_)
      obtain ⟨q, e1, e2, e3, e4⟩ := hr
      have e1 : q1 = (q : Int) := e1
      have e2 : r1 = 0 ∨ r1 = 1 := e2
      have e3 : zPs a n p r1 q := e3
      have qb := zPs_q hp e3
      rcases e2 with z | z
      · subst z
        refine ev_i1 (ev_g (by decide) (ev_t rfl (ev_n (ev_n (ev_g (by omega) (ev_f (by omega) (hk _ _ _ _ (Or.inr ⟨by omega, by omega, Or.inr ⟨q, ⟨k, p, i1, hp, e3⟩, by omega⟩⟩))))))))
      · subst z
        have qe := (zPs_1 e3).2.1
        refine ev_i1 (ev_g (by decide) (ev_f (by decide) (ev_n (ev_g (by decide) (ev_t rfl (ev_g (by omega) (ev_g (by omega) (ev_if (fun c => hag (n - q) _ _ _ _ (by omega) ⟨k + 1, q, by omega, rfl, e1, ⟨p, i1, hp, e3⟩, by omega, rfl⟩) (fun c => hk _ _ _ _ (Or.inl ⟨hz, rfl, k + 1, by omega, p, i1, hp, ?_⟩))))))))))
        rw [show n = q by omega] at e3 ⊢
        exact e3
theorem m_town {K s la lb : Nat → Int} {n ho fi br : Int} (tb tf th : Int) (tk : Nat → Int) (pl : Int) (nu was : Nat → Int) (hT : iTown K s ho fi br) (hL : iRow n 96 la lb 0 255) : ev2 (g_X_town n la br fi ho K tb tf th tk) (g_M_town n pl lb nu s was) (fun x y => x.1 = y.1 ∧ x.2.1 = 0 ∧ y.2.1 = 0 ∧ iTown x.2.2.2.2.2.1 y.2.2.2.2.1 x.2.2.2.2.1 x.2.2.2.1 x.2.2.1) := by
  obtain ⟨n1, n2, n3⟩ := hL
  obtain ⟨m, rfl⟩ := Int.eq_ofNat_of_zero_le n1
  have hm : m ≤ 96 := by omega
  have ha : ∀ i, i < m → 0 ≤ la i ∧ la i ≤ 255 := fun i hi => (n3 i (by omega)).2
  have hab : ∀ i, i < m → lb i = la i := fun i hi => (n3 i (by omega)).1.symm
  unfold g_X_town
  refine e2_ev (ev_b4 (e_take br fi ho K tb tf th tk) (fun b1 f1 o1 K1 hk => ?_))
  obtain ⟨k1, k2, k3, k4⟩ := hk
  have k1 : b1 = br := k1
  have k2 : f1 = fi := k2
  have k3 : o1 = ho := k3
  have k4 : ∀ i, i < 36 → K1 i = K i := k4
  subst k1 k2 k3
  have hT1 : iTown K1 s o1 f1 b1 := iTown_c hT k4 (fun _ _ => rfl)
  have back : ∀ s2, iTown K1 s2 o1 f1 b1 → iTown K s2 o1 f1 b1 := fun s2 h => iTown_c h (fun i hi => (k4 i hi).symm) (fun _ _ => rfl)
  have M := e_townM hm hab ha pl nu was hT1
  refine ev_b5 (e_build hm ha hT1) (fun r6 b2 f2 o2 K2 hr => ?_)
  have neg : r6 < 0 → zr r6 → ev (g_M_town (m : Int) pl lb nu s was) (fun y => r6 = y.1 ∧ y.2.1 = 0 ∧ iTown K y.2.2.2.2.1 o1 f1 b1) → ev (zj4 (fun (v12 : Int) (v13 : Int) (v14 : Int) (g15 : Nat → Int) => zb1 (g_Letters_forget (m : Int)) fun (v16 : Int) => some (r6, v16, v12, v13, v14, g15, b2, f2, o2, K2)) fun k18 => zg (zr r6) <| if r6 < (0 : Int) then (k18 b1 f1 o1 K) else (zb4 (g_Town_takeOver b2 f2 o2 K2 b1 f1 o1 K) fun (v20 : Int) (v21 : Int) (v22 : Int) (g23 : Nat → Int) => k18 v20 v21 v22 g23)) (fun x => ev (g_M_town (m : Int) pl lb nu s was) (fun y => x.1 = y.1 ∧ x.2.1 = 0 ∧ y.2.1 = 0 ∧ iTown x.2.2.2.2.2.1 y.2.2.2.2.1 x.2.2.2.2.1 x.2.2.2.1 x.2.2.1)) := fun h1 h2 h3 => by
    refine ev_i4 (ev_g h2 (ev_t h1 (ev_c1 (v1 := 0) rfl (ev_some (ev_mono h3 (fun y hy => ⟨hy.1, rfl, hy.2.1, hy.2.2⟩))))))
  rcases hr with ⟨h0, h1⟩ | ⟨q, h1, h2, h3⟩ | ⟨h0, N, t, s2, h1, h2, h3, h4⟩ | ⟨h0, N, p, h1, h2, h3, h4⟩
  · have h1 : r6 = -1000 := h1
    refine neg (by omega) (by omega) (ev_mono M (fun y hy => ?_))
    obtain ⟨y0, y1⟩ := hy
    rcases y1 with ⟨_, y1, y2⟩ | ⟨q, ⟨k, p, _, g, _⟩, _⟩ | ⟨g, _⟩ | ⟨g, _⟩
    · exact ⟨by omega, y0, back _ y2⟩
    · omega
    · omega
    · omega
  · have h2 : r6 = -1000 - (q : Int) := h2
    refine neg (by omega) (by omega) (ev_mono M (fun y hy => ?_))
    obtain ⟨y0, y1⟩ := hy
    obtain ⟨k, p, g1, g2, g3⟩ := h1
    rcases y1 with ⟨y1, _⟩ | ⟨q', ⟨k', p', d1, d2, d3⟩, y1, y2⟩ | ⟨_, N, t, d1, _⟩ | ⟨_, N, p', d1, _⟩
    · omega
    · have e := zCh_wr g1 g2 g3 d1 d2 d3
      subst e
      exact ⟨by omega, y0, back _ y2⟩
    · exact (zCh_no g1 g2 g3 d1).elim
    · exact (zCh_no g1 g2 g3 d1).elim
  · obtain ⟨t1, t2, t3, t4⟩ := t
    obtain ⟨hN6, h5⟩ := Prod.mk.inj h4
    obtain ⟨e1, h6⟩ := Prod.mk.inj h5
    obtain ⟨e2, h7⟩ := Prod.mk.inj h6
    obtain ⟨e3, e4⟩ := Prod.mk.inj h7
    clear h4 h5 h6 h7
    subst hN6 e1 e2 e3 e4
    have Nm : N ≤ m := by
      have lem : ∀ k q, zCh la m k q → k ≤ q := by
        intro k
        induction k with
        | zero => intro q _; omega
        | succ k ih =>
          intro q h
          obtain ⟨x, c1, c2, c3⟩ := h
          have := ih x c1
          have := (zPs_1 c3).2.1
          omega
      exact lem N m h1
    refine ev_i4 (ev_g (by omega) (ev_f (by omega) (ev_b4 (e_take b2 f2 o2 K2 b1 f1 o1 K) (fun b3 f3 o3 K3 hk3 => ev_c1 (v1 := 0) rfl (ev_some (ev_mono M (fun y hy => ?_)))))))
    obtain ⟨j1, j2, j3, j4⟩ := hk3
    have j1 : b3 = b2 := j1
    have j2 : f3 = f2 := j2
    have j3 : o3 = o2 := j3
    have j4 : ∀ i, i < 36 → K3 i = K2 i := j4
    subst j1 j2 j3
    obtain ⟨y0, y1⟩ := hy
    rcases y1 with ⟨y1, _⟩ | ⟨q', ⟨k', p', d1, d2, d3⟩, y1, y2⟩ | ⟨_, N', t, d1, d2, d3, d4⟩ | ⟨_, N', p', d1, d2, d3, d4, d5⟩
    · omega
    · exact (zCh_no d1 d2 d3 h1).elim
    · have eN := zCh_k h1 d1
      subst eN
      have et := zRch_u h2 d2
      subst et
      exact ⟨d4.symm, rfl, y0, iTown_c d3 j4 (fun _ _ => rfl)⟩
    · exact (zFail_end d3 h1 h2).elim
  · have h4 : r6 = -2000 - (p : Int) := h4
    refine neg (by omega) (by omega) (ev_mono M (fun y hy => ?_))
    obtain ⟨y0, y1⟩ := hy
    rcases y1 with ⟨y1, _⟩ | ⟨q', ⟨k', p', d1, d2, d3⟩, y1, y2⟩ | ⟨_, N', t, d1, d2, d3, d4⟩ | ⟨_, N', p', d1, d2, d3, d4, d5⟩
    · omega
    · exact (zCh_no d1 d2 d3 h1).elim
    · exact (zFail_end h3 d1 d2).elim
    · have e := zFail_u h3 d3
      subst e
      exact ⟨by omega, y0, back _ d5⟩
