-- own text: roundOff
theorem zLQ_u {K : Nat → Int} {C : Nat → Nat → Int} {f : Int} {p t : Nat} {r r' : Int} (h : zLQ K C f p t r) (h' : zLQ K C f p t r') : r = r' := by
  have no : ∀ {P}, zcan (K p) → zSq K C (zOk f) (p * 5 + 4) t P → (¬ zcan (K p) ∨ zNo K C (zOk f) (p * 5 + 4) t) → False := fun {P} a b d => by
    obtain ⟨⟨m, v, b1, b2⟩, _⟩ := b
    rcases d with d | d
    · exact d a
    · exact d m v _ b1 b2
  rcases h with ⟨a1, a2⟩ | ⟨a1, a2, a3, a4⟩
  · rcases h' with ⟨b1, b2⟩ | ⟨b1, b2, b3, b4⟩
    · rw [a1, b1]
    · exact (no b1 b4 a2).elim
  · rcases h' with ⟨b1, b2⟩ | ⟨b1, b2, b3, b4⟩
    · exact (no a1 a4 b2).elim
    · exact zSq_u a4 b4
def zV (K : Nat → Int) (p t : Nat) : Int := ((g_M_cornersBy (fun _ => 0) K (p : Int) (t : Int) (-9)).map (fun r => r.1)).getD 0
theorem zV_q {K : Nat → Int} (hK : zK K) {p t : Nat} (hp : p < 36) (ht : t < 36) : zLQ K (zP0 K) (-9) p t (zV K p t) := by
  obtain ⟨r, e, h⟩ := e_M_cornersBy (s := K) (fun i _ => rfl) hK (f := -9) (by decide) (fun _ => 0) hp ht
  unfold zV
  rw [e]
  exact h
theorem zV_rng {K : Nat → Int} (hK : zK K) {p t : Nat} (hp : p < 36) (ht : t < 36) : 0 ≤ zV K p t ∧ zV K p t ≤ 1000000000 := by
  rcases zV_q hK hp ht with ⟨a, _⟩ | ⟨_, a, b, _⟩
  · omega
  · omega
def zCl (K : Nat → Int) (p t : Nat) : Int := if zV K p t < 1000000000 then zV K p t / 1000 else -9
theorem e_cls {K : Nat → Int} (hK : zK K) {tl : Nat → Int} (k3 : ∀ i, i < 36 → tl i = 0) (fw wc : Int) (iw L wq : Nat → Int) {p t : Nat} (hp : p < 36) (ht : t < 36) : ev (g_Routes_cheapest 1000 fw 1 wc iw L tl K wq (p : Int) (t : Int)) (fun R => g_Routes_cornersOf R.1 = some (zCl K p t)) := by
  have h4 := zFour_0 (K := K) k3
  refine ev_mono (e_cheapest hK (zFour_r h4 (zP0_rng K)) fw wc iw L wq hp ht) (fun R hR => ?_)
  have q := zV_q hK hp ht
  unfold zCl
  rcases hR with ⟨r1, r2⟩ | ⟨r0, r1, r2, r3⟩
  · rcases q with ⟨q1, _⟩ | ⟨q0, q1, q2, q3⟩
    · rw [if_neg (by omega), r1]; exact e_cornersNo
    · rcases r2 with z | z
      · exact absurd q0 z
      · obtain ⟨⟨m, v, b1, b2⟩, _⟩ := q3
        exact absurd b2 ((zNo_link h4 (by omega)).mp z m v _ b1)
  · rcases q with ⟨_, q2⟩ | ⟨q0, q1, q2, q3⟩
    · rcases q2 with z | z
      · exact absurd r0 z
      · obtain ⟨⟨m, v, b1, b2⟩, _⟩ := r3
        exact absurd b2 ((zNo_link h4 (by omega)).mpr z m v _ b1)
    · rw [if_pos q2, e_cornersOf r1 (by omega), (zSq_link h4 rfl r3 q3 q1).1]
theorem zcan_up {K : Nat → Int} {i : Nat} (h0 : K i = 0) (u : Nat) : zcan (updI K i 2 u) ↔ zcan (K u) := by
  by_cases e : u = i
  · subst e
    rw [updI_at, h0]
    decide
  · rw [updI_ne _ _ e]
theorem zN_up {K : Nat → Int} {i : Nat} (h0 : K i = 0) (q w : Nat) : zN K q w = zN (updI K i 2) q w := by
  unfold zN
  have e := zcan_up h0 (zBs q w).toNat
  by_cases c : 0 ≤ zBs q w ∧ zcan (K (zBs q w).toNat)
  · rw [if_pos c, if_pos ⟨c.1, e.mpr c.2⟩]
  · rw [if_neg c, if_neg (fun x => c ⟨x.1, e.mp x.2⟩)]
theorem zTour_ex {K K' : Nat → Int} {c c' : Nat → Nat → Int} {ok : Nat → Nat → Prop} {s : Nat} (h : ∀ q w, zN K q w = zN K' q w) : ∀ {m v x}, zTour K c ok s m v x → ∃ x', zTour K' c' ok s m v x'
  | 0, v, x, t => ⟨0, t.1, rfl⟩
  | m + 1, v, x, t => by
    obtain ⟨j, w, h1, h2, h3, h4, h5, h6⟩ := t
    obtain ⟨x', hx⟩ := zTour_ex (c' := c') h h6
    refine ⟨x' + c' j w, j, w, h1, h2, by rw [← h]; exact h3, h4, ?_, by rw [show x' + c' j w - c' j w = x' by omega]; exact hx⟩
    unfold zTo at h5 ⊢
    rw [← h]
    exact h5
theorem zV_up {K : Nat → Int} (hK : zK K) {p t i : Nat} (hp : p < 36) (ht : t < 36) (h0 : K i = 0) (h : zV K p t < 1000000000) : zV (updI K i 2) p t < 1000000000 := by
  rcases zV_q hK hp ht with ⟨a, _⟩ | ⟨a0, a1, a2, a3⟩
  · omega
  obtain ⟨⟨m, v, b1, b2⟩, _⟩ := a3
  obtain ⟨x', hx⟩ := zTour_ex (c' := zP0 (updI K i 2)) (zN_up h0) b2
  rcases zV_q (zK_up hK i (k := 2) (by decide)) hp ht with ⟨_, d⟩ | ⟨_, _, d, _⟩
  · rcases d with d | d
    · exact absurd ((zcan_up h0 p).mpr a0) d
    · exact absurd hx (d m v x' b1)
  · exact d
def zRo (K : Nat → Int) (p t : Nat) : Nat → Int × Int
  | 0 => (zV K p t / 1000, -9)
  | i + 1 => if K i = 0 ∧ zV (updI K i 2) p t / 1000 < (zRo K p t i).1 then (zV (updI K i 2) p t / 1000, (i : Int)) else zRo K p t i
theorem zRo_rng {K : Nat → Int} (hK : zK K) {p t : Nat} (hp : p < 36) (ht : t < 36) : ∀ i, 0 ≤ (zRo K p t i).1 ∧ (zRo K p t i).1 ≤ 1000000
  | 0 => by
    have := zV_rng hK hp ht
    show 0 ≤ zV K p t / 1000 ∧ zV K p t / 1000 ≤ 1000000
    omega
  | i + 1 => by
    have ih := zRo_rng hK hp ht i
    have := zV_rng (zK_up hK i (k := 2) (by decide)) hp ht
    show 0 ≤ (if K i = 0 ∧ zV (updI K i 2) p t / 1000 < (zRo K p t i).1 then (zV (updI K i 2) p t / 1000, (i : Int)) else zRo K p t i).1 ∧ (if K i = 0 ∧ zV (updI K i 2) p t / 1000 < (zRo K p t i).1 then (zV (updI K i 2) p t / 1000, (i : Int)) else zRo K p t i).1 ≤ 1000000
    by_cases c : K i = 0 ∧ zV (updI K i 2) p t / 1000 < (zRo K p t i).1
    · rw [if_pos c]
      show 0 ≤ zV (updI K i 2) p t / 1000 ∧ zV (updI K i 2) p t / 1000 ≤ 1000000
      omega
    · rw [if_neg c]; exact ih
theorem zRo_stop {K : Nat → Int} (hK : zK K) {p t : Nat} (hp : p < 36) (ht : t < 36) {i : Nat} (h : (zRo K p t i).1 ≤ 0) : ∀ d, zRo K p t (i + d) = zRo K p t i
  | 0 => rfl
  | d + 1 => by
    have ih := zRo_stop hK hp ht h d
    have := zV_rng (zK_up hK (i + d) (k := 2) (by decide)) hp ht
    show (if K (i + d) = 0 ∧ zV (updI K (i + d) 2) p t / 1000 < (zRo K p t (i + d)).1 then (zV (updI K (i + d) 2) p t / 1000, ((i + d : Nat) : Int)) else zRo K p t (i + d)) = _
    rw [if_neg (fun x => by have := x.2; rw [ih] at this; omega)]
    exact ih
theorem updI_back {K : Nat → Int} {i : Nat} (h0 : K i = 0) : updI (updI K i 2) i 0 = K := by
  funext u
  by_cases e : u = i
  · subst e; rw [updI_at, h0]
  · rw [updI_ne _ _ e, updI_ne _ _ e]
theorem e_build1 {ho : Int} {K : Nat → Int} (hh : 0 ≤ ho ∧ ho < 36) {i : Nat} (hi : i < 36) {k : Int} (hk : k = 0 ∨ k = 2) : g_Town_rebuild ho K (i : Int) (i : Int) k = some (1, updI K i k) := by
  have c : (i : Int) ≤ (i : Int) ∧ 0 ≤ (i : Int) ∧ (i : Int) < 36 ∧ ¬ ((i : Int) ≤ ho ∧ ho ≤ (i : Int) ∧ ¬ zcan k) := ⟨Int.le_refl _, by omega, by omega, fun x => x.2.2 (by
    rcases hk with hk | hk
    · rw [hk]; decide
    · rw [hk]; decide)⟩
  rw [e_rebuild hh (by omega) (by omega) (by omega), if_pos c, updR_1]
theorem e_rX {K : Nat → Int} {ho : Int} (hK : zK K) (hh : 0 ≤ ho ∧ ho < 36) (ra : Nat → Int) (pc fw ps wc : Int) (iw L tl wq : Nat → Int) {p t : Nat} (hp : p < 36) (ht : t < 36) : ev (g_X_roundOff ra pc fw ps wc iw L tl wq ho K (p : Int) (t : Int)) (fun x => x.1 = (if zV K p t < 1000000000 then (zRo K p t 36).2 else -9) ∧ x.2.1 = ra ∧ x.2.2.2.2.2.2.2.2.2.2 = K) := by
  unfold g_X_roundOff
  refine ev_c1 (e_sqT (by omega) (by omega)) (ev_i1 (ev_g (by decide) (ev_f (by decide) (ev_c1 (e_sqT (by omega) (by omega)) (ev_g (by decide) (ev_f (by decide) ?_))))))
  refine ev_b3 (e_chargeC pc ps tl) (fun pc1 ps1 tl1 hch => ?_)
  obtain ⟨k1, k2, k3⟩ := hch
  have k1 : pc1 = 1000 := k1
  have k2 : ps1 = 1 := k2
  have k3 : ∀ i, i < 36 → tl1 i = 0 := k3
  subst k1 k2
  refine ev_b6 (e_cls hK k3 fw wc iw L wq hp ht) (fun R fw1 wc1 iw1 L1 wq1 hR => ?_)
  refine ev_c1 hR ?_
  by_cases hv : zV K p t < 1000000000
  case neg =>
    have e : zCl K p t = -9 := by unfold zCl; rw [if_neg hv]
    rw [e, if_neg hv]
    refine ev_l9 (fun μ l3 l4 l5 fw wc iw L wq K2 => l3 = -9 ∧ l4 = -9 ∧ l5 = 0 ∧ K2 = K) (fun μ l3 l4 l5 fw wc iw L wq K2 ag hI hag => ?_) (m := 0) (zF_gt (by decide)) ⟨rfl, rfl, rfl, rfl⟩
    obtain ⟨rfl, rfl, rfl, rfl⟩ := hI
    exact ev_g (by decide) (ev_f (by decide) (ev_g (by decide) (ev_t (by decide) (ev_some ⟨rfl, rfl, rfl⟩))))
  have e : zCl K p t = zV K p t / 1000 := by unfold zCl; rw [if_pos hv]
  rw [e, if_pos hv]
  refine ev_l9 (fun μ l3 l4 l5 fw wc iw L wq K2 => ∃ i : Nat, l5 = (i : Int) ∧ i ≤ 36 ∧ μ = 36 - i ∧ K2 = K ∧ l3 = (zRo K p t i).1 ∧ l4 = (zRo K p t i).2) (fun μ l3 l4 l5 fw wc iw L wq K2 ag hI hag => ?_) (m := 36) (zF_gt (by decide)) ⟨0, rfl, by omega, by omega, rfl, rfl, rfl⟩
  obtain ⟨i, rfl, i1, i2, rfl, i3, i4⟩ := hI
  have rr := zRo_rng hK hp ht i
  refine ev_g (by omega) (ev_if (fun c1 => ev_some ⟨?_, rfl, rfl⟩) (fun c1 => ?_))
  · have i36 : i = 36 := by omega
    subst i36
    exact i4
  have hi : i < 36 := by omega
  refine ev_g (by omega) (ev_if (fun c2 => ev_some ⟨?_, rfl, rfl⟩) (fun c2 => ?_))
  · have st := zRo_stop hK hp ht (i := i) (by omega) (36 - i)
    rw [show i + (36 - i) = 36 by omega] at st
    rw [st]
    exact i4
  refine ev_c1 (e_kindOf hi) ?_
  have ki := hK i hi
  have st : zRo K2 p t (i + 1) = if K2 i = 0 ∧ zV (updI K2 i 2) p t / 1000 < (zRo K2 p t i).1 then (zV (updI K2 i 2) p t / 1000, (i : Int)) else zRo K2 p t i := rfl
  refine ev_j8 (fun l3 l4 _ _ _ _ _ K3 => K3 = K2 ∧ l3 = (zRo K2 p t (i + 1)).1 ∧ l4 = (zRo K2 p t (i + 1)).2) (fun l3 l4 f3 w3 iw3 L3 wq3 K3 h => ev_n (hag (36 - (i + 1)) _ _ _ _ _ _ _ _ _ (by omega) ⟨i + 1, by omega, by omega, rfl, h.1, h.2.1, h.2.2⟩)) (fun k2 hk => ?_)
  refine ev_g (by omega) (ev_if (fun c3 => ?_) (fun c3 => ?_))
  · refine ev_c2 (e_build1 hh hi (Or.inr rfl)) ?_
    have hK2 := zK_up hK i (k := 2) (by decide)
    refine ev_b6 (e_cls hK2 k3 fw wc iw L wq hp ht) (fun R2 fw2 wc2 iw2 L2 wq2 hR2 => ?_)
    have v2 := zV_up hK hp ht c3 hv
    have vr := zV_rng hK2 hp ht
    have e2 : zCl (updI K2 i 2) p t = zV (updI K2 i 2) p t / 1000 := by unfold zCl; rw [if_pos v2]
    rw [e2] at hR2
    refine ev_c1 hR2 (ev_c2 (e_build1 hh hi (Or.inl rfl)) (ev_g (by omega) ?_))
    rw [updI_back c3]
    refine ev_if (fun c4 => hk _ _ _ _ _ _ _ _ ⟨rfl, ?_⟩) (fun c4 => hk _ _ _ _ _ _ _ _ ⟨rfl, ?_⟩)
    · rw [st, if_neg (fun x => by have := x.2; omega)]
      exact ⟨i3, i4⟩
    · rw [st, if_pos ⟨c3, by omega⟩]
      exact ⟨rfl, rfl⟩
  · refine hk _ _ _ _ _ _ _ _ ⟨rfl, ?_⟩
    rw [st, if_neg (fun x => c3 x.1)]
    exact ⟨i3, i4⟩
theorem e_rM {s K : Nat → Int} (hs : zR s K) (hK : zK K) (le rb : Nat → Int) {p t : Nat} (hp : p < 36) (ht : t < 36) : ev (g_M_roundOff le rb s (p : Int) (t : Int)) (fun y => y.1 = (if zV K p t < 1000000000 then (zRo K p t 36).2 else -9) ∧ y.2.2.1 = rb ∧ y.2.2.2 = s) := by
  unfold g_M_roundOff
  refine ev_c1 (e_MsqT (by omega) (by omega)) (ev_i1 (ev_g (by decide) (ev_f (by decide) (ev_c1 (e_MsqT (by omega) (by omega)) (ev_g (by decide) (ev_f (by decide) ?_))))))
  refine ev_b2 (e_M_cornersBy hs hK (by decide) le hp ht) (fun r l1 hq => ?_)
  have e : r = zV K p t := zLQ_u hq (zV_q hK hp ht)
  have vr := zV_rng hK hp ht
  rw [← e] at vr ⊢
  refine ev_g (by omega) (ev_if (fun c1 => ?_) (fun c1 => ev_some ⟨by rw [if_neg c1], rfl, rfl⟩))
  rw [if_pos c1]
  refine ev_g (by omega) (ev_n ?_)
  refine ev_f5_3 36 (by decide) (fun i a b _ s2 => s2 = s ∧ a = (zRo K p t i).2 ∧ b = (zRo K p t i).1) (fun i a b g s2 ag hi hQ hag => ?_) ⟨rfl, rfl, by rw [e]; rfl⟩
  obtain ⟨rfl, i3, i4⟩ := hQ
  refine ev_g (by omega) (ev_if (fun c2 => ev_some ⟨?_, rfl, rfl⟩) (fun c2 => ?_))
  · have i36 : i = 36 := by omega
    subst i36
    exact i3
  have hl : i < 36 := by omega
  have rr := zRo_rng hK hp ht i
  have ki := hK i hl
  have st : zRo K p t (i + 1) = if K i = 0 ∧ zV (updI K i 2) p t / 1000 < (zRo K p t i).1 then (zV (updI K i 2) p t / 1000, (i : Int)) else zRo K p t i := rfl
  refine ev_g (by omega) ?_
  rw [Int.toNat_natCast, hs i hl]
  refine ev_j4 (fun a b _ s3 => s3 = s2 ∧ a = (zRo K p t (i + 1)).2 ∧ b = (zRo K p t (i + 1)).1) (fun a b g3 s3 h => ev_n (hag _ _ _ _ hl h)) (fun k2 hk => ?_)
  refine ev_g (by omega) (ev_if (fun c3 => ?_) (fun c3 => hk _ _ _ _ ⟨rfl, ?_⟩))
  · have hK2 := zK_up hK i (k := 2) (by decide)
    have s0 : s2 i = 0 := (hs i hl).trans c3
    have v2 := zV_rng hK2 hp ht
    refine ev_n (ev_b2 (e_M_cornersBy (zR_up hs i 2) hK2 (by decide) g hp ht) (fun r2 l2 hq2 => ?_))
    have e2 : r2 = zV (updI K i 2) p t := zLQ_u hq2 (zV_q hK2 hp ht)
    rw [← e2] at v2 st
    refine ev_g (by omega) (ev_n (ev_n (ev_g (by omega) (ev_g (by omega) ?_))))
    rw [updI_back s0]
    refine ev_if (fun c4 => hk _ _ _ _ ⟨rfl, ?_⟩) (fun c4 => hk _ _ _ _ ⟨rfl, ?_⟩)
    · rw [st, if_pos ⟨c3, by omega⟩]
      exact ⟨rfl, rfl⟩
    · rw [st, if_neg (fun x => by have := x.2; omega)]
      exact ⟨i3, i4⟩
  · rw [st, if_neg (fun x => c3 x.1)]
    exact ⟨i3, i4⟩
theorem m_roundOff {K s ra rb : Nat → Int} {ho fi br a b : Int} (pc fw ps wc : Int) (iw L tl wq le : Nat → Int) (hT : iTown K s ho fi br) (hr : iRef ra rb) (ha : zr a) (hb : zr b) : ev2 (g_X_roundOff ra pc fw ps wc iw L tl wq ho K a b) (g_M_roundOff le rb s a b) (fun x y => x.1 = y.1 ∧ iRef x.2.1 y.2.2.1 ∧ iTown x.2.2.2.2.2.2.2.2.2.2 y.2.2.2 ho fi br) := by
  have hT2 := hT
  obtain ⟨hK, hs, _, _, _, ho0, ho1, _, _, _, _, _⟩ := hT2
  by_cases ca : 0 ≤ a ∧ a < 36
  case neg =>
    unfold g_X_roundOff g_M_roundOff
    exact l_c1 (e_sqF ha ca) (r_c1 (e_MsqF ha ca) (l_i1 (r_i1 (l_g (by decide) (r_g (by decide) (l_t rfl (r_t rfl (l_c2 (er_1 ra) (r_c2 (en_1 rb) (e2_some ⟨rfl, iRef_up hr 1 (by decide), hT⟩))))))))))
  by_cases cb : 0 ≤ b ∧ b < 36
  case neg =>
    unfold g_X_roundOff g_M_roundOff
    refine l_c1 (e_sqT ha ca) (r_c1 (e_MsqT ha ca) (l_i1 (r_i1 (l_g (by decide) (r_g (by decide) (l_f (by decide) (r_f (by decide) ?_)))))))
    exact l_c1 (e_sqF hb cb) (r_c1 (e_MsqF hb cb) (l_g (by decide) (r_g (by decide) (l_t rfl (r_t rfl (l_c2 (er_1 ra) (r_c2 (en_1 rb) (e2_some ⟨rfl, iRef_up hr 1 (by decide), hT⟩))))))))
  obtain ⟨p, rfl⟩ := Int.eq_ofNat_of_zero_le ca.1
  obtain ⟨t, rfl⟩ := Int.eq_ofNat_of_zero_le cb.1
  refine e2_ev (ev_mono (e_rX hK ⟨ho0, ho1⟩ ra pc fw ps wc iw L tl wq (by omega) (by omega)) (fun x hx => ev_mono (e_rM hs hK le rb (by omega) (by omega)) (fun y hy => ?_)))
  obtain ⟨x1, x2, x3⟩ := hx
  obtain ⟨y1, y2, y3⟩ := hy
  rw [x1, y1, x2, y2, x3, y3]
  exact ⟨rfl, hr, hT⟩
