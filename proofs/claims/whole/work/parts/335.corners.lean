-- own text: corners, fines
theorem e_chargeC (pc ps : Int) (tl : Nat → Int) : ev (g_Routes_chargeCorners pc ps tl) (fun r => r.1 = 1000 ∧ r.2.1 = 1 ∧ ∀ i, i < 36 → r.2.2 i = 0) := by
  unfold g_Routes_chargeCorners
  exact ev_b1 (e_fill (by decide) tl 0) (fun t ht => ev_some ⟨rfl, rfl, ht⟩)
theorem e_chargeF {K : Nat → Int} (hK : zK K) (pc ps : Int) (tl : Nat → Int) {fi : Int} (h1 : 0 ≤ fi) (h2 : fi ≤ 9) : ev (g_Routes_chargeFines pc ps tl fi K) (fun r => r.1 = 0 ∧ r.2.1 = 0 ∧ ∀ i, i < 36 → r.2.2 i = zFn K fi i) := by
  unfold g_Routes_chargeFines
  refine ev_j1 (fun x => ∀ i, i < 36 → x i = zFn K fi i) (fun x hx => ev_some ⟨rfl, rfl, hx⟩) (fun k2 hk => ?_)
  refine ev_f2_1 36 (by decide) (fun i x => ∀ q, q < i → x q = zFn K fi q) (fun i x ag hi hQ hag => ?_) (fun q hq => absurd hq (Nat.not_lt_zero q))
  refine ev_g (by omega) (ev_if (fun c => hk _ (fun q hq => hQ q (by omega))) (fun c => ?_))
  have hl : i < 36 := by omega
  refine ev_c1 (e_fineOn hK hl h1 h2) (ev_c1 (e_putN (by decide) hl) (ev_n (hag _ hl (fun q hq => ?_))))
  by_cases e : q = i
  · subst e; rw [updI_at]
  · rw [updI_ne _ _ e]; exact hQ q (by omega)
theorem e_cornersOf {R : Int} (h : 0 ≤ R) (h2 : R < 2147483648) : g_Routes_cornersOf R = some (R / 4 / 1000) := by
  refine ev_is ?_
  unfold g_Routes_cornersOf
  exact ev_g (by omega) (ev_f (by omega) (ev_g (by omega) (ev_g (by omega) (ev_some rfl))))
theorem e_cornersNo : g_Routes_cornersOf (-9) = some (-9) := by
  refine ev_is ?_
  unfold g_Routes_cornersOf
  exact ev_g (by decide) (ev_t rfl (ev_some rfl))
theorem e_stepsOf {R : Int} (h : 0 ≤ R) (h2 : R < 2147483648) : g_Routes_stepsOf R = some (R / 4 % 1000) := by
  refine ev_is ?_
  unfold g_Routes_stepsOf
  exact ev_g (by omega) (ev_f (by omega) (ev_g (by omega) (ev_g (by omega) (ev_some rfl))))
theorem e_firstOf {R : Int} (h : 0 ≤ R) (h2 : R < 2147483648) : g_Routes_firstWayOf R = some (R % 4) := by
  refine ev_is ?_
  unfold g_Routes_firstWayOf
  exact ev_g (by omega) (ev_f (by omega) (ev_g (by omega) (ev_some rfl)))
theorem e_priceOf {R : Int} (h : 0 ≤ R) (h2 : R < 2147483648) : g_Routes_priceOf R = some (R / 4) := by
  refine ev_is ?_
  unfold g_Routes_priceOf
  exact ev_g (by omega) (ev_f (by omega) (ev_g (by omega) (ev_some rfl)))
abbrev zLQ (K : Nat → Int) (C : Nat → Nat → Int) (f : Int) (p t : Nat) (r : Int) : Prop := (r = 1000000000 ∧ (¬ zcan (K p) ∨ zNo K C (zOk f) (p * 5 + 4) t)) ∨ (zcan (K p) ∧ 0 ≤ r ∧ r < 1000000000 ∧ zSq K C (zOk f) (p * 5 + 4) t r)
theorem e_M_cornersBy {s K : Nat → Int} (hs : zR s K) (hK : zK K) {f : Int} (hf : zr f) (g : Nat → Int) {p t : Nat} (hp : p < 36) (ht : t < 36) : ev (g_M_cornersBy g s (p : Int) (t : Int) f) (fun r => zLQ K (zP0 K) f p t r.1) := by
  unfold g_M_cornersBy
  refine ev_b1 (e_M_leastTo hs hK hf (e_cost0 hs hK) (fun j w _ _ => ⟨(zP0_rng K j w).1, by have := (zP0_rng K j w).2; omega⟩) g hp ht) (fun L hL => ?_)
  obtain ⟨r, h1, h2⟩ := hL
  exact ev_c1 h1 (ev_some h2)
theorem m_corners {K s ra rb : Nat → Int} {a b d : Int} (pc fw ps wc : Int) (iw L tl wq le : Nat → Int) (hK : zK K) (hs : zR s K) (hr : iRef ra rb) (ha : zr a) (hb : zr b) (hd : zr d) : ev2 (g_X_corners ra pc fw ps wc iw L tl wq K a b d) (g_M_corners le rb s a b d) (fun x y => x.1 = y.1 ∧ iRef x.2.1 y.2.2) := by
  unfold g_X_corners g_M_corners
  by_cases ca : 0 ≤ a ∧ a < 36
  case neg => exact l_c1 (e_sqF ha ca) (r_c1 (e_MsqF ha ca) (l_i1 (r_i1 (l_g (by decide) (r_g (by decide) (l_t rfl (r_t rfl (l_c2 (er_1 ra) (r_c2 (en_1 rb) (e2_some ⟨rfl, iRef_up hr 1 (by decide)⟩))))))))))
  refine l_c1 (e_sqT ha ca) (r_c1 (e_MsqT ha ca) (l_i1 (r_i1 (l_g (by decide) (r_g (by decide) (l_f (by decide) (r_f (by decide) ?_)))))))
  by_cases cb : 0 ≤ b ∧ b < 36
  case neg => exact l_c1 (e_sqF hb cb) (r_c1 (e_MsqF hb cb) (l_g (by decide) (r_g (by decide) (l_t rfl (r_t rfl (l_c2 (er_1 ra) (r_c2 (en_1 rb) (e2_some ⟨rfl, iRef_up hr 1 (by decide)⟩))))))))
  refine l_c1 (e_sqT hb cb) (r_c1 (e_MsqT hb cb) (l_g (by decide) (r_g (by decide) (l_f (by decide) (r_f (by decide) (l_i1 (l_g hd ?_)))))))
  by_cases cd : 0 ≤ d ∧ d ≤ 2
  case neg =>
    refine r_c1 (e_inF hd (by decide) (by decide) cd) (r_g (by decide) (r_t rfl ?_))
    by_cases c1 : d < 0
    · exact l_t c1 (l_c2 (er_2 ra) (r_c2 (en_2 rb) (e2_some ⟨rfl, iRef_up hr 2 (by decide)⟩)))
    · exact l_f c1 (l_f (by omega) (l_c2 (er_2 ra) (r_c2 (en_2 rb) (e2_some ⟨rfl, iRef_up hr 2 (by decide)⟩))))
  refine r_c1 (e_inT hd (by decide) (by decide) cd) (r_g (by decide) (r_f (by decide) (l_f (by omega) (l_t (by omega) ?_))))
  obtain ⟨p, rfl⟩ := Int.eq_ofNat_of_zero_le ca.1
  obtain ⟨t, rfl⟩ := Int.eq_ofNat_of_zero_le cb.1
  have hp : p < 36 := by omega
  have ht : t < 36 := by omega
  refine e2_ev (ev_b3 (e_chargeC pc ps tl) (fun pc1 ps1 tl1 hch => ?_))
  obtain ⟨k1, k2, k3⟩ := hch
  have k1 : pc1 = 1000 := k1
  have k2 : ps1 = 1 := k2
  have k3 : ∀ i, i < 36 → tl1 i = 0 := k3
  subst k1 k2
  have h4 := zFour_0 (K := K) k3
  refine ev_b6 (e_cheapest hK (zFour_r h4 (zP0_rng K)) fw wc iw L wq hp ht) (fun R fw1 wc1 iw1 L1 wq1 hR => ?_)
  have hR : (R = -9 ∧ (¬ zcan (K p) ∨ zNo K (zPr K 1000 1 tl1) zAny (p * 5 + 4) t)) ∨ (zcan (K p) ∧ 0 ≤ R ∧ R < 2147483647 ∧ zSq K (zPr K 1000 1 tl1) zAny (p * 5 + 4) t R) := hR
  have cby := fun (f : Int) (hf : zr f) (g : Nat → Int) => e_M_cornersBy hs hK hf g hp ht
  rcases hR with ⟨r1, r2⟩ | ⟨r0, r1, r2, r3⟩
  · refine ev_g (by omega) (ev_t r1 (ev_some (ev_b2 (cby (-9) (by decide) le) (fun r l1 hq => ?_))))
    have hq : zLQ K (zP0 K) (-9) p t r := hq
    rcases hq with ⟨q1, _⟩ | ⟨q0, q1, q2, q3⟩
    · exact ev_g (by omega) (ev_f (by omega) (ev_some ⟨rfl, hr⟩))
    · rcases r2 with z | z
      · exact absurd q0 z
      · obtain ⟨⟨m, v, b1, b2⟩, _⟩ := q3
        exact absurd b2 ((zNo_link h4 (by omega)).mp z m v _ b1)
  · refine ev_g (by omega) (ev_f (by omega) ?_)
    have no : ¬ zNo K (zP0 K) (zOk (-9)) (p * 5 + 4) t := fun z => by
      obtain ⟨⟨m, v, b1, b2⟩, _⟩ := r3
      exact (zNo_link h4 (by omega)).mpr z m v _ b1 b2
    have hq2 : ∀ r, zLQ K (zP0 K) (-9) p t r → 0 ≤ r ∧ r < 1000000000 ∧ zSq K (zP0 K) (zOk (-9)) (p * 5 + 4) t r := fun r h => by
      rcases h with ⟨q1, q2⟩ | ⟨q0, q1, q2, q3⟩
      · rcases q2 with z | z
        · exact absurd r0 z
        · exact absurd z no
      · exact ⟨q1, q2, q3⟩
    refine ev_if (fun d0 => ev_c1 (e_cornersOf r1 (by omega)) (ev_some ?_)) (fun d0 => ev_if (fun d1 => ev_c1 (e_stepsOf r1 (by omega)) (ev_some ?_)) (fun d1 => ?_))
    · refine ev_b2 (cby (-9) (by decide) le) (fun r l1 hq => ?_)
      obtain ⟨q1, q2, q3⟩ := hq2 r hq
      have lk := (zSq_link h4 rfl r3 q3 q1).1
      refine ev_g (by omega) (ev_t q2 (ev_g hd (ev_f (by omega) (ev_t d0 (ev_g (by omega) (ev_some ⟨?_, hr⟩))))))
      show R / 4 / 1000 = r / 1000
      rw [lk]
    · refine ev_b2 (cby (-9) (by decide) le) (fun r l1 hq => ?_)
      obtain ⟨q1, q2, q3⟩ := hq2 r hq
      have lk := (zSq_link h4 rfl r3 q3 q1).1
      refine ev_g (by omega) (ev_t q2 (ev_g hd (ev_f (by omega) (ev_f d0 (ev_g (by omega) (ev_some ⟨?_, hr⟩))))))
      show R / 4 % 1000 = r % 1000
      rw [lk]
    · refine ev_g (by omega) (ev_g (by omega) (ev_if (fun e => ev_some ?_) (fun e => ev_c1 (e_firstOf r1 (by omega)) (ev_some ?_))))
      · refine ev_b2 (cby (-9) (by decide) le) (fun r l1 hq => ?_)
        obtain ⟨q1, q2, q3⟩ := hq2 r hq
        refine ev_g (by omega) (ev_t q2 (ev_g hd (ev_t (by omega) ?_)))
        refine ev_l2 (fun μ i g => i = 0) (fun μ i g ag hI hag => ?_) (m := 0) (zF_gt (by decide)) rfl
        subst hI
        exact ev_g (by decide) (ev_f (by decide) (ev_g (by omega) (ev_g (by omega) (ev_t e (ev_some ⟨rfl, hr⟩)))))
      · refine ev_b2 (cby (-9) (by decide) le) (fun r l1 hq => ?_)
        obtain ⟨q1, q2, q3⟩ := hq2 r hq
        obtain ⟨f, f1, f2, f3, f4⟩ := (zSq_link h4 rfl r3 q3 q1).2 (by omega)
        refine ev_g (by omega) (ev_t q2 (ev_g hd (ev_t (by omega) ?_)))
        refine ev_f2_1 4 (by decide) (fun i _ => i ≤ f) (fun i g ag hi hQ hag => ?_) (Nat.zero_le f)
        refine ev_g (by omega) (ev_f (by omega) (ev_g (by omega) (ev_g (by omega) (ev_f e ?_))))
        refine ev_b2 (cby (i : Int) (by omega) g) (fun r2 g2 hq5 => ?_)
        have hq5 : zLQ K (zP0 K) (i : Int) p t r2 := hq5
        have rr : 0 ≤ r2 ∧ r2 ≤ 1000000000 := by
          rcases hq5 with ⟨z, _⟩ | ⟨_, z1, z2, _⟩
          · omega
          · omega
        refine ev_g (by omega) (ev_if (fun c5 => ev_some ⟨?_, hr⟩) (fun c5 => ev_n (hag _ (by omega) ?_)))
        · show R % 4 = (i : Int)
          rw [f2]
          rcases Nat.lt_or_ge i f with z | z
          · rcases hq5 with ⟨y, _⟩ | ⟨_, _, _, y⟩
            · omega
            · rw [c5] at y
              exact absurd y (f4 i z)
          · omega
        · rcases Nat.lt_or_ge i f with z | z
          · omega
          · have fi : i = f := by omega
            subst fi
            rcases hq5 with ⟨_, y⟩ | ⟨_, _, _, y⟩
            · rcases y with y | y
              · exact absurd r0 y
              · obtain ⟨⟨m, v, b1, b2⟩, _⟩ := f3
                exact absurd b2 (y m v _ b1)
            · exact absurd (zSq_u y f3) c5
theorem m_fines {K s ra rb : Nat → Int} {ho fi br a b : Int} (pc fw ps wc : Int) (iw L tl wq le : Nat → Int) (hT : iTown K s ho fi br) (hr : iRef ra rb) (ha : zr a) (hb : zr b) : ev2 (g_X_fines ra pc fw ps wc iw L tl wq fi K a b) (g_M_fines le rb s a b) (fun x y => x.1 = y.1 ∧ iRef x.2.1 y.2.2) := by
  obtain ⟨hK, hs, _, s37, _, _, _, _, fi0, fi9, _, _⟩ := hT
  unfold g_X_fines g_M_fines
  by_cases ca : 0 ≤ a ∧ a < 36
  case neg => exact l_c1 (e_sqF ha ca) (r_c1 (e_MsqF ha ca) (l_i1 (r_i1 (l_g (by decide) (r_g (by decide) (l_t rfl (r_t rfl (l_c2 (er_1 ra) (r_c2 (en_1 rb) (e2_some ⟨rfl, iRef_up hr 1 (by decide)⟩))))))))))
  refine l_c1 (e_sqT ha ca) (r_c1 (e_MsqT ha ca) (l_i1 (r_i1 (l_g (by decide) (r_g (by decide) (l_f (by decide) (r_f (by decide) ?_)))))))
  by_cases cb : 0 ≤ b ∧ b < 36
  case neg => exact l_c1 (e_sqF hb cb) (r_c1 (e_MsqF hb cb) (l_g (by decide) (r_g (by decide) (l_t rfl (r_t rfl (l_c2 (er_1 ra) (r_c2 (en_1 rb) (e2_some ⟨rfl, iRef_up hr 1 (by decide)⟩))))))))
  refine l_c1 (e_sqT hb cb) (r_c1 (e_MsqT hb cb) (l_g (by decide) (r_g (by decide) (l_f (by decide) (r_f (by decide) ?_)))))
  obtain ⟨p, rfl⟩ := Int.eq_ofNat_of_zero_le ca.1
  obtain ⟨t, rfl⟩ := Int.eq_ofNat_of_zero_le cb.1
  have hp : p < 36 := by omega
  have ht : t < 36 := by omega
  refine e2_ev (ev_b3 (e_chargeF hK pc ps tl fi0 fi9) (fun pc1 ps1 tl1 hch => ?_))
  obtain ⟨k1, k2, k3⟩ := hch
  have k1 : pc1 = 0 := k1
  have k2 : ps1 = 0 := k2
  have k3 : ∀ i, i < 36 → tl1 i = zFn K fi i := k3
  subst k1 k2
  have h4 := zFour_1 (K := K) k3
  have pr := fun j w => zP1_rng K fi0 fi9 j w
  refine ev_b6 (e_cheapest hK (zFour_r h4 (fun j w => ⟨(pr j w).1, by have := (pr j w).2; omega⟩)) fw wc iw L wq hp ht) (fun R fw1 wc1 iw1 L1 wq1 hR => ?_)
  have hR : (R = -9 ∧ (¬ zcan (K p) ∨ zNo K (zPr K 0 0 tl1) zAny (p * 5 + 4) t)) ∨ (zcan (K p) ∧ 0 ≤ R ∧ R < 2147483647 ∧ zSq K (zPr K 0 0 tl1) zAny (p * 5 + 4) t R) := hR
  have lst := e_M_leastTo hs hK (md := 1) (f := -9) (by decide) (e_cost1 hs hK s37) (fun j w _ _ => ⟨(pr j w).1, by have := (pr j w).2; omega⟩) le hp ht
  rcases hR with ⟨r1, r2⟩ | ⟨r0, r1, r2, r3⟩
  · refine ev_g (by omega) (ev_t r1 (ev_some (ev_b1 lst (fun l1 hq => ?_))))
    obtain ⟨r, e1, hq⟩ := hq
    refine ev_c1 e1 ?_
    rcases hq with ⟨q1, _⟩ | ⟨q0, q1, q2, q3⟩
    · exact ev_g (by omega) (ev_f (by omega) (ev_some ⟨rfl, hr⟩))
    · rcases r2 with z | z
      · exact absurd q0 z
      · obtain ⟨⟨m, v, b1, b2⟩, _⟩ := q3
        exact absurd b2 ((zNo_link h4 (by omega)).mp z m v _ b1)
  · refine ev_g (by omega) (ev_f (by omega) (ev_c1 (e_priceOf r1 (by omega)) (ev_c1 (e_fineOn hK ht fi0 fi9) (ev_some (ev_b1 lst (fun l1 hq => ?_))))))
    obtain ⟨r, e1, hq⟩ := hq
    refine ev_c1 e1 ?_
    rcases hq with ⟨_, q2⟩ | ⟨q0, q1, q2, q3⟩
    · rcases q2 with z | z
      · exact absurd r0 z
      · obtain ⟨⟨m, v, b1, b2⟩, _⟩ := r3
        exact absurd b2 ((zNo_link h4 (by omega)).mpr z m v _ b1)
    · have lk := (zSq_link h4 rfl r3 q3 q1).1
      refine ev_g (by omega) (ev_t q2 (ev_c1 (e_M_words hs hK ht) (ev_g (by decide) (ev_c1 (e_M_heardBy hs hK ht) (ev_some ⟨?_, hr⟩)))))
      show R / 4 + zFn K fi t = r + zwd (K t) * s 37 * zHB K t
      rw [lk, s37]
      rfl
