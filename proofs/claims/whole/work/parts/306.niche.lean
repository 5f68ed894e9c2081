-- own text: new niche
def zNN (K : Nat → Int) (q : Nat) : Int := cnt (fun k => zap q k ≤ 1 ∧ zHB K k = 0) 36
theorem zNN_rng (K : Nat → Int) (q : Nat) : 0 ≤ zNN K q ∧ zNN K q ≤ 36 := cnt_rng _ 36
theorem e_newly {K h : Nat → Int} {q : Nat} (hq : q < 36) (hh : ∀ j, j < 36 → h j = zHB K j) : g_X_newlyHeardFrom h (q : Int) = some (zNN K q) := by
  refine ev_is ?_
  unfold g_X_newlyHeardFrom
  refine ev_f2_2 36 (by decide) (fun i a => a = cnt (fun k => zap q k ≤ 1 ∧ zHB K k = 0) i) (fun i a ag hi hQ hag => ?_) rfl
  refine ev_g (by omega) (ev_if (fun h9 => ?_) (fun h9 => ?_))
  · have : i = 36 := by omega
    subst this
    exact ev_some hQ
  · have hi2 : i < 36 := by omega
    have e1 := hh i hi2
    have r1 := zHB_rng K i
    have r2 := zap_rng (a := q) (b := i) hq hi2
    have yes : (zap q i ≤ 1 ∧ zHB K i = 0) → ev (ag (a + 1) ((i : Int) + 1)) _ := fun y => hag _ hi2 (by rw [hQ, cnt_s, if_pos y])
    have no : ¬ (zap q i ≤ 1 ∧ zHB K i = 0) → ev (ag a ((i : Int) + 1)) _ := fun y => hag _ hi2 (by rw [hQ, cnt_s, if_neg y]; omega)
    refine ev_c1 (by rw [e_atN (by decide) hi2, e1]) (ev_i1 (ev_g (by omega) (ev_if (fun h1 => ?_) (fun h1 => ?_))))
    · refine ev_c1 (e_apart hq hi2) (ev_g (by omega) (ev_if (fun h2 => ?_) (fun h2 => ?_)))
      · exact ev_n (no (fun x => by omega))
      · exact ev_n (ev_n (yes ⟨by omega, h1⟩))
    · exact ev_n (no (fun x => h1 x.2))
theorem m_newNiche {K s ra rb : Nat → Int} {ho fi br a : Int} (hh : Nat → Int) (hT : iTown K s ho fi br) (hr : iRef ra rb) (ha : zr a) : ev2 (g_X_newNiche hh ra ho K a) (g_M_newNiche rb s a) (fun x y => x.1 = y.1 ∧ iRef x.2.2 y.2) := by
  obtain ⟨hK, hs, h36, h37, h38, q1, q2, q3, q4, q5, q6, q7⟩ := hT
  have e36 : s (36 : Int).toNat = ho := h36
  have ez : ∀ z : Int, g_Town_home z = some z := fun _ => rfl
  unfold g_X_newNiche g_M_newNiche
  by_cases h : 0 ≤ a ∧ a ≤ 1
  case neg =>
    refine e2_ev ?_
    repeat' (first
    | with_reducible refine ev_g (by omega) ?_
    | with_reducible refine ev_n ?_
    | with_reducible refine ev_i1 ?_
    | with_reducible refine ev_i2 ?_
    | with_reducible refine ev_i3 ?_
    | with_reducible refine ev_i4 ?_
    | with_reducible refine ev_c2 (er_1 _) ?_
    | with_reducible refine ev_c2 (er_2 _) ?_
    | with_reducible refine ev_c2 (er_3 _) ?_
    | with_reducible refine ev_c2 (er_4 _) ?_
    | with_reducible refine ev_c2 (er_5 _) ?_
    | with_reducible refine ev_c2 (er_6 _) ?_
    | with_reducible refine ev_c2 (en_1 _) ?_
    | with_reducible refine ev_c2 (en_2 _) ?_
    | with_reducible refine ev_c2 (en_3 _) ?_
    | with_reducible refine ev_c2 (en_4 _) ?_
    | with_reducible refine ev_c2 (en_5 _) ?_
    | with_reducible refine ev_c2 (en_6 _) ?_
    | with_reducible refine ev_c1 (e_sqF (by omega) (by omega)) ?_
    | with_reducible refine ev_c1 (e_sqT (by omega) (by omega)) ?_
    | with_reducible refine ev_c1 (e_MsqF (by omega) (by omega)) ?_
    | with_reducible refine ev_c1 (e_MsqT (by omega) (by omega)) ?_
    | with_reducible refine ev_c1 (e_inT (by omega) (by omega) (by omega) (by omega)) ?_
    | with_reducible refine ev_c1 (e_inF (by omega) (by omega) (by omega) (by omega)) ?_
    | with_reducible refine ev_t (by omega) ?_
    | with_reducible refine ev_f (by omega) ?_
    | with_reducible refine ev_if (fun _ => ?_) (fun _ => ?_)
    | with_reducible refine ev_some ?_)
    all_goals exact ⟨rfl, iRef_up hr _ (by decide)⟩
  refine l_i1 (l_g ha (l_f (by omega) (l_t (by omega) (l_i1 ?_))))
  refine l_f2_1 36 (by decide) (fun i g => ∀ j, j < i → g j = zHB K j) (fun i g ag hi hQ hag => ?_) (fun j hj => absurd hj (Nat.not_lt_zero j))
  refine l_g (by omega) (l_if (fun h9 => ?_) (fun h9 => ?_))
  rotate_left
  · have hi2 : i < 36 := by omega
    refine l_c1 (e_heardBy hK hi2) (l_c1 (v1 := updI g i (zHB K i)) (by rw [e_put (n := 36) (by decide) ⟨by omega, by omega⟩, if_pos (by omega), Int.toNat_natCast]) (l_n (hag _ hi2 (fun j hj => ?_))))
    by_cases e : j = i
    · rw [e, updI_at]
    · rw [updI_ne _ _ e]; exact hQ j (by omega)
  have hg : ∀ j, j < 36 → g j = zHB K j := fun j hj => hQ j (by omega)
  refine r_c1 (e_inT ha (by omega) (by omega) h) (r_g (by omega) (r_f (by omega) (l_i2 (r_i2 ?_))))
  refine e2_f33_33 36 (by decide) (fun i m b f b2 => b = f ∧ b2 = m ∧ 0 ≤ m ∧ m ≤ 36 ∧ -9 ≤ b ∧ b ≤ 36 ∧ (b = -9 ∨ 0 ≤ b)) (fun i m b f b2 ag1 ag2 hi1 hQ1 hag1 => ?_) ⟨rfl, rfl, by omega, by omega, by omega, by omega, Or.inl rfl⟩
  obtain ⟨rfl, rfl, b1, b2', b3, b4, b5⟩ := hQ1
  refine l_g (by omega) (r_g (by omega) ?_)
  by_cases h8 : i = 36
  · subst h8
    refine l_t (by omega) (r_t (by omega) (r_g ha ?_))
    by_cases h0 : a = 0
    · exact l_t h0 (r_t h0 (e2_some ⟨rfl, hr⟩))
    · refine l_f h0 (r_f h0 (l_g (by omega) (r_g (by omega) ?_)))
      by_cases h7 : b = -9
      · exact l_t h7 (r_f (by omega) (e2_some ⟨rfl, hr⟩))
      · exact l_f h7 (r_t (by omega) (e2_some ⟨rfl, hr⟩))
  have hi2 : i < 36 := by omega
  have rr := zNN_rng K i
  refine l_f (by omega) (r_f (by omega) (l_c1 (ez _) (l_i2 (r_g (by omega) (r_i2 (l_g (by omega) (r_g (by omega) ?_)))))))
  by_cases hh1 : (i : Int) = ho
  · exact l_t hh1 (r_t (by omega) (l_n (r_n (hag1 _ _ _ _ hi2 ⟨rfl, rfl, b1, b2', b3, b4, b5⟩))))
  refine l_f hh1 (r_f (by omega) ?_)
  by_cases hc : zcan (K i)
  case neg => exact l_c1 (e_canF hK hi2 hc) (r_c1 (e_McanF hs hK hi2 hc) (l_g (by omega) (r_g (by omega) (l_t rfl (r_t rfl (l_n (r_n (hag1 _ _ _ _ hi2 ⟨rfl, rfl, b1, b2', b3, b4, b5⟩))))))))
  refine l_c1 (e_canT hK hi2 hc) (r_c1 (e_McanT hs hK hi2 hc) (l_g (by omega) (r_g (by omega) (l_f (by omega) (r_f (by omega) (l_c1 (e_newly hi2 hg) (l_g (by omega) (l_g (by omega) (r_i1 ?_)))))))))
  refine r_f2_2 36 (by decide) (fun j c => c = cnt (fun k => zap i k ≤ 1 ∧ zHB K k = 0) j) (fun j c ag3 hj hQ3 hag3 => ?_) rfl
  refine r_g (by omega) (r_if (fun h6 => ?_) (fun h6 => ?_))
  · have e9 : c = zNN K i := by rw [hQ3, show j = 36 by omega]; rfl
    rw [e9]
    refine r_g (by omega) (r_g (by omega) ?_)
    by_cases h5 : zNN K i ≤ b2
    · exact l_t h5 (r_f (by omega) (l_n (r_n (hag1 _ _ _ _ hi2 ⟨rfl, rfl, b1, b2', b3, b4, b5⟩))))
    · exact l_f h5 (r_t (by omega) (l_n (r_n (hag1 _ _ _ _ hi2 ⟨rfl, rfl, by omega, by omega, by omega, by omega, Or.inr (by omega)⟩))))
  · have hj2 : j < 36 := by omega
    have r1 := zHB_rng K j
    have r2 := zap_rng (a := i) (b := j) hi2 hj2
    have yes : (zap i j ≤ 1 ∧ zHB K j = 0) → ev2 _ (ag3 (c + 1) ((j : Int) + 1)) _ := fun y => hag3 _ hj2 (by rw [hQ3, cnt_s, if_pos y])
    have no : ¬ (zap i j ≤ 1 ∧ zHB K j = 0) → ev2 _ (ag3 (c + 0) ((j : Int) + 1)) _ := fun y => hag3 _ hj2 (by rw [hQ3, cnt_s, if_neg y])
    refine r_c1 (e_M_apart hi2 hj2) (r_i1 (r_i1 (r_g (by omega) (r_if (fun h5 => ?_) (fun h5 => ?_)))))
    · exact r_n (r_n (no (fun x => by omega)))
    · refine r_c1 (e_M_isHeard hs hK hj2) ?_
      by_cases h4 : 0 < zHB K j
      · rw [if_pos h4]
        exact r_g (by omega) (r_f (by omega) (r_n (r_n (no (fun x => by omega)))))
      · rw [if_neg h4]
        exact r_g (by omega) (r_t (by omega) (r_n (r_n (yes ⟨by omega, by omega⟩))))
