-- own text: meet
theorem m_meet {K s ra rb : Nat → Int} {a b d : Int} (oc : Int) (ocome ofar : Nat → Int) (c : Int) (come far f of : Nat → Int) (hK : zK K) (hs : zR s K) (hr : iRef ra rb) (ha : zr a) (hb : zr b) (hd : zr d) : ev2 (g_X_meet oc ocome ofar c come far ra K a b d) (g_M_meet of rb s f a b d) (fun x y => x.1 = y.1 ∧ iRef x.2.2.2.2.2.2.2 y.2.2.1) := by
  unfold g_X_meet g_M_meet
  by_cases h : 0 ≤ a ∧ a < 36
  case neg =>
    refine e2_ev ?_
    repeat' (first
    | with_reducible refine ev_g (by omega) ?_
    | with_reducible refine ev_n ?_
    | with_reducible refine ev_i1 ?_
    | with_reducible refine ev_i2 ?_
    | with_reducible refine ev_i3 ?_
    | with_reducible refine ev_i4 ?_
    | with_reducible refine ev_c2 (er_1 _) ?_
    | with_reducible refine ev_c2 (er_2 _) ?_
    | with_reducible refine ev_c2 (er_3 _) ?_
    | with_reducible refine ev_c2 (er_4 _) ?_
    | with_reducible refine ev_c2 (er_5 _) ?_
    | with_reducible refine ev_c2 (er_6 _) ?_
    | with_reducible refine ev_c2 (en_1 _) ?_
    | with_reducible refine ev_c2 (en_2 _) ?_
    | with_reducible refine ev_c2 (en_3 _) ?_
    | with_reducible refine ev_c2 (en_4 _) ?_
    | with_reducible refine ev_c2 (en_5 _) ?_
    | with_reducible refine ev_c2 (en_6 _) ?_
    | with_reducible refine ev_c1 (e_sqF (by omega) (by omega)) ?_
    | with_reducible refine ev_c1 (e_sqT (by omega) (by omega)) ?_
    | with_reducible refine ev_c1 (e_MsqF (by omega) (by omega)) ?_
    | with_reducible refine ev_c1 (e_MsqT (by omega) (by omega)) ?_
    | with_reducible refine ev_c1 (e_inT (by omega) (by omega) (by omega) (by omega)) ?_
    | with_reducible refine ev_c1 (e_inF (by omega) (by omega) (by omega) (by omega)) ?_
    | with_reducible refine ev_t (by omega) ?_
    | with_reducible refine ev_f (by omega) ?_
    | with_reducible refine ev_if (fun _ => ?_) (fun _ => ?_)
    | with_reducible refine ev_some ?_)
    all_goals exact ⟨rfl, iRef_up hr _ (by decide)⟩
  by_cases h2 : 0 ≤ b ∧ b < 36
  case neg =>
    refine e2_ev ?_
    repeat' (first
    | with_reducible refine ev_g (by omega) ?_
    | with_reducible refine ev_n ?_
    | with_reducible refine ev_i1 ?_
    | with_reducible refine ev_i2 ?_
    | with_reducible refine ev_i3 ?_
    | with_reducible refine ev_i4 ?_
    | with_reducible refine ev_c2 (er_1 _) ?_
    | with_reducible refine ev_c2 (er_2 _) ?_
    | with_reducible refine ev_c2 (er_3 _) ?_
    | with_reducible refine ev_c2 (er_4 _) ?_
    | with_reducible refine ev_c2 (er_5 _) ?_
    | with_reducible refine ev_c2 (er_6 _) ?_
    | with_reducible refine ev_c2 (en_1 _) ?_
    | with_reducible refine ev_c2 (en_2 _) ?_
    | with_reducible refine ev_c2 (en_3 _) ?_
    | with_reducible refine ev_c2 (en_4 _) ?_
    | with_reducible refine ev_c2 (en_5 _) ?_
    | with_reducible refine ev_c2 (en_6 _) ?_
    | with_reducible refine ev_c1 (e_sqF (by omega) (by omega)) ?_
    | with_reducible refine ev_c1 (e_sqT (by omega) (by omega)) ?_
    | with_reducible refine ev_c1 (e_MsqF (by omega) (by omega)) ?_
    | with_reducible refine ev_c1 (e_MsqT (by omega) (by omega)) ?_
    | with_reducible refine ev_c1 (e_inT (by omega) (by omega) (by omega) (by omega)) ?_
    | with_reducible refine ev_c1 (e_inF (by omega) (by omega) (by omega) (by omega)) ?_
    | with_reducible refine ev_t (by omega) ?_
    | with_reducible refine ev_f (by omega) ?_
    | with_reducible refine ev_if (fun _ => ?_) (fun _ => ?_)
    | with_reducible refine ev_some ?_)
    all_goals exact ⟨rfl, iRef_up hr _ (by decide)⟩
  by_cases h3 : 0 ≤ d ∧ d ≤ 1
  case neg =>
    refine e2_ev ?_
    repeat' (first
    | with_reducible refine ev_g (by omega) ?_
    | with_reducible refine ev_n ?_
    | with_reducible refine ev_i1 ?_
    | with_reducible refine ev_i2 ?_
    | with_reducible refine ev_i3 ?_
    | with_reducible refine ev_i4 ?_
    | with_reducible refine ev_c2 (er_1 _) ?_
    | with_reducible refine ev_c2 (er_2 _) ?_
    | with_reducible refine ev_c2 (er_3 _) ?_
    | with_reducible refine ev_c2 (er_4 _) ?_
    | with_reducible refine ev_c2 (er_5 _) ?_
    | with_reducible refine ev_c2 (er_6 _) ?_
    | with_reducible refine ev_c2 (en_1 _) ?_
    | with_reducible refine ev_c2 (en_2 _) ?_
    | with_reducible refine ev_c2 (en_3 _) ?_
    | with_reducible refine ev_c2 (en_4 _) ?_
    | with_reducible refine ev_c2 (en_5 _) ?_
    | with_reducible refine ev_c2 (en_6 _) ?_
    | with_reducible refine ev_c1 (e_sqF (by omega) (by omega)) ?_
    | with_reducible refine ev_c1 (e_sqT (by omega) (by omega)) ?_
    | with_reducible refine ev_c1 (e_MsqF (by omega) (by omega)) ?_
    | with_reducible refine ev_c1 (e_MsqT (by omega) (by omega)) ?_
    | with_reducible refine ev_c1 (e_inT (by omega) (by omega) (by omega) (by omega)) ?_
    | with_reducible refine ev_c1 (e_inF (by omega) (by omega) (by omega) (by omega)) ?_
    | with_reducible refine ev_t (by omega) ?_
    | with_reducible refine ev_f (by omega) ?_
    | with_reducible refine ev_if (fun _ => ?_) (fun _ => ?_)
    | with_reducible refine ev_some ?_)
    all_goals exact ⟨rfl, iRef_up hr _ (by decide)⟩
  obtain ⟨q, rfl⟩ := Int.eq_ofNat_of_zero_le h.1
  obtain ⟨t, rfl⟩ := Int.eq_ofNat_of_zero_le h2.1
  have hq : q < 36 := by omega
  have ht : t < 36 := by omega
  refine l_c1 (e_sqT ha h) (l_i1 (l_g (by omega) (l_f (by decide) (l_c1 (e_sqT hb h2) (l_g (by omega) (l_f (by decide) (l_i1 (l_g hd (l_f (by omega) (l_t h3.2 (l_b3 (e_spreadFrom hK c come far hq) (fun c1 come1 far1 hx => l_b3 (e_spreadFrom hK oc ocome ofar ht) (fun c2 come2 far2 hx2 => l_i2 ?_)))))))))))))
  have hx : bExact K (fun t => t = q) far1 := hx
  have hx2 : bExact K (fun x => x = t) far2 := hx2
  refine r_c1 (e_MsqT ha h) (r_i1 (r_g (by omega) (r_f (by decide) (r_c1 (e_MsqT hb h2) (r_g (by omega) (r_f (by decide) (r_c1 (e_inT hd (by omega) (by omega) h3) (r_g (by omega) (r_f (by decide) (r_b1 (e_stepsAll hs hK f hq) (fun f1 hy => ?_)))))))))))
  refine r_j1 (fun g => ∀ j, j < 36 → g j = f1 j) (fun g hg => ?_) (fun k2 hk2 => ?_)
  case refine_2 =>
    refine r_f2_1 36 (by decide) (fun i g => ∀ j, j < i → g j = f1 j) (fun i g ag hi hQ hag => ?_) (fun j hj => absurd hj (Nat.not_lt_zero j))
    refine r_g (by omega) (r_if (fun h9 => hk2 _ (fun j hj => hQ j (by omega))) (fun h9 => ?_))
    refine r_g (by omega) (r_n (r_n (r_n (hag _ (by omega) (fun j hj => ?_)))))
    rw [Int.toNat_natCast]
    by_cases e : j = i
    · rw [e, updI_at]
    · rw [updI_ne _ _ e]; exact hQ j (by omega)
  refine r_b1 (e_stepsAll hs hK f1 ht) (fun f2 hy2 => r_i2 ?_)
  refine e2_f33_33 36 (by decide) (fun i m pl fo so => (m = -9 ∧ pl = -9 ∧ fo = -9 ∧ so = 1000000000) ∨ (m = so ∧ pl = fo ∧ 0 ≤ so ∧ so ≤ 36 ∧ 0 ≤ fo ∧ fo < 36)) (fun i m pl fo so ag ag2 hi hQ hag => ?_) (Or.inl ⟨rfl, rfl, rfl, rfl⟩)
  refine l_g (by omega) (r_g (by omega) ?_)
  by_cases h9 : i = 36
  · subst h9
    refine l_t (by omega) (r_t (by omega) (r_g (by omega) ?_))
    rcases hQ with x | x
    · refine r_t (by omega) ?_
      by_cases h8 : d = 0
      · exact l_t h8 (e2_some ⟨by show m = fo; omega, hr⟩)
      · exact l_f h8 (e2_some ⟨by show pl = fo; omega, hr⟩)
    · refine r_f (by omega) (r_g hd ?_)
      by_cases h8 : d = 0
      · exact l_t h8 (r_f (by omega) (e2_some ⟨x.1, hr⟩))
      · exact l_f h8 (r_t (by omega) (e2_some ⟨x.2.1, hr⟩))
  have hi2 : i < 36 := by omega
  have e1 := bs_eq hx hy hi2
  have e2 := bs_eq hx2 hy2 hi2
  have keep := hag m pl fo so hi2 hQ
  refine l_f (by omega) (r_f (by omega) (l_c1 (e_stepsTo hi2) (l_c1 (e_stepsTo hi2) (l_g (by omega) (l_g (by omega) (l_n (l_i2 ?_)))))))
  refine r_g (by omega) (r_j1 (fun v => v = max (f1 i) (f2 i)) (fun v hv => ?_) (fun k2 hk2 => ?_))
  · refine r_i2 (r_g (by omega) (r_g (by omega) ?_))
    rcases e1 with e1 | e1
    · exact l_t (by omega) (l_n (r_f (by omega) (r_n keep)))
    rcases e2 with e2 | e2
    · exact l_f (by omega) (l_t (by omega) (l_n (r_f (by omega) (r_n keep))))
    refine l_f (by omega) (l_f (by omega) (l_i1 (l_g (by omega) ?_)))
    have em : max (far1 i) (far2 i) = v := by omega
    by_cases h7 : so ≤ v
    · have := hQ.resolve_left (fun x => by omega)
      exact l_f (by omega) (l_g (by omega) (l_t (by omega) (l_n (r_f (by omega) (r_n keep)))))
    · have nw := hag (max (far1 i) (far2 i)) (i : Int) (i : Int) v hi2 (Or.inr ⟨em, rfl, by omega, by omega, by omega, by omega⟩)
      refine r_t (by omega) (r_n ?_)
      by_cases h6 : m = -9
      · exact l_t h6 (l_n nw)
      · exact l_f h6 (l_g (by omega) (l_f (by omega) (l_n nw)))
  · rw [Int.toNat_natCast, hg i hi2]
    refine r_g (by omega) (r_g (by omega) ?_)
    by_cases h5 : f2 i ≤ f1 i
    · exact r_t h5 (hk2 _ (by omega))
    · exact r_f h5 (hk2 _ (by omega))
