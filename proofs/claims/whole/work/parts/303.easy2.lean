-- own text: easy methods, on
theorem e_oneCan {K : Nat → Int} (hK : zK K) : g_X_squaresOneCanBeOn K = some (cnt (fun i => zcan (K i)) 36) := by
  refine ev_is ?_
  unfold g_X_squaresOneCanBeOn
  refine ev_f2_2 36 (by decide) (fun i a => a = cnt (fun i => zcan (K i)) i) (fun i a ag hi hQ hag => ?_) rfl
  refine ev_g (by omega) (ev_if (fun h => ?_) (fun h => ?_))
  · have : i = 36 := by omega
    subst this
    exact ev_some hQ
  · have hi2 : i < 36 := by omega
    have hk := hK i hi2
    have yes : (zcan (K i)) → ev (ag (a + 1) ((i : Int) + 1)) _ := fun y => hag _ hi2 (by rw [hQ, cnt_s, if_pos y])
    have no : ¬ (zcan (K i)) → ev (ag (a + 0) ((i : Int) + 1)) _ := fun y => hag _ hi2 (by rw [hQ, cnt_s, if_neg y])
    by_cases hc : zcan (K i)
    · exact ev_c1 (e_canT hK hi2 hc) (ev_i1 (ev_g (by omega) (ev_f (by omega) (yes hc))))
    · exact ev_c1 (e_canF hK hi2 hc) (ev_i1 (ev_g (by omega) (ev_t (by omega) (no hc))))
theorem e_informers {K : Nat → Int} (hK : zK K) : g_X_informers K = some (cnt (fun i => 0 ≤ zhr (K i)) 36) := by
  refine ev_is ?_
  unfold g_X_informers
  refine ev_f2_2 36 (by decide) (fun i a => a = cnt (fun i => 0 ≤ zhr (K i)) i) (fun i a ag hi hQ hag => ?_) rfl
  refine ev_g (by omega) (ev_if (fun h => ?_) (fun h => ?_))
  · have : i = 36 := by omega
    subst this
    exact ev_some hQ
  · have hi2 : i < 36 := by omega
    have hk := hK i hi2
    have yes : (0 ≤ zhr (K i)) → ev (ag (a + 1) ((i : Int) + 1)) _ := fun y => hag _ hi2 (by rw [hQ, cnt_s, if_pos y])
    have no : ¬ (0 ≤ zhr (K i)) → ev (ag (a + 0) ((i : Int) + 1)) _ := fun y => hag _ hi2 (by rw [hQ, cnt_s, if_neg y])
    have r2 := zhr_rng (K i)
    refine ev_c1 (e_hearing hK hi2) (ev_i1 (ev_g (by omega) (ev_if (fun h1 => ?_) (fun h1 => ?_))))
    · exact no (by omega)
    · exact yes (by omega)
theorem e_sqHeard {K : Nat → Int} (hK : zK K) : g_X_squaresHeard K = some (cnt (fun i => 0 < zHB K i) 36) := by
  refine ev_is ?_
  unfold g_X_squaresHeard
  refine ev_f2_2 36 (by decide) (fun i a => a = cnt (fun i => 0 < zHB K i) i) (fun i a ag hi hQ hag => ?_) rfl
  refine ev_g (by omega) (ev_if (fun h => ?_) (fun h => ?_))
  · have : i = 36 := by omega
    subst this
    exact ev_some hQ
  · have hi2 : i < 36 := by omega
    have hk := hK i hi2
    have yes : (0 < zHB K i) → ev (ag (a + 1) ((i : Int) + 1)) _ := fun y => hag _ hi2 (by rw [hQ, cnt_s, if_pos y])
    have no : ¬ (0 < zHB K i) → ev (ag (a + 0) ((i : Int) + 1)) _ := fun y => hag _ hi2 (by rw [hQ, cnt_s, if_neg y])
    have r2 := zHB_rng K i
    refine ev_c1 (e_heardBy hK hi2) (ev_i1 (ev_g (by omega) (ev_if (fun h1 => ?_) (fun h1 => ?_))))
    · exact no (by omega)
    · exact yes (by omega)
theorem e_countKind {K : Nat → Int} (hK : zK K) {k : Int} (hk0 : zr k) : g_Town_countKind K k = some (cnt (fun i => K i = k) 36) := by
  refine ev_is ?_
  unfold g_Town_countKind
  refine ev_f2_2 36 (by decide) (fun i a => a = cnt (fun i => K i = k) i) (fun i a ag hi hQ hag => ?_) rfl
  refine ev_g (by omega) (ev_if (fun h => ?_) (fun h => ?_))
  · have : i = 36 := by omega
    subst this
    exact ev_some hQ
  · have hi2 : i < 36 := by omega
    have hk := hK i hi2
    have yes : (K i = k) → ev (ag (a + 1) ((i : Int) + 1)) _ := fun y => hag _ hi2 (by rw [hQ, cnt_s, if_pos y])
    have no : ¬ (K i = k) → ev (ag (a + 0) ((i : Int) + 1)) _ := fun y => hag _ hi2 (by rw [hQ, cnt_s, if_neg y])
    refine ev_c1 (e_atN (by decide) hi2) (ev_i1 (ev_g (by omega) (ev_g (by omega) (ev_if (fun h1 => ?_) (fun h1 => ?_)))))
    · exact yes h1
    · exact no h1
theorem e_M_isHeard {s K : Nat → Int} (hs : zR s K) (hK : zK K) {q : Nat} (h : q < 36) : g_M_isHeard s (q : Int) = some (if 0 < zHB K q then 1 else 0) := by
  have r := zHB_rng K q
  refine ev_is ?_
  unfold g_M_isHeard
  refine ev_c1 (e_M_heardBy hs hK h) (ev_g (by omega) (ev_if (fun h1 => ?_) (fun h1 => ?_)))
  · exact ev_some (by rw [if_neg (by omega)])
  · exact ev_some (by rw [if_pos (by omega)])
theorem e_M_heardMany {s K : Nat → Int} (hs : zR s K) (hK : zK K) : g_M_heardMany s = some (cnt (fun i => 0 < zHB K i) 36) := by
  refine ev_is ?_
  unfold g_M_heardMany
  refine ev_f2_2 36 (by decide) (fun i a => a = cnt (fun i => 0 < zHB K i) i) (fun i a ag hi hQ hag => ?_) rfl
  refine ev_g (by omega) (ev_if (fun h => ?_) (fun h => ?_))
  · have : i = 36 := by omega
    subst this
    exact ev_some hQ
  · have hi2 : i < 36 := by omega
    have hk := hK i hi2
    have yes : (0 < zHB K i) → ev (ag (a + 1) ((i : Int) + 1)) _ := fun y => hag _ hi2 (by rw [hQ, cnt_s, if_pos y])
    have no : ¬ (0 < zHB K i) → ev (ag (a + 0) ((i : Int) + 1)) _ := fun y => hag _ hi2 (by rw [hQ, cnt_s, if_neg y])
    refine ev_c1 (e_M_isHeard hs hK hi2) (ev_i1 ?_)
    by_cases h1 : 0 < zHB K i
    · rw [if_pos h1]
      exact ev_g (by omega) (ev_f (by omega) (yes h1))
    · rw [if_neg h1]
      exact ev_g (by omega) (ev_t (by omega) (no h1))
theorem e_M_many3 {s K : Nat → Int} (hs : zR s K) (hK : zK K) : g_M_manyOf s 3 = some (cnt (fun i => zcan (K i)) 36) := by
  refine ev_is ?_
  unfold g_M_manyOf
  refine ev_f2_2 36 (by decide) (fun i a => a = cnt (fun i => zcan (K i)) i) (fun i a ag hi hQ hag => ?_) rfl
  refine ev_g (by omega) (ev_if (fun h => ?_) (fun h => ?_))
  · have : i = 36 := by omega
    subst this
    exact ev_some hQ
  · have hi2 : i < 36 := by omega
    have hk := hK i hi2
    have yes : (zcan (K i)) → ev (ag (a + 1) ((i : Int) + 1)) _ := fun y => hag _ hi2 (by rw [hQ, cnt_s, if_pos y])
    have no : ¬ (zcan (K i)) → ev (ag (a + 0) ((i : Int) + 1)) _ := fun y => hag _ hi2 (by rw [hQ, cnt_s, if_neg y])
    refine ev_i1 (ev_g (by omega) (ev_t rfl ?_))
    by_cases hc : zcan (K i)
    · exact ev_c1 (e_McanT hs hK hi2 hc) (ev_g (by omega) (ev_f (by omega) (ev_n (ev_n (yes hc)))))
    · exact ev_c1 (e_McanF hs hK hi2 hc) (ev_g (by omega) (ev_t (by omega) (ev_n (ev_n (no hc)))))
theorem e_M_many4 {s K : Nat → Int} (hs : zR s K) (hK : zK K) : g_M_manyOf s 4 = some (cnt (fun i => 0 ≤ zhr (K i)) 36) := by
  refine ev_is ?_
  unfold g_M_manyOf
  refine ev_f2_2 36 (by decide) (fun i a => a = cnt (fun i => 0 ≤ zhr (K i)) i) (fun i a ag hi hQ hag => ?_) rfl
  refine ev_g (by omega) (ev_if (fun h => ?_) (fun h => ?_))
  · have : i = 36 := by omega
    subst this
    exact ev_some hQ
  · have hi2 : i < 36 := by omega
    have hk := hK i hi2
    have yes : (0 ≤ zhr (K i)) → ev (ag (a + 1) ((i : Int) + 1)) _ := fun y => hag _ hi2 (by rw [hQ, cnt_s, if_pos y])
    have no : ¬ (0 ≤ zhr (K i)) → ev (ag (a + 0) ((i : Int) + 1)) _ := fun y => hag _ hi2 (by rw [hQ, cnt_s, if_neg y])
    have r2 := zhr_rng (K i)
    have e1 := hs i hi2
    refine ev_i1 (ev_g (by omega) (ev_f (by decide) (ev_t rfl (ev_g (by omega) (ev_c1 (by rw [Int.toNat_natCast, e1]; exact e_M_hears hk) (ev_g (by omega) (ev_if (fun h1 => ?_) (fun h1 => ?_))))))))
    · exact ev_g (by omega) (ev_t (by omega) (ev_n (ev_n (no (by omega)))))
    · exact ev_g (by omega) (ev_f (by omega) (ev_n (ev_n (yes (by omega)))))
theorem e_M_many6 {s K : Nat → Int} (hs : zR s K) (hK : zK K) : g_M_manyOf s 6 = some (cnt (fun i => ¬ ztn (K i)) 36) := by
  refine ev_is ?_
  unfold g_M_manyOf
  refine ev_f2_2 36 (by decide) (fun i a => a = cnt (fun i => ¬ ztn (K i)) i) (fun i a ag hi hQ hag => ?_) rfl
  refine ev_g (by omega) (ev_if (fun h => ?_) (fun h => ?_))
  · have : i = 36 := by omega
    subst this
    exact ev_some hQ
  · have hi2 : i < 36 := by omega
    have hk := hK i hi2
    have yes : (¬ ztn (K i)) → ev (ag (a + 1) ((i : Int) + 1)) _ := fun y => hag _ hi2 (by rw [hQ, cnt_s, if_pos y])
    have no : ¬ (¬ ztn (K i)) → ev (ag (a + 0) ((i : Int) + 1)) _ := fun y => hag _ hi2 (by rw [hQ, cnt_s, if_neg y])
    refine ev_i1 (ev_g (by omega) (ev_f (by decide) (ev_f (by decide) (ev_c1 (e_M_turned hs hK hi2) ?_))))
    by_cases h1 : ztn (K i)
    · rw [if_pos h1]
      exact ev_g (by omega) (ev_f (by omega) (ev_g (by omega) (ev_t (by omega) (ev_n (ev_n (no (fun x => x h1)))))))
    · rw [if_neg h1]
      exact ev_g (by omega) (ev_t (by omega) (ev_g (by omega) (ev_f (by omega) (ev_n (ev_n (yes h1))))))
theorem cnt_26 (K : Nat → Int) : ∀ n, cnt (fun i => K i = 2) n + cnt (fun i => K i = 5) n = cnt (fun i => ¬ ztn (K i)) n
  | 0 => rfl
  | n + 1 => by
    have ih := cnt_26 K n
    rw [cnt_s, cnt_s, cnt_s, ← ih]
    by_cases h2 : K n = 2
    · rw [if_pos h2, if_neg (by omega), if_pos (fun x => x.1 h2)]; omega
    · by_cases h5 : K n = 5
      · rw [if_neg h2, if_pos h5, if_pos (fun x => x.2 h5)]; omega
      · rw [if_neg h2, if_neg h5, if_neg (fun x => x ⟨h2, h5⟩)]; omega
theorem m_count {K s ra rb : Nat → Int} {ho fi br tn ln a : Int} (hT : iTown K s ho fi br) (hr : iRef ra rb) (ha : zr a) : ev (g_X_count tn ln ra br fi ho K a) (fun x => ev (g_M_count ln tn rb s a) (fun y => x = y)) := by
  obtain ⟨hK, hs, h36, h37, h38, q1, q2, q3, q4, q5, q6, q7⟩ := hT
  have e26 := cnt_26 K 36
  have ez : ∀ z : Int, g_Town_home z = some z := fun _ => rfl
  have ez2 : ∀ z : Int, g_Town_fine z = some z := fun _ => rfl
  have ez3 : ∀ z : Int, g_Town_breath z = some z := fun _ => rfl
  have ea : ∀ k : Int, 0 ≤ k → k < 7 → g_Numbers_at 7 ra k = some (rb k.toNat) := fun k h1 h2 => by rw [e_at (by decide) ⟨by omega, by omega⟩, if_pos (by omega), hr _ (by omega)]
  unfold g_X_count g_M_count
  by_cases c0 : a = 0
  · subst c0
    repeat' (first
    | with_reducible refine ev_g (by omega) ?_
    | with_reducible refine ev_n ?_
    | with_reducible refine ev_i1 ?_
    | with_reducible refine ev_i2 ?_
    | with_reducible refine ev_i3 ?_
    | with_reducible refine ev_i4 ?_
    | with_reducible refine ev_c1 (e_sqF (by omega) (by omega)) ?_
    | with_reducible refine ev_c1 (e_sqT (by omega) (by omega)) ?_
    | with_reducible refine ev_c1 (e_MsqF (by omega) (by omega)) ?_
    | with_reducible refine ev_c1 (e_MsqT (by omega) (by omega)) ?_
    | with_reducible refine ev_c1 (e_inT (by omega) (by omega) (by omega) (by omega)) ?_
    | with_reducible refine ev_c1 (e_inF (by omega) (by omega) (by omega) (by omega)) ?_
    | with_reducible refine ev_c1 (ez _) ?_
    | with_reducible refine ev_c1 (ez2 _) ?_
    | with_reducible refine ev_c1 (ez3 _) ?_
    | with_reducible refine ev_c1 (e_oneCan hK) ?_
    | with_reducible refine ev_c1 (e_informers hK) ?_
    | with_reducible refine ev_c1 (e_sqHeard hK) ?_
    | with_reducible refine ev_c1 (e_countKind hK (by omega)) ?_
    | with_reducible refine ev_c1 (e_M_many3 hs hK) ?_
    | with_reducible refine ev_c1 (e_M_many4 hs hK) ?_
    | with_reducible refine ev_c1 (e_M_many6 hs hK) ?_
    | with_reducible refine ev_c1 (e_M_heardMany hs hK) ?_
    | with_reducible refine ev_c1 (ea _ (by omega) (by omega)) ?_
    | with_reducible refine ev_c1 (e_size _) ?_
    | with_reducible refine ev_t (by omega) ?_
    | with_reducible refine ev_f (by omega) ?_
    | with_reducible refine ev_if (fun _ => ?_) (fun _ => ?_)
    | with_reducible refine ev_some ?_)
    exact h36.symm
  by_cases c1 : a = 1
  · subst c1
    repeat' (first
    | with_reducible refine ev_g (by omega) ?_
    | with_reducible refine ev_n ?_
    | with_reducible refine ev_i1 ?_
    | with_reducible refine ev_i2 ?_
    | with_reducible refine ev_i3 ?_
    | with_reducible refine ev_i4 ?_
    | with_reducible refine ev_c1 (e_sqF (by omega) (by omega)) ?_
    | with_reducible refine ev_c1 (e_sqT (by omega) (by omega)) ?_
    | with_reducible refine ev_c1 (e_MsqF (by omega) (by omega)) ?_
    | with_reducible refine ev_c1 (e_MsqT (by omega) (by omega)) ?_
    | with_reducible refine ev_c1 (e_inT (by omega) (by omega) (by omega) (by omega)) ?_
    | with_reducible refine ev_c1 (e_inF (by omega) (by omega) (by omega) (by omega)) ?_
    | with_reducible refine ev_c1 (ez _) ?_
    | with_reducible refine ev_c1 (ez2 _) ?_
    | with_reducible refine ev_c1 (ez3 _) ?_
    | with_reducible refine ev_c1 (e_oneCan hK) ?_
    | with_reducible refine ev_c1 (e_informers hK) ?_
    | with_reducible refine ev_c1 (e_sqHeard hK) ?_
    | with_reducible refine ev_c1 (e_countKind hK (by omega)) ?_
    | with_reducible refine ev_c1 (e_M_many3 hs hK) ?_
    | with_reducible refine ev_c1 (e_M_many4 hs hK) ?_
    | with_reducible refine ev_c1 (e_M_many6 hs hK) ?_
    | with_reducible refine ev_c1 (e_M_heardMany hs hK) ?_
    | with_reducible refine ev_c1 (ea _ (by omega) (by omega)) ?_
    | with_reducible refine ev_c1 (e_size _) ?_
    | with_reducible refine ev_t (by omega) ?_
    | with_reducible refine ev_f (by omega) ?_
    | with_reducible refine ev_if (fun _ => ?_) (fun _ => ?_)
    | with_reducible refine ev_some ?_)
    exact h37.symm
  by_cases c2 : a = 2
  · subst c2
    repeat' (first
    | with_reducible refine ev_g (by omega) ?_
    | with_reducible refine ev_n ?_
    | with_reducible refine ev_i1 ?_
    | with_reducible refine ev_i2 ?_
    | with_reducible refine ev_i3 ?_
    | with_reducible refine ev_i4 ?_
    | with_reducible refine ev_c1 (e_sqF (by omega) (by omega)) ?_
    | with_reducible refine ev_c1 (e_sqT (by omega) (by omega)) ?_
    | with_reducible refine ev_c1 (e_MsqF (by omega) (by omega)) ?_
    | with_reducible refine ev_c1 (e_MsqT (by omega) (by omega)) ?_
    | with_reducible refine ev_c1 (e_inT (by omega) (by omega) (by omega) (by omega)) ?_
    | with_reducible refine ev_c1 (e_inF (by omega) (by omega) (by omega) (by omega)) ?_
    | with_reducible refine ev_c1 (ez _) ?_
    | with_reducible refine ev_c1 (ez2 _) ?_
    | with_reducible refine ev_c1 (ez3 _) ?_
    | with_reducible refine ev_c1 (e_oneCan hK) ?_
    | with_reducible refine ev_c1 (e_informers hK) ?_
    | with_reducible refine ev_c1 (e_sqHeard hK) ?_
    | with_reducible refine ev_c1 (e_countKind hK (by omega)) ?_
    | with_reducible refine ev_c1 (e_M_many3 hs hK) ?_
    | with_reducible refine ev_c1 (e_M_many4 hs hK) ?_
    | with_reducible refine ev_c1 (e_M_many6 hs hK) ?_
    | with_reducible refine ev_c1 (e_M_heardMany hs hK) ?_
    | with_reducible refine ev_c1 (ea _ (by omega) (by omega)) ?_
    | with_reducible refine ev_c1 (e_size _) ?_
    | with_reducible refine ev_t (by omega) ?_
    | with_reducible refine ev_f (by omega) ?_
    | with_reducible refine ev_if (fun _ => ?_) (fun _ => ?_)
    | with_reducible refine ev_some ?_)
    exact h38.symm
  by_cases c3 : a = 3
  · subst c3
    repeat' (first
    | with_reducible refine ev_g (by omega) ?_
    | with_reducible refine ev_n ?_
    | with_reducible refine ev_i1 ?_
    | with_reducible refine ev_i2 ?_
    | with_reducible refine ev_i3 ?_
    | with_reducible refine ev_i4 ?_
    | with_reducible refine ev_c1 (e_sqF (by omega) (by omega)) ?_
    | with_reducible refine ev_c1 (e_sqT (by omega) (by omega)) ?_
    | with_reducible refine ev_c1 (e_MsqF (by omega) (by omega)) ?_
    | with_reducible refine ev_c1 (e_MsqT (by omega) (by omega)) ?_
    | with_reducible refine ev_c1 (e_inT (by omega) (by omega) (by omega) (by omega)) ?_
    | with_reducible refine ev_c1 (e_inF (by omega) (by omega) (by omega) (by omega)) ?_
    | with_reducible refine ev_c1 (ez _) ?_
    | with_reducible refine ev_c1 (ez2 _) ?_
    | with_reducible refine ev_c1 (ez3 _) ?_
    | with_reducible refine ev_c1 (e_oneCan hK) ?_
    | with_reducible refine ev_c1 (e_informers hK) ?_
    | with_reducible refine ev_c1 (e_sqHeard hK) ?_
    | with_reducible refine ev_c1 (e_countKind hK (by omega)) ?_
    | with_reducible refine ev_c1 (e_M_many3 hs hK) ?_
    | with_reducible refine ev_c1 (e_M_many4 hs hK) ?_
    | with_reducible refine ev_c1 (e_M_many6 hs hK) ?_
    | with_reducible refine ev_c1 (e_M_heardMany hs hK) ?_
    | with_reducible refine ev_c1 (ea _ (by omega) (by omega)) ?_
    | with_reducible refine ev_c1 (e_size _) ?_
    | with_reducible refine ev_t (by omega) ?_
    | with_reducible refine ev_f (by omega) ?_
    | with_reducible refine ev_if (fun _ => ?_) (fun _ => ?_)
    | with_reducible refine ev_some ?_)
    rfl
  by_cases c4 : a = 4
  · subst c4
    repeat' (first
    | with_reducible refine ev_g (by omega) ?_
    | with_reducible refine ev_n ?_
    | with_reducible refine ev_i1 ?_
    | with_reducible refine ev_i2 ?_
    | with_reducible refine ev_i3 ?_
    | with_reducible refine ev_i4 ?_
    | with_reducible refine ev_c1 (e_sqF (by omega) (by omega)) ?_
    | with_reducible refine ev_c1 (e_sqT (by omega) (by omega)) ?_
    | with_reducible refine ev_c1 (e_MsqF (by omega) (by omega)) ?_
    | with_reducible refine ev_c1 (e_MsqT (by omega) (by omega)) ?_
    | with_reducible refine ev_c1 (e_inT (by omega) (by omega) (by omega) (by omega)) ?_
    | with_reducible refine ev_c1 (e_inF (by omega) (by omega) (by omega) (by omega)) ?_
    | with_reducible refine ev_c1 (ez _) ?_
    | with_reducible refine ev_c1 (ez2 _) ?_
    | with_reducible refine ev_c1 (ez3 _) ?_
    | with_reducible refine ev_c1 (e_oneCan hK) ?_
    | with_reducible refine ev_c1 (e_informers hK) ?_
    | with_reducible refine ev_c1 (e_sqHeard hK) ?_
    | with_reducible refine ev_c1 (e_countKind hK (by omega)) ?_
    | with_reducible refine ev_c1 (e_M_many3 hs hK) ?_
    | with_reducible refine ev_c1 (e_M_many4 hs hK) ?_
    | with_reducible refine ev_c1 (e_M_many6 hs hK) ?_
    | with_reducible refine ev_c1 (e_M_heardMany hs hK) ?_
    | with_reducible refine ev_c1 (ea _ (by omega) (by omega)) ?_
    | with_reducible refine ev_c1 (e_size _) ?_
    | with_reducible refine ev_t (by omega) ?_
    | with_reducible refine ev_f (by omega) ?_
    | with_reducible refine ev_if (fun _ => ?_) (fun _ => ?_)
    | with_reducible refine ev_some ?_)
    rfl
  by_cases c5 : a = 5
  · subst c5
    repeat' (first
    | with_reducible refine ev_g (by omega) ?_
    | with_reducible refine ev_n ?_
    | with_reducible refine ev_i1 ?_
    | with_reducible refine ev_i2 ?_
    | with_reducible refine ev_i3 ?_
    | with_reducible refine ev_i4 ?_
    | with_reducible refine ev_c1 (e_sqF (by omega) (by omega)) ?_
    | with_reducible refine ev_c1 (e_sqT (by omega) (by omega)) ?_
    | with_reducible refine ev_c1 (e_MsqF (by omega) (by omega)) ?_
    | with_reducible refine ev_c1 (e_MsqT (by omega) (by omega)) ?_
    | with_reducible refine ev_c1 (e_inT (by omega) (by omega) (by omega) (by omega)) ?_
    | with_reducible refine ev_c1 (e_inF (by omega) (by omega) (by omega) (by omega)) ?_
    | with_reducible refine ev_c1 (ez _) ?_
    | with_reducible refine ev_c1 (ez2 _) ?_
    | with_reducible refine ev_c1 (ez3 _) ?_
    | with_reducible refine ev_c1 (e_oneCan hK) ?_
    | with_reducible refine ev_c1 (e_informers hK) ?_
    | with_reducible refine ev_c1 (e_sqHeard hK) ?_
    | with_reducible refine ev_c1 (e_countKind hK (by omega)) ?_
    | with_reducible refine ev_c1 (e_M_many3 hs hK) ?_
    | with_reducible refine ev_c1 (e_M_many4 hs hK) ?_
    | with_reducible refine ev_c1 (e_M_many6 hs hK) ?_
    | with_reducible refine ev_c1 (e_M_heardMany hs hK) ?_
    | with_reducible refine ev_c1 (ea _ (by omega) (by omega)) ?_
    | with_reducible refine ev_c1 (e_size _) ?_
    | with_reducible refine ev_t (by omega) ?_
    | with_reducible refine ev_f (by omega) ?_
    | with_reducible refine ev_if (fun _ => ?_) (fun _ => ?_)
    | with_reducible refine ev_some ?_)
    rfl
  by_cases c6 : a = 6
  · subst c6
    repeat' (first
    | with_reducible refine ev_g (by omega) ?_
    | with_reducible refine ev_n ?_
    | with_reducible refine ev_i1 ?_
    | with_reducible refine ev_i2 ?_
    | with_reducible refine ev_i3 ?_
    | with_reducible refine ev_i4 ?_
    | with_reducible refine ev_c1 (e_sqF (by omega) (by omega)) ?_
    | with_reducible refine ev_c1 (e_sqT (by omega) (by omega)) ?_
    | with_reducible refine ev_c1 (e_MsqF (by omega) (by omega)) ?_
    | with_reducible refine ev_c1 (e_MsqT (by omega) (by omega)) ?_
    | with_reducible refine ev_c1 (e_inT (by omega) (by omega) (by omega) (by omega)) ?_
    | with_reducible refine ev_c1 (e_inF (by omega) (by omega) (by omega) (by omega)) ?_
    | with_reducible refine ev_c1 (ez _) ?_
    | with_reducible refine ev_c1 (ez2 _) ?_
    | with_reducible refine ev_c1 (ez3 _) ?_
    | with_reducible refine ev_c1 (e_oneCan hK) ?_
    | with_reducible refine ev_c1 (e_informers hK) ?_
    | with_reducible refine ev_c1 (e_sqHeard hK) ?_
    | with_reducible refine ev_c1 (e_countKind hK (by omega)) ?_
    | with_reducible refine ev_c1 (e_M_many3 hs hK) ?_
    | with_reducible refine ev_c1 (e_M_many4 hs hK) ?_
    | with_reducible refine ev_c1 (e_M_many6 hs hK) ?_
    | with_reducible refine ev_c1 (e_M_heardMany hs hK) ?_
    | with_reducible refine ev_c1 (ea _ (by omega) (by omega)) ?_
    | with_reducible refine ev_c1 (e_size _) ?_
    | with_reducible refine ev_t (by omega) ?_
    | with_reducible refine ev_f (by omega) ?_
    | with_reducible refine ev_if (fun _ => ?_) (fun _ => ?_)
    | with_reducible refine ev_some ?_)
    exact e26
  by_cases c7 : 11 ≤ a ∧ a ≤ 16
  · repeat' (first
    | with_reducible refine ev_g (by omega) ?_
    | with_reducible refine ev_n ?_
    | with_reducible refine ev_i1 ?_
    | with_reducible refine ev_i2 ?_
    | with_reducible refine ev_i3 ?_
    | with_reducible refine ev_i4 ?_
    | with_reducible refine ev_c1 (e_sqF (by omega) (by omega)) ?_
    | with_reducible refine ev_c1 (e_sqT (by omega) (by omega)) ?_
    | with_reducible refine ev_c1 (e_MsqF (by omega) (by omega)) ?_
    | with_reducible refine ev_c1 (e_MsqT (by omega) (by omega)) ?_
    | with_reducible refine ev_c1 (e_inT (by omega) (by omega) (by omega) (by omega)) ?_
    | with_reducible refine ev_c1 (e_inF (by omega) (by omega) (by omega) (by omega)) ?_
    | with_reducible refine ev_c1 (ez _) ?_
    | with_reducible refine ev_c1 (ez2 _) ?_
    | with_reducible refine ev_c1 (ez3 _) ?_
    | with_reducible refine ev_c1 (e_oneCan hK) ?_
    | with_reducible refine ev_c1 (e_informers hK) ?_
    | with_reducible refine ev_c1 (e_sqHeard hK) ?_
    | with_reducible refine ev_c1 (e_countKind hK (by omega)) ?_
    | with_reducible refine ev_c1 (e_M_many3 hs hK) ?_
    | with_reducible refine ev_c1 (e_M_many4 hs hK) ?_
    | with_reducible refine ev_c1 (e_M_many6 hs hK) ?_
    | with_reducible refine ev_c1 (e_M_heardMany hs hK) ?_
    | with_reducible refine ev_c1 (ea _ (by omega) (by omega)) ?_
    | with_reducible refine ev_c1 (e_size _) ?_
    | with_reducible refine ev_t (by omega) ?_
    | with_reducible refine ev_f (by omega) ?_
    | with_reducible refine ev_if (fun _ => ?_) (fun _ => ?_)
    | with_reducible refine ev_some ?_)
    rfl
  · repeat' (first
    | with_reducible refine ev_g (by omega) ?_
    | with_reducible refine ev_n ?_
    | with_reducible refine ev_i1 ?_
    | with_reducible refine ev_i2 ?_
    | with_reducible refine ev_i3 ?_
    | with_reducible refine ev_i4 ?_
    | with_reducible refine ev_c1 (e_sqF (by omega) (by omega)) ?_
    | with_reducible refine ev_c1 (e_sqT (by omega) (by omega)) ?_
    | with_reducible refine ev_c1 (e_MsqF (by omega) (by omega)) ?_
    | with_reducible refine ev_c1 (e_MsqT (by omega) (by omega)) ?_
    | with_reducible refine ev_c1 (e_inT (by omega) (by omega) (by omega) (by omega)) ?_
    | with_reducible refine ev_c1 (e_inF (by omega) (by omega) (by omega) (by omega)) ?_
    | with_reducible refine ev_c1 (ez _) ?_
    | with_reducible refine ev_c1 (ez2 _) ?_
    | with_reducible refine ev_c1 (ez3 _) ?_
    | with_reducible refine ev_c1 (e_oneCan hK) ?_
    | with_reducible refine ev_c1 (e_informers hK) ?_
    | with_reducible refine ev_c1 (e_sqHeard hK) ?_
    | with_reducible refine ev_c1 (e_countKind hK (by omega)) ?_
    | with_reducible refine ev_c1 (e_M_many3 hs hK) ?_
    | with_reducible refine ev_c1 (e_M_many4 hs hK) ?_
    | with_reducible refine ev_c1 (e_M_many6 hs hK) ?_
    | with_reducible refine ev_c1 (e_M_heardMany hs hK) ?_
    | with_reducible refine ev_c1 (ea _ (by omega) (by omega)) ?_
    | with_reducible refine ev_c1 (e_size _) ?_
    | with_reducible refine ev_t (by omega) ?_
    | with_reducible refine ev_f (by omega) ?_
    | with_reducible refine ev_if (fun _ => ?_) (fun _ => ?_)
    | with_reducible refine ev_some ?_)
    all_goals rfl
theorem m_clear (n : Int) : ev (g_X_clear n) (fun x => ev (g_M_clear n) (fun y => x.1 = y.1 ∧ x.2 = 0 ∧ y.2 = 0)) := ev_some (ev_some ⟨rfl, rfl, rfl⟩)
def updR (K : Nat → Int) (a b k : Int) : Nat → Int := fun i => if a ≤ (i : Int) ∧ (i : Int) ≤ b then k else K i
theorem updR_1 (K : Nat → Int) (a : Nat) (k : Int) : updR K a a k = updI K a k := by
  funext j
  show (if (a : Int) ≤ (j : Int) ∧ (j : Int) ≤ (a : Int) then k else K j) = (if j = a then k else K j)
  by_cases h : j = a
  · rw [if_pos h, if_pos (by omega)]
  · rw [if_neg h, if_neg (by omega)]
theorem updR_s (K : Nat → Int) (a b k : Int) (h0 : 0 ≤ a) (h : a ≤ b) : updI (updR K a (b - 1) k) b.toNat k = updR K a b k := by
  funext j
  show (if j = b.toNat then k else if a ≤ (j : Int) ∧ (j : Int) ≤ b - 1 then k else K j) = (if a ≤ (j : Int) ∧ (j : Int) ≤ b then k else K j)
  by_cases h1 : j = b.toNat
  · rw [if_pos h1, if_pos (by omega)]
  · rw [if_neg h1]
    by_cases h2 : a ≤ (j : Int) ∧ (j : Int) ≤ b - 1
    · rw [if_pos h2, if_pos (by omega)]
    · rw [if_neg h2, if_neg (by omega)]
theorem updR_0 (K : Nat → Int) (a k : Int) : updR K a (a - 1) k = K := by
  funext j
  show (if a ≤ (j : Int) ∧ (j : Int) ≤ a - 1 then k else K j) = K j
  rw [if_neg (by omega)]
theorem e_rebuild {ho a b k : Int} {K : Nat → Int} (hh : 0 ≤ ho ∧ ho < 36) (ha : zr a) (hb : zr b) (hk : 0 ≤ k ∧ k < 6) : g_Town_rebuild ho K a b k = some (if a ≤ b ∧ 0 ≤ a ∧ b < 36 ∧ ¬ (a ≤ ho ∧ ho ≤ b ∧ ¬ zcan k) then (1, updR K a b k) else (0, K)) := by
  refine ev_is ?_
  unfold g_Town_rebuild
  refine ev_g hb (ev_g ha (ev_if (fun h1 => ?_) (fun h1 => ?_)))
  · exact ev_some (by rw [if_neg (fun x => by omega)])
  by_cases h2 : 0 ≤ a ∧ a < 36
  case neg => exact ev_c1 (e_sqF ha h2) (ev_g (by omega) (ev_t (by omega) (ev_some (by rw [if_neg (fun x => by omega)]))))
  refine ev_c1 (e_sqT ha h2) (ev_g (by omega) (ev_f (by omega) ?_))
  by_cases h3 : 0 ≤ b ∧ b < 36
  case neg => exact ev_c1 (e_sqF hb h3) (ev_g (by omega) (ev_t (by omega) (ev_some (by rw [if_neg (fun x => by omega)]))))
  refine ev_c1 (e_sqT hb h3) (ev_g (by omega) (ev_f (by omega) ?_))
  refine ev_j1 (fun _ => ¬ (a ≤ ho ∧ ho ≤ b ∧ ¬ zcan k)) (fun _ hJ => ?_) (fun k' hk' => ?_)
  · rw [if_pos ⟨by omega, by omega, by omega, hJ⟩]
    refine ev_l2 (fun m i g => a ≤ i ∧ i ≤ b + 1 ∧ (m : Int) = b + 1 - i ∧ g = updR K a (i - 1) k) ?_ (m := (b + 1 - a).toNat) (zF_gt (by omega)) ⟨by omega, by omega, by omega, (updR_0 K a k).symm⟩
    intro m i g ag hI hag
    obtain ⟨i1, i2, i3, i4⟩ := hI
    refine ev_g (by omega) (ev_if (fun h4 => ?_) (fun h4 => ?_))
    · have : i - 1 = b := by omega
      rw [this] at i4
      exact ev_some (by rw [i4])
    · refine ev_c1 (v1 := updI g i.toNat k) (by rw [e_put (n := 36) (by decide) (by omega), if_pos (by omega)]) (ev_n ?_)
      refine hag (m - 1) _ _ (by omega) ⟨by omega, by omega, by omega, ?_⟩
      rw [i4, updR_s K a i k (by omega) i1, show i + 1 - 1 = i by omega]
  · refine ev_g (by omega) (ev_if (fun h4 => hk' () (fun x => by omega)) (fun h4 => ev_if (fun h5 => hk' () (fun x => by omega)) (fun h5 => ?_)))
    by_cases hc : zcan k
    · exact ev_c1 (by rw [e_can hk, if_pos hc]) (ev_g (by omega) (ev_f (by omega) (hk' () (fun x => x.2.2 hc))))
    · exact ev_c1 (by rw [e_can hk, if_neg hc]) (ev_g (by omega) (ev_t (by omega) (ev_some (by rw [if_neg (fun x => x.2.2.2 ⟨by omega, by omega, hc⟩)]))))
theorem zK_up {K : Nat → Int} (hK : zK K) (q : Nat) {k : Int} (hk : 0 ≤ k ∧ k < 6) : zK (updI K q k) := by
  intro i hi
  show 0 ≤ (if i = q then k else K i) ∧ (if i = q then k else K i) < 6
  by_cases h : i = q
  · rw [if_pos h]; exact hk
  · rw [if_neg h]; exact hK i hi
theorem zR_up {s K : Nat → Int} (hs : zR s K) (q : Nat) (k : Int) : zR (updI s q k) (updI K q k) := by
  intro i hi
  show (if i = q then k else s i) = (if i = q then k else K i)
  rw [hs i hi]
theorem updI_at (s : Nat → Int) (q : Nat) (k : Int) : updI s q k q = k := if_pos rfl
theorem updI_ne (s : Nat → Int) {q i : Nat} (k : Int) (h : i ≠ q) : updI s q k i = s i := if_neg h
theorem m_turnTo {K s ra rb : Nat → Int} {ho fi br a b : Int} (hT : iTown K s ho fi br) (hr : iRef ra rb) (ha : zr a) (hb : zr b) : ev (g_X_turnTo ra ho K a b) (fun x => ev (g_M_turnTo rb s a b) (fun y => x.1 = y.1 ∧ iRef x.2.1 y.2.1 ∧ iTown x.2.2 y.2.2 ho fi br)) := by
  have hT0 := hT
  obtain ⟨hK, hs, h36, h37, h38, q1, q2, q3, q4, q5, q6, q7⟩ := hT
  have e36 : s (36 : Int).toNat = ho := h36
  unfold g_X_turnTo g_M_turnTo
  by_cases h : 0 ≤ a ∧ a < 36
  case neg =>
    repeat' (first
    | with_reducible refine ev_g (by omega) ?_
    | with_reducible refine ev_n ?_
    | with_reducible refine ev_i1 ?_
    | with_reducible refine ev_i2 ?_
    | with_reducible refine ev_i3 ?_
    | with_reducible refine ev_i4 ?_
    | with_reducible refine ev_c2 (er_1 _) ?_
    | with_reducible refine ev_c2 (er_2 _) ?_
    | with_reducible refine ev_c2 (er_3 _) ?_
    | with_reducible refine ev_c2 (er_4 _) ?_
    | with_reducible refine ev_c2 (er_5 _) ?_
    | with_reducible refine ev_c2 (er_6 _) ?_
    | with_reducible refine ev_c2 (en_1 _) ?_
    | with_reducible refine ev_c2 (en_2 _) ?_
    | with_reducible refine ev_c2 (en_3 _) ?_
    | with_reducible refine ev_c2 (en_4 _) ?_
    | with_reducible refine ev_c2 (en_5 _) ?_
    | with_reducible refine ev_c2 (en_6 _) ?_
    | with_reducible refine ev_c1 (e_sqF (by omega) (by omega)) ?_
    | with_reducible refine ev_c1 (e_sqT (by omega) (by omega)) ?_
    | with_reducible refine ev_c1 (e_MsqF (by omega) (by omega)) ?_
    | with_reducible refine ev_c1 (e_MsqT (by omega) (by omega)) ?_
    | with_reducible refine ev_c1 (e_inT (by omega) (by omega) (by omega) (by omega)) ?_
    | with_reducible refine ev_c1 (e_inF (by omega) (by omega) (by omega) (by omega)) ?_
    | with_reducible refine ev_t (by omega) ?_
    | with_reducible refine ev_f (by omega) ?_
    | with_reducible refine ev_if (fun _ => ?_) (fun _ => ?_)
    | with_reducible refine ev_some ?_)
    all_goals exact ⟨rfl, iRef_up hr _ (by decide), hT0⟩
  obtain ⟨q, rfl⟩ := Int.eq_ofNat_of_zero_le h.1
  have hq : q < 36 := by omega
  have e1 : s (q : Int).toNat = K q := by rw [Int.toNat_natCast]; exact hs q hq
  by_cases hb2 : 0 ≤ b ∧ b < 6
  case neg =>
    repeat' (first
    | with_reducible refine ev_g (by omega) ?_
    | with_reducible refine ev_n ?_
    | with_reducible refine ev_i1 ?_
    | with_reducible refine ev_i2 ?_
    | with_reducible refine ev_i3 ?_
    | with_reducible refine ev_i4 ?_
    | with_reducible refine ev_c2 (er_1 _) ?_
    | with_reducible refine ev_c2 (er_2 _) ?_
    | with_reducible refine ev_c2 (er_3 _) ?_
    | with_reducible refine ev_c2 (er_4 _) ?_
    | with_reducible refine ev_c2 (er_5 _) ?_
    | with_reducible refine ev_c2 (er_6 _) ?_
    | with_reducible refine ev_c2 (en_1 _) ?_
    | with_reducible refine ev_c2 (en_2 _) ?_
    | with_reducible refine ev_c2 (en_3 _) ?_
    | with_reducible refine ev_c2 (en_4 _) ?_
    | with_reducible refine ev_c2 (en_5 _) ?_
    | with_reducible refine ev_c2 (en_6 _) ?_
    | with_reducible refine ev_c1 (e_sqF (by omega) (by omega)) ?_
    | with_reducible refine ev_c1 (e_sqT (by omega) (by omega)) ?_
    | with_reducible refine ev_c1 (e_MsqF (by omega) (by omega)) ?_
    | with_reducible refine ev_c1 (e_MsqT (by omega) (by omega)) ?_
    | with_reducible refine ev_c1 (e_inT (by omega) (by omega) (by omega) (by omega)) ?_
    | with_reducible refine ev_c1 (e_inF (by omega) (by omega) (by omega) (by omega)) ?_
    | with_reducible refine ev_c1 (e_kindOf hq) ?_
    | with_reducible refine ev_t (by omega) ?_
    | with_reducible refine ev_f (by omega) ?_
    | with_reducible refine ev_if (fun _ => ?_) (fun _ => ?_)
    | with_reducible refine ev_some ?_)
    all_goals exact ⟨rfl, iRef_up hr _ (by decide), hT0⟩
  have rT : ¬ ((q : Int) = ho ∧ ¬ zcan b) → g_Town_rebuild ho K (q : Int) (q : Int) b = some (1, updI K q b) := fun x => by
    rw [e_rebuild ⟨q1, q2⟩ (by omega) (by omega) hb2, if_pos ⟨by omega, by omega, by omega, fun y => x ⟨by omega, y.2.2⟩⟩, updR_1]
  have rF : ((q : Int) = ho ∧ ¬ zcan b) → g_Town_rebuild ho K (q : Int) (q : Int) b = some (0, K) := fun x => by
    rw [e_rebuild ⟨q1, q2⟩ (by omega) (by omega) hb2, if_neg (fun y => y.2.2.2 ⟨by omega, by omega, x.2⟩)]
  have fin : ¬ ((q : Int) = ho ∧ ¬ zcan b) → iTown (updI K q b) (updI s (q : Int).toNat b) ho fi br := fun x => by
    rw [Int.toNat_natCast]
    refine ⟨zK_up hK q hb2, zR_up hs q b, by rw [updI_ne _ _ (by omega)]; exact h36, by rw [updI_ne _ _ (by omega)]; exact h37, by rw [updI_ne _ _ (by omega)]; exact h38, q1, q2, ?_, q4, q5, q6, q7⟩
    by_cases e : ho.toNat = q
    · rw [e, updI_at]
      by_cases hc : zcan b
      · exact hc
      · exact absurd ⟨by omega, hc⟩ x
    · rw [updI_ne _ _ e]; exact q3
  by_cases hc : zcan b
  · have nx : ¬ ((q : Int) = ho ∧ ¬ zcan b) := fun x => x.2 hc
    by_cases hh : (q : Int) = ho
    · repeat' (first
    | with_reducible refine ev_g (by omega) ?_
    | with_reducible refine ev_n ?_
    | with_reducible refine ev_i1 ?_
    | with_reducible refine ev_i2 ?_
    | with_reducible refine ev_i3 ?_
    | with_reducible refine ev_i4 ?_
    | with_reducible refine ev_c2 (er_1 _) ?_
    | with_reducible refine ev_c2 (er_2 _) ?_
    | with_reducible refine ev_c2 (er_3 _) ?_
    | with_reducible refine ev_c2 (er_4 _) ?_
    | with_reducible refine ev_c2 (er_5 _) ?_
    | with_reducible refine ev_c2 (er_6 _) ?_
    | with_reducible refine ev_c2 (en_1 _) ?_
    | with_reducible refine ev_c2 (en_2 _) ?_
    | with_reducible refine ev_c2 (en_3 _) ?_
    | with_reducible refine ev_c2 (en_4 _) ?_
    | with_reducible refine ev_c2 (en_5 _) ?_
    | with_reducible refine ev_c2 (en_6 _) ?_
    | with_reducible refine ev_c1 (e_sqF (by omega) (by omega)) ?_
    | with_reducible refine ev_c1 (e_sqT (by omega) (by omega)) ?_
    | with_reducible refine ev_c1 (e_MsqF (by omega) (by omega)) ?_
    | with_reducible refine ev_c1 (e_MsqT (by omega) (by omega)) ?_
    | with_reducible refine ev_c1 (e_inT (by omega) (by omega) (by omega) (by omega)) ?_
    | with_reducible refine ev_c1 (e_inF (by omega) (by omega) (by omega) (by omega)) ?_
    | with_reducible refine ev_c1 (e_kindOf hq) ?_
    | with_reducible refine ev_c2 (rT nx) ?_
    | with_reducible refine ev_c1 (by rw [e_M_canStand hb2, if_pos hc]) ?_
    | with_reducible refine ev_t (by omega) ?_
    | with_reducible refine ev_f (by omega) ?_
    | with_reducible refine ev_if (fun _ => ?_) (fun _ => ?_)
    | with_reducible refine ev_some ?_)
      all_goals exact ⟨e1.symm, hr, fin nx⟩
    · repeat' (first
    | with_reducible refine ev_g (by omega) ?_
    | with_reducible refine ev_n ?_
    | with_reducible refine ev_i1 ?_
    | with_reducible refine ev_i2 ?_
    | with_reducible refine ev_i3 ?_
    | with_reducible refine ev_i4 ?_
    | with_reducible refine ev_c2 (er_1 _) ?_
    | with_reducible refine ev_c2 (er_2 _) ?_
    | with_reducible refine ev_c2 (er_3 _) ?_
    | with_reducible refine ev_c2 (er_4 _) ?_
    | with_reducible refine ev_c2 (er_5 _) ?_
    | with_reducible refine ev_c2 (er_6 _) ?_
    | with_reducible refine ev_c2 (en_1 _) ?_
    | with_reducible refine ev_c2 (en_2 _) ?_
    | with_reducible refine ev_c2 (en_3 _) ?_
    | with_reducible refine ev_c2 (en_4 _) ?_
    | with_reducible refine ev_c2 (en_5 _) ?_
    | with_reducible refine ev_c2 (en_6 _) ?_
    | with_reducible refine ev_c1 (e_sqF (by omega) (by omega)) ?_
    | with_reducible refine ev_c1 (e_sqT (by omega) (by omega)) ?_
    | with_reducible refine ev_c1 (e_MsqF (by omega) (by omega)) ?_
    | with_reducible refine ev_c1 (e_MsqT (by omega) (by omega)) ?_
    | with_reducible refine ev_c1 (e_inT (by omega) (by omega) (by omega) (by omega)) ?_
    | with_reducible refine ev_c1 (e_inF (by omega) (by omega) (by omega) (by omega)) ?_
    | with_reducible refine ev_c1 (e_kindOf hq) ?_
    | with_reducible refine ev_c2 (rT nx) ?_
    | with_reducible refine ev_t (by omega) ?_
    | with_reducible refine ev_f (by omega) ?_
    | with_reducible refine ev_if (fun _ => ?_) (fun _ => ?_)
    | with_reducible refine ev_some ?_)
      all_goals exact ⟨e1.symm, hr, fin nx⟩
  · by_cases hh : (q : Int) = ho
    · have nx : (q : Int) = ho ∧ ¬ zcan b := ⟨hh, hc⟩
      repeat' (first
    | with_reducible refine ev_g (by omega) ?_
    | with_reducible refine ev_n ?_
    | with_reducible refine ev_i1 ?_
    | with_reducible refine ev_i2 ?_
    | with_reducible refine ev_i3 ?_
    | with_reducible refine ev_i4 ?_
    | with_reducible refine ev_c2 (er_1 _) ?_
    | with_reducible refine ev_c2 (er_2 _) ?_
    | with_reducible refine ev_c2 (er_3 _) ?_
    | with_reducible refine ev_c2 (er_4 _) ?_
    | with_reducible refine ev_c2 (er_5 _) ?_
    | with_reducible refine ev_c2 (er_6 _) ?_
    | with_reducible refine ev_c2 (en_1 _) ?_
    | with_reducible refine ev_c2 (en_2 _) ?_
    | with_reducible refine ev_c2 (en_3 _) ?_
    | with_reducible refine ev_c2 (en_4 _) ?_
    | with_reducible refine ev_c2 (en_5 _) ?_
    | with_reducible refine ev_c2 (en_6 _) ?_
    | with_reducible refine ev_c1 (e_sqF (by omega) (by omega)) ?_
    | with_reducible refine ev_c1 (e_sqT (by omega) (by omega)) ?_
    | with_reducible refine ev_c1 (e_MsqF (by omega) (by omega)) ?_
    | with_reducible refine ev_c1 (e_MsqT (by omega) (by omega)) ?_
    | with_reducible refine ev_c1 (e_inT (by omega) (by omega) (by omega) (by omega)) ?_
    | with_reducible refine ev_c1 (e_inF (by omega) (by omega) (by omega) (by omega)) ?_
    | with_reducible refine ev_c1 (e_kindOf hq) ?_
    | with_reducible refine ev_c2 (rF nx) ?_
    | with_reducible refine ev_c1 (by rw [e_M_canStand hb2, if_neg hc]) ?_
    | with_reducible refine ev_t (by omega) ?_
    | with_reducible refine ev_f (by omega) ?_
    | with_reducible refine ev_if (fun _ => ?_) (fun _ => ?_)
    | with_reducible refine ev_some ?_)
      all_goals exact ⟨rfl, iRef_up hr _ (by decide), hT0⟩
    · have nx : ¬ ((q : Int) = ho ∧ ¬ zcan b) := fun x => hh x.1
      repeat' (first
    | with_reducible refine ev_g (by omega) ?_
    | with_reducible refine ev_n ?_
    | with_reducible refine ev_i1 ?_
    | with_reducible refine ev_i2 ?_
    | with_reducible refine ev_i3 ?_
    | with_reducible refine ev_i4 ?_
    | with_reducible refine ev_c2 (er_1 _) ?_
    | with_reducible refine ev_c2 (er_2 _) ?_
    | with_reducible refine ev_c2 (er_3 _) ?_
    | with_reducible refine ev_c2 (er_4 _) ?_
    | with_reducible refine ev_c2 (er_5 _) ?_
    | with_reducible refine ev_c2 (er_6 _) ?_
    | with_reducible refine ev_c2 (en_1 _) ?_
    | with_reducible refine ev_c2 (en_2 _) ?_
    | with_reducible refine ev_c2 (en_3 _) ?_
    | with_reducible refine ev_c2 (en_4 _) ?_
    | with_reducible refine ev_c2 (en_5 _) ?_
    | with_reducible refine ev_c2 (en_6 _) ?_
    | with_reducible refine ev_c1 (e_sqF (by omega) (by omega)) ?_
    | with_reducible refine ev_c1 (e_sqT (by omega) (by omega)) ?_
    | with_reducible refine ev_c1 (e_MsqF (by omega) (by omega)) ?_
    | with_reducible refine ev_c1 (e_MsqT (by omega) (by omega)) ?_
    | with_reducible refine ev_c1 (e_inT (by omega) (by omega) (by omega) (by omega)) ?_
    | with_reducible refine ev_c1 (e_inF (by omega) (by omega) (by omega) (by omega)) ?_
    | with_reducible refine ev_c1 (e_kindOf hq) ?_
    | with_reducible refine ev_c2 (rT nx) ?_
    | with_reducible refine ev_t (by omega) ?_
    | with_reducible refine ev_f (by omega) ?_
    | with_reducible refine ev_if (fun _ => ?_) (fun _ => ?_)
    | with_reducible refine ev_some ?_)
      all_goals exact ⟨e1.symm, hr, fin nx⟩
