-- own text: straight, longest, new niche
def zrk (w q : Nat) : Nat := if w = 0 then q / 6 else if w = 1 then q % 6 else if w = 2 then 5 - q % 6 else 5 - q / 6
theorem zBs_rk : ∀ q : Nat, q < 36 → ∀ w : Nat, w < 4 → 0 ≤ zBs q w → zrk w (zBs q w).toNat + 1 = zrk w q := by decide +kernel
theorem zrk_lt : ∀ q : Nat, q < 36 → ∀ w : Nat, w < 4 → zrk w q ≤ 5 := by decide +kernel
theorem zN_rk {K : Nat → Int} {q w : Nat} (h : q < 36) (hw : w < 4) (h0 : 0 ≤ zN K q w) : zrk w (zN K q w).toNat + 1 = zrk w q := by
  have e : zN K q w = zBs q w := by
    unfold zN at h0 ⊢
    by_cases h1 : 0 ≤ zBs q w ∧ zcan (K (zBs q w).toNat)
    · rw [if_pos h1]
    · rw [if_neg h1] at h0; exact absurd h0 (by decide)
  rw [e] at h0 ⊢
  exact zBs_rk q h w hw h0
def zSt (K : Nat → Int) (w : Nat) : Nat → Int → Int
  | 0, _ => 0
  | n + 1, t => if t < 0 then 0 else 1 + zSt K w n (zN K t.toNat w)
theorem zSt_neg (K : Nat → Int) (w n : Nat) {t : Int} (h : t < 0) : zSt K w n t = 0 := by
  cases n with
  | zero => rfl
  | succ n => exact if_pos h
theorem zSt_pos (K : Nat → Int) (w n : Nat) {t : Int} (h : ¬ t < 0) : zSt K w (n + 1) t = 1 + zSt K w n (zN K t.toNat w) := if_neg h
def zS (K : Nat → Int) (q w : Nat) : Int := if zcan (K q) then zSt K w 7 (zN K q w) else 0
theorem e_straight {K : Nat → Int} (hK : zK K) {q w : Nat} (hq : q < 36) (hw : w < 4) : g_Town_straightFrom K (q : Int) (w : Int) = some (zS K q w) := by
  refine ev_is ?_
  unfold g_Town_straightFrom
  by_cases hc : zcan (K q)
  case neg => exact ev_c1 (e_canF hK hq hc) (ev_g (by omega) (ev_t rfl (ev_some (if_neg hc).symm)))
  refine ev_c1 (e_canT hK hq hc) (ev_g (by omega) (ev_f (by decide) (ev_c1 (e_next hK hq hw) ?_)))
  have r0 := zN_rng (K := K) (w := w) hq
  have k0 := zN_rk (K := K) hq hw
  have k1 := zrk_lt q hq w hw
  rw [show zS K q w = zSt K w 7 (zN K q w) from if_pos hc]
  refine ev_f3_3 6 (by decide) (fun i a t => i ≤ 5 ∧ a + zSt K w (7 - i) t = zSt K w 7 (zN K q w) ∧ -1 ≤ t ∧ t < 36 ∧ (0 ≤ t → zrk w t.toNat + i ≤ 4)) (fun i a t ag hi hQ hag => ?_) ⟨by omega, Int.zero_add _, by omega, by omega, fun h => by have := k0 h; omega⟩
  obtain ⟨i5, i1, i2, i3, i4⟩ := hQ
  refine ev_g (by omega) (ev_f (by omega) (ev_g (by omega) (ev_if (fun h => ?_) (fun h => ?_))))
  · exact ev_some (by rw [zSt_neg K w _ (by omega)] at i1; omega)
  · obtain ⟨t, rfl⟩ := Int.eq_ofNat_of_zero_le (show 0 ≤ t by omega)
    have ht : t < 36 := by omega
    have i6 := i4 (by omega)
    rw [Int.toNat_natCast] at i6
    have r1 := zN_rng (K := K) (w := w) ht
    have k2 := zN_rk (K := K) ht hw
    refine ev_n (ev_c1 (e_next hK ht hw) (ev_n (hag _ _ (by omega) ⟨by omega, ?_, by omega, by omega, fun h => by have := k2 h; omega⟩)))
    rw [show 7 - i = (7 - (i + 1)) + 1 by omega, zSt_pos K w _ (by omega), Int.toNat_natCast] at i1
    omega
theorem e_M_straight {s K : Nat → Int} (hs : zR s K) (hK : zK K) {q w : Nat} (hq : q < 36) (hw : w < 4) : g_M_straightOf s (q : Int) (w : Int) = some (zS K q w) := by
  refine ev_is ?_
  unfold g_M_straightOf
  refine ev_c1 (e_M_gone hs hK hq hw) ?_
  have r0 := zN_rng (K := K) (w := w) hq
  have k0 := zN_rk (K := K) hq hw
  have k1 := zrk_lt q hq w hw
  refine ev_l2 (fun m a t => ∃ i : Nat, m + i = 6 ∧ i ≤ 5 ∧ a + zSt K w (7 - i) t = zS K q w ∧ -9 ≤ t ∧ t < 36 ∧ (0 ≤ t → zcan (K t.toNat) ∧ zrk w t.toNat + i ≤ 4)) ?_ (m := 6) (zF_gt (by decide)) ?_
  · intro m a t ag hI hag
    obtain ⟨i, i0, i5, i1, i2, i3, i4⟩ := hI
    refine ev_g (by omega) (ev_if (fun h => ?_) (fun h => ?_))
    · exact ev_some (by rw [zSt_neg K w _ h] at i1; omega)
    · obtain ⟨t, rfl⟩ := Int.eq_ofNat_of_zero_le (show 0 ≤ t by omega)
      have ht : t < 36 := by omega
      obtain ⟨i6, i7⟩ := i4 (by omega)
      rw [Int.toNat_natCast] at i6 i7
      have r1 := zN_rng (K := K) (w := w) ht
      have k2 := zN_rk (K := K) ht hw
      rw [show 7 - i = (7 - (i + 1)) + 1 by omega, zSt_pos K w _ (by omega), Int.toNat_natCast] at i1
      refine ev_n (ev_c1 (e_M_gone hs hK ht hw) ?_)
      by_cases h9 : 0 ≤ zN K t w
      · rw [if_pos ⟨i6, h9⟩]
        have k3 := k2 h9
        exact hag (m - 1) _ _ (by omega) ⟨i + 1, by omega, by omega, by omega, by omega, by omega, fun _ => ⟨r1.2.2 h9, by omega⟩⟩
      · rw [if_neg (fun x => h9 x.2)]
        rw [zSt_neg K w _ (by omega)] at i1
        refine hag (m - 1) _ _ (by omega) ⟨i + 1, by omega, by omega, ?_, by omega, by omega, fun h => absurd h (by decide)⟩
        rw [zSt_neg K w _ (by decide)]; omega
  · refine ⟨0, rfl, by decide, ?_, ?_⟩
    · unfold zS
      by_cases hc : zcan (K q)
      · rw [if_pos hc]
        by_cases h9 : 0 ≤ zN K q w
        · rw [if_pos ⟨hc, h9⟩]; exact Int.zero_add _
        · rw [if_neg (fun x => h9 x.2), zSt_neg K w _ (by decide), zSt_neg K w _ (by omega)]; omega
      · rw [if_neg hc, if_neg (fun x => hc x.1), zSt_neg K w _ (by decide)]; omega
    · by_cases h9 : zcan (K q) ∧ 0 ≤ zN K q w
      · rw [if_pos h9]
        have k3 := k0 h9.2
        exact ⟨by omega, by omega, fun _ => ⟨r0.2.2 h9.2, by omega⟩⟩
      · rw [if_neg h9]
        exact ⟨by decide, by decide, fun h => absurd h (by decide)⟩
theorem m_straight {K s ra rb : Nat → Int} {a b : Int} (hK : zK K) (hs : zR s K) (hr : iRef ra rb) (ha : zr a) (hb : zr b) : ev (g_X_straight ra K a b) (fun x => ev (g_M_straight rb s a b) (fun y => x.1 = y.1 ∧ iRef x.2 y.2)) := by
  unfold g_X_straight g_M_straight
  by_cases h : 0 ≤ a ∧ a < 36
  case neg =>
    repeat' (first
    | with_reducible refine ev_g (by omega) ?_
    | with_reducible refine ev_n ?_
    | with_reducible refine ev_i1 ?_
    | with_reducible refine ev_i2 ?_
    | with_reducible refine ev_i3 ?_
    | with_reducible refine ev_i4 ?_
    | with_reducible refine ev_c2 (er_1 _) ?_
    | with_reducible refine ev_c2 (er_2 _) ?_
    | with_reducible refine ev_c2 (er_3 _) ?_
    | with_reducible refine ev_c2 (er_4 _) ?_
    | with_reducible refine ev_c2 (er_5 _) ?_
    | with_reducible refine ev_c2 (er_6 _) ?_
    | with_reducible refine ev_c2 (en_1 _) ?_
    | with_reducible refine ev_c2 (en_2 _) ?_
    | with_reducible refine ev_c2 (en_3 _) ?_
    | with_reducible refine ev_c2 (en_4 _) ?_
    | with_reducible refine ev_c2 (en_5 _) ?_
    | with_reducible refine ev_c2 (en_6 _) ?_
    | with_reducible refine ev_c1 (e_sqF (by omega) (by omega)) ?_
    | with_reducible refine ev_c1 (e_sqT (by omega) (by omega)) ?_
    | with_reducible refine ev_c1 (e_MsqF (by omega) (by omega)) ?_
    | with_reducible refine ev_c1 (e_MsqT (by omega) (by omega)) ?_
    | with_reducible refine ev_c1 (e_inT (by omega) (by omega) (by omega) (by omega)) ?_
    | with_reducible refine ev_c1 (e_inF (by omega) (by omega) (by omega) (by omega)) ?_
    | with_reducible refine ev_t (by omega) ?_
    | with_reducible refine ev_f (by omega) ?_
    | with_reducible refine ev_if (fun _ => ?_) (fun _ => ?_)
    | with_reducible refine ev_some ?_)
    all_goals exact ⟨rfl, iRef_up hr _ (by decide)⟩
  obtain ⟨q, rfl⟩ := Int.eq_ofNat_of_zero_le h.1
  have hq : q < 36 := by omega
  by_cases h2 : 0 ≤ b ∧ b < 4
  case neg =>
    repeat' (first
    | with_reducible refine ev_g (by omega) ?_
    | with_reducible refine ev_n ?_
    | with_reducible refine ev_i1 ?_
    | with_reducible refine ev_i2 ?_
    | with_reducible refine ev_i3 ?_
    | with_reducible refine ev_i4 ?_
    | with_reducible refine ev_c2 (er_1 _) ?_
    | with_reducible refine ev_c2 (er_2 _) ?_
    | with_reducible refine ev_c2 (er_3 _) ?_
    | with_reducible refine ev_c2 (er_4 _) ?_
    | with_reducible refine ev_c2 (er_5 _) ?_
    | with_reducible refine ev_c2 (er_6 _) ?_
    | with_reducible refine ev_c2 (en_1 _) ?_
    | with_reducible refine ev_c2 (en_2 _) ?_
    | with_reducible refine ev_c2 (en_3 _) ?_
    | with_reducible refine ev_c2 (en_4 _) ?_
    | with_reducible refine ev_c2 (en_5 _) ?_
    | with_reducible refine ev_c2 (en_6 _) ?_
    | with_reducible refine ev_c1 (e_sqF (by omega) (by omega)) ?_
    | with_reducible refine ev_c1 (e_sqT (by omega) (by omega)) ?_
    | with_reducible refine ev_c1 (e_MsqF (by omega) (by omega)) ?_
    | with_reducible refine ev_c1 (e_MsqT (by omega) (by omega)) ?_
    | with_reducible refine ev_c1 (e_inT (by omega) (by omega) (by omega) (by omega)) ?_
    | with_reducible refine ev_c1 (e_inF (by omega) (by omega) (by omega) (by omega)) ?_
    | with_reducible refine ev_t (by omega) ?_
    | with_reducible refine ev_f (by omega) ?_
    | with_reducible refine ev_if (fun _ => ?_) (fun _ => ?_)
    | with_reducible refine ev_some ?_)
    all_goals exact ⟨rfl, iRef_up hr _ (by decide)⟩
  obtain ⟨w, rfl⟩ := Int.eq_ofNat_of_zero_le h2.1
  have hw : w < 4 := by omega
  repeat' (first
    | with_reducible refine ev_g (by omega) ?_
    | with_reducible refine ev_n ?_
    | with_reducible refine ev_i1 ?_
    | with_reducible refine ev_i2 ?_
    | with_reducible refine ev_i3 ?_
    | with_reducible refine ev_i4 ?_
    | with_reducible refine ev_c2 (er_1 _) ?_
    | with_reducible refine ev_c2 (er_2 _) ?_
    | with_reducible refine ev_c2 (er_3 _) ?_
    | with_reducible refine ev_c2 (er_4 _) ?_
    | with_reducible refine ev_c2 (er_5 _) ?_
    | with_reducible refine ev_c2 (er_6 _) ?_
    | with_reducible refine ev_c2 (en_1 _) ?_
    | with_reducible refine ev_c2 (en_2 _) ?_
    | with_reducible refine ev_c2 (en_3 _) ?_
    | with_reducible refine ev_c2 (en_4 _) ?_
    | with_reducible refine ev_c2 (en_5 _) ?_
    | with_reducible refine ev_c2 (en_6 _) ?_
    | with_reducible refine ev_c1 (e_sqF (by omega) (by omega)) ?_
    | with_reducible refine ev_c1 (e_sqT (by omega) (by omega)) ?_
    | with_reducible refine ev_c1 (e_MsqF (by omega) (by omega)) ?_
    | with_reducible refine ev_c1 (e_MsqT (by omega) (by omega)) ?_
    | with_reducible refine ev_c1 (e_inT (by omega) (by omega) (by omega) (by omega)) ?_
    | with_reducible refine ev_c1 (e_inF (by omega) (by omega) (by omega) (by omega)) ?_
    | with_reducible refine ev_c1 (e_straight hK hq hw) ?_
    | with_reducible refine ev_c1 (e_M_straight hs hK hq hw) ?_
    | with_reducible refine ev_t (by omega) ?_
    | with_reducible refine ev_f (by omega) ?_
    | with_reducible refine ev_if (fun _ => ?_) (fun _ => ?_)
    | with_reducible refine ev_some ?_)
  all_goals exact ⟨rfl, hr⟩
theorem zS_rng (K : Nat → Int) (q w : Nat) : 0 ≤ zS K q w ∧ zS K q w ≤ 7 := by
  have h : ∀ (n : Nat) (t : Int), 0 ≤ zSt K w n t ∧ zSt K w n t ≤ n := by
    intro n
    induction n with
    | zero => intro t; exact ⟨Int.le_refl 0, Int.le_refl 0⟩
    | succ n ih =>
      intro t
      by_cases h : t < 0
      · rw [zSt_neg K w _ h]; omega
      · rw [zSt_pos K w n h]
        have := ih (zN K t.toNat w)
        omega
  unfold zS
  split
  · exact h 7 _
  · omega
theorem m_longest {K s ra rb : Nat → Int} {a : Int} (hK : zK K) (hs : zR s K) (hr : iRef ra rb) (ha : zr a) : ev2 (g_X_longest ra K a) (g_M_longest rb s a) (fun x y => x.1 = y.1 ∧ iRef x.2 y.2) := by
  unfold g_X_longest g_M_longest
  by_cases h : 0 ≤ a ∧ a ≤ 1
  case neg =>
    refine e2_ev ?_
    repeat' (first
    | with_reducible refine ev_g (by omega) ?_
    | with_reducible refine ev_n ?_
    | with_reducible refine ev_i1 ?_
    | with_reducible refine ev_i2 ?_
    | with_reducible refine ev_i3 ?_
    | with_reducible refine ev_i4 ?_
    | with_reducible refine ev_c2 (er_1 _) ?_
    | with_reducible refine ev_c2 (er_2 _) ?_
    | with_reducible refine ev_c2 (er_3 _) ?_
    | with_reducible refine ev_c2 (er_4 _) ?_
    | with_reducible refine ev_c2 (er_5 _) ?_
    | with_reducible refine ev_c2 (er_6 _) ?_
    | with_reducible refine ev_c2 (en_1 _) ?_
    | with_reducible refine ev_c2 (en_2 _) ?_
    | with_reducible refine ev_c2 (en_3 _) ?_
    | with_reducible refine ev_c2 (en_4 _) ?_
    | with_reducible refine ev_c2 (en_5 _) ?_
    | with_reducible refine ev_c2 (en_6 _) ?_
    | with_reducible refine ev_c1 (e_sqF (by omega) (by omega)) ?_
    | with_reducible refine ev_c1 (e_sqT (by omega) (by omega)) ?_
    | with_reducible refine ev_c1 (e_MsqF (by omega) (by omega)) ?_
    | with_reducible refine ev_c1 (e_MsqT (by omega) (by omega)) ?_
    | with_reducible refine ev_c1 (e_inT (by omega) (by omega) (by omega) (by omega)) ?_
    | with_reducible refine ev_c1 (e_inF (by omega) (by omega) (by omega) (by omega)) ?_
    | with_reducible refine ev_t (by omega) ?_
    | with_reducible refine ev_f (by omega) ?_
    | with_reducible refine ev_if (fun _ => ?_) (fun _ => ?_)
    | with_reducible refine ev_some ?_)
    all_goals exact ⟨rfl, iRef_up hr _ (by decide)⟩
  refine l_i1 (l_g ha (l_f (by omega) (l_t (by omega) (l_i2 (r_c1 (e_inT ha (by omega) (by omega) h) (r_g (by omega) (r_f (by omega) (r_i2 ?_))))))))
  refine e2_f33_33 36 (by decide) (fun i m st st2 m2 => m = m2 ∧ st = st2 ∧ -9 ≤ m ∧ m ≤ 7) (fun i m st st2 m2 ag ag2 hi hQ hag => ?_) ⟨rfl, rfl, by omega, by omega⟩
  obtain ⟨rfl, rfl, b1, b2⟩ := hQ
  refine l_g (by omega) (r_g (by omega) ?_)
  by_cases h9 : i = 36
  · subst h9
    refine l_t (by omega) (r_t (by omega) (r_g ha ?_))
    by_cases h0 : a = 0
    · exact l_t h0 (r_t h0 (e2_some ⟨rfl, hr⟩))
    · exact l_f h0 (r_f h0 (e2_some ⟨rfl, hr⟩))
  have hi2 : i < 36 := by omega
  refine l_f (by omega) (r_f (by omega) (l_i2 (r_i2 ?_)))
  by_cases hc : zcan (K i)
  case neg =>
    have hag2 := hag m st st m hi2 ⟨rfl, rfl, b1, b2⟩
    refine e2_f33_33 4 (by decide) (fun j a b c d => j = 0 ∧ a = m ∧ b = st ∧ c = st ∧ d = m) (fun j a2 b3 c3 d3 ag3 ag4 hj hQ2 _ => ?_) ⟨rfl, rfl, rfl, rfl, rfl⟩
    obtain ⟨rfl, rfl, rfl, rfl, rfl⟩ := hQ2
    exact l_g (by omega) (r_g (by omega) (l_f (by omega) (r_f (by omega) (l_c1 (e_canF hK hi2 hc) (r_c1 (e_McanF hs hK hi2 hc) (l_g (by omega) (r_g (by omega) (l_t rfl (r_t rfl (l_n (r_n hag2)))))))))))
  refine e2_f33_33 4 (by decide) (fun j a b c d => a = d ∧ b = c ∧ -9 ≤ a ∧ a ≤ 7) (fun j a2 b3 c3 d3 ag3 ag4 hj hQ2 hag3 => ?_) ⟨rfl, rfl, b1, b2⟩
  obtain ⟨rfl, rfl, b4, b5⟩ := hQ2
  refine l_g (by omega) (r_g (by omega) ?_)
  by_cases h8 : j = 4
  · subst h8
    exact l_t (by omega) (r_t (by omega) (l_n (r_n (hag a2 b3 b3 a2 hi2 ⟨rfl, rfl, b4, b5⟩))))
  have hj2 : j < 4 := by omega
  have rr := zS_rng K i j
  refine l_f (by omega) (r_f (by omega) (l_c1 (e_canT hK hi2 hc) (r_c1 (e_McanT hs hK hi2 hc) (l_g (by omega) (r_g (by omega) (l_f (by omega) (r_f (by omega) (l_c1 (e_straight hK hi2 hj2) (r_c1 (e_M_straight hs hK hi2 hj2) (l_i2 (r_i2 (l_g (by omega) (l_g (by omega) (r_g (by omega) (r_g (by omega) ?_)))))))))))))))
  by_cases h7 : zS K i j ≤ a2
  · exact l_t h7 (r_f (by omega) (l_n (r_n (hag3 _ _ _ _ hj2 ⟨rfl, rfl, b4, b5⟩))))
  · exact l_f h7 (r_t (by omega) (r_c1 (e_M_straight hs hK hi2 hj2) (l_n (r_n (hag3 _ _ _ _ hj2 ⟨rfl, rfl, by omega, by omega⟩)))))
