-- own text: routes
theorem e_cheapest {K : Nat → Int} (hK : zK K) {pc ps : Int} {tl : Nat → Int} (hc : ∀ j w, j < 180 → w < 4 → 0 ≤ zPr K pc ps tl j w ∧ zPr K pc ps tl j w ≤ 5000) (f0 n0 : Int) (iw L wq : Nat → Int) {p t : Nat} (hp : p < 36) (ht : t < 36) : ev (g_Routes_cheapest pc f0 ps n0 iw L tl K wq (p : Int) (t : Int)) (fun R => (R.1 = -9 ∧ (¬ zcan (K p) ∨ zNo K (zPr K pc ps tl) zAny (p * 5 + 4) t)) ∨ (zcan (K p) ∧ 0 ≤ R.1 ∧ R.1 < 2147483647 ∧ zSq K (zPr K pc ps tl) zAny (p * 5 + 4) t R.1)) := by
  unfold g_Routes_cheapest
  by_cases c : zcan (K p)
  case neg => exact ev_c1 (e_canF hK hp c) (ev_g (by decide) (ev_t rfl (ev_some (Or.inl ⟨rfl, Or.inl c⟩))))
  refine ev_c1 (e_canT hK hp c) (ev_g (by decide) (ev_f (by decide) ?_))
  obtain ⟨s, es⟩ : ∃ s, s = p * 5 + 4 := ⟨_, rfl⟩
  have hs : s < 180 := by omega
  rw [← es]
  generalize hC : zPr K pc ps tl = C at *
  have beg : ev (g_Routes_begin f0 n0 iw L wq (p : Int)) (fun R => R.1 = 0 ∧ R.2.1 = 1 ∧ zIv K C s 0 1 0 0 1 R.2.2.1 R.2.2.2.1 R.2.2.2.2 (fun _ => False)) := by
    unfold g_Routes_begin
    refine ev_b1 (e_fill (by decide) L 2147483647) (fun L1 hL1 => ev_b1 (e_fill (by decide) iw 0) (fun iw1 hiw1 => ?_))
    rw [show (p : Int) * 5 + 4 = (s : Int) by omega]
    unfold g_Routes_mend
    have q0 : zQu 0 0 iw1 wq := ⟨by omega, (cnt_none (p := fun j => iw1 j = 1) 180 (fun i hi x => by rw [hiw1 i hi] at x; omega)).symm, fun i hi => absurd hi (Nat.not_lt_zero i), fun i i' h1 h2 => absurd h2 (Nat.not_lt_zero i'), fun j hj => Or.inl (hiw1 j hj)⟩
    obtain ⟨p1, p2, p3⟩ := zQu_push q0 hs (hiw1 s hs)
    refine ev_b4 (Q := fun R => R.1 = 1 ∧ zIv K C s 0 1 0 0 1 R.2.1 R.2.2.1 R.2.2.2 (fun _ => False)) ?_ (fun a b d g hR => ev_some ⟨rfl, hR.1, hR.2⟩)
    refine ev_c1 (e_atN (by decide) hs) ?_
    rw [hL1 s hs]
    refine ev_g (by decide) (ev_g (by decide) (ev_t (by decide) (ev_c1 (e_putN (by decide) hs) (ev_c1 (e_atN (by decide) hs) ?_))))
    rw [hiw1 s hs]
    refine ev_g (by decide) (ev_t rfl (ev_c1 (e_putN (by decide) hs) (ev_g (by decide) ?_)))
    rw [show ((0 : Int) + 0) % 180 = (((0 + 0) % 180 : Nat) : Int) by decide]
    refine ev_c1 (e_putN (by decide) (by decide)) (ev_n (ev_some ⟨rfl, p2, ⟨by omega, by omega, fun x => by omega⟩, ?_, ?_, ?_, ?_⟩))
    · intro v hv
      show (updI L1 s 0 v = 2147483647 ∧ updI iw1 s 1 v = 0) ∨ (updI L1 s 0 v ≤ 5000 * ((0 : Nat) : Int) ∧ ∃ m, zTour K C zAny s m v (updI L1 s 0 v))
      by_cases e : v = s
      · subst e
        rw [updI_at]
        exact Or.inr ⟨by decide, 0, rfl, rfl⟩
      · rw [updI_ne _ _ e, updI_ne _ _ e]
        exact Or.inl ⟨hL1 v hv, hiw1 v hv⟩
    · intro m v x hm hx
      have m0 : m = 0 := by omega
      subst m0
      show updI L1 s 0 v ≤ x
      rw [hx.1, hx.2, updI_at]
      exact Int.le_refl _
    · intro j hj _ hq w hw hN m x hm hx
      have m0 : m = 0 := by omega
      subst m0
      exact absurd (show updI wq ((0 + 0) % 180) (s : Int) ((0 + 0) % 180) = (j : Int) by rw [updI_at, hx.1]) (hq 0 (by omega))
    · intro j hj _ hi hl w hw hN
      have hi : updI iw1 s 1 j = 0 := hi
      have hl : updI L1 s 0 j < 2147483647 := hl
      have js : j ≠ s := fun x => by rw [x, updI_at] at hi; omega
      rw [updI_ne _ _ js, hL1 j hj] at hl
      omega
  refine ev_b5 beg (fun f1 n1 iw1 L1 wq1 hR => ?_)
  obtain ⟨r1, r2, r3⟩ := hR
  have r1 : f1 = 0 := r1
  have r2 : n1 = 1 := r2
  have r3 : zIv K C s 0 1 0 0 1 iw1 L1 wq1 (fun _ => False) := r3
  subst r1 r2
  refine ev_j5 (fun _ _ _ L2 _ => zRes K C zAny s 2147483647 L2) (fun f2 n2 iw2 L2 wq2 hR => ?_) (fun k2 hk => ?_)
  · have lr : ∀ v, v < 180 → 0 ≤ L2 v ∧ L2 v ≤ 2147483647 := fun v hv => by
      rcases hR v hv with ⟨z, _⟩ | ⟨z, z2, _⟩
      · omega
      · omega
    refine ev_j1 (fun v => v = zM5 L2 2147483647 t 5) (fun v hv => ?_) (fun k3 hk3 => ?_)
    · have m5 := zM5_rng (t := t) (INF := 2147483647) (by decide) (fun v hv => (lr v hv).1) ht 5 (by decide)
      rcases zM5_sq hs ht hR with ⟨z1, z2⟩ | ⟨z1, z2, z3⟩
      · exact ev_g (by omega) (ev_t (by omega) (ev_some (Or.inl ⟨rfl, Or.inr z2⟩)))
      · refine ev_g (by omega) (ev_f (by omega) (ev_some (Or.inr ⟨c, ?_⟩)))
        rw [hv]
        exact ⟨z1, z2, z3⟩
    · refine ev_f2_2 5 (by decide) (fun i v => v = zM5 L2 2147483647 t i) (fun i v ag hi hQ hag => ?_) rfl
      refine ev_g (by omega) (ev_if (fun c1 => hk3 _ ?_) (fun c1 => ?_))
      · have i5 : i = 5 := by omega
        subst i5
        exact hQ
      have il : i < 5 := by omega
      have m5 := zM5_rng (t := t) (INF := 2147483647) (by decide) (fun v hv => (lr v hv).1) ht i hi
      have l5 := lr (t * 5 + i) (by omega)
      rw [show (t : Int) * 5 + (i : Int) = ((t * 5 + i : Nat) : Int) by omega]
      refine ev_c1 (e_atN (by decide) (by omega)) (ev_g (by omega) (ev_g (by omega) (ev_n (ev_n (hag _ il ?_)))))
      rw [hQ]
      rfl
  · refine ev_l6 (fun μ l f n iw L wq => ∃ T fN nN k r : Nat, l = (T : Int) ∧ f = (fN : Int) ∧ n = (nN : Int) ∧ zIv K C s k r T fN nN iw L wq (fun _ => False) ∧ T + r ≤ 180 * (k + 1) ∧ μ = 40000 - T) (fun μ l f n iw L wq ag hI hag => ?_) (m := 40000) (zF_gt (by decide)) ⟨0, 0, 1, 0, 1, rfl, rfl, rfl, r3, by omega, by omega⟩
    obtain ⟨T, fN, nN, k, r, rfl, rfl, rfl, hI, hT, hμ⟩ := hI
    have k9 := hI.2.1.2.1
    have T4 : T ≤ 32400 := by omega
    have fl := hI.1.1
    have nl : nN ≤ 180 := by
      have a := hI.1.2.1
      have b := (cnt_rng (fun j => iw j = 1) 180).2
      omega
    refine ev_g (by omega) (ev_f (by omega) (ev_g (by omega) (ev_if (fun c1 => hk _ _ _ _ _ ?_) (fun c1 => ?_))))
    · have n00 : nN = 0 := by omega
      subst n00
      have lr := fun v hv => zIv_L (v := v) hc (by omega) hI hv
      obtain ⟨h1, h2, h5, h6, h7, h8⟩ := hI
      refine zRes_rel hs (by decide) hc (fun v hv => ?_) (h6 0 s 0 (Nat.zero_le k) ⟨rfl, rfl⟩) (fun j w hj hw hN _ hl => h8 j hj (fun x => x) ?_ hl w hw hN)
      · rcases h5 v hv with ⟨z, _⟩ | ⟨z, z2⟩
        · exact Or.inl z
        · exact Or.inr ⟨by omega, z2⟩
      · rcases h1.2.2.2.2 j hj with z | ⟨_, i, z1, _⟩
        · exact z
        · exact absurd z1 (Nat.not_lt_zero i)
    · obtain ⟨k', r', hI', hT'⟩ : ∃ k' r', zIv K C s k' (r' + 1) T fN nN iw L wq (fun _ => False) ∧ T + (r' + 1) ≤ 180 * (k' + 1) := by
        rcases Nat.eq_zero_or_pos r with e | e
        · subst e
          refine ⟨k + 1, nN - 1, ?_, by omega⟩
          rw [show nN - 1 + 1 = nN by omega]
          exact zIv_next hc hs (by omega) hI (by omega)
        · exact ⟨k, r - 1, by rw [show r - 1 + 1 = r by omega]; exact hI, by omega⟩
      obtain ⟨n1, en⟩ : ∃ n1, nN = n1 + 1 := ⟨nN - 1, by omega⟩
      subst en
      obtain ⟨j, b1, b2, b3, b4, b5⟩ := zIv_pop hI'
      have tk : g_Routes_takeWaiting (fN : Int) ((n1 + 1 : Nat) : Int) iw wq = some ((j : Int), (((fN + 1) % 180 : Nat) : Int), (n1 : Int), updI iw j 0) := by
        refine ev_is ?_
        unfold g_Routes_takeWaiting
        refine ev_c1 (e_atN (by decide) fl) (ev_g (by omega) (ev_n (ev_n ?_)))
        rw [b2]
        refine ev_c1 (e_putN (by decide) b1) (ev_some ?_)
        rw [show ((fN : Int) + 1) % 180 = (((fN + 1) % 180 : Nat) : Int) by omega, show ((n1 + 1 : Nat) : Int) - 1 = (n1 : Int) by omega]
      refine ev_c4 tk ?_
      subst hC
      refine ev_b4 (e_goFrom hK hs hc (by omega) b5 b1 b3 b4) (fun nI iw2 L2 wq2 hR => ev_n ?_)
      obtain ⟨n2, d1, d2⟩ := hR
      exact hag (40000 - (T + 1)) _ _ _ _ _ _ (by omega) ⟨T + 1, (fN + 1) % 180, n2, k', r', by omega, rfl, d1, d2, by omega, rfl⟩
