-- own text: image, on, set
theorem e_lays (p g : Nat → Int) : ev (g_M_lays p g) (fun r => ∀ i, i < 39 → r i = p i) := by
  unfold g_M_lays
  refine ev_f2_1 39 (by decide) (fun i r => ∀ j, j < i → r j = p j) (fun i r ag hi hQ hag => ?_) (fun j h => absurd h (Nat.not_lt_zero j))
  refine ev_g (by omega) (ev_if (fun h => ?_) (fun h => ?_))
  · exact ev_some (fun j hj => hQ j (by omega))
  · refine ev_g (by omega) (ev_n (ev_n (ev_n (hag _ (by omega) (fun j hj => ?_)))))
    show (if j = (i : Int).toNat then p (i : Int).toNat else r j) = p j
    rw [Int.toNat_natCast]
    by_cases e : j = i
    · rw [if_pos e, e]
    · rw [if_neg e]; exact hQ j (by omega)
theorem e_takeN {n : Nat} (hn : n < 2147483648) (p g : Nat → Int) : ev (g_Numbers_takeOver n n p g) (fun r => ∀ i, i < n → r i = p i) := by
  unfold g_Numbers_takeOver
  refine ev_f2_1 n hn (fun i r => ∀ j, j < i → r j = p j) (fun i r ag hi hQ hag => ?_) (fun j h => absurd h (Nat.not_lt_zero j))
  refine ev_g (by omega) (ev_g (by omega) (ev_if (fun h => ?_) (fun h => ?_)))
  · exact ev_some (fun j hj => hQ j (by omega))
  · refine ev_c1 (e_atN hn (by omega)) (ev_g (by omega) (ev_n (ev_n (hag _ (by omega) (fun j hj => ?_)))))
    show (if j = (i : Int).toNat then p i else r j) = p j
    rw [Int.toNat_natCast]
    by_cases e : j = i
    · rw [if_pos e, e]
    · rw [if_neg e]; exact hQ j (by omega)
theorem e_take (br fi ho : Int) (K : Nat → Int) (b2 f2 h2 : Int) (K2 : Nat → Int) : ev (g_Town_takeOver br fi ho K b2 f2 h2 K2) (fun r => r.1 = br ∧ r.2.1 = fi ∧ r.2.2.1 = ho ∧ ∀ i, i < 36 → r.2.2.2 i = K i) := by
  unfold g_Town_takeOver
  exact ev_b1 (e_takeN (by decide) K K2) (fun r h => ev_some ⟨rfl, rfl, rfl, h⟩)
theorem iTown_c {K s K2 s2 : Nat → Int} {ho fi br : Int} (h : iTown K s ho fi br) (h1 : ∀ i, i < 36 → K2 i = K i) (h2 : ∀ i, i < 39 → s2 i = s i) : iTown K2 s2 ho fi br := by
  obtain ⟨hK, hs, h36, h37, h38, q1, q2, q3, q4, q5, q6, q7⟩ := h
  refine ⟨fun i hi => by rw [h1 i hi]; exact hK i hi, fun i hi => by rw [h1 i hi, h2 i (by omega)]; exact hs i hi, by rw [h2 36 (by decide)]; exact h36, by rw [h2 37 (by decide)]; exact h37, by rw [h2 38 (by decide)]; exact h38, q1, q2, by rw [h1 _ (by omega)]; exact q3, q4, q5, q6, q7⟩
theorem m_image {K s K2 s2 : Nat → Int} {ho fi br kp ho2 fi2 br2 : Int} (hT : iTown K s ho fi br) : ev (g_X_image kp br2 fi2 ho2 K2 br fi ho K) (fun x => ev (g_M_image kp s2 s) (fun y => x.1 = y.1 ∧ x.2.1 = 1 ∧ y.2.1 = 1 ∧ iTown x.2.2.2.2.2 y.2.2 x.2.2.2.2.1 x.2.2.2.1 x.2.2.1)) := by
  unfold g_X_image g_M_image
  refine ev_b4 (e_take br fi ho K br2 fi2 ho2 K2) (fun a b c g h => ?_)
  obtain ⟨h1, h2, h3, h4⟩ := h
  refine ev_c1 (show g_Town_home ho = some ho from rfl) (ev_some (ev_b1 (e_lays s s2) (fun r hr => ev_g (by omega) (ev_some ⟨hT.2.2.1.symm, rfl, rfl, ?_⟩))))
  have h1 : a = br := h1
  have h2 : b = fi := h2
  have h3 : c = ho := h3
  show iTown g r c b a
  rw [h1, h2, h3]
  exact iTown_c hT h4 hr
theorem m_on {K s K2 s2 ra rb : Nat → Int} {ho fi br kp ho2 fi2 br2 : Int} (hT : iTown K s ho fi br) (hkp : kp = 0 ∨ kp = 1) (hT2 : kp = 1 → iTown K2 s2 ho2 fi2 br2) (hr : iRef ra rb) : ev (g_X_on kp br2 fi2 ho2 K2 ra br fi ho K) (fun x => ev (g_M_on kp s2 rb s) (fun y => x.1 = y.1 ∧ iRef x.2.1 y.2.1 ∧ iTown x.2.2.2.2.2 y.2.2 x.2.2.2.2.1 x.2.2.2.1 x.2.2.1)) := by
  unfold g_X_on g_M_on
  rcases hkp with e | e
  · subst e
    refine ev_g (by omega) (ev_t rfl (ev_c2 (er_3 _) (ev_some (ev_g (by omega) (ev_t rfl (ev_c2 (en_3 _) (ev_some ⟨rfl, iRef_up hr _ (by decide), hT⟩)))))))
  · subst e
    have hT2 := hT2 rfl
    refine ev_g (by omega) (ev_f (by decide) (ev_b4 (e_take br2 fi2 ho2 K2 br fi ho K) (fun a b c g h => ?_)))
    obtain ⟨h1, h2, h3, h4⟩ := h
    have h1 : a = br2 := h1
    have h2 : b = fi2 := h2
    have h3 : c = ho2 := h3
    refine ev_c1 (show g_Town_home c = some c from rfl) (ev_some (ev_g (by omega) (ev_f (by decide) (ev_b1 (e_lays s2 s) (fun r hr2 => ev_g (by omega) (ev_some ⟨?_, hr, ?_⟩))))))
    · show c = r 36
      rw [hr2 36 (by decide), h3]
      exact hT2.2.2.1.symm
    · show iTown g r c b a
      rw [h1, h2, h3]
      exact iTown_c hT2 h4 hr2
theorem zR_hi {s K : Nat → Int} (hs : zR s K) {p : Nat} (hp : 36 ≤ p) (v : Int) : zR (updI s p v) K := fun i hi => (updI_ne s v (by omega)).trans (hs i hi)
theorem e_setHome {K s ra rb : Nat → Int} {ho fi br b : Int} (hT : iTown K s ho fi br) (hr : iRef ra rb) (hb : zr b) : ev (g_X_setHome ra ho K b) (fun x => ev (g_M_set rb s 0 b) (fun y => x.1 = y.1 ∧ iRef x.2.1 y.2.1 ∧ iTown K y.2.2 x.2.2 fi br)) := by
  have hT0 := hT
  obtain ⟨hK, hs, h36, h37, h38, q1, q2, q3, q4, q5, q6, q7⟩ := hT
  have ez : ∀ z : Int, g_Town_home z = some z := fun _ => rfl
  unfold g_X_setHome g_M_set g_Town_moveHome
  by_cases h : 0 ≤ b ∧ b < 36
  case neg =>
    repeat' (first
    | with_reducible refine ev_g (by omega) ?_
    | with_reducible refine ev_n ?_
    | with_reducible refine ev_i1 ?_
    | with_reducible refine ev_i2 ?_
    | with_reducible refine ev_i3 ?_
    | with_reducible refine ev_i4 ?_
    | with_reducible refine ev_c2 (er_1 _) ?_
    | with_reducible refine ev_c2 (er_2 _) ?_
    | with_reducible refine ev_c2 (er_3 _) ?_
    | with_reducible refine ev_c2 (er_4 _) ?_
    | with_reducible refine ev_c2 (er_5 _) ?_
    | with_reducible refine ev_c2 (er_6 _) ?_
    | with_reducible refine ev_c2 (en_1 _) ?_
    | with_reducible refine ev_c2 (en_2 _) ?_
    | with_reducible refine ev_c2 (en_3 _) ?_
    | with_reducible refine ev_c2 (en_4 _) ?_
    | with_reducible refine ev_c2 (en_5 _) ?_
    | with_reducible refine ev_c2 (en_6 _) ?_
    | with_reducible refine ev_c1 (e_sqF (by omega) (by omega)) ?_
    | with_reducible refine ev_c1 (e_sqT (by omega) (by omega)) ?_
    | with_reducible refine ev_c1 (e_MsqF (by omega) (by omega)) ?_
    | with_reducible refine ev_c1 (e_MsqT (by omega) (by omega)) ?_
    | with_reducible refine ev_c1 (e_inT (by omega) (by omega) (by omega) (by omega)) ?_
    | with_reducible refine ev_c1 (e_inF (by omega) (by omega) (by omega) (by omega)) ?_
    | with_reducible refine ev_t (by omega) ?_
    | with_reducible refine ev_f (by omega) ?_
    | with_reducible refine ev_if (fun _ => ?_) (fun _ => ?_)
    | with_reducible refine ev_some ?_)
    all_goals exact ⟨rfl, iRef_up hr _ (by decide), hT0⟩
  obtain ⟨q, rfl⟩ := Int.eq_ofNat_of_zero_le h.1
  have hq : q < 36 := by omega
  by_cases hc : zcan (K q)
  · refine ev_c1 (e_sqT (by omega) h) (ev_g (by omega) (ev_f (by omega) (ev_c1 (ez _) (ev_c2 (v1 := 1) (v2 := (q : Int)) ?_ (ev_g (by omega) (ev_f (by omega) (ev_some ?_)))))))
    · rw [zb1_t (e_canT hK hq hc), zg_t (by decide), if_neg (by decide)]
    · repeat' (first
    | with_reducible refine ev_g (by omega) ?_
    | with_reducible refine ev_n ?_
    | with_reducible refine ev_i1 ?_
    | with_reducible refine ev_i2 ?_
    | with_reducible refine ev_i3 ?_
    | with_reducible refine ev_i4 ?_
    | with_reducible refine ev_c2 (er_1 _) ?_
    | with_reducible refine ev_c2 (er_2 _) ?_
    | with_reducible refine ev_c2 (er_3 _) ?_
    | with_reducible refine ev_c2 (er_4 _) ?_
    | with_reducible refine ev_c2 (er_5 _) ?_
    | with_reducible refine ev_c2 (er_6 _) ?_
    | with_reducible refine ev_c2 (en_1 _) ?_
    | with_reducible refine ev_c2 (en_2 _) ?_
    | with_reducible refine ev_c2 (en_3 _) ?_
    | with_reducible refine ev_c2 (en_4 _) ?_
    | with_reducible refine ev_c2 (en_5 _) ?_
    | with_reducible refine ev_c2 (en_6 _) ?_
    | with_reducible refine ev_c1 (e_sqF (by omega) (by omega)) ?_
    | with_reducible refine ev_c1 (e_sqT (by omega) (by omega)) ?_
    | with_reducible refine ev_c1 (e_MsqF (by omega) (by omega)) ?_
    | with_reducible refine ev_c1 (e_MsqT (by omega) (by omega)) ?_
    | with_reducible refine ev_c1 (e_inT (by omega) (by omega) (by omega) (by omega)) ?_
    | with_reducible refine ev_c1 (e_inF (by omega) (by omega) (by omega) (by omega)) ?_
    | with_reducible refine ev_c1 (e_McanT hs hK hq hc) ?_
    | with_reducible refine ev_t (by omega) ?_
    | with_reducible refine ev_f (by omega) ?_
    | with_reducible refine ev_if (fun _ => ?_) (fun _ => ?_)
    | with_reducible refine ev_some ?_)
      all_goals exact ⟨h36.symm, hr, hK, zR_hi hs (p := 36) (by decide) _, updI_at s 36 (q : Int), (updI_ne (q := 36) (i := 37) s (q : Int) (by decide)).trans h37, (updI_ne (q := 36) (i := 38) s (q : Int) (by decide)).trans h38, h.1, h.2, (by show zcan (K (q : Int).toNat); rw [Int.toNat_natCast]; exact hc), q4, q5, q6, q7⟩
  · refine ev_c1 (e_sqT (by omega) h) (ev_g (by omega) (ev_f (by omega) (ev_c1 (ez _) (ev_c2 (v1 := 0) (v2 := ho) ?_ (ev_g (by omega) (ev_t (by omega) (ev_c2 (er_3 _) (ev_some ?_))))))))
    · rw [zb1_t (e_canF hK hq hc), zg_t (by decide), if_pos (by decide)]
    · repeat' (first
    | with_reducible refine ev_g (by omega) ?_
    | with_reducible refine ev_n ?_
    | with_reducible refine ev_i1 ?_
    | with_reducible refine ev_i2 ?_
    | with_reducible refine ev_i3 ?_
    | with_reducible refine ev_i4 ?_
    | with_reducible refine ev_c2 (er_1 _) ?_
    | with_reducible refine ev_c2 (er_2 _) ?_
    | with_reducible refine ev_c2 (er_3 _) ?_
    | with_reducible refine ev_c2 (er_4 _) ?_
    | with_reducible refine ev_c2 (er_5 _) ?_
    | with_reducible refine ev_c2 (er_6 _) ?_
    | with_reducible refine ev_c2 (en_1 _) ?_
    | with_reducible refine ev_c2 (en_2 _) ?_
    | with_reducible refine ev_c2 (en_3 _) ?_
    | with_reducible refine ev_c2 (en_4 _) ?_
    | with_reducible refine ev_c2 (en_5 _) ?_
    | with_reducible refine ev_c2 (en_6 _) ?_
    | with_reducible refine ev_c1 (e_sqF (by omega) (by omega)) ?_
    | with_reducible refine ev_c1 (e_sqT (by omega) (by omega)) ?_
    | with_reducible refine ev_c1 (e_MsqF (by omega) (by omega)) ?_
    | with_reducible refine ev_c1 (e_MsqT (by omega) (by omega)) ?_
    | with_reducible refine ev_c1 (e_inT (by omega) (by omega) (by omega) (by omega)) ?_
    | with_reducible refine ev_c1 (e_inF (by omega) (by omega) (by omega) (by omega)) ?_
    | with_reducible refine ev_c1 (e_McanF hs hK hq hc) ?_
    | with_reducible refine ev_t (by omega) ?_
    | with_reducible refine ev_f (by omega) ?_
    | with_reducible refine ev_if (fun _ => ?_) (fun _ => ?_)
    | with_reducible refine ev_some ?_)
      all_goals exact ⟨rfl, iRef_up hr _ (by decide), hT0⟩
theorem e_cF {f b : Int} (hb : zr b) : g_Town_changeFine f b = some (if 0 ≤ b ∧ b ≤ 9 then (1, b) else (0, f)) := by
  unfold g_Town_changeFine
  rw [zg_t hb]
  by_cases h : b < 0
  · rw [if_pos h, if_neg (by omega)]
  · rw [if_neg h]
    by_cases h2 : b ≤ 9
    · rw [if_pos h2, if_pos (by omega)]
    · rw [if_neg h2, if_neg (by omega)]
theorem e_cB {f b : Int} (hb : zr b) : g_Town_changeBreath f b = some (if 1 ≤ b ∧ b ≤ 9 then (1, b) else (0, f)) := by
  unfold g_Town_changeBreath
  rw [zg_t hb]
  by_cases h : b < 1
  · rw [if_pos h, if_neg (by omega)]
  · rw [if_neg h]
    by_cases h2 : b ≤ 9
    · rw [if_pos h2, if_pos (by omega)]
    · rw [if_neg h2, if_neg (by omega)]
theorem e_sF (ra : Nat → Int) {f b : Int} (hb : zr b) : g_X_setFine ra f b = some (if b < 0 then (-4, updI ra 4 (ra 4 + 1), f) else if b ≤ 9 then (f, ra, b) else (-6, updI ra 6 (ra 6 + 1), f)) := by
  refine ev_is ?_
  unfold g_X_setFine
  refine ev_g hb (ev_if (fun h => ?_) (fun h => ?_))
  · refine ev_c1 (show g_Town_fine f = some f from rfl) ?_
    rw [if_neg (by omega)]
    by_cases h2 : b ≤ 9
    · rw [if_pos h2]
      exact ev_c2 (by rw [e_cF hb, if_pos ⟨h, h2⟩]) (ev_g (by omega) (ev_f (by omega) (ev_some rfl)))
    · rw [if_neg h2]
      exact ev_c2 (by rw [e_cF hb, if_neg (by omega)]) (ev_g (by omega) (ev_t (by omega) (ev_c2 (er_6 _) (ev_some rfl))))
  · rw [if_pos (by omega)]
    exact ev_c2 (er_4 _) (ev_some rfl)
theorem e_sB (ra : Nat → Int) {f b : Int} (hb : zr b) : g_X_setBreath ra f b = some (if b < 1 then (-4, updI ra 4 (ra 4 + 1), f) else if b ≤ 9 then (f, ra, b) else (-6, updI ra 6 (ra 6 + 1), f)) := by
  refine ev_is ?_
  unfold g_X_setBreath
  refine ev_g hb (ev_if (fun h => ?_) (fun h => ?_))
  · refine ev_c1 (show g_Town_breath f = some f from rfl) ?_
    rw [if_neg (by omega)]
    by_cases h2 : b ≤ 9
    · rw [if_pos h2]
      exact ev_c2 (by rw [e_cB hb, if_pos ⟨h, h2⟩]) (ev_g (by omega) (ev_f (by omega) (ev_some rfl)))
    · rw [if_neg h2]
      exact ev_c2 (by rw [e_cB hb, if_neg (by omega)]) (ev_g (by omega) (ev_t (by omega) (ev_c2 (er_6 _) (ev_some rfl))))
  · rw [if_pos (by omega)]
    exact ev_c2 (er_4 _) (ev_some rfl)
theorem m_set {K s ra rb : Nat → Int} {ho fi br a b : Int} (hT : iTown K s ho fi br) (hr : iRef ra rb) (ha : zr a) (hb : zr b) : ev (g_X_set ra br fi ho K a b) (fun x => ev (g_M_set rb s a b) (fun y => x.1 = y.1 ∧ iRef x.2.1 y.2.1 ∧ iTown K y.2.2 x.2.2.2.2 x.2.2.2.1 x.2.2.1)) := by
  have hT0 := hT
  obtain ⟨hK, hs, h36, h37, h38, q1, q2, q3, q4, q5, q6, q7⟩ := hT
  by_cases c0 : a = 0
  · subst c0
    unfold g_X_set
    exact ev_g ha (ev_t rfl (ev_b3 (e_setHome hT0 hr hb) (fun r ra2 ho2 h => ev_some h)))
  by_cases c1 : a = 1
  · subst c1
    unfold g_X_set g_M_set
    by_cases h1 : b < 0
    · refine ev_g ha (ev_f (by decide) (ev_t rfl (ev_c3 (by rw [e_sF ra hb, if_pos h1]) (ev_some ?_))))
      repeat' (first
    | with_reducible refine ev_g (by omega) ?_
    | with_reducible refine ev_n ?_
    | with_reducible refine ev_i1 ?_
    | with_reducible refine ev_i2 ?_
    | with_reducible refine ev_i3 ?_
    | with_reducible refine ev_i4 ?_
    | with_reducible refine ev_c2 (er_1 _) ?_
    | with_reducible refine ev_c2 (er_2 _) ?_
    | with_reducible refine ev_c2 (er_3 _) ?_
    | with_reducible refine ev_c2 (er_4 _) ?_
    | with_reducible refine ev_c2 (er_5 _) ?_
    | with_reducible refine ev_c2 (er_6 _) ?_
    | with_reducible refine ev_c2 (en_1 _) ?_
    | with_reducible refine ev_c2 (en_2 _) ?_
    | with_reducible refine ev_c2 (en_3 _) ?_
    | with_reducible refine ev_c2 (en_4 _) ?_
    | with_reducible refine ev_c2 (en_5 _) ?_
    | with_reducible refine ev_c2 (en_6 _) ?_
    | with_reducible refine ev_c1 (e_sqF (by omega) (by omega)) ?_
    | with_reducible refine ev_c1 (e_sqT (by omega) (by omega)) ?_
    | with_reducible refine ev_c1 (e_MsqF (by omega) (by omega)) ?_
    | with_reducible refine ev_c1 (e_MsqT (by omega) (by omega)) ?_
    | with_reducible refine ev_c1 (e_inT (by omega) (by omega) (by omega) (by omega)) ?_
    | with_reducible refine ev_c1 (e_inF (by omega) (by omega) (by omega) (by omega)) ?_
    | with_reducible refine ev_t (by omega) ?_
    | with_reducible refine ev_f (by omega) ?_
    | with_reducible refine ev_if (fun _ => ?_) (fun _ => ?_)
    | with_reducible refine ev_some ?_)
      all_goals exact ⟨rfl, iRef_up hr _ (by decide), hT0⟩
    by_cases h2 : b ≤ 9
    · refine ev_g ha (ev_f (by decide) (ev_t rfl (ev_c3 (by rw [e_sF ra hb, if_neg h1, if_pos h2]) (ev_some ?_))))
      repeat' (first
    | with_reducible refine ev_g (by omega) ?_
    | with_reducible refine ev_n ?_
    | with_reducible refine ev_i1 ?_
    | with_reducible refine ev_i2 ?_
    | with_reducible refine ev_i3 ?_
    | with_reducible refine ev_i4 ?_
    | with_reducible refine ev_c2 (er_1 _) ?_
    | with_reducible refine ev_c2 (er_2 _) ?_
    | with_reducible refine ev_c2 (er_3 _) ?_
    | with_reducible refine ev_c2 (er_4 _) ?_
    | with_reducible refine ev_c2 (er_5 _) ?_
    | with_reducible refine ev_c2 (er_6 _) ?_
    | with_reducible refine ev_c2 (en_1 _) ?_
    | with_reducible refine ev_c2 (en_2 _) ?_
    | with_reducible refine ev_c2 (en_3 _) ?_
    | with_reducible refine ev_c2 (en_4 _) ?_
    | with_reducible refine ev_c2 (en_5 _) ?_
    | with_reducible refine ev_c2 (en_6 _) ?_
    | with_reducible refine ev_c1 (e_sqF (by omega) (by omega)) ?_
    | with_reducible refine ev_c1 (e_sqT (by omega) (by omega)) ?_
    | with_reducible refine ev_c1 (e_MsqF (by omega) (by omega)) ?_
    | with_reducible refine ev_c1 (e_MsqT (by omega) (by omega)) ?_
    | with_reducible refine ev_c1 (e_inT (by omega) (by omega) (by omega) (by omega)) ?_
    | with_reducible refine ev_c1 (e_inF (by omega) (by omega) (by omega) (by omega)) ?_
    | with_reducible refine ev_t (by omega) ?_
    | with_reducible refine ev_f (by omega) ?_
    | with_reducible refine ev_if (fun _ => ?_) (fun _ => ?_)
    | with_reducible refine ev_some ?_)
      all_goals exact ⟨h37.symm, hr, hK, zR_hi hs (p := 37) (by decide) _, (updI_ne (q := 37) (i := 36) s b (by decide)).trans h36, updI_at s 37 b, (updI_ne (q := 37) (i := 38) s b (by decide)).trans h38, q1, q2, q3, (show 0 ≤ b by omega), h2, q6, q7⟩
    · refine ev_g ha (ev_f (by decide) (ev_t rfl (ev_c3 (by rw [e_sF ra hb, if_neg h1, if_neg h2]) (ev_some ?_))))
      repeat' (first
    | with_reducible refine ev_g (by omega) ?_
    | with_reducible refine ev_n ?_
    | with_reducible refine ev_i1 ?_
    | with_reducible refine ev_i2 ?_
    | with_reducible refine ev_i3 ?_
    | with_reducible refine ev_i4 ?_
    | with_reducible refine ev_c2 (er_1 _) ?_
    | with_reducible refine ev_c2 (er_2 _) ?_
    | with_reducible refine ev_c2 (er_3 _) ?_
    | with_reducible refine ev_c2 (er_4 _) ?_
    | with_reducible refine ev_c2 (er_5 _) ?_
    | with_reducible refine ev_c2 (er_6 _) ?_
    | with_reducible refine ev_c2 (en_1 _) ?_
    | with_reducible refine ev_c2 (en_2 _) ?_
    | with_reducible refine ev_c2 (en_3 _) ?_
    | with_reducible refine ev_c2 (en_4 _) ?_
    | with_reducible refine ev_c2 (en_5 _) ?_
    | with_reducible refine ev_c2 (en_6 _) ?_
    | with_reducible refine ev_c1 (e_sqF (by omega) (by omega)) ?_
    | with_reducible refine ev_c1 (e_sqT (by omega) (by omega)) ?_
    | with_reducible refine ev_c1 (e_MsqF (by omega) (by omega)) ?_
    | with_reducible refine ev_c1 (e_MsqT (by omega) (by omega)) ?_
    | with_reducible refine ev_c1 (e_inT (by omega) (by omega) (by omega) (by omega)) ?_
    | with_reducible refine ev_c1 (e_inF (by omega) (by omega) (by omega) (by omega)) ?_
    | with_reducible refine ev_t (by omega) ?_
    | with_reducible refine ev_f (by omega) ?_
    | with_reducible refine ev_if (fun _ => ?_) (fun _ => ?_)
    | with_reducible refine ev_some ?_)
      all_goals exact ⟨rfl, iRef_up hr _ (by decide), hT0⟩
  by_cases c2 : a = 2
  · subst c2
    unfold g_X_set g_M_set
    by_cases h1 : b < 1
    · refine ev_g ha (ev_f (by decide) (ev_f (by decide) (ev_t rfl (ev_c3 (by rw [e_sB ra hb, if_pos h1]) (ev_some ?_)))))
      repeat' (first
    | with_reducible refine ev_g (by omega) ?_
    | with_reducible refine ev_n ?_
    | with_reducible refine ev_i1 ?_
    | with_reducible refine ev_i2 ?_
    | with_reducible refine ev_i3 ?_
    | with_reducible refine ev_i4 ?_
    | with_reducible refine ev_c2 (er_1 _) ?_
    | with_reducible refine ev_c2 (er_2 _) ?_
    | with_reducible refine ev_c2 (er_3 _) ?_
    | with_reducible refine ev_c2 (er_4 _) ?_
    | with_reducible refine ev_c2 (er_5 _) ?_
    | with_reducible refine ev_c2 (er_6 _) ?_
    | with_reducible refine ev_c2 (en_1 _) ?_
    | with_reducible refine ev_c2 (en_2 _) ?_
    | with_reducible refine ev_c2 (en_3 _) ?_
    | with_reducible refine ev_c2 (en_4 _) ?_
    | with_reducible refine ev_c2 (en_5 _) ?_
    | with_reducible refine ev_c2 (en_6 _) ?_
    | with_reducible refine ev_c1 (e_sqF (by omega) (by omega)) ?_
    | with_reducible refine ev_c1 (e_sqT (by omega) (by omega)) ?_
    | with_reducible refine ev_c1 (e_MsqF (by omega) (by omega)) ?_
    | with_reducible refine ev_c1 (e_MsqT (by omega) (by omega)) ?_
    | with_reducible refine ev_c1 (e_inT (by omega) (by omega) (by omega) (by omega)) ?_
    | with_reducible refine ev_c1 (e_inF (by omega) (by omega) (by omega) (by omega)) ?_
    | with_reducible refine ev_t (by omega) ?_
    | with_reducible refine ev_f (by omega) ?_
    | with_reducible refine ev_if (fun _ => ?_) (fun _ => ?_)
    | with_reducible refine ev_some ?_)
      all_goals exact ⟨rfl, iRef_up hr _ (by decide), hT0⟩
    by_cases h2 : b ≤ 9
    · refine ev_g ha (ev_f (by decide) (ev_f (by decide) (ev_t rfl (ev_c3 (by rw [e_sB ra hb, if_neg h1, if_pos h2]) (ev_some ?_)))))
      repeat' (first
    | with_reducible refine ev_g (by omega) ?_
    | with_reducible refine ev_n ?_
    | with_reducible refine ev_i1 ?_
    | with_reducible refine ev_i2 ?_
    | with_reducible refine ev_i3 ?_
    | with_reducible refine ev_i4 ?_
    | with_reducible refine ev_c2 (er_1 _) ?_
    | with_reducible refine ev_c2 (er_2 _) ?_
    | with_reducible refine ev_c2 (er_3 _) ?_
    | with_reducible refine ev_c2 (er_4 _) ?_
    | with_reducible refine ev_c2 (er_5 _) ?_
    | with_reducible refine ev_c2 (er_6 _) ?_
    | with_reducible refine ev_c2 (en_1 _) ?_
    | with_reducible refine ev_c2 (en_2 _) ?_
    | with_reducible refine ev_c2 (en_3 _) ?_
    | with_reducible refine ev_c2 (en_4 _) ?_
    | with_reducible refine ev_c2 (en_5 _) ?_
    | with_reducible refine ev_c2 (en_6 _) ?_
    | with_reducible refine ev_c1 (e_sqF (by omega) (by omega)) ?_
    | with_reducible refine ev_c1 (e_sqT (by omega) (by omega)) ?_
    | with_reducible refine ev_c1 (e_MsqF (by omega) (by omega)) ?_
    | with_reducible refine ev_c1 (e_MsqT (by omega) (by omega)) ?_
    | with_reducible refine ev_c1 (e_inT (by omega) (by omega) (by omega) (by omega)) ?_
    | with_reducible refine ev_c1 (e_inF (by omega) (by omega) (by omega) (by omega)) ?_
    | with_reducible refine ev_t (by omega) ?_
    | with_reducible refine ev_f (by omega) ?_
    | with_reducible refine ev_if (fun _ => ?_) (fun _ => ?_)
    | with_reducible refine ev_some ?_)
      all_goals exact ⟨h38.symm, hr, hK, zR_hi hs (p := 38) (by decide) _, (updI_ne (q := 38) (i := 36) s b (by decide)).trans h36, (updI_ne (q := 38) (i := 37) s b (by decide)).trans h37, updI_at s 38 b, q1, q2, q3, q4, q5, (show 1 ≤ b by omega), h2⟩
    · refine ev_g ha (ev_f (by decide) (ev_f (by decide) (ev_t rfl (ev_c3 (by rw [e_sB ra hb, if_neg h1, if_neg h2]) (ev_some ?_)))))
      repeat' (first
    | with_reducible refine ev_g (by omega) ?_
    | with_reducible refine ev_n ?_
    | with_reducible refine ev_i1 ?_
    | with_reducible refine ev_i2 ?_
    | with_reducible refine ev_i3 ?_
    | with_reducible refine ev_i4 ?_
    | with_reducible refine ev_c2 (er_1 _) ?_
    | with_reducible refine ev_c2 (er_2 _) ?_
    | with_reducible refine ev_c2 (er_3 _) ?_
    | with_reducible refine ev_c2 (er_4 _) ?_
    | with_reducible refine ev_c2 (er_5 _) ?_
    | with_reducible refine ev_c2 (er_6 _) ?_
    | with_reducible refine ev_c2 (en_1 _) ?_
    | with_reducible refine ev_c2 (en_2 _) ?_
    | with_reducible refine ev_c2 (en_3 _) ?_
    | with_reducible refine ev_c2 (en_4 _) ?_
    | with_reducible refine ev_c2 (en_5 _) ?_
    | with_reducible refine ev_c2 (en_6 _) ?_
    | with_reducible refine ev_c1 (e_sqF (by omega) (by omega)) ?_
    | with_reducible refine ev_c1 (e_sqT (by omega) (by omega)) ?_
    | with_reducible refine ev_c1 (e_MsqF (by omega) (by omega)) ?_
    | with_reducible refine ev_c1 (e_MsqT (by omega) (by omega)) ?_
    | with_reducible refine ev_c1 (e_inT (by omega) (by omega) (by omega) (by omega)) ?_
    | with_reducible refine ev_c1 (e_inF (by omega) (by omega) (by omega) (by omega)) ?_
    | with_reducible refine ev_t (by omega) ?_
    | with_reducible refine ev_f (by omega) ?_
    | with_reducible refine ev_if (fun _ => ?_) (fun _ => ?_)
    | with_reducible refine ev_some ?_)
      all_goals exact ⟨rfl, iRef_up hr _ (by decide), hT0⟩
  unfold g_X_set g_M_set
  repeat' (first
    | with_reducible refine ev_g (by omega) ?_
    | with_reducible refine ev_n ?_
    | with_reducible refine ev_i1 ?_
    | with_reducible refine ev_i2 ?_
    | with_reducible refine ev_i3 ?_
    | with_reducible refine ev_i4 ?_
    | with_reducible refine ev_c2 (er_1 _) ?_
    | with_reducible refine ev_c2 (er_2 _) ?_
    | with_reducible refine ev_c2 (er_3 _) ?_
    | with_reducible refine ev_c2 (er_4 _) ?_
    | with_reducible refine ev_c2 (er_5 _) ?_
    | with_reducible refine ev_c2 (er_6 _) ?_
    | with_reducible refine ev_c2 (en_1 _) ?_
    | with_reducible refine ev_c2 (en_2 _) ?_
    | with_reducible refine ev_c2 (en_3 _) ?_
    | with_reducible refine ev_c2 (en_4 _) ?_
    | with_reducible refine ev_c2 (en_5 _) ?_
    | with_reducible refine ev_c2 (en_6 _) ?_
    | with_reducible refine ev_c1 (e_sqF (by omega) (by omega)) ?_
    | with_reducible refine ev_c1 (e_sqT (by omega) (by omega)) ?_
    | with_reducible refine ev_c1 (e_MsqF (by omega) (by omega)) ?_
    | with_reducible refine ev_c1 (e_MsqT (by omega) (by omega)) ?_
    | with_reducible refine ev_c1 (e_inT (by omega) (by omega) (by omega) (by omega)) ?_
    | with_reducible refine ev_c1 (e_inF (by omega) (by omega) (by omega) (by omega)) ?_
    | with_reducible refine ev_t (by omega) ?_
    | with_reducible refine ev_f (by omega) ?_
    | with_reducible refine ev_if (fun _ => ?_) (fun _ => ?_)
    | with_reducible refine ev_some ?_)
  all_goals exact ⟨rfl, iRef_up hr _ (by decide), hT0⟩
