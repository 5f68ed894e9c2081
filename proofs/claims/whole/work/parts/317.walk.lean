-- own text: walk
def zFn (K : Nat → Int) (fi : Int) (q : Nat) : Int := zwd (K q) * fi * zHB K q
def zFs (K : Nat → Int) (fi : Int) (sp : Nat → Int) : Nat → Int
  | 0 => 0
  | n + 1 => zFs K fi sp n + sp n * zFn K fi n
theorem zFs_cong {K : Nat → Int} {fi : Int} {sp sp2 : Nat → Int} : ∀ n, (∀ i, i < n → sp i = sp2 i) → zFs K fi sp n = zFs K fi sp2 n
  | 0, _ => rfl
  | n + 1, h => by
    show zFs K fi sp n + sp n * zFn K fi n = zFs K fi sp2 n + sp2 n * zFn K fi n
    rw [zFs_cong n (fun i hi => h i (by omega)), h n (by omega)]
theorem zFs_0 {K : Nat → Int} {fi : Int} : ∀ n, zFs K fi (fun _ => 0) n = 0
  | 0 => rfl
  | n + 1 => by
    show zFs K fi (fun _ => 0) n + 0 * zFn K fi n = 0
    rw [zFs_0 n, Int.zero_mul]; rfl
theorem zFs_up {K : Nat → Int} {fi : Int} {sp : Nat → Int} {q : Nat} : ∀ n, zFs K fi (updI sp q (sp q + 1)) n = zFs K fi sp n + (if q < n then zFn K fi q else 0)
  | 0 => by rw [if_neg (by omega)]; rfl
  | n + 1 => by
    show zFs K fi (updI sp q (sp q + 1)) n + updI sp q (sp q + 1) n * zFn K fi n = zFs K fi sp n + sp n * zFn K fi n + _
    rw [zFs_up n]
    by_cases e : n = q
    · subst e
      rw [updI_at, if_neg (by omega), if_pos (by omega), Int.add_mul]
      omega
    · rw [updI_ne _ _ e]
      by_cases l : q < n
      · rw [if_pos l, if_pos (by omega)]; omega
      · rw [if_neg l, if_neg (by omega)]; omega
theorem e_fineOn {K : Nat → Int} (hK : zK K) {q : Nat} (hq : q < 36) {fi : Int} (h1 : 0 ≤ fi) (h2 : fi ≤ 9) : g_Town_fineOn fi K (q : Int) = some (zFn K fi q) := by
  have d := zwd_rng (K q)
  refine ev_is ?_
  unfold g_Town_fineOn zFn
  refine ev_c1 (e_words hK hq) (ev_g (by omega) (ev_if (fun h => ?_) (fun h => ev_g (by omega) (ev_if (fun h9 => ?_) (fun h9 => ?_)))))
  · exact ev_some (by rw [h, Int.zero_mul, Int.zero_mul])
  · exact ev_some (by rw [h9, Int.mul_zero, Int.zero_mul])
  · exact ev_c1 (e_heardBy hK hq) (ev_some rfl)
theorem e_allFines {K : Nat → Int} (hK : zK K) {fi : Int} (h1 : 0 ≤ fi) (h2 : fi ≤ 9) (sp : Nat → Int) : g_Stroll_allFines sp fi K = some (zFs K fi sp 36) := by
  refine ev_is ?_
  unfold g_Stroll_allFines
  refine ev_f2_2 36 (by decide) (fun i v => v = zFs K fi sp i) (fun i v ag hi hQ hag => ?_) rfl
  refine ev_g (by omega) (ev_if (fun h => ?_) (fun h => ?_))
  · have e : i = 36 := by omega
    subst e
    exact ev_some hQ
  · have hl : i < 36 := by omega
    refine ev_c1 (e_atN (by decide) hl) (ev_c1 (e_fineOn hK hl h1 h2) (ev_n (ev_n (hag _ hl ?_))))
    rw [hQ]; rfl
def zAn (p1 q wd co cu fs lr : Int) : Int := if p1 = 1 then q else if p1 = 2 then wd else if p1 = 3 then co else if p1 = 4 then cu else if p1 = 5 then fs else lr
theorem e_answer {K : Nat → Int} (hK : zK K) {fi : Int} (h1 : 0 ≤ fi) (h2 : fi ≤ 9) (sp : Nat → Int) (co cu wd lr q : Int) {p1 : Int} (h3 : 1 ≤ p1) (h4 : p1 ≤ 6) : g_Stroll_answer co cu wd lr q sp fi K p1 = some (zAn p1 q wd co cu (zFs K fi sp 36) lr) := by
  refine ev_is ?_
  unfold g_Stroll_answer zAn
  refine ev_g (by omega) (ev_if (fun h => ev_some (by rw [if_pos h])) (fun h => ?_))
  rw [if_neg h]
  refine ev_if (fun h => ev_some (by rw [if_pos h])) (fun h => ?_)
  rw [if_neg h]
  refine ev_if (fun h => ev_some (by rw [if_pos h])) (fun h => ?_)
  rw [if_neg h]
  refine ev_if (fun h => ev_some (by rw [if_pos h])) (fun h => ?_)
  rw [if_neg h]
  refine ev_if (fun h => ?_) (fun h => ?_)
  · rw [if_pos h]
    exact ev_c1 (e_allFines hK h1 h2 sp) (ev_some rfl)
  · rw [if_neg h]
    exact ev_t (by omega) (ev_some rfl)
theorem e_M_cuts {s : Nat → Int} {br run : Int} (hs : s 38 = br) (h1 : 0 ≤ run) (h2 : run < 1000000) (h5 : 1 ≤ br) (h6 : br ≤ 9) : g_M_cutsOf s run = some (zCt br run) := by
  have e : s (38 : Int).toNat = br := hs
  refine ev_is ?_
  unfold g_M_cutsOf zCt
  refine ev_g (by omega) (ev_if (fun h => ?_) (fun h => ?_))
  · exact ev_some (by rw [if_neg (by omega)])
  · rw [e]
    exact ev_g (by decide) (ev_g (by omega) (ev_g (by omega) (ev_some (by rw [if_pos (by omega)]))))
theorem zGo_c {K : Nat → Int} {br : Int} {w : Nat} {x : ZS} (h : 0 ≤ zN K x.1 w) (c : zCn K x.1 x.2.1 w) : zGo K br w x = ((zN K x.1 w).toNat, w, x.2.2.1 + 1, x.2.2.2.1 + 1 + zCt br x.2.2.2.2.2.2.1, x.2.2.2.2.1, max x.2.2.2.2.2.1 x.2.2.2.2.2.2.1, 0, x.2.2.2.2.2.2.2) := by
  unfold zGo
  rw [if_neg (by omega), if_pos c]
theorem zGo_n {K : Nat → Int} {br : Int} {w : Nat} {x : ZS} (h : 0 ≤ zN K x.1 w) (c : ¬ zCn K x.1 x.2.1 w) : zGo K br w x = ((zN K x.1 w).toNat, w, x.2.2.1, x.2.2.2.1, x.2.2.2.2.1 + zwd (K x.1), x.2.2.2.2.2.1, x.2.2.2.2.2.2.1 + zwd (K x.1), updI x.2.2.2.2.2.2.2 x.1 (x.2.2.2.2.2.2.2 x.1 + 1)) := by
  unfold zGo
  rw [if_neg (by omega), if_neg c]
def zVM (K : Nat → Int) (fi : Int) (x : ZS) (p c wd co cu fs run lr : Int) : Prop := p = (x.1 : Int) ∧ c = (x.2.1 : Int) ∧ wd = x.2.2.2.2.1 ∧ co = x.2.2.1 ∧ cu = x.2.2.2.1 - x.2.2.1 ∧ fs = zFs K fi x.2.2.2.2.2.2.2 36 ∧ run = x.2.2.2.2.2.2.1 ∧ lr = x.2.2.2.2.2.1
def zFM (K : Nat → Int) (fi br : Int) (x : ZS) (p wd co cu fs lr : Int) : Prop := p = (x.1 : Int) ∧ wd = x.2.2.2.2.1 + zwd (K x.1) ∧ co = x.2.2.1 ∧ cu = x.2.2.2.1 - x.2.2.1 + zCt br (x.2.2.2.2.2.2.1 + zwd (K x.1)) ∧ fs = zFs K fi (updI x.2.2.2.2.2.2.2 x.1 (x.2.2.2.2.2.2.2 x.1 + 1)) 36 ∧ lr = max x.2.2.2.2.2.1 (x.2.2.2.2.2.2.1 + zwd (K x.1))
theorem m_walk {K s ra rb : Nat → Int} {ho fi br n p1 : Int} {a b : Nat → Int} (a1 a2 a3 a4 a5 a6 a7 : Int) (sp0 : Nat → Int) (hT : iTown K s ho fi br) (h : iRow n 20 a b 0 9) (hr : iRef ra rb) (hp : zr p1) : ev2 (g_X_walk n ra a1 a2 a3 a4 a5 a6 a7 sp0 a br fi ho K p1) (g_M_walk n rb b s p1) (fun x y => x.1 = y.1 ∧ iRef x.2.1 y.2) := by
  have hT0 := hT
  have h0 := h
  obtain ⟨hK, hs, h36, h37, h38, q1, q2, q3, q4, q5, q6, q7⟩ := hT
  obtain ⟨h1, h2, h3⟩ := h
  have e36 : s (36 : Int).toNat = ho := h36
  have e37 : s (37 : Int).toNat = fi := h37
  unfold g_X_walk g_M_walk
  by_cases hb : 0 ≤ p1 ∧ p1 ≤ 6
  case neg =>
    refine l_i1 (r_c1 (e_inF hp (by decide) (by decide) hb) (r_g (by decide) (r_t rfl (r_c2 (en_2 _) ?_))))
    have fin : ev2 (zb2 (g_X_refuse ra (-2 : Int)) fun (r1 : Int) (g_refused_all_2 : Nat → Int) => some (r1, g_refused_all_2, a1, a2, a3, a4, a5, a6, a7, sp0)) (some ((-2 : Int), updI rb 2 (rb 2 + 1))) (fun x y => x.1 = y.1 ∧ iRef x.2.1 y.2) := l_c2 (er_2 _) (e2_some ⟨rfl, iRef_up hr _ (by decide)⟩)
    refine l_g hp (l_if (fun h => fin) (fun h => l_f (by omega) fin))
  refine l_i1 (r_c1 (e_inT hp (by decide) (by decide) hb) (r_g (by decide) (r_f (by decide) (l_g hp (l_f (by omega) (l_t hb.2 (l_b1 (e_isRow h0) (fun r hr1 => r_b1 (e_M_areWays h0) (fun r2 hr2 => ?_)))))))))
  rcases hr1 with ⟨e, hw⟩ | ⟨e, hw⟩
  case inr =>
    have e2 : r2 = 0 := by
      rcases hr2 with x | x
      · exact absurd x.2 hw
      · exact x.1
    exact l_g (by omega) (l_t e (r_g (by omega) (r_t e2 (l_c2 (er_3 _) (r_c2 (en_3 _) (e2_some ⟨rfl, iRef_up hr _ (by decide)⟩))))))
  have e2 : r2 = 1 := by
    rcases hr2 with x | x
    · exact x.1
    · exact absurd hw x.2
  have wl : ∀ m : Nat, (m : Int) < n → (a m).toNat < 4 := fun m hm => by have := hw m hm; have := h3 m hm; omega
  refine l_g (by omega) (l_f (by omega) (r_g (by omega) (r_f (by omega) (l_b9 (e_goTheRow a1 a2 a3 a4 a5 a6 a7 sp0 hT0 h0 hw) (fun r co cu wd c lr run q sp hg => r_b1 (e_M_firstWrong hT0 h0 hw) (fun r3 hr3 => ?_))))))
  obtain ⟨m, g1, g2, g3', g4', g5'⟩ := hg
  have e3 : r3 = r := zStop_one hr3 g2
  have g3 : r = -9 → (m : Int) = n := g3'
  have g4 : r ≠ -9 → r = m := g4'
  have g5 : zFin K br (zWs K br ho a m) co cu wd lr q sp := g5'
  clear g3' g4' g5'
  have hst : ∀ j : Nat, j ≤ m → 0 ≤ zPos K ho a j := by
    intro j hj
    rcases g2 with ⟨x1, x2⟩ | ⟨m2, x1, x2, x3, x4⟩
    · exact x2 j (by omega)
    · have x1 : r = m2 := x1
      have : m2 = m := by omega
      subst this
      by_cases l : zPos K ho a j < 0
      · have := zPos_stay K ho a j m2 hj l; omega
      · omega
  subst e3
  refine r_g hp ?_
  by_cases hz : p1 = 0
  · subst hz
    exact l_t rfl (r_t rfl (e2_some ⟨rfl, hr⟩))
  refine l_f hz (r_f hz (l_c1 (e_answer hK q4 q5 sp co cu wd lr q (by omega) hb.2) ?_))
  obtain ⟨f1, f2, f3, f4, f5, f6⟩ := g5
  refine e2_r.mpr ?_
  refine ev_j1 (fun v => v = (m : Int)) (fun v hv => ?_) (fun k2 hk => ev_g (by omega) (ev_if (fun hh => hk _ (by omega)) (fun hh => hk _ (by omega))))
  subst hv
  refine ev_g (by decide) (ev_n (ev_i6 ?_))
  rw [e36]
  have v0 : zVM K fi (zWs K br ho a 0) ho 4 0 0 0 0 0 0 := ⟨by show ho = ((ho.toNat : Nat) : Int); omega, rfl, rfl, rfl, rfl, (zFs_0 36).symm, rfl, rfl⟩
  refine ev_l9 (fun μ p c wd co cu fs run lr j => (∃ i : Nat, i ≤ m ∧ μ + i = 30 ∧ j = (i : Int) ∧ zVM K fi (zWs K br ho a i) p c wd co cu fs run lr) ∨ (μ = 0 ∧ j = (m : Int) + 1 ∧ zFM K fi br (zWs K br ho a m) p wd co cu fs lr)) ?_ (m := 30) (zF_gt (by decide)) (Or.inl ⟨0, by omega, rfl, rfl, v0⟩)
  intro μ p c2 wd2 co2 cu2 fs2 run2 lr2 j ag hI hag
  rcases hI with ⟨i, i1, i2, i3, i4⟩ | ⟨i1, i2, i3⟩
  case inr =>
    obtain ⟨y1, y2, y3, y4, y5, y6⟩ := i3
    refine ev_g (by omega) (ev_g (by omega) (ev_t (by omega) ?_))
    have efs : zFs K fi sp 36 = fs2 := by rw [y5]; exact zFs_cong 36 f6
    unfold zAn
    refine ev_if (fun hh => ev_some ⟨_, rfl, ?_, hr⟩) (fun hh => ?_)
    · show (if p1 = 1 then q else _) = p
      rw [if_pos hh, f1, y1]
    rw [if_neg hh]
    refine ev_if (fun hh => ev_some ⟨_, rfl, ?_, hr⟩) (fun hh => ?_)
    · show (if p1 = 2 then wd else _) = wd2
      rw [if_pos hh, f4, y2]
    rw [if_neg hh]
    refine ev_if (fun hh => ev_some ⟨_, rfl, ?_, hr⟩) (fun hh => ?_)
    · show (if p1 = 3 then co else _) = co2
      rw [if_pos hh]; omega
    rw [if_neg hh]
    refine ev_if (fun hh => ev_some ⟨_, rfl, ?_, hr⟩) (fun hh => ?_)
    · show (if p1 = 4 then cu else _) = cu2 + co2
      rw [if_pos hh]; omega
    rw [if_neg hh]
    refine ev_if (fun hh => ev_some ⟨_, rfl, ?_, hr⟩) (fun hh => ev_some ⟨_, rfl, ?_, hr⟩)
    · show (if p1 = 5 then zFs K fi sp 36 else _) = fs2
      rw [if_pos hh]; exact efs
    · show (if p1 = 5 then zFs K fi sp 36 else lr) = lr2
      rw [if_neg hh]; omega
  subst i3
  have ok := zWs_ok (br := br) (t := a) q1 q2 q3 i (fun m hm => wl m (by omega))
  have ps := zWs_pos (br := br) (t := a) q1 q2 q3 i (fun m hm => wl m (by omega)) (fun j hj => hst j (by omega))
  obtain ⟨o1, o2, o3, o4, o5, o6, o7⟩ := ok
  obtain ⟨y1, y2, y3, y4, y5, y6, y7, y8⟩ := i4
  have dw := zwd_rng (K (zWs K br ho a i).1)
  subst y1 y2
  refine ev_g (by omega) (ev_g (by omega) (ev_f (by omega) ?_))
  refine ev_j1 (fun v => (v = 1 ∧ i < m ∧ zCn K (zWs K br ho a i).1 (zWs K br ho a i).2.1 (a i).toNat) ∨ (v = 0 ∧ (i = m ∨ i < m ∧ ¬ zCn K (zWs K br ho a i).1 (zWs K br ho a i).2.1 (a i).toNat))) (fun v hv => ?_) (fun k2 hk => ?_)
  · rcases hv with ⟨hv, l1, hc⟩ | ⟨hv, hc⟩
    · subst hv
      have hl : i < 20 := by omega
      have ha := h3 i (by omega)
      have h4 := hw i (by omega)
      obtain ⟨w, ew⟩ := Int.eq_ofNat_of_zero_le ha.2.1
      rw [ew, Int.toNat_natCast] at hc
      have nx := zPos_s K ho a i (by have := hst i (by omega); omega)
      have nx1 := hst (i + 1) (by omega)
      rw [← ps, Int.toNat_natCast, ew, Int.toNat_natCast] at nx
      have wv : zWs K br ho a (i + 1) = zGo K br w (zWs K br ho a i) := by show zGo K br (a i).toNat _ = _; rw [ew, Int.toNat_natCast]
      rw [nx] at nx1
      rw [zGo_c nx1 hc] at wv
      refine ev_i1 (ev_g (by decide) (ev_f (by decide) (ev_n (ev_g (by decide) (ev_c1 (e_M_heardBy hs hK o1) (ev_n (ev_n (ev_i3 (ev_i1 (ev_g (by decide) (ev_f (by decide) (ev_c1 (e_M_cuts h38 (by omega) (by omega) q6 q7) (ev_n ?_)))))))))))))
      have go : ∀ l : Int, l = max lr2 run2 → ev ((fun (l8_44 : Int) (l10_45 : Int) (l11_46 : Int) => zj1 (fun (s47 : Int) => zn (co2 + s47) fun (x48 : Int) => zj2 (fun (l4_49 : Int) (l5_50 : Int) => zn ((i : Int) + (1 : Int)) fun (x51 : Int) => ag l4_49 l5_50 (wd2 + 0) x48 l8_44 (fs2 + ((0 * (s (37 : Int).toNat)) * zHB K (zWs K br ho a i).1)) l10_45 l11_46 x51) fun k52 => if (m : Int) ≤ (i : Int) then (k52 ((zWs K br ho a i).1 : Int) ((zWs K br ho a i).2.1 : Int)) else (zg (0 ≤ (i : Int) ∧ (i : Int) < 20) <| zb1 (g_M_gone s ((zWs K br ho a i).1 : Int) (b (i : Int).toNat)) fun (r55 : Int) => zn (b (i : Int).toNat) fun (x58 : Int) => k52 r55 x58)) fun k59 => zg (zr 1) <| if (1 : Int) = (0 : Int) then (k59 (0 : Int)) else (k59 (1 : Int))) (cu2 + zCt br (run2 + 0)) 0 l) _ := fun l hl9 => by
        refine ev_i1 (ev_g (by decide) (ev_f (by decide) (ev_n (ev_i2 (ev_f (by omega) (ev_g (by omega) ?_))))))
        rw [Int.toNat_natCast, ← ha.1, ew]
        refine ev_c1 (e_M_gone hs hK o1 (by omega)) (ev_n (ev_n (hag (μ - 1) _ _ _ _ _ _ _ _ _ (by omega) (Or.inl ⟨i + 1, l1, by omega, rfl, ?_⟩))))
        rw [wv, if_pos ⟨o2, nx1⟩]
        refine ⟨?_, rfl, ?_, ?_, ?_, ?_, rfl, ?_⟩
        · show _ = (((zN K (zWs K br ho a i).1 w).toNat : Nat) : Int); omega
        · show wd2 + 0 = (zWs K br ho a i).2.2.2.2.1; omega
        · show co2 + 1 = (zWs K br ho a i).2.2.1 + 1; omega
        · show cu2 + zCt br (run2 + 0) = (zWs K br ho a i).2.2.2.1 + 1 + zCt br (zWs K br ho a i).2.2.2.2.2.2.1 - ((zWs K br ho a i).2.2.1 + 1)
          rw [Int.add_zero, y7]; omega
        · show fs2 + 0 * s (37 : Int).toNat * _ = zFs K fi (zWs K br ho a i).2.2.2.2.2.2.2 36
          rw [Int.zero_mul, Int.zero_mul, y6]; omega
        · show l = max (zWs K br ho a i).2.2.2.2.2.1 (zWs K br ho a i).2.2.2.2.2.2.1
          omega
      refine ev_i1 (ev_g (by omega) (ev_g (by omega) (ev_if (fun h => go _ (by omega)) (fun h => go _ (by omega)))))
    · subst hv
      refine ev_i1 (ev_g (by decide) (ev_t rfl (ev_c1 (e_M_words hs hK o1) (ev_n (ev_g (by decide) (ev_c1 (e_M_heardBy hs hK o1) (ev_n (ev_n (ev_i3 (ev_i1 (ev_g (by decide) (ev_t rfl ?_))))))))))))
      have efs : fs2 + zwd (K (zWs K br ho a i).1) * s (37 : Int).toNat * zHB K (zWs K br ho a i).1 = zFs K fi (updI (zWs K br ho a i).2.2.2.2.2.2.2 (zWs K br ho a i).1 ((zWs K br ho a i).2.2.2.2.2.2.2 (zWs K br ho a i).1 + 1)) 36 := by
        rw [zFs_up 36, if_pos o1, y6, e37]; rfl
      by_cases hm : i = m
      · subst hm
        refine ev_t rfl (ev_c1 (e_M_cuts h38 (by omega) (by omega) q6 q7) (ev_n ?_))
        have go : ∀ l : Int, l = max lr2 (run2 + zwd (K (zWs K br ho a i).1)) → ev ((fun (l8_44 : Int) (l10_45 : Int) (l11_46 : Int) => zj1 (fun (s47 : Int) => zn (co2 + s47) fun (x48 : Int) => zj2 (fun (l4_49 : Int) (l5_50 : Int) => zn ((i : Int) + (1 : Int)) fun (x51 : Int) => ag l4_49 l5_50 (wd2 + zwd (K (zWs K br ho a i).1)) x48 l8_44 (fs2 + ((zwd (K (zWs K br ho a i).1) * (s (37 : Int).toNat)) * zHB K (zWs K br ho a i).1)) l10_45 l11_46 x51) fun k52 => if (i : Int) ≤ (i : Int) then (k52 ((zWs K br ho a i).1 : Int) ((zWs K br ho a i).2.1 : Int)) else (zg (0 ≤ (i : Int) ∧ (i : Int) < 20) <| zb1 (g_M_gone s ((zWs K br ho a i).1 : Int) (b (i : Int).toNat)) fun (r55 : Int) => zn (b (i : Int).toNat) fun (x58 : Int) => k52 r55 x58)) fun k59 => zg (zr 0) <| if (0 : Int) = (0 : Int) then (k59 (0 : Int)) else (k59 (1 : Int))) (cu2 + zCt br (run2 + zwd (K (zWs K br ho a i).1))) 0 l) _ := fun l hl9 => by
          refine ev_i1 (ev_g (by decide) (ev_t rfl (ev_n (ev_i2 (ev_t (by omega) (ev_n (hag 0 _ _ _ _ _ _ _ _ _ (by omega) (Or.inr ⟨rfl, rfl, rfl, ?_, ?_, ?_, efs, ?_⟩))))))))
          · rw [y3]
          · rw [y4]; omega
          · rw [y5, y7]
          · rw [hl9, y7, y8]
        refine ev_i1 (ev_g (by omega) (ev_g (by omega) (ev_if (fun h => go _ (by omega)) (fun h => go _ (by omega)))))
      · obtain ⟨l1, hc⟩ := hc.resolve_left hm
        have hl : i < 20 := by omega
        have ha := h3 i (by omega)
        have h4 := hw i (by omega)
        obtain ⟨w, ew⟩ := Int.eq_ofNat_of_zero_le ha.2.1
        rw [ew, Int.toNat_natCast] at hc
        have nx := zPos_s K ho a i (by have := hst i (by omega); omega)
        have nx1 := hst (i + 1) (by omega)
        rw [← ps, Int.toNat_natCast, ew, Int.toNat_natCast] at nx
        have wv : zWs K br ho a (i + 1) = zGo K br w (zWs K br ho a i) := by show zGo K br (a i).toNat _ = _; rw [ew, Int.toNat_natCast]
        rw [nx] at nx1
        rw [zGo_n nx1 hc] at wv
        refine ev_f (by omega) (ev_i1 (ev_g (by decide) (ev_t rfl (ev_n (ev_i2 (ev_f (by omega) (ev_g (by omega) ?_)))))))
        rw [Int.toNat_natCast, ← ha.1, ew]
        refine ev_c1 (e_M_gone hs hK o1 (by omega)) (ev_n (ev_n (hag (μ - 1) _ _ _ _ _ _ _ _ _ (by omega) (Or.inl ⟨i + 1, l1, by omega, rfl, ?_⟩))))
        rw [wv, if_pos ⟨o2, nx1⟩]
        refine ⟨?_, rfl, ?_, ?_, ?_, efs, ?_, ?_⟩
        · show _ = (((zN K (zWs K br ho a i).1 w).toNat : Nat) : Int); omega
        · show wd2 + _ = (zWs K br ho a i).2.2.2.2.1 + _; rw [y3]
        · show co2 + 0 = (zWs K br ho a i).2.2.1; omega
        · show cu2 = (zWs K br ho a i).2.2.2.1 - ((zWs K br ho a i).2.2.1); exact y5
        · show run2 + _ = (zWs K br ho a i).2.2.2.2.2.2.1 + _; rw [y7]
        · show lr2 = (zWs K br ho a i).2.2.2.2.2.1; exact y8
  · refine ev_i1 (ev_if (fun hh => hk 0 (Or.inr ⟨rfl, by omega⟩)) (fun hh => ?_))
    have hl : i < 20 := by omega
    have ha := h3 i (by omega)
    have h4 := hw i (by omega)
    obtain ⟨w, ew⟩ := Int.eq_ofNat_of_zero_le ha.2.1
    refine ev_g (by omega) ?_
    rw [Int.toNat_natCast, ← ha.1, ew]
    refine ev_c1 (e_M_corner hs hK o1 o3 (by omega)) ?_
    by_cases hc : zCn K (zWs K br ho a i).1 (zWs K br ho a i).2.1 w
    · rw [if_pos hc]
      exact ev_g (by decide) (ev_f (by decide) (hk 1 (Or.inl ⟨rfl, by omega, by rw [ew, Int.toNat_natCast]; exact hc⟩)))
    · rw [if_neg hc]
      exact ev_g (by decide) (ev_t rfl (hk 0 (Or.inr ⟨rfl, Or.inr ⟨by omega, by rw [ew, Int.toNat_natCast]; exact hc⟩⟩)))
