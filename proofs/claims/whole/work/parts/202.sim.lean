theorem s_M_isIn {p0f : Int32} {p0 : Int} {p1f : Int32} {p1 : Int} {p2f : Int32} {p2 : Int} {R0 : Int} (ep0 : p0f = zo p0) (ep1 : p1f = zo p1) (ep2 : p2f = zo p2) (he : g_M_isIn p0 p1 p2 = some (R0)) : f_M_isIn p0f p1f p2f = some (zo R0) := by
  subst ep0
  subst ep1
  subst ep2
  unfold g_M_isIn at he
  unfold f_M_isIn
  obtain ⟨hn1, he⟩ := zg_e he
  obtain ⟨hn2, he⟩ := zg_e he
  by_cases c3 : p0 < p1
  · have he := zif_t c3 he
    refine zif_p ((zo_lt rfl rfl hn1 hn2).mpr c3) ?_
    obtain ⟨rfl⟩ := zi1 he
    exact zs1 (zo_l 0)
  · have he := zif_f c3 he
    refine zif_n (fun q => c3 ((zo_lt rfl rfl hn1 hn2).mp q)) ?_
    obtain ⟨hn4, he⟩ := zg_e he
    by_cases c5 : p2 < p0
    · have he := zif_t c5 he
      refine zif_p ((zo_lt rfl rfl hn4 hn1).mpr c5) ?_
      obtain ⟨rfl⟩ := zi1 he
      exact zs1 (zo_l 0)
    · have he := zif_f c5 he
      refine zif_n (fun q => c5 ((zo_lt rfl rfl hn4 hn1).mp q)) ?_
      obtain ⟨rfl⟩ := zi1 he
      exact zs1 (zo_l 1)
theorem s_M_size {p0f : Int32} {p0 : Int} {R0 : Int} (ep0 : p0f = zo p0) (he : g_M_size p0 = some (R0)) : f_M_size p0f = some (zo R0) := by
  subst ep0
  unfold g_M_size at he
  unfold f_M_size
  obtain ⟨hn1, he⟩ := zg_e he
  by_cases c2 : (0 : Int) ≤ p0
  · have he := zif_t c2 he
    refine zif_p ((zo_le (zo_l 0) rfl (by decide) hn1).mpr c2) ?_
    obtain ⟨rfl⟩ := zi1 he
    exact zs1 rfl
  · have he := zif_f c2 he
    refine zif_n (fun q => c2 ((zo_le (zo_l 0) rfl (by decide) hn1).mp q)) ?_
    obtain ⟨rfl⟩ := zi1 he
    exact zs1 (zo_neg rfl)
theorem s_M_lays {g_p0f : Nat → Int32} {g_p0 : Nat → Int} {g_p1f : Nat → Int32} {g_p1 : Nat → Int} {R0 : Nat → Int} (eg_p0 : g_p0f = zoA g_p0) (eg_p1 : g_p1f = zoA g_p1) (he : g_M_lays g_p0 g_p1 = some (R0)) : f_M_lays g_p0f g_p1f = some (zoA R0) := by
  subst eg_p0
  subst eg_p1
  unfold g_M_lays at he
  unfold f_M_lays
  refine zl2_z (m1 := zo) (m2 := zoA) (zo_l 0) rfl he (fun l2_1 g_p1_2 again3f again3 hagain3 he => ?_)
  obtain ⟨hn1, he⟩ := zg_e he
  by_cases c2 : (39 : Int) ≤ l2_1
  · have he := zif_t c2 he
    refine zif_p ((zo_le (zo_l 39) rfl (by decide) hn1).mpr c2) ?_
    obtain ⟨rfl⟩ := zi1 he
    exact zs1 rfl
  · have he := zif_f c2 he
    refine zif_n (fun q => c2 ((zo_le (zo_l 39) rfl (by decide) hn1).mp q)) ?_
    obtain ⟨hg4, he⟩ := zg_e he
    have hg3 := zin3 (n := 39) (by decide) hg4
    refine zg_z (zo_in rfl hg3) ?_
    obtain ⟨x6, hx5⟩ : ∃ y : Int, y = g_p0 l2_1.toNat := ⟨_, rfl⟩
    have he := zn_e hx5 he
    refine zn_z (y := zo x6) ((zo_rd rfl rfl hg3).trans (congrArg zo hx5.symm)) ?_
    refine zg_z (zo_in rfl hg3) ?_
    obtain ⟨g8, hx7⟩ : ∃ y : Nat → Int, y = updI g_p1_2 l2_1.toNat x6 := ⟨_, rfl⟩
    have he := zn_e hx7 he
    refine zn_z (y := zoA g8) ((zo_upd rfl rfl hg3 rfl).trans (congrArg zoA hx7.symm)) ?_
    obtain ⟨x9, hx8⟩ : ∃ y : Int, y = l2_1 + (1 : Int) := ⟨_, rfl⟩
    have he := zn_e hx8 he
    refine zn_z (y := zo x9) ((zo_add rfl (zo_l 1)).trans (congrArg zo hx8.symm)) ?_
    exact zk2 hagain3 rfl rfl he
theorem s_M_no {g_refusedf : Nat → Int32} {g_refused : Nat → Int} {p1f : Int32} {p1 : Int} {R0 : Int} {R1 : Nat → Int} (eg_refused : g_refusedf = zoA g_refused) (ep1 : p1f = zo p1) (he : g_M_no g_refused p1 = some (R0, R1)) : f_M_no g_refusedf p1f = some (zo R0, zoA R1) := by
  subst eg_refused
  subst ep1
  unfold g_M_no at he
  unfold f_M_no
  obtain ⟨x1, hx1⟩ : ∃ y : Int, y = -p1 := ⟨_, rfl⟩
  have he := zn_e hx1 he
  refine zn_z (y := zo x1) ((zo_neg rfl).trans (congrArg zo hx1.symm)) ?_
  obtain ⟨hg3, he⟩ := zg_e he
  have hg2 := zin3 (n := 7) (by decide) hg3
  refine zg_z (zo_in rfl hg2) ?_
  obtain ⟨x3, hx4⟩ : ∃ y : Int, y = (g_refused x1.toNat) + (1 : Int) := ⟨_, rfl⟩
  have he := zn_e hx4 he
  refine zn_z (y := zo x3) ((zo_add (zo_rd rfl rfl hg2) (zo_l 1)).trans (congrArg zo hx4.symm)) ?_
  refine zg_z (zo_in rfl hg2) ?_
  obtain ⟨g5, hx6⟩ : ∃ y : Nat → Int, y = updI g_refused x1.toNat x3 := ⟨_, rfl⟩
  have he := zn_e hx6 he
  refine zn_z (y := zoA g5) ((zo_upd rfl rfl hg2 rfl).trans (congrArg zoA hx6.symm)) ?_
  obtain ⟨rfl, rfl⟩ := zi2 he
  exact zs2 rfl rfl
theorem s_M_isSquare {p0f : Int32} {p0 : Int} {R0 : Int} (ep0 : p0f = zo p0) (he : g_M_isSquare p0 = some (R0)) : f_M_isSquare p0f = some (zo R0) := by
  subst ep0
  unfold g_M_isSquare at he
  unfold f_M_isSquare
  obtain ⟨r1, hb1, he⟩ := zb1_e he
  refine (zb1_s (s_M_isIn rfl (zo_l 0) (zo_l 35) hb1)).trans ?_
  obtain ⟨hg2, he⟩ := zg_e he
  refine zg_z (zo_bool rfl hg2) ?_
  obtain ⟨rfl⟩ := zi1 he
  exact zs1 rfl
theorem s_M_canStand {p0f : Int32} {p0 : Int} {R0 : Int} (ep0 : p0f = zo p0) (he : g_M_canStand p0 = some (R0)) : f_M_canStand p0f = some (zo R0) := by
  subst ep0
  unfold g_M_canStand at he
  unfold f_M_canStand
  obtain ⟨hn1, he⟩ := zg_e he
  by_cases c2 : p0 = (1 : Int)
  · have he := zif_t c2 he
    refine zif_p ((zo_eq rfl (zo_l 1) hn1 (by decide)).mpr c2) ?_
    obtain ⟨rfl⟩ := zi1 he
    exact zs1 (zo_l 0)
  · have he := zif_f c2 he
    refine zif_n (fun q => c2 ((zo_eq rfl (zo_l 1) hn1 (by decide)).mp q)) ?_
    by_cases c3 : p0 = (4 : Int)
    · have he := zif_t c3 he
      refine zif_p ((zo_eq rfl (zo_l 4) hn1 (by decide)).mpr c3) ?_
      obtain ⟨rfl⟩ := zi1 he
      exact zs1 (zo_l 0)
    · have he := zif_f c3 he
      refine zif_n (fun q => c3 ((zo_eq rfl (zo_l 4) hn1 (by decide)).mp q)) ?_
      obtain ⟨rfl⟩ := zi1 he
      exact zs1 (zo_l 1)
theorem s_M_canBe {g_sf : Nat → Int32} {g_s : Nat → Int} {p1f : Int32} {p1 : Int} {R0 : Int} (eg_s : g_sf = zoA g_s) (ep1 : p1f = zo p1) (he : g_M_canBe g_s p1 = some (R0)) : f_M_canBe g_sf p1f = some (zo R0) := by
  subst eg_s
  subst ep1
  unfold g_M_canBe at he
  unfold f_M_canBe
  obtain ⟨hg2, he⟩ := zg_e he
  have hg1 := zin3 (n := 39) (by decide) hg2
  refine zg_z (zo_in rfl hg1) ?_
  obtain ⟨r2, hb3, he⟩ := zb1_e he
  refine (zb1_s (s_M_canStand (zo_rd rfl rfl hg1) hb3)).trans ?_
  obtain ⟨hg4, he⟩ := zg_e he
  refine zg_z (zo_bool rfl hg4) ?_
  obtain ⟨rfl⟩ := zi1 he
  exact zs1 rfl
theorem s_M_wordsOn {g_sf : Nat → Int32} {g_s : Nat → Int} {p1f : Int32} {p1 : Int} {R0 : Int} (eg_s : g_sf = zoA g_s) (ep1 : p1f = zo p1) (he : g_M_wordsOn g_s p1 = some (R0)) : f_M_wordsOn g_sf p1f = some (zo R0) := by
  subst eg_s
  subst ep1
  unfold g_M_wordsOn at he
  unfold f_M_wordsOn
  obtain ⟨hg2, he⟩ := zg_e he
  have hg1 := zin3 (n := 39) (by decide) hg2
  refine zg_z (zo_in rfl hg1) ?_
  obtain ⟨hn3, he⟩ := zg_e he
  by_cases c4 : g_s p1.toNat = (5 : Int)
  · have he := zif_t c4 he
    refine zif_p ((zo_eq (zo_rd rfl rfl hg1) (zo_l 5) hn3 (by decide)).mpr c4) ?_
    obtain ⟨rfl⟩ := zi1 he
    exact zs1 (zo_l 2)
  · have he := zif_f c4 he
    refine zif_n (fun q => c4 ((zo_eq (zo_rd rfl rfl hg1) (zo_l 5) hn3 (by decide)).mp q)) ?_
    refine zg_z (zo_in rfl hg1) ?_
    by_cases c6 : g_s p1.toNat = (0 : Int)
    · have he := zif_t c6 he
      refine zif_p ((zo_eq (zo_rd rfl rfl hg1) (zo_l 0) hn3 (by decide)).mpr c6) ?_
      obtain ⟨rfl⟩ := zi1 he
      exact zs1 (zo_l 1)
    · have he := zif_f c6 he
      refine zif_n (fun q => c6 ((zo_eq (zo_rd rfl rfl hg1) (zo_l 0) hn3 (by decide)).mp q)) ?_
      refine zg_z (zo_in rfl hg1) ?_
      by_cases c8 : g_s p1.toNat = (2 : Int)
      · have he := zif_t c8 he
        refine zif_p ((zo_eq (zo_rd rfl rfl hg1) (zo_l 2) hn3 (by decide)).mpr c8) ?_
        obtain ⟨rfl⟩ := zi1 he
        exact zs1 (zo_l 1)
      · have he := zif_f c8 he
        refine zif_n (fun q => c8 ((zo_eq (zo_rd rfl rfl hg1) (zo_l 2) hn3 (by decide)).mp q)) ?_
        obtain ⟨rfl⟩ := zi1 he
        exact zs1 (zo_l 0)
theorem s_M_hears {p0f : Int32} {p0 : Int} {R0 : Int} (ep0 : p0f = zo p0) (he : g_M_hears p0 = some (R0)) : f_M_hears p0f = some (zo R0) := by
  subst ep0
  unfold g_M_hears at he
  unfold f_M_hears
  obtain ⟨hn1, he⟩ := zg_e he
  by_cases c2 : p0 = (3 : Int)
  · have he := zif_t c2 he
    refine zif_p ((zo_eq rfl (zo_l 3) hn1 (by decide)).mpr c2) ?_
    obtain ⟨rfl⟩ := zi1 he
    exact zs1 (zo_l 1)
  · have he := zif_f c2 he
    refine zif_n (fun q => c2 ((zo_eq rfl (zo_l 3) hn1 (by decide)).mp q)) ?_
    by_cases c3 : p0 = (4 : Int)
    · have he := zif_t c3 he
      refine zif_p ((zo_eq rfl (zo_l 4) hn1 (by decide)).mpr c3) ?_
      obtain ⟨rfl⟩ := zi1 he
      exact zs1 (zo_l 2)
    · have he := zif_f c3 he
      refine zif_n (fun q => c3 ((zo_eq rfl (zo_l 4) hn1 (by decide)).mp q)) ?_
      obtain ⟨rfl⟩ := zi1 he
      exact zs1 (zo_ln 9)
theorem s_M_isTurned {g_sf : Nat → Int32} {g_s : Nat → Int} {p1f : Int32} {p1 : Int} {R0 : Int} (eg_s : g_sf = zoA g_s) (ep1 : p1f = zo p1) (he : g_M_isTurned g_s p1 = some (R0)) : f_M_isTurned g_sf p1f = some (zo R0) := by
  subst eg_s
  subst ep1
  unfold g_M_isTurned at he
  unfold f_M_isTurned
  obtain ⟨hg2, he⟩ := zg_e he
  have hg1 := zin3 (n := 39) (by decide) hg2
  refine zg_z (zo_in rfl hg1) ?_
  obtain ⟨hn3, he⟩ := zg_e he
  by_cases c4 : g_s p1.toNat = (2 : Int)
  · have he := zif_t c4 he
    refine zif_p ((zo_eq (zo_rd rfl rfl hg1) (zo_l 2) hn3 (by decide)).mpr c4) ?_
    obtain ⟨rfl⟩ := zi1 he
    exact zs1 (zo_l 0)
  · have he := zif_f c4 he
    refine zif_n (fun q => c4 ((zo_eq (zo_rd rfl rfl hg1) (zo_l 2) hn3 (by decide)).mp q)) ?_
    refine zg_z (zo_in rfl hg1) ?_
    by_cases c6 : g_s p1.toNat = (5 : Int)
    · have he := zif_t c6 he
      refine zif_p ((zo_eq (zo_rd rfl rfl hg1) (zo_l 5) hn3 (by decide)).mpr c6) ?_
      obtain ⟨rfl⟩ := zi1 he
      exact zs1 (zo_l 0)
    · have he := zif_f c6 he
      refine zif_n (fun q => c6 ((zo_eq (zo_rd rfl rfl hg1) (zo_l 5) hn3 (by decide)).mp q)) ?_
      obtain ⟨rfl⟩ := zi1 he
      exact zs1 (zo_l 1)
theorem s_M_apart {p0f : Int32} {p0 : Int} {p1f : Int32} {p1 : Int} {R0 : Int} (ep0 : p0f = zo p0) (ep1 : p1f = zo p1) (he : g_M_apart p0 p1 = some (R0)) : f_M_apart p0f p1f = some (zo R0) := by
  subst ep0
  subst ep1
  unfold g_M_apart at he
  unfold f_M_apart
  obtain ⟨hn1, he⟩ := zg_e he
  obtain ⟨hn2, he⟩ := zg_e he
  obtain ⟨r1, hb3, he⟩ := zb1_e he
  refine (zb1_s (s_M_size (zo_sub (zo_div rfl (zo_l 6) hn1 (by decide)) (zo_div rfl (zo_l 6) hn2 (by decide))) hb3)).trans ?_
  obtain ⟨r3, hb4, he⟩ := zb1_e he
  refine (zb1_s (s_M_size (zo_sub (zo_rem rfl (zo_l 6) hn1 (by decide)) (zo_rem rfl (zo_l 6) hn2 (by decide))) hb4)).trans ?_
  obtain ⟨rfl⟩ := zi1 he
  exact zs1 (zo_add rfl rfl)
theorem s_M_heardBy {g_sf : Nat → Int32} {g_s : Nat → Int} {p1f : Int32} {p1 : Int} {R0 : Int} (eg_s : g_sf = zoA g_s) (ep1 : p1f = zo p1) (he : g_M_heardBy g_s p1 = some (R0)) : f_M_heardBy g_sf p1f = some (zo R0) := by
  subst eg_s
  subst ep1
  unfold g_M_heardBy at he
  unfold f_M_heardBy
  refine zl2_z (m1 := zo) (m2 := zo) (zo_l 0) (zo_l 0) he (fun l2_1 l3_2 again3f again3 hagain3 he => ?_)
  obtain ⟨hn1, he⟩ := zg_e he
  by_cases c2 : (36 : Int) ≤ l3_2
  · have he := zif_t c2 he
    refine zif_p ((zo_le (zo_l 36) rfl (by decide) hn1).mpr c2) ?_
    obtain ⟨rfl⟩ := zi1 he
    exact zs1 rfl
  · have he := zif_f c2 he
    refine zif_n (fun q => c2 ((zo_le (zo_l 36) rfl (by decide) hn1).mp q)) ?_
    obtain ⟨hg4, he⟩ := zg_e he
    have hg3 := zin3 (n := 39) (by decide) hg4
    refine zg_z (zo_in rfl hg3) ?_
    obtain ⟨r6, hb5, he⟩ := zb1_e he
    refine (zb1_s (s_M_hears (zo_rd rfl rfl hg3) hb5)).trans ?_
    obtain ⟨r8, hb6, he⟩ := zb1_e he
    refine (zb1_s (s_M_apart rfl rfl hb6)).trans ?_
    refine zj1_z (m1 := zo) he (fun s10 he => ?_) (fun k13f k13 hk13 he => ?_)
    · obtain ⟨x11, hx7⟩ : ∃ y : Int, y = l2_1 + s10 := ⟨_, rfl⟩
      have he := zn_e hx7 he
      refine zn_z (y := zo x11) ((zo_add rfl rfl).trans (congrArg zo hx7.symm)) ?_
      obtain ⟨x12, hx8⟩ : ∃ y : Int, y = l3_2 + (1 : Int) := ⟨_, rfl⟩
      have he := zn_e hx8 he
      refine zn_z (y := zo x12) ((zo_add rfl (zo_l 1)).trans (congrArg zo hx8.symm)) ?_
      exact zk2 hagain3 rfl rfl he
    obtain ⟨hn9, he⟩ := zg_e he
    obtain ⟨hn10, he⟩ := zg_e he
    by_cases c11 : r6 < r8
    · have he := zif_t c11 he
      refine zif_p ((zo_lt rfl rfl hn9 hn10).mpr c11) ?_
      exact zk1 hk13 (zo_l 0) he
    · have he := zif_f c11 he
      refine zif_n (fun q => c11 ((zo_lt rfl rfl hn9 hn10).mp q)) ?_
      exact zk1 hk13 (zo_l 1) he
theorem s_M_gone {g_sf : Nat → Int32} {g_s : Nat → Int} {p1f : Int32} {p1 : Int} {p2f : Int32} {p2 : Int} {R0 : Int} (eg_s : g_sf = zoA g_s) (ep1 : p1f = zo p1) (ep2 : p2f = zo p2) (he : g_M_gone g_s p1 p2 = some (R0)) : f_M_gone g_sf p1f p2f = some (zo R0) := by
  subst eg_s
  subst ep1
  subst ep2
  unfold g_M_gone at he
  unfold f_M_gone
  refine zj1_z (m1 := zo) he (fun s1 he => ?_) (fun k11f k11 hk11 he => ?_)
  · obtain ⟨r2, hb1, he⟩ := zb1_e he
    refine (zb1_s (s_M_isSquare rfl hb1)).trans ?_
    obtain ⟨hn2, he⟩ := zg_e he
    by_cases c3 : r2 = (0 : Int)
    · have he := zif_t c3 he
      refine zif_p ((zo_eq rfl (zo_l 0) hn2 (by decide)).mpr c3) ?_
      obtain ⟨rfl⟩ := zi1 he
      exact zs1 (zo_ln 9)
    · have he := zif_f c3 he
      refine zif_n (fun q => c3 ((zo_eq rfl (zo_l 0) hn2 (by decide)).mp q)) ?_
      obtain ⟨r5, hb4, he⟩ := zb1_e he
      refine (zb1_s (s_M_canBe rfl rfl hb4)).trans ?_
      obtain ⟨hn5, he⟩ := zg_e he
      by_cases c6 : r5 = (0 : Int)
      · have he := zif_t c6 he
        refine zif_p ((zo_eq rfl (zo_l 0) hn5 (by decide)).mpr c6) ?_
        obtain ⟨rfl⟩ := zi1 he
        exact zs1 (zo_ln 9)
      · have he := zif_f c6 he
        refine zif_n (fun q => c6 ((zo_eq rfl (zo_l 0) hn5 (by decide)).mp q)) ?_
        obtain ⟨r8, hb7, he⟩ := zb1_e he
        refine (zb1_s (s_M_canBe rfl rfl hb7)).trans ?_
        obtain ⟨hn8, he⟩ := zg_e he
        by_cases c9 : r8 = (0 : Int)
        · have he := zif_t c9 he
          refine zif_p ((zo_eq rfl (zo_l 0) hn8 (by decide)).mpr c9) ?_
          obtain ⟨rfl⟩ := zi1 he
          exact zs1 (zo_ln 9)
        · have he := zif_f c9 he
          refine zif_n (fun q => c9 ((zo_eq rfl (zo_l 0) hn8 (by decide)).mp q)) ?_
          obtain ⟨rfl⟩ := zi1 he
          exact zs1 rfl
  obtain ⟨hn10, he⟩ := zg_e he
  by_cases c11 : p2 = (0 : Int)
  · have he := zif_t c11 he
    refine zif_p ((zo_eq rfl (zo_l 0) hn10 (by decide)).mpr c11) ?_
    exact zk1 hk11 (zo_sub rfl (zo_l 6)) he
  · have he := zif_f c11 he
    refine zif_n (fun q => c11 ((zo_eq rfl (zo_l 0) hn10 (by decide)).mp q)) ?_
    by_cases c12 : p2 = (1 : Int)
    · have he := zif_t c12 he
      refine zif_p ((zo_eq rfl (zo_l 1) hn10 (by decide)).mpr c12) ?_
      obtain ⟨hn13, he⟩ := zg_e he
      obtain ⟨hn14, he⟩ := zg_e he
      by_cases c15 : p1 % (6 : Int) = (0 : Int)
      · have he := zif_t c15 he
        refine zif_p ((zo_eq (zo_rem rfl (zo_l 6) hn13 (by decide)) (zo_l 0) hn14 (by decide)).mpr c15) ?_
        exact zk1 hk11 (zo_ln 1) he
      · have he := zif_f c15 he
        refine zif_n (fun q => c15 ((zo_eq (zo_rem rfl (zo_l 6) hn13 (by decide)) (zo_l 0) hn14 (by decide)).mp q)) ?_
        exact zk1 hk11 (zo_sub rfl (zo_l 1)) he
    · have he := zif_f c12 he
      refine zif_n (fun q => c12 ((zo_eq rfl (zo_l 1) hn10 (by decide)).mp q)) ?_
      by_cases c16 : p2 = (2 : Int)
      · have he := zif_t c16 he
        refine zif_p ((zo_eq rfl (zo_l 2) hn10 (by decide)).mpr c16) ?_
        obtain ⟨hn17, he⟩ := zg_e he
        obtain ⟨hn18, he⟩ := zg_e he
        by_cases c19 : p1 % (6 : Int) = (5 : Int)
        · have he := zif_t c19 he
          refine zif_p ((zo_eq (zo_rem rfl (zo_l 6) hn17 (by decide)) (zo_l 5) hn18 (by decide)).mpr c19) ?_
          exact zk1 hk11 (zo_ln 1) he
        · have he := zif_f c19 he
          refine zif_n (fun q => c19 ((zo_eq (zo_rem rfl (zo_l 6) hn17 (by decide)) (zo_l 5) hn18 (by decide)).mp q)) ?_
          exact zk1 hk11 (zo_add rfl (zo_l 1)) he
      · have he := zif_f c16 he
        refine zif_n (fun q => c16 ((zo_eq rfl (zo_l 2) hn10 (by decide)).mp q)) ?_
        exact zk1 hk11 (zo_add rfl (zo_l 6)) he
theorem s_M_isCorner {g_sf : Nat → Int32} {g_s : Nat → Int} {p1f : Int32} {p1 : Int} {p2f : Int32} {p2 : Int} {p3f : Int32} {p3 : Int} {R0 : Int} (eg_s : g_sf = zoA g_s) (ep1 : p1f = zo p1) (ep2 : p2f = zo p2) (ep3 : p3f = zo p3) (he : g_M_isCorner g_s p1 p2 p3 = some (R0)) : f_M_isCorner g_sf p1f p2f p3f = some (zo R0) := by
  subst eg_s
  subst ep1
  subst ep2
  subst ep3
  unfold g_M_isCorner at he
  unfold f_M_isCorner
  obtain ⟨hn1, he⟩ := zg_e he
  by_cases c2 : p2 = (4 : Int)
  · have he := zif_t c2 he
    refine zif_p ((zo_eq rfl (zo_l 4) hn1 (by decide)).mpr c2) ?_
    obtain ⟨rfl⟩ := zi1 he
    exact zs1 (zo_l 0)
  · have he := zif_f c2 he
    refine zif_n (fun q => c2 ((zo_eq rfl (zo_l 4) hn1 (by decide)).mp q)) ?_
    obtain ⟨hn3, he⟩ := zg_e he
    by_cases c4 : p2 = p3
    · have he := zif_t c4 he
      refine zif_p ((zo_eq rfl rfl hn1 hn3).mpr c4) ?_
      obtain ⟨rfl⟩ := zi1 he
      exact zs1 (zo_l 0)
    · have he := zif_f c4 he
      refine zif_n (fun q => c4 ((zo_eq rfl rfl hn1 hn3).mp q)) ?_
      obtain ⟨r3, hb5, he⟩ := zb1_e he
      refine (zb1_s (s_M_isTurned rfl rfl hb5)).trans ?_
      obtain ⟨hn6, he⟩ := zg_e he
      by_cases c7 : r3 = (0 : Int)
      · have he := zif_t c7 he
        refine zif_p ((zo_eq rfl (zo_l 0) hn6 (by decide)).mpr c7) ?_
        obtain ⟨rfl⟩ := zi1 he
        exact zs1 (zo_l 0)
      · have he := zif_f c7 he
        refine zif_n (fun q => c7 ((zo_eq rfl (zo_l 0) hn6 (by decide)).mp q)) ?_
        obtain ⟨rfl⟩ := zi1 he
        exact zs1 (zo_l 1)
theorem s_M_saidOn {g_sf : Nat → Int32} {g_s : Nat → Int} {p1f : Int32} {p1 : Int} {p2f : Int32} {p2 : Int} {p3f : Int32} {p3 : Int} {R0 : Int} (eg_s : g_sf = zoA g_s) (ep1 : p1f = zo p1) (ep2 : p2f = zo p2) (ep3 : p3f = zo p3) (he : g_M_saidOn g_s p1 p2 p3 = some (R0)) : f_M_saidOn g_sf p1f p2f p3f = some (zo R0) := by
  subst eg_s
  subst ep1
  subst ep2
  subst ep3
  unfold g_M_saidOn at he
  unfold f_M_saidOn
  obtain ⟨r1, hb1, he⟩ := zb1_e he
  refine (zb1_s (s_M_isCorner rfl rfl rfl rfl hb1)).trans ?_
  obtain ⟨hn2, he⟩ := zg_e he
  by_cases c3 : r1 = (0 : Int)
  · have he := zif_t c3 he
    refine zif_p ((zo_eq rfl (zo_l 0) hn2 (by decide)).mpr c3) ?_
    obtain ⟨r4, hb4, he⟩ := zb1_e he
    refine (zb1_s (s_M_wordsOn rfl rfl hb4)).trans ?_
    obtain ⟨rfl⟩ := zi1 he
    exact zs1 rfl
  · have he := zif_f c3 he
    refine zif_n (fun q => c3 ((zo_eq rfl (zo_l 0) hn2 (by decide)).mp q)) ?_
    obtain ⟨rfl⟩ := zi1 he
    exact zs1 (zo_l 0)
theorem s_M_letter {v_letterManyf : Int32} {v_letterMany : Int} {g_lettersf : Nat → Int32} {g_letters : Nat → Int} {g_refusedf : Nat → Int32} {g_refused : Nat → Int} {p1f : Int32} {p1 : Int} {R0 : Int} {R1 : Int} {R2 : Nat → Int} {R3 : Nat → Int} (ev_letterMany : v_letterManyf = zo v_letterMany) (eg_letters : g_lettersf = zoA g_letters) (eg_refused : g_refusedf = zoA g_refused) (ep1 : p1f = zo p1) (he : g_M_letter v_letterMany g_letters g_refused p1 = some (R0, R1, R2, R3)) : f_M_letter v_letterManyf g_lettersf g_refusedf p1f = some (zo R0, zo R1, zoA R2, zoA R3) := by
  subst ev_letterMany
  subst eg_letters
  subst eg_refused
  subst ep1
  unfold g_M_letter at he
  unfold f_M_letter
  obtain ⟨hn1, he⟩ := zg_e he
  by_cases c2 : (0 : Int) ≤ p1
  · have he := zif_t c2 he
    refine zif_p ((zo_le (zo_l 0) rfl (by decide) hn1).mpr c2) ?_
    refine zj1_z (m1 := id) he (fun _ he => ?_) (fun k5f k5 hk5 he => ?_)
    · obtain ⟨r2, g_refused_3, hb3, he⟩ := zb2_e he
      refine (zb2_s (s_M_no rfl (zo_ln 6) hb3)).trans ?_
      obtain ⟨rfl, rfl, rfl, rfl⟩ := zi4 he
      exact zs4 rfl rfl rfl rfl
    by_cases c4 : (255 : Int) < p1
    · have he := zif_t c4 he
      refine zif_p ((zo_lt (zo_l 255) rfl (by decide) hn1).mpr c4) ?_
      exact zk1 hk5 rfl he
    · have he := zif_f c4 he
      refine zif_n (fun q => c4 ((zo_lt (zo_l 255) rfl (by decide) hn1).mp q)) ?_
      obtain ⟨hn5, he⟩ := zg_e he
      by_cases c6 : v_letterMany = (96 : Int)
      · have he := zif_t c6 he
        refine zif_p ((zo_eq rfl (zo_l 96) hn5 (by decide)).mpr c6) ?_
        exact zk1 hk5 rfl he
      · have he := zif_f c6 he
        refine zif_n (fun q => c6 ((zo_eq rfl (zo_l 96) hn5 (by decide)).mp q)) ?_
        obtain ⟨hg8, he⟩ := zg_e he
        have hg7 := zin3 (n := 96) (by decide) hg8
        refine zg_z (zo_in rfl hg7) ?_
        obtain ⟨g9, hx9⟩ : ∃ y : Nat → Int, y = updI g_letters v_letterMany.toNat p1 := ⟨_, rfl⟩
        have he := zn_e hx9 he
        refine zn_z (y := zoA g9) ((zo_upd rfl rfl hg7 rfl).trans (congrArg zoA hx9.symm)) ?_
        obtain ⟨x10, hx10⟩ : ∃ y : Int, y = v_letterMany + (1 : Int) := ⟨_, rfl⟩
        have he := zn_e hx10 he
        refine zn_z (y := zo x10) ((zo_add rfl (zo_l 1)).trans (congrArg zo hx10.symm)) ?_
        obtain ⟨rfl, rfl, rfl, rfl⟩ := zi4 he
        exact zs4 rfl rfl rfl rfl
  · have he := zif_f c2 he
    refine zif_n (fun q => c2 ((zo_le (zo_l 0) rfl (by decide) hn1).mp q)) ?_
    obtain ⟨r11, g_refused_12, hb11, he⟩ := zb2_e he
    refine (zb2_s (s_M_no rfl (zo_ln 4) hb11)).trans ?_
    obtain ⟨rfl, rfl, rfl, rfl⟩ := zi4 he
    exact zs4 rfl rfl rfl rfl
theorem s_M_here {v_letterManyf : Int32} {v_letterMany : Int} {v_placef : Int32} {v_place : Int} {g_lettersf : Nat → Int32} {g_letters : Nat → Int} {R0 : Int} (ev_letterMany : v_letterManyf = zo v_letterMany) (ev_place : v_placef = zo v_place) (eg_letters : g_lettersf = zoA g_letters) (he : g_M_here v_letterMany v_place g_letters = some (R0)) : f_M_here v_letterManyf v_placef g_lettersf = some (zo R0) := by
  subst ev_letterMany
  subst ev_place
  subst eg_letters
  unfold g_M_here at he
  unfold f_M_here
  obtain ⟨hn1, he⟩ := zg_e he
  obtain ⟨hn2, he⟩ := zg_e he
  by_cases c3 : v_letterMany ≤ v_place
  · have he := zif_t c3 he
    refine zif_p ((zo_le rfl rfl hn1 hn2).mpr c3) ?_
    obtain ⟨rfl⟩ := zi1 he
    exact zs1 (zo_ln 1)
  · have he := zif_f c3 he
    refine zif_n (fun q => c3 ((zo_le rfl rfl hn1 hn2).mp q)) ?_
    obtain ⟨hg5, he⟩ := zg_e he
    have hg4 := zin3 (n := 96) (by decide) hg5
    refine zg_z (zo_in rfl hg4) ?_
    obtain ⟨rfl⟩ := zi1 he
    exact zs1 (zo_rd rfl rfl hg4)
theorem s_M_readsNumber {v_letterManyf : Int32} {v_letterMany : Int} {v_placef : Int32} {v_place : Int} {g_lettersf : Nat → Int32} {g_letters : Nat → Int} {g_numbersf : Nat → Int32} {g_numbers : Nat → Int} {p1f : Int32} {p1 : Int} {p2f : Int32} {p2 : Int} {R0 : Int} {R1 : Int} {R2 : Nat → Int} (ev_letterMany : v_letterManyf = zo v_letterMany) (ev_place : v_placef = zo v_place) (eg_letters : g_lettersf = zoA g_letters) (eg_numbers : g_numbersf = zoA g_numbers) (ep1 : p1f = zo p1) (ep2 : p2f = zo p2) (he : g_M_readsNumber v_letterMany v_place g_letters g_numbers p1 p2 = some (R0, R1, R2)) : f_M_readsNumber v_letterManyf v_placef g_lettersf g_numbersf p1f p2f = some (zo R0, zo R1, zoA R2) := by
  subst ev_letterMany
  subst ev_place
  subst eg_letters
  subst eg_numbers
  subst ep1
  subst ep2
  unfold g_M_readsNumber at he
  unfold f_M_readsNumber
  obtain ⟨hg2, he⟩ := zg_e he
  have hg1 := zin3 (n := 3) (by decide) hg2
  refine zg_z (zo_in rfl hg1) ?_
  obtain ⟨g2, hx3⟩ : ∃ y : Nat → Int, y = updI g_numbers p1.toNat (0 : Int) := ⟨_, rfl⟩
  have he := zn_e hx3 he
  refine zn_z (y := zoA g2) ((zo_upd rfl rfl hg1 (zo_l 0)).trans (congrArg zoA hx3.symm)) ?_
  refine zl3_z (m1 := zo) (m2 := zo) (m3 := zoA) (zo_l 0) rfl rfl he (fun l3_3 v_place_4 g_numbers_5 again6f again6 hagain6 he => ?_)
  obtain ⟨hn4, he⟩ := zg_e he
  obtain ⟨hn5, he⟩ := zg_e he
  by_cases c6 : p2 ≤ l3_3
  · have he := zif_t c6 he
    refine zif_p ((zo_le rfl rfl hn4 hn5).mpr c6) ?_
    obtain ⟨rfl, rfl, rfl⟩ := zi3 he
    exact zs3 (zo_l 1) rfl rfl
  · have he := zif_f c6 he
    refine zif_n (fun q => c6 ((zo_le rfl rfl hn4 hn5).mp q)) ?_
    obtain ⟨r8, hb7, he⟩ := zb1_e he
    refine (zb1_s (s_M_here rfl rfl rfl hb7)).trans ?_
    obtain ⟨r10, hb8, he⟩ := zb1_e he
    refine (zb1_s (s_M_isIn rfl (zo_l 48) (zo_l 57) hb8)).trans ?_
    obtain ⟨hn9, he⟩ := zg_e he
    by_cases c10 : r10 = (0 : Int)
    · have he := zif_t c10 he
      refine zif_p ((zo_eq rfl (zo_l 0) hn9 (by decide)).mpr c10) ?_
      obtain ⟨rfl, rfl, rfl⟩ := zi3 he
      exact zs3 (zo_l 0) rfl rfl
    · have he := zif_f c10 he
      refine zif_n (fun q => c10 ((zo_eq rfl (zo_l 0) hn9 (by decide)).mp q)) ?_
      refine zg_z (zo_in rfl hg1) ?_
      obtain ⟨r14, hb12, he⟩ := zb1_e he
      refine (zb1_s (s_M_here rfl rfl rfl hb12)).trans ?_
      obtain ⟨x16, hx13⟩ : ∃ y : Int, y = (((10 : Int) * (g_numbers_5 p1.toNat)) + r14) - (48 : Int) := ⟨_, rfl⟩
      have he := zn_e hx13 he
      refine zn_z (y := zo x16) ((zo_sub (zo_add (zo_mul (zo_l 10) (zo_rd rfl rfl hg1)) rfl) (zo_l 48)).trans (congrArg zo hx13.symm)) ?_
      refine zg_z (zo_in rfl hg1) ?_
      obtain ⟨g18, hx15⟩ : ∃ y : Nat → Int, y = updI g_numbers_5 p1.toNat x16 := ⟨_, rfl⟩
      have he := zn_e hx15 he
      refine zn_z (y := zoA g18) ((zo_upd rfl rfl hg1 rfl).trans (congrArg zoA hx15.symm)) ?_
      obtain ⟨x19, hx16⟩ : ∃ y : Int, y = v_place_4 + (1 : Int) := ⟨_, rfl⟩
      have he := zn_e hx16 he
      refine zn_z (y := zo x19) ((zo_add rfl (zo_l 1)).trans (congrArg zo hx16.symm)) ?_
      obtain ⟨x20, hx17⟩ : ∃ y : Int, y = l3_3 + (1 : Int) := ⟨_, rfl⟩
      have he := zn_e hx17 he
      refine zn_z (y := zo x20) ((zo_add rfl (zo_l 1)).trans (congrArg zo hx17.symm)) ?_
      exact zk3 hagain6 rfl rfl rfl he
theorem s_M_kindOf {p0f : Int32} {p0 : Int} {R0 : Int} (ep0 : p0f = zo p0) (he : g_M_kindOf p0 = some (R0)) : f_M_kindOf p0f = some (zo R0) := by
  subst ep0
  unfold g_M_kindOf at he
  unfold f_M_kindOf
  obtain ⟨hn1, he⟩ := zg_e he
  by_cases c2 : p0 = (99 : Int)
  · have he := zif_t c2 he
    refine zif_p ((zo_eq rfl (zo_l 99) hn1 (by decide)).mpr c2) ?_
    obtain ⟨rfl⟩ := zi1 he
    exact zs1 (zo_l 2)
  · have he := zif_f c2 he
    refine zif_n (fun q => c2 ((zo_eq rfl (zo_l 99) hn1 (by decide)).mp q)) ?_
    by_cases c3 : p0 = (109 : Int)
    · have he := zif_t c3 he
      refine zif_p ((zo_eq rfl (zo_l 109) hn1 (by decide)).mpr c3) ?_
      obtain ⟨rfl⟩ := zi1 he
      exact zs1 (zo_l 5)
    · have he := zif_f c3 he
      refine zif_n (fun q => c3 ((zo_eq rfl (zo_l 109) hn1 (by decide)).mp q)) ?_
      by_cases c4 : p0 = (110 : Int)
      · have he := zif_t c4 he
        refine zif_p ((zo_eq rfl (zo_l 110) hn1 (by decide)).mpr c4) ?_
        obtain ⟨rfl⟩ := zi1 he
        exact zs1 (zo_l 3)
      · have he := zif_f c4 he
        refine zif_n (fun q => c4 ((zo_eq rfl (zo_l 110) hn1 (by decide)).mp q)) ?_
        by_cases c5 : p0 = (115 : Int)
        · have he := zif_t c5 he
          refine zif_p ((zo_eq rfl (zo_l 115) hn1 (by decide)).mpr c5) ?_
          obtain ⟨rfl⟩ := zi1 he
          exact zs1 (zo_l 0)
        · have he := zif_f c5 he
          refine zif_n (fun q => c5 ((zo_eq rfl (zo_l 115) hn1 (by decide)).mp q)) ?_
          by_cases c6 : p0 = (116 : Int)
          · have he := zif_t c6 he
            refine zif_p ((zo_eq rfl (zo_l 116) hn1 (by decide)).mpr c6) ?_
            obtain ⟨rfl⟩ := zi1 he
            exact zs1 (zo_l 4)
          · have he := zif_f c6 he
            refine zif_n (fun q => c6 ((zo_eq rfl (zo_l 116) hn1 (by decide)).mp q)) ?_
            by_cases c7 : p0 = (119 : Int)
            · have he := zif_t c7 he
              refine zif_p ((zo_eq rfl (zo_l 119) hn1 (by decide)).mpr c7) ?_
              obtain ⟨rfl⟩ := zi1 he
              exact zs1 (zo_l 1)
            · have he := zif_f c7 he
              refine zif_n (fun q => c7 ((zo_eq rfl (zo_l 119) hn1 (by decide)).mp q)) ?_
              obtain ⟨rfl⟩ := zi1 he
              exact zs1 (zo_ln 9)
theorem s_M_readsKind {v_letterManyf : Int32} {v_letterMany : Int} {v_placef : Int32} {v_place : Int} {g_lettersf : Nat → Int32} {g_letters : Nat → Int} {g_numbersf : Nat → Int32} {g_numbers : Nat → Int} {R0 : Int} {R1 : Int} {R2 : Nat → Int} (ev_letterMany : v_letterManyf = zo v_letterMany) (ev_place : v_placef = zo v_place) (eg_letters : g_lettersf = zoA g_letters) (eg_numbers : g_numbersf = zoA g_numbers) (he : g_M_readsKind v_letterMany v_place g_letters g_numbers = some (R0, R1, R2)) : f_M_readsKind v_letterManyf v_placef g_lettersf g_numbersf = some (zo R0, zo R1, zoA R2) := by
  subst ev_letterMany
  subst ev_place
  subst eg_letters
  subst eg_numbers
  unfold g_M_readsKind at he
  unfold f_M_readsKind
  obtain ⟨r1, hb1, he⟩ := zb1_e he
  refine (zb1_s (s_M_here rfl rfl rfl hb1)).trans ?_
  obtain ⟨r3, hb2, he⟩ := zb1_e he
  refine (zb1_s (s_M_kindOf rfl hb2)).trans ?_
  obtain ⟨hg4, he⟩ := zg_e he
  have hg3 := zin3 (n := 3) (by decide) hg4
  refine zg_z (zo_in (zo_l 0) hg3) ?_
  obtain ⟨g6, hx5⟩ : ∃ y : Nat → Int, y = updI g_numbers (0 : Int).toNat r3 := ⟨_, rfl⟩
  have he := zn_e hx5 he
  refine zn_z (y := zoA g6) ((zo_upd rfl (zo_l 0) hg3 rfl).trans (congrArg zoA hx5.symm)) ?_
  refine zg_z (zo_in (zo_l 0) hg3) ?_
  refine zj1_z (m1 := zo) he (fun s8 he => ?_) (fun k12f k12 hk12 he => ?_)
  · obtain ⟨x9, hx7⟩ : ∃ y : Int, y = v_place + s8 := ⟨_, rfl⟩
    have he := zn_e hx7 he
    refine zn_z (y := zo x9) ((zo_add rfl rfl).trans (congrArg zo hx7.symm)) ?_
    refine zg_z (zo_in (zo_l 0) hg3) ?_
    obtain ⟨hn9, he⟩ := zg_e he
    by_cases c10 : g6 (0 : Int).toNat < (0 : Int)
    · have he := zif_t c10 he
      refine zif_p ((zo_lt (zo_rd rfl (zo_l 0) hg3) (zo_l 0) hn9 (by decide)).mpr c10) ?_
      obtain ⟨rfl, rfl, rfl⟩ := zi3 he
      exact zs3 (zo_l 0) rfl rfl
    · have he := zif_f c10 he
      refine zif_n (fun q => c10 ((zo_lt (zo_rd rfl (zo_l 0) hg3) (zo_l 0) hn9 (by decide)).mp q)) ?_
      obtain ⟨rfl, rfl, rfl⟩ := zi3 he
      exact zs3 (zo_l 1) rfl rfl
  obtain ⟨hn11, he⟩ := zg_e he
  by_cases c12 : (0 : Int) ≤ g6 (0 : Int).toNat
  · have he := zif_t c12 he
    refine zif_p ((zo_le (zo_l 0) (zo_rd rfl (zo_l 0) hg3) (by decide) hn11).mpr c12) ?_
    exact zk1 hk12 (zo_l 1) he
  · have he := zif_f c12 he
    refine zif_n (fun q => c12 ((zo_le (zo_l 0) (zo_rd rfl (zo_l 0) hg3) (by decide) hn11).mp q)) ?_
    exact zk1 hk12 (zo_l 0) he
theorem s_M_readsStatement {v_letterManyf : Int32} {v_letterMany : Int} {v_placef : Int32} {v_place : Int} {g_lettersf : Nat → Int32} {g_letters : Nat → Int} {g_numbersf : Nat → Int32} {g_numbers : Nat → Int} {R0 : Int} {R1 : Int} {R2 : Nat → Int} (ev_letterMany : v_letterManyf = zo v_letterMany) (ev_place : v_placef = zo v_place) (eg_letters : g_lettersf = zoA g_letters) (eg_numbers : g_numbersf = zoA g_numbers) (he : g_M_readsStatement v_letterMany v_place g_letters g_numbers = some (R0, R1, R2)) : f_M_readsStatement v_letterManyf v_placef g_lettersf g_numbersf = some (zo R0, zo R1, zoA R2) := by
  subst ev_letterMany
  subst ev_place
  subst eg_letters
  subst eg_numbers
  unfold g_M_readsStatement at he
  unfold f_M_readsStatement
  obtain ⟨r1, hb1, he⟩ := zb1_e he
  refine (zb1_s (s_M_here rfl rfl rfl hb1)).trans ?_
  obtain ⟨x3, hx2⟩ : ∃ y : Int, y = v_place + (1 : Int) := ⟨_, rfl⟩
  have he := zn_e hx2 he
  refine zn_z (y := zo x3) ((zo_add rfl (zo_l 1)).trans (congrArg zo hx2.symm)) ?_
  refine zj3_z (m1 := zo) (m2 := zo) (m3 := zoA) he (fun l2_4 v_place_5 g_numbers_6 he => ?_) (fun k12f k12 hk12 he => ?_)
  · obtain ⟨hn3, he⟩ := zg_e he
    by_cases c4 : l2_4 = (0 : Int)
    · have he := zif_t c4 he
      refine zif_p ((zo_eq rfl (zo_l 0) hn3 (by decide)).mpr c4) ?_
      obtain ⟨rfl, rfl, rfl⟩ := zi3 he
      exact zs3 (zo_l 0) rfl rfl
    · have he := zif_f c4 he
      refine zif_n (fun q => c4 ((zo_eq rfl (zo_l 0) hn3 (by decide)).mp q)) ?_
      obtain ⟨r8, hb5, he⟩ := zb1_e he
      refine (zb1_s (s_M_here rfl rfl rfl hb5)).trans ?_
      obtain ⟨hn6, he⟩ := zg_e he
      by_cases c7 : r8 = (59 : Int)
      · have he := zif_t c7 he
        refine zif_p ((zo_eq rfl (zo_l 59) hn6 (by decide)).mpr c7) ?_
        obtain ⟨x11, hx8⟩ : ∃ y : Int, y = v_place_5 + (1 : Int) := ⟨_, rfl⟩
        have he := zn_e hx8 he
        refine zn_z (y := zo x11) ((zo_add rfl (zo_l 1)).trans (congrArg zo hx8.symm)) ?_
        obtain ⟨rfl, rfl, rfl⟩ := zi3 he
        exact zs3 (zo_l 1) rfl rfl
      · have he := zif_f c7 he
        refine zif_n (fun q => c7 ((zo_eq rfl (zo_l 59) hn6 (by decide)).mp q)) ?_
        obtain ⟨rfl, rfl, rfl⟩ := zi3 he
        exact zs3 (zo_l 0) rfl rfl
  obtain ⟨hn9, he⟩ := zg_e he
  by_cases c10 : r1 = (98 : Int)
  · have he := zif_t c10 he
    refine zif_p ((zo_eq rfl (zo_l 98) hn9 (by decide)).mpr c10) ?_
    obtain ⟨r14, v_place_15, g_numbers_16, hb11, he⟩ := zb3_e he
    refine (zb3_s (s_M_readsNumber rfl rfl rfl rfl (zo_l 0) (zo_l 1) hb11)).trans ?_
    exact zk3 hk12 rfl rfl rfl he
  · have he := zif_f c10 he
    refine zif_n (fun q => c10 ((zo_eq rfl (zo_l 98) hn9 (by decide)).mp q)) ?_
    by_cases c12 : r1 = (102 : Int)
    · have he := zif_t c12 he
      refine zif_p ((zo_eq rfl (zo_l 102) hn9 (by decide)).mpr c12) ?_
      obtain ⟨r19, v_place_20, g_numbers_21, hb13, he⟩ := zb3_e he
      refine (zb3_s (s_M_readsNumber rfl rfl rfl rfl (zo_l 0) (zo_l 1) hb13)).trans ?_
      exact zk3 hk12 rfl rfl rfl he
    · have he := zif_f c12 he
      refine zif_n (fun q => c12 ((zo_eq rfl (zo_l 102) hn9 (by decide)).mp q)) ?_
      by_cases c14 : r1 = (104 : Int)
      · have he := zif_t c14 he
        refine zif_p ((zo_eq rfl (zo_l 104) hn9 (by decide)).mpr c14) ?_
        obtain ⟨r24, v_place_25, g_numbers_26, hb15, he⟩ := zb3_e he
        refine (zb3_s (s_M_readsNumber rfl rfl rfl rfl (zo_l 0) (zo_l 2) hb15)).trans ?_
        exact zk3 hk12 rfl rfl rfl he
      · have he := zif_f c14 he
        refine zif_n (fun q => c14 ((zo_eq rfl (zo_l 104) hn9 (by decide)).mp q)) ?_
        by_cases c16 : r1 = (107 : Int)
        · have he := zif_t c16 he
          refine zif_p ((zo_eq rfl (zo_l 107) hn9 (by decide)).mpr c16) ?_
          obtain ⟨r29, v_place_30, g_numbers_31, hb17, he⟩ := zb3_e he
          refine (zb3_s (s_M_readsKind rfl rfl rfl rfl hb17)).trans ?_
          refine zj3_z (m1 := zo) (m2 := zo) (m3 := zoA) he (fun s33 v_place_34 g_numbers_35 he => ?_) (fun k36f k36 hk36 he => ?_)
          · exact zk3 hk12 rfl rfl rfl he
          refine zj2_z (m1 := zo) (m2 := zoA) he (fun v_place_37 g_numbers_38 he => ?_) (fun k39f k39 hk39 he => ?_)
          · exact zk3 hk36 (zo_l 0) rfl rfl he
          obtain ⟨hn18, he⟩ := zg_e he
          by_cases c19 : r29 = (0 : Int)
          · have he := zif_t c19 he
            refine zif_p ((zo_eq rfl (zo_l 0) hn18 (by decide)).mpr c19) ?_
            exact zk2 hk39 rfl rfl he
          · have he := zif_f c19 he
            refine zif_n (fun q => c19 ((zo_eq rfl (zo_l 0) hn18 (by decide)).mp q)) ?_
            obtain ⟨r41, v_place_42, g_numbers_43, hb20, he⟩ := zb3_e he
            refine (zb3_s (s_M_readsNumber rfl rfl rfl rfl (zo_l 1) (zo_l 2) hb20)).trans ?_
            obtain ⟨hn21, he⟩ := zg_e he
            by_cases c22 : r41 = (0 : Int)
            · have he := zif_t c22 he
              refine zif_p ((zo_eq rfl (zo_l 0) hn21 (by decide)).mpr c22) ?_
              exact zk2 hk39 rfl rfl he
            · have he := zif_f c22 he
              refine zif_n (fun q => c22 ((zo_eq rfl (zo_l 0) hn21 (by decide)).mp q)) ?_
              exact zk3 hk36 (zo_l 1) rfl rfl he
        · have he := zif_f c16 he
          refine zif_n (fun q => c16 ((zo_eq rfl (zo_l 107) hn9 (by decide)).mp q)) ?_
          by_cases c23 : r1 = (118 : Int)
          · have he := zif_t c23 he
            refine zif_p ((zo_eq rfl (zo_l 118) hn9 (by decide)).mpr c23) ?_
            obtain ⟨r47, v_place_48, g_numbers_49, hb24, he⟩ := zb3_e he
            refine (zb3_s (s_M_readsKind rfl rfl rfl rfl hb24)).trans ?_
            refine zj3_z (m1 := zo) (m2 := zo) (m3 := zoA) he (fun s51 v_place_52 g_numbers_53 he => ?_) (fun k54f k54 hk54 he => ?_)
            · exact zk3 hk12 rfl rfl rfl he
            refine zj2_z (m1 := zo) (m2 := zoA) he (fun v_place_55 g_numbers_56 he => ?_) (fun k57f k57 hk57 he => ?_)
            · exact zk3 hk54 (zo_l 0) rfl rfl he
            obtain ⟨hn25, he⟩ := zg_e he
            by_cases c26 : r47 = (0 : Int)
            · have he := zif_t c26 he
              refine zif_p ((zo_eq rfl (zo_l 0) hn25 (by decide)).mpr c26) ?_
              exact zk2 hk57 rfl rfl he
            · have he := zif_f c26 he
              refine zif_n (fun q => c26 ((zo_eq rfl (zo_l 0) hn25 (by decide)).mp q)) ?_
              obtain ⟨r59, v_place_60, g_numbers_61, hb27, he⟩ := zb3_e he
              refine (zb3_s (s_M_readsNumber rfl rfl rfl rfl (zo_l 1) (zo_l 2) hb27)).trans ?_
              obtain ⟨hn28, he⟩ := zg_e he
              by_cases c29 : r59 = (0 : Int)
              · have he := zif_t c29 he
                refine zif_p ((zo_eq rfl (zo_l 0) hn28 (by decide)).mpr c29) ?_
                exact zk2 hk57 rfl rfl he
              · have he := zif_f c29 he
                refine zif_n (fun q => c29 ((zo_eq rfl (zo_l 0) hn28 (by decide)).mp q)) ?_
                obtain ⟨r64, v_place_65, g_numbers_66, hb30, he⟩ := zb3_e he
                refine (zb3_s (s_M_readsNumber rfl rfl rfl rfl (zo_l 2) (zo_l 2) hb30)).trans ?_
                obtain ⟨hn31, he⟩ := zg_e he
                by_cases c32 : r64 = (0 : Int)
                · have he := zif_t c32 he
                  refine zif_p ((zo_eq rfl (zo_l 0) hn31 (by decide)).mpr c32) ?_
                  exact zk2 hk57 rfl rfl he
                · have he := zif_f c32 he
                  refine zif_n (fun q => c32 ((zo_eq rfl (zo_l 0) hn31 (by decide)).mp q)) ?_
                  exact zk3 hk54 (zo_l 1) rfl rfl he
          · have he := zif_f c23 he
            refine zif_n (fun q => c23 ((zo_eq rfl (zo_l 118) hn9 (by decide)).mp q)) ?_
            obtain ⟨x69, hx33⟩ : ∃ y : Int, y = x3 - (1 : Int) := ⟨_, rfl⟩
            have he := zn_e hx33 he
            refine zn_z (y := zo x69) ((zo_sub rfl (zo_l 1)).trans (congrArg zo hx33.symm)) ?_
            obtain ⟨rfl, rfl, rfl⟩ := zi3 he
            exact zs3 (zo_l 0) rfl rfl
theorem s_M_isDone {g_numbersf : Nat → Int32} {g_numbers : Nat → Int} {g_sf : Nat → Int32} {g_s : Nat → Int} {p1f : Int32} {p1 : Int} {R0 : Int} {R1 : Nat → Int} (eg_numbers : g_numbersf = zoA g_numbers) (eg_s : g_sf = zoA g_s) (ep1 : p1f = zo p1) (he : g_M_isDone g_numbers g_s p1 = some (R0, R1)) : f_M_isDone g_numbersf g_sf p1f = some (zo R0, zoA R1) := by
  subst eg_numbers
  subst eg_s
  subst ep1
  unfold g_M_isDone at he
  unfold f_M_isDone
  obtain ⟨hg2, he⟩ := zg_e he
  have hg1 := zin3 (n := 3) (by decide) hg2
  refine zg_z (zo_in (zo_l 0) hg1) ?_
  obtain ⟨x2, hx3⟩ : ∃ y : Int, y = g_numbers (0 : Int).toNat := ⟨_, rfl⟩
  have he := zn_e hx3 he
  refine zn_z (y := zo x2) ((zo_rd rfl (zo_l 0) hg1).trans (congrArg zo hx3.symm)) ?_
  obtain ⟨hg5, he⟩ := zg_e he
  have hg4 := zin3 (n := 3) (by decide) hg5
  refine zg_z (zo_in (zo_l 1) hg4) ?_
  obtain ⟨x4, hx6⟩ : ∃ y : Int, y = g_numbers (1 : Int).toNat := ⟨_, rfl⟩
  have he := zn_e hx6 he
  refine zn_z (y := zo x4) ((zo_rd rfl (zo_l 1) hg4).trans (congrArg zo hx6.symm)) ?_
  refine zj1_z (m1 := zo) he (fun s5 he => ?_) (fun k61f k61 hk61 he => ?_)
  · obtain ⟨hn7, he⟩ := zg_e he
    by_cases c8 : p1 = (102 : Int)
    · have he := zif_t c8 he
      refine zif_p ((zo_eq rfl (zo_l 102) hn7 (by decide)).mpr c8) ?_
      obtain ⟨hg10, he⟩ := zg_e he
      have hg9 := zin3 (n := 39) (by decide) hg10
      refine zg_z (zo_in (zo_l 37) hg9) ?_
      obtain ⟨g8, hx11⟩ : ∃ y : Nat → Int, y = updI g_s (37 : Int).toNat x2 := ⟨_, rfl⟩
      have he := zn_e hx11 he
      refine zn_z (y := zoA g8) ((zo_upd rfl (zo_l 37) hg9 rfl).trans (congrArg zoA hx11.symm)) ?_
      obtain ⟨rfl, rfl⟩ := zi2 he
      exact zs2 (zo_l 1) rfl
    · have he := zif_f c8 he
      refine zif_n (fun q => c8 ((zo_eq rfl (zo_l 102) hn7 (by decide)).mp q)) ?_
      by_cases c12 : p1 = (104 : Int)
      · have he := zif_t c12 he
        refine zif_p ((zo_eq rfl (zo_l 104) hn7 (by decide)).mpr c12) ?_
        obtain ⟨r10, hb13, he⟩ := zb1_e he
        refine (zb1_s (s_M_isSquare rfl hb13)).trans ?_
        obtain ⟨hn14, he⟩ := zg_e he
        by_cases c15 : r10 = (0 : Int)
        · have he := zif_t c15 he
          refine zif_p ((zo_eq rfl (zo_l 0) hn14 (by decide)).mpr c15) ?_
          obtain ⟨rfl, rfl⟩ := zi2 he
          exact zs2 (zo_l 0) rfl
        · have he := zif_f c15 he
          refine zif_n (fun q => c15 ((zo_eq rfl (zo_l 0) hn14 (by decide)).mp q)) ?_
          obtain ⟨r13, hb16, he⟩ := zb1_e he
          refine (zb1_s (s_M_canBe rfl rfl hb16)).trans ?_
          obtain ⟨hn17, he⟩ := zg_e he
          by_cases c18 : r13 = (0 : Int)
          · have he := zif_t c18 he
            refine zif_p ((zo_eq rfl (zo_l 0) hn17 (by decide)).mpr c18) ?_
            obtain ⟨rfl, rfl⟩ := zi2 he
            exact zs2 (zo_l 0) rfl
          · have he := zif_f c18 he
            refine zif_n (fun q => c18 ((zo_eq rfl (zo_l 0) hn17 (by decide)).mp q)) ?_
            obtain ⟨hg20, he⟩ := zg_e he
            have hg19 := zin3 (n := 39) (by decide) hg20
            refine zg_z (zo_in (zo_l 36) hg19) ?_
            obtain ⟨g17, hx21⟩ : ∃ y : Nat → Int, y = updI g_s (36 : Int).toNat x2 := ⟨_, rfl⟩
            have he := zn_e hx21 he
            refine zn_z (y := zoA g17) ((zo_upd rfl (zo_l 36) hg19 rfl).trans (congrArg zoA hx21.symm)) ?_
            obtain ⟨rfl, rfl⟩ := zi2 he
            exact zs2 (zo_l 1) rfl
      · have he := zif_f c12 he
        refine zif_n (fun q => c12 ((zo_eq rfl (zo_l 104) hn7 (by decide)).mp q)) ?_
        by_cases c22 : p1 = (107 : Int)
        · have he := zif_t c22 he
          refine zif_p ((zo_eq rfl (zo_l 107) hn7 (by decide)).mpr c22) ?_
          obtain ⟨hn23, he⟩ := zg_e he
          obtain ⟨hn24, he⟩ := zg_e he
          by_cases c25 : s5 < x4
          · have he := zif_t c25 he
            refine zif_p ((zo_lt rfl rfl hn23 hn24).mpr c25) ?_
            obtain ⟨rfl, rfl⟩ := zi2 he
            exact zs2 (zo_l 0) rfl
          · have he := zif_f c25 he
            refine zif_n (fun q => c25 ((zo_lt rfl rfl hn23 hn24).mp q)) ?_
            obtain ⟨r20, hb26, he⟩ := zb1_e he
            refine (zb1_s (s_M_isSquare rfl hb26)).trans ?_
            obtain ⟨hn27, he⟩ := zg_e he
            by_cases c28 : r20 = (0 : Int)
            · have he := zif_t c28 he
              refine zif_p ((zo_eq rfl (zo_l 0) hn27 (by decide)).mpr c28) ?_
              obtain ⟨rfl, rfl⟩ := zi2 he
              exact zs2 (zo_l 0) rfl
            · have he := zif_f c28 he
              refine zif_n (fun q => c28 ((zo_eq rfl (zo_l 0) hn27 (by decide)).mp q)) ?_
              obtain ⟨r23, hb29, he⟩ := zb1_e he
              refine (zb1_s (s_M_canStand rfl hb29)).trans ?_
              refine zj1_z (m1 := id) he (fun _ he => ?_) (fun k32f k32 hk32 he => ?_)
              · refine zl2_z (m1 := zo) (m2 := zoA) rfl rfl he (fun l5_25 g_s_26 again27f again27 hagain27 he => ?_)
                obtain ⟨hn30, he⟩ := zg_e he
                by_cases c31 : s5 < l5_25
                · have he := zif_t c31 he
                  refine zif_p ((zo_lt rfl rfl hn23 hn30).mpr c31) ?_
                  obtain ⟨rfl, rfl⟩ := zi2 he
                  exact zs2 (zo_l 1) rfl
                · have he := zif_f c31 he
                  refine zif_n (fun q => c31 ((zo_lt rfl rfl hn23 hn30).mp q)) ?_
                  obtain ⟨hg33, he⟩ := zg_e he
                  have hg32 := zin3 (n := 39) (by decide) hg33
                  refine zg_z (zo_in rfl hg32) ?_
                  obtain ⟨g30, hx34⟩ : ∃ y : Nat → Int, y = updI g_s_26 l5_25.toNat x2 := ⟨_, rfl⟩
                  have he := zn_e hx34 he
                  refine zn_z (y := zoA g30) ((zo_upd rfl rfl hg32 rfl).trans (congrArg zoA hx34.symm)) ?_
                  obtain ⟨x31, hx35⟩ : ∃ y : Int, y = l5_25 + (1 : Int) := ⟨_, rfl⟩
                  have he := zn_e hx35 he
                  refine zn_z (y := zo x31) ((zo_add rfl (zo_l 1)).trans (congrArg zo hx35.symm)) ?_
                  exact zk2 hagain27 rfl rfl he
              obtain ⟨hn36, he⟩ := zg_e he
              by_cases c37 : r23 = (0 : Int)
              · have he := zif_t c37 he
                refine zif_p ((zo_eq rfl (zo_l 0) hn36 (by decide)).mpr c37) ?_
                obtain ⟨hg39, he⟩ := zg_e he
                have hg38 := zin3 (n := 39) (by decide) hg39
                refine zg_z (zo_in (zo_l 36) hg38) ?_
                obtain ⟨r35, hb40, he⟩ := zb1_e he
                refine (zb1_s (s_M_isIn (zo_rd rfl (zo_l 36) hg38) rfl rfl hb40)).trans ?_
                obtain ⟨hn41, he⟩ := zg_e he
                by_cases c42 : r35 = (0 : Int)
                · have he := zif_t c42 he
                  refine zif_p ((zo_eq rfl (zo_l 0) hn41 (by decide)).mpr c42) ?_
                  exact zk1 hk32 rfl he
                · have he := zif_f c42 he
                  refine zif_n (fun q => c42 ((zo_eq rfl (zo_l 0) hn41 (by decide)).mp q)) ?_
                  obtain ⟨rfl, rfl⟩ := zi2 he
                  exact zs2 (zo_l 0) rfl
              · have he := zif_f c37 he
                refine zif_n (fun q => c37 ((zo_eq rfl (zo_l 0) hn36 (by decide)).mp q)) ?_
                exact zk1 hk32 rfl he
        · have he := zif_f c22 he
          refine zif_n (fun q => c22 ((zo_eq rfl (zo_l 107) hn7 (by decide)).mp q)) ?_
          by_cases c43 : p1 = (118 : Int)
          · have he := zif_t c43 he
            refine zif_p ((zo_eq rfl (zo_l 118) hn7 (by decide)).mpr c43) ?_
            obtain ⟨hn44, he⟩ := zg_e he
            obtain ⟨hn45, he⟩ := zg_e he
            by_cases c46 : s5 < x4
            · have he := zif_t c46 he
              refine zif_p ((zo_lt rfl rfl hn44 hn45).mpr c46) ?_
              obtain ⟨rfl, rfl⟩ := zi2 he
              exact zs2 (zo_l 0) rfl
            · have he := zif_f c46 he
              refine zif_n (fun q => c46 ((zo_lt rfl rfl hn44 hn45).mp q)) ?_
              obtain ⟨r40, hb47, he⟩ := zb1_e he
              refine (zb1_s (s_M_isSquare rfl hb47)).trans ?_
              obtain ⟨hn48, he⟩ := zg_e he
              by_cases c49 : r40 = (0 : Int)
              · have he := zif_t c49 he
                refine zif_p ((zo_eq rfl (zo_l 0) hn48 (by decide)).mpr c49) ?_
                obtain ⟨rfl, rfl⟩ := zi2 he
                exact zs2 (zo_l 0) rfl
              · have he := zif_f c49 he
                refine zif_n (fun q => c49 ((zo_eq rfl (zo_l 0) hn48 (by decide)).mp q)) ?_
                obtain ⟨r43, hb50, he⟩ := zb1_e he
                refine (zb1_s (s_M_canStand rfl hb50)).trans ?_
                refine zj1_z (m1 := id) he (fun _ he => ?_) (fun k52f k52 hk52 he => ?_)
                · refine zl2_z (m1 := zo) (m2 := zoA) rfl rfl he (fun l5_45 g_s_46 again47f again47 hagain47 he => ?_)
                  obtain ⟨hn51, he⟩ := zg_e he
                  by_cases c52 : s5 < l5_45
                  · have he := zif_t c52 he
                    refine zif_p ((zo_lt rfl rfl hn44 hn51).mpr c52) ?_
                    obtain ⟨rfl, rfl⟩ := zi2 he
                    exact zs2 (zo_l 1) rfl
                  · have he := zif_f c52 he
                    refine zif_n (fun q => c52 ((zo_lt rfl rfl hn44 hn51).mp q)) ?_
                    obtain ⟨hg54, he⟩ := zg_e he
                    have hg53 := zin3 (n := 39) (by decide) hg54
                    refine zg_z (zo_in rfl hg53) ?_
                    obtain ⟨g50, hx55⟩ : ∃ y : Nat → Int, y = updI g_s_46 l5_45.toNat x2 := ⟨_, rfl⟩
                    have he := zn_e hx55 he
                    refine zn_z (y := zoA g50) ((zo_upd rfl rfl hg53 rfl).trans (congrArg zoA hx55.symm)) ?_
                    obtain ⟨x51, hx56⟩ : ∃ y : Int, y = l5_45 + (1 : Int) := ⟨_, rfl⟩
                    have he := zn_e hx56 he
                    refine zn_z (y := zo x51) ((zo_add rfl (zo_l 1)).trans (congrArg zo hx56.symm)) ?_
                    exact zk2 hagain47 rfl rfl he
                obtain ⟨hn57, he⟩ := zg_e he
                by_cases c58 : r43 = (0 : Int)
                · have he := zif_t c58 he
                  refine zif_p ((zo_eq rfl (zo_l 0) hn57 (by decide)).mpr c58) ?_
                  obtain ⟨hg60, he⟩ := zg_e he
                  have hg59 := zin3 (n := 39) (by decide) hg60
                  refine zg_z (zo_in (zo_l 36) hg59) ?_
                  obtain ⟨r55, hb61, he⟩ := zb1_e he
                  refine (zb1_s (s_M_isIn (zo_rd rfl (zo_l 36) hg59) rfl rfl hb61)).trans ?_
                  obtain ⟨hn62, he⟩ := zg_e he
                  by_cases c63 : r55 = (0 : Int)
                  · have he := zif_t c63 he
                    refine zif_p ((zo_eq rfl (zo_l 0) hn62 (by decide)).mpr c63) ?_
                    exact zk1 hk52 rfl he
                  · have he := zif_f c63 he
                    refine zif_n (fun q => c63 ((zo_eq rfl (zo_l 0) hn62 (by decide)).mp q)) ?_
                    obtain ⟨rfl, rfl⟩ := zi2 he
                    exact zs2 (zo_l 0) rfl
                · have he := zif_f c58 he
                  refine zif_n (fun q => c58 ((zo_eq rfl (zo_l 0) hn57 (by decide)).mp q)) ?_
                  exact zk1 hk52 rfl he
          · have he := zif_f c43 he
            refine zif_n (fun q => c43 ((zo_eq rfl (zo_l 118) hn7 (by decide)).mp q)) ?_
            obtain ⟨hg65, he⟩ := zg_e he
            have hg64 := zin3 (n := 39) (by decide) hg65
            refine zg_z (zo_in (zo_l 38) hg64) ?_
            obtain ⟨g59, hx66⟩ : ∃ y : Nat → Int, y = updI g_s (38 : Int).toNat x2 := ⟨_, rfl⟩
            have he := zn_e hx66 he
            refine zn_z (y := zoA g59) ((zo_upd rfl (zo_l 38) hg64 rfl).trans (congrArg zoA hx66.symm)) ?_
            obtain ⟨hn67, he⟩ := zg_e he
            by_cases c68 : x2 ≤ (0 : Int)
            · have he := zif_t c68 he
              refine zif_p ((zo_le rfl (zo_l 0) hn67 (by decide)).mpr c68) ?_
              obtain ⟨rfl, rfl⟩ := zi2 he
              exact zs2 (zo_l 0) rfl
            · have he := zif_f c68 he
              refine zif_n (fun q => c68 ((zo_le rfl (zo_l 0) hn67 (by decide)).mp q)) ?_
              obtain ⟨rfl, rfl⟩ := zi2 he
              exact zs2 (zo_l 1) rfl
  obtain ⟨hn69, he⟩ := zg_e he
  by_cases c70 : p1 = (118 : Int)
  · have he := zif_t c70 he
    refine zif_p ((zo_eq rfl (zo_l 118) hn69 (by decide)).mpr c70) ?_
    obtain ⟨hg72, he⟩ := zg_e he
    have hg71 := zin3 (n := 3) (by decide) hg72
    refine zg_z (zo_in (zo_l 2) hg71) ?_
    exact zk1 hk61 (zo_rd rfl (zo_l 2) hg71) he
  · have he := zif_f c70 he
    refine zif_n (fun q => c70 ((zo_eq rfl (zo_l 118) hn69 (by decide)).mp q)) ?_
    exact zk1 hk61 rfl he
theorem s_M_town {v_letterManyf : Int32} {v_letterMany : Int} {v_placef : Int32} {v_place : Int} {g_lettersf : Nat → Int32} {g_letters : Nat → Int} {g_numbersf : Nat → Int32} {g_numbers : Nat → Int} {g_sf : Nat → Int32} {g_s : Nat → Int} {g_wasf : Nat → Int32} {g_was : Nat → Int} {R0 : Int} {R1 : Int} {R2 : Int} {R3 : Nat → Int} {R4 : Nat → Int} {R5 : Nat → Int} (ev_letterMany : v_letterManyf = zo v_letterMany) (ev_place : v_placef = zo v_place) (eg_letters : g_lettersf = zoA g_letters) (eg_numbers : g_numbersf = zoA g_numbers) (eg_s : g_sf = zoA g_s) (eg_was : g_wasf = zoA g_was) (he : g_M_town v_letterMany v_place g_letters g_numbers g_s g_was = some (R0, R1, R2, R3, R4, R5)) : f_M_town v_letterManyf v_placef g_lettersf g_numbersf g_sf g_wasf = some (zo R0, zo R1, zo R2, zoA R3, zoA R4, zoA R5) := by
  subst ev_letterMany
  subst ev_place
  subst eg_letters
  subst eg_numbers
  subst eg_s
  subst eg_was
  unfold g_M_town at he
  unfold f_M_town
  refine zj4_z (m1 := zo) (m2 := zo) (m3 := zo) (m4 := zoA) he (fun l1_1 l2_2 v_place_3 g_numbers_4 he => ?_) (fun k33f k33 hk33 he => ?_)
  · obtain ⟨g_was_5, hb1, he⟩ := zb1_e he
    refine (zb1_s (s_M_lays rfl rfl hb1)).trans ?_
    refine zj4_z (m1 := zo) (m2 := zo) (m3 := zoA) (m4 := zoA) he (fun l2_7 v_place_8 g_numbers_9 g_s_10 he => ?_) (fun k12f k12 hk12 he => ?_)
    · obtain ⟨hn2, he⟩ := zg_e he
      by_cases c3 : l2_7 = (-9 : Int)
      · have he := zif_t c3 he
        refine zif_p ((zo_eq rfl (zo_ln 9) hn2 (by decide)).mpr c3) ?_
        obtain ⟨rfl, rfl, rfl, rfl, rfl, rfl⟩ := zi6 he
        exact zs6 rfl (zo_l 0) rfl rfl rfl rfl
      · have he := zif_f c3 he
        refine zif_n (fun q => c3 ((zo_eq rfl (zo_ln 9) hn2 (by decide)).mp q)) ?_
        obtain ⟨rfl, rfl, rfl, rfl, rfl, rfl⟩ := zi6 he
        exact zs6 rfl (zo_l 0) rfl rfl rfl rfl
    refine zl4_z (m1 := zo) (m2 := zo) (m3 := zoA) (m4 := zoA) rfl (zo_l 0) rfl rfl he (fun l2_13 v_place_14 g_numbers_15 g_s_16 again17f again17 hagain17 he => ?_)
    obtain ⟨hn4, he⟩ := zg_e he
    by_cases c5 : l2_13 = (-9 : Int)
    · have he := zif_t c5 he
      refine zif_p ((zo_eq rfl (zo_ln 9) hn4 (by decide)).mpr c5) ?_
      obtain ⟨hn6, he⟩ := zg_e he
      obtain ⟨hn7, he⟩ := zg_e he
      by_cases c8 : v_letterMany ≤ v_place_14
      · have he := zif_t c8 he
        refine zif_p ((zo_le rfl rfl hn6 hn7).mpr c8) ?_
        exact zk4 hk12 rfl rfl rfl rfl he
      · have he := zif_f c8 he
        refine zif_n (fun q => c8 ((zo_le rfl rfl hn6 hn7).mp q)) ?_
        obtain ⟨r20, hb9, he⟩ := zb1_e he
        refine (zb1_s (s_M_here rfl rfl rfl hb9)).trans ?_
        obtain ⟨r22, v_place_23, g_numbers_24, hb10, he⟩ := zb3_e he
        refine (zb3_s (s_M_readsStatement rfl rfl rfl rfl hb10)).trans ?_
        obtain ⟨r26, g_s_27, hb11, he⟩ := zb2_e he
        refine (zb2_s (s_M_isDone rfl rfl rfl hb11)).trans ?_
        obtain ⟨hn12, he⟩ := zg_e he
        by_cases c13 : r26 = (0 : Int)
        · have he := zif_t c13 he
          refine zif_p ((zo_eq rfl (zo_l 0) hn12 (by decide)).mpr c13) ?_
          obtain ⟨x30, hx14⟩ : ∃ y : Int, y = (-2000 : Int) - v_place_14 := ⟨_, rfl⟩
          have he := zn_e hx14 he
          refine zn_z (y := zo x30) ((zo_sub (zo_ln 2000) rfl).trans (congrArg zo hx14.symm)) ?_
          obtain ⟨g_s_31, hb15, he⟩ := zb1_e he
          refine (zb1_s (s_M_lays rfl rfl hb15)).trans ?_
          exact zk4 hagain17 rfl rfl rfl rfl he
        · have he := zif_f c13 he
          refine zif_n (fun q => c13 ((zo_eq rfl (zo_l 0) hn12 (by decide)).mp q)) ?_
          exact zk4 hagain17 rfl rfl rfl rfl he
    · have he := zif_f c5 he
      refine zif_n (fun q => c5 ((zo_eq rfl (zo_ln 9) hn4 (by decide)).mp q)) ?_
      exact zk4 hk12 rfl rfl rfl rfl he
  refine zl4_z (m1 := zo) (m2 := zo) (m3 := zo) (m4 := zoA) (zo_l 0) (zo_ln 9) (zo_l 0) rfl he (fun l1_34 l2_35 v_place_36 g_numbers_37 again38f again38 hagain38 he => ?_)
  obtain ⟨r39, v_place_40, g_numbers_41, hb16, he⟩ := zb3_e he
  refine (zb3_s (s_M_readsStatement rfl rfl rfl rfl hb16)).trans ?_
  refine zj1_z (m1 := zo) he (fun l2_43 he => ?_) (fun k47f k47 hk47 he => ?_)
  · obtain ⟨x44, hx17⟩ : ∃ y : Int, y = l1_34 + (1 : Int) := ⟨_, rfl⟩
    have he := zn_e hx17 he
    refine zn_z (y := zo x44) ((zo_add rfl (zo_l 1)).trans (congrArg zo hx17.symm)) ?_
    obtain ⟨hn18, he⟩ := zg_e he
    by_cases c19 : l2_43 = (-9 : Int)
    · have he := zif_t c19 he
      refine zif_p ((zo_eq rfl (zo_ln 9) hn18 (by decide)).mpr c19) ?_
      obtain ⟨hn20, he⟩ := zg_e he
      obtain ⟨hn21, he⟩ := zg_e he
      by_cases c22 : v_place_40 < v_letterMany
      · have he := zif_t c22 he
        refine zif_p ((zo_lt rfl rfl hn20 hn21).mpr c22) ?_
        exact zk4 hagain38 rfl rfl rfl rfl he
      · have he := zif_f c22 he
        refine zif_n (fun q => c22 ((zo_lt rfl rfl hn20 hn21).mp q)) ?_
        exact zk4 hk33 rfl rfl rfl rfl he
    · have he := zif_f c19 he
      refine zif_n (fun q => c19 ((zo_eq rfl (zo_ln 9) hn18 (by decide)).mp q)) ?_
      exact zk4 hk33 rfl rfl rfl rfl he
  obtain ⟨hn23, he⟩ := zg_e he
  by_cases c24 : r39 = (0 : Int)
  · have he := zif_t c24 he
    refine zif_p ((zo_eq rfl (zo_l 0) hn23 (by decide)).mpr c24) ?_
    obtain ⟨x49, hx25⟩ : ∃ y : Int, y = (-1000 : Int) - v_place_40 := ⟨_, rfl⟩
    have he := zn_e hx25 he
    refine zn_z (y := zo x49) ((zo_sub (zo_ln 1000) rfl).trans (congrArg zo hx25.symm)) ?_
    exact zk1 hk47 rfl he
  · have he := zif_f c24 he
    refine zif_n (fun q => c24 ((zo_eq rfl (zo_l 0) hn23 (by decide)).mp q)) ?_
    exact zk1 hk47 rfl he
theorem s_M_square {g_refusedf : Nat → Int32} {g_refused : Nat → Int} {g_sf : Nat → Int32} {g_s : Nat → Int} {p1f : Int32} {p1 : Int} {p2f : Int32} {p2 : Int} {R0 : Int} {R1 : Nat → Int} (eg_refused : g_refusedf = zoA g_refused) (eg_s : g_sf = zoA g_s) (ep1 : p1f = zo p1) (ep2 : p2f = zo p2) (he : g_M_square g_refused g_s p1 p2 = some (R0, R1)) : f_M_square g_refusedf g_sf p1f p2f = some (zo R0, zoA R1) := by
  subst eg_refused
  subst eg_s
  subst ep1
  subst ep2
  unfold g_M_square at he
  unfold f_M_square
  obtain ⟨r1, hb1, he⟩ := zb1_e he
  refine (zb1_s (s_M_isSquare rfl hb1)).trans ?_
  obtain ⟨hn2, he⟩ := zg_e he
  by_cases c3 : r1 = (0 : Int)
  · have he := zif_t c3 he
    refine zif_p ((zo_eq rfl (zo_l 0) hn2 (by decide)).mpr c3) ?_
    obtain ⟨r24, g_refused_25, hb4, he⟩ := zb2_e he
    refine (zb2_s (s_M_no rfl (zo_ln 1) hb4)).trans ?_
    obtain ⟨rfl, rfl⟩ := zi2 he
    exact zs2 rfl rfl
  · have he := zif_f c3 he
    refine zif_n (fun q => c3 ((zo_eq rfl (zo_l 0) hn2 (by decide)).mp q)) ?_
    obtain ⟨hn5, he⟩ := zg_e he
    by_cases c6 : p2 = (0 : Int)
    · have he := zif_t c6 he
      refine zif_p ((zo_eq rfl (zo_l 0) hn5 (by decide)).mpr c6) ?_
      obtain ⟨hg8, he⟩ := zg_e he
      have hg7 := zin3 (n := 39) (by decide) hg8
      refine zg_z (zo_in rfl hg7) ?_
      obtain ⟨rfl, rfl⟩ := zi2 he
      exact zs2 (zo_rd rfl rfl hg7) rfl
    · have he := zif_f c6 he
      refine zif_n (fun q => c6 ((zo_eq rfl (zo_l 0) hn5 (by decide)).mp q)) ?_
      by_cases c9 : p2 = (1 : Int)
      · have he := zif_t c9 he
        refine zif_p ((zo_eq rfl (zo_l 1) hn5 (by decide)).mpr c9) ?_
        obtain ⟨r7, hb10, he⟩ := zb1_e he
        refine (zb1_s (s_M_canBe rfl rfl hb10)).trans ?_
        obtain ⟨hn11, he⟩ := zg_e he
        by_cases c12 : r7 = (0 : Int)
        · have he := zif_t c12 he
          refine zif_p ((zo_eq rfl (zo_l 0) hn11 (by decide)).mpr c12) ?_
          obtain ⟨rfl, rfl⟩ := zi2 he
          exact zs2 (zo_l 0) rfl
        · have he := zif_f c12 he
          refine zif_n (fun q => c12 ((zo_eq rfl (zo_l 0) hn11 (by decide)).mp q)) ?_
          obtain ⟨rfl, rfl⟩ := zi2 he
          exact zs2 (zo_l 1) rfl
      · have he := zif_f c9 he
        refine zif_n (fun q => c9 ((zo_eq rfl (zo_l 1) hn5 (by decide)).mp q)) ?_
        by_cases c13 : p2 = (2 : Int)
        · have he := zif_t c13 he
          refine zif_p ((zo_eq rfl (zo_l 2) hn5 (by decide)).mpr c13) ?_
          obtain ⟨r11, hb14, he⟩ := zb1_e he
          refine (zb1_s (s_M_wordsOn rfl rfl hb14)).trans ?_
          obtain ⟨rfl, rfl⟩ := zi2 he
          exact zs2 rfl rfl
        · have he := zif_f c13 he
          refine zif_n (fun q => c13 ((zo_eq rfl (zo_l 2) hn5 (by decide)).mp q)) ?_
          by_cases c15 : p2 = (3 : Int)
          · have he := zif_t c15 he
            refine zif_p ((zo_eq rfl (zo_l 3) hn5 (by decide)).mpr c15) ?_
            obtain ⟨hg17, he⟩ := zg_e he
            have hg16 := zin3 (n := 39) (by decide) hg17
            refine zg_z (zo_in rfl hg16) ?_
            obtain ⟨r15, hb18, he⟩ := zb1_e he
            refine (zb1_s (s_M_hears (zo_rd rfl rfl hg16) hb18)).trans ?_
            obtain ⟨rfl, rfl⟩ := zi2 he
            exact zs2 rfl rfl
          · have he := zif_f c15 he
            refine zif_n (fun q => c15 ((zo_eq rfl (zo_l 3) hn5 (by decide)).mp q)) ?_
            by_cases c19 : p2 = (4 : Int)
            · have he := zif_t c19 he
              refine zif_p ((zo_eq rfl (zo_l 4) hn5 (by decide)).mpr c19) ?_
              obtain ⟨r18, hb20, he⟩ := zb1_e he
              refine (zb1_s (s_M_isTurned rfl rfl hb20)).trans ?_
              obtain ⟨hn21, he⟩ := zg_e he
              by_cases c22 : r18 = (0 : Int)
              · have he := zif_t c22 he
                refine zif_p ((zo_eq rfl (zo_l 0) hn21 (by decide)).mpr c22) ?_
                obtain ⟨rfl, rfl⟩ := zi2 he
                exact zs2 (zo_l 0) rfl
              · have he := zif_f c22 he
                refine zif_n (fun q => c22 ((zo_eq rfl (zo_l 0) hn21 (by decide)).mp q)) ?_
                obtain ⟨rfl, rfl⟩ := zi2 he
                exact zs2 (zo_l 1) rfl
            · have he := zif_f c19 he
              refine zif_n (fun q => c19 ((zo_eq rfl (zo_l 4) hn5 (by decide)).mp q)) ?_
              obtain ⟨r21, g_refused_22, hb23, he⟩ := zb2_e he
              refine (zb2_s (s_M_no rfl (zo_ln 2) hb23)).trans ?_
              obtain ⟨rfl, rfl⟩ := zi2 he
              exact zs2 rfl rfl
theorem s_M_turnTo {g_refusedf : Nat → Int32} {g_refused : Nat → Int} {g_sf : Nat → Int32} {g_s : Nat → Int} {p1f : Int32} {p1 : Int} {p2f : Int32} {p2 : Int} {R0 : Int} {R1 : Nat → Int} {R2 : Nat → Int} (eg_refused : g_refusedf = zoA g_refused) (eg_s : g_sf = zoA g_s) (ep1 : p1f = zo p1) (ep2 : p2f = zo p2) (he : g_M_turnTo g_refused g_s p1 p2 = some (R0, R1, R2)) : f_M_turnTo g_refusedf g_sf p1f p2f = some (zo R0, zoA R1, zoA R2) := by
  subst eg_refused
  subst eg_s
  subst ep1
  subst ep2
  unfold g_M_turnTo at he
  unfold f_M_turnTo
  obtain ⟨r1, hb1, he⟩ := zb1_e he
  refine (zb1_s (s_M_isSquare rfl hb1)).trans ?_
  obtain ⟨hn2, he⟩ := zg_e he
  by_cases c3 : r1 = (0 : Int)
  · have he := zif_t c3 he
    refine zif_p ((zo_eq rfl (zo_l 0) hn2 (by decide)).mpr c3) ?_
    obtain ⟨r23, g_refused_24, hb4, he⟩ := zb2_e he
    refine (zb2_s (s_M_no rfl (zo_ln 1) hb4)).trans ?_
    obtain ⟨rfl, rfl, rfl⟩ := zi3 he
    exact zs3 rfl rfl rfl
  · have he := zif_f c3 he
    refine zif_n (fun q => c3 ((zo_eq rfl (zo_l 0) hn2 (by decide)).mp q)) ?_
    obtain ⟨r4, hb5, he⟩ := zb1_e he
    refine (zb1_s (s_M_isIn rfl (zo_l 0) (zo_l 5) hb5)).trans ?_
    obtain ⟨hn6, he⟩ := zg_e he
    by_cases c7 : r4 = (0 : Int)
    · have he := zif_t c7 he
      refine zif_p ((zo_eq rfl (zo_l 0) hn6 (by decide)).mpr c7) ?_
      obtain ⟨r20, g_refused_21, hb8, he⟩ := zb2_e he
      refine (zb2_s (s_M_no rfl (zo_ln 2) hb8)).trans ?_
      obtain ⟨rfl, rfl, rfl⟩ := zi3 he
      exact zs3 rfl rfl rfl
    · have he := zif_f c7 he
      refine zif_n (fun q => c7 ((zo_eq rfl (zo_l 0) hn6 (by decide)).mp q)) ?_
      obtain ⟨hg10, he⟩ := zg_e he
      have hg9 := zin3 (n := 39) (by decide) hg10
      refine zg_z (zo_in (zo_l 36) hg9) ?_
      refine zj1_z (m1 := id) he (fun _ he => ?_) (fun k12f k12 hk12 he => ?_)
      · obtain ⟨hg12, he⟩ := zg_e he
        have hg11 := zin3 (n := 39) (by decide) hg12
        refine zg_z (zo_in rfl hg11) ?_
        obtain ⟨x9, hx13⟩ : ∃ y : Int, y = g_s p1.toNat := ⟨_, rfl⟩
        have he := zn_e hx13 he
        refine zn_z (y := zo x9) ((zo_rd rfl rfl hg11).trans (congrArg zo hx13.symm)) ?_
        refine zg_z (zo_in rfl hg11) ?_
        obtain ⟨g11, hx15⟩ : ∃ y : Nat → Int, y = updI g_s p1.toNat p2 := ⟨_, rfl⟩
        have he := zn_e hx15 he
        refine zn_z (y := zoA g11) ((zo_upd rfl rfl hg11 rfl).trans (congrArg zoA hx15.symm)) ?_
        obtain ⟨rfl, rfl, rfl⟩ := zi3 he
        exact zs3 rfl rfl rfl
      obtain ⟨hn16, he⟩ := zg_e he
      obtain ⟨hn17, he⟩ := zg_e he
      by_cases c18 : p1 = g_s (36 : Int).toNat
      · have he := zif_t c18 he
        refine zif_p ((zo_eq rfl (zo_rd rfl (zo_l 36) hg9) hn16 hn17).mpr c18) ?_
        obtain ⟨r14, hb19, he⟩ := zb1_e he
        refine (zb1_s (s_M_canStand rfl hb19)).trans ?_
        obtain ⟨hn20, he⟩ := zg_e he
        by_cases c21 : r14 = (0 : Int)
        · have he := zif_t c21 he
          refine zif_p ((zo_eq rfl (zo_l 0) hn20 (by decide)).mpr c21) ?_
          obtain ⟨r17, g_refused_18, hb22, he⟩ := zb2_e he
          refine (zb2_s (s_M_no rfl (zo_ln 3) hb22)).trans ?_
          obtain ⟨rfl, rfl, rfl⟩ := zi3 he
          exact zs3 rfl rfl rfl
        · have he := zif_f c21 he
          refine zif_n (fun q => c21 ((zo_eq rfl (zo_l 0) hn20 (by decide)).mp q)) ?_
          exact zk1 hk12 rfl he
      · have he := zif_f c18 he
        refine zif_n (fun q => c18 ((zo_eq rfl (zo_rd rfl (zo_l 36) hg9) hn16 hn17).mp q)) ?_
        exact zk1 hk12 rfl he
theorem s_M_set {g_refusedf : Nat → Int32} {g_refused : Nat → Int} {g_sf : Nat → Int32} {g_s : Nat → Int} {p1f : Int32} {p1 : Int} {p2f : Int32} {p2 : Int} {R0 : Int} {R1 : Nat → Int} {R2 : Nat → Int} (eg_refused : g_refusedf = zoA g_refused) (eg_s : g_sf = zoA g_s) (ep1 : p1f = zo p1) (ep2 : p2f = zo p2) (he : g_M_set g_refused g_s p1 p2 = some (R0, R1, R2)) : f_M_set g_refusedf g_sf p1f p2f = some (zo R0, zoA R1, zoA R2) := by
  subst eg_refused
  subst eg_s
  subst ep1
  subst ep2
  unfold g_M_set at he
  unfold f_M_set
  obtain ⟨r1, hb1, he⟩ := zb1_e he
  refine (zb1_s (s_M_isIn rfl (zo_l 0) (zo_l 2) hb1)).trans ?_
  obtain ⟨hn2, he⟩ := zg_e he
  by_cases c3 : r1 = (0 : Int)
  · have he := zif_t c3 he
    refine zif_p ((zo_eq rfl (zo_l 0) hn2 (by decide)).mpr c3) ?_
    obtain ⟨r36, g_refused_37, hb4, he⟩ := zb2_e he
    refine (zb2_s (s_M_no rfl (zo_ln 2) hb4)).trans ?_
    obtain ⟨rfl, rfl, rfl⟩ := zi3 he
    exact zs3 rfl rfl rfl
  · have he := zif_f c3 he
    refine zif_n (fun q => c3 ((zo_eq rfl (zo_l 0) hn2 (by decide)).mp q)) ?_
    refine zj1_z (m1 := id) he (fun _ he => ?_) (fun k28f k28 hk28 he => ?_)
    · refine zj1_z (m1 := id) he (fun _ he => ?_) (fun k20f k20 hk20 he => ?_)
      · refine zj1_z (m1 := id) he (fun _ he => ?_) (fun k14f k14 hk14 he => ?_)
        · refine zj1_z (m1 := id) he (fun _ he => ?_) (fun k8f k8 hk8 he => ?_)
          · obtain ⟨hg6, he⟩ := zg_e he
            have hg5 := zin3 (n := 39) (by decide) hg6
            refine zg_z (zo_in (zo_add (zo_l 36) rfl) hg5) ?_
            obtain ⟨x5, hx7⟩ : ∃ y : Int, y = g_s ((36 : Int) + p1).toNat := ⟨_, rfl⟩
            have he := zn_e hx7 he
            refine zn_z (y := zo x5) ((zo_rd rfl (zo_add (zo_l 36) rfl) hg5).trans (congrArg zo hx7.symm)) ?_
            refine zg_z (zo_in (zo_add (zo_l 36) rfl) hg5) ?_
            obtain ⟨g7, hx9⟩ : ∃ y : Nat → Int, y = updI g_s ((36 : Int) + p1).toNat p2 := ⟨_, rfl⟩
            have he := zn_e hx9 he
            refine zn_z (y := zoA g7) ((zo_upd rfl (zo_add (zo_l 36) rfl) hg5 rfl).trans (congrArg zoA hx9.symm)) ?_
            obtain ⟨rfl, rfl, rfl⟩ := zi3 he
            exact zs3 rfl rfl rfl
          obtain ⟨hn10, he⟩ := zg_e he
          by_cases c11 : p1 ≤ (0 : Int)
          · have he := zif_t c11 he
            refine zif_p ((zo_le rfl (zo_l 0) hn10 (by decide)).mpr c11) ?_
            exact zk1 hk8 rfl he
          · have he := zif_f c11 he
            refine zif_n (fun q => c11 ((zo_le rfl (zo_l 0) hn10 (by decide)).mp q)) ?_
            obtain ⟨hn12, he⟩ := zg_e he
            by_cases c13 : p2 ≤ (9 : Int)
            · have he := zif_t c13 he
              refine zif_p ((zo_le rfl (zo_l 9) hn12 (by decide)).mpr c13) ?_
              exact zk1 hk8 rfl he
            · have he := zif_f c13 he
              refine zif_n (fun q => c13 ((zo_le rfl (zo_l 9) hn12 (by decide)).mp q)) ?_
              obtain ⟨r11, g_refused_12, hb14, he⟩ := zb2_e he
              refine (zb2_s (s_M_no rfl (zo_ln 6) hb14)).trans ?_
              obtain ⟨rfl, rfl, rfl⟩ := zi3 he
              exact zs3 rfl rfl rfl
        obtain ⟨hn15, he⟩ := zg_e he
        by_cases c16 : p1 ≤ (0 : Int)
        · have he := zif_t c16 he
          refine zif_p ((zo_le rfl (zo_l 0) hn15 (by decide)).mpr c16) ?_
          exact zk1 hk14 rfl he
        · have he := zif_f c16 he
          refine zif_n (fun q => c16 ((zo_le rfl (zo_l 0) hn15 (by decide)).mp q)) ?_
          obtain ⟨hn17, he⟩ := zg_e he
          obtain ⟨hn18, he⟩ := zg_e he
          by_cases c19 : p1 - (1 : Int) ≤ p2
          · have he := zif_t c19 he
            refine zif_p ((zo_le (zo_sub rfl (zo_l 1)) rfl hn17 hn18).mpr c19) ?_
            exact zk1 hk14 rfl he
          · have he := zif_f c19 he
            refine zif_n (fun q => c19 ((zo_le (zo_sub rfl (zo_l 1)) rfl hn17 hn18).mp q)) ?_
            obtain ⟨r17, g_refused_18, hb20, he⟩ := zb2_e he
            refine (zb2_s (s_M_no rfl (zo_ln 4) hb20)).trans ?_
            obtain ⟨rfl, rfl, rfl⟩ := zi3 he
            exact zs3 rfl rfl rfl
      obtain ⟨hn21, he⟩ := zg_e he
      by_cases c22 : p1 = (0 : Int)
      · have he := zif_t c22 he
        refine zif_p ((zo_eq rfl (zo_l 0) hn21 (by decide)).mpr c22) ?_
        obtain ⟨r22, hb23, he⟩ := zb1_e he
        refine (zb1_s (s_M_canBe rfl rfl hb23)).trans ?_
        obtain ⟨hn24, he⟩ := zg_e he
        by_cases c25 : r22 = (0 : Int)
        · have he := zif_t c25 he
          refine zif_p ((zo_eq rfl (zo_l 0) hn24 (by decide)).mpr c25) ?_
          obtain ⟨r25, g_refused_26, hb26, he⟩ := zb2_e he
          refine (zb2_s (s_M_no rfl (zo_ln 3) hb26)).trans ?_
          obtain ⟨rfl, rfl, rfl⟩ := zi3 he
          exact zs3 rfl rfl rfl
        · have he := zif_f c25 he
          refine zif_n (fun q => c25 ((zo_eq rfl (zo_l 0) hn24 (by decide)).mp q)) ?_
          exact zk1 hk20 rfl he
      · have he := zif_f c22 he
        refine zif_n (fun q => c22 ((zo_eq rfl (zo_l 0) hn21 (by decide)).mp q)) ?_
        exact zk1 hk20 rfl he
    obtain ⟨hn27, he⟩ := zg_e he
    by_cases c28 : p1 = (0 : Int)
    · have he := zif_t c28 he
      refine zif_p ((zo_eq rfl (zo_l 0) hn27 (by decide)).mpr c28) ?_
      obtain ⟨r30, hb29, he⟩ := zb1_e he
      refine (zb1_s (s_M_isSquare rfl hb29)).trans ?_
      obtain ⟨hn30, he⟩ := zg_e he
      by_cases c31 : r30 = (0 : Int)
      · have he := zif_t c31 he
        refine zif_p ((zo_eq rfl (zo_l 0) hn30 (by decide)).mpr c31) ?_
        obtain ⟨r33, g_refused_34, hb32, he⟩ := zb2_e he
        refine (zb2_s (s_M_no rfl (zo_ln 1) hb32)).trans ?_
        obtain ⟨rfl, rfl, rfl⟩ := zi3 he
        exact zs3 rfl rfl rfl
      · have he := zif_f c31 he
        refine zif_n (fun q => c31 ((zo_eq rfl (zo_l 0) hn30 (by decide)).mp q)) ?_
        exact zk1 hk28 rfl he
    · have he := zif_f c28 he
      refine zif_n (fun q => c28 ((zo_eq rfl (zo_l 0) hn27 (by decide)).mp q)) ?_
      exact zk1 hk28 rfl he
theorem s_M_heard {g_refusedf : Nat → Int32} {g_refused : Nat → Int} {g_sf : Nat → Int32} {g_s : Nat → Int} {p1f : Int32} {p1 : Int} {R0 : Int} {R1 : Nat → Int} (eg_refused : g_refusedf = zoA g_refused) (eg_s : g_sf = zoA g_s) (ep1 : p1f = zo p1) (he : g_M_heard g_refused g_s p1 = some (R0, R1)) : f_M_heard g_refusedf g_sf p1f = some (zo R0, zoA R1) := by
  subst eg_refused
  subst eg_s
  subst ep1
  unfold g_M_heard at he
  unfold f_M_heard
  obtain ⟨r1, hb1, he⟩ := zb1_e he
  refine (zb1_s (s_M_isSquare rfl hb1)).trans ?_
  obtain ⟨hn2, he⟩ := zg_e he
  by_cases c3 : r1 = (0 : Int)
  · have he := zif_t c3 he
    refine zif_p ((zo_eq rfl (zo_l 0) hn2 (by decide)).mpr c3) ?_
    obtain ⟨r4, g_refused_5, hb4, he⟩ := zb2_e he
    refine (zb2_s (s_M_no rfl (zo_ln 1) hb4)).trans ?_
    obtain ⟨rfl, rfl⟩ := zi2 he
    exact zs2 rfl rfl
  · have he := zif_f c3 he
    refine zif_n (fun q => c3 ((zo_eq rfl (zo_l 0) hn2 (by decide)).mp q)) ?_
    obtain ⟨r7, hb5, he⟩ := zb1_e he
    refine (zb1_s (s_M_heardBy rfl rfl hb5)).trans ?_
    obtain ⟨rfl, rfl⟩ := zi2 he
    exact zs2 rfl rfl
theorem s_M_areWays {v_rowManyf : Int32} {v_rowMany : Int} {g_rowf : Nat → Int32} {g_row : Nat → Int} {R0 : Int} (ev_rowMany : v_rowManyf = zo v_rowMany) (eg_row : g_rowf = zoA g_row) (he : g_M_areWays v_rowMany g_row = some (R0)) : f_M_areWays v_rowManyf g_rowf = some (zo R0) := by
  subst ev_rowMany
  subst eg_row
  unfold g_M_areWays at he
  unfold f_M_areWays
  refine zl1_z (m1 := zo) (zo_l 0) he (fun l1_1 again2f again2 hagain2 he => ?_)
  obtain ⟨hn1, he⟩ := zg_e he
  obtain ⟨hn2, he⟩ := zg_e he
  by_cases c3 : v_rowMany ≤ l1_1
  · have he := zif_t c3 he
    refine zif_p ((zo_le rfl rfl hn1 hn2).mpr c3) ?_
    obtain ⟨rfl⟩ := zi1 he
    exact zs1 (zo_l 1)
  · have he := zif_f c3 he
    refine zif_n (fun q => c3 ((zo_le rfl rfl hn1 hn2).mp q)) ?_
    obtain ⟨hg5, he⟩ := zg_e he
    have hg4 := zin3 (n := 20) (by decide) hg5
    refine zg_z (zo_in rfl hg4) ?_
    obtain ⟨hn6, he⟩ := zg_e he
    by_cases c7 : g_row l1_1.toNat < (4 : Int)
    · have he := zif_t c7 he
      refine zif_p ((zo_lt (zo_rd rfl rfl hg4) (zo_l 4) hn6 (by decide)).mpr c7) ?_
      obtain ⟨x6, hx8⟩ : ∃ y : Int, y = l1_1 + (1 : Int) := ⟨_, rfl⟩
      have he := zn_e hx8 he
      refine zn_z (y := zo x6) ((zo_add rfl (zo_l 1)).trans (congrArg zo hx8.symm)) ?_
      exact zk1 hagain2 rfl he
    · have he := zif_f c7 he
      refine zif_n (fun q => c7 ((zo_lt (zo_rd rfl rfl hg4) (zo_l 4) hn6 (by decide)).mp q)) ?_
      obtain ⟨rfl⟩ := zi1 he
      exact zs1 (zo_l 0)
theorem s_M_firstWrong {v_rowManyf : Int32} {v_rowMany : Int} {g_rowf : Nat → Int32} {g_row : Nat → Int} {g_sf : Nat → Int32} {g_s : Nat → Int} {R0 : Int} (ev_rowMany : v_rowManyf = zo v_rowMany) (eg_row : g_rowf = zoA g_row) (eg_s : g_sf = zoA g_s) (he : g_M_firstWrong v_rowMany g_row g_s = some (R0)) : f_M_firstWrong v_rowManyf g_rowf g_sf = some (zo R0) := by
  subst ev_rowMany
  subst eg_row
  subst eg_s
  unfold g_M_firstWrong at he
  unfold f_M_firstWrong
  obtain ⟨hg2, he⟩ := zg_e he
  have hg1 := zin3 (n := 39) (by decide) hg2
  refine zg_z (zo_in (zo_l 36) hg1) ?_
  obtain ⟨x2, hx3⟩ : ∃ y : Int, y = g_s (36 : Int).toNat := ⟨_, rfl⟩
  have he := zn_e hx3 he
  refine zn_z (y := zo x2) ((zo_rd rfl (zo_l 36) hg1).trans (congrArg zo hx3.symm)) ?_
  refine zl2_z (m1 := zo) (m2 := zo) rfl (zo_l 0) he (fun l1_3 l2_4 again5f again5 hagain5 he => ?_)
  obtain ⟨hn4, he⟩ := zg_e he
  obtain ⟨hn5, he⟩ := zg_e he
  by_cases c6 : v_rowMany ≤ l2_4
  · have he := zif_t c6 he
    refine zif_p ((zo_le rfl rfl hn4 hn5).mpr c6) ?_
    obtain ⟨rfl⟩ := zi1 he
    exact zs1 (zo_ln 9)
  · have he := zif_f c6 he
    refine zif_n (fun q => c6 ((zo_le rfl rfl hn4 hn5).mp q)) ?_
    obtain ⟨hg8, he⟩ := zg_e he
    have hg7 := zin3 (n := 20) (by decide) hg8
    refine zg_z (zo_in rfl hg7) ?_
    obtain ⟨r8, hb9, he⟩ := zb1_e he
    refine (zb1_s (s_M_gone rfl rfl (zo_rd rfl rfl hg7) hb9)).trans ?_
    obtain ⟨hn10, he⟩ := zg_e he
    by_cases c11 : (0 : Int) ≤ r8
    · have he := zif_t c11 he
      refine zif_p ((zo_le (zo_l 0) rfl (by decide) hn10).mpr c11) ?_
      obtain ⟨x11, hx12⟩ : ∃ y : Int, y = l2_4 + (1 : Int) := ⟨_, rfl⟩
      have he := zn_e hx12 he
      refine zn_z (y := zo x11) ((zo_add rfl (zo_l 1)).trans (congrArg zo hx12.symm)) ?_
      exact zk2 hagain5 rfl rfl he
    · have he := zif_f c11 he
      refine zif_n (fun q => c11 ((zo_le (zo_l 0) rfl (by decide) hn10).mp q)) ?_
      obtain ⟨rfl⟩ := zi1 he
      exact zs1 rfl
theorem s_M_cutsOf {g_sf : Nat → Int32} {g_s : Nat → Int} {p1f : Int32} {p1 : Int} {R0 : Int} (eg_s : g_sf = zoA g_s) (ep1 : p1f = zo p1) (he : g_M_cutsOf g_s p1 = some (R0)) : f_M_cutsOf g_sf p1f = some (zo R0) := by
  subst eg_s
  subst ep1
  unfold g_M_cutsOf at he
  unfold f_M_cutsOf
  obtain ⟨hn1, he⟩ := zg_e he
  by_cases c2 : p1 = (0 : Int)
  · have he := zif_t c2 he
    refine zif_p ((zo_eq rfl (zo_l 0) hn1 (by decide)).mpr c2) ?_
    obtain ⟨rfl⟩ := zi1 he
    exact zs1 (zo_l 0)
  · have he := zif_f c2 he
    refine zif_n (fun q => c2 ((zo_eq rfl (zo_l 0) hn1 (by decide)).mp q)) ?_
    obtain ⟨hg4, he⟩ := zg_e he
    have hg3 := zin3 (n := 39) (by decide) hg4
    refine zg_z (zo_in (zo_l 38) hg3) ?_
    obtain ⟨hn6, he⟩ := zg_e he
    refine zg_z (zo_ne0 (zo_rd rfl (zo_l 38) hg3) hn6) ?_
    obtain ⟨hn7, he⟩ := zg_e he
    obtain ⟨rfl⟩ := zi1 he
    exact zs1 (zo_div (zo_sub rfl (zo_l 1)) (zo_rd rfl (zo_l 38) hg3) hn7 hn6)
theorem s_M_walk {v_rowManyf : Int32} {v_rowMany : Int} {g_refusedf : Nat → Int32} {g_refused : Nat → Int} {g_rowf : Nat → Int32} {g_row : Nat → Int} {g_sf : Nat → Int32} {g_s : Nat → Int} {p1f : Int32} {p1 : Int} {R0 : Int} {R1 : Nat → Int} (ev_rowMany : v_rowManyf = zo v_rowMany) (eg_refused : g_refusedf = zoA g_refused) (eg_row : g_rowf = zoA g_row) (eg_s : g_sf = zoA g_s) (ep1 : p1f = zo p1) (he : g_M_walk v_rowMany g_refused g_row g_s p1 = some (R0, R1)) : f_M_walk v_rowManyf g_refusedf g_rowf g_sf p1f = some (zo R0, zoA R1) := by
  subst ev_rowMany
  subst eg_refused
  subst eg_row
  subst eg_s
  subst ep1
  unfold g_M_walk at he
  unfold f_M_walk
  obtain ⟨r1, hb1, he⟩ := zb1_e he
  refine (zb1_s (s_M_isIn rfl (zo_l 0) (zo_l 6) hb1)).trans ?_
  obtain ⟨hn2, he⟩ := zg_e he
  by_cases c3 : r1 = (0 : Int)
  · have he := zif_t c3 he
    refine zif_p ((zo_eq rfl (zo_l 0) hn2 (by decide)).mpr c3) ?_
    obtain ⟨r87, g_refused_88, hb4, he⟩ := zb2_e he
    refine (zb2_s (s_M_no rfl (zo_ln 2) hb4)).trans ?_
    obtain ⟨rfl, rfl⟩ := zi2 he
    exact zs2 rfl rfl
  · have he := zif_f c3 he
    refine zif_n (fun q => c3 ((zo_eq rfl (zo_l 0) hn2 (by decide)).mp q)) ?_
    obtain ⟨r4, hb5, he⟩ := zb1_e he
    refine (zb1_s (s_M_areWays rfl rfl hb5)).trans ?_
    obtain ⟨hn6, he⟩ := zg_e he
    by_cases c7 : r4 = (0 : Int)
    · have he := zif_t c7 he
      refine zif_p ((zo_eq rfl (zo_l 0) hn6 (by decide)).mpr c7) ?_
      obtain ⟨r84, g_refused_85, hb8, he⟩ := zb2_e he
      refine (zb2_s (s_M_no rfl (zo_ln 3) hb8)).trans ?_
      obtain ⟨rfl, rfl⟩ := zi2 he
      exact zs2 rfl rfl
    · have he := zif_f c7 he
      refine zif_n (fun q => c7 ((zo_eq rfl (zo_l 0) hn6 (by decide)).mp q)) ?_
      obtain ⟨r7, hb9, he⟩ := zb1_e he
      refine (zb1_s (s_M_firstWrong rfl rfl rfl hb9)).trans ?_
      obtain ⟨hn10, he⟩ := zg_e he
      by_cases c11 : p1 = (0 : Int)
      · have he := zif_t c11 he
        refine zif_p ((zo_eq rfl (zo_l 0) hn10 (by decide)).mpr c11) ?_
        obtain ⟨rfl, rfl⟩ := zi2 he
        exact zs2 rfl rfl
      · have he := zif_f c11 he
        refine zif_n (fun q => c11 ((zo_eq rfl (zo_l 0) hn10 (by decide)).mp q)) ?_
        refine zj1_z (m1 := zo) he (fun s10 he => ?_) (fun k82f k82 hk82 he => ?_)
        · obtain ⟨hg13, he⟩ := zg_e he
          have hg12 := zin3 (n := 39) (by decide) hg13
          refine zg_z (zo_in (zo_l 36) hg12) ?_
          obtain ⟨x12, hx14⟩ : ∃ y : Int, y = g_s (36 : Int).toNat := ⟨_, rfl⟩
          have he := zn_e hx14 he
          refine zn_z (y := zo x12) ((zo_rd rfl (zo_l 36) hg12).trans (congrArg zo hx14.symm)) ?_
          refine zj6_z (m1 := zo) (m2 := zo) (m3 := zo) (m4 := zo) (m5 := zo) (m6 := zo) he (fun l4_13 l6_14 l7_15 l8_16 l9_17 l11_18 he => ?_) (fun k24f k24 hk24 he => ?_)
          · by_cases c15 : p1 = (1 : Int)
            · have he := zif_t c15 he
              refine zif_p ((zo_eq rfl (zo_l 1) hn10 (by decide)).mpr c15) ?_
              obtain ⟨rfl, rfl⟩ := zi2 he
              exact zs2 rfl rfl
            · have he := zif_f c15 he
              refine zif_n (fun q => c15 ((zo_eq rfl (zo_l 1) hn10 (by decide)).mp q)) ?_
              by_cases c16 : p1 = (2 : Int)
              · have he := zif_t c16 he
                refine zif_p ((zo_eq rfl (zo_l 2) hn10 (by decide)).mpr c16) ?_
                obtain ⟨rfl, rfl⟩ := zi2 he
                exact zs2 rfl rfl
              · have he := zif_f c16 he
                refine zif_n (fun q => c16 ((zo_eq rfl (zo_l 2) hn10 (by decide)).mp q)) ?_
                by_cases c17 : p1 = (3 : Int)
                · have he := zif_t c17 he
                  refine zif_p ((zo_eq rfl (zo_l 3) hn10 (by decide)).mpr c17) ?_
                  obtain ⟨rfl, rfl⟩ := zi2 he
                  exact zs2 rfl rfl
                · have he := zif_f c17 he
                  refine zif_n (fun q => c17 ((zo_eq rfl (zo_l 3) hn10 (by decide)).mp q)) ?_
                  by_cases c18 : p1 = (4 : Int)
                  · have he := zif_t c18 he
                    refine zif_p ((zo_eq rfl (zo_l 4) hn10 (by decide)).mpr c18) ?_
                    obtain ⟨rfl, rfl⟩ := zi2 he
                    exact zs2 (zo_add rfl rfl) rfl
                  · have he := zif_f c18 he
                    refine zif_n (fun q => c18 ((zo_eq rfl (zo_l 4) hn10 (by decide)).mp q)) ?_
                    by_cases c19 : p1 = (5 : Int)
                    · have he := zif_t c19 he
                      refine zif_p ((zo_eq rfl (zo_l 5) hn10 (by decide)).mpr c19) ?_
                      obtain ⟨rfl, rfl⟩ := zi2 he
                      exact zs2 rfl rfl
                    · have he := zif_f c19 he
                      refine zif_n (fun q => c19 ((zo_eq rfl (zo_l 5) hn10 (by decide)).mp q)) ?_
                      obtain ⟨rfl, rfl⟩ := zi2 he
                      exact zs2 rfl rfl
          refine zl9_z (m1 := zo) (m2 := zo) (m3 := zo) (m4 := zo) (m5 := zo) (m6 := zo) (m7 := zo) (m8 := zo) (m9 := zo) rfl (zo_l 4) (zo_l 0) (zo_l 0) (zo_l 0) (zo_l 0) (zo_l 0) (zo_l 0) (zo_l 0) he (fun l4_25 l5_26 l6_27 l7_28 l8_29 l9_30 l10_31 l11_32 l12_33 again34f again34 hagain34 he => ?_)
          obtain ⟨hn20, he⟩ := zg_e he
          obtain ⟨hn21, he⟩ := zg_e he
          by_cases c22 : s10 < l12_33
          · have he := zif_t c22 he
            refine zif_p ((zo_lt rfl rfl hn20 hn21).mpr c22) ?_
            exact zk6 hk24 rfl rfl rfl rfl rfl rfl he
          · have he := zif_f c22 he
            refine zif_n (fun q => c22 ((zo_lt rfl rfl hn20 hn21).mp q)) ?_
            refine zj1_z (m1 := zo) he (fun s36 he => ?_) (fun k75f k75 hk75 he => ?_)
            · refine zj1_z (m1 := zo) he (fun s37 he => ?_) (fun k71f k71 hk71 he => ?_)
              · obtain ⟨x38, hx23⟩ : ∃ y : Int, y = l6_27 + s37 := ⟨_, rfl⟩
                have he := zn_e hx23 he
                refine zn_z (y := zo x38) ((zo_add rfl rfl).trans (congrArg zo hx23.symm)) ?_
                obtain ⟨hg25, he⟩ := zg_e he
                have hg24 := zin3 (n := 39) (by decide) hg25
                refine zg_z (zo_in (zo_l 37) hg24) ?_
                obtain ⟨r40, hb26, he⟩ := zb1_e he
                refine (zb1_s (s_M_heardBy rfl rfl hb26)).trans ?_
                obtain ⟨x42, hx27⟩ : ∃ y : Int, y = l9_30 + ((s37 * (g_s (37 : Int).toNat)) * r40) := ⟨_, rfl⟩
                have he := zn_e hx27 he
                refine zn_z (y := zo x42) ((zo_add rfl (zo_mul (zo_mul rfl (zo_rd rfl (zo_l 37) hg24)) rfl)).trans (congrArg zo hx27.symm)) ?_
                obtain ⟨x43, hx28⟩ : ∃ y : Int, y = l10_31 + s37 := ⟨_, rfl⟩
                have he := zn_e hx28 he
                refine zn_z (y := zo x43) ((zo_add rfl rfl).trans (congrArg zo hx28.symm)) ?_
                refine zj3_z (m1 := zo) (m2 := zo) (m3 := zo) he (fun l8_44 l10_45 l11_46 he => ?_) (fun k61f k61 hk61 he => ?_)
                · refine zj1_z (m1 := zo) he (fun s47 he => ?_) (fun k59f k59 hk59 he => ?_)
                  · obtain ⟨x48, hx29⟩ : ∃ y : Int, y = l7_28 + s47 := ⟨_, rfl⟩
                    have he := zn_e hx29 he
                    refine zn_z (y := zo x48) ((zo_add rfl rfl).trans (congrArg zo hx29.symm)) ?_
                    refine zj2_z (m1 := zo) (m2 := zo) he (fun l4_49 l5_50 he => ?_) (fun k52f k52 hk52 he => ?_)
                    · obtain ⟨x51, hx30⟩ : ∃ y : Int, y = l12_33 + (1 : Int) := ⟨_, rfl⟩
                      have he := zn_e hx30 he
                      refine zn_z (y := zo x51) ((zo_add rfl (zo_l 1)).trans (congrArg zo hx30.symm)) ?_
                      exact zk9 hagain34 rfl rfl rfl rfl rfl rfl rfl rfl rfl he
                    by_cases c31 : s10 ≤ l12_33
                    · have he := zif_t c31 he
                      refine zif_p ((zo_le rfl rfl hn20 hn21).mpr c31) ?_
                      exact zk2 hk52 rfl rfl he
                    · have he := zif_f c31 he
                      refine zif_n (fun q => c31 ((zo_le rfl rfl hn20 hn21).mp q)) ?_
                      obtain ⟨hg33, he⟩ := zg_e he
                      have hg32 := zin3 (n := 20) (by decide) hg33
                      refine zg_z (zo_in rfl hg32) ?_
                      obtain ⟨r55, hb34, he⟩ := zb1_e he
                      refine (zb1_s (s_M_gone rfl rfl (zo_rd rfl rfl hg32) hb34)).trans ?_
                      refine zg_z (zo_in rfl hg32) ?_
                      obtain ⟨x58, hx36⟩ : ∃ y : Int, y = g_row l12_33.toNat := ⟨_, rfl⟩
                      have he := zn_e hx36 he
                      refine zn_z (y := zo x58) ((zo_rd rfl rfl hg32).trans (congrArg zo hx36.symm)) ?_
                      exact zk2 hk52 rfl rfl he
                  obtain ⟨hn37, he⟩ := zg_e he
                  by_cases c38 : s36 = (0 : Int)
                  · have he := zif_t c38 he
                    refine zif_p ((zo_eq rfl (zo_l 0) hn37 (by decide)).mpr c38) ?_
                    exact zk1 hk59 (zo_l 0) he
                  · have he := zif_f c38 he
                    refine zif_n (fun q => c38 ((zo_eq rfl (zo_l 0) hn37 (by decide)).mp q)) ?_
                    exact zk1 hk59 (zo_l 1) he
                refine zj1_z (m1 := id) he (fun _ he => ?_) (fun k68f k68 hk68 he => ?_)
                · obtain ⟨r62, hb39, he⟩ := zb1_e he
                  refine (zb1_s (s_M_cutsOf rfl rfl hb39)).trans ?_
                  obtain ⟨x64, hx40⟩ : ∃ y : Int, y = l8_29 + r62 := ⟨_, rfl⟩
                  have he := zn_e hx40 he
                  refine zn_z (y := zo x64) ((zo_add rfl rfl).trans (congrArg zo hx40.symm)) ?_
                  refine zj1_z (m1 := zo) he (fun s65 he => ?_) (fun k66f k66 hk66 he => ?_)
                  · exact zk3 hk61 rfl (zo_l 0) rfl he
                  obtain ⟨hn41, he⟩ := zg_e he
                  obtain ⟨hn42, he⟩ := zg_e he
                  by_cases c43 : x43 ≤ l11_32
                  · have he := zif_t c43 he
                    refine zif_p ((zo_le rfl rfl hn41 hn42).mpr c43) ?_
                    exact zk1 hk66 rfl he
                  · have he := zif_f c43 he
                    refine zif_n (fun q => c43 ((zo_le rfl rfl hn41 hn42).mp q)) ?_
                    exact zk1 hk66 rfl he
                obtain ⟨hn44, he⟩ := zg_e he
                by_cases c45 : s36 = (0 : Int)
                · have he := zif_t c45 he
                  refine zif_p ((zo_eq rfl (zo_l 0) hn44 (by decide)).mpr c45) ?_
                  by_cases c46 : l12_33 = s10
                  · have he := zif_t c46 he
                    refine zif_p ((zo_eq rfl rfl hn21 hn20).mpr c46) ?_
                    exact zk1 hk68 rfl he
                  · have he := zif_f c46 he
                    refine zif_n (fun q => c46 ((zo_eq rfl rfl hn21 hn20).mp q)) ?_
                    exact zk3 hk61 rfl rfl rfl he
                · have he := zif_f c45 he
                  refine zif_n (fun q => c45 ((zo_eq rfl (zo_l 0) hn44 (by decide)).mp q)) ?_
                  exact zk1 hk68 rfl he
              obtain ⟨hn47, he⟩ := zg_e he
              by_cases c48 : s36 = (0 : Int)
              · have he := zif_t c48 he
                refine zif_p ((zo_eq rfl (zo_l 0) hn47 (by decide)).mpr c48) ?_
                obtain ⟨r73, hb49, he⟩ := zb1_e he
                refine (zb1_s (s_M_wordsOn rfl rfl hb49)).trans ?_
                exact zk1 hk71 rfl he
              · have he := zif_f c48 he
                refine zif_n (fun q => c48 ((zo_eq rfl (zo_l 0) hn47 (by decide)).mp q)) ?_
                exact zk1 hk71 (zo_l 0) he
            refine zj1_z (m1 := id) he (fun _ he => ?_) (fun k76f k76 hk76 he => ?_)
            · exact zk1 hk75 (zo_l 0) he
            by_cases c50 : s10 ≤ l12_33
            · have he := zif_t c50 he
              refine zif_p ((zo_le rfl rfl hn20 hn21).mpr c50) ?_
              exact zk1 hk76 rfl he
            · have he := zif_f c50 he
              refine zif_n (fun q => c50 ((zo_le rfl rfl hn20 hn21).mp q)) ?_
              obtain ⟨hg52, he⟩ := zg_e he
              have hg51 := zin3 (n := 20) (by decide) hg52
              refine zg_z (zo_in rfl hg51) ?_
              obtain ⟨r79, hb53, he⟩ := zb1_e he
              refine (zb1_s (s_M_isCorner rfl rfl rfl (zo_rd rfl rfl hg51) hb53)).trans ?_
              obtain ⟨hn54, he⟩ := zg_e he
              by_cases c55 : r79 = (0 : Int)
              · have he := zif_t c55 he
                refine zif_p ((zo_eq rfl (zo_l 0) hn54 (by decide)).mpr c55) ?_
                exact zk1 hk76 rfl he
              · have he := zif_f c55 he
                refine zif_n (fun q => c55 ((zo_eq rfl (zo_l 0) hn54 (by decide)).mp q)) ?_
                exact zk1 hk75 (zo_l 1) he
        obtain ⟨hn56, he⟩ := zg_e he
        by_cases c57 : (0 : Int) ≤ r7
        · have he := zif_t c57 he
          refine zif_p ((zo_le (zo_l 0) rfl (by decide) hn56).mpr c57) ?_
          exact zk1 hk82 rfl he
        · have he := zif_f c57 he
          refine zif_n (fun q => c57 ((zo_le (zo_l 0) rfl (by decide) hn56).mp q)) ?_
          exact zk1 hk82 rfl he
theorem s_M_at {p0f : Int32} {p0 : Int} {p1f : Int32} {p1 : Int} {R0 : Int} (ep0 : p0f = zo p0) (ep1 : p1f = zo p1) (he : g_M_at p0 p1 = some (R0)) : f_M_at p0f p1f = some (zo R0) := by
  subst ep0
  subst ep1
  unfold g_M_at at he
  unfold f_M_at
  obtain ⟨rfl⟩ := zi1 he
  exact zs1 (zo_add (zo_mul rfl (zo_l 5)) rfl)
theorem s_M_stepsAll {g_sf : Nat → Int32} {g_s : Nat → Int} {g_stepsFromf : Nat → Int32} {g_stepsFrom : Nat → Int} {p1f : Int32} {p1 : Int} {R0 : Nat → Int} (eg_s : g_sf = zoA g_s) (eg_stepsFrom : g_stepsFromf = zoA g_stepsFrom) (ep1 : p1f = zo p1) (he : g_M_stepsAll g_s g_stepsFrom p1 = some (R0)) : f_M_stepsAll g_sf g_stepsFromf p1f = some (zoA R0) := by
  subst eg_s
  subst eg_stepsFrom
  subst ep1
  unfold g_M_stepsAll at he
  unfold f_M_stepsAll
  refine zj1_z (m1 := zoA) he (fun g_stepsFrom_1 he => ?_) (fun k37f k37 hk37 he => ?_)
  · refine zl2_z (m1 := zo) (m2 := zoA) (zo_l 1) rfl he (fun l2_2 g_stepsFrom_3 again4f again4 hagain4 he => ?_)
    obtain ⟨hn1, he⟩ := zg_e he
    by_cases c2 : l2_2 = (0 : Int)
    · have he := zif_t c2 he
      refine zif_p ((zo_eq rfl (zo_l 0) hn1 (by decide)).mpr c2) ?_
      obtain ⟨rfl⟩ := zi1 he
      exact zs1 rfl
    · have he := zif_f c2 he
      refine zif_n (fun q => c2 ((zo_eq rfl (zo_l 0) hn1 (by decide)).mp q)) ?_
      refine zj2_z (m1 := zo) (m2 := zoA) he (fun l2_6 g_stepsFrom_7 he => ?_) (fun k8f k8 hk8 he => ?_)
      · exact zk2 hagain4 rfl rfl he
      refine zl3_z (m1 := zo) (m2 := zo) (m3 := zoA) (zo_l 0) (zo_l 0) rfl he (fun l2_9 l3_10 g_stepsFrom_11 again12f again12 hagain12 he => ?_)
      obtain ⟨hn3, he⟩ := zg_e he
      by_cases c4 : (36 : Int) ≤ l3_10
      · have he := zif_t c4 he
        refine zif_p ((zo_le (zo_l 36) rfl (by decide) hn3).mpr c4) ?_
        exact zk2 hk8 rfl rfl he
      · have he := zif_f c4 he
        refine zif_n (fun q => c4 ((zo_le (zo_l 36) rfl (by decide) hn3).mp q)) ?_
        refine zj2_z (m1 := zo) (m2 := zoA) he (fun l2_14 g_stepsFrom_15 he => ?_) (fun k17f k17 hk17 he => ?_)
        · obtain ⟨x16, hx5⟩ : ∃ y : Int, y = l3_10 + (1 : Int) := ⟨_, rfl⟩
          have he := zn_e hx5 he
          refine zn_z (y := zo x16) ((zo_add rfl (zo_l 1)).trans (congrArg zo hx5.symm)) ?_
          exact zk3 hagain12 rfl rfl rfl he
        refine zl3_z (m1 := zo) (m2 := zo) (m3 := zoA) rfl (zo_l 0) rfl he (fun l2_18 l4_19 g_stepsFrom_20 again21f again21 hagain21 he => ?_)
        obtain ⟨hn6, he⟩ := zg_e he
        by_cases c7 : (4 : Int) ≤ l4_19
        · have he := zif_t c7 he
          refine zif_p ((zo_le (zo_l 4) rfl (by decide) hn6).mpr c7) ?_
          exact zk2 hk17 rfl rfl he
        · have he := zif_f c7 he
          refine zif_n (fun q => c7 ((zo_le (zo_l 4) rfl (by decide) hn6).mp q)) ?_
          obtain ⟨r23, hb8, he⟩ := zb1_e he
          refine (zb1_s (s_M_gone rfl rfl rfl hb8)).trans ?_
          refine zj2_z (m1 := zo) (m2 := zoA) he (fun l2_25 g_stepsFrom_26 he => ?_) (fun k28f k28 hk28 he => ?_)
          · obtain ⟨x27, hx9⟩ : ∃ y : Int, y = l4_19 + (1 : Int) := ⟨_, rfl⟩
            have he := zn_e hx9 he
            refine zn_z (y := zo x27) ((zo_add rfl (zo_l 1)).trans (congrArg zo hx9.symm)) ?_
            exact zk3 hagain21 rfl rfl rfl he
          obtain ⟨hn10, he⟩ := zg_e he
          by_cases c11 : r23 < (0 : Int)
          · have he := zif_t c11 he
            refine zif_p ((zo_lt rfl (zo_l 0) hn10 (by decide)).mpr c11) ?_
            exact zk2 hk28 rfl rfl he
          · have he := zif_f c11 he
            refine zif_n (fun q => c11 ((zo_lt rfl (zo_l 0) hn10 (by decide)).mp q)) ?_
            obtain ⟨hg13, he⟩ := zg_e he
            have hg12 := zin3 (n := 36) (by decide) hg13
            refine zg_z (zo_in rfl hg12) ?_
            obtain ⟨hg15, he⟩ := zg_e he
            have hg14 := zin3 (n := 36) (by decide) hg15
            refine zg_z (zo_in rfl hg14) ?_
            obtain ⟨hn16, he⟩ := zg_e he
            obtain ⟨hn17, he⟩ := zg_e he
            by_cases c18 : (g_stepsFrom_20 l3_10.toNat) + (1 : Int) < g_stepsFrom_20 r23.toNat
            · have he := zif_t c18 he
              refine zif_p ((zo_lt (zo_add (zo_rd rfl rfl hg12) (zo_l 1)) (zo_rd rfl rfl hg14) hn16 hn17).mpr c18) ?_
              refine zg_z (zo_in rfl hg12) ?_
              obtain ⟨x34, hx20⟩ : ∃ y : Int, y = (g_stepsFrom_20 l3_10.toNat) + (1 : Int) := ⟨_, rfl⟩
              have he := zn_e hx20 he
              refine zn_z (y := zo x34) ((zo_add (zo_rd rfl rfl hg12) (zo_l 1)).trans (congrArg zo hx20.symm)) ?_
              refine zg_z (zo_in rfl hg14) ?_
              obtain ⟨g36, hx22⟩ : ∃ y : Nat → Int, y = updI g_stepsFrom_20 r23.toNat x34 := ⟨_, rfl⟩
              have he := zn_e hx22 he
              refine zn_z (y := zoA g36) ((zo_upd rfl rfl hg14 rfl).trans (congrArg zoA hx22.symm)) ?_
              exact zk2 hk28 (zo_l 1) rfl he
            · have he := zif_f c18 he
              refine zif_n (fun q => c18 ((zo_lt (zo_add (zo_rd rfl rfl hg12) (zo_l 1)) (zo_rd rfl rfl hg14) hn16 hn17).mp q)) ?_
              exact zk2 hk28 rfl rfl he
  refine zl2_z (m1 := zo) (m2 := zoA) (zo_l 0) rfl he (fun l2_38 g_stepsFrom_39 again40f again40 hagain40 he => ?_)
  obtain ⟨hn23, he⟩ := zg_e he
  by_cases c24 : (36 : Int) ≤ l2_38
  · have he := zif_t c24 he
    refine zif_p ((zo_le (zo_l 36) rfl (by decide) hn23).mpr c24) ?_
    exact zk1 hk37 rfl he
  · have he := zif_f c24 he
    refine zif_n (fun q => c24 ((zo_le (zo_l 36) rfl (by decide) hn23).mp q)) ?_
    refine zj1_z (m1 := zo) he (fun s42 he => ?_) (fun k46f k46 hk46 he => ?_)
    · obtain ⟨hg26, he⟩ := zg_e he
      have hg25 := zin3 (n := 36) (by decide) hg26
      refine zg_z (zo_in rfl hg25) ?_
      obtain ⟨g44, hx27⟩ : ∃ y : Nat → Int, y = updI g_stepsFrom_39 l2_38.toNat s42 := ⟨_, rfl⟩
      have he := zn_e hx27 he
      refine zn_z (y := zoA g44) ((zo_upd rfl rfl hg25 rfl).trans (congrArg zoA hx27.symm)) ?_
      obtain ⟨x45, hx28⟩ : ∃ y : Int, y = l2_38 + (1 : Int) := ⟨_, rfl⟩
      have he := zn_e hx28 he
      refine zn_z (y := zo x45) ((zo_add rfl (zo_l 1)).trans (congrArg zo hx28.symm)) ?_
      exact zk2 hagain40 rfl rfl he
    refine zj1_z (m1 := id) he (fun _ he => ?_) (fun k47f k47 hk47 he => ?_)
    · exact zk1 hk46 (zo_l 1000000000) he
    obtain ⟨hn29, he⟩ := zg_e he
    by_cases c30 : l2_38 = p1
    · have he := zif_t c30 he
      refine zif_p ((zo_eq rfl rfl hn23 hn29).mpr c30) ?_
      obtain ⟨r49, hb31, he⟩ := zb1_e he
      refine (zb1_s (s_M_canBe rfl rfl hb31)).trans ?_
      obtain ⟨hn32, he⟩ := zg_e he
      by_cases c33 : r49 = (0 : Int)
      · have he := zif_t c33 he
        refine zif_p ((zo_eq rfl (zo_l 0) hn32 (by decide)).mpr c33) ?_
        exact zk1 hk47 rfl he
      · have he := zif_f c33 he
        refine zif_n (fun q => c33 ((zo_eq rfl (zo_l 0) hn32 (by decide)).mp q)) ?_
        exact zk1 hk46 (zo_l 0) he
    · have he := zif_f c30 he
      refine zif_n (fun q => c30 ((zo_eq rfl rfl hn23 hn29).mp q)) ?_
      exact zk1 hk47 rfl he
theorem s_M_orNone {p0f : Int32} {p0 : Int} {R0 : Int} (ep0 : p0f = zo p0) (he : g_M_orNone p0 = some (R0)) : f_M_orNone p0f = some (zo R0) := by
  subst ep0
  unfold g_M_orNone at he
  unfold f_M_orNone
  obtain ⟨hn1, he⟩ := zg_e he
  by_cases c2 : p0 < (1000000000 : Int)
  · have he := zif_t c2 he
    refine zif_p ((zo_lt rfl (zo_l 1000000000) hn1 (by decide)).mpr c2) ?_
    obtain ⟨rfl⟩ := zi1 he
    exact zs1 rfl
  · have he := zif_f c2 he
    refine zif_n (fun q => c2 ((zo_lt rfl (zo_l 1000000000) hn1 (by decide)).mp q)) ?_
    obtain ⟨rfl⟩ := zi1 he
    exact zs1 (zo_ln 9)
theorem s_M_steps {g_refusedf : Nat → Int32} {g_refused : Nat → Int} {g_sf : Nat → Int32} {g_s : Nat → Int} {g_stepsFromf : Nat → Int32} {g_stepsFrom : Nat → Int} {p1f : Int32} {p1 : Int} {p2f : Int32} {p2 : Int} {R0 : Int} {R1 : Nat → Int} {R2 : Nat → Int} (eg_refused : g_refusedf = zoA g_refused) (eg_s : g_sf = zoA g_s) (eg_stepsFrom : g_stepsFromf = zoA g_stepsFrom) (ep1 : p1f = zo p1) (ep2 : p2f = zo p2) (he : g_M_steps g_refused g_s g_stepsFrom p1 p2 = some (R0, R1, R2)) : f_M_steps g_refusedf g_sf g_stepsFromf p1f p2f = some (zo R0, zoA R1, zoA R2) := by
  subst eg_refused
  subst eg_s
  subst eg_stepsFrom
  subst ep1
  subst ep2
  unfold g_M_steps at he
  unfold f_M_steps
  obtain ⟨r1, hb1, he⟩ := zb1_e he
  refine (zb1_s (s_M_isSquare rfl hb1)).trans ?_
  refine zj1_z (m1 := id) he (fun _ he => ?_) (fun k6f k6 hk6 he => ?_)
  · obtain ⟨r3, g_refused_4, hb2, he⟩ := zb2_e he
    refine (zb2_s (s_M_no rfl (zo_ln 1) hb2)).trans ?_
    obtain ⟨rfl, rfl, rfl⟩ := zi3 he
    exact zs3 rfl rfl rfl
  obtain ⟨hn3, he⟩ := zg_e he
  by_cases c4 : r1 = (0 : Int)
  · have he := zif_t c4 he
    refine zif_p ((zo_eq rfl (zo_l 0) hn3 (by decide)).mpr c4) ?_
    exact zk1 hk6 rfl he
  · have he := zif_f c4 he
    refine zif_n (fun q => c4 ((zo_eq rfl (zo_l 0) hn3 (by decide)).mp q)) ?_
    obtain ⟨r8, hb5, he⟩ := zb1_e he
    refine (zb1_s (s_M_isSquare rfl hb5)).trans ?_
    obtain ⟨hn6, he⟩ := zg_e he
    by_cases c7 : r8 = (0 : Int)
    · have he := zif_t c7 he
      refine zif_p ((zo_eq rfl (zo_l 0) hn6 (by decide)).mpr c7) ?_
      exact zk1 hk6 rfl he
    · have he := zif_f c7 he
      refine zif_n (fun q => c7 ((zo_eq rfl (zo_l 0) hn6 (by decide)).mp q)) ?_
      obtain ⟨g_stepsFrom_11, hb8, he⟩ := zb1_e he
      refine (zb1_s (s_M_stepsAll rfl rfl rfl hb8)).trans ?_
      obtain ⟨hg10, he⟩ := zg_e he
      have hg9 := zin3 (n := 36) (by decide) hg10
      refine zg_z (zo_in rfl hg9) ?_
      obtain ⟨r14, hb11, he⟩ := zb1_e he
      refine (zb1_s (s_M_orNone (zo_rd rfl rfl hg9) hb11)).trans ?_
      obtain ⟨rfl, rfl, rfl⟩ := zi3 he
      exact zs3 rfl rfl rfl
theorem s_M_costOf {g_sf : Nat → Int32} {g_s : Nat → Int} {p1f : Int32} {p1 : Int} {p2f : Int32} {p2 : Int} {p3f : Int32} {p3 : Int} {p4f : Int32} {p4 : Int} {R0 : Int} (eg_s : g_sf = zoA g_s) (ep1 : p1f = zo p1) (ep2 : p2f = zo p2) (ep3 : p3f = zo p3) (ep4 : p4f = zo p4) (he : g_M_costOf g_s p1 p2 p3 p4 = some (R0)) : f_M_costOf g_sf p1f p2f p3f p4f = some (zo R0) := by
  subst eg_s
  subst ep1
  subst ep2
  subst ep3
  subst ep4
  unfold g_M_costOf at he
  unfold f_M_costOf
  obtain ⟨hn1, he⟩ := zg_e he
  by_cases c2 : p4 = (0 : Int)
  · have he := zif_t c2 he
    refine zif_p ((zo_eq rfl (zo_l 0) hn1 (by decide)).mpr c2) ?_
    obtain ⟨r2, hb3, he⟩ := zb1_e he
    refine (zb1_s (s_M_isCorner rfl rfl rfl rfl hb3)).trans ?_
    refine zj1_z (m1 := zo) he (fun s4 he => ?_) (fun k5f k5 hk5 he => ?_)
    · obtain ⟨rfl⟩ := zi1 he
      exact zs1 (zo_add rfl (zo_l 1))
    obtain ⟨hn4, he⟩ := zg_e he
    by_cases c5 : r2 = (0 : Int)
    · have he := zif_t c5 he
      refine zif_p ((zo_eq rfl (zo_l 0) hn4 (by decide)).mpr c5) ?_
      exact zk1 hk5 (zo_l 0) he
    · have he := zif_f c5 he
      refine zif_n (fun q => c5 ((zo_eq rfl (zo_l 0) hn4 (by decide)).mp q)) ?_
      exact zk1 hk5 (zo_l 1000) he
  · have he := zif_f c2 he
    refine zif_n (fun q => c2 ((zo_eq rfl (zo_l 0) hn1 (by decide)).mp q)) ?_
    obtain ⟨r7, hb6, he⟩ := zb1_e he
    refine (zb1_s (s_M_saidOn rfl rfl rfl rfl hb6)).trans ?_
    obtain ⟨hg8, he⟩ := zg_e he
    have hg7 := zin3 (n := 39) (by decide) hg8
    refine zg_z (zo_in (zo_l 37) hg7) ?_
    obtain ⟨r10, hb9, he⟩ := zb1_e he
    refine (zb1_s (s_M_heardBy rfl rfl hb9)).trans ?_
    obtain ⟨rfl⟩ := zi1 he
    exact zs1 (zo_mul (zo_mul rfl (zo_rd rfl (zo_l 37) hg7)) rfl)
theorem s_M_leastAll {g_leastf : Nat → Int32} {g_least : Nat → Int} {g_sf : Nat → Int32} {g_s : Nat → Int} {p1f : Int32} {p1 : Int} {p2f : Int32} {p2 : Int} {p3f : Int32} {p3 : Int} {R0 : Nat → Int} (eg_least : g_leastf = zoA g_least) (eg_s : g_sf = zoA g_s) (ep1 : p1f = zo p1) (ep2 : p2f = zo p2) (ep3 : p3f = zo p3) (he : g_M_leastAll g_least g_s p1 p2 p3 = some (R0)) : f_M_leastAll g_leastf g_sf p1f p2f p3f = some (zoA R0) := by
  subst eg_least
  subst eg_s
  subst ep1
  subst ep2
  subst ep3
  unfold g_M_leastAll at he
  unfold f_M_leastAll
  refine zj1_z (m1 := zoA) he (fun g_least_1 he => ?_) (fun k68f k68 hk68 he => ?_)
  · obtain ⟨r2, hb1, he⟩ := zb1_e he
    refine (zb1_s (s_M_canBe rfl rfl hb1)).trans ?_
    obtain ⟨hn2, he⟩ := zg_e he
    by_cases c3 : r2 = (0 : Int)
    · have he := zif_t c3 he
      refine zif_p ((zo_eq rfl (zo_l 0) hn2 (by decide)).mpr c3) ?_
      obtain ⟨rfl⟩ := zi1 he
      exact zs1 rfl
    · have he := zif_f c3 he
      refine zif_n (fun q => c3 ((zo_eq rfl (zo_l 0) hn2 (by decide)).mp q)) ?_
      obtain ⟨r5, hb4, he⟩ := zb1_e he
      refine (zb1_s (s_M_at rfl (zo_l 4) hb4)).trans ?_
      obtain ⟨hg6, he⟩ := zg_e he
      have hg5 := zin3 (n := 180) (by decide) hg6
      refine zg_z (zo_in rfl hg5) ?_
      obtain ⟨g8, hx7⟩ : ∃ y : Nat → Int, y = updI g_least_1 r5.toNat (0 : Int) := ⟨_, rfl⟩
      have he := zn_e hx7 he
      refine zn_z (y := zoA g8) ((zo_upd rfl rfl hg5 (zo_l 0)).trans (congrArg zoA hx7.symm)) ?_
      refine zl2_z (m1 := zo) (m2 := zoA) (zo_l 1) rfl he (fun l4_9 g_least_10 again11f again11 hagain11 he => ?_)
      obtain ⟨hn8, he⟩ := zg_e he
      by_cases c9 : l4_9 = (0 : Int)
      · have he := zif_t c9 he
        refine zif_p ((zo_eq rfl (zo_l 0) hn8 (by decide)).mpr c9) ?_
        obtain ⟨rfl⟩ := zi1 he
        exact zs1 rfl
      · have he := zif_f c9 he
        refine zif_n (fun q => c9 ((zo_eq rfl (zo_l 0) hn8 (by decide)).mp q)) ?_
        refine zj2_z (m1 := zo) (m2 := zoA) he (fun l4_13 g_least_14 he => ?_) (fun k15f k15 hk15 he => ?_)
        · exact zk2 hagain11 rfl rfl he
        refine zl3_z (m1 := zo) (m2 := zo) (m3 := zoA) (zo_l 0) (zo_l 0) rfl he (fun l4_16 l5_17 g_least_18 again19f again19 hagain19 he => ?_)
        obtain ⟨hn10, he⟩ := zg_e he
        by_cases c11 : (36 : Int) ≤ l5_17
        · have he := zif_t c11 he
          refine zif_p ((zo_le (zo_l 36) rfl (by decide) hn10).mpr c11) ?_
          exact zk2 hk15 rfl rfl he
        · have he := zif_f c11 he
          refine zif_n (fun q => c11 ((zo_le (zo_l 36) rfl (by decide) hn10).mp q)) ?_
          refine zj2_z (m1 := zo) (m2 := zoA) he (fun l4_21 g_least_22 he => ?_) (fun k24f k24 hk24 he => ?_)
          · obtain ⟨x23, hx12⟩ : ∃ y : Int, y = l5_17 + (1 : Int) := ⟨_, rfl⟩
            have he := zn_e hx12 he
            refine zn_z (y := zo x23) ((zo_add rfl (zo_l 1)).trans (congrArg zo hx12.symm)) ?_
            exact zk3 hagain19 rfl rfl rfl he
          refine zl3_z (m1 := zo) (m2 := zo) (m3 := zoA) rfl (zo_l 0) rfl he (fun l4_25 l6_26 g_least_27 again28f again28 hagain28 he => ?_)
          obtain ⟨hn13, he⟩ := zg_e he
          by_cases c14 : (4 : Int) < l6_26
          · have he := zif_t c14 he
            refine zif_p ((zo_lt (zo_l 4) rfl (by decide) hn13).mpr c14) ?_
            exact zk2 hk24 rfl rfl he
          · have he := zif_f c14 he
            refine zif_n (fun q => c14 ((zo_lt (zo_l 4) rfl (by decide) hn13).mp q)) ?_
            obtain ⟨r30, hb15, he⟩ := zb1_e he
            refine (zb1_s (s_M_at rfl rfl hb15)).trans ?_
            obtain ⟨hg17, he⟩ := zg_e he
            have hg16 := zin3 (n := 180) (by decide) hg17
            refine zg_z (zo_in rfl hg16) ?_
            refine zj2_z (m1 := zo) (m2 := zoA) he (fun l4_33 g_least_34 he => ?_) (fun k36f k36 hk36 he => ?_)
            · obtain ⟨x35, hx18⟩ : ∃ y : Int, y = l6_26 + (1 : Int) := ⟨_, rfl⟩
              have he := zn_e hx18 he
              refine zn_z (y := zo x35) ((zo_add rfl (zo_l 1)).trans (congrArg zo hx18.symm)) ?_
              exact zk3 hagain28 rfl rfl rfl he
            obtain ⟨hn19, he⟩ := zg_e he
            by_cases c20 : g_least_27 r30.toNat < (1000000000 : Int)
            · have he := zif_t c20 he
              refine zif_p ((zo_lt (zo_rd rfl rfl hg16) (zo_l 1000000000) hn19 (by decide)).mpr c20) ?_
              refine zl3_z (m1 := zo) (m2 := zo) (m3 := zoA) rfl (zo_l 0) rfl he (fun l4_38 l7_39 g_least_40 again41f again41 hagain41 he => ?_)
              obtain ⟨hn21, he⟩ := zg_e he
              by_cases c22 : (4 : Int) ≤ l7_39
              · have he := zif_t c22 he
                refine zif_p ((zo_le (zo_l 4) rfl (by decide) hn21).mpr c22) ?_
                exact zk2 hk36 rfl rfl he
              · have he := zif_f c22 he
                refine zif_n (fun q => c22 ((zo_le (zo_l 4) rfl (by decide) hn21).mp q)) ?_
                obtain ⟨r43, hb23, he⟩ := zb1_e he
                refine (zb1_s (s_M_gone rfl rfl rfl hb23)).trans ?_
                refine zj2_z (m1 := zo) (m2 := zoA) he (fun l4_45 g_least_46 he => ?_) (fun k48f k48 hk48 he => ?_)
                · obtain ⟨x47, hx24⟩ : ∃ y : Int, y = l7_39 + (1 : Int) := ⟨_, rfl⟩
                  have he := zn_e hx24 he
                  refine zn_z (y := zo x47) ((zo_add rfl (zo_l 1)).trans (congrArg zo hx24.symm)) ?_
                  exact zk3 hagain41 rfl rfl rfl he
                obtain ⟨hn25, he⟩ := zg_e he
                by_cases c26 : r43 < (0 : Int)
                · have he := zif_t c26 he
                  refine zif_p ((zo_lt rfl (zo_l 0) hn25 (by decide)).mpr c26) ?_
                  exact zk2 hk48 rfl rfl he
                · have he := zif_f c26 he
                  refine zif_n (fun q => c26 ((zo_lt rfl (zo_l 0) hn25 (by decide)).mp q)) ?_
                  refine zj1_z (m1 := id) he (fun _ he => ?_) (fun k64f k64 hk64 he => ?_)
                  · obtain ⟨r50, hb27, he⟩ := zb1_e he
                    refine (zb1_s (s_M_at rfl rfl hb27)).trans ?_
                    obtain ⟨hg29, he⟩ := zg_e he
                    have hg28 := zin3 (n := 180) (by decide) hg29
                    refine zg_z (zo_in rfl hg28) ?_
                    obtain ⟨r53, hb30, he⟩ := zb1_e he
                    refine (zb1_s (s_M_costOf rfl rfl rfl rfl rfl hb30)).trans ?_
                    obtain ⟨x55, hx31⟩ : ∃ y : Int, y = (g_least_40 r50.toNat) + r53 := ⟨_, rfl⟩
                    have he := zn_e hx31 he
                    refine zn_z (y := zo x55) ((zo_add (zo_rd rfl rfl hg28) rfl).trans (congrArg zo hx31.symm)) ?_
                    obtain ⟨r56, hb32, he⟩ := zb1_e he
                    refine (zb1_s (s_M_at rfl rfl hb32)).trans ?_
                    obtain ⟨hg34, he⟩ := zg_e he
                    have hg33 := zin3 (n := 180) (by decide) hg34
                    refine zg_z (zo_in rfl hg33) ?_
                    obtain ⟨hn35, he⟩ := zg_e he
                    obtain ⟨hn36, he⟩ := zg_e he
                    by_cases c37 : x55 < g_least_40 r56.toNat
                    · have he := zif_t c37 he
                      refine zif_p ((zo_lt rfl (zo_rd rfl rfl hg33) hn35 hn36).mpr c37) ?_
                      obtain ⟨r60, hb38, he⟩ := zb1_e he
                      refine (zb1_s (s_M_at rfl rfl hb38)).trans ?_
                      obtain ⟨hg40, he⟩ := zg_e he
                      have hg39 := zin3 (n := 180) (by decide) hg40
                      refine zg_z (zo_in rfl hg39) ?_
                      obtain ⟨g63, hx41⟩ : ∃ y : Nat → Int, y = updI g_least_40 r60.toNat x55 := ⟨_, rfl⟩
                      have he := zn_e hx41 he
                      refine zn_z (y := zoA g63) ((zo_upd rfl rfl hg39 rfl).trans (congrArg zoA hx41.symm)) ?_
                      exact zk2 hk48 (zo_l 1) rfl he
                    · have he := zif_f c37 he
                      refine zif_n (fun q => c37 ((zo_lt rfl (zo_rd rfl rfl hg33) hn35 hn36).mp q)) ?_
                      exact zk2 hk48 rfl rfl he
                  by_cases c42 : l6_26 = (4 : Int)
                  · have he := zif_t c42 he
                    refine zif_p ((zo_eq rfl (zo_l 4) hn13 (by decide)).mpr c42) ?_
                    obtain ⟨hn43, he⟩ := zg_e he
                    by_cases c44 : p2 < (0 : Int)
                    · have he := zif_t c44 he
                      refine zif_p ((zo_lt rfl (zo_l 0) hn43 (by decide)).mpr c44) ?_
                      exact zk1 hk64 rfl he
                    · have he := zif_f c44 he
                      refine zif_n (fun q => c44 ((zo_lt rfl (zo_l 0) hn43 (by decide)).mp q)) ?_
                      by_cases c45 : l7_39 = p2
                      · have he := zif_t c45 he
                        refine zif_p ((zo_eq rfl rfl hn21 hn43).mpr c45) ?_
                        exact zk1 hk64 rfl he
                      · have he := zif_f c45 he
                        refine zif_n (fun q => c45 ((zo_eq rfl rfl hn21 hn43).mp q)) ?_
                        exact zk2 hk48 rfl rfl he
                  · have he := zif_f c42 he
                    refine zif_n (fun q => c42 ((zo_eq rfl (zo_l 4) hn13 (by decide)).mp q)) ?_
                    exact zk1 hk64 rfl he
            · have he := zif_f c20 he
              refine zif_n (fun q => c20 ((zo_lt (zo_rd rfl rfl hg16) (zo_l 1000000000) hn19 (by decide)).mp q)) ?_
              exact zk2 hk36 rfl rfl he
  refine zl2_z (m1 := zo) (m2 := zoA) (zo_l 0) rfl he (fun l4_69 g_least_70 again71f again71 hagain71 he => ?_)
  obtain ⟨hn46, he⟩ := zg_e he
  by_cases c47 : (180 : Int) ≤ l4_69
  · have he := zif_t c47 he
    refine zif_p ((zo_le (zo_l 180) rfl (by decide) hn46).mpr c47) ?_
    exact zk1 hk68 rfl he
  · have he := zif_f c47 he
    refine zif_n (fun q => c47 ((zo_le (zo_l 180) rfl (by decide) hn46).mp q)) ?_
    obtain ⟨hg49, he⟩ := zg_e he
    have hg48 := zin3 (n := 180) (by decide) hg49
    refine zg_z (zo_in rfl hg48) ?_
    obtain ⟨g74, hx50⟩ : ∃ y : Nat → Int, y = updI g_least_70 l4_69.toNat (1000000000 : Int) := ⟨_, rfl⟩
    have he := zn_e hx50 he
    refine zn_z (y := zoA g74) ((zo_upd rfl rfl hg48 (zo_l 1000000000)).trans (congrArg zoA hx50.symm)) ?_
    obtain ⟨x75, hx51⟩ : ∃ y : Int, y = l4_69 + (1 : Int) := ⟨_, rfl⟩
    have he := zn_e hx51 he
    refine zn_z (y := zo x75) ((zo_add rfl (zo_l 1)).trans (congrArg zo hx51.symm)) ?_
    exact zk2 hagain71 rfl rfl he
theorem s_M_leastAt {g_leastf : Nat → Int32} {g_least : Nat → Int} {p1f : Int32} {p1 : Int} {R0 : Int} (eg_least : g_leastf = zoA g_least) (ep1 : p1f = zo p1) (he : g_M_leastAt g_least p1 = some (R0)) : f_M_leastAt g_leastf p1f = some (zo R0) := by
  subst eg_least
  subst ep1
  unfold g_M_leastAt at he
  unfold f_M_leastAt
  refine zl2_z (m1 := zo) (m2 := zo) (zo_l 1000000000) (zo_l 0) he (fun l2_1 l3_2 again3f again3 hagain3 he => ?_)
  obtain ⟨hn1, he⟩ := zg_e he
  by_cases c2 : (4 : Int) < l3_2
  · have he := zif_t c2 he
    refine zif_p ((zo_lt (zo_l 4) rfl (by decide) hn1).mpr c2) ?_
    obtain ⟨rfl⟩ := zi1 he
    exact zs1 rfl
  · have he := zif_f c2 he
    refine zif_n (fun q => c2 ((zo_lt (zo_l 4) rfl (by decide) hn1).mp q)) ?_
    obtain ⟨r5, hb3, he⟩ := zb1_e he
    refine (zb1_s (s_M_at rfl rfl hb3)).trans ?_
    obtain ⟨hg5, he⟩ := zg_e he
    have hg4 := zin3 (n := 180) (by decide) hg5
    refine zg_z (zo_in rfl hg4) ?_
    refine zj1_z (m1 := zo) he (fun s8 he => ?_) (fun k10f k10 hk10 he => ?_)
    · obtain ⟨x9, hx6⟩ : ∃ y : Int, y = l3_2 + (1 : Int) := ⟨_, rfl⟩
      have he := zn_e hx6 he
      refine zn_z (y := zo x9) ((zo_add rfl (zo_l 1)).trans (congrArg zo hx6.symm)) ?_
      exact zk2 hagain3 rfl rfl he
    obtain ⟨hn7, he⟩ := zg_e he
    obtain ⟨hn8, he⟩ := zg_e he
    by_cases c9 : l2_1 ≤ g_least r5.toNat
    · have he := zif_t c9 he
      refine zif_p ((zo_le rfl (zo_rd rfl rfl hg4) hn7 hn8).mpr c9) ?_
      exact zk1 hk10 rfl he
    · have he := zif_f c9 he
      refine zif_n (fun q => c9 ((zo_le rfl (zo_rd rfl rfl hg4) hn7 hn8).mp q)) ?_
      obtain ⟨r12, hb10, he⟩ := zb1_e he
      refine (zb1_s (s_M_at rfl rfl hb10)).trans ?_
      obtain ⟨hg12, he⟩ := zg_e he
      have hg11 := zin3 (n := 180) (by decide) hg12
      refine zg_z (zo_in rfl hg11) ?_
      exact zk1 hk10 (zo_rd rfl rfl hg11) he
theorem s_M_cornersBy {g_leastf : Nat → Int32} {g_least : Nat → Int} {g_sf : Nat → Int32} {g_s : Nat → Int} {p1f : Int32} {p1 : Int} {p2f : Int32} {p2 : Int} {p3f : Int32} {p3 : Int} {R0 : Int} {R1 : Nat → Int} (eg_least : g_leastf = zoA g_least) (eg_s : g_sf = zoA g_s) (ep1 : p1f = zo p1) (ep2 : p2f = zo p2) (ep3 : p3f = zo p3) (he : g_M_cornersBy g_least g_s p1 p2 p3 = some (R0, R1)) : f_M_cornersBy g_leastf g_sf p1f p2f p3f = some (zo R0, zoA R1) := by
  subst eg_least
  subst eg_s
  subst ep1
  subst ep2
  subst ep3
  unfold g_M_cornersBy at he
  unfold f_M_cornersBy
  obtain ⟨g_least_1, hb1, he⟩ := zb1_e he
  refine (zb1_s (s_M_leastAll rfl rfl rfl rfl (zo_l 0) hb1)).trans ?_
  obtain ⟨r3, hb2, he⟩ := zb1_e he
  refine (zb1_s (s_M_leastAt rfl rfl hb2)).trans ?_
  obtain ⟨rfl, rfl⟩ := zi2 he
  exact zs2 rfl rfl
theorem s_M_corners {g_leastf : Nat → Int32} {g_least : Nat → Int} {g_refusedf : Nat → Int32} {g_refused : Nat → Int} {g_sf : Nat → Int32} {g_s : Nat → Int} {p1f : Int32} {p1 : Int} {p2f : Int32} {p2 : Int} {p3f : Int32} {p3 : Int} {R0 : Int} {R1 : Nat → Int} {R2 : Nat → Int} (eg_least : g_leastf = zoA g_least) (eg_refused : g_refusedf = zoA g_refused) (eg_s : g_sf = zoA g_s) (ep1 : p1f = zo p1) (ep2 : p2f = zo p2) (ep3 : p3f = zo p3) (he : g_M_corners g_least g_refused g_s p1 p2 p3 = some (R0, R1, R2)) : f_M_corners g_leastf g_refusedf g_sf p1f p2f p3f = some (zo R0, zoA R1, zoA R2) := by
  subst eg_least
  subst eg_refused
  subst eg_s
  subst ep1
  subst ep2
  subst ep3
  unfold g_M_corners at he
  unfold f_M_corners
  obtain ⟨r1, hb1, he⟩ := zb1_e he
  refine (zb1_s (s_M_isSquare rfl hb1)).trans ?_
  refine zj1_z (m1 := id) he (fun _ he => ?_) (fun k6f k6 hk6 he => ?_)
  · obtain ⟨r3, g_refused_4, hb2, he⟩ := zb2_e he
    refine (zb2_s (s_M_no rfl (zo_ln 1) hb2)).trans ?_
    obtain ⟨rfl, rfl, rfl⟩ := zi3 he
    exact zs3 rfl rfl rfl
  obtain ⟨hn3, he⟩ := zg_e he
  by_cases c4 : r1 = (0 : Int)
  · have he := zif_t c4 he
    refine zif_p ((zo_eq rfl (zo_l 0) hn3 (by decide)).mpr c4) ?_
    exact zk1 hk6 rfl he
  · have he := zif_f c4 he
    refine zif_n (fun q => c4 ((zo_eq rfl (zo_l 0) hn3 (by decide)).mp q)) ?_
    obtain ⟨r8, hb5, he⟩ := zb1_e he
    refine (zb1_s (s_M_isSquare rfl hb5)).trans ?_
    obtain ⟨hn6, he⟩ := zg_e he
    by_cases c7 : r8 = (0 : Int)
    · have he := zif_t c7 he
      refine zif_p ((zo_eq rfl (zo_l 0) hn6 (by decide)).mpr c7) ?_
      exact zk1 hk6 rfl he
    · have he := zif_f c7 he
      refine zif_n (fun q => c7 ((zo_eq rfl (zo_l 0) hn6 (by decide)).mp q)) ?_
      obtain ⟨r11, hb8, he⟩ := zb1_e he
      refine (zb1_s (s_M_isIn rfl (zo_l 0) (zo_l 2) hb8)).trans ?_
      obtain ⟨hn9, he⟩ := zg_e he
      by_cases c10 : r11 = (0 : Int)
      · have he := zif_t c10 he
        refine zif_p ((zo_eq rfl (zo_l 0) hn9 (by decide)).mpr c10) ?_
        obtain ⟨r30, g_refused_31, hb11, he⟩ := zb2_e he
        refine (zb2_s (s_M_no rfl (zo_ln 2) hb11)).trans ?_
        obtain ⟨rfl, rfl, rfl⟩ := zi3 he
        exact zs3 rfl rfl rfl
      · have he := zif_f c10 he
        refine zif_n (fun q => c10 ((zo_eq rfl (zo_l 0) hn9 (by decide)).mp q)) ?_
        obtain ⟨r14, g_least_15, hb12, he⟩ := zb2_e he
        refine (zb2_s (s_M_cornersBy rfl rfl rfl rfl (zo_ln 9) hb12)).trans ?_
        obtain ⟨hn13, he⟩ := zg_e he
        by_cases c14 : r14 < (1000000000 : Int)
        · have he := zif_t c14 he
          refine zif_p ((zo_lt rfl (zo_l 1000000000) hn13 (by decide)).mpr c14) ?_
          obtain ⟨hn15, he⟩ := zg_e he
          by_cases c16 : (2 : Int) ≤ p3
          · have he := zif_t c16 he
            refine zif_p ((zo_le (zo_l 2) rfl (by decide) hn15).mpr c16) ?_
            refine zl2_z (m1 := zo) (m2 := zoA) (zo_l 0) rfl he (fun l5_19 g_least_20 again21f again21 hagain21 he => ?_)
            obtain ⟨hn17, he⟩ := zg_e he
            by_cases c18 : (4 : Int) ≤ l5_19
            · have he := zif_t c18 he
              refine zif_p ((zo_le (zo_l 4) rfl (by decide) hn17).mpr c18) ?_
              obtain ⟨rfl, rfl, rfl⟩ := zi3 he
              exact zs3 (zo_ln 9) rfl rfl
            · have he := zif_f c18 he
              refine zif_n (fun q => c18 ((zo_le (zo_l 4) rfl (by decide) hn17).mp q)) ?_
              obtain ⟨hn19, he⟩ := zg_e he
              obtain ⟨hn20, he⟩ := zg_e he
              by_cases c21 : p1 = p2
              · have he := zif_t c21 he
                refine zif_p ((zo_eq rfl rfl hn19 hn20).mpr c21) ?_
                obtain ⟨rfl, rfl, rfl⟩ := zi3 he
                exact zs3 (zo_ln 9) rfl rfl
              · have he := zif_f c21 he
                refine zif_n (fun q => c21 ((zo_eq rfl rfl hn19 hn20).mp q)) ?_
                obtain ⟨r24, g_least_25, hb22, he⟩ := zb2_e he
                refine (zb2_s (s_M_cornersBy rfl rfl rfl rfl rfl hb22)).trans ?_
                obtain ⟨hn23, he⟩ := zg_e he
                by_cases c24 : r24 = r14
                · have he := zif_t c24 he
                  refine zif_p ((zo_eq rfl rfl hn23 hn13).mpr c24) ?_
                  obtain ⟨rfl, rfl, rfl⟩ := zi3 he
                  exact zs3 rfl rfl rfl
                · have he := zif_f c24 he
                  refine zif_n (fun q => c24 ((zo_eq rfl rfl hn23 hn13).mp q)) ?_
                  obtain ⟨x28, hx25⟩ : ∃ y : Int, y = l5_19 + (1 : Int) := ⟨_, rfl⟩
                  have he := zn_e hx25 he
                  refine zn_z (y := zo x28) ((zo_add rfl (zo_l 1)).trans (congrArg zo hx25.symm)) ?_
                  exact zk2 hagain21 rfl rfl he
          · have he := zif_f c16 he
            refine zif_n (fun q => c16 ((zo_le (zo_l 2) rfl (by decide) hn15).mp q)) ?_
            by_cases c26 : p3 = (0 : Int)
            · have he := zif_t c26 he
              refine zif_p ((zo_eq rfl (zo_l 0) hn15 (by decide)).mpr c26) ?_
              obtain ⟨hn27, he⟩ := zg_e he
              obtain ⟨rfl, rfl, rfl⟩ := zi3 he
              exact zs3 (zo_div rfl (zo_l 1000) hn27 (by decide)) rfl rfl
            · have he := zif_f c26 he
              refine zif_n (fun q => c26 ((zo_eq rfl (zo_l 0) hn15 (by decide)).mp q)) ?_
              obtain ⟨hn28, he⟩ := zg_e he
              obtain ⟨rfl, rfl, rfl⟩ := zi3 he
              exact zs3 (zo_rem rfl (zo_l 1000) hn28 (by decide)) rfl rfl
        · have he := zif_f c14 he
          refine zif_n (fun q => c14 ((zo_lt rfl (zo_l 1000000000) hn13 (by decide)).mp q)) ?_
          obtain ⟨rfl, rfl, rfl⟩ := zi3 he
          exact zs3 (zo_ln 9) rfl rfl
theorem s_M_fines {g_leastf : Nat → Int32} {g_least : Nat → Int} {g_refusedf : Nat → Int32} {g_refused : Nat → Int} {g_sf : Nat → Int32} {g_s : Nat → Int} {p1f : Int32} {p1 : Int} {p2f : Int32} {p2 : Int} {R0 : Int} {R1 : Nat → Int} {R2 : Nat → Int} (eg_least : g_leastf = zoA g_least) (eg_refused : g_refusedf = zoA g_refused) (eg_s : g_sf = zoA g_s) (ep1 : p1f = zo p1) (ep2 : p2f = zo p2) (he : g_M_fines g_least g_refused g_s p1 p2 = some (R0, R1, R2)) : f_M_fines g_leastf g_refusedf g_sf p1f p2f = some (zo R0, zoA R1, zoA R2) := by
  subst eg_least
  subst eg_refused
  subst eg_s
  subst ep1
  subst ep2
  unfold g_M_fines at he
  unfold f_M_fines
  obtain ⟨r1, hb1, he⟩ := zb1_e he
  refine (zb1_s (s_M_isSquare rfl hb1)).trans ?_
  refine zj1_z (m1 := id) he (fun _ he => ?_) (fun k6f k6 hk6 he => ?_)
  · obtain ⟨r3, g_refused_4, hb2, he⟩ := zb2_e he
    refine (zb2_s (s_M_no rfl (zo_ln 1) hb2)).trans ?_
    obtain ⟨rfl, rfl, rfl⟩ := zi3 he
    exact zs3 rfl rfl rfl
  obtain ⟨hn3, he⟩ := zg_e he
  by_cases c4 : r1 = (0 : Int)
  · have he := zif_t c4 he
    refine zif_p ((zo_eq rfl (zo_l 0) hn3 (by decide)).mpr c4) ?_
    exact zk1 hk6 rfl he
  · have he := zif_f c4 he
    refine zif_n (fun q => c4 ((zo_eq rfl (zo_l 0) hn3 (by decide)).mp q)) ?_
    obtain ⟨r8, hb5, he⟩ := zb1_e he
    refine (zb1_s (s_M_isSquare rfl hb5)).trans ?_
    obtain ⟨hn6, he⟩ := zg_e he
    by_cases c7 : r8 = (0 : Int)
    · have he := zif_t c7 he
      refine zif_p ((zo_eq rfl (zo_l 0) hn6 (by decide)).mpr c7) ?_
      exact zk1 hk6 rfl he
    · have he := zif_f c7 he
      refine zif_n (fun q => c7 ((zo_eq rfl (zo_l 0) hn6 (by decide)).mp q)) ?_
      obtain ⟨g_least_11, hb8, he⟩ := zb1_e he
      refine (zb1_s (s_M_leastAll rfl rfl rfl (zo_ln 9) (zo_l 1) hb8)).trans ?_
      obtain ⟨r13, hb9, he⟩ := zb1_e he
      refine (zb1_s (s_M_leastAt rfl rfl hb9)).trans ?_
      obtain ⟨hn10, he⟩ := zg_e he
      by_cases c11 : r13 < (1000000000 : Int)
      · have he := zif_t c11 he
        refine zif_p ((zo_lt rfl (zo_l 1000000000) hn10 (by decide)).mpr c11) ?_
        obtain ⟨r16, hb12, he⟩ := zb1_e he
        refine (zb1_s (s_M_wordsOn rfl rfl hb12)).trans ?_
        obtain ⟨hg14, he⟩ := zg_e he
        have hg13 := zin3 (n := 39) (by decide) hg14
        refine zg_z (zo_in (zo_l 37) hg13) ?_
        obtain ⟨r19, hb15, he⟩ := zb1_e he
        refine (zb1_s (s_M_heardBy rfl rfl hb15)).trans ?_
        obtain ⟨rfl, rfl, rfl⟩ := zi3 he
        exact zs3 (zo_add rfl (zo_mul (zo_mul rfl (zo_rd rfl (zo_l 37) hg13)) rfl)) rfl rfl
      · have he := zif_f c11 he
        refine zif_n (fun q => c11 ((zo_lt rfl (zo_l 1000000000) hn10 (by decide)).mp q)) ?_
        obtain ⟨rfl, rfl, rfl⟩ := zi3 he
        exact zs3 (zo_ln 9) rfl rfl
theorem s_M_straightOf {g_sf : Nat → Int32} {g_s : Nat → Int} {p1f : Int32} {p1 : Int} {p2f : Int32} {p2 : Int} {R0 : Int} (eg_s : g_sf = zoA g_s) (ep1 : p1f = zo p1) (ep2 : p2f = zo p2) (he : g_M_straightOf g_s p1 p2 = some (R0)) : f_M_straightOf g_sf p1f p2f = some (zo R0) := by
  subst eg_s
  subst ep1
  subst ep2
  unfold g_M_straightOf at he
  unfold f_M_straightOf
  obtain ⟨r1, hb1, he⟩ := zb1_e he
  refine (zb1_s (s_M_gone rfl rfl rfl hb1)).trans ?_
  refine zl2_z (m1 := zo) (m2 := zo) (zo_l 0) rfl he (fun l3_3 l4_4 again5f again5 hagain5 he => ?_)
  obtain ⟨hn2, he⟩ := zg_e he
  by_cases c3 : l4_4 < (0 : Int)
  · have he := zif_t c3 he
    refine zif_p ((zo_lt rfl (zo_l 0) hn2 (by decide)).mpr c3) ?_
    obtain ⟨rfl⟩ := zi1 he
    exact zs1 rfl
  · have he := zif_f c3 he
    refine zif_n (fun q => c3 ((zo_lt rfl (zo_l 0) hn2 (by decide)).mp q)) ?_
    obtain ⟨x7, hx4⟩ : ∃ y : Int, y = l3_3 + (1 : Int) := ⟨_, rfl⟩
    have he := zn_e hx4 he
    refine zn_z (y := zo x7) ((zo_add rfl (zo_l 1)).trans (congrArg zo hx4.symm)) ?_
    obtain ⟨r8, hb5, he⟩ := zb1_e he
    refine (zb1_s (s_M_gone rfl rfl rfl hb5)).trans ?_
    exact zk2 hagain5 rfl rfl he
theorem s_M_straight {g_refusedf : Nat → Int32} {g_refused : Nat → Int} {g_sf : Nat → Int32} {g_s : Nat → Int} {p1f : Int32} {p1 : Int} {p2f : Int32} {p2 : Int} {R0 : Int} {R1 : Nat → Int} (eg_refused : g_refusedf = zoA g_refused) (eg_s : g_sf = zoA g_s) (ep1 : p1f = zo p1) (ep2 : p2f = zo p2) (he : g_M_straight g_refused g_s p1 p2 = some (R0, R1)) : f_M_straight g_refusedf g_sf p1f p2f = some (zo R0, zoA R1) := by
  subst eg_refused
  subst eg_s
  subst ep1
  subst ep2
  unfold g_M_straight at he
  unfold f_M_straight
  obtain ⟨r1, hb1, he⟩ := zb1_e he
  refine (zb1_s (s_M_isSquare rfl hb1)).trans ?_
  obtain ⟨hn2, he⟩ := zg_e he
  by_cases c3 : r1 = (0 : Int)
  · have he := zif_t c3 he
    refine zif_p ((zo_eq rfl (zo_l 0) hn2 (by decide)).mpr c3) ?_
    obtain ⟨r12, g_refused_13, hb4, he⟩ := zb2_e he
    refine (zb2_s (s_M_no rfl (zo_ln 1) hb4)).trans ?_
    obtain ⟨rfl, rfl⟩ := zi2 he
    exact zs2 rfl rfl
  · have he := zif_f c3 he
    refine zif_n (fun q => c3 ((zo_eq rfl (zo_l 0) hn2 (by decide)).mp q)) ?_
    obtain ⟨r4, hb5, he⟩ := zb1_e he
    refine (zb1_s (s_M_isIn rfl (zo_l 0) (zo_l 3) hb5)).trans ?_
    obtain ⟨hn6, he⟩ := zg_e he
    by_cases c7 : r4 = (0 : Int)
    · have he := zif_t c7 he
      refine zif_p ((zo_eq rfl (zo_l 0) hn6 (by decide)).mpr c7) ?_
      obtain ⟨r7, g_refused_8, hb8, he⟩ := zb2_e he
      refine (zb2_s (s_M_no rfl (zo_ln 2) hb8)).trans ?_
      obtain ⟨rfl, rfl⟩ := zi2 he
      exact zs2 rfl rfl
    · have he := zif_f c7 he
      refine zif_n (fun q => c7 ((zo_eq rfl (zo_l 0) hn6 (by decide)).mp q)) ?_
      obtain ⟨r10, hb9, he⟩ := zb1_e he
      refine (zb1_s (s_M_straightOf rfl rfl rfl hb9)).trans ?_
      obtain ⟨rfl, rfl⟩ := zi2 he
      exact zs2 rfl rfl
theorem s_M_longest {g_refusedf : Nat → Int32} {g_refused : Nat → Int} {g_sf : Nat → Int32} {g_s : Nat → Int} {p1f : Int32} {p1 : Int} {R0 : Int} {R1 : Nat → Int} (eg_refused : g_refusedf = zoA g_refused) (eg_s : g_sf = zoA g_s) (ep1 : p1f = zo p1) (he : g_M_longest g_refused g_s p1 = some (R0, R1)) : f_M_longest g_refusedf g_sf p1f = some (zo R0, zoA R1) := by
  subst eg_refused
  subst eg_s
  subst ep1
  unfold g_M_longest at he
  unfold f_M_longest
  obtain ⟨r1, hb1, he⟩ := zb1_e he
  refine (zb1_s (s_M_isIn rfl (zo_l 0) (zo_l 1) hb1)).trans ?_
  obtain ⟨hn2, he⟩ := zg_e he
  by_cases c3 : r1 = (0 : Int)
  · have he := zif_t c3 he
    refine zif_p ((zo_eq rfl (zo_l 0) hn2 (by decide)).mpr c3) ?_
    obtain ⟨r34, g_refused_35, hb4, he⟩ := zb2_e he
    refine (zb2_s (s_M_no rfl (zo_ln 2) hb4)).trans ?_
    obtain ⟨rfl, rfl⟩ := zi2 he
    exact zs2 rfl rfl
  · have he := zif_f c3 he
    refine zif_n (fun q => c3 ((zo_eq rfl (zo_l 0) hn2 (by decide)).mp q)) ?_
    refine zj2_z (m1 := zo) (m2 := zo) he (fun l2_4 l3_5 he => ?_) (fun k7f k7 hk7 he => ?_)
    · obtain ⟨hn5, he⟩ := zg_e he
      by_cases c6 : p1 = (0 : Int)
      · have he := zif_t c6 he
        refine zif_p ((zo_eq rfl (zo_l 0) hn5 (by decide)).mpr c6) ?_
        obtain ⟨rfl, rfl⟩ := zi2 he
        exact zs2 rfl rfl
      · have he := zif_f c6 he
        refine zif_n (fun q => c6 ((zo_eq rfl (zo_l 0) hn5 (by decide)).mp q)) ?_
        obtain ⟨rfl, rfl⟩ := zi2 he
        exact zs2 rfl rfl
    refine zl3_z (m1 := zo) (m2 := zo) (m3 := zo) (zo_ln 9) (zo_ln 9) (zo_l 0) he (fun l2_8 l3_9 l4_10 again11f again11 hagain11 he => ?_)
    obtain ⟨hn7, he⟩ := zg_e he
    by_cases c8 : (36 : Int) ≤ l4_10
    · have he := zif_t c8 he
      refine zif_p ((zo_le (zo_l 36) rfl (by decide) hn7).mpr c8) ?_
      exact zk2 hk7 rfl rfl he
    · have he := zif_f c8 he
      refine zif_n (fun q => c8 ((zo_le (zo_l 36) rfl (by decide) hn7).mp q)) ?_
      refine zj2_z (m1 := zo) (m2 := zo) he (fun l2_13 l3_14 he => ?_) (fun k16f k16 hk16 he => ?_)
      · obtain ⟨x15, hx9⟩ : ∃ y : Int, y = l4_10 + (1 : Int) := ⟨_, rfl⟩
        have he := zn_e hx9 he
        refine zn_z (y := zo x15) ((zo_add rfl (zo_l 1)).trans (congrArg zo hx9.symm)) ?_
        exact zk3 hagain11 rfl rfl rfl he
      refine zl3_z (m1 := zo) (m2 := zo) (m3 := zo) rfl rfl (zo_l 0) he (fun l2_17 l3_18 l5_19 again20f again20 hagain20 he => ?_)
      obtain ⟨hn10, he⟩ := zg_e he
      by_cases c11 : (4 : Int) ≤ l5_19
      · have he := zif_t c11 he
        refine zif_p ((zo_le (zo_l 4) rfl (by decide) hn10).mpr c11) ?_
        exact zk2 hk16 rfl rfl he
      · have he := zif_f c11 he
        refine zif_n (fun q => c11 ((zo_le (zo_l 4) rfl (by decide) hn10).mp q)) ?_
        obtain ⟨r22, hb12, he⟩ := zb1_e he
        refine (zb1_s (s_M_canBe rfl rfl hb12)).trans ?_
        obtain ⟨hn13, he⟩ := zg_e he
        by_cases c14 : r22 = (0 : Int)
        · have he := zif_t c14 he
          refine zif_p ((zo_eq rfl (zo_l 0) hn13 (by decide)).mpr c14) ?_
          exact zk2 hk16 rfl rfl he
        · have he := zif_f c14 he
          refine zif_n (fun q => c14 ((zo_eq rfl (zo_l 0) hn13 (by decide)).mp q)) ?_
          obtain ⟨r25, hb15, he⟩ := zb1_e he
          refine (zb1_s (s_M_straightOf rfl rfl rfl hb15)).trans ?_
          refine zj2_z (m1 := zo) (m2 := zo) he (fun l2_27 l3_28 he => ?_) (fun k30f k30 hk30 he => ?_)
          · obtain ⟨x29, hx16⟩ : ∃ y : Int, y = l5_19 + (1 : Int) := ⟨_, rfl⟩
            have he := zn_e hx16 he
            refine zn_z (y := zo x29) ((zo_add rfl (zo_l 1)).trans (congrArg zo hx16.symm)) ?_
            exact zk3 hagain20 rfl rfl rfl he
          obtain ⟨hn17, he⟩ := zg_e he
          obtain ⟨hn18, he⟩ := zg_e he
          by_cases c19 : l3_18 < r25
          · have he := zif_t c19 he
            refine zif_p ((zo_lt rfl rfl hn17 hn18).mpr c19) ?_
            obtain ⟨r32, hb20, he⟩ := zb1_e he
            refine (zb1_s (s_M_straightOf rfl rfl rfl hb20)).trans ?_
            exact zk2 hk30 rfl rfl he
          · have he := zif_f c19 he
            refine zif_n (fun q => c19 ((zo_lt rfl rfl hn17 hn18).mp q)) ?_
            exact zk2 hk30 rfl rfl he
theorem s_M_isHeard {g_sf : Nat → Int32} {g_s : Nat → Int} {p1f : Int32} {p1 : Int} {R0 : Int} (eg_s : g_sf = zoA g_s) (ep1 : p1f = zo p1) (he : g_M_isHeard g_s p1 = some (R0)) : f_M_isHeard g_sf p1f = some (zo R0) := by
  subst eg_s
  subst ep1
  unfold g_M_isHeard at he
  unfold f_M_isHeard
  obtain ⟨r1, hb1, he⟩ := zb1_e he
  refine (zb1_s (s_M_heardBy rfl rfl hb1)).trans ?_
  obtain ⟨hn2, he⟩ := zg_e he
  by_cases c3 : r1 ≤ (0 : Int)
  · have he := zif_t c3 he
    refine zif_p ((zo_le rfl (zo_l 0) hn2 (by decide)).mpr c3) ?_
    obtain ⟨rfl⟩ := zi1 he
    exact zs1 (zo_l 0)
  · have he := zif_f c3 he
    refine zif_n (fun q => c3 ((zo_le rfl (zo_l 0) hn2 (by decide)).mp q)) ?_
    obtain ⟨rfl⟩ := zi1 he
    exact zs1 (zo_l 1)
theorem s_M_mostIn {g_mostf : Nat → Int32} {g_most : Nat → Int} {g_nextf : Nat → Int32} {g_next : Nat → Int} {g_sf : Nat → Int32} {g_s : Nat → Int} {p1f : Int32} {p1 : Int} {p2f : Int32} {p2 : Int} {p3f : Int32} {p3 : Int} {R0 : Int} {R1 : Nat → Int} {R2 : Nat → Int} (eg_most : g_mostf = zoA g_most) (eg_next : g_nextf = zoA g_next) (eg_s : g_sf = zoA g_s) (ep1 : p1f = zo p1) (ep2 : p2f = zo p2) (ep3 : p3f = zo p3) (he : g_M_mostIn g_most g_next g_s p1 p2 p3 = some (R0, R1, R2)) : f_M_mostIn g_mostf g_nextf g_sf p1f p2f p3f = some (zo R0, zoA R1, zoA R2) := by
  subst eg_most
  subst eg_next
  subst eg_s
  subst ep1
  subst ep2
  subst ep3
  unfold g_M_mostIn at he
  unfold f_M_mostIn
  obtain ⟨r1, hb1, he⟩ := zb1_e he
  refine (zb1_s (s_M_canBe rfl rfl hb1)).trans ?_
  obtain ⟨hn2, he⟩ := zg_e he
  by_cases c3 : r1 = (0 : Int)
  · have he := zif_t c3 he
    refine zif_p ((zo_eq rfl (zo_l 0) hn2 (by decide)).mpr c3) ?_
    obtain ⟨rfl, rfl, rfl⟩ := zi3 he
    exact zs3 (zo_ln 9) rfl rfl
  · have he := zif_f c3 he
    refine zif_n (fun q => c3 ((zo_eq rfl (zo_l 0) hn2 (by decide)).mp q)) ?_
    refine zj1_z (m1 := id) he (fun _ he => ?_) (fun k118f k118 hk118 he => ?_)
    · refine zj1_z (m1 := zoA) he (fun g_most_4 he => ?_) (fun k110f k110 hk110 he => ?_)
      · obtain ⟨r5, hb4, he⟩ := zb1_e he
        refine (zb1_s (s_M_at rfl (zo_l 4) hb4)).trans ?_
        obtain ⟨hg6, he⟩ := zg_e he
        have hg5 := zin3 (n := 180) (by decide) hg6
        refine zg_z (zo_in rfl hg5) ?_
        obtain ⟨g8, hx7⟩ : ∃ y : Nat → Int, y = updI g_most_4 r5.toNat (0 : Int) := ⟨_, rfl⟩
        have he := zn_e hx7 he
        refine zn_z (y := zoA g8) ((zo_upd rfl rfl hg5 (zo_l 0)).trans (congrArg zoA hx7.symm)) ?_
        obtain ⟨r9, hb8, he⟩ := zb1_e he
        refine (zb1_s (s_M_wordsOn rfl rfl hb8)).trans ?_
        refine zl4_z (m1 := zo) (m2 := zo) (m3 := zoA) (m4 := zoA) rfl (zo_l 0) rfl rfl he (fun l4_11 l5_12 g_most_13 g_next_14 again15f again15 hagain15 he => ?_)
        obtain ⟨hn9, he⟩ := zg_e he
        obtain ⟨hn10, he⟩ := zg_e he
        by_cases c11 : p2 ≤ l5_12
        · have he := zif_t c11 he
          refine zif_p ((zo_le rfl rfl hn9 hn10).mpr c11) ?_
          obtain ⟨rfl, rfl, rfl⟩ := zi3 he
          exact zs3 rfl rfl rfl
        · have he := zif_f c11 he
          refine zif_n (fun q => c11 ((zo_le rfl rfl hn9 hn10).mp q)) ?_
          refine zj1_z (m1 := zoA) he (fun g_next_17 he => ?_) (fun k102f k102 hk102 he => ?_)
          · refine zj2_z (m1 := zo) (m2 := zoA) he (fun l4_18 g_next_19 he => ?_) (fun k32f k32 hk32 he => ?_)
            · refine zj1_z (m1 := zoA) he (fun g_most_20 he => ?_) (fun k22f k22 hk22 he => ?_)
              · obtain ⟨x21, hx12⟩ : ∃ y : Int, y = l5_12 + (1 : Int) := ⟨_, rfl⟩
                have he := zn_e hx12 he
                refine zn_z (y := zo x21) ((zo_add rfl (zo_l 1)).trans (congrArg zo hx12.symm)) ?_
                exact zk4 hagain15 rfl rfl rfl rfl he
              refine zl2_z (m1 := zo) (m2 := zoA) (zo_l 0) rfl he (fun l6_23 g_most_24 again25f again25 hagain25 he => ?_)
              obtain ⟨hn13, he⟩ := zg_e he
              by_cases c14 : (180 : Int) ≤ l6_23
              · have he := zif_t c14 he
                refine zif_p ((zo_le (zo_l 180) rfl (by decide) hn13).mpr c14) ?_
                exact zk1 hk22 rfl he
              · have he := zif_f c14 he
                refine zif_n (fun q => c14 ((zo_le (zo_l 180) rfl (by decide) hn13).mp q)) ?_
                obtain ⟨hg16, he⟩ := zg_e he
                have hg15 := zin3 (n := 180) (by decide) hg16
                refine zg_z (zo_in rfl hg15) ?_
                obtain ⟨x28, hx17⟩ : ∃ y : Int, y = g_next_19 l6_23.toNat := ⟨_, rfl⟩
                have he := zn_e hx17 he
                refine zn_z (y := zo x28) ((zo_rd rfl rfl hg15).trans (congrArg zo hx17.symm)) ?_
                refine zg_z (zo_in rfl hg15) ?_
                obtain ⟨g30, hx19⟩ : ∃ y : Nat → Int, y = updI g_most_24 l6_23.toNat x28 := ⟨_, rfl⟩
                have he := zn_e hx19 he
                refine zn_z (y := zoA g30) ((zo_upd rfl rfl hg15 rfl).trans (congrArg zoA hx19.symm)) ?_
                obtain ⟨x31, hx20⟩ : ∃ y : Int, y = l6_23 + (1 : Int) := ⟨_, rfl⟩
                have he := zn_e hx20 he
                refine zn_z (y := zo x31) ((zo_add rfl (zo_l 1)).trans (congrArg zo hx20.symm)) ?_
                exact zk2 hagain25 rfl rfl he
            refine zl3_z (m1 := zo) (m2 := zo) (m3 := zoA) rfl (zo_l 0) rfl he (fun l4_33 l6_34 g_next_35 again36f again36 hagain36 he => ?_)
            obtain ⟨hn21, he⟩ := zg_e he
            by_cases c22 : (36 : Int) ≤ l6_34
            · have he := zif_t c22 he
              refine zif_p ((zo_le (zo_l 36) rfl (by decide) hn21).mpr c22) ?_
              exact zk2 hk32 rfl rfl he
            · have he := zif_f c22 he
              refine zif_n (fun q => c22 ((zo_le (zo_l 36) rfl (by decide) hn21).mp q)) ?_
              refine zj2_z (m1 := zo) (m2 := zoA) he (fun l4_38 g_next_39 he => ?_) (fun k41f k41 hk41 he => ?_)
              · obtain ⟨x40, hx23⟩ : ∃ y : Int, y = l6_34 + (1 : Int) := ⟨_, rfl⟩
                have he := zn_e hx23 he
                refine zn_z (y := zo x40) ((zo_add rfl (zo_l 1)).trans (congrArg zo hx23.symm)) ?_
                exact zk3 hagain36 rfl rfl rfl he
              refine zl3_z (m1 := zo) (m2 := zo) (m3 := zoA) rfl (zo_l 0) rfl he (fun l4_42 l7_43 g_next_44 again45f again45 hagain45 he => ?_)
              obtain ⟨hn24, he⟩ := zg_e he
              by_cases c25 : (4 : Int) < l7_43
              · have he := zif_t c25 he
                refine zif_p ((zo_lt (zo_l 4) rfl (by decide) hn24).mpr c25) ?_
                exact zk2 hk41 rfl rfl he
              · have he := zif_f c25 he
                refine zif_n (fun q => c25 ((zo_lt (zo_l 4) rfl (by decide) hn24).mp q)) ?_
                obtain ⟨r47, hb26, he⟩ := zb1_e he
                refine (zb1_s (s_M_at rfl rfl hb26)).trans ?_
                obtain ⟨hg28, he⟩ := zg_e he
                have hg27 := zin3 (n := 180) (by decide) hg28
                refine zg_z (zo_in rfl hg27) ?_
                obtain ⟨x50, hx29⟩ : ∃ y : Int, y = g_most_13 r47.toNat := ⟨_, rfl⟩
                have he := zn_e hx29 he
                refine zn_z (y := zo x50) ((zo_rd rfl rfl hg27).trans (congrArg zo hx29.symm)) ?_
                refine zj2_z (m1 := zo) (m2 := zoA) he (fun l4_51 g_next_52 he => ?_) (fun k54f k54 hk54 he => ?_)
                · obtain ⟨x53, hx30⟩ : ∃ y : Int, y = l7_43 + (1 : Int) := ⟨_, rfl⟩
                  have he := zn_e hx30 he
                  refine zn_z (y := zo x53) ((zo_add rfl (zo_l 1)).trans (congrArg zo hx30.symm)) ?_
                  exact zk3 hagain45 rfl rfl rfl he
                refine zl3_z (m1 := zo) (m2 := zo) (m3 := zoA) rfl (zo_l 0) rfl he (fun l4_55 l9_56 g_next_57 again58f again58 hagain58 he => ?_)
                obtain ⟨hn31, he⟩ := zg_e he
                by_cases c32 : (4 : Int) ≤ l9_56
                · have he := zif_t c32 he
                  refine zif_p ((zo_le (zo_l 4) rfl (by decide) hn31).mpr c32) ?_
                  exact zk2 hk54 rfl rfl he
                · have he := zif_f c32 he
                  refine zif_n (fun q => c32 ((zo_le (zo_l 4) rfl (by decide) hn31).mp q)) ?_
                  obtain ⟨hn33, he⟩ := zg_e he
                  by_cases c34 : x50 < (0 : Int)
                  · have he := zif_t c34 he
                    refine zif_p ((zo_lt rfl (zo_l 0) hn33 (by decide)).mpr c34) ?_
                    exact zk2 hk54 rfl rfl he
                  · have he := zif_f c34 he
                    refine zif_n (fun q => c34 ((zo_lt rfl (zo_l 0) hn33 (by decide)).mp q)) ?_
                    obtain ⟨r61, hb35, he⟩ := zb1_e he
                    refine (zb1_s (s_M_gone rfl rfl rfl hb35)).trans ?_
                    obtain ⟨r63, hb36, he⟩ := zb1_e he
                    refine (zb1_s (s_M_saidOn rfl rfl rfl rfl hb36)).trans ?_
                    refine zj2_z (m1 := zo) (m2 := zoA) he (fun l4_65 g_next_66 he => ?_) (fun k68f k68 hk68 he => ?_)
                    · obtain ⟨x67, hx37⟩ : ∃ y : Int, y = l9_56 + (1 : Int) := ⟨_, rfl⟩
                      have he := zn_e hx37 he
                      refine zn_z (y := zo x67) ((zo_add rfl (zo_l 1)).trans (congrArg zo hx37.symm)) ?_
                      exact zk3 hagain58 rfl rfl rfl he
                    obtain ⟨hn38, he⟩ := zg_e he
                    by_cases c39 : r61 < (0 : Int)
                    · have he := zif_t c39 he
                      refine zif_p ((zo_lt rfl (zo_l 0) hn38 (by decide)).mpr c39) ?_
                      exact zk2 hk68 rfl rfl he
                    · have he := zif_f c39 he
                      refine zif_n (fun q => c39 ((zo_lt rfl (zo_l 0) hn38 (by decide)).mp q)) ?_
                      refine zj1_z (m1 := id) he (fun _ he => ?_) (fun k96f k96 hk96 he => ?_)
                      · obtain ⟨r70, hb40, he⟩ := zb1_e he
                        refine (zb1_s (s_M_at rfl rfl hb40)).trans ?_
                        obtain ⟨hg42, he⟩ := zg_e he
                        have hg41 := zin3 (n := 180) (by decide) hg42
                        refine zg_z (zo_in rfl hg41) ?_
                        refine zj1_z (m1 := zoA) he (fun g_next_73 he => ?_) (fun k89f k89 hk89 he => ?_)
                        · refine zj1_z (m1 := id) he (fun _ he => ?_) (fun k81f k81 hk81 he => ?_)
                          · obtain ⟨r74, hb43, he⟩ := zb1_e he
                            refine (zb1_s (s_M_wordsOn rfl rfl hb43)).trans ?_
                            refine zj1_z (m1 := zo) he (fun s76 he => ?_) (fun k77f k77 hk77 he => ?_)
                            · exact zk2 hk68 rfl rfl he
                            obtain ⟨hn44, he⟩ := zg_e he
                            obtain ⟨hn45, he⟩ := zg_e he
                            by_cases c46 : (x50 + r63) + r74 ≤ l4_55
                            · have he := zif_t c46 he
                              refine zif_p ((zo_le (zo_add (zo_add rfl rfl) rfl) rfl hn44 hn45).mpr c46) ?_
                              exact zk1 hk77 rfl he
                            · have he := zif_f c46 he
                              refine zif_n (fun q => c46 ((zo_le (zo_add (zo_add rfl rfl) rfl) rfl hn44 hn45).mp q)) ?_
                              obtain ⟨r79, hb47, he⟩ := zb1_e he
                              refine (zb1_s (s_M_wordsOn rfl rfl hb47)).trans ?_
                              exact zk1 hk77 (zo_add (zo_add rfl rfl) rfl) he
                          obtain ⟨hn48, he⟩ := zg_e he
                          by_cases c49 : p3 = (0 : Int)
                          · have he := zif_t c49 he
                            refine zif_p ((zo_eq rfl (zo_l 0) hn48 (by decide)).mpr c49) ?_
                            exact zk1 hk81 rfl he
                          · have he := zif_f c49 he
                            refine zif_n (fun q => c49 ((zo_eq rfl (zo_l 0) hn48 (by decide)).mp q)) ?_
                            obtain ⟨r83, hb50, he⟩ := zb1_e he
                            refine (zb1_s (s_M_wordsOn rfl rfl hb50)).trans ?_
                            obtain ⟨hn51, he⟩ := zg_e he
                            by_cases c52 : r83 ≤ (0 : Int)
                            · have he := zif_t c52 he
                              refine zif_p ((zo_le rfl (zo_l 0) hn51 (by decide)).mpr c52) ?_
                              exact zk1 hk81 rfl he
                            · have he := zif_f c52 he
                              refine zif_n (fun q => c52 ((zo_le rfl (zo_l 0) hn51 (by decide)).mp q)) ?_
                              obtain ⟨r86, hb53, he⟩ := zb1_e he
                              refine (zb1_s (s_M_isHeard rfl rfl hb53)).trans ?_
                              obtain ⟨hn54, he⟩ := zg_e he
                              by_cases c55 : r86 = (0 : Int)
                              · have he := zif_t c55 he
                                refine zif_p ((zo_eq rfl (zo_l 0) hn54 (by decide)).mpr c55) ?_
                                exact zk1 hk81 rfl he
                              · have he := zif_f c55 he
                                refine zif_n (fun q => c55 ((zo_eq rfl (zo_l 0) hn54 (by decide)).mp q)) ?_
                                exact zk2 hk68 rfl rfl he
                        obtain ⟨hn56, he⟩ := zg_e he
                        obtain ⟨hn57, he⟩ := zg_e he
                        by_cases c58 : x50 + r63 ≤ g_next_57 r70.toNat
                        · have he := zif_t c58 he
                          refine zif_p ((zo_le (zo_add rfl rfl) (zo_rd rfl rfl hg41) hn56 hn57).mpr c58) ?_
                          exact zk1 hk89 rfl he
                        · have he := zif_f c58 he
                          refine zif_n (fun q => c58 ((zo_le (zo_add rfl rfl) (zo_rd rfl rfl hg41) hn56 hn57).mp q)) ?_
                          obtain ⟨r91, hb59, he⟩ := zb1_e he
                          refine (zb1_s (s_M_at rfl rfl hb59)).trans ?_
                          obtain ⟨x93, hx60⟩ : ∃ y : Int, y = x50 + r63 := ⟨_, rfl⟩
                          have he := zn_e hx60 he
                          refine zn_z (y := zo x93) ((zo_add rfl rfl).trans (congrArg zo hx60.symm)) ?_
                          obtain ⟨hg62, he⟩ := zg_e he
                          have hg61 := zin3 (n := 180) (by decide) hg62
                          refine zg_z (zo_in rfl hg61) ?_
                          obtain ⟨g95, hx63⟩ : ∃ y : Nat → Int, y = updI g_next_57 r91.toNat x93 := ⟨_, rfl⟩
                          have he := zn_e hx63 he
                          refine zn_z (y := zoA g95) ((zo_upd rfl rfl hg61 rfl).trans (congrArg zoA hx63.symm)) ?_
                          exact zk1 hk89 rfl he
                      obtain ⟨hn64, he⟩ := zg_e he
                      by_cases c65 : p3 = (0 : Int)
                      · have he := zif_t c65 he
                        refine zif_p ((zo_eq rfl (zo_l 0) hn64 (by decide)).mpr c65) ?_
                        exact zk1 hk96 rfl he
                      · have he := zif_f c65 he
                        refine zif_n (fun q => c65 ((zo_eq rfl (zo_l 0) hn64 (by decide)).mp q)) ?_
                        obtain ⟨hn66, he⟩ := zg_e he
                        by_cases c67 : r63 ≤ (0 : Int)
                        · have he := zif_t c67 he
                          refine zif_p ((zo_le rfl (zo_l 0) hn66 (by decide)).mpr c67) ?_
                          exact zk1 hk96 rfl he
                        · have he := zif_f c67 he
                          refine zif_n (fun q => c67 ((zo_le rfl (zo_l 0) hn66 (by decide)).mp q)) ?_
                          obtain ⟨r99, hb68, he⟩ := zb1_e he
                          refine (zb1_s (s_M_isHeard rfl rfl hb68)).trans ?_
                          obtain ⟨hn69, he⟩ := zg_e he
                          by_cases c70 : r99 = (0 : Int)
                          · have he := zif_t c70 he
                            refine zif_p ((zo_eq rfl (zo_l 0) hn69 (by decide)).mpr c70) ?_
                            exact zk1 hk96 rfl he
                          · have he := zif_f c70 he
                            refine zif_n (fun q => c70 ((zo_eq rfl (zo_l 0) hn69 (by decide)).mp q)) ?_
                            exact zk2 hk68 rfl rfl he
          refine zl2_z (m1 := zo) (m2 := zoA) (zo_l 0) rfl he (fun l6_103 g_next_104 again105f again105 hagain105 he => ?_)
          obtain ⟨hn71, he⟩ := zg_e he
          by_cases c72 : (180 : Int) ≤ l6_103
          · have he := zif_t c72 he
            refine zif_p ((zo_le (zo_l 180) rfl (by decide) hn71).mpr c72) ?_
            exact zk1 hk102 rfl he
          · have he := zif_f c72 he
            refine zif_n (fun q => c72 ((zo_le (zo_l 180) rfl (by decide) hn71).mp q)) ?_
            obtain ⟨hg74, he⟩ := zg_e he
            have hg73 := zin3 (n := 180) (by decide) hg74
            refine zg_z (zo_in rfl hg73) ?_
            obtain ⟨g108, hx75⟩ : ∃ y : Nat → Int, y = updI g_next_104 l6_103.toNat (-1 : Int) := ⟨_, rfl⟩
            have he := zn_e hx75 he
            refine zn_z (y := zoA g108) ((zo_upd rfl rfl hg73 (zo_ln 1)).trans (congrArg zoA hx75.symm)) ?_
            obtain ⟨x109, hx76⟩ : ∃ y : Int, y = l6_103 + (1 : Int) := ⟨_, rfl⟩
            have he := zn_e hx76 he
            refine zn_z (y := zo x109) ((zo_add rfl (zo_l 1)).trans (congrArg zo hx76.symm)) ?_
            exact zk2 hagain105 rfl rfl he
      refine zl2_z (m1 := zo) (m2 := zoA) (zo_l 0) rfl he (fun l4_111 g_most_112 again113f again113 hagain113 he => ?_)
      obtain ⟨hn77, he⟩ := zg_e he
      by_cases c78 : (180 : Int) ≤ l4_111
      · have he := zif_t c78 he
        refine zif_p ((zo_le (zo_l 180) rfl (by decide) hn77).mpr c78) ?_
        exact zk1 hk110 rfl he
      · have he := zif_f c78 he
        refine zif_n (fun q => c78 ((zo_le (zo_l 180) rfl (by decide) hn77).mp q)) ?_
        obtain ⟨hg80, he⟩ := zg_e he
        have hg79 := zin3 (n := 180) (by decide) hg80
        refine zg_z (zo_in rfl hg79) ?_
        obtain ⟨g116, hx81⟩ : ∃ y : Nat → Int, y = updI g_most_112 l4_111.toNat (-1 : Int) := ⟨_, rfl⟩
        have he := zn_e hx81 he
        refine zn_z (y := zoA g116) ((zo_upd rfl rfl hg79 (zo_ln 1)).trans (congrArg zoA hx81.symm)) ?_
        obtain ⟨x117, hx82⟩ : ∃ y : Int, y = l4_111 + (1 : Int) := ⟨_, rfl⟩
        have he := zn_e hx82 he
        refine zn_z (y := zo x117) ((zo_add rfl (zo_l 1)).trans (congrArg zo hx82.symm)) ?_
        exact zk2 hagain113 rfl rfl he
    obtain ⟨hn83, he⟩ := zg_e he
    by_cases c84 : p3 = (0 : Int)
    · have he := zif_t c84 he
      refine zif_p ((zo_eq rfl (zo_l 0) hn83 (by decide)).mpr c84) ?_
      exact zk1 hk118 rfl he
    · have he := zif_f c84 he
      refine zif_n (fun q => c84 ((zo_eq rfl (zo_l 0) hn83 (by decide)).mp q)) ?_
      obtain ⟨r120, hb85, he⟩ := zb1_e he
      refine (zb1_s (s_M_isHeard rfl rfl hb85)).trans ?_
      obtain ⟨hn86, he⟩ := zg_e he
      by_cases c87 : r120 = (0 : Int)
      · have he := zif_t c87 he
        refine zif_p ((zo_eq rfl (zo_l 0) hn86 (by decide)).mpr c87) ?_
        exact zk1 hk118 rfl he
      · have he := zif_f c87 he
        refine zif_n (fun q => c87 ((zo_eq rfl (zo_l 0) hn86 (by decide)).mp q)) ?_
        obtain ⟨r123, hb88, he⟩ := zb1_e he
        refine (zb1_s (s_M_wordsOn rfl rfl hb88)).trans ?_
        obtain ⟨hn89, he⟩ := zg_e he
        by_cases c90 : r123 ≤ (0 : Int)
        · have he := zif_t c90 he
          refine zif_p ((zo_le rfl (zo_l 0) hn89 (by decide)).mpr c90) ?_
          exact zk1 hk118 rfl he
        · have he := zif_f c90 he
          refine zif_n (fun q => c90 ((zo_le rfl (zo_l 0) hn89 (by decide)).mp q)) ?_
          obtain ⟨rfl, rfl, rfl⟩ := zi3 he
          exact zs3 (zo_ln 9) rfl rfl
theorem s_M_wrongSteps {p1f : Int32} {p1 : Int} {p2f : Int32} {p2 : Int} {p3f : Int32} {p3 : Int} {p4f : Int32} {p4 : Int} {R0 : Int} (ep1 : p1f = zo p1) (ep2 : p2f = zo p2) (ep3 : p3f = zo p3) (ep4 : p4f = zo p4) (he : g_M_wrongSteps p1 p2 p3 p4 = some (R0)) : f_M_wrongSteps p1f p2f p3f p4f = some (zo R0) := by
  subst ep1
  subst ep2
  subst ep3
  subst ep4
  unfold g_M_wrongSteps at he
  unfold f_M_wrongSteps
  obtain ⟨r1, hb1, he⟩ := zb1_e he
  refine (zb1_s (s_M_isSquare rfl hb1)).trans ?_
  obtain ⟨hn2, he⟩ := zg_e he
  by_cases c3 : r1 = (0 : Int)
  · have he := zif_t c3 he
    refine zif_p ((zo_eq rfl (zo_l 0) hn2 (by decide)).mpr c3) ?_
    obtain ⟨rfl⟩ := zi1 he
    exact zs1 (zo_ln 1)
  · have he := zif_f c3 he
    refine zif_n (fun q => c3 ((zo_eq rfl (zo_l 0) hn2 (by decide)).mp q)) ?_
    obtain ⟨hn4, he⟩ := zg_e he
    obtain ⟨hn5, he⟩ := zg_e he
    by_cases c6 : p2 ≤ p3
    · have he := zif_t c6 he
      refine zif_p ((zo_le rfl rfl hn4 hn5).mpr c6) ?_
      obtain ⟨hn7, he⟩ := zg_e he
      by_cases c8 : p3 ≤ p4
      · have he := zif_t c8 he
        refine zif_p ((zo_le rfl rfl hn5 hn7).mpr c8) ?_
        obtain ⟨rfl⟩ := zi1 he
        exact zs1 (zo_l 0)
      · have he := zif_f c8 he
        refine zif_n (fun q => c8 ((zo_le rfl rfl hn5 hn7).mp q)) ?_
        obtain ⟨rfl⟩ := zi1 he
        exact zs1 (zo_ln 6)
    · have he := zif_f c6 he
      refine zif_n (fun q => c6 ((zo_le rfl rfl hn4 hn5).mp q)) ?_
      obtain ⟨rfl⟩ := zi1 he
      exact zs1 (zo_ln 4)
theorem s_M_words {g_mostf : Nat → Int32} {g_most : Nat → Int} {g_nextf : Nat → Int32} {g_next : Nat → Int} {g_refusedf : Nat → Int32} {g_refused : Nat → Int} {g_sf : Nat → Int32} {g_s : Nat → Int} {p1f : Int32} {p1 : Int} {p2f : Int32} {p2 : Int} {R0 : Int} {R1 : Nat → Int} {R2 : Nat → Int} {R3 : Nat → Int} (eg_most : g_mostf = zoA g_most) (eg_next : g_nextf = zoA g_next) (eg_refused : g_refusedf = zoA g_refused) (eg_s : g_sf = zoA g_s) (ep1 : p1f = zo p1) (ep2 : p2f = zo p2) (he : g_M_words g_most g_next g_refused g_s p1 p2 = some (R0, R1, R2, R3)) : f_M_words g_mostf g_nextf g_refusedf g_sf p1f p2f = some (zo R0, zoA R1, zoA R2, zoA R3) := by
  subst eg_most
  subst eg_next
  subst eg_refused
  subst eg_s
  subst ep1
  subst ep2
  unfold g_M_words at he
  unfold f_M_words
  obtain ⟨r1, hb1, he⟩ := zb1_e he
  refine (zb1_s (s_M_wrongSteps rfl (zo_l 0) rfl (zo_l 20) hb1)).trans ?_
  obtain ⟨hn2, he⟩ := zg_e he
  by_cases c3 : r1 = (0 : Int)
  · have he := zif_t c3 he
    refine zif_p ((zo_eq rfl (zo_l 0) hn2 (by decide)).mpr c3) ?_
    obtain ⟨r4, g_most_5, g_next_6, hb4, he⟩ := zb3_e he
    refine (zb3_s (s_M_mostIn rfl rfl rfl rfl rfl (zo_l 0) hb4)).trans ?_
    obtain ⟨rfl, rfl, rfl, rfl⟩ := zi4 he
    exact zs4 rfl rfl rfl rfl
  · have he := zif_f c3 he
    refine zif_n (fun q => c3 ((zo_eq rfl (zo_l 0) hn2 (by decide)).mp q)) ?_
    obtain ⟨r8, g_refused_9, hb5, he⟩ := zb2_e he
    refine (zb2_s (s_M_no rfl rfl hb5)).trans ?_
    obtain ⟨rfl, rfl, rfl, rfl⟩ := zi4 he
    exact zs4 rfl rfl rfl rfl
theorem s_M_unheard {g_mostf : Nat → Int32} {g_most : Nat → Int} {g_nextf : Nat → Int32} {g_next : Nat → Int} {g_refusedf : Nat → Int32} {g_refused : Nat → Int} {g_sf : Nat → Int32} {g_s : Nat → Int} {p1f : Int32} {p1 : Int} {p2f : Int32} {p2 : Int} {R0 : Int} {R1 : Nat → Int} {R2 : Nat → Int} {R3 : Nat → Int} (eg_most : g_mostf = zoA g_most) (eg_next : g_nextf = zoA g_next) (eg_refused : g_refusedf = zoA g_refused) (eg_s : g_sf = zoA g_s) (ep1 : p1f = zo p1) (ep2 : p2f = zo p2) (he : g_M_unheard g_most g_next g_refused g_s p1 p2 = some (R0, R1, R2, R3)) : f_M_unheard g_mostf g_nextf g_refusedf g_sf p1f p2f = some (zo R0, zoA R1, zoA R2, zoA R3) := by
  subst eg_most
  subst eg_next
  subst eg_refused
  subst eg_s
  subst ep1
  subst ep2
  unfold g_M_unheard at he
  unfold f_M_unheard
  obtain ⟨r1, hb1, he⟩ := zb1_e he
  refine (zb1_s (s_M_wrongSteps rfl (zo_l 0) rfl (zo_l 20) hb1)).trans ?_
  obtain ⟨hn2, he⟩ := zg_e he
  by_cases c3 : r1 = (0 : Int)
  · have he := zif_t c3 he
    refine zif_p ((zo_eq rfl (zo_l 0) hn2 (by decide)).mpr c3) ?_
    obtain ⟨r4, g_most_5, g_next_6, hb4, he⟩ := zb3_e he
    refine (zb3_s (s_M_mostIn rfl rfl rfl rfl rfl (zo_l 1) hb4)).trans ?_
    obtain ⟨rfl, rfl, rfl, rfl⟩ := zi4 he
    exact zs4 rfl rfl rfl rfl
  · have he := zif_f c3 he
    refine zif_n (fun q => c3 ((zo_eq rfl (zo_l 0) hn2 (by decide)).mp q)) ?_
    obtain ⟨r8, g_refused_9, hb5, he⟩ := zb2_e he
    refine (zb2_s (s_M_no rfl rfl hb5)).trans ?_
    obtain ⟨rfl, rfl, rfl, rfl⟩ := zi4 he
    exact zs4 rfl rfl rfl rfl
