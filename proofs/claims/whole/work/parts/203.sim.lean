theorem s_M_talk {g_mostf : Nat → Int32} {g_most : Nat → Int} {g_nextf : Nat → Int32} {g_next : Nat → Int} {g_refusedf : Nat → Int32} {g_refused : Nat → Int} {g_sf : Nat → Int32} {g_s : Nat → Int} {p1f : Int32} {p1 : Int} {p2f : Int32} {p2 : Int} {R0 : Int} {R1 : Nat → Int} {R2 : Nat → Int} {R3 : Nat → Int} (eg_most : g_mostf = zoA g_most) (eg_next : g_nextf = zoA g_next) (eg_refused : g_refusedf = zoA g_refused) (eg_s : g_sf = zoA g_s) (ep1 : p1f = zo p1) (ep2 : p2f = zo p2) (he : g_M_talk g_most g_next g_refused g_s p1 p2 = some (R0, R1, R2, R3)) : f_M_talk g_mostf g_nextf g_refusedf g_sf p1f p2f = some (zo R0, zoA R1, zoA R2, zoA R3) := by
  subst eg_most
  subst eg_next
  subst eg_refused
  subst eg_s
  subst ep1
  subst ep2
  unfold g_M_talk at he
  unfold f_M_talk
  obtain ⟨r1, hb1, he⟩ := zb1_e he
  refine (zb1_s (s_M_wrongSteps rfl (zo_l 1) rfl (zo_l 40) hb1)).trans ?_
  obtain ⟨hn2, he⟩ := zg_e he
  by_cases c3 : r1 = (0 : Int)
  · have he := zif_t c3 he
    refine zif_p ((zo_eq rfl (zo_l 0) hn2 (by decide)).mpr c3) ?_
    obtain ⟨r4, hb4, he⟩ := zb1_e he
    refine (zb1_s (s_M_canBe rfl rfl hb4)).trans ?_
    obtain ⟨hn5, he⟩ := zg_e he
    by_cases c6 : r4 = (0 : Int)
    · have he := zif_t c6 he
      refine zif_p ((zo_eq rfl (zo_l 0) hn5 (by decide)).mpr c6) ?_
      obtain ⟨rfl, rfl, rfl, rfl⟩ := zi4 he
      exact zs4 (zo_ln 9) rfl rfl rfl
    · have he := zif_f c6 he
      refine zif_n (fun q => c6 ((zo_eq rfl (zo_l 0) hn5 (by decide)).mp q)) ?_
      refine zj1_z (m1 := zoA) he (fun g_most_7 he => ?_) (fun k90f k90 hk90 he => ?_)
      · obtain ⟨r8, hb7, he⟩ := zb1_e he
        refine (zb1_s (s_M_at rfl (zo_l 4) hb7)).trans ?_
        obtain ⟨hg9, he⟩ := zg_e he
        have hg8 := zin3 (n := 180) (by decide) hg9
        refine zg_z (zo_in rfl hg8) ?_
        obtain ⟨g11, hx10⟩ : ∃ y : Nat → Int, y = updI g_most_7 r8.toNat (0 : Int) := ⟨_, rfl⟩
        have he := zn_e hx10 he
        refine zn_z (y := zoA g11) ((zo_upd rfl rfl hg8 (zo_l 0)).trans (congrArg zoA hx10.symm)) ?_
        obtain ⟨r12, hb11, he⟩ := zb1_e he
        refine (zb1_s (s_M_wordsOn rfl rfl hb11)).trans ?_
        obtain ⟨hn12, he⟩ := zg_e he
        obtain ⟨hn13, he⟩ := zg_e he
        by_cases c14 : r12 < p2
        · have he := zif_t c14 he
          refine zif_p ((zo_lt rfl rfl hn12 hn13).mpr c14) ?_
          refine zl3_z (m1 := zo) (m2 := zoA) (m3 := zoA) (zo_l 1) rfl rfl he (fun l4_15 g_most_16 g_next_17 again18f again18 hagain18 he => ?_)
          obtain ⟨hn15, he⟩ := zg_e he
          by_cases c16 : (40 : Int) < l4_15
          · have he := zif_t c16 he
            refine zif_p ((zo_lt (zo_l 40) rfl (by decide) hn15).mpr c16) ?_
            obtain ⟨rfl, rfl, rfl, rfl⟩ := zi4 he
            exact zs4 (zo_ln 9) rfl rfl rfl
          · have he := zif_f c16 he
            refine zif_n (fun q => c16 ((zo_lt (zo_l 40) rfl (by decide) hn15).mp q)) ?_
            refine zj1_z (m1 := zoA) he (fun g_next_20 he => ?_) (fun k82f k82 hk82 he => ?_)
            · refine zj1_z (m1 := zoA) he (fun g_next_21 he => ?_) (fun k34f k34 hk34 he => ?_)
              · refine zj1_z (m1 := zoA) he (fun g_most_22 he => ?_) (fun k24f k24 hk24 he => ?_)
                · obtain ⟨x23, hx17⟩ : ∃ y : Int, y = l4_15 + (1 : Int) := ⟨_, rfl⟩
                  have he := zn_e hx17 he
                  refine zn_z (y := zo x23) ((zo_add rfl (zo_l 1)).trans (congrArg zo hx17.symm)) ?_
                  exact zk3 hagain18 rfl rfl rfl he
                refine zl2_z (m1 := zo) (m2 := zoA) (zo_l 0) rfl he (fun l5_25 g_most_26 again27f again27 hagain27 he => ?_)
                obtain ⟨hn18, he⟩ := zg_e he
                by_cases c19 : (180 : Int) ≤ l5_25
                · have he := zif_t c19 he
                  refine zif_p ((zo_le (zo_l 180) rfl (by decide) hn18).mpr c19) ?_
                  exact zk1 hk24 rfl he
                · have he := zif_f c19 he
                  refine zif_n (fun q => c19 ((zo_le (zo_l 180) rfl (by decide) hn18).mp q)) ?_
                  obtain ⟨hg21, he⟩ := zg_e he
                  have hg20 := zin3 (n := 180) (by decide) hg21
                  refine zg_z (zo_in rfl hg20) ?_
                  obtain ⟨x30, hx22⟩ : ∃ y : Int, y = g_next_21 l5_25.toNat := ⟨_, rfl⟩
                  have he := zn_e hx22 he
                  refine zn_z (y := zo x30) ((zo_rd rfl rfl hg20).trans (congrArg zo hx22.symm)) ?_
                  refine zg_z (zo_in rfl hg20) ?_
                  obtain ⟨g32, hx24⟩ : ∃ y : Nat → Int, y = updI g_most_26 l5_25.toNat x30 := ⟨_, rfl⟩
                  have he := zn_e hx24 he
                  refine zn_z (y := zoA g32) ((zo_upd rfl rfl hg20 rfl).trans (congrArg zoA hx24.symm)) ?_
                  obtain ⟨x33, hx25⟩ : ∃ y : Int, y = l5_25 + (1 : Int) := ⟨_, rfl⟩
                  have he := zn_e hx25 he
                  refine zn_z (y := zo x33) ((zo_add rfl (zo_l 1)).trans (congrArg zo hx25.symm)) ?_
                  exact zk2 hagain27 rfl rfl he
              refine zl2_z (m1 := zo) (m2 := zoA) (zo_l 0) rfl he (fun l5_35 g_next_36 again37f again37 hagain37 he => ?_)
              obtain ⟨hn26, he⟩ := zg_e he
              by_cases c27 : (36 : Int) ≤ l5_35
              · have he := zif_t c27 he
                refine zif_p ((zo_le (zo_l 36) rfl (by decide) hn26).mpr c27) ?_
                exact zk1 hk34 rfl he
              · have he := zif_f c27 he
                refine zif_n (fun q => c27 ((zo_le (zo_l 36) rfl (by decide) hn26).mp q)) ?_
                refine zj1_z (m1 := zoA) he (fun g_next_39 he => ?_) (fun k41f k41 hk41 he => ?_)
                · obtain ⟨x40, hx28⟩ : ∃ y : Int, y = l5_35 + (1 : Int) := ⟨_, rfl⟩
                  have he := zn_e hx28 he
                  refine zn_z (y := zo x40) ((zo_add rfl (zo_l 1)).trans (congrArg zo hx28.symm)) ?_
                  exact zk2 hagain37 rfl rfl he
                refine zl2_z (m1 := zo) (m2 := zoA) (zo_l 0) rfl he (fun l6_42 g_next_43 again44f again44 hagain44 he => ?_)
                obtain ⟨hn29, he⟩ := zg_e he
                by_cases c30 : (4 : Int) < l6_42
                · have he := zif_t c30 he
                  refine zif_p ((zo_lt (zo_l 4) rfl (by decide) hn29).mpr c30) ?_
                  exact zk1 hk41 rfl he
                · have he := zif_f c30 he
                  refine zif_n (fun q => c30 ((zo_lt (zo_l 4) rfl (by decide) hn29).mp q)) ?_
                  obtain ⟨r46, hb31, he⟩ := zb1_e he
                  refine (zb1_s (s_M_at rfl rfl hb31)).trans ?_
                  obtain ⟨hg33, he⟩ := zg_e he
                  have hg32 := zin3 (n := 180) (by decide) hg33
                  refine zg_z (zo_in rfl hg32) ?_
                  obtain ⟨x49, hx34⟩ : ∃ y : Int, y = g_most_16 r46.toNat := ⟨_, rfl⟩
                  have he := zn_e hx34 he
                  refine zn_z (y := zo x49) ((zo_rd rfl rfl hg32).trans (congrArg zo hx34.symm)) ?_
                  refine zj1_z (m1 := zoA) he (fun g_next_50 he => ?_) (fun k52f k52 hk52 he => ?_)
                  · obtain ⟨x51, hx35⟩ : ∃ y : Int, y = l6_42 + (1 : Int) := ⟨_, rfl⟩
                    have he := zn_e hx35 he
                    refine zn_z (y := zo x51) ((zo_add rfl (zo_l 1)).trans (congrArg zo hx35.symm)) ?_
                    exact zk2 hagain44 rfl rfl he
                  refine zl2_z (m1 := zo) (m2 := zoA) (zo_l 0) rfl he (fun l8_53 g_next_54 again55f again55 hagain55 he => ?_)
                  obtain ⟨hn36, he⟩ := zg_e he
                  by_cases c37 : (4 : Int) ≤ l8_53
                  · have he := zif_t c37 he
                    refine zif_p ((zo_le (zo_l 4) rfl (by decide) hn36).mpr c37) ?_
                    exact zk1 hk52 rfl he
                  · have he := zif_f c37 he
                    refine zif_n (fun q => c37 ((zo_le (zo_l 4) rfl (by decide) hn36).mp q)) ?_
                    obtain ⟨hn38, he⟩ := zg_e he
                    by_cases c39 : x49 < (0 : Int)
                    · have he := zif_t c39 he
                      refine zif_p ((zo_lt rfl (zo_l 0) hn38 (by decide)).mpr c39) ?_
                      exact zk1 hk52 rfl he
                    · have he := zif_f c39 he
                      refine zif_n (fun q => c39 ((zo_lt rfl (zo_l 0) hn38 (by decide)).mp q)) ?_
                      obtain ⟨r58, hb40, he⟩ := zb1_e he
                      refine (zb1_s (s_M_gone rfl rfl rfl hb40)).trans ?_
                      refine zj1_z (m1 := zoA) he (fun g_next_60 he => ?_) (fun k62f k62 hk62 he => ?_)
                      · obtain ⟨x61, hx41⟩ : ∃ y : Int, y = l8_53 + (1 : Int) := ⟨_, rfl⟩
                        have he := zn_e hx41 he
                        refine zn_z (y := zo x61) ((zo_add rfl (zo_l 1)).trans (congrArg zo hx41.symm)) ?_
                        exact zk2 hagain55 rfl rfl he
                      obtain ⟨hn42, he⟩ := zg_e he
                      by_cases c43 : (0 : Int) ≤ r58
                      · have he := zif_t c43 he
                        refine zif_p ((zo_le (zo_l 0) rfl (by decide) hn42).mpr c43) ?_
                        obtain ⟨r64, hb44, he⟩ := zb1_e he
                        refine (zb1_s (s_M_isCorner rfl rfl rfl rfl hb44)).trans ?_
                        refine zj1_z (m1 := zo) he (fun s66 he => ?_) (fun k78f k78 hk78 he => ?_)
                        · obtain ⟨r67, hb45, he⟩ := zb1_e he
                          refine (zb1_s (s_M_wordsOn rfl rfl hb45)).trans ?_
                          obtain ⟨hn46, he⟩ := zg_e he
                          by_cases c47 : s66 + r67 < p2
                          · have he := zif_t c47 he
                            refine zif_p ((zo_lt (zo_add rfl rfl) rfl hn46 hn13).mpr c47) ?_
                            obtain ⟨r70, hb48, he⟩ := zb1_e he
                            refine (zb1_s (s_M_at rfl rfl hb48)).trans ?_
                            obtain ⟨hg50, he⟩ := zg_e he
                            have hg49 := zin3 (n := 180) (by decide) hg50
                            refine zg_z (zo_in rfl hg49) ?_
                            obtain ⟨hn51, he⟩ := zg_e he
                            obtain ⟨hn52, he⟩ := zg_e he
                            by_cases c53 : s66 ≤ g_next_54 r70.toNat
                            · have he := zif_t c53 he
                              refine zif_p ((zo_le rfl (zo_rd rfl rfl hg49) hn51 hn52).mpr c53) ?_
                              exact zk1 hk62 rfl he
                            · have he := zif_f c53 he
                              refine zif_n (fun q => c53 ((zo_le rfl (zo_rd rfl rfl hg49) hn51 hn52).mp q)) ?_
                              obtain ⟨r74, hb54, he⟩ := zb1_e he
                              refine (zb1_s (s_M_at rfl rfl hb54)).trans ?_
                              obtain ⟨hg56, he⟩ := zg_e he
                              have hg55 := zin3 (n := 180) (by decide) hg56
                              refine zg_z (zo_in rfl hg55) ?_
                              obtain ⟨g77, hx57⟩ : ∃ y : Nat → Int, y = updI g_next_54 r74.toNat s66 := ⟨_, rfl⟩
                              have he := zn_e hx57 he
                              refine zn_z (y := zoA g77) ((zo_upd rfl rfl hg55 rfl).trans (congrArg zoA hx57.symm)) ?_
                              exact zk1 hk62 rfl he
                          · have he := zif_f c47 he
                            refine zif_n (fun q => c47 ((zo_lt (zo_add rfl rfl) rfl hn46 hn13).mp q)) ?_
                            obtain ⟨rfl, rfl, rfl, rfl⟩ := zi4 he
                            exact zs4 rfl rfl rfl rfl
                        obtain ⟨hn58, he⟩ := zg_e he
                        by_cases c59 : r64 = (0 : Int)
                        · have he := zif_t c59 he
                          refine zif_p ((zo_eq rfl (zo_l 0) hn58 (by decide)).mpr c59) ?_
                          obtain ⟨r80, hb60, he⟩ := zb1_e he
                          refine (zb1_s (s_M_wordsOn rfl rfl hb60)).trans ?_
                          exact zk1 hk78 (zo_add rfl rfl) he
                        · have he := zif_f c59 he
                          refine zif_n (fun q => c59 ((zo_eq rfl (zo_l 0) hn58 (by decide)).mp q)) ?_
                          exact zk1 hk78 (zo_l 0) he
                      · have he := zif_f c43 he
                        refine zif_n (fun q => c43 ((zo_le (zo_l 0) rfl (by decide) hn42).mp q)) ?_
                        exact zk1 hk62 rfl he
            refine zl2_z (m1 := zo) (m2 := zoA) (zo_l 0) rfl he (fun l5_83 g_next_84 again85f again85 hagain85 he => ?_)
            obtain ⟨hn61, he⟩ := zg_e he
            by_cases c62 : (180 : Int) ≤ l5_83
            · have he := zif_t c62 he
              refine zif_p ((zo_le (zo_l 180) rfl (by decide) hn61).mpr c62) ?_
              exact zk1 hk82 rfl he
            · have he := zif_f c62 he
              refine zif_n (fun q => c62 ((zo_le (zo_l 180) rfl (by decide) hn61).mp q)) ?_
              obtain ⟨hg64, he⟩ := zg_e he
              have hg63 := zin3 (n := 180) (by decide) hg64
              refine zg_z (zo_in rfl hg63) ?_
              obtain ⟨g88, hx65⟩ : ∃ y : Nat → Int, y = updI g_next_84 l5_83.toNat (-1 : Int) := ⟨_, rfl⟩
              have he := zn_e hx65 he
              refine zn_z (y := zoA g88) ((zo_upd rfl rfl hg63 (zo_ln 1)).trans (congrArg zoA hx65.symm)) ?_
              obtain ⟨x89, hx66⟩ : ∃ y : Int, y = l5_83 + (1 : Int) := ⟨_, rfl⟩
              have he := zn_e hx66 he
              refine zn_z (y := zo x89) ((zo_add rfl (zo_l 1)).trans (congrArg zo hx66.symm)) ?_
              exact zk2 hagain85 rfl rfl he
        · have he := zif_f c14 he
          refine zif_n (fun q => c14 ((zo_lt rfl rfl hn12 hn13).mp q)) ?_
          obtain ⟨rfl, rfl, rfl, rfl⟩ := zi4 he
          exact zs4 (zo_l 0) rfl rfl rfl
      refine zl2_z (m1 := zo) (m2 := zoA) (zo_l 0) rfl he (fun l4_91 g_most_92 again93f again93 hagain93 he => ?_)
      obtain ⟨hn67, he⟩ := zg_e he
      by_cases c68 : (180 : Int) ≤ l4_91
      · have he := zif_t c68 he
        refine zif_p ((zo_le (zo_l 180) rfl (by decide) hn67).mpr c68) ?_
        exact zk1 hk90 rfl he
      · have he := zif_f c68 he
        refine zif_n (fun q => c68 ((zo_le (zo_l 180) rfl (by decide) hn67).mp q)) ?_
        obtain ⟨hg70, he⟩ := zg_e he
        have hg69 := zin3 (n := 180) (by decide) hg70
        refine zg_z (zo_in rfl hg69) ?_
        obtain ⟨g96, hx71⟩ : ∃ y : Nat → Int, y = updI g_most_92 l4_91.toNat (-1 : Int) := ⟨_, rfl⟩
        have he := zn_e hx71 he
        refine zn_z (y := zoA g96) ((zo_upd rfl rfl hg69 (zo_ln 1)).trans (congrArg zoA hx71.symm)) ?_
        obtain ⟨x97, hx72⟩ : ∃ y : Int, y = l4_91 + (1 : Int) := ⟨_, rfl⟩
        have he := zn_e hx72 he
        refine zn_z (y := zo x97) ((zo_add rfl (zo_l 1)).trans (congrArg zo hx72.symm)) ?_
        exact zk2 hagain93 rfl rfl he
  · have he := zif_f c3 he
    refine zif_n (fun q => c3 ((zo_eq rfl (zo_l 0) hn2 (by decide)).mp q)) ?_
    obtain ⟨r98, g_refused_99, hb73, he⟩ := zb2_e he
    refine (zb2_s (s_M_no rfl rfl hb73)).trans ?_
    obtain ⟨rfl, rfl, rfl, rfl⟩ := zi4 he
    exact zs4 rfl rfl rfl rfl
theorem s_M_meet {g_otherStepsf : Nat → Int32} {g_otherSteps : Nat → Int} {g_refusedf : Nat → Int32} {g_refused : Nat → Int} {g_sf : Nat → Int32} {g_s : Nat → Int} {g_stepsFromf : Nat → Int32} {g_stepsFrom : Nat → Int} {p1f : Int32} {p1 : Int} {p2f : Int32} {p2 : Int} {p3f : Int32} {p3 : Int} {R0 : Int} {R1 : Nat → Int} {R2 : Nat → Int} {R3 : Nat → Int} (eg_otherSteps : g_otherStepsf = zoA g_otherSteps) (eg_refused : g_refusedf = zoA g_refused) (eg_s : g_sf = zoA g_s) (eg_stepsFrom : g_stepsFromf = zoA g_stepsFrom) (ep1 : p1f = zo p1) (ep2 : p2f = zo p2) (ep3 : p3f = zo p3) (he : g_M_meet g_otherSteps g_refused g_s g_stepsFrom p1 p2 p3 = some (R0, R1, R2, R3)) : f_M_meet g_otherStepsf g_refusedf g_sf g_stepsFromf p1f p2f p3f = some (zo R0, zoA R1, zoA R2, zoA R3) := by
  subst eg_otherSteps
  subst eg_refused
  subst eg_s
  subst eg_stepsFrom
  subst ep1
  subst ep2
  subst ep3
  unfold g_M_meet at he
  unfold f_M_meet
  obtain ⟨r1, hb1, he⟩ := zb1_e he
  refine (zb1_s (s_M_isSquare rfl hb1)).trans ?_
  refine zj1_z (m1 := id) he (fun _ he => ?_) (fun k6f k6 hk6 he => ?_)
  · obtain ⟨r3, g_refused_4, hb2, he⟩ := zb2_e he
    refine (zb2_s (s_M_no rfl (zo_ln 1) hb2)).trans ?_
    obtain ⟨rfl, rfl, rfl, rfl⟩ := zi4 he
    exact zs4 rfl rfl rfl rfl
  obtain ⟨hn3, he⟩ := zg_e he
  by_cases c4 : r1 = (0 : Int)
  · have he := zif_t c4 he
    refine zif_p ((zo_eq rfl (zo_l 0) hn3 (by decide)).mpr c4) ?_
    exact zk1 hk6 rfl he
  · have he := zif_f c4 he
    refine zif_n (fun q => c4 ((zo_eq rfl (zo_l 0) hn3 (by decide)).mp q)) ?_
    obtain ⟨r8, hb5, he⟩ := zb1_e he
    refine (zb1_s (s_M_isSquare rfl hb5)).trans ?_
    obtain ⟨hn6, he⟩ := zg_e he
    by_cases c7 : r8 = (0 : Int)
    · have he := zif_t c7 he
      refine zif_p ((zo_eq rfl (zo_l 0) hn6 (by decide)).mpr c7) ?_
      exact zk1 hk6 rfl he
    · have he := zif_f c7 he
      refine zif_n (fun q => c7 ((zo_eq rfl (zo_l 0) hn6 (by decide)).mp q)) ?_
      obtain ⟨r11, hb8, he⟩ := zb1_e he
      refine (zb1_s (s_M_isIn rfl (zo_l 0) (zo_l 1) hb8)).trans ?_
      obtain ⟨hn9, he⟩ := zg_e he
      by_cases c10 : r11 = (0 : Int)
      · have he := zif_t c10 he
        refine zif_p ((zo_eq rfl (zo_l 0) hn9 (by decide)).mpr c10) ?_
        obtain ⟨r51, g_refused_52, hb11, he⟩ := zb2_e he
        refine (zb2_s (s_M_no rfl (zo_ln 2) hb11)).trans ?_
        obtain ⟨rfl, rfl, rfl, rfl⟩ := zi4 he
        exact zs4 rfl rfl rfl rfl
      · have he := zif_f c10 he
        refine zif_n (fun q => c10 ((zo_eq rfl (zo_l 0) hn9 (by decide)).mp q)) ?_
        obtain ⟨g_stepsFrom_14, hb12, he⟩ := zb1_e he
        refine (zb1_s (s_M_stepsAll rfl rfl rfl hb12)).trans ?_
        refine zj1_z (m1 := zoA) he (fun g_otherSteps_16 he => ?_) (fun k41f k41 hk41 he => ?_)
        · obtain ⟨g_stepsFrom_17, hb13, he⟩ := zb1_e he
          refine (zb1_s (s_M_stepsAll rfl rfl rfl hb13)).trans ?_
          refine zj2_z (m1 := zo) (m2 := zo) he (fun l4_19 l5_20 he => ?_) (fun k23f k23 hk23 he => ?_)
          · obtain ⟨hn14, he⟩ := zg_e he
            by_cases c15 : l4_19 < (0 : Int)
            · have he := zif_t c15 he
              refine zif_p ((zo_lt rfl (zo_l 0) hn14 (by decide)).mpr c15) ?_
              obtain ⟨rfl, rfl, rfl, rfl⟩ := zi4 he
              exact zs4 rfl rfl rfl rfl
            · have he := zif_f c15 he
              refine zif_n (fun q => c15 ((zo_lt rfl (zo_l 0) hn14 (by decide)).mp q)) ?_
              obtain ⟨hn16, he⟩ := zg_e he
              by_cases c17 : p3 = (1 : Int)
              · have he := zif_t c17 he
                refine zif_p ((zo_eq rfl (zo_l 1) hn16 (by decide)).mpr c17) ?_
                obtain ⟨rfl, rfl, rfl, rfl⟩ := zi4 he
                exact zs4 rfl rfl rfl rfl
              · have he := zif_f c17 he
                refine zif_n (fun q => c17 ((zo_eq rfl (zo_l 1) hn16 (by decide)).mp q)) ?_
                obtain ⟨rfl, rfl, rfl, rfl⟩ := zi4 he
                exact zs4 rfl rfl rfl rfl
          refine zl3_z (m1 := zo) (m2 := zo) (m3 := zo) (zo_ln 9) (zo_l 1000000000) (zo_l 0) he (fun l4_24 l5_25 l6_26 again27f again27 hagain27 he => ?_)
          obtain ⟨hn18, he⟩ := zg_e he
          by_cases c19 : (36 : Int) ≤ l6_26
          · have he := zif_t c19 he
            refine zif_p ((zo_le (zo_l 36) rfl (by decide) hn18).mpr c19) ?_
            exact zk2 hk23 rfl rfl he
          · have he := zif_f c19 he
            refine zif_n (fun q => c19 ((zo_le (zo_l 36) rfl (by decide) hn18).mp q)) ?_
            obtain ⟨hg21, he⟩ := zg_e he
            have hg20 := zin3 (n := 36) (by decide) hg21
            refine zg_z (zo_in rfl hg20) ?_
            refine zg_z (zo_in rfl hg20) ?_
            refine zj1_z (m1 := zo) he (fun s31 he => ?_) (fun k37f k37 hk37 he => ?_)
            · refine zj2_z (m1 := zo) (m2 := zo) he (fun l4_32 l5_33 he => ?_) (fun k35f k35 hk35 he => ?_)
              · obtain ⟨x34, hx23⟩ : ∃ y : Int, y = l6_26 + (1 : Int) := ⟨_, rfl⟩
                have he := zn_e hx23 he
                refine zn_z (y := zo x34) ((zo_add rfl (zo_l 1)).trans (congrArg zo hx23.symm)) ?_
                exact zk3 hagain27 rfl rfl rfl he
              obtain ⟨hn24, he⟩ := zg_e he
              obtain ⟨hn25, he⟩ := zg_e he
              by_cases c26 : s31 < l5_25
              · have he := zif_t c26 he
                refine zif_p ((zo_lt rfl rfl hn24 hn25).mpr c26) ?_
                exact zk2 hk35 rfl rfl he
              · have he := zif_f c26 he
                refine zif_n (fun q => c26 ((zo_lt rfl rfl hn24 hn25).mp q)) ?_
                exact zk2 hk35 rfl rfl he
            obtain ⟨hn27, he⟩ := zg_e he
            obtain ⟨hn28, he⟩ := zg_e he
            by_cases c29 : g_stepsFrom_17 l6_26.toNat ≤ g_otherSteps_16 l6_26.toNat
            · have he := zif_t c29 he
              refine zif_p ((zo_le (zo_rd rfl rfl hg20) (zo_rd rfl rfl hg20) hn27 hn28).mpr c29) ?_
              refine zg_z (zo_in rfl hg20) ?_
              exact zk1 hk37 (zo_rd rfl rfl hg20) he
            · have he := zif_f c29 he
              refine zif_n (fun q => c29 ((zo_le (zo_rd rfl rfl hg20) (zo_rd rfl rfl hg20) hn27 hn28).mp q)) ?_
              refine zg_z (zo_in rfl hg20) ?_
              exact zk1 hk37 (zo_rd rfl rfl hg20) he
        refine zl2_z (m1 := zo) (m2 := zoA) (zo_l 0) rfl he (fun l4_42 g_otherSteps_43 again44f again44 hagain44 he => ?_)
        obtain ⟨hn32, he⟩ := zg_e he
        by_cases c33 : (36 : Int) ≤ l4_42
        · have he := zif_t c33 he
          refine zif_p ((zo_le (zo_l 36) rfl (by decide) hn32).mpr c33) ?_
          exact zk1 hk41 rfl he
        · have he := zif_f c33 he
          refine zif_n (fun q => c33 ((zo_le (zo_l 36) rfl (by decide) hn32).mp q)) ?_
          obtain ⟨hg35, he⟩ := zg_e he
          have hg34 := zin3 (n := 36) (by decide) hg35
          refine zg_z (zo_in rfl hg34) ?_
          obtain ⟨x47, hx36⟩ : ∃ y : Int, y = g_stepsFrom_14 l4_42.toNat := ⟨_, rfl⟩
          have he := zn_e hx36 he
          refine zn_z (y := zo x47) ((zo_rd rfl rfl hg34).trans (congrArg zo hx36.symm)) ?_
          refine zg_z (zo_in rfl hg34) ?_
          obtain ⟨g49, hx38⟩ : ∃ y : Nat → Int, y = updI g_otherSteps_43 l4_42.toNat x47 := ⟨_, rfl⟩
          have he := zn_e hx38 he
          refine zn_z (y := zoA g49) ((zo_upd rfl rfl hg34 rfl).trans (congrArg zoA hx38.symm)) ?_
          obtain ⟨x50, hx39⟩ : ∃ y : Int, y = l4_42 + (1 : Int) := ⟨_, rfl⟩
          have he := zn_e hx39 he
          refine zn_z (y := zo x50) ((zo_add rfl (zo_l 1)).trans (congrArg zo hx39.symm)) ?_
          exact zk2 hagain44 rfl rfl he
theorem s_M_roundOff {g_leastf : Nat → Int32} {g_least : Nat → Int} {g_refusedf : Nat → Int32} {g_refused : Nat → Int} {g_sf : Nat → Int32} {g_s : Nat → Int} {p1f : Int32} {p1 : Int} {p2f : Int32} {p2 : Int} {R0 : Int} {R1 : Nat → Int} {R2 : Nat → Int} {R3 : Nat → Int} (eg_least : g_leastf = zoA g_least) (eg_refused : g_refusedf = zoA g_refused) (eg_s : g_sf = zoA g_s) (ep1 : p1f = zo p1) (ep2 : p2f = zo p2) (he : g_M_roundOff g_least g_refused g_s p1 p2 = some (R0, R1, R2, R3)) : f_M_roundOff g_leastf g_refusedf g_sf p1f p2f = some (zo R0, zoA R1, zoA R2, zoA R3) := by
  subst eg_least
  subst eg_refused
  subst eg_s
  subst ep1
  subst ep2
  unfold g_M_roundOff at he
  unfold f_M_roundOff
  obtain ⟨r1, hb1, he⟩ := zb1_e he
  refine (zb1_s (s_M_isSquare rfl hb1)).trans ?_
  refine zj1_z (m1 := id) he (fun _ he => ?_) (fun k6f k6 hk6 he => ?_)
  · obtain ⟨r3, g_refused_4, hb2, he⟩ := zb2_e he
    refine (zb2_s (s_M_no rfl (zo_ln 1) hb2)).trans ?_
    obtain ⟨rfl, rfl, rfl, rfl⟩ := zi4 he
    exact zs4 rfl rfl rfl rfl
  obtain ⟨hn3, he⟩ := zg_e he
  by_cases c4 : r1 = (0 : Int)
  · have he := zif_t c4 he
    refine zif_p ((zo_eq rfl (zo_l 0) hn3 (by decide)).mpr c4) ?_
    exact zk1 hk6 rfl he
  · have he := zif_f c4 he
    refine zif_n (fun q => c4 ((zo_eq rfl (zo_l 0) hn3 (by decide)).mp q)) ?_
    obtain ⟨r8, hb5, he⟩ := zb1_e he
    refine (zb1_s (s_M_isSquare rfl hb5)).trans ?_
    obtain ⟨hn6, he⟩ := zg_e he
    by_cases c7 : r8 = (0 : Int)
    · have he := zif_t c7 he
      refine zif_p ((zo_eq rfl (zo_l 0) hn6 (by decide)).mpr c7) ?_
      exact zk1 hk6 rfl he
    · have he := zif_f c7 he
      refine zif_n (fun q => c7 ((zo_eq rfl (zo_l 0) hn6 (by decide)).mp q)) ?_
      obtain ⟨r11, g_least_12, hb8, he⟩ := zb2_e he
      refine (zb2_s (s_M_cornersBy rfl rfl rfl rfl (zo_ln 9) hb8)).trans ?_
      obtain ⟨hn9, he⟩ := zg_e he
      by_cases c10 : r11 < (1000000000 : Int)
      · have he := zif_t c10 he
        refine zif_p ((zo_lt rfl (zo_l 1000000000) hn9 (by decide)).mpr c10) ?_
        obtain ⟨hn11, he⟩ := zg_e he
        obtain ⟨x15, hx12⟩ : ∃ y : Int, y = r11 / (1000 : Int) := ⟨_, rfl⟩
        have he := zn_e hx12 he
        refine zn_z (y := zo x15) ((zo_div rfl (zo_l 1000) hn11 (by decide)).trans (congrArg zo hx12.symm)) ?_
        refine zl5_z (m1 := zo) (m2 := zo) (m3 := zo) (m4 := zoA) (m5 := zoA) (zo_ln 9) rfl (zo_l 0) rfl rfl he (fun l4_16 l5_17 l6_18 g_least_19 g_s_20 again21f again21 hagain21 he => ?_)
        obtain ⟨hn13, he⟩ := zg_e he
        by_cases c14 : (36 : Int) ≤ l6_18
        · have he := zif_t c14 he
          refine zif_p ((zo_le (zo_l 36) rfl (by decide) hn13).mpr c14) ?_
          obtain ⟨rfl, rfl, rfl, rfl⟩ := zi4 he
          exact zs4 rfl rfl rfl rfl
        · have he := zif_f c14 he
          refine zif_n (fun q => c14 ((zo_le (zo_l 36) rfl (by decide) hn13).mp q)) ?_
          obtain ⟨hg16, he⟩ := zg_e he
          have hg15 := zin3 (n := 39) (by decide) hg16
          refine zg_z (zo_in rfl hg15) ?_
          refine zj4_z (m1 := zo) (m2 := zo) (m3 := zoA) (m4 := zoA) he (fun l4_24 l5_25 g_least_26 g_s_27 he => ?_) (fun k29f k29 hk29 he => ?_)
          · obtain ⟨x28, hx17⟩ : ∃ y : Int, y = l6_18 + (1 : Int) := ⟨_, rfl⟩
            have he := zn_e hx17 he
            refine zn_z (y := zo x28) ((zo_add rfl (zo_l 1)).trans (congrArg zo hx17.symm)) ?_
            exact zk5 hagain21 rfl rfl rfl rfl rfl he
          obtain ⟨hn18, he⟩ := zg_e he
          by_cases c19 : g_s_20 l6_18.toNat = (0 : Int)
          · have he := zif_t c19 he
            refine zif_p ((zo_eq (zo_rd rfl rfl hg15) (zo_l 0) hn18 (by decide)).mpr c19) ?_
            refine zg_z (zo_in rfl hg15) ?_
            obtain ⟨g32, hx21⟩ : ∃ y : Nat → Int, y = updI g_s_20 l6_18.toNat (2 : Int) := ⟨_, rfl⟩
            have he := zn_e hx21 he
            refine zn_z (y := zoA g32) ((zo_upd rfl rfl hg15 (zo_l 2)).trans (congrArg zoA hx21.symm)) ?_
            obtain ⟨r33, g_least_34, hb22, he⟩ := zb2_e he
            refine (zb2_s (s_M_cornersBy rfl rfl rfl rfl (zo_ln 9) hb22)).trans ?_
            obtain ⟨hn23, he⟩ := zg_e he
            obtain ⟨x36, hx24⟩ : ∃ y : Int, y = r33 / (1000 : Int) := ⟨_, rfl⟩
            have he := zn_e hx24 he
            refine zn_z (y := zo x36) ((zo_div rfl (zo_l 1000) hn23 (by decide)).trans (congrArg zo hx24.symm)) ?_
            refine zg_z (zo_in rfl hg15) ?_
            obtain ⟨g38, hx26⟩ : ∃ y : Nat → Int, y = updI g32 l6_18.toNat (0 : Int) := ⟨_, rfl⟩
            have he := zn_e hx26 he
            refine zn_z (y := zoA g38) ((zo_upd rfl rfl hg15 (zo_l 0)).trans (congrArg zoA hx26.symm)) ?_
            obtain ⟨hn27, he⟩ := zg_e he
            obtain ⟨hn28, he⟩ := zg_e he
            by_cases c29 : x36 < l5_17
            · have he := zif_t c29 he
              refine zif_p ((zo_lt rfl rfl hn27 hn28).mpr c29) ?_
              exact zk4 hk29 rfl rfl rfl rfl he
            · have he := zif_f c29 he
              refine zif_n (fun q => c29 ((zo_lt rfl rfl hn27 hn28).mp q)) ?_
              exact zk4 hk29 rfl rfl rfl rfl he
          · have he := zif_f c19 he
            refine zif_n (fun q => c19 ((zo_eq (zo_rd rfl rfl hg15) (zo_l 0) hn18 (by decide)).mp q)) ?_
            exact zk4 hk29 rfl rfl rfl rfl he
      · have he := zif_f c10 he
        refine zif_n (fun q => c10 ((zo_lt rfl (zo_l 1000000000) hn9 (by decide)).mp q)) ?_
        obtain ⟨rfl, rfl, rfl, rfl⟩ := zi4 he
        exact zs4 (zo_ln 9) rfl rfl rfl
theorem s_M_heardMany {g_sf : Nat → Int32} {g_s : Nat → Int} {R0 : Int} (eg_s : g_sf = zoA g_s) (he : g_M_heardMany g_s = some (R0)) : f_M_heardMany g_sf = some (zo R0) := by
  subst eg_s
  unfold g_M_heardMany at he
  unfold f_M_heardMany
  refine zl2_z (m1 := zo) (m2 := zo) (zo_l 0) (zo_l 0) he (fun l1_1 l2_2 again3f again3 hagain3 he => ?_)
  obtain ⟨hn1, he⟩ := zg_e he
  by_cases c2 : (36 : Int) ≤ l2_2
  · have he := zif_t c2 he
    refine zif_p ((zo_le (zo_l 36) rfl (by decide) hn1).mpr c2) ?_
    obtain ⟨rfl⟩ := zi1 he
    exact zs1 rfl
  · have he := zif_f c2 he
    refine zif_n (fun q => c2 ((zo_le (zo_l 36) rfl (by decide) hn1).mp q)) ?_
    obtain ⟨r5, hb3, he⟩ := zb1_e he
    refine (zb1_s (s_M_isHeard rfl rfl hb3)).trans ?_
    refine zj1_z (m1 := zo) he (fun s7 he => ?_) (fun k10f k10 hk10 he => ?_)
    · obtain ⟨x8, hx4⟩ : ∃ y : Int, y = l1_1 + s7 := ⟨_, rfl⟩
      have he := zn_e hx4 he
      refine zn_z (y := zo x8) ((zo_add rfl rfl).trans (congrArg zo hx4.symm)) ?_
      obtain ⟨x9, hx5⟩ : ∃ y : Int, y = l2_2 + (1 : Int) := ⟨_, rfl⟩
      have he := zn_e hx5 he
      refine zn_z (y := zo x9) ((zo_add rfl (zo_l 1)).trans (congrArg zo hx5.symm)) ?_
      exact zk2 hagain3 rfl rfl he
    obtain ⟨hn6, he⟩ := zg_e he
    by_cases c7 : r5 = (0 : Int)
    · have he := zif_t c7 he
      refine zif_p ((zo_eq rfl (zo_l 0) hn6 (by decide)).mpr c7) ?_
      exact zk1 hk10 (zo_l 0) he
    · have he := zif_f c7 he
      refine zif_n (fun q => c7 ((zo_eq rfl (zo_l 0) hn6 (by decide)).mp q)) ?_
      exact zk1 hk10 (zo_l 1) he
theorem s_M_newNiche {g_refusedf : Nat → Int32} {g_refused : Nat → Int} {g_sf : Nat → Int32} {g_s : Nat → Int} {p1f : Int32} {p1 : Int} {R0 : Int} {R1 : Nat → Int} (eg_refused : g_refusedf = zoA g_refused) (eg_s : g_sf = zoA g_s) (ep1 : p1f = zo p1) (he : g_M_newNiche g_refused g_s p1 = some (R0, R1)) : f_M_newNiche g_refusedf g_sf p1f = some (zo R0, zoA R1) := by
  subst eg_refused
  subst eg_s
  subst ep1
  unfold g_M_newNiche at he
  unfold f_M_newNiche
  obtain ⟨r1, hb1, he⟩ := zb1_e he
  refine (zb1_s (s_M_isIn rfl (zo_l 0) (zo_l 1) hb1)).trans ?_
  obtain ⟨hn2, he⟩ := zg_e he
  by_cases c3 : r1 = (0 : Int)
  · have he := zif_t c3 he
    refine zif_p ((zo_eq rfl (zo_l 0) hn2 (by decide)).mpr c3) ?_
    obtain ⟨r41, g_refused_42, hb4, he⟩ := zb2_e he
    refine (zb2_s (s_M_no rfl (zo_ln 2) hb4)).trans ?_
    obtain ⟨rfl, rfl⟩ := zi2 he
    exact zs2 rfl rfl
  · have he := zif_f c3 he
    refine zif_n (fun q => c3 ((zo_eq rfl (zo_l 0) hn2 (by decide)).mp q)) ?_
    refine zj2_z (m1 := zo) (m2 := zo) he (fun l2_4 l3_5 he => ?_) (fun k8f k8 hk8 he => ?_)
    · obtain ⟨hn5, he⟩ := zg_e he
      by_cases c6 : p1 = (0 : Int)
      · have he := zif_t c6 he
        refine zif_p ((zo_eq rfl (zo_l 0) hn5 (by decide)).mpr c6) ?_
        obtain ⟨rfl, rfl⟩ := zi2 he
        exact zs2 rfl rfl
      · have he := zif_f c6 he
        refine zif_n (fun q => c6 ((zo_eq rfl (zo_l 0) hn5 (by decide)).mp q)) ?_
        obtain ⟨hn7, he⟩ := zg_e he
        by_cases c8 : (0 : Int) ≤ l2_4
        · have he := zif_t c8 he
          refine zif_p ((zo_le (zo_l 0) rfl (by decide) hn7).mpr c8) ?_
          obtain ⟨rfl, rfl⟩ := zi2 he
          exact zs2 rfl rfl
        · have he := zif_f c8 he
          refine zif_n (fun q => c8 ((zo_le (zo_l 0) rfl (by decide) hn7).mp q)) ?_
          obtain ⟨rfl, rfl⟩ := zi2 he
          exact zs2 rfl rfl
    refine zl3_z (m1 := zo) (m2 := zo) (m3 := zo) (zo_ln 9) (zo_l 0) (zo_l 0) he (fun l2_9 l3_10 l4_11 again12f again12 hagain12 he => ?_)
    obtain ⟨hn9, he⟩ := zg_e he
    by_cases c10 : (36 : Int) ≤ l4_11
    · have he := zif_t c10 he
      refine zif_p ((zo_le (zo_l 36) rfl (by decide) hn9).mpr c10) ?_
      exact zk2 hk8 rfl rfl he
    · have he := zif_f c10 he
      refine zif_n (fun q => c10 ((zo_le (zo_l 36) rfl (by decide) hn9).mp q)) ?_
      obtain ⟨hg12, he⟩ := zg_e he
      have hg11 := zin3 (n := 39) (by decide) hg12
      refine zg_z (zo_in (zo_l 36) hg11) ?_
      refine zj2_z (m1 := zo) (m2 := zo) he (fun l2_15 l3_16 he => ?_) (fun k18f k18 hk18 he => ?_)
      · obtain ⟨x17, hx13⟩ : ∃ y : Int, y = l4_11 + (1 : Int) := ⟨_, rfl⟩
        have he := zn_e hx13 he
        refine zn_z (y := zo x17) ((zo_add rfl (zo_l 1)).trans (congrArg zo hx13.symm)) ?_
        exact zk3 hagain12 rfl rfl rfl he
      obtain ⟨hn14, he⟩ := zg_e he
      by_cases c15 : l4_11 = g_s (36 : Int).toNat
      · have he := zif_t c15 he
        refine zif_p ((zo_eq rfl (zo_rd rfl (zo_l 36) hg11) hn9 hn14).mpr c15) ?_
        exact zk2 hk18 rfl rfl he
      · have he := zif_f c15 he
        refine zif_n (fun q => c15 ((zo_eq rfl (zo_rd rfl (zo_l 36) hg11) hn9 hn14).mp q)) ?_
        obtain ⟨r20, hb16, he⟩ := zb1_e he
        refine (zb1_s (s_M_canBe rfl rfl hb16)).trans ?_
        obtain ⟨hn17, he⟩ := zg_e he
        by_cases c18 : r20 = (0 : Int)
        · have he := zif_t c18 he
          refine zif_p ((zo_eq rfl (zo_l 0) hn17 (by decide)).mpr c18) ?_
          exact zk2 hk18 rfl rfl he
        · have he := zif_f c18 he
          refine zif_n (fun q => c18 ((zo_eq rfl (zo_l 0) hn17 (by decide)).mp q)) ?_
          refine zj1_z (m1 := zo) he (fun l5_23 he => ?_) (fun k25f k25 hk25 he => ?_)
          · obtain ⟨hn19, he⟩ := zg_e he
            obtain ⟨hn20, he⟩ := zg_e he
            by_cases c21 : l3_10 < l5_23
            · have he := zif_t c21 he
              refine zif_p ((zo_lt rfl rfl hn19 hn20).mpr c21) ?_
              exact zk2 hk18 rfl rfl he
            · have he := zif_f c21 he
              refine zif_n (fun q => c21 ((zo_lt rfl rfl hn19 hn20).mp q)) ?_
              exact zk2 hk18 rfl rfl he
          refine zl2_z (m1 := zo) (m2 := zo) (zo_l 0) (zo_l 0) he (fun l5_26 l6_27 again28f again28 hagain28 he => ?_)
          obtain ⟨hn22, he⟩ := zg_e he
          by_cases c23 : (36 : Int) ≤ l6_27
          · have he := zif_t c23 he
            refine zif_p ((zo_le (zo_l 36) rfl (by decide) hn22).mpr c23) ?_
            exact zk1 hk25 rfl he
          · have he := zif_f c23 he
            refine zif_n (fun q => c23 ((zo_le (zo_l 36) rfl (by decide) hn22).mp q)) ?_
            obtain ⟨r30, hb24, he⟩ := zb1_e he
            refine (zb1_s (s_M_apart rfl rfl hb24)).trans ?_
            refine zj1_z (m1 := zo) he (fun s32 he => ?_) (fun k35f k35 hk35 he => ?_)
            · obtain ⟨x33, hx25⟩ : ∃ y : Int, y = l5_26 + s32 := ⟨_, rfl⟩
              have he := zn_e hx25 he
              refine zn_z (y := zo x33) ((zo_add rfl rfl).trans (congrArg zo hx25.symm)) ?_
              obtain ⟨x34, hx26⟩ : ∃ y : Int, y = l6_27 + (1 : Int) := ⟨_, rfl⟩
              have he := zn_e hx26 he
              refine zn_z (y := zo x34) ((zo_add rfl (zo_l 1)).trans (congrArg zo hx26.symm)) ?_
              exact zk2 hagain28 rfl rfl he
            refine zj1_z (m1 := id) he (fun _ he => ?_) (fun k36f k36 hk36 he => ?_)
            · exact zk1 hk35 (zo_l 0) he
            obtain ⟨hn27, he⟩ := zg_e he
            by_cases c28 : (1 : Int) < r30
            · have he := zif_t c28 he
              refine zif_p ((zo_lt (zo_l 1) rfl (by decide) hn27).mpr c28) ?_
              exact zk1 hk36 rfl he
            · have he := zif_f c28 he
              refine zif_n (fun q => c28 ((zo_lt (zo_l 1) rfl (by decide) hn27).mp q)) ?_
              obtain ⟨r38, hb29, he⟩ := zb1_e he
              refine (zb1_s (s_M_isHeard rfl rfl hb29)).trans ?_
              obtain ⟨hn30, he⟩ := zg_e he
              by_cases c31 : r38 = (0 : Int)
              · have he := zif_t c31 he
                refine zif_p ((zo_eq rfl (zo_l 0) hn30 (by decide)).mpr c31) ?_
                exact zk1 hk35 (zo_l 1) he
              · have he := zif_f c31 he
                refine zif_n (fun q => c31 ((zo_eq rfl (zo_l 0) hn30 (by decide)).mp q)) ?_
                exact zk1 hk36 rfl he
theorem s_M_bits {p0f : Int32} {p0 : Int} {R0 : Int} (ep0 : p0f = zo p0) (he : g_M_bits p0 = some (R0)) : f_M_bits p0f = some (zo R0) := by
  subst ep0
  unfold g_M_bits at he
  unfold f_M_bits
  refine zl2_z (m1 := zo) (m2 := zo) (zo_l 0) (zo_l 0) he (fun l1_1 l2_2 again3f again3 hagain3 he => ?_)
  obtain ⟨hn1, he⟩ := zg_e he
  by_cases c2 : (8 : Int) ≤ l2_2
  · have he := zif_t c2 he
    refine zif_p ((zo_le (zo_l 8) rfl (by decide) hn1).mpr c2) ?_
    obtain ⟨rfl⟩ := zi1 he
    exact zs1 rfl
  · have he := zif_f c2 he
    refine zif_n (fun q => c2 ((zo_le (zo_l 8) rfl (by decide) hn1).mp q)) ?_
    obtain ⟨x5, hx3⟩ : ∃ y : Int, y = l1_1 + (zandI (zshrI p0 l2_2) (1 : Int)) := ⟨_, rfl⟩
    have he := zn_e hx3 he
    refine zn_z (y := zo x5) ((zo_add rfl (zo_and (zo_shr rfl rfl) (zo_l 1))).trans (congrArg zo hx3.symm)) ?_
    obtain ⟨x6, hx4⟩ : ∃ y : Int, y = l2_2 + (1 : Int) := ⟨_, rfl⟩
    have he := zn_e hx4 he
    refine zn_z (y := zo x6) ((zo_add rfl (zo_l 1)).trans (congrArg zo hx4.symm)) ?_
    exact zk2 hagain3 rfl rfl he
theorem s_M_areAllHeard {g_sf : Nat → Int32} {g_s : Nat → Int} {p1f : Int32} {p1 : Int} {R0 : Int} (eg_s : g_sf = zoA g_s) (ep1 : p1f = zo p1) (he : g_M_areAllHeard g_s p1 = some (R0)) : f_M_areAllHeard g_sf p1f = some (zo R0) := by
  subst eg_s
  subst ep1
  unfold g_M_areAllHeard at he
  unfold f_M_areAllHeard
  refine zl1_z (m1 := zo) (zo_l 0) he (fun l2_1 again2f again2 hagain2 he => ?_)
  obtain ⟨hn1, he⟩ := zg_e he
  by_cases c2 : (36 : Int) ≤ l2_1
  · have he := zif_t c2 he
    refine zif_p ((zo_le (zo_l 36) rfl (by decide) hn1).mpr c2) ?_
    obtain ⟨rfl⟩ := zi1 he
    exact zs1 (zo_l 1)
  · have he := zif_f c2 he
    refine zif_n (fun q => c2 ((zo_le (zo_l 36) rfl (by decide) hn1).mp q)) ?_
    obtain ⟨r4, hb3, he⟩ := zb1_e he
    refine (zb1_s (s_M_isHeard rfl rfl hb3)).trans ?_
    refine zj1_z (m1 := zo) he (fun s6 he => ?_) (fun k36f k36 hk36 he => ?_)
    · refine zj1_z (m1 := zo) he (fun l3_7 he => ?_) (fun k10f k10 hk10 he => ?_)
      · obtain ⟨hn4, he⟩ := zg_e he
        by_cases c5 : l3_7 = (0 : Int)
        · have he := zif_t c5 he
          refine zif_p ((zo_eq rfl (zo_l 0) hn4 (by decide)).mpr c5) ?_
          obtain ⟨rfl⟩ := zi1 he
          exact zs1 (zo_l 0)
        · have he := zif_f c5 he
          refine zif_n (fun q => c5 ((zo_eq rfl (zo_l 0) hn4 (by decide)).mp q)) ?_
          obtain ⟨x9, hx6⟩ : ∃ y : Int, y = l2_1 + (1 : Int) := ⟨_, rfl⟩
          have he := zn_e hx6 he
          refine zn_z (y := zo x9) ((zo_add rfl (zo_l 1)).trans (congrArg zo hx6.symm)) ?_
          exact zk1 hagain2 rfl he
      refine zl3_z (m1 := zo) (m2 := zo) (m3 := zo) rfl (zo_l 0) (zo_l 0) he (fun l3_11 l4_12 l5_13 again14f again14 hagain14 he => ?_)
      obtain ⟨hn7, he⟩ := zg_e he
      by_cases c8 : (36 : Int) ≤ l5_13
      · have he := zif_t c8 he
        refine zif_p ((zo_le (zo_l 36) rfl (by decide) hn7).mpr c8) ?_
        exact zk1 hk10 rfl he
      · have he := zif_f c8 he
        refine zif_n (fun q => c8 ((zo_le (zo_l 36) rfl (by decide) hn7).mp q)) ?_
        obtain ⟨hg10, he⟩ := zg_e he
        have hg9 := zin3 (n := 39) (by decide) hg10
        refine zg_z (zo_in rfl hg9) ?_
        obtain ⟨r17, hb11, he⟩ := zb1_e he
        refine (zb1_s (s_M_hears (zo_rd rfl rfl hg9) hb11)).trans ?_
        refine zj2_z (m1 := zo) (m2 := zo) he (fun l3_19 l4_20 he => ?_) (fun k22f k22 hk22 he => ?_)
        · obtain ⟨x21, hx12⟩ : ∃ y : Int, y = l5_13 + (1 : Int) := ⟨_, rfl⟩
          have he := zn_e hx12 he
          refine zn_z (y := zo x21) ((zo_add rfl (zo_l 1)).trans (congrArg zo hx12.symm)) ?_
          exact zk3 hagain14 rfl rfl rfl he
        obtain ⟨hn13, he⟩ := zg_e he
        by_cases c14 : (0 : Int) ≤ r17
        · have he := zif_t c14 he
          refine zif_p ((zo_le (zo_l 0) rfl (by decide) hn13).mpr c14) ?_
          refine zj1_z (m1 := zo) he (fun s24 he => ?_) (fun k27f k27 hk27 he => ?_)
          · obtain ⟨x25, hx15⟩ : ∃ y : Int, y = zorI l3_11 s24 := ⟨_, rfl⟩
            have he := zn_e hx15 he
            refine zn_z (y := zo x25) ((zo_or rfl rfl).trans (congrArg zo hx15.symm)) ?_
            obtain ⟨x26, hx16⟩ : ∃ y : Int, y = l4_12 + (1 : Int) := ⟨_, rfl⟩
            have he := zn_e hx16 he
            refine zn_z (y := zo x26) ((zo_add rfl (zo_l 1)).trans (congrArg zo hx16.symm)) ?_
            exact zk2 hk22 rfl rfl he
          refine zj1_z (m1 := id) he (fun _ he => ?_) (fun k28f k28 hk28 he => ?_)
          · exact zk1 hk27 (zo_l 0) he
          obtain ⟨hn17, he⟩ := zg_e he
          by_cases c18 : zandI (zshrI p1 l4_12) (1 : Int) = (1 : Int)
          · have he := zif_t c18 he
            refine zif_p ((zo_eq (zo_and (zo_shr rfl rfl) (zo_l 1)) (zo_l 1) hn17 (by decide)).mpr c18) ?_
            refine zg_z (zo_in rfl hg9) ?_
            obtain ⟨r31, hb20, he⟩ := zb1_e he
            refine (zb1_s (s_M_hears (zo_rd rfl rfl hg9) hb20)).trans ?_
            obtain ⟨r33, hb21, he⟩ := zb1_e he
            refine (zb1_s (s_M_apart rfl rfl hb21)).trans ?_
            obtain ⟨hn22, he⟩ := zg_e he
            obtain ⟨hn23, he⟩ := zg_e he
            by_cases c24 : r31 < r33
            · have he := zif_t c24 he
              refine zif_p ((zo_lt rfl rfl hn22 hn23).mpr c24) ?_
              exact zk1 hk28 rfl he
            · have he := zif_f c24 he
              refine zif_n (fun q => c24 ((zo_lt rfl rfl hn22 hn23).mp q)) ?_
              exact zk1 hk27 (zo_l 1) he
          · have he := zif_f c18 he
            refine zif_n (fun q => c18 ((zo_eq (zo_and (zo_shr rfl rfl) (zo_l 1)) (zo_l 1) hn17 (by decide)).mp q)) ?_
            exact zk1 hk28 rfl he
        · have he := zif_f c14 he
          refine zif_n (fun q => c14 ((zo_le (zo_l 0) rfl (by decide) hn13).mp q)) ?_
          exact zk2 hk22 rfl rfl he
    obtain ⟨hn25, he⟩ := zg_e he
    by_cases c26 : r4 = (0 : Int)
    · have he := zif_t c26 he
      refine zif_p ((zo_eq rfl (zo_l 0) hn25 (by decide)).mpr c26) ?_
      exact zk1 hk36 (zo_l 1) he
    · have he := zif_f c26 he
      refine zif_n (fun q => c26 ((zo_eq rfl (zo_l 0) hn25 (by decide)).mp q)) ?_
      exact zk1 hk36 (zo_l 0) he
theorem s_M_enough {g_refusedf : Nat → Int32} {g_refused : Nat → Int} {g_sf : Nat → Int32} {g_s : Nat → Int} {R0 : Int} {R1 : Nat → Int} (eg_refused : g_refusedf = zoA g_refused) (eg_s : g_sf = zoA g_s) (he : g_M_enough g_refused g_s = some (R0, R1)) : f_M_enough g_refusedf g_sf = some (zo R0, zoA R1) := by
  subst eg_refused
  subst eg_s
  unfold g_M_enough at he
  unfold f_M_enough
  refine zj1_z (m1 := zo) he (fun l1_1 he => ?_) (fun k22f k22 hk22 he => ?_)
  · obtain ⟨hn1, he⟩ := zg_e he
    by_cases c2 : l1_1 ≤ (8 : Int)
    · have he := zif_t c2 he
      refine zif_p ((zo_le rfl (zo_l 8) hn1 (by decide)).mpr c2) ?_
      obtain ⟨x3, hx3⟩ : ∃ y : Int, y = (zshlI (1 : Int) l1_1) - (1 : Int) := ⟨_, rfl⟩
      have he := zn_e hx3 he
      refine zn_z (y := zo x3) ((zo_sub (zo_shl (zo_l 1) rfl) (zo_l 1)).trans (congrArg zo hx3.symm)) ?_
      refine zl2_z (m1 := zo) (m2 := zo) rfl rfl he (fun l2_4 l3_5 again6f again6 hagain6 he => ?_)
      obtain ⟨hn4, he⟩ := zg_e he
      by_cases c5 : l3_5 < (0 : Int)
      · have he := zif_t c5 he
        refine zif_p ((zo_lt rfl (zo_l 0) hn4 (by decide)).mpr c5) ?_
        obtain ⟨rfl, rfl⟩ := zi2 he
        exact zs2 rfl rfl
      · have he := zif_f c5 he
        refine zif_n (fun q => c5 ((zo_lt rfl (zo_l 0) hn4 (by decide)).mp q)) ?_
        obtain ⟨r8, hb6, he⟩ := zb1_e he
        refine (zb1_s (s_M_bits rfl hb6)).trans ?_
        obtain ⟨r10, hb7, he⟩ := zb1_e he
        refine (zb1_s (s_M_bits rfl hb7)).trans ?_
        refine zj1_z (m1 := zo) he (fun l2_12 he => ?_) (fun k14f k14 hk14 he => ?_)
        · obtain ⟨x13, hx8⟩ : ∃ y : Int, y = l3_5 + (-1 : Int) := ⟨_, rfl⟩
          have he := zn_e hx8 he
          refine zn_z (y := zo x13) ((zo_add rfl (zo_ln 1)).trans (congrArg zo hx8.symm)) ?_
          exact zk2 hagain6 rfl rfl he
        obtain ⟨hn9, he⟩ := zg_e he
        obtain ⟨hn10, he⟩ := zg_e he
        by_cases c11 : r10 < r8
        · have he := zif_t c11 he
          refine zif_p ((zo_lt rfl rfl hn9 hn10).mpr c11) ?_
          exact zk1 hk14 rfl he
        · have he := zif_f c11 he
          refine zif_n (fun q => c11 ((zo_lt rfl rfl hn9 hn10).mp q)) ?_
          obtain ⟨r16, hb12, he⟩ := zb1_e he
          refine (zb1_s (s_M_areAllHeard rfl rfl hb12)).trans ?_
          obtain ⟨hn13, he⟩ := zg_e he
          by_cases c14 : r16 = (0 : Int)
          · have he := zif_t c14 he
            refine zif_p ((zo_eq rfl (zo_l 0) hn13 (by decide)).mpr c14) ?_
            exact zk1 hk14 rfl he
          · have he := zif_f c14 he
            refine zif_n (fun q => c14 ((zo_eq rfl (zo_l 0) hn13 (by decide)).mp q)) ?_
            exact zk1 hk14 rfl he
    · have he := zif_f c2 he
      refine zif_n (fun q => c2 ((zo_le rfl (zo_l 8) hn1 (by decide)).mp q)) ?_
      obtain ⟨r19, g_refused_20, hb15, he⟩ := zb2_e he
      refine (zb2_s (s_M_no rfl (zo_ln 3) hb15)).trans ?_
      obtain ⟨rfl, rfl⟩ := zi2 he
      exact zs2 rfl rfl
  refine zl2_z (m1 := zo) (m2 := zo) (zo_l 0) (zo_l 0) he (fun l1_23 l2_24 again25f again25 hagain25 he => ?_)
  obtain ⟨hn16, he⟩ := zg_e he
  by_cases c17 : (36 : Int) ≤ l2_24
  · have he := zif_t c17 he
    refine zif_p ((zo_le (zo_l 36) rfl (by decide) hn16).mpr c17) ?_
    exact zk1 hk22 rfl he
  · have he := zif_f c17 he
    refine zif_n (fun q => c17 ((zo_le (zo_l 36) rfl (by decide) hn16).mp q)) ?_
    obtain ⟨hg19, he⟩ := zg_e he
    have hg18 := zin3 (n := 39) (by decide) hg19
    refine zg_z (zo_in rfl hg18) ?_
    obtain ⟨r28, hb20, he⟩ := zb1_e he
    refine (zb1_s (s_M_hears (zo_rd rfl rfl hg18) hb20)).trans ?_
    refine zj1_z (m1 := zo) he (fun s30 he => ?_) (fun k33f k33 hk33 he => ?_)
    · obtain ⟨x31, hx21⟩ : ∃ y : Int, y = l1_23 + s30 := ⟨_, rfl⟩
      have he := zn_e hx21 he
      refine zn_z (y := zo x31) ((zo_add rfl rfl).trans (congrArg zo hx21.symm)) ?_
      obtain ⟨x32, hx22⟩ : ∃ y : Int, y = l2_24 + (1 : Int) := ⟨_, rfl⟩
      have he := zn_e hx22 he
      refine zn_z (y := zo x32) ((zo_add rfl (zo_l 1)).trans (congrArg zo hx22.symm)) ?_
      exact zk2 hagain25 rfl rfl he
    obtain ⟨hn23, he⟩ := zg_e he
    by_cases c24 : r28 < (0 : Int)
    · have he := zif_t c24 he
      refine zif_p ((zo_lt rfl (zo_l 0) hn23 (by decide)).mpr c24) ?_
      exact zk1 hk33 (zo_l 0) he
    · have he := zif_f c24 he
      refine zif_n (fun q => c24 ((zo_lt rfl (zo_l 0) hn23 (by decide)).mp q)) ?_
      exact zk1 hk33 (zo_l 1) he
theorem s_M_quiet {g_sf : Nat → Int32} {g_s : Nat → Int} {g_stepsFromf : Nat → Int32} {g_stepsFrom : Nat → Int} {R0 : Int} {R1 : Nat → Int} (eg_s : g_sf = zoA g_s) (eg_stepsFrom : g_stepsFromf = zoA g_stepsFrom) (he : g_M_quiet g_s g_stepsFrom = some (R0, R1)) : f_M_quiet g_sf g_stepsFromf = some (zo R0, zoA R1) := by
  subst eg_s
  subst eg_stepsFrom
  unfold g_M_quiet at he
  unfold f_M_quiet
  refine zl4_z (m1 := zo) (m2 := zo) (m3 := zo) (m4 := zoA) (zo_ln 9) (zo_ln 1) (zo_l 0) rfl he (fun l1_1 l2_2 l3_3 g_stepsFrom_4 again5f again5 hagain5 he => ?_)
  obtain ⟨hn1, he⟩ := zg_e he
  by_cases c2 : (36 : Int) ≤ l3_3
  · have he := zif_t c2 he
    refine zif_p ((zo_le (zo_l 36) rfl (by decide) hn1).mpr c2) ?_
    obtain ⟨rfl, rfl⟩ := zi2 he
    exact zs2 rfl rfl
  · have he := zif_f c2 he
    refine zif_n (fun q => c2 ((zo_le (zo_l 36) rfl (by decide) hn1).mp q)) ?_
    obtain ⟨r7, hb3, he⟩ := zb1_e he
    refine (zb1_s (s_M_canBe rfl rfl hb3)).trans ?_
    refine zj3_z (m1 := zo) (m2 := zo) (m3 := zoA) he (fun l1_9 l2_10 g_stepsFrom_11 he => ?_) (fun k13f k13 hk13 he => ?_)
    · obtain ⟨x12, hx4⟩ : ∃ y : Int, y = l3_3 + (1 : Int) := ⟨_, rfl⟩
      have he := zn_e hx4 he
      refine zn_z (y := zo x12) ((zo_add rfl (zo_l 1)).trans (congrArg zo hx4.symm)) ?_
      exact zk4 hagain5 rfl rfl rfl rfl he
    obtain ⟨hn5, he⟩ := zg_e he
    by_cases c6 : r7 = (0 : Int)
    · have he := zif_t c6 he
      refine zif_p ((zo_eq rfl (zo_l 0) hn5 (by decide)).mpr c6) ?_
      exact zk3 hk13 rfl rfl rfl he
    · have he := zif_f c6 he
      refine zif_n (fun q => c6 ((zo_eq rfl (zo_l 0) hn5 (by decide)).mp q)) ?_
      obtain ⟨g_stepsFrom_15, hb7, he⟩ := zb1_e he
      refine (zb1_s (s_M_stepsAll rfl rfl rfl hb7)).trans ?_
      refine zj1_z (m1 := zo) he (fun l4_17 he => ?_) (fun k20f k20 hk20 he => ?_)
      · obtain ⟨hn8, he⟩ := zg_e he
        by_cases c9 : (1000000000 : Int) ≤ l4_17
        · have he := zif_t c9 he
          refine zif_p ((zo_le (zo_l 1000000000) rfl (by decide) hn8).mpr c9) ?_
          exact zk3 hk13 rfl rfl rfl he
        · have he := zif_f c9 he
          refine zif_n (fun q => c9 ((zo_le (zo_l 1000000000) rfl (by decide) hn8).mp q)) ?_
          obtain ⟨hn10, he⟩ := zg_e he
          by_cases c11 : l2_2 < l4_17
          · have he := zif_t c11 he
            refine zif_p ((zo_lt rfl rfl hn10 hn8).mpr c11) ?_
            exact zk3 hk13 rfl rfl rfl he
          · have he := zif_f c11 he
            refine zif_n (fun q => c11 ((zo_lt rfl rfl hn10 hn8).mp q)) ?_
            exact zk3 hk13 rfl rfl rfl he
      refine zl2_z (m1 := zo) (m2 := zo) (zo_l 1000000000) (zo_l 0) he (fun l4_21 l5_22 again23f again23 hagain23 he => ?_)
      obtain ⟨hn12, he⟩ := zg_e he
      by_cases c13 : (36 : Int) ≤ l5_22
      · have he := zif_t c13 he
        refine zif_p ((zo_le (zo_l 36) rfl (by decide) hn12).mpr c13) ?_
        exact zk1 hk20 rfl he
      · have he := zif_f c13 he
        refine zif_n (fun q => c13 ((zo_le (zo_l 36) rfl (by decide) hn12).mp q)) ?_
        obtain ⟨hg15, he⟩ := zg_e he
        have hg14 := zin3 (n := 36) (by decide) hg15
        refine zg_z (zo_in rfl hg14) ?_
        refine zj1_z (m1 := zo) he (fun l4_26 he => ?_) (fun k28f k28 hk28 he => ?_)
        · obtain ⟨x27, hx16⟩ : ∃ y : Int, y = l5_22 + (1 : Int) := ⟨_, rfl⟩
          have he := zn_e hx16 he
          refine zn_z (y := zo x27) ((zo_add rfl (zo_l 1)).trans (congrArg zo hx16.symm)) ?_
          exact zk2 hagain23 rfl rfl he
        obtain ⟨hn17, he⟩ := zg_e he
        obtain ⟨hn18, he⟩ := zg_e he
        by_cases c19 : l4_21 ≤ g_stepsFrom_15 l5_22.toNat
        · have he := zif_t c19 he
          refine zif_p ((zo_le rfl (zo_rd rfl rfl hg14) hn17 hn18).mpr c19) ?_
          exact zk1 hk28 rfl he
        · have he := zif_f c19 he
          refine zif_n (fun q => c19 ((zo_le rfl (zo_rd rfl rfl hg14) hn17 hn18).mp q)) ?_
          obtain ⟨r30, hb20, he⟩ := zb1_e he
          refine (zb1_s (s_M_isHeard rfl rfl hb20)).trans ?_
          obtain ⟨hn21, he⟩ := zg_e he
          by_cases c22 : r30 = (0 : Int)
          · have he := zif_t c22 he
            refine zif_p ((zo_eq rfl (zo_l 0) hn21 (by decide)).mpr c22) ?_
            exact zk1 hk28 rfl he
          · have he := zif_f c22 he
            refine zif_n (fun q => c22 ((zo_eq rfl (zo_l 0) hn21 (by decide)).mp q)) ?_
            refine zg_z (zo_in rfl hg14) ?_
            obtain ⟨x34, hx24⟩ : ∃ y : Int, y = g_stepsFrom_15 l5_22.toNat := ⟨_, rfl⟩
            have he := zn_e hx24 he
            refine zn_z (y := zo x34) ((zo_rd rfl rfl hg14).trans (congrArg zo hx24.symm)) ?_
            exact zk1 hk28 rfl he
theorem s_M_isYard {g_sf : Nat → Int32} {g_s : Nat → Int} {p1f : Int32} {p1 : Int} {R0 : Int} (eg_s : g_sf = zoA g_s) (ep1 : p1f = zo p1) (he : g_M_isYard g_s p1 = some (R0)) : f_M_isYard g_sf p1f = some (zo R0) := by
  subst eg_s
  subst ep1
  unfold g_M_isYard at he
  unfold f_M_isYard
  obtain ⟨r1, hb1, he⟩ := zb1_e he
  refine (zb1_s (s_M_gone rfl rfl (zo_l 0) hb1)).trans ?_
  refine zj1_z (m1 := zo) he (fun s3 he => ?_) (fun k18f k18 hk18 he => ?_)
  · obtain ⟨r4, hb2, he⟩ := zb1_e he
    refine (zb1_s (s_M_gone rfl rfl (zo_l 1) hb2)).trans ?_
    refine zj1_z (m1 := zo) he (fun s6 he => ?_) (fun k12f k12 hk12 he => ?_)
    · obtain ⟨r7, hb3, he⟩ := zb1_e he
      refine (zb1_s (s_M_isTurned rfl rfl hb3)).trans ?_
      obtain ⟨hn4, he⟩ := zg_e he
      by_cases c5 : r7 = (0 : Int)
      · have he := zif_t c5 he
        refine zif_p ((zo_eq rfl (zo_l 0) hn4 (by decide)).mpr c5) ?_
        obtain ⟨rfl⟩ := zi1 he
        exact zs1 (zo_l 0)
      · have he := zif_f c5 he
        refine zif_n (fun q => c5 ((zo_eq rfl (zo_l 0) hn4 (by decide)).mp q)) ?_
        obtain ⟨hn6, he⟩ := zg_e he
        by_cases c7 : s3 = (0 : Int)
        · have he := zif_t c7 he
          refine zif_p ((zo_eq rfl (zo_l 0) hn6 (by decide)).mpr c7) ?_
          obtain ⟨rfl⟩ := zi1 he
          exact zs1 (zo_l 0)
        · have he := zif_f c7 he
          refine zif_n (fun q => c7 ((zo_eq rfl (zo_l 0) hn6 (by decide)).mp q)) ?_
          obtain ⟨hn8, he⟩ := zg_e he
          by_cases c9 : s6 = (0 : Int)
          · have he := zif_t c9 he
            refine zif_p ((zo_eq rfl (zo_l 0) hn8 (by decide)).mpr c9) ?_
            obtain ⟨rfl⟩ := zi1 he
            exact zs1 (zo_l 0)
          · have he := zif_f c9 he
            refine zif_n (fun q => c9 ((zo_eq rfl (zo_l 0) hn8 (by decide)).mp q)) ?_
            obtain ⟨rfl⟩ := zi1 he
            exact zs1 (zo_l 1)
    refine zj1_z (m1 := id) he (fun _ he => ?_) (fun k13f k13 hk13 he => ?_)
    · exact zk1 hk12 (zo_l 1) he
    obtain ⟨hn10, he⟩ := zg_e he
    by_cases c11 : (0 : Int) ≤ r4
    · have he := zif_t c11 he
      refine zif_p ((zo_le (zo_l 0) rfl (by decide) hn10).mpr c11) ?_
      exact zk1 hk13 rfl he
    · have he := zif_f c11 he
      refine zif_n (fun q => c11 ((zo_le (zo_l 0) rfl (by decide) hn10).mp q)) ?_
      obtain ⟨r15, hb12, he⟩ := zb1_e he
      refine (zb1_s (s_M_gone rfl rfl (zo_l 2) hb12)).trans ?_
      obtain ⟨hn13, he⟩ := zg_e he
      by_cases c14 : r15 < (0 : Int)
      · have he := zif_t c14 he
        refine zif_p ((zo_lt rfl (zo_l 0) hn13 (by decide)).mpr c14) ?_
        exact zk1 hk12 (zo_l 0) he
      · have he := zif_f c14 he
        refine zif_n (fun q => c14 ((zo_lt rfl (zo_l 0) hn13 (by decide)).mp q)) ?_
        exact zk1 hk13 rfl he
  refine zj1_z (m1 := id) he (fun _ he => ?_) (fun k19f k19 hk19 he => ?_)
  · exact zk1 hk18 (zo_l 1) he
  obtain ⟨hn15, he⟩ := zg_e he
  by_cases c16 : (0 : Int) ≤ r1
  · have he := zif_t c16 he
    refine zif_p ((zo_le (zo_l 0) rfl (by decide) hn15).mpr c16) ?_
    exact zk1 hk19 rfl he
  · have he := zif_f c16 he
    refine zif_n (fun q => c16 ((zo_le (zo_l 0) rfl (by decide) hn15).mp q)) ?_
    obtain ⟨r21, hb17, he⟩ := zb1_e he
    refine (zb1_s (s_M_gone rfl rfl (zo_l 3) hb17)).trans ?_
    obtain ⟨hn18, he⟩ := zg_e he
    by_cases c19 : r21 < (0 : Int)
    · have he := zif_t c19 he
      refine zif_p ((zo_lt rfl (zo_l 0) hn18 (by decide)).mpr c19) ?_
      exact zk1 hk18 (zo_l 0) he
    · have he := zif_f c19 he
      refine zif_n (fun q => c19 ((zo_lt rfl (zo_l 0) hn18 (by decide)).mp q)) ?_
      exact zk1 hk19 rfl he
theorem s_M_yards {g_refusedf : Nat → Int32} {g_refused : Nat → Int} {g_sf : Nat → Int32} {g_s : Nat → Int} {g_stepsFromf : Nat → Int32} {g_stepsFrom : Nat → Int} {p1f : Int32} {p1 : Int} {R0 : Int} {R1 : Nat → Int} {R2 : Nat → Int} (eg_refused : g_refusedf = zoA g_refused) (eg_s : g_sf = zoA g_s) (eg_stepsFrom : g_stepsFromf = zoA g_stepsFrom) (ep1 : p1f = zo p1) (he : g_M_yards g_refused g_s g_stepsFrom p1 = some (R0, R1, R2)) : f_M_yards g_refusedf g_sf g_stepsFromf p1f = some (zo R0, zoA R1, zoA R2) := by
  subst eg_refused
  subst eg_s
  subst eg_stepsFrom
  subst ep1
  unfold g_M_yards at he
  unfold f_M_yards
  obtain ⟨r1, hb1, he⟩ := zb1_e he
  refine (zb1_s (s_M_isSquare rfl hb1)).trans ?_
  obtain ⟨hn2, he⟩ := zg_e he
  by_cases c3 : r1 = (0 : Int)
  · have he := zif_t c3 he
    refine zif_p ((zo_eq rfl (zo_l 0) hn2 (by decide)).mpr c3) ?_
    obtain ⟨r24, g_refused_25, hb4, he⟩ := zb2_e he
    refine (zb2_s (s_M_no rfl (zo_ln 1) hb4)).trans ?_
    obtain ⟨rfl, rfl, rfl⟩ := zi3 he
    exact zs3 rfl rfl rfl
  · have he := zif_f c3 he
    refine zif_n (fun q => c3 ((zo_eq rfl (zo_l 0) hn2 (by decide)).mp q)) ?_
    obtain ⟨g_stepsFrom_4, hb5, he⟩ := zb1_e he
    refine (zb1_s (s_M_stepsAll rfl rfl rfl hb5)).trans ?_
    refine zj1_z (m1 := zo) he (fun l2_6 he => ?_) (fun k9f k9 hk9 he => ?_)
    · obtain ⟨r7, hb6, he⟩ := zb1_e he
      refine (zb1_s (s_M_orNone rfl hb6)).trans ?_
      obtain ⟨rfl, rfl, rfl⟩ := zi3 he
      exact zs3 rfl rfl rfl
    refine zl2_z (m1 := zo) (m2 := zo) (zo_l 1000000000) (zo_l 0) he (fun l2_10 l3_11 again12f again12 hagain12 he => ?_)
    obtain ⟨hn7, he⟩ := zg_e he
    by_cases c8 : (36 : Int) ≤ l3_11
    · have he := zif_t c8 he
      refine zif_p ((zo_le (zo_l 36) rfl (by decide) hn7).mpr c8) ?_
      exact zk1 hk9 rfl he
    · have he := zif_f c8 he
      refine zif_n (fun q => c8 ((zo_le (zo_l 36) rfl (by decide) hn7).mp q)) ?_
      obtain ⟨hg10, he⟩ := zg_e he
      have hg9 := zin3 (n := 36) (by decide) hg10
      refine zg_z (zo_in rfl hg9) ?_
      refine zj1_z (m1 := zo) he (fun l2_15 he => ?_) (fun k17f k17 hk17 he => ?_)
      · obtain ⟨x16, hx11⟩ : ∃ y : Int, y = l3_11 + (1 : Int) := ⟨_, rfl⟩
        have he := zn_e hx11 he
        refine zn_z (y := zo x16) ((zo_add rfl (zo_l 1)).trans (congrArg zo hx11.symm)) ?_
        exact zk2 hagain12 rfl rfl he
      obtain ⟨hn12, he⟩ := zg_e he
      obtain ⟨hn13, he⟩ := zg_e he
      by_cases c14 : l2_10 ≤ g_stepsFrom_4 l3_11.toNat
      · have he := zif_t c14 he
        refine zif_p ((zo_le rfl (zo_rd rfl rfl hg9) hn12 hn13).mpr c14) ?_
        exact zk1 hk17 rfl he
      · have he := zif_f c14 he
        refine zif_n (fun q => c14 ((zo_le rfl (zo_rd rfl rfl hg9) hn12 hn13).mp q)) ?_
        obtain ⟨r19, hb15, he⟩ := zb1_e he
        refine (zb1_s (s_M_isYard rfl rfl hb15)).trans ?_
        obtain ⟨hn16, he⟩ := zg_e he
        by_cases c17 : r19 = (0 : Int)
        · have he := zif_t c17 he
          refine zif_p ((zo_eq rfl (zo_l 0) hn16 (by decide)).mpr c17) ?_
          exact zk1 hk17 rfl he
        · have he := zif_f c17 he
          refine zif_n (fun q => c17 ((zo_eq rfl (zo_l 0) hn16 (by decide)).mp q)) ?_
          refine zg_z (zo_in rfl hg9) ?_
          obtain ⟨x23, hx19⟩ : ∃ y : Int, y = g_stepsFrom_4 l3_11.toNat := ⟨_, rfl⟩
          have he := zn_e hx19 he
          refine zn_z (y := zo x23) ((zo_rd rfl rfl hg9).trans (congrArg zo hx19.symm)) ?_
          exact zk1 hk17 rfl he
theorem s_M_canBeSaid {v_rowManyf : Int32} {v_rowMany : Int} {g_aheadf : Nat → Int32} {g_ahead : Nat → Int} {g_rowf : Nat → Int32} {g_row : Nat → Int} {g_sf : Nat → Int32} {g_s : Nat → Int} {p1f : Int32} {p1 : Int} {p2f : Int32} {p2 : Int} {p3f : Int32} {p3 : Int} {R0 : Int} (ev_rowMany : v_rowManyf = zo v_rowMany) (eg_ahead : g_aheadf = zoA g_ahead) (eg_row : g_rowf = zoA g_row) (eg_s : g_sf = zoA g_s) (ep1 : p1f = zo p1) (ep2 : p2f = zo p2) (ep3 : p3f = zo p3) (he : g_M_canBeSaid v_rowMany g_ahead g_row g_s p1 p2 p3 = some (R0)) : f_M_canBeSaid v_rowManyf g_aheadf g_rowf g_sf p1f p2f p3f = some (zo R0) := by
  subst ev_rowMany
  subst eg_ahead
  subst eg_row
  subst eg_s
  subst ep1
  subst ep2
  subst ep3
  unfold g_M_canBeSaid at he
  unfold f_M_canBeSaid
  obtain ⟨hn1, he⟩ := zg_e he
  obtain ⟨hn2, he⟩ := zg_e he
  by_cases c3 : p3 = v_rowMany - (1 : Int)
  · have he := zif_t c3 he
    refine zif_p ((zo_eq rfl (zo_sub rfl (zo_l 1)) hn1 hn2).mpr c3) ?_
    obtain ⟨r18, hb4, he⟩ := zb1_e he
    refine (zb1_s (s_M_wordsOn rfl rfl hb4)).trans ?_
    obtain ⟨hg6, he⟩ := zg_e he
    have hg5 := zin3 (n := 20) (by decide) hg6
    refine zg_z (zo_in rfl hg5) ?_
    obtain ⟨hn7, he⟩ := zg_e he
    obtain ⟨hn8, he⟩ := zg_e he
    by_cases c9 : r18 = g_row p3.toNat
    · have he := zif_t c9 he
      refine zif_p ((zo_eq rfl (zo_rd rfl rfl hg5) hn7 hn8).mpr c9) ?_
      obtain ⟨rfl⟩ := zi1 he
      exact zs1 (zo_l 1)
    · have he := zif_f c9 he
      refine zif_n (fun q => c9 ((zo_eq rfl (zo_rd rfl rfl hg5) hn7 hn8).mp q)) ?_
      obtain ⟨rfl⟩ := zi1 he
      exact zs1 (zo_l 0)
  · have he := zif_f c3 he
    refine zif_n (fun q => c3 ((zo_eq rfl (zo_sub rfl (zo_l 1)) hn1 hn2).mp q)) ?_
    refine zl1_z (m1 := zo) (zo_l 0) he (fun l4_2 again3f again3 hagain3 he => ?_)
    obtain ⟨hn10, he⟩ := zg_e he
    by_cases c11 : (4 : Int) ≤ l4_2
    · have he := zif_t c11 he
      refine zif_p ((zo_le (zo_l 4) rfl (by decide) hn10).mpr c11) ?_
      obtain ⟨rfl⟩ := zi1 he
      exact zs1 (zo_l 0)
    · have he := zif_f c11 he
      refine zif_n (fun q => c11 ((zo_le (zo_l 4) rfl (by decide) hn10).mp q)) ?_
      obtain ⟨r5, hb12, he⟩ := zb1_e he
      refine (zb1_s (s_M_gone rfl rfl rfl hb12)).trans ?_
      refine zj1_z (m1 := id) he (fun _ he => ?_) (fun k8f k8 hk8 he => ?_)
      · obtain ⟨x7, hx13⟩ : ∃ y : Int, y = l4_2 + (1 : Int) := ⟨_, rfl⟩
        have he := zn_e hx13 he
        refine zn_z (y := zo x7) ((zo_add rfl (zo_l 1)).trans (congrArg zo hx13.symm)) ?_
        exact zk1 hagain3 rfl he
      obtain ⟨hn14, he⟩ := zg_e he
      by_cases c15 : r5 < (0 : Int)
      · have he := zif_t c15 he
        refine zif_p ((zo_lt rfl (zo_l 0) hn14 (by decide)).mpr c15) ?_
        exact zk1 hk8 rfl he
      · have he := zif_f c15 he
        refine zif_n (fun q => c15 ((zo_lt rfl (zo_l 0) hn14 (by decide)).mp q)) ?_
        obtain ⟨r10, hb16, he⟩ := zb1_e he
        refine (zb1_s (s_M_saidOn rfl rfl rfl rfl hb16)).trans ?_
        obtain ⟨hg18, he⟩ := zg_e he
        have hg17 := zin3 (n := 20) (by decide) hg18
        refine zg_z (zo_in rfl hg17) ?_
        obtain ⟨hn19, he⟩ := zg_e he
        obtain ⟨hn20, he⟩ := zg_e he
        by_cases c21 : r10 = g_row p3.toNat
        · have he := zif_t c21 he
          refine zif_p ((zo_eq rfl (zo_rd rfl rfl hg17) hn19 hn20).mpr c21) ?_
          obtain ⟨r14, hb22, he⟩ := zb1_e he
          refine (zb1_s (s_M_at rfl rfl hb22)).trans ?_
          obtain ⟨hg24, he⟩ := zg_e he
          have hg23 := zin3 (n := 180) (by decide) hg24
          refine zg_z (zo_in rfl hg23) ?_
          obtain ⟨hn25, he⟩ := zg_e he
          by_cases c26 : g_ahead r14.toNat = (0 : Int)
          · have he := zif_t c26 he
            refine zif_p ((zo_eq (zo_rd rfl rfl hg23) (zo_l 0) hn25 (by decide)).mpr c26) ?_
            exact zk1 hk8 rfl he
          · have he := zif_f c26 he
            refine zif_n (fun q => c26 ((zo_eq (zo_rd rfl rfl hg23) (zo_l 0) hn25 (by decide)).mp q)) ?_
            obtain ⟨rfl⟩ := zi1 he
            exact zs1 (zo_l 1)
        · have he := zif_f c21 he
          refine zif_n (fun q => c21 ((zo_eq rfl (zo_rd rfl rfl hg17) hn19 hn20).mp q)) ?_
          exact zk1 hk8 rfl he
theorem s_M_said {v_rowManyf : Int32} {v_rowMany : Int} {g_aheadf : Nat → Int32} {g_ahead : Nat → Int} {g_nowf : Nat → Int32} {g_now : Nat → Int} {g_refusedf : Nat → Int32} {g_refused : Nat → Int} {g_rowf : Nat → Int32} {g_row : Nat → Int} {g_sf : Nat → Int32} {g_s : Nat → Int} {p1f : Int32} {p1 : Int} {R0 : Int} {R1 : Nat → Int} {R2 : Nat → Int} {R3 : Nat → Int} (ev_rowMany : v_rowManyf = zo v_rowMany) (eg_ahead : g_aheadf = zoA g_ahead) (eg_now : g_nowf = zoA g_now) (eg_refused : g_refusedf = zoA g_refused) (eg_row : g_rowf = zoA g_row) (eg_s : g_sf = zoA g_s) (ep1 : p1f = zo p1) (he : g_M_said v_rowMany g_ahead g_now g_refused g_row g_s p1 = some (R0, R1, R2, R3)) : f_M_said v_rowManyf g_aheadf g_nowf g_refusedf g_rowf g_sf p1f = some (zo R0, zoA R1, zoA R2, zoA R3) := by
  subst ev_rowMany
  subst eg_ahead
  subst eg_now
  subst eg_refused
  subst eg_row
  subst eg_s
  subst ep1
  unfold g_M_said at he
  unfold f_M_said
  obtain ⟨r1, hb1, he⟩ := zb1_e he
  refine (zb1_s (s_M_isIn rfl (zo_l 0) (zo_l 1) hb1)).trans ?_
  obtain ⟨hn2, he⟩ := zg_e he
  by_cases c3 : r1 = (0 : Int)
  · have he := zif_t c3 he
    refine zif_p ((zo_eq rfl (zo_l 0) hn2 (by decide)).mpr c3) ?_
    obtain ⟨r76, g_refused_77, hb4, he⟩ := zb2_e he
    refine (zb2_s (s_M_no rfl (zo_ln 2) hb4)).trans ?_
    obtain ⟨rfl, rfl, rfl, rfl⟩ := zi4 he
    exact zs4 rfl rfl rfl rfl
  · have he := zif_f c3 he
    refine zif_n (fun q => c3 ((zo_eq rfl (zo_l 0) hn2 (by decide)).mp q)) ?_
    obtain ⟨hn5, he⟩ := zg_e he
    by_cases c6 : v_rowMany = (0 : Int)
    · have he := zif_t c6 he
      refine zif_p ((zo_eq rfl (zo_l 0) hn5 (by decide)).mpr c6) ?_
      obtain ⟨r73, g_refused_74, hb7, he⟩ := zb2_e he
      refine (zb2_s (s_M_no rfl (zo_ln 3) hb7)).trans ?_
      obtain ⟨rfl, rfl, rfl, rfl⟩ := zi4 he
      exact zs4 rfl rfl rfl rfl
    · have he := zif_f c6 he
      refine zif_n (fun q => c6 ((zo_eq rfl (zo_l 0) hn5 (by decide)).mp q)) ?_
      obtain ⟨x5, hx8⟩ : ∃ y : Int, y = v_rowMany - (1 : Int) := ⟨_, rfl⟩
      have he := zn_e hx8 he
      refine zn_z (y := zo x5) ((zo_sub rfl (zo_l 1)).trans (congrArg zo hx8.symm)) ?_
      refine zj2_z (m1 := zoA) (m2 := zoA) he (fun g_ahead_6 g_now_7 he => ?_) (fun k26f k26 hk26 he => ?_)
      · refine zj2_z (m1 := zo) (m2 := zo) he (fun l2_8 l3_9 he => ?_) (fun k11f k11 hk11 he => ?_)
        · obtain ⟨hn9, he⟩ := zg_e he
          by_cases c10 : p1 = (0 : Int)
          · have he := zif_t c10 he
            refine zif_p ((zo_eq rfl (zo_l 0) hn9 (by decide)).mpr c10) ?_
            obtain ⟨rfl, rfl, rfl, rfl⟩ := zi4 he
            exact zs4 rfl rfl rfl rfl
          · have he := zif_f c10 he
            refine zif_n (fun q => c10 ((zo_eq rfl (zo_l 0) hn9 (by decide)).mp q)) ?_
            obtain ⟨rfl, rfl, rfl, rfl⟩ := zi4 he
            exact zs4 rfl rfl rfl rfl
        refine zl3_z (m1 := zo) (m2 := zo) (m3 := zo) (zo_l 0) (zo_ln 9) (zo_l 35) he (fun l2_12 l3_13 l4_14 again15f again15 hagain15 he => ?_)
        obtain ⟨hn11, he⟩ := zg_e he
        by_cases c12 : l4_14 < (0 : Int)
        · have he := zif_t c12 he
          refine zif_p ((zo_lt rfl (zo_l 0) hn11 (by decide)).mpr c12) ?_
          exact zk2 hk11 rfl rfl he
        · have he := zif_f c12 he
          refine zif_n (fun q => c12 ((zo_lt rfl (zo_l 0) hn11 (by decide)).mp q)) ?_
          obtain ⟨r17, hb13, he⟩ := zb1_e he
          refine (zb1_s (s_M_at rfl (zo_l 4) hb13)).trans ?_
          obtain ⟨hg15, he⟩ := zg_e he
          have hg14 := zin3 (n := 180) (by decide) hg15
          refine zg_z (zo_in rfl hg14) ?_
          refine zj2_z (m1 := zo) (m2 := zo) he (fun l2_20 l3_21 he => ?_) (fun k23f k23 hk23 he => ?_)
          · obtain ⟨x22, hx16⟩ : ∃ y : Int, y = l4_14 + (-1 : Int) := ⟨_, rfl⟩
            have he := zn_e hx16 he
            refine zn_z (y := zo x22) ((zo_add rfl (zo_ln 1)).trans (congrArg zo hx16.symm)) ?_
            exact zk3 hagain15 rfl rfl rfl he
          obtain ⟨hn17, he⟩ := zg_e he
          by_cases c18 : g_ahead_6 r17.toNat = (0 : Int)
          · have he := zif_t c18 he
            refine zif_p ((zo_eq (zo_rd rfl rfl hg14) (zo_l 0) hn17 (by decide)).mpr c18) ?_
            exact zk2 hk23 rfl rfl he
          · have he := zif_f c18 he
            refine zif_n (fun q => c18 ((zo_eq (zo_rd rfl rfl hg14) (zo_l 0) hn17 (by decide)).mp q)) ?_
            obtain ⟨x25, hx19⟩ : ∃ y : Int, y = l2_12 + (1 : Int) := ⟨_, rfl⟩
            have he := zn_e hx19 he
            refine zn_z (y := zo x25) ((zo_add rfl (zo_l 1)).trans (congrArg zo hx19.symm)) ?_
            exact zk2 hk23 rfl rfl he
      refine zl3_z (m1 := zo) (m2 := zoA) (m3 := zoA) rfl rfl rfl he (fun l2_27 g_ahead_28 g_now_29 again30f again30 hagain30 he => ?_)
      obtain ⟨hn20, he⟩ := zg_e he
      by_cases c21 : l2_27 < (0 : Int)
      · have he := zif_t c21 he
        refine zif_p ((zo_lt rfl (zo_l 0) hn20 (by decide)).mpr c21) ?_
        exact zk2 hk26 rfl rfl he
      · have he := zif_f c21 he
        refine zif_n (fun q => c21 ((zo_lt rfl (zo_l 0) hn20 (by decide)).mp q)) ?_
        refine zj1_z (m1 := zoA) he (fun g_now_32 he => ?_) (fun k46f k46 hk46 he => ?_)
        · refine zj1_z (m1 := zoA) he (fun g_ahead_33 he => ?_) (fun k35f k35 hk35 he => ?_)
          · obtain ⟨x34, hx22⟩ : ∃ y : Int, y = l2_27 + (-1 : Int) := ⟨_, rfl⟩
            have he := zn_e hx22 he
            refine zn_z (y := zo x34) ((zo_add rfl (zo_ln 1)).trans (congrArg zo hx22.symm)) ?_
            exact zk3 hagain30 rfl rfl rfl he
          refine zl2_z (m1 := zo) (m2 := zoA) (zo_l 0) rfl he (fun l3_36 g_ahead_37 again38f again38 hagain38 he => ?_)
          obtain ⟨hn23, he⟩ := zg_e he
          by_cases c24 : (180 : Int) ≤ l3_36
          · have he := zif_t c24 he
            refine zif_p ((zo_le (zo_l 180) rfl (by decide) hn23).mpr c24) ?_
            exact zk1 hk35 rfl he
          · have he := zif_f c24 he
            refine zif_n (fun q => c24 ((zo_le (zo_l 180) rfl (by decide) hn23).mp q)) ?_
            obtain ⟨hg26, he⟩ := zg_e he
            have hg25 := zin3 (n := 180) (by decide) hg26
            refine zg_z (zo_in rfl hg25) ?_
            obtain ⟨x41, hx27⟩ : ∃ y : Int, y = g_now_32 l3_36.toNat := ⟨_, rfl⟩
            have he := zn_e hx27 he
            refine zn_z (y := zo x41) ((zo_rd rfl rfl hg25).trans (congrArg zo hx27.symm)) ?_
            refine zg_z (zo_in rfl hg25) ?_
            obtain ⟨hg29, he⟩ := zg_e he
            refine zg_z (zo_bool rfl hg29) ?_
            obtain ⟨g44, hx30⟩ : ∃ y : Nat → Int, y = updI g_ahead_37 l3_36.toNat x41 := ⟨_, rfl⟩
            have he := zn_e hx30 he
            refine zn_z (y := zoA g44) ((zo_upd rfl rfl hg25 rfl).trans (congrArg zoA hx30.symm)) ?_
            obtain ⟨x45, hx31⟩ : ∃ y : Int, y = l3_36 + (1 : Int) := ⟨_, rfl⟩
            have he := zn_e hx31 he
            refine zn_z (y := zo x45) ((zo_add rfl (zo_l 1)).trans (congrArg zo hx31.symm)) ?_
            exact zk2 hagain38 rfl rfl he
        refine zl2_z (m1 := zo) (m2 := zoA) (zo_l 0) rfl he (fun l3_47 g_now_48 again49f again49 hagain49 he => ?_)
        obtain ⟨hn32, he⟩ := zg_e he
        by_cases c33 : (36 : Int) ≤ l3_47
        · have he := zif_t c33 he
          refine zif_p ((zo_le (zo_l 36) rfl (by decide) hn32).mpr c33) ?_
          exact zk1 hk46 rfl he
        · have he := zif_f c33 he
          refine zif_n (fun q => c33 ((zo_le (zo_l 36) rfl (by decide) hn32).mp q)) ?_
          refine zj1_z (m1 := zoA) he (fun g_now_51 he => ?_) (fun k53f k53 hk53 he => ?_)
          · obtain ⟨x52, hx34⟩ : ∃ y : Int, y = l3_47 + (1 : Int) := ⟨_, rfl⟩
            have he := zn_e hx34 he
            refine zn_z (y := zo x52) ((zo_add rfl (zo_l 1)).trans (congrArg zo hx34.symm)) ?_
            exact zk2 hagain49 rfl rfl he
          refine zl2_z (m1 := zo) (m2 := zoA) (zo_l 0) rfl he (fun l4_54 g_now_55 again56f again56 hagain56 he => ?_)
          obtain ⟨hn35, he⟩ := zg_e he
          by_cases c36 : (4 : Int) < l4_54
          · have he := zif_t c36 he
            refine zif_p ((zo_lt (zo_l 4) rfl (by decide) hn35).mpr c36) ?_
            exact zk1 hk53 rfl he
          · have he := zif_f c36 he
            refine zif_n (fun q => c36 ((zo_lt (zo_l 4) rfl (by decide) hn35).mp q)) ?_
            obtain ⟨r58, hb37, he⟩ := zb1_e he
            refine (zb1_s (s_M_at rfl rfl hb37)).trans ?_
            obtain ⟨r60, hb38, he⟩ := zb1_e he
            refine (zb1_s (s_M_canBe rfl rfl hb38)).trans ?_
            refine zj1_z (m1 := zo) he (fun s62 he => ?_) (fun k67f k67 hk67 he => ?_)
            · obtain ⟨hg40, he⟩ := zg_e he
              have hg39 := zin3 (n := 180) (by decide) hg40
              refine zg_z (zo_in rfl hg39) ?_
              obtain ⟨hg41, he⟩ := zg_e he
              refine zg_z (zo_bool rfl hg41) ?_
              obtain ⟨g65, hx42⟩ : ∃ y : Nat → Int, y = updI g_now_55 r58.toNat s62 := ⟨_, rfl⟩
              have he := zn_e hx42 he
              refine zn_z (y := zoA g65) ((zo_upd rfl rfl hg39 rfl).trans (congrArg zoA hx42.symm)) ?_
              obtain ⟨x66, hx43⟩ : ∃ y : Int, y = l4_54 + (1 : Int) := ⟨_, rfl⟩
              have he := zn_e hx43 he
              refine zn_z (y := zo x66) ((zo_add rfl (zo_l 1)).trans (congrArg zo hx43.symm)) ?_
              exact zk2 hagain56 rfl rfl he
            refine zj1_z (m1 := id) he (fun _ he => ?_) (fun k68f k68 hk68 he => ?_)
            · exact zk1 hk67 (zo_l 0) he
            obtain ⟨hn44, he⟩ := zg_e he
            by_cases c45 : r60 = (0 : Int)
            · have he := zif_t c45 he
              refine zif_p ((zo_eq rfl (zo_l 0) hn44 (by decide)).mpr c45) ?_
              exact zk1 hk68 rfl he
            · have he := zif_f c45 he
              refine zif_n (fun q => c45 ((zo_eq rfl (zo_l 0) hn44 (by decide)).mp q)) ?_
              obtain ⟨r70, hb46, he⟩ := zb1_e he
              refine (zb1_s (s_M_canBeSaid rfl rfl rfl rfl rfl rfl rfl hb46)).trans ?_
              obtain ⟨hn47, he⟩ := zg_e he
              by_cases c48 : r70 = (0 : Int)
              · have he := zif_t c48 he
                refine zif_p ((zo_eq rfl (zo_l 0) hn47 (by decide)).mpr c48) ?_
                exact zk1 hk68 rfl he
              · have he := zif_f c48 he
                refine zif_n (fun q => c48 ((zo_eq rfl (zo_l 0) hn47 (by decide)).mp q)) ?_
                exact zk1 hk67 (zo_l 1) he
theorem s_M_row {v_rowManyf : Int32} {v_rowMany : Int} {g_refusedf : Nat → Int32} {g_refused : Nat → Int} {g_rowf : Nat → Int32} {g_row : Nat → Int} {p1f : Int32} {p1 : Int} {R0 : Int} {R1 : Int} {R2 : Nat → Int} {R3 : Nat → Int} (ev_rowMany : v_rowManyf = zo v_rowMany) (eg_refused : g_refusedf = zoA g_refused) (eg_row : g_rowf = zoA g_row) (ep1 : p1f = zo p1) (he : g_M_row v_rowMany g_refused g_row p1 = some (R0, R1, R2, R3)) : f_M_row v_rowManyf g_refusedf g_rowf p1f = some (zo R0, zo R1, zoA R2, zoA R3) := by
  subst ev_rowMany
  subst eg_refused
  subst eg_row
  subst ep1
  unfold g_M_row at he
  unfold f_M_row
  obtain ⟨hn1, he⟩ := zg_e he
  by_cases c2 : (0 : Int) ≤ p1
  · have he := zif_t c2 he
    refine zif_p ((zo_le (zo_l 0) rfl (by decide) hn1).mpr c2) ?_
    refine zj1_z (m1 := id) he (fun _ he => ?_) (fun k5f k5 hk5 he => ?_)
    · obtain ⟨r2, g_refused_3, hb3, he⟩ := zb2_e he
      refine (zb2_s (s_M_no rfl (zo_ln 6) hb3)).trans ?_
      obtain ⟨rfl, rfl, rfl, rfl⟩ := zi4 he
      exact zs4 rfl rfl rfl rfl
    by_cases c4 : (9 : Int) < p1
    · have he := zif_t c4 he
      refine zif_p ((zo_lt (zo_l 9) rfl (by decide) hn1).mpr c4) ?_
      exact zk1 hk5 rfl he
    · have he := zif_f c4 he
      refine zif_n (fun q => c4 ((zo_lt (zo_l 9) rfl (by decide) hn1).mp q)) ?_
      obtain ⟨hn5, he⟩ := zg_e he
      by_cases c6 : v_rowMany = (20 : Int)
      · have he := zif_t c6 he
        refine zif_p ((zo_eq rfl (zo_l 20) hn5 (by decide)).mpr c6) ?_
        exact zk1 hk5 rfl he
      · have he := zif_f c6 he
        refine zif_n (fun q => c6 ((zo_eq rfl (zo_l 20) hn5 (by decide)).mp q)) ?_
        obtain ⟨hg8, he⟩ := zg_e he
        have hg7 := zin3 (n := 20) (by decide) hg8
        refine zg_z (zo_in rfl hg7) ?_
        obtain ⟨g9, hx9⟩ : ∃ y : Nat → Int, y = updI g_row v_rowMany.toNat p1 := ⟨_, rfl⟩
        have he := zn_e hx9 he
        refine zn_z (y := zoA g9) ((zo_upd rfl rfl hg7 rfl).trans (congrArg zoA hx9.symm)) ?_
        obtain ⟨x10, hx10⟩ : ∃ y : Int, y = v_rowMany + (1 : Int) := ⟨_, rfl⟩
        have he := zn_e hx10 he
        refine zn_z (y := zo x10) ((zo_add rfl (zo_l 1)).trans (congrArg zo hx10.symm)) ?_
        obtain ⟨rfl, rfl, rfl, rfl⟩ := zi4 he
        exact zs4 rfl rfl rfl rfl
  · have he := zif_f c2 he
    refine zif_n (fun q => c2 ((zo_le (zo_l 0) rfl (by decide) hn1).mp q)) ?_
    obtain ⟨r11, g_refused_12, hb11, he⟩ := zb2_e he
    refine (zb2_s (s_M_no rfl (zo_ln 4) hb11)).trans ?_
    obtain ⟨rfl, rfl, rfl, rfl⟩ := zi4 he
    exact zs4 rfl rfl rfl rfl
theorem s_M_judge {v_rowManyf : Int32} {v_rowMany : Int} {g_refusedf : Nat → Int32} {g_refused : Nat → Int} {g_rowf : Nat → Int32} {g_row : Nat → Int} {g_sf : Nat → Int32} {g_s : Nat → Int} {R0 : Int} {R1 : Int} {R2 : Nat → Int} (ev_rowMany : v_rowManyf = zo v_rowMany) (eg_refused : g_refusedf = zoA g_refused) (eg_row : g_rowf = zoA g_row) (eg_s : g_sf = zoA g_s) (he : g_M_judge v_rowMany g_refused g_row g_s = some (R0, R1, R2)) : f_M_judge v_rowManyf g_refusedf g_rowf g_sf = some (zo R0, zo R1, zoA R2) := by
  subst ev_rowMany
  subst eg_refused
  subst eg_row
  subst eg_s
  unfold g_M_judge at he
  unfold f_M_judge
  obtain ⟨r1, hb1, he⟩ := zb1_e he
  refine (zb1_s (s_M_areWays rfl rfl hb1)).trans ?_
  obtain ⟨hn2, he⟩ := zg_e he
  by_cases c3 : r1 = (0 : Int)
  · have he := zif_t c3 he
    refine zif_p ((zo_eq rfl (zo_l 0) hn2 (by decide)).mpr c3) ?_
    obtain ⟨r6, g_refused_7, hb4, he⟩ := zb2_e he
    refine (zb2_s (s_M_no rfl (zo_ln 3) hb4)).trans ?_
    obtain ⟨rfl, rfl, rfl⟩ := zi3 he
    exact zs3 rfl rfl rfl
  · have he := zif_f c3 he
    refine zif_n (fun q => c3 ((zo_eq rfl (zo_l 0) hn2 (by decide)).mp q)) ?_
    obtain ⟨r4, hb5, he⟩ := zb1_e he
    refine (zb1_s (s_M_firstWrong rfl rfl rfl hb5)).trans ?_
    obtain ⟨rfl, rfl, rfl⟩ := zi3 he
    exact zs3 rfl (zo_l 0) rfl
theorem s_M_clear {v_rowManyf : Int32} {v_rowMany : Int} {R0 : Int} {R1 : Int} (ev_rowMany : v_rowManyf = zo v_rowMany) (he : g_M_clear v_rowMany = some (R0, R1)) : f_M_clear v_rowManyf = some (zo R0, zo R1) := by
  subst ev_rowMany
  unfold g_M_clear at he
  unfold f_M_clear
  obtain ⟨rfl, rfl⟩ := zi2 he
  exact zs2 rfl (zo_l 0)
theorem s_M_drawn {v_seedf : Int32} {v_seed : Int} {p1f : Int32} {p1 : Int} {R0 : Int} {R1 : Int} (ev_seed : v_seedf = zo v_seed) (ep1 : p1f = zo p1) (he : g_M_drawn v_seed p1 = some (R0, R1)) : f_M_drawn v_seedf p1f = some (zo R0, zo R1) := by
  subst ev_seed
  subst ep1
  unfold g_M_drawn at he
  unfold f_M_drawn
  obtain ⟨x1, hx1⟩ : ∃ y : Int, y = (v_seed * (1664525 : Int)) + (1013904223 : Int) := ⟨_, rfl⟩
  have he := zn_e hx1 he
  refine zn_z (y := zo x1) ((zo_add (zo_mul rfl (zo_l 1664525)) (zo_l 1013904223)).trans (congrArg zo hx1.symm)) ?_
  obtain ⟨hn3, he⟩ := zg_e he
  refine zg_z (zo_ne0 rfl hn3) ?_
  obtain ⟨hn4, he⟩ := zg_e he
  obtain ⟨hn5, he⟩ := zg_e he
  obtain ⟨rfl, rfl⟩ := zi2 he
  exact zs2 (zo_rem (zo_div (zo_and rfl (zo_l 2147483647)) (zo_l 256) hn4 (by decide)) rfl hn5 hn3) rfl
theorem s_M_lots {v_seedf : Int32} {v_seed : Int} {g_refusedf : Nat → Int32} {g_refused : Nat → Int} {g_sf : Nat → Int32} {g_s : Nat → Int} {p1f : Int32} {p1 : Int} {p2f : Int32} {p2 : Int} {p3f : Int32} {p3 : Int} {R0 : Int} {R1 : Int} {R2 : Nat → Int} (ev_seed : v_seedf = zo v_seed) (eg_refused : g_refusedf = zoA g_refused) (eg_s : g_sf = zoA g_s) (ep1 : p1f = zo p1) (ep2 : p2f = zo p2) (ep3 : p3f = zo p3) (he : g_M_lots v_seed g_refused g_s p1 p2 p3 = some (R0, R1, R2)) : f_M_lots v_seedf g_refusedf g_sf p1f p2f p3f = some (zo R0, zo R1, zoA R2) := by
  subst ev_seed
  subst eg_refused
  subst eg_s
  subst ep1
  subst ep2
  subst ep3
  unfold g_M_lots at he
  unfold f_M_lots
  obtain ⟨hn1, he⟩ := zg_e he
  by_cases c2 : (1 : Int) ≤ p1
  · have he := zif_t c2 he
    refine zif_p ((zo_le (zo_l 1) rfl (by decide) hn1).mpr c2) ?_
    by_cases c3 : p1 ≤ (20 : Int)
    · have he := zif_t c3 he
      refine zif_p ((zo_le rfl (zo_l 20) hn1 (by decide)).mpr c3) ?_
      obtain ⟨r3, hb4, he⟩ := zb1_e he
      refine (zb1_s (s_M_isIn rfl (zo_l 0) (zo_l 1) hb4)).trans ?_
      obtain ⟨hn5, he⟩ := zg_e he
      by_cases c6 : r3 = (0 : Int)
      · have he := zif_t c6 he
        refine zif_p ((zo_eq rfl (zo_l 0) hn5 (by decide)).mpr c6) ?_
        obtain ⟨r57, g_refused_58, hb7, he⟩ := zb2_e he
        refine (zb2_s (s_M_no rfl (zo_ln 2) hb7)).trans ?_
        obtain ⟨rfl, rfl, rfl⟩ := zi3 he
        exact zs3 rfl rfl rfl
      · have he := zif_f c6 he
        refine zif_n (fun q => c6 ((zo_eq rfl (zo_l 0) hn5 (by decide)).mp q)) ?_
        refine zj3_z (m1 := zo) (m2 := zo) (m3 := zo) he (fun l4_6 l5_7 v_seed_8 he => ?_) (fun k10f k10 hk10 he => ?_)
        · obtain ⟨hn8, he⟩ := zg_e he
          by_cases c9 : p3 = (0 : Int)
          · have he := zif_t c9 he
            refine zif_p ((zo_eq rfl (zo_l 0) hn8 (by decide)).mpr c9) ?_
            obtain ⟨rfl, rfl, rfl⟩ := zi3 he
            exact zs3 rfl rfl rfl
          · have he := zif_f c9 he
            refine zif_n (fun q => c9 ((zo_eq rfl (zo_l 0) hn8 (by decide)).mp q)) ?_
            obtain ⟨rfl, rfl, rfl⟩ := zi3 he
            exact zs3 rfl rfl rfl
        refine zl4_z (m1 := zo) (m2 := zo) (m3 := zo) (m4 := zo) (zo_l 0) (zo_l 0) (zo_l 0) rfl he (fun l4_11 l5_12 l6_13 v_seed_14 again15f again15 hagain15 he => ?_)
        obtain ⟨hn10, he⟩ := zg_e he
        by_cases c11 : p1 ≤ l6_13
        · have he := zif_t c11 he
          refine zif_p ((zo_le rfl rfl hn1 hn10).mpr c11) ?_
          exact zk3 hk10 rfl rfl rfl he
        · have he := zif_f c11 he
          refine zif_n (fun q => c11 ((zo_le rfl rfl hn1 hn10).mp q)) ?_
          obtain ⟨hg13, he⟩ := zg_e he
          have hg12 := zin3 (n := 39) (by decide) hg13
          refine zg_z (zo_in (zo_l 36) hg12) ?_
          obtain ⟨x18, hx14⟩ : ∃ y : Int, y = g_s (36 : Int).toNat := ⟨_, rfl⟩
          have he := zn_e hx14 he
          refine zn_z (y := zo x18) ((zo_rd rfl (zo_l 36) hg12).trans (congrArg zo hx14.symm)) ?_
          refine zj4_z (m1 := zo) (m2 := zo) (m3 := zo) (m4 := zo) he (fun l4_19 l5_20 l7_21 v_seed_22 he => ?_) (fun k27f k27 hk27 he => ?_)
          · obtain ⟨r23, hb15, he⟩ := zb1_e he
            refine (zb1_s (s_M_wordsOn rfl rfl hb15)).trans ?_
            obtain ⟨x25, hx16⟩ : ∃ y : Int, y = l4_19 + r23 := ⟨_, rfl⟩
            have he := zn_e hx16 he
            refine zn_z (y := zo x25) ((zo_add rfl rfl).trans (congrArg zo hx16.symm)) ?_
            obtain ⟨x26, hx17⟩ : ∃ y : Int, y = l6_13 + (1 : Int) := ⟨_, rfl⟩
            have he := zn_e hx17 he
            refine zn_z (y := zo x26) ((zo_add rfl (zo_l 1)).trans (congrArg zo hx17.symm)) ?_
            exact zk4 hagain15 rfl rfl rfl rfl he
          refine zl6_z (m1 := zo) (m2 := zo) (m3 := zo) (m4 := zo) (m5 := zo) (m6 := zo) rfl rfl rfl (zo_l 4) (zo_l 0) rfl he (fun l4_28 l5_29 l7_30 l8_31 l9_32 v_seed_33 again34f again34 hagain34 he => ?_)
          obtain ⟨hn18, he⟩ := zg_e he
          by_cases c19 : (20 : Int) ≤ l9_32
          · have he := zif_t c19 he
            refine zif_p ((zo_le (zo_l 20) rfl (by decide) hn18).mpr c19) ?_
            exact zk4 hk27 rfl rfl rfl rfl he
          · have he := zif_f c19 he
            refine zif_n (fun q => c19 ((zo_le (zo_l 20) rfl (by decide) hn18).mp q)) ?_
            obtain ⟨r36, v_seed_37, hb20, he⟩ := zb2_e he
            refine (zb2_s (s_M_drawn rfl (zo_l 4) hb20)).trans ?_
            obtain ⟨r39, hb21, he⟩ := zb1_e he
            refine (zb1_s (s_M_gone rfl rfl rfl hb21)).trans ?_
            refine zj4_z (m1 := zo) (m2 := zo) (m3 := zo) (m4 := zo) he (fun l4_41 l5_42 l7_43 l8_44 he => ?_) (fun k46f k46 hk46 he => ?_)
            · obtain ⟨x45, hx22⟩ : ∃ y : Int, y = l9_32 + (1 : Int) := ⟨_, rfl⟩
              have he := zn_e hx22 he
              refine zn_z (y := zo x45) ((zo_add rfl (zo_l 1)).trans (congrArg zo hx22.symm)) ?_
              exact zk6 hagain34 rfl rfl rfl rfl rfl rfl he
            obtain ⟨hn23, he⟩ := zg_e he
            by_cases c24 : (0 : Int) ≤ r39
            · have he := zif_t c24 he
              refine zif_p ((zo_le (zo_l 0) rfl (by decide) hn23).mpr c24) ?_
              obtain ⟨r48, hb25, he⟩ := zb1_e he
              refine (zb1_s (s_M_saidOn rfl rfl rfl rfl hb25)).trans ?_
              obtain ⟨x50, hx26⟩ : ∃ y : Int, y = l4_28 + r48 := ⟨_, rfl⟩
              have he := zn_e hx26 he
              refine zn_z (y := zo x50) ((zo_add rfl rfl).trans (congrArg zo hx26.symm)) ?_
              obtain ⟨r51, hb27, he⟩ := zb1_e he
              refine (zb1_s (s_M_isCorner rfl rfl rfl rfl hb27)).trans ?_
              refine zj1_z (m1 := zo) he (fun s53 he => ?_) (fun k55f k55 hk55 he => ?_)
              · obtain ⟨x54, hx28⟩ : ∃ y : Int, y = l5_29 + s53 := ⟨_, rfl⟩
                have he := zn_e hx28 he
                refine zn_z (y := zo x54) ((zo_add rfl rfl).trans (congrArg zo hx28.symm)) ?_
                exact zk4 hk46 rfl rfl rfl rfl he
              obtain ⟨hn29, he⟩ := zg_e he
              by_cases c30 : r51 = (0 : Int)
              · have he := zif_t c30 he
                refine zif_p ((zo_eq rfl (zo_l 0) hn29 (by decide)).mpr c30) ?_
                exact zk1 hk55 (zo_l 0) he
              · have he := zif_f c30 he
                refine zif_n (fun q => c30 ((zo_eq rfl (zo_l 0) hn29 (by decide)).mp q)) ?_
                exact zk1 hk55 (zo_l 1) he
            · have he := zif_f c24 he
              refine zif_n (fun q => c24 ((zo_le (zo_l 0) rfl (by decide) hn23).mp q)) ?_
              exact zk4 hk46 rfl rfl rfl rfl he
    · have he := zif_f c3 he
      refine zif_n (fun q => c3 ((zo_le rfl (zo_l 20) hn1 (by decide)).mp q)) ?_
      obtain ⟨r60, g_refused_61, hb31, he⟩ := zb2_e he
      refine (zb2_s (s_M_no rfl (zo_ln 6) hb31)).trans ?_
      obtain ⟨rfl, rfl, rfl⟩ := zi3 he
      exact zs3 rfl rfl rfl
  · have he := zif_f c2 he
    refine zif_n (fun q => c2 ((zo_le (zo_l 1) rfl (by decide) hn1).mp q)) ?_
    obtain ⟨r63, g_refused_64, hb32, he⟩ := zb2_e he
    refine (zb2_s (s_M_no rfl (zo_ln 4) hb32)).trans ?_
    obtain ⟨rfl, rfl, rfl⟩ := zi3 he
    exact zs3 rfl rfl rfl
theorem s_M_image {v_hasImagef : Int32} {v_hasImage : Int} {g_imagef : Nat → Int32} {g_image : Nat → Int} {g_sf : Nat → Int32} {g_s : Nat → Int} {R0 : Int} {R1 : Int} {R2 : Nat → Int} (ev_hasImage : v_hasImagef = zo v_hasImage) (eg_image : g_imagef = zoA g_image) (eg_s : g_sf = zoA g_s) (he : g_M_image v_hasImage g_image g_s = some (R0, R1, R2)) : f_M_image v_hasImagef g_imagef g_sf = some (zo R0, zo R1, zoA R2) := by
  subst ev_hasImage
  subst eg_image
  subst eg_s
  unfold g_M_image at he
  unfold f_M_image
  obtain ⟨g_image_1, hb1, he⟩ := zb1_e he
  refine (zb1_s (s_M_lays rfl rfl hb1)).trans ?_
  obtain ⟨hg3, he⟩ := zg_e he
  have hg2 := zin3 (n := 39) (by decide) hg3
  refine zg_z (zo_in (zo_l 36) hg2) ?_
  obtain ⟨rfl, rfl, rfl⟩ := zi3 he
  exact zs3 (zo_rd rfl (zo_l 36) hg2) (zo_l 1) rfl
theorem s_M_on {v_hasImagef : Int32} {v_hasImage : Int} {g_imagef : Nat → Int32} {g_image : Nat → Int} {g_refusedf : Nat → Int32} {g_refused : Nat → Int} {g_sf : Nat → Int32} {g_s : Nat → Int} {R0 : Int} {R1 : Nat → Int} {R2 : Nat → Int} (ev_hasImage : v_hasImagef = zo v_hasImage) (eg_image : g_imagef = zoA g_image) (eg_refused : g_refusedf = zoA g_refused) (eg_s : g_sf = zoA g_s) (he : g_M_on v_hasImage g_image g_refused g_s = some (R0, R1, R2)) : f_M_on v_hasImagef g_imagef g_refusedf g_sf = some (zo R0, zoA R1, zoA R2) := by
  subst ev_hasImage
  subst eg_image
  subst eg_refused
  subst eg_s
  unfold g_M_on at he
  unfold f_M_on
  obtain ⟨hn1, he⟩ := zg_e he
  by_cases c2 : v_hasImage = (0 : Int)
  · have he := zif_t c2 he
    refine zif_p ((zo_eq rfl (zo_l 0) hn1 (by decide)).mpr c2) ?_
    obtain ⟨r5, g_refused_6, hb3, he⟩ := zb2_e he
    refine (zb2_s (s_M_no rfl (zo_ln 3) hb3)).trans ?_
    obtain ⟨rfl, rfl, rfl⟩ := zi3 he
    exact zs3 rfl rfl rfl
  · have he := zif_f c2 he
    refine zif_n (fun q => c2 ((zo_eq rfl (zo_l 0) hn1 (by decide)).mp q)) ?_
    obtain ⟨g_s_2, hb4, he⟩ := zb1_e he
    refine (zb1_s (s_M_lays rfl rfl hb4)).trans ?_
    obtain ⟨hg6, he⟩ := zg_e he
    have hg5 := zin3 (n := 39) (by decide) hg6
    refine zg_z (zo_in (zo_l 36) hg5) ?_
    obtain ⟨rfl, rfl, rfl⟩ := zi3 he
    exact zs3 (zo_rd rfl (zo_l 36) hg5) rfl rfl
theorem s_M_manyOf {g_sf : Nat → Int32} {g_s : Nat → Int} {p1f : Int32} {p1 : Int} {R0 : Int} (eg_s : g_sf = zoA g_s) (ep1 : p1f = zo p1) (he : g_M_manyOf g_s p1 = some (R0)) : f_M_manyOf g_sf p1f = some (zo R0) := by
  subst eg_s
  subst ep1
  unfold g_M_manyOf at he
  unfold f_M_manyOf
  refine zl2_z (m1 := zo) (m2 := zo) (zo_l 0) (zo_l 0) he (fun l2_1 l3_2 again3f again3 hagain3 he => ?_)
  obtain ⟨hn1, he⟩ := zg_e he
  by_cases c2 : (36 : Int) ≤ l3_2
  · have he := zif_t c2 he
    refine zif_p ((zo_le (zo_l 36) rfl (by decide) hn1).mpr c2) ?_
    obtain ⟨rfl⟩ := zi1 he
    exact zs1 rfl
  · have he := zif_f c2 he
    refine zif_n (fun q => c2 ((zo_le (zo_l 36) rfl (by decide) hn1).mp q)) ?_
    refine zj1_z (m1 := zo) he (fun s5 he => ?_) (fun k11f k11 hk11 he => ?_)
    · refine zj1_z (m1 := zo) he (fun s6 he => ?_) (fun k9f k9 hk9 he => ?_)
      · obtain ⟨x7, hx3⟩ : ∃ y : Int, y = l2_1 + s6 := ⟨_, rfl⟩
        have he := zn_e hx3 he
        refine zn_z (y := zo x7) ((zo_add rfl rfl).trans (congrArg zo hx3.symm)) ?_
        obtain ⟨x8, hx4⟩ : ∃ y : Int, y = l3_2 + (1 : Int) := ⟨_, rfl⟩
        have he := zn_e hx4 he
        refine zn_z (y := zo x8) ((zo_add rfl (zo_l 1)).trans (congrArg zo hx4.symm)) ?_
        exact zk2 hagain3 rfl rfl he
      obtain ⟨hn5, he⟩ := zg_e he
      by_cases c6 : s5 = (0 : Int)
      · have he := zif_t c6 he
        refine zif_p ((zo_eq rfl (zo_l 0) hn5 (by decide)).mpr c6) ?_
        exact zk1 hk9 (zo_l 0) he
      · have he := zif_f c6 he
        refine zif_n (fun q => c6 ((zo_eq rfl (zo_l 0) hn5 (by decide)).mp q)) ?_
        exact zk1 hk9 (zo_l 1) he
    obtain ⟨hn7, he⟩ := zg_e he
    by_cases c8 : p1 = (3 : Int)
    · have he := zif_t c8 he
      refine zif_p ((zo_eq rfl (zo_l 3) hn7 (by decide)).mpr c8) ?_
      obtain ⟨r21, hb9, he⟩ := zb1_e he
      refine (zb1_s (s_M_canBe rfl rfl hb9)).trans ?_
      exact zk1 hk11 rfl he
    · have he := zif_f c8 he
      refine zif_n (fun q => c8 ((zo_eq rfl (zo_l 3) hn7 (by decide)).mp q)) ?_
      by_cases c10 : p1 = (4 : Int)
      · have he := zif_t c10 he
        refine zif_p ((zo_eq rfl (zo_l 4) hn7 (by decide)).mpr c10) ?_
        obtain ⟨hg12, he⟩ := zg_e he
        have hg11 := zin3 (n := 39) (by decide) hg12
        refine zg_z (zo_in rfl hg11) ?_
        obtain ⟨r18, hb13, he⟩ := zb1_e he
        refine (zb1_s (s_M_hears (zo_rd rfl rfl hg11) hb13)).trans ?_
        obtain ⟨hn14, he⟩ := zg_e he
        by_cases c15 : r18 < (0 : Int)
        · have he := zif_t c15 he
          refine zif_p ((zo_lt rfl (zo_l 0) hn14 (by decide)).mpr c15) ?_
          exact zk1 hk11 (zo_l 0) he
        · have he := zif_f c15 he
          refine zif_n (fun q => c15 ((zo_lt rfl (zo_l 0) hn14 (by decide)).mp q)) ?_
          exact zk1 hk11 (zo_l 1) he
      · have he := zif_f c10 he
        refine zif_n (fun q => c10 ((zo_eq rfl (zo_l 4) hn7 (by decide)).mp q)) ?_
        obtain ⟨r14, hb16, he⟩ := zb1_e he
        refine (zb1_s (s_M_isTurned rfl rfl hb16)).trans ?_
        obtain ⟨hn17, he⟩ := zg_e he
        by_cases c18 : r14 = (0 : Int)
        · have he := zif_t c18 he
          refine zif_p ((zo_eq rfl (zo_l 0) hn17 (by decide)).mpr c18) ?_
          exact zk1 hk11 (zo_l 1) he
        · have he := zif_f c18 he
          refine zif_n (fun q => c18 ((zo_eq rfl (zo_l 0) hn17 (by decide)).mp q)) ?_
          exact zk1 hk11 (zo_l 0) he
theorem s_M_count {v_letterManyf : Int32} {v_letterMany : Int} {v_rowManyf : Int32} {v_rowMany : Int} {g_refusedf : Nat → Int32} {g_refused : Nat → Int} {g_sf : Nat → Int32} {g_s : Nat → Int} {p1f : Int32} {p1 : Int} {R0 : Int} (ev_letterMany : v_letterManyf = zo v_letterMany) (ev_rowMany : v_rowManyf = zo v_rowMany) (eg_refused : g_refusedf = zoA g_refused) (eg_s : g_sf = zoA g_s) (ep1 : p1f = zo p1) (he : g_M_count v_letterMany v_rowMany g_refused g_s p1 = some (R0)) : f_M_count v_letterManyf v_rowManyf g_refusedf g_sf p1f = some (zo R0) := by
  subst ev_letterMany
  subst ev_rowMany
  subst eg_refused
  subst eg_s
  subst ep1
  unfold g_M_count at he
  unfold f_M_count
  obtain ⟨r1, hb1, he⟩ := zb1_e he
  refine (zb1_s (s_M_isIn rfl (zo_l 11) (zo_l 16) hb1)).trans ?_
  obtain ⟨hn2, he⟩ := zg_e he
  by_cases c3 : r1 = (0 : Int)
  · have he := zif_t c3 he
    refine zif_p ((zo_eq rfl (zo_l 0) hn2 (by decide)).mpr c3) ?_
    obtain ⟨hn4, he⟩ := zg_e he
    by_cases c5 : p1 = (0 : Int)
    · have he := zif_t c5 he
      refine zif_p ((zo_eq rfl (zo_l 0) hn4 (by decide)).mpr c5) ?_
      obtain ⟨hg7, he⟩ := zg_e he
      have hg6 := zin3 (n := 39) (by decide) hg7
      refine zg_z (zo_in (zo_add (zo_l 36) rfl) hg6) ?_
      obtain ⟨rfl⟩ := zi1 he
      exact zs1 (zo_rd rfl (zo_add (zo_l 36) rfl) hg6)
    · have he := zif_f c5 he
      refine zif_n (fun q => c5 ((zo_eq rfl (zo_l 0) hn4 (by decide)).mp q)) ?_
      by_cases c8 : p1 = (1 : Int)
      · have he := zif_t c8 he
        refine zif_p ((zo_eq rfl (zo_l 1) hn4 (by decide)).mpr c8) ?_
        obtain ⟨hg10, he⟩ := zg_e he
        have hg9 := zin3 (n := 39) (by decide) hg10
        refine zg_z (zo_in (zo_add (zo_l 36) rfl) hg9) ?_
        obtain ⟨rfl⟩ := zi1 he
        exact zs1 (zo_rd rfl (zo_add (zo_l 36) rfl) hg9)
      · have he := zif_f c8 he
        refine zif_n (fun q => c8 ((zo_eq rfl (zo_l 1) hn4 (by decide)).mp q)) ?_
        by_cases c11 : p1 = (2 : Int)
        · have he := zif_t c11 he
          refine zif_p ((zo_eq rfl (zo_l 2) hn4 (by decide)).mpr c11) ?_
          obtain ⟨hg13, he⟩ := zg_e he
          have hg12 := zin3 (n := 39) (by decide) hg13
          refine zg_z (zo_in (zo_add (zo_l 36) rfl) hg12) ?_
          obtain ⟨rfl⟩ := zi1 he
          exact zs1 (zo_rd rfl (zo_add (zo_l 36) rfl) hg12)
        · have he := zif_f c11 he
          refine zif_n (fun q => c11 ((zo_eq rfl (zo_l 2) hn4 (by decide)).mp q)) ?_
          by_cases c14 : p1 = (3 : Int)
          · have he := zif_t c14 he
            refine zif_p ((zo_eq rfl (zo_l 3) hn4 (by decide)).mpr c14) ?_
            obtain ⟨r11, hb15, he⟩ := zb1_e he
            refine (zb1_s (s_M_manyOf rfl rfl hb15)).trans ?_
            obtain ⟨rfl⟩ := zi1 he
            exact zs1 rfl
          · have he := zif_f c14 he
            refine zif_n (fun q => c14 ((zo_eq rfl (zo_l 3) hn4 (by decide)).mp q)) ?_
            by_cases c16 : p1 = (4 : Int)
            · have he := zif_t c16 he
              refine zif_p ((zo_eq rfl (zo_l 4) hn4 (by decide)).mpr c16) ?_
              obtain ⟨r14, hb17, he⟩ := zb1_e he
              refine (zb1_s (s_M_manyOf rfl rfl hb17)).trans ?_
              obtain ⟨rfl⟩ := zi1 he
              exact zs1 rfl
            · have he := zif_f c16 he
              refine zif_n (fun q => c16 ((zo_eq rfl (zo_l 4) hn4 (by decide)).mp q)) ?_
              by_cases c18 : p1 = (5 : Int)
              · have he := zif_t c18 he
                refine zif_p ((zo_eq rfl (zo_l 5) hn4 (by decide)).mpr c18) ?_
                obtain ⟨r17, hb19, he⟩ := zb1_e he
                refine (zb1_s (s_M_heardMany rfl hb19)).trans ?_
                obtain ⟨rfl⟩ := zi1 he
                exact zs1 rfl
              · have he := zif_f c18 he
                refine zif_n (fun q => c18 ((zo_eq rfl (zo_l 5) hn4 (by decide)).mp q)) ?_
                by_cases c20 : p1 = (6 : Int)
                · have he := zif_t c20 he
                  refine zif_p ((zo_eq rfl (zo_l 6) hn4 (by decide)).mpr c20) ?_
                  obtain ⟨r20, hb21, he⟩ := zb1_e he
                  refine (zb1_s (s_M_manyOf rfl rfl hb21)).trans ?_
                  obtain ⟨rfl⟩ := zi1 he
                  exact zs1 rfl
                · have he := zif_f c20 he
                  refine zif_n (fun q => c20 ((zo_eq rfl (zo_l 6) hn4 (by decide)).mp q)) ?_
                  by_cases c22 : p1 = (7 : Int)
                  · have he := zif_t c22 he
                    refine zif_p ((zo_eq rfl (zo_l 7) hn4 (by decide)).mpr c22) ?_
                    obtain ⟨rfl⟩ := zi1 he
                    exact zs1 rfl
                  · have he := zif_f c22 he
                    refine zif_n (fun q => c22 ((zo_eq rfl (zo_l 7) hn4 (by decide)).mp q)) ?_
                    by_cases c23 : p1 = (8 : Int)
                    · have he := zif_t c23 he
                      refine zif_p ((zo_eq rfl (zo_l 8) hn4 (by decide)).mpr c23) ?_
                      obtain ⟨rfl⟩ := zi1 he
                      exact zs1 rfl
                    · have he := zif_f c23 he
                      refine zif_n (fun q => c23 ((zo_eq rfl (zo_l 8) hn4 (by decide)).mp q)) ?_
                      obtain ⟨rfl⟩ := zi1 he
                      exact zs1 (zo_ln 9)
  · have he := zif_f c3 he
    refine zif_n (fun q => c3 ((zo_eq rfl (zo_l 0) hn2 (by decide)).mp q)) ?_
    obtain ⟨hg25, he⟩ := zg_e he
    have hg24 := zin3 (n := 7) (by decide) hg25
    refine zg_z (zo_in (zo_sub rfl (zo_l 10)) hg24) ?_
    obtain ⟨rfl⟩ := zi1 he
    exact zs1 (zo_rd rfl (zo_sub rfl (zo_l 10)) hg24)
