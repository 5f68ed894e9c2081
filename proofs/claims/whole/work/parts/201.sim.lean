theorem s_X_corners {g_refused_allf : Nat → Int32} {g_refused_all : Nat → Int} {v_routes_cornerPricef : Int32} {v_routes_cornerPrice : Int} {v_routes_firstWaitingf : Int32} {v_routes_firstWaiting : Int} {v_routes_stepPricef : Int32} {v_routes_stepPrice : Int} {v_routes_waitingCountf : Int32} {v_routes_waitingCount : Int} {g_routes_isWaiting_allf : Nat → Int32} {g_routes_isWaiting_all : Nat → Int} {g_routes_label_allf : Nat → Int32} {g_routes_label_all : Nat → Int} {g_routes_toll_allf : Nat → Int32} {g_routes_toll_all : Nat → Int} {g_routes_waiting_allf : Nat → Int32} {g_routes_waiting_all : Nat → Int} {g_town_kinds_allf : Nat → Int32} {g_town_kinds_all : Nat → Int} {p1f : Int32} {p1 : Int} {p2f : Int32} {p2 : Int} {p3f : Int32} {p3 : Int} {R0 : Int} {R1 : Nat → Int} {R2 : Int} {R3 : Int} {R4 : Int} {R5 : Int} {R6 : Nat → Int} {R7 : Nat → Int} {R8 : Nat → Int} {R9 : Nat → Int} (eg_refused_all : g_refused_allf = zoA g_refused_all) (ev_routes_cornerPrice : v_routes_cornerPricef = zo v_routes_cornerPrice) (ev_routes_firstWaiting : v_routes_firstWaitingf = zo v_routes_firstWaiting) (ev_routes_stepPrice : v_routes_stepPricef = zo v_routes_stepPrice) (ev_routes_waitingCount : v_routes_waitingCountf = zo v_routes_waitingCount) (eg_routes_isWaiting_all : g_routes_isWaiting_allf = zoA g_routes_isWaiting_all) (eg_routes_label_all : g_routes_label_allf = zoA g_routes_label_all) (eg_routes_toll_all : g_routes_toll_allf = zoA g_routes_toll_all) (eg_routes_waiting_all : g_routes_waiting_allf = zoA g_routes_waiting_all) (eg_town_kinds_all : g_town_kinds_allf = zoA g_town_kinds_all) (ep1 : p1f = zo p1) (ep2 : p2f = zo p2) (ep3 : p3f = zo p3) (he : g_X_corners g_refused_all v_routes_cornerPrice v_routes_firstWaiting v_routes_stepPrice v_routes_waitingCount g_routes_isWaiting_all g_routes_label_all g_routes_toll_all g_routes_waiting_all g_town_kinds_all p1 p2 p3 = some (R0, R1, R2, R3, R4, R5, R6, R7, R8, R9)) : f_X_corners g_refused_allf v_routes_cornerPricef v_routes_firstWaitingf v_routes_stepPricef v_routes_waitingCountf g_routes_isWaiting_allf g_routes_label_allf g_routes_toll_allf g_routes_waiting_allf g_town_kinds_allf p1f p2f p3f = some (zo R0, zoA R1, zo R2, zo R3, zo R4, zo R5, zoA R6, zoA R7, zoA R8, zoA R9) := by
  subst eg_refused_all
  subst ev_routes_cornerPrice
  subst ev_routes_firstWaiting
  subst ev_routes_stepPrice
  subst ev_routes_waitingCount
  subst eg_routes_isWaiting_all
  subst eg_routes_label_all
  subst eg_routes_toll_all
  subst eg_routes_waiting_all
  subst eg_town_kinds_all
  subst ep1
  subst ep2
  subst ep3
  unfold g_X_corners at he
  unfold f_X_corners
  obtain ⟨r1, hb1, he⟩ := zb1_e he
  refine (zb1_s (s_X_isSquare rfl hb1)).trans ?_
  refine zj1_z (m1 := id) he (fun _ he => ?_) (fun k6f k6 hk6 he => ?_)
  · obtain ⟨r3, g_refused_all_4, hb2, he⟩ := zb2_e he
    refine (zb2_s (s_X_refuse rfl (zo_ln 1) hb2)).trans ?_
    obtain ⟨rfl, rfl, rfl, rfl, rfl, rfl, rfl, rfl, rfl, rfl⟩ := zi10 he
    exact zs10 rfl rfl rfl rfl rfl rfl rfl rfl rfl rfl
  obtain ⟨hn3, he⟩ := zg_e he
  by_cases c4 : r1 = (0 : Int)
  · have he := zif_t c4 he
    refine zif_p ((zo_eq rfl (zo_l 0) hn3 (by decide)).mpr c4) ?_
    exact zk1 hk6 rfl he
  · have he := zif_f c4 he
    refine zif_n (fun q => c4 ((zo_eq rfl (zo_l 0) hn3 (by decide)).mp q)) ?_
    obtain ⟨r8, hb5, he⟩ := zb1_e he
    refine (zb1_s (s_X_isSquare rfl hb5)).trans ?_
    obtain ⟨hn6, he⟩ := zg_e he
    by_cases c7 : r8 = (0 : Int)
    · have he := zif_t c7 he
      refine zif_p ((zo_eq rfl (zo_l 0) hn6 (by decide)).mpr c7) ?_
      exact zk1 hk6 rfl he
    · have he := zif_f c7 he
      refine zif_n (fun q => c7 ((zo_eq rfl (zo_l 0) hn6 (by decide)).mp q)) ?_
      refine zj1_z (m1 := id) he (fun _ he => ?_) (fun k14f k14 hk14 he => ?_)
      · obtain ⟨r11, g_refused_all_12, hb8, he⟩ := zb2_e he
        refine (zb2_s (s_X_refuse rfl (zo_ln 2) hb8)).trans ?_
        obtain ⟨rfl, rfl, rfl, rfl, rfl, rfl, rfl, rfl, rfl, rfl⟩ := zi10 he
        exact zs10 rfl rfl rfl rfl rfl rfl rfl rfl rfl rfl
      obtain ⟨hn9, he⟩ := zg_e he
      by_cases c10 : p3 < (0 : Int)
      · have he := zif_t c10 he
        refine zif_p ((zo_lt rfl (zo_l 0) hn9 (by decide)).mpr c10) ?_
        exact zk1 hk14 rfl he
      · have he := zif_f c10 he
        refine zif_n (fun q => c10 ((zo_lt rfl (zo_l 0) hn9 (by decide)).mp q)) ?_
        by_cases c11 : p3 ≤ (2 : Int)
        · have he := zif_t c11 he
          refine zif_p ((zo_le rfl (zo_l 2) hn9 (by decide)).mpr c11) ?_
          obtain ⟨v_routes_cornerPrice_17, v_routes_stepPrice_18, g_routes_toll_all_19, hb12, he⟩ := zb3_e he
          refine (zb3_s (s_Routes_chargeCorners rfl rfl rfl hb12)).trans ?_
          obtain ⟨r21, v_routes_firstWaiting_22, v_routes_waitingCount_23, g_routes_isWaiting_all_24, g_routes_label_all_25, g_routes_waiting_all_26, hb13, he⟩ := zb6_e he
          refine (zb6_s (s_Routes_cheapest rfl rfl rfl rfl rfl rfl rfl rfl rfl rfl rfl hb13)).trans ?_
          obtain ⟨hn14, he⟩ := zg_e he
          by_cases c15 : r21 = (-9 : Int)
          · have he := zif_t c15 he
            refine zif_p ((zo_eq rfl (zo_ln 9) hn14 (by decide)).mpr c15) ?_
            obtain ⟨rfl, rfl, rfl, rfl, rfl, rfl, rfl, rfl, rfl, rfl⟩ := zi10 he
            exact zs10 (zo_ln 9) rfl rfl rfl rfl rfl rfl rfl rfl rfl
          · have he := zif_f c15 he
            refine zif_n (fun q => c15 ((zo_eq rfl (zo_ln 9) hn14 (by decide)).mp q)) ?_
            by_cases c16 : p3 = (0 : Int)
            · have he := zif_t c16 he
              refine zif_p ((zo_eq rfl (zo_l 0) hn9 (by decide)).mpr c16) ?_
              obtain ⟨r36, hb17, he⟩ := zb1_e he
              refine (zb1_s (s_Routes_cornersOf rfl hb17)).trans ?_
              obtain ⟨rfl, rfl, rfl, rfl, rfl, rfl, rfl, rfl, rfl, rfl⟩ := zi10 he
              exact zs10 rfl rfl rfl rfl rfl rfl rfl rfl rfl rfl
            · have he := zif_f c16 he
              refine zif_n (fun q => c16 ((zo_eq rfl (zo_l 0) hn9 (by decide)).mp q)) ?_
              by_cases c18 : p3 = (1 : Int)
              · have he := zif_t c18 he
                refine zif_p ((zo_eq rfl (zo_l 1) hn9 (by decide)).mpr c18) ?_
                obtain ⟨r34, hb19, he⟩ := zb1_e he
                refine (zb1_s (s_Routes_stepsOf rfl hb19)).trans ?_
                obtain ⟨rfl, rfl, rfl, rfl, rfl, rfl, rfl, rfl, rfl, rfl⟩ := zi10 he
                exact zs10 rfl rfl rfl rfl rfl rfl rfl rfl rfl rfl
              · have he := zif_f c18 he
                refine zif_n (fun q => c18 ((zo_eq rfl (zo_l 1) hn9 (by decide)).mp q)) ?_
                obtain ⟨hn20, he⟩ := zg_e he
                obtain ⟨hn21, he⟩ := zg_e he
                by_cases c22 : p1 = p2
                · have he := zif_t c22 he
                  refine zif_p ((zo_eq rfl rfl hn20 hn21).mpr c22) ?_
                  obtain ⟨rfl, rfl, rfl, rfl, rfl, rfl, rfl, rfl, rfl, rfl⟩ := zi10 he
                  exact zs10 (zo_ln 9) rfl rfl rfl rfl rfl rfl rfl rfl rfl
                · have he := zif_f c22 he
                  refine zif_n (fun q => c22 ((zo_eq rfl rfl hn20 hn21).mp q)) ?_
                  obtain ⟨r32, hb23, he⟩ := zb1_e he
                  refine (zb1_s (s_Routes_firstWayOf rfl hb23)).trans ?_
                  obtain ⟨rfl, rfl, rfl, rfl, rfl, rfl, rfl, rfl, rfl, rfl⟩ := zi10 he
                  exact zs10 rfl rfl rfl rfl rfl rfl rfl rfl rfl rfl
        · have he := zif_f c11 he
          refine zif_n (fun q => c11 ((zo_le rfl (zo_l 2) hn9 (by decide)).mp q)) ?_
          exact zk1 hk14 rfl he
theorem s_Routes_chargeFines {v_cornerPricef : Int32} {v_cornerPrice : Int} {v_stepPricef : Int32} {v_stepPrice : Int} {g_toll_allf : Nat → Int32} {g_toll_all : Nat → Int} {v_town_finef : Int32} {v_town_fine : Int} {g_town_kinds_allf : Nat → Int32} {g_town_kinds_all : Nat → Int} {R0 : Int} {R1 : Int} {R2 : Nat → Int} (ev_cornerPrice : v_cornerPricef = zo v_cornerPrice) (ev_stepPrice : v_stepPricef = zo v_stepPrice) (eg_toll_all : g_toll_allf = zoA g_toll_all) (ev_town_fine : v_town_finef = zo v_town_fine) (eg_town_kinds_all : g_town_kinds_allf = zoA g_town_kinds_all) (he : g_Routes_chargeFines v_cornerPrice v_stepPrice g_toll_all v_town_fine g_town_kinds_all = some (R0, R1, R2)) : f_Routes_chargeFines v_cornerPricef v_stepPricef g_toll_allf v_town_finef g_town_kinds_allf = some (zo R0, zo R1, zoA R2) := by
  subst ev_cornerPrice
  subst ev_stepPrice
  subst eg_toll_all
  subst ev_town_fine
  subst eg_town_kinds_all
  unfold g_Routes_chargeFines at he
  unfold f_Routes_chargeFines
  refine zj1_z (m1 := zoA) he (fun g_toll_all_1 he => ?_) (fun k2f k2 hk2 he => ?_)
  · obtain ⟨rfl, rfl, rfl⟩ := zi3 he
    exact zs3 (zo_l 0) (zo_l 0) rfl
  refine zl2_z (m1 := zo) (m2 := zoA) (zo_l 0) rfl he (fun l1_3 g_toll_all_4 again5f again5 hagain5 he => ?_)
  obtain ⟨hn1, he⟩ := zg_e he
  by_cases c2 : (36 : Int) ≤ l1_3
  · have he := zif_t c2 he
    refine zif_p ((zo_le (zo_l 36) rfl (by decide) hn1).mpr c2) ?_
    exact zk1 hk2 rfl he
  · have he := zif_f c2 he
    refine zif_n (fun q => c2 ((zo_le (zo_l 36) rfl (by decide) hn1).mp q)) ?_
    obtain ⟨r7, hb3, he⟩ := zb1_e he
    refine (zb1_s (s_Town_fineOn rfl rfl rfl hb3)).trans ?_
    obtain ⟨g_toll_all_9, hb4, he⟩ := zb1_e he
    refine (zb1_s (s_Numbers_put rfl rfl rfl hb4)).trans ?_
    obtain ⟨x11, hx5⟩ : ∃ y : Int, y = l1_3 + (1 : Int) := ⟨_, rfl⟩
    have he := zn_e hx5 he
    refine zn_z (y := zo x11) ((zo_add rfl (zo_l 1)).trans (congrArg zo hx5.symm)) ?_
    exact zk2 hagain5 rfl rfl he
theorem s_Routes_priceOf {p0f : Int32} {p0 : Int} {R0 : Int} (ep0 : p0f = zo p0) (he : g_Routes_priceOf p0 = some (R0)) : f_Routes_priceOf p0f = some (zo R0) := by
  subst ep0
  unfold g_Routes_priceOf at he
  unfold f_Routes_priceOf
  obtain ⟨hn1, he⟩ := zg_e he
  by_cases c2 : p0 = (-9 : Int)
  · have he := zif_t c2 he
    refine zif_p ((zo_eq rfl (zo_ln 9) hn1 (by decide)).mpr c2) ?_
    obtain ⟨rfl⟩ := zi1 he
    exact zs1 (zo_ln 9)
  · have he := zif_f c2 he
    refine zif_n (fun q => c2 ((zo_eq rfl (zo_ln 9) hn1 (by decide)).mp q)) ?_
    obtain ⟨hn3, he⟩ := zg_e he
    obtain ⟨rfl⟩ := zi1 he
    exact zs1 (zo_div rfl (zo_l 4) hn3 (by decide))
theorem s_X_fines {g_refused_allf : Nat → Int32} {g_refused_all : Nat → Int} {v_routes_cornerPricef : Int32} {v_routes_cornerPrice : Int} {v_routes_firstWaitingf : Int32} {v_routes_firstWaiting : Int} {v_routes_stepPricef : Int32} {v_routes_stepPrice : Int} {v_routes_waitingCountf : Int32} {v_routes_waitingCount : Int} {g_routes_isWaiting_allf : Nat → Int32} {g_routes_isWaiting_all : Nat → Int} {g_routes_label_allf : Nat → Int32} {g_routes_label_all : Nat → Int} {g_routes_toll_allf : Nat → Int32} {g_routes_toll_all : Nat → Int} {g_routes_waiting_allf : Nat → Int32} {g_routes_waiting_all : Nat → Int} {v_town_finef : Int32} {v_town_fine : Int} {g_town_kinds_allf : Nat → Int32} {g_town_kinds_all : Nat → Int} {p1f : Int32} {p1 : Int} {p2f : Int32} {p2 : Int} {R0 : Int} {R1 : Nat → Int} {R2 : Int} {R3 : Int} {R4 : Int} {R5 : Int} {R6 : Nat → Int} {R7 : Nat → Int} {R8 : Nat → Int} {R9 : Nat → Int} (eg_refused_all : g_refused_allf = zoA g_refused_all) (ev_routes_cornerPrice : v_routes_cornerPricef = zo v_routes_cornerPrice) (ev_routes_firstWaiting : v_routes_firstWaitingf = zo v_routes_firstWaiting) (ev_routes_stepPrice : v_routes_stepPricef = zo v_routes_stepPrice) (ev_routes_waitingCount : v_routes_waitingCountf = zo v_routes_waitingCount) (eg_routes_isWaiting_all : g_routes_isWaiting_allf = zoA g_routes_isWaiting_all) (eg_routes_label_all : g_routes_label_allf = zoA g_routes_label_all) (eg_routes_toll_all : g_routes_toll_allf = zoA g_routes_toll_all) (eg_routes_waiting_all : g_routes_waiting_allf = zoA g_routes_waiting_all) (ev_town_fine : v_town_finef = zo v_town_fine) (eg_town_kinds_all : g_town_kinds_allf = zoA g_town_kinds_all) (ep1 : p1f = zo p1) (ep2 : p2f = zo p2) (he : g_X_fines g_refused_all v_routes_cornerPrice v_routes_firstWaiting v_routes_stepPrice v_routes_waitingCount g_routes_isWaiting_all g_routes_label_all g_routes_toll_all g_routes_waiting_all v_town_fine g_town_kinds_all p1 p2 = some (R0, R1, R2, R3, R4, R5, R6, R7, R8, R9)) : f_X_fines g_refused_allf v_routes_cornerPricef v_routes_firstWaitingf v_routes_stepPricef v_routes_waitingCountf g_routes_isWaiting_allf g_routes_label_allf g_routes_toll_allf g_routes_waiting_allf v_town_finef g_town_kinds_allf p1f p2f = some (zo R0, zoA R1, zo R2, zo R3, zo R4, zo R5, zoA R6, zoA R7, zoA R8, zoA R9) := by
  subst eg_refused_all
  subst ev_routes_cornerPrice
  subst ev_routes_firstWaiting
  subst ev_routes_stepPrice
  subst ev_routes_waitingCount
  subst eg_routes_isWaiting_all
  subst eg_routes_label_all
  subst eg_routes_toll_all
  subst eg_routes_waiting_all
  subst ev_town_fine
  subst eg_town_kinds_all
  subst ep1
  subst ep2
  unfold g_X_fines at he
  unfold f_X_fines
  obtain ⟨r1, hb1, he⟩ := zb1_e he
  refine (zb1_s (s_X_isSquare rfl hb1)).trans ?_
  refine zj1_z (m1 := id) he (fun _ he => ?_) (fun k6f k6 hk6 he => ?_)
  · obtain ⟨r3, g_refused_all_4, hb2, he⟩ := zb2_e he
    refine (zb2_s (s_X_refuse rfl (zo_ln 1) hb2)).trans ?_
    obtain ⟨rfl, rfl, rfl, rfl, rfl, rfl, rfl, rfl, rfl, rfl⟩ := zi10 he
    exact zs10 rfl rfl rfl rfl rfl rfl rfl rfl rfl rfl
  obtain ⟨hn3, he⟩ := zg_e he
  by_cases c4 : r1 = (0 : Int)
  · have he := zif_t c4 he
    refine zif_p ((zo_eq rfl (zo_l 0) hn3 (by decide)).mpr c4) ?_
    exact zk1 hk6 rfl he
  · have he := zif_f c4 he
    refine zif_n (fun q => c4 ((zo_eq rfl (zo_l 0) hn3 (by decide)).mp q)) ?_
    obtain ⟨r8, hb5, he⟩ := zb1_e he
    refine (zb1_s (s_X_isSquare rfl hb5)).trans ?_
    obtain ⟨hn6, he⟩ := zg_e he
    by_cases c7 : r8 = (0 : Int)
    · have he := zif_t c7 he
      refine zif_p ((zo_eq rfl (zo_l 0) hn6 (by decide)).mpr c7) ?_
      exact zk1 hk6 rfl he
    · have he := zif_f c7 he
      refine zif_n (fun q => c7 ((zo_eq rfl (zo_l 0) hn6 (by decide)).mp q)) ?_
      obtain ⟨v_routes_cornerPrice_11, v_routes_stepPrice_12, g_routes_toll_all_13, hb8, he⟩ := zb3_e he
      refine (zb3_s (s_Routes_chargeFines rfl rfl rfl rfl rfl hb8)).trans ?_
      obtain ⟨r15, v_routes_firstWaiting_16, v_routes_waitingCount_17, g_routes_isWaiting_all_18, g_routes_label_all_19, g_routes_waiting_all_20, hb9, he⟩ := zb6_e he
      refine (zb6_s (s_Routes_cheapest rfl rfl rfl rfl rfl rfl rfl rfl rfl rfl rfl hb9)).trans ?_
      obtain ⟨hn10, he⟩ := zg_e he
      by_cases c11 : r15 = (-9 : Int)
      · have he := zif_t c11 he
        refine zif_p ((zo_eq rfl (zo_ln 9) hn10 (by decide)).mpr c11) ?_
        obtain ⟨rfl, rfl, rfl, rfl, rfl, rfl, rfl, rfl, rfl, rfl⟩ := zi10 he
        exact zs10 (zo_ln 9) rfl rfl rfl rfl rfl rfl rfl rfl rfl
      · have he := zif_f c11 he
        refine zif_n (fun q => c11 ((zo_eq rfl (zo_ln 9) hn10 (by decide)).mp q)) ?_
        obtain ⟨r23, hb12, he⟩ := zb1_e he
        refine (zb1_s (s_Routes_priceOf rfl hb12)).trans ?_
        obtain ⟨r25, hb13, he⟩ := zb1_e he
        refine (zb1_s (s_Town_fineOn rfl rfl rfl hb13)).trans ?_
        obtain ⟨rfl, rfl, rfl, rfl, rfl, rfl, rfl, rfl, rfl, rfl⟩ := zi10 he
        exact zs10 (zo_add rfl rfl) rfl rfl rfl rfl rfl rfl rfl rfl rfl
theorem s_Town_straightFrom {g_kinds_allf : Nat → Int32} {g_kinds_all : Nat → Int} {p1f : Int32} {p1 : Int} {p2f : Int32} {p2 : Int} {R0 : Int} (eg_kinds_all : g_kinds_allf = zoA g_kinds_all) (ep1 : p1f = zo p1) (ep2 : p2f = zo p2) (he : g_Town_straightFrom g_kinds_all p1 p2 = some (R0)) : f_Town_straightFrom g_kinds_allf p1f p2f = some (zo R0) := by
  subst eg_kinds_all
  subst ep1
  subst ep2
  unfold g_Town_straightFrom at he
  unfold f_Town_straightFrom
  obtain ⟨r1, hb1, he⟩ := zb1_e he
  refine (zb1_s (s_Town_canBe rfl rfl hb1)).trans ?_
  obtain ⟨hn2, he⟩ := zg_e he
  by_cases c3 : r1 = (0 : Int)
  · have he := zif_t c3 he
    refine zif_p ((zo_eq rfl (zo_l 0) hn2 (by decide)).mpr c3) ?_
    obtain ⟨rfl⟩ := zi1 he
    exact zs1 (zo_l 0)
  · have he := zif_f c3 he
    refine zif_n (fun q => c3 ((zo_eq rfl (zo_l 0) hn2 (by decide)).mp q)) ?_
    obtain ⟨r4, hb4, he⟩ := zb1_e he
    refine (zb1_s (s_Town_next rfl rfl rfl hb4)).trans ?_
    refine zl3_z (m1 := zo) (m2 := zo) (m3 := zo) (zo_l 0) rfl (zo_l 0) he (fun l3_6 l4_7 l5_8 again9f again9 hagain9 he => ?_)
    obtain ⟨hn5, he⟩ := zg_e he
    by_cases c6 : (6 : Int) ≤ l5_8
    · have he := zif_t c6 he
      refine zif_p ((zo_le (zo_l 6) rfl (by decide) hn5).mpr c6) ?_
      obtain ⟨rfl⟩ := zi1 he
      exact zs1 rfl
    · have he := zif_f c6 he
      refine zif_n (fun q => c6 ((zo_le (zo_l 6) rfl (by decide) hn5).mp q)) ?_
      obtain ⟨hn7, he⟩ := zg_e he
      by_cases c8 : l4_7 = (-1 : Int)
      · have he := zif_t c8 he
        refine zif_p ((zo_eq rfl (zo_ln 1) hn7 (by decide)).mpr c8) ?_
        obtain ⟨rfl⟩ := zi1 he
        exact zs1 rfl
      · have he := zif_f c8 he
        refine zif_n (fun q => c8 ((zo_eq rfl (zo_ln 1) hn7 (by decide)).mp q)) ?_
        obtain ⟨x12, hx9⟩ : ∃ y : Int, y = l3_6 + (1 : Int) := ⟨_, rfl⟩
        have he := zn_e hx9 he
        refine zn_z (y := zo x12) ((zo_add rfl (zo_l 1)).trans (congrArg zo hx9.symm)) ?_
        obtain ⟨r13, hb10, he⟩ := zb1_e he
        refine (zb1_s (s_Town_next rfl rfl rfl hb10)).trans ?_
        obtain ⟨x15, hx11⟩ : ∃ y : Int, y = l5_8 + (1 : Int) := ⟨_, rfl⟩
        have he := zn_e hx11 he
        refine zn_z (y := zo x15) ((zo_add rfl (zo_l 1)).trans (congrArg zo hx11.symm)) ?_
        exact zk3 hagain9 rfl rfl rfl he
theorem s_X_straight {g_refused_allf : Nat → Int32} {g_refused_all : Nat → Int} {g_town_kinds_allf : Nat → Int32} {g_town_kinds_all : Nat → Int} {p1f : Int32} {p1 : Int} {p2f : Int32} {p2 : Int} {R0 : Int} {R1 : Nat → Int} (eg_refused_all : g_refused_allf = zoA g_refused_all) (eg_town_kinds_all : g_town_kinds_allf = zoA g_town_kinds_all) (ep1 : p1f = zo p1) (ep2 : p2f = zo p2) (he : g_X_straight g_refused_all g_town_kinds_all p1 p2 = some (R0, R1)) : f_X_straight g_refused_allf g_town_kinds_allf p1f p2f = some (zo R0, zoA R1) := by
  subst eg_refused_all
  subst eg_town_kinds_all
  subst ep1
  subst ep2
  unfold g_X_straight at he
  unfold f_X_straight
  obtain ⟨r1, hb1, he⟩ := zb1_e he
  refine (zb1_s (s_X_isSquare rfl hb1)).trans ?_
  obtain ⟨hn2, he⟩ := zg_e he
  by_cases c3 : r1 = (0 : Int)
  · have he := zif_t c3 he
    refine zif_p ((zo_eq rfl (zo_l 0) hn2 (by decide)).mpr c3) ?_
    obtain ⟨r12, g_refused_all_13, hb4, he⟩ := zb2_e he
    refine (zb2_s (s_X_refuse rfl (zo_ln 1) hb4)).trans ?_
    obtain ⟨rfl, rfl⟩ := zi2 he
    exact zs2 rfl rfl
  · have he := zif_f c3 he
    refine zif_n (fun q => c3 ((zo_eq rfl (zo_l 0) hn2 (by decide)).mp q)) ?_
    refine zj1_z (m1 := id) he (fun _ he => ?_) (fun k7f k7 hk7 he => ?_)
    · obtain ⟨r4, g_refused_all_5, hb5, he⟩ := zb2_e he
      refine (zb2_s (s_X_refuse rfl (zo_ln 2) hb5)).trans ?_
      obtain ⟨rfl, rfl⟩ := zi2 he
      exact zs2 rfl rfl
    obtain ⟨hn6, he⟩ := zg_e he
    by_cases c7 : p2 < (0 : Int)
    · have he := zif_t c7 he
      refine zif_p ((zo_lt rfl (zo_l 0) hn6 (by decide)).mpr c7) ?_
      exact zk1 hk7 rfl he
    · have he := zif_f c7 he
      refine zif_n (fun q => c7 ((zo_lt rfl (zo_l 0) hn6 (by decide)).mp q)) ?_
      by_cases c8 : p2 < (4 : Int)
      · have he := zif_t c8 he
        refine zif_p ((zo_lt rfl (zo_l 4) hn6 (by decide)).mpr c8) ?_
        obtain ⟨r10, hb9, he⟩ := zb1_e he
        refine (zb1_s (s_Town_straightFrom rfl rfl rfl hb9)).trans ?_
        obtain ⟨rfl, rfl⟩ := zi2 he
        exact zs2 rfl rfl
      · have he := zif_f c8 he
        refine zif_n (fun q => c8 ((zo_lt rfl (zo_l 4) hn6 (by decide)).mp q)) ?_
        exact zk1 hk7 rfl he
theorem s_X_longest {g_refused_allf : Nat → Int32} {g_refused_all : Nat → Int} {g_town_kinds_allf : Nat → Int32} {g_town_kinds_all : Nat → Int} {p1f : Int32} {p1 : Int} {R0 : Int} {R1 : Nat → Int} (eg_refused_all : g_refused_allf = zoA g_refused_all) (eg_town_kinds_all : g_town_kinds_allf = zoA g_town_kinds_all) (ep1 : p1f = zo p1) (he : g_X_longest g_refused_all g_town_kinds_all p1 = some (R0, R1)) : f_X_longest g_refused_allf g_town_kinds_allf p1f = some (zo R0, zoA R1) := by
  subst eg_refused_all
  subst eg_town_kinds_all
  subst ep1
  unfold g_X_longest at he
  unfold f_X_longest
  refine zj1_z (m1 := id) he (fun _ he => ?_) (fun k4f k4 hk4 he => ?_)
  · obtain ⟨r1, g_refused_all_2, hb1, he⟩ := zb2_e he
    refine (zb2_s (s_X_refuse rfl (zo_ln 2) hb1)).trans ?_
    obtain ⟨rfl, rfl⟩ := zi2 he
    exact zs2 rfl rfl
  obtain ⟨hn2, he⟩ := zg_e he
  by_cases c3 : p1 < (0 : Int)
  · have he := zif_t c3 he
    refine zif_p ((zo_lt rfl (zo_l 0) hn2 (by decide)).mpr c3) ?_
    exact zk1 hk4 rfl he
  · have he := zif_f c3 he
    refine zif_n (fun q => c3 ((zo_lt rfl (zo_l 0) hn2 (by decide)).mp q)) ?_
    by_cases c4 : p1 ≤ (1 : Int)
    · have he := zif_t c4 he
      refine zif_p ((zo_le rfl (zo_l 1) hn2 (by decide)).mpr c4) ?_
      refine zj2_z (m1 := zo) (m2 := zo) he (fun l2_7 l3_8 he => ?_) (fun k10f k10 hk10 he => ?_)
      · by_cases c5 : p1 = (0 : Int)
        · have he := zif_t c5 he
          refine zif_p ((zo_eq rfl (zo_l 0) hn2 (by decide)).mpr c5) ?_
          obtain ⟨rfl, rfl⟩ := zi2 he
          exact zs2 rfl rfl
        · have he := zif_f c5 he
          refine zif_n (fun q => c5 ((zo_eq rfl (zo_l 0) hn2 (by decide)).mp q)) ?_
          obtain ⟨rfl, rfl⟩ := zi2 he
          exact zs2 rfl rfl
      refine zl3_z (m1 := zo) (m2 := zo) (m3 := zo) (zo_ln 9) (zo_ln 9) (zo_l 0) he (fun l2_11 l3_12 l4_13 again14f again14 hagain14 he => ?_)
      obtain ⟨hn6, he⟩ := zg_e he
      by_cases c7 : (36 : Int) ≤ l4_13
      · have he := zif_t c7 he
        refine zif_p ((zo_le (zo_l 36) rfl (by decide) hn6).mpr c7) ?_
        exact zk2 hk10 rfl rfl he
      · have he := zif_f c7 he
        refine zif_n (fun q => c7 ((zo_le (zo_l 36) rfl (by decide) hn6).mp q)) ?_
        refine zj2_z (m1 := zo) (m2 := zo) he (fun l2_16 l3_17 he => ?_) (fun k19f k19 hk19 he => ?_)
        · obtain ⟨x18, hx8⟩ : ∃ y : Int, y = l4_13 + (1 : Int) := ⟨_, rfl⟩
          have he := zn_e hx8 he
          refine zn_z (y := zo x18) ((zo_add rfl (zo_l 1)).trans (congrArg zo hx8.symm)) ?_
          exact zk3 hagain14 rfl rfl rfl he
        refine zl3_z (m1 := zo) (m2 := zo) (m3 := zo) rfl rfl (zo_l 0) he (fun l2_20 l3_21 l5_22 again23f again23 hagain23 he => ?_)
        obtain ⟨hn9, he⟩ := zg_e he
        by_cases c10 : (4 : Int) ≤ l5_22
        · have he := zif_t c10 he
          refine zif_p ((zo_le (zo_l 4) rfl (by decide) hn9).mpr c10) ?_
          exact zk2 hk19 rfl rfl he
        · have he := zif_f c10 he
          refine zif_n (fun q => c10 ((zo_le (zo_l 4) rfl (by decide) hn9).mp q)) ?_
          obtain ⟨r25, hb11, he⟩ := zb1_e he
          refine (zb1_s (s_Town_canBe rfl rfl hb11)).trans ?_
          obtain ⟨hn12, he⟩ := zg_e he
          by_cases c13 : r25 = (0 : Int)
          · have he := zif_t c13 he
            refine zif_p ((zo_eq rfl (zo_l 0) hn12 (by decide)).mpr c13) ?_
            exact zk2 hk19 rfl rfl he
          · have he := zif_f c13 he
            refine zif_n (fun q => c13 ((zo_eq rfl (zo_l 0) hn12 (by decide)).mp q)) ?_
            obtain ⟨r28, hb14, he⟩ := zb1_e he
            refine (zb1_s (s_Town_straightFrom rfl rfl rfl hb14)).trans ?_
            refine zj2_z (m1 := zo) (m2 := zo) he (fun l2_30 l3_31 he => ?_) (fun k33f k33 hk33 he => ?_)
            · obtain ⟨x32, hx15⟩ : ∃ y : Int, y = l5_22 + (1 : Int) := ⟨_, rfl⟩
              have he := zn_e hx15 he
              refine zn_z (y := zo x32) ((zo_add rfl (zo_l 1)).trans (congrArg zo hx15.symm)) ?_
              exact zk3 hagain23 rfl rfl rfl he
            obtain ⟨hn16, he⟩ := zg_e he
            obtain ⟨hn17, he⟩ := zg_e he
            by_cases c18 : r28 ≤ l2_20
            · have he := zif_t c18 he
              refine zif_p ((zo_le rfl rfl hn16 hn17).mpr c18) ?_
              exact zk2 hk33 rfl rfl he
            · have he := zif_f c18 he
              refine zif_n (fun q => c18 ((zo_le rfl rfl hn16 hn17).mp q)) ?_
              exact zk2 hk33 rfl rfl he
    · have he := zif_f c4 he
      refine zif_n (fun q => c4 ((zo_le rfl (zo_l 1) hn2 (by decide)).mp q)) ?_
      exact zk1 hk4 rfl he
theorem s_X_checkWithin {g_refused_allf : Nat → Int32} {g_refused_all : Nat → Int} {p1f : Int32} {p1 : Int} {p2f : Int32} {p2 : Int} {R0 : Int} {R1 : Nat → Int} (eg_refused_all : g_refused_allf = zoA g_refused_all) (ep1 : p1f = zo p1) (ep2 : p2f = zo p2) (he : g_X_checkWithin g_refused_all p1 p2 = some (R0, R1)) : f_X_checkWithin g_refused_allf p1f p2f = some (zo R0, zoA R1) := by
  subst eg_refused_all
  subst ep1
  subst ep2
  unfold g_X_checkWithin at he
  unfold f_X_checkWithin
  obtain ⟨r1, hb1, he⟩ := zb1_e he
  refine (zb1_s (s_X_isSquare rfl hb1)).trans ?_
  obtain ⟨hn2, he⟩ := zg_e he
  by_cases c3 : r1 = (0 : Int)
  · have he := zif_t c3 he
    refine zif_p ((zo_eq rfl (zo_l 0) hn2 (by decide)).mpr c3) ?_
    obtain ⟨r12, g_refused_all_13, hb4, he⟩ := zb2_e he
    refine (zb2_s (s_X_refuse rfl (zo_ln 1) hb4)).trans ?_
    obtain ⟨rfl, rfl⟩ := zi2 he
    exact zs2 rfl rfl
  · have he := zif_f c3 he
    refine zif_n (fun q => c3 ((zo_eq rfl (zo_l 0) hn2 (by decide)).mp q)) ?_
    obtain ⟨hn5, he⟩ := zg_e he
    by_cases c6 : (0 : Int) ≤ p2
    · have he := zif_t c6 he
      refine zif_p ((zo_le (zo_l 0) rfl (by decide) hn5).mpr c6) ?_
      by_cases c7 : p2 ≤ (20 : Int)
      · have he := zif_t c7 he
        refine zif_p ((zo_le rfl (zo_l 20) hn5 (by decide)).mpr c7) ?_
        obtain ⟨rfl, rfl⟩ := zi2 he
        exact zs2 (zo_l 0) rfl
      · have he := zif_f c7 he
        refine zif_n (fun q => c7 ((zo_le rfl (zo_l 20) hn5 (by decide)).mp q)) ?_
        obtain ⟨r6, g_refused_all_7, hb8, he⟩ := zb2_e he
        refine (zb2_s (s_X_refuse rfl (zo_ln 6) hb8)).trans ?_
        obtain ⟨rfl, rfl⟩ := zi2 he
        exact zs2 rfl rfl
    · have he := zif_f c6 he
      refine zif_n (fun q => c6 ((zo_le (zo_l 0) rfl (by decide) hn5).mp q)) ?_
      obtain ⟨r9, g_refused_all_10, hb9, he⟩ := zb2_e he
      refine (zb2_s (s_X_refuse rfl (zo_ln 4) hb9)).trans ?_
      obtain ⟨rfl, rfl⟩ := zi2 he
      exact zs2 rfl rfl
theorem s_Talks_hush {g_isHushed_allf : Nat → Int32} {g_isHushed_all : Nat → Int} {g_town_kinds_allf : Nat → Int32} {g_town_kinds_all : Nat → Int} {p1f : Int32} {p1 : Int} {R0 : Nat → Int} (eg_isHushed_all : g_isHushed_allf = zoA g_isHushed_all) (eg_town_kinds_all : g_town_kinds_allf = zoA g_town_kinds_all) (ep1 : p1f = zo p1) (he : g_Talks_hush g_isHushed_all g_town_kinds_all p1 = some (R0)) : f_Talks_hush g_isHushed_allf g_town_kinds_allf p1f = some (zoA R0) := by
  subst eg_isHushed_all
  subst eg_town_kinds_all
  subst ep1
  unfold g_Talks_hush at he
  unfold f_Talks_hush
  refine zl2_z (m1 := zo) (m2 := zoA) (zo_l 0) rfl he (fun l2_1 g_isHushed_all_2 again3f again3 hagain3 he => ?_)
  obtain ⟨hn1, he⟩ := zg_e he
  by_cases c2 : (36 : Int) ≤ l2_1
  · have he := zif_t c2 he
    refine zif_p ((zo_le (zo_l 36) rfl (by decide) hn1).mpr c2) ?_
    obtain ⟨rfl⟩ := zi1 he
    exact zs1 rfl
  · have he := zif_f c2 he
    refine zif_n (fun q => c2 ((zo_le (zo_l 36) rfl (by decide) hn1).mp q)) ?_
    refine zj1_z (m1 := zo) he (fun s5 he => ?_) (fun k12f k12 hk12 he => ?_)
    · refine zj1_z (m1 := zo) he (fun s6 he => ?_) (fun k10f k10 hk10 he => ?_)
      · obtain ⟨g_isHushed_all_7, hb3, he⟩ := zb1_e he
        refine (zb1_s (s_Numbers_put rfl rfl rfl hb3)).trans ?_
        obtain ⟨x9, hx4⟩ : ∃ y : Int, y = l2_1 + (1 : Int) := ⟨_, rfl⟩
        have he := zn_e hx4 he
        refine zn_z (y := zo x9) ((zo_add rfl (zo_l 1)).trans (congrArg zo hx4.symm)) ?_
        exact zk2 hagain3 rfl rfl he
      obtain ⟨hn5, he⟩ := zg_e he
      by_cases c6 : s5 = (0 : Int)
      · have he := zif_t c6 he
        refine zif_p ((zo_eq rfl (zo_l 0) hn5 (by decide)).mpr c6) ?_
        exact zk1 hk10 (zo_l 0) he
      · have he := zif_f c6 he
        refine zif_n (fun q => c6 ((zo_eq rfl (zo_l 0) hn5 (by decide)).mp q)) ?_
        exact zk1 hk10 (zo_l 1) he
    refine zj1_z (m1 := id) he (fun _ he => ?_) (fun k13f k13 hk13 he => ?_)
    · exact zk1 hk12 (zo_l 0) he
    obtain ⟨hn7, he⟩ := zg_e he
    by_cases c8 : p1 = (0 : Int)
    · have he := zif_t c8 he
      refine zif_p ((zo_eq rfl (zo_l 0) hn7 (by decide)).mpr c8) ?_
      exact zk1 hk13 rfl he
    · have he := zif_f c8 he
      refine zif_n (fun q => c8 ((zo_eq rfl (zo_l 0) hn7 (by decide)).mp q)) ?_
      obtain ⟨r15, hb9, he⟩ := zb1_e he
      refine (zb1_s (s_Town_wordsOn rfl rfl hb9)).trans ?_
      obtain ⟨hn10, he⟩ := zg_e he
      by_cases c11 : r15 ≤ (0 : Int)
      · have he := zif_t c11 he
        refine zif_p ((zo_le rfl (zo_l 0) hn10 (by decide)).mpr c11) ?_
        exact zk1 hk13 rfl he
      · have he := zif_f c11 he
        refine zif_n (fun q => c11 ((zo_le rfl (zo_l 0) hn10 (by decide)).mp q)) ?_
        obtain ⟨r18, hb12, he⟩ := zb1_e he
        refine (zb1_s (s_Town_heardBy rfl rfl hb12)).trans ?_
        obtain ⟨hn13, he⟩ := zg_e he
        by_cases c14 : r18 ≤ (0 : Int)
        · have he := zif_t c14 he
          refine zif_p ((zo_le rfl (zo_l 0) hn13 (by decide)).mpr c14) ?_
          exact zk1 hk13 rfl he
        · have he := zif_f c14 he
          refine zif_n (fun q => c14 ((zo_le rfl (zo_l 0) hn13 (by decide)).mp q)) ?_
          exact zk1 hk12 (zo_l 1) he
theorem s_Talks_begin {g_now_allf : Nat → Int32} {g_now_all : Nat → Int} {g_town_kinds_allf : Nat → Int32} {g_town_kinds_all : Nat → Int} {p1f : Int32} {p1 : Int} {R0 : Int} {R1 : Nat → Int} (eg_now_all : g_now_allf = zoA g_now_all) (eg_town_kinds_all : g_town_kinds_allf = zoA g_town_kinds_all) (ep1 : p1f = zo p1) (he : g_Talks_begin g_now_all g_town_kinds_all p1 = some (R0, R1)) : f_Talks_begin g_now_allf g_town_kinds_allf p1f = some (zo R0, zoA R1) := by
  subst eg_now_all
  subst eg_town_kinds_all
  subst ep1
  unfold g_Talks_begin at he
  unfold f_Talks_begin
  obtain ⟨g_now_all_1, hb1, he⟩ := zb1_e he
  refine (zb1_s (s_Numbers_fill rfl (zo_ln 1) hb1)).trans ?_
  obtain ⟨g_now_all_3, hb2, he⟩ := zb1_e he
  refine (zb1_s (s_Numbers_put rfl (zo_add (zo_mul rfl (zo_l 5)) (zo_l 4)) (zo_l 0) hb2)).trans ?_
  obtain ⟨r5, hb3, he⟩ := zb1_e he
  refine (zb1_s (s_Town_canBe rfl rfl hb3)).trans ?_
  obtain ⟨hg4, he⟩ := zg_e he
  refine zg_z (zo_bool rfl hg4) ?_
  obtain ⟨rfl, rfl⟩ := zi2 he
  exact zs2 rfl rfl
theorem s_Talks_mostAtEnd {g_isHushed_allf : Nat → Int32} {g_isHushed_all : Nat → Int} {g_now_allf : Nat → Int32} {g_now_all : Nat → Int} {g_town_kinds_allf : Nat → Int32} {g_town_kinds_all : Nat → Int} {R0 : Int} (eg_isHushed_all : g_isHushed_allf = zoA g_isHushed_all) (eg_now_all : g_now_allf = zoA g_now_all) (eg_town_kinds_all : g_town_kinds_allf = zoA g_town_kinds_all) (he : g_Talks_mostAtEnd g_isHushed_all g_now_all g_town_kinds_all = some (R0)) : f_Talks_mostAtEnd g_isHushed_allf g_now_allf g_town_kinds_allf = some (zo R0) := by
  subst eg_isHushed_all
  subst eg_now_all
  subst eg_town_kinds_all
  unfold g_Talks_mostAtEnd at he
  unfold f_Talks_mostAtEnd
  refine zl2_z (m1 := zo) (m2 := zo) (zo_ln 1) (zo_l 0) he (fun l1_1 l2_2 again3f again3 hagain3 he => ?_)
  obtain ⟨hn1, he⟩ := zg_e he
  by_cases c2 : (180 : Int) ≤ l2_2
  · have he := zif_t c2 he
    refine zif_p ((zo_le (zo_l 180) rfl (by decide) hn1).mpr c2) ?_
    obtain ⟨rfl⟩ := zi1 he
    exact zs1 rfl
  · have he := zif_f c2 he
    refine zif_n (fun q => c2 ((zo_le (zo_l 180) rfl (by decide) hn1).mp q)) ?_
    obtain ⟨hn3, he⟩ := zg_e he
    obtain ⟨x5, hx4⟩ : ∃ y : Int, y = l2_2 / (5 : Int) := ⟨_, rfl⟩
    have he := zn_e hx4 he
    refine zn_z (y := zo x5) ((zo_div rfl (zo_l 5) hn3 (by decide)).trans (congrArg zo hx4.symm)) ?_
    obtain ⟨r6, hb5, he⟩ := zb1_e he
    refine (zb1_s (s_Numbers_at rfl rfl hb5)).trans ?_
    refine zj1_z (m1 := zo) he (fun l1_8 he => ?_) (fun k10f k10 hk10 he => ?_)
    · obtain ⟨x9, hx6⟩ : ∃ y : Int, y = l2_2 + (1 : Int) := ⟨_, rfl⟩
      have he := zn_e hx6 he
      refine zn_z (y := zo x9) ((zo_add rfl (zo_l 1)).trans (congrArg zo hx6.symm)) ?_
      exact zk2 hagain3 rfl rfl he
    obtain ⟨hn7, he⟩ := zg_e he
    by_cases c8 : r6 = (-1 : Int)
    · have he := zif_t c8 he
      refine zif_p ((zo_eq rfl (zo_ln 1) hn7 (by decide)).mpr c8) ?_
      exact zk1 hk10 rfl he
    · have he := zif_f c8 he
      refine zif_n (fun q => c8 ((zo_eq rfl (zo_ln 1) hn7 (by decide)).mp q)) ?_
      obtain ⟨r12, hb9, he⟩ := zb1_e he
      refine (zb1_s (s_Numbers_at rfl rfl hb9)).trans ?_
      obtain ⟨hn10, he⟩ := zg_e he
      by_cases c11 : r12 = (0 : Int)
      · have he := zif_t c11 he
        refine zif_p ((zo_eq rfl (zo_l 0) hn10 (by decide)).mpr c11) ?_
        obtain ⟨r15, hb12, he⟩ := zb1_e he
        refine (zb1_s (s_Numbers_at rfl rfl hb12)).trans ?_
        obtain ⟨r17, hb13, he⟩ := zb1_e he
        refine (zb1_s (s_Town_wordsOn rfl rfl hb13)).trans ?_
        obtain ⟨hn14, he⟩ := zg_e he
        obtain ⟨hn15, he⟩ := zg_e he
        obtain ⟨x19, hx16⟩ : ∃ y : Int, y = max l1_1 (r15 + r17) := ⟨_, rfl⟩
        have he := zn_e hx16 he
        refine zn_z (y := zo x19) ((zo_max rfl (zo_add rfl rfl) hn14 hn15).trans (congrArg zo hx16.symm)) ?_
        exact zk1 hk10 rfl he
      · have he := zif_f c11 he
        refine zif_n (fun q => c11 ((zo_eq rfl (zo_l 0) hn10 (by decide)).mp q)) ?_
        exact zk1 hk10 rfl he
theorem s_Talks_goOnFrom {g_isHushed_allf : Nat → Int32} {g_isHushed_all : Nat → Int} {g_now_allf : Nat → Int32} {g_now_all : Nat → Int} {g_then_allf : Nat → Int32} {g_then_all : Nat → Int} {g_town_kinds_allf : Nat → Int32} {g_town_kinds_all : Nat → Int} {p1f : Int32} {p1 : Int} {p2f : Int32} {p2 : Int} {R0 : Nat → Int} (eg_isHushed_all : g_isHushed_allf = zoA g_isHushed_all) (eg_now_all : g_now_allf = zoA g_now_all) (eg_then_all : g_then_allf = zoA g_then_all) (eg_town_kinds_all : g_town_kinds_allf = zoA g_town_kinds_all) (ep1 : p1f = zo p1) (ep2 : p2f = zo p2) (he : g_Talks_goOnFrom g_isHushed_all g_now_all g_then_all g_town_kinds_all p1 p2 = some (R0)) : f_Talks_goOnFrom g_isHushed_allf g_now_allf g_then_allf g_town_kinds_allf p1f p2f = some (zoA R0) := by
  subst eg_isHushed_all
  subst eg_now_all
  subst eg_then_all
  subst eg_town_kinds_all
  subst ep1
  subst ep2
  unfold g_Talks_goOnFrom at he
  unfold f_Talks_goOnFrom
  obtain ⟨hn1, he⟩ := zg_e he
  obtain ⟨x1, hx2⟩ : ∃ y : Int, y = p1 / (5 : Int) := ⟨_, rfl⟩
  have he := zn_e hx2 he
  refine zn_z (y := zo x1) ((zo_div rfl (zo_l 5) hn1 (by decide)).trans (congrArg zo hx2.symm)) ?_
  refine zl2_z (m1 := zo) (m2 := zoA) (zo_l 0) rfl he (fun l4_2 g_then_all_3 again4f again4 hagain4 he => ?_)
  obtain ⟨hn3, he⟩ := zg_e he
  by_cases c4 : (4 : Int) ≤ l4_2
  · have he := zif_t c4 he
    refine zif_p ((zo_le (zo_l 4) rfl (by decide) hn3).mpr c4) ?_
    obtain ⟨rfl⟩ := zi1 he
    exact zs1 rfl
  · have he := zif_f c4 he
    refine zif_n (fun q => c4 ((zo_le (zo_l 4) rfl (by decide) hn3).mp q)) ?_
    obtain ⟨r6, hb5, he⟩ := zb1_e he
    refine (zb1_s (s_Town_next rfl rfl rfl hb5)).trans ?_
    obtain ⟨r8, hb6, he⟩ := zb1_e he
    refine (zb1_s (s_Town_isCorner rfl rfl (zo_rem rfl (zo_l 5) hn1 (by decide)) rfl hb6)).trans ?_
    refine zj1_z (m1 := zoA) he (fun g_then_all_10 he => ?_) (fun k12f k12 hk12 he => ?_)
    · obtain ⟨x11, hx7⟩ : ∃ y : Int, y = l4_2 + (1 : Int) := ⟨_, rfl⟩
      have he := zn_e hx7 he
      refine zn_z (y := zo x11) ((zo_add rfl (zo_l 1)).trans (congrArg zo hx7.symm)) ?_
      exact zk2 hagain4 rfl rfl he
    obtain ⟨hn8, he⟩ := zg_e he
    by_cases c9 : r6 = (-1 : Int)
    · have he := zif_t c9 he
      refine zif_p ((zo_eq rfl (zo_ln 1) hn8 (by decide)).mpr c9) ?_
      exact zk1 hk12 rfl he
    · have he := zif_f c9 he
      refine zif_n (fun q => c9 ((zo_eq rfl (zo_ln 1) hn8 (by decide)).mp q)) ?_
      obtain ⟨r14, hb10, he⟩ := zb1_e he
      refine (zb1_s (s_Numbers_at rfl rfl hb10)).trans ?_
      refine zj1_z (m1 := id) he (fun _ he => ?_) (fun k35f k35 hk35 he => ?_)
      · obtain ⟨r16, hb11, he⟩ := zb1_e he
        refine (zb1_s (s_Numbers_at rfl rfl hb11)).trans ?_
        obtain ⟨r18, hb12, he⟩ := zb1_e he
        refine (zb1_s (s_Town_wordsOn rfl rfl hb12)).trans ?_
        obtain ⟨x20, hx13⟩ : ∃ y : Int, y = r16 + r18 := ⟨_, rfl⟩
        have he := zn_e hx13 he
        refine zn_z (y := zo x20) ((zo_add rfl rfl).trans (congrArg zo hx13.symm)) ?_
        refine zj1_z (m1 := zo) he (fun l7_21 he => ?_) (fun k28f k28 hk28 he => ?_)
        · obtain ⟨x22, hx14⟩ : ∃ y : Int, y = (r6 * (5 : Int)) + l4_2 := ⟨_, rfl⟩
          have he := zn_e hx14 he
          refine zn_z (y := zo x22) ((zo_add (zo_mul rfl (zo_l 5)) rfl).trans (congrArg zo hx14.symm)) ?_
          obtain ⟨r23, hb15, he⟩ := zb1_e he
          refine (zb1_s (s_Numbers_at rfl rfl hb15)).trans ?_
          obtain ⟨hn16, he⟩ := zg_e he
          obtain ⟨hn17, he⟩ := zg_e he
          obtain ⟨x25, hx18⟩ : ∃ y : Int, y = max r23 l7_21 := ⟨_, rfl⟩
          have he := zn_e hx18 he
          refine zn_z (y := zo x25) ((zo_max rfl rfl hn16 hn17).trans (congrArg zo hx18.symm)) ?_
          obtain ⟨g_then_all_26, hb19, he⟩ := zb1_e he
          refine (zb1_s (s_Numbers_put rfl rfl rfl hb19)).trans ?_
          exact zk1 hk12 rfl he
        obtain ⟨hn20, he⟩ := zg_e he
        by_cases c21 : r8 = (0 : Int)
        · have he := zif_t c21 he
          refine zif_p ((zo_eq rfl (zo_l 0) hn20 (by decide)).mpr c21) ?_
          exact zk1 hk28 rfl he
        · have he := zif_f c21 he
          refine zif_n (fun q => c21 ((zo_eq rfl (zo_l 0) hn20 (by decide)).mp q)) ?_
          refine zj1_z (m1 := zo) he (fun s30 he => ?_) (fun k31f k31 hk31 he => ?_)
          · exact zk1 hk28 rfl he
          obtain ⟨hn22, he⟩ := zg_e he
          by_cases c23 : p2 = (0 : Int)
          · have he := zif_t c23 he
            refine zif_p ((zo_eq rfl (zo_l 0) hn22 (by decide)).mpr c23) ?_
            obtain ⟨r33, hb24, he⟩ := zb1_e he
            refine (zb1_s (s_Numbers_at rfl rfl hb24)).trans ?_
            exact zk1 hk31 rfl he
          · have he := zif_f c23 he
            refine zif_n (fun q => c23 ((zo_eq rfl (zo_l 0) hn22 (by decide)).mp q)) ?_
            exact zk1 hk31 (zo_l 0) he
      obtain ⟨hn25, he⟩ := zg_e he
      by_cases c26 : r14 = (0 : Int)
      · have he := zif_t c26 he
        refine zif_p ((zo_eq rfl (zo_l 0) hn25 (by decide)).mpr c26) ?_
        exact zk1 hk35 rfl he
      · have he := zif_f c26 he
        refine zif_n (fun q => c26 ((zo_eq rfl (zo_l 0) hn25 (by decide)).mp q)) ?_
        obtain ⟨hn27, he⟩ := zg_e he
        by_cases c28 : r8 = (0 : Int)
        · have he := zif_t c28 he
          refine zif_p ((zo_eq rfl (zo_l 0) hn27 (by decide)).mpr c28) ?_
          exact zk1 hk12 rfl he
        · have he := zif_f c28 he
          refine zif_n (fun q => c28 ((zo_eq rfl (zo_l 0) hn27 (by decide)).mp q)) ?_
          exact zk1 hk35 rfl he
theorem s_Talks_goOn {g_isHushed_allf : Nat → Int32} {g_isHushed_all : Nat → Int} {g_now_allf : Nat → Int32} {g_now_all : Nat → Int} {g_then_allf : Nat → Int32} {g_then_all : Nat → Int} {g_town_kinds_allf : Nat → Int32} {g_town_kinds_all : Nat → Int} {p1f : Int32} {p1 : Int} {R0 : Nat → Int} {R1 : Nat → Int} (eg_isHushed_all : g_isHushed_allf = zoA g_isHushed_all) (eg_now_all : g_now_allf = zoA g_now_all) (eg_then_all : g_then_allf = zoA g_then_all) (eg_town_kinds_all : g_town_kinds_allf = zoA g_town_kinds_all) (ep1 : p1f = zo p1) (he : g_Talks_goOn g_isHushed_all g_now_all g_then_all g_town_kinds_all p1 = some (R0, R1)) : f_Talks_goOn g_isHushed_allf g_now_allf g_then_allf g_town_kinds_allf p1f = some (zoA R0, zoA R1) := by
  subst eg_isHushed_all
  subst eg_now_all
  subst eg_then_all
  subst eg_town_kinds_all
  subst ep1
  unfold g_Talks_goOn at he
  unfold f_Talks_goOn
  obtain ⟨g_then_all_1, hb1, he⟩ := zb1_e he
  refine (zb1_s (s_Numbers_fill rfl (zo_ln 1) hb1)).trans ?_
  refine zj1_z (m1 := zoA) he (fun g_then_all_3 he => ?_) (fun k6f k6 hk6 he => ?_)
  · obtain ⟨g_now_all_4, hb2, he⟩ := zb1_e he
    refine (zb1_s (s_Numbers_takeOver rfl rfl hb2)).trans ?_
    obtain ⟨rfl, rfl⟩ := zi2 he
    exact zs2 rfl rfl
  refine zl2_z (m1 := zo) (m2 := zoA) (zo_l 0) rfl he (fun l2_7 g_then_all_8 again9f again9 hagain9 he => ?_)
  obtain ⟨hn3, he⟩ := zg_e he
  by_cases c4 : (180 : Int) ≤ l2_7
  · have he := zif_t c4 he
    refine zif_p ((zo_le (zo_l 180) rfl (by decide) hn3).mpr c4) ?_
    exact zk1 hk6 rfl he
  · have he := zif_f c4 he
    refine zif_n (fun q => c4 ((zo_le (zo_l 180) rfl (by decide) hn3).mp q)) ?_
    obtain ⟨r11, hb5, he⟩ := zb1_e he
    refine (zb1_s (s_Numbers_at rfl rfl hb5)).trans ?_
    refine zj1_z (m1 := zoA) he (fun g_then_all_13 he => ?_) (fun k15f k15 hk15 he => ?_)
    · obtain ⟨x14, hx6⟩ : ∃ y : Int, y = l2_7 + (1 : Int) := ⟨_, rfl⟩
      have he := zn_e hx6 he
      refine zn_z (y := zo x14) ((zo_add rfl (zo_l 1)).trans (congrArg zo hx6.symm)) ?_
      exact zk2 hagain9 rfl rfl he
    obtain ⟨hn7, he⟩ := zg_e he
    by_cases c8 : r11 = (-1 : Int)
    · have he := zif_t c8 he
      refine zif_p ((zo_eq rfl (zo_ln 1) hn7 (by decide)).mpr c8) ?_
      exact zk1 hk15 rfl he
    · have he := zif_f c8 he
      refine zif_n (fun q => c8 ((zo_eq rfl (zo_ln 1) hn7 (by decide)).mp q)) ?_
      obtain ⟨g_then_all_17, hb9, he⟩ := zb1_e he
      refine (zb1_s (s_Talks_goOnFrom rfl rfl rfl rfl rfl rfl hb9)).trans ?_
      exact zk1 hk15 rfl he
theorem s_Talks_mostWords {g_isHushed_allf : Nat → Int32} {g_isHushed_all : Nat → Int} {g_now_allf : Nat → Int32} {g_now_all : Nat → Int} {g_then_allf : Nat → Int32} {g_then_all : Nat → Int} {g_town_kinds_allf : Nat → Int32} {g_town_kinds_all : Nat → Int} {p1f : Int32} {p1 : Int} {p2f : Int32} {p2 : Int} {R0 : Int} {R1 : Nat → Int} {R2 : Nat → Int} (eg_isHushed_all : g_isHushed_allf = zoA g_isHushed_all) (eg_now_all : g_now_allf = zoA g_now_all) (eg_then_all : g_then_allf = zoA g_then_all) (eg_town_kinds_all : g_town_kinds_allf = zoA g_town_kinds_all) (ep1 : p1f = zo p1) (ep2 : p2f = zo p2) (he : g_Talks_mostWords g_isHushed_all g_now_all g_then_all g_town_kinds_all p1 p2 = some (R0, R1, R2)) : f_Talks_mostWords g_isHushed_allf g_now_allf g_then_allf g_town_kinds_allf p1f p2f = some (zo R0, zoA R1, zoA R2) := by
  subst eg_isHushed_all
  subst eg_now_all
  subst eg_then_all
  subst eg_town_kinds_all
  subst ep1
  subst ep2
  unfold g_Talks_mostWords at he
  unfold f_Talks_mostWords
  obtain ⟨r1, g_now_all_2, hb1, he⟩ := zb2_e he
  refine (zb2_s (s_Talks_begin rfl rfl rfl hb1)).trans ?_
  obtain ⟨hn2, he⟩ := zg_e he
  by_cases c3 : r1 = (0 : Int)
  · have he := zif_t c3 he
    refine zif_p ((zo_eq rfl (zo_l 0) hn2 (by decide)).mpr c3) ?_
    obtain ⟨rfl, rfl, rfl⟩ := zi3 he
    exact zs3 (zo_ln 9) rfl rfl
  · have he := zif_f c3 he
    refine zif_n (fun q => c3 ((zo_eq rfl (zo_l 0) hn2 (by decide)).mp q)) ?_
    obtain ⟨r5, hb4, he⟩ := zb1_e he
    refine (zb1_s (s_Talks_mostAtEnd rfl rfl rfl hb4)).trans ?_
    refine zj3_z (m1 := zo) (m2 := zoA) (m3 := zoA) he (fun l3_7 g_now_all_8 g_then_all_9 he => ?_) (fun k11f k11 hk11 he => ?_)
    · obtain ⟨hn5, he⟩ := zg_e he
      by_cases c6 : l3_7 = (-1 : Int)
      · have he := zif_t c6 he
        refine zif_p ((zo_eq rfl (zo_ln 1) hn5 (by decide)).mpr c6) ?_
        obtain ⟨rfl, rfl, rfl⟩ := zi3 he
        exact zs3 (zo_ln 9) rfl rfl
      · have he := zif_f c6 he
        refine zif_n (fun q => c6 ((zo_eq rfl (zo_ln 1) hn5 (by decide)).mp q)) ?_
        obtain ⟨rfl, rfl, rfl⟩ := zi3 he
        exact zs3 rfl rfl rfl
    refine zl4_z (m1 := zo) (m2 := zo) (m3 := zoA) (m4 := zoA) rfl (zo_l 0) rfl rfl he (fun l3_12 l4_13 g_now_all_14 g_then_all_15 again16f again16 hagain16 he => ?_)
    obtain ⟨hn7, he⟩ := zg_e he
    obtain ⟨hn8, he⟩ := zg_e he
    by_cases c9 : p2 ≤ l4_13
    · have he := zif_t c9 he
      refine zif_p ((zo_le rfl rfl hn7 hn8).mpr c9) ?_
      exact zk3 hk11 rfl rfl rfl he
    · have he := zif_f c9 he
      refine zif_n (fun q => c9 ((zo_le rfl rfl hn7 hn8).mp q)) ?_
      obtain ⟨g_now_all_18, g_then_all_19, hb10, he⟩ := zb2_e he
      refine (zb2_s (s_Talks_goOn rfl rfl rfl rfl (zo_l 0) hb10)).trans ?_
      obtain ⟨r21, hb11, he⟩ := zb1_e he
      refine (zb1_s (s_Talks_mostAtEnd rfl rfl rfl hb11)).trans ?_
      obtain ⟨hn12, he⟩ := zg_e he
      obtain ⟨hn13, he⟩ := zg_e he
      obtain ⟨x23, hx14⟩ : ∃ y : Int, y = max l3_12 r21 := ⟨_, rfl⟩
      have he := zn_e hx14 he
      refine zn_z (y := zo x23) ((zo_max rfl rfl hn12 hn13).trans (congrArg zo hx14.symm)) ?_
      obtain ⟨x24, hx15⟩ : ∃ y : Int, y = l4_13 + (1 : Int) := ⟨_, rfl⟩
      have he := zn_e hx15 he
      refine zn_z (y := zo x24) ((zo_add rfl (zo_l 1)).trans (congrArg zo hx15.symm)) ?_
      exact zk4 hagain16 rfl rfl rfl rfl he
theorem s_X_words {g_refused_allf : Nat → Int32} {g_refused_all : Nat → Int} {g_talks_isHushed_allf : Nat → Int32} {g_talks_isHushed_all : Nat → Int} {g_talks_now_allf : Nat → Int32} {g_talks_now_all : Nat → Int} {g_talks_then_allf : Nat → Int32} {g_talks_then_all : Nat → Int} {g_town_kinds_allf : Nat → Int32} {g_town_kinds_all : Nat → Int} {p1f : Int32} {p1 : Int} {p2f : Int32} {p2 : Int} {R0 : Int} {R1 : Nat → Int} {R2 : Nat → Int} {R3 : Nat → Int} {R4 : Nat → Int} (eg_refused_all : g_refused_allf = zoA g_refused_all) (eg_talks_isHushed_all : g_talks_isHushed_allf = zoA g_talks_isHushed_all) (eg_talks_now_all : g_talks_now_allf = zoA g_talks_now_all) (eg_talks_then_all : g_talks_then_allf = zoA g_talks_then_all) (eg_town_kinds_all : g_town_kinds_allf = zoA g_town_kinds_all) (ep1 : p1f = zo p1) (ep2 : p2f = zo p2) (he : g_X_words g_refused_all g_talks_isHushed_all g_talks_now_all g_talks_then_all g_town_kinds_all p1 p2 = some (R0, R1, R2, R3, R4)) : f_X_words g_refused_allf g_talks_isHushed_allf g_talks_now_allf g_talks_then_allf g_town_kinds_allf p1f p2f = some (zo R0, zoA R1, zoA R2, zoA R3, zoA R4) := by
  subst eg_refused_all
  subst eg_talks_isHushed_all
  subst eg_talks_now_all
  subst eg_talks_then_all
  subst eg_town_kinds_all
  subst ep1
  subst ep2
  unfold g_X_words at he
  unfold f_X_words
  obtain ⟨r1, g_refused_all_2, hb1, he⟩ := zb2_e he
  refine (zb2_s (s_X_checkWithin rfl rfl rfl hb1)).trans ?_
  obtain ⟨hn2, he⟩ := zg_e he
  by_cases c3 : (0 : Int) ≤ r1
  · have he := zif_t c3 he
    refine zif_p ((zo_le (zo_l 0) rfl (by decide) hn2).mpr c3) ?_
    obtain ⟨g_talks_isHushed_all_5, hb4, he⟩ := zb1_e he
    refine (zb1_s (s_Talks_hush rfl rfl (zo_l 0) hb4)).trans ?_
    obtain ⟨r7, g_talks_now_all_8, g_talks_then_all_9, hb5, he⟩ := zb3_e he
    refine (zb3_s (s_Talks_mostWords rfl rfl rfl rfl rfl rfl hb5)).trans ?_
    obtain ⟨rfl, rfl, rfl, rfl, rfl⟩ := zi5 he
    exact zs5 rfl rfl rfl rfl rfl
  · have he := zif_f c3 he
    refine zif_n (fun q => c3 ((zo_le (zo_l 0) rfl (by decide) hn2).mp q)) ?_
    obtain ⟨rfl, rfl, rfl, rfl, rfl⟩ := zi5 he
    exact zs5 rfl rfl rfl rfl rfl
theorem s_X_unheard {g_refused_allf : Nat → Int32} {g_refused_all : Nat → Int} {g_talks_isHushed_allf : Nat → Int32} {g_talks_isHushed_all : Nat → Int} {g_talks_now_allf : Nat → Int32} {g_talks_now_all : Nat → Int} {g_talks_then_allf : Nat → Int32} {g_talks_then_all : Nat → Int} {g_town_kinds_allf : Nat → Int32} {g_town_kinds_all : Nat → Int} {p1f : Int32} {p1 : Int} {p2f : Int32} {p2 : Int} {R0 : Int} {R1 : Nat → Int} {R2 : Nat → Int} {R3 : Nat → Int} {R4 : Nat → Int} (eg_refused_all : g_refused_allf = zoA g_refused_all) (eg_talks_isHushed_all : g_talks_isHushed_allf = zoA g_talks_isHushed_all) (eg_talks_now_all : g_talks_now_allf = zoA g_talks_now_all) (eg_talks_then_all : g_talks_then_allf = zoA g_talks_then_all) (eg_town_kinds_all : g_town_kinds_allf = zoA g_town_kinds_all) (ep1 : p1f = zo p1) (ep2 : p2f = zo p2) (he : g_X_unheard g_refused_all g_talks_isHushed_all g_talks_now_all g_talks_then_all g_town_kinds_all p1 p2 = some (R0, R1, R2, R3, R4)) : f_X_unheard g_refused_allf g_talks_isHushed_allf g_talks_now_allf g_talks_then_allf g_town_kinds_allf p1f p2f = some (zo R0, zoA R1, zoA R2, zoA R3, zoA R4) := by
  subst eg_refused_all
  subst eg_talks_isHushed_all
  subst eg_talks_now_all
  subst eg_talks_then_all
  subst eg_town_kinds_all
  subst ep1
  subst ep2
  unfold g_X_unheard at he
  unfold f_X_unheard
  obtain ⟨r1, g_refused_all_2, hb1, he⟩ := zb2_e he
  refine (zb2_s (s_X_checkWithin rfl rfl rfl hb1)).trans ?_
  obtain ⟨hn2, he⟩ := zg_e he
  by_cases c3 : (0 : Int) ≤ r1
  · have he := zif_t c3 he
    refine zif_p ((zo_le (zo_l 0) rfl (by decide) hn2).mpr c3) ?_
    obtain ⟨g_talks_isHushed_all_5, hb4, he⟩ := zb1_e he
    refine (zb1_s (s_Talks_hush rfl rfl (zo_l 1) hb4)).trans ?_
    obtain ⟨r7, g_talks_now_all_8, g_talks_then_all_9, hb5, he⟩ := zb3_e he
    refine (zb3_s (s_Talks_mostWords rfl rfl rfl rfl rfl rfl hb5)).trans ?_
    obtain ⟨rfl, rfl, rfl, rfl, rfl⟩ := zi5 he
    exact zs5 rfl rfl rfl rfl rfl
  · have he := zif_f c3 he
    refine zif_n (fun q => c3 ((zo_le (zo_l 0) rfl (by decide) hn2).mp q)) ?_
    obtain ⟨rfl, rfl, rfl, rfl, rfl⟩ := zi5 he
    exact zs5 rfl rfl rfl rfl rfl
theorem s_Talks_stepsToUncut {g_isHushed_allf : Nat → Int32} {g_isHushed_all : Nat → Int} {g_now_allf : Nat → Int32} {g_now_all : Nat → Int} {g_then_allf : Nat → Int32} {g_then_all : Nat → Int} {g_town_kinds_allf : Nat → Int32} {g_town_kinds_all : Nat → Int} {p1f : Int32} {p1 : Int} {p2f : Int32} {p2 : Int} {R0 : Int} {R1 : Nat → Int} {R2 : Nat → Int} {R3 : Nat → Int} (eg_isHushed_all : g_isHushed_allf = zoA g_isHushed_all) (eg_now_all : g_now_allf = zoA g_now_all) (eg_then_all : g_then_allf = zoA g_then_all) (eg_town_kinds_all : g_town_kinds_allf = zoA g_town_kinds_all) (ep1 : p1f = zo p1) (ep2 : p2f = zo p2) (he : g_Talks_stepsToUncut g_isHushed_all g_now_all g_then_all g_town_kinds_all p1 p2 = some (R0, R1, R2, R3)) : f_Talks_stepsToUncut g_isHushed_allf g_now_allf g_then_allf g_town_kinds_allf p1f p2f = some (zo R0, zoA R1, zoA R2, zoA R3) := by
  subst eg_isHushed_all
  subst eg_now_all
  subst eg_then_all
  subst eg_town_kinds_all
  subst ep1
  subst ep2
  unfold g_Talks_stepsToUncut at he
  unfold f_Talks_stepsToUncut
  obtain ⟨g_isHushed_all_1, hb1, he⟩ := zb1_e he
  refine (zb1_s (s_Talks_hush rfl rfl (zo_l 0) hb1)).trans ?_
  obtain ⟨r3, g_now_all_4, hb2, he⟩ := zb2_e he
  refine (zb2_s (s_Talks_begin rfl rfl rfl hb2)).trans ?_
  obtain ⟨hn3, he⟩ := zg_e he
  by_cases c4 : r3 = (0 : Int)
  · have he := zif_t c4 he
    refine zif_p ((zo_eq rfl (zo_l 0) hn3 (by decide)).mpr c4) ?_
    obtain ⟨rfl, rfl, rfl, rfl⟩ := zi4 he
    exact zs4 (zo_ln 9) rfl rfl rfl
  · have he := zif_f c4 he
    refine zif_n (fun q => c4 ((zo_eq rfl (zo_l 0) hn3 (by decide)).mp q)) ?_
    refine zl3_z (m1 := zo) (m2 := zoA) (m3 := zoA) (zo_l 0) rfl rfl he (fun l3_7 g_now_all_8 g_then_all_9 again10f again10 hagain10 he => ?_)
    obtain ⟨hn5, he⟩ := zg_e he
    by_cases c6 : (40 : Int) < l3_7
    · have he := zif_t c6 he
      refine zif_p ((zo_lt (zo_l 40) rfl (by decide) hn5).mpr c6) ?_
      obtain ⟨rfl, rfl, rfl, rfl⟩ := zi4 he
      exact zs4 (zo_ln 9) rfl rfl rfl
    · have he := zif_f c6 he
      refine zif_n (fun q => c6 ((zo_lt (zo_l 40) rfl (by decide) hn5).mp q)) ?_
      obtain ⟨r12, hb7, he⟩ := zb1_e he
      refine (zb1_s (s_Talks_mostAtEnd rfl rfl rfl hb7)).trans ?_
      obtain ⟨hn8, he⟩ := zg_e he
      obtain ⟨hn9, he⟩ := zg_e he
      by_cases c10 : r12 < p2
      · have he := zif_t c10 he
        refine zif_p ((zo_lt rfl rfl hn8 hn9).mpr c10) ?_
        obtain ⟨g_now_all_15, g_then_all_16, hb11, he⟩ := zb2_e he
        refine (zb2_s (s_Talks_goOn rfl rfl rfl rfl (zo_l 1) hb11)).trans ?_
        obtain ⟨x18, hx12⟩ : ∃ y : Int, y = l3_7 + (1 : Int) := ⟨_, rfl⟩
        have he := zn_e hx12 he
        refine zn_z (y := zo x18) ((zo_add rfl (zo_l 1)).trans (congrArg zo hx12.symm)) ?_
        exact zk3 hagain10 rfl rfl rfl he
      · have he := zif_f c10 he
        refine zif_n (fun q => c10 ((zo_lt rfl rfl hn8 hn9).mp q)) ?_
        obtain ⟨rfl, rfl, rfl, rfl⟩ := zi4 he
        exact zs4 rfl rfl rfl rfl
theorem s_X_talk {g_refused_allf : Nat → Int32} {g_refused_all : Nat → Int} {g_talks_isHushed_allf : Nat → Int32} {g_talks_isHushed_all : Nat → Int} {g_talks_now_allf : Nat → Int32} {g_talks_now_all : Nat → Int} {g_talks_then_allf : Nat → Int32} {g_talks_then_all : Nat → Int} {g_town_kinds_allf : Nat → Int32} {g_town_kinds_all : Nat → Int} {p1f : Int32} {p1 : Int} {p2f : Int32} {p2 : Int} {R0 : Int} {R1 : Nat → Int} {R2 : Nat → Int} {R3 : Nat → Int} {R4 : Nat → Int} (eg_refused_all : g_refused_allf = zoA g_refused_all) (eg_talks_isHushed_all : g_talks_isHushed_allf = zoA g_talks_isHushed_all) (eg_talks_now_all : g_talks_now_allf = zoA g_talks_now_all) (eg_talks_then_all : g_talks_then_allf = zoA g_talks_then_all) (eg_town_kinds_all : g_town_kinds_allf = zoA g_town_kinds_all) (ep1 : p1f = zo p1) (ep2 : p2f = zo p2) (he : g_X_talk g_refused_all g_talks_isHushed_all g_talks_now_all g_talks_then_all g_town_kinds_all p1 p2 = some (R0, R1, R2, R3, R4)) : f_X_talk g_refused_allf g_talks_isHushed_allf g_talks_now_allf g_talks_then_allf g_town_kinds_allf p1f p2f = some (zo R0, zoA R1, zoA R2, zoA R3, zoA R4) := by
  subst eg_refused_all
  subst eg_talks_isHushed_all
  subst eg_talks_now_all
  subst eg_talks_then_all
  subst eg_town_kinds_all
  subst ep1
  subst ep2
  unfold g_X_talk at he
  unfold f_X_talk
  obtain ⟨r1, hb1, he⟩ := zb1_e he
  refine (zb1_s (s_X_isSquare rfl hb1)).trans ?_
  obtain ⟨hn2, he⟩ := zg_e he
  by_cases c3 : r1 = (0 : Int)
  · have he := zif_t c3 he
    refine zif_p ((zo_eq rfl (zo_l 0) hn2 (by decide)).mpr c3) ?_
    obtain ⟨r17, g_refused_all_18, hb4, he⟩ := zb2_e he
    refine (zb2_s (s_X_refuse rfl (zo_ln 1) hb4)).trans ?_
    obtain ⟨rfl, rfl, rfl, rfl, rfl⟩ := zi5 he
    exact zs5 rfl rfl rfl rfl rfl
  · have he := zif_f c3 he
    refine zif_n (fun q => c3 ((zo_eq rfl (zo_l 0) hn2 (by decide)).mp q)) ?_
    obtain ⟨hn5, he⟩ := zg_e he
    by_cases c6 : (1 : Int) ≤ p2
    · have he := zif_t c6 he
      refine zif_p ((zo_le (zo_l 1) rfl (by decide) hn5).mpr c6) ?_
      by_cases c7 : p2 ≤ (40 : Int)
      · have he := zif_t c7 he
        refine zif_p ((zo_le rfl (zo_l 40) hn5 (by decide)).mpr c7) ?_
        obtain ⟨r6, g_talks_isHushed_all_7, g_talks_now_all_8, g_talks_then_all_9, hb8, he⟩ := zb4_e he
        refine (zb4_s (s_Talks_stepsToUncut rfl rfl rfl rfl rfl rfl hb8)).trans ?_
        obtain ⟨rfl, rfl, rfl, rfl, rfl⟩ := zi5 he
        exact zs5 rfl rfl rfl rfl rfl
      · have he := zif_f c7 he
        refine zif_n (fun q => c7 ((zo_le rfl (zo_l 40) hn5 (by decide)).mp q)) ?_
        obtain ⟨r11, g_refused_all_12, hb9, he⟩ := zb2_e he
        refine (zb2_s (s_X_refuse rfl (zo_ln 6) hb9)).trans ?_
        obtain ⟨rfl, rfl, rfl, rfl, rfl⟩ := zi5 he
        exact zs5 rfl rfl rfl rfl rfl
    · have he := zif_f c6 he
      refine zif_n (fun q => c6 ((zo_le (zo_l 1) rfl (by decide) hn5).mp q)) ?_
      obtain ⟨r14, g_refused_all_15, hb10, he⟩ := zb2_e he
      refine (zb2_s (s_X_refuse rfl (zo_ln 4) hb10)).trans ?_
      obtain ⟨rfl, rfl, rfl, rfl, rfl⟩ := zi5 he
      exact zs5 rfl rfl rfl rfl rfl
theorem s_X_meet {v_otherReach_comeCountf : Int32} {v_otherReach_comeCount : Int} {g_otherReach_come_allf : Nat → Int32} {g_otherReach_come_all : Nat → Int} {g_otherReach_far_allf : Nat → Int32} {g_otherReach_far_all : Nat → Int} {v_reach_comeCountf : Int32} {v_reach_comeCount : Int} {g_reach_come_allf : Nat → Int32} {g_reach_come_all : Nat → Int} {g_reach_far_allf : Nat → Int32} {g_reach_far_all : Nat → Int} {g_refused_allf : Nat → Int32} {g_refused_all : Nat → Int} {g_town_kinds_allf : Nat → Int32} {g_town_kinds_all : Nat → Int} {p1f : Int32} {p1 : Int} {p2f : Int32} {p2 : Int} {p3f : Int32} {p3 : Int} {R0 : Int} {R1 : Int} {R2 : Nat → Int} {R3 : Nat → Int} {R4 : Int} {R5 : Nat → Int} {R6 : Nat → Int} {R7 : Nat → Int} (ev_otherReach_comeCount : v_otherReach_comeCountf = zo v_otherReach_comeCount) (eg_otherReach_come_all : g_otherReach_come_allf = zoA g_otherReach_come_all) (eg_otherReach_far_all : g_otherReach_far_allf = zoA g_otherReach_far_all) (ev_reach_comeCount : v_reach_comeCountf = zo v_reach_comeCount) (eg_reach_come_all : g_reach_come_allf = zoA g_reach_come_all) (eg_reach_far_all : g_reach_far_allf = zoA g_reach_far_all) (eg_refused_all : g_refused_allf = zoA g_refused_all) (eg_town_kinds_all : g_town_kinds_allf = zoA g_town_kinds_all) (ep1 : p1f = zo p1) (ep2 : p2f = zo p2) (ep3 : p3f = zo p3) (he : g_X_meet v_otherReach_comeCount g_otherReach_come_all g_otherReach_far_all v_reach_comeCount g_reach_come_all g_reach_far_all g_refused_all g_town_kinds_all p1 p2 p3 = some (R0, R1, R2, R3, R4, R5, R6, R7)) : f_X_meet v_otherReach_comeCountf g_otherReach_come_allf g_otherReach_far_allf v_reach_comeCountf g_reach_come_allf g_reach_far_allf g_refused_allf g_town_kinds_allf p1f p2f p3f = some (zo R0, zo R1, zoA R2, zoA R3, zo R4, zoA R5, zoA R6, zoA R7) := by
  subst ev_otherReach_comeCount
  subst eg_otherReach_come_all
  subst eg_otherReach_far_all
  subst ev_reach_comeCount
  subst eg_reach_come_all
  subst eg_reach_far_all
  subst eg_refused_all
  subst eg_town_kinds_all
  subst ep1
  subst ep2
  subst ep3
  unfold g_X_meet at he
  unfold f_X_meet
  obtain ⟨r1, hb1, he⟩ := zb1_e he
  refine (zb1_s (s_X_isSquare rfl hb1)).trans ?_
  refine zj1_z (m1 := id) he (fun _ he => ?_) (fun k6f k6 hk6 he => ?_)
  · obtain ⟨r3, g_refused_all_4, hb2, he⟩ := zb2_e he
    refine (zb2_s (s_X_refuse rfl (zo_ln 1) hb2)).trans ?_
    obtain ⟨rfl, rfl, rfl, rfl, rfl, rfl, rfl, rfl⟩ := zi8 he
    exact zs8 rfl rfl rfl rfl rfl rfl rfl rfl
  obtain ⟨hn3, he⟩ := zg_e he
  by_cases c4 : r1 = (0 : Int)
  · have he := zif_t c4 he
    refine zif_p ((zo_eq rfl (zo_l 0) hn3 (by decide)).mpr c4) ?_
    exact zk1 hk6 rfl he
  · have he := zif_f c4 he
    refine zif_n (fun q => c4 ((zo_eq rfl (zo_l 0) hn3 (by decide)).mp q)) ?_
    obtain ⟨r8, hb5, he⟩ := zb1_e he
    refine (zb1_s (s_X_isSquare rfl hb5)).trans ?_
    obtain ⟨hn6, he⟩ := zg_e he
    by_cases c7 : r8 = (0 : Int)
    · have he := zif_t c7 he
      refine zif_p ((zo_eq rfl (zo_l 0) hn6 (by decide)).mpr c7) ?_
      exact zk1 hk6 rfl he
    · have he := zif_f c7 he
      refine zif_n (fun q => c7 ((zo_eq rfl (zo_l 0) hn6 (by decide)).mp q)) ?_
      refine zj1_z (m1 := id) he (fun _ he => ?_) (fun k14f k14 hk14 he => ?_)
      · obtain ⟨r11, g_refused_all_12, hb8, he⟩ := zb2_e he
        refine (zb2_s (s_X_refuse rfl (zo_ln 2) hb8)).trans ?_
        obtain ⟨rfl, rfl, rfl, rfl, rfl, rfl, rfl, rfl⟩ := zi8 he
        exact zs8 rfl rfl rfl rfl rfl rfl rfl rfl
      obtain ⟨hn9, he⟩ := zg_e he
      by_cases c10 : p3 < (0 : Int)
      · have he := zif_t c10 he
        refine zif_p ((zo_lt rfl (zo_l 0) hn9 (by decide)).mpr c10) ?_
        exact zk1 hk14 rfl he
      · have he := zif_f c10 he
        refine zif_n (fun q => c10 ((zo_lt rfl (zo_l 0) hn9 (by decide)).mp q)) ?_
        by_cases c11 : p3 ≤ (1 : Int)
        · have he := zif_t c11 he
          refine zif_p ((zo_le rfl (zo_l 1) hn9 (by decide)).mpr c11) ?_
          obtain ⟨v_reach_comeCount_17, g_reach_come_all_18, g_reach_far_all_19, hb12, he⟩ := zb3_e he
          refine (zb3_s (s_Reach_spreadFrom rfl rfl rfl rfl rfl hb12)).trans ?_
          obtain ⟨v_otherReach_comeCount_21, g_otherReach_come_all_22, g_otherReach_far_all_23, hb13, he⟩ := zb3_e he
          refine (zb3_s (s_Reach_spreadFrom rfl rfl rfl rfl rfl hb13)).trans ?_
          refine zj2_z (m1 := zo) (m2 := zo) he (fun l4_25 l5_26 he => ?_) (fun k28f k28 hk28 he => ?_)
          · by_cases c14 : p3 = (0 : Int)
            · have he := zif_t c14 he
              refine zif_p ((zo_eq rfl (zo_l 0) hn9 (by decide)).mpr c14) ?_
              obtain ⟨rfl, rfl, rfl, rfl, rfl, rfl, rfl, rfl⟩ := zi8 he
              exact zs8 rfl rfl rfl rfl rfl rfl rfl rfl
            · have he := zif_f c14 he
              refine zif_n (fun q => c14 ((zo_eq rfl (zo_l 0) hn9 (by decide)).mp q)) ?_
              obtain ⟨rfl, rfl, rfl, rfl, rfl, rfl, rfl, rfl⟩ := zi8 he
              exact zs8 rfl rfl rfl rfl rfl rfl rfl rfl
          refine zl3_z (m1 := zo) (m2 := zo) (m3 := zo) (zo_ln 9) (zo_ln 9) (zo_l 0) he (fun l4_29 l5_30 l6_31 again32f again32 hagain32 he => ?_)
          obtain ⟨hn15, he⟩ := zg_e he
          by_cases c16 : (36 : Int) ≤ l6_31
          · have he := zif_t c16 he
            refine zif_p ((zo_le (zo_l 36) rfl (by decide) hn15).mpr c16) ?_
            exact zk2 hk28 rfl rfl he
          · have he := zif_f c16 he
            refine zif_n (fun q => c16 ((zo_le (zo_l 36) rfl (by decide) hn15).mp q)) ?_
            obtain ⟨r34, hb17, he⟩ := zb1_e he
            refine (zb1_s (s_Reach_stepsTo rfl rfl hb17)).trans ?_
            obtain ⟨r36, hb18, he⟩ := zb1_e he
            refine (zb1_s (s_Reach_stepsTo rfl rfl hb18)).trans ?_
            obtain ⟨hn19, he⟩ := zg_e he
            obtain ⟨hn20, he⟩ := zg_e he
            obtain ⟨x38, hx21⟩ : ∃ y : Int, y = max r34 r36 := ⟨_, rfl⟩
            have he := zn_e hx21 he
            refine zn_z (y := zo x38) ((zo_max rfl rfl hn19 hn20).trans (congrArg zo hx21.symm)) ?_
            refine zj2_z (m1 := zo) (m2 := zo) he (fun l4_39 l5_40 he => ?_) (fun k42f k42 hk42 he => ?_)
            · obtain ⟨x41, hx22⟩ : ∃ y : Int, y = l6_31 + (1 : Int) := ⟨_, rfl⟩
              have he := zn_e hx22 he
              refine zn_z (y := zo x41) ((zo_add rfl (zo_l 1)).trans (congrArg zo hx22.symm)) ?_
              exact zk3 hagain32 rfl rfl rfl he
            by_cases c23 : r34 < (0 : Int)
            · have he := zif_t c23 he
              refine zif_p ((zo_lt rfl (zo_l 0) hn19 (by decide)).mpr c23) ?_
              exact zk2 hk42 rfl rfl he
            · have he := zif_f c23 he
              refine zif_n (fun q => c23 ((zo_lt rfl (zo_l 0) hn19 (by decide)).mp q)) ?_
              by_cases c24 : r36 < (0 : Int)
              · have he := zif_t c24 he
                refine zif_p ((zo_lt rfl (zo_l 0) hn20 (by decide)).mpr c24) ?_
                exact zk2 hk42 rfl rfl he
              · have he := zif_f c24 he
                refine zif_n (fun q => c24 ((zo_lt rfl (zo_l 0) hn20 (by decide)).mp q)) ?_
                refine zj1_z (m1 := id) he (fun _ he => ?_) (fun k45f k45 hk45 he => ?_)
                · exact zk2 hk42 rfl rfl he
                obtain ⟨hn25, he⟩ := zg_e he
                by_cases c26 : l4_29 = (-9 : Int)
                · have he := zif_t c26 he
                  refine zif_p ((zo_eq rfl (zo_ln 9) hn25 (by decide)).mpr c26) ?_
                  exact zk1 hk45 rfl he
                · have he := zif_f c26 he
                  refine zif_n (fun q => c26 ((zo_eq rfl (zo_ln 9) hn25 (by decide)).mp q)) ?_
                  obtain ⟨hn27, he⟩ := zg_e he
                  by_cases c28 : l4_29 ≤ x38
                  · have he := zif_t c28 he
                    refine zif_p ((zo_le rfl rfl hn25 hn27).mpr c28) ?_
                    exact zk2 hk42 rfl rfl he
                  · have he := zif_f c28 he
                    refine zif_n (fun q => c28 ((zo_le rfl rfl hn25 hn27).mp q)) ?_
                    exact zk1 hk45 rfl he
        · have he := zif_f c11 he
          refine zif_n (fun q => c11 ((zo_le rfl (zo_l 1) hn9 (by decide)).mp q)) ?_
          exact zk1 hk14 rfl he
theorem s_X_roundOff {g_refused_allf : Nat → Int32} {g_refused_all : Nat → Int} {v_routes_cornerPricef : Int32} {v_routes_cornerPrice : Int} {v_routes_firstWaitingf : Int32} {v_routes_firstWaiting : Int} {v_routes_stepPricef : Int32} {v_routes_stepPrice : Int} {v_routes_waitingCountf : Int32} {v_routes_waitingCount : Int} {g_routes_isWaiting_allf : Nat → Int32} {g_routes_isWaiting_all : Nat → Int} {g_routes_label_allf : Nat → Int32} {g_routes_label_all : Nat → Int} {g_routes_toll_allf : Nat → Int32} {g_routes_toll_all : Nat → Int} {g_routes_waiting_allf : Nat → Int32} {g_routes_waiting_all : Nat → Int} {v_town_homef : Int32} {v_town_home : Int} {g_town_kinds_allf : Nat → Int32} {g_town_kinds_all : Nat → Int} {p1f : Int32} {p1 : Int} {p2f : Int32} {p2 : Int} {R0 : Int} {R1 : Nat → Int} {R2 : Int} {R3 : Int} {R4 : Int} {R5 : Int} {R6 : Nat → Int} {R7 : Nat → Int} {R8 : Nat → Int} {R9 : Nat → Int} {R10 : Nat → Int} (eg_refused_all : g_refused_allf = zoA g_refused_all) (ev_routes_cornerPrice : v_routes_cornerPricef = zo v_routes_cornerPrice) (ev_routes_firstWaiting : v_routes_firstWaitingf = zo v_routes_firstWaiting) (ev_routes_stepPrice : v_routes_stepPricef = zo v_routes_stepPrice) (ev_routes_waitingCount : v_routes_waitingCountf = zo v_routes_waitingCount) (eg_routes_isWaiting_all : g_routes_isWaiting_allf = zoA g_routes_isWaiting_all) (eg_routes_label_all : g_routes_label_allf = zoA g_routes_label_all) (eg_routes_toll_all : g_routes_toll_allf = zoA g_routes_toll_all) (eg_routes_waiting_all : g_routes_waiting_allf = zoA g_routes_waiting_all) (ev_town_home : v_town_homef = zo v_town_home) (eg_town_kinds_all : g_town_kinds_allf = zoA g_town_kinds_all) (ep1 : p1f = zo p1) (ep2 : p2f = zo p2) (he : g_X_roundOff g_refused_all v_routes_cornerPrice v_routes_firstWaiting v_routes_stepPrice v_routes_waitingCount g_routes_isWaiting_all g_routes_label_all g_routes_toll_all g_routes_waiting_all v_town_home g_town_kinds_all p1 p2 = some (R0, R1, R2, R3, R4, R5, R6, R7, R8, R9, R10)) : f_X_roundOff g_refused_allf v_routes_cornerPricef v_routes_firstWaitingf v_routes_stepPricef v_routes_waitingCountf g_routes_isWaiting_allf g_routes_label_allf g_routes_toll_allf g_routes_waiting_allf v_town_homef g_town_kinds_allf p1f p2f = some (zo R0, zoA R1, zo R2, zo R3, zo R4, zo R5, zoA R6, zoA R7, zoA R8, zoA R9, zoA R10) := by
  subst eg_refused_all
  subst ev_routes_cornerPrice
  subst ev_routes_firstWaiting
  subst ev_routes_stepPrice
  subst ev_routes_waitingCount
  subst eg_routes_isWaiting_all
  subst eg_routes_label_all
  subst eg_routes_toll_all
  subst eg_routes_waiting_all
  subst ev_town_home
  subst eg_town_kinds_all
  subst ep1
  subst ep2
  unfold g_X_roundOff at he
  unfold f_X_roundOff
  obtain ⟨r1, hb1, he⟩ := zb1_e he
  refine (zb1_s (s_X_isSquare rfl hb1)).trans ?_
  refine zj1_z (m1 := id) he (fun _ he => ?_) (fun k6f k6 hk6 he => ?_)
  · obtain ⟨r3, g_refused_all_4, hb2, he⟩ := zb2_e he
    refine (zb2_s (s_X_refuse rfl (zo_ln 1) hb2)).trans ?_
    obtain ⟨rfl, rfl, rfl, rfl, rfl, rfl, rfl, rfl, rfl, rfl, rfl⟩ := zi11 he
    exact zs11 rfl rfl rfl rfl rfl rfl rfl rfl rfl rfl rfl
  obtain ⟨hn3, he⟩ := zg_e he
  by_cases c4 : r1 = (0 : Int)
  · have he := zif_t c4 he
    refine zif_p ((zo_eq rfl (zo_l 0) hn3 (by decide)).mpr c4) ?_
    exact zk1 hk6 rfl he
  · have he := zif_f c4 he
    refine zif_n (fun q => c4 ((zo_eq rfl (zo_l 0) hn3 (by decide)).mp q)) ?_
    obtain ⟨r8, hb5, he⟩ := zb1_e he
    refine (zb1_s (s_X_isSquare rfl hb5)).trans ?_
    obtain ⟨hn6, he⟩ := zg_e he
    by_cases c7 : r8 = (0 : Int)
    · have he := zif_t c7 he
      refine zif_p ((zo_eq rfl (zo_l 0) hn6 (by decide)).mpr c7) ?_
      exact zk1 hk6 rfl he
    · have he := zif_f c7 he
      refine zif_n (fun q => c7 ((zo_eq rfl (zo_l 0) hn6 (by decide)).mp q)) ?_
      obtain ⟨v_routes_cornerPrice_11, v_routes_stepPrice_12, g_routes_toll_all_13, hb8, he⟩ := zb3_e he
      refine (zb3_s (s_Routes_chargeCorners rfl rfl rfl hb8)).trans ?_
      obtain ⟨r15, v_routes_firstWaiting_16, v_routes_waitingCount_17, g_routes_isWaiting_all_18, g_routes_label_all_19, g_routes_waiting_all_20, hb9, he⟩ := zb6_e he
      refine (zb6_s (s_Routes_cheapest rfl rfl rfl rfl rfl rfl rfl rfl rfl rfl rfl hb9)).trans ?_
      obtain ⟨r22, hb10, he⟩ := zb1_e he
      refine (zb1_s (s_Routes_cornersOf rfl hb10)).trans ?_
      refine zl9_z (m1 := zo) (m2 := zo) (m3 := zo) (m4 := zo) (m5 := zo) (m6 := zoA) (m7 := zoA) (m8 := zoA) (m9 := zoA) rfl (zo_ln 9) (zo_l 0) rfl rfl rfl rfl rfl rfl he (fun l3_24 l4_25 l5_26 v_routes_firstWaiting_27 v_routes_waitingCount_28 g_routes_isWaiting_all_29 g_routes_label_all_30 g_routes_waiting_all_31 g_town_kinds_all_32 again33f again33 hagain33 he => ?_)
      obtain ⟨hn11, he⟩ := zg_e he
      by_cases c12 : (36 : Int) ≤ l5_26
      · have he := zif_t c12 he
        refine zif_p ((zo_le (zo_l 36) rfl (by decide) hn11).mpr c12) ?_
        obtain ⟨rfl, rfl, rfl, rfl, rfl, rfl, rfl, rfl, rfl, rfl, rfl⟩ := zi11 he
        exact zs11 rfl rfl rfl rfl rfl rfl rfl rfl rfl rfl rfl
      · have he := zif_f c12 he
        refine zif_n (fun q => c12 ((zo_le (zo_l 36) rfl (by decide) hn11).mp q)) ?_
        obtain ⟨hn13, he⟩ := zg_e he
        by_cases c14 : l3_24 ≤ (0 : Int)
        · have he := zif_t c14 he
          refine zif_p ((zo_le rfl (zo_l 0) hn13 (by decide)).mpr c14) ?_
          obtain ⟨rfl, rfl, rfl, rfl, rfl, rfl, rfl, rfl, rfl, rfl, rfl⟩ := zi11 he
          exact zs11 rfl rfl rfl rfl rfl rfl rfl rfl rfl rfl rfl
        · have he := zif_f c14 he
          refine zif_n (fun q => c14 ((zo_le rfl (zo_l 0) hn13 (by decide)).mp q)) ?_
          obtain ⟨r36, hb15, he⟩ := zb1_e he
          refine (zb1_s (s_Town_kindOf rfl rfl hb15)).trans ?_
          refine zj8_z (m1 := zo) (m2 := zo) (m3 := zo) (m4 := zo) (m5 := zoA) (m6 := zoA) (m7 := zoA) (m8 := zoA) he (fun l3_38 l4_39 v_routes_firstWaiting_40 v_routes_waitingCount_41 g_routes_isWaiting_all_42 g_routes_label_all_43 g_routes_waiting_all_44 g_town_kinds_all_45 he => ?_) (fun k47f k47 hk47 he => ?_)
          · obtain ⟨x46, hx16⟩ : ∃ y : Int, y = l5_26 + (1 : Int) := ⟨_, rfl⟩
            have he := zn_e hx16 he
            refine zn_z (y := zo x46) ((zo_add rfl (zo_l 1)).trans (congrArg zo hx16.symm)) ?_
            exact zk9 hagain33 rfl rfl rfl rfl rfl rfl rfl rfl rfl he
          obtain ⟨hn17, he⟩ := zg_e he
          by_cases c18 : r36 = (0 : Int)
          · have he := zif_t c18 he
            refine zif_p ((zo_eq rfl (zo_l 0) hn17 (by decide)).mpr c18) ?_
            obtain ⟨r49, g_town_kinds_all_50, hb19, he⟩ := zb2_e he
            refine (zb2_s (s_Town_rebuild rfl rfl rfl rfl (zo_l 2) hb19)).trans ?_
            obtain ⟨r52, v_routes_firstWaiting_53, v_routes_waitingCount_54, g_routes_isWaiting_all_55, g_routes_label_all_56, g_routes_waiting_all_57, hb20, he⟩ := zb6_e he
            refine (zb6_s (s_Routes_cheapest rfl rfl rfl rfl rfl rfl rfl rfl rfl rfl rfl hb20)).trans ?_
            obtain ⟨r59, hb21, he⟩ := zb1_e he
            refine (zb1_s (s_Routes_cornersOf rfl hb21)).trans ?_
            obtain ⟨r61, g_town_kinds_all_62, hb22, he⟩ := zb2_e he
            refine (zb2_s (s_Town_rebuild rfl rfl rfl rfl (zo_l 0) hb22)).trans ?_
            obtain ⟨hn23, he⟩ := zg_e he
            by_cases c24 : l3_24 ≤ r59
            · have he := zif_t c24 he
              refine zif_p ((zo_le rfl rfl hn13 hn23).mpr c24) ?_
              exact zk8 hk47 rfl rfl rfl rfl rfl rfl rfl rfl he
            · have he := zif_f c24 he
              refine zif_n (fun q => c24 ((zo_le rfl rfl hn13 hn23).mp q)) ?_
              exact zk8 hk47 rfl rfl rfl rfl rfl rfl rfl rfl he
          · have he := zif_f c18 he
            refine zif_n (fun q => c18 ((zo_eq rfl (zo_l 0) hn17 (by decide)).mp q)) ?_
            exact zk8 hk47 rfl rfl rfl rfl rfl rfl rfl rfl he
theorem s_X_newlyHeardFrom {g_hearers_allf : Nat → Int32} {g_hearers_all : Nat → Int} {p1f : Int32} {p1 : Int} {R0 : Int} (eg_hearers_all : g_hearers_allf = zoA g_hearers_all) (ep1 : p1f = zo p1) (he : g_X_newlyHeardFrom g_hearers_all p1 = some (R0)) : f_X_newlyHeardFrom g_hearers_allf p1f = some (zo R0) := by
  subst eg_hearers_all
  subst ep1
  unfold g_X_newlyHeardFrom at he
  unfold f_X_newlyHeardFrom
  refine zl2_z (m1 := zo) (m2 := zo) (zo_l 0) (zo_l 0) he (fun l2_1 l3_2 again3f again3 hagain3 he => ?_)
  obtain ⟨hn1, he⟩ := zg_e he
  by_cases c2 : (36 : Int) ≤ l3_2
  · have he := zif_t c2 he
    refine zif_p ((zo_le (zo_l 36) rfl (by decide) hn1).mpr c2) ?_
    obtain ⟨rfl⟩ := zi1 he
    exact zs1 rfl
  · have he := zif_f c2 he
    refine zif_n (fun q => c2 ((zo_le (zo_l 36) rfl (by decide) hn1).mp q)) ?_
    obtain ⟨r5, hb3, he⟩ := zb1_e he
    refine (zb1_s (s_Numbers_at rfl rfl hb3)).trans ?_
    refine zj1_z (m1 := zo) he (fun l2_7 he => ?_) (fun k9f k9 hk9 he => ?_)
    · obtain ⟨x8, hx4⟩ : ∃ y : Int, y = l3_2 + (1 : Int) := ⟨_, rfl⟩
      have he := zn_e hx4 he
      refine zn_z (y := zo x8) ((zo_add rfl (zo_l 1)).trans (congrArg zo hx4.symm)) ?_
      exact zk2 hagain3 rfl rfl he
    obtain ⟨hn5, he⟩ := zg_e he
    by_cases c6 : r5 = (0 : Int)
    · have he := zif_t c6 he
      refine zif_p ((zo_eq rfl (zo_l 0) hn5 (by decide)).mpr c6) ?_
      obtain ⟨r11, hb7, he⟩ := zb1_e he
      refine (zb1_s (s_Town_apart rfl rfl hb7)).trans ?_
      obtain ⟨hn8, he⟩ := zg_e he
      by_cases c9 : (1 : Int) < r11
      · have he := zif_t c9 he
        refine zif_p ((zo_lt (zo_l 1) rfl (by decide) hn8).mpr c9) ?_
        exact zk1 hk9 rfl he
      · have he := zif_f c9 he
        refine zif_n (fun q => c9 ((zo_lt (zo_l 1) rfl (by decide) hn8).mp q)) ?_
        obtain ⟨x14, hx10⟩ : ∃ y : Int, y = l2_1 + (1 : Int) := ⟨_, rfl⟩
        have he := zn_e hx10 he
        refine zn_z (y := zo x14) ((zo_add rfl (zo_l 1)).trans (congrArg zo hx10.symm)) ?_
        exact zk1 hk9 rfl he
    · have he := zif_f c6 he
      refine zif_n (fun q => c6 ((zo_eq rfl (zo_l 0) hn5 (by decide)).mp q)) ?_
      exact zk1 hk9 rfl he
theorem s_X_newNiche {g_hearers_allf : Nat → Int32} {g_hearers_all : Nat → Int} {g_refused_allf : Nat → Int32} {g_refused_all : Nat → Int} {v_town_homef : Int32} {v_town_home : Int} {g_town_kinds_allf : Nat → Int32} {g_town_kinds_all : Nat → Int} {p1f : Int32} {p1 : Int} {R0 : Int} {R1 : Nat → Int} {R2 : Nat → Int} (eg_hearers_all : g_hearers_allf = zoA g_hearers_all) (eg_refused_all : g_refused_allf = zoA g_refused_all) (ev_town_home : v_town_homef = zo v_town_home) (eg_town_kinds_all : g_town_kinds_allf = zoA g_town_kinds_all) (ep1 : p1f = zo p1) (he : g_X_newNiche g_hearers_all g_refused_all v_town_home g_town_kinds_all p1 = some (R0, R1, R2)) : f_X_newNiche g_hearers_allf g_refused_allf v_town_homef g_town_kinds_allf p1f = some (zo R0, zoA R1, zoA R2) := by
  subst eg_hearers_all
  subst eg_refused_all
  subst ev_town_home
  subst eg_town_kinds_all
  subst ep1
  unfold g_X_newNiche at he
  unfold f_X_newNiche
  refine zj1_z (m1 := id) he (fun _ he => ?_) (fun k4f k4 hk4 he => ?_)
  · obtain ⟨r1, g_refused_all_2, hb1, he⟩ := zb2_e he
    refine (zb2_s (s_X_refuse rfl (zo_ln 2) hb1)).trans ?_
    obtain ⟨rfl, rfl, rfl⟩ := zi3 he
    exact zs3 rfl rfl rfl
  obtain ⟨hn2, he⟩ := zg_e he
  by_cases c3 : p1 < (0 : Int)
  · have he := zif_t c3 he
    refine zif_p ((zo_lt rfl (zo_l 0) hn2 (by decide)).mpr c3) ?_
    exact zk1 hk4 rfl he
  · have he := zif_f c3 he
    refine zif_n (fun q => c3 ((zo_lt rfl (zo_l 0) hn2 (by decide)).mp q)) ?_
    by_cases c4 : p1 ≤ (1 : Int)
    · have he := zif_t c4 he
      refine zif_p ((zo_le rfl (zo_l 1) hn2 (by decide)).mpr c4) ?_
      refine zj1_z (m1 := zoA) he (fun g_hearers_all_7 he => ?_) (fun k31f k31 hk31 he => ?_)
      · refine zj2_z (m1 := zo) (m2 := zo) he (fun l2_8 l3_9 he => ?_) (fun k12f k12 hk12 he => ?_)
        · by_cases c5 : p1 = (0 : Int)
          · have he := zif_t c5 he
            refine zif_p ((zo_eq rfl (zo_l 0) hn2 (by decide)).mpr c5) ?_
            obtain ⟨rfl, rfl, rfl⟩ := zi3 he
            exact zs3 rfl rfl rfl
          · have he := zif_f c5 he
            refine zif_n (fun q => c5 ((zo_eq rfl (zo_l 0) hn2 (by decide)).mp q)) ?_
            obtain ⟨hn6, he⟩ := zg_e he
            by_cases c7 : l3_9 = (-9 : Int)
            · have he := zif_t c7 he
              refine zif_p ((zo_eq rfl (zo_ln 9) hn6 (by decide)).mpr c7) ?_
              obtain ⟨rfl, rfl, rfl⟩ := zi3 he
              exact zs3 rfl rfl rfl
            · have he := zif_f c7 he
              refine zif_n (fun q => c7 ((zo_eq rfl (zo_ln 9) hn6 (by decide)).mp q)) ?_
              obtain ⟨rfl, rfl, rfl⟩ := zi3 he
              exact zs3 rfl rfl rfl
        refine zl3_z (m1 := zo) (m2 := zo) (m3 := zo) (zo_l 0) (zo_ln 9) (zo_l 0) he (fun l2_13 l3_14 l4_15 again16f again16 hagain16 he => ?_)
        obtain ⟨hn8, he⟩ := zg_e he
        by_cases c9 : (36 : Int) ≤ l4_15
        · have he := zif_t c9 he
          refine zif_p ((zo_le (zo_l 36) rfl (by decide) hn8).mpr c9) ?_
          exact zk2 hk12 rfl rfl he
        · have he := zif_f c9 he
          refine zif_n (fun q => c9 ((zo_le (zo_l 36) rfl (by decide) hn8).mp q)) ?_
          obtain ⟨r18, hb10, he⟩ := zb1_e he
          refine (zb1_s (s_Town_home rfl hb10)).trans ?_
          refine zj2_z (m1 := zo) (m2 := zo) he (fun l2_20 l3_21 he => ?_) (fun k23f k23 hk23 he => ?_)
          · obtain ⟨x22, hx11⟩ : ∃ y : Int, y = l4_15 + (1 : Int) := ⟨_, rfl⟩
            have he := zn_e hx11 he
            refine zn_z (y := zo x22) ((zo_add rfl (zo_l 1)).trans (congrArg zo hx11.symm)) ?_
            exact zk3 hagain16 rfl rfl rfl he
          obtain ⟨hn12, he⟩ := zg_e he
          by_cases c13 : l4_15 = r18
          · have he := zif_t c13 he
            refine zif_p ((zo_eq rfl rfl hn8 hn12).mpr c13) ?_
            exact zk2 hk23 rfl rfl he
          · have he := zif_f c13 he
            refine zif_n (fun q => c13 ((zo_eq rfl rfl hn8 hn12).mp q)) ?_
            obtain ⟨r25, hb14, he⟩ := zb1_e he
            refine (zb1_s (s_Town_canBe rfl rfl hb14)).trans ?_
            obtain ⟨hn15, he⟩ := zg_e he
            by_cases c16 : r25 = (0 : Int)
            · have he := zif_t c16 he
              refine zif_p ((zo_eq rfl (zo_l 0) hn15 (by decide)).mpr c16) ?_
              exact zk2 hk23 rfl rfl he
            · have he := zif_f c16 he
              refine zif_n (fun q => c16 ((zo_eq rfl (zo_l 0) hn15 (by decide)).mp q)) ?_
              obtain ⟨r28, hb17, he⟩ := zb1_e he
              refine (zb1_s (s_X_newlyHeardFrom rfl rfl hb17)).trans ?_
              obtain ⟨hn18, he⟩ := zg_e he
              obtain ⟨hn19, he⟩ := zg_e he
              by_cases c20 : r28 ≤ l2_13
              · have he := zif_t c20 he
                refine zif_p ((zo_le rfl rfl hn18 hn19).mpr c20) ?_
                exact zk2 hk23 rfl rfl he
              · have he := zif_f c20 he
                refine zif_n (fun q => c20 ((zo_le rfl rfl hn18 hn19).mp q)) ?_
                exact zk2 hk23 rfl rfl he
      refine zl2_z (m1 := zo) (m2 := zoA) (zo_l 0) rfl he (fun l2_32 g_hearers_all_33 again34f again34 hagain34 he => ?_)
      obtain ⟨hn21, he⟩ := zg_e he
      by_cases c22 : (36 : Int) ≤ l2_32
      · have he := zif_t c22 he
        refine zif_p ((zo_le (zo_l 36) rfl (by decide) hn21).mpr c22) ?_
        exact zk1 hk31 rfl he
      · have he := zif_f c22 he
        refine zif_n (fun q => c22 ((zo_le (zo_l 36) rfl (by decide) hn21).mp q)) ?_
        obtain ⟨r36, hb23, he⟩ := zb1_e he
        refine (zb1_s (s_Town_heardBy rfl rfl hb23)).trans ?_
        obtain ⟨g_hearers_all_38, hb24, he⟩ := zb1_e he
        refine (zb1_s (s_Numbers_put rfl rfl rfl hb24)).trans ?_
        obtain ⟨x40, hx25⟩ : ∃ y : Int, y = l2_32 + (1 : Int) := ⟨_, rfl⟩
        have he := zn_e hx25 he
        refine zn_z (y := zo x40) ((zo_add rfl (zo_l 1)).trans (congrArg zo hx25.symm)) ?_
        exact zk2 hagain34 rfl rfl he
    · have he := zif_f c4 he
      refine zif_n (fun q => c4 ((zo_le rfl (zo_l 1) hn2 (by decide)).mp q)) ?_
      exact zk1 hk4 rfl he
theorem s_X_informers {g_town_kinds_allf : Nat → Int32} {g_town_kinds_all : Nat → Int} {R0 : Int} (eg_town_kinds_all : g_town_kinds_allf = zoA g_town_kinds_all) (he : g_X_informers g_town_kinds_all = some (R0)) : f_X_informers g_town_kinds_allf = some (zo R0) := by
  subst eg_town_kinds_all
  unfold g_X_informers at he
  unfold f_X_informers
  refine zl2_z (m1 := zo) (m2 := zo) (zo_l 0) (zo_l 0) he (fun l1_1 l2_2 again3f again3 hagain3 he => ?_)
  obtain ⟨hn1, he⟩ := zg_e he
  by_cases c2 : (36 : Int) ≤ l2_2
  · have he := zif_t c2 he
    refine zif_p ((zo_le (zo_l 36) rfl (by decide) hn1).mpr c2) ?_
    obtain ⟨rfl⟩ := zi1 he
    exact zs1 rfl
  · have he := zif_f c2 he
    refine zif_n (fun q => c2 ((zo_le (zo_l 36) rfl (by decide) hn1).mp q)) ?_
    obtain ⟨r5, hb3, he⟩ := zb1_e he
    refine (zb1_s (s_Town_hearing rfl rfl hb3)).trans ?_
    refine zj1_z (m1 := zo) he (fun s7 he => ?_) (fun k10f k10 hk10 he => ?_)
    · obtain ⟨x8, hx4⟩ : ∃ y : Int, y = l1_1 + s7 := ⟨_, rfl⟩
      have he := zn_e hx4 he
      refine zn_z (y := zo x8) ((zo_add rfl rfl).trans (congrArg zo hx4.symm)) ?_
      obtain ⟨x9, hx5⟩ : ∃ y : Int, y = l2_2 + (1 : Int) := ⟨_, rfl⟩
      have he := zn_e hx5 he
      refine zn_z (y := zo x9) ((zo_add rfl (zo_l 1)).trans (congrArg zo hx5.symm)) ?_
      exact zk2 hagain3 rfl rfl he
    obtain ⟨hn6, he⟩ := zg_e he
    by_cases c7 : r5 < (0 : Int)
    · have he := zif_t c7 he
      refine zif_p ((zo_lt rfl (zo_l 0) hn6 (by decide)).mpr c7) ?_
      exact zk1 hk10 (zo_l 0) he
    · have he := zif_f c7 he
      refine zif_n (fun q => c7 ((zo_lt rfl (zo_l 0) hn6 (by decide)).mp q)) ?_
      exact zk1 hk10 (zo_l 1) he
theorem s_Town_hears {g_kinds_allf : Nat → Int32} {g_kinds_all : Nat → Int} {p1f : Int32} {p1 : Int} {p2f : Int32} {p2 : Int} {R0 : Int} (eg_kinds_all : g_kinds_allf = zoA g_kinds_all) (ep1 : p1f = zo p1) (ep2 : p2f = zo p2) (he : g_Town_hears g_kinds_all p1 p2 = some (R0)) : f_Town_hears g_kinds_allf p1f p2f = some (zo R0) := by
  subst eg_kinds_all
  subst ep1
  subst ep2
  unfold g_Town_hears at he
  unfold f_Town_hears
  obtain ⟨r1, hb1, he⟩ := zb1_e he
  refine (zb1_s (s_Town_apart rfl rfl hb1)).trans ?_
  obtain ⟨r3, hb2, he⟩ := zb1_e he
  refine (zb1_s (s_Town_hearing rfl rfl hb2)).trans ?_
  obtain ⟨hn3, he⟩ := zg_e he
  obtain ⟨hn4, he⟩ := zg_e he
  by_cases c5 : r3 < r1
  · have he := zif_t c5 he
    refine zif_p ((zo_lt rfl rfl hn3 hn4).mpr c5) ?_
    obtain ⟨rfl⟩ := zi1 he
    exact zs1 (zo_l 0)
  · have he := zif_f c5 he
    refine zif_n (fun q => c5 ((zo_lt rfl rfl hn3 hn4).mp q)) ?_
    obtain ⟨rfl⟩ := zi1 he
    exact zs1 (zo_l 1)
theorem s_X_noteHearers {g_hearers_allf : Nat → Int32} {g_hearers_all : Nat → Int} {g_town_kinds_allf : Nat → Int32} {g_town_kinds_all : Nat → Int} {R0 : Int} {R1 : Nat → Int} (eg_hearers_all : g_hearers_allf = zoA g_hearers_all) (eg_town_kinds_all : g_town_kinds_allf = zoA g_town_kinds_all) (he : g_X_noteHearers g_hearers_all g_town_kinds_all = some (R0, R1)) : f_X_noteHearers g_hearers_allf g_town_kinds_allf = some (zo R0, zoA R1) := by
  subst eg_hearers_all
  subst eg_town_kinds_all
  unfold g_X_noteHearers at he
  unfold f_X_noteHearers
  obtain ⟨g_hearers_all_1, hb1, he⟩ := zb1_e he
  refine (zb1_s (s_Numbers_fill rfl (zo_l 0) hb1)).trans ?_
  refine zj2_z (m1 := zo) (m2 := zoA) he (fun l1_3 g_hearers_all_4 he => ?_) (fun k5f k5 hk5 he => ?_)
  · obtain ⟨rfl, rfl⟩ := zi2 he
    exact zs2 (zo_sub rfl (zo_l 1)) rfl
  refine zl3_z (m1 := zo) (m2 := zo) (m3 := zoA) (zo_l 1) (zo_l 0) rfl he (fun l1_6 l2_7 g_hearers_all_8 again9f again9 hagain9 he => ?_)
  obtain ⟨hn2, he⟩ := zg_e he
  by_cases c3 : (36 : Int) ≤ l2_7
  · have he := zif_t c3 he
    refine zif_p ((zo_le (zo_l 36) rfl (by decide) hn2).mpr c3) ?_
    exact zk2 hk5 rfl rfl he
  · have he := zif_f c3 he
    refine zif_n (fun q => c3 ((zo_le (zo_l 36) rfl (by decide) hn2).mp q)) ?_
    obtain ⟨r11, hb4, he⟩ := zb1_e he
    refine (zb1_s (s_Town_hearing rfl rfl hb4)).trans ?_
    refine zj2_z (m1 := zo) (m2 := zoA) he (fun l1_13 g_hearers_all_14 he => ?_) (fun k16f k16 hk16 he => ?_)
    · obtain ⟨x15, hx5⟩ : ∃ y : Int, y = l2_7 + (1 : Int) := ⟨_, rfl⟩
      have he := zn_e hx5 he
      refine zn_z (y := zo x15) ((zo_add rfl (zo_l 1)).trans (congrArg zo hx5.symm)) ?_
      exact zk3 hagain9 rfl rfl rfl he
    obtain ⟨hn6, he⟩ := zg_e he
    by_cases c7 : (0 : Int) ≤ r11
    · have he := zif_t c7 he
      refine zif_p ((zo_le (zo_l 0) rfl (by decide) hn6).mpr c7) ?_
      refine zj1_z (m1 := zoA) he (fun g_hearers_all_18 he => ?_) (fun k20f k20 hk20 he => ?_)
      · obtain ⟨x19, hx8⟩ : ∃ y : Int, y = zshlI l1_6 (1 : Int) := ⟨_, rfl⟩
        have he := zn_e hx8 he
        refine zn_z (y := zo x19) ((zo_shl rfl (zo_l 1)).trans (congrArg zo hx8.symm)) ?_
        exact zk2 hk16 rfl rfl he
      refine zl2_z (m1 := zo) (m2 := zoA) (zo_l 0) rfl he (fun l3_21 g_hearers_all_22 again23f again23 hagain23 he => ?_)
      obtain ⟨hn9, he⟩ := zg_e he
      by_cases c10 : (36 : Int) ≤ l3_21
      · have he := zif_t c10 he
        refine zif_p ((zo_le (zo_l 36) rfl (by decide) hn9).mpr c10) ?_
        exact zk1 hk20 rfl he
      · have he := zif_f c10 he
        refine zif_n (fun q => c10 ((zo_le (zo_l 36) rfl (by decide) hn9).mp q)) ?_
        obtain ⟨r25, hb11, he⟩ := zb1_e he
        refine (zb1_s (s_Town_hears rfl rfl rfl hb11)).trans ?_
        refine zj1_z (m1 := zoA) he (fun g_hearers_all_27 he => ?_) (fun k29f k29 hk29 he => ?_)
        · obtain ⟨x28, hx12⟩ : ∃ y : Int, y = l3_21 + (1 : Int) := ⟨_, rfl⟩
          have he := zn_e hx12 he
          refine zn_z (y := zo x28) ((zo_add rfl (zo_l 1)).trans (congrArg zo hx12.symm)) ?_
          exact zk2 hagain23 rfl rfl he
        obtain ⟨hn13, he⟩ := zg_e he
        by_cases c14 : r25 = (0 : Int)
        · have he := zif_t c14 he
          refine zif_p ((zo_eq rfl (zo_l 0) hn13 (by decide)).mpr c14) ?_
          exact zk1 hk29 rfl he
        · have he := zif_f c14 he
          refine zif_n (fun q => c14 ((zo_eq rfl (zo_l 0) hn13 (by decide)).mp q)) ?_
          obtain ⟨r31, hb15, he⟩ := zb1_e he
          refine (zb1_s (s_Numbers_at rfl rfl hb15)).trans ?_
          obtain ⟨g_hearers_all_33, hb16, he⟩ := zb1_e he
          refine (zb1_s (s_Numbers_put rfl rfl (zo_or rfl rfl) hb16)).trans ?_
          exact zk1 hk29 rfl he
    · have he := zif_f c7 he
      refine zif_n (fun q => c7 ((zo_le (zo_l 0) rfl (by decide) hn6).mp q)) ?_
      exact zk2 hk16 rfl rfl he
theorem s_Integer_bitCount {p0f : Int32} {p0 : Int} {R0 : Int} (ep0 : p0f = zo p0) (he : g_Integer_bitCount p0 = some (R0)) : f_Integer_bitCount p0f = some (zo R0) := by
  subst ep0
  unfold g_Integer_bitCount at he
  unfold f_Integer_bitCount
  obtain ⟨x1, hx1⟩ : ∃ y : Int, y = p0 - (zandI (zushI p0 (1 : Int)) (1431655765 : Int)) := ⟨_, rfl⟩
  have he := zn_e hx1 he
  refine zn_z (y := zo x1) ((zo_sub rfl (zo_and (zo_ush rfl (zo_l 1)) (zo_l 1431655765))).trans (congrArg zo hx1.symm)) ?_
  obtain ⟨x2, hx2⟩ : ∃ y : Int, y = (zandI x1 (858993459 : Int)) + (zandI (zushI x1 (2 : Int)) (858993459 : Int)) := ⟨_, rfl⟩
  have he := zn_e hx2 he
  refine zn_z (y := zo x2) ((zo_add (zo_and rfl (zo_l 858993459)) (zo_and (zo_ush rfl (zo_l 2)) (zo_l 858993459))).trans (congrArg zo hx2.symm)) ?_
  obtain ⟨x3, hx3⟩ : ∃ y : Int, y = zandI (x2 + (zushI x2 (4 : Int))) (252645135 : Int) := ⟨_, rfl⟩
  have he := zn_e hx3 he
  refine zn_z (y := zo x3) ((zo_and (zo_add rfl (zo_ush rfl (zo_l 4))) (zo_l 252645135)).trans (congrArg zo hx3.symm)) ?_
  obtain ⟨x4, hx4⟩ : ∃ y : Int, y = x3 + (zushI x3 (8 : Int)) := ⟨_, rfl⟩
  have he := zn_e hx4 he
  refine zn_z (y := zo x4) ((zo_add rfl (zo_ush rfl (zo_l 8))).trans (congrArg zo hx4.symm)) ?_
  obtain ⟨x5, hx5⟩ : ∃ y : Int, y = x4 + (zushI x4 (16 : Int)) := ⟨_, rfl⟩
  have he := zn_e hx5 he
  refine zn_z (y := zo x5) ((zo_add rfl (zo_ush rfl (zo_l 16))).trans (congrArg zo hx5.symm)) ?_
  obtain ⟨rfl⟩ := zi1 he
  exact zs1 (zo_and rfl (zo_l 63))
theorem s_X_hearAll {g_hearers_allf : Nat → Int32} {g_hearers_all : Nat → Int} {p1f : Int32} {p1 : Int} {R0 : Int} (eg_hearers_all : g_hearers_allf = zoA g_hearers_all) (ep1 : p1f = zo p1) (he : g_X_hearAll g_hearers_all p1 = some (R0)) : f_X_hearAll g_hearers_allf p1f = some (zo R0) := by
  subst eg_hearers_all
  subst ep1
  unfold g_X_hearAll at he
  unfold f_X_hearAll
  refine zl1_z (m1 := zo) (zo_l 0) he (fun l2_1 again2f again2 hagain2 he => ?_)
  obtain ⟨hn1, he⟩ := zg_e he
  by_cases c2 : (36 : Int) ≤ l2_1
  · have he := zif_t c2 he
    refine zif_p ((zo_le (zo_l 36) rfl (by decide) hn1).mpr c2) ?_
    obtain ⟨rfl⟩ := zi1 he
    exact zs1 (zo_l 1)
  · have he := zif_f c2 he
    refine zif_n (fun q => c2 ((zo_le (zo_l 36) rfl (by decide) hn1).mp q)) ?_
    obtain ⟨r4, hb3, he⟩ := zb1_e he
    refine (zb1_s (s_Numbers_at rfl rfl hb3)).trans ?_
    refine zj1_z (m1 := id) he (fun _ he => ?_) (fun k7f k7 hk7 he => ?_)
    · obtain ⟨x6, hx4⟩ : ∃ y : Int, y = l2_1 + (1 : Int) := ⟨_, rfl⟩
      have he := zn_e hx4 he
      refine zn_z (y := zo x6) ((zo_add rfl (zo_l 1)).trans (congrArg zo hx4.symm)) ?_
      exact zk1 hagain2 rfl he
    obtain ⟨hn5, he⟩ := zg_e he
    by_cases c6 : r4 = (0 : Int)
    · have he := zif_t c6 he
      refine zif_p ((zo_eq rfl (zo_l 0) hn5 (by decide)).mpr c6) ?_
      exact zk1 hk7 rfl he
    · have he := zif_f c6 he
      refine zif_n (fun q => c6 ((zo_eq rfl (zo_l 0) hn5 (by decide)).mp q)) ?_
      obtain ⟨r9, hb7, he⟩ := zb1_e he
      refine (zb1_s (s_Numbers_at rfl rfl hb7)).trans ?_
      obtain ⟨hn8, he⟩ := zg_e he
      by_cases c9 : zandI r9 p1 = (0 : Int)
      · have he := zif_t c9 he
        refine zif_p ((zo_eq (zo_and rfl rfl) (zo_l 0) hn8 (by decide)).mpr c9) ?_
        obtain ⟨rfl⟩ := zi1 he
        exact zs1 (zo_l 0)
      · have he := zif_f c9 he
        refine zif_n (fun q => c9 ((zo_eq (zo_and rfl rfl) (zo_l 0) hn8 (by decide)).mp q)) ?_
        exact zk1 hk7 rfl he
theorem s_X_enough {g_hearers_allf : Nat → Int32} {g_hearers_all : Nat → Int} {g_refused_allf : Nat → Int32} {g_refused_all : Nat → Int} {g_town_kinds_allf : Nat → Int32} {g_town_kinds_all : Nat → Int} {R0 : Int} {R1 : Nat → Int} {R2 : Nat → Int} (eg_hearers_all : g_hearers_allf = zoA g_hearers_all) (eg_refused_all : g_refused_allf = zoA g_refused_all) (eg_town_kinds_all : g_town_kinds_allf = zoA g_town_kinds_all) (he : g_X_enough g_hearers_all g_refused_all g_town_kinds_all = some (R0, R1, R2)) : f_X_enough g_hearers_allf g_refused_allf g_town_kinds_allf = some (zo R0, zoA R1, zoA R2) := by
  subst eg_hearers_all
  subst eg_refused_all
  subst eg_town_kinds_all
  unfold g_X_enough at he
  unfold f_X_enough
  obtain ⟨r1, hb1, he⟩ := zb1_e he
  refine (zb1_s (s_X_informers rfl hb1)).trans ?_
  obtain ⟨hn2, he⟩ := zg_e he
  by_cases c3 : r1 ≤ (8 : Int)
  · have he := zif_t c3 he
    refine zif_p ((zo_le rfl (zo_l 8) hn2 (by decide)).mpr c3) ?_
    obtain ⟨r4, g_hearers_all_5, hb4, he⟩ := zb2_e he
    refine (zb2_s (s_X_noteHearers rfl rfl hb4)).trans ?_
    refine zl2_z (m1 := zo) (m2 := zo) rfl (zo_l 0) he (fun l2_7 l3_8 again9f again9 hagain9 he => ?_)
    obtain ⟨hn5, he⟩ := zg_e he
    obtain ⟨hn6, he⟩ := zg_e he
    by_cases c7 : r4 ≤ l3_8
    · have he := zif_t c7 he
      refine zif_p ((zo_le rfl rfl hn5 hn6).mpr c7) ?_
      obtain ⟨rfl, rfl, rfl⟩ := zi3 he
      exact zs3 rfl rfl rfl
    · have he := zif_f c7 he
      refine zif_n (fun q => c7 ((zo_le rfl rfl hn5 hn6).mp q)) ?_
      obtain ⟨r11, hb8, he⟩ := zb1_e he
      refine (zb1_s (s_Integer_bitCount rfl hb8)).trans ?_
      obtain ⟨r13, hb9, he⟩ := zb1_e he
      refine (zb1_s (s_Integer_bitCount rfl hb9)).trans ?_
      refine zj1_z (m1 := zo) he (fun l2_15 he => ?_) (fun k17f k17 hk17 he => ?_)
      · obtain ⟨x16, hx10⟩ : ∃ y : Int, y = l3_8 + (1 : Int) := ⟨_, rfl⟩
        have he := zn_e hx10 he
        refine zn_z (y := zo x16) ((zo_add rfl (zo_l 1)).trans (congrArg zo hx10.symm)) ?_
        exact zk2 hagain9 rfl rfl he
      obtain ⟨hn11, he⟩ := zg_e he
      obtain ⟨hn12, he⟩ := zg_e he
      by_cases c13 : r13 ≤ r11
      · have he := zif_t c13 he
        refine zif_p ((zo_le rfl rfl hn11 hn12).mpr c13) ?_
        exact zk1 hk17 rfl he
      · have he := zif_f c13 he
        refine zif_n (fun q => c13 ((zo_le rfl rfl hn11 hn12).mp q)) ?_
        obtain ⟨r19, hb14, he⟩ := zb1_e he
        refine (zb1_s (s_X_hearAll rfl rfl hb14)).trans ?_
        obtain ⟨hn15, he⟩ := zg_e he
        by_cases c16 : r19 = (0 : Int)
        · have he := zif_t c16 he
          refine zif_p ((zo_eq rfl (zo_l 0) hn15 (by decide)).mpr c16) ?_
          exact zk1 hk17 rfl he
        · have he := zif_f c16 he
          refine zif_n (fun q => c16 ((zo_eq rfl (zo_l 0) hn15 (by decide)).mp q)) ?_
          exact zk1 hk17 rfl he
  · have he := zif_f c3 he
    refine zif_n (fun q => c3 ((zo_le rfl (zo_l 8) hn2 (by decide)).mp q)) ?_
    obtain ⟨r22, g_refused_all_23, hb17, he⟩ := zb2_e he
    refine (zb2_s (s_X_refuse rfl (zo_ln 3) hb17)).trans ?_
    obtain ⟨rfl, rfl, rfl⟩ := zi3 he
    exact zs3 rfl rfl rfl
theorem s_X_quiet {v_reach_comeCountf : Int32} {v_reach_comeCount : Int} {g_reach_come_allf : Nat → Int32} {g_reach_come_all : Nat → Int} {g_reach_far_allf : Nat → Int32} {g_reach_far_all : Nat → Int} {g_town_kinds_allf : Nat → Int32} {g_town_kinds_all : Nat → Int} {R0 : Int} {R1 : Int} {R2 : Nat → Int} {R3 : Nat → Int} (ev_reach_comeCount : v_reach_comeCountf = zo v_reach_comeCount) (eg_reach_come_all : g_reach_come_allf = zoA g_reach_come_all) (eg_reach_far_all : g_reach_far_allf = zoA g_reach_far_all) (eg_town_kinds_all : g_town_kinds_allf = zoA g_town_kinds_all) (he : g_X_quiet v_reach_comeCount g_reach_come_all g_reach_far_all g_town_kinds_all = some (R0, R1, R2, R3)) : f_X_quiet v_reach_comeCountf g_reach_come_allf g_reach_far_allf g_town_kinds_allf = some (zo R0, zo R1, zoA R2, zoA R3) := by
  subst ev_reach_comeCount
  subst eg_reach_come_all
  subst eg_reach_far_all
  subst eg_town_kinds_all
  unfold g_X_quiet at he
  unfold f_X_quiet
  obtain ⟨v_reach_comeCount_1, g_reach_far_all_2, hb1, he⟩ := zb2_e he
  refine (zb2_s (s_Reach_begin rfl rfl hb1)).trans ?_
  refine zj3_z (m1 := zo) (m2 := zoA) (m3 := zoA) he (fun v_reach_comeCount_4 g_reach_come_all_5 g_reach_far_all_6 he => ?_) (fun k25f k25 hk25 he => ?_)
  · obtain ⟨v_reach_comeCount_7, g_reach_come_all_8, g_reach_far_all_9, hb2, he⟩ := zb3_e he
    refine (zb3_s (s_Reach_spread rfl rfl rfl rfl hb2)).trans ?_
    refine zl3_z (m1 := zo) (m2 := zo) (m3 := zo) (zo_ln 9) (zo_ln 9) (zo_l 0) he (fun l1_11 l2_12 l3_13 again14f again14 hagain14 he => ?_)
    obtain ⟨hn3, he⟩ := zg_e he
    by_cases c4 : (36 : Int) ≤ l3_13
    · have he := zif_t c4 he
      refine zif_p ((zo_le (zo_l 36) rfl (by decide) hn3).mpr c4) ?_
      obtain ⟨rfl, rfl, rfl, rfl⟩ := zi4 he
      exact zs4 rfl rfl rfl rfl
    · have he := zif_f c4 he
      refine zif_n (fun q => c4 ((zo_le (zo_l 36) rfl (by decide) hn3).mp q)) ?_
      obtain ⟨r16, hb5, he⟩ := zb1_e he
      refine (zb1_s (s_Reach_stepsTo rfl rfl hb5)).trans ?_
      refine zj2_z (m1 := zo) (m2 := zo) he (fun l1_18 l2_19 he => ?_) (fun k21f k21 hk21 he => ?_)
      · obtain ⟨x20, hx6⟩ : ∃ y : Int, y = l3_13 + (1 : Int) := ⟨_, rfl⟩
        have he := zn_e hx6 he
        refine zn_z (y := zo x20) ((zo_add rfl (zo_l 1)).trans (congrArg zo hx6.symm)) ?_
        exact zk3 hagain14 rfl rfl rfl he
      obtain ⟨hn7, he⟩ := zg_e he
      obtain ⟨hn8, he⟩ := zg_e he
      by_cases c9 : r16 ≤ l1_11
      · have he := zif_t c9 he
        refine zif_p ((zo_le rfl rfl hn7 hn8).mpr c9) ?_
        exact zk2 hk21 rfl rfl he
      · have he := zif_f c9 he
        refine zif_n (fun q => c9 ((zo_le rfl rfl hn7 hn8).mp q)) ?_
        obtain ⟨r23, hb10, he⟩ := zb1_e he
        refine (zb1_s (s_Reach_stepsTo rfl rfl hb10)).trans ?_
        exact zk2 hk21 rfl rfl he
  refine zl4_z (m1 := zo) (m2 := zo) (m3 := zoA) (m4 := zoA) (zo_l 0) rfl rfl rfl he (fun l1_26 v_reach_comeCount_27 g_reach_come_all_28 g_reach_far_all_29 again30f again30 hagain30 he => ?_)
  obtain ⟨hn11, he⟩ := zg_e he
  by_cases c12 : (36 : Int) ≤ l1_26
  · have he := zif_t c12 he
    refine zif_p ((zo_le (zo_l 36) rfl (by decide) hn11).mpr c12) ?_
    exact zk3 hk25 rfl rfl rfl he
  · have he := zif_f c12 he
    refine zif_n (fun q => c12 ((zo_le (zo_l 36) rfl (by decide) hn11).mp q)) ?_
    obtain ⟨r32, hb13, he⟩ := zb1_e he
    refine (zb1_s (s_Town_heardBy rfl rfl hb13)).trans ?_
    refine zj3_z (m1 := zo) (m2 := zoA) (m3 := zoA) he (fun v_reach_comeCount_34 g_reach_come_all_35 g_reach_far_all_36 he => ?_) (fun k38f k38 hk38 he => ?_)
    · obtain ⟨x37, hx14⟩ : ∃ y : Int, y = l1_26 + (1 : Int) := ⟨_, rfl⟩
      have he := zn_e hx14 he
      refine zn_z (y := zo x37) ((zo_add rfl (zo_l 1)).trans (congrArg zo hx14.symm)) ?_
      exact zk4 hagain30 rfl rfl rfl rfl he
    obtain ⟨hn15, he⟩ := zg_e he
    by_cases c16 : r32 ≤ (0 : Int)
    · have he := zif_t c16 he
      refine zif_p ((zo_le rfl (zo_l 0) hn15 (by decide)).mpr c16) ?_
      exact zk3 hk38 rfl rfl rfl he
    · have he := zif_f c16 he
      refine zif_n (fun q => c16 ((zo_le rfl (zo_l 0) hn15 (by decide)).mp q)) ?_
      obtain ⟨v_reach_comeCount_40, g_reach_come_all_41, g_reach_far_all_42, hb17, he⟩ := zb3_e he
      refine (zb3_s (s_Reach_setOut rfl rfl rfl rfl rfl hb17)).trans ?_
      exact zk3 hk38 rfl rfl rfl he
theorem s_Town_isYardCorner {g_kinds_allf : Nat → Int32} {g_kinds_all : Nat → Int} {p1f : Int32} {p1 : Int} {R0 : Int} (eg_kinds_all : g_kinds_allf = zoA g_kinds_all) (ep1 : p1f = zo p1) (he : g_Town_isYardCorner g_kinds_all p1 = some (R0)) : f_Town_isYardCorner g_kinds_allf p1f = some (zo R0) := by
  subst eg_kinds_all
  subst ep1
  unfold g_Town_isYardCorner at he
  unfold f_Town_isYardCorner
  obtain ⟨r1, hb1, he⟩ := zb1_e he
  refine (zb1_s (s_Town_next rfl rfl (zo_l 0) hb1)).trans ?_
  refine zj1_z (m1 := zo) he (fun s3 he => ?_) (fun k18f k18 hk18 he => ?_)
  · obtain ⟨r4, hb2, he⟩ := zb1_e he
    refine (zb1_s (s_Town_next rfl rfl (zo_l 1) hb2)).trans ?_
    refine zj1_z (m1 := zo) he (fun s6 he => ?_) (fun k12f k12 hk12 he => ?_)
    · obtain ⟨hn3, he⟩ := zg_e he
      by_cases c4 : s3 = (0 : Int)
      · have he := zif_t c4 he
        refine zif_p ((zo_eq rfl (zo_l 0) hn3 (by decide)).mpr c4) ?_
        obtain ⟨rfl⟩ := zi1 he
        exact zs1 (zo_l 0)
      · have he := zif_f c4 he
        refine zif_n (fun q => c4 ((zo_eq rfl (zo_l 0) hn3 (by decide)).mp q)) ?_
        obtain ⟨hn5, he⟩ := zg_e he
        by_cases c6 : s6 = (0 : Int)
        · have he := zif_t c6 he
          refine zif_p ((zo_eq rfl (zo_l 0) hn5 (by decide)).mpr c6) ?_
          obtain ⟨rfl⟩ := zi1 he
          exact zs1 (zo_l 0)
        · have he := zif_f c6 he
          refine zif_n (fun q => c6 ((zo_eq rfl (zo_l 0) hn5 (by decide)).mp q)) ?_
          obtain ⟨r9, hb7, he⟩ := zb1_e he
          refine (zb1_s (s_Town_turnsAreCorners rfl rfl hb7)).trans ?_
          obtain ⟨hn8, he⟩ := zg_e he
          by_cases c9 : r9 = (0 : Int)
          · have he := zif_t c9 he
            refine zif_p ((zo_eq rfl (zo_l 0) hn8 (by decide)).mpr c9) ?_
            obtain ⟨rfl⟩ := zi1 he
            exact zs1 (zo_l 0)
          · have he := zif_f c9 he
            refine zif_n (fun q => c9 ((zo_eq rfl (zo_l 0) hn8 (by decide)).mp q)) ?_
            obtain ⟨rfl⟩ := zi1 he
            exact zs1 (zo_l 1)
    refine zj1_z (m1 := id) he (fun _ he => ?_) (fun k13f k13 hk13 he => ?_)
    · exact zk1 hk12 (zo_l 1) he
    obtain ⟨hn10, he⟩ := zg_e he
    by_cases c11 : r4 = (-1 : Int)
    · have he := zif_t c11 he
      refine zif_p ((zo_eq rfl (zo_ln 1) hn10 (by decide)).mpr c11) ?_
      obtain ⟨r15, hb12, he⟩ := zb1_e he
      refine (zb1_s (s_Town_next rfl rfl (zo_l 2) hb12)).trans ?_
      obtain ⟨hn13, he⟩ := zg_e he
      by_cases c14 : r15 = (-1 : Int)
      · have he := zif_t c14 he
        refine zif_p ((zo_eq rfl (zo_ln 1) hn13 (by decide)).mpr c14) ?_
        exact zk1 hk12 (zo_l 0) he
      · have he := zif_f c14 he
        refine zif_n (fun q => c14 ((zo_eq rfl (zo_ln 1) hn13 (by decide)).mp q)) ?_
        exact zk1 hk13 rfl he
    · have he := zif_f c11 he
      refine zif_n (fun q => c11 ((zo_eq rfl (zo_ln 1) hn10 (by decide)).mp q)) ?_
      exact zk1 hk13 rfl he
  refine zj1_z (m1 := id) he (fun _ he => ?_) (fun k19f k19 hk19 he => ?_)
  · exact zk1 hk18 (zo_l 1) he
  obtain ⟨hn15, he⟩ := zg_e he
  by_cases c16 : r1 = (-1 : Int)
  · have he := zif_t c16 he
    refine zif_p ((zo_eq rfl (zo_ln 1) hn15 (by decide)).mpr c16) ?_
    obtain ⟨r21, hb17, he⟩ := zb1_e he
    refine (zb1_s (s_Town_next rfl rfl (zo_l 3) hb17)).trans ?_
    obtain ⟨hn18, he⟩ := zg_e he
    by_cases c19 : r21 = (-1 : Int)
    · have he := zif_t c19 he
      refine zif_p ((zo_eq rfl (zo_ln 1) hn18 (by decide)).mpr c19) ?_
      exact zk1 hk18 (zo_l 0) he
    · have he := zif_f c19 he
      refine zif_n (fun q => c19 ((zo_eq rfl (zo_ln 1) hn18 (by decide)).mp q)) ?_
      exact zk1 hk19 rfl he
  · have he := zif_f c16 he
    refine zif_n (fun q => c16 ((zo_eq rfl (zo_ln 1) hn15 (by decide)).mp q)) ?_
    exact zk1 hk19 rfl he
theorem s_X_yards {v_reach_comeCountf : Int32} {v_reach_comeCount : Int} {g_reach_come_allf : Nat → Int32} {g_reach_come_all : Nat → Int} {g_reach_far_allf : Nat → Int32} {g_reach_far_all : Nat → Int} {g_refused_allf : Nat → Int32} {g_refused_all : Nat → Int} {g_town_kinds_allf : Nat → Int32} {g_town_kinds_all : Nat → Int} {p1f : Int32} {p1 : Int} {R0 : Int} {R1 : Int} {R2 : Nat → Int} {R3 : Nat → Int} {R4 : Nat → Int} (ev_reach_comeCount : v_reach_comeCountf = zo v_reach_comeCount) (eg_reach_come_all : g_reach_come_allf = zoA g_reach_come_all) (eg_reach_far_all : g_reach_far_allf = zoA g_reach_far_all) (eg_refused_all : g_refused_allf = zoA g_refused_all) (eg_town_kinds_all : g_town_kinds_allf = zoA g_town_kinds_all) (ep1 : p1f = zo p1) (he : g_X_yards v_reach_comeCount g_reach_come_all g_reach_far_all g_refused_all g_town_kinds_all p1 = some (R0, R1, R2, R3, R4)) : f_X_yards v_reach_comeCountf g_reach_come_allf g_reach_far_allf g_refused_allf g_town_kinds_allf p1f = some (zo R0, zo R1, zoA R2, zoA R3, zoA R4) := by
  subst ev_reach_comeCount
  subst eg_reach_come_all
  subst eg_reach_far_all
  subst eg_refused_all
  subst eg_town_kinds_all
  subst ep1
  unfold g_X_yards at he
  unfold f_X_yards
  obtain ⟨r1, hb1, he⟩ := zb1_e he
  refine (zb1_s (s_X_isSquare rfl hb1)).trans ?_
  obtain ⟨hn2, he⟩ := zg_e he
  by_cases c3 : r1 = (0 : Int)
  · have he := zif_t c3 he
    refine zif_p ((zo_eq rfl (zo_l 0) hn2 (by decide)).mpr c3) ?_
    obtain ⟨r24, g_refused_all_25, hb4, he⟩ := zb2_e he
    refine (zb2_s (s_X_refuse rfl (zo_ln 1) hb4)).trans ?_
    obtain ⟨rfl, rfl, rfl, rfl, rfl⟩ := zi5 he
    exact zs5 rfl rfl rfl rfl rfl
  · have he := zif_f c3 he
    refine zif_n (fun q => c3 ((zo_eq rfl (zo_l 0) hn2 (by decide)).mp q)) ?_
    obtain ⟨v_reach_comeCount_4, g_reach_come_all_5, g_reach_far_all_6, hb5, he⟩ := zb3_e he
    refine (zb3_s (s_Reach_spreadFrom rfl rfl rfl rfl rfl hb5)).trans ?_
    refine zl2_z (m1 := zo) (m2 := zo) (zo_ln 9) (zo_l 0) he (fun l2_8 l3_9 again10f again10 hagain10 he => ?_)
    obtain ⟨hn6, he⟩ := zg_e he
    by_cases c7 : (36 : Int) ≤ l3_9
    · have he := zif_t c7 he
      refine zif_p ((zo_le (zo_l 36) rfl (by decide) hn6).mpr c7) ?_
      obtain ⟨rfl, rfl, rfl, rfl, rfl⟩ := zi5 he
      exact zs5 rfl rfl rfl rfl rfl
    · have he := zif_f c7 he
      refine zif_n (fun q => c7 ((zo_le (zo_l 36) rfl (by decide) hn6).mp q)) ?_
      obtain ⟨r12, hb8, he⟩ := zb1_e he
      refine (zb1_s (s_Reach_stepsTo rfl rfl hb8)).trans ?_
      refine zj1_z (m1 := zo) he (fun l2_14 he => ?_) (fun k16f k16 hk16 he => ?_)
      · obtain ⟨x15, hx9⟩ : ∃ y : Int, y = l3_9 + (1 : Int) := ⟨_, rfl⟩
        have he := zn_e hx9 he
        refine zn_z (y := zo x15) ((zo_add rfl (zo_l 1)).trans (congrArg zo hx9.symm)) ?_
        exact zk2 hagain10 rfl rfl he
      obtain ⟨hn10, he⟩ := zg_e he
      by_cases c11 : r12 < (0 : Int)
      · have he := zif_t c11 he
        refine zif_p ((zo_lt rfl (zo_l 0) hn10 (by decide)).mpr c11) ?_
        exact zk1 hk16 rfl he
      · have he := zif_f c11 he
        refine zif_n (fun q => c11 ((zo_lt rfl (zo_l 0) hn10 (by decide)).mp q)) ?_
        obtain ⟨r18, hb12, he⟩ := zb1_e he
        refine (zb1_s (s_Town_isYardCorner rfl rfl hb12)).trans ?_
        obtain ⟨hn13, he⟩ := zg_e he
        by_cases c14 : r18 = (0 : Int)
        · have he := zif_t c14 he
          refine zif_p ((zo_eq rfl (zo_l 0) hn13 (by decide)).mpr c14) ?_
          exact zk1 hk16 rfl he
        · have he := zif_f c14 he
          refine zif_n (fun q => c14 ((zo_eq rfl (zo_l 0) hn13 (by decide)).mp q)) ?_
          refine zj1_z (m1 := id) he (fun _ he => ?_) (fun k21f k21 hk21 he => ?_)
          · exact zk1 hk16 rfl he
          obtain ⟨hn15, he⟩ := zg_e he
          by_cases c16 : l2_8 = (-9 : Int)
          · have he := zif_t c16 he
            refine zif_p ((zo_eq rfl (zo_ln 9) hn15 (by decide)).mpr c16) ?_
            exact zk1 hk21 rfl he
          · have he := zif_f c16 he
            refine zif_n (fun q => c16 ((zo_eq rfl (zo_ln 9) hn15 (by decide)).mp q)) ?_
            by_cases c17 : l2_8 ≤ r12
            · have he := zif_t c17 he
              refine zif_p ((zo_le rfl rfl hn15 hn10).mpr c17) ?_
              exact zk1 hk16 rfl he
            · have he := zif_f c17 he
              refine zif_n (fun q => c17 ((zo_le rfl rfl hn15 hn10).mp q)) ?_
              exact zk1 hk21 rfl he
theorem s_Talks_fitsBefore {g_now_allf : Nat → Int32} {g_now_all : Nat → Int} {g_town_kinds_allf : Nat → Int32} {g_town_kinds_all : Nat → Int} {p1f : Int32} {p1 : Int} {p2f : Int32} {p2 : Int} {R0 : Int} (eg_now_all : g_now_allf = zoA g_now_all) (eg_town_kinds_all : g_town_kinds_allf = zoA g_town_kinds_all) (ep1 : p1f = zo p1) (ep2 : p2f = zo p2) (he : g_Talks_fitsBefore g_now_all g_town_kinds_all p1 p2 = some (R0)) : f_Talks_fitsBefore g_now_allf g_town_kinds_allf p1f p2f = some (zo R0) := by
  subst eg_now_all
  subst eg_town_kinds_all
  subst ep1
  subst ep2
  unfold g_Talks_fitsBefore at he
  unfold f_Talks_fitsBefore
  obtain ⟨hn1, he⟩ := zg_e he
  obtain ⟨x1, hx2⟩ : ∃ y : Int, y = p1 / (5 : Int) := ⟨_, rfl⟩
  have he := zn_e hx2 he
  refine zn_z (y := zo x1) ((zo_div rfl (zo_l 5) hn1 (by decide)).trans (congrArg zo hx2.symm)) ?_
  obtain ⟨r2, hb3, he⟩ := zb1_e he
  refine (zb1_s (s_Town_canBe rfl rfl hb3)).trans ?_
  obtain ⟨hn4, he⟩ := zg_e he
  by_cases c5 : r2 = (0 : Int)
  · have he := zif_t c5 he
    refine zif_p ((zo_eq rfl (zo_l 0) hn4 (by decide)).mpr c5) ?_
    obtain ⟨rfl⟩ := zi1 he
    exact zs1 (zo_l 0)
  · have he := zif_f c5 he
    refine zif_n (fun q => c5 ((zo_eq rfl (zo_l 0) hn4 (by decide)).mp q)) ?_
    refine zl1_z (m1 := zo) (zo_l 0) he (fun l4_5 again6f again6 hagain6 he => ?_)
    obtain ⟨hn6, he⟩ := zg_e he
    by_cases c7 : (4 : Int) ≤ l4_5
    · have he := zif_t c7 he
      refine zif_p ((zo_le (zo_l 4) rfl (by decide) hn6).mpr c7) ?_
      obtain ⟨rfl⟩ := zi1 he
      exact zs1 (zo_l 0)
    · have he := zif_f c7 he
      refine zif_n (fun q => c7 ((zo_le (zo_l 4) rfl (by decide) hn6).mp q)) ?_
      obtain ⟨r8, hb8, he⟩ := zb1_e he
      refine (zb1_s (s_Town_next rfl rfl rfl hb8)).trans ?_
      obtain ⟨r10, hb9, he⟩ := zb1_e he
      refine (zb1_s (s_Town_isCorner rfl rfl (zo_rem rfl (zo_l 5) hn1 (by decide)) rfl hb9)).trans ?_
      refine zj1_z (m1 := zo) he (fun s12 he => ?_) (fun k20f k20 hk20 he => ?_)
      · refine zj1_z (m1 := id) he (fun _ he => ?_) (fun k14f k14 hk14 he => ?_)
        · obtain ⟨x13, hx10⟩ : ∃ y : Int, y = l4_5 + (1 : Int) := ⟨_, rfl⟩
          have he := zn_e hx10 he
          refine zn_z (y := zo x13) ((zo_add rfl (zo_l 1)).trans (congrArg zo hx10.symm)) ?_
          exact zk1 hagain6 rfl he
        obtain ⟨hn11, he⟩ := zg_e he
        by_cases c12 : r8 = (-1 : Int)
        · have he := zif_t c12 he
          refine zif_p ((zo_eq rfl (zo_ln 1) hn11 (by decide)).mpr c12) ?_
          exact zk1 hk14 rfl he
        · have he := zif_f c12 he
          refine zif_n (fun q => c12 ((zo_eq rfl (zo_ln 1) hn11 (by decide)).mp q)) ?_
          obtain ⟨hn13, he⟩ := zg_e he
          obtain ⟨hn14, he⟩ := zg_e he
          by_cases c15 : s12 = p2
          · have he := zif_t c15 he
            refine zif_p ((zo_eq rfl rfl hn13 hn14).mpr c15) ?_
            obtain ⟨r17, hb16, he⟩ := zb1_e he
            refine (zb1_s (s_Numbers_at rfl (zo_add (zo_mul rfl (zo_l 5)) rfl) hb16)).trans ?_
            obtain ⟨hn17, he⟩ := zg_e he
            by_cases c18 : r17 = (1 : Int)
            · have he := zif_t c18 he
              refine zif_p ((zo_eq rfl (zo_l 1) hn17 (by decide)).mpr c18) ?_
              obtain ⟨rfl⟩ := zi1 he
              exact zs1 (zo_l 1)
            · have he := zif_f c18 he
              refine zif_n (fun q => c18 ((zo_eq rfl (zo_l 1) hn17 (by decide)).mp q)) ?_
              exact zk1 hk14 rfl he
          · have he := zif_f c15 he
            refine zif_n (fun q => c15 ((zo_eq rfl rfl hn13 hn14).mp q)) ?_
            exact zk1 hk14 rfl he
      obtain ⟨hn19, he⟩ := zg_e he
      by_cases c20 : r10 = (0 : Int)
      · have he := zif_t c20 he
        refine zif_p ((zo_eq rfl (zo_l 0) hn19 (by decide)).mpr c20) ?_
        obtain ⟨r22, hb21, he⟩ := zb1_e he
        refine (zb1_s (s_Town_wordsOn rfl rfl hb21)).trans ?_
        exact zk1 hk20 rfl he
      · have he := zif_f c20 he
        refine zif_n (fun q => c20 ((zo_eq rfl (zo_l 0) hn19 (by decide)).mp q)) ?_
        exact zk1 hk20 (zo_l 0) he
theorem s_Talks_fitAll {n_p1 : Nat} {g_p1_allf : Nat → Int32} {g_p1_all : Nat → Int} {g_now_allf : Nat → Int32} {g_now_all : Nat → Int} {g_then_allf : Nat → Int32} {g_then_all : Nat → Int} {g_town_kinds_allf : Nat → Int32} {g_town_kinds_all : Nat → Int} {p2f : Int32} {p2 : Int} {R0 : Nat → Int} {R1 : Nat → Int} (eg_p1_all : g_p1_allf = zoA g_p1_all) (eg_now_all : g_now_allf = zoA g_now_all) (eg_then_all : g_then_allf = zoA g_then_all) (eg_town_kinds_all : g_town_kinds_allf = zoA g_town_kinds_all) (ep2 : p2f = zo p2) (he : g_Talks_fitAll n_p1 g_p1_all g_now_all g_then_all g_town_kinds_all p2 = some (R0, R1)) : f_Talks_fitAll n_p1 g_p1_allf g_now_allf g_then_allf g_town_kinds_allf p2f = some (zoA R0, zoA R1) := by
  subst eg_p1_all
  subst eg_now_all
  subst eg_then_all
  subst eg_town_kinds_all
  subst ep2
  unfold g_Talks_fitAll at he
  unfold f_Talks_fitAll
  refine zj1_z (m1 := zoA) he (fun g_now_all_1 he => ?_) (fun k27f k27 hk27 he => ?_)
  · obtain ⟨x2, hx1⟩ : ∃ y : Int, y = p2 - (2 : Int) := ⟨_, rfl⟩
    have he := zn_e hx1 he
    refine zn_z (y := zo x2) ((zo_sub rfl (zo_l 2)).trans (congrArg zo hx1.symm)) ?_
    refine zl3_z (m1 := zo) (m2 := zoA) (m3 := zoA) rfl rfl rfl he (fun l3_3 g_now_all_4 g_then_all_5 again6f again6 hagain6 he => ?_)
    obtain ⟨hn2, he⟩ := zg_e he
    by_cases c3 : l3_3 < (0 : Int)
    · have he := zif_t c3 he
      refine zif_p ((zo_lt rfl (zo_l 0) hn2 (by decide)).mpr c3) ?_
      obtain ⟨rfl, rfl⟩ := zi2 he
      exact zs2 rfl rfl
    · have he := zif_f c3 he
      refine zif_n (fun q => c3 ((zo_lt rfl (zo_l 0) hn2 (by decide)).mp q)) ?_
      refine zj1_z (m1 := zoA) he (fun g_then_all_8 he => ?_) (fun k12f k12 hk12 he => ?_)
      · obtain ⟨g_now_all_9, hb4, he⟩ := zb1_e he
        refine (zb1_s (s_Numbers_takeOver rfl rfl hb4)).trans ?_
        obtain ⟨x11, hx5⟩ : ∃ y : Int, y = l3_3 + (-1 : Int) := ⟨_, rfl⟩
        have he := zn_e hx5 he
        refine zn_z (y := zo x11) ((zo_add rfl (zo_ln 1)).trans (congrArg zo hx5.symm)) ?_
        exact zk3 hagain6 rfl rfl rfl he
      refine zl2_z (m1 := zo) (m2 := zoA) (zo_l 0) rfl he (fun l4_13 g_then_all_14 again15f again15 hagain15 he => ?_)
      obtain ⟨hn6, he⟩ := zg_e he
      by_cases c7 : (180 : Int) ≤ l4_13
      · have he := zif_t c7 he
        refine zif_p ((zo_le (zo_l 180) rfl (by decide) hn6).mpr c7) ?_
        exact zk1 hk12 rfl he
      · have he := zif_f c7 he
        refine zif_n (fun q => c7 ((zo_le (zo_l 180) rfl (by decide) hn6).mp q)) ?_
        obtain ⟨r17, hb8, he⟩ := zb1_e he
        refine (zb1_s (s_Numbers_at rfl rfl hb8)).trans ?_
        obtain ⟨r19, hb9, he⟩ := zb1_e he
        refine (zb1_s (s_Talks_fitsBefore rfl rfl rfl rfl hb9)).trans ?_
        refine zj1_z (m1 := zo) he (fun s21 he => ?_) (fun k25f k25 hk25 he => ?_)
        · obtain ⟨g_then_all_22, hb10, he⟩ := zb1_e he
          refine (zb1_s (s_Numbers_put rfl rfl rfl hb10)).trans ?_
          obtain ⟨x24, hx11⟩ : ∃ y : Int, y = l4_13 + (1 : Int) := ⟨_, rfl⟩
          have he := zn_e hx11 he
          refine zn_z (y := zo x24) ((zo_add rfl (zo_l 1)).trans (congrArg zo hx11.symm)) ?_
          exact zk2 hagain15 rfl rfl he
        obtain ⟨hn12, he⟩ := zg_e he
        by_cases c13 : r19 = (0 : Int)
        · have he := zif_t c13 he
          refine zif_p ((zo_eq rfl (zo_l 0) hn12 (by decide)).mpr c13) ?_
          exact zk1 hk25 (zo_ln 1) he
        · have he := zif_f c13 he
          refine zif_n (fun q => c13 ((zo_eq rfl (zo_l 0) hn12 (by decide)).mp q)) ?_
          exact zk1 hk25 (zo_l 1) he
  refine zl2_z (m1 := zo) (m2 := zoA) (zo_l 0) rfl he (fun l3_28 g_now_all_29 again30f again30 hagain30 he => ?_)
  obtain ⟨hn14, he⟩ := zg_e he
  by_cases c15 : (180 : Int) ≤ l3_28
  · have he := zif_t c15 he
    refine zif_p ((zo_le (zo_l 180) rfl (by decide) hn14).mpr c15) ?_
    exact zk1 hk27 rfl he
  · have he := zif_f c15 he
    refine zif_n (fun q => c15 ((zo_le (zo_l 180) rfl (by decide) hn14).mp q)) ?_
    obtain ⟨hn16, he⟩ := zg_e he
    obtain ⟨x32, hx17⟩ : ∃ y : Int, y = l3_28 / (5 : Int) := ⟨_, rfl⟩
    have he := zn_e hx17 he
    refine zn_z (y := zo x32) ((zo_div rfl (zo_l 5) hn16 (by decide)).trans (congrArg zo hx17.symm)) ?_
    obtain ⟨r33, hb18, he⟩ := zb1_e he
    refine (zb1_s (s_Town_canBe rfl rfl hb18)).trans ?_
    refine zj1_z (m1 := zo) he (fun s35 he => ?_) (fun k42f k42 hk42 he => ?_)
    · refine zj1_z (m1 := zo) he (fun s36 he => ?_) (fun k40f k40 hk40 he => ?_)
      · obtain ⟨g_now_all_37, hb19, he⟩ := zb1_e he
        refine (zb1_s (s_Numbers_put rfl rfl rfl hb19)).trans ?_
        obtain ⟨x39, hx20⟩ : ∃ y : Int, y = l3_28 + (1 : Int) := ⟨_, rfl⟩
        have he := zn_e hx20 he
        refine zn_z (y := zo x39) ((zo_add rfl (zo_l 1)).trans (congrArg zo hx20.symm)) ?_
        exact zk2 hagain30 rfl rfl he
      obtain ⟨hn21, he⟩ := zg_e he
      by_cases c22 : s35 = (0 : Int)
      · have he := zif_t c22 he
        refine zif_p ((zo_eq rfl (zo_l 0) hn21 (by decide)).mpr c22) ?_
        exact zk1 hk40 (zo_ln 1) he
      · have he := zif_f c22 he
        refine zif_n (fun q => c22 ((zo_eq rfl (zo_l 0) hn21 (by decide)).mp q)) ?_
        exact zk1 hk40 (zo_l 1) he
    refine zj1_z (m1 := id) he (fun _ he => ?_) (fun k43f k43 hk43 he => ?_)
    · exact zk1 hk42 (zo_l 0) he
    obtain ⟨hn23, he⟩ := zg_e he
    by_cases c24 : r33 = (0 : Int)
    · have he := zif_t c24 he
      refine zif_p ((zo_eq rfl (zo_l 0) hn23 (by decide)).mpr c24) ?_
      exact zk1 hk43 rfl he
    · have he := zif_f c24 he
      refine zif_n (fun q => c24 ((zo_eq rfl (zo_l 0) hn23 (by decide)).mp q)) ?_
      obtain ⟨r45, hb25, he⟩ := zb1_e he
      refine (zb1_s (s_Town_wordsOn rfl rfl hb25)).trans ?_
      obtain ⟨r47, hb26, he⟩ := zb1_e he
      refine (zb1_s (s_Numbers_at rfl (zo_sub rfl (zo_l 1)) hb26)).trans ?_
      obtain ⟨hn27, he⟩ := zg_e he
      obtain ⟨hn28, he⟩ := zg_e he
      by_cases c29 : r45 = r47
      · have he := zif_t c29 he
        refine zif_p ((zo_eq rfl rfl hn27 hn28).mpr c29) ?_
        exact zk1 hk42 (zo_l 1) he
      · have he := zif_f c29 he
        refine zif_n (fun q => c29 ((zo_eq rfl rfl hn27 hn28).mp q)) ?_
        exact zk1 hk43 rfl he
theorem s_Talks_canStart {g_now_allf : Nat → Int32} {g_now_all : Nat → Int} {p1f : Int32} {p1 : Int} {R0 : Int} (eg_now_all : g_now_allf = zoA g_now_all) (ep1 : p1f = zo p1) (he : g_Talks_canStart g_now_all p1 = some (R0)) : f_Talks_canStart g_now_allf p1f = some (zo R0) := by
  subst eg_now_all
  subst ep1
  unfold g_Talks_canStart at he
  unfold f_Talks_canStart
  obtain ⟨r1, hb1, he⟩ := zb1_e he
  refine (zb1_s (s_Numbers_at rfl (zo_add (zo_mul rfl (zo_l 5)) (zo_l 4)) hb1)).trans ?_
  obtain ⟨hn2, he⟩ := zg_e he
  by_cases c3 : r1 = (1 : Int)
  · have he := zif_t c3 he
    refine zif_p ((zo_eq rfl (zo_l 1) hn2 (by decide)).mpr c3) ?_
    obtain ⟨rfl⟩ := zi1 he
    exact zs1 (zo_l 1)
  · have he := zif_f c3 he
    refine zif_n (fun q => c3 ((zo_eq rfl (zo_l 1) hn2 (by decide)).mp q)) ?_
    obtain ⟨rfl⟩ := zi1 he
    exact zs1 (zo_l 0)
theorem s_X_said {v_toldCountf : Int32} {v_toldCount : Int} {g_refused_allf : Nat → Int32} {g_refused_all : Nat → Int} {g_talks_now_allf : Nat → Int32} {g_talks_now_all : Nat → Int} {g_talks_then_allf : Nat → Int32} {g_talks_then_all : Nat → Int} {g_told_allf : Nat → Int32} {g_told_all : Nat → Int} {g_town_kinds_allf : Nat → Int32} {g_town_kinds_all : Nat → Int} {p1f : Int32} {p1 : Int} {R0 : Int} {R1 : Nat → Int} {R2 : Nat → Int} {R3 : Nat → Int} (ev_toldCount : v_toldCountf = zo v_toldCount) (eg_refused_all : g_refused_allf = zoA g_refused_all) (eg_talks_now_all : g_talks_now_allf = zoA g_talks_now_all) (eg_talks_then_all : g_talks_then_allf = zoA g_talks_then_all) (eg_told_all : g_told_allf = zoA g_told_all) (eg_town_kinds_all : g_town_kinds_allf = zoA g_town_kinds_all) (ep1 : p1f = zo p1) (he : g_X_said v_toldCount g_refused_all g_talks_now_all g_talks_then_all g_told_all g_town_kinds_all p1 = some (R0, R1, R2, R3)) : f_X_said v_toldCountf g_refused_allf g_talks_now_allf g_talks_then_allf g_told_allf g_town_kinds_allf p1f = some (zo R0, zoA R1, zoA R2, zoA R3) := by
  subst ev_toldCount
  subst eg_refused_all
  subst eg_talks_now_all
  subst eg_talks_then_all
  subst eg_told_all
  subst eg_town_kinds_all
  subst ep1
  unfold g_X_said at he
  unfold f_X_said
  refine zj1_z (m1 := id) he (fun _ he => ?_) (fun k4f k4 hk4 he => ?_)
  · obtain ⟨r1, g_refused_all_2, hb1, he⟩ := zb2_e he
    refine (zb2_s (s_X_refuse rfl (zo_ln 2) hb1)).trans ?_
    obtain ⟨rfl, rfl, rfl, rfl⟩ := zi4 he
    exact zs4 rfl rfl rfl rfl
  obtain ⟨hn2, he⟩ := zg_e he
  by_cases c3 : p1 < (0 : Int)
  · have he := zif_t c3 he
    refine zif_p ((zo_lt rfl (zo_l 0) hn2 (by decide)).mpr c3) ?_
    exact zk1 hk4 rfl he
  · have he := zif_f c3 he
    refine zif_n (fun q => c3 ((zo_lt rfl (zo_l 0) hn2 (by decide)).mp q)) ?_
    by_cases c4 : p1 ≤ (1 : Int)
    · have he := zif_t c4 he
      refine zif_p ((zo_le rfl (zo_l 1) hn2 (by decide)).mpr c4) ?_
      obtain ⟨hn5, he⟩ := zg_e he
      by_cases c6 : v_toldCount = (0 : Int)
      · have he := zif_t c6 he
        refine zif_p ((zo_eq rfl (zo_l 0) hn5 (by decide)).mpr c6) ?_
        obtain ⟨r28, g_refused_all_29, hb7, he⟩ := zb2_e he
        refine (zb2_s (s_X_refuse rfl (zo_ln 3) hb7)).trans ?_
        obtain ⟨rfl, rfl, rfl, rfl⟩ := zi4 he
        exact zs4 rfl rfl rfl rfl
      · have he := zif_f c6 he
        refine zif_n (fun q => c6 ((zo_eq rfl (zo_l 0) hn5 (by decide)).mp q)) ?_
        obtain ⟨g_talks_now_all_8, g_talks_then_all_9, hb8, he⟩ := zb2_e he
        refine (zb2_s (s_Talks_fitAll rfl rfl rfl rfl rfl hb8)).trans ?_
        refine zj2_z (m1 := zo) (m2 := zo) he (fun l2_11 l3_12 he => ?_) (fun k14f k14 hk14 he => ?_)
        · by_cases c9 : p1 = (0 : Int)
          · have he := zif_t c9 he
            refine zif_p ((zo_eq rfl (zo_l 0) hn2 (by decide)).mpr c9) ?_
            obtain ⟨rfl, rfl, rfl, rfl⟩ := zi4 he
            exact zs4 rfl rfl rfl rfl
          · have he := zif_f c9 he
            refine zif_n (fun q => c9 ((zo_eq rfl (zo_l 0) hn2 (by decide)).mp q)) ?_
            obtain ⟨rfl, rfl, rfl, rfl⟩ := zi4 he
            exact zs4 rfl rfl rfl rfl
        refine zl3_z (m1 := zo) (m2 := zo) (m3 := zo) (zo_l 0) (zo_ln 9) (zo_l 35) he (fun l2_15 l3_16 l4_17 again18f again18 hagain18 he => ?_)
        obtain ⟨hn10, he⟩ := zg_e he
        by_cases c11 : l4_17 < (0 : Int)
        · have he := zif_t c11 he
          refine zif_p ((zo_lt rfl (zo_l 0) hn10 (by decide)).mpr c11) ?_
          exact zk2 hk14 rfl rfl he
        · have he := zif_f c11 he
          refine zif_n (fun q => c11 ((zo_lt rfl (zo_l 0) hn10 (by decide)).mp q)) ?_
          obtain ⟨r20, hb12, he⟩ := zb1_e he
          refine (zb1_s (s_Talks_canStart rfl rfl hb12)).trans ?_
          refine zj2_z (m1 := zo) (m2 := zo) he (fun l2_22 l3_23 he => ?_) (fun k25f k25 hk25 he => ?_)
          · obtain ⟨x24, hx13⟩ : ∃ y : Int, y = l4_17 + (-1 : Int) := ⟨_, rfl⟩
            have he := zn_e hx13 he
            refine zn_z (y := zo x24) ((zo_add rfl (zo_ln 1)).trans (congrArg zo hx13.symm)) ?_
            exact zk3 hagain18 rfl rfl rfl he
          obtain ⟨hn14, he⟩ := zg_e he
          by_cases c15 : r20 = (0 : Int)
          · have he := zif_t c15 he
            refine zif_p ((zo_eq rfl (zo_l 0) hn14 (by decide)).mpr c15) ?_
            exact zk2 hk25 rfl rfl he
          · have he := zif_f c15 he
            refine zif_n (fun q => c15 ((zo_eq rfl (zo_l 0) hn14 (by decide)).mp q)) ?_
            obtain ⟨x27, hx16⟩ : ∃ y : Int, y = l2_15 + (1 : Int) := ⟨_, rfl⟩
            have he := zn_e hx16 he
            refine zn_z (y := zo x27) ((zo_add rfl (zo_l 1)).trans (congrArg zo hx16.symm)) ?_
            exact zk2 hk25 rfl rfl he
    · have he := zif_f c4 he
      refine zif_n (fun q => c4 ((zo_le rfl (zo_l 1) hn2 (by decide)).mp q)) ?_
      exact zk1 hk4 rfl he
theorem s_X_row {v_toldCountf : Int32} {v_toldCount : Int} {g_refused_allf : Nat → Int32} {g_refused_all : Nat → Int} {g_told_allf : Nat → Int32} {g_told_all : Nat → Int} {p1f : Int32} {p1 : Int} {R0 : Int} {R1 : Int} {R2 : Nat → Int} {R3 : Nat → Int} (ev_toldCount : v_toldCountf = zo v_toldCount) (eg_refused_all : g_refused_allf = zoA g_refused_all) (eg_told_all : g_told_allf = zoA g_told_all) (ep1 : p1f = zo p1) (he : g_X_row v_toldCount g_refused_all g_told_all p1 = some (R0, R1, R2, R3)) : f_X_row v_toldCountf g_refused_allf g_told_allf p1f = some (zo R0, zo R1, zoA R2, zoA R3) := by
  subst ev_toldCount
  subst eg_refused_all
  subst eg_told_all
  subst ep1
  unfold g_X_row at he
  unfold f_X_row
  obtain ⟨hn1, he⟩ := zg_e he
  by_cases c2 : (0 : Int) ≤ p1
  · have he := zif_t c2 he
    refine zif_p ((zo_le (zo_l 0) rfl (by decide) hn1).mpr c2) ?_
    refine zj1_z (m1 := id) he (fun _ he => ?_) (fun k5f k5 hk5 he => ?_)
    · obtain ⟨r2, g_refused_all_3, hb3, he⟩ := zb2_e he
      refine (zb2_s (s_X_refuse rfl (zo_ln 6) hb3)).trans ?_
      obtain ⟨rfl, rfl, rfl, rfl⟩ := zi4 he
      exact zs4 rfl rfl rfl rfl
    by_cases c4 : (9 : Int) < p1
    · have he := zif_t c4 he
      refine zif_p ((zo_lt (zo_l 9) rfl (by decide) hn1).mpr c4) ?_
      exact zk1 hk5 rfl he
    · have he := zif_f c4 he
      refine zif_n (fun q => c4 ((zo_lt (zo_l 9) rfl (by decide) hn1).mp q)) ?_
      obtain ⟨hn5, he⟩ := zg_e he
      by_cases c6 : v_toldCount < (20 : Int)
      · have he := zif_t c6 he
        refine zif_p ((zo_lt rfl (zo_l 20) hn5 (by decide)).mpr c6) ?_
        obtain ⟨g_told_all_8, hb7, he⟩ := zb1_e he
        refine (zb1_s (s_Numbers_put rfl rfl rfl hb7)).trans ?_
        obtain ⟨x10, hx8⟩ : ∃ y : Int, y = v_toldCount + (1 : Int) := ⟨_, rfl⟩
        have he := zn_e hx8 he
        refine zn_z (y := zo x10) ((zo_add rfl (zo_l 1)).trans (congrArg zo hx8.symm)) ?_
        obtain ⟨rfl, rfl, rfl, rfl⟩ := zi4 he
        exact zs4 rfl rfl rfl rfl
      · have he := zif_f c6 he
        refine zif_n (fun q => c6 ((zo_lt rfl (zo_l 20) hn5 (by decide)).mp q)) ?_
        exact zk1 hk5 rfl he
  · have he := zif_f c2 he
    refine zif_n (fun q => c2 ((zo_le (zo_l 0) rfl (by decide) hn1).mp q)) ?_
    obtain ⟨r11, g_refused_all_12, hb9, he⟩ := zb2_e he
    refine (zb2_s (s_X_refuse rfl (zo_ln 4) hb9)).trans ?_
    obtain ⟨rfl, rfl, rfl, rfl⟩ := zi4 he
    exact zs4 rfl rfl rfl rfl
theorem s_X_judge {v_toldCountf : Int32} {v_toldCount : Int} {g_refused_allf : Nat → Int32} {g_refused_all : Nat → Int} {v_stroll_allCornersf : Int32} {v_stroll_allCorners : Int} {v_stroll_allCutsf : Int32} {v_stroll_allCuts : Int} {v_stroll_allWordsf : Int32} {v_stroll_allWords : Int} {v_stroll_camef : Int32} {v_stroll_came : Int} {v_stroll_longestRunf : Int32} {v_stroll_longestRun : Int} {v_stroll_runf : Int32} {v_stroll_run : Int} {v_stroll_squaref : Int32} {v_stroll_square : Int} {g_stroll_spoken_allf : Nat → Int32} {g_stroll_spoken_all : Nat → Int} {g_told_allf : Nat → Int32} {g_told_all : Nat → Int} {v_town_breathf : Int32} {v_town_breath : Int} {v_town_homef : Int32} {v_town_home : Int} {g_town_kinds_allf : Nat → Int32} {g_town_kinds_all : Nat → Int} {R0 : Int} {R1 : Int} {R2 : Nat → Int} {R3 : Int} {R4 : Int} {R5 : Int} {R6 : Int} {R7 : Int} {R8 : Int} {R9 : Int} {R10 : Nat → Int} (ev_toldCount : v_toldCountf = zo v_toldCount) (eg_refused_all : g_refused_allf = zoA g_refused_all) (ev_stroll_allCorners : v_stroll_allCornersf = zo v_stroll_allCorners) (ev_stroll_allCuts : v_stroll_allCutsf = zo v_stroll_allCuts) (ev_stroll_allWords : v_stroll_allWordsf = zo v_stroll_allWords) (ev_stroll_came : v_stroll_camef = zo v_stroll_came) (ev_stroll_longestRun : v_stroll_longestRunf = zo v_stroll_longestRun) (ev_stroll_run : v_stroll_runf = zo v_stroll_run) (ev_stroll_square : v_stroll_squaref = zo v_stroll_square) (eg_stroll_spoken_all : g_stroll_spoken_allf = zoA g_stroll_spoken_all) (eg_told_all : g_told_allf = zoA g_told_all) (ev_town_breath : v_town_breathf = zo v_town_breath) (ev_town_home : v_town_homef = zo v_town_home) (eg_town_kinds_all : g_town_kinds_allf = zoA g_town_kinds_all) (he : g_X_judge v_toldCount g_refused_all v_stroll_allCorners v_stroll_allCuts v_stroll_allWords v_stroll_came v_stroll_longestRun v_stroll_run v_stroll_square g_stroll_spoken_all g_told_all v_town_breath v_town_home g_town_kinds_all = some (R0, R1, R2, R3, R4, R5, R6, R7, R8, R9, R10)) : f_X_judge v_toldCountf g_refused_allf v_stroll_allCornersf v_stroll_allCutsf v_stroll_allWordsf v_stroll_camef v_stroll_longestRunf v_stroll_runf v_stroll_squaref g_stroll_spoken_allf g_told_allf v_town_breathf v_town_homef g_town_kinds_allf = some (zo R0, zo R1, zoA R2, zo R3, zo R4, zo R5, zo R6, zo R7, zo R8, zo R9, zoA R10) := by
  subst ev_toldCount
  subst eg_refused_all
  subst ev_stroll_allCorners
  subst ev_stroll_allCuts
  subst ev_stroll_allWords
  subst ev_stroll_came
  subst ev_stroll_longestRun
  subst ev_stroll_run
  subst ev_stroll_square
  subst eg_stroll_spoken_all
  subst eg_told_all
  subst ev_town_breath
  subst ev_town_home
  subst eg_town_kinds_all
  unfold g_X_judge at he
  unfold f_X_judge
  obtain ⟨r1, hb1, he⟩ := zb1_e he
  refine (zb1_s (s_X_isRowOfWays rfl rfl hb1)).trans ?_
  obtain ⟨hn2, he⟩ := zg_e he
  by_cases c3 : r1 = (0 : Int)
  · have he := zif_t c3 he
    refine zif_p ((zo_eq rfl (zo_l 0) hn2 (by decide)).mpr c3) ?_
    obtain ⟨r14, g_refused_all_15, hb4, he⟩ := zb2_e he
    refine (zb2_s (s_X_refuse rfl (zo_ln 3) hb4)).trans ?_
    obtain ⟨rfl, rfl, rfl, rfl, rfl, rfl, rfl, rfl, rfl, rfl, rfl⟩ := zi11 he
    exact zs11 rfl rfl rfl rfl rfl rfl rfl rfl rfl rfl rfl
  · have he := zif_f c3 he
    refine zif_n (fun q => c3 ((zo_eq rfl (zo_l 0) hn2 (by decide)).mp q)) ?_
    obtain ⟨r4, v_stroll_allCorners_5, v_stroll_allCuts_6, v_stroll_allWords_7, v_stroll_came_8, v_stroll_longestRun_9, v_stroll_run_10, v_stroll_square_11, g_stroll_spoken_all_12, hb5, he⟩ := zb9_e he
    refine (zb9_s (s_X_goTheRow rfl rfl rfl rfl rfl rfl rfl rfl rfl rfl rfl rfl rfl hb5)).trans ?_
    obtain ⟨rfl, rfl, rfl, rfl, rfl, rfl, rfl, rfl, rfl, rfl, rfl⟩ := zi11 he
    exact zs11 rfl (zo_l 0) rfl rfl rfl rfl rfl rfl rfl rfl rfl
theorem s_X_clear {v_toldCountf : Int32} {v_toldCount : Int} {R0 : Int} {R1 : Int} (ev_toldCount : v_toldCountf = zo v_toldCount) (he : g_X_clear v_toldCount = some (R0, R1)) : f_X_clear v_toldCountf = some (zo R0, zo R1) := by
  subst ev_toldCount
  unfold g_X_clear at he
  unfold f_X_clear
  obtain ⟨rfl, rfl⟩ := zi2 he
  exact zs2 rfl (zo_l 0)
theorem s_X_lots {g_refused_allf : Nat → Int32} {g_refused_all : Nat → Int} {v_stroll_allCornersf : Int32} {v_stroll_allCorners : Int} {v_stroll_allCutsf : Int32} {v_stroll_allCuts : Int} {v_stroll_allWordsf : Int32} {v_stroll_allWords : Int} {v_stroll_camef : Int32} {v_stroll_came : Int} {v_stroll_longestRunf : Int32} {v_stroll_longestRun : Int} {v_stroll_runf : Int32} {v_stroll_run : Int} {v_stroll_squaref : Int32} {v_stroll_square : Int} {g_stroll_spoken_allf : Nat → Int32} {g_stroll_spoken_all : Nat → Int} {v_town_breathf : Int32} {v_town_breath : Int} {v_town_finef : Int32} {v_town_fine : Int} {v_town_homef : Int32} {v_town_home : Int} {g_town_kinds_allf : Nat → Int32} {g_town_kinds_all : Nat → Int} {p1f : Int32} {p1 : Int} {p2f : Int32} {p2 : Int} {p3f : Int32} {p3 : Int} {R0 : Int} {R1 : Nat → Int} {R2 : Int} {R3 : Int} {R4 : Int} {R5 : Int} {R6 : Int} {R7 : Int} {R8 : Int} {R9 : Nat → Int} (eg_refused_all : g_refused_allf = zoA g_refused_all) (ev_stroll_allCorners : v_stroll_allCornersf = zo v_stroll_allCorners) (ev_stroll_allCuts : v_stroll_allCutsf = zo v_stroll_allCuts) (ev_stroll_allWords : v_stroll_allWordsf = zo v_stroll_allWords) (ev_stroll_came : v_stroll_camef = zo v_stroll_came) (ev_stroll_longestRun : v_stroll_longestRunf = zo v_stroll_longestRun) (ev_stroll_run : v_stroll_runf = zo v_stroll_run) (ev_stroll_square : v_stroll_squaref = zo v_stroll_square) (eg_stroll_spoken_all : g_stroll_spoken_allf = zoA g_stroll_spoken_all) (ev_town_breath : v_town_breathf = zo v_town_breath) (ev_town_fine : v_town_finef = zo v_town_fine) (ev_town_home : v_town_homef = zo v_town_home) (eg_town_kinds_all : g_town_kinds_allf = zoA g_town_kinds_all) (ep1 : p1f = zo p1) (ep2 : p2f = zo p2) (ep3 : p3f = zo p3) (he : g_X_lots g_refused_all v_stroll_allCorners v_stroll_allCuts v_stroll_allWords v_stroll_came v_stroll_longestRun v_stroll_run v_stroll_square g_stroll_spoken_all v_town_breath v_town_fine v_town_home g_town_kinds_all p1 p2 p3 = some (R0, R1, R2, R3, R4, R5, R6, R7, R8, R9)) : f_X_lots g_refused_allf v_stroll_allCornersf v_stroll_allCutsf v_stroll_allWordsf v_stroll_camef v_stroll_longestRunf v_stroll_runf v_stroll_squaref g_stroll_spoken_allf v_town_breathf v_town_finef v_town_homef g_town_kinds_allf p1f p2f p3f = some (zo R0, zoA R1, zo R2, zo R3, zo R4, zo R5, zo R6, zo R7, zo R8, zoA R9) := by
  subst eg_refused_all
  subst ev_stroll_allCorners
  subst ev_stroll_allCuts
  subst ev_stroll_allWords
  subst ev_stroll_came
  subst ev_stroll_longestRun
  subst ev_stroll_run
  subst ev_stroll_square
  subst eg_stroll_spoken_all
  subst ev_town_breath
  subst ev_town_fine
  subst ev_town_home
  subst eg_town_kinds_all
  subst ep1
  subst ep2
  subst ep3
  unfold g_X_lots at he
  unfold f_X_lots
  obtain ⟨hn1, he⟩ := zg_e he
  by_cases c2 : (1 : Int) ≤ p1
  · have he := zif_t c2 he
    refine zif_p ((zo_le (zo_l 1) rfl (by decide) hn1).mpr c2) ?_
    by_cases c3 : p1 ≤ (20 : Int)
    · have he := zif_t c3 he
      refine zif_p ((zo_le rfl (zo_l 20) hn1 (by decide)).mpr c3) ?_
      refine zj1_z (m1 := id) he (fun _ he => ?_) (fun k6f k6 hk6 he => ?_)
      · obtain ⟨r3, g_refused_all_4, hb4, he⟩ := zb2_e he
        refine (zb2_s (s_X_refuse rfl (zo_ln 2) hb4)).trans ?_
        obtain ⟨rfl, rfl, rfl, rfl, rfl, rfl, rfl, rfl, rfl, rfl⟩ := zi10 he
        exact zs10 rfl rfl rfl rfl rfl rfl rfl rfl rfl rfl
      obtain ⟨hn5, he⟩ := zg_e he
      by_cases c6 : p3 < (0 : Int)
      · have he := zif_t c6 he
        refine zif_p ((zo_lt rfl (zo_l 0) hn5 (by decide)).mpr c6) ?_
        exact zk1 hk6 rfl he
      · have he := zif_f c6 he
        refine zif_n (fun q => c6 ((zo_lt rfl (zo_l 0) hn5 (by decide)).mp q)) ?_
        by_cases c7 : p3 ≤ (1 : Int)
        · have he := zif_t c7 he
          refine zif_p ((zo_le rfl (zo_l 1) hn5 (by decide)).mpr c7) ?_
          refine zl11_z (m1 := zo) (m2 := zo) (m3 := zo) (m4 := zo) (m5 := zo) (m6 := zo) (m7 := zo) (m8 := zo) (m9 := zo) (m10 := zo) (m11 := zoA) rfl (zo_l 0) (zo_l 0) rfl rfl rfl rfl rfl rfl rfl rfl he (fun l4_9 l5_10 l6_11 v_stroll_allCorners_12 v_stroll_allCuts_13 v_stroll_allWords_14 v_stroll_came_15 v_stroll_longestRun_16 v_stroll_run_17 v_stroll_square_18 g_stroll_spoken_all_19 again20f again20 hagain20 he => ?_)
          obtain ⟨hn8, he⟩ := zg_e he
          by_cases c9 : p1 ≤ l6_11
          · have he := zif_t c9 he
            refine zif_p ((zo_le rfl rfl hn1 hn8).mpr c9) ?_
            obtain ⟨rfl, rfl, rfl, rfl, rfl, rfl, rfl, rfl, rfl, rfl⟩ := zi10 he
            exact zs10 rfl rfl rfl rfl rfl rfl rfl rfl rfl rfl
          · have he := zif_f c9 he
            refine zif_n (fun q => c9 ((zo_le rfl rfl hn1 hn8).mp q)) ?_
            obtain ⟨v_stroll_allCorners_22, v_stroll_allCuts_23, v_stroll_allWords_24, v_stroll_came_25, v_stroll_longestRun_26, v_stroll_run_27, v_stroll_square_28, g_stroll_spoken_all_29, hb10, he⟩ := zb8_e he
            refine (zb8_s (s_Stroll_begin rfl rfl rfl rfl rfl rfl rfl rfl rfl hb10)).trans ?_
            refine zj9_z (m1 := zo) (m2 := zo) (m3 := zo) (m4 := zo) (m5 := zo) (m6 := zo) (m7 := zo) (m8 := zo) (m9 := zoA) he (fun l4_31 v_stroll_allCorners_32 v_stroll_allCuts_33 v_stroll_allWords_34 v_stroll_came_35 v_stroll_longestRun_36 v_stroll_run_37 v_stroll_square_38 g_stroll_spoken_all_39 he => ?_) (fun k53f k53 hk53 he => ?_)
            · obtain ⟨v_stroll_allCuts_40, v_stroll_allWords_41, v_stroll_longestRun_42, v_stroll_run_43, g_stroll_spoken_all_44, hb11, he⟩ := zb5_e he
              refine (zb5_s (s_Stroll_end rfl rfl rfl rfl rfl rfl rfl rfl hb11)).trans ?_
              refine zj1_z (m1 := zo) he (fun s46 he => ?_) (fun k51f k51 hk51 he => ?_)
              · obtain ⟨r47, hb12, he⟩ := zb1_e he
                refine (zb1_s (s_Stroll_answer rfl rfl rfl rfl rfl rfl rfl rfl rfl hb12)).trans ?_
                obtain ⟨x49, hx13⟩ : ∃ y : Int, y = l5_10 + r47 := ⟨_, rfl⟩
                have he := zn_e hx13 he
                refine zn_z (y := zo x49) ((zo_add rfl rfl).trans (congrArg zo hx13.symm)) ?_
                obtain ⟨x50, hx14⟩ : ∃ y : Int, y = l6_11 + (1 : Int) := ⟨_, rfl⟩
                have he := zn_e hx14 he
                refine zn_z (y := zo x50) ((zo_add rfl (zo_l 1)).trans (congrArg zo hx14.symm)) ?_
                exact zk11 hagain20 rfl rfl rfl rfl rfl rfl rfl rfl rfl rfl rfl he
              by_cases c15 : p3 = (0 : Int)
              · have he := zif_t c15 he
                refine zif_p ((zo_eq rfl (zo_l 0) hn5 (by decide)).mpr c15) ?_
                exact zk1 hk51 (zo_l 2) he
              · have he := zif_f c15 he
                refine zif_n (fun q => c15 ((zo_eq rfl (zo_l 0) hn5 (by decide)).mp q)) ?_
                exact zk1 hk51 (zo_l 3) he
            refine zl10_z (m1 := zo) (m2 := zo) (m3 := zo) (m4 := zo) (m5 := zo) (m6 := zo) (m7 := zo) (m8 := zo) (m9 := zo) (m10 := zoA) rfl (zo_l 0) rfl rfl rfl rfl rfl rfl rfl rfl he (fun l4_54 l7_55 v_stroll_allCorners_56 v_stroll_allCuts_57 v_stroll_allWords_58 v_stroll_came_59 v_stroll_longestRun_60 v_stroll_run_61 v_stroll_square_62 g_stroll_spoken_all_63 again64f again64 hagain64 he => ?_)
            obtain ⟨hn16, he⟩ := zg_e he
            by_cases c17 : (20 : Int) ≤ l7_55
            · have he := zif_t c17 he
              refine zif_p ((zo_le (zo_l 20) rfl (by decide) hn16).mpr c17) ?_
              exact zk9 hk53 rfl rfl rfl rfl rfl rfl rfl rfl rfl he
            · have he := zif_f c17 he
              refine zif_n (fun q => c17 ((zo_le (zo_l 20) rfl (by decide) hn16).mp q)) ?_
              obtain ⟨x66, hx18⟩ : ∃ y : Int, y = (l4_54 * (1664525 : Int)) + (1013904223 : Int) := ⟨_, rfl⟩
              have he := zn_e hx18 he
              refine zn_z (y := zo x66) ((zo_add (zo_mul rfl (zo_l 1664525)) (zo_l 1013904223)).trans (congrArg zo hx18.symm)) ?_
              obtain ⟨hn19, he⟩ := zg_e he
              obtain ⟨hn20, he⟩ := zg_e he
              obtain ⟨r67, v_stroll_allCorners_68, v_stroll_allCuts_69, v_stroll_allWords_70, v_stroll_came_71, v_stroll_longestRun_72, v_stroll_run_73, v_stroll_square_74, g_stroll_spoken_all_75, hb21, he⟩ := zb9_e he
              refine (zb9_s (s_Stroll_go rfl rfl rfl rfl rfl rfl rfl rfl rfl rfl (zo_rem (zo_div (zo_and rfl (zo_l 2147483647)) (zo_l 256) hn19 (by decide)) (zo_l 4) hn20 (by decide)) hb21)).trans ?_
              obtain ⟨x77, hx22⟩ : ∃ y : Int, y = l7_55 + (1 : Int) := ⟨_, rfl⟩
              have he := zn_e hx22 he
              refine zn_z (y := zo x77) ((zo_add rfl (zo_l 1)).trans (congrArg zo hx22.symm)) ?_
              exact zk10 hagain64 rfl rfl rfl rfl rfl rfl rfl rfl rfl rfl he
        · have he := zif_f c7 he
          refine zif_n (fun q => c7 ((zo_le rfl (zo_l 1) hn5 (by decide)).mp q)) ?_
          exact zk1 hk6 rfl he
    · have he := zif_f c3 he
      refine zif_n (fun q => c3 ((zo_le rfl (zo_l 20) hn1 (by decide)).mp q)) ?_
      obtain ⟨r78, g_refused_all_79, hb23, he⟩ := zb2_e he
      refine (zb2_s (s_X_refuse rfl (zo_ln 6) hb23)).trans ?_
      obtain ⟨rfl, rfl, rfl, rfl, rfl, rfl, rfl, rfl, rfl, rfl⟩ := zi10 he
      exact zs10 rfl rfl rfl rfl rfl rfl rfl rfl rfl rfl
  · have he := zif_f c2 he
    refine zif_n (fun q => c2 ((zo_le (zo_l 1) rfl (by decide) hn1).mp q)) ?_
    obtain ⟨r81, g_refused_all_82, hb24, he⟩ := zb2_e he
    refine (zb2_s (s_X_refuse rfl (zo_ln 4) hb24)).trans ?_
    obtain ⟨rfl, rfl, rfl, rfl, rfl, rfl, rfl, rfl, rfl, rfl⟩ := zi10 he
    exact zs10 rfl rfl rfl rfl rfl rfl rfl rfl rfl rfl
theorem s_X_image {v_isKeptf : Int32} {v_isKept : Int} {v_kept_breathf : Int32} {v_kept_breath : Int} {v_kept_finef : Int32} {v_kept_fine : Int} {v_kept_homef : Int32} {v_kept_home : Int} {g_kept_kinds_allf : Nat → Int32} {g_kept_kinds_all : Nat → Int} {v_town_breathf : Int32} {v_town_breath : Int} {v_town_finef : Int32} {v_town_fine : Int} {v_town_homef : Int32} {v_town_home : Int} {g_town_kinds_allf : Nat → Int32} {g_town_kinds_all : Nat → Int} {R0 : Int} {R1 : Int} {R2 : Int} {R3 : Int} {R4 : Int} {R5 : Nat → Int} (ev_isKept : v_isKeptf = zo v_isKept) (ev_kept_breath : v_kept_breathf = zo v_kept_breath) (ev_kept_fine : v_kept_finef = zo v_kept_fine) (ev_kept_home : v_kept_homef = zo v_kept_home) (eg_kept_kinds_all : g_kept_kinds_allf = zoA g_kept_kinds_all) (ev_town_breath : v_town_breathf = zo v_town_breath) (ev_town_fine : v_town_finef = zo v_town_fine) (ev_town_home : v_town_homef = zo v_town_home) (eg_town_kinds_all : g_town_kinds_allf = zoA g_town_kinds_all) (he : g_X_image v_isKept v_kept_breath v_kept_fine v_kept_home g_kept_kinds_all v_town_breath v_town_fine v_town_home g_town_kinds_all = some (R0, R1, R2, R3, R4, R5)) : f_X_image v_isKeptf v_kept_breathf v_kept_finef v_kept_homef g_kept_kinds_allf v_town_breathf v_town_finef v_town_homef g_town_kinds_allf = some (zo R0, zo R1, zo R2, zo R3, zo R4, zoA R5) := by
  subst ev_isKept
  subst ev_kept_breath
  subst ev_kept_fine
  subst ev_kept_home
  subst eg_kept_kinds_all
  subst ev_town_breath
  subst ev_town_fine
  subst ev_town_home
  subst eg_town_kinds_all
  unfold g_X_image at he
  unfold f_X_image
  obtain ⟨v_kept_breath_1, v_kept_fine_2, v_kept_home_3, g_kept_kinds_all_4, hb1, he⟩ := zb4_e he
  refine (zb4_s (s_Town_takeOver rfl rfl rfl rfl rfl rfl rfl rfl hb1)).trans ?_
  obtain ⟨r6, hb2, he⟩ := zb1_e he
  refine (zb1_s (s_Town_home rfl hb2)).trans ?_
  obtain ⟨rfl, rfl, rfl, rfl, rfl, rfl⟩ := zi6 he
  exact zs6 rfl (zo_l 1) rfl rfl rfl rfl
theorem s_X_on {v_isKeptf : Int32} {v_isKept : Int} {v_kept_breathf : Int32} {v_kept_breath : Int} {v_kept_finef : Int32} {v_kept_fine : Int} {v_kept_homef : Int32} {v_kept_home : Int} {g_kept_kinds_allf : Nat → Int32} {g_kept_kinds_all : Nat → Int} {g_refused_allf : Nat → Int32} {g_refused_all : Nat → Int} {v_town_breathf : Int32} {v_town_breath : Int} {v_town_finef : Int32} {v_town_fine : Int} {v_town_homef : Int32} {v_town_home : Int} {g_town_kinds_allf : Nat → Int32} {g_town_kinds_all : Nat → Int} {R0 : Int} {R1 : Nat → Int} {R2 : Int} {R3 : Int} {R4 : Int} {R5 : Nat → Int} (ev_isKept : v_isKeptf = zo v_isKept) (ev_kept_breath : v_kept_breathf = zo v_kept_breath) (ev_kept_fine : v_kept_finef = zo v_kept_fine) (ev_kept_home : v_kept_homef = zo v_kept_home) (eg_kept_kinds_all : g_kept_kinds_allf = zoA g_kept_kinds_all) (eg_refused_all : g_refused_allf = zoA g_refused_all) (ev_town_breath : v_town_breathf = zo v_town_breath) (ev_town_fine : v_town_finef = zo v_town_fine) (ev_town_home : v_town_homef = zo v_town_home) (eg_town_kinds_all : g_town_kinds_allf = zoA g_town_kinds_all) (he : g_X_on v_isKept v_kept_breath v_kept_fine v_kept_home g_kept_kinds_all g_refused_all v_town_breath v_town_fine v_town_home g_town_kinds_all = some (R0, R1, R2, R3, R4, R5)) : f_X_on v_isKeptf v_kept_breathf v_kept_finef v_kept_homef g_kept_kinds_allf g_refused_allf v_town_breathf v_town_finef v_town_homef g_town_kinds_allf = some (zo R0, zoA R1, zo R2, zo R3, zo R4, zoA R5) := by
  subst ev_isKept
  subst ev_kept_breath
  subst ev_kept_fine
  subst ev_kept_home
  subst eg_kept_kinds_all
  subst eg_refused_all
  subst ev_town_breath
  subst ev_town_fine
  subst ev_town_home
  subst eg_town_kinds_all
  unfold g_X_on at he
  unfold f_X_on
  obtain ⟨hn1, he⟩ := zg_e he
  by_cases c2 : v_isKept = (0 : Int)
  · have he := zif_t c2 he
    refine zif_p ((zo_eq rfl (zo_l 0) hn1 (by decide)).mpr c2) ?_
    obtain ⟨r9, g_refused_all_10, hb3, he⟩ := zb2_e he
    refine (zb2_s (s_X_refuse rfl (zo_ln 3) hb3)).trans ?_
    obtain ⟨rfl, rfl, rfl, rfl, rfl, rfl⟩ := zi6 he
    exact zs6 rfl rfl rfl rfl rfl rfl
  · have he := zif_f c2 he
    refine zif_n (fun q => c2 ((zo_eq rfl (zo_l 0) hn1 (by decide)).mp q)) ?_
    obtain ⟨v_town_breath_2, v_town_fine_3, v_town_home_4, g_town_kinds_all_5, hb4, he⟩ := zb4_e he
    refine (zb4_s (s_Town_takeOver rfl rfl rfl rfl rfl rfl rfl rfl hb4)).trans ?_
    obtain ⟨r7, hb5, he⟩ := zb1_e he
    refine (zb1_s (s_Town_home rfl hb5)).trans ?_
    obtain ⟨rfl, rfl, rfl, rfl, rfl, rfl⟩ := zi6 he
    exact zs6 rfl rfl rfl rfl rfl rfl
theorem s_Town_countKind {g_kinds_allf : Nat → Int32} {g_kinds_all : Nat → Int} {p1f : Int32} {p1 : Int} {R0 : Int} (eg_kinds_all : g_kinds_allf = zoA g_kinds_all) (ep1 : p1f = zo p1) (he : g_Town_countKind g_kinds_all p1 = some (R0)) : f_Town_countKind g_kinds_allf p1f = some (zo R0) := by
  subst eg_kinds_all
  subst ep1
  unfold g_Town_countKind at he
  unfold f_Town_countKind
  refine zl2_z (m1 := zo) (m2 := zo) (zo_l 0) (zo_l 0) he (fun l2_1 l3_2 again3f again3 hagain3 he => ?_)
  obtain ⟨hn1, he⟩ := zg_e he
  by_cases c2 : (36 : Int) ≤ l3_2
  · have he := zif_t c2 he
    refine zif_p ((zo_le (zo_l 36) rfl (by decide) hn1).mpr c2) ?_
    obtain ⟨rfl⟩ := zi1 he
    exact zs1 rfl
  · have he := zif_f c2 he
    refine zif_n (fun q => c2 ((zo_le (zo_l 36) rfl (by decide) hn1).mp q)) ?_
    obtain ⟨r5, hb3, he⟩ := zb1_e he
    refine (zb1_s (s_Numbers_at rfl rfl hb3)).trans ?_
    refine zj1_z (m1 := zo) he (fun s7 he => ?_) (fun k10f k10 hk10 he => ?_)
    · obtain ⟨x8, hx4⟩ : ∃ y : Int, y = l2_1 + s7 := ⟨_, rfl⟩
      have he := zn_e hx4 he
      refine zn_z (y := zo x8) ((zo_add rfl rfl).trans (congrArg zo hx4.symm)) ?_
      obtain ⟨x9, hx5⟩ : ∃ y : Int, y = l3_2 + (1 : Int) := ⟨_, rfl⟩
      have he := zn_e hx5 he
      refine zn_z (y := zo x9) ((zo_add rfl (zo_l 1)).trans (congrArg zo hx5.symm)) ?_
      exact zk2 hagain3 rfl rfl he
    obtain ⟨hn6, he⟩ := zg_e he
    obtain ⟨hn7, he⟩ := zg_e he
    by_cases c8 : r5 = p1
    · have he := zif_t c8 he
      refine zif_p ((zo_eq rfl rfl hn6 hn7).mpr c8) ?_
      exact zk1 hk10 (zo_l 1) he
    · have he := zif_f c8 he
      refine zif_n (fun q => c8 ((zo_eq rfl rfl hn6 hn7).mp q)) ?_
      exact zk1 hk10 (zo_l 0) he
theorem s_X_squaresHeard {g_town_kinds_allf : Nat → Int32} {g_town_kinds_all : Nat → Int} {R0 : Int} (eg_town_kinds_all : g_town_kinds_allf = zoA g_town_kinds_all) (he : g_X_squaresHeard g_town_kinds_all = some (R0)) : f_X_squaresHeard g_town_kinds_allf = some (zo R0) := by
  subst eg_town_kinds_all
  unfold g_X_squaresHeard at he
  unfold f_X_squaresHeard
  refine zl2_z (m1 := zo) (m2 := zo) (zo_l 0) (zo_l 0) he (fun l1_1 l2_2 again3f again3 hagain3 he => ?_)
  obtain ⟨hn1, he⟩ := zg_e he
  by_cases c2 : (36 : Int) ≤ l2_2
  · have he := zif_t c2 he
    refine zif_p ((zo_le (zo_l 36) rfl (by decide) hn1).mpr c2) ?_
    obtain ⟨rfl⟩ := zi1 he
    exact zs1 rfl
  · have he := zif_f c2 he
    refine zif_n (fun q => c2 ((zo_le (zo_l 36) rfl (by decide) hn1).mp q)) ?_
    obtain ⟨r5, hb3, he⟩ := zb1_e he
    refine (zb1_s (s_Town_heardBy rfl rfl hb3)).trans ?_
    refine zj1_z (m1 := zo) he (fun s7 he => ?_) (fun k10f k10 hk10 he => ?_)
    · obtain ⟨x8, hx4⟩ : ∃ y : Int, y = l1_1 + s7 := ⟨_, rfl⟩
      have he := zn_e hx4 he
      refine zn_z (y := zo x8) ((zo_add rfl rfl).trans (congrArg zo hx4.symm)) ?_
      obtain ⟨x9, hx5⟩ : ∃ y : Int, y = l2_2 + (1 : Int) := ⟨_, rfl⟩
      have he := zn_e hx5 he
      refine zn_z (y := zo x9) ((zo_add rfl (zo_l 1)).trans (congrArg zo hx5.symm)) ?_
      exact zk2 hagain3 rfl rfl he
    obtain ⟨hn6, he⟩ := zg_e he
    by_cases c7 : r5 ≤ (0 : Int)
    · have he := zif_t c7 he
      refine zif_p ((zo_le rfl (zo_l 0) hn6 (by decide)).mpr c7) ?_
      exact zk1 hk10 (zo_l 0) he
    · have he := zif_f c7 he
      refine zif_n (fun q => c7 ((zo_le rfl (zo_l 0) hn6 (by decide)).mp q)) ?_
      exact zk1 hk10 (zo_l 1) he
theorem s_X_squaresOneCanBeOn {g_town_kinds_allf : Nat → Int32} {g_town_kinds_all : Nat → Int} {R0 : Int} (eg_town_kinds_all : g_town_kinds_allf = zoA g_town_kinds_all) (he : g_X_squaresOneCanBeOn g_town_kinds_all = some (R0)) : f_X_squaresOneCanBeOn g_town_kinds_allf = some (zo R0) := by
  subst eg_town_kinds_all
  unfold g_X_squaresOneCanBeOn at he
  unfold f_X_squaresOneCanBeOn
  refine zl2_z (m1 := zo) (m2 := zo) (zo_l 0) (zo_l 0) he (fun l1_1 l2_2 again3f again3 hagain3 he => ?_)
  obtain ⟨hn1, he⟩ := zg_e he
  by_cases c2 : (36 : Int) ≤ l2_2
  · have he := zif_t c2 he
    refine zif_p ((zo_le (zo_l 36) rfl (by decide) hn1).mpr c2) ?_
    obtain ⟨rfl⟩ := zi1 he
    exact zs1 rfl
  · have he := zif_f c2 he
    refine zif_n (fun q => c2 ((zo_le (zo_l 36) rfl (by decide) hn1).mp q)) ?_
    obtain ⟨r5, hb3, he⟩ := zb1_e he
    refine (zb1_s (s_Town_canBe rfl rfl hb3)).trans ?_
    refine zj1_z (m1 := zo) he (fun s7 he => ?_) (fun k10f k10 hk10 he => ?_)
    · obtain ⟨x8, hx4⟩ : ∃ y : Int, y = l1_1 + s7 := ⟨_, rfl⟩
      have he := zn_e hx4 he
      refine zn_z (y := zo x8) ((zo_add rfl rfl).trans (congrArg zo hx4.symm)) ?_
      obtain ⟨x9, hx5⟩ : ∃ y : Int, y = l2_2 + (1 : Int) := ⟨_, rfl⟩
      have he := zn_e hx5 he
      refine zn_z (y := zo x9) ((zo_add rfl (zo_l 1)).trans (congrArg zo hx5.symm)) ?_
      exact zk2 hagain3 rfl rfl he
    obtain ⟨hn6, he⟩ := zg_e he
    by_cases c7 : r5 = (0 : Int)
    · have he := zif_t c7 he
      refine zif_p ((zo_eq rfl (zo_l 0) hn6 (by decide)).mpr c7) ?_
      exact zk1 hk10 (zo_l 0) he
    · have he := zif_f c7 he
      refine zif_n (fun q => c7 ((zo_eq rfl (zo_l 0) hn6 (by decide)).mp q)) ?_
      exact zk1 hk10 (zo_l 1) he
theorem s_X_count {v_toldCountf : Int32} {v_toldCount : Int} {v_letters_countf : Int32} {v_letters_count : Int} {g_refused_allf : Nat → Int32} {g_refused_all : Nat → Int} {v_town_breathf : Int32} {v_town_breath : Int} {v_town_finef : Int32} {v_town_fine : Int} {v_town_homef : Int32} {v_town_home : Int} {g_town_kinds_allf : Nat → Int32} {g_town_kinds_all : Nat → Int} {p1f : Int32} {p1 : Int} {R0 : Int} (ev_toldCount : v_toldCountf = zo v_toldCount) (ev_letters_count : v_letters_countf = zo v_letters_count) (eg_refused_all : g_refused_allf = zoA g_refused_all) (ev_town_breath : v_town_breathf = zo v_town_breath) (ev_town_fine : v_town_finef = zo v_town_fine) (ev_town_home : v_town_homef = zo v_town_home) (eg_town_kinds_all : g_town_kinds_allf = zoA g_town_kinds_all) (ep1 : p1f = zo p1) (he : g_X_count v_toldCount v_letters_count g_refused_all v_town_breath v_town_fine v_town_home g_town_kinds_all p1 = some (R0)) : f_X_count v_toldCountf v_letters_countf g_refused_allf v_town_breathf v_town_finef v_town_homef g_town_kinds_allf p1f = some (zo R0) := by
  subst ev_toldCount
  subst ev_letters_count
  subst eg_refused_all
  subst ev_town_breath
  subst ev_town_fine
  subst ev_town_home
  subst eg_town_kinds_all
  subst ep1
  unfold g_X_count at he
  unfold f_X_count
  obtain ⟨hn1, he⟩ := zg_e he
  by_cases c2 : p1 = (0 : Int)
  · have he := zif_t c2 he
    refine zif_p ((zo_eq rfl (zo_l 0) hn1 (by decide)).mpr c2) ?_
    obtain ⟨r2, hb3, he⟩ := zb1_e he
    refine (zb1_s (s_Town_home rfl hb3)).trans ?_
    obtain ⟨rfl⟩ := zi1 he
    exact zs1 rfl
  · have he := zif_f c2 he
    refine zif_n (fun q => c2 ((zo_eq rfl (zo_l 0) hn1 (by decide)).mp q)) ?_
    by_cases c4 : p1 = (1 : Int)
    · have he := zif_t c4 he
      refine zif_p ((zo_eq rfl (zo_l 1) hn1 (by decide)).mpr c4) ?_
      obtain ⟨r5, hb5, he⟩ := zb1_e he
      refine (zb1_s (s_Town_fine rfl hb5)).trans ?_
      obtain ⟨rfl⟩ := zi1 he
      exact zs1 rfl
    · have he := zif_f c4 he
      refine zif_n (fun q => c4 ((zo_eq rfl (zo_l 1) hn1 (by decide)).mp q)) ?_
      by_cases c6 : p1 = (2 : Int)
      · have he := zif_t c6 he
        refine zif_p ((zo_eq rfl (zo_l 2) hn1 (by decide)).mpr c6) ?_
        obtain ⟨r8, hb7, he⟩ := zb1_e he
        refine (zb1_s (s_Town_breath rfl hb7)).trans ?_
        obtain ⟨rfl⟩ := zi1 he
        exact zs1 rfl
      · have he := zif_f c6 he
        refine zif_n (fun q => c6 ((zo_eq rfl (zo_l 2) hn1 (by decide)).mp q)) ?_
        by_cases c8 : p1 = (3 : Int)
        · have he := zif_t c8 he
          refine zif_p ((zo_eq rfl (zo_l 3) hn1 (by decide)).mpr c8) ?_
          obtain ⟨r11, hb9, he⟩ := zb1_e he
          refine (zb1_s (s_X_squaresOneCanBeOn rfl hb9)).trans ?_
          obtain ⟨rfl⟩ := zi1 he
          exact zs1 rfl
        · have he := zif_f c8 he
          refine zif_n (fun q => c8 ((zo_eq rfl (zo_l 3) hn1 (by decide)).mp q)) ?_
          by_cases c10 : p1 = (4 : Int)
          · have he := zif_t c10 he
            refine zif_p ((zo_eq rfl (zo_l 4) hn1 (by decide)).mpr c10) ?_
            obtain ⟨r14, hb11, he⟩ := zb1_e he
            refine (zb1_s (s_X_informers rfl hb11)).trans ?_
            obtain ⟨rfl⟩ := zi1 he
            exact zs1 rfl
          · have he := zif_f c10 he
            refine zif_n (fun q => c10 ((zo_eq rfl (zo_l 4) hn1 (by decide)).mp q)) ?_
            by_cases c12 : p1 = (5 : Int)
            · have he := zif_t c12 he
              refine zif_p ((zo_eq rfl (zo_l 5) hn1 (by decide)).mpr c12) ?_
              obtain ⟨r17, hb13, he⟩ := zb1_e he
              refine (zb1_s (s_X_squaresHeard rfl hb13)).trans ?_
              obtain ⟨rfl⟩ := zi1 he
              exact zs1 rfl
            · have he := zif_f c12 he
              refine zif_n (fun q => c12 ((zo_eq rfl (zo_l 5) hn1 (by decide)).mp q)) ?_
              by_cases c14 : p1 = (6 : Int)
              · have he := zif_t c14 he
                refine zif_p ((zo_eq rfl (zo_l 6) hn1 (by decide)).mpr c14) ?_
                obtain ⟨r20, hb15, he⟩ := zb1_e he
                refine (zb1_s (s_Town_countKind rfl (zo_l 2) hb15)).trans ?_
                obtain ⟨r22, hb16, he⟩ := zb1_e he
                refine (zb1_s (s_Town_countKind rfl (zo_l 5) hb16)).trans ?_
                obtain ⟨rfl⟩ := zi1 he
                exact zs1 (zo_add rfl rfl)
              · have he := zif_f c14 he
                refine zif_n (fun q => c14 ((zo_eq rfl (zo_l 6) hn1 (by decide)).mp q)) ?_
                by_cases c17 : p1 = (7 : Int)
                · have he := zif_t c17 he
                  refine zif_p ((zo_eq rfl (zo_l 7) hn1 (by decide)).mpr c17) ?_
                  obtain ⟨rfl⟩ := zi1 he
                  exact zs1 rfl
                · have he := zif_f c17 he
                  refine zif_n (fun q => c17 ((zo_eq rfl (zo_l 7) hn1 (by decide)).mp q)) ?_
                  by_cases c18 : p1 = (8 : Int)
                  · have he := zif_t c18 he
                    refine zif_p ((zo_eq rfl (zo_l 8) hn1 (by decide)).mpr c18) ?_
                    obtain ⟨r26, hb19, he⟩ := zb1_e he
                    refine (zb1_s (s_Letters_size rfl hb19)).trans ?_
                    obtain ⟨rfl⟩ := zi1 he
                    exact zs1 rfl
                  · have he := zif_f c18 he
                    refine zif_n (fun q => c18 ((zo_eq rfl (zo_l 8) hn1 (by decide)).mp q)) ?_
                    by_cases c20 : p1 ≤ (10 : Int)
                    · have he := zif_t c20 he
                      refine zif_p ((zo_le rfl (zo_l 10) hn1 (by decide)).mpr c20) ?_
                      obtain ⟨rfl⟩ := zi1 he
                      exact zs1 (zo_ln 9)
                    · have he := zif_f c20 he
                      refine zif_n (fun q => c20 ((zo_le rfl (zo_l 10) hn1 (by decide)).mp q)) ?_
                      by_cases c21 : (16 : Int) < p1
                      · have he := zif_t c21 he
                        refine zif_p ((zo_lt (zo_l 16) rfl (by decide) hn1).mpr c21) ?_
                        obtain ⟨rfl⟩ := zi1 he
                        exact zs1 (zo_ln 9)
                      · have he := zif_f c21 he
                        refine zif_n (fun q => c21 ((zo_lt (zo_l 16) rfl (by decide) hn1).mp q)) ?_
                        obtain ⟨r30, hb22, he⟩ := zb1_e he
                        refine (zb1_s (s_Numbers_at rfl (zo_sub rfl (zo_l 10)) hb22)).trans ?_
                        obtain ⟨rfl⟩ := zi1 he
                        exact zs1 rfl
