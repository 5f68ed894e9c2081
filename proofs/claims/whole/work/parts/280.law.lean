-- ===== end of PART A; then your names; then what follows =====
/-! THE CLAIM OUT OF ONE WALK OF THE LAW'S BODY. Your part is whole_start (and what it stands on); all else here is the same for every law, but numbers. -/
def R_law : String := "LawOfCornersLaw"
def lw_P (b : Addr) (xs : List Int32) (args : Array Value) (s : State) : Prop := args = #[.ref b] ∧ s.IntsAt b xs ∧ xs.length ≤ 2048 ∧ (Jvm.Cond.and given_1 narrow_1).before args s = true
def lw_Q (_ : Array Value) (s : State) (o : Outcome) (t : State) : Prop := o = .returned (some (.int 1)) ∧ Framed s o t [] 600000 7302250
def lw_Z (below : List Frame) (a : Array Value) (s : State) : State → Prop := fun t => ∃ o, t.status = .running ∧ Ended t below o ∧ lw_Q a s o t
/-- the law's own end, with 1 on the stack, nothing written that was there before, its room as the claim has it -/
theorem lw_ret {p : Program} {l : Launch} {e : Env} {s : State} {m : MethodId} {below : List Frame} {meth : Method} {c : Code} {b : Nat} (hx : p.tables.exec = Jvm.exec) (hb : c.code = code) (hr : meth.sig.returnType = ret) (hlocks : meth.locks = false) {pc : Nat} {H : Heap} {ls : Array Slot} (hdg : decode code pc = .ok (.ireturn, 1)) : W p l e room_1 s m #[Value.ref b] below meth c H [] 600000 7302250 (lw_Z below #[Value.ref b] s) (F0 m pc ls [.int 1]) := by
  intro T hT X
  obtain ⟨fs, hret, hrun, hended, hW, hframe⟩ := X.leave (v := some (.int 1)) (hlocks := hlocks) (fun h => by rw [hr] at h; cases h)
  have hmeth' : T.vm.method? m = some meth := X.method'
  refine ⟨T.setFrames fs, ?_, .returned (some (.int 1)), hrun, hended, rfl, ⟨_, rfl⟩, hW, hframe⟩
  jvm_step X.here [X.here.top, hx, hb, hdg, hmeth', hr, ret, narrow_b1]
  (try refine ⟨rfl, ?_⟩); (try refine ⟨rfl, ?_⟩)
  first | (intro acts; rw [hret _ acts rfl rfl rfl]) | rw [hret _ _ rfl rfl rfl]
  exact Steps.refl _
/-- what holds at the law's entry: the machine, the code, the tables' words (any of lw_tbl by 'hts w (by decide +kernel)'), the script of L ints xs at the cell b, what the Statement gives of the start (any of its parts by flat_of_before) -/
def lw_At (p : Program) (s : State) (m : MethodId) (meth : Method) (c : Code) (b L : Nat) (xs : Nat → Int32) : Prop :=
  p.tables.exec = Jvm.exec ∧ c.code = code ∧ meth.sig.returnType = ret ∧ c.maxLocals = 4 ∧ s.vm.findClass R_law = some m.cls ∧ (∀ w ∈ lw_tbl, w.before #[Value.ref b] s = true) ∧ va_X b L xs s s.heap ∧ b < s.heap.size ∧ meth.locks = false ∧ (Jvm.Cond.and given_1 narrow_1).before #[Value.ref b] s = true

def f_law_0 (L : Nat) (xs : Nat → Int32) (v_pm_letterMany : Int32) (g_pm_letters : Nat → Int32) (g_pm_refused : Nat → Int32) (v_px_letters_count : Int32) (g_px_letters_all_all : Nat → Int32) (g_px_refused_all : Nat → Int32) (p3 : Int32) : Option (Int32 × (Nat → Int32) × (Nat → Int32) × Int32 × (Nat → Int32) × (Nat → Int32)) :=
  zg (zin (p3 + (1 : Int32)) L) <|
  zb4 (f_X_letter v_px_letters_count g_px_letters_all_all g_px_refused_all (xs (p3 + (1 : Int32)).toNatClampNeg)) fun (r2 : Int32) (v_px_letters_count_3 : Int32) (g_px_letters_all_all_4 : Nat → Int32) (g_px_refused_all_5 : Nat → Int32) =>
  zg (zin (p3 + (1 : Int32)) L) <|
  zb4 (f_M_letter v_pm_letterMany g_pm_letters g_pm_refused (xs (p3 + (1 : Int32)).toNatClampNeg)) fun (r8 : Int32) (v_pm_letterMany_9 : Int32) (g_pm_letters_10 : Nat → Int32) (g_pm_refused_11 : Nat → Int32) =>
  if r2 = r8 then (
    some (v_pm_letterMany_9, g_pm_letters_10, g_pm_refused_11, v_px_letters_count_3, g_px_letters_all_all_4, g_px_refused_all_5)) else (
    none)
def f_law_1 (L : Nat) (xs : Nat → Int32) (v_pm_letterMany : Int32) (v_pm_place : Int32) (g_pm_letters : Nat → Int32) (g_pm_numbers : Nat → Int32) (g_pm_s : Nat → Int32) (g_pm_was : Nat → Int32) (v_px_letters_count : Int32) (g_px_letters_all_all : Nat → Int32) (v_px_town_breath : Int32) (v_px_town_fine : Int32) (v_px_town_home : Int32) (g_px_town_kinds_all : Nat → Int32) (v_px_trial_breath : Int32) (v_px_trial_fine : Int32) (v_px_trial_home : Int32) (g_px_trial_kinds_all : Nat → Int32) (p3 : Int32) : Option (Int32 × Int32 × (Nat → Int32) × (Nat → Int32) × (Nat → Int32) × Int32 × Int32 × Int32 × Int32 × (Nat → Int32) × Int32 × Int32 × Int32 × (Nat → Int32)) :=
  zb10 (f_X_town v_px_letters_count g_px_letters_all_all v_px_town_breath v_px_town_fine v_px_town_home g_px_town_kinds_all v_px_trial_breath v_px_trial_fine v_px_trial_home g_px_trial_kinds_all) fun (r1 : Int32) (v_px_letters_count_2 : Int32) (v_px_town_breath_3 : Int32) (v_px_town_fine_4 : Int32) (v_px_town_home_5 : Int32) (g_px_town_kinds_all_6 : Nat → Int32) (v_px_trial_breath_7 : Int32) (v_px_trial_fine_8 : Int32) (v_px_trial_home_9 : Int32) (g_px_trial_kinds_all_10 : Nat → Int32) =>
  zb6 (f_M_town v_pm_letterMany v_pm_place g_pm_letters g_pm_numbers g_pm_s g_pm_was) fun (r12 : Int32) (v_pm_letterMany_13 : Int32) (v_pm_place_14 : Int32) (g_pm_numbers_15 : Nat → Int32) (g_pm_s_16 : Nat → Int32) (g_pm_was_17 : Nat → Int32) =>
  if r1 = r12 then (
    some (v_pm_letterMany_13, v_pm_place_14, g_pm_numbers_15, g_pm_s_16, g_pm_was_17, v_px_letters_count_2, v_px_town_breath_3, v_px_town_fine_4, v_px_town_home_5, g_px_town_kinds_all_6, v_px_trial_breath_7, v_px_trial_fine_8, v_px_trial_home_9, g_px_trial_kinds_all_10)) else (
    none)
def f_law_2 (L : Nat) (xs : Nat → Int32) (g_pm_refused : Nat → Int32) (g_pm_s : Nat → Int32) (g_px_refused_all : Nat → Int32) (g_px_town_kinds_all : Nat → Int32) (p3 : Int32) : Option ((Nat → Int32) × (Nat → Int32)) :=
  zg (zin (p3 + (1 : Int32)) L) <|
  zg (zin (p3 + (2 : Int32)) L) <|
  zb2 (f_X_square g_px_refused_all g_px_town_kinds_all (xs (p3 + (1 : Int32)).toNatClampNeg) (xs (p3 + (2 : Int32)).toNatClampNeg)) fun (r3 : Int32) (g_px_refused_all_4 : Nat → Int32) =>
  zg (zin (p3 + (1 : Int32)) L) <|
  zg (zin (p3 + (2 : Int32)) L) <|
  zb2 (f_M_square g_pm_refused g_pm_s (xs (p3 + (1 : Int32)).toNatClampNeg) (xs (p3 + (2 : Int32)).toNatClampNeg)) fun (r8 : Int32) (g_pm_refused_9 : Nat → Int32) =>
  if r3 = r8 then (
    some (g_pm_refused_9, g_px_refused_all_4)) else (
    none)
def f_law_3 (L : Nat) (xs : Nat → Int32) (g_pm_refused : Nat → Int32) (g_pm_s : Nat → Int32) (g_px_refused_all : Nat → Int32) (v_px_town_home : Int32) (g_px_town_kinds_all : Nat → Int32) (p3 : Int32) : Option ((Nat → Int32) × (Nat → Int32) × (Nat → Int32) × (Nat → Int32)) :=
  zg (zin (p3 + (1 : Int32)) L) <|
  zg (zin (p3 + (2 : Int32)) L) <|
  zb3 (f_X_turnTo g_px_refused_all v_px_town_home g_px_town_kinds_all (xs (p3 + (1 : Int32)).toNatClampNeg) (xs (p3 + (2 : Int32)).toNatClampNeg)) fun (r3 : Int32) (g_px_refused_all_4 : Nat → Int32) (g_px_town_kinds_all_5 : Nat → Int32) =>
  zg (zin (p3 + (1 : Int32)) L) <|
  zg (zin (p3 + (2 : Int32)) L) <|
  zb3 (f_M_turnTo g_pm_refused g_pm_s (xs (p3 + (1 : Int32)).toNatClampNeg) (xs (p3 + (2 : Int32)).toNatClampNeg)) fun (r9 : Int32) (g_pm_refused_10 : Nat → Int32) (g_pm_s_11 : Nat → Int32) =>
  if r3 = r9 then (
    some (g_pm_refused_10, g_pm_s_11, g_px_refused_all_4, g_px_town_kinds_all_5)) else (
    none)
def f_law_4 (L : Nat) (xs : Nat → Int32) (g_pm_refused : Nat → Int32) (g_pm_s : Nat → Int32) (g_px_refused_all : Nat → Int32) (v_px_town_breath : Int32) (v_px_town_fine : Int32) (v_px_town_home : Int32) (g_px_town_kinds_all : Nat → Int32) (p3 : Int32) : Option ((Nat → Int32) × (Nat → Int32) × (Nat → Int32) × Int32 × Int32 × Int32) :=
  zg (zin (p3 + (1 : Int32)) L) <|
  zg (zin (p3 + (2 : Int32)) L) <|
  zb5 (f_X_set g_px_refused_all v_px_town_breath v_px_town_fine v_px_town_home g_px_town_kinds_all (xs (p3 + (1 : Int32)).toNatClampNeg) (xs (p3 + (2 : Int32)).toNatClampNeg)) fun (r3 : Int32) (g_px_refused_all_4 : Nat → Int32) (v_px_town_breath_5 : Int32) (v_px_town_fine_6 : Int32) (v_px_town_home_7 : Int32) =>
  zg (zin (p3 + (1 : Int32)) L) <|
  zg (zin (p3 + (2 : Int32)) L) <|
  zb3 (f_M_set g_pm_refused g_pm_s (xs (p3 + (1 : Int32)).toNatClampNeg) (xs (p3 + (2 : Int32)).toNatClampNeg)) fun (r11 : Int32) (g_pm_refused_12 : Nat → Int32) (g_pm_s_13 : Nat → Int32) =>
  if r3 = r11 then (
    some (g_pm_refused_12, g_pm_s_13, g_px_refused_all_4, v_px_town_breath_5, v_px_town_fine_6, v_px_town_home_7)) else (
    none)
def f_law_5 (L : Nat) (xs : Nat → Int32) (g_pm_refused : Nat → Int32) (g_pm_s : Nat → Int32) (g_px_refused_all : Nat → Int32) (g_px_town_kinds_all : Nat → Int32) (p3 : Int32) : Option ((Nat → Int32) × (Nat → Int32)) :=
  zg (zin (p3 + (1 : Int32)) L) <|
  zb2 (f_X_heard g_px_refused_all g_px_town_kinds_all (xs (p3 + (1 : Int32)).toNatClampNeg)) fun (r2 : Int32) (g_px_refused_all_3 : Nat → Int32) =>
  zg (zin (p3 + (1 : Int32)) L) <|
  zb2 (f_M_heard g_pm_refused g_pm_s (xs (p3 + (1 : Int32)).toNatClampNeg)) fun (r6 : Int32) (g_pm_refused_7 : Nat → Int32) =>
  if r2 = r6 then (
    some (g_pm_refused_7, g_px_refused_all_3)) else (
    none)
def f_law_6 (L : Nat) (xs : Nat → Int32) (v_pm_rowMany : Int32) (g_pm_refused : Nat → Int32) (g_pm_row : Nat → Int32) (g_pm_s : Nat → Int32) (v_px_toldCount : Int32) (g_px_refused_all : Nat → Int32) (v_px_stroll_allCorners : Int32) (v_px_stroll_allCuts : Int32) (v_px_stroll_allWords : Int32) (v_px_stroll_came : Int32) (v_px_stroll_longestRun : Int32) (v_px_stroll_run : Int32) (v_px_stroll_square : Int32) (g_px_stroll_spoken_all : Nat → Int32) (g_px_told_all : Nat → Int32) (v_px_town_breath : Int32) (v_px_town_fine : Int32) (v_px_town_home : Int32) (g_px_town_kinds_all : Nat → Int32) (p3 : Int32) : Option ((Nat → Int32) × (Nat → Int32) × Int32 × Int32 × Int32 × Int32 × Int32 × Int32 × Int32 × (Nat → Int32)) :=
  zg (zin (p3 + (1 : Int32)) L) <|
  zb10 (f_X_walk v_px_toldCount g_px_refused_all v_px_stroll_allCorners v_px_stroll_allCuts v_px_stroll_allWords v_px_stroll_came v_px_stroll_longestRun v_px_stroll_run v_px_stroll_square g_px_stroll_spoken_all g_px_told_all v_px_town_breath v_px_town_fine v_px_town_home g_px_town_kinds_all (xs (p3 + (1 : Int32)).toNatClampNeg)) fun (r2 : Int32) (g_px_refused_all_3 : Nat → Int32) (v_px_stroll_allCorners_4 : Int32) (v_px_stroll_allCuts_5 : Int32) (v_px_stroll_allWords_6 : Int32) (v_px_stroll_came_7 : Int32) (v_px_stroll_longestRun_8 : Int32) (v_px_stroll_run_9 : Int32) (v_px_stroll_square_10 : Int32) (g_px_stroll_spoken_all_11 : Nat → Int32) =>
  zg (zin (p3 + (1 : Int32)) L) <|
  zb2 (f_M_walk v_pm_rowMany g_pm_refused g_pm_row g_pm_s (xs (p3 + (1 : Int32)).toNatClampNeg)) fun (r14 : Int32) (g_pm_refused_15 : Nat → Int32) =>
  if r2 = r14 then (
    some (g_pm_refused_15, g_px_refused_all_3, v_px_stroll_allCorners_4, v_px_stroll_allCuts_5, v_px_stroll_allWords_6, v_px_stroll_came_7, v_px_stroll_longestRun_8, v_px_stroll_run_9, v_px_stroll_square_10, g_px_stroll_spoken_all_11)) else (
    none)
def f_law_7 (L : Nat) (xs : Nat → Int32) (g_pm_refused : Nat → Int32) (g_pm_s : Nat → Int32) (g_pm_stepsFrom : Nat → Int32) (v_px_reach_comeCount : Int32) (g_px_reach_come_all : Nat → Int32) (g_px_reach_far_all : Nat → Int32) (g_px_refused_all : Nat → Int32) (g_px_town_kinds_all : Nat → Int32) (p3 : Int32) : Option ((Nat → Int32) × (Nat → Int32) × Int32 × (Nat → Int32) × (Nat → Int32) × (Nat → Int32)) :=
  zg (zin (p3 + (1 : Int32)) L) <|
  zg (zin (p3 + (2 : Int32)) L) <|
  zb5 (f_X_steps v_px_reach_comeCount g_px_reach_come_all g_px_reach_far_all g_px_refused_all g_px_town_kinds_all (xs (p3 + (1 : Int32)).toNatClampNeg) (xs (p3 + (2 : Int32)).toNatClampNeg)) fun (r3 : Int32) (v_px_reach_comeCount_4 : Int32) (g_px_reach_come_all_5 : Nat → Int32) (g_px_reach_far_all_6 : Nat → Int32) (g_px_refused_all_7 : Nat → Int32) =>
  zg (zin (p3 + (1 : Int32)) L) <|
  zg (zin (p3 + (2 : Int32)) L) <|
  zb3 (f_M_steps g_pm_refused g_pm_s g_pm_stepsFrom (xs (p3 + (1 : Int32)).toNatClampNeg) (xs (p3 + (2 : Int32)).toNatClampNeg)) fun (r11 : Int32) (g_pm_refused_12 : Nat → Int32) (g_pm_stepsFrom_13 : Nat → Int32) =>
  if r3 = r11 then (
    some (g_pm_refused_12, g_pm_stepsFrom_13, v_px_reach_comeCount_4, g_px_reach_come_all_5, g_px_reach_far_all_6, g_px_refused_all_7)) else (
    none)
def f_law_8 (L : Nat) (xs : Nat → Int32) (g_pm_least : Nat → Int32) (g_pm_refused : Nat → Int32) (g_pm_s : Nat → Int32) (g_px_refused_all : Nat → Int32) (v_px_routes_cornerPrice : Int32) (v_px_routes_firstWaiting : Int32) (v_px_routes_stepPrice : Int32) (v_px_routes_waitingCount : Int32) (g_px_routes_isWaiting_all : Nat → Int32) (g_px_routes_label_all : Nat → Int32) (g_px_routes_toll_all : Nat → Int32) (g_px_routes_waiting_all : Nat → Int32) (g_px_town_kinds_all : Nat → Int32) (p3 : Int32) : Option ((Nat → Int32) × (Nat → Int32) × (Nat → Int32) × Int32 × Int32 × Int32 × Int32 × (Nat → Int32) × (Nat → Int32) × (Nat → Int32) × (Nat → Int32)) :=
  zg (zin (p3 + (1 : Int32)) L) <|
  zg (zin (p3 + (2 : Int32)) L) <|
  zg (zin (p3 + (3 : Int32)) L) <|
  zb10 (f_X_corners g_px_refused_all v_px_routes_cornerPrice v_px_routes_firstWaiting v_px_routes_stepPrice v_px_routes_waitingCount g_px_routes_isWaiting_all g_px_routes_label_all g_px_routes_toll_all g_px_routes_waiting_all g_px_town_kinds_all (xs (p3 + (1 : Int32)).toNatClampNeg) (xs (p3 + (2 : Int32)).toNatClampNeg) (xs (p3 + (3 : Int32)).toNatClampNeg)) fun (r4 : Int32) (g_px_refused_all_5 : Nat → Int32) (v_px_routes_cornerPrice_6 : Int32) (v_px_routes_firstWaiting_7 : Int32) (v_px_routes_stepPrice_8 : Int32) (v_px_routes_waitingCount_9 : Int32) (g_px_routes_isWaiting_all_10 : Nat → Int32) (g_px_routes_label_all_11 : Nat → Int32) (g_px_routes_toll_all_12 : Nat → Int32) (g_px_routes_waiting_all_13 : Nat → Int32) =>
  zg (zin (p3 + (1 : Int32)) L) <|
  zg (zin (p3 + (2 : Int32)) L) <|
  zg (zin (p3 + (3 : Int32)) L) <|
  zb3 (f_M_corners g_pm_least g_pm_refused g_pm_s (xs (p3 + (1 : Int32)).toNatClampNeg) (xs (p3 + (2 : Int32)).toNatClampNeg) (xs (p3 + (3 : Int32)).toNatClampNeg)) fun (r18 : Int32) (g_pm_least_19 : Nat → Int32) (g_pm_refused_20 : Nat → Int32) =>
  if r4 = r18 then (
    some (g_pm_least_19, g_pm_refused_20, g_px_refused_all_5, v_px_routes_cornerPrice_6, v_px_routes_firstWaiting_7, v_px_routes_stepPrice_8, v_px_routes_waitingCount_9, g_px_routes_isWaiting_all_10, g_px_routes_label_all_11, g_px_routes_toll_all_12, g_px_routes_waiting_all_13)) else (
    none)
def f_law_9 (L : Nat) (xs : Nat → Int32) (g_pm_least : Nat → Int32) (g_pm_refused : Nat → Int32) (g_pm_s : Nat → Int32) (g_px_refused_all : Nat → Int32) (v_px_routes_cornerPrice : Int32) (v_px_routes_firstWaiting : Int32) (v_px_routes_stepPrice : Int32) (v_px_routes_waitingCount : Int32) (g_px_routes_isWaiting_all : Nat → Int32) (g_px_routes_label_all : Nat → Int32) (g_px_routes_toll_all : Nat → Int32) (g_px_routes_waiting_all : Nat → Int32) (v_px_town_fine : Int32) (g_px_town_kinds_all : Nat → Int32) (p3 : Int32) : Option ((Nat → Int32) × (Nat → Int32) × (Nat → Int32) × Int32 × Int32 × Int32 × Int32 × (Nat → Int32) × (Nat → Int32) × (Nat → Int32) × (Nat → Int32)) :=
  zg (zin (p3 + (1 : Int32)) L) <|
  zg (zin (p3 + (2 : Int32)) L) <|
  zb10 (f_X_fines g_px_refused_all v_px_routes_cornerPrice v_px_routes_firstWaiting v_px_routes_stepPrice v_px_routes_waitingCount g_px_routes_isWaiting_all g_px_routes_label_all g_px_routes_toll_all g_px_routes_waiting_all v_px_town_fine g_px_town_kinds_all (xs (p3 + (1 : Int32)).toNatClampNeg) (xs (p3 + (2 : Int32)).toNatClampNeg)) fun (r3 : Int32) (g_px_refused_all_4 : Nat → Int32) (v_px_routes_cornerPrice_5 : Int32) (v_px_routes_firstWaiting_6 : Int32) (v_px_routes_stepPrice_7 : Int32) (v_px_routes_waitingCount_8 : Int32) (g_px_routes_isWaiting_all_9 : Nat → Int32) (g_px_routes_label_all_10 : Nat → Int32) (g_px_routes_toll_all_11 : Nat → Int32) (g_px_routes_waiting_all_12 : Nat → Int32) =>
  zg (zin (p3 + (1 : Int32)) L) <|
  zg (zin (p3 + (2 : Int32)) L) <|
  zb3 (f_M_fines g_pm_least g_pm_refused g_pm_s (xs (p3 + (1 : Int32)).toNatClampNeg) (xs (p3 + (2 : Int32)).toNatClampNeg)) fun (r16 : Int32) (g_pm_least_17 : Nat → Int32) (g_pm_refused_18 : Nat → Int32) =>
  if r3 = r16 then (
    some (g_pm_least_17, g_pm_refused_18, g_px_refused_all_4, v_px_routes_cornerPrice_5, v_px_routes_firstWaiting_6, v_px_routes_stepPrice_7, v_px_routes_waitingCount_8, g_px_routes_isWaiting_all_9, g_px_routes_label_all_10, g_px_routes_toll_all_11, g_px_routes_waiting_all_12)) else (
    none)
def f_law_10 (L : Nat) (xs : Nat → Int32) (g_pm_refused : Nat → Int32) (g_pm_s : Nat → Int32) (g_px_refused_all : Nat → Int32) (g_px_town_kinds_all : Nat → Int32) (p3 : Int32) : Option ((Nat → Int32) × (Nat → Int32)) :=
  zg (zin (p3 + (1 : Int32)) L) <|
  zg (zin (p3 + (2 : Int32)) L) <|
  zb2 (f_X_straight g_px_refused_all g_px_town_kinds_all (xs (p3 + (1 : Int32)).toNatClampNeg) (xs (p3 + (2 : Int32)).toNatClampNeg)) fun (r3 : Int32) (g_px_refused_all_4 : Nat → Int32) =>
  zg (zin (p3 + (1 : Int32)) L) <|
  zg (zin (p3 + (2 : Int32)) L) <|
  zb2 (f_M_straight g_pm_refused g_pm_s (xs (p3 + (1 : Int32)).toNatClampNeg) (xs (p3 + (2 : Int32)).toNatClampNeg)) fun (r8 : Int32) (g_pm_refused_9 : Nat → Int32) =>
  if r3 = r8 then (
    some (g_pm_refused_9, g_px_refused_all_4)) else (
    none)
def f_law_11 (L : Nat) (xs : Nat → Int32) (g_pm_refused : Nat → Int32) (g_pm_s : Nat → Int32) (g_px_refused_all : Nat → Int32) (g_px_town_kinds_all : Nat → Int32) (p3 : Int32) : Option ((Nat → Int32) × (Nat → Int32)) :=
  zg (zin (p3 + (1 : Int32)) L) <|
  zb2 (f_X_longest g_px_refused_all g_px_town_kinds_all (xs (p3 + (1 : Int32)).toNatClampNeg)) fun (r2 : Int32) (g_px_refused_all_3 : Nat → Int32) =>
  zg (zin (p3 + (1 : Int32)) L) <|
  zb2 (f_M_longest g_pm_refused g_pm_s (xs (p3 + (1 : Int32)).toNatClampNeg)) fun (r6 : Int32) (g_pm_refused_7 : Nat → Int32) =>
  if r2 = r6 then (
    some (g_pm_refused_7, g_px_refused_all_3)) else (
    none)
def f_law_12 (L : Nat) (xs : Nat → Int32) (g_pm_most : Nat → Int32) (g_pm_next : Nat → Int32) (g_pm_refused : Nat → Int32) (g_pm_s : Nat → Int32) (g_px_refused_all : Nat → Int32) (g_px_talks_isHushed_all : Nat → Int32) (g_px_talks_now_all : Nat → Int32) (g_px_talks_then_all : Nat → Int32) (g_px_town_kinds_all : Nat → Int32) (p3 : Int32) : Option ((Nat → Int32) × (Nat → Int32) × (Nat → Int32) × (Nat → Int32) × (Nat → Int32) × (Nat → Int32) × (Nat → Int32)) :=
  zg (zin (p3 + (1 : Int32)) L) <|
  zg (zin (p3 + (2 : Int32)) L) <|
  zb5 (f_X_words g_px_refused_all g_px_talks_isHushed_all g_px_talks_now_all g_px_talks_then_all g_px_town_kinds_all (xs (p3 + (1 : Int32)).toNatClampNeg) (xs (p3 + (2 : Int32)).toNatClampNeg)) fun (r3 : Int32) (g_px_refused_all_4 : Nat → Int32) (g_px_talks_isHushed_all_5 : Nat → Int32) (g_px_talks_now_all_6 : Nat → Int32) (g_px_talks_then_all_7 : Nat → Int32) =>
  zg (zin (p3 + (1 : Int32)) L) <|
  zg (zin (p3 + (2 : Int32)) L) <|
  zb4 (f_M_words g_pm_most g_pm_next g_pm_refused g_pm_s (xs (p3 + (1 : Int32)).toNatClampNeg) (xs (p3 + (2 : Int32)).toNatClampNeg)) fun (r11 : Int32) (g_pm_most_12 : Nat → Int32) (g_pm_next_13 : Nat → Int32) (g_pm_refused_14 : Nat → Int32) =>
  if r3 = r11 then (
    some (g_pm_most_12, g_pm_next_13, g_pm_refused_14, g_px_refused_all_4, g_px_talks_isHushed_all_5, g_px_talks_now_all_6, g_px_talks_then_all_7)) else (
    none)
def f_law_13 (L : Nat) (xs : Nat → Int32) (g_pm_most : Nat → Int32) (g_pm_next : Nat → Int32) (g_pm_refused : Nat → Int32) (g_pm_s : Nat → Int32) (g_px_refused_all : Nat → Int32) (g_px_talks_isHushed_all : Nat → Int32) (g_px_talks_now_all : Nat → Int32) (g_px_talks_then_all : Nat → Int32) (g_px_town_kinds_all : Nat → Int32) (p3 : Int32) : Option ((Nat → Int32) × (Nat → Int32) × (Nat → Int32) × (Nat → Int32) × (Nat → Int32) × (Nat → Int32) × (Nat → Int32)) :=
  zg (zin (p3 + (1 : Int32)) L) <|
  zg (zin (p3 + (2 : Int32)) L) <|
  zb5 (f_X_unheard g_px_refused_all g_px_talks_isHushed_all g_px_talks_now_all g_px_talks_then_all g_px_town_kinds_all (xs (p3 + (1 : Int32)).toNatClampNeg) (xs (p3 + (2 : Int32)).toNatClampNeg)) fun (r3 : Int32) (g_px_refused_all_4 : Nat → Int32) (g_px_talks_isHushed_all_5 : Nat → Int32) (g_px_talks_now_all_6 : Nat → Int32) (g_px_talks_then_all_7 : Nat → Int32) =>
  zg (zin (p3 + (1 : Int32)) L) <|
  zg (zin (p3 + (2 : Int32)) L) <|
  zb4 (f_M_unheard g_pm_most g_pm_next g_pm_refused g_pm_s (xs (p3 + (1 : Int32)).toNatClampNeg) (xs (p3 + (2 : Int32)).toNatClampNeg)) fun (r11 : Int32) (g_pm_most_12 : Nat → Int32) (g_pm_next_13 : Nat → Int32) (g_pm_refused_14 : Nat → Int32) =>
  if r3 = r11 then (
    some (g_pm_most_12, g_pm_next_13, g_pm_refused_14, g_px_refused_all_4, g_px_talks_isHushed_all_5, g_px_talks_now_all_6, g_px_talks_then_all_7)) else (
    none)
def f_law_14 (L : Nat) (xs : Nat → Int32) (g_pm_most : Nat → Int32) (g_pm_next : Nat → Int32) (g_pm_refused : Nat → Int32) (g_pm_s : Nat → Int32) (g_px_refused_all : Nat → Int32) (g_px_talks_isHushed_all : Nat → Int32) (g_px_talks_now_all : Nat → Int32) (g_px_talks_then_all : Nat → Int32) (g_px_town_kinds_all : Nat → Int32) (p3 : Int32) : Option ((Nat → Int32) × (Nat → Int32) × (Nat → Int32) × (Nat → Int32) × (Nat → Int32) × (Nat → Int32) × (Nat → Int32)) :=
  zg (zin (p3 + (1 : Int32)) L) <|
  zg (zin (p3 + (2 : Int32)) L) <|
  zb5 (f_X_talk g_px_refused_all g_px_talks_isHushed_all g_px_talks_now_all g_px_talks_then_all g_px_town_kinds_all (xs (p3 + (1 : Int32)).toNatClampNeg) (xs (p3 + (2 : Int32)).toNatClampNeg)) fun (r3 : Int32) (g_px_refused_all_4 : Nat → Int32) (g_px_talks_isHushed_all_5 : Nat → Int32) (g_px_talks_now_all_6 : Nat → Int32) (g_px_talks_then_all_7 : Nat → Int32) =>
  zg (zin (p3 + (1 : Int32)) L) <|
  zg (zin (p3 + (2 : Int32)) L) <|
  zb4 (f_M_talk g_pm_most g_pm_next g_pm_refused g_pm_s (xs (p3 + (1 : Int32)).toNatClampNeg) (xs (p3 + (2 : Int32)).toNatClampNeg)) fun (r11 : Int32) (g_pm_most_12 : Nat → Int32) (g_pm_next_13 : Nat → Int32) (g_pm_refused_14 : Nat → Int32) =>
  if r3 = r11 then (
    some (g_pm_most_12, g_pm_next_13, g_pm_refused_14, g_px_refused_all_4, g_px_talks_isHushed_all_5, g_px_talks_now_all_6, g_px_talks_then_all_7)) else (
    none)
def f_law_15 (L : Nat) (xs : Nat → Int32) (g_pm_otherSteps : Nat → Int32) (g_pm_refused : Nat → Int32) (g_pm_s : Nat → Int32) (g_pm_stepsFrom : Nat → Int32) (v_px_otherReach_comeCount : Int32) (g_px_otherReach_come_all : Nat → Int32) (g_px_otherReach_far_all : Nat → Int32) (v_px_reach_comeCount : Int32) (g_px_reach_come_all : Nat → Int32) (g_px_reach_far_all : Nat → Int32) (g_px_refused_all : Nat → Int32) (g_px_town_kinds_all : Nat → Int32) (p3 : Int32) : Option ((Nat → Int32) × (Nat → Int32) × (Nat → Int32) × Int32 × (Nat → Int32) × (Nat → Int32) × Int32 × (Nat → Int32) × (Nat → Int32) × (Nat → Int32)) :=
  zg (zin (p3 + (1 : Int32)) L) <|
  zg (zin (p3 + (2 : Int32)) L) <|
  zg (zin (p3 + (3 : Int32)) L) <|
  zb8 (f_X_meet v_px_otherReach_comeCount g_px_otherReach_come_all g_px_otherReach_far_all v_px_reach_comeCount g_px_reach_come_all g_px_reach_far_all g_px_refused_all g_px_town_kinds_all (xs (p3 + (1 : Int32)).toNatClampNeg) (xs (p3 + (2 : Int32)).toNatClampNeg) (xs (p3 + (3 : Int32)).toNatClampNeg)) fun (r4 : Int32) (v_px_otherReach_comeCount_5 : Int32) (g_px_otherReach_come_all_6 : Nat → Int32) (g_px_otherReach_far_all_7 : Nat → Int32) (v_px_reach_comeCount_8 : Int32) (g_px_reach_come_all_9 : Nat → Int32) (g_px_reach_far_all_10 : Nat → Int32) (g_px_refused_all_11 : Nat → Int32) =>
  zg (zin (p3 + (1 : Int32)) L) <|
  zg (zin (p3 + (2 : Int32)) L) <|
  zg (zin (p3 + (3 : Int32)) L) <|
  zb4 (f_M_meet g_pm_otherSteps g_pm_refused g_pm_s g_pm_stepsFrom (xs (p3 + (1 : Int32)).toNatClampNeg) (xs (p3 + (2 : Int32)).toNatClampNeg) (xs (p3 + (3 : Int32)).toNatClampNeg)) fun (r16 : Int32) (g_pm_otherSteps_17 : Nat → Int32) (g_pm_refused_18 : Nat → Int32) (g_pm_stepsFrom_19 : Nat → Int32) =>
  if r4 = r16 then (
    some (g_pm_otherSteps_17, g_pm_refused_18, g_pm_stepsFrom_19, v_px_otherReach_comeCount_5, g_px_otherReach_come_all_6, g_px_otherReach_far_all_7, v_px_reach_comeCount_8, g_px_reach_come_all_9, g_px_reach_far_all_10, g_px_refused_all_11)) else (
    none)
def f_law_16 (L : Nat) (xs : Nat → Int32) (g_pm_least : Nat → Int32) (g_pm_refused : Nat → Int32) (g_pm_s : Nat → Int32) (g_px_refused_all : Nat → Int32) (v_px_routes_cornerPrice : Int32) (v_px_routes_firstWaiting : Int32) (v_px_routes_stepPrice : Int32) (v_px_routes_waitingCount : Int32) (g_px_routes_isWaiting_all : Nat → Int32) (g_px_routes_label_all : Nat → Int32) (g_px_routes_toll_all : Nat → Int32) (g_px_routes_waiting_all : Nat → Int32) (v_px_town_home : Int32) (g_px_town_kinds_all : Nat → Int32) (p3 : Int32) : Option ((Nat → Int32) × (Nat → Int32) × (Nat → Int32) × (Nat → Int32) × Int32 × Int32 × Int32 × Int32 × (Nat → Int32) × (Nat → Int32) × (Nat → Int32) × (Nat → Int32) × (Nat → Int32)) :=
  zg (zin (p3 + (1 : Int32)) L) <|
  zg (zin (p3 + (2 : Int32)) L) <|
  zb11 (f_X_roundOff g_px_refused_all v_px_routes_cornerPrice v_px_routes_firstWaiting v_px_routes_stepPrice v_px_routes_waitingCount g_px_routes_isWaiting_all g_px_routes_label_all g_px_routes_toll_all g_px_routes_waiting_all v_px_town_home g_px_town_kinds_all (xs (p3 + (1 : Int32)).toNatClampNeg) (xs (p3 + (2 : Int32)).toNatClampNeg)) fun (r3 : Int32) (g_px_refused_all_4 : Nat → Int32) (v_px_routes_cornerPrice_5 : Int32) (v_px_routes_firstWaiting_6 : Int32) (v_px_routes_stepPrice_7 : Int32) (v_px_routes_waitingCount_8 : Int32) (g_px_routes_isWaiting_all_9 : Nat → Int32) (g_px_routes_label_all_10 : Nat → Int32) (g_px_routes_toll_all_11 : Nat → Int32) (g_px_routes_waiting_all_12 : Nat → Int32) (g_px_town_kinds_all_13 : Nat → Int32) =>
  zg (zin (p3 + (1 : Int32)) L) <|
  zg (zin (p3 + (2 : Int32)) L) <|
  zb4 (f_M_roundOff g_pm_least g_pm_refused g_pm_s (xs (p3 + (1 : Int32)).toNatClampNeg) (xs (p3 + (2 : Int32)).toNatClampNeg)) fun (r17 : Int32) (g_pm_least_18 : Nat → Int32) (g_pm_refused_19 : Nat → Int32) (g_pm_s_20 : Nat → Int32) =>
  if r3 = r17 then (
    some (g_pm_least_18, g_pm_refused_19, g_pm_s_20, g_px_refused_all_4, v_px_routes_cornerPrice_5, v_px_routes_firstWaiting_6, v_px_routes_stepPrice_7, v_px_routes_waitingCount_8, g_px_routes_isWaiting_all_9, g_px_routes_label_all_10, g_px_routes_toll_all_11, g_px_routes_waiting_all_12, g_px_town_kinds_all_13)) else (
    none)
def f_law_17 (L : Nat) (xs : Nat → Int32) (g_pm_refused : Nat → Int32) (g_pm_s : Nat → Int32) (g_px_hearers_all : Nat → Int32) (g_px_refused_all : Nat → Int32) (v_px_town_home : Int32) (g_px_town_kinds_all : Nat → Int32) (p3 : Int32) : Option ((Nat → Int32) × (Nat → Int32) × (Nat → Int32)) :=
  zg (zin (p3 + (1 : Int32)) L) <|
  zb3 (f_X_newNiche g_px_hearers_all g_px_refused_all v_px_town_home g_px_town_kinds_all (xs (p3 + (1 : Int32)).toNatClampNeg)) fun (r2 : Int32) (g_px_hearers_all_3 : Nat → Int32) (g_px_refused_all_4 : Nat → Int32) =>
  zg (zin (p3 + (1 : Int32)) L) <|
  zb2 (f_M_newNiche g_pm_refused g_pm_s (xs (p3 + (1 : Int32)).toNatClampNeg)) fun (r7 : Int32) (g_pm_refused_8 : Nat → Int32) =>
  if r2 = r7 then (
    some (g_pm_refused_8, g_px_hearers_all_3, g_px_refused_all_4)) else (
    none)
def f_law_18 (L : Nat) (xs : Nat → Int32) (g_pm_refused : Nat → Int32) (g_pm_s : Nat → Int32) (g_px_hearers_all : Nat → Int32) (g_px_refused_all : Nat → Int32) (g_px_town_kinds_all : Nat → Int32) (p3 : Int32) : Option ((Nat → Int32) × (Nat → Int32) × (Nat → Int32)) :=
  zb3 (f_X_enough g_px_hearers_all g_px_refused_all g_px_town_kinds_all) fun (r1 : Int32) (g_px_hearers_all_2 : Nat → Int32) (g_px_refused_all_3 : Nat → Int32) =>
  zb2 (f_M_enough g_pm_refused g_pm_s) fun (r5 : Int32) (g_pm_refused_6 : Nat → Int32) =>
  if r1 = r5 then (
    some (g_pm_refused_6, g_px_hearers_all_2, g_px_refused_all_3)) else (
    none)
def f_law_19 (L : Nat) (xs : Nat → Int32) (g_pm_s : Nat → Int32) (g_pm_stepsFrom : Nat → Int32) (v_px_reach_comeCount : Int32) (g_px_reach_come_all : Nat → Int32) (g_px_reach_far_all : Nat → Int32) (g_px_town_kinds_all : Nat → Int32) (p3 : Int32) : Option ((Nat → Int32) × Int32 × (Nat → Int32) × (Nat → Int32)) :=
  zb4 (f_X_quiet v_px_reach_comeCount g_px_reach_come_all g_px_reach_far_all g_px_town_kinds_all) fun (r1 : Int32) (v_px_reach_comeCount_2 : Int32) (g_px_reach_come_all_3 : Nat → Int32) (g_px_reach_far_all_4 : Nat → Int32) =>
  zb2 (f_M_quiet g_pm_s g_pm_stepsFrom) fun (r6 : Int32) (g_pm_stepsFrom_7 : Nat → Int32) =>
  if r1 = r6 then (
    some (g_pm_stepsFrom_7, v_px_reach_comeCount_2, g_px_reach_come_all_3, g_px_reach_far_all_4)) else (
    none)
def f_law_20 (L : Nat) (xs : Nat → Int32) (g_pm_refused : Nat → Int32) (g_pm_s : Nat → Int32) (g_pm_stepsFrom : Nat → Int32) (v_px_reach_comeCount : Int32) (g_px_reach_come_all : Nat → Int32) (g_px_reach_far_all : Nat → Int32) (g_px_refused_all : Nat → Int32) (g_px_town_kinds_all : Nat → Int32) (p3 : Int32) : Option ((Nat → Int32) × (Nat → Int32) × Int32 × (Nat → Int32) × (Nat → Int32) × (Nat → Int32)) :=
  zg (zin (p3 + (1 : Int32)) L) <|
  zb5 (f_X_yards v_px_reach_comeCount g_px_reach_come_all g_px_reach_far_all g_px_refused_all g_px_town_kinds_all (xs (p3 + (1 : Int32)).toNatClampNeg)) fun (r2 : Int32) (v_px_reach_comeCount_3 : Int32) (g_px_reach_come_all_4 : Nat → Int32) (g_px_reach_far_all_5 : Nat → Int32) (g_px_refused_all_6 : Nat → Int32) =>
  zg (zin (p3 + (1 : Int32)) L) <|
  zb3 (f_M_yards g_pm_refused g_pm_s g_pm_stepsFrom (xs (p3 + (1 : Int32)).toNatClampNeg)) fun (r9 : Int32) (g_pm_refused_10 : Nat → Int32) (g_pm_stepsFrom_11 : Nat → Int32) =>
  if r2 = r9 then (
    some (g_pm_refused_10, g_pm_stepsFrom_11, v_px_reach_comeCount_3, g_px_reach_come_all_4, g_px_reach_far_all_5, g_px_refused_all_6)) else (
    none)
def f_law_21 (L : Nat) (xs : Nat → Int32) (v_pm_rowMany : Int32) (g_pm_ahead : Nat → Int32) (g_pm_now : Nat → Int32) (g_pm_refused : Nat → Int32) (g_pm_row : Nat → Int32) (g_pm_s : Nat → Int32) (v_px_toldCount : Int32) (g_px_refused_all : Nat → Int32) (g_px_talks_now_all : Nat → Int32) (g_px_talks_then_all : Nat → Int32) (g_px_told_all : Nat → Int32) (g_px_town_kinds_all : Nat → Int32) (p3 : Int32) : Option ((Nat → Int32) × (Nat → Int32) × (Nat → Int32) × (Nat → Int32) × (Nat → Int32) × (Nat → Int32)) :=
  zg (zin (p3 + (1 : Int32)) L) <|
  zb4 (f_X_said v_px_toldCount g_px_refused_all g_px_talks_now_all g_px_talks_then_all g_px_told_all g_px_town_kinds_all (xs (p3 + (1 : Int32)).toNatClampNeg)) fun (r2 : Int32) (g_px_refused_all_3 : Nat → Int32) (g_px_talks_now_all_4 : Nat → Int32) (g_px_talks_then_all_5 : Nat → Int32) =>
  zg (zin (p3 + (1 : Int32)) L) <|
  zb4 (f_M_said v_pm_rowMany g_pm_ahead g_pm_now g_pm_refused g_pm_row g_pm_s (xs (p3 + (1 : Int32)).toNatClampNeg)) fun (r8 : Int32) (g_pm_ahead_9 : Nat → Int32) (g_pm_now_10 : Nat → Int32) (g_pm_refused_11 : Nat → Int32) =>
  if r2 = r8 then (
    some (g_pm_ahead_9, g_pm_now_10, g_pm_refused_11, g_px_refused_all_3, g_px_talks_now_all_4, g_px_talks_then_all_5)) else (
    none)
def f_law_22 (L : Nat) (xs : Nat → Int32) (v_pm_rowMany : Int32) (g_pm_refused : Nat → Int32) (g_pm_row : Nat → Int32) (v_px_toldCount : Int32) (g_px_refused_all : Nat → Int32) (g_px_told_all : Nat → Int32) (p3 : Int32) : Option (Int32 × (Nat → Int32) × (Nat → Int32) × Int32 × (Nat → Int32) × (Nat → Int32)) :=
  zg (zin (p3 + (1 : Int32)) L) <|
  zb4 (f_X_row v_px_toldCount g_px_refused_all g_px_told_all (xs (p3 + (1 : Int32)).toNatClampNeg)) fun (r2 : Int32) (v_px_toldCount_3 : Int32) (g_px_refused_all_4 : Nat → Int32) (g_px_told_all_5 : Nat → Int32) =>
  zg (zin (p3 + (1 : Int32)) L) <|
  zb4 (f_M_row v_pm_rowMany g_pm_refused g_pm_row (xs (p3 + (1 : Int32)).toNatClampNeg)) fun (r8 : Int32) (v_pm_rowMany_9 : Int32) (g_pm_refused_10 : Nat → Int32) (g_pm_row_11 : Nat → Int32) =>
  if r2 = r8 then (
    some (v_pm_rowMany_9, g_pm_refused_10, g_pm_row_11, v_px_toldCount_3, g_px_refused_all_4, g_px_told_all_5)) else (
    none)
def f_law_23 (L : Nat) (xs : Nat → Int32) (v_pm_rowMany : Int32) (g_pm_refused : Nat → Int32) (g_pm_row : Nat → Int32) (g_pm_s : Nat → Int32) (v_px_toldCount : Int32) (g_px_refused_all : Nat → Int32) (v_px_stroll_allCorners : Int32) (v_px_stroll_allCuts : Int32) (v_px_stroll_allWords : Int32) (v_px_stroll_came : Int32) (v_px_stroll_longestRun : Int32) (v_px_stroll_run : Int32) (v_px_stroll_square : Int32) (g_px_stroll_spoken_all : Nat → Int32) (g_px_told_all : Nat → Int32) (v_px_town_breath : Int32) (v_px_town_home : Int32) (g_px_town_kinds_all : Nat → Int32) (p3 : Int32) : Option (Int32 × (Nat → Int32) × Int32 × (Nat → Int32) × Int32 × Int32 × Int32 × Int32 × Int32 × Int32 × Int32 × (Nat → Int32)) :=
  zb11 (f_X_judge v_px_toldCount g_px_refused_all v_px_stroll_allCorners v_px_stroll_allCuts v_px_stroll_allWords v_px_stroll_came v_px_stroll_longestRun v_px_stroll_run v_px_stroll_square g_px_stroll_spoken_all g_px_told_all v_px_town_breath v_px_town_home g_px_town_kinds_all) fun (r1 : Int32) (v_px_toldCount_2 : Int32) (g_px_refused_all_3 : Nat → Int32) (v_px_stroll_allCorners_4 : Int32) (v_px_stroll_allCuts_5 : Int32) (v_px_stroll_allWords_6 : Int32) (v_px_stroll_came_7 : Int32) (v_px_stroll_longestRun_8 : Int32) (v_px_stroll_run_9 : Int32) (v_px_stroll_square_10 : Int32) (g_px_stroll_spoken_all_11 : Nat → Int32) =>
  zb3 (f_M_judge v_pm_rowMany g_pm_refused g_pm_row g_pm_s) fun (r13 : Int32) (v_pm_rowMany_14 : Int32) (g_pm_refused_15 : Nat → Int32) =>
  if r1 = r13 then (
    some (v_pm_rowMany_14, g_pm_refused_15, v_px_toldCount_2, g_px_refused_all_3, v_px_stroll_allCorners_4, v_px_stroll_allCuts_5, v_px_stroll_allWords_6, v_px_stroll_came_7, v_px_stroll_longestRun_8, v_px_stroll_run_9, v_px_stroll_square_10, g_px_stroll_spoken_all_11)) else (
    none)
def f_law_24 (L : Nat) (xs : Nat → Int32) (v_pm_rowMany : Int32) (v_px_toldCount : Int32) (p3 : Int32) : Option (Int32 × Int32) :=
  zb2 (f_X_clear v_px_toldCount) fun (r1 : Int32) (v_px_toldCount_2 : Int32) =>
  zb2 (f_M_clear v_pm_rowMany) fun (r4 : Int32) (v_pm_rowMany_5 : Int32) =>
  if r1 = r4 then (
    some (v_pm_rowMany_5, v_px_toldCount_2)) else (
    none)
def f_law_25 (L : Nat) (xs : Nat → Int32) (v_pm_seed : Int32) (g_pm_refused : Nat → Int32) (g_pm_s : Nat → Int32) (g_px_refused_all : Nat → Int32) (v_px_stroll_allCorners : Int32) (v_px_stroll_allCuts : Int32) (v_px_stroll_allWords : Int32) (v_px_stroll_came : Int32) (v_px_stroll_longestRun : Int32) (v_px_stroll_run : Int32) (v_px_stroll_square : Int32) (g_px_stroll_spoken_all : Nat → Int32) (v_px_town_breath : Int32) (v_px_town_fine : Int32) (v_px_town_home : Int32) (g_px_town_kinds_all : Nat → Int32) (p3 : Int32) : Option (Int32 × (Nat → Int32) × (Nat → Int32) × Int32 × Int32 × Int32 × Int32 × Int32 × Int32 × Int32 × (Nat → Int32)) :=
  zg (zin (p3 + (1 : Int32)) L) <|
  zg (zin (p3 + (2 : Int32)) L) <|
  zg (zin (p3 + (3 : Int32)) L) <|
  zb10 (f_X_lots g_px_refused_all v_px_stroll_allCorners v_px_stroll_allCuts v_px_stroll_allWords v_px_stroll_came v_px_stroll_longestRun v_px_stroll_run v_px_stroll_square g_px_stroll_spoken_all v_px_town_breath v_px_town_fine v_px_town_home g_px_town_kinds_all (xs (p3 + (1 : Int32)).toNatClampNeg) (xs (p3 + (2 : Int32)).toNatClampNeg) (xs (p3 + (3 : Int32)).toNatClampNeg)) fun (r4 : Int32) (g_px_refused_all_5 : Nat → Int32) (v_px_stroll_allCorners_6 : Int32) (v_px_stroll_allCuts_7 : Int32) (v_px_stroll_allWords_8 : Int32) (v_px_stroll_came_9 : Int32) (v_px_stroll_longestRun_10 : Int32) (v_px_stroll_run_11 : Int32) (v_px_stroll_square_12 : Int32) (g_px_stroll_spoken_all_13 : Nat → Int32) =>
  zg (zin (p3 + (1 : Int32)) L) <|
  zg (zin (p3 + (2 : Int32)) L) <|
  zg (zin (p3 + (3 : Int32)) L) <|
  zb3 (f_M_lots v_pm_seed g_pm_refused g_pm_s (xs (p3 + (1 : Int32)).toNatClampNeg) (xs (p3 + (2 : Int32)).toNatClampNeg) (xs (p3 + (3 : Int32)).toNatClampNeg)) fun (r18 : Int32) (v_pm_seed_19 : Int32) (g_pm_refused_20 : Nat → Int32) =>
  if r4 = r18 then (
    some (v_pm_seed_19, g_pm_refused_20, g_px_refused_all_5, v_px_stroll_allCorners_6, v_px_stroll_allCuts_7, v_px_stroll_allWords_8, v_px_stroll_came_9, v_px_stroll_longestRun_10, v_px_stroll_run_11, v_px_stroll_square_12, g_px_stroll_spoken_all_13)) else (
    none)
def f_law_26 (L : Nat) (xs : Nat → Int32) (v_pm_hasImage : Int32) (g_pm_image : Nat → Int32) (g_pm_s : Nat → Int32) (v_px_isKept : Int32) (v_px_kept_breath : Int32) (v_px_kept_fine : Int32) (v_px_kept_home : Int32) (g_px_kept_kinds_all : Nat → Int32) (v_px_town_breath : Int32) (v_px_town_fine : Int32) (v_px_town_home : Int32) (g_px_town_kinds_all : Nat → Int32) (p3 : Int32) : Option (Int32 × (Nat → Int32) × Int32 × Int32 × Int32 × Int32 × (Nat → Int32)) :=
  zb6 (f_X_image v_px_isKept v_px_kept_breath v_px_kept_fine v_px_kept_home g_px_kept_kinds_all v_px_town_breath v_px_town_fine v_px_town_home g_px_town_kinds_all) fun (r1 : Int32) (v_px_isKept_2 : Int32) (v_px_kept_breath_3 : Int32) (v_px_kept_fine_4 : Int32) (v_px_kept_home_5 : Int32) (g_px_kept_kinds_all_6 : Nat → Int32) =>
  zb3 (f_M_image v_pm_hasImage g_pm_image g_pm_s) fun (r8 : Int32) (v_pm_hasImage_9 : Int32) (g_pm_image_10 : Nat → Int32) =>
  if r1 = r8 then (
    some (v_pm_hasImage_9, g_pm_image_10, v_px_isKept_2, v_px_kept_breath_3, v_px_kept_fine_4, v_px_kept_home_5, g_px_kept_kinds_all_6)) else (
    none)
def f_law_27 (L : Nat) (xs : Nat → Int32) (v_pm_hasImage : Int32) (g_pm_image : Nat → Int32) (g_pm_refused : Nat → Int32) (g_pm_s : Nat → Int32) (v_px_isKept : Int32) (v_px_kept_breath : Int32) (v_px_kept_fine : Int32) (v_px_kept_home : Int32) (g_px_kept_kinds_all : Nat → Int32) (g_px_refused_all : Nat → Int32) (v_px_town_breath : Int32) (v_px_town_fine : Int32) (v_px_town_home : Int32) (g_px_town_kinds_all : Nat → Int32) (p3 : Int32) : Option ((Nat → Int32) × (Nat → Int32) × (Nat → Int32) × Int32 × Int32 × Int32 × (Nat → Int32)) :=
  zb6 (f_X_on v_px_isKept v_px_kept_breath v_px_kept_fine v_px_kept_home g_px_kept_kinds_all g_px_refused_all v_px_town_breath v_px_town_fine v_px_town_home g_px_town_kinds_all) fun (r1 : Int32) (g_px_refused_all_2 : Nat → Int32) (v_px_town_breath_3 : Int32) (v_px_town_fine_4 : Int32) (v_px_town_home_5 : Int32) (g_px_town_kinds_all_6 : Nat → Int32) =>
  zb3 (f_M_on v_pm_hasImage g_pm_image g_pm_refused g_pm_s) fun (r8 : Int32) (g_pm_refused_9 : Nat → Int32) (g_pm_s_10 : Nat → Int32) =>
  if r1 = r8 then (
    some (g_pm_refused_9, g_pm_s_10, g_px_refused_all_2, v_px_town_breath_3, v_px_town_fine_4, v_px_town_home_5, g_px_town_kinds_all_6)) else (
    none)
def f_law_28 (L : Nat) (xs : Nat → Int32) (v_pm_letterMany : Int32) (v_pm_rowMany : Int32) (g_pm_refused : Nat → Int32) (g_pm_s : Nat → Int32) (v_px_toldCount : Int32) (v_px_letters_count : Int32) (g_px_refused_all : Nat → Int32) (v_px_town_breath : Int32) (v_px_town_fine : Int32) (v_px_town_home : Int32) (g_px_town_kinds_all : Nat → Int32) (p3 : Int32) : Option (Unit) :=
  zg (zin (p3 + (1 : Int32)) L) <|
  zb1 (f_X_count v_px_toldCount v_px_letters_count g_px_refused_all v_px_town_breath v_px_town_fine v_px_town_home g_px_town_kinds_all (xs (p3 + (1 : Int32)).toNatClampNeg)) fun (r2 : Int32) =>
  zg (zin (p3 + (1 : Int32)) L) <|
  zb1 (f_M_count v_pm_letterMany v_pm_rowMany g_pm_refused g_pm_s (xs (p3 + (1 : Int32)).toNatClampNeg)) fun (r5 : Int32) =>
  if r2 = r5 then (
    some ()) else (
    none)
def lawC (cI cZ : ClassId) (a_pm a_pm_s a_pm_image a_pm_was a_pm_letters a_pm_row a_pm_refused a_pm_numbers a_pm_least a_pm_stepsFrom a_pm_most a_pm_next a_pm_otherSteps a_pm_ahead a_pm_now a_px a_px_town a_px_trial a_px_kept a_px_letters a_px_told a_px_refused a_px_stroll a_px_reach a_px_otherReach a_px_routes a_px_talks a_px_hearers a_px_hearers_all a_px_kept_kinds a_px_kept_kinds_all a_px_letters_all a_px_letters_all_all a_px_otherReach_far a_px_otherReach_come a_px_otherReach_come_all a_px_otherReach_far_all a_px_reach_far a_px_reach_come a_px_reach_come_all a_px_reach_far_all a_px_refused_all a_px_routes_label a_px_routes_waiting a_px_routes_isWaiting a_px_routes_toll a_px_routes_isWaiting_all a_px_routes_label_all a_px_routes_toll_all a_px_routes_waiting_all a_px_stroll_spoken a_px_stroll_spoken_all a_px_talks_now a_px_talks_then a_px_talks_isHushed a_px_talks_isHushed_all a_px_talks_now_all a_px_talks_then_all a_px_told_all a_px_town_kinds a_px_town_kinds_all a_px_trial_kinds a_px_trial_kinds_all : Nat) (v_pm_hasImage : Int32) (v_pm_letterMany : Int32) (v_pm_rowMany : Int32) (v_pm_place : Int32) (v_pm_seed : Int32) (g_pm_ahead : Nat → Int32) (g_pm_image : Nat → Int32) (g_pm_least : Nat → Int32) (g_pm_letters : Nat → Int32) (g_pm_most : Nat → Int32) (g_pm_next : Nat → Int32) (g_pm_now : Nat → Int32) (g_pm_numbers : Nat → Int32) (g_pm_otherSteps : Nat → Int32) (g_pm_refused : Nat → Int32) (g_pm_row : Nat → Int32) (g_pm_s : Nat → Int32) (g_pm_stepsFrom : Nat → Int32) (g_pm_was : Nat → Int32) (v_px_isKept : Int32) (v_px_toldCount : Int32) (g_px_hearers_all : Nat → Int32) (v_px_kept_home : Int32) (v_px_kept_fine : Int32) (v_px_kept_breath : Int32) (g_px_kept_kinds_all : Nat → Int32) (v_px_letters_count : Int32) (g_px_letters_all_all : Nat → Int32) (v_px_otherReach_comeCount : Int32) (g_px_otherReach_come_all : Nat → Int32) (g_px_otherReach_far_all : Nat → Int32) (v_px_reach_comeCount : Int32) (g_px_reach_come_all : Nat → Int32) (g_px_reach_far_all : Nat → Int32) (g_px_refused_all : Nat → Int32) (v_px_routes_firstWaiting : Int32) (v_px_routes_waitingCount : Int32) (v_px_routes_cornerPrice : Int32) (v_px_routes_stepPrice : Int32) (g_px_routes_isWaiting_all : Nat → Int32) (g_px_routes_label_all : Nat → Int32) (g_px_routes_toll_all : Nat → Int32) (g_px_routes_waiting_all : Nat → Int32) (v_px_stroll_square : Int32) (v_px_stroll_came : Int32) (v_px_stroll_allWords : Int32) (v_px_stroll_allCorners : Int32) (v_px_stroll_allCuts : Int32) (v_px_stroll_run : Int32) (v_px_stroll_longestRun : Int32) (g_px_stroll_spoken_all : Nat → Int32) (g_px_talks_isHushed_all : Nat → Int32) (g_px_talks_now_all : Nat → Int32) (g_px_talks_then_all : Nat → Int32) (g_px_told_all : Nat → Int32) (v_px_town_home : Int32) (v_px_town_fine : Int32) (v_px_town_breath : Int32) (g_px_town_kinds_all : Nat → Int32) (v_px_trial_home : Int32) (v_px_trial_fine : Int32) (v_px_trial_breath : Int32) (g_px_trial_kinds_all : Nat → Int32) : va_W := [(a_pm, .inr (8, [.ref a_pm_s, .ref a_pm_image, .ref a_pm_was, .int v_pm_hasImage, .ref a_pm_letters, .ref a_pm_row, .ref a_pm_refused, .int v_pm_letterMany, .int v_pm_rowMany, .int v_pm_place, .ref a_pm_numbers, .ref a_pm_least, .ref a_pm_stepsFrom, .ref a_pm_most, .ref a_pm_next, .ref a_pm_otherSteps, .ref a_pm_ahead, .ref a_pm_now, .int v_pm_seed])), (a_pm_ahead, .inl (cZ, 180, .inl g_pm_ahead)), (a_pm_image, .inl (cI, 39, .inl g_pm_image)), (a_pm_least, .inl (cI, 180, .inl g_pm_least)), (a_pm_letters, .inl (cI, 96, .inl g_pm_letters)), (a_pm_most, .inl (cI, 180, .inl g_pm_most)), (a_pm_next, .inl (cI, 180, .inl g_pm_next)), (a_pm_now, .inl (cZ, 180, .inl g_pm_now)), (a_pm_numbers, .inl (cI, 3, .inl g_pm_numbers)), (a_pm_otherSteps, .inl (cI, 36, .inl g_pm_otherSteps)), (a_pm_refused, .inl (cI, 7, .inl g_pm_refused)), (a_pm_row, .inl (cI, 20, .inl g_pm_row)), (a_pm_s, .inl (cI, 39, .inl g_pm_s)), (a_pm_stepsFrom, .inl (cI, 36, .inl g_pm_stepsFrom)), (a_pm_was, .inl (cI, 39, .inl g_pm_was)), (a_px, .inr (7, [.ref a_px_town, .ref a_px_trial, .ref a_px_kept, .int v_px_isKept, .ref a_px_letters, .ref a_px_told, .int v_px_toldCount, .ref a_px_refused, .ref a_px_stroll, .ref a_px_reach, .ref a_px_otherReach, .ref a_px_routes, .ref a_px_talks, .ref a_px_hearers])), (a_px_hearers, .inr (1, [.ref a_px_hearers_all])), (a_px_hearers_all, .inl (cI, 36, .inl g_px_hearers_all)), (a_px_kept, .inr (6, [.ref a_px_kept_kinds, .int v_px_kept_home, .int v_px_kept_fine, .int v_px_kept_breath])), (a_px_kept_kinds, .inr (1, [.ref a_px_kept_kinds_all])), (a_px_kept_kinds_all, .inl (cI, 36, .inl g_px_kept_kinds_all)), (a_px_letters, .inr (0, [.ref a_px_letters_all, .int v_px_letters_count])), (a_px_letters_all, .inr (1, [.ref a_px_letters_all_all])), (a_px_letters_all_all, .inl (cI, 96, .inl g_px_letters_all_all)), (a_px_otherReach, .inr (2, [.ref a_px_town, .ref a_px_otherReach_far, .ref a_px_otherReach_come, .int v_px_otherReach_comeCount])), (a_px_otherReach_come, .inr (1, [.ref a_px_otherReach_come_all])), (a_px_otherReach_come_all, .inl (cI, 36, .inl g_px_otherReach_come_all)), (a_px_otherReach_far, .inr (1, [.ref a_px_otherReach_far_all])), (a_px_otherReach_far_all, .inl (cI, 36, .inl g_px_otherReach_far_all)), (a_px_reach, .inr (2, [.ref a_px_town, .ref a_px_reach_far, .ref a_px_reach_come, .int v_px_reach_comeCount])), (a_px_reach_come, .inr (1, [.ref a_px_reach_come_all])), (a_px_reach_come_all, .inl (cI, 36, .inl g_px_reach_come_all)), (a_px_reach_far, .inr (1, [.ref a_px_reach_far_all])), (a_px_reach_far_all, .inl (cI, 36, .inl g_px_reach_far_all)), (a_px_refused, .inr (1, [.ref a_px_refused_all])), (a_px_refused_all, .inl (cI, 7, .inl g_px_refused_all)), (a_px_routes, .inr (3, [.ref a_px_town, .ref a_px_routes_label, .ref a_px_routes_waiting, .ref a_px_routes_isWaiting, .int v_px_routes_firstWaiting, .int v_px_routes_waitingCount, .ref a_px_routes_toll, .int v_px_routes_cornerPrice, .int v_px_routes_stepPrice])), (a_px_routes_isWaiting, .inr (1, [.ref a_px_routes_isWaiting_all])), (a_px_routes_isWaiting_all, .inl (cI, 180, .inl g_px_routes_isWaiting_all)), (a_px_routes_label, .inr (1, [.ref a_px_routes_label_all])), (a_px_routes_label_all, .inl (cI, 180, .inl g_px_routes_label_all)), (a_px_routes_toll, .inr (1, [.ref a_px_routes_toll_all])), (a_px_routes_toll_all, .inl (cI, 36, .inl g_px_routes_toll_all)), (a_px_routes_waiting, .inr (1, [.ref a_px_routes_waiting_all])), (a_px_routes_waiting_all, .inl (cI, 180, .inl g_px_routes_waiting_all)), (a_px_stroll, .inr (4, [.ref a_px_town, .int v_px_stroll_square, .int v_px_stroll_came, .int v_px_stroll_allWords, .int v_px_stroll_allCorners, .int v_px_stroll_allCuts, .int v_px_stroll_run, .int v_px_stroll_longestRun, .ref a_px_stroll_spoken])), (a_px_stroll_spoken, .inr (1, [.ref a_px_stroll_spoken_all])), (a_px_stroll_spoken_all, .inl (cI, 36, .inl g_px_stroll_spoken_all)), (a_px_talks, .inr (5, [.ref a_px_town, .ref a_px_talks_now, .ref a_px_talks_then, .ref a_px_talks_isHushed])), (a_px_talks_isHushed, .inr (1, [.ref a_px_talks_isHushed_all])), (a_px_talks_isHushed_all, .inl (cI, 36, .inl g_px_talks_isHushed_all)), (a_px_talks_now, .inr (1, [.ref a_px_talks_now_all])), (a_px_talks_now_all, .inl (cI, 180, .inl g_px_talks_now_all)), (a_px_talks_then, .inr (1, [.ref a_px_talks_then_all])), (a_px_talks_then_all, .inl (cI, 180, .inl g_px_talks_then_all)), (a_px_told, .inr (1, [.ref a_px_told_all])), (a_px_told_all, .inl (cI, 20, .inl g_px_told_all)), (a_px_town, .inr (6, [.ref a_px_town_kinds, .int v_px_town_home, .int v_px_town_fine, .int v_px_town_breath])), (a_px_town_kinds, .inr (1, [.ref a_px_town_kinds_all])), (a_px_town_kinds_all, .inl (cI, 36, .inl g_px_town_kinds_all)), (a_px_trial, .inr (6, [.ref a_px_trial_kinds, .int v_px_trial_home, .int v_px_trial_fine, .int v_px_trial_breath])), (a_px_trial_kinds, .inr (1, [.ref a_px_trial_kinds_all])), (a_px_trial_kinds_all, .inl (cI, 36, .inl g_px_trial_kinds_all))]
def lawW (p : Program) (l : Launch) (e : Env) (s : State) (m : MethodId) (below : List Frame) (meth : Method) (c : Code) (dC : Nat → ClassId) (dI : Nat → Nat → Nat) (cI cZ : ClassId) (b : Nat) (A : Nat → Prop) (a_pm a_pm_s a_pm_image a_pm_was a_pm_letters a_pm_row a_pm_refused a_pm_numbers a_pm_least a_pm_stepsFrom a_pm_most a_pm_next a_pm_otherSteps a_pm_ahead a_pm_now a_px a_px_town a_px_trial a_px_kept a_px_letters a_px_told a_px_refused a_px_stroll a_px_reach a_px_otherReach a_px_routes a_px_talks a_px_hearers a_px_hearers_all a_px_kept_kinds a_px_kept_kinds_all a_px_letters_all a_px_letters_all_all a_px_otherReach_far a_px_otherReach_come a_px_otherReach_come_all a_px_otherReach_far_all a_px_reach_far a_px_reach_come a_px_reach_come_all a_px_reach_far_all a_px_refused_all a_px_routes_label a_px_routes_waiting a_px_routes_isWaiting a_px_routes_toll a_px_routes_isWaiting_all a_px_routes_label_all a_px_routes_toll_all a_px_routes_waiting_all a_px_stroll_spoken a_px_stroll_spoken_all a_px_talks_now a_px_talks_then a_px_talks_isHushed a_px_talks_isHushed_all a_px_talks_now_all a_px_talks_then_all a_px_told_all a_px_town_kinds a_px_town_kinds_all a_px_trial_kinds a_px_trial_kinds_all : Nat) (pc : Nat) (p3 : Int32) (v_pm_hasImage : Int32) (v_pm_letterMany : Int32) (v_pm_rowMany : Int32) (v_pm_place : Int32) (v_pm_seed : Int32) (g_pm_ahead : Nat → Int32) (g_pm_image : Nat → Int32) (g_pm_least : Nat → Int32) (g_pm_letters : Nat → Int32) (g_pm_most : Nat → Int32) (g_pm_next : Nat → Int32) (g_pm_now : Nat → Int32) (g_pm_numbers : Nat → Int32) (g_pm_otherSteps : Nat → Int32) (g_pm_refused : Nat → Int32) (g_pm_row : Nat → Int32) (g_pm_s : Nat → Int32) (g_pm_stepsFrom : Nat → Int32) (g_pm_was : Nat → Int32) (v_px_isKept : Int32) (v_px_toldCount : Int32) (g_px_hearers_all : Nat → Int32) (v_px_kept_home : Int32) (v_px_kept_fine : Int32) (v_px_kept_breath : Int32) (g_px_kept_kinds_all : Nat → Int32) (v_px_letters_count : Int32) (g_px_letters_all_all : Nat → Int32) (v_px_otherReach_comeCount : Int32) (g_px_otherReach_come_all : Nat → Int32) (g_px_otherReach_far_all : Nat → Int32) (v_px_reach_comeCount : Int32) (g_px_reach_come_all : Nat → Int32) (g_px_reach_far_all : Nat → Int32) (g_px_refused_all : Nat → Int32) (v_px_routes_firstWaiting : Int32) (v_px_routes_waitingCount : Int32) (v_px_routes_cornerPrice : Int32) (v_px_routes_stepPrice : Int32) (g_px_routes_isWaiting_all : Nat → Int32) (g_px_routes_label_all : Nat → Int32) (g_px_routes_toll_all : Nat → Int32) (g_px_routes_waiting_all : Nat → Int32) (v_px_stroll_square : Int32) (v_px_stroll_came : Int32) (v_px_stroll_allWords : Int32) (v_px_stroll_allCorners : Int32) (v_px_stroll_allCuts : Int32) (v_px_stroll_run : Int32) (v_px_stroll_longestRun : Int32) (g_px_stroll_spoken_all : Nat → Int32) (g_px_talks_isHushed_all : Nat → Int32) (g_px_talks_now_all : Nat → Int32) (g_px_talks_then_all : Nat → Int32) (g_px_told_all : Nat → Int32) (v_px_town_home : Int32) (v_px_town_fine : Int32) (v_px_town_breath : Int32) (g_px_town_kinds_all : Nat → Int32) (v_px_trial_home : Int32) (v_px_trial_fine : Int32) (v_px_trial_breath : Int32) (g_px_trial_kinds_all : Nat → Int32) : Prop := ∀ (H : Heap) (locs : List Loc) (ls : Array Slot), va_P (dC, dI) vwCl (lawC cI cZ a_pm a_pm_s a_pm_image a_pm_was a_pm_letters a_pm_row a_pm_refused a_pm_numbers a_pm_least a_pm_stepsFrom a_pm_most a_pm_next a_pm_otherSteps a_pm_ahead a_pm_now a_px a_px_town a_px_trial a_px_kept a_px_letters a_px_told a_px_refused a_px_stroll a_px_reach a_px_otherReach a_px_routes a_px_talks a_px_hearers a_px_hearers_all a_px_kept_kinds a_px_kept_kinds_all a_px_letters_all a_px_letters_all_all a_px_otherReach_far a_px_otherReach_come a_px_otherReach_come_all a_px_otherReach_far_all a_px_reach_far a_px_reach_come a_px_reach_come_all a_px_reach_far_all a_px_refused_all a_px_routes_label a_px_routes_waiting a_px_routes_isWaiting a_px_routes_toll a_px_routes_isWaiting_all a_px_routes_label_all a_px_routes_toll_all a_px_routes_waiting_all a_px_stroll_spoken a_px_stroll_spoken_all a_px_talks_now a_px_talks_then a_px_talks_isHushed a_px_talks_isHushed_all a_px_talks_now_all a_px_talks_then_all a_px_told_all a_px_town_kinds a_px_town_kinds_all a_px_trial_kinds a_px_trial_kinds_all v_pm_hasImage v_pm_letterMany v_pm_rowMany v_pm_place v_pm_seed g_pm_ahead g_pm_image g_pm_least g_pm_letters g_pm_most g_pm_next g_pm_now g_pm_numbers g_pm_otherSteps g_pm_refused g_pm_row g_pm_s g_pm_stepsFrom g_pm_was v_px_isKept v_px_toldCount g_px_hearers_all v_px_kept_home v_px_kept_fine v_px_kept_breath g_px_kept_kinds_all v_px_letters_count g_px_letters_all_all v_px_otherReach_comeCount g_px_otherReach_come_all g_px_otherReach_far_all v_px_reach_comeCount g_px_reach_come_all g_px_reach_far_all g_px_refused_all v_px_routes_firstWaiting v_px_routes_waitingCount v_px_routes_cornerPrice v_px_routes_stepPrice g_px_routes_isWaiting_all g_px_routes_label_all g_px_routes_toll_all g_px_routes_waiting_all v_px_stroll_square v_px_stroll_came v_px_stroll_allWords v_px_stroll_allCorners v_px_stroll_allCuts v_px_stroll_run v_px_stroll_longestRun g_px_stroll_spoken_all g_px_talks_isHushed_all g_px_talks_now_all g_px_talks_then_all g_px_told_all v_px_town_home v_px_town_fine v_px_town_breath g_px_town_kinds_all v_px_trial_home v_px_trial_fine v_px_trial_breath g_px_trial_kinds_all) H → va_D A (lawC cI cZ a_pm a_pm_s a_pm_image a_pm_was a_pm_letters a_pm_row a_pm_refused a_pm_numbers a_pm_least a_pm_stepsFrom a_pm_most a_pm_next a_pm_otherSteps a_pm_ahead a_pm_now a_px a_px_town a_px_trial a_px_kept a_px_letters a_px_told a_px_refused a_px_stroll a_px_reach a_px_otherReach a_px_routes a_px_talks a_px_hearers a_px_hearers_all a_px_kept_kinds a_px_kept_kinds_all a_px_letters_all a_px_letters_all_all a_px_otherReach_far a_px_otherReach_come a_px_otherReach_come_all a_px_otherReach_far_all a_px_reach_far a_px_reach_come a_px_reach_come_all a_px_reach_far_all a_px_refused_all a_px_routes_label a_px_routes_waiting a_px_routes_isWaiting a_px_routes_toll a_px_routes_isWaiting_all a_px_routes_label_all a_px_routes_toll_all a_px_routes_waiting_all a_px_stroll_spoken a_px_stroll_spoken_all a_px_talks_now a_px_talks_then a_px_talks_isHushed a_px_talks_isHushed_all a_px_talks_now_all a_px_talks_then_all a_px_told_all a_px_town_kinds a_px_town_kinds_all a_px_trial_kinds a_px_trial_kinds_all v_pm_hasImage v_pm_letterMany v_pm_rowMany v_pm_place v_pm_seed g_pm_ahead g_pm_image g_pm_least g_pm_letters g_pm_most g_pm_next g_pm_now g_pm_numbers g_pm_otherSteps g_pm_refused g_pm_row g_pm_s g_pm_stepsFrom g_pm_was v_px_isKept v_px_toldCount g_px_hearers_all v_px_kept_home v_px_kept_fine v_px_kept_breath g_px_kept_kinds_all v_px_letters_count g_px_letters_all_all v_px_otherReach_comeCount g_px_otherReach_come_all g_px_otherReach_far_all v_px_reach_comeCount g_px_reach_come_all g_px_reach_far_all g_px_refused_all v_px_routes_firstWaiting v_px_routes_waitingCount v_px_routes_cornerPrice v_px_routes_stepPrice g_px_routes_isWaiting_all g_px_routes_label_all g_px_routes_toll_all g_px_routes_waiting_all v_px_stroll_square v_px_stroll_came v_px_stroll_allWords v_px_stroll_allCorners v_px_stroll_allCuts v_px_stroll_run v_px_stroll_longestRun g_px_stroll_spoken_all g_px_talks_isHushed_all g_px_talks_now_all g_px_talks_then_all g_px_told_all v_px_town_home v_px_town_fine v_px_town_breath g_px_town_kinds_all v_px_trial_home v_px_trial_fine v_px_trial_breath g_px_trial_kinds_all) → va_S A s.heap H locs → lv_has ls 4 [(0, .ref b), (1, .ref a_px), (2, .ref a_pm), (3, .int p3)] → W p l e room_1 s m #[Value.ref b] below meth c H locs 63 2730 (lw_Z below #[Value.ref b] s) (F0 m pc ls [])
