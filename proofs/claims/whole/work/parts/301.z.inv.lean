-- own text: what holds between the calls
/-- a town: kinds K, home, fine, breath; s is the reference's row of them -/
def iTown (K s : Nat → Int) (ho fi br : Int) : Prop := zK K ∧ zR s K ∧ s 36 = ho ∧ s 37 = fi ∧ s 38 = br ∧ 0 ≤ ho ∧ ho < 36 ∧ zcan (K ho.toNat) ∧ 0 ≤ fi ∧ fi ≤ 9 ∧ 1 ≤ br ∧ br ≤ 9
/-- rows of n numbers from lo to hi, alike -/
def iRow (n lim : Int) (a b : Nat → Int) (lo hi : Int) : Prop := 0 ≤ n ∧ n ≤ lim ∧ ∀ i : Nat, (i : Int) < n → a i = b i ∧ lo ≤ a i ∧ a i ≤ hi
def iRef (a b : Nat → Int) : Prop := ∀ i, i < 7 → a i = b i
def lawInv (v_pm_hasImage : Int32) (v_pm_letterMany : Int32) (v_pm_rowMany : Int32) (v_pm_place : Int32) (v_pm_seed : Int32) (g_pm_ahead : Nat → Int32) (g_pm_image : Nat → Int32) (g_pm_least : Nat → Int32) (g_pm_letters : Nat → Int32) (g_pm_most : Nat → Int32) (g_pm_next : Nat → Int32) (g_pm_now : Nat → Int32) (g_pm_numbers : Nat → Int32) (g_pm_otherSteps : Nat → Int32) (g_pm_refused : Nat → Int32) (g_pm_row : Nat → Int32) (g_pm_s : Nat → Int32) (g_pm_stepsFrom : Nat → Int32) (g_pm_was : Nat → Int32) (v_px_isKept : Int32) (v_px_toldCount : Int32) (g_px_hearers_all : Nat → Int32) (v_px_kept_home : Int32) (v_px_kept_fine : Int32) (v_px_kept_breath : Int32) (g_px_kept_kinds_all : Nat → Int32) (v_px_letters_count : Int32) (g_px_letters_all_all : Nat → Int32) (v_px_otherReach_comeCount : Int32) (g_px_otherReach_come_all : Nat → Int32) (g_px_otherReach_far_all : Nat → Int32) (v_px_reach_comeCount : Int32) (g_px_reach_come_all : Nat → Int32) (g_px_reach_far_all : Nat → Int32) (g_px_refused_all : Nat → Int32) (v_px_routes_firstWaiting : Int32) (v_px_routes_waitingCount : Int32) (v_px_routes_cornerPrice : Int32) (v_px_routes_stepPrice : Int32) (g_px_routes_isWaiting_all : Nat → Int32) (g_px_routes_label_all : Nat → Int32) (g_px_routes_toll_all : Nat → Int32) (g_px_routes_waiting_all : Nat → Int32) (v_px_stroll_square : Int32) (v_px_stroll_came : Int32) (v_px_stroll_allWords : Int32) (v_px_stroll_allCorners : Int32) (v_px_stroll_allCuts : Int32) (v_px_stroll_run : Int32) (v_px_stroll_longestRun : Int32) (g_px_stroll_spoken_all : Nat → Int32) (g_px_talks_isHushed_all : Nat → Int32) (g_px_talks_now_all : Nat → Int32) (g_px_talks_then_all : Nat → Int32) (g_px_told_all : Nat → Int32) (v_px_town_home : Int32) (v_px_town_fine : Int32) (v_px_town_breath : Int32) (g_px_town_kinds_all : Nat → Int32) (v_px_trial_home : Int32) (v_px_trial_fine : Int32) (v_px_trial_breath : Int32) (g_px_trial_kinds_all : Nat → Int32) : Prop :=
  (∃ (K s : Nat → Int) (ho fi br : Int), g_px_town_kinds_all = zoA K ∧ g_pm_s = zoA s ∧ v_px_town_home = zo ho ∧ v_px_town_fine = zo fi ∧ v_px_town_breath = zo br ∧ iTown K s ho fi br) ∧
  (∃ (kp : Int) (K s : Nat → Int) (ho fi br : Int), v_px_isKept = zo kp ∧ v_pm_hasImage = zo kp ∧ (kp = 0 ∨ kp = 1) ∧ g_px_kept_kinds_all = zoA K ∧ g_pm_image = zoA s ∧ v_px_kept_home = zo ho ∧ v_px_kept_fine = zo fi ∧ v_px_kept_breath = zo br ∧ (kp = 1 → iTown K s ho fi br)) ∧
  (∃ (n : Int) (a b : Nat → Int), v_px_letters_count = zo n ∧ v_pm_letterMany = zo n ∧ g_px_letters_all_all = zoA a ∧ g_pm_letters = zoA b ∧ iRow n 96 a b 0 255) ∧
  (∃ (n : Int) (a b : Nat → Int), v_px_toldCount = zo n ∧ v_pm_rowMany = zo n ∧ g_px_told_all = zoA a ∧ g_pm_row = zoA b ∧ iRow n 20 a b 0 9) ∧
  (∃ (a b : Nat → Int), g_px_refused_all = zoA a ∧ g_pm_refused = zoA b ∧ iRef a b)
theorem lawInv_start : lawInv (0 : Int32) (0 : Int32) (0 : Int32) (0 : Int32) (0 : Int32) ((fun _ => 0)) ((fun _ => 0)) ((fun _ => 0)) ((fun _ => 0)) ((fun _ => 0)) ((fun _ => 0)) ((fun _ => 0)) ((fun _ => 0)) ((fun _ => 0)) ((fun _ => 0)) ((fun _ => 0)) ((upd (upd (fun _ => 0) 37 (2 : Int32)) 38 (5 : Int32))) ((fun _ => 0)) ((fun _ => 0)) (0 : Int32) (0 : Int32) ((fun _ => 0)) (0 : Int32) (2 : Int32) (5 : Int32) ((fun _ => 0)) (0 : Int32) ((fun _ => 0)) (0 : Int32) ((fun _ => 0)) ((fun _ => 0)) (0 : Int32) ((fun _ => 0)) ((fun _ => 0)) ((fun _ => 0)) (0 : Int32) (0 : Int32) (0 : Int32) (0 : Int32) ((fun _ => 0)) ((fun _ => 0)) ((fun _ => 0)) ((fun _ => 0)) (0 : Int32) (0 : Int32) (0 : Int32) (0 : Int32) (0 : Int32) (0 : Int32) (0 : Int32) ((fun _ => 0)) ((fun _ => 0)) ((fun _ => 0)) ((fun _ => 0)) ((fun _ => 0)) (0 : Int32) (2 : Int32) (5 : Int32) ((fun _ => 0)) (0 : Int32) (2 : Int32) (5 : Int32) ((fun _ => 0)) := by
  have e0 : (fun _ : Nat => (0 : Int32)) = zoA (fun _ => 0) := rfl
  have es : (upd (upd (fun _ => 0) 37 (2 : Int32)) 38 (5 : Int32)) = zoA (updI (updI (fun _ => 0) 37 2) 38 5) := by
    funext j
    show (if j = 38 then (5 : Int32) else if j = 37 then (2 : Int32) else 0) = zo (if j = 38 then 5 else if j = 37 then 2 else 0)
    split
    · rfl
    · split <;> rfl
  have hk : zK (fun _ => 0) := fun i _ => ⟨Int.le_refl 0, show (0 : Int) < 6 by decide⟩
  refine ⟨⟨fun _ => 0, _, 0, 2, 5, e0, es, rfl, rfl, rfl, hk, ?_, rfl, rfl, rfl, by decide, by decide, Or.inl rfl, by decide, by decide, by decide, by decide⟩, ⟨0, fun _ => 0, fun _ => 0, 0, 2, 5, rfl, rfl, Or.inl rfl, rfl, rfl, rfl, rfl, rfl, fun h => absurd h (by decide)⟩, ⟨0, fun _ => 0, fun _ => 0, rfl, rfl, rfl, rfl, by decide, by decide, fun i h => absurd h (by omega)⟩, ⟨0, fun _ => 0, fun _ => 0, rfl, rfl, rfl, rfl, by decide, by decide, fun i h => absurd h (by omega)⟩, ⟨fun _ => 0, fun _ => 0, rfl, rfl, fun _ _ => rfl⟩⟩
  intro i hi
  show (if i = 38 then (5 : Int) else if i = 37 then 2 else 0) = 0
  rw [if_neg (by omega), if_neg (by omega)]
theorem law_room {L i : Nat} (hL : L ≤ 2048) (hi : i ≤ L) (h : ¬ (nI L - (4 : Int32)) < nI i) : i + 4 ≤ L := by
  have e1 : nI L - (4 : Int32) = zo ((L : Int) - 4) := zo_sub (zo_nI L) (zo_l 4)
  have h2 : ¬ ((L : Int) - 4 < (i : Int)) := fun q => h ((zo_lt e1 (zo_nI i) ⟨by omega, by omega⟩ ⟨by omega, by omega⟩).mpr q)
  omega
