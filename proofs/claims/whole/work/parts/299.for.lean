-- own text: counting loops
theorem zF_gt {n : Nat} (h : n < 2147483648) : n < zF := by unfold zF; omega
theorem ev_is {ρ : Type} {x : Option ρ} {v : ρ} (h : ev x (fun r => r = v)) : x = some v := by
  obtain ⟨r, e, q⟩ := h
  rw [e, q]
theorem ev_c1 {α1 ρ : Type} {P : ρ → Prop} {x : Option (α1)} {k : α1 → Option ρ} {v1 : α1} (e : x = some (v1)) (h : ev (k v1) P) : ev (zb1 x k) P := by subst e; exact h
theorem ev_i1 {α1 ρ : Type} {P : ρ → Prop} {kk : α1 → Option ρ} {b : (α1 → Option ρ) → Option ρ} (h : ev (b kk) P) : ev (zj1 kk b) P := h
theorem ev_c2 {α1 α2 ρ : Type} {P : ρ → Prop} {x : Option (α1 × α2)} {k : α1 → α2 → Option ρ} {v1 : α1} {v2 : α2} (e : x = some (v1, v2)) (h : ev (k v1 v2) P) : ev (zb2 x k) P := by subst e; exact h
theorem ev_i2 {α1 α2 ρ : Type} {P : ρ → Prop} {kk : α1 → α2 → Option ρ} {b : (α1 → α2 → Option ρ) → Option ρ} (h : ev (b kk) P) : ev (zj2 kk b) P := h
theorem ev_c3 {α1 α2 α3 ρ : Type} {P : ρ → Prop} {x : Option (α1 × α2 × α3)} {k : α1 → α2 → α3 → Option ρ} {v1 : α1} {v2 : α2} {v3 : α3} (e : x = some (v1, v2, v3)) (h : ev (k v1 v2 v3) P) : ev (zb3 x k) P := by subst e; exact h
theorem ev_i3 {α1 α2 α3 ρ : Type} {P : ρ → Prop} {kk : α1 → α2 → α3 → Option ρ} {b : (α1 → α2 → α3 → Option ρ) → Option ρ} (h : ev (b kk) P) : ev (zj3 kk b) P := h
theorem ev_c4 {α1 α2 α3 α4 ρ : Type} {P : ρ → Prop} {x : Option (α1 × α2 × α3 × α4)} {k : α1 → α2 → α3 → α4 → Option ρ} {v1 : α1} {v2 : α2} {v3 : α3} {v4 : α4} (e : x = some (v1, v2, v3, v4)) (h : ev (k v1 v2 v3 v4) P) : ev (zb4 x k) P := by subst e; exact h
theorem ev_i4 {α1 α2 α3 α4 ρ : Type} {P : ρ → Prop} {kk : α1 → α2 → α3 → α4 → Option ρ} {b : (α1 → α2 → α3 → α4 → Option ρ) → Option ρ} (h : ev (b kk) P) : ev (zj4 kk b) P := h
theorem ev_c5 {α1 α2 α3 α4 α5 ρ : Type} {P : ρ → Prop} {x : Option (α1 × α2 × α3 × α4 × α5)} {k : α1 → α2 → α3 → α4 → α5 → Option ρ} {v1 : α1} {v2 : α2} {v3 : α3} {v4 : α4} {v5 : α5} (e : x = some (v1, v2, v3, v4, v5)) (h : ev (k v1 v2 v3 v4 v5) P) : ev (zb5 x k) P := by subst e; exact h
theorem ev_i5 {α1 α2 α3 α4 α5 ρ : Type} {P : ρ → Prop} {kk : α1 → α2 → α3 → α4 → α5 → Option ρ} {b : (α1 → α2 → α3 → α4 → α5 → Option ρ) → Option ρ} (h : ev (b kk) P) : ev (zj5 kk b) P := h
theorem ev_c6 {α1 α2 α3 α4 α5 α6 ρ : Type} {P : ρ → Prop} {x : Option (α1 × α2 × α3 × α4 × α5 × α6)} {k : α1 → α2 → α3 → α4 → α5 → α6 → Option ρ} {v1 : α1} {v2 : α2} {v3 : α3} {v4 : α4} {v5 : α5} {v6 : α6} (e : x = some (v1, v2, v3, v4, v5, v6)) (h : ev (k v1 v2 v3 v4 v5 v6) P) : ev (zb6 x k) P := by subst e; exact h
theorem ev_i6 {α1 α2 α3 α4 α5 α6 ρ : Type} {P : ρ → Prop} {kk : α1 → α2 → α3 → α4 → α5 → α6 → Option ρ} {b : (α1 → α2 → α3 → α4 → α5 → α6 → Option ρ) → Option ρ} (h : ev (b kk) P) : ev (zj6 kk b) P := h
theorem ev_c7 {α1 α2 α3 α4 α5 α6 α7 ρ : Type} {P : ρ → Prop} {x : Option (α1 × α2 × α3 × α4 × α5 × α6 × α7)} {k : α1 → α2 → α3 → α4 → α5 → α6 → α7 → Option ρ} {v1 : α1} {v2 : α2} {v3 : α3} {v4 : α4} {v5 : α5} {v6 : α6} {v7 : α7} (e : x = some (v1, v2, v3, v4, v5, v6, v7)) (h : ev (k v1 v2 v3 v4 v5 v6 v7) P) : ev (zb7 x k) P := by subst e; exact h
theorem ev_i7 {α1 α2 α3 α4 α5 α6 α7 ρ : Type} {P : ρ → Prop} {kk : α1 → α2 → α3 → α4 → α5 → α6 → α7 → Option ρ} {b : (α1 → α2 → α3 → α4 → α5 → α6 → α7 → Option ρ) → Option ρ} (h : ev (b kk) P) : ev (zj7 kk b) P := h
theorem ev_c8 {α1 α2 α3 α4 α5 α6 α7 α8 ρ : Type} {P : ρ → Prop} {x : Option (α1 × α2 × α3 × α4 × α5 × α6 × α7 × α8)} {k : α1 → α2 → α3 → α4 → α5 → α6 → α7 → α8 → Option ρ} {v1 : α1} {v2 : α2} {v3 : α3} {v4 : α4} {v5 : α5} {v6 : α6} {v7 : α7} {v8 : α8} (e : x = some (v1, v2, v3, v4, v5, v6, v7, v8)) (h : ev (k v1 v2 v3 v4 v5 v6 v7 v8) P) : ev (zb8 x k) P := by subst e; exact h
theorem ev_i8 {α1 α2 α3 α4 α5 α6 α7 α8 ρ : Type} {P : ρ → Prop} {kk : α1 → α2 → α3 → α4 → α5 → α6 → α7 → α8 → Option ρ} {b : (α1 → α2 → α3 → α4 → α5 → α6 → α7 → α8 → Option ρ) → Option ρ} (h : ev (b kk) P) : ev (zj8 kk b) P := h
theorem ev_c9 {α1 α2 α3 α4 α5 α6 α7 α8 α9 ρ : Type} {P : ρ → Prop} {x : Option (α1 × α2 × α3 × α4 × α5 × α6 × α7 × α8 × α9)} {k : α1 → α2 → α3 → α4 → α5 → α6 → α7 → α8 → α9 → Option ρ} {v1 : α1} {v2 : α2} {v3 : α3} {v4 : α4} {v5 : α5} {v6 : α6} {v7 : α7} {v8 : α8} {v9 : α9} (e : x = some (v1, v2, v3, v4, v5, v6, v7, v8, v9)) (h : ev (k v1 v2 v3 v4 v5 v6 v7 v8 v9) P) : ev (zb9 x k) P := by subst e; exact h
theorem ev_i9 {α1 α2 α3 α4 α5 α6 α7 α8 α9 ρ : Type} {P : ρ → Prop} {kk : α1 → α2 → α3 → α4 → α5 → α6 → α7 → α8 → α9 → Option ρ} {b : (α1 → α2 → α3 → α4 → α5 → α6 → α7 → α8 → α9 → Option ρ) → Option ρ} (h : ev (b kk) P) : ev (zj9 kk b) P := h
theorem ev_f1_1 {ρ : Type} {P : ρ → Prop} {b : Int → (Int → Option ρ) → Option ρ} (N : Nat) (hN : N < 2147483648) (Q : Nat → Prop) (h : ∀ (i : Nat)  (ag : Int → Option ρ), i ≤ N → Q i  → (∀ (_ : Unit), i < N → Q (i + 1)  → ev (ag ((i : Int) + 1)) P) → ev (b (i : Int) ag) P)  (h0 : Q 0 ) : ev (zl1 b zF 0) P := by
  refine ev_l1 (fun m z1 => ∃ i : Nat, i ≤ N ∧ m = N - i ∧ z1 = (i : Int) ∧ Q i ) ?_ (m := N)  (zF_gt hN) ⟨0, Nat.zero_le _, rfl, rfl, h0⟩
  intro m z1 ag hI hag
  obtain ⟨i, h1, h2, h3, h4⟩ := hI
  subst h3
  refine h i  ag h1 h4 (fun _ hl hq => hag (N - (i + 1)) ((i : Int) + 1) (by omega) ⟨i + 1, hl, rfl, rfl, hq⟩)
theorem ev_f2_1 {α2 ρ : Type} {P : ρ → Prop} {b : Int → α2 → (Int → α2 → Option ρ) → Option ρ} (N : Nat) (hN : N < 2147483648) (Q : Nat → α2 → Prop) (h : ∀ (i : Nat) (x2 : α2) (ag : Int → α2 → Option ρ), i ≤ N → Q i x2 → (∀ (y2 : α2), i < N → Q (i + 1) y2 → ev (ag ((i : Int) + 1) y2) P) → ev (b (i : Int) x2 ag) P) {x2 : α2} (h0 : Q 0 x2) : ev (zl2 b zF 0 x2) P := by
  refine ev_l2 (fun m z1 z2 => ∃ i : Nat, i ≤ N ∧ m = N - i ∧ z1 = (i : Int) ∧ Q i z2) ?_ (m := N)  (zF_gt hN) ⟨0, Nat.zero_le _, rfl, rfl, h0⟩
  intro m z1 z2 ag hI hag
  obtain ⟨i, h1, h2, h3, h4⟩ := hI
  subst h3
  refine h i z2 ag h1 h4 (fun y2 hl hq => hag (N - (i + 1)) ((i : Int) + 1) y2 (by omega) ⟨i + 1, hl, rfl, rfl, hq⟩)
theorem ev_f2_2 {α1 ρ : Type} {P : ρ → Prop} {b : α1 → Int → (α1 → Int → Option ρ) → Option ρ} (N : Nat) (hN : N < 2147483648) (Q : Nat → α1 → Prop) (h : ∀ (i : Nat) (x1 : α1) (ag : α1 → Int → Option ρ), i ≤ N → Q i x1 → (∀ (y1 : α1), i < N → Q (i + 1) y1 → ev (ag y1 ((i : Int) + 1)) P) → ev (b x1 (i : Int) ag) P) {x1 : α1} (h0 : Q 0 x1) : ev (zl2 b zF x1 0) P := by
  refine ev_l2 (fun m z1 z2 => ∃ i : Nat, i ≤ N ∧ m = N - i ∧ z2 = (i : Int) ∧ Q i z1) ?_ (m := N)  (zF_gt hN) ⟨0, Nat.zero_le _, rfl, rfl, h0⟩
  intro m z1 z2 ag hI hag
  obtain ⟨i, h1, h2, h3, h4⟩ := hI
  subst h3
  refine h i z1 ag h1 h4 (fun y1 hl hq => hag (N - (i + 1)) y1 ((i : Int) + 1) (by omega) ⟨i + 1, hl, rfl, rfl, hq⟩)
theorem ev_f3_1 {α2 α3 ρ : Type} {P : ρ → Prop} {b : Int → α2 → α3 → (Int → α2 → α3 → Option ρ) → Option ρ} (N : Nat) (hN : N < 2147483648) (Q : Nat → α2 → α3 → Prop) (h : ∀ (i : Nat) (x2 : α2) (x3 : α3) (ag : Int → α2 → α3 → Option ρ), i ≤ N → Q i x2 x3 → (∀ (y2 : α2) (y3 : α3), i < N → Q (i + 1) y2 y3 → ev (ag ((i : Int) + 1) y2 y3) P) → ev (b (i : Int) x2 x3 ag) P) {x2 : α2} {x3 : α3} (h0 : Q 0 x2 x3) : ev (zl3 b zF 0 x2 x3) P := by
  refine ev_l3 (fun m z1 z2 z3 => ∃ i : Nat, i ≤ N ∧ m = N - i ∧ z1 = (i : Int) ∧ Q i z2 z3) ?_ (m := N)  (zF_gt hN) ⟨0, Nat.zero_le _, rfl, rfl, h0⟩
  intro m z1 z2 z3 ag hI hag
  obtain ⟨i, h1, h2, h3, h4⟩ := hI
  subst h3
  refine h i z2 z3 ag h1 h4 (fun y2 y3 hl hq => hag (N - (i + 1)) ((i : Int) + 1) y2 y3 (by omega) ⟨i + 1, hl, rfl, rfl, hq⟩)
theorem ev_f3_2 {α1 α3 ρ : Type} {P : ρ → Prop} {b : α1 → Int → α3 → (α1 → Int → α3 → Option ρ) → Option ρ} (N : Nat) (hN : N < 2147483648) (Q : Nat → α1 → α3 → Prop) (h : ∀ (i : Nat) (x1 : α1) (x3 : α3) (ag : α1 → Int → α3 → Option ρ), i ≤ N → Q i x1 x3 → (∀ (y1 : α1) (y3 : α3), i < N → Q (i + 1) y1 y3 → ev (ag y1 ((i : Int) + 1) y3) P) → ev (b x1 (i : Int) x3 ag) P) {x1 : α1} {x3 : α3} (h0 : Q 0 x1 x3) : ev (zl3 b zF x1 0 x3) P := by
  refine ev_l3 (fun m z1 z2 z3 => ∃ i : Nat, i ≤ N ∧ m = N - i ∧ z2 = (i : Int) ∧ Q i z1 z3) ?_ (m := N)  (zF_gt hN) ⟨0, Nat.zero_le _, rfl, rfl, h0⟩
  intro m z1 z2 z3 ag hI hag
  obtain ⟨i, h1, h2, h3, h4⟩ := hI
  subst h3
  refine h i z1 z3 ag h1 h4 (fun y1 y3 hl hq => hag (N - (i + 1)) y1 ((i : Int) + 1) y3 (by omega) ⟨i + 1, hl, rfl, rfl, hq⟩)
theorem ev_f3_3 {α1 α2 ρ : Type} {P : ρ → Prop} {b : α1 → α2 → Int → (α1 → α2 → Int → Option ρ) → Option ρ} (N : Nat) (hN : N < 2147483648) (Q : Nat → α1 → α2 → Prop) (h : ∀ (i : Nat) (x1 : α1) (x2 : α2) (ag : α1 → α2 → Int → Option ρ), i ≤ N → Q i x1 x2 → (∀ (y1 : α1) (y2 : α2), i < N → Q (i + 1) y1 y2 → ev (ag y1 y2 ((i : Int) + 1)) P) → ev (b x1 x2 (i : Int) ag) P) {x1 : α1} {x2 : α2} (h0 : Q 0 x1 x2) : ev (zl3 b zF x1 x2 0) P := by
  refine ev_l3 (fun m z1 z2 z3 => ∃ i : Nat, i ≤ N ∧ m = N - i ∧ z3 = (i : Int) ∧ Q i z1 z2) ?_ (m := N)  (zF_gt hN) ⟨0, Nat.zero_le _, rfl, rfl, h0⟩
  intro m z1 z2 z3 ag hI hag
  obtain ⟨i, h1, h2, h3, h4⟩ := hI
  subst h3
  refine h i z1 z2 ag h1 h4 (fun y1 y2 hl hq => hag (N - (i + 1)) y1 y2 ((i : Int) + 1) (by omega) ⟨i + 1, hl, rfl, rfl, hq⟩)
theorem ev_f4_1 {α2 α3 α4 ρ : Type} {P : ρ → Prop} {b : Int → α2 → α3 → α4 → (Int → α2 → α3 → α4 → Option ρ) → Option ρ} (N : Nat) (hN : N < 2147483648) (Q : Nat → α2 → α3 → α4 → Prop) (h : ∀ (i : Nat) (x2 : α2) (x3 : α3) (x4 : α4) (ag : Int → α2 → α3 → α4 → Option ρ), i ≤ N → Q i x2 x3 x4 → (∀ (y2 : α2) (y3 : α3) (y4 : α4), i < N → Q (i + 1) y2 y3 y4 → ev (ag ((i : Int) + 1) y2 y3 y4) P) → ev (b (i : Int) x2 x3 x4 ag) P) {x2 : α2} {x3 : α3} {x4 : α4} (h0 : Q 0 x2 x3 x4) : ev (zl4 b zF 0 x2 x3 x4) P := by
  refine ev_l4 (fun m z1 z2 z3 z4 => ∃ i : Nat, i ≤ N ∧ m = N - i ∧ z1 = (i : Int) ∧ Q i z2 z3 z4) ?_ (m := N)  (zF_gt hN) ⟨0, Nat.zero_le _, rfl, rfl, h0⟩
  intro m z1 z2 z3 z4 ag hI hag
  obtain ⟨i, h1, h2, h3, h4⟩ := hI
  subst h3
  refine h i z2 z3 z4 ag h1 h4 (fun y2 y3 y4 hl hq => hag (N - (i + 1)) ((i : Int) + 1) y2 y3 y4 (by omega) ⟨i + 1, hl, rfl, rfl, hq⟩)
theorem ev_f4_2 {α1 α3 α4 ρ : Type} {P : ρ → Prop} {b : α1 → Int → α3 → α4 → (α1 → Int → α3 → α4 → Option ρ) → Option ρ} (N : Nat) (hN : N < 2147483648) (Q : Nat → α1 → α3 → α4 → Prop) (h : ∀ (i : Nat) (x1 : α1) (x3 : α3) (x4 : α4) (ag : α1 → Int → α3 → α4 → Option ρ), i ≤ N → Q i x1 x3 x4 → (∀ (y1 : α1) (y3 : α3) (y4 : α4), i < N → Q (i + 1) y1 y3 y4 → ev (ag y1 ((i : Int) + 1) y3 y4) P) → ev (b x1 (i : Int) x3 x4 ag) P) {x1 : α1} {x3 : α3} {x4 : α4} (h0 : Q 0 x1 x3 x4) : ev (zl4 b zF x1 0 x3 x4) P := by
  refine ev_l4 (fun m z1 z2 z3 z4 => ∃ i : Nat, i ≤ N ∧ m = N - i ∧ z2 = (i : Int) ∧ Q i z1 z3 z4) ?_ (m := N)  (zF_gt hN) ⟨0, Nat.zero_le _, rfl, rfl, h0⟩
  intro m z1 z2 z3 z4 ag hI hag
  obtain ⟨i, h1, h2, h3, h4⟩ := hI
  subst h3
  refine h i z1 z3 z4 ag h1 h4 (fun y1 y3 y4 hl hq => hag (N - (i + 1)) y1 ((i : Int) + 1) y3 y4 (by omega) ⟨i + 1, hl, rfl, rfl, hq⟩)
theorem ev_f4_3 {α1 α2 α4 ρ : Type} {P : ρ → Prop} {b : α1 → α2 → Int → α4 → (α1 → α2 → Int → α4 → Option ρ) → Option ρ} (N : Nat) (hN : N < 2147483648) (Q : Nat → α1 → α2 → α4 → Prop) (h : ∀ (i : Nat) (x1 : α1) (x2 : α2) (x4 : α4) (ag : α1 → α2 → Int → α4 → Option ρ), i ≤ N → Q i x1 x2 x4 → (∀ (y1 : α1) (y2 : α2) (y4 : α4), i < N → Q (i + 1) y1 y2 y4 → ev (ag y1 y2 ((i : Int) + 1) y4) P) → ev (b x1 x2 (i : Int) x4 ag) P) {x1 : α1} {x2 : α2} {x4 : α4} (h0 : Q 0 x1 x2 x4) : ev (zl4 b zF x1 x2 0 x4) P := by
  refine ev_l4 (fun m z1 z2 z3 z4 => ∃ i : Nat, i ≤ N ∧ m = N - i ∧ z3 = (i : Int) ∧ Q i z1 z2 z4) ?_ (m := N)  (zF_gt hN) ⟨0, Nat.zero_le _, rfl, rfl, h0⟩
  intro m z1 z2 z3 z4 ag hI hag
  obtain ⟨i, h1, h2, h3, h4⟩ := hI
  subst h3
  refine h i z1 z2 z4 ag h1 h4 (fun y1 y2 y4 hl hq => hag (N - (i + 1)) y1 y2 ((i : Int) + 1) y4 (by omega) ⟨i + 1, hl, rfl, rfl, hq⟩)
theorem ev_f4_4 {α1 α2 α3 ρ : Type} {P : ρ → Prop} {b : α1 → α2 → α3 → Int → (α1 → α2 → α3 → Int → Option ρ) → Option ρ} (N : Nat) (hN : N < 2147483648) (Q : Nat → α1 → α2 → α3 → Prop) (h : ∀ (i : Nat) (x1 : α1) (x2 : α2) (x3 : α3) (ag : α1 → α2 → α3 → Int → Option ρ), i ≤ N → Q i x1 x2 x3 → (∀ (y1 : α1) (y2 : α2) (y3 : α3), i < N → Q (i + 1) y1 y2 y3 → ev (ag y1 y2 y3 ((i : Int) + 1)) P) → ev (b x1 x2 x3 (i : Int) ag) P) {x1 : α1} {x2 : α2} {x3 : α3} (h0 : Q 0 x1 x2 x3) : ev (zl4 b zF x1 x2 x3 0) P := by
  refine ev_l4 (fun m z1 z2 z3 z4 => ∃ i : Nat, i ≤ N ∧ m = N - i ∧ z4 = (i : Int) ∧ Q i z1 z2 z3) ?_ (m := N)  (zF_gt hN) ⟨0, Nat.zero_le _, rfl, rfl, h0⟩
  intro m z1 z2 z3 z4 ag hI hag
  obtain ⟨i, h1, h2, h3, h4⟩ := hI
  subst h3
  refine h i z1 z2 z3 ag h1 h4 (fun y1 y2 y3 hl hq => hag (N - (i + 1)) y1 y2 y3 ((i : Int) + 1) (by omega) ⟨i + 1, hl, rfl, rfl, hq⟩)
theorem ev_f5_1 {α2 α3 α4 α5 ρ : Type} {P : ρ → Prop} {b : Int → α2 → α3 → α4 → α5 → (Int → α2 → α3 → α4 → α5 → Option ρ) → Option ρ} (N : Nat) (hN : N < 2147483648) (Q : Nat → α2 → α3 → α4 → α5 → Prop) (h : ∀ (i : Nat) (x2 : α2) (x3 : α3) (x4 : α4) (x5 : α5) (ag : Int → α2 → α3 → α4 → α5 → Option ρ), i ≤ N → Q i x2 x3 x4 x5 → (∀ (y2 : α2) (y3 : α3) (y4 : α4) (y5 : α5), i < N → Q (i + 1) y2 y3 y4 y5 → ev (ag ((i : Int) + 1) y2 y3 y4 y5) P) → ev (b (i : Int) x2 x3 x4 x5 ag) P) {x2 : α2} {x3 : α3} {x4 : α4} {x5 : α5} (h0 : Q 0 x2 x3 x4 x5) : ev (zl5 b zF 0 x2 x3 x4 x5) P := by
  refine ev_l5 (fun m z1 z2 z3 z4 z5 => ∃ i : Nat, i ≤ N ∧ m = N - i ∧ z1 = (i : Int) ∧ Q i z2 z3 z4 z5) ?_ (m := N)  (zF_gt hN) ⟨0, Nat.zero_le _, rfl, rfl, h0⟩
  intro m z1 z2 z3 z4 z5 ag hI hag
  obtain ⟨i, h1, h2, h3, h4⟩ := hI
  subst h3
  refine h i z2 z3 z4 z5 ag h1 h4 (fun y2 y3 y4 y5 hl hq => hag (N - (i + 1)) ((i : Int) + 1) y2 y3 y4 y5 (by omega) ⟨i + 1, hl, rfl, rfl, hq⟩)
theorem ev_f5_2 {α1 α3 α4 α5 ρ : Type} {P : ρ → Prop} {b : α1 → Int → α3 → α4 → α5 → (α1 → Int → α3 → α4 → α5 → Option ρ) → Option ρ} (N : Nat) (hN : N < 2147483648) (Q : Nat → α1 → α3 → α4 → α5 → Prop) (h : ∀ (i : Nat) (x1 : α1) (x3 : α3) (x4 : α4) (x5 : α5) (ag : α1 → Int → α3 → α4 → α5 → Option ρ), i ≤ N → Q i x1 x3 x4 x5 → (∀ (y1 : α1) (y3 : α3) (y4 : α4) (y5 : α5), i < N → Q (i + 1) y1 y3 y4 y5 → ev (ag y1 ((i : Int) + 1) y3 y4 y5) P) → ev (b x1 (i : Int) x3 x4 x5 ag) P) {x1 : α1} {x3 : α3} {x4 : α4} {x5 : α5} (h0 : Q 0 x1 x3 x4 x5) : ev (zl5 b zF x1 0 x3 x4 x5) P := by
  refine ev_l5 (fun m z1 z2 z3 z4 z5 => ∃ i : Nat, i ≤ N ∧ m = N - i ∧ z2 = (i : Int) ∧ Q i z1 z3 z4 z5) ?_ (m := N)  (zF_gt hN) ⟨0, Nat.zero_le _, rfl, rfl, h0⟩
  intro m z1 z2 z3 z4 z5 ag hI hag
  obtain ⟨i, h1, h2, h3, h4⟩ := hI
  subst h3
  refine h i z1 z3 z4 z5 ag h1 h4 (fun y1 y3 y4 y5 hl hq => hag (N - (i + 1)) y1 ((i : Int) + 1) y3 y4 y5 (by omega) ⟨i + 1, hl, rfl, rfl, hq⟩)
theorem ev_f5_3 {α1 α2 α4 α5 ρ : Type} {P : ρ → Prop} {b : α1 → α2 → Int → α4 → α5 → (α1 → α2 → Int → α4 → α5 → Option ρ) → Option ρ} (N : Nat) (hN : N < 2147483648) (Q : Nat → α1 → α2 → α4 → α5 → Prop) (h : ∀ (i : Nat) (x1 : α1) (x2 : α2) (x4 : α4) (x5 : α5) (ag : α1 → α2 → Int → α4 → α5 → Option ρ), i ≤ N → Q i x1 x2 x4 x5 → (∀ (y1 : α1) (y2 : α2) (y4 : α4) (y5 : α5), i < N → Q (i + 1) y1 y2 y4 y5 → ev (ag y1 y2 ((i : Int) + 1) y4 y5) P) → ev (b x1 x2 (i : Int) x4 x5 ag) P) {x1 : α1} {x2 : α2} {x4 : α4} {x5 : α5} (h0 : Q 0 x1 x2 x4 x5) : ev (zl5 b zF x1 x2 0 x4 x5) P := by
  refine ev_l5 (fun m z1 z2 z3 z4 z5 => ∃ i : Nat, i ≤ N ∧ m = N - i ∧ z3 = (i : Int) ∧ Q i z1 z2 z4 z5) ?_ (m := N)  (zF_gt hN) ⟨0, Nat.zero_le _, rfl, rfl, h0⟩
  intro m z1 z2 z3 z4 z5 ag hI hag
  obtain ⟨i, h1, h2, h3, h4⟩ := hI
  subst h3
  refine h i z1 z2 z4 z5 ag h1 h4 (fun y1 y2 y4 y5 hl hq => hag (N - (i + 1)) y1 y2 ((i : Int) + 1) y4 y5 (by omega) ⟨i + 1, hl, rfl, rfl, hq⟩)
theorem ev_f5_4 {α1 α2 α3 α5 ρ : Type} {P : ρ → Prop} {b : α1 → α2 → α3 → Int → α5 → (α1 → α2 → α3 → Int → α5 → Option ρ) → Option ρ} (N : Nat) (hN : N < 2147483648) (Q : Nat → α1 → α2 → α3 → α5 → Prop) (h : ∀ (i : Nat) (x1 : α1) (x2 : α2) (x3 : α3) (x5 : α5) (ag : α1 → α2 → α3 → Int → α5 → Option ρ), i ≤ N → Q i x1 x2 x3 x5 → (∀ (y1 : α1) (y2 : α2) (y3 : α3) (y5 : α5), i < N → Q (i + 1) y1 y2 y3 y5 → ev (ag y1 y2 y3 ((i : Int) + 1) y5) P) → ev (b x1 x2 x3 (i : Int) x5 ag) P) {x1 : α1} {x2 : α2} {x3 : α3} {x5 : α5} (h0 : Q 0 x1 x2 x3 x5) : ev (zl5 b zF x1 x2 x3 0 x5) P := by
  refine ev_l5 (fun m z1 z2 z3 z4 z5 => ∃ i : Nat, i ≤ N ∧ m = N - i ∧ z4 = (i : Int) ∧ Q i z1 z2 z3 z5) ?_ (m := N)  (zF_gt hN) ⟨0, Nat.zero_le _, rfl, rfl, h0⟩
  intro m z1 z2 z3 z4 z5 ag hI hag
  obtain ⟨i, h1, h2, h3, h4⟩ := hI
  subst h3
  refine h i z1 z2 z3 z5 ag h1 h4 (fun y1 y2 y3 y5 hl hq => hag (N - (i + 1)) y1 y2 y3 ((i : Int) + 1) y5 (by omega) ⟨i + 1, hl, rfl, rfl, hq⟩)
theorem ev_f5_5 {α1 α2 α3 α4 ρ : Type} {P : ρ → Prop} {b : α1 → α2 → α3 → α4 → Int → (α1 → α2 → α3 → α4 → Int → Option ρ) → Option ρ} (N : Nat) (hN : N < 2147483648) (Q : Nat → α1 → α2 → α3 → α4 → Prop) (h : ∀ (i : Nat) (x1 : α1) (x2 : α2) (x3 : α3) (x4 : α4) (ag : α1 → α2 → α3 → α4 → Int → Option ρ), i ≤ N → Q i x1 x2 x3 x4 → (∀ (y1 : α1) (y2 : α2) (y3 : α3) (y4 : α4), i < N → Q (i + 1) y1 y2 y3 y4 → ev (ag y1 y2 y3 y4 ((i : Int) + 1)) P) → ev (b x1 x2 x3 x4 (i : Int) ag) P) {x1 : α1} {x2 : α2} {x3 : α3} {x4 : α4} (h0 : Q 0 x1 x2 x3 x4) : ev (zl5 b zF x1 x2 x3 x4 0) P := by
  refine ev_l5 (fun m z1 z2 z3 z4 z5 => ∃ i : Nat, i ≤ N ∧ m = N - i ∧ z5 = (i : Int) ∧ Q i z1 z2 z3 z4) ?_ (m := N)  (zF_gt hN) ⟨0, Nat.zero_le _, rfl, rfl, h0⟩
  intro m z1 z2 z3 z4 z5 ag hI hag
  obtain ⟨i, h1, h2, h3, h4⟩ := hI
  subst h3
  refine h i z1 z2 z3 z4 ag h1 h4 (fun y1 y2 y3 y4 hl hq => hag (N - (i + 1)) y1 y2 y3 y4 ((i : Int) + 1) (by omega) ⟨i + 1, hl, rfl, rfl, hq⟩)
theorem ev_f6_1 {α2 α3 α4 α5 α6 ρ : Type} {P : ρ → Prop} {b : Int → α2 → α3 → α4 → α5 → α6 → (Int → α2 → α3 → α4 → α5 → α6 → Option ρ) → Option ρ} (N : Nat) (hN : N < 2147483648) (Q : Nat → α2 → α3 → α4 → α5 → α6 → Prop) (h : ∀ (i : Nat) (x2 : α2) (x3 : α3) (x4 : α4) (x5 : α5) (x6 : α6) (ag : Int → α2 → α3 → α4 → α5 → α6 → Option ρ), i ≤ N → Q i x2 x3 x4 x5 x6 → (∀ (y2 : α2) (y3 : α3) (y4 : α4) (y5 : α5) (y6 : α6), i < N → Q (i + 1) y2 y3 y4 y5 y6 → ev (ag ((i : Int) + 1) y2 y3 y4 y5 y6) P) → ev (b (i : Int) x2 x3 x4 x5 x6 ag) P) {x2 : α2} {x3 : α3} {x4 : α4} {x5 : α5} {x6 : α6} (h0 : Q 0 x2 x3 x4 x5 x6) : ev (zl6 b zF 0 x2 x3 x4 x5 x6) P := by
  refine ev_l6 (fun m z1 z2 z3 z4 z5 z6 => ∃ i : Nat, i ≤ N ∧ m = N - i ∧ z1 = (i : Int) ∧ Q i z2 z3 z4 z5 z6) ?_ (m := N)  (zF_gt hN) ⟨0, Nat.zero_le _, rfl, rfl, h0⟩
  intro m z1 z2 z3 z4 z5 z6 ag hI hag
  obtain ⟨i, h1, h2, h3, h4⟩ := hI
  subst h3
  refine h i z2 z3 z4 z5 z6 ag h1 h4 (fun y2 y3 y4 y5 y6 hl hq => hag (N - (i + 1)) ((i : Int) + 1) y2 y3 y4 y5 y6 (by omega) ⟨i + 1, hl, rfl, rfl, hq⟩)
theorem ev_f6_2 {α1 α3 α4 α5 α6 ρ : Type} {P : ρ → Prop} {b : α1 → Int → α3 → α4 → α5 → α6 → (α1 → Int → α3 → α4 → α5 → α6 → Option ρ) → Option ρ} (N : Nat) (hN : N < 2147483648) (Q : Nat → α1 → α3 → α4 → α5 → α6 → Prop) (h : ∀ (i : Nat) (x1 : α1) (x3 : α3) (x4 : α4) (x5 : α5) (x6 : α6) (ag : α1 → Int → α3 → α4 → α5 → α6 → Option ρ), i ≤ N → Q i x1 x3 x4 x5 x6 → (∀ (y1 : α1) (y3 : α3) (y4 : α4) (y5 : α5) (y6 : α6), i < N → Q (i + 1) y1 y3 y4 y5 y6 → ev (ag y1 ((i : Int) + 1) y3 y4 y5 y6) P) → ev (b x1 (i : Int) x3 x4 x5 x6 ag) P) {x1 : α1} {x3 : α3} {x4 : α4} {x5 : α5} {x6 : α6} (h0 : Q 0 x1 x3 x4 x5 x6) : ev (zl6 b zF x1 0 x3 x4 x5 x6) P := by
  refine ev_l6 (fun m z1 z2 z3 z4 z5 z6 => ∃ i : Nat, i ≤ N ∧ m = N - i ∧ z2 = (i : Int) ∧ Q i z1 z3 z4 z5 z6) ?_ (m := N)  (zF_gt hN) ⟨0, Nat.zero_le _, rfl, rfl, h0⟩
  intro m z1 z2 z3 z4 z5 z6 ag hI hag
  obtain ⟨i, h1, h2, h3, h4⟩ := hI
  subst h3
  refine h i z1 z3 z4 z5 z6 ag h1 h4 (fun y1 y3 y4 y5 y6 hl hq => hag (N - (i + 1)) y1 ((i : Int) + 1) y3 y4 y5 y6 (by omega) ⟨i + 1, hl, rfl, rfl, hq⟩)
theorem ev_f6_3 {α1 α2 α4 α5 α6 ρ : Type} {P : ρ → Prop} {b : α1 → α2 → Int → α4 → α5 → α6 → (α1 → α2 → Int → α4 → α5 → α6 → Option ρ) → Option ρ} (N : Nat) (hN : N < 2147483648) (Q : Nat → α1 → α2 → α4 → α5 → α6 → Prop) (h : ∀ (i : Nat) (x1 : α1) (x2 : α2) (x4 : α4) (x5 : α5) (x6 : α6) (ag : α1 → α2 → Int → α4 → α5 → α6 → Option ρ), i ≤ N → Q i x1 x2 x4 x5 x6 → (∀ (y1 : α1) (y2 : α2) (y4 : α4) (y5 : α5) (y6 : α6), i < N → Q (i + 1) y1 y2 y4 y5 y6 → ev (ag y1 y2 ((i : Int) + 1) y4 y5 y6) P) → ev (b x1 x2 (i : Int) x4 x5 x6 ag) P) {x1 : α1} {x2 : α2} {x4 : α4} {x5 : α5} {x6 : α6} (h0 : Q 0 x1 x2 x4 x5 x6) : ev (zl6 b zF x1 x2 0 x4 x5 x6) P := by
  refine ev_l6 (fun m z1 z2 z3 z4 z5 z6 => ∃ i : Nat, i ≤ N ∧ m = N - i ∧ z3 = (i : Int) ∧ Q i z1 z2 z4 z5 z6) ?_ (m := N)  (zF_gt hN) ⟨0, Nat.zero_le _, rfl, rfl, h0⟩
  intro m z1 z2 z3 z4 z5 z6 ag hI hag
  obtain ⟨i, h1, h2, h3, h4⟩ := hI
  subst h3
  refine h i z1 z2 z4 z5 z6 ag h1 h4 (fun y1 y2 y4 y5 y6 hl hq => hag (N - (i + 1)) y1 y2 ((i : Int) + 1) y4 y5 y6 (by omega) ⟨i + 1, hl, rfl, rfl, hq⟩)
theorem ev_f6_4 {α1 α2 α3 α5 α6 ρ : Type} {P : ρ → Prop} {b : α1 → α2 → α3 → Int → α5 → α6 → (α1 → α2 → α3 → Int → α5 → α6 → Option ρ) → Option ρ} (N : Nat) (hN : N < 2147483648) (Q : Nat → α1 → α2 → α3 → α5 → α6 → Prop) (h : ∀ (i : Nat) (x1 : α1) (x2 : α2) (x3 : α3) (x5 : α5) (x6 : α6) (ag : α1 → α2 → α3 → Int → α5 → α6 → Option ρ), i ≤ N → Q i x1 x2 x3 x5 x6 → (∀ (y1 : α1) (y2 : α2) (y3 : α3) (y5 : α5) (y6 : α6), i < N → Q (i + 1) y1 y2 y3 y5 y6 → ev (ag y1 y2 y3 ((i : Int) + 1) y5 y6) P) → ev (b x1 x2 x3 (i : Int) x5 x6 ag) P) {x1 : α1} {x2 : α2} {x3 : α3} {x5 : α5} {x6 : α6} (h0 : Q 0 x1 x2 x3 x5 x6) : ev (zl6 b zF x1 x2 x3 0 x5 x6) P := by
  refine ev_l6 (fun m z1 z2 z3 z4 z5 z6 => ∃ i : Nat, i ≤ N ∧ m = N - i ∧ z4 = (i : Int) ∧ Q i z1 z2 z3 z5 z6) ?_ (m := N)  (zF_gt hN) ⟨0, Nat.zero_le _, rfl, rfl, h0⟩
  intro m z1 z2 z3 z4 z5 z6 ag hI hag
  obtain ⟨i, h1, h2, h3, h4⟩ := hI
  subst h3
  refine h i z1 z2 z3 z5 z6 ag h1 h4 (fun y1 y2 y3 y5 y6 hl hq => hag (N - (i + 1)) y1 y2 y3 ((i : Int) + 1) y5 y6 (by omega) ⟨i + 1, hl, rfl, rfl, hq⟩)
theorem ev_f6_5 {α1 α2 α3 α4 α6 ρ : Type} {P : ρ → Prop} {b : α1 → α2 → α3 → α4 → Int → α6 → (α1 → α2 → α3 → α4 → Int → α6 → Option ρ) → Option ρ} (N : Nat) (hN : N < 2147483648) (Q : Nat → α1 → α2 → α3 → α4 → α6 → Prop) (h : ∀ (i : Nat) (x1 : α1) (x2 : α2) (x3 : α3) (x4 : α4) (x6 : α6) (ag : α1 → α2 → α3 → α4 → Int → α6 → Option ρ), i ≤ N → Q i x1 x2 x3 x4 x6 → (∀ (y1 : α1) (y2 : α2) (y3 : α3) (y4 : α4) (y6 : α6), i < N → Q (i + 1) y1 y2 y3 y4 y6 → ev (ag y1 y2 y3 y4 ((i : Int) + 1) y6) P) → ev (b x1 x2 x3 x4 (i : Int) x6 ag) P) {x1 : α1} {x2 : α2} {x3 : α3} {x4 : α4} {x6 : α6} (h0 : Q 0 x1 x2 x3 x4 x6) : ev (zl6 b zF x1 x2 x3 x4 0 x6) P := by
  refine ev_l6 (fun m z1 z2 z3 z4 z5 z6 => ∃ i : Nat, i ≤ N ∧ m = N - i ∧ z5 = (i : Int) ∧ Q i z1 z2 z3 z4 z6) ?_ (m := N)  (zF_gt hN) ⟨0, Nat.zero_le _, rfl, rfl, h0⟩
  intro m z1 z2 z3 z4 z5 z6 ag hI hag
  obtain ⟨i, h1, h2, h3, h4⟩ := hI
  subst h3
  refine h i z1 z2 z3 z4 z6 ag h1 h4 (fun y1 y2 y3 y4 y6 hl hq => hag (N - (i + 1)) y1 y2 y3 y4 ((i : Int) + 1) y6 (by omega) ⟨i + 1, hl, rfl, rfl, hq⟩)
theorem ev_f6_6 {α1 α2 α3 α4 α5 ρ : Type} {P : ρ → Prop} {b : α1 → α2 → α3 → α4 → α5 → Int → (α1 → α2 → α3 → α4 → α5 → Int → Option ρ) → Option ρ} (N : Nat) (hN : N < 2147483648) (Q : Nat → α1 → α2 → α3 → α4 → α5 → Prop) (h : ∀ (i : Nat) (x1 : α1) (x2 : α2) (x3 : α3) (x4 : α4) (x5 : α5) (ag : α1 → α2 → α3 → α4 → α5 → Int → Option ρ), i ≤ N → Q i x1 x2 x3 x4 x5 → (∀ (y1 : α1) (y2 : α2) (y3 : α3) (y4 : α4) (y5 : α5), i < N → Q (i + 1) y1 y2 y3 y4 y5 → ev (ag y1 y2 y3 y4 y5 ((i : Int) + 1)) P) → ev (b x1 x2 x3 x4 x5 (i : Int) ag) P) {x1 : α1} {x2 : α2} {x3 : α3} {x4 : α4} {x5 : α5} (h0 : Q 0 x1 x2 x3 x4 x5) : ev (zl6 b zF x1 x2 x3 x4 x5 0) P := by
  refine ev_l6 (fun m z1 z2 z3 z4 z5 z6 => ∃ i : Nat, i ≤ N ∧ m = N - i ∧ z6 = (i : Int) ∧ Q i z1 z2 z3 z4 z5) ?_ (m := N)  (zF_gt hN) ⟨0, Nat.zero_le _, rfl, rfl, h0⟩
  intro m z1 z2 z3 z4 z5 z6 ag hI hag
  obtain ⟨i, h1, h2, h3, h4⟩ := hI
  subst h3
  refine h i z1 z2 z3 z4 z5 ag h1 h4 (fun y1 y2 y3 y4 y5 hl hq => hag (N - (i + 1)) y1 y2 y3 y4 y5 ((i : Int) + 1) (by omega) ⟨i + 1, hl, rfl, rfl, hq⟩)
theorem ev_f7_1 {α2 α3 α4 α5 α6 α7 ρ : Type} {P : ρ → Prop} {b : Int → α2 → α3 → α4 → α5 → α6 → α7 → (Int → α2 → α3 → α4 → α5 → α6 → α7 → Option ρ) → Option ρ} (N : Nat) (hN : N < 2147483648) (Q : Nat → α2 → α3 → α4 → α5 → α6 → α7 → Prop) (h : ∀ (i : Nat) (x2 : α2) (x3 : α3) (x4 : α4) (x5 : α5) (x6 : α6) (x7 : α7) (ag : Int → α2 → α3 → α4 → α5 → α6 → α7 → Option ρ), i ≤ N → Q i x2 x3 x4 x5 x6 x7 → (∀ (y2 : α2) (y3 : α3) (y4 : α4) (y5 : α5) (y6 : α6) (y7 : α7), i < N → Q (i + 1) y2 y3 y4 y5 y6 y7 → ev (ag ((i : Int) + 1) y2 y3 y4 y5 y6 y7) P) → ev (b (i : Int) x2 x3 x4 x5 x6 x7 ag) P) {x2 : α2} {x3 : α3} {x4 : α4} {x5 : α5} {x6 : α6} {x7 : α7} (h0 : Q 0 x2 x3 x4 x5 x6 x7) : ev (zl7 b zF 0 x2 x3 x4 x5 x6 x7) P := by
  refine ev_l7 (fun m z1 z2 z3 z4 z5 z6 z7 => ∃ i : Nat, i ≤ N ∧ m = N - i ∧ z1 = (i : Int) ∧ Q i z2 z3 z4 z5 z6 z7) ?_ (m := N)  (zF_gt hN) ⟨0, Nat.zero_le _, rfl, rfl, h0⟩
  intro m z1 z2 z3 z4 z5 z6 z7 ag hI hag
  obtain ⟨i, h1, h2, h3, h4⟩ := hI
  subst h3
  refine h i z2 z3 z4 z5 z6 z7 ag h1 h4 (fun y2 y3 y4 y5 y6 y7 hl hq => hag (N - (i + 1)) ((i : Int) + 1) y2 y3 y4 y5 y6 y7 (by omega) ⟨i + 1, hl, rfl, rfl, hq⟩)
theorem ev_f7_2 {α1 α3 α4 α5 α6 α7 ρ : Type} {P : ρ → Prop} {b : α1 → Int → α3 → α4 → α5 → α6 → α7 → (α1 → Int → α3 → α4 → α5 → α6 → α7 → Option ρ) → Option ρ} (N : Nat) (hN : N < 2147483648) (Q : Nat → α1 → α3 → α4 → α5 → α6 → α7 → Prop) (h : ∀ (i : Nat) (x1 : α1) (x3 : α3) (x4 : α4) (x5 : α5) (x6 : α6) (x7 : α7) (ag : α1 → Int → α3 → α4 → α5 → α6 → α7 → Option ρ), i ≤ N → Q i x1 x3 x4 x5 x6 x7 → (∀ (y1 : α1) (y3 : α3) (y4 : α4) (y5 : α5) (y6 : α6) (y7 : α7), i < N → Q (i + 1) y1 y3 y4 y5 y6 y7 → ev (ag y1 ((i : Int) + 1) y3 y4 y5 y6 y7) P) → ev (b x1 (i : Int) x3 x4 x5 x6 x7 ag) P) {x1 : α1} {x3 : α3} {x4 : α4} {x5 : α5} {x6 : α6} {x7 : α7} (h0 : Q 0 x1 x3 x4 x5 x6 x7) : ev (zl7 b zF x1 0 x3 x4 x5 x6 x7) P := by
  refine ev_l7 (fun m z1 z2 z3 z4 z5 z6 z7 => ∃ i : Nat, i ≤ N ∧ m = N - i ∧ z2 = (i : Int) ∧ Q i z1 z3 z4 z5 z6 z7) ?_ (m := N)  (zF_gt hN) ⟨0, Nat.zero_le _, rfl, rfl, h0⟩
  intro m z1 z2 z3 z4 z5 z6 z7 ag hI hag
  obtain ⟨i, h1, h2, h3, h4⟩ := hI
  subst h3
  refine h i z1 z3 z4 z5 z6 z7 ag h1 h4 (fun y1 y3 y4 y5 y6 y7 hl hq => hag (N - (i + 1)) y1 ((i : Int) + 1) y3 y4 y5 y6 y7 (by omega) ⟨i + 1, hl, rfl, rfl, hq⟩)
theorem ev_f7_3 {α1 α2 α4 α5 α6 α7 ρ : Type} {P : ρ → Prop} {b : α1 → α2 → Int → α4 → α5 → α6 → α7 → (α1 → α2 → Int → α4 → α5 → α6 → α7 → Option ρ) → Option ρ} (N : Nat) (hN : N < 2147483648) (Q : Nat → α1 → α2 → α4 → α5 → α6 → α7 → Prop) (h : ∀ (i : Nat) (x1 : α1) (x2 : α2) (x4 : α4) (x5 : α5) (x6 : α6) (x7 : α7) (ag : α1 → α2 → Int → α4 → α5 → α6 → α7 → Option ρ), i ≤ N → Q i x1 x2 x4 x5 x6 x7 → (∀ (y1 : α1) (y2 : α2) (y4 : α4) (y5 : α5) (y6 : α6) (y7 : α7), i < N → Q (i + 1) y1 y2 y4 y5 y6 y7 → ev (ag y1 y2 ((i : Int) + 1) y4 y5 y6 y7) P) → ev (b x1 x2 (i : Int) x4 x5 x6 x7 ag) P) {x1 : α1} {x2 : α2} {x4 : α4} {x5 : α5} {x6 : α6} {x7 : α7} (h0 : Q 0 x1 x2 x4 x5 x6 x7) : ev (zl7 b zF x1 x2 0 x4 x5 x6 x7) P := by
  refine ev_l7 (fun m z1 z2 z3 z4 z5 z6 z7 => ∃ i : Nat, i ≤ N ∧ m = N - i ∧ z3 = (i : Int) ∧ Q i z1 z2 z4 z5 z6 z7) ?_ (m := N)  (zF_gt hN) ⟨0, Nat.zero_le _, rfl, rfl, h0⟩
  intro m z1 z2 z3 z4 z5 z6 z7 ag hI hag
  obtain ⟨i, h1, h2, h3, h4⟩ := hI
  subst h3
  refine h i z1 z2 z4 z5 z6 z7 ag h1 h4 (fun y1 y2 y4 y5 y6 y7 hl hq => hag (N - (i + 1)) y1 y2 ((i : Int) + 1) y4 y5 y6 y7 (by omega) ⟨i + 1, hl, rfl, rfl, hq⟩)
theorem ev_f7_4 {α1 α2 α3 α5 α6 α7 ρ : Type} {P : ρ → Prop} {b : α1 → α2 → α3 → Int → α5 → α6 → α7 → (α1 → α2 → α3 → Int → α5 → α6 → α7 → Option ρ) → Option ρ} (N : Nat) (hN : N < 2147483648) (Q : Nat → α1 → α2 → α3 → α5 → α6 → α7 → Prop) (h : ∀ (i : Nat) (x1 : α1) (x2 : α2) (x3 : α3) (x5 : α5) (x6 : α6) (x7 : α7) (ag : α1 → α2 → α3 → Int → α5 → α6 → α7 → Option ρ), i ≤ N → Q i x1 x2 x3 x5 x6 x7 → (∀ (y1 : α1) (y2 : α2) (y3 : α3) (y5 : α5) (y6 : α6) (y7 : α7), i < N → Q (i + 1) y1 y2 y3 y5 y6 y7 → ev (ag y1 y2 y3 ((i : Int) + 1) y5 y6 y7) P) → ev (b x1 x2 x3 (i : Int) x5 x6 x7 ag) P) {x1 : α1} {x2 : α2} {x3 : α3} {x5 : α5} {x6 : α6} {x7 : α7} (h0 : Q 0 x1 x2 x3 x5 x6 x7) : ev (zl7 b zF x1 x2 x3 0 x5 x6 x7) P := by
  refine ev_l7 (fun m z1 z2 z3 z4 z5 z6 z7 => ∃ i : Nat, i ≤ N ∧ m = N - i ∧ z4 = (i : Int) ∧ Q i z1 z2 z3 z5 z6 z7) ?_ (m := N)  (zF_gt hN) ⟨0, Nat.zero_le _, rfl, rfl, h0⟩
  intro m z1 z2 z3 z4 z5 z6 z7 ag hI hag
  obtain ⟨i, h1, h2, h3, h4⟩ := hI
  subst h3
  refine h i z1 z2 z3 z5 z6 z7 ag h1 h4 (fun y1 y2 y3 y5 y6 y7 hl hq => hag (N - (i + 1)) y1 y2 y3 ((i : Int) + 1) y5 y6 y7 (by omega) ⟨i + 1, hl, rfl, rfl, hq⟩)
theorem ev_f7_5 {α1 α2 α3 α4 α6 α7 ρ : Type} {P : ρ → Prop} {b : α1 → α2 → α3 → α4 → Int → α6 → α7 → (α1 → α2 → α3 → α4 → Int → α6 → α7 → Option ρ) → Option ρ} (N : Nat) (hN : N < 2147483648) (Q : Nat → α1 → α2 → α3 → α4 → α6 → α7 → Prop) (h : ∀ (i : Nat) (x1 : α1) (x2 : α2) (x3 : α3) (x4 : α4) (x6 : α6) (x7 : α7) (ag : α1 → α2 → α3 → α4 → Int → α6 → α7 → Option ρ), i ≤ N → Q i x1 x2 x3 x4 x6 x7 → (∀ (y1 : α1) (y2 : α2) (y3 : α3) (y4 : α4) (y6 : α6) (y7 : α7), i < N → Q (i + 1) y1 y2 y3 y4 y6 y7 → ev (ag y1 y2 y3 y4 ((i : Int) + 1) y6 y7) P) → ev (b x1 x2 x3 x4 (i : Int) x6 x7 ag) P) {x1 : α1} {x2 : α2} {x3 : α3} {x4 : α4} {x6 : α6} {x7 : α7} (h0 : Q 0 x1 x2 x3 x4 x6 x7) : ev (zl7 b zF x1 x2 x3 x4 0 x6 x7) P := by
  refine ev_l7 (fun m z1 z2 z3 z4 z5 z6 z7 => ∃ i : Nat, i ≤ N ∧ m = N - i ∧ z5 = (i : Int) ∧ Q i z1 z2 z3 z4 z6 z7) ?_ (m := N)  (zF_gt hN) ⟨0, Nat.zero_le _, rfl, rfl, h0⟩
  intro m z1 z2 z3 z4 z5 z6 z7 ag hI hag
  obtain ⟨i, h1, h2, h3, h4⟩ := hI
  subst h3
  refine h i z1 z2 z3 z4 z6 z7 ag h1 h4 (fun y1 y2 y3 y4 y6 y7 hl hq => hag (N - (i + 1)) y1 y2 y3 y4 ((i : Int) + 1) y6 y7 (by omega) ⟨i + 1, hl, rfl, rfl, hq⟩)
theorem ev_f7_6 {α1 α2 α3 α4 α5 α7 ρ : Type} {P : ρ → Prop} {b : α1 → α2 → α3 → α4 → α5 → Int → α7 → (α1 → α2 → α3 → α4 → α5 → Int → α7 → Option ρ) → Option ρ} (N : Nat) (hN : N < 2147483648) (Q : Nat → α1 → α2 → α3 → α4 → α5 → α7 → Prop) (h : ∀ (i : Nat) (x1 : α1) (x2 : α2) (x3 : α3) (x4 : α4) (x5 : α5) (x7 : α7) (ag : α1 → α2 → α3 → α4 → α5 → Int → α7 → Option ρ), i ≤ N → Q i x1 x2 x3 x4 x5 x7 → (∀ (y1 : α1) (y2 : α2) (y3 : α3) (y4 : α4) (y5 : α5) (y7 : α7), i < N → Q (i + 1) y1 y2 y3 y4 y5 y7 → ev (ag y1 y2 y3 y4 y5 ((i : Int) + 1) y7) P) → ev (b x1 x2 x3 x4 x5 (i : Int) x7 ag) P) {x1 : α1} {x2 : α2} {x3 : α3} {x4 : α4} {x5 : α5} {x7 : α7} (h0 : Q 0 x1 x2 x3 x4 x5 x7) : ev (zl7 b zF x1 x2 x3 x4 x5 0 x7) P := by
  refine ev_l7 (fun m z1 z2 z3 z4 z5 z6 z7 => ∃ i : Nat, i ≤ N ∧ m = N - i ∧ z6 = (i : Int) ∧ Q i z1 z2 z3 z4 z5 z7) ?_ (m := N)  (zF_gt hN) ⟨0, Nat.zero_le _, rfl, rfl, h0⟩
  intro m z1 z2 z3 z4 z5 z6 z7 ag hI hag
  obtain ⟨i, h1, h2, h3, h4⟩ := hI
  subst h3
  refine h i z1 z2 z3 z4 z5 z7 ag h1 h4 (fun y1 y2 y3 y4 y5 y7 hl hq => hag (N - (i + 1)) y1 y2 y3 y4 y5 ((i : Int) + 1) y7 (by omega) ⟨i + 1, hl, rfl, rfl, hq⟩)
theorem ev_f7_7 {α1 α2 α3 α4 α5 α6 ρ : Type} {P : ρ → Prop} {b : α1 → α2 → α3 → α4 → α5 → α6 → Int → (α1 → α2 → α3 → α4 → α5 → α6 → Int → Option ρ) → Option ρ} (N : Nat) (hN : N < 2147483648) (Q : Nat → α1 → α2 → α3 → α4 → α5 → α6 → Prop) (h : ∀ (i : Nat) (x1 : α1) (x2 : α2) (x3 : α3) (x4 : α4) (x5 : α5) (x6 : α6) (ag : α1 → α2 → α3 → α4 → α5 → α6 → Int → Option ρ), i ≤ N → Q i x1 x2 x3 x4 x5 x6 → (∀ (y1 : α1) (y2 : α2) (y3 : α3) (y4 : α4) (y5 : α5) (y6 : α6), i < N → Q (i + 1) y1 y2 y3 y4 y5 y6 → ev (ag y1 y2 y3 y4 y5 y6 ((i : Int) + 1)) P) → ev (b x1 x2 x3 x4 x5 x6 (i : Int) ag) P) {x1 : α1} {x2 : α2} {x3 : α3} {x4 : α4} {x5 : α5} {x6 : α6} (h0 : Q 0 x1 x2 x3 x4 x5 x6) : ev (zl7 b zF x1 x2 x3 x4 x5 x6 0) P := by
  refine ev_l7 (fun m z1 z2 z3 z4 z5 z6 z7 => ∃ i : Nat, i ≤ N ∧ m = N - i ∧ z7 = (i : Int) ∧ Q i z1 z2 z3 z4 z5 z6) ?_ (m := N)  (zF_gt hN) ⟨0, Nat.zero_le _, rfl, rfl, h0⟩
  intro m z1 z2 z3 z4 z5 z6 z7 ag hI hag
  obtain ⟨i, h1, h2, h3, h4⟩ := hI
  subst h3
  refine h i z1 z2 z3 z4 z5 z6 ag h1 h4 (fun y1 y2 y3 y4 y5 y6 hl hq => hag (N - (i + 1)) y1 y2 y3 y4 y5 y6 ((i : Int) + 1) (by omega) ⟨i + 1, hl, rfl, rfl, hq⟩)
