-- own text: small combinators in Option, and what a walk takes from them
def zF : Nat := 1000000000000000000000000
def zn {α ρ : Type} (x : α) (k : α → Option ρ) : Option ρ := k x
theorem zn_e {α ρ : Type} {x y : α} {k : α → Option ρ} {r : Option ρ} (e : y = x) (h : zn x k = r) : k y = r := by subst e; exact h
def zg {ρ : Type} (p : Prop) [Decidable p] (k : Option ρ) : Option ρ := if p then k else none
theorem zg_e {ρ : Type} {p : Prop} [Decidable p] {k : Option ρ} {r : ρ} (h : zg p k = some r) : p ∧ k = some r := by
  unfold zg at h
  split at h
  · next hp => exact ⟨hp, h⟩
  · cases h
theorem zif_t {ρ : Type} {c : Prop} {d : Decidable c} {a b r : Option ρ} (h : c) (e : (@ite _ c d a b) = r) : a = r := by rw [if_pos h] at e; exact e
theorem zif_f {ρ : Type} {c : Prop} {d : Decidable c} {a b r : Option ρ} (h : ¬ c) (e : (@ite _ c d a b) = r) : b = r := by rw [if_neg h] at e; exact e
abbrev zin (x : Int32) (n : Nat) : Prop := ¬ (x < 0 ∨ n ≤ x.toNatClampNeg)
abbrev zrem (x y : Int32) : Int32 := x - x / y * y
abbrev zshl (x y : Int32) : Int32 := x <<< (y &&& 31)
abbrev zshr (x y : Int32) : Int32 := x >>> (y &&& 31)
abbrev zush (x y : Int32) : Int32 := (x.toUInt32 >>> (y.toUInt32 &&& Int32.toUInt32 31)).toInt32
abbrev zi2c (x : Int32) : Int32 := (x.toUInt32 % 65536).toInt32
abbrev zi2b (x : Int32) : Int32 := x.toInt8.toInt32
def zSlen : List Nat := [4, 6, 3, 2, 0, 6]
def zSbyt : List (List Int32) := [[75, 68, 68, 59], [75, 68, 68, 68, 68, 59], [68, 68, 59], [68, 59], [], [115, 119, 99, 110, 116, 109]]
abbrev zSL (q : Nat) : Nat := zSlen.getD q 0
abbrev zSB (q : Nat) (x : Int32) : Int32 := (zSbyt.getD q []).getD x.toNatClampNeg 0
abbrev zmax (x y : Int32) : Int32 := if x < y then y else x
abbrev zmin (x y : Int32) : Int32 := if y < x then y else x
abbrev zabs (x : Int32) : Int32 := if 0 ≤ x then x else 0 - x
theorem zi1 {α1 : Type} {x1 y1 : α1} (h : some (x1) = some (y1)) : y1 = x1 := by
  cases h; exact rfl
theorem zi2 {α1 α2 : Type} {x1 y1 : α1} {x2 y2 : α2} (h : some (x1, x2) = some (y1, y2)) : y1 = x1 ∧ y2 = x2 := by
  cases h; exact ⟨rfl, rfl⟩
theorem zi3 {α1 α2 α3 : Type} {x1 y1 : α1} {x2 y2 : α2} {x3 y3 : α3} (h : some (x1, x2, x3) = some (y1, y2, y3)) : y1 = x1 ∧ y2 = x2 ∧ y3 = x3 := by
  cases h; exact ⟨rfl, rfl, rfl⟩
theorem zi4 {α1 α2 α3 α4 : Type} {x1 y1 : α1} {x2 y2 : α2} {x3 y3 : α3} {x4 y4 : α4} (h : some (x1, x2, x3, x4) = some (y1, y2, y3, y4)) : y1 = x1 ∧ y2 = x2 ∧ y3 = x3 ∧ y4 = x4 := by
  cases h; exact ⟨rfl, rfl, rfl, rfl⟩
theorem zi5 {α1 α2 α3 α4 α5 : Type} {x1 y1 : α1} {x2 y2 : α2} {x3 y3 : α3} {x4 y4 : α4} {x5 y5 : α5} (h : some (x1, x2, x3, x4, x5) = some (y1, y2, y3, y4, y5)) : y1 = x1 ∧ y2 = x2 ∧ y3 = x3 ∧ y4 = x4 ∧ y5 = x5 := by
  cases h; exact ⟨rfl, rfl, rfl, rfl, rfl⟩
theorem zi6 {α1 α2 α3 α4 α5 α6 : Type} {x1 y1 : α1} {x2 y2 : α2} {x3 y3 : α3} {x4 y4 : α4} {x5 y5 : α5} {x6 y6 : α6} (h : some (x1, x2, x3, x4, x5, x6) = some (y1, y2, y3, y4, y5, y6)) : y1 = x1 ∧ y2 = x2 ∧ y3 = x3 ∧ y4 = x4 ∧ y5 = x5 ∧ y6 = x6 := by
  cases h; exact ⟨rfl, rfl, rfl, rfl, rfl, rfl⟩
theorem zi7 {α1 α2 α3 α4 α5 α6 α7 : Type} {x1 y1 : α1} {x2 y2 : α2} {x3 y3 : α3} {x4 y4 : α4} {x5 y5 : α5} {x6 y6 : α6} {x7 y7 : α7} (h : some (x1, x2, x3, x4, x5, x6, x7) = some (y1, y2, y3, y4, y5, y6, y7)) : y1 = x1 ∧ y2 = x2 ∧ y3 = x3 ∧ y4 = x4 ∧ y5 = x5 ∧ y6 = x6 ∧ y7 = x7 := by
  cases h; exact ⟨rfl, rfl, rfl, rfl, rfl, rfl, rfl⟩
theorem zi8 {α1 α2 α3 α4 α5 α6 α7 α8 : Type} {x1 y1 : α1} {x2 y2 : α2} {x3 y3 : α3} {x4 y4 : α4} {x5 y5 : α5} {x6 y6 : α6} {x7 y7 : α7} {x8 y8 : α8} (h : some (x1, x2, x3, x4, x5, x6, x7, x8) = some (y1, y2, y3, y4, y5, y6, y7, y8)) : y1 = x1 ∧ y2 = x2 ∧ y3 = x3 ∧ y4 = x4 ∧ y5 = x5 ∧ y6 = x6 ∧ y7 = x7 ∧ y8 = x8 := by
  cases h; exact ⟨rfl, rfl, rfl, rfl, rfl, rfl, rfl, rfl⟩
theorem zi9 {α1 α2 α3 α4 α5 α6 α7 α8 α9 : Type} {x1 y1 : α1} {x2 y2 : α2} {x3 y3 : α3} {x4 y4 : α4} {x5 y5 : α5} {x6 y6 : α6} {x7 y7 : α7} {x8 y8 : α8} {x9 y9 : α9} (h : some (x1, x2, x3, x4, x5, x6, x7, x8, x9) = some (y1, y2, y3, y4, y5, y6, y7, y8, y9)) : y1 = x1 ∧ y2 = x2 ∧ y3 = x3 ∧ y4 = x4 ∧ y5 = x5 ∧ y6 = x6 ∧ y7 = x7 ∧ y8 = x8 ∧ y9 = x9 := by
  cases h; exact ⟨rfl, rfl, rfl, rfl, rfl, rfl, rfl, rfl, rfl⟩
theorem zi10 {α1 α2 α3 α4 α5 α6 α7 α8 α9 α10 : Type} {x1 y1 : α1} {x2 y2 : α2} {x3 y3 : α3} {x4 y4 : α4} {x5 y5 : α5} {x6 y6 : α6} {x7 y7 : α7} {x8 y8 : α8} {x9 y9 : α9} {x10 y10 : α10} (h : some (x1, x2, x3, x4, x5, x6, x7, x8, x9, x10) = some (y1, y2, y3, y4, y5, y6, y7, y8, y9, y10)) : y1 = x1 ∧ y2 = x2 ∧ y3 = x3 ∧ y4 = x4 ∧ y5 = x5 ∧ y6 = x6 ∧ y7 = x7 ∧ y8 = x8 ∧ y9 = x9 ∧ y10 = x10 := by
  cases h; exact ⟨rfl, rfl, rfl, rfl, rfl, rfl, rfl, rfl, rfl, rfl⟩
theorem zi11 {α1 α2 α3 α4 α5 α6 α7 α8 α9 α10 α11 : Type} {x1 y1 : α1} {x2 y2 : α2} {x3 y3 : α3} {x4 y4 : α4} {x5 y5 : α5} {x6 y6 : α6} {x7 y7 : α7} {x8 y8 : α8} {x9 y9 : α9} {x10 y10 : α10} {x11 y11 : α11} (h : some (x1, x2, x3, x4, x5, x6, x7, x8, x9, x10, x11) = some (y1, y2, y3, y4, y5, y6, y7, y8, y9, y10, y11)) : y1 = x1 ∧ y2 = x2 ∧ y3 = x3 ∧ y4 = x4 ∧ y5 = x5 ∧ y6 = x6 ∧ y7 = x7 ∧ y8 = x8 ∧ y9 = x9 ∧ y10 = x10 ∧ y11 = x11 := by
  cases h; exact ⟨rfl, rfl, rfl, rfl, rfl, rfl, rfl, rfl, rfl, rfl, rfl⟩
theorem zi12 {α1 α2 α3 α4 α5 α6 α7 α8 α9 α10 α11 α12 : Type} {x1 y1 : α1} {x2 y2 : α2} {x3 y3 : α3} {x4 y4 : α4} {x5 y5 : α5} {x6 y6 : α6} {x7 y7 : α7} {x8 y8 : α8} {x9 y9 : α9} {x10 y10 : α10} {x11 y11 : α11} {x12 y12 : α12} (h : some (x1, x2, x3, x4, x5, x6, x7, x8, x9, x10, x11, x12) = some (y1, y2, y3, y4, y5, y6, y7, y8, y9, y10, y11, y12)) : y1 = x1 ∧ y2 = x2 ∧ y3 = x3 ∧ y4 = x4 ∧ y5 = x5 ∧ y6 = x6 ∧ y7 = x7 ∧ y8 = x8 ∧ y9 = x9 ∧ y10 = x10 ∧ y11 = x11 ∧ y12 = x12 := by
  cases h; exact ⟨rfl, rfl, rfl, rfl, rfl, rfl, rfl, rfl, rfl, rfl, rfl, rfl⟩
theorem zi13 {α1 α2 α3 α4 α5 α6 α7 α8 α9 α10 α11 α12 α13 : Type} {x1 y1 : α1} {x2 y2 : α2} {x3 y3 : α3} {x4 y4 : α4} {x5 y5 : α5} {x6 y6 : α6} {x7 y7 : α7} {x8 y8 : α8} {x9 y9 : α9} {x10 y10 : α10} {x11 y11 : α11} {x12 y12 : α12} {x13 y13 : α13} (h : some (x1, x2, x3, x4, x5, x6, x7, x8, x9, x10, x11, x12, x13) = some (y1, y2, y3, y4, y5, y6, y7, y8, y9, y10, y11, y12, y13)) : y1 = x1 ∧ y2 = x2 ∧ y3 = x3 ∧ y4 = x4 ∧ y5 = x5 ∧ y6 = x6 ∧ y7 = x7 ∧ y8 = x8 ∧ y9 = x9 ∧ y10 = x10 ∧ y11 = x11 ∧ y12 = x12 ∧ y13 = x13 := by
  cases h; exact ⟨rfl, rfl, rfl, rfl, rfl, rfl, rfl, rfl, rfl, rfl, rfl, rfl, rfl⟩
theorem zi14 {α1 α2 α3 α4 α5 α6 α7 α8 α9 α10 α11 α12 α13 α14 : Type} {x1 y1 : α1} {x2 y2 : α2} {x3 y3 : α3} {x4 y4 : α4} {x5 y5 : α5} {x6 y6 : α6} {x7 y7 : α7} {x8 y8 : α8} {x9 y9 : α9} {x10 y10 : α10} {x11 y11 : α11} {x12 y12 : α12} {x13 y13 : α13} {x14 y14 : α14} (h : some (x1, x2, x3, x4, x5, x6, x7, x8, x9, x10, x11, x12, x13, x14) = some (y1, y2, y3, y4, y5, y6, y7, y8, y9, y10, y11, y12, y13, y14)) : y1 = x1 ∧ y2 = x2 ∧ y3 = x3 ∧ y4 = x4 ∧ y5 = x5 ∧ y6 = x6 ∧ y7 = x7 ∧ y8 = x8 ∧ y9 = x9 ∧ y10 = x10 ∧ y11 = x11 ∧ y12 = x12 ∧ y13 = x13 ∧ y14 = x14 := by
  cases h; exact ⟨rfl, rfl, rfl, rfl, rfl, rfl, rfl, rfl, rfl, rfl, rfl, rfl, rfl, rfl⟩
theorem zi15 {α1 α2 α3 α4 α5 α6 α7 α8 α9 α10 α11 α12 α13 α14 α15 : Type} {x1 y1 : α1} {x2 y2 : α2} {x3 y3 : α3} {x4 y4 : α4} {x5 y5 : α5} {x6 y6 : α6} {x7 y7 : α7} {x8 y8 : α8} {x9 y9 : α9} {x10 y10 : α10} {x11 y11 : α11} {x12 y12 : α12} {x13 y13 : α13} {x14 y14 : α14} {x15 y15 : α15} (h : some (x1, x2, x3, x4, x5, x6, x7, x8, x9, x10, x11, x12, x13, x14, x15) = some (y1, y2, y3, y4, y5, y6, y7, y8, y9, y10, y11, y12, y13, y14, y15)) : y1 = x1 ∧ y2 = x2 ∧ y3 = x3 ∧ y4 = x4 ∧ y5 = x5 ∧ y6 = x6 ∧ y7 = x7 ∧ y8 = x8 ∧ y9 = x9 ∧ y10 = x10 ∧ y11 = x11 ∧ y12 = x12 ∧ y13 = x13 ∧ y14 = x14 ∧ y15 = x15 := by
  cases h; exact ⟨rfl, rfl, rfl, rfl, rfl, rfl, rfl, rfl, rfl, rfl, rfl, rfl, rfl, rfl, rfl⟩
theorem zi16 {α1 α2 α3 α4 α5 α6 α7 α8 α9 α10 α11 α12 α13 α14 α15 α16 : Type} {x1 y1 : α1} {x2 y2 : α2} {x3 y3 : α3} {x4 y4 : α4} {x5 y5 : α5} {x6 y6 : α6} {x7 y7 : α7} {x8 y8 : α8} {x9 y9 : α9} {x10 y10 : α10} {x11 y11 : α11} {x12 y12 : α12} {x13 y13 : α13} {x14 y14 : α14} {x15 y15 : α15} {x16 y16 : α16} (h : some (x1, x2, x3, x4, x5, x6, x7, x8, x9, x10, x11, x12, x13, x14, x15, x16) = some (y1, y2, y3, y4, y5, y6, y7, y8, y9, y10, y11, y12, y13, y14, y15, y16)) : y1 = x1 ∧ y2 = x2 ∧ y3 = x3 ∧ y4 = x4 ∧ y5 = x5 ∧ y6 = x6 ∧ y7 = x7 ∧ y8 = x8 ∧ y9 = x9 ∧ y10 = x10 ∧ y11 = x11 ∧ y12 = x12 ∧ y13 = x13 ∧ y14 = x14 ∧ y15 = x15 ∧ y16 = x16 := by
  cases h; exact ⟨rfl, rfl, rfl, rfl, rfl, rfl, rfl, rfl, rfl, rfl, rfl, rfl, rfl, rfl, rfl, rfl⟩
theorem zi17 {α1 α2 α3 α4 α5 α6 α7 α8 α9 α10 α11 α12 α13 α14 α15 α16 α17 : Type} {x1 y1 : α1} {x2 y2 : α2} {x3 y3 : α3} {x4 y4 : α4} {x5 y5 : α5} {x6 y6 : α6} {x7 y7 : α7} {x8 y8 : α8} {x9 y9 : α9} {x10 y10 : α10} {x11 y11 : α11} {x12 y12 : α12} {x13 y13 : α13} {x14 y14 : α14} {x15 y15 : α15} {x16 y16 : α16} {x17 y17 : α17} (h : some (x1, x2, x3, x4, x5, x6, x7, x8, x9, x10, x11, x12, x13, x14, x15, x16, x17) = some (y1, y2, y3, y4, y5, y6, y7, y8, y9, y10, y11, y12, y13, y14, y15, y16, y17)) : y1 = x1 ∧ y2 = x2 ∧ y3 = x3 ∧ y4 = x4 ∧ y5 = x5 ∧ y6 = x6 ∧ y7 = x7 ∧ y8 = x8 ∧ y9 = x9 ∧ y10 = x10 ∧ y11 = x11 ∧ y12 = x12 ∧ y13 = x13 ∧ y14 = x14 ∧ y15 = x15 ∧ y16 = x16 ∧ y17 = x17 := by
  cases h; exact ⟨rfl, rfl, rfl, rfl, rfl, rfl, rfl, rfl, rfl, rfl, rfl, rfl, rfl, rfl, rfl, rfl, rfl⟩
theorem zi18 {α1 α2 α3 α4 α5 α6 α7 α8 α9 α10 α11 α12 α13 α14 α15 α16 α17 α18 : Type} {x1 y1 : α1} {x2 y2 : α2} {x3 y3 : α3} {x4 y4 : α4} {x5 y5 : α5} {x6 y6 : α6} {x7 y7 : α7} {x8 y8 : α8} {x9 y9 : α9} {x10 y10 : α10} {x11 y11 : α11} {x12 y12 : α12} {x13 y13 : α13} {x14 y14 : α14} {x15 y15 : α15} {x16 y16 : α16} {x17 y17 : α17} {x18 y18 : α18} (h : some (x1, x2, x3, x4, x5, x6, x7, x8, x9, x10, x11, x12, x13, x14, x15, x16, x17, x18) = some (y1, y2, y3, y4, y5, y6, y7, y8, y9, y10, y11, y12, y13, y14, y15, y16, y17, y18)) : y1 = x1 ∧ y2 = x2 ∧ y3 = x3 ∧ y4 = x4 ∧ y5 = x5 ∧ y6 = x6 ∧ y7 = x7 ∧ y8 = x8 ∧ y9 = x9 ∧ y10 = x10 ∧ y11 = x11 ∧ y12 = x12 ∧ y13 = x13 ∧ y14 = x14 ∧ y15 = x15 ∧ y16 = x16 ∧ y17 = x17 ∧ y18 = x18 := by
  cases h; exact ⟨rfl, rfl, rfl, rfl, rfl, rfl, rfl, rfl, rfl, rfl, rfl, rfl, rfl, rfl, rfl, rfl, rfl, rfl⟩
theorem zi19 {α1 α2 α3 α4 α5 α6 α7 α8 α9 α10 α11 α12 α13 α14 α15 α16 α17 α18 α19 : Type} {x1 y1 : α1} {x2 y2 : α2} {x3 y3 : α3} {x4 y4 : α4} {x5 y5 : α5} {x6 y6 : α6} {x7 y7 : α7} {x8 y8 : α8} {x9 y9 : α9} {x10 y10 : α10} {x11 y11 : α11} {x12 y12 : α12} {x13 y13 : α13} {x14 y14 : α14} {x15 y15 : α15} {x16 y16 : α16} {x17 y17 : α17} {x18 y18 : α18} {x19 y19 : α19} (h : some (x1, x2, x3, x4, x5, x6, x7, x8, x9, x10, x11, x12, x13, x14, x15, x16, x17, x18, x19) = some (y1, y2, y3, y4, y5, y6, y7, y8, y9, y10, y11, y12, y13, y14, y15, y16, y17, y18, y19)) : y1 = x1 ∧ y2 = x2 ∧ y3 = x3 ∧ y4 = x4 ∧ y5 = x5 ∧ y6 = x6 ∧ y7 = x7 ∧ y8 = x8 ∧ y9 = x9 ∧ y10 = x10 ∧ y11 = x11 ∧ y12 = x12 ∧ y13 = x13 ∧ y14 = x14 ∧ y15 = x15 ∧ y16 = x16 ∧ y17 = x17 ∧ y18 = x18 ∧ y19 = x19 := by
  cases h; exact ⟨rfl, rfl, rfl, rfl, rfl, rfl, rfl, rfl, rfl, rfl, rfl, rfl, rfl, rfl, rfl, rfl, rfl, rfl, rfl⟩
theorem zi20 {α1 α2 α3 α4 α5 α6 α7 α8 α9 α10 α11 α12 α13 α14 α15 α16 α17 α18 α19 α20 : Type} {x1 y1 : α1} {x2 y2 : α2} {x3 y3 : α3} {x4 y4 : α4} {x5 y5 : α5} {x6 y6 : α6} {x7 y7 : α7} {x8 y8 : α8} {x9 y9 : α9} {x10 y10 : α10} {x11 y11 : α11} {x12 y12 : α12} {x13 y13 : α13} {x14 y14 : α14} {x15 y15 : α15} {x16 y16 : α16} {x17 y17 : α17} {x18 y18 : α18} {x19 y19 : α19} {x20 y20 : α20} (h : some (x1, x2, x3, x4, x5, x6, x7, x8, x9, x10, x11, x12, x13, x14, x15, x16, x17, x18, x19, x20) = some (y1, y2, y3, y4, y5, y6, y7, y8, y9, y10, y11, y12, y13, y14, y15, y16, y17, y18, y19, y20)) : y1 = x1 ∧ y2 = x2 ∧ y3 = x3 ∧ y4 = x4 ∧ y5 = x5 ∧ y6 = x6 ∧ y7 = x7 ∧ y8 = x8 ∧ y9 = x9 ∧ y10 = x10 ∧ y11 = x11 ∧ y12 = x12 ∧ y13 = x13 ∧ y14 = x14 ∧ y15 = x15 ∧ y16 = x16 ∧ y17 = x17 ∧ y18 = x18 ∧ y19 = x19 ∧ y20 = x20 := by
  cases h; exact ⟨rfl, rfl, rfl, rfl, rfl, rfl, rfl, rfl, rfl, rfl, rfl, rfl, rfl, rfl, rfl, rfl, rfl, rfl, rfl, rfl⟩
def zb1 {α1 ρ : Type} (x : Option (α1)) (k : α1 → Option ρ) : Option ρ := x.bind fun u => k u
theorem zb1_e {α1 ρ : Type} {x : Option (α1)} {k : α1 → Option ρ} {r : ρ} (h : zb1 x k = some r) : ∃ (x1 : α1), x = some (x1) ∧ k x1 = some r := by
  cases x with
  | none => cases h
  | some u => exact ⟨u, rfl, h⟩
theorem zb1_s {α1 ρ : Type} {x : Option (α1)} {k : α1 → Option ρ} {x1 : α1} (h : x = some (x1)) : zb1 x k = k x1 := by subst h; rfl
def zj1 {α1 ρ : Type} (k : α1 → Option ρ) (b : (α1 → Option ρ) → Option ρ) : Option ρ := b k
theorem zj1_w {α1 ρ : Type} {kk : α1 → Option ρ} {b : (α1 → Option ρ) → Option ρ} {R : ρ} {G : Prop} (he : zj1 kk b = some R) (Wj : α1 → Prop) (h1 : ∀ (x1 : α1), kk x1 = some R → Wj x1) (h2 : ∀ k' : α1 → Option ρ, (∀ (x1 : α1), k' x1 = some R → Wj x1) → b k' = some R → G) : G := h2 kk h1 he
def zl1 {α1 ρ : Type} (b : α1 → (α1 → Option ρ) → Option ρ) : Nat → α1 → Option ρ
  | 0, _ => none
  | f + 1, x1 => b x1 (zl1 b f)
theorem zl1_w {α1 ρ : Type} {b : α1 → (α1 → Option ρ) → Option ρ} {f : Nat} {y1 : α1} {R : ρ} (he : zl1 b f y1 = some R) (Wl : α1 → Prop) (h : ∀ (x1 : α1) (ag : α1 → Option ρ), (∀ (z1 : α1), ag z1 = some R → Wl z1) → b x1 ag = some R → Wl x1) : Wl y1 := by
  induction f generalizing y1 with
  | zero => cases he
  | succ f ih => exact h y1 _ (fun z1 h' => ih h') he
def zb2 {α1 α2 ρ : Type} (x : Option (α1 × α2)) (k : α1 → α2 → Option ρ) : Option ρ := x.bind fun u => k u.1 u.2
theorem zb2_e {α1 α2 ρ : Type} {x : Option (α1 × α2)} {k : α1 → α2 → Option ρ} {r : ρ} (h : zb2 x k = some r) : ∃ (x1 : α1) (x2 : α2), x = some (x1, x2) ∧ k x1 x2 = some r := by
  cases x with
  | none => cases h
  | some u => exact ⟨u.1, u.2, rfl, h⟩
theorem zb2_s {α1 α2 ρ : Type} {x : Option (α1 × α2)} {k : α1 → α2 → Option ρ} {x1 : α1} {x2 : α2} (h : x = some (x1, x2)) : zb2 x k = k x1 x2 := by subst h; rfl
def zj2 {α1 α2 ρ : Type} (k : α1 → α2 → Option ρ) (b : (α1 → α2 → Option ρ) → Option ρ) : Option ρ := b k
theorem zj2_w {α1 α2 ρ : Type} {kk : α1 → α2 → Option ρ} {b : (α1 → α2 → Option ρ) → Option ρ} {R : ρ} {G : Prop} (he : zj2 kk b = some R) (Wj : α1 → α2 → Prop) (h1 : ∀ (x1 : α1) (x2 : α2), kk x1 x2 = some R → Wj x1 x2) (h2 : ∀ k' : α1 → α2 → Option ρ, (∀ (x1 : α1) (x2 : α2), k' x1 x2 = some R → Wj x1 x2) → b k' = some R → G) : G := h2 kk h1 he
def zl2 {α1 α2 ρ : Type} (b : α1 → α2 → (α1 → α2 → Option ρ) → Option ρ) : Nat → α1 → α2 → Option ρ
  | 0, _, _ => none
  | f + 1, x1, x2 => b x1 x2 (zl2 b f)
theorem zl2_w {α1 α2 ρ : Type} {b : α1 → α2 → (α1 → α2 → Option ρ) → Option ρ} {f : Nat} {y1 : α1} {y2 : α2} {R : ρ} (he : zl2 b f y1 y2 = some R) (Wl : α1 → α2 → Prop) (h : ∀ (x1 : α1) (x2 : α2) (ag : α1 → α2 → Option ρ), (∀ (z1 : α1) (z2 : α2), ag z1 z2 = some R → Wl z1 z2) → b x1 x2 ag = some R → Wl x1 x2) : Wl y1 y2 := by
  induction f generalizing y1 y2 with
  | zero => cases he
  | succ f ih => exact h y1 y2 _ (fun z1 z2 h' => ih h') he
def zb3 {α1 α2 α3 ρ : Type} (x : Option (α1 × α2 × α3)) (k : α1 → α2 → α3 → Option ρ) : Option ρ := x.bind fun u => k u.1 u.2.1 u.2.2
theorem zb3_e {α1 α2 α3 ρ : Type} {x : Option (α1 × α2 × α3)} {k : α1 → α2 → α3 → Option ρ} {r : ρ} (h : zb3 x k = some r) : ∃ (x1 : α1) (x2 : α2) (x3 : α3), x = some (x1, x2, x3) ∧ k x1 x2 x3 = some r := by
  cases x with
  | none => cases h
  | some u => exact ⟨u.1, u.2.1, u.2.2, rfl, h⟩
theorem zb3_s {α1 α2 α3 ρ : Type} {x : Option (α1 × α2 × α3)} {k : α1 → α2 → α3 → Option ρ} {x1 : α1} {x2 : α2} {x3 : α3} (h : x = some (x1, x2, x3)) : zb3 x k = k x1 x2 x3 := by subst h; rfl
def zj3 {α1 α2 α3 ρ : Type} (k : α1 → α2 → α3 → Option ρ) (b : (α1 → α2 → α3 → Option ρ) → Option ρ) : Option ρ := b k
theorem zj3_w {α1 α2 α3 ρ : Type} {kk : α1 → α2 → α3 → Option ρ} {b : (α1 → α2 → α3 → Option ρ) → Option ρ} {R : ρ} {G : Prop} (he : zj3 kk b = some R) (Wj : α1 → α2 → α3 → Prop) (h1 : ∀ (x1 : α1) (x2 : α2) (x3 : α3), kk x1 x2 x3 = some R → Wj x1 x2 x3) (h2 : ∀ k' : α1 → α2 → α3 → Option ρ, (∀ (x1 : α1) (x2 : α2) (x3 : α3), k' x1 x2 x3 = some R → Wj x1 x2 x3) → b k' = some R → G) : G := h2 kk h1 he
def zl3 {α1 α2 α3 ρ : Type} (b : α1 → α2 → α3 → (α1 → α2 → α3 → Option ρ) → Option ρ) : Nat → α1 → α2 → α3 → Option ρ
  | 0, _, _, _ => none
  | f + 1, x1, x2, x3 => b x1 x2 x3 (zl3 b f)
theorem zl3_w {α1 α2 α3 ρ : Type} {b : α1 → α2 → α3 → (α1 → α2 → α3 → Option ρ) → Option ρ} {f : Nat} {y1 : α1} {y2 : α2} {y3 : α3} {R : ρ} (he : zl3 b f y1 y2 y3 = some R) (Wl : α1 → α2 → α3 → Prop) (h : ∀ (x1 : α1) (x2 : α2) (x3 : α3) (ag : α1 → α2 → α3 → Option ρ), (∀ (z1 : α1) (z2 : α2) (z3 : α3), ag z1 z2 z3 = some R → Wl z1 z2 z3) → b x1 x2 x3 ag = some R → Wl x1 x2 x3) : Wl y1 y2 y3 := by
  induction f generalizing y1 y2 y3 with
  | zero => cases he
  | succ f ih => exact h y1 y2 y3 _ (fun z1 z2 z3 h' => ih h') he
def zb4 {α1 α2 α3 α4 ρ : Type} (x : Option (α1 × α2 × α3 × α4)) (k : α1 → α2 → α3 → α4 → Option ρ) : Option ρ := x.bind fun u => k u.1 u.2.1 u.2.2.1 u.2.2.2
theorem zb4_e {α1 α2 α3 α4 ρ : Type} {x : Option (α1 × α2 × α3 × α4)} {k : α1 → α2 → α3 → α4 → Option ρ} {r : ρ} (h : zb4 x k = some r) : ∃ (x1 : α1) (x2 : α2) (x3 : α3) (x4 : α4), x = some (x1, x2, x3, x4) ∧ k x1 x2 x3 x4 = some r := by
  cases x with
  | none => cases h
  | some u => exact ⟨u.1, u.2.1, u.2.2.1, u.2.2.2, rfl, h⟩
theorem zb4_s {α1 α2 α3 α4 ρ : Type} {x : Option (α1 × α2 × α3 × α4)} {k : α1 → α2 → α3 → α4 → Option ρ} {x1 : α1} {x2 : α2} {x3 : α3} {x4 : α4} (h : x = some (x1, x2, x3, x4)) : zb4 x k = k x1 x2 x3 x4 := by subst h; rfl
def zj4 {α1 α2 α3 α4 ρ : Type} (k : α1 → α2 → α3 → α4 → Option ρ) (b : (α1 → α2 → α3 → α4 → Option ρ) → Option ρ) : Option ρ := b k
theorem zj4_w {α1 α2 α3 α4 ρ : Type} {kk : α1 → α2 → α3 → α4 → Option ρ} {b : (α1 → α2 → α3 → α4 → Option ρ) → Option ρ} {R : ρ} {G : Prop} (he : zj4 kk b = some R) (Wj : α1 → α2 → α3 → α4 → Prop) (h1 : ∀ (x1 : α1) (x2 : α2) (x3 : α3) (x4 : α4), kk x1 x2 x3 x4 = some R → Wj x1 x2 x3 x4) (h2 : ∀ k' : α1 → α2 → α3 → α4 → Option ρ, (∀ (x1 : α1) (x2 : α2) (x3 : α3) (x4 : α4), k' x1 x2 x3 x4 = some R → Wj x1 x2 x3 x4) → b k' = some R → G) : G := h2 kk h1 he
def zl4 {α1 α2 α3 α4 ρ : Type} (b : α1 → α2 → α3 → α4 → (α1 → α2 → α3 → α4 → Option ρ) → Option ρ) : Nat → α1 → α2 → α3 → α4 → Option ρ
  | 0, _, _, _, _ => none
  | f + 1, x1, x2, x3, x4 => b x1 x2 x3 x4 (zl4 b f)
theorem zl4_w {α1 α2 α3 α4 ρ : Type} {b : α1 → α2 → α3 → α4 → (α1 → α2 → α3 → α4 → Option ρ) → Option ρ} {f : Nat} {y1 : α1} {y2 : α2} {y3 : α3} {y4 : α4} {R : ρ} (he : zl4 b f y1 y2 y3 y4 = some R) (Wl : α1 → α2 → α3 → α4 → Prop) (h : ∀ (x1 : α1) (x2 : α2) (x3 : α3) (x4 : α4) (ag : α1 → α2 → α3 → α4 → Option ρ), (∀ (z1 : α1) (z2 : α2) (z3 : α3) (z4 : α4), ag z1 z2 z3 z4 = some R → Wl z1 z2 z3 z4) → b x1 x2 x3 x4 ag = some R → Wl x1 x2 x3 x4) : Wl y1 y2 y3 y4 := by
  induction f generalizing y1 y2 y3 y4 with
  | zero => cases he
  | succ f ih => exact h y1 y2 y3 y4 _ (fun z1 z2 z3 z4 h' => ih h') he
def zb5 {α1 α2 α3 α4 α5 ρ : Type} (x : Option (α1 × α2 × α3 × α4 × α5)) (k : α1 → α2 → α3 → α4 → α5 → Option ρ) : Option ρ := x.bind fun u => k u.1 u.2.1 u.2.2.1 u.2.2.2.1 u.2.2.2.2
theorem zb5_e {α1 α2 α3 α4 α5 ρ : Type} {x : Option (α1 × α2 × α3 × α4 × α5)} {k : α1 → α2 → α3 → α4 → α5 → Option ρ} {r : ρ} (h : zb5 x k = some r) : ∃ (x1 : α1) (x2 : α2) (x3 : α3) (x4 : α4) (x5 : α5), x = some (x1, x2, x3, x4, x5) ∧ k x1 x2 x3 x4 x5 = some r := by
  cases x with
  | none => cases h
  | some u => exact ⟨u.1, u.2.1, u.2.2.1, u.2.2.2.1, u.2.2.2.2, rfl, h⟩
theorem zb5_s {α1 α2 α3 α4 α5 ρ : Type} {x : Option (α1 × α2 × α3 × α4 × α5)} {k : α1 → α2 → α3 → α4 → α5 → Option ρ} {x1 : α1} {x2 : α2} {x3 : α3} {x4 : α4} {x5 : α5} (h : x = some (x1, x2, x3, x4, x5)) : zb5 x k = k x1 x2 x3 x4 x5 := by subst h; rfl
def zj5 {α1 α2 α3 α4 α5 ρ : Type} (k : α1 → α2 → α3 → α4 → α5 → Option ρ) (b : (α1 → α2 → α3 → α4 → α5 → Option ρ) → Option ρ) : Option ρ := b k
theorem zj5_w {α1 α2 α3 α4 α5 ρ : Type} {kk : α1 → α2 → α3 → α4 → α5 → Option ρ} {b : (α1 → α2 → α3 → α4 → α5 → Option ρ) → Option ρ} {R : ρ} {G : Prop} (he : zj5 kk b = some R) (Wj : α1 → α2 → α3 → α4 → α5 → Prop) (h1 : ∀ (x1 : α1) (x2 : α2) (x3 : α3) (x4 : α4) (x5 : α5), kk x1 x2 x3 x4 x5 = some R → Wj x1 x2 x3 x4 x5) (h2 : ∀ k' : α1 → α2 → α3 → α4 → α5 → Option ρ, (∀ (x1 : α1) (x2 : α2) (x3 : α3) (x4 : α4) (x5 : α5), k' x1 x2 x3 x4 x5 = some R → Wj x1 x2 x3 x4 x5) → b k' = some R → G) : G := h2 kk h1 he
def zl5 {α1 α2 α3 α4 α5 ρ : Type} (b : α1 → α2 → α3 → α4 → α5 → (α1 → α2 → α3 → α4 → α5 → Option ρ) → Option ρ) : Nat → α1 → α2 → α3 → α4 → α5 → Option ρ
  | 0, _, _, _, _, _ => none
  | f + 1, x1, x2, x3, x4, x5 => b x1 x2 x3 x4 x5 (zl5 b f)
theorem zl5_w {α1 α2 α3 α4 α5 ρ : Type} {b : α1 → α2 → α3 → α4 → α5 → (α1 → α2 → α3 → α4 → α5 → Option ρ) → Option ρ} {f : Nat} {y1 : α1} {y2 : α2} {y3 : α3} {y4 : α4} {y5 : α5} {R : ρ} (he : zl5 b f y1 y2 y3 y4 y5 = some R) (Wl : α1 → α2 → α3 → α4 → α5 → Prop) (h : ∀ (x1 : α1) (x2 : α2) (x3 : α3) (x4 : α4) (x5 : α5) (ag : α1 → α2 → α3 → α4 → α5 → Option ρ), (∀ (z1 : α1) (z2 : α2) (z3 : α3) (z4 : α4) (z5 : α5), ag z1 z2 z3 z4 z5 = some R → Wl z1 z2 z3 z4 z5) → b x1 x2 x3 x4 x5 ag = some R → Wl x1 x2 x3 x4 x5) : Wl y1 y2 y3 y4 y5 := by
  induction f generalizing y1 y2 y3 y4 y5 with
  | zero => cases he
  | succ f ih => exact h y1 y2 y3 y4 y5 _ (fun z1 z2 z3 z4 z5 h' => ih h') he
def zb6 {α1 α2 α3 α4 α5 α6 ρ : Type} (x : Option (α1 × α2 × α3 × α4 × α5 × α6)) (k : α1 → α2 → α3 → α4 → α5 → α6 → Option ρ) : Option ρ := x.bind fun u => k u.1 u.2.1 u.2.2.1 u.2.2.2.1 u.2.2.2.2.1 u.2.2.2.2.2
theorem zb6_e {α1 α2 α3 α4 α5 α6 ρ : Type} {x : Option (α1 × α2 × α3 × α4 × α5 × α6)} {k : α1 → α2 → α3 → α4 → α5 → α6 → Option ρ} {r : ρ} (h : zb6 x k = some r) : ∃ (x1 : α1) (x2 : α2) (x3 : α3) (x4 : α4) (x5 : α5) (x6 : α6), x = some (x1, x2, x3, x4, x5, x6) ∧ k x1 x2 x3 x4 x5 x6 = some r := by
  cases x with
  | none => cases h
  | some u => exact ⟨u.1, u.2.1, u.2.2.1, u.2.2.2.1, u.2.2.2.2.1, u.2.2.2.2.2, rfl, h⟩
theorem zb6_s {α1 α2 α3 α4 α5 α6 ρ : Type} {x : Option (α1 × α2 × α3 × α4 × α5 × α6)} {k : α1 → α2 → α3 → α4 → α5 → α6 → Option ρ} {x1 : α1} {x2 : α2} {x3 : α3} {x4 : α4} {x5 : α5} {x6 : α6} (h : x = some (x1, x2, x3, x4, x5, x6)) : zb6 x k = k x1 x2 x3 x4 x5 x6 := by subst h; rfl
def zj6 {α1 α2 α3 α4 α5 α6 ρ : Type} (k : α1 → α2 → α3 → α4 → α5 → α6 → Option ρ) (b : (α1 → α2 → α3 → α4 → α5 → α6 → Option ρ) → Option ρ) : Option ρ := b k
theorem zj6_w {α1 α2 α3 α4 α5 α6 ρ : Type} {kk : α1 → α2 → α3 → α4 → α5 → α6 → Option ρ} {b : (α1 → α2 → α3 → α4 → α5 → α6 → Option ρ) → Option ρ} {R : ρ} {G : Prop} (he : zj6 kk b = some R) (Wj : α1 → α2 → α3 → α4 → α5 → α6 → Prop) (h1 : ∀ (x1 : α1) (x2 : α2) (x3 : α3) (x4 : α4) (x5 : α5) (x6 : α6), kk x1 x2 x3 x4 x5 x6 = some R → Wj x1 x2 x3 x4 x5 x6) (h2 : ∀ k' : α1 → α2 → α3 → α4 → α5 → α6 → Option ρ, (∀ (x1 : α1) (x2 : α2) (x3 : α3) (x4 : α4) (x5 : α5) (x6 : α6), k' x1 x2 x3 x4 x5 x6 = some R → Wj x1 x2 x3 x4 x5 x6) → b k' = some R → G) : G := h2 kk h1 he
def zl6 {α1 α2 α3 α4 α5 α6 ρ : Type} (b : α1 → α2 → α3 → α4 → α5 → α6 → (α1 → α2 → α3 → α4 → α5 → α6 → Option ρ) → Option ρ) : Nat → α1 → α2 → α3 → α4 → α5 → α6 → Option ρ
  | 0, _, _, _, _, _, _ => none
  | f + 1, x1, x2, x3, x4, x5, x6 => b x1 x2 x3 x4 x5 x6 (zl6 b f)
theorem zl6_w {α1 α2 α3 α4 α5 α6 ρ : Type} {b : α1 → α2 → α3 → α4 → α5 → α6 → (α1 → α2 → α3 → α4 → α5 → α6 → Option ρ) → Option ρ} {f : Nat} {y1 : α1} {y2 : α2} {y3 : α3} {y4 : α4} {y5 : α5} {y6 : α6} {R : ρ} (he : zl6 b f y1 y2 y3 y4 y5 y6 = some R) (Wl : α1 → α2 → α3 → α4 → α5 → α6 → Prop) (h : ∀ (x1 : α1) (x2 : α2) (x3 : α3) (x4 : α4) (x5 : α5) (x6 : α6) (ag : α1 → α2 → α3 → α4 → α5 → α6 → Option ρ), (∀ (z1 : α1) (z2 : α2) (z3 : α3) (z4 : α4) (z5 : α5) (z6 : α6), ag z1 z2 z3 z4 z5 z6 = some R → Wl z1 z2 z3 z4 z5 z6) → b x1 x2 x3 x4 x5 x6 ag = some R → Wl x1 x2 x3 x4 x5 x6) : Wl y1 y2 y3 y4 y5 y6 := by
  induction f generalizing y1 y2 y3 y4 y5 y6 with
  | zero => cases he
  | succ f ih => exact h y1 y2 y3 y4 y5 y6 _ (fun z1 z2 z3 z4 z5 z6 h' => ih h') he
def zb7 {α1 α2 α3 α4 α5 α6 α7 ρ : Type} (x : Option (α1 × α2 × α3 × α4 × α5 × α6 × α7)) (k : α1 → α2 → α3 → α4 → α5 → α6 → α7 → Option ρ) : Option ρ := x.bind fun u => k u.1 u.2.1 u.2.2.1 u.2.2.2.1 u.2.2.2.2.1 u.2.2.2.2.2.1 u.2.2.2.2.2.2
theorem zb7_e {α1 α2 α3 α4 α5 α6 α7 ρ : Type} {x : Option (α1 × α2 × α3 × α4 × α5 × α6 × α7)} {k : α1 → α2 → α3 → α4 → α5 → α6 → α7 → Option ρ} {r : ρ} (h : zb7 x k = some r) : ∃ (x1 : α1) (x2 : α2) (x3 : α3) (x4 : α4) (x5 : α5) (x6 : α6) (x7 : α7), x = some (x1, x2, x3, x4, x5, x6, x7) ∧ k x1 x2 x3 x4 x5 x6 x7 = some r := by
  cases x with
  | none => cases h
  | some u => exact ⟨u.1, u.2.1, u.2.2.1, u.2.2.2.1, u.2.2.2.2.1, u.2.2.2.2.2.1, u.2.2.2.2.2.2, rfl, h⟩
theorem zb7_s {α1 α2 α3 α4 α5 α6 α7 ρ : Type} {x : Option (α1 × α2 × α3 × α4 × α5 × α6 × α7)} {k : α1 → α2 → α3 → α4 → α5 → α6 → α7 → Option ρ} {x1 : α1} {x2 : α2} {x3 : α3} {x4 : α4} {x5 : α5} {x6 : α6} {x7 : α7} (h : x = some (x1, x2, x3, x4, x5, x6, x7)) : zb7 x k = k x1 x2 x3 x4 x5 x6 x7 := by subst h; rfl
def zj7 {α1 α2 α3 α4 α5 α6 α7 ρ : Type} (k : α1 → α2 → α3 → α4 → α5 → α6 → α7 → Option ρ) (b : (α1 → α2 → α3 → α4 → α5 → α6 → α7 → Option ρ) → Option ρ) : Option ρ := b k
theorem zj7_w {α1 α2 α3 α4 α5 α6 α7 ρ : Type} {kk : α1 → α2 → α3 → α4 → α5 → α6 → α7 → Option ρ} {b : (α1 → α2 → α3 → α4 → α5 → α6 → α7 → Option ρ) → Option ρ} {R : ρ} {G : Prop} (he : zj7 kk b = some R) (Wj : α1 → α2 → α3 → α4 → α5 → α6 → α7 → Prop) (h1 : ∀ (x1 : α1) (x2 : α2) (x3 : α3) (x4 : α4) (x5 : α5) (x6 : α6) (x7 : α7), kk x1 x2 x3 x4 x5 x6 x7 = some R → Wj x1 x2 x3 x4 x5 x6 x7) (h2 : ∀ k' : α1 → α2 → α3 → α4 → α5 → α6 → α7 → Option ρ, (∀ (x1 : α1) (x2 : α2) (x3 : α3) (x4 : α4) (x5 : α5) (x6 : α6) (x7 : α7), k' x1 x2 x3 x4 x5 x6 x7 = some R → Wj x1 x2 x3 x4 x5 x6 x7) → b k' = some R → G) : G := h2 kk h1 he
def zl7 {α1 α2 α3 α4 α5 α6 α7 ρ : Type} (b : α1 → α2 → α3 → α4 → α5 → α6 → α7 → (α1 → α2 → α3 → α4 → α5 → α6 → α7 → Option ρ) → Option ρ) : Nat → α1 → α2 → α3 → α4 → α5 → α6 → α7 → Option ρ
  | 0, _, _, _, _, _, _, _ => none
  | f + 1, x1, x2, x3, x4, x5, x6, x7 => b x1 x2 x3 x4 x5 x6 x7 (zl7 b f)
theorem zl7_w {α1 α2 α3 α4 α5 α6 α7 ρ : Type} {b : α1 → α2 → α3 → α4 → α5 → α6 → α7 → (α1 → α2 → α3 → α4 → α5 → α6 → α7 → Option ρ) → Option ρ} {f : Nat} {y1 : α1} {y2 : α2} {y3 : α3} {y4 : α4} {y5 : α5} {y6 : α6} {y7 : α7} {R : ρ} (he : zl7 b f y1 y2 y3 y4 y5 y6 y7 = some R) (Wl : α1 → α2 → α3 → α4 → α5 → α6 → α7 → Prop) (h : ∀ (x1 : α1) (x2 : α2) (x3 : α3) (x4 : α4) (x5 : α5) (x6 : α6) (x7 : α7) (ag : α1 → α2 → α3 → α4 → α5 → α6 → α7 → Option ρ), (∀ (z1 : α1) (z2 : α2) (z3 : α3) (z4 : α4) (z5 : α5) (z6 : α6) (z7 : α7), ag z1 z2 z3 z4 z5 z6 z7 = some R → Wl z1 z2 z3 z4 z5 z6 z7) → b x1 x2 x3 x4 x5 x6 x7 ag = some R → Wl x1 x2 x3 x4 x5 x6 x7) : Wl y1 y2 y3 y4 y5 y6 y7 := by
  induction f generalizing y1 y2 y3 y4 y5 y6 y7 with
  | zero => cases he
  | succ f ih => exact h y1 y2 y3 y4 y5 y6 y7 _ (fun z1 z2 z3 z4 z5 z6 z7 h' => ih h') he
def zb8 {α1 α2 α3 α4 α5 α6 α7 α8 ρ : Type} (x : Option (α1 × α2 × α3 × α4 × α5 × α6 × α7 × α8)) (k : α1 → α2 → α3 → α4 → α5 → α6 → α7 → α8 → Option ρ) : Option ρ := x.bind fun u => k u.1 u.2.1 u.2.2.1 u.2.2.2.1 u.2.2.2.2.1 u.2.2.2.2.2.1 u.2.2.2.2.2.2.1 u.2.2.2.2.2.2.2
theorem zb8_e {α1 α2 α3 α4 α5 α6 α7 α8 ρ : Type} {x : Option (α1 × α2 × α3 × α4 × α5 × α6 × α7 × α8)} {k : α1 → α2 → α3 → α4 → α5 → α6 → α7 → α8 → Option ρ} {r : ρ} (h : zb8 x k = some r) : ∃ (x1 : α1) (x2 : α2) (x3 : α3) (x4 : α4) (x5 : α5) (x6 : α6) (x7 : α7) (x8 : α8), x = some (x1, x2, x3, x4, x5, x6, x7, x8) ∧ k x1 x2 x3 x4 x5 x6 x7 x8 = some r := by
  cases x with
  | none => cases h
  | some u => exact ⟨u.1, u.2.1, u.2.2.1, u.2.2.2.1, u.2.2.2.2.1, u.2.2.2.2.2.1, u.2.2.2.2.2.2.1, u.2.2.2.2.2.2.2, rfl, h⟩
theorem zb8_s {α1 α2 α3 α4 α5 α6 α7 α8 ρ : Type} {x : Option (α1 × α2 × α3 × α4 × α5 × α6 × α7 × α8)} {k : α1 → α2 → α3 → α4 → α5 → α6 → α7 → α8 → Option ρ} {x1 : α1} {x2 : α2} {x3 : α3} {x4 : α4} {x5 : α5} {x6 : α6} {x7 : α7} {x8 : α8} (h : x = some (x1, x2, x3, x4, x5, x6, x7, x8)) : zb8 x k = k x1 x2 x3 x4 x5 x6 x7 x8 := by subst h; rfl
def zj8 {α1 α2 α3 α4 α5 α6 α7 α8 ρ : Type} (k : α1 → α2 → α3 → α4 → α5 → α6 → α7 → α8 → Option ρ) (b : (α1 → α2 → α3 → α4 → α5 → α6 → α7 → α8 → Option ρ) → Option ρ) : Option ρ := b k
theorem zj8_w {α1 α2 α3 α4 α5 α6 α7 α8 ρ : Type} {kk : α1 → α2 → α3 → α4 → α5 → α6 → α7 → α8 → Option ρ} {b : (α1 → α2 → α3 → α4 → α5 → α6 → α7 → α8 → Option ρ) → Option ρ} {R : ρ} {G : Prop} (he : zj8 kk b = some R) (Wj : α1 → α2 → α3 → α4 → α5 → α6 → α7 → α8 → Prop) (h1 : ∀ (x1 : α1) (x2 : α2) (x3 : α3) (x4 : α4) (x5 : α5) (x6 : α6) (x7 : α7) (x8 : α8), kk x1 x2 x3 x4 x5 x6 x7 x8 = some R → Wj x1 x2 x3 x4 x5 x6 x7 x8) (h2 : ∀ k' : α1 → α2 → α3 → α4 → α5 → α6 → α7 → α8 → Option ρ, (∀ (x1 : α1) (x2 : α2) (x3 : α3) (x4 : α4) (x5 : α5) (x6 : α6) (x7 : α7) (x8 : α8), k' x1 x2 x3 x4 x5 x6 x7 x8 = some R → Wj x1 x2 x3 x4 x5 x6 x7 x8) → b k' = some R → G) : G := h2 kk h1 he
def zl8 {α1 α2 α3 α4 α5 α6 α7 α8 ρ : Type} (b : α1 → α2 → α3 → α4 → α5 → α6 → α7 → α8 → (α1 → α2 → α3 → α4 → α5 → α6 → α7 → α8 → Option ρ) → Option ρ) : Nat → α1 → α2 → α3 → α4 → α5 → α6 → α7 → α8 → Option ρ
  | 0, _, _, _, _, _, _, _, _ => none
  | f + 1, x1, x2, x3, x4, x5, x6, x7, x8 => b x1 x2 x3 x4 x5 x6 x7 x8 (zl8 b f)
theorem zl8_w {α1 α2 α3 α4 α5 α6 α7 α8 ρ : Type} {b : α1 → α2 → α3 → α4 → α5 → α6 → α7 → α8 → (α1 → α2 → α3 → α4 → α5 → α6 → α7 → α8 → Option ρ) → Option ρ} {f : Nat} {y1 : α1} {y2 : α2} {y3 : α3} {y4 : α4} {y5 : α5} {y6 : α6} {y7 : α7} {y8 : α8} {R : ρ} (he : zl8 b f y1 y2 y3 y4 y5 y6 y7 y8 = some R) (Wl : α1 → α2 → α3 → α4 → α5 → α6 → α7 → α8 → Prop) (h : ∀ (x1 : α1) (x2 : α2) (x3 : α3) (x4 : α4) (x5 : α5) (x6 : α6) (x7 : α7) (x8 : α8) (ag : α1 → α2 → α3 → α4 → α5 → α6 → α7 → α8 → Option ρ), (∀ (z1 : α1) (z2 : α2) (z3 : α3) (z4 : α4) (z5 : α5) (z6 : α6) (z7 : α7) (z8 : α8), ag z1 z2 z3 z4 z5 z6 z7 z8 = some R → Wl z1 z2 z3 z4 z5 z6 z7 z8) → b x1 x2 x3 x4 x5 x6 x7 x8 ag = some R → Wl x1 x2 x3 x4 x5 x6 x7 x8) : Wl y1 y2 y3 y4 y5 y6 y7 y8 := by
  induction f generalizing y1 y2 y3 y4 y5 y6 y7 y8 with
  | zero => cases he
  | succ f ih => exact h y1 y2 y3 y4 y5 y6 y7 y8 _ (fun z1 z2 z3 z4 z5 z6 z7 z8 h' => ih h') he
def zb9 {α1 α2 α3 α4 α5 α6 α7 α8 α9 ρ : Type} (x : Option (α1 × α2 × α3 × α4 × α5 × α6 × α7 × α8 × α9)) (k : α1 → α2 → α3 → α4 → α5 → α6 → α7 → α8 → α9 → Option ρ) : Option ρ := x.bind fun u => k u.1 u.2.1 u.2.2.1 u.2.2.2.1 u.2.2.2.2.1 u.2.2.2.2.2.1 u.2.2.2.2.2.2.1 u.2.2.2.2.2.2.2.1 u.2.2.2.2.2.2.2.2
theorem zb9_e {α1 α2 α3 α4 α5 α6 α7 α8 α9 ρ : Type} {x : Option (α1 × α2 × α3 × α4 × α5 × α6 × α7 × α8 × α9)} {k : α1 → α2 → α3 → α4 → α5 → α6 → α7 → α8 → α9 → Option ρ} {r : ρ} (h : zb9 x k = some r) : ∃ (x1 : α1) (x2 : α2) (x3 : α3) (x4 : α4) (x5 : α5) (x6 : α6) (x7 : α7) (x8 : α8) (x9 : α9), x = some (x1, x2, x3, x4, x5, x6, x7, x8, x9) ∧ k x1 x2 x3 x4 x5 x6 x7 x8 x9 = some r := by
  cases x with
  | none => cases h
  | some u => exact ⟨u.1, u.2.1, u.2.2.1, u.2.2.2.1, u.2.2.2.2.1, u.2.2.2.2.2.1, u.2.2.2.2.2.2.1, u.2.2.2.2.2.2.2.1, u.2.2.2.2.2.2.2.2, rfl, h⟩
theorem zb9_s {α1 α2 α3 α4 α5 α6 α7 α8 α9 ρ : Type} {x : Option (α1 × α2 × α3 × α4 × α5 × α6 × α7 × α8 × α9)} {k : α1 → α2 → α3 → α4 → α5 → α6 → α7 → α8 → α9 → Option ρ} {x1 : α1} {x2 : α2} {x3 : α3} {x4 : α4} {x5 : α5} {x6 : α6} {x7 : α7} {x8 : α8} {x9 : α9} (h : x = some (x1, x2, x3, x4, x5, x6, x7, x8, x9)) : zb9 x k = k x1 x2 x3 x4 x5 x6 x7 x8 x9 := by subst h; rfl
def zj9 {α1 α2 α3 α4 α5 α6 α7 α8 α9 ρ : Type} (k : α1 → α2 → α3 → α4 → α5 → α6 → α7 → α8 → α9 → Option ρ) (b : (α1 → α2 → α3 → α4 → α5 → α6 → α7 → α8 → α9 → Option ρ) → Option ρ) : Option ρ := b k
theorem zj9_w {α1 α2 α3 α4 α5 α6 α7 α8 α9 ρ : Type} {kk : α1 → α2 → α3 → α4 → α5 → α6 → α7 → α8 → α9 → Option ρ} {b : (α1 → α2 → α3 → α4 → α5 → α6 → α7 → α8 → α9 → Option ρ) → Option ρ} {R : ρ} {G : Prop} (he : zj9 kk b = some R) (Wj : α1 → α2 → α3 → α4 → α5 → α6 → α7 → α8 → α9 → Prop) (h1 : ∀ (x1 : α1) (x2 : α2) (x3 : α3) (x4 : α4) (x5 : α5) (x6 : α6) (x7 : α7) (x8 : α8) (x9 : α9), kk x1 x2 x3 x4 x5 x6 x7 x8 x9 = some R → Wj x1 x2 x3 x4 x5 x6 x7 x8 x9) (h2 : ∀ k' : α1 → α2 → α3 → α4 → α5 → α6 → α7 → α8 → α9 → Option ρ, (∀ (x1 : α1) (x2 : α2) (x3 : α3) (x4 : α4) (x5 : α5) (x6 : α6) (x7 : α7) (x8 : α8) (x9 : α9), k' x1 x2 x3 x4 x5 x6 x7 x8 x9 = some R → Wj x1 x2 x3 x4 x5 x6 x7 x8 x9) → b k' = some R → G) : G := h2 kk h1 he
def zl9 {α1 α2 α3 α4 α5 α6 α7 α8 α9 ρ : Type} (b : α1 → α2 → α3 → α4 → α5 → α6 → α7 → α8 → α9 → (α1 → α2 → α3 → α4 → α5 → α6 → α7 → α8 → α9 → Option ρ) → Option ρ) : Nat → α1 → α2 → α3 → α4 → α5 → α6 → α7 → α8 → α9 → Option ρ
  | 0, _, _, _, _, _, _, _, _, _ => none
  | f + 1, x1, x2, x3, x4, x5, x6, x7, x8, x9 => b x1 x2 x3 x4 x5 x6 x7 x8 x9 (zl9 b f)
theorem zl9_w {α1 α2 α3 α4 α5 α6 α7 α8 α9 ρ : Type} {b : α1 → α2 → α3 → α4 → α5 → α6 → α7 → α8 → α9 → (α1 → α2 → α3 → α4 → α5 → α6 → α7 → α8 → α9 → Option ρ) → Option ρ} {f : Nat} {y1 : α1} {y2 : α2} {y3 : α3} {y4 : α4} {y5 : α5} {y6 : α6} {y7 : α7} {y8 : α8} {y9 : α9} {R : ρ} (he : zl9 b f y1 y2 y3 y4 y5 y6 y7 y8 y9 = some R) (Wl : α1 → α2 → α3 → α4 → α5 → α6 → α7 → α8 → α9 → Prop) (h : ∀ (x1 : α1) (x2 : α2) (x3 : α3) (x4 : α4) (x5 : α5) (x6 : α6) (x7 : α7) (x8 : α8) (x9 : α9) (ag : α1 → α2 → α3 → α4 → α5 → α6 → α7 → α8 → α9 → Option ρ), (∀ (z1 : α1) (z2 : α2) (z3 : α3) (z4 : α4) (z5 : α5) (z6 : α6) (z7 : α7) (z8 : α8) (z9 : α9), ag z1 z2 z3 z4 z5 z6 z7 z8 z9 = some R → Wl z1 z2 z3 z4 z5 z6 z7 z8 z9) → b x1 x2 x3 x4 x5 x6 x7 x8 x9 ag = some R → Wl x1 x2 x3 x4 x5 x6 x7 x8 x9) : Wl y1 y2 y3 y4 y5 y6 y7 y8 y9 := by
  induction f generalizing y1 y2 y3 y4 y5 y6 y7 y8 y9 with
  | zero => cases he
  | succ f ih => exact h y1 y2 y3 y4 y5 y6 y7 y8 y9 _ (fun z1 z2 z3 z4 z5 z6 z7 z8 z9 h' => ih h') he
def zb10 {α1 α2 α3 α4 α5 α6 α7 α8 α9 α10 ρ : Type} (x : Option (α1 × α2 × α3 × α4 × α5 × α6 × α7 × α8 × α9 × α10)) (k : α1 → α2 → α3 → α4 → α5 → α6 → α7 → α8 → α9 → α10 → Option ρ) : Option ρ := x.bind fun u => k u.1 u.2.1 u.2.2.1 u.2.2.2.1 u.2.2.2.2.1 u.2.2.2.2.2.1 u.2.2.2.2.2.2.1 u.2.2.2.2.2.2.2.1 u.2.2.2.2.2.2.2.2.1 u.2.2.2.2.2.2.2.2.2
theorem zb10_e {α1 α2 α3 α4 α5 α6 α7 α8 α9 α10 ρ : Type} {x : Option (α1 × α2 × α3 × α4 × α5 × α6 × α7 × α8 × α9 × α10)} {k : α1 → α2 → α3 → α4 → α5 → α6 → α7 → α8 → α9 → α10 → Option ρ} {r : ρ} (h : zb10 x k = some r) : ∃ (x1 : α1) (x2 : α2) (x3 : α3) (x4 : α4) (x5 : α5) (x6 : α6) (x7 : α7) (x8 : α8) (x9 : α9) (x10 : α10), x = some (x1, x2, x3, x4, x5, x6, x7, x8, x9, x10) ∧ k x1 x2 x3 x4 x5 x6 x7 x8 x9 x10 = some r := by
  cases x with
  | none => cases h
  | some u => exact ⟨u.1, u.2.1, u.2.2.1, u.2.2.2.1, u.2.2.2.2.1, u.2.2.2.2.2.1, u.2.2.2.2.2.2.1, u.2.2.2.2.2.2.2.1, u.2.2.2.2.2.2.2.2.1, u.2.2.2.2.2.2.2.2.2, rfl, h⟩
theorem zb10_s {α1 α2 α3 α4 α5 α6 α7 α8 α9 α10 ρ : Type} {x : Option (α1 × α2 × α3 × α4 × α5 × α6 × α7 × α8 × α9 × α10)} {k : α1 → α2 → α3 → α4 → α5 → α6 → α7 → α8 → α9 → α10 → Option ρ} {x1 : α1} {x2 : α2} {x3 : α3} {x4 : α4} {x5 : α5} {x6 : α6} {x7 : α7} {x8 : α8} {x9 : α9} {x10 : α10} (h : x = some (x1, x2, x3, x4, x5, x6, x7, x8, x9, x10)) : zb10 x k = k x1 x2 x3 x4 x5 x6 x7 x8 x9 x10 := by subst h; rfl
def zj10 {α1 α2 α3 α4 α5 α6 α7 α8 α9 α10 ρ : Type} (k : α1 → α2 → α3 → α4 → α5 → α6 → α7 → α8 → α9 → α10 → Option ρ) (b : (α1 → α2 → α3 → α4 → α5 → α6 → α7 → α8 → α9 → α10 → Option ρ) → Option ρ) : Option ρ := b k
theorem zj10_w {α1 α2 α3 α4 α5 α6 α7 α8 α9 α10 ρ : Type} {kk : α1 → α2 → α3 → α4 → α5 → α6 → α7 → α8 → α9 → α10 → Option ρ} {b : (α1 → α2 → α3 → α4 → α5 → α6 → α7 → α8 → α9 → α10 → Option ρ) → Option ρ} {R : ρ} {G : Prop} (he : zj10 kk b = some R) (Wj : α1 → α2 → α3 → α4 → α5 → α6 → α7 → α8 → α9 → α10 → Prop) (h1 : ∀ (x1 : α1) (x2 : α2) (x3 : α3) (x4 : α4) (x5 : α5) (x6 : α6) (x7 : α7) (x8 : α8) (x9 : α9) (x10 : α10), kk x1 x2 x3 x4 x5 x6 x7 x8 x9 x10 = some R → Wj x1 x2 x3 x4 x5 x6 x7 x8 x9 x10) (h2 : ∀ k' : α1 → α2 → α3 → α4 → α5 → α6 → α7 → α8 → α9 → α10 → Option ρ, (∀ (x1 : α1) (x2 : α2) (x3 : α3) (x4 : α4) (x5 : α5) (x6 : α6) (x7 : α7) (x8 : α8) (x9 : α9) (x10 : α10), k' x1 x2 x3 x4 x5 x6 x7 x8 x9 x10 = some R → Wj x1 x2 x3 x4 x5 x6 x7 x8 x9 x10) → b k' = some R → G) : G := h2 kk h1 he
def zl10 {α1 α2 α3 α4 α5 α6 α7 α8 α9 α10 ρ : Type} (b : α1 → α2 → α3 → α4 → α5 → α6 → α7 → α8 → α9 → α10 → (α1 → α2 → α3 → α4 → α5 → α6 → α7 → α8 → α9 → α10 → Option ρ) → Option ρ) : Nat → α1 → α2 → α3 → α4 → α5 → α6 → α7 → α8 → α9 → α10 → Option ρ
  | 0, _, _, _, _, _, _, _, _, _, _ => none
  | f + 1, x1, x2, x3, x4, x5, x6, x7, x8, x9, x10 => b x1 x2 x3 x4 x5 x6 x7 x8 x9 x10 (zl10 b f)
theorem zl10_w {α1 α2 α3 α4 α5 α6 α7 α8 α9 α10 ρ : Type} {b : α1 → α2 → α3 → α4 → α5 → α6 → α7 → α8 → α9 → α10 → (α1 → α2 → α3 → α4 → α5 → α6 → α7 → α8 → α9 → α10 → Option ρ) → Option ρ} {f : Nat} {y1 : α1} {y2 : α2} {y3 : α3} {y4 : α4} {y5 : α5} {y6 : α6} {y7 : α7} {y8 : α8} {y9 : α9} {y10 : α10} {R : ρ} (he : zl10 b f y1 y2 y3 y4 y5 y6 y7 y8 y9 y10 = some R) (Wl : α1 → α2 → α3 → α4 → α5 → α6 → α7 → α8 → α9 → α10 → Prop) (h : ∀ (x1 : α1) (x2 : α2) (x3 : α3) (x4 : α4) (x5 : α5) (x6 : α6) (x7 : α7) (x8 : α8) (x9 : α9) (x10 : α10) (ag : α1 → α2 → α3 → α4 → α5 → α6 → α7 → α8 → α9 → α10 → Option ρ), (∀ (z1 : α1) (z2 : α2) (z3 : α3) (z4 : α4) (z5 : α5) (z6 : α6) (z7 : α7) (z8 : α8) (z9 : α9) (z10 : α10), ag z1 z2 z3 z4 z5 z6 z7 z8 z9 z10 = some R → Wl z1 z2 z3 z4 z5 z6 z7 z8 z9 z10) → b x1 x2 x3 x4 x5 x6 x7 x8 x9 x10 ag = some R → Wl x1 x2 x3 x4 x5 x6 x7 x8 x9 x10) : Wl y1 y2 y3 y4 y5 y6 y7 y8 y9 y10 := by
  induction f generalizing y1 y2 y3 y4 y5 y6 y7 y8 y9 y10 with
  | zero => cases he
  | succ f ih => exact h y1 y2 y3 y4 y5 y6 y7 y8 y9 y10 _ (fun z1 z2 z3 z4 z5 z6 z7 z8 z9 z10 h' => ih h') he
def zb11 {α1 α2 α3 α4 α5 α6 α7 α8 α9 α10 α11 ρ : Type} (x : Option (α1 × α2 × α3 × α4 × α5 × α6 × α7 × α8 × α9 × α10 × α11)) (k : α1 → α2 → α3 → α4 → α5 → α6 → α7 → α8 → α9 → α10 → α11 → Option ρ) : Option ρ := x.bind fun u => k u.1 u.2.1 u.2.2.1 u.2.2.2.1 u.2.2.2.2.1 u.2.2.2.2.2.1 u.2.2.2.2.2.2.1 u.2.2.2.2.2.2.2.1 u.2.2.2.2.2.2.2.2.1 u.2.2.2.2.2.2.2.2.2.1 u.2.2.2.2.2.2.2.2.2.2
theorem zb11_e {α1 α2 α3 α4 α5 α6 α7 α8 α9 α10 α11 ρ : Type} {x : Option (α1 × α2 × α3 × α4 × α5 × α6 × α7 × α8 × α9 × α10 × α11)} {k : α1 → α2 → α3 → α4 → α5 → α6 → α7 → α8 → α9 → α10 → α11 → Option ρ} {r : ρ} (h : zb11 x k = some r) : ∃ (x1 : α1) (x2 : α2) (x3 : α3) (x4 : α4) (x5 : α5) (x6 : α6) (x7 : α7) (x8 : α8) (x9 : α9) (x10 : α10) (x11 : α11), x = some (x1, x2, x3, x4, x5, x6, x7, x8, x9, x10, x11) ∧ k x1 x2 x3 x4 x5 x6 x7 x8 x9 x10 x11 = some r := by
  cases x with
  | none => cases h
  | some u => exact ⟨u.1, u.2.1, u.2.2.1, u.2.2.2.1, u.2.2.2.2.1, u.2.2.2.2.2.1, u.2.2.2.2.2.2.1, u.2.2.2.2.2.2.2.1, u.2.2.2.2.2.2.2.2.1, u.2.2.2.2.2.2.2.2.2.1, u.2.2.2.2.2.2.2.2.2.2, rfl, h⟩
theorem zb11_s {α1 α2 α3 α4 α5 α6 α7 α8 α9 α10 α11 ρ : Type} {x : Option (α1 × α2 × α3 × α4 × α5 × α6 × α7 × α8 × α9 × α10 × α11)} {k : α1 → α2 → α3 → α4 → α5 → α6 → α7 → α8 → α9 → α10 → α11 → Option ρ} {x1 : α1} {x2 : α2} {x3 : α3} {x4 : α4} {x5 : α5} {x6 : α6} {x7 : α7} {x8 : α8} {x9 : α9} {x10 : α10} {x11 : α11} (h : x = some (x1, x2, x3, x4, x5, x6, x7, x8, x9, x10, x11)) : zb11 x k = k x1 x2 x3 x4 x5 x6 x7 x8 x9 x10 x11 := by subst h; rfl
def zj11 {α1 α2 α3 α4 α5 α6 α7 α8 α9 α10 α11 ρ : Type} (k : α1 → α2 → α3 → α4 → α5 → α6 → α7 → α8 → α9 → α10 → α11 → Option ρ) (b : (α1 → α2 → α3 → α4 → α5 → α6 → α7 → α8 → α9 → α10 → α11 → Option ρ) → Option ρ) : Option ρ := b k
theorem zj11_w {α1 α2 α3 α4 α5 α6 α7 α8 α9 α10 α11 ρ : Type} {kk : α1 → α2 → α3 → α4 → α5 → α6 → α7 → α8 → α9 → α10 → α11 → Option ρ} {b : (α1 → α2 → α3 → α4 → α5 → α6 → α7 → α8 → α9 → α10 → α11 → Option ρ) → Option ρ} {R : ρ} {G : Prop} (he : zj11 kk b = some R) (Wj : α1 → α2 → α3 → α4 → α5 → α6 → α7 → α8 → α9 → α10 → α11 → Prop) (h1 : ∀ (x1 : α1) (x2 : α2) (x3 : α3) (x4 : α4) (x5 : α5) (x6 : α6) (x7 : α7) (x8 : α8) (x9 : α9) (x10 : α10) (x11 : α11), kk x1 x2 x3 x4 x5 x6 x7 x8 x9 x10 x11 = some R → Wj x1 x2 x3 x4 x5 x6 x7 x8 x9 x10 x11) (h2 : ∀ k' : α1 → α2 → α3 → α4 → α5 → α6 → α7 → α8 → α9 → α10 → α11 → Option ρ, (∀ (x1 : α1) (x2 : α2) (x3 : α3) (x4 : α4) (x5 : α5) (x6 : α6) (x7 : α7) (x8 : α8) (x9 : α9) (x10 : α10) (x11 : α11), k' x1 x2 x3 x4 x5 x6 x7 x8 x9 x10 x11 = some R → Wj x1 x2 x3 x4 x5 x6 x7 x8 x9 x10 x11) → b k' = some R → G) : G := h2 kk h1 he
def zl11 {α1 α2 α3 α4 α5 α6 α7 α8 α9 α10 α11 ρ : Type} (b : α1 → α2 → α3 → α4 → α5 → α6 → α7 → α8 → α9 → α10 → α11 → (α1 → α2 → α3 → α4 → α5 → α6 → α7 → α8 → α9 → α10 → α11 → Option ρ) → Option ρ) : Nat → α1 → α2 → α3 → α4 → α5 → α6 → α7 → α8 → α9 → α10 → α11 → Option ρ
  | 0, _, _, _, _, _, _, _, _, _, _, _ => none
  | f + 1, x1, x2, x3, x4, x5, x6, x7, x8, x9, x10, x11 => b x1 x2 x3 x4 x5 x6 x7 x8 x9 x10 x11 (zl11 b f)
theorem zl11_w {α1 α2 α3 α4 α5 α6 α7 α8 α9 α10 α11 ρ : Type} {b : α1 → α2 → α3 → α4 → α5 → α6 → α7 → α8 → α9 → α10 → α11 → (α1 → α2 → α3 → α4 → α5 → α6 → α7 → α8 → α9 → α10 → α11 → Option ρ) → Option ρ} {f : Nat} {y1 : α1} {y2 : α2} {y3 : α3} {y4 : α4} {y5 : α5} {y6 : α6} {y7 : α7} {y8 : α8} {y9 : α9} {y10 : α10} {y11 : α11} {R : ρ} (he : zl11 b f y1 y2 y3 y4 y5 y6 y7 y8 y9 y10 y11 = some R) (Wl : α1 → α2 → α3 → α4 → α5 → α6 → α7 → α8 → α9 → α10 → α11 → Prop) (h : ∀ (x1 : α1) (x2 : α2) (x3 : α3) (x4 : α4) (x5 : α5) (x6 : α6) (x7 : α7) (x8 : α8) (x9 : α9) (x10 : α10) (x11 : α11) (ag : α1 → α2 → α3 → α4 → α5 → α6 → α7 → α8 → α9 → α10 → α11 → Option ρ), (∀ (z1 : α1) (z2 : α2) (z3 : α3) (z4 : α4) (z5 : α5) (z6 : α6) (z7 : α7) (z8 : α8) (z9 : α9) (z10 : α10) (z11 : α11), ag z1 z2 z3 z4 z5 z6 z7 z8 z9 z10 z11 = some R → Wl z1 z2 z3 z4 z5 z6 z7 z8 z9 z10 z11) → b x1 x2 x3 x4 x5 x6 x7 x8 x9 x10 x11 ag = some R → Wl x1 x2 x3 x4 x5 x6 x7 x8 x9 x10 x11) : Wl y1 y2 y3 y4 y5 y6 y7 y8 y9 y10 y11 := by
  induction f generalizing y1 y2 y3 y4 y5 y6 y7 y8 y9 y10 y11 with
  | zero => cases he
  | succ f ih => exact h y1 y2 y3 y4 y5 y6 y7 y8 y9 y10 y11 _ (fun z1 z2 z3 z4 z5 z6 z7 z8 z9 z10 z11 h' => ih h') he
def zb12 {α1 α2 α3 α4 α5 α6 α7 α8 α9 α10 α11 α12 ρ : Type} (x : Option (α1 × α2 × α3 × α4 × α5 × α6 × α7 × α8 × α9 × α10 × α11 × α12)) (k : α1 → α2 → α3 → α4 → α5 → α6 → α7 → α8 → α9 → α10 → α11 → α12 → Option ρ) : Option ρ := x.bind fun u => k u.1 u.2.1 u.2.2.1 u.2.2.2.1 u.2.2.2.2.1 u.2.2.2.2.2.1 u.2.2.2.2.2.2.1 u.2.2.2.2.2.2.2.1 u.2.2.2.2.2.2.2.2.1 u.2.2.2.2.2.2.2.2.2.1 u.2.2.2.2.2.2.2.2.2.2.1 u.2.2.2.2.2.2.2.2.2.2.2
theorem zb12_e {α1 α2 α3 α4 α5 α6 α7 α8 α9 α10 α11 α12 ρ : Type} {x : Option (α1 × α2 × α3 × α4 × α5 × α6 × α7 × α8 × α9 × α10 × α11 × α12)} {k : α1 → α2 → α3 → α4 → α5 → α6 → α7 → α8 → α9 → α10 → α11 → α12 → Option ρ} {r : ρ} (h : zb12 x k = some r) : ∃ (x1 : α1) (x2 : α2) (x3 : α3) (x4 : α4) (x5 : α5) (x6 : α6) (x7 : α7) (x8 : α8) (x9 : α9) (x10 : α10) (x11 : α11) (x12 : α12), x = some (x1, x2, x3, x4, x5, x6, x7, x8, x9, x10, x11, x12) ∧ k x1 x2 x3 x4 x5 x6 x7 x8 x9 x10 x11 x12 = some r := by
  cases x with
  | none => cases h
  | some u => exact ⟨u.1, u.2.1, u.2.2.1, u.2.2.2.1, u.2.2.2.2.1, u.2.2.2.2.2.1, u.2.2.2.2.2.2.1, u.2.2.2.2.2.2.2.1, u.2.2.2.2.2.2.2.2.1, u.2.2.2.2.2.2.2.2.2.1, u.2.2.2.2.2.2.2.2.2.2.1, u.2.2.2.2.2.2.2.2.2.2.2, rfl, h⟩
theorem zb12_s {α1 α2 α3 α4 α5 α6 α7 α8 α9 α10 α11 α12 ρ : Type} {x : Option (α1 × α2 × α3 × α4 × α5 × α6 × α7 × α8 × α9 × α10 × α11 × α12)} {k : α1 → α2 → α3 → α4 → α5 → α6 → α7 → α8 → α9 → α10 → α11 → α12 → Option ρ} {x1 : α1} {x2 : α2} {x3 : α3} {x4 : α4} {x5 : α5} {x6 : α6} {x7 : α7} {x8 : α8} {x9 : α9} {x10 : α10} {x11 : α11} {x12 : α12} (h : x = some (x1, x2, x3, x4, x5, x6, x7, x8, x9, x10, x11, x12)) : zb12 x k = k x1 x2 x3 x4 x5 x6 x7 x8 x9 x10 x11 x12 := by subst h; rfl
def zj12 {α1 α2 α3 α4 α5 α6 α7 α8 α9 α10 α11 α12 ρ : Type} (k : α1 → α2 → α3 → α4 → α5 → α6 → α7 → α8 → α9 → α10 → α11 → α12 → Option ρ) (b : (α1 → α2 → α3 → α4 → α5 → α6 → α7 → α8 → α9 → α10 → α11 → α12 → Option ρ) → Option ρ) : Option ρ := b k
theorem zj12_w {α1 α2 α3 α4 α5 α6 α7 α8 α9 α10 α11 α12 ρ : Type} {kk : α1 → α2 → α3 → α4 → α5 → α6 → α7 → α8 → α9 → α10 → α11 → α12 → Option ρ} {b : (α1 → α2 → α3 → α4 → α5 → α6 → α7 → α8 → α9 → α10 → α11 → α12 → Option ρ) → Option ρ} {R : ρ} {G : Prop} (he : zj12 kk b = some R) (Wj : α1 → α2 → α3 → α4 → α5 → α6 → α7 → α8 → α9 → α10 → α11 → α12 → Prop) (h1 : ∀ (x1 : α1) (x2 : α2) (x3 : α3) (x4 : α4) (x5 : α5) (x6 : α6) (x7 : α7) (x8 : α8) (x9 : α9) (x10 : α10) (x11 : α11) (x12 : α12), kk x1 x2 x3 x4 x5 x6 x7 x8 x9 x10 x11 x12 = some R → Wj x1 x2 x3 x4 x5 x6 x7 x8 x9 x10 x11 x12) (h2 : ∀ k' : α1 → α2 → α3 → α4 → α5 → α6 → α7 → α8 → α9 → α10 → α11 → α12 → Option ρ, (∀ (x1 : α1) (x2 : α2) (x3 : α3) (x4 : α4) (x5 : α5) (x6 : α6) (x7 : α7) (x8 : α8) (x9 : α9) (x10 : α10) (x11 : α11) (x12 : α12), k' x1 x2 x3 x4 x5 x6 x7 x8 x9 x10 x11 x12 = some R → Wj x1 x2 x3 x4 x5 x6 x7 x8 x9 x10 x11 x12) → b k' = some R → G) : G := h2 kk h1 he
def zl12 {α1 α2 α3 α4 α5 α6 α7 α8 α9 α10 α11 α12 ρ : Type} (b : α1 → α2 → α3 → α4 → α5 → α6 → α7 → α8 → α9 → α10 → α11 → α12 → (α1 → α2 → α3 → α4 → α5 → α6 → α7 → α8 → α9 → α10 → α11 → α12 → Option ρ) → Option ρ) : Nat → α1 → α2 → α3 → α4 → α5 → α6 → α7 → α8 → α9 → α10 → α11 → α12 → Option ρ
  | 0, _, _, _, _, _, _, _, _, _, _, _, _ => none
  | f + 1, x1, x2, x3, x4, x5, x6, x7, x8, x9, x10, x11, x12 => b x1 x2 x3 x4 x5 x6 x7 x8 x9 x10 x11 x12 (zl12 b f)
theorem zl12_w {α1 α2 α3 α4 α5 α6 α7 α8 α9 α10 α11 α12 ρ : Type} {b : α1 → α2 → α3 → α4 → α5 → α6 → α7 → α8 → α9 → α10 → α11 → α12 → (α1 → α2 → α3 → α4 → α5 → α6 → α7 → α8 → α9 → α10 → α11 → α12 → Option ρ) → Option ρ} {f : Nat} {y1 : α1} {y2 : α2} {y3 : α3} {y4 : α4} {y5 : α5} {y6 : α6} {y7 : α7} {y8 : α8} {y9 : α9} {y10 : α10} {y11 : α11} {y12 : α12} {R : ρ} (he : zl12 b f y1 y2 y3 y4 y5 y6 y7 y8 y9 y10 y11 y12 = some R) (Wl : α1 → α2 → α3 → α4 → α5 → α6 → α7 → α8 → α9 → α10 → α11 → α12 → Prop) (h : ∀ (x1 : α1) (x2 : α2) (x3 : α3) (x4 : α4) (x5 : α5) (x6 : α6) (x7 : α7) (x8 : α8) (x9 : α9) (x10 : α10) (x11 : α11) (x12 : α12) (ag : α1 → α2 → α3 → α4 → α5 → α6 → α7 → α8 → α9 → α10 → α11 → α12 → Option ρ), (∀ (z1 : α1) (z2 : α2) (z3 : α3) (z4 : α4) (z5 : α5) (z6 : α6) (z7 : α7) (z8 : α8) (z9 : α9) (z10 : α10) (z11 : α11) (z12 : α12), ag z1 z2 z3 z4 z5 z6 z7 z8 z9 z10 z11 z12 = some R → Wl z1 z2 z3 z4 z5 z6 z7 z8 z9 z10 z11 z12) → b x1 x2 x3 x4 x5 x6 x7 x8 x9 x10 x11 x12 ag = some R → Wl x1 x2 x3 x4 x5 x6 x7 x8 x9 x10 x11 x12) : Wl y1 y2 y3 y4 y5 y6 y7 y8 y9 y10 y11 y12 := by
  induction f generalizing y1 y2 y3 y4 y5 y6 y7 y8 y9 y10 y11 y12 with
  | zero => cases he
  | succ f ih => exact h y1 y2 y3 y4 y5 y6 y7 y8 y9 y10 y11 y12 _ (fun z1 z2 z3 z4 z5 z6 z7 z8 z9 z10 z11 z12 h' => ih h') he
-- own text: what a pure function answers, condition by condition
def ev {ρ : Type} (x : Option ρ) (P : ρ → Prop) : Prop := ∃ r, x = some r ∧ P r
theorem ev_some {ρ : Type} {P : ρ → Prop} {r : ρ} (h : P r) : ev (some r) P := ⟨r, rfl, h⟩
theorem ev_eq {ρ : Type} {P : ρ → Prop} {x : Option ρ} {r : ρ} (e : x = some r) (h : P r) : ev x P := ⟨r, e, h⟩
theorem ev_mono {ρ : Type} {P Q : ρ → Prop} {x : Option ρ} (h : ev x P) (k : ∀ r, P r → Q r) : ev x Q := by
  obtain ⟨r, e, hp⟩ := h
  exact ⟨r, e, k r hp⟩
theorem ev_n {α ρ : Type} {P : ρ → Prop} {x : α} {k : α → Option ρ} (h : ev (k x) P) : ev (zn x k) P := h
theorem ev_g {ρ : Type} {P : ρ → Prop} {p : Prop} [Decidable p] {k : Option ρ} (hp : p) (h : ev k P) : ev (zg p k) P := by unfold zg; rw [if_pos hp]; exact h
theorem ev_if {ρ : Type} {P : ρ → Prop} {c : Prop} {d : Decidable c} {a b : Option ρ} (h1 : c → ev a P) (h2 : ¬ c → ev b P) : ev (@ite _ c d a b) P := by
  by_cases h : c
  · rw [if_pos h]; exact h1 h
  · rw [if_neg h]; exact h2 h
theorem ev_t {ρ : Type} {P : ρ → Prop} {c : Prop} {d : Decidable c} {a b : Option ρ} (h : c) (h1 : ev a P) : ev (@ite _ c d a b) P := by rw [if_pos h]; exact h1
theorem ev_f {ρ : Type} {P : ρ → Prop} {c : Prop} {d : Decidable c} {a b : Option ρ} (h : ¬ c) (h1 : ev b P) : ev (@ite _ c d a b) P := by rw [if_neg h]; exact h1
theorem ev_b1 {α1 ρ : Type} {P : ρ → Prop} {x : Option (α1)} {k : α1 → Option ρ} {Q : α1 → Prop} (h : ev x Q) (hk : ∀ (x1 : α1), Q (x1) → ev (k x1) P) : ev (zb1 x k) P := by
  obtain ⟨u, e, q⟩ := h
  subst e
  exact hk u q
theorem ev_j1 {α1 ρ : Type} {P : ρ → Prop} {kk : α1 → Option ρ} {b : (α1 → Option ρ) → Option ρ} (J : α1 → Prop) (h1 : ∀ (x1 : α1), J x1 → ev (kk x1) P) (h2 : ∀ k' : α1 → Option ρ, (∀ (x1 : α1), J x1 → ev (k' x1) P) → ev (b k') P) : ev (zj1 kk b) P := h2 kk h1
theorem ev_l1 {α1 ρ : Type} {P : ρ → Prop} {b : α1 → (α1 → Option ρ) → Option ρ} (I : Nat → α1 → Prop) (h : ∀ (m : Nat) (x1 : α1) (ag : α1 → Option ρ), I m x1 → (∀ (m' : Nat) (y1 : α1), m' < m → I m' y1 → ev (ag y1) P) → ev (b x1 ag) P) {f m : Nat} {x1 : α1} (hm : m < f) (h0 : I m x1) : ev (zl1 b f x1) P := by
  induction f generalizing m x1 with
  | zero => exact absurd hm (Nat.not_lt_zero m)
  | succ f ih => exact h m x1 _ h0 (fun m' y1 hl hi => ih (Nat.lt_of_lt_of_le hl (Nat.le_of_lt_succ hm)) hi)
theorem ev_b2 {α1 α2 ρ : Type} {P : ρ → Prop} {x : Option (α1 × α2)} {k : α1 → α2 → Option ρ} {Q : (α1 × α2) → Prop} (h : ev x Q) (hk : ∀ (x1 : α1) (x2 : α2), Q (x1, x2) → ev (k x1 x2) P) : ev (zb2 x k) P := by
  obtain ⟨u, e, q⟩ := h
  subst e
  exact hk (u.1) (u.2) q
theorem ev_j2 {α1 α2 ρ : Type} {P : ρ → Prop} {kk : α1 → α2 → Option ρ} {b : (α1 → α2 → Option ρ) → Option ρ} (J : α1 → α2 → Prop) (h1 : ∀ (x1 : α1) (x2 : α2), J x1 x2 → ev (kk x1 x2) P) (h2 : ∀ k' : α1 → α2 → Option ρ, (∀ (x1 : α1) (x2 : α2), J x1 x2 → ev (k' x1 x2) P) → ev (b k') P) : ev (zj2 kk b) P := h2 kk h1
theorem ev_l2 {α1 α2 ρ : Type} {P : ρ → Prop} {b : α1 → α2 → (α1 → α2 → Option ρ) → Option ρ} (I : Nat → α1 → α2 → Prop) (h : ∀ (m : Nat) (x1 : α1) (x2 : α2) (ag : α1 → α2 → Option ρ), I m x1 x2 → (∀ (m' : Nat) (y1 : α1) (y2 : α2), m' < m → I m' y1 y2 → ev (ag y1 y2) P) → ev (b x1 x2 ag) P) {f m : Nat} {x1 : α1} {x2 : α2} (hm : m < f) (h0 : I m x1 x2) : ev (zl2 b f x1 x2) P := by
  induction f generalizing m x1 x2 with
  | zero => exact absurd hm (Nat.not_lt_zero m)
  | succ f ih => exact h m x1 x2 _ h0 (fun m' y1 y2 hl hi => ih (Nat.lt_of_lt_of_le hl (Nat.le_of_lt_succ hm)) hi)
theorem ev_b3 {α1 α2 α3 ρ : Type} {P : ρ → Prop} {x : Option (α1 × α2 × α3)} {k : α1 → α2 → α3 → Option ρ} {Q : (α1 × α2 × α3) → Prop} (h : ev x Q) (hk : ∀ (x1 : α1) (x2 : α2) (x3 : α3), Q (x1, x2, x3) → ev (k x1 x2 x3) P) : ev (zb3 x k) P := by
  obtain ⟨u, e, q⟩ := h
  subst e
  exact hk (u.1) (u.2.1) (u.2.2) q
theorem ev_j3 {α1 α2 α3 ρ : Type} {P : ρ → Prop} {kk : α1 → α2 → α3 → Option ρ} {b : (α1 → α2 → α3 → Option ρ) → Option ρ} (J : α1 → α2 → α3 → Prop) (h1 : ∀ (x1 : α1) (x2 : α2) (x3 : α3), J x1 x2 x3 → ev (kk x1 x2 x3) P) (h2 : ∀ k' : α1 → α2 → α3 → Option ρ, (∀ (x1 : α1) (x2 : α2) (x3 : α3), J x1 x2 x3 → ev (k' x1 x2 x3) P) → ev (b k') P) : ev (zj3 kk b) P := h2 kk h1
theorem ev_l3 {α1 α2 α3 ρ : Type} {P : ρ → Prop} {b : α1 → α2 → α3 → (α1 → α2 → α3 → Option ρ) → Option ρ} (I : Nat → α1 → α2 → α3 → Prop) (h : ∀ (m : Nat) (x1 : α1) (x2 : α2) (x3 : α3) (ag : α1 → α2 → α3 → Option ρ), I m x1 x2 x3 → (∀ (m' : Nat) (y1 : α1) (y2 : α2) (y3 : α3), m' < m → I m' y1 y2 y3 → ev (ag y1 y2 y3) P) → ev (b x1 x2 x3 ag) P) {f m : Nat} {x1 : α1} {x2 : α2} {x3 : α3} (hm : m < f) (h0 : I m x1 x2 x3) : ev (zl3 b f x1 x2 x3) P := by
  induction f generalizing m x1 x2 x3 with
  | zero => exact absurd hm (Nat.not_lt_zero m)
  | succ f ih => exact h m x1 x2 x3 _ h0 (fun m' y1 y2 y3 hl hi => ih (Nat.lt_of_lt_of_le hl (Nat.le_of_lt_succ hm)) hi)
theorem ev_b4 {α1 α2 α3 α4 ρ : Type} {P : ρ → Prop} {x : Option (α1 × α2 × α3 × α4)} {k : α1 → α2 → α3 → α4 → Option ρ} {Q : (α1 × α2 × α3 × α4) → Prop} (h : ev x Q) (hk : ∀ (x1 : α1) (x2 : α2) (x3 : α3) (x4 : α4), Q (x1, x2, x3, x4) → ev (k x1 x2 x3 x4) P) : ev (zb4 x k) P := by
  obtain ⟨u, e, q⟩ := h
  subst e
  exact hk (u.1) (u.2.1) (u.2.2.1) (u.2.2.2) q
theorem ev_j4 {α1 α2 α3 α4 ρ : Type} {P : ρ → Prop} {kk : α1 → α2 → α3 → α4 → Option ρ} {b : (α1 → α2 → α3 → α4 → Option ρ) → Option ρ} (J : α1 → α2 → α3 → α4 → Prop) (h1 : ∀ (x1 : α1) (x2 : α2) (x3 : α3) (x4 : α4), J x1 x2 x3 x4 → ev (kk x1 x2 x3 x4) P) (h2 : ∀ k' : α1 → α2 → α3 → α4 → Option ρ, (∀ (x1 : α1) (x2 : α2) (x3 : α3) (x4 : α4), J x1 x2 x3 x4 → ev (k' x1 x2 x3 x4) P) → ev (b k') P) : ev (zj4 kk b) P := h2 kk h1
theorem ev_l4 {α1 α2 α3 α4 ρ : Type} {P : ρ → Prop} {b : α1 → α2 → α3 → α4 → (α1 → α2 → α3 → α4 → Option ρ) → Option ρ} (I : Nat → α1 → α2 → α3 → α4 → Prop) (h : ∀ (m : Nat) (x1 : α1) (x2 : α2) (x3 : α3) (x4 : α4) (ag : α1 → α2 → α3 → α4 → Option ρ), I m x1 x2 x3 x4 → (∀ (m' : Nat) (y1 : α1) (y2 : α2) (y3 : α3) (y4 : α4), m' < m → I m' y1 y2 y3 y4 → ev (ag y1 y2 y3 y4) P) → ev (b x1 x2 x3 x4 ag) P) {f m : Nat} {x1 : α1} {x2 : α2} {x3 : α3} {x4 : α4} (hm : m < f) (h0 : I m x1 x2 x3 x4) : ev (zl4 b f x1 x2 x3 x4) P := by
  induction f generalizing m x1 x2 x3 x4 with
  | zero => exact absurd hm (Nat.not_lt_zero m)
  | succ f ih => exact h m x1 x2 x3 x4 _ h0 (fun m' y1 y2 y3 y4 hl hi => ih (Nat.lt_of_lt_of_le hl (Nat.le_of_lt_succ hm)) hi)
theorem ev_b5 {α1 α2 α3 α4 α5 ρ : Type} {P : ρ → Prop} {x : Option (α1 × α2 × α3 × α4 × α5)} {k : α1 → α2 → α3 → α4 → α5 → Option ρ} {Q : (α1 × α2 × α3 × α4 × α5) → Prop} (h : ev x Q) (hk : ∀ (x1 : α1) (x2 : α2) (x3 : α3) (x4 : α4) (x5 : α5), Q (x1, x2, x3, x4, x5) → ev (k x1 x2 x3 x4 x5) P) : ev (zb5 x k) P := by
  obtain ⟨u, e, q⟩ := h
  subst e
  exact hk (u.1) (u.2.1) (u.2.2.1) (u.2.2.2.1) (u.2.2.2.2) q
theorem ev_j5 {α1 α2 α3 α4 α5 ρ : Type} {P : ρ → Prop} {kk : α1 → α2 → α3 → α4 → α5 → Option ρ} {b : (α1 → α2 → α3 → α4 → α5 → Option ρ) → Option ρ} (J : α1 → α2 → α3 → α4 → α5 → Prop) (h1 : ∀ (x1 : α1) (x2 : α2) (x3 : α3) (x4 : α4) (x5 : α5), J x1 x2 x3 x4 x5 → ev (kk x1 x2 x3 x4 x5) P) (h2 : ∀ k' : α1 → α2 → α3 → α4 → α5 → Option ρ, (∀ (x1 : α1) (x2 : α2) (x3 : α3) (x4 : α4) (x5 : α5), J x1 x2 x3 x4 x5 → ev (k' x1 x2 x3 x4 x5) P) → ev (b k') P) : ev (zj5 kk b) P := h2 kk h1
theorem ev_l5 {α1 α2 α3 α4 α5 ρ : Type} {P : ρ → Prop} {b : α1 → α2 → α3 → α4 → α5 → (α1 → α2 → α3 → α4 → α5 → Option ρ) → Option ρ} (I : Nat → α1 → α2 → α3 → α4 → α5 → Prop) (h : ∀ (m : Nat) (x1 : α1) (x2 : α2) (x3 : α3) (x4 : α4) (x5 : α5) (ag : α1 → α2 → α3 → α4 → α5 → Option ρ), I m x1 x2 x3 x4 x5 → (∀ (m' : Nat) (y1 : α1) (y2 : α2) (y3 : α3) (y4 : α4) (y5 : α5), m' < m → I m' y1 y2 y3 y4 y5 → ev (ag y1 y2 y3 y4 y5) P) → ev (b x1 x2 x3 x4 x5 ag) P) {f m : Nat} {x1 : α1} {x2 : α2} {x3 : α3} {x4 : α4} {x5 : α5} (hm : m < f) (h0 : I m x1 x2 x3 x4 x5) : ev (zl5 b f x1 x2 x3 x4 x5) P := by
  induction f generalizing m x1 x2 x3 x4 x5 with
  | zero => exact absurd hm (Nat.not_lt_zero m)
  | succ f ih => exact h m x1 x2 x3 x4 x5 _ h0 (fun m' y1 y2 y3 y4 y5 hl hi => ih (Nat.lt_of_lt_of_le hl (Nat.le_of_lt_succ hm)) hi)
theorem ev_b6 {α1 α2 α3 α4 α5 α6 ρ : Type} {P : ρ → Prop} {x : Option (α1 × α2 × α3 × α4 × α5 × α6)} {k : α1 → α2 → α3 → α4 → α5 → α6 → Option ρ} {Q : (α1 × α2 × α3 × α4 × α5 × α6) → Prop} (h : ev x Q) (hk : ∀ (x1 : α1) (x2 : α2) (x3 : α3) (x4 : α4) (x5 : α5) (x6 : α6), Q (x1, x2, x3, x4, x5, x6) → ev (k x1 x2 x3 x4 x5 x6) P) : ev (zb6 x k) P := by
  obtain ⟨u, e, q⟩ := h
  subst e
  exact hk (u.1) (u.2.1) (u.2.2.1) (u.2.2.2.1) (u.2.2.2.2.1) (u.2.2.2.2.2) q
theorem ev_j6 {α1 α2 α3 α4 α5 α6 ρ : Type} {P : ρ → Prop} {kk : α1 → α2 → α3 → α4 → α5 → α6 → Option ρ} {b : (α1 → α2 → α3 → α4 → α5 → α6 → Option ρ) → Option ρ} (J : α1 → α2 → α3 → α4 → α5 → α6 → Prop) (h1 : ∀ (x1 : α1) (x2 : α2) (x3 : α3) (x4 : α4) (x5 : α5) (x6 : α6), J x1 x2 x3 x4 x5 x6 → ev (kk x1 x2 x3 x4 x5 x6) P) (h2 : ∀ k' : α1 → α2 → α3 → α4 → α5 → α6 → Option ρ, (∀ (x1 : α1) (x2 : α2) (x3 : α3) (x4 : α4) (x5 : α5) (x6 : α6), J x1 x2 x3 x4 x5 x6 → ev (k' x1 x2 x3 x4 x5 x6) P) → ev (b k') P) : ev (zj6 kk b) P := h2 kk h1
theorem ev_l6 {α1 α2 α3 α4 α5 α6 ρ : Type} {P : ρ → Prop} {b : α1 → α2 → α3 → α4 → α5 → α6 → (α1 → α2 → α3 → α4 → α5 → α6 → Option ρ) → Option ρ} (I : Nat → α1 → α2 → α3 → α4 → α5 → α6 → Prop) (h : ∀ (m : Nat) (x1 : α1) (x2 : α2) (x3 : α3) (x4 : α4) (x5 : α5) (x6 : α6) (ag : α1 → α2 → α3 → α4 → α5 → α6 → Option ρ), I m x1 x2 x3 x4 x5 x6 → (∀ (m' : Nat) (y1 : α1) (y2 : α2) (y3 : α3) (y4 : α4) (y5 : α5) (y6 : α6), m' < m → I m' y1 y2 y3 y4 y5 y6 → ev (ag y1 y2 y3 y4 y5 y6) P) → ev (b x1 x2 x3 x4 x5 x6 ag) P) {f m : Nat} {x1 : α1} {x2 : α2} {x3 : α3} {x4 : α4} {x5 : α5} {x6 : α6} (hm : m < f) (h0 : I m x1 x2 x3 x4 x5 x6) : ev (zl6 b f x1 x2 x3 x4 x5 x6) P := by
  induction f generalizing m x1 x2 x3 x4 x5 x6 with
  | zero => exact absurd hm (Nat.not_lt_zero m)
  | succ f ih => exact h m x1 x2 x3 x4 x5 x6 _ h0 (fun m' y1 y2 y3 y4 y5 y6 hl hi => ih (Nat.lt_of_lt_of_le hl (Nat.le_of_lt_succ hm)) hi)
theorem ev_b7 {α1 α2 α3 α4 α5 α6 α7 ρ : Type} {P : ρ → Prop} {x : Option (α1 × α2 × α3 × α4 × α5 × α6 × α7)} {k : α1 → α2 → α3 → α4 → α5 → α6 → α7 → Option ρ} {Q : (α1 × α2 × α3 × α4 × α5 × α6 × α7) → Prop} (h : ev x Q) (hk : ∀ (x1 : α1) (x2 : α2) (x3 : α3) (x4 : α4) (x5 : α5) (x6 : α6) (x7 : α7), Q (x1, x2, x3, x4, x5, x6, x7) → ev (k x1 x2 x3 x4 x5 x6 x7) P) : ev (zb7 x k) P := by
  obtain ⟨u, e, q⟩ := h
  subst e
  exact hk (u.1) (u.2.1) (u.2.2.1) (u.2.2.2.1) (u.2.2.2.2.1) (u.2.2.2.2.2.1) (u.2.2.2.2.2.2) q
theorem ev_j7 {α1 α2 α3 α4 α5 α6 α7 ρ : Type} {P : ρ → Prop} {kk : α1 → α2 → α3 → α4 → α5 → α6 → α7 → Option ρ} {b : (α1 → α2 → α3 → α4 → α5 → α6 → α7 → Option ρ) → Option ρ} (J : α1 → α2 → α3 → α4 → α5 → α6 → α7 → Prop) (h1 : ∀ (x1 : α1) (x2 : α2) (x3 : α3) (x4 : α4) (x5 : α5) (x6 : α6) (x7 : α7), J x1 x2 x3 x4 x5 x6 x7 → ev (kk x1 x2 x3 x4 x5 x6 x7) P) (h2 : ∀ k' : α1 → α2 → α3 → α4 → α5 → α6 → α7 → Option ρ, (∀ (x1 : α1) (x2 : α2) (x3 : α3) (x4 : α4) (x5 : α5) (x6 : α6) (x7 : α7), J x1 x2 x3 x4 x5 x6 x7 → ev (k' x1 x2 x3 x4 x5 x6 x7) P) → ev (b k') P) : ev (zj7 kk b) P := h2 kk h1
theorem ev_l7 {α1 α2 α3 α4 α5 α6 α7 ρ : Type} {P : ρ → Prop} {b : α1 → α2 → α3 → α4 → α5 → α6 → α7 → (α1 → α2 → α3 → α4 → α5 → α6 → α7 → Option ρ) → Option ρ} (I : Nat → α1 → α2 → α3 → α4 → α5 → α6 → α7 → Prop) (h : ∀ (m : Nat) (x1 : α1) (x2 : α2) (x3 : α3) (x4 : α4) (x5 : α5) (x6 : α6) (x7 : α7) (ag : α1 → α2 → α3 → α4 → α5 → α6 → α7 → Option ρ), I m x1 x2 x3 x4 x5 x6 x7 → (∀ (m' : Nat) (y1 : α1) (y2 : α2) (y3 : α3) (y4 : α4) (y5 : α5) (y6 : α6) (y7 : α7), m' < m → I m' y1 y2 y3 y4 y5 y6 y7 → ev (ag y1 y2 y3 y4 y5 y6 y7) P) → ev (b x1 x2 x3 x4 x5 x6 x7 ag) P) {f m : Nat} {x1 : α1} {x2 : α2} {x3 : α3} {x4 : α4} {x5 : α5} {x6 : α6} {x7 : α7} (hm : m < f) (h0 : I m x1 x2 x3 x4 x5 x6 x7) : ev (zl7 b f x1 x2 x3 x4 x5 x6 x7) P := by
  induction f generalizing m x1 x2 x3 x4 x5 x6 x7 with
  | zero => exact absurd hm (Nat.not_lt_zero m)
  | succ f ih => exact h m x1 x2 x3 x4 x5 x6 x7 _ h0 (fun m' y1 y2 y3 y4 y5 y6 y7 hl hi => ih (Nat.lt_of_lt_of_le hl (Nat.le_of_lt_succ hm)) hi)
theorem ev_b8 {α1 α2 α3 α4 α5 α6 α7 α8 ρ : Type} {P : ρ → Prop} {x : Option (α1 × α2 × α3 × α4 × α5 × α6 × α7 × α8)} {k : α1 → α2 → α3 → α4 → α5 → α6 → α7 → α8 → Option ρ} {Q : (α1 × α2 × α3 × α4 × α5 × α6 × α7 × α8) → Prop} (h : ev x Q) (hk : ∀ (x1 : α1) (x2 : α2) (x3 : α3) (x4 : α4) (x5 : α5) (x6 : α6) (x7 : α7) (x8 : α8), Q (x1, x2, x3, x4, x5, x6, x7, x8) → ev (k x1 x2 x3 x4 x5 x6 x7 x8) P) : ev (zb8 x k) P := by
  obtain ⟨u, e, q⟩ := h
  subst e
  exact hk (u.1) (u.2.1) (u.2.2.1) (u.2.2.2.1) (u.2.2.2.2.1) (u.2.2.2.2.2.1) (u.2.2.2.2.2.2.1) (u.2.2.2.2.2.2.2) q
theorem ev_j8 {α1 α2 α3 α4 α5 α6 α7 α8 ρ : Type} {P : ρ → Prop} {kk : α1 → α2 → α3 → α4 → α5 → α6 → α7 → α8 → Option ρ} {b : (α1 → α2 → α3 → α4 → α5 → α6 → α7 → α8 → Option ρ) → Option ρ} (J : α1 → α2 → α3 → α4 → α5 → α6 → α7 → α8 → Prop) (h1 : ∀ (x1 : α1) (x2 : α2) (x3 : α3) (x4 : α4) (x5 : α5) (x6 : α6) (x7 : α7) (x8 : α8), J x1 x2 x3 x4 x5 x6 x7 x8 → ev (kk x1 x2 x3 x4 x5 x6 x7 x8) P) (h2 : ∀ k' : α1 → α2 → α3 → α4 → α5 → α6 → α7 → α8 → Option ρ, (∀ (x1 : α1) (x2 : α2) (x3 : α3) (x4 : α4) (x5 : α5) (x6 : α6) (x7 : α7) (x8 : α8), J x1 x2 x3 x4 x5 x6 x7 x8 → ev (k' x1 x2 x3 x4 x5 x6 x7 x8) P) → ev (b k') P) : ev (zj8 kk b) P := h2 kk h1
theorem ev_l8 {α1 α2 α3 α4 α5 α6 α7 α8 ρ : Type} {P : ρ → Prop} {b : α1 → α2 → α3 → α4 → α5 → α6 → α7 → α8 → (α1 → α2 → α3 → α4 → α5 → α6 → α7 → α8 → Option ρ) → Option ρ} (I : Nat → α1 → α2 → α3 → α4 → α5 → α6 → α7 → α8 → Prop) (h : ∀ (m : Nat) (x1 : α1) (x2 : α2) (x3 : α3) (x4 : α4) (x5 : α5) (x6 : α6) (x7 : α7) (x8 : α8) (ag : α1 → α2 → α3 → α4 → α5 → α6 → α7 → α8 → Option ρ), I m x1 x2 x3 x4 x5 x6 x7 x8 → (∀ (m' : Nat) (y1 : α1) (y2 : α2) (y3 : α3) (y4 : α4) (y5 : α5) (y6 : α6) (y7 : α7) (y8 : α8), m' < m → I m' y1 y2 y3 y4 y5 y6 y7 y8 → ev (ag y1 y2 y3 y4 y5 y6 y7 y8) P) → ev (b x1 x2 x3 x4 x5 x6 x7 x8 ag) P) {f m : Nat} {x1 : α1} {x2 : α2} {x3 : α3} {x4 : α4} {x5 : α5} {x6 : α6} {x7 : α7} {x8 : α8} (hm : m < f) (h0 : I m x1 x2 x3 x4 x5 x6 x7 x8) : ev (zl8 b f x1 x2 x3 x4 x5 x6 x7 x8) P := by
  induction f generalizing m x1 x2 x3 x4 x5 x6 x7 x8 with
  | zero => exact absurd hm (Nat.not_lt_zero m)
  | succ f ih => exact h m x1 x2 x3 x4 x5 x6 x7 x8 _ h0 (fun m' y1 y2 y3 y4 y5 y6 y7 y8 hl hi => ih (Nat.lt_of_lt_of_le hl (Nat.le_of_lt_succ hm)) hi)
theorem ev_b9 {α1 α2 α3 α4 α5 α6 α7 α8 α9 ρ : Type} {P : ρ → Prop} {x : Option (α1 × α2 × α3 × α4 × α5 × α6 × α7 × α8 × α9)} {k : α1 → α2 → α3 → α4 → α5 → α6 → α7 → α8 → α9 → Option ρ} {Q : (α1 × α2 × α3 × α4 × α5 × α6 × α7 × α8 × α9) → Prop} (h : ev x Q) (hk : ∀ (x1 : α1) (x2 : α2) (x3 : α3) (x4 : α4) (x5 : α5) (x6 : α6) (x7 : α7) (x8 : α8) (x9 : α9), Q (x1, x2, x3, x4, x5, x6, x7, x8, x9) → ev (k x1 x2 x3 x4 x5 x6 x7 x8 x9) P) : ev (zb9 x k) P := by
  obtain ⟨u, e, q⟩ := h
  subst e
  exact hk (u.1) (u.2.1) (u.2.2.1) (u.2.2.2.1) (u.2.2.2.2.1) (u.2.2.2.2.2.1) (u.2.2.2.2.2.2.1) (u.2.2.2.2.2.2.2.1) (u.2.2.2.2.2.2.2.2) q
theorem ev_j9 {α1 α2 α3 α4 α5 α6 α7 α8 α9 ρ : Type} {P : ρ → Prop} {kk : α1 → α2 → α3 → α4 → α5 → α6 → α7 → α8 → α9 → Option ρ} {b : (α1 → α2 → α3 → α4 → α5 → α6 → α7 → α8 → α9 → Option ρ) → Option ρ} (J : α1 → α2 → α3 → α4 → α5 → α6 → α7 → α8 → α9 → Prop) (h1 : ∀ (x1 : α1) (x2 : α2) (x3 : α3) (x4 : α4) (x5 : α5) (x6 : α6) (x7 : α7) (x8 : α8) (x9 : α9), J x1 x2 x3 x4 x5 x6 x7 x8 x9 → ev (kk x1 x2 x3 x4 x5 x6 x7 x8 x9) P) (h2 : ∀ k' : α1 → α2 → α3 → α4 → α5 → α6 → α7 → α8 → α9 → Option ρ, (∀ (x1 : α1) (x2 : α2) (x3 : α3) (x4 : α4) (x5 : α5) (x6 : α6) (x7 : α7) (x8 : α8) (x9 : α9), J x1 x2 x3 x4 x5 x6 x7 x8 x9 → ev (k' x1 x2 x3 x4 x5 x6 x7 x8 x9) P) → ev (b k') P) : ev (zj9 kk b) P := h2 kk h1
theorem ev_l9 {α1 α2 α3 α4 α5 α6 α7 α8 α9 ρ : Type} {P : ρ → Prop} {b : α1 → α2 → α3 → α4 → α5 → α6 → α7 → α8 → α9 → (α1 → α2 → α3 → α4 → α5 → α6 → α7 → α8 → α9 → Option ρ) → Option ρ} (I : Nat → α1 → α2 → α3 → α4 → α5 → α6 → α7 → α8 → α9 → Prop) (h : ∀ (m : Nat) (x1 : α1) (x2 : α2) (x3 : α3) (x4 : α4) (x5 : α5) (x6 : α6) (x7 : α7) (x8 : α8) (x9 : α9) (ag : α1 → α2 → α3 → α4 → α5 → α6 → α7 → α8 → α9 → Option ρ), I m x1 x2 x3 x4 x5 x6 x7 x8 x9 → (∀ (m' : Nat) (y1 : α1) (y2 : α2) (y3 : α3) (y4 : α4) (y5 : α5) (y6 : α6) (y7 : α7) (y8 : α8) (y9 : α9), m' < m → I m' y1 y2 y3 y4 y5 y6 y7 y8 y9 → ev (ag y1 y2 y3 y4 y5 y6 y7 y8 y9) P) → ev (b x1 x2 x3 x4 x5 x6 x7 x8 x9 ag) P) {f m : Nat} {x1 : α1} {x2 : α2} {x3 : α3} {x4 : α4} {x5 : α5} {x6 : α6} {x7 : α7} {x8 : α8} {x9 : α9} (hm : m < f) (h0 : I m x1 x2 x3 x4 x5 x6 x7 x8 x9) : ev (zl9 b f x1 x2 x3 x4 x5 x6 x7 x8 x9) P := by
  induction f generalizing m x1 x2 x3 x4 x5 x6 x7 x8 x9 with
  | zero => exact absurd hm (Nat.not_lt_zero m)
  | succ f ih => exact h m x1 x2 x3 x4 x5 x6 x7 x8 x9 _ h0 (fun m' y1 y2 y3 y4 y5 y6 y7 y8 y9 hl hi => ih (Nat.lt_of_lt_of_le hl (Nat.le_of_lt_succ hm)) hi)
theorem ev_b10 {α1 α2 α3 α4 α5 α6 α7 α8 α9 α10 ρ : Type} {P : ρ → Prop} {x : Option (α1 × α2 × α3 × α4 × α5 × α6 × α7 × α8 × α9 × α10)} {k : α1 → α2 → α3 → α4 → α5 → α6 → α7 → α8 → α9 → α10 → Option ρ} {Q : (α1 × α2 × α3 × α4 × α5 × α6 × α7 × α8 × α9 × α10) → Prop} (h : ev x Q) (hk : ∀ (x1 : α1) (x2 : α2) (x3 : α3) (x4 : α4) (x5 : α5) (x6 : α6) (x7 : α7) (x8 : α8) (x9 : α9) (x10 : α10), Q (x1, x2, x3, x4, x5, x6, x7, x8, x9, x10) → ev (k x1 x2 x3 x4 x5 x6 x7 x8 x9 x10) P) : ev (zb10 x k) P := by
  obtain ⟨u, e, q⟩ := h
  subst e
  exact hk (u.1) (u.2.1) (u.2.2.1) (u.2.2.2.1) (u.2.2.2.2.1) (u.2.2.2.2.2.1) (u.2.2.2.2.2.2.1) (u.2.2.2.2.2.2.2.1) (u.2.2.2.2.2.2.2.2.1) (u.2.2.2.2.2.2.2.2.2) q
theorem ev_j10 {α1 α2 α3 α4 α5 α6 α7 α8 α9 α10 ρ : Type} {P : ρ → Prop} {kk : α1 → α2 → α3 → α4 → α5 → α6 → α7 → α8 → α9 → α10 → Option ρ} {b : (α1 → α2 → α3 → α4 → α5 → α6 → α7 → α8 → α9 → α10 → Option ρ) → Option ρ} (J : α1 → α2 → α3 → α4 → α5 → α6 → α7 → α8 → α9 → α10 → Prop) (h1 : ∀ (x1 : α1) (x2 : α2) (x3 : α3) (x4 : α4) (x5 : α5) (x6 : α6) (x7 : α7) (x8 : α8) (x9 : α9) (x10 : α10), J x1 x2 x3 x4 x5 x6 x7 x8 x9 x10 → ev (kk x1 x2 x3 x4 x5 x6 x7 x8 x9 x10) P) (h2 : ∀ k' : α1 → α2 → α3 → α4 → α5 → α6 → α7 → α8 → α9 → α10 → Option ρ, (∀ (x1 : α1) (x2 : α2) (x3 : α3) (x4 : α4) (x5 : α5) (x6 : α6) (x7 : α7) (x8 : α8) (x9 : α9) (x10 : α10), J x1 x2 x3 x4 x5 x6 x7 x8 x9 x10 → ev (k' x1 x2 x3 x4 x5 x6 x7 x8 x9 x10) P) → ev (b k') P) : ev (zj10 kk b) P := h2 kk h1
theorem ev_l10 {α1 α2 α3 α4 α5 α6 α7 α8 α9 α10 ρ : Type} {P : ρ → Prop} {b : α1 → α2 → α3 → α4 → α5 → α6 → α7 → α8 → α9 → α10 → (α1 → α2 → α3 → α4 → α5 → α6 → α7 → α8 → α9 → α10 → Option ρ) → Option ρ} (I : Nat → α1 → α2 → α3 → α4 → α5 → α6 → α7 → α8 → α9 → α10 → Prop) (h : ∀ (m : Nat) (x1 : α1) (x2 : α2) (x3 : α3) (x4 : α4) (x5 : α5) (x6 : α6) (x7 : α7) (x8 : α8) (x9 : α9) (x10 : α10) (ag : α1 → α2 → α3 → α4 → α5 → α6 → α7 → α8 → α9 → α10 → Option ρ), I m x1 x2 x3 x4 x5 x6 x7 x8 x9 x10 → (∀ (m' : Nat) (y1 : α1) (y2 : α2) (y3 : α3) (y4 : α4) (y5 : α5) (y6 : α6) (y7 : α7) (y8 : α8) (y9 : α9) (y10 : α10), m' < m → I m' y1 y2 y3 y4 y5 y6 y7 y8 y9 y10 → ev (ag y1 y2 y3 y4 y5 y6 y7 y8 y9 y10) P) → ev (b x1 x2 x3 x4 x5 x6 x7 x8 x9 x10 ag) P) {f m : Nat} {x1 : α1} {x2 : α2} {x3 : α3} {x4 : α4} {x5 : α5} {x6 : α6} {x7 : α7} {x8 : α8} {x9 : α9} {x10 : α10} (hm : m < f) (h0 : I m x1 x2 x3 x4 x5 x6 x7 x8 x9 x10) : ev (zl10 b f x1 x2 x3 x4 x5 x6 x7 x8 x9 x10) P := by
  induction f generalizing m x1 x2 x3 x4 x5 x6 x7 x8 x9 x10 with
  | zero => exact absurd hm (Nat.not_lt_zero m)
  | succ f ih => exact h m x1 x2 x3 x4 x5 x6 x7 x8 x9 x10 _ h0 (fun m' y1 y2 y3 y4 y5 y6 y7 y8 y9 y10 hl hi => ih (Nat.lt_of_lt_of_le hl (Nat.le_of_lt_succ hm)) hi)
theorem ev_b11 {α1 α2 α3 α4 α5 α6 α7 α8 α9 α10 α11 ρ : Type} {P : ρ → Prop} {x : Option (α1 × α2 × α3 × α4 × α5 × α6 × α7 × α8 × α9 × α10 × α11)} {k : α1 → α2 → α3 → α4 → α5 → α6 → α7 → α8 → α9 → α10 → α11 → Option ρ} {Q : (α1 × α2 × α3 × α4 × α5 × α6 × α7 × α8 × α9 × α10 × α11) → Prop} (h : ev x Q) (hk : ∀ (x1 : α1) (x2 : α2) (x3 : α3) (x4 : α4) (x5 : α5) (x6 : α6) (x7 : α7) (x8 : α8) (x9 : α9) (x10 : α10) (x11 : α11), Q (x1, x2, x3, x4, x5, x6, x7, x8, x9, x10, x11) → ev (k x1 x2 x3 x4 x5 x6 x7 x8 x9 x10 x11) P) : ev (zb11 x k) P := by
  obtain ⟨u, e, q⟩ := h
  subst e
  exact hk (u.1) (u.2.1) (u.2.2.1) (u.2.2.2.1) (u.2.2.2.2.1) (u.2.2.2.2.2.1) (u.2.2.2.2.2.2.1) (u.2.2.2.2.2.2.2.1) (u.2.2.2.2.2.2.2.2.1) (u.2.2.2.2.2.2.2.2.2.1) (u.2.2.2.2.2.2.2.2.2.2) q
theorem ev_j11 {α1 α2 α3 α4 α5 α6 α7 α8 α9 α10 α11 ρ : Type} {P : ρ → Prop} {kk : α1 → α2 → α3 → α4 → α5 → α6 → α7 → α8 → α9 → α10 → α11 → Option ρ} {b : (α1 → α2 → α3 → α4 → α5 → α6 → α7 → α8 → α9 → α10 → α11 → Option ρ) → Option ρ} (J : α1 → α2 → α3 → α4 → α5 → α6 → α7 → α8 → α9 → α10 → α11 → Prop) (h1 : ∀ (x1 : α1) (x2 : α2) (x3 : α3) (x4 : α4) (x5 : α5) (x6 : α6) (x7 : α7) (x8 : α8) (x9 : α9) (x10 : α10) (x11 : α11), J x1 x2 x3 x4 x5 x6 x7 x8 x9 x10 x11 → ev (kk x1 x2 x3 x4 x5 x6 x7 x8 x9 x10 x11) P) (h2 : ∀ k' : α1 → α2 → α3 → α4 → α5 → α6 → α7 → α8 → α9 → α10 → α11 → Option ρ, (∀ (x1 : α1) (x2 : α2) (x3 : α3) (x4 : α4) (x5 : α5) (x6 : α6) (x7 : α7) (x8 : α8) (x9 : α9) (x10 : α10) (x11 : α11), J x1 x2 x3 x4 x5 x6 x7 x8 x9 x10 x11 → ev (k' x1 x2 x3 x4 x5 x6 x7 x8 x9 x10 x11) P) → ev (b k') P) : ev (zj11 kk b) P := h2 kk h1
theorem ev_l11 {α1 α2 α3 α4 α5 α6 α7 α8 α9 α10 α11 ρ : Type} {P : ρ → Prop} {b : α1 → α2 → α3 → α4 → α5 → α6 → α7 → α8 → α9 → α10 → α11 → (α1 → α2 → α3 → α4 → α5 → α6 → α7 → α8 → α9 → α10 → α11 → Option ρ) → Option ρ} (I : Nat → α1 → α2 → α3 → α4 → α5 → α6 → α7 → α8 → α9 → α10 → α11 → Prop) (h : ∀ (m : Nat) (x1 : α1) (x2 : α2) (x3 : α3) (x4 : α4) (x5 : α5) (x6 : α6) (x7 : α7) (x8 : α8) (x9 : α9) (x10 : α10) (x11 : α11) (ag : α1 → α2 → α3 → α4 → α5 → α6 → α7 → α8 → α9 → α10 → α11 → Option ρ), I m x1 x2 x3 x4 x5 x6 x7 x8 x9 x10 x11 → (∀ (m' : Nat) (y1 : α1) (y2 : α2) (y3 : α3) (y4 : α4) (y5 : α5) (y6 : α6) (y7 : α7) (y8 : α8) (y9 : α9) (y10 : α10) (y11 : α11), m' < m → I m' y1 y2 y3 y4 y5 y6 y7 y8 y9 y10 y11 → ev (ag y1 y2 y3 y4 y5 y6 y7 y8 y9 y10 y11) P) → ev (b x1 x2 x3 x4 x5 x6 x7 x8 x9 x10 x11 ag) P) {f m : Nat} {x1 : α1} {x2 : α2} {x3 : α3} {x4 : α4} {x5 : α5} {x6 : α6} {x7 : α7} {x8 : α8} {x9 : α9} {x10 : α10} {x11 : α11} (hm : m < f) (h0 : I m x1 x2 x3 x4 x5 x6 x7 x8 x9 x10 x11) : ev (zl11 b f x1 x2 x3 x4 x5 x6 x7 x8 x9 x10 x11) P := by
  induction f generalizing m x1 x2 x3 x4 x5 x6 x7 x8 x9 x10 x11 with
  | zero => exact absurd hm (Nat.not_lt_zero m)
  | succ f ih => exact h m x1 x2 x3 x4 x5 x6 x7 x8 x9 x10 x11 _ h0 (fun m' y1 y2 y3 y4 y5 y6 y7 y8 y9 y10 y11 hl hi => ih (Nat.lt_of_lt_of_le hl (Nat.le_of_lt_succ hm)) hi)
theorem ev_b12 {α1 α2 α3 α4 α5 α6 α7 α8 α9 α10 α11 α12 ρ : Type} {P : ρ → Prop} {x : Option (α1 × α2 × α3 × α4 × α5 × α6 × α7 × α8 × α9 × α10 × α11 × α12)} {k : α1 → α2 → α3 → α4 → α5 → α6 → α7 → α8 → α9 → α10 → α11 → α12 → Option ρ} {Q : (α1 × α2 × α3 × α4 × α5 × α6 × α7 × α8 × α9 × α10 × α11 × α12) → Prop} (h : ev x Q) (hk : ∀ (x1 : α1) (x2 : α2) (x3 : α3) (x4 : α4) (x5 : α5) (x6 : α6) (x7 : α7) (x8 : α8) (x9 : α9) (x10 : α10) (x11 : α11) (x12 : α12), Q (x1, x2, x3, x4, x5, x6, x7, x8, x9, x10, x11, x12) → ev (k x1 x2 x3 x4 x5 x6 x7 x8 x9 x10 x11 x12) P) : ev (zb12 x k) P := by
  obtain ⟨u, e, q⟩ := h
  subst e
  exact hk (u.1) (u.2.1) (u.2.2.1) (u.2.2.2.1) (u.2.2.2.2.1) (u.2.2.2.2.2.1) (u.2.2.2.2.2.2.1) (u.2.2.2.2.2.2.2.1) (u.2.2.2.2.2.2.2.2.1) (u.2.2.2.2.2.2.2.2.2.1) (u.2.2.2.2.2.2.2.2.2.2.1) (u.2.2.2.2.2.2.2.2.2.2.2) q
theorem ev_j12 {α1 α2 α3 α4 α5 α6 α7 α8 α9 α10 α11 α12 ρ : Type} {P : ρ → Prop} {kk : α1 → α2 → α3 → α4 → α5 → α6 → α7 → α8 → α9 → α10 → α11 → α12 → Option ρ} {b : (α1 → α2 → α3 → α4 → α5 → α6 → α7 → α8 → α9 → α10 → α11 → α12 → Option ρ) → Option ρ} (J : α1 → α2 → α3 → α4 → α5 → α6 → α7 → α8 → α9 → α10 → α11 → α12 → Prop) (h1 : ∀ (x1 : α1) (x2 : α2) (x3 : α3) (x4 : α4) (x5 : α5) (x6 : α6) (x7 : α7) (x8 : α8) (x9 : α9) (x10 : α10) (x11 : α11) (x12 : α12), J x1 x2 x3 x4 x5 x6 x7 x8 x9 x10 x11 x12 → ev (kk x1 x2 x3 x4 x5 x6 x7 x8 x9 x10 x11 x12) P) (h2 : ∀ k' : α1 → α2 → α3 → α4 → α5 → α6 → α7 → α8 → α9 → α10 → α11 → α12 → Option ρ, (∀ (x1 : α1) (x2 : α2) (x3 : α3) (x4 : α4) (x5 : α5) (x6 : α6) (x7 : α7) (x8 : α8) (x9 : α9) (x10 : α10) (x11 : α11) (x12 : α12), J x1 x2 x3 x4 x5 x6 x7 x8 x9 x10 x11 x12 → ev (k' x1 x2 x3 x4 x5 x6 x7 x8 x9 x10 x11 x12) P) → ev (b k') P) : ev (zj12 kk b) P := h2 kk h1
theorem ev_l12 {α1 α2 α3 α4 α5 α6 α7 α8 α9 α10 α11 α12 ρ : Type} {P : ρ → Prop} {b : α1 → α2 → α3 → α4 → α5 → α6 → α7 → α8 → α9 → α10 → α11 → α12 → (α1 → α2 → α3 → α4 → α5 → α6 → α7 → α8 → α9 → α10 → α11 → α12 → Option ρ) → Option ρ} (I : Nat → α1 → α2 → α3 → α4 → α5 → α6 → α7 → α8 → α9 → α10 → α11 → α12 → Prop) (h : ∀ (m : Nat) (x1 : α1) (x2 : α2) (x3 : α3) (x4 : α4) (x5 : α5) (x6 : α6) (x7 : α7) (x8 : α8) (x9 : α9) (x10 : α10) (x11 : α11) (x12 : α12) (ag : α1 → α2 → α3 → α4 → α5 → α6 → α7 → α8 → α9 → α10 → α11 → α12 → Option ρ), I m x1 x2 x3 x4 x5 x6 x7 x8 x9 x10 x11 x12 → (∀ (m' : Nat) (y1 : α1) (y2 : α2) (y3 : α3) (y4 : α4) (y5 : α5) (y6 : α6) (y7 : α7) (y8 : α8) (y9 : α9) (y10 : α10) (y11 : α11) (y12 : α12), m' < m → I m' y1 y2 y3 y4 y5 y6 y7 y8 y9 y10 y11 y12 → ev (ag y1 y2 y3 y4 y5 y6 y7 y8 y9 y10 y11 y12) P) → ev (b x1 x2 x3 x4 x5 x6 x7 x8 x9 x10 x11 x12 ag) P) {f m : Nat} {x1 : α1} {x2 : α2} {x3 : α3} {x4 : α4} {x5 : α5} {x6 : α6} {x7 : α7} {x8 : α8} {x9 : α9} {x10 : α10} {x11 : α11} {x12 : α12} (hm : m < f) (h0 : I m x1 x2 x3 x4 x5 x6 x7 x8 x9 x10 x11 x12) : ev (zl12 b f x1 x2 x3 x4 x5 x6 x7 x8 x9 x10 x11 x12) P := by
  induction f generalizing m x1 x2 x3 x4 x5 x6 x7 x8 x9 x10 x11 x12 with
  | zero => exact absurd hm (Nat.not_lt_zero m)
  | succ f ih => exact h m x1 x2 x3 x4 x5 x6 x7 x8 x9 x10 x11 x12 _ h0 (fun m' y1 y2 y3 y4 y5 y6 y7 y8 y9 y10 y11 y12 hl hi => ih (Nat.lt_of_lt_of_le hl (Nat.le_of_lt_succ hm)) hi)
