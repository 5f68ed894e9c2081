def f_Numbers_at (n : Nat) (g_all : Nat → Int32) (p1 : Int32) : Option (Int32) :=
  if p1 < 0 then (
    some ((0 : Int32))) else (
    if (nI n) ≤ p1 then (
      some ((0 : Int32))) else (
      zg (zin p1 n) <|
      some (g_all p1.toNatClampNeg)))
def f_Numbers_put (n : Nat) (g_all : Nat → Int32) (p1 : Int32) (p2 : Int32) : Option ((Nat → Int32)) :=
  if p1 < 0 then (
    some (g_all)) else (
    if (nI n) ≤ p1 then (
      some (g_all)) else (
      zg (zin p1 n) <|
      zn (upd g_all p1.toNatClampNeg p2) fun (g4 : Nat → Int32) =>
      some (g4)))
def f_X_refuse (g_refused_all : Nat → Int32) (p1 : Int32) : Option (Int32 × (Nat → Int32)) :=
  zb1 (f_Numbers_at 7 g_refused_all (-p1)) fun (r1 : Int32) =>
  zb1 (f_Numbers_put 7 g_refused_all (-p1) (r1 + (1 : Int32))) fun (g_refused_all_3 : Nat → Int32) =>
  some (p1, g_refused_all_3)
def f_Letters_size (v_count : Int32) : Option (Int32) :=
  some (v_count)
def f_Letters_append (v_count : Int32) (g_all_all : Nat → Int32) (p1 : Int32) : Option (Int32 × (Nat → Int32)) :=
  if (96 : Int32) ≤ v_count then (
    some (v_count, g_all_all)) else (
    zb1 (f_Numbers_put 96 g_all_all v_count p1) fun (g_all_all_2 : Nat → Int32) =>
    zn (v_count + (1 : Int32)) fun (x4 : Int32) =>
    some (x4, g_all_all_2))
def f_X_letter (v_letters_count : Int32) (g_letters_all_all : Nat → Int32) (g_refused_all : Nat → Int32) (p1 : Int32) : Option (Int32 × Int32 × (Nat → Int32) × (Nat → Int32)) :=
  if 0 ≤ p1 then (
    zj1 (fun (_ : Unit) =>
      zb2 (f_X_refuse g_refused_all (-6 : Int32)) fun (r2 : Int32) (g_refused_all_3 : Nat → Int32) =>
      some (r2, v_letters_count, g_letters_all_all, g_refused_all_3)) fun k5 =>
    if (255 : Int32) < p1 then (
      k5 ()) else (
      zb1 (f_Letters_size v_letters_count) fun (r7 : Int32) =>
      if r7 < (96 : Int32) then (
        zb2 (f_Letters_append v_letters_count g_letters_all_all p1) fun (v_letters_count_10 : Int32) (g_letters_all_all_11 : Nat → Int32) =>
        zb1 (f_Letters_size v_letters_count_10) fun (r13 : Int32) =>
        some (r13, v_letters_count_10, g_letters_all_all_11, g_refused_all)) else (
        k5 ()))) else (
    zb2 (f_X_refuse g_refused_all (-4 : Int32)) fun (r15 : Int32) (g_refused_all_16 : Nat → Int32) =>
    some (r15, v_letters_count, g_letters_all_all, g_refused_all_16))
def f_Numbers_takeOver (n_p1 : Nat) (n : Nat) (g_p1_all : Nat → Int32) (g_all : Nat → Int32) : Option ((Nat → Int32)) :=
  zl2 (fun (l2_1 : Int32) (g_all_2 : Nat → Int32) again3 =>
    if (nI n) ≤ l2_1 then (
      some (g_all_2)) else (
      zb1 (f_Numbers_at n_p1 g_p1_all l2_1) fun (r5 : Int32) =>
      zg (zin l2_1 n) <|
      zn (upd g_all_2 l2_1.toNatClampNeg r5) fun (g8 : Nat → Int32) =>
      zn (l2_1 + (1 : Int32)) fun (x9 : Int32) =>
      again3 x9 g8)) zF (0 : Int32) g_all
def f_Town_takeOver (v_p1_breath : Int32) (v_p1_fine : Int32) (v_p1_home : Int32) (g_p1_kinds_all : Nat → Int32) (v_breath : Int32) (v_fine : Int32) (v_home : Int32) (g_kinds_all : Nat → Int32) : Option (Int32 × Int32 × Int32 × (Nat → Int32)) :=
  zb1 (f_Numbers_takeOver 36 36 g_p1_kinds_all g_kinds_all) fun (g_kinds_all_1 : Nat → Int32) =>
  some (v_p1_breath, v_p1_fine, v_p1_home, g_kinds_all_1)
def f_Letters_formOf (p0 : Int32) : Option (Nat) :=
  if p0 = (98 : Int32) then (
    some (3)) else (
  if p0 = (102 : Int32) then (
    some (3)) else (
  if p0 = (104 : Int32) then (
    some (2)) else (
  if p0 = (107 : Int32) then (
    some (0)) else (
  if p0 = (118 : Int32) then (
    some (1)) else (
    some (4))))))
def f_String_isEmpty (p0 : Nat) : Option (Int32) :=
  zg (p0 < 6) <|
  zg (p0 < 6) <|
  if (nI (zSL p0)) = 0 then (
    some ((1 : Int32))) else (
    some ((0 : Int32)))
def f_String_coder (p0 : Nat) : Option (Int32) :=
  if (1 : Int32) = 0 then (
    zg (zi2b (1 : Int32) = (1 : Int32)) <|
    some ((1 : Int32))) else (
    zg (p0 < 6) <|
    zg (zi2b (0 : Int32) = (0 : Int32)) <|
    some ((0 : Int32)))
def f_String_length (p0 : Nat) : Option (Int32) :=
  zg (p0 < 6) <|
  zg (p0 < 6) <|
  zg (p0 < 6) <|
  zb1 (f_String_coder p0) fun (r4 : Int32) =>
  some (zshr (nI (zSL p0)) r4)
def f_String_isLatin1 (p0 : Nat) : Option (Int32) :=
  if (1 : Int32) = 0 then (
    some ((0 : Int32))) else (
    zg (p0 < 6) <|
    if (0 : Int32) = 0 then (
      some ((1 : Int32))) else (
      some ((0 : Int32))))
def f_Preconditions_checkIndex (p0 : Int32) (p1 : Int32) : Option (Int32) :=
  zj1 (fun (_ : Unit) =>
    none) fun k1 =>
  if p0 < 0 then (
    k1 ()) else (
    if p0 < p1 then (
      some (p0)) else (
      k1 ()))
def f_String_checkIndex (p0 : Int32) (p1 : Int32) : Option (Unit) :=
  zb1 (f_Preconditions_checkIndex p0 p1) fun (r1 : Int32) =>
  some ()
def f_StringLatin1_charAt (p0 : Nat) (p1 : Int32) : Option (Int32) :=
  zg (p0 < 6) <|
  zb1 (f_String_checkIndex p1 (nI (zSL p0))) fun (_ : Unit) =>
  zg (p0 < 6) <|
  zg (zin p1 (zSL p0)) <|
  zg (zi2c (zi2c ((zSB p0 p1) &&& (255 : Int32))) = (zi2c ((zSB p0 p1) &&& (255 : Int32)))) <|
  some (zi2c ((zSB p0 p1) &&& (255 : Int32)))
def f_String_charAt (p0 : Nat) (p1 : Int32) : Option (Int32) :=
  zg (p0 < 6) <|
  zb1 (f_String_isLatin1 p0) fun (r2 : Int32) =>
  if r2 = 0 then (
    none) else (
    zg (p0 < 6) <|
    zb1 (f_StringLatin1_charAt p0 p1) fun (r6 : Int32) =>
    zg (zi2c r6 = r6) <|
    some (r6))
def f_StringLatin1_canEncode (p0 : Int32) : Option (Int32) :=
  if p0 < 0 then (
    some ((0 : Int32))) else (
    if (255 : Int32) < p0 then (
      some ((0 : Int32))) else (
      some ((1 : Int32))))
def f_StringLatin1_indexOfChar (p0 : Nat) (p1 : Int32) (p2 : Int32) (p3 : Int32) : Option (Int32) :=
  zn (zi2b p1) fun (x1 : Int32) =>
  zl1 (fun (l5_2 : Int32) again3 =>
    if p3 ≤ l5_2 then (
      some ((-1 : Int32))) else (
      zg (p0 < 6) <|
      zg (zin l5_2 (zSL p0)) <|
      if (zSB p0 l5_2) = x1 then (
        some (l5_2)) else (
        zn (l5_2 + (1 : Int32)) fun (x8 : Int32) =>
        again3 x8))) zF p2
def f_StringLatin1_indexOf (p0 : Nat) (p1 : Int32) (p2 : Int32) (p3 : Int32) : Option (Int32) :=
  zb1 (f_StringLatin1_canEncode p1) fun (r1 : Int32) =>
  if r1 = 0 then (
    some ((-1 : Int32))) else (
    zn (zmax p2 (0 : Int32)) fun (x4 : Int32) =>
    zg (p0 < 6) <|
    zn (zmin p3 (nI (zSL p0))) fun (x6 : Int32) =>
    if x4 < x6 then (
      zb1 (f_StringLatin1_indexOfChar p0 p1 x4 x6) fun (r8 : Int32) =>
      some (r8)) else (
      some ((-1 : Int32))))
def f_String_indexOf_1 (p0 : Nat) (p1 : Int32) (p2 : Int32) : Option (Int32) :=
  zg (p0 < 6) <|
  zb1 (f_String_isLatin1 p0) fun (r2 : Int32) =>
  if r2 = 0 then (
    none) else (
    zg (p0 < 6) <|
    zg (p0 < 6) <|
    zb1 (f_String_length p0) fun (r7 : Int32) =>
    zb1 (f_StringLatin1_indexOf p0 p1 p2 r7) fun (r9 : Int32) =>
    some (r9))
def f_String_indexOf_0 (p0 : Nat) (p1 : Int32) : Option (Int32) :=
  zg (p0 < 6) <|
  zb1 (f_String_indexOf_1 p0 p1 (0 : Int32)) fun (r2 : Int32) =>
  some (r2)
def f_Letters_fits (p0 : Int32) (p1 : Int32) : Option (Int32) :=
  if p0 = (75 : Int32) then (
    zg ((5) < 6) <|
    zb1 (f_String_indexOf_0 (5) (zi2c p1)) fun (r7 : Int32) =>
    if r7 < 0 then (
      some ((0 : Int32))) else (
      some ((1 : Int32)))) else (
    if p0 = (68 : Int32) then (
      if p1 < (48 : Int32) then (
        some ((0 : Int32))) else (
        if (57 : Int32) < p1 then (
          some ((0 : Int32))) else (
          some ((1 : Int32))))) else (
      if p1 = p0 then (
        some ((1 : Int32))) else (
        some ((0 : Int32)))))
def f_Letters_firstWrongLetter (v_count : Int32) (g_all_all : Nat → Int32) : Option (Int32) :=
  zj1 (fun (_ : Unit) =>
    if v_count = 0 then (
      some ((0 : Int32))) else (
      some ((-1 : Int32)))) fun k2 =>
  zl1 (fun (l1_3 : Int32) again4 =>
    if v_count ≤ l1_3 then (
      k2 ()) else (
      zb1 (f_Numbers_at 96 g_all_all l1_3) fun (r6 : Int32) =>
      zb1 (f_Letters_formOf r6) fun (r8 : Nat) =>
      zg (r8 < 6) <|
      zb1 (f_String_isEmpty r8) fun (r11 : Int32) =>
      if r11 = 0 then (
        zn (l1_3 + (1 : Int32)) fun (x14 : Int32) =>
        zj1 (fun (l1_15 : Int32) =>
          again4 l1_15) fun k16 =>
        zl2 (fun (l1_17 : Int32) (l3_18 : Int32) again19 =>
          zg (r8 < 6) <|
          zb1 (f_String_length r8) fun (r21 : Int32) =>
          if r21 ≤ l3_18 then (
            k16 l1_17) else (
            if v_count ≤ l1_17 then (
              some (l1_17)) else (
              zg (r8 < 6) <|
              zb1 (f_String_charAt r8 l3_18) fun (r26 : Int32) =>
              zb1 (f_Numbers_at 96 g_all_all l1_17) fun (r28 : Int32) =>
              zb1 (f_Letters_fits r26 r28) fun (r30 : Int32) =>
              if r30 = 0 then (
                some (l1_17)) else (
                zn (l1_17 + (1 : Int32)) fun (x33 : Int32) =>
                zn (l3_18 + (1 : Int32)) fun (x34 : Int32) =>
                again19 x33 x34)))) zF x14 (0 : Int32)) else (
        some (l1_3)))) zF (0 : Int32)
def f_Letters_digitAt (g_all_all : Nat → Int32) (p1 : Int32) : Option (Int32) :=
  zb1 (f_Numbers_at 96 g_all_all p1) fun (r1 : Int32) =>
  some (r1 - (48 : Int32))
def f_Letters_squareAt (g_all_all : Nat → Int32) (p1 : Int32) : Option (Int32) :=
  zb1 (f_Letters_digitAt g_all_all p1) fun (r1 : Int32) =>
  zb1 (f_Letters_digitAt g_all_all (p1 + (1 : Int32))) fun (r3 : Int32) =>
  some ((r1 * (10 : Int32)) + r3)
def f_Letters_kindAt (g_all_all : Nat → Int32) (p1 : Int32) : Option (Int32) :=
  zb1 (f_Numbers_at 96 g_all_all p1) fun (r1 : Int32) =>
  zg ((5) < 6) <|
  zb1 (f_String_indexOf_0 (5) (zi2c r1)) fun (r4 : Int32) =>
  some (r4)
def f_X_isSquare (p0 : Int32) : Option (Int32) :=
  if p0 < 0 then (
    some ((0 : Int32))) else (
    if (36 : Int32) ≤ p0 then (
      some ((0 : Int32))) else (
      some ((1 : Int32))))
def f_Town_trait (tn_p0 : Nat) (tf_p0 : Nat → Int32) (p1 : Int32) : Option (Int32) :=
  if p1 < 0 then (
    some ((0 : Int32))) else (
    if (nI tn_p0) ≤ p1 then (
      some ((0 : Int32))) else (
      zg (zin p1 tn_p0) <|
      some (tf_p0 p1.toNatClampNeg)))
def f_Town_rebuild (v_home : Int32) (g_kinds_all : Nat → Int32) (p1 : Int32) (p2 : Int32) (p3 : Int32) : Option (Int32 × (Nat → Int32)) :=
  if p2 < p1 then (
    some ((0 : Int32), g_kinds_all)) else (
    zb1 (f_X_isSquare p1) fun (r2 : Int32) =>
    if r2 = 0 then (
      some ((0 : Int32), g_kinds_all)) else (
      zb1 (f_X_isSquare p2) fun (r5 : Int32) =>
      if r5 = 0 then (
        some ((0 : Int32), g_kinds_all)) else (
        zj1 (fun (_ : Unit) =>
          zl2 (fun (l4_8 : Int32) (g_kinds_all_9 : Nat → Int32) again10 =>
            if p2 < l4_8 then (
              some ((1 : Int32), g_kinds_all_9)) else (
              zb1 (f_Numbers_put 36 g_kinds_all_9 l4_8 p3) fun (g_kinds_all_12 : Nat → Int32) =>
              zn (l4_8 + (1 : Int32)) fun (x14 : Int32) =>
              again10 x14 g_kinds_all_12)) zF p1 g_kinds_all) fun k15 =>
        if v_home < p1 then (
          k15 ()) else (
          if p2 < v_home then (
            k15 ()) else (
            zb1 (f_Town_trait 6 T_KIND_CAN_BE p3) fun (r18 : Int32) =>
            if r18 = 0 then (
              some ((0 : Int32), g_kinds_all)) else (
              k15 ()))))))
def f_Town_canBe (g_kinds_all : Nat → Int32) (p1 : Int32) : Option (Int32) :=
  zb1 (f_X_isSquare p1) fun (r1 : Int32) =>
  if r1 = 0 then (
    some ((0 : Int32))) else (
    zb1 (f_Numbers_at 36 g_kinds_all p1) fun (r4 : Int32) =>
    zb1 (f_Town_trait 6 T_KIND_CAN_BE r4) fun (r6 : Int32) =>
    if r6 = 0 then (
      some ((0 : Int32))) else (
      some ((1 : Int32))))
def f_Town_moveHome (v_home : Int32) (g_kinds_all : Nat → Int32) (p1 : Int32) : Option (Int32 × Int32) :=
  zb1 (f_Town_canBe g_kinds_all p1) fun (r1 : Int32) =>
  if r1 = 0 then (
    some ((0 : Int32), v_home)) else (
    some ((1 : Int32), p1))
def f_Town_changeFine (v_fine : Int32) (p1 : Int32) : Option (Int32 × Int32) :=
  if p1 < 0 then (
    some ((0 : Int32), v_fine)) else (
    if p1 ≤ (9 : Int32) then (
      some ((1 : Int32), p1)) else (
      some ((0 : Int32), v_fine)))
def f_Town_changeBreath (v_breath : Int32) (p1 : Int32) : Option (Int32 × Int32) :=
  if p1 < (1 : Int32) then (
    some ((0 : Int32), v_breath)) else (
    if p1 ≤ (9 : Int32) then (
      some ((1 : Int32), p1)) else (
      some ((0 : Int32), v_breath)))
def f_Letters_obey (v_p1_breath : Int32) (v_p1_fine : Int32) (v_p1_home : Int32) (g_p1_kinds_all : Nat → Int32) (g_all_all : Nat → Int32) (p2 : Int32) : Option (Int32 × Int32 × Int32 × Int32 × (Nat → Int32)) :=
  zb1 (f_Numbers_at 96 g_all_all p2) fun (r1 : Int32) =>
  if r1 = (98 : Int32) then (
    zb1 (f_Letters_digitAt g_all_all (p2 + (1 : Int32))) fun (r4 : Int32) =>
    zb2 (f_Town_changeBreath v_p1_breath r4) fun (r6 : Int32) (v_p1_breath_7 : Int32) =>
    zg (r6 &&& 1 = r6) <|
    some (r6, v_p1_breath_7, v_p1_fine, v_p1_home, g_p1_kinds_all)) else (
  if r1 = (102 : Int32) then (
    zb1 (f_Letters_digitAt g_all_all (p2 + (1 : Int32))) fun (r11 : Int32) =>
    zb2 (f_Town_changeFine v_p1_fine r11) fun (r13 : Int32) (v_p1_fine_14 : Int32) =>
    zg (r13 &&& 1 = r13) <|
    some (r13, v_p1_breath, v_p1_fine_14, v_p1_home, g_p1_kinds_all)) else (
  if r1 = (104 : Int32) then (
    zb1 (f_Letters_squareAt g_all_all (p2 + (1 : Int32))) fun (r18 : Int32) =>
    zb2 (f_Town_moveHome v_p1_home g_p1_kinds_all r18) fun (r20 : Int32) (v_p1_home_21 : Int32) =>
    zg (r20 &&& 1 = r20) <|
    some (r20, v_p1_breath, v_p1_fine, v_p1_home_21, g_p1_kinds_all)) else (
  if r1 = (107 : Int32) then (
    zb1 (f_Letters_squareAt g_all_all (p2 + (2 : Int32))) fun (r25 : Int32) =>
    zb1 (f_Letters_squareAt g_all_all (p2 + (2 : Int32))) fun (r27 : Int32) =>
    zb1 (f_Letters_kindAt g_all_all (p2 + (1 : Int32))) fun (r29 : Int32) =>
    zb2 (f_Town_rebuild v_p1_home g_p1_kinds_all r25 r27 r29) fun (r31 : Int32) (g_p1_kinds_all_32 : Nat → Int32) =>
    zg (r31 &&& 1 = r31) <|
    some (r31, v_p1_breath, v_p1_fine, v_p1_home, g_p1_kinds_all_32)) else (
  if r1 = (118 : Int32) then (
    zb1 (f_Letters_squareAt g_all_all (p2 + (2 : Int32))) fun (r36 : Int32) =>
    zb1 (f_Letters_squareAt g_all_all (p2 + (4 : Int32))) fun (r38 : Int32) =>
    zb1 (f_Letters_kindAt g_all_all (p2 + (1 : Int32))) fun (r40 : Int32) =>
    zb2 (f_Town_rebuild v_p1_home g_p1_kinds_all r36 r38 r40) fun (r42 : Int32) (g_p1_kinds_all_43 : Nat → Int32) =>
    zg (r42 &&& 1 = r42) <|
    some (r42, v_p1_breath, v_p1_fine, v_p1_home, g_p1_kinds_all_43)) else (
    some ((0 : Int32), v_p1_breath, v_p1_fine, v_p1_home, g_p1_kinds_all))))))
def f_Letters_build (v_p1_breath : Int32) (v_p1_fine : Int32) (v_p1_home : Int32) (g_p1_kinds_all : Nat → Int32) (v_count : Int32) (g_all_all : Nat → Int32) : Option (Int32 × Int32 × Int32 × Int32 × (Nat → Int32)) :=
  zb1 (f_Letters_firstWrongLetter v_count g_all_all) fun (r1 : Int32) =>
  if r1 = (-1 : Int32) then (
    zj5 (fun (l4_4 : Int32) (v_p1_breath_5 : Int32) (v_p1_fine_6 : Int32) (v_p1_home_7 : Int32) (g_p1_kinds_all_8 : Nat → Int32) =>
      some ((-2000 : Int32) - l4_4, v_p1_breath_5, v_p1_fine_6, v_p1_home_7, g_p1_kinds_all_8)) fun k9 =>
    zl6 (fun (l3_10 : Int32) (l4_11 : Int32) (v_p1_breath_12 : Int32) (v_p1_fine_13 : Int32) (v_p1_home_14 : Int32) (g_p1_kinds_all_15 : Nat → Int32) again16 =>
      if v_count ≤ l4_11 then (
        some (l3_10, v_p1_breath_12, v_p1_fine_13, v_p1_home_14, g_p1_kinds_all_15)) else (
        zb5 (f_Letters_obey v_p1_breath_12 v_p1_fine_13 v_p1_home_14 g_p1_kinds_all_15 g_all_all l4_11) fun (r18 : Int32) (v_p1_breath_19 : Int32) (v_p1_fine_20 : Int32) (v_p1_home_21 : Int32) (g_p1_kinds_all_22 : Nat → Int32) =>
        if r18 = 0 then (
          k9 l4_11 v_p1_breath_19 v_p1_fine_20 v_p1_home_21 g_p1_kinds_all_22) else (
          zn (l3_10 + (1 : Int32)) fun (x25 : Int32) =>
          zb1 (f_Numbers_at 96 g_all_all l4_11) fun (r26 : Int32) =>
          zb1 (f_Letters_formOf r26) fun (r28 : Nat) =>
          zg (r28 < 6) <|
          zb1 (f_String_length r28) fun (r31 : Int32) =>
          zn (l4_11 + ((1 : Int32) + r31)) fun (x33 : Int32) =>
          again16 x25 x33 v_p1_breath_19 v_p1_fine_20 v_p1_home_21 g_p1_kinds_all_22))) zF (0 : Int32) (0 : Int32) v_p1_breath v_p1_fine v_p1_home g_p1_kinds_all) else (
    some ((-1000 : Int32) - r1, v_p1_breath, v_p1_fine, v_p1_home, g_p1_kinds_all))
def f_Letters_forget (v_count : Int32) : Option (Int32) :=
  some ((0 : Int32))
def f_X_town (v_letters_count : Int32) (g_letters_all_all : Nat → Int32) (v_town_breath : Int32) (v_town_fine : Int32) (v_town_home : Int32) (g_town_kinds_all : Nat → Int32) (v_trial_breath : Int32) (v_trial_fine : Int32) (v_trial_home : Int32) (g_trial_kinds_all : Nat → Int32) : Option (Int32 × Int32 × Int32 × Int32 × Int32 × (Nat → Int32) × Int32 × Int32 × Int32 × (Nat → Int32)) :=
  zb4 (f_Town_takeOver v_town_breath v_town_fine v_town_home g_town_kinds_all v_trial_breath v_trial_fine v_trial_home g_trial_kinds_all) fun (v_trial_breath_1 : Int32) (v_trial_fine_2 : Int32) (v_trial_home_3 : Int32) (g_trial_kinds_all_4 : Nat → Int32) =>
  zb5 (f_Letters_build v_trial_breath_1 v_trial_fine_2 v_trial_home_3 g_trial_kinds_all_4 v_letters_count g_letters_all_all) fun (r6 : Int32) (v_trial_breath_7 : Int32) (v_trial_fine_8 : Int32) (v_trial_home_9 : Int32) (g_trial_kinds_all_10 : Nat → Int32) =>
  zj4 (fun (v_town_breath_12 : Int32) (v_town_fine_13 : Int32) (v_town_home_14 : Int32) (g_town_kinds_all_15 : Nat → Int32) =>
    zb1 (f_Letters_forget v_letters_count) fun (v_letters_count_16 : Int32) =>
    some (r6, v_letters_count_16, v_town_breath_12, v_town_fine_13, v_town_home_14, g_town_kinds_all_15, v_trial_breath_7, v_trial_fine_8, v_trial_home_9, g_trial_kinds_all_10)) fun k18 =>
  if r6 < 0 then (
    k18 v_town_breath v_town_fine v_town_home g_town_kinds_all) else (
    zb4 (f_Town_takeOver v_trial_breath_7 v_trial_fine_8 v_trial_home_9 g_trial_kinds_all_10 v_town_breath v_town_fine v_town_home g_town_kinds_all) fun (v_town_breath_20 : Int32) (v_town_fine_21 : Int32) (v_town_home_22 : Int32) (g_town_kinds_all_23 : Nat → Int32) =>
    k18 v_town_breath_20 v_town_fine_21 v_town_home_22 g_town_kinds_all_23)
def f_Town_turnsAreCorners (g_kinds_all : Nat → Int32) (p1 : Int32) : Option (Int32) :=
  zb1 (f_Numbers_at 36 g_kinds_all p1) fun (r1 : Int32) =>
  zb1 (f_Town_trait 6 T_KIND_CORNER r1) fun (r3 : Int32) =>
  if r3 = 0 then (
    some ((0 : Int32))) else (
    some ((1 : Int32)))
def f_Town_hearing (g_kinds_all : Nat → Int32) (p1 : Int32) : Option (Int32) :=
  zb1 (f_Numbers_at 36 g_kinds_all p1) fun (r1 : Int32) =>
  zb1 (f_Town_trait 6 T_KIND_HEARS r1) fun (r3 : Int32) =>
  some (r3)
def f_Town_wordsOn (g_kinds_all : Nat → Int32) (p1 : Int32) : Option (Int32) :=
  zb1 (f_Numbers_at 36 g_kinds_all p1) fun (r1 : Int32) =>
  zb1 (f_Town_trait 6 T_KIND_WORDS r1) fun (r3 : Int32) =>
  some (r3)
def f_Town_kindOf (g_kinds_all : Nat → Int32) (p1 : Int32) : Option (Int32) :=
  zb1 (f_Numbers_at 36 g_kinds_all p1) fun (r1 : Int32) =>
  some (r1)
def f_X_square (g_refused_all : Nat → Int32) (g_town_kinds_all : Nat → Int32) (p1 : Int32) (p2 : Int32) : Option (Int32 × (Nat → Int32)) :=
  zb1 (f_X_isSquare p1) fun (r1 : Int32) =>
  if r1 = 0 then (
    zb2 (f_X_refuse g_refused_all (-1 : Int32)) fun (r24 : Int32) (g_refused_all_25 : Nat → Int32) =>
    some (r24, g_refused_all_25)) else (
    if p2 = (0 : Int32) then (
      zb1 (f_Town_kindOf g_town_kinds_all p1) fun (r5 : Int32) =>
      some (r5, g_refused_all)) else (
    if p2 = (1 : Int32) then (
      zb1 (f_Town_canBe g_town_kinds_all p1) fun (r8 : Int32) =>
      if r8 = 0 then (
        some ((0 : Int32), g_refused_all)) else (
        some ((1 : Int32), g_refused_all))) else (
    if p2 = (2 : Int32) then (
      zb1 (f_Town_wordsOn g_town_kinds_all p1) fun (r12 : Int32) =>
      some (r12, g_refused_all)) else (
    if p2 = (3 : Int32) then (
      zb1 (f_Town_hearing g_town_kinds_all p1) fun (r15 : Int32) =>
      some (r15, g_refused_all)) else (
    if p2 = (4 : Int32) then (
      zb1 (f_Town_turnsAreCorners g_town_kinds_all p1) fun (r18 : Int32) =>
      if r18 = 0 then (
        some ((0 : Int32), g_refused_all)) else (
        some ((1 : Int32), g_refused_all))) else (
      zb2 (f_X_refuse g_refused_all (-2 : Int32)) fun (r21 : Int32) (g_refused_all_22 : Nat → Int32) =>
      some (r21, g_refused_all_22)))))))
def f_X_turnTo (g_refused_all : Nat → Int32) (v_town_home : Int32) (g_town_kinds_all : Nat → Int32) (p1 : Int32) (p2 : Int32) : Option (Int32 × (Nat → Int32) × (Nat → Int32)) :=
  zb1 (f_X_isSquare p1) fun (r1 : Int32) =>
  if r1 = 0 then (
    zb2 (f_X_refuse g_refused_all (-1 : Int32)) fun (r19 : Int32) (g_refused_all_20 : Nat → Int32) =>
    some (r19, g_refused_all_20, g_town_kinds_all)) else (
    zj1 (fun (_ : Unit) =>
      zb2 (f_X_refuse g_refused_all (-2 : Int32)) fun (r4 : Int32) (g_refused_all_5 : Nat → Int32) =>
      some (r4, g_refused_all_5, g_town_kinds_all)) fun k7 =>
    if p2 < 0 then (
      k7 ()) else (
      if p2 < (6 : Int32) then (
        zb1 (f_Town_kindOf g_town_kinds_all p1) fun (r10 : Int32) =>
        zb2 (f_Town_rebuild v_town_home g_town_kinds_all p1 p1 p2) fun (r12 : Int32) (g_town_kinds_all_13 : Nat → Int32) =>
        if r12 = 0 then (
          zb2 (f_X_refuse g_refused_all (-3 : Int32)) fun (r16 : Int32) (g_refused_all_17 : Nat → Int32) =>
          some (r16, g_refused_all_17, g_town_kinds_all_13)) else (
          some (r10, g_refused_all, g_town_kinds_all_13))) else (
        k7 ())))
def f_Town_breath (v_breath : Int32) : Option (Int32) :=
  some (v_breath)
def f_X_setBreath (g_refused_all : Nat → Int32) (v_town_breath : Int32) (p1 : Int32) : Option (Int32 × (Nat → Int32) × Int32) :=
  if (1 : Int32) ≤ p1 then (
    zb1 (f_Town_breath v_town_breath) fun (r2 : Int32) =>
    zb2 (f_Town_changeBreath v_town_breath p1) fun (r4 : Int32) (v_town_breath_5 : Int32) =>
    if r4 = 0 then (
      zb2 (f_X_refuse g_refused_all (-6 : Int32)) fun (r8 : Int32) (g_refused_all_9 : Nat → Int32) =>
      some (r8, g_refused_all_9, v_town_breath_5)) else (
      some (r2, g_refused_all, v_town_breath_5))) else (
    zb2 (f_X_refuse g_refused_all (-4 : Int32)) fun (r11 : Int32) (g_refused_all_12 : Nat → Int32) =>
    some (r11, g_refused_all_12, v_town_breath))
def f_Town_fine (v_fine : Int32) : Option (Int32) :=
  some (v_fine)
def f_X_setFine (g_refused_all : Nat → Int32) (v_town_fine : Int32) (p1 : Int32) : Option (Int32 × (Nat → Int32) × Int32) :=
  if 0 ≤ p1 then (
    zb1 (f_Town_fine v_town_fine) fun (r2 : Int32) =>
    zb2 (f_Town_changeFine v_town_fine p1) fun (r4 : Int32) (v_town_fine_5 : Int32) =>
    if r4 = 0 then (
      zb2 (f_X_refuse g_refused_all (-6 : Int32)) fun (r8 : Int32) (g_refused_all_9 : Nat → Int32) =>
      some (r8, g_refused_all_9, v_town_fine_5)) else (
      some (r2, g_refused_all, v_town_fine_5))) else (
    zb2 (f_X_refuse g_refused_all (-4 : Int32)) fun (r11 : Int32) (g_refused_all_12 : Nat → Int32) =>
    some (r11, g_refused_all_12, v_town_fine))
def f_Town_home (v_home : Int32) : Option (Int32) :=
  some (v_home)
def f_X_setHome (g_refused_all : Nat → Int32) (v_town_home : Int32) (g_town_kinds_all : Nat → Int32) (p1 : Int32) : Option (Int32 × (Nat → Int32) × Int32) :=
  zb1 (f_X_isSquare p1) fun (r1 : Int32) =>
  if r1 = 0 then (
    zb2 (f_X_refuse g_refused_all (-1 : Int32)) fun (r13 : Int32) (g_refused_all_14 : Nat → Int32) =>
    some (r13, g_refused_all_14, v_town_home)) else (
    zb1 (f_Town_home v_town_home) fun (r4 : Int32) =>
    zb2 (f_Town_moveHome v_town_home g_town_kinds_all p1) fun (r6 : Int32) (v_town_home_7 : Int32) =>
    if r6 = 0 then (
      zb2 (f_X_refuse g_refused_all (-3 : Int32)) fun (r10 : Int32) (g_refused_all_11 : Nat → Int32) =>
      some (r10, g_refused_all_11, v_town_home_7)) else (
      some (r4, g_refused_all, v_town_home_7)))
def f_X_set (g_refused_all : Nat → Int32) (v_town_breath : Int32) (v_town_fine : Int32) (v_town_home : Int32) (g_town_kinds_all : Nat → Int32) (p1 : Int32) (p2 : Int32) : Option (Int32 × (Nat → Int32) × Int32 × Int32 × Int32) :=
  if p1 = (0 : Int32) then (
    zb3 (f_X_setHome g_refused_all v_town_home g_town_kinds_all p2) fun (r2 : Int32) (g_refused_all_3 : Nat → Int32) (v_town_home_4 : Int32) =>
    some (r2, g_refused_all_3, v_town_breath, v_town_fine, v_town_home_4)) else (
  if p1 = (1 : Int32) then (
    zb3 (f_X_setFine g_refused_all v_town_fine p2) fun (r7 : Int32) (g_refused_all_8 : Nat → Int32) (v_town_fine_9 : Int32) =>
    some (r7, g_refused_all_8, v_town_breath, v_town_fine_9, v_town_home)) else (
  if p1 = (2 : Int32) then (
    zb3 (f_X_setBreath g_refused_all v_town_breath p2) fun (r12 : Int32) (g_refused_all_13 : Nat → Int32) (v_town_breath_14 : Int32) =>
    some (r12, g_refused_all_13, v_town_breath_14, v_town_fine, v_town_home)) else (
    zb2 (f_X_refuse g_refused_all (-2 : Int32)) fun (r16 : Int32) (g_refused_all_17 : Nat → Int32) =>
    some (r16, g_refused_all_17, v_town_breath, v_town_fine, v_town_home))))
def f_Town_apart (p0 : Int32) (p1 : Int32) : Option (Int32) :=
  zn (zabs ((p0 / (6 : Int32)) - (p1 / (6 : Int32)))) fun (x1 : Int32) =>
  zn (zabs ((zrem p0 (6 : Int32)) - (zrem p1 (6 : Int32)))) fun (x2 : Int32) =>
  some (x1 + x2)
def f_Town_heardBy (g_kinds_all : Nat → Int32) (p1 : Int32) : Option (Int32) :=
  zl2 (fun (l2_1 : Int32) (l3_2 : Int32) again3 =>
    if (36 : Int32) ≤ l3_2 then (
      some (l2_1)) else (
      zb1 (f_Town_apart l3_2 p1) fun (r5 : Int32) =>
      zb1 (f_Town_hearing g_kinds_all l3_2) fun (r7 : Int32) =>
      zj1 (fun (s9 : Int32) =>
        zn (l2_1 + s9) fun (x10 : Int32) =>
        zn (l3_2 + (1 : Int32)) fun (x11 : Int32) =>
        again3 x10 x11) fun k12 =>
      if r7 < r5 then (
        k12 (0 : Int32)) else (
        k12 (1 : Int32)))) zF (0 : Int32) (0 : Int32)
def f_X_heard (g_refused_all : Nat → Int32) (g_town_kinds_all : Nat → Int32) (p1 : Int32) : Option (Int32 × (Nat → Int32)) :=
  zb1 (f_X_isSquare p1) fun (r1 : Int32) =>
  if r1 = 0 then (
    zb2 (f_X_refuse g_refused_all (-1 : Int32)) fun (r6 : Int32) (g_refused_all_7 : Nat → Int32) =>
    some (r6, g_refused_all_7)) else (
    zb1 (f_Town_heardBy g_town_kinds_all p1) fun (r4 : Int32) =>
    some (r4, g_refused_all))
def f_X_isRowOfWays (v_toldCount : Int32) (g_told_all : Nat → Int32) : Option (Int32) :=
  zl1 (fun (l1_1 : Int32) again2 =>
    if v_toldCount ≤ l1_1 then (
      some ((1 : Int32))) else (
      zb1 (f_Numbers_at 20 g_told_all l1_1) fun (r4 : Int32) =>
      if r4 < (4 : Int32) then (
        zn (l1_1 + (1 : Int32)) fun (x7 : Int32) =>
        again2 x7) else (
        some ((0 : Int32))))) zF (0 : Int32)
def f_Numbers_fill (n : Nat) (g_all : Nat → Int32) (p1 : Int32) : Option ((Nat → Int32)) :=
  zl2 (fun (l2_1 : Int32) (g_all_2 : Nat → Int32) again3 =>
    if (nI n) ≤ l2_1 then (
      some (g_all_2)) else (
      zg (zin l2_1 n) <|
      zn (upd g_all_2 l2_1.toNatClampNeg p1) fun (g6 : Nat → Int32) =>
      zn (l2_1 + (1 : Int32)) fun (x7 : Int32) =>
      again3 x7 g6)) zF (0 : Int32) g_all
def f_Stroll_begin (v_allCorners : Int32) (v_allCuts : Int32) (v_allWords : Int32) (v_came : Int32) (v_longestRun : Int32) (v_run : Int32) (v_square : Int32) (g_spoken_all : Nat → Int32) (v_town_home : Int32) : Option (Int32 × Int32 × Int32 × Int32 × Int32 × Int32 × Int32 × (Nat → Int32)) :=
  zb1 (f_Town_home v_town_home) fun (r1 : Int32) =>
  zb1 (f_Numbers_fill 36 g_spoken_all (0 : Int32)) fun (g_spoken_all_3 : Nat → Int32) =>
  some ((0 : Int32), (0 : Int32), (0 : Int32), (4 : Int32), (0 : Int32), (0 : Int32), r1, g_spoken_all_3)
def f_Stroll_speak (v_allWords : Int32) (v_run : Int32) (v_square : Int32) (g_spoken_all : Nat → Int32) (g_town_kinds_all : Nat → Int32) : Option (Int32 × Int32 × (Nat → Int32)) :=
  zb1 (f_Town_wordsOn g_town_kinds_all v_square) fun (r1 : Int32) =>
  zn (v_allWords + r1) fun (x3 : Int32) =>
  zb1 (f_Numbers_at 36 g_spoken_all v_square) fun (r4 : Int32) =>
  zb1 (f_Numbers_put 36 g_spoken_all v_square (r4 + (1 : Int32))) fun (g_spoken_all_6 : Nat → Int32) =>
  zb1 (f_Town_wordsOn g_town_kinds_all v_square) fun (r8 : Int32) =>
  zn (v_run + r8) fun (x10 : Int32) =>
  some (x3, x10, g_spoken_all_6)
def f_Stroll_endRun (v_allCuts : Int32) (v_longestRun : Int32) (v_run : Int32) (v_town_breath : Int32) : Option (Int32 × Int32 × Int32) :=
  zb1 (f_Town_breath v_town_breath) fun (r1 : Int32) =>
  zj1 (fun (v_allCuts_3 : Int32) =>
    zn (zmax v_longestRun v_run) fun (x4 : Int32) =>
    some (v_allCuts_3, x4, (0 : Int32))) fun k5 =>
  if v_run ≤ 0 then (
    k5 v_allCuts) else (
    if r1 ≤ 0 then (
      k5 v_allCuts) else (
      zg (¬ r1 = 0) <|
      zn (v_allCuts + ((v_run - (1 : Int32)) / r1)) fun (x9 : Int32) =>
      k5 x9))
def f_Stroll_end (v_allCuts : Int32) (v_allWords : Int32) (v_longestRun : Int32) (v_run : Int32) (v_square : Int32) (g_spoken_all : Nat → Int32) (v_town_breath : Int32) (g_town_kinds_all : Nat → Int32) : Option (Int32 × Int32 × Int32 × Int32 × (Nat → Int32)) :=
  zb3 (f_Stroll_speak v_allWords v_run v_square g_spoken_all g_town_kinds_all) fun (v_allWords_1 : Int32) (v_run_2 : Int32) (g_spoken_all_3 : Nat → Int32) =>
  zb3 (f_Stroll_endRun v_allCuts v_longestRun v_run_2 v_town_breath) fun (v_allCuts_5 : Int32) (v_longestRun_6 : Int32) (v_run_7 : Int32) =>
  some (v_allCuts_5, v_allWords_1, v_longestRun_6, v_run_7, g_spoken_all_3)
def f_Town_beside (p0 : Int32) (p1 : Int32) : Option (Int32) :=
  zb1 (f_X_isSquare p0) fun (r1 : Int32) =>
  if r1 = 0 then (
    some ((-1 : Int32))) else (
    zn (zrem p0 (6 : Int32)) fun (x4 : Int32) =>
    if p1 = (0 : Int32) then (
      if p0 < (6 : Int32) then (
        some ((-1 : Int32))) else (
        some (p0 - (6 : Int32)))) else (
    if p1 = (1 : Int32) then (
      if x4 ≤ 0 then (
        some ((-1 : Int32))) else (
        some (p0 - (1 : Int32)))) else (
    if p1 = (2 : Int32) then (
      if (5 : Int32) ≤ x4 then (
        some ((-1 : Int32))) else (
        some (p0 + (1 : Int32)))) else (
    if p1 = (3 : Int32) then (
      if (30 : Int32) ≤ p0 then (
        some ((-1 : Int32))) else (
        some (p0 + (6 : Int32)))) else (
      some ((-1 : Int32)))))))
def f_Town_next (g_kinds_all : Nat → Int32) (p1 : Int32) (p2 : Int32) : Option (Int32) :=
  zb1 (f_Town_beside p1 p2) fun (r1 : Int32) =>
  zb1 (f_Town_canBe g_kinds_all r1) fun (r3 : Int32) =>
  if r3 = 0 then (
    some ((-1 : Int32))) else (
    some (r1))
def f_Town_isCorner (g_kinds_all : Nat → Int32) (p1 : Int32) (p2 : Int32) (p3 : Int32) : Option (Int32) :=
  if p2 = (4 : Int32) then (
    some ((0 : Int32))) else (
    if p2 = p3 then (
      some ((0 : Int32))) else (
      zb1 (f_Town_turnsAreCorners g_kinds_all p1) fun (r3 : Int32) =>
      if r3 = 0 then (
        some ((0 : Int32))) else (
        some ((1 : Int32)))))
def f_Stroll_go (v_allCorners : Int32) (v_allCuts : Int32) (v_allWords : Int32) (v_came : Int32) (v_longestRun : Int32) (v_run : Int32) (v_square : Int32) (g_spoken_all : Nat → Int32) (v_town_breath : Int32) (g_town_kinds_all : Nat → Int32) (p1 : Int32) : Option (Int32 × Int32 × Int32 × Int32 × Int32 × Int32 × Int32 × Int32 × (Nat → Int32)) :=
  zb1 (f_Town_next g_town_kinds_all v_square p1) fun (r1 : Int32) =>
  if r1 = (-1 : Int32) then (
    some ((0 : Int32), v_allCorners, v_allCuts, v_allWords, v_came, v_longestRun, v_run, v_square, g_spoken_all)) else (
    zb1 (f_Town_isCorner g_town_kinds_all v_square v_came p1) fun (r4 : Int32) =>
    zj6 (fun (v_allCorners_6 : Int32) (v_allCuts_7 : Int32) (v_allWords_8 : Int32) (v_longestRun_9 : Int32) (v_run_10 : Int32) (g_spoken_all_11 : Nat → Int32) =>
      some ((1 : Int32), v_allCorners_6, v_allCuts_7, v_allWords_8, p1, v_longestRun_9, v_run_10, r1, g_spoken_all_11)) fun k12 =>
    if r4 = 0 then (
      zb3 (f_Stroll_speak v_allWords v_run v_square g_spoken_all g_town_kinds_all) fun (v_allWords_14 : Int32) (v_run_15 : Int32) (g_spoken_all_16 : Nat → Int32) =>
      k12 v_allCorners v_allCuts v_allWords_14 v_longestRun v_run_15 g_spoken_all_16) else (
      zn (v_allCorners + (1 : Int32)) fun (x18 : Int32) =>
      zn (v_allCuts + (1 : Int32)) fun (x19 : Int32) =>
      zb3 (f_Stroll_endRun x19 v_longestRun v_run v_town_breath) fun (v_allCuts_20 : Int32) (v_longestRun_21 : Int32) (v_run_22 : Int32) =>
      k12 x18 v_allCuts_20 v_allWords v_longestRun_21 v_run_22 g_spoken_all))
def f_X_goTheRow (v_toldCount : Int32) (v_stroll_allCorners : Int32) (v_stroll_allCuts : Int32) (v_stroll_allWords : Int32) (v_stroll_came : Int32) (v_stroll_longestRun : Int32) (v_stroll_run : Int32) (v_stroll_square : Int32) (g_stroll_spoken_all : Nat → Int32) (g_told_all : Nat → Int32) (v_town_breath : Int32) (v_town_home : Int32) (g_town_kinds_all : Nat → Int32) : Option (Int32 × Int32 × Int32 × Int32 × Int32 × Int32 × Int32 × Int32 × (Nat → Int32)) :=
  zb8 (f_Stroll_begin v_stroll_allCorners v_stroll_allCuts v_stroll_allWords v_stroll_came v_stroll_longestRun v_stroll_run v_stroll_square g_stroll_spoken_all v_town_home) fun (v_stroll_allCorners_1 : Int32) (v_stroll_allCuts_2 : Int32) (v_stroll_allWords_3 : Int32) (v_stroll_came_4 : Int32) (v_stroll_longestRun_5 : Int32) (v_stroll_run_6 : Int32) (v_stroll_square_7 : Int32) (g_stroll_spoken_all_8 : Nat → Int32) =>
  zj9 (fun (l1_10 : Int32) (v_stroll_allCorners_11 : Int32) (v_stroll_allCuts_12 : Int32) (v_stroll_allWords_13 : Int32) (v_stroll_came_14 : Int32) (v_stroll_longestRun_15 : Int32) (v_stroll_run_16 : Int32) (v_stroll_square_17 : Int32) (g_stroll_spoken_all_18 : Nat → Int32) =>
    zb5 (f_Stroll_end v_stroll_allCuts_12 v_stroll_allWords_13 v_stroll_longestRun_15 v_stroll_run_16 v_stroll_square_17 g_stroll_spoken_all_18 v_town_breath g_town_kinds_all) fun (v_stroll_allCuts_19 : Int32) (v_stroll_allWords_20 : Int32) (v_stroll_longestRun_21 : Int32) (v_stroll_run_22 : Int32) (g_stroll_spoken_all_23 : Nat → Int32) =>
    some (l1_10, v_stroll_allCorners_11, v_stroll_allCuts_19, v_stroll_allWords_20, v_stroll_came_14, v_stroll_longestRun_21, v_stroll_run_22, v_stroll_square_17, g_stroll_spoken_all_23)) fun k25 =>
  zl10 (fun (l1_26 : Int32) (l2_27 : Int32) (v_stroll_allCorners_28 : Int32) (v_stroll_allCuts_29 : Int32) (v_stroll_allWords_30 : Int32) (v_stroll_came_31 : Int32) (v_stroll_longestRun_32 : Int32) (v_stroll_run_33 : Int32) (v_stroll_square_34 : Int32) (g_stroll_spoken_all_35 : Nat → Int32) again36 =>
    if v_toldCount ≤ l2_27 then (
      k25 l1_26 v_stroll_allCorners_28 v_stroll_allCuts_29 v_stroll_allWords_30 v_stroll_came_31 v_stroll_longestRun_32 v_stroll_run_33 v_stroll_square_34 g_stroll_spoken_all_35) else (
      if l1_26 = (-9 : Int32) then (
        zb1 (f_Numbers_at 20 g_told_all l2_27) fun (r39 : Int32) =>
        zb9 (f_Stroll_go v_stroll_allCorners_28 v_stroll_allCuts_29 v_stroll_allWords_30 v_stroll_came_31 v_stroll_longestRun_32 v_stroll_run_33 v_stroll_square_34 g_stroll_spoken_all_35 v_town_breath g_town_kinds_all r39) fun (r41 : Int32) (v_stroll_allCorners_42 : Int32) (v_stroll_allCuts_43 : Int32) (v_stroll_allWords_44 : Int32) (v_stroll_came_45 : Int32) (v_stroll_longestRun_46 : Int32) (v_stroll_run_47 : Int32) (v_stroll_square_48 : Int32) (g_stroll_spoken_all_49 : Nat → Int32) =>
        zj1 (fun (l1_51 : Int32) =>
          zn (l2_27 + (1 : Int32)) fun (x52 : Int32) =>
          again36 l1_51 x52 v_stroll_allCorners_42 v_stroll_allCuts_43 v_stroll_allWords_44 v_stroll_came_45 v_stroll_longestRun_46 v_stroll_run_47 v_stroll_square_48 g_stroll_spoken_all_49) fun k53 =>
        if r41 = 0 then (
          k53 l2_27) else (
          k53 l1_26)) else (
        k25 l1_26 v_stroll_allCorners_28 v_stroll_allCuts_29 v_stroll_allWords_30 v_stroll_came_31 v_stroll_longestRun_32 v_stroll_run_33 v_stroll_square_34 g_stroll_spoken_all_35))) zF (-9 : Int32) (0 : Int32) v_stroll_allCorners_1 v_stroll_allCuts_2 v_stroll_allWords_3 v_stroll_came_4 v_stroll_longestRun_5 v_stroll_run_6 v_stroll_square_7 g_stroll_spoken_all_8
def f_Town_fineOn (v_fine : Int32) (g_kinds_all : Nat → Int32) (p1 : Int32) : Option (Int32) :=
  zb1 (f_Town_wordsOn g_kinds_all p1) fun (r1 : Int32) =>
  if r1 = 0 then (
    some ((0 : Int32))) else (
    if v_fine = 0 then (
      some ((0 : Int32))) else (
      zb1 (f_Town_heardBy g_kinds_all p1) fun (r5 : Int32) =>
      some ((r1 * v_fine) * r5)))
def f_Stroll_allFines (g_spoken_all : Nat → Int32) (v_town_fine : Int32) (g_town_kinds_all : Nat → Int32) : Option (Int32) :=
  zl2 (fun (l1_1 : Int32) (l2_2 : Int32) again3 =>
    if (36 : Int32) ≤ l2_2 then (
      some (l1_1)) else (
      zb1 (f_Numbers_at 36 g_spoken_all l2_2) fun (r5 : Int32) =>
      zb1 (f_Town_fineOn v_town_fine g_town_kinds_all l2_2) fun (r7 : Int32) =>
      zn (l1_1 + (r5 * r7)) fun (x9 : Int32) =>
      zn (l2_2 + (1 : Int32)) fun (x10 : Int32) =>
      again3 x9 x10)) zF (0 : Int32) (0 : Int32)
def f_Stroll_answer (v_allCorners : Int32) (v_allCuts : Int32) (v_allWords : Int32) (v_longestRun : Int32) (v_square : Int32) (g_spoken_all : Nat → Int32) (v_town_fine : Int32) (g_town_kinds_all : Nat → Int32) (p1 : Int32) : Option (Int32) :=
  if p1 = (1 : Int32) then (
    some (v_square)) else (
  if p1 = (2 : Int32) then (
    some (v_allWords)) else (
  if p1 = (3 : Int32) then (
    some (v_allCorners)) else (
  if p1 = (4 : Int32) then (
    some (v_allCuts)) else (
  if p1 = (5 : Int32) then (
    zb1 (f_Stroll_allFines g_spoken_all v_town_fine g_town_kinds_all) fun (r6 : Int32) =>
    some (r6)) else (
  if p1 = (6 : Int32) then (
    some (v_longestRun)) else (
    some ((-9 : Int32))))))))
def f_X_walk (v_toldCount : Int32) (g_refused_all : Nat → Int32) (v_stroll_allCorners : Int32) (v_stroll_allCuts : Int32) (v_stroll_allWords : Int32) (v_stroll_came : Int32) (v_stroll_longestRun : Int32) (v_stroll_run : Int32) (v_stroll_square : Int32) (g_stroll_spoken_all : Nat → Int32) (g_told_all : Nat → Int32) (v_town_breath : Int32) (v_town_fine : Int32) (v_town_home : Int32) (g_town_kinds_all : Nat → Int32) (p1 : Int32) : Option (Int32 × (Nat → Int32) × Int32 × Int32 × Int32 × Int32 × Int32 × Int32 × Int32 × (Nat → Int32)) :=
  zj1 (fun (_ : Unit) =>
    zb2 (f_X_refuse g_refused_all (-2 : Int32)) fun (r1 : Int32) (g_refused_all_2 : Nat → Int32) =>
    some (r1, g_refused_all_2, v_stroll_allCorners, v_stroll_allCuts, v_stroll_allWords, v_stroll_came, v_stroll_longestRun, v_stroll_run, v_stroll_square, g_stroll_spoken_all)) fun k4 =>
  if p1 < 0 then (
    k4 ()) else (
    if p1 ≤ (6 : Int32) then (
      zb1 (f_X_isRowOfWays v_toldCount g_told_all) fun (r7 : Int32) =>
      if r7 = 0 then (
        zb2 (f_X_refuse g_refused_all (-3 : Int32)) fun (r23 : Int32) (g_refused_all_24 : Nat → Int32) =>
        some (r23, g_refused_all_24, v_stroll_allCorners, v_stroll_allCuts, v_stroll_allWords, v_stroll_came, v_stroll_longestRun, v_stroll_run, v_stroll_square, g_stroll_spoken_all)) else (
        zb9 (f_X_goTheRow v_toldCount v_stroll_allCorners v_stroll_allCuts v_stroll_allWords v_stroll_came v_stroll_longestRun v_stroll_run v_stroll_square g_stroll_spoken_all g_told_all v_town_breath v_town_home g_town_kinds_all) fun (r10 : Int32) (v_stroll_allCorners_11 : Int32) (v_stroll_allCuts_12 : Int32) (v_stroll_allWords_13 : Int32) (v_stroll_came_14 : Int32) (v_stroll_longestRun_15 : Int32) (v_stroll_run_16 : Int32) (v_stroll_square_17 : Int32) (g_stroll_spoken_all_18 : Nat → Int32) =>
        if p1 = 0 then (
          some (r10, g_refused_all, v_stroll_allCorners_11, v_stroll_allCuts_12, v_stroll_allWords_13, v_stroll_came_14, v_stroll_longestRun_15, v_stroll_run_16, v_stroll_square_17, g_stroll_spoken_all_18)) else (
          zb1 (f_Stroll_answer v_stroll_allCorners_11 v_stroll_allCuts_12 v_stroll_allWords_13 v_stroll_longestRun_15 v_stroll_square_17 g_stroll_spoken_all_18 v_town_fine g_town_kinds_all p1) fun (r21 : Int32) =>
          some (r21, g_refused_all, v_stroll_allCorners_11, v_stroll_allCuts_12, v_stroll_allWords_13, v_stroll_came_14, v_stroll_longestRun_15, v_stroll_run_16, v_stroll_square_17, g_stroll_spoken_all_18)))) else (
      k4 ()))
def f_Reach_begin (v_comeCount : Int32) (g_far_all : Nat → Int32) : Option (Int32 × (Nat → Int32)) :=
  zb1 (f_Numbers_fill 36 g_far_all (-9 : Int32)) fun (g_far_all_1 : Nat → Int32) =>
  some ((0 : Int32), g_far_all_1)
def f_Reach_reachAt (v_comeCount : Int32) (g_come_all : Nat → Int32) (g_far_all : Nat → Int32) (p1 : Int32) (p2 : Int32) : Option (Int32 × (Nat → Int32) × (Nat → Int32)) :=
  zb1 (f_Numbers_at 36 g_far_all p1) fun (r1 : Int32) =>
  if r1 = (-9 : Int32) then (
    zb1 (f_Numbers_put 36 g_far_all p1 p2) fun (g_far_all_4 : Nat → Int32) =>
    zb1 (f_Numbers_put 36 g_come_all v_comeCount p1) fun (g_come_all_6 : Nat → Int32) =>
    zn (v_comeCount + (1 : Int32)) fun (x8 : Int32) =>
    some (x8, g_come_all_6, g_far_all_4)) else (
    some (v_comeCount, g_come_all, g_far_all))
def f_Reach_setOut (v_comeCount : Int32) (g_come_all : Nat → Int32) (g_far_all : Nat → Int32) (g_town_kinds_all : Nat → Int32) (p1 : Int32) : Option (Int32 × (Nat → Int32) × (Nat → Int32)) :=
  zb1 (f_Town_canBe g_town_kinds_all p1) fun (r1 : Int32) =>
  if r1 = 0 then (
    some (v_comeCount, g_come_all, g_far_all)) else (
    zb3 (f_Reach_reachAt v_comeCount g_come_all g_far_all p1 (0 : Int32)) fun (v_comeCount_4 : Int32) (g_come_all_5 : Nat → Int32) (g_far_all_6 : Nat → Int32) =>
    some (v_comeCount_4, g_come_all_5, g_far_all_6))
def f_Reach_spread (v_comeCount : Int32) (g_come_all : Nat → Int32) (g_far_all : Nat → Int32) (g_town_kinds_all : Nat → Int32) : Option (Int32 × (Nat → Int32) × (Nat → Int32)) :=
  zl4 (fun (l1_1 : Int32) (v_comeCount_2 : Int32) (g_come_all_3 : Nat → Int32) (g_far_all_4 : Nat → Int32) again5 =>
    if v_comeCount_2 ≤ l1_1 then (
      some (v_comeCount_2, g_come_all_3, g_far_all_4)) else (
      if (36 : Int32) ≤ l1_1 then (
        some (v_comeCount_2, g_come_all_3, g_far_all_4)) else (
        zb1 (f_Numbers_at 36 g_come_all_3 l1_1) fun (r8 : Int32) =>
        zj3 (fun (v_comeCount_10 : Int32) (g_come_all_11 : Nat → Int32) (g_far_all_12 : Nat → Int32) =>
          zn (l1_1 + (1 : Int32)) fun (x13 : Int32) =>
          again5 x13 v_comeCount_10 g_come_all_11 g_far_all_12) fun k14 =>
        zl4 (fun (l3_15 : Int32) (v_comeCount_16 : Int32) (g_come_all_17 : Nat → Int32) (g_far_all_18 : Nat → Int32) again19 =>
          if (4 : Int32) ≤ l3_15 then (
            k14 v_comeCount_16 g_come_all_17 g_far_all_18) else (
            zb1 (f_Town_next g_town_kinds_all r8 l3_15) fun (r21 : Int32) =>
            zj3 (fun (v_comeCount_23 : Int32) (g_come_all_24 : Nat → Int32) (g_far_all_25 : Nat → Int32) =>
              zn (l3_15 + (1 : Int32)) fun (x26 : Int32) =>
              again19 x26 v_comeCount_23 g_come_all_24 g_far_all_25) fun k27 =>
            if r21 = (-1 : Int32) then (
              k27 v_comeCount_16 g_come_all_17 g_far_all_18) else (
              zb1 (f_Numbers_at 36 g_far_all_18 r8) fun (r29 : Int32) =>
              zb3 (f_Reach_reachAt v_comeCount_16 g_come_all_17 g_far_all_18 r21 (r29 + (1 : Int32))) fun (v_comeCount_31 : Int32) (g_come_all_32 : Nat → Int32) (g_far_all_33 : Nat → Int32) =>
              k27 v_comeCount_31 g_come_all_32 g_far_all_33))) zF (0 : Int32) v_comeCount_2 g_come_all_3 g_far_all_4))) zF (0 : Int32) v_comeCount g_come_all g_far_all
def f_Reach_spreadFrom (v_comeCount : Int32) (g_come_all : Nat → Int32) (g_far_all : Nat → Int32) (g_town_kinds_all : Nat → Int32) (p1 : Int32) : Option (Int32 × (Nat → Int32) × (Nat → Int32)) :=
  zb2 (f_Reach_begin v_comeCount g_far_all) fun (v_comeCount_1 : Int32) (g_far_all_2 : Nat → Int32) =>
  zb3 (f_Reach_setOut v_comeCount_1 g_come_all g_far_all_2 g_town_kinds_all p1) fun (v_comeCount_4 : Int32) (g_come_all_5 : Nat → Int32) (g_far_all_6 : Nat → Int32) =>
  zb3 (f_Reach_spread v_comeCount_4 g_come_all_5 g_far_all_6 g_town_kinds_all) fun (v_comeCount_8 : Int32) (g_come_all_9 : Nat → Int32) (g_far_all_10 : Nat → Int32) =>
  some (v_comeCount_8, g_come_all_9, g_far_all_10)
def f_Reach_stepsTo (g_far_all : Nat → Int32) (p1 : Int32) : Option (Int32) :=
  zb1 (f_Numbers_at 36 g_far_all p1) fun (r1 : Int32) =>
  some (r1)
def f_X_steps (v_reach_comeCount : Int32) (g_reach_come_all : Nat → Int32) (g_reach_far_all : Nat → Int32) (g_refused_all : Nat → Int32) (g_town_kinds_all : Nat → Int32) (p1 : Int32) (p2 : Int32) : Option (Int32 × Int32 × (Nat → Int32) × (Nat → Int32) × (Nat → Int32)) :=
  zb1 (f_X_isSquare p1) fun (r1 : Int32) =>
  zj1 (fun (_ : Unit) =>
    zb2 (f_X_refuse g_refused_all (-1 : Int32)) fun (r3 : Int32) (g_refused_all_4 : Nat → Int32) =>
    some (r3, v_reach_comeCount, g_reach_come_all, g_reach_far_all, g_refused_all_4)) fun k6 =>
  if r1 = 0 then (
    k6 ()) else (
    zb1 (f_X_isSquare p2) fun (r8 : Int32) =>
    if r8 = 0 then (
      k6 ()) else (
      zb3 (f_Reach_spreadFrom v_reach_comeCount g_reach_come_all g_reach_far_all g_town_kinds_all p1) fun (v_reach_comeCount_11 : Int32) (g_reach_come_all_12 : Nat → Int32) (g_reach_far_all_13 : Nat → Int32) =>
      zb1 (f_Reach_stepsTo g_reach_far_all_13 p2) fun (r15 : Int32) =>
      some (r15, v_reach_comeCount_11, g_reach_come_all_12, g_reach_far_all_13, g_refused_all)))
def f_Routes_chargeCorners (v_cornerPrice : Int32) (v_stepPrice : Int32) (g_toll_all : Nat → Int32) : Option (Int32 × Int32 × (Nat → Int32)) :=
  zb1 (f_Numbers_fill 36 g_toll_all (0 : Int32)) fun (g_toll_all_1 : Nat → Int32) =>
  some ((1000 : Int32), (1 : Int32), g_toll_all_1)
def f_Routes_mend (v_firstWaiting : Int32) (v_waitingCount : Int32) (g_isWaiting_all : Nat → Int32) (g_label_all : Nat → Int32) (g_waiting_all : Nat → Int32) (p1 : Int32) (p2 : Int32) : Option (Int32 × (Nat → Int32) × (Nat → Int32) × (Nat → Int32)) :=
  zb1 (f_Numbers_at 180 g_label_all p1) fun (r1 : Int32) =>
  if p2 < r1 then (
    zb1 (f_Numbers_put 180 g_label_all p1 p2) fun (g_label_all_4 : Nat → Int32) =>
    zb1 (f_Numbers_at 180 g_isWaiting_all p1) fun (r6 : Int32) =>
    if r6 = 0 then (
      zb1 (f_Numbers_put 180 g_isWaiting_all p1 (1 : Int32)) fun (g_isWaiting_all_9 : Nat → Int32) =>
      zb1 (f_Numbers_put 180 g_waiting_all (zrem (v_firstWaiting + v_waitingCount) (180 : Int32)) p1) fun (g_waiting_all_11 : Nat → Int32) =>
      zn (v_waitingCount + (1 : Int32)) fun (x13 : Int32) =>
      some (x13, g_isWaiting_all_9, g_label_all_4, g_waiting_all_11)) else (
      some (v_waitingCount, g_isWaiting_all, g_label_all_4, g_waiting_all))) else (
    some (v_waitingCount, g_isWaiting_all, g_label_all, g_waiting_all))
def f_Routes_begin (v_firstWaiting : Int32) (v_waitingCount : Int32) (g_isWaiting_all : Nat → Int32) (g_label_all : Nat → Int32) (g_waiting_all : Nat → Int32) (p1 : Int32) : Option (Int32 × Int32 × (Nat → Int32) × (Nat → Int32) × (Nat → Int32)) :=
  zb1 (f_Numbers_fill 180 g_label_all (2147483647 : Int32)) fun (g_label_all_1 : Nat → Int32) =>
  zb1 (f_Numbers_fill 180 g_isWaiting_all (0 : Int32)) fun (g_isWaiting_all_3 : Nat → Int32) =>
  zb4 (f_Routes_mend (0 : Int32) (0 : Int32) g_isWaiting_all_3 g_label_all_1 g_waiting_all ((p1 * (5 : Int32)) + (4 : Int32)) (0 : Int32)) fun (v_waitingCount_5 : Int32) (g_isWaiting_all_6 : Nat → Int32) (g_label_all_7 : Nat → Int32) (g_waiting_all_8 : Nat → Int32) =>
  some ((0 : Int32), v_waitingCount_5, g_isWaiting_all_6, g_label_all_7, g_waiting_all_8)
def f_Routes_takeWaiting (v_firstWaiting : Int32) (v_waitingCount : Int32) (g_isWaiting_all : Nat → Int32) (g_waiting_all : Nat → Int32) : Option (Int32 × Int32 × Int32 × (Nat → Int32)) :=
  zb1 (f_Numbers_at 180 g_waiting_all v_firstWaiting) fun (r1 : Int32) =>
  zn (zrem (v_firstWaiting + (1 : Int32)) (180 : Int32)) fun (x3 : Int32) =>
  zn (v_waitingCount - (1 : Int32)) fun (x4 : Int32) =>
  zb1 (f_Numbers_put 180 g_isWaiting_all r1 (0 : Int32)) fun (g_isWaiting_all_5 : Nat → Int32) =>
  some (r1, x3, x4, g_isWaiting_all_5)
def f_Routes_goOnFrom (v_cornerPrice : Int32) (v_firstWaiting : Int32) (v_stepPrice : Int32) (v_waitingCount : Int32) (g_isWaiting_all : Nat → Int32) (g_label_all : Nat → Int32) (g_toll_all : Nat → Int32) (g_town_kinds_all : Nat → Int32) (g_waiting_all : Nat → Int32) (p1 : Int32) : Option (Int32 × (Nat → Int32) × (Nat → Int32) × (Nat → Int32)) :=
  zn (p1 / (5 : Int32)) fun (x1 : Int32) =>
  zn (zrem p1 (5 : Int32)) fun (x2 : Int32) =>
  zl5 (fun (l4_3 : Int32) (v_waitingCount_4 : Int32) (g_isWaiting_all_5 : Nat → Int32) (g_label_all_6 : Nat → Int32) (g_waiting_all_7 : Nat → Int32) again8 =>
    if (4 : Int32) ≤ l4_3 then (
      some (v_waitingCount_4, g_isWaiting_all_5, g_label_all_6, g_waiting_all_7)) else (
      zb1 (f_Town_next g_town_kinds_all x1 l4_3) fun (r10 : Int32) =>
      zj4 (fun (v_waitingCount_12 : Int32) (g_isWaiting_all_13 : Nat → Int32) (g_label_all_14 : Nat → Int32) (g_waiting_all_15 : Nat → Int32) =>
        zn (l4_3 + (1 : Int32)) fun (x16 : Int32) =>
        again8 x16 v_waitingCount_12 g_isWaiting_all_13 g_label_all_14 g_waiting_all_15) fun k17 =>
      if r10 = (-1 : Int32) then (
        k17 v_waitingCount_4 g_isWaiting_all_5 g_label_all_6 g_waiting_all_7) else (
        zb1 (f_Town_isCorner g_town_kinds_all x1 x2 l4_3) fun (r19 : Int32) =>
        zj1 (fun (s21 : Int32) =>
          zn (v_stepPrice + s21) fun (x22 : Int32) =>
          zj1 (fun (s23 : Int32) =>
            zb1 (f_Numbers_at 180 g_label_all_6 p1) fun (r24 : Int32) =>
            zb4 (f_Routes_mend v_firstWaiting v_waitingCount_4 g_isWaiting_all_5 g_label_all_6 g_waiting_all_7 ((r10 * (5 : Int32)) + l4_3) ((r24 + (x22 * (4 : Int32))) + s23)) fun (v_waitingCount_26 : Int32) (g_isWaiting_all_27 : Nat → Int32) (g_label_all_28 : Nat → Int32) (g_waiting_all_29 : Nat → Int32) =>
            k17 v_waitingCount_26 g_isWaiting_all_27 g_label_all_28 g_waiting_all_29) fun k31 =>
          if x2 = (4 : Int32) then (
            k31 l4_3) else (
            k31 (0 : Int32))) fun k33 =>
        if r19 = 0 then (
          zb1 (f_Numbers_at 36 g_toll_all x1) fun (r35 : Int32) =>
          k33 r35) else (
          k33 v_cornerPrice)))) zF (0 : Int32) v_waitingCount g_isWaiting_all g_label_all g_waiting_all
def f_Routes_cheapest (v_cornerPrice : Int32) (v_firstWaiting : Int32) (v_stepPrice : Int32) (v_waitingCount : Int32) (g_isWaiting_all : Nat → Int32) (g_label_all : Nat → Int32) (g_toll_all : Nat → Int32) (g_town_kinds_all : Nat → Int32) (g_waiting_all : Nat → Int32) (p1 : Int32) (p2 : Int32) : Option (Int32 × Int32 × Int32 × (Nat → Int32) × (Nat → Int32) × (Nat → Int32)) :=
  zb1 (f_Town_canBe g_town_kinds_all p1) fun (r1 : Int32) =>
  if r1 = 0 then (
    some ((-9 : Int32), v_firstWaiting, v_waitingCount, g_isWaiting_all, g_label_all, g_waiting_all)) else (
    zb5 (f_Routes_begin v_firstWaiting v_waitingCount g_isWaiting_all g_label_all g_waiting_all p1) fun (v_firstWaiting_4 : Int32) (v_waitingCount_5 : Int32) (g_isWaiting_all_6 : Nat → Int32) (g_label_all_7 : Nat → Int32) (g_waiting_all_8 : Nat → Int32) =>
    zj5 (fun (v_firstWaiting_10 : Int32) (v_waitingCount_11 : Int32) (g_isWaiting_all_12 : Nat → Int32) (g_label_all_13 : Nat → Int32) (g_waiting_all_14 : Nat → Int32) =>
      zj1 (fun (l3_15 : Int32) =>
        if l3_15 = (2147483647 : Int32) then (
          some ((-9 : Int32), v_firstWaiting_10, v_waitingCount_11, g_isWaiting_all_12, g_label_all_13, g_waiting_all_14)) else (
          some (l3_15, v_firstWaiting_10, v_waitingCount_11, g_isWaiting_all_12, g_label_all_13, g_waiting_all_14))) fun k17 =>
      zl2 (fun (l3_18 : Int32) (l4_19 : Int32) again20 =>
        if (5 : Int32) ≤ l4_19 then (
          k17 l3_18) else (
          zb1 (f_Numbers_at 180 g_label_all_13 ((p2 * (5 : Int32)) + l4_19)) fun (r22 : Int32) =>
          zn (zmin l3_18 r22) fun (x24 : Int32) =>
          zn (l4_19 + (1 : Int32)) fun (x25 : Int32) =>
          again20 x24 x25)) zF (2147483647 : Int32) (0 : Int32)) fun k26 =>
    zl6 (fun (l3_27 : Int32) (v_firstWaiting_28 : Int32) (v_waitingCount_29 : Int32) (g_isWaiting_all_30 : Nat → Int32) (g_label_all_31 : Nat → Int32) (g_waiting_all_32 : Nat → Int32) again33 =>
      if (1000000 : Int32) ≤ l3_27 then (
        k26 v_firstWaiting_28 v_waitingCount_29 g_isWaiting_all_30 g_label_all_31 g_waiting_all_32) else (
        if v_waitingCount_29 ≤ 0 then (
          k26 v_firstWaiting_28 v_waitingCount_29 g_isWaiting_all_30 g_label_all_31 g_waiting_all_32) else (
          zb4 (f_Routes_takeWaiting v_firstWaiting_28 v_waitingCount_29 g_isWaiting_all_30 g_waiting_all_32) fun (r36 : Int32) (v_firstWaiting_37 : Int32) (v_waitingCount_38 : Int32) (g_isWaiting_all_39 : Nat → Int32) =>
          zb4 (f_Routes_goOnFrom v_cornerPrice v_firstWaiting_37 v_stepPrice v_waitingCount_38 g_isWaiting_all_39 g_label_all_31 g_toll_all g_town_kinds_all g_waiting_all_32 r36) fun (v_waitingCount_41 : Int32) (g_isWaiting_all_42 : Nat → Int32) (g_label_all_43 : Nat → Int32) (g_waiting_all_44 : Nat → Int32) =>
          zn (l3_27 + (1 : Int32)) fun (x46 : Int32) =>
          again33 x46 v_firstWaiting_37 v_waitingCount_41 g_isWaiting_all_42 g_label_all_43 g_waiting_all_44))) zF (0 : Int32) v_firstWaiting_4 v_waitingCount_5 g_isWaiting_all_6 g_label_all_7 g_waiting_all_8)
def f_Routes_firstWayOf (p0 : Int32) : Option (Int32) :=
  if p0 = (-9 : Int32) then (
    some ((-9 : Int32))) else (
    some (zrem p0 (4 : Int32)))
def f_Routes_stepsOf (p0 : Int32) : Option (Int32) :=
  if p0 = (-9 : Int32) then (
    some ((-9 : Int32))) else (
    some (zrem (p0 / (4 : Int32)) (1000 : Int32)))
def f_Routes_cornersOf (p0 : Int32) : Option (Int32) :=
  if p0 = (-9 : Int32) then (
    some ((-9 : Int32))) else (
    some ((p0 / (4 : Int32)) / (1000 : Int32)))
def f_X_corners (g_refused_all : Nat → Int32) (v_routes_cornerPrice : Int32) (v_routes_firstWaiting : Int32) (v_routes_stepPrice : Int32) (v_routes_waitingCount : Int32) (g_routes_isWaiting_all : Nat → Int32) (g_routes_label_all : Nat → Int32) (g_routes_toll_all : Nat → Int32) (g_routes_waiting_all : Nat → Int32) (g_town_kinds_all : Nat → Int32) (p1 : Int32) (p2 : Int32) (p3 : Int32) : Option (Int32 × (Nat → Int32) × Int32 × Int32 × Int32 × Int32 × (Nat → Int32) × (Nat → Int32) × (Nat → Int32) × (Nat → Int32)) :=
  zb1 (f_X_isSquare p1) fun (r1 : Int32) =>
  zj1 (fun (_ : Unit) =>
    zb2 (f_X_refuse g_refused_all (-1 : Int32)) fun (r3 : Int32) (g_refused_all_4 : Nat → Int32) =>
    some (r3, g_refused_all_4, v_routes_cornerPrice, v_routes_firstWaiting, v_routes_stepPrice, v_routes_waitingCount, g_routes_isWaiting_all, g_routes_label_all, g_routes_toll_all, g_routes_waiting_all)) fun k6 =>
  if r1 = 0 then (
    k6 ()) else (
    zb1 (f_X_isSquare p2) fun (r8 : Int32) =>
    if r8 = 0 then (
      k6 ()) else (
      zj1 (fun (_ : Unit) =>
        zb2 (f_X_refuse g_refused_all (-2 : Int32)) fun (r11 : Int32) (g_refused_all_12 : Nat → Int32) =>
        some (r11, g_refused_all_12, v_routes_cornerPrice, v_routes_firstWaiting, v_routes_stepPrice, v_routes_waitingCount, g_routes_isWaiting_all, g_routes_label_all, g_routes_toll_all, g_routes_waiting_all)) fun k14 =>
      if p3 < 0 then (
        k14 ()) else (
        if p3 ≤ (2 : Int32) then (
          zb3 (f_Routes_chargeCorners v_routes_cornerPrice v_routes_stepPrice g_routes_toll_all) fun (v_routes_cornerPrice_17 : Int32) (v_routes_stepPrice_18 : Int32) (g_routes_toll_all_19 : Nat → Int32) =>
          zb6 (f_Routes_cheapest v_routes_cornerPrice_17 v_routes_firstWaiting v_routes_stepPrice_18 v_routes_waitingCount g_routes_isWaiting_all g_routes_label_all g_routes_toll_all_19 g_town_kinds_all g_routes_waiting_all p1 p2) fun (r21 : Int32) (v_routes_firstWaiting_22 : Int32) (v_routes_waitingCount_23 : Int32) (g_routes_isWaiting_all_24 : Nat → Int32) (g_routes_label_all_25 : Nat → Int32) (g_routes_waiting_all_26 : Nat → Int32) =>
          if r21 = (-9 : Int32) then (
            some ((-9 : Int32), g_refused_all, v_routes_cornerPrice_17, v_routes_firstWaiting_22, v_routes_stepPrice_18, v_routes_waitingCount_23, g_routes_isWaiting_all_24, g_routes_label_all_25, g_routes_toll_all_19, g_routes_waiting_all_26)) else (
            if p3 = 0 then (
              zb1 (f_Routes_cornersOf r21) fun (r36 : Int32) =>
              some (r36, g_refused_all, v_routes_cornerPrice_17, v_routes_firstWaiting_22, v_routes_stepPrice_18, v_routes_waitingCount_23, g_routes_isWaiting_all_24, g_routes_label_all_25, g_routes_toll_all_19, g_routes_waiting_all_26)) else (
              if p3 = (1 : Int32) then (
                zb1 (f_Routes_stepsOf r21) fun (r34 : Int32) =>
                some (r34, g_refused_all, v_routes_cornerPrice_17, v_routes_firstWaiting_22, v_routes_stepPrice_18, v_routes_waitingCount_23, g_routes_isWaiting_all_24, g_routes_label_all_25, g_routes_toll_all_19, g_routes_waiting_all_26)) else (
                if p1 = p2 then (
                  some ((-9 : Int32), g_refused_all, v_routes_cornerPrice_17, v_routes_firstWaiting_22, v_routes_stepPrice_18, v_routes_waitingCount_23, g_routes_isWaiting_all_24, g_routes_label_all_25, g_routes_toll_all_19, g_routes_waiting_all_26)) else (
                  zb1 (f_Routes_firstWayOf r21) fun (r32 : Int32) =>
                  some (r32, g_refused_all, v_routes_cornerPrice_17, v_routes_firstWaiting_22, v_routes_stepPrice_18, v_routes_waitingCount_23, g_routes_isWaiting_all_24, g_routes_label_all_25, g_routes_toll_all_19, g_routes_waiting_all_26)))))) else (
          k14 ()))))
def f_Routes_chargeFines (v_cornerPrice : Int32) (v_stepPrice : Int32) (g_toll_all : Nat → Int32) (v_town_fine : Int32) (g_town_kinds_all : Nat → Int32) : Option (Int32 × Int32 × (Nat → Int32)) :=
  zj1 (fun (g_toll_all_1 : Nat → Int32) =>
    some ((0 : Int32), (0 : Int32), g_toll_all_1)) fun k2 =>
  zl2 (fun (l1_3 : Int32) (g_toll_all_4 : Nat → Int32) again5 =>
    if (36 : Int32) ≤ l1_3 then (
      k2 g_toll_all_4) else (
      zb1 (f_Town_fineOn v_town_fine g_town_kinds_all l1_3) fun (r7 : Int32) =>
      zb1 (f_Numbers_put 36 g_toll_all_4 l1_3 r7) fun (g_toll_all_9 : Nat → Int32) =>
      zn (l1_3 + (1 : Int32)) fun (x11 : Int32) =>
      again5 x11 g_toll_all_9)) zF (0 : Int32) g_toll_all
def f_Routes_priceOf (p0 : Int32) : Option (Int32) :=
  if p0 = (-9 : Int32) then (
    some ((-9 : Int32))) else (
    some (p0 / (4 : Int32)))
def f_X_fines (g_refused_all : Nat → Int32) (v_routes_cornerPrice : Int32) (v_routes_firstWaiting : Int32) (v_routes_stepPrice : Int32) (v_routes_waitingCount : Int32) (g_routes_isWaiting_all : Nat → Int32) (g_routes_label_all : Nat → Int32) (g_routes_toll_all : Nat → Int32) (g_routes_waiting_all : Nat → Int32) (v_town_fine : Int32) (g_town_kinds_all : Nat → Int32) (p1 : Int32) (p2 : Int32) : Option (Int32 × (Nat → Int32) × Int32 × Int32 × Int32 × Int32 × (Nat → Int32) × (Nat → Int32) × (Nat → Int32) × (Nat → Int32)) :=
  zb1 (f_X_isSquare p1) fun (r1 : Int32) =>
  zj1 (fun (_ : Unit) =>
    zb2 (f_X_refuse g_refused_all (-1 : Int32)) fun (r3 : Int32) (g_refused_all_4 : Nat → Int32) =>
    some (r3, g_refused_all_4, v_routes_cornerPrice, v_routes_firstWaiting, v_routes_stepPrice, v_routes_waitingCount, g_routes_isWaiting_all, g_routes_label_all, g_routes_toll_all, g_routes_waiting_all)) fun k6 =>
  if r1 = 0 then (
    k6 ()) else (
    zb1 (f_X_isSquare p2) fun (r8 : Int32) =>
    if r8 = 0 then (
      k6 ()) else (
      zb3 (f_Routes_chargeFines v_routes_cornerPrice v_routes_stepPrice g_routes_toll_all v_town_fine g_town_kinds_all) fun (v_routes_cornerPrice_11 : Int32) (v_routes_stepPrice_12 : Int32) (g_routes_toll_all_13 : Nat → Int32) =>
      zb6 (f_Routes_cheapest v_routes_cornerPrice_11 v_routes_firstWaiting v_routes_stepPrice_12 v_routes_waitingCount g_routes_isWaiting_all g_routes_label_all g_routes_toll_all_13 g_town_kinds_all g_routes_waiting_all p1 p2) fun (r15 : Int32) (v_routes_firstWaiting_16 : Int32) (v_routes_waitingCount_17 : Int32) (g_routes_isWaiting_all_18 : Nat → Int32) (g_routes_label_all_19 : Nat → Int32) (g_routes_waiting_all_20 : Nat → Int32) =>
      if r15 = (-9 : Int32) then (
        some ((-9 : Int32), g_refused_all, v_routes_cornerPrice_11, v_routes_firstWaiting_16, v_routes_stepPrice_12, v_routes_waitingCount_17, g_routes_isWaiting_all_18, g_routes_label_all_19, g_routes_toll_all_13, g_routes_waiting_all_20)) else (
        zb1 (f_Routes_priceOf r15) fun (r23 : Int32) =>
        zb1 (f_Town_fineOn v_town_fine g_town_kinds_all p2) fun (r25 : Int32) =>
        some (r23 + r25, g_refused_all, v_routes_cornerPrice_11, v_routes_firstWaiting_16, v_routes_stepPrice_12, v_routes_waitingCount_17, g_routes_isWaiting_all_18, g_routes_label_all_19, g_routes_toll_all_13, g_routes_waiting_all_20))))
def f_Town_straightFrom (g_kinds_all : Nat → Int32) (p1 : Int32) (p2 : Int32) : Option (Int32) :=
  zb1 (f_Town_canBe g_kinds_all p1) fun (r1 : Int32) =>
  if r1 = 0 then (
    some ((0 : Int32))) else (
    zb1 (f_Town_next g_kinds_all p1 p2) fun (r4 : Int32) =>
    zl3 (fun (l3_6 : Int32) (l4_7 : Int32) (l5_8 : Int32) again9 =>
      if (6 : Int32) ≤ l5_8 then (
        some (l3_6)) else (
        if l4_7 = (-1 : Int32) then (
          some (l3_6)) else (
          zn (l3_6 + (1 : Int32)) fun (x12 : Int32) =>
          zb1 (f_Town_next g_kinds_all l4_7 p2) fun (r13 : Int32) =>
          zn (l5_8 + (1 : Int32)) fun (x15 : Int32) =>
          again9 x12 r13 x15))) zF (0 : Int32) r4 (0 : Int32))
def f_X_straight (g_refused_all : Nat → Int32) (g_town_kinds_all : Nat → Int32) (p1 : Int32) (p2 : Int32) : Option (Int32 × (Nat → Int32)) :=
  zb1 (f_X_isSquare p1) fun (r1 : Int32) =>
  if r1 = 0 then (
    zb2 (f_X_refuse g_refused_all (-1 : Int32)) fun (r12 : Int32) (g_refused_all_13 : Nat → Int32) =>
    some (r12, g_refused_all_13)) else (
    zj1 (fun (_ : Unit) =>
      zb2 (f_X_refuse g_refused_all (-2 : Int32)) fun (r4 : Int32) (g_refused_all_5 : Nat → Int32) =>
      some (r4, g_refused_all_5)) fun k7 =>
    if p2 < 0 then (
      k7 ()) else (
      if p2 < (4 : Int32) then (
        zb1 (f_Town_straightFrom g_town_kinds_all p1 p2) fun (r10 : Int32) =>
        some (r10, g_refused_all)) else (
        k7 ())))
def f_X_longest (g_refused_all : Nat → Int32) (g_town_kinds_all : Nat → Int32) (p1 : Int32) : Option (Int32 × (Nat → Int32)) :=
  zj1 (fun (_ : Unit) =>
    zb2 (f_X_refuse g_refused_all (-2 : Int32)) fun (r1 : Int32) (g_refused_all_2 : Nat → Int32) =>
    some (r1, g_refused_all_2)) fun k4 =>
  if p1 < 0 then (
    k4 ()) else (
    if p1 ≤ (1 : Int32) then (
      zj2 (fun (l2_7 : Int32) (l3_8 : Int32) =>
        if p1 = 0 then (
          some (l2_7, g_refused_all)) else (
          some (l3_8, g_refused_all))) fun k10 =>
      zl3 (fun (l2_11 : Int32) (l3_12 : Int32) (l4_13 : Int32) again14 =>
        if (36 : Int32) ≤ l4_13 then (
          k10 l2_11 l3_12) else (
          zj2 (fun (l2_16 : Int32) (l3_17 : Int32) =>
            zn (l4_13 + (1 : Int32)) fun (x18 : Int32) =>
            again14 l2_16 l3_17 x18) fun k19 =>
          zl3 (fun (l2_20 : Int32) (l3_21 : Int32) (l5_22 : Int32) again23 =>
            if (4 : Int32) ≤ l5_22 then (
              k19 l2_20 l3_21) else (
              zb1 (f_Town_canBe g_town_kinds_all l4_13) fun (r25 : Int32) =>
              if r25 = 0 then (
                k19 l2_20 l3_21) else (
                zb1 (f_Town_straightFrom g_town_kinds_all l4_13 l5_22) fun (r28 : Int32) =>
                zj2 (fun (l2_30 : Int32) (l3_31 : Int32) =>
                  zn (l5_22 + (1 : Int32)) fun (x32 : Int32) =>
                  again23 l2_30 l3_31 x32) fun k33 =>
                if r28 ≤ l2_20 then (
                  k33 l2_20 l3_21) else (
                  k33 r28 l4_13)))) zF l2_11 l3_12 (0 : Int32))) zF (-9 : Int32) (-9 : Int32) (0 : Int32)) else (
      k4 ()))
def f_X_checkWithin (g_refused_all : Nat → Int32) (p1 : Int32) (p2 : Int32) : Option (Int32 × (Nat → Int32)) :=
  zb1 (f_X_isSquare p1) fun (r1 : Int32) =>
  if r1 = 0 then (
    zb2 (f_X_refuse g_refused_all (-1 : Int32)) fun (r12 : Int32) (g_refused_all_13 : Nat → Int32) =>
    some (r12, g_refused_all_13)) else (
    if 0 ≤ p2 then (
      if p2 ≤ (20 : Int32) then (
        some ((0 : Int32), g_refused_all)) else (
        zb2 (f_X_refuse g_refused_all (-6 : Int32)) fun (r6 : Int32) (g_refused_all_7 : Nat → Int32) =>
        some (r6, g_refused_all_7))) else (
      zb2 (f_X_refuse g_refused_all (-4 : Int32)) fun (r9 : Int32) (g_refused_all_10 : Nat → Int32) =>
      some (r9, g_refused_all_10)))
def f_Talks_hush (g_isHushed_all : Nat → Int32) (g_town_kinds_all : Nat → Int32) (p1 : Int32) : Option ((Nat → Int32)) :=
  zl2 (fun (l2_1 : Int32) (g_isHushed_all_2 : Nat → Int32) again3 =>
    if (36 : Int32) ≤ l2_1 then (
      some (g_isHushed_all_2)) else (
      zj1 (fun (s5 : Int32) =>
        zj1 (fun (s6 : Int32) =>
          zb1 (f_Numbers_put 36 g_isHushed_all_2 l2_1 s6) fun (g_isHushed_all_7 : Nat → Int32) =>
          zn (l2_1 + (1 : Int32)) fun (x9 : Int32) =>
          again3 x9 g_isHushed_all_7) fun k10 =>
        if s5 = 0 then (
          k10 (0 : Int32)) else (
          k10 (1 : Int32))) fun k12 =>
      zj1 (fun (_ : Unit) =>
        k12 (0 : Int32)) fun k13 =>
      if p1 = 0 then (
        k13 ()) else (
        zb1 (f_Town_wordsOn g_town_kinds_all l2_1) fun (r15 : Int32) =>
        if r15 ≤ 0 then (
          k13 ()) else (
          zb1 (f_Town_heardBy g_town_kinds_all l2_1) fun (r18 : Int32) =>
          if r18 ≤ 0 then (
            k13 ()) else (
            k12 (1 : Int32)))))) zF (0 : Int32) g_isHushed_all
def f_Talks_begin (g_now_all : Nat → Int32) (g_town_kinds_all : Nat → Int32) (p1 : Int32) : Option (Int32 × (Nat → Int32)) :=
  zb1 (f_Numbers_fill 180 g_now_all (-1 : Int32)) fun (g_now_all_1 : Nat → Int32) =>
  zb1 (f_Numbers_put 180 g_now_all_1 ((p1 * (5 : Int32)) + (4 : Int32)) (0 : Int32)) fun (g_now_all_3 : Nat → Int32) =>
  zb1 (f_Town_canBe g_town_kinds_all p1) fun (r5 : Int32) =>
  zg (r5 &&& 1 = r5) <|
  some (r5, g_now_all_3)
def f_Talks_mostAtEnd (g_isHushed_all : Nat → Int32) (g_now_all : Nat → Int32) (g_town_kinds_all : Nat → Int32) : Option (Int32) :=
  zl2 (fun (l1_1 : Int32) (l2_2 : Int32) again3 =>
    if (180 : Int32) ≤ l2_2 then (
      some (l1_1)) else (
      zn (l2_2 / (5 : Int32)) fun (x5 : Int32) =>
      zb1 (f_Numbers_at 180 g_now_all l2_2) fun (r6 : Int32) =>
      zj1 (fun (l1_8 : Int32) =>
        zn (l2_2 + (1 : Int32)) fun (x9 : Int32) =>
        again3 l1_8 x9) fun k10 =>
      if r6 = (-1 : Int32) then (
        k10 l1_1) else (
        zb1 (f_Numbers_at 36 g_isHushed_all x5) fun (r12 : Int32) =>
        if r12 = 0 then (
          zb1 (f_Numbers_at 180 g_now_all l2_2) fun (r15 : Int32) =>
          zb1 (f_Town_wordsOn g_town_kinds_all x5) fun (r17 : Int32) =>
          zn (zmax l1_1 (r15 + r17)) fun (x19 : Int32) =>
          k10 x19) else (
          k10 l1_1)))) zF (-1 : Int32) (0 : Int32)
def f_Talks_goOnFrom (g_isHushed_all : Nat → Int32) (g_now_all : Nat → Int32) (g_then_all : Nat → Int32) (g_town_kinds_all : Nat → Int32) (p1 : Int32) (p2 : Int32) : Option ((Nat → Int32)) :=
  zn (p1 / (5 : Int32)) fun (x1 : Int32) =>
  zl2 (fun (l4_2 : Int32) (g_then_all_3 : Nat → Int32) again4 =>
    if (4 : Int32) ≤ l4_2 then (
      some (g_then_all_3)) else (
      zb1 (f_Town_next g_town_kinds_all x1 l4_2) fun (r6 : Int32) =>
      zb1 (f_Town_isCorner g_town_kinds_all x1 (zrem p1 (5 : Int32)) l4_2) fun (r8 : Int32) =>
      zj1 (fun (g_then_all_10 : Nat → Int32) =>
        zn (l4_2 + (1 : Int32)) fun (x11 : Int32) =>
        again4 x11 g_then_all_10) fun k12 =>
      if r6 = (-1 : Int32) then (
        k12 g_then_all_3) else (
        zb1 (f_Numbers_at 36 g_isHushed_all x1) fun (r14 : Int32) =>
        zj1 (fun (_ : Unit) =>
          zb1 (f_Numbers_at 180 g_now_all p1) fun (r16 : Int32) =>
          zb1 (f_Town_wordsOn g_town_kinds_all x1) fun (r18 : Int32) =>
          zn (r16 + r18) fun (x20 : Int32) =>
          zj1 (fun (l7_21 : Int32) =>
            zn ((r6 * (5 : Int32)) + l4_2) fun (x22 : Int32) =>
            zb1 (f_Numbers_at 180 g_then_all_3 x22) fun (r23 : Int32) =>
            zn (zmax r23 l7_21) fun (x25 : Int32) =>
            zb1 (f_Numbers_put 180 g_then_all_3 x22 x25) fun (g_then_all_26 : Nat → Int32) =>
            k12 g_then_all_26) fun k28 =>
          if r8 = 0 then (
            k28 x20) else (
            zj1 (fun (s30 : Int32) =>
              k28 s30) fun k31 =>
            if p2 = 0 then (
              zb1 (f_Numbers_at 180 g_now_all p1) fun (r33 : Int32) =>
              k31 r33) else (
              k31 (0 : Int32)))) fun k35 =>
        if r14 = 0 then (
          k35 ()) else (
          if r8 = 0 then (
            k12 g_then_all_3) else (
            k35 ()))))) zF (0 : Int32) g_then_all
def f_Talks_goOn (g_isHushed_all : Nat → Int32) (g_now_all : Nat → Int32) (g_then_all : Nat → Int32) (g_town_kinds_all : Nat → Int32) (p1 : Int32) : Option ((Nat → Int32) × (Nat → Int32)) :=
  zb1 (f_Numbers_fill 180 g_then_all (-1 : Int32)) fun (g_then_all_1 : Nat → Int32) =>
  zj1 (fun (g_then_all_3 : Nat → Int32) =>
    zb1 (f_Numbers_takeOver 180 180 g_then_all_3 g_now_all) fun (g_now_all_4 : Nat → Int32) =>
    some (g_now_all_4, g_then_all_3)) fun k6 =>
  zl2 (fun (l2_7 : Int32) (g_then_all_8 : Nat → Int32) again9 =>
    if (180 : Int32) ≤ l2_7 then (
      k6 g_then_all_8) else (
      zb1 (f_Numbers_at 180 g_now_all l2_7) fun (r11 : Int32) =>
      zj1 (fun (g_then_all_13 : Nat → Int32) =>
        zn (l2_7 + (1 : Int32)) fun (x14 : Int32) =>
        again9 x14 g_then_all_13) fun k15 =>
      if r11 = (-1 : Int32) then (
        k15 g_then_all_8) else (
        zb1 (f_Talks_goOnFrom g_isHushed_all g_now_all g_then_all_8 g_town_kinds_all l2_7 p1) fun (g_then_all_17 : Nat → Int32) =>
        k15 g_then_all_17))) zF (0 : Int32) g_then_all_1
def f_Talks_mostWords (g_isHushed_all : Nat → Int32) (g_now_all : Nat → Int32) (g_then_all : Nat → Int32) (g_town_kinds_all : Nat → Int32) (p1 : Int32) (p2 : Int32) : Option (Int32 × (Nat → Int32) × (Nat → Int32)) :=
  zb2 (f_Talks_begin g_now_all g_town_kinds_all p1) fun (r1 : Int32) (g_now_all_2 : Nat → Int32) =>
  if r1 = 0 then (
    some ((-9 : Int32), g_now_all_2, g_then_all)) else (
    zb1 (f_Talks_mostAtEnd g_isHushed_all g_now_all_2 g_town_kinds_all) fun (r5 : Int32) =>
    zj3 (fun (l3_7 : Int32) (g_now_all_8 : Nat → Int32) (g_then_all_9 : Nat → Int32) =>
      if l3_7 = (-1 : Int32) then (
        some ((-9 : Int32), g_now_all_8, g_then_all_9)) else (
        some (l3_7, g_now_all_8, g_then_all_9))) fun k11 =>
    zl4 (fun (l3_12 : Int32) (l4_13 : Int32) (g_now_all_14 : Nat → Int32) (g_then_all_15 : Nat → Int32) again16 =>
      if p2 ≤ l4_13 then (
        k11 l3_12 g_now_all_14 g_then_all_15) else (
        zb2 (f_Talks_goOn g_isHushed_all g_now_all_14 g_then_all_15 g_town_kinds_all (0 : Int32)) fun (g_now_all_18 : Nat → Int32) (g_then_all_19 : Nat → Int32) =>
        zb1 (f_Talks_mostAtEnd g_isHushed_all g_now_all_18 g_town_kinds_all) fun (r21 : Int32) =>
        zn (zmax l3_12 r21) fun (x23 : Int32) =>
        zn (l4_13 + (1 : Int32)) fun (x24 : Int32) =>
        again16 x23 x24 g_now_all_18 g_then_all_19)) zF r5 (0 : Int32) g_now_all_2 g_then_all)
def f_X_words (g_refused_all : Nat → Int32) (g_talks_isHushed_all : Nat → Int32) (g_talks_now_all : Nat → Int32) (g_talks_then_all : Nat → Int32) (g_town_kinds_all : Nat → Int32) (p1 : Int32) (p2 : Int32) : Option (Int32 × (Nat → Int32) × (Nat → Int32) × (Nat → Int32) × (Nat → Int32)) :=
  zb2 (f_X_checkWithin g_refused_all p1 p2) fun (r1 : Int32) (g_refused_all_2 : Nat → Int32) =>
  if 0 ≤ r1 then (
    zb1 (f_Talks_hush g_talks_isHushed_all g_town_kinds_all (0 : Int32)) fun (g_talks_isHushed_all_5 : Nat → Int32) =>
    zb3 (f_Talks_mostWords g_talks_isHushed_all_5 g_talks_now_all g_talks_then_all g_town_kinds_all p1 p2) fun (r7 : Int32) (g_talks_now_all_8 : Nat → Int32) (g_talks_then_all_9 : Nat → Int32) =>
    some (r7, g_refused_all_2, g_talks_isHushed_all_5, g_talks_now_all_8, g_talks_then_all_9)) else (
    some (r1, g_refused_all_2, g_talks_isHushed_all, g_talks_now_all, g_talks_then_all))
def f_X_unheard (g_refused_all : Nat → Int32) (g_talks_isHushed_all : Nat → Int32) (g_talks_now_all : Nat → Int32) (g_talks_then_all : Nat → Int32) (g_town_kinds_all : Nat → Int32) (p1 : Int32) (p2 : Int32) : Option (Int32 × (Nat → Int32) × (Nat → Int32) × (Nat → Int32) × (Nat → Int32)) :=
  zb2 (f_X_checkWithin g_refused_all p1 p2) fun (r1 : Int32) (g_refused_all_2 : Nat → Int32) =>
  if 0 ≤ r1 then (
    zb1 (f_Talks_hush g_talks_isHushed_all g_town_kinds_all (1 : Int32)) fun (g_talks_isHushed_all_5 : Nat → Int32) =>
    zb3 (f_Talks_mostWords g_talks_isHushed_all_5 g_talks_now_all g_talks_then_all g_town_kinds_all p1 p2) fun (r7 : Int32) (g_talks_now_all_8 : Nat → Int32) (g_talks_then_all_9 : Nat → Int32) =>
    some (r7, g_refused_all_2, g_talks_isHushed_all_5, g_talks_now_all_8, g_talks_then_all_9)) else (
    some (r1, g_refused_all_2, g_talks_isHushed_all, g_talks_now_all, g_talks_then_all))
def f_Talks_stepsToUncut (g_isHushed_all : Nat → Int32) (g_now_all : Nat → Int32) (g_then_all : Nat → Int32) (g_town_kinds_all : Nat → Int32) (p1 : Int32) (p2 : Int32) : Option (Int32 × (Nat → Int32) × (Nat → Int32) × (Nat → Int32)) :=
  zb1 (f_Talks_hush g_isHushed_all g_town_kinds_all (0 : Int32)) fun (g_isHushed_all_1 : Nat → Int32) =>
  zb2 (f_Talks_begin g_now_all g_town_kinds_all p1) fun (r3 : Int32) (g_now_all_4 : Nat → Int32) =>
  if r3 = 0 then (
    some ((-9 : Int32), g_isHushed_all_1, g_now_all_4, g_then_all)) else (
    zl3 (fun (l3_7 : Int32) (g_now_all_8 : Nat → Int32) (g_then_all_9 : Nat → Int32) again10 =>
      if (40 : Int32) < l3_7 then (
        some ((-9 : Int32), g_isHushed_all_1, g_now_all_8, g_then_all_9)) else (
        zb1 (f_Talks_mostAtEnd g_isHushed_all_1 g_now_all_8 g_town_kinds_all) fun (r12 : Int32) =>
        if r12 < p2 then (
          zb2 (f_Talks_goOn g_isHushed_all_1 g_now_all_8 g_then_all_9 g_town_kinds_all (1 : Int32)) fun (g_now_all_15 : Nat → Int32) (g_then_all_16 : Nat → Int32) =>
          zn (l3_7 + (1 : Int32)) fun (x18 : Int32) =>
          again10 x18 g_now_all_15 g_then_all_16) else (
          some (l3_7, g_isHushed_all_1, g_now_all_8, g_then_all_9)))) zF (0 : Int32) g_now_all_4 g_then_all)
def f_X_talk (g_refused_all : Nat → Int32) (g_talks_isHushed_all : Nat → Int32) (g_talks_now_all : Nat → Int32) (g_talks_then_all : Nat → Int32) (g_town_kinds_all : Nat → Int32) (p1 : Int32) (p2 : Int32) : Option (Int32 × (Nat → Int32) × (Nat → Int32) × (Nat → Int32) × (Nat → Int32)) :=
  zb1 (f_X_isSquare p1) fun (r1 : Int32) =>
  if r1 = 0 then (
    zb2 (f_X_refuse g_refused_all (-1 : Int32)) fun (r17 : Int32) (g_refused_all_18 : Nat → Int32) =>
    some (r17, g_refused_all_18, g_talks_isHushed_all, g_talks_now_all, g_talks_then_all)) else (
    if (1 : Int32) ≤ p2 then (
      if p2 ≤ (40 : Int32) then (
        zb4 (f_Talks_stepsToUncut g_talks_isHushed_all g_talks_now_all g_talks_then_all g_town_kinds_all p1 p2) fun (r6 : Int32) (g_talks_isHushed_all_7 : Nat → Int32) (g_talks_now_all_8 : Nat → Int32) (g_talks_then_all_9 : Nat → Int32) =>
        some (r6, g_refused_all, g_talks_isHushed_all_7, g_talks_now_all_8, g_talks_then_all_9)) else (
        zb2 (f_X_refuse g_refused_all (-6 : Int32)) fun (r11 : Int32) (g_refused_all_12 : Nat → Int32) =>
        some (r11, g_refused_all_12, g_talks_isHushed_all, g_talks_now_all, g_talks_then_all))) else (
      zb2 (f_X_refuse g_refused_all (-4 : Int32)) fun (r14 : Int32) (g_refused_all_15 : Nat → Int32) =>
      some (r14, g_refused_all_15, g_talks_isHushed_all, g_talks_now_all, g_talks_then_all)))
def f_X_meet (v_otherReach_comeCount : Int32) (g_otherReach_come_all : Nat → Int32) (g_otherReach_far_all : Nat → Int32) (v_reach_comeCount : Int32) (g_reach_come_all : Nat → Int32) (g_reach_far_all : Nat → Int32) (g_refused_all : Nat → Int32) (g_town_kinds_all : Nat → Int32) (p1 : Int32) (p2 : Int32) (p3 : Int32) : Option (Int32 × Int32 × (Nat → Int32) × (Nat → Int32) × Int32 × (Nat → Int32) × (Nat → Int32) × (Nat → Int32)) :=
  zb1 (f_X_isSquare p1) fun (r1 : Int32) =>
  zj1 (fun (_ : Unit) =>
    zb2 (f_X_refuse g_refused_all (-1 : Int32)) fun (r3 : Int32) (g_refused_all_4 : Nat → Int32) =>
    some (r3, v_otherReach_comeCount, g_otherReach_come_all, g_otherReach_far_all, v_reach_comeCount, g_reach_come_all, g_reach_far_all, g_refused_all_4)) fun k6 =>
  if r1 = 0 then (
    k6 ()) else (
    zb1 (f_X_isSquare p2) fun (r8 : Int32) =>
    if r8 = 0 then (
      k6 ()) else (
      zj1 (fun (_ : Unit) =>
        zb2 (f_X_refuse g_refused_all (-2 : Int32)) fun (r11 : Int32) (g_refused_all_12 : Nat → Int32) =>
        some (r11, v_otherReach_comeCount, g_otherReach_come_all, g_otherReach_far_all, v_reach_comeCount, g_reach_come_all, g_reach_far_all, g_refused_all_12)) fun k14 =>
      if p3 < 0 then (
        k14 ()) else (
        if p3 ≤ (1 : Int32) then (
          zb3 (f_Reach_spreadFrom v_reach_comeCount g_reach_come_all g_reach_far_all g_town_kinds_all p1) fun (v_reach_comeCount_17 : Int32) (g_reach_come_all_18 : Nat → Int32) (g_reach_far_all_19 : Nat → Int32) =>
          zb3 (f_Reach_spreadFrom v_otherReach_comeCount g_otherReach_come_all g_otherReach_far_all g_town_kinds_all p2) fun (v_otherReach_comeCount_21 : Int32) (g_otherReach_come_all_22 : Nat → Int32) (g_otherReach_far_all_23 : Nat → Int32) =>
          zj2 (fun (l4_25 : Int32) (l5_26 : Int32) =>
            if p3 = 0 then (
              some (l4_25, v_otherReach_comeCount_21, g_otherReach_come_all_22, g_otherReach_far_all_23, v_reach_comeCount_17, g_reach_come_all_18, g_reach_far_all_19, g_refused_all)) else (
              some (l5_26, v_otherReach_comeCount_21, g_otherReach_come_all_22, g_otherReach_far_all_23, v_reach_comeCount_17, g_reach_come_all_18, g_reach_far_all_19, g_refused_all))) fun k28 =>
          zl3 (fun (l4_29 : Int32) (l5_30 : Int32) (l6_31 : Int32) again32 =>
            if (36 : Int32) ≤ l6_31 then (
              k28 l4_29 l5_30) else (
              zb1 (f_Reach_stepsTo g_reach_far_all_19 l6_31) fun (r34 : Int32) =>
              zb1 (f_Reach_stepsTo g_otherReach_far_all_23 l6_31) fun (r36 : Int32) =>
              zn (zmax r34 r36) fun (x38 : Int32) =>
              zj2 (fun (l4_39 : Int32) (l5_40 : Int32) =>
                zn (l6_31 + (1 : Int32)) fun (x41 : Int32) =>
                again32 l4_39 l5_40 x41) fun k42 =>
              if r34 < 0 then (
                k42 l4_29 l5_30) else (
                if r36 < 0 then (
                  k42 l4_29 l5_30) else (
                  zj1 (fun (_ : Unit) =>
                    k42 x38 l6_31) fun k45 =>
                  if l4_29 = (-9 : Int32) then (
                    k45 ()) else (
                    if l4_29 ≤ x38 then (
                      k42 l4_29 l5_30) else (
                      k45 ())))))) zF (-9 : Int32) (-9 : Int32) (0 : Int32)) else (
          k14 ()))))
def f_X_roundOff (g_refused_all : Nat → Int32) (v_routes_cornerPrice : Int32) (v_routes_firstWaiting : Int32) (v_routes_stepPrice : Int32) (v_routes_waitingCount : Int32) (g_routes_isWaiting_all : Nat → Int32) (g_routes_label_all : Nat → Int32) (g_routes_toll_all : Nat → Int32) (g_routes_waiting_all : Nat → Int32) (v_town_home : Int32) (g_town_kinds_all : Nat → Int32) (p1 : Int32) (p2 : Int32) : Option (Int32 × (Nat → Int32) × Int32 × Int32 × Int32 × Int32 × (Nat → Int32) × (Nat → Int32) × (Nat → Int32) × (Nat → Int32) × (Nat → Int32)) :=
  zb1 (f_X_isSquare p1) fun (r1 : Int32) =>
  zj1 (fun (_ : Unit) =>
    zb2 (f_X_refuse g_refused_all (-1 : Int32)) fun (r3 : Int32) (g_refused_all_4 : Nat → Int32) =>
    some (r3, g_refused_all_4, v_routes_cornerPrice, v_routes_firstWaiting, v_routes_stepPrice, v_routes_waitingCount, g_routes_isWaiting_all, g_routes_label_all, g_routes_toll_all, g_routes_waiting_all, g_town_kinds_all)) fun k6 =>
  if r1 = 0 then (
    k6 ()) else (
    zb1 (f_X_isSquare p2) fun (r8 : Int32) =>
    if r8 = 0 then (
      k6 ()) else (
      zb3 (f_Routes_chargeCorners v_routes_cornerPrice v_routes_stepPrice g_routes_toll_all) fun (v_routes_cornerPrice_11 : Int32) (v_routes_stepPrice_12 : Int32) (g_routes_toll_all_13 : Nat → Int32) =>
      zb6 (f_Routes_cheapest v_routes_cornerPrice_11 v_routes_firstWaiting v_routes_stepPrice_12 v_routes_waitingCount g_routes_isWaiting_all g_routes_label_all g_routes_toll_all_13 g_town_kinds_all g_routes_waiting_all p1 p2) fun (r15 : Int32) (v_routes_firstWaiting_16 : Int32) (v_routes_waitingCount_17 : Int32) (g_routes_isWaiting_all_18 : Nat → Int32) (g_routes_label_all_19 : Nat → Int32) (g_routes_waiting_all_20 : Nat → Int32) =>
      zb1 (f_Routes_cornersOf r15) fun (r22 : Int32) =>
      zl9 (fun (l3_24 : Int32) (l4_25 : Int32) (l5_26 : Int32) (v_routes_firstWaiting_27 : Int32) (v_routes_waitingCount_28 : Int32) (g_routes_isWaiting_all_29 : Nat → Int32) (g_routes_label_all_30 : Nat → Int32) (g_routes_waiting_all_31 : Nat → Int32) (g_town_kinds_all_32 : Nat → Int32) again33 =>
        if (36 : Int32) ≤ l5_26 then (
          some (l4_25, g_refused_all, v_routes_cornerPrice_11, v_routes_firstWaiting_27, v_routes_stepPrice_12, v_routes_waitingCount_28, g_routes_isWaiting_all_29, g_routes_label_all_30, g_routes_toll_all_13, g_routes_waiting_all_31, g_town_kinds_all_32)) else (
          if l3_24 ≤ 0 then (
            some (l4_25, g_refused_all, v_routes_cornerPrice_11, v_routes_firstWaiting_27, v_routes_stepPrice_12, v_routes_waitingCount_28, g_routes_isWaiting_all_29, g_routes_label_all_30, g_routes_toll_all_13, g_routes_waiting_all_31, g_town_kinds_all_32)) else (
            zb1 (f_Town_kindOf g_town_kinds_all_32 l5_26) fun (r36 : Int32) =>
            zj8 (fun (l3_38 : Int32) (l4_39 : Int32) (v_routes_firstWaiting_40 : Int32) (v_routes_waitingCount_41 : Int32) (g_routes_isWaiting_all_42 : Nat → Int32) (g_routes_label_all_43 : Nat → Int32) (g_routes_waiting_all_44 : Nat → Int32) (g_town_kinds_all_45 : Nat → Int32) =>
              zn (l5_26 + (1 : Int32)) fun (x46 : Int32) =>
              again33 l3_38 l4_39 x46 v_routes_firstWaiting_40 v_routes_waitingCount_41 g_routes_isWaiting_all_42 g_routes_label_all_43 g_routes_waiting_all_44 g_town_kinds_all_45) fun k47 =>
            if r36 = 0 then (
              zb2 (f_Town_rebuild v_town_home g_town_kinds_all_32 l5_26 l5_26 (2 : Int32)) fun (r49 : Int32) (g_town_kinds_all_50 : Nat → Int32) =>
              zb6 (f_Routes_cheapest v_routes_cornerPrice_11 v_routes_firstWaiting_27 v_routes_stepPrice_12 v_routes_waitingCount_28 g_routes_isWaiting_all_29 g_routes_label_all_30 g_routes_toll_all_13 g_town_kinds_all_50 g_routes_waiting_all_31 p1 p2) fun (r52 : Int32) (v_routes_firstWaiting_53 : Int32) (v_routes_waitingCount_54 : Int32) (g_routes_isWaiting_all_55 : Nat → Int32) (g_routes_label_all_56 : Nat → Int32) (g_routes_waiting_all_57 : Nat → Int32) =>
              zb1 (f_Routes_cornersOf r52) fun (r59 : Int32) =>
              zb2 (f_Town_rebuild v_town_home g_town_kinds_all_50 l5_26 l5_26 (0 : Int32)) fun (r61 : Int32) (g_town_kinds_all_62 : Nat → Int32) =>
              if l3_24 ≤ r59 then (
                k47 l3_24 l4_25 v_routes_firstWaiting_53 v_routes_waitingCount_54 g_routes_isWaiting_all_55 g_routes_label_all_56 g_routes_waiting_all_57 g_town_kinds_all_62) else (
                k47 r59 l5_26 v_routes_firstWaiting_53 v_routes_waitingCount_54 g_routes_isWaiting_all_55 g_routes_label_all_56 g_routes_waiting_all_57 g_town_kinds_all_62)) else (
              k47 l3_24 l4_25 v_routes_firstWaiting_27 v_routes_waitingCount_28 g_routes_isWaiting_all_29 g_routes_label_all_30 g_routes_waiting_all_31 g_town_kinds_all_32)))) zF r22 (-9 : Int32) (0 : Int32) v_routes_firstWaiting_16 v_routes_waitingCount_17 g_routes_isWaiting_all_18 g_routes_label_all_19 g_routes_waiting_all_20 g_town_kinds_all))
def f_X_newlyHeardFrom (g_hearers_all : Nat → Int32) (p1 : Int32) : Option (Int32) :=
  zl2 (fun (l2_1 : Int32) (l3_2 : Int32) again3 =>
    if (36 : Int32) ≤ l3_2 then (
      some (l2_1)) else (
      zb1 (f_Numbers_at 36 g_hearers_all l3_2) fun (r5 : Int32) =>
      zj1 (fun (l2_7 : Int32) =>
        zn (l3_2 + (1 : Int32)) fun (x8 : Int32) =>
        again3 l2_7 x8) fun k9 =>
      if r5 = 0 then (
        zb1 (f_Town_apart p1 l3_2) fun (r11 : Int32) =>
        if (1 : Int32) < r11 then (
          k9 l2_1) else (
          zn (l2_1 + (1 : Int32)) fun (x14 : Int32) =>
          k9 x14)) else (
        k9 l2_1))) zF (0 : Int32) (0 : Int32)
def f_X_newNiche (g_hearers_all : Nat → Int32) (g_refused_all : Nat → Int32) (v_town_home : Int32) (g_town_kinds_all : Nat → Int32) (p1 : Int32) : Option (Int32 × (Nat → Int32) × (Nat → Int32)) :=
  zj1 (fun (_ : Unit) =>
    zb2 (f_X_refuse g_refused_all (-2 : Int32)) fun (r1 : Int32) (g_refused_all_2 : Nat → Int32) =>
    some (r1, g_hearers_all, g_refused_all_2)) fun k4 =>
  if p1 < 0 then (
    k4 ()) else (
    if p1 ≤ (1 : Int32) then (
      zj1 (fun (g_hearers_all_7 : Nat → Int32) =>
        zj2 (fun (l2_8 : Int32) (l3_9 : Int32) =>
          if p1 = 0 then (
            some (l3_9, g_hearers_all_7, g_refused_all)) else (
            if l3_9 = (-9 : Int32) then (
              some (l3_9, g_hearers_all_7, g_refused_all)) else (
              some (l2_8, g_hearers_all_7, g_refused_all)))) fun k12 =>
        zl3 (fun (l2_13 : Int32) (l3_14 : Int32) (l4_15 : Int32) again16 =>
          if (36 : Int32) ≤ l4_15 then (
            k12 l2_13 l3_14) else (
            zb1 (f_Town_home v_town_home) fun (r18 : Int32) =>
            zj2 (fun (l2_20 : Int32) (l3_21 : Int32) =>
              zn (l4_15 + (1 : Int32)) fun (x22 : Int32) =>
              again16 l2_20 l3_21 x22) fun k23 =>
            if l4_15 = r18 then (
              k23 l2_13 l3_14) else (
              zb1 (f_Town_canBe g_town_kinds_all l4_15) fun (r25 : Int32) =>
              if r25 = 0 then (
                k23 l2_13 l3_14) else (
                zb1 (f_X_newlyHeardFrom g_hearers_all_7 l4_15) fun (r28 : Int32) =>
                if r28 ≤ l2_13 then (
                  k23 l2_13 l3_14) else (
                  k23 r28 l4_15))))) zF (0 : Int32) (-9 : Int32) (0 : Int32)) fun k31 =>
      zl2 (fun (l2_32 : Int32) (g_hearers_all_33 : Nat → Int32) again34 =>
        if (36 : Int32) ≤ l2_32 then (
          k31 g_hearers_all_33) else (
          zb1 (f_Town_heardBy g_town_kinds_all l2_32) fun (r36 : Int32) =>
          zb1 (f_Numbers_put 36 g_hearers_all_33 l2_32 r36) fun (g_hearers_all_38 : Nat → Int32) =>
          zn (l2_32 + (1 : Int32)) fun (x40 : Int32) =>
          again34 x40 g_hearers_all_38)) zF (0 : Int32) g_hearers_all) else (
      k4 ()))
def f_X_informers (g_town_kinds_all : Nat → Int32) : Option (Int32) :=
  zl2 (fun (l1_1 : Int32) (l2_2 : Int32) again3 =>
    if (36 : Int32) ≤ l2_2 then (
      some (l1_1)) else (
      zb1 (f_Town_hearing g_town_kinds_all l2_2) fun (r5 : Int32) =>
      zj1 (fun (s7 : Int32) =>
        zn (l1_1 + s7) fun (x8 : Int32) =>
        zn (l2_2 + (1 : Int32)) fun (x9 : Int32) =>
        again3 x8 x9) fun k10 =>
      if r5 < 0 then (
        k10 (0 : Int32)) else (
        k10 (1 : Int32)))) zF (0 : Int32) (0 : Int32)
def f_Town_hears (g_kinds_all : Nat → Int32) (p1 : Int32) (p2 : Int32) : Option (Int32) :=
  zb1 (f_Town_apart p1 p2) fun (r1 : Int32) =>
  zb1 (f_Town_hearing g_kinds_all p1) fun (r3 : Int32) =>
  if r3 < r1 then (
    some ((0 : Int32))) else (
    some ((1 : Int32)))
def f_X_noteHearers (g_hearers_all : Nat → Int32) (g_town_kinds_all : Nat → Int32) : Option (Int32 × (Nat → Int32)) :=
  zb1 (f_Numbers_fill 36 g_hearers_all (0 : Int32)) fun (g_hearers_all_1 : Nat → Int32) =>
  zj2 (fun (l1_3 : Int32) (g_hearers_all_4 : Nat → Int32) =>
    some (l1_3 - (1 : Int32), g_hearers_all_4)) fun k5 =>
  zl3 (fun (l1_6 : Int32) (l2_7 : Int32) (g_hearers_all_8 : Nat → Int32) again9 =>
    if (36 : Int32) ≤ l2_7 then (
      k5 l1_6 g_hearers_all_8) else (
      zb1 (f_Town_hearing g_town_kinds_all l2_7) fun (r11 : Int32) =>
      zj2 (fun (l1_13 : Int32) (g_hearers_all_14 : Nat → Int32) =>
        zn (l2_7 + (1 : Int32)) fun (x15 : Int32) =>
        again9 l1_13 x15 g_hearers_all_14) fun k16 =>
      if 0 ≤ r11 then (
        zj1 (fun (g_hearers_all_18 : Nat → Int32) =>
          zn (zshl l1_6 (1 : Int32)) fun (x19 : Int32) =>
          k16 x19 g_hearers_all_18) fun k20 =>
        zl2 (fun (l3_21 : Int32) (g_hearers_all_22 : Nat → Int32) again23 =>
          if (36 : Int32) ≤ l3_21 then (
            k20 g_hearers_all_22) else (
            zb1 (f_Town_hears g_town_kinds_all l2_7 l3_21) fun (r25 : Int32) =>
            zj1 (fun (g_hearers_all_27 : Nat → Int32) =>
              zn (l3_21 + (1 : Int32)) fun (x28 : Int32) =>
              again23 x28 g_hearers_all_27) fun k29 =>
            if r25 = 0 then (
              k29 g_hearers_all_22) else (
              zb1 (f_Numbers_at 36 g_hearers_all_22 l3_21) fun (r31 : Int32) =>
              zb1 (f_Numbers_put 36 g_hearers_all_22 l3_21 (r31 ||| l1_6)) fun (g_hearers_all_33 : Nat → Int32) =>
              k29 g_hearers_all_33))) zF (0 : Int32) g_hearers_all_8) else (
        k16 l1_6 g_hearers_all_8))) zF (1 : Int32) (0 : Int32) g_hearers_all_1
def f_Integer_bitCount (p0 : Int32) : Option (Int32) :=
  zn (p0 - ((zush p0 (1 : Int32)) &&& (1431655765 : Int32))) fun (x1 : Int32) =>
  zn ((x1 &&& (858993459 : Int32)) + ((zush x1 (2 : Int32)) &&& (858993459 : Int32))) fun (x2 : Int32) =>
  zn ((x2 + (zush x2 (4 : Int32))) &&& (252645135 : Int32)) fun (x3 : Int32) =>
  zn (x3 + (zush x3 (8 : Int32))) fun (x4 : Int32) =>
  zn (x4 + (zush x4 (16 : Int32))) fun (x5 : Int32) =>
  some (x5 &&& (63 : Int32))
def f_X_hearAll (g_hearers_all : Nat → Int32) (p1 : Int32) : Option (Int32) :=
  zl1 (fun (l2_1 : Int32) again2 =>
    if (36 : Int32) ≤ l2_1 then (
      some ((1 : Int32))) else (
      zb1 (f_Numbers_at 36 g_hearers_all l2_1) fun (r4 : Int32) =>
      zj1 (fun (_ : Unit) =>
        zn (l2_1 + (1 : Int32)) fun (x6 : Int32) =>
        again2 x6) fun k7 =>
      if r4 = 0 then (
        k7 ()) else (
        zb1 (f_Numbers_at 36 g_hearers_all l2_1) fun (r9 : Int32) =>
        if (r9 &&& p1) = 0 then (
          some ((0 : Int32))) else (
          k7 ())))) zF (0 : Int32)
def f_X_enough (g_hearers_all : Nat → Int32) (g_refused_all : Nat → Int32) (g_town_kinds_all : Nat → Int32) : Option (Int32 × (Nat → Int32) × (Nat → Int32)) :=
  zb1 (f_X_informers g_town_kinds_all) fun (r1 : Int32) =>
  if r1 ≤ (8 : Int32) then (
    zb2 (f_X_noteHearers g_hearers_all g_town_kinds_all) fun (r4 : Int32) (g_hearers_all_5 : Nat → Int32) =>
    zl2 (fun (l2_7 : Int32) (l3_8 : Int32) again9 =>
      if r4 ≤ l3_8 then (
        some (l2_7, g_hearers_all_5, g_refused_all)) else (
        zb1 (f_Integer_bitCount l3_8) fun (r11 : Int32) =>
        zb1 (f_Integer_bitCount l2_7) fun (r13 : Int32) =>
        zj1 (fun (l2_15 : Int32) =>
          zn (l3_8 + (1 : Int32)) fun (x16 : Int32) =>
          again9 l2_15 x16) fun k17 =>
        if r13 ≤ r11 then (
          k17 l2_7) else (
          zb1 (f_X_hearAll g_hearers_all_5 l3_8) fun (r19 : Int32) =>
          if r19 = 0 then (
            k17 l2_7) else (
            k17 l3_8)))) zF r4 (0 : Int32)) else (
    zb2 (f_X_refuse g_refused_all (-3 : Int32)) fun (r22 : Int32) (g_refused_all_23 : Nat → Int32) =>
    some (r22, g_hearers_all, g_refused_all_23))
def f_X_quiet (v_reach_comeCount : Int32) (g_reach_come_all : Nat → Int32) (g_reach_far_all : Nat → Int32) (g_town_kinds_all : Nat → Int32) : Option (Int32 × Int32 × (Nat → Int32) × (Nat → Int32)) :=
  zb2 (f_Reach_begin v_reach_comeCount g_reach_far_all) fun (v_reach_comeCount_1 : Int32) (g_reach_far_all_2 : Nat → Int32) =>
  zj3 (fun (v_reach_comeCount_4 : Int32) (g_reach_come_all_5 : Nat → Int32) (g_reach_far_all_6 : Nat → Int32) =>
    zb3 (f_Reach_spread v_reach_comeCount_4 g_reach_come_all_5 g_reach_far_all_6 g_town_kinds_all) fun (v_reach_comeCount_7 : Int32) (g_reach_come_all_8 : Nat → Int32) (g_reach_far_all_9 : Nat → Int32) =>
    zl3 (fun (l1_11 : Int32) (l2_12 : Int32) (l3_13 : Int32) again14 =>
      if (36 : Int32) ≤ l3_13 then (
        some (l2_12, v_reach_comeCount_7, g_reach_come_all_8, g_reach_far_all_9)) else (
        zb1 (f_Reach_stepsTo g_reach_far_all_9 l3_13) fun (r16 : Int32) =>
        zj2 (fun (l1_18 : Int32) (l2_19 : Int32) =>
          zn (l3_13 + (1 : Int32)) fun (x20 : Int32) =>
          again14 l1_18 l2_19 x20) fun k21 =>
        if r16 ≤ l1_11 then (
          k21 l1_11 l2_12) else (
          zb1 (f_Reach_stepsTo g_reach_far_all_9 l3_13) fun (r23 : Int32) =>
          k21 r23 l3_13))) zF (-9 : Int32) (-9 : Int32) (0 : Int32)) fun k25 =>
  zl4 (fun (l1_26 : Int32) (v_reach_comeCount_27 : Int32) (g_reach_come_all_28 : Nat → Int32) (g_reach_far_all_29 : Nat → Int32) again30 =>
    if (36 : Int32) ≤ l1_26 then (
      k25 v_reach_comeCount_27 g_reach_come_all_28 g_reach_far_all_29) else (
      zb1 (f_Town_heardBy g_town_kinds_all l1_26) fun (r32 : Int32) =>
      zj3 (fun (v_reach_comeCount_34 : Int32) (g_reach_come_all_35 : Nat → Int32) (g_reach_far_all_36 : Nat → Int32) =>
        zn (l1_26 + (1 : Int32)) fun (x37 : Int32) =>
        again30 x37 v_reach_comeCount_34 g_reach_come_all_35 g_reach_far_all_36) fun k38 =>
      if r32 ≤ 0 then (
        k38 v_reach_comeCount_27 g_reach_come_all_28 g_reach_far_all_29) else (
        zb3 (f_Reach_setOut v_reach_comeCount_27 g_reach_come_all_28 g_reach_far_all_29 g_town_kinds_all l1_26) fun (v_reach_comeCount_40 : Int32) (g_reach_come_all_41 : Nat → Int32) (g_reach_far_all_42 : Nat → Int32) =>
        k38 v_reach_comeCount_40 g_reach_come_all_41 g_reach_far_all_42))) zF (0 : Int32) v_reach_comeCount_1 g_reach_come_all g_reach_far_all_2
def f_Town_isYardCorner (g_kinds_all : Nat → Int32) (p1 : Int32) : Option (Int32) :=
  zb1 (f_Town_next g_kinds_all p1 (0 : Int32)) fun (r1 : Int32) =>
  zj1 (fun (s3 : Int32) =>
    zb1 (f_Town_next g_kinds_all p1 (1 : Int32)) fun (r4 : Int32) =>
    zj1 (fun (s6 : Int32) =>
      if s3 = 0 then (
        some ((0 : Int32))) else (
        if s6 = 0 then (
          some ((0 : Int32))) else (
          zb1 (f_Town_turnsAreCorners g_kinds_all p1) fun (r9 : Int32) =>
          if r9 = 0 then (
            some ((0 : Int32))) else (
            some ((1 : Int32)))))) fun k12 =>
    zj1 (fun (_ : Unit) =>
      k12 (1 : Int32)) fun k13 =>
    if r4 = (-1 : Int32) then (
      zb1 (f_Town_next g_kinds_all p1 (2 : Int32)) fun (r15 : Int32) =>
      if r15 = (-1 : Int32) then (
        k12 (0 : Int32)) else (
        k13 ())) else (
      k13 ())) fun k18 =>
  zj1 (fun (_ : Unit) =>
    k18 (1 : Int32)) fun k19 =>
  if r1 = (-1 : Int32) then (
    zb1 (f_Town_next g_kinds_all p1 (3 : Int32)) fun (r21 : Int32) =>
    if r21 = (-1 : Int32) then (
      k18 (0 : Int32)) else (
      k19 ())) else (
    k19 ())
def f_X_yards (v_reach_comeCount : Int32) (g_reach_come_all : Nat → Int32) (g_reach_far_all : Nat → Int32) (g_refused_all : Nat → Int32) (g_town_kinds_all : Nat → Int32) (p1 : Int32) : Option (Int32 × Int32 × (Nat → Int32) × (Nat → Int32) × (Nat → Int32)) :=
  zb1 (f_X_isSquare p1) fun (r1 : Int32) =>
  if r1 = 0 then (
    zb2 (f_X_refuse g_refused_all (-1 : Int32)) fun (r24 : Int32) (g_refused_all_25 : Nat → Int32) =>
    some (r24, v_reach_comeCount, g_reach_come_all, g_reach_far_all, g_refused_all_25)) else (
    zb3 (f_Reach_spreadFrom v_reach_comeCount g_reach_come_all g_reach_far_all g_town_kinds_all p1) fun (v_reach_comeCount_4 : Int32) (g_reach_come_all_5 : Nat → Int32) (g_reach_far_all_6 : Nat → Int32) =>
    zl2 (fun (l2_8 : Int32) (l3_9 : Int32) again10 =>
      if (36 : Int32) ≤ l3_9 then (
        some (l2_8, v_reach_comeCount_4, g_reach_come_all_5, g_reach_far_all_6, g_refused_all)) else (
        zb1 (f_Reach_stepsTo g_reach_far_all_6 l3_9) fun (r12 : Int32) =>
        zj1 (fun (l2_14 : Int32) =>
          zn (l3_9 + (1 : Int32)) fun (x15 : Int32) =>
          again10 l2_14 x15) fun k16 =>
        if r12 < 0 then (
          k16 l2_8) else (
          zb1 (f_Town_isYardCorner g_town_kinds_all l3_9) fun (r18 : Int32) =>
          if r18 = 0 then (
            k16 l2_8) else (
            zj1 (fun (_ : Unit) =>
              k16 r12) fun k21 =>
            if l2_8 = (-9 : Int32) then (
              k21 ()) else (
              if l2_8 ≤ r12 then (
                k16 l2_8) else (
                k21 ())))))) zF (-9 : Int32) (0 : Int32))
def f_Talks_fitsBefore (g_now_all : Nat → Int32) (g_town_kinds_all : Nat → Int32) (p1 : Int32) (p2 : Int32) : Option (Int32) :=
  zn (p1 / (5 : Int32)) fun (x1 : Int32) =>
  zb1 (f_Town_canBe g_town_kinds_all x1) fun (r2 : Int32) =>
  if r2 = 0 then (
    some ((0 : Int32))) else (
    zl1 (fun (l4_5 : Int32) again6 =>
      if (4 : Int32) ≤ l4_5 then (
        some ((0 : Int32))) else (
        zb1 (f_Town_next g_town_kinds_all x1 l4_5) fun (r8 : Int32) =>
        zb1 (f_Town_isCorner g_town_kinds_all x1 (zrem p1 (5 : Int32)) l4_5) fun (r10 : Int32) =>
        zj1 (fun (s12 : Int32) =>
          zj1 (fun (_ : Unit) =>
            zn (l4_5 + (1 : Int32)) fun (x13 : Int32) =>
            again6 x13) fun k14 =>
          if r8 = (-1 : Int32) then (
            k14 ()) else (
            if s12 = p2 then (
              zb1 (f_Numbers_at 180 g_now_all ((r8 * (5 : Int32)) + l4_5)) fun (r17 : Int32) =>
              if r17 = (1 : Int32) then (
                some ((1 : Int32))) else (
                k14 ())) else (
              k14 ()))) fun k20 =>
        if r10 = 0 then (
          zb1 (f_Town_wordsOn g_town_kinds_all x1) fun (r22 : Int32) =>
          k20 r22) else (
          k20 (0 : Int32)))) zF (0 : Int32))
def f_Talks_fitAll (n_p1 : Nat) (g_p1_all : Nat → Int32) (g_now_all : Nat → Int32) (g_then_all : Nat → Int32) (g_town_kinds_all : Nat → Int32) (p2 : Int32) : Option ((Nat → Int32) × (Nat → Int32)) :=
  zj1 (fun (g_now_all_1 : Nat → Int32) =>
    zn (p2 - (2 : Int32)) fun (x2 : Int32) =>
    zl3 (fun (l3_3 : Int32) (g_now_all_4 : Nat → Int32) (g_then_all_5 : Nat → Int32) again6 =>
      if l3_3 < 0 then (
        some (g_now_all_4, g_then_all_5)) else (
        zj1 (fun (g_then_all_8 : Nat → Int32) =>
          zb1 (f_Numbers_takeOver 180 180 g_then_all_8 g_now_all_4) fun (g_now_all_9 : Nat → Int32) =>
          zn (l3_3 + (-1 : Int32)) fun (x11 : Int32) =>
          again6 x11 g_now_all_9 g_then_all_8) fun k12 =>
        zl2 (fun (l4_13 : Int32) (g_then_all_14 : Nat → Int32) again15 =>
          if (180 : Int32) ≤ l4_13 then (
            k12 g_then_all_14) else (
            zb1 (f_Numbers_at n_p1 g_p1_all l3_3) fun (r17 : Int32) =>
            zb1 (f_Talks_fitsBefore g_now_all_4 g_town_kinds_all l4_13 r17) fun (r19 : Int32) =>
            zj1 (fun (s21 : Int32) =>
              zb1 (f_Numbers_put 180 g_then_all_14 l4_13 s21) fun (g_then_all_22 : Nat → Int32) =>
              zn (l4_13 + (1 : Int32)) fun (x24 : Int32) =>
              again15 x24 g_then_all_22) fun k25 =>
            if r19 = 0 then (
              k25 (-1 : Int32)) else (
              k25 (1 : Int32)))) zF (0 : Int32) g_then_all_5)) zF x2 g_now_all_1 g_then_all) fun k27 =>
  zl2 (fun (l3_28 : Int32) (g_now_all_29 : Nat → Int32) again30 =>
    if (180 : Int32) ≤ l3_28 then (
      k27 g_now_all_29) else (
      zn (l3_28 / (5 : Int32)) fun (x32 : Int32) =>
      zb1 (f_Town_canBe g_town_kinds_all x32) fun (r33 : Int32) =>
      zj1 (fun (s35 : Int32) =>
        zj1 (fun (s36 : Int32) =>
          zb1 (f_Numbers_put 180 g_now_all_29 l3_28 s36) fun (g_now_all_37 : Nat → Int32) =>
          zn (l3_28 + (1 : Int32)) fun (x39 : Int32) =>
          again30 x39 g_now_all_37) fun k40 =>
        if s35 = 0 then (
          k40 (-1 : Int32)) else (
          k40 (1 : Int32))) fun k42 =>
      zj1 (fun (_ : Unit) =>
        k42 (0 : Int32)) fun k43 =>
      if r33 = 0 then (
        k43 ()) else (
        zb1 (f_Town_wordsOn g_town_kinds_all x32) fun (r45 : Int32) =>
        zb1 (f_Numbers_at n_p1 g_p1_all (p2 - (1 : Int32))) fun (r47 : Int32) =>
        if r45 = r47 then (
          k42 (1 : Int32)) else (
          k43 ())))) zF (0 : Int32) g_now_all
def f_Talks_canStart (g_now_all : Nat → Int32) (p1 : Int32) : Option (Int32) :=
  zb1 (f_Numbers_at 180 g_now_all ((p1 * (5 : Int32)) + (4 : Int32))) fun (r1 : Int32) =>
  if r1 = (1 : Int32) then (
    some ((1 : Int32))) else (
    some ((0 : Int32)))
def f_X_said (v_toldCount : Int32) (g_refused_all : Nat → Int32) (g_talks_now_all : Nat → Int32) (g_talks_then_all : Nat → Int32) (g_told_all : Nat → Int32) (g_town_kinds_all : Nat → Int32) (p1 : Int32) : Option (Int32 × (Nat → Int32) × (Nat → Int32) × (Nat → Int32)) :=
  zj1 (fun (_ : Unit) =>
    zb2 (f_X_refuse g_refused_all (-2 : Int32)) fun (r1 : Int32) (g_refused_all_2 : Nat → Int32) =>
    some (r1, g_refused_all_2, g_talks_now_all, g_talks_then_all)) fun k4 =>
  if p1 < 0 then (
    k4 ()) else (
    if p1 ≤ (1 : Int32) then (
      if v_toldCount = 0 then (
        zb2 (f_X_refuse g_refused_all (-3 : Int32)) fun (r28 : Int32) (g_refused_all_29 : Nat → Int32) =>
        some (r28, g_refused_all_29, g_talks_now_all, g_talks_then_all)) else (
        zb2 (f_Talks_fitAll 20 g_told_all g_talks_now_all g_talks_then_all g_town_kinds_all v_toldCount) fun (g_talks_now_all_8 : Nat → Int32) (g_talks_then_all_9 : Nat → Int32) =>
        zj2 (fun (l2_11 : Int32) (l3_12 : Int32) =>
          if p1 = 0 then (
            some (l2_11, g_refused_all, g_talks_now_all_8, g_talks_then_all_9)) else (
            some (l3_12, g_refused_all, g_talks_now_all_8, g_talks_then_all_9))) fun k14 =>
        zl3 (fun (l2_15 : Int32) (l3_16 : Int32) (l4_17 : Int32) again18 =>
          if l4_17 < 0 then (
            k14 l2_15 l3_16) else (
            zb1 (f_Talks_canStart g_talks_now_all_8 l4_17) fun (r20 : Int32) =>
            zj2 (fun (l2_22 : Int32) (l3_23 : Int32) =>
              zn (l4_17 + (-1 : Int32)) fun (x24 : Int32) =>
              again18 l2_22 l3_23 x24) fun k25 =>
            if r20 = 0 then (
              k25 l2_15 l3_16) else (
              zn (l2_15 + (1 : Int32)) fun (x27 : Int32) =>
              k25 x27 l4_17))) zF (0 : Int32) (-9 : Int32) (35 : Int32))) else (
      k4 ()))
def f_X_row (v_toldCount : Int32) (g_refused_all : Nat → Int32) (g_told_all : Nat → Int32) (p1 : Int32) : Option (Int32 × Int32 × (Nat → Int32) × (Nat → Int32)) :=
  if 0 ≤ p1 then (
    zj1 (fun (_ : Unit) =>
      zb2 (f_X_refuse g_refused_all (-6 : Int32)) fun (r2 : Int32) (g_refused_all_3 : Nat → Int32) =>
      some (r2, v_toldCount, g_refused_all_3, g_told_all)) fun k5 =>
    if (9 : Int32) < p1 then (
      k5 ()) else (
      if v_toldCount < (20 : Int32) then (
        zb1 (f_Numbers_put 20 g_told_all v_toldCount p1) fun (g_told_all_8 : Nat → Int32) =>
        zn (v_toldCount + (1 : Int32)) fun (x10 : Int32) =>
        some (x10, x10, g_refused_all, g_told_all_8)) else (
        k5 ()))) else (
    zb2 (f_X_refuse g_refused_all (-4 : Int32)) fun (r11 : Int32) (g_refused_all_12 : Nat → Int32) =>
    some (r11, v_toldCount, g_refused_all_12, g_told_all))
def f_X_judge (v_toldCount : Int32) (g_refused_all : Nat → Int32) (v_stroll_allCorners : Int32) (v_stroll_allCuts : Int32) (v_stroll_allWords : Int32) (v_stroll_came : Int32) (v_stroll_longestRun : Int32) (v_stroll_run : Int32) (v_stroll_square : Int32) (g_stroll_spoken_all : Nat → Int32) (g_told_all : Nat → Int32) (v_town_breath : Int32) (v_town_home : Int32) (g_town_kinds_all : Nat → Int32) : Option (Int32 × Int32 × (Nat → Int32) × Int32 × Int32 × Int32 × Int32 × Int32 × Int32 × Int32 × (Nat → Int32)) :=
  zb1 (f_X_isRowOfWays v_toldCount g_told_all) fun (r1 : Int32) =>
  if r1 = 0 then (
    zb2 (f_X_refuse g_refused_all (-3 : Int32)) fun (r14 : Int32) (g_refused_all_15 : Nat → Int32) =>
    some (r14, v_toldCount, g_refused_all_15, v_stroll_allCorners, v_stroll_allCuts, v_stroll_allWords, v_stroll_came, v_stroll_longestRun, v_stroll_run, v_stroll_square, g_stroll_spoken_all)) else (
    zb9 (f_X_goTheRow v_toldCount v_stroll_allCorners v_stroll_allCuts v_stroll_allWords v_stroll_came v_stroll_longestRun v_stroll_run v_stroll_square g_stroll_spoken_all g_told_all v_town_breath v_town_home g_town_kinds_all) fun (r4 : Int32) (v_stroll_allCorners_5 : Int32) (v_stroll_allCuts_6 : Int32) (v_stroll_allWords_7 : Int32) (v_stroll_came_8 : Int32) (v_stroll_longestRun_9 : Int32) (v_stroll_run_10 : Int32) (v_stroll_square_11 : Int32) (g_stroll_spoken_all_12 : Nat → Int32) =>
    some (r4, (0 : Int32), g_refused_all, v_stroll_allCorners_5, v_stroll_allCuts_6, v_stroll_allWords_7, v_stroll_came_8, v_stroll_longestRun_9, v_stroll_run_10, v_stroll_square_11, g_stroll_spoken_all_12))
def f_X_clear (v_toldCount : Int32) : Option (Int32 × Int32) :=
  some (v_toldCount, (0 : Int32))
def f_X_lots (g_refused_all : Nat → Int32) (v_stroll_allCorners : Int32) (v_stroll_allCuts : Int32) (v_stroll_allWords : Int32) (v_stroll_came : Int32) (v_stroll_longestRun : Int32) (v_stroll_run : Int32) (v_stroll_square : Int32) (g_stroll_spoken_all : Nat → Int32) (v_town_breath : Int32) (v_town_fine : Int32) (v_town_home : Int32) (g_town_kinds_all : Nat → Int32) (p1 : Int32) (p2 : Int32) (p3 : Int32) : Option (Int32 × (Nat → Int32) × Int32 × Int32 × Int32 × Int32 × Int32 × Int32 × Int32 × (Nat → Int32)) :=
  if (1 : Int32) ≤ p1 then (
    if p1 ≤ (20 : Int32) then (
      zj1 (fun (_ : Unit) =>
        zb2 (f_X_refuse g_refused_all (-2 : Int32)) fun (r3 : Int32) (g_refused_all_4 : Nat → Int32) =>
        some (r3, g_refused_all_4, v_stroll_allCorners, v_stroll_allCuts, v_stroll_allWords, v_stroll_came, v_stroll_longestRun, v_stroll_run, v_stroll_square, g_stroll_spoken_all)) fun k6 =>
      if p3 < 0 then (
        k6 ()) else (
        if p3 ≤ (1 : Int32) then (
          zl11 (fun (l4_9 : Int32) (l5_10 : Int32) (l6_11 : Int32) (v_stroll_allCorners_12 : Int32) (v_stroll_allCuts_13 : Int32) (v_stroll_allWords_14 : Int32) (v_stroll_came_15 : Int32) (v_stroll_longestRun_16 : Int32) (v_stroll_run_17 : Int32) (v_stroll_square_18 : Int32) (g_stroll_spoken_all_19 : Nat → Int32) again20 =>
            if p1 ≤ l6_11 then (
              some (l5_10, g_refused_all, v_stroll_allCorners_12, v_stroll_allCuts_13, v_stroll_allWords_14, v_stroll_came_15, v_stroll_longestRun_16, v_stroll_run_17, v_stroll_square_18, g_stroll_spoken_all_19)) else (
              zb8 (f_Stroll_begin v_stroll_allCorners_12 v_stroll_allCuts_13 v_stroll_allWords_14 v_stroll_came_15 v_stroll_longestRun_16 v_stroll_run_17 v_stroll_square_18 g_stroll_spoken_all_19 v_town_home) fun (v_stroll_allCorners_22 : Int32) (v_stroll_allCuts_23 : Int32) (v_stroll_allWords_24 : Int32) (v_stroll_came_25 : Int32) (v_stroll_longestRun_26 : Int32) (v_stroll_run_27 : Int32) (v_stroll_square_28 : Int32) (g_stroll_spoken_all_29 : Nat → Int32) =>
              zj9 (fun (l4_31 : Int32) (v_stroll_allCorners_32 : Int32) (v_stroll_allCuts_33 : Int32) (v_stroll_allWords_34 : Int32) (v_stroll_came_35 : Int32) (v_stroll_longestRun_36 : Int32) (v_stroll_run_37 : Int32) (v_stroll_square_38 : Int32) (g_stroll_spoken_all_39 : Nat → Int32) =>
                zb5 (f_Stroll_end v_stroll_allCuts_33 v_stroll_allWords_34 v_stroll_longestRun_36 v_stroll_run_37 v_stroll_square_38 g_stroll_spoken_all_39 v_town_breath g_town_kinds_all) fun (v_stroll_allCuts_40 : Int32) (v_stroll_allWords_41 : Int32) (v_stroll_longestRun_42 : Int32) (v_stroll_run_43 : Int32) (g_stroll_spoken_all_44 : Nat → Int32) =>
                zj1 (fun (s46 : Int32) =>
                  zb1 (f_Stroll_answer v_stroll_allCorners_32 v_stroll_allCuts_40 v_stroll_allWords_41 v_stroll_longestRun_42 v_stroll_square_38 g_stroll_spoken_all_44 v_town_fine g_town_kinds_all s46) fun (r47 : Int32) =>
                  zn (l5_10 + r47) fun (x49 : Int32) =>
                  zn (l6_11 + (1 : Int32)) fun (x50 : Int32) =>
                  again20 l4_31 x49 x50 v_stroll_allCorners_32 v_stroll_allCuts_40 v_stroll_allWords_41 v_stroll_came_35 v_stroll_longestRun_42 v_stroll_run_43 v_stroll_square_38 g_stroll_spoken_all_44) fun k51 =>
                if p3 = 0 then (
                  k51 (2 : Int32)) else (
                  k51 (3 : Int32))) fun k53 =>
              zl10 (fun (l4_54 : Int32) (l7_55 : Int32) (v_stroll_allCorners_56 : Int32) (v_stroll_allCuts_57 : Int32) (v_stroll_allWords_58 : Int32) (v_stroll_came_59 : Int32) (v_stroll_longestRun_60 : Int32) (v_stroll_run_61 : Int32) (v_stroll_square_62 : Int32) (g_stroll_spoken_all_63 : Nat → Int32) again64 =>
                if (20 : Int32) ≤ l7_55 then (
                  k53 l4_54 v_stroll_allCorners_56 v_stroll_allCuts_57 v_stroll_allWords_58 v_stroll_came_59 v_stroll_longestRun_60 v_stroll_run_61 v_stroll_square_62 g_stroll_spoken_all_63) else (
                  zn ((l4_54 * (1664525 : Int32)) + (1013904223 : Int32)) fun (x66 : Int32) =>
                  zb9 (f_Stroll_go v_stroll_allCorners_56 v_stroll_allCuts_57 v_stroll_allWords_58 v_stroll_came_59 v_stroll_longestRun_60 v_stroll_run_61 v_stroll_square_62 g_stroll_spoken_all_63 v_town_breath g_town_kinds_all (zrem ((x66 &&& (2147483647 : Int32)) / (256 : Int32)) (4 : Int32))) fun (r67 : Int32) (v_stroll_allCorners_68 : Int32) (v_stroll_allCuts_69 : Int32) (v_stroll_allWords_70 : Int32) (v_stroll_came_71 : Int32) (v_stroll_longestRun_72 : Int32) (v_stroll_run_73 : Int32) (v_stroll_square_74 : Int32) (g_stroll_spoken_all_75 : Nat → Int32) =>
                  zn (l7_55 + (1 : Int32)) fun (x77 : Int32) =>
                  again64 x66 x77 v_stroll_allCorners_68 v_stroll_allCuts_69 v_stroll_allWords_70 v_stroll_came_71 v_stroll_longestRun_72 v_stroll_run_73 v_stroll_square_74 g_stroll_spoken_all_75)) zF l4_9 (0 : Int32) v_stroll_allCorners_22 v_stroll_allCuts_23 v_stroll_allWords_24 v_stroll_came_25 v_stroll_longestRun_26 v_stroll_run_27 v_stroll_square_28 g_stroll_spoken_all_29)) zF p2 (0 : Int32) (0 : Int32) v_stroll_allCorners v_stroll_allCuts v_stroll_allWords v_stroll_came v_stroll_longestRun v_stroll_run v_stroll_square g_stroll_spoken_all) else (
          k6 ()))) else (
      zb2 (f_X_refuse g_refused_all (-6 : Int32)) fun (r78 : Int32) (g_refused_all_79 : Nat → Int32) =>
      some (r78, g_refused_all_79, v_stroll_allCorners, v_stroll_allCuts, v_stroll_allWords, v_stroll_came, v_stroll_longestRun, v_stroll_run, v_stroll_square, g_stroll_spoken_all))) else (
    zb2 (f_X_refuse g_refused_all (-4 : Int32)) fun (r81 : Int32) (g_refused_all_82 : Nat → Int32) =>
    some (r81, g_refused_all_82, v_stroll_allCorners, v_stroll_allCuts, v_stroll_allWords, v_stroll_came, v_stroll_longestRun, v_stroll_run, v_stroll_square, g_stroll_spoken_all))
def f_X_image (v_isKept : Int32) (v_kept_breath : Int32) (v_kept_fine : Int32) (v_kept_home : Int32) (g_kept_kinds_all : Nat → Int32) (v_town_breath : Int32) (v_town_fine : Int32) (v_town_home : Int32) (g_town_kinds_all : Nat → Int32) : Option (Int32 × Int32 × Int32 × Int32 × Int32 × (Nat → Int32)) :=
  zb4 (f_Town_takeOver v_town_breath v_town_fine v_town_home g_town_kinds_all v_kept_breath v_kept_fine v_kept_home g_kept_kinds_all) fun (v_kept_breath_1 : Int32) (v_kept_fine_2 : Int32) (v_kept_home_3 : Int32) (g_kept_kinds_all_4 : Nat → Int32) =>
  zb1 (f_Town_home v_town_home) fun (r6 : Int32) =>
  some (r6, (1 : Int32), v_kept_breath_1, v_kept_fine_2, v_kept_home_3, g_kept_kinds_all_4)
def f_X_on (v_isKept : Int32) (v_kept_breath : Int32) (v_kept_fine : Int32) (v_kept_home : Int32) (g_kept_kinds_all : Nat → Int32) (g_refused_all : Nat → Int32) (v_town_breath : Int32) (v_town_fine : Int32) (v_town_home : Int32) (g_town_kinds_all : Nat → Int32) : Option (Int32 × (Nat → Int32) × Int32 × Int32 × Int32 × (Nat → Int32)) :=
  if v_isKept = 0 then (
    zb2 (f_X_refuse g_refused_all (-3 : Int32)) fun (r9 : Int32) (g_refused_all_10 : Nat → Int32) =>
    some (r9, g_refused_all_10, v_town_breath, v_town_fine, v_town_home, g_town_kinds_all)) else (
    zb4 (f_Town_takeOver v_kept_breath v_kept_fine v_kept_home g_kept_kinds_all v_town_breath v_town_fine v_town_home g_town_kinds_all) fun (v_town_breath_2 : Int32) (v_town_fine_3 : Int32) (v_town_home_4 : Int32) (g_town_kinds_all_5 : Nat → Int32) =>
    zb1 (f_Town_home v_town_home_4) fun (r7 : Int32) =>
    some (r7, g_refused_all, v_town_breath_2, v_town_fine_3, v_town_home_4, g_town_kinds_all_5))
def f_Town_countKind (g_kinds_all : Nat → Int32) (p1 : Int32) : Option (Int32) :=
  zl2 (fun (l2_1 : Int32) (l3_2 : Int32) again3 =>
    if (36 : Int32) ≤ l3_2 then (
      some (l2_1)) else (
      zb1 (f_Numbers_at 36 g_kinds_all l3_2) fun (r5 : Int32) =>
      zj1 (fun (s7 : Int32) =>
        zn (l2_1 + s7) fun (x8 : Int32) =>
        zn (l3_2 + (1 : Int32)) fun (x9 : Int32) =>
        again3 x8 x9) fun k10 =>
      if r5 = p1 then (
        k10 (1 : Int32)) else (
        k10 (0 : Int32)))) zF (0 : Int32) (0 : Int32)
def f_X_squaresHeard (g_town_kinds_all : Nat → Int32) : Option (Int32) :=
  zl2 (fun (l1_1 : Int32) (l2_2 : Int32) again3 =>
    if (36 : Int32) ≤ l2_2 then (
      some (l1_1)) else (
      zb1 (f_Town_heardBy g_town_kinds_all l2_2) fun (r5 : Int32) =>
      zj1 (fun (s7 : Int32) =>
        zn (l1_1 + s7) fun (x8 : Int32) =>
        zn (l2_2 + (1 : Int32)) fun (x9 : Int32) =>
        again3 x8 x9) fun k10 =>
      if r5 ≤ 0 then (
        k10 (0 : Int32)) else (
        k10 (1 : Int32)))) zF (0 : Int32) (0 : Int32)
def f_X_squaresOneCanBeOn (g_town_kinds_all : Nat → Int32) : Option (Int32) :=
  zl2 (fun (l1_1 : Int32) (l2_2 : Int32) again3 =>
    if (36 : Int32) ≤ l2_2 then (
      some (l1_1)) else (
      zb1 (f_Town_canBe g_town_kinds_all l2_2) fun (r5 : Int32) =>
      zj1 (fun (s7 : Int32) =>
        zn (l1_1 + s7) fun (x8 : Int32) =>
        zn (l2_2 + (1 : Int32)) fun (x9 : Int32) =>
        again3 x8 x9) fun k10 =>
      if r5 = 0 then (
        k10 (0 : Int32)) else (
        k10 (1 : Int32)))) zF (0 : Int32) (0 : Int32)
def f_X_count (v_toldCount : Int32) (v_letters_count : Int32) (g_refused_all : Nat → Int32) (v_town_breath : Int32) (v_town_fine : Int32) (v_town_home : Int32) (g_town_kinds_all : Nat → Int32) (p1 : Int32) : Option (Int32) :=
  if p1 = (0 : Int32) then (
    zb1 (f_Town_home v_town_home) fun (r2 : Int32) =>
    some (r2)) else (
  if p1 = (1 : Int32) then (
    zb1 (f_Town_fine v_town_fine) fun (r5 : Int32) =>
    some (r5)) else (
  if p1 = (2 : Int32) then (
    zb1 (f_Town_breath v_town_breath) fun (r8 : Int32) =>
    some (r8)) else (
  if p1 = (3 : Int32) then (
    zb1 (f_X_squaresOneCanBeOn g_town_kinds_all) fun (r11 : Int32) =>
    some (r11)) else (
  if p1 = (4 : Int32) then (
    zb1 (f_X_informers g_town_kinds_all) fun (r14 : Int32) =>
    some (r14)) else (
  if p1 = (5 : Int32) then (
    zb1 (f_X_squaresHeard g_town_kinds_all) fun (r17 : Int32) =>
    some (r17)) else (
  if p1 = (6 : Int32) then (
    zb1 (f_Town_countKind g_town_kinds_all (2 : Int32)) fun (r20 : Int32) =>
    zb1 (f_Town_countKind g_town_kinds_all (5 : Int32)) fun (r22 : Int32) =>
    some (r20 + r22)) else (
  if p1 = (7 : Int32) then (
    some (v_toldCount)) else (
  if p1 = (8 : Int32) then (
    zb1 (f_Letters_size v_letters_count) fun (r26 : Int32) =>
    some (r26)) else (
    if p1 ≤ (10 : Int32) then (
      some ((-9 : Int32))) else (
      if (16 : Int32) < p1 then (
        some ((-9 : Int32))) else (
        zb1 (f_Numbers_at 7 g_refused_all (p1 - (10 : Int32))) fun (r30 : Int32) =>
        some (r30))))))))))))
def f_M_isIn (p0 : Int32) (p1 : Int32) (p2 : Int32) : Option (Int32) :=
  if p0 < p1 then (
    some ((0 : Int32))) else (
    if p2 < p0 then (
      some ((0 : Int32))) else (
      some ((1 : Int32))))
def f_M_size (p0 : Int32) : Option (Int32) :=
  if 0 ≤ p0 then (
    some (p0)) else (
    some (-p0))
def f_M_lays (g_p0 : Nat → Int32) (g_p1 : Nat → Int32) : Option ((Nat → Int32)) :=
  zl2 (fun (l2_1 : Int32) (g_p1_2 : Nat → Int32) again3 =>
    if (39 : Int32) ≤ l2_1 then (
      some (g_p1_2)) else (
      zg (zin l2_1 39) <|
      zn (g_p0 l2_1.toNatClampNeg) fun (x6 : Int32) =>
      zg (zin l2_1 39) <|
      zn (upd g_p1_2 l2_1.toNatClampNeg x6) fun (g8 : Nat → Int32) =>
      zn (l2_1 + (1 : Int32)) fun (x9 : Int32) =>
      again3 x9 g8)) zF (0 : Int32) g_p1
def f_M_no (g_refused : Nat → Int32) (p1 : Int32) : Option (Int32 × (Nat → Int32)) :=
  zn (-p1) fun (x1 : Int32) =>
  zg (zin x1 7) <|
  zn ((g_refused x1.toNatClampNeg) + (1 : Int32)) fun (x3 : Int32) =>
  zg (zin x1 7) <|
  zn (upd g_refused x1.toNatClampNeg x3) fun (g5 : Nat → Int32) =>
  some (p1, g5)
def f_M_isSquare (p0 : Int32) : Option (Int32) :=
  zb1 (f_M_isIn p0 (0 : Int32) (35 : Int32)) fun (r1 : Int32) =>
  zg (r1 &&& 1 = r1) <|
  some (r1)
def f_M_canStand (p0 : Int32) : Option (Int32) :=
  if p0 = (1 : Int32) then (
    some ((0 : Int32))) else (
    if p0 = (4 : Int32) then (
      some ((0 : Int32))) else (
      some ((1 : Int32))))
def f_M_canBe (g_s : Nat → Int32) (p1 : Int32) : Option (Int32) :=
  zg (zin p1 39) <|
  zb1 (f_M_canStand (g_s p1.toNatClampNeg)) fun (r2 : Int32) =>
  zg (r2 &&& 1 = r2) <|
  some (r2)
def f_M_wordsOn (g_s : Nat → Int32) (p1 : Int32) : Option (Int32) :=
  zg (zin p1 39) <|
  if (g_s p1.toNatClampNeg) = (5 : Int32) then (
    some ((2 : Int32))) else (
    zg (zin p1 39) <|
    if (g_s p1.toNatClampNeg) = 0 then (
      some ((1 : Int32))) else (
      zg (zin p1 39) <|
      if (g_s p1.toNatClampNeg) = (2 : Int32) then (
        some ((1 : Int32))) else (
        some ((0 : Int32)))))
def f_M_hears (p0 : Int32) : Option (Int32) :=
  if p0 = (3 : Int32) then (
    some ((1 : Int32))) else (
    if p0 = (4 : Int32) then (
      some ((2 : Int32))) else (
      some ((-9 : Int32))))
def f_M_isTurned (g_s : Nat → Int32) (p1 : Int32) : Option (Int32) :=
  zg (zin p1 39) <|
  if (g_s p1.toNatClampNeg) = (2 : Int32) then (
    some ((0 : Int32))) else (
    zg (zin p1 39) <|
    if (g_s p1.toNatClampNeg) = (5 : Int32) then (
      some ((0 : Int32))) else (
      some ((1 : Int32))))
def f_M_apart (p0 : Int32) (p1 : Int32) : Option (Int32) :=
  zb1 (f_M_size ((p0 / (6 : Int32)) - (p1 / (6 : Int32)))) fun (r1 : Int32) =>
  zb1 (f_M_size ((zrem p0 (6 : Int32)) - (zrem p1 (6 : Int32)))) fun (r3 : Int32) =>
  some (r1 + r3)
def f_M_heardBy (g_s : Nat → Int32) (p1 : Int32) : Option (Int32) :=
  zl2 (fun (l2_1 : Int32) (l3_2 : Int32) again3 =>
    if (36 : Int32) ≤ l3_2 then (
      some (l2_1)) else (
      zg (zin l3_2 39) <|
      zb1 (f_M_hears (g_s l3_2.toNatClampNeg)) fun (r6 : Int32) =>
      zb1 (f_M_apart l3_2 p1) fun (r8 : Int32) =>
      zj1 (fun (s10 : Int32) =>
        zn (l2_1 + s10) fun (x11 : Int32) =>
        zn (l3_2 + (1 : Int32)) fun (x12 : Int32) =>
        again3 x11 x12) fun k13 =>
      if r6 < r8 then (
        k13 (0 : Int32)) else (
        k13 (1 : Int32)))) zF (0 : Int32) (0 : Int32)
def f_M_gone (g_s : Nat → Int32) (p1 : Int32) (p2 : Int32) : Option (Int32) :=
  zj1 (fun (s1 : Int32) =>
    zb1 (f_M_isSquare s1) fun (r2 : Int32) =>
    if r2 = 0 then (
      some ((-9 : Int32))) else (
      zb1 (f_M_canBe g_s p1) fun (r5 : Int32) =>
      if r5 = 0 then (
        some ((-9 : Int32))) else (
        zb1 (f_M_canBe g_s s1) fun (r8 : Int32) =>
        if r8 = 0 then (
          some ((-9 : Int32))) else (
          some (s1))))) fun k11 =>
  if p2 = 0 then (
    k11 (p1 - (6 : Int32))) else (
    if p2 = (1 : Int32) then (
      if (zrem p1 (6 : Int32)) = 0 then (
        k11 (-1 : Int32)) else (
        k11 (p1 - (1 : Int32)))) else (
      if p2 = (2 : Int32) then (
        if (zrem p1 (6 : Int32)) = (5 : Int32) then (
          k11 (-1 : Int32)) else (
          k11 (p1 + (1 : Int32)))) else (
        k11 (p1 + (6 : Int32)))))
def f_M_isCorner (g_s : Nat → Int32) (p1 : Int32) (p2 : Int32) (p3 : Int32) : Option (Int32) :=
  if p2 = (4 : Int32) then (
    some ((0 : Int32))) else (
    if p2 = p3 then (
      some ((0 : Int32))) else (
      zb1 (f_M_isTurned g_s p1) fun (r3 : Int32) =>
      if r3 = 0 then (
        some ((0 : Int32))) else (
        some ((1 : Int32)))))
def f_M_saidOn (g_s : Nat → Int32) (p1 : Int32) (p2 : Int32) (p3 : Int32) : Option (Int32) :=
  zb1 (f_M_isCorner g_s p1 p2 p3) fun (r1 : Int32) =>
  if r1 = 0 then (
    zb1 (f_M_wordsOn g_s p1) fun (r4 : Int32) =>
    some (r4)) else (
    some ((0 : Int32)))
def f_M_letter (v_letterMany : Int32) (g_letters : Nat → Int32) (g_refused : Nat → Int32) (p1 : Int32) : Option (Int32 × Int32 × (Nat → Int32) × (Nat → Int32)) :=
  if 0 ≤ p1 then (
    zj1 (fun (_ : Unit) =>
      zb2 (f_M_no g_refused (-6 : Int32)) fun (r2 : Int32) (g_refused_3 : Nat → Int32) =>
      some (r2, v_letterMany, g_letters, g_refused_3)) fun k5 =>
    if (255 : Int32) < p1 then (
      k5 ()) else (
      if v_letterMany = (96 : Int32) then (
        k5 ()) else (
        zg (zin v_letterMany 96) <|
        zn (upd g_letters v_letterMany.toNatClampNeg p1) fun (g9 : Nat → Int32) =>
        zn (v_letterMany + (1 : Int32)) fun (x10 : Int32) =>
        some (x10, x10, g9, g_refused)))) else (
    zb2 (f_M_no g_refused (-4 : Int32)) fun (r11 : Int32) (g_refused_12 : Nat → Int32) =>
    some (r11, v_letterMany, g_letters, g_refused_12))
def f_M_here (v_letterMany : Int32) (v_place : Int32) (g_letters : Nat → Int32) : Option (Int32) :=
  if v_letterMany ≤ v_place then (
    some ((-1 : Int32))) else (
    zg (zin v_place 96) <|
    some (g_letters v_place.toNatClampNeg))
def f_M_readsNumber (v_letterMany : Int32) (v_place : Int32) (g_letters : Nat → Int32) (g_numbers : Nat → Int32) (p1 : Int32) (p2 : Int32) : Option (Int32 × Int32 × (Nat → Int32)) :=
  zg (zin p1 3) <|
  zn (upd g_numbers p1.toNatClampNeg (0 : Int32)) fun (g2 : Nat → Int32) =>
  zl3 (fun (l3_3 : Int32) (v_place_4 : Int32) (g_numbers_5 : Nat → Int32) again6 =>
    if p2 ≤ l3_3 then (
      some ((1 : Int32), v_place_4, g_numbers_5)) else (
      zb1 (f_M_here v_letterMany v_place_4 g_letters) fun (r8 : Int32) =>
      zb1 (f_M_isIn r8 (48 : Int32) (57 : Int32)) fun (r10 : Int32) =>
      if r10 = 0 then (
        some ((0 : Int32), v_place_4, g_numbers_5)) else (
        zg (zin p1 3) <|
        zb1 (f_M_here v_letterMany v_place_4 g_letters) fun (r14 : Int32) =>
        zn ((((10 : Int32) * (g_numbers_5 p1.toNatClampNeg)) + r14) - (48 : Int32)) fun (x16 : Int32) =>
        zg (zin p1 3) <|
        zn (upd g_numbers_5 p1.toNatClampNeg x16) fun (g18 : Nat → Int32) =>
        zn (v_place_4 + (1 : Int32)) fun (x19 : Int32) =>
        zn (l3_3 + (1 : Int32)) fun (x20 : Int32) =>
        again6 x20 x19 g18))) zF (0 : Int32) v_place g2
def f_M_kindOf (p0 : Int32) : Option (Int32) :=
  if p0 = (99 : Int32) then (
    some ((2 : Int32))) else (
  if p0 = (109 : Int32) then (
    some ((5 : Int32))) else (
  if p0 = (110 : Int32) then (
    some ((3 : Int32))) else (
  if p0 = (115 : Int32) then (
    some ((0 : Int32))) else (
  if p0 = (116 : Int32) then (
    some ((4 : Int32))) else (
  if p0 = (119 : Int32) then (
    some ((1 : Int32))) else (
    some ((-9 : Int32))))))))
def f_M_readsKind (v_letterMany : Int32) (v_place : Int32) (g_letters : Nat → Int32) (g_numbers : Nat → Int32) : Option (Int32 × Int32 × (Nat → Int32)) :=
  zb1 (f_M_here v_letterMany v_place g_letters) fun (r1 : Int32) =>
  zb1 (f_M_kindOf r1) fun (r3 : Int32) =>
  zg (zin (0 : Int32) 3) <|
  zn (upd g_numbers (0 : Int32).toNatClampNeg r3) fun (g6 : Nat → Int32) =>
  zg (zin (0 : Int32) 3) <|
  zj1 (fun (s8 : Int32) =>
    zn (v_place + s8) fun (x9 : Int32) =>
    zg (zin (0 : Int32) 3) <|
    if (g6 (0 : Int32).toNatClampNeg) < 0 then (
      some ((0 : Int32), x9, g6)) else (
      some ((1 : Int32), x9, g6))) fun k12 =>
  if 0 ≤ (g6 (0 : Int32).toNatClampNeg) then (
    k12 (1 : Int32)) else (
    k12 (0 : Int32))
def f_M_readsStatement (v_letterMany : Int32) (v_place : Int32) (g_letters : Nat → Int32) (g_numbers : Nat → Int32) : Option (Int32 × Int32 × (Nat → Int32)) :=
  zb1 (f_M_here v_letterMany v_place g_letters) fun (r1 : Int32) =>
  zn (v_place + (1 : Int32)) fun (x3 : Int32) =>
  zj3 (fun (l2_4 : Int32) (v_place_5 : Int32) (g_numbers_6 : Nat → Int32) =>
    if l2_4 = 0 then (
      some ((0 : Int32), v_place_5, g_numbers_6)) else (
      zb1 (f_M_here v_letterMany v_place_5 g_letters) fun (r8 : Int32) =>
      if r8 = (59 : Int32) then (
        zn (v_place_5 + (1 : Int32)) fun (x11 : Int32) =>
        some ((1 : Int32), x11, g_numbers_6)) else (
        some ((0 : Int32), v_place_5, g_numbers_6)))) fun k12 =>
  if r1 = (98 : Int32) then (
    zb3 (f_M_readsNumber v_letterMany x3 g_letters g_numbers (0 : Int32) (1 : Int32)) fun (r14 : Int32) (v_place_15 : Int32) (g_numbers_16 : Nat → Int32) =>
    k12 r14 v_place_15 g_numbers_16) else (
  if r1 = (102 : Int32) then (
    zb3 (f_M_readsNumber v_letterMany x3 g_letters g_numbers (0 : Int32) (1 : Int32)) fun (r19 : Int32) (v_place_20 : Int32) (g_numbers_21 : Nat → Int32) =>
    k12 r19 v_place_20 g_numbers_21) else (
  if r1 = (104 : Int32) then (
    zb3 (f_M_readsNumber v_letterMany x3 g_letters g_numbers (0 : Int32) (2 : Int32)) fun (r24 : Int32) (v_place_25 : Int32) (g_numbers_26 : Nat → Int32) =>
    k12 r24 v_place_25 g_numbers_26) else (
  if r1 = (107 : Int32) then (
    zb3 (f_M_readsKind v_letterMany x3 g_letters g_numbers) fun (r29 : Int32) (v_place_30 : Int32) (g_numbers_31 : Nat → Int32) =>
    zj3 (fun (s33 : Int32) (v_place_34 : Int32) (g_numbers_35 : Nat → Int32) =>
      k12 s33 v_place_34 g_numbers_35) fun k36 =>
    zj2 (fun (v_place_37 : Int32) (g_numbers_38 : Nat → Int32) =>
      k36 (0 : Int32) v_place_37 g_numbers_38) fun k39 =>
    if r29 = 0 then (
      k39 v_place_30 g_numbers_31) else (
      zb3 (f_M_readsNumber v_letterMany v_place_30 g_letters g_numbers_31 (1 : Int32) (2 : Int32)) fun (r41 : Int32) (v_place_42 : Int32) (g_numbers_43 : Nat → Int32) =>
      if r41 = 0 then (
        k39 v_place_42 g_numbers_43) else (
        k36 (1 : Int32) v_place_42 g_numbers_43))) else (
  if r1 = (118 : Int32) then (
    zb3 (f_M_readsKind v_letterMany x3 g_letters g_numbers) fun (r47 : Int32) (v_place_48 : Int32) (g_numbers_49 : Nat → Int32) =>
    zj3 (fun (s51 : Int32) (v_place_52 : Int32) (g_numbers_53 : Nat → Int32) =>
      k12 s51 v_place_52 g_numbers_53) fun k54 =>
    zj2 (fun (v_place_55 : Int32) (g_numbers_56 : Nat → Int32) =>
      k54 (0 : Int32) v_place_55 g_numbers_56) fun k57 =>
    if r47 = 0 then (
      k57 v_place_48 g_numbers_49) else (
      zb3 (f_M_readsNumber v_letterMany v_place_48 g_letters g_numbers_49 (1 : Int32) (2 : Int32)) fun (r59 : Int32) (v_place_60 : Int32) (g_numbers_61 : Nat → Int32) =>
      if r59 = 0 then (
        k57 v_place_60 g_numbers_61) else (
        zb3 (f_M_readsNumber v_letterMany v_place_60 g_letters g_numbers_61 (2 : Int32) (2 : Int32)) fun (r64 : Int32) (v_place_65 : Int32) (g_numbers_66 : Nat → Int32) =>
        if r64 = 0 then (
          k57 v_place_65 g_numbers_66) else (
          k54 (1 : Int32) v_place_65 g_numbers_66)))) else (
    zn (x3 - (1 : Int32)) fun (x69 : Int32) =>
    some ((0 : Int32), x69, g_numbers))))))
def f_M_isDone (g_numbers : Nat → Int32) (g_s : Nat → Int32) (p1 : Int32) : Option (Int32 × (Nat → Int32)) :=
  zg (zin (0 : Int32) 3) <|
  zn (g_numbers (0 : Int32).toNatClampNeg) fun (x2 : Int32) =>
  zg (zin (1 : Int32) 3) <|
  zn (g_numbers (1 : Int32).toNatClampNeg) fun (x4 : Int32) =>
  zj1 (fun (s5 : Int32) =>
    if p1 = (102 : Int32) then (
      zg (zin (37 : Int32) 39) <|
      zn (upd g_s (37 : Int32).toNatClampNeg x2) fun (g8 : Nat → Int32) =>
      some ((1 : Int32), g8)) else (
    if p1 = (104 : Int32) then (
      zb1 (f_M_isSquare x2) fun (r10 : Int32) =>
      if r10 = 0 then (
        some ((0 : Int32), g_s)) else (
        zb1 (f_M_canBe g_s x2) fun (r13 : Int32) =>
        if r13 = 0 then (
          some ((0 : Int32), g_s)) else (
          zg (zin (36 : Int32) 39) <|
          zn (upd g_s (36 : Int32).toNatClampNeg x2) fun (g17 : Nat → Int32) =>
          some ((1 : Int32), g17)))) else (
    if p1 = (107 : Int32) then (
      if s5 < x4 then (
        some ((0 : Int32), g_s)) else (
        zb1 (f_M_isSquare s5) fun (r20 : Int32) =>
        if r20 = 0 then (
          some ((0 : Int32), g_s)) else (
          zb1 (f_M_canStand x2) fun (r23 : Int32) =>
          zj1 (fun (_ : Unit) =>
            zl2 (fun (l5_25 : Int32) (g_s_26 : Nat → Int32) again27 =>
              if s5 < l5_25 then (
                some ((1 : Int32), g_s_26)) else (
                zg (zin l5_25 39) <|
                zn (upd g_s_26 l5_25.toNatClampNeg x2) fun (g30 : Nat → Int32) =>
                zn (l5_25 + (1 : Int32)) fun (x31 : Int32) =>
                again27 x31 g30)) zF x4 g_s) fun k32 =>
          if r23 = 0 then (
            zg (zin (36 : Int32) 39) <|
            zb1 (f_M_isIn (g_s (36 : Int32).toNatClampNeg) x4 s5) fun (r35 : Int32) =>
            if r35 = 0 then (
              k32 ()) else (
              some ((0 : Int32), g_s))) else (
            k32 ())))) else (
    if p1 = (118 : Int32) then (
      if s5 < x4 then (
        some ((0 : Int32), g_s)) else (
        zb1 (f_M_isSquare s5) fun (r40 : Int32) =>
        if r40 = 0 then (
          some ((0 : Int32), g_s)) else (
          zb1 (f_M_canStand x2) fun (r43 : Int32) =>
          zj1 (fun (_ : Unit) =>
            zl2 (fun (l5_45 : Int32) (g_s_46 : Nat → Int32) again47 =>
              if s5 < l5_45 then (
                some ((1 : Int32), g_s_46)) else (
                zg (zin l5_45 39) <|
                zn (upd g_s_46 l5_45.toNatClampNeg x2) fun (g50 : Nat → Int32) =>
                zn (l5_45 + (1 : Int32)) fun (x51 : Int32) =>
                again47 x51 g50)) zF x4 g_s) fun k52 =>
          if r43 = 0 then (
            zg (zin (36 : Int32) 39) <|
            zb1 (f_M_isIn (g_s (36 : Int32).toNatClampNeg) x4 s5) fun (r55 : Int32) =>
            if r55 = 0 then (
              k52 ()) else (
              some ((0 : Int32), g_s))) else (
            k52 ())))) else (
      zg (zin (38 : Int32) 39) <|
      zn (upd g_s (38 : Int32).toNatClampNeg x2) fun (g59 : Nat → Int32) =>
      if x2 ≤ 0 then (
        some ((0 : Int32), g59)) else (
        some ((1 : Int32), g59))))))) fun k61 =>
  if p1 = (118 : Int32) then (
    zg (zin (2 : Int32) 3) <|
    k61 (g_numbers (2 : Int32).toNatClampNeg)) else (
    k61 x4)
def f_M_town (v_letterMany : Int32) (v_place : Int32) (g_letters : Nat → Int32) (g_numbers : Nat → Int32) (g_s : Nat → Int32) (g_was : Nat → Int32) : Option (Int32 × Int32 × Int32 × (Nat → Int32) × (Nat → Int32) × (Nat → Int32)) :=
  zj4 (fun (l1_1 : Int32) (l2_2 : Int32) (v_place_3 : Int32) (g_numbers_4 : Nat → Int32) =>
    zb1 (f_M_lays g_s g_was) fun (g_was_5 : Nat → Int32) =>
    zj4 (fun (l2_7 : Int32) (v_place_8 : Int32) (g_numbers_9 : Nat → Int32) (g_s_10 : Nat → Int32) =>
      if l2_7 = (-9 : Int32) then (
        some (l1_1, (0 : Int32), v_place_8, g_numbers_9, g_s_10, g_was_5)) else (
        some (l2_7, (0 : Int32), v_place_8, g_numbers_9, g_s_10, g_was_5))) fun k12 =>
    zl4 (fun (l2_13 : Int32) (v_place_14 : Int32) (g_numbers_15 : Nat → Int32) (g_s_16 : Nat → Int32) again17 =>
      if l2_13 = (-9 : Int32) then (
        if v_letterMany ≤ v_place_14 then (
          k12 l2_13 v_place_14 g_numbers_15 g_s_16) else (
          zb1 (f_M_here v_letterMany v_place_14 g_letters) fun (r20 : Int32) =>
          zb3 (f_M_readsStatement v_letterMany v_place_14 g_letters g_numbers_15) fun (r22 : Int32) (v_place_23 : Int32) (g_numbers_24 : Nat → Int32) =>
          zb2 (f_M_isDone g_numbers_24 g_s_16 r20) fun (r26 : Int32) (g_s_27 : Nat → Int32) =>
          if r26 = 0 then (
            zn ((-2000 : Int32) - v_place_14) fun (x30 : Int32) =>
            zb1 (f_M_lays g_was_5 g_s_27) fun (g_s_31 : Nat → Int32) =>
            again17 x30 v_place_23 g_numbers_24 g_s_31) else (
            again17 l2_13 v_place_23 g_numbers_24 g_s_27))) else (
        k12 l2_13 v_place_14 g_numbers_15 g_s_16)) zF l2_2 (0 : Int32) g_numbers_4 g_s) fun k33 =>
  zl4 (fun (l1_34 : Int32) (l2_35 : Int32) (v_place_36 : Int32) (g_numbers_37 : Nat → Int32) again38 =>
    zb3 (f_M_readsStatement v_letterMany v_place_36 g_letters g_numbers_37) fun (r39 : Int32) (v_place_40 : Int32) (g_numbers_41 : Nat → Int32) =>
    zj1 (fun (l2_43 : Int32) =>
      zn (l1_34 + (1 : Int32)) fun (x44 : Int32) =>
      if l2_43 = (-9 : Int32) then (
        if v_place_40 < v_letterMany then (
          again38 x44 l2_43 v_place_40 g_numbers_41) else (
          k33 x44 l2_43 v_place_40 g_numbers_41)) else (
        k33 x44 l2_43 v_place_40 g_numbers_41)) fun k47 =>
    if r39 = 0 then (
      zn ((-1000 : Int32) - v_place_40) fun (x49 : Int32) =>
      k47 x49) else (
      k47 l2_35)) zF (0 : Int32) (-9 : Int32) (0 : Int32) g_numbers
def f_M_square (g_refused : Nat → Int32) (g_s : Nat → Int32) (p1 : Int32) (p2 : Int32) : Option (Int32 × (Nat → Int32)) :=
  zb1 (f_M_isSquare p1) fun (r1 : Int32) =>
  if r1 = 0 then (
    zb2 (f_M_no g_refused (-1 : Int32)) fun (r24 : Int32) (g_refused_25 : Nat → Int32) =>
    some (r24, g_refused_25)) else (
    if p2 = (0 : Int32) then (
      zg (zin p1 39) <|
      some (g_s p1.toNatClampNeg, g_refused)) else (
    if p2 = (1 : Int32) then (
      zb1 (f_M_canBe g_s p1) fun (r7 : Int32) =>
      if r7 = 0 then (
        some ((0 : Int32), g_refused)) else (
        some ((1 : Int32), g_refused))) else (
    if p2 = (2 : Int32) then (
      zb1 (f_M_wordsOn g_s p1) fun (r11 : Int32) =>
      some (r11, g_refused)) else (
    if p2 = (3 : Int32) then (
      zg (zin p1 39) <|
      zb1 (f_M_hears (g_s p1.toNatClampNeg)) fun (r15 : Int32) =>
      some (r15, g_refused)) else (
    if p2 = (4 : Int32) then (
      zb1 (f_M_isTurned g_s p1) fun (r18 : Int32) =>
      if r18 = 0 then (
        some ((0 : Int32), g_refused)) else (
        some ((1 : Int32), g_refused))) else (
      zb2 (f_M_no g_refused (-2 : Int32)) fun (r21 : Int32) (g_refused_22 : Nat → Int32) =>
      some (r21, g_refused_22)))))))
def f_M_turnTo (g_refused : Nat → Int32) (g_s : Nat → Int32) (p1 : Int32) (p2 : Int32) : Option (Int32 × (Nat → Int32) × (Nat → Int32)) :=
  zb1 (f_M_isSquare p1) fun (r1 : Int32) =>
  if r1 = 0 then (
    zb2 (f_M_no g_refused (-1 : Int32)) fun (r23 : Int32) (g_refused_24 : Nat → Int32) =>
    some (r23, g_refused_24, g_s)) else (
    zb1 (f_M_isIn p2 (0 : Int32) (5 : Int32)) fun (r4 : Int32) =>
    if r4 = 0 then (
      zb2 (f_M_no g_refused (-2 : Int32)) fun (r20 : Int32) (g_refused_21 : Nat → Int32) =>
      some (r20, g_refused_21, g_s)) else (
      zg (zin (36 : Int32) 39) <|
      zj1 (fun (_ : Unit) =>
        zg (zin p1 39) <|
        zn (g_s p1.toNatClampNeg) fun (x9 : Int32) =>
        zg (zin p1 39) <|
        zn (upd g_s p1.toNatClampNeg p2) fun (g11 : Nat → Int32) =>
        some (x9, g_refused, g11)) fun k12 =>
      if p1 = (g_s (36 : Int32).toNatClampNeg) then (
        zb1 (f_M_canStand p2) fun (r14 : Int32) =>
        if r14 = 0 then (
          zb2 (f_M_no g_refused (-3 : Int32)) fun (r17 : Int32) (g_refused_18 : Nat → Int32) =>
          some (r17, g_refused_18, g_s)) else (
          k12 ())) else (
        k12 ())))
def f_M_set (g_refused : Nat → Int32) (g_s : Nat → Int32) (p1 : Int32) (p2 : Int32) : Option (Int32 × (Nat → Int32) × (Nat → Int32)) :=
  zb1 (f_M_isIn p1 (0 : Int32) (2 : Int32)) fun (r1 : Int32) =>
  if r1 = 0 then (
    zb2 (f_M_no g_refused (-2 : Int32)) fun (r36 : Int32) (g_refused_37 : Nat → Int32) =>
    some (r36, g_refused_37, g_s)) else (
    zj1 (fun (_ : Unit) =>
      zj1 (fun (_ : Unit) =>
        zj1 (fun (_ : Unit) =>
          zj1 (fun (_ : Unit) =>
            zg (zin ((36 : Int32) + p1) 39) <|
            zn (g_s ((36 : Int32) + p1).toNatClampNeg) fun (x5 : Int32) =>
            zg (zin ((36 : Int32) + p1) 39) <|
            zn (upd g_s ((36 : Int32) + p1).toNatClampNeg p2) fun (g7 : Nat → Int32) =>
            some (x5, g_refused, g7)) fun k8 =>
          if p1 ≤ 0 then (
            k8 ()) else (
            if p2 ≤ (9 : Int32) then (
              k8 ()) else (
              zb2 (f_M_no g_refused (-6 : Int32)) fun (r11 : Int32) (g_refused_12 : Nat → Int32) =>
              some (r11, g_refused_12, g_s)))) fun k14 =>
        if p1 ≤ 0 then (
          k14 ()) else (
          if (p1 - (1 : Int32)) ≤ p2 then (
            k14 ()) else (
            zb2 (f_M_no g_refused (-4 : Int32)) fun (r17 : Int32) (g_refused_18 : Nat → Int32) =>
            some (r17, g_refused_18, g_s)))) fun k20 =>
      if p1 = 0 then (
        zb1 (f_M_canBe g_s p2) fun (r22 : Int32) =>
        if r22 = 0 then (
          zb2 (f_M_no g_refused (-3 : Int32)) fun (r25 : Int32) (g_refused_26 : Nat → Int32) =>
          some (r25, g_refused_26, g_s)) else (
          k20 ())) else (
        k20 ())) fun k28 =>
    if p1 = 0 then (
      zb1 (f_M_isSquare p2) fun (r30 : Int32) =>
      if r30 = 0 then (
        zb2 (f_M_no g_refused (-1 : Int32)) fun (r33 : Int32) (g_refused_34 : Nat → Int32) =>
        some (r33, g_refused_34, g_s)) else (
        k28 ())) else (
      k28 ()))
def f_M_heard (g_refused : Nat → Int32) (g_s : Nat → Int32) (p1 : Int32) : Option (Int32 × (Nat → Int32)) :=
  zb1 (f_M_isSquare p1) fun (r1 : Int32) =>
  if r1 = 0 then (
    zb2 (f_M_no g_refused (-1 : Int32)) fun (r4 : Int32) (g_refused_5 : Nat → Int32) =>
    some (r4, g_refused_5)) else (
    zb1 (f_M_heardBy g_s p1) fun (r7 : Int32) =>
    some (r7, g_refused))
def f_M_areWays (v_rowMany : Int32) (g_row : Nat → Int32) : Option (Int32) :=
  zl1 (fun (l1_1 : Int32) again2 =>
    if v_rowMany ≤ l1_1 then (
      some ((1 : Int32))) else (
      zg (zin l1_1 20) <|
      if (g_row l1_1.toNatClampNeg) < (4 : Int32) then (
        zn (l1_1 + (1 : Int32)) fun (x6 : Int32) =>
        again2 x6) else (
        some ((0 : Int32))))) zF (0 : Int32)
def f_M_firstWrong (v_rowMany : Int32) (g_row : Nat → Int32) (g_s : Nat → Int32) : Option (Int32) :=
  zg (zin (36 : Int32) 39) <|
  zn (g_s (36 : Int32).toNatClampNeg) fun (x2 : Int32) =>
  zl2 (fun (l1_3 : Int32) (l2_4 : Int32) again5 =>
    if v_rowMany ≤ l2_4 then (
      some ((-9 : Int32))) else (
      zg (zin l2_4 20) <|
      zb1 (f_M_gone g_s l1_3 (g_row l2_4.toNatClampNeg)) fun (r8 : Int32) =>
      if 0 ≤ r8 then (
        zn (l2_4 + (1 : Int32)) fun (x11 : Int32) =>
        again5 r8 x11) else (
        some (l2_4)))) zF x2 (0 : Int32)
def f_M_cutsOf (g_s : Nat → Int32) (p1 : Int32) : Option (Int32) :=
  if p1 = 0 then (
    some ((0 : Int32))) else (
    zg (zin (38 : Int32) 39) <|
    zg (¬ (g_s (38 : Int32).toNatClampNeg) = 0) <|
    some ((p1 - (1 : Int32)) / (g_s (38 : Int32).toNatClampNeg)))
def f_M_walk (v_rowMany : Int32) (g_refused : Nat → Int32) (g_row : Nat → Int32) (g_s : Nat → Int32) (p1 : Int32) : Option (Int32 × (Nat → Int32)) :=
  zb1 (f_M_isIn p1 (0 : Int32) (6 : Int32)) fun (r1 : Int32) =>
  if r1 = 0 then (
    zb2 (f_M_no g_refused (-2 : Int32)) fun (r87 : Int32) (g_refused_88 : Nat → Int32) =>
    some (r87, g_refused_88)) else (
    zb1 (f_M_areWays v_rowMany g_row) fun (r4 : Int32) =>
    if r4 = 0 then (
      zb2 (f_M_no g_refused (-3 : Int32)) fun (r84 : Int32) (g_refused_85 : Nat → Int32) =>
      some (r84, g_refused_85)) else (
      zb1 (f_M_firstWrong v_rowMany g_row g_s) fun (r7 : Int32) =>
      if p1 = 0 then (
        some (r7, g_refused)) else (
        zj1 (fun (s10 : Int32) =>
          zg (zin (36 : Int32) 39) <|
          zn (g_s (36 : Int32).toNatClampNeg) fun (x12 : Int32) =>
          zj6 (fun (l4_13 : Int32) (l6_14 : Int32) (l7_15 : Int32) (l8_16 : Int32) (l9_17 : Int32) (l11_18 : Int32) =>
            if p1 = (1 : Int32) then (
              some (l4_13, g_refused)) else (
              if p1 = (2 : Int32) then (
                some (l6_14, g_refused)) else (
                if p1 = (3 : Int32) then (
                  some (l7_15, g_refused)) else (
                  if p1 = (4 : Int32) then (
                    some (l8_16 + l7_15, g_refused)) else (
                    if p1 = (5 : Int32) then (
                      some (l9_17, g_refused)) else (
                      some (l11_18, g_refused))))))) fun k24 =>
          zl9 (fun (l4_25 : Int32) (l5_26 : Int32) (l6_27 : Int32) (l7_28 : Int32) (l8_29 : Int32) (l9_30 : Int32) (l10_31 : Int32) (l11_32 : Int32) (l12_33 : Int32) again34 =>
            if s10 < l12_33 then (
              k24 l4_25 l6_27 l7_28 l8_29 l9_30 l11_32) else (
              zj1 (fun (s36 : Int32) =>
                zj1 (fun (s37 : Int32) =>
                  zn (l6_27 + s37) fun (x38 : Int32) =>
                  zg (zin (37 : Int32) 39) <|
                  zb1 (f_M_heardBy g_s l4_25) fun (r40 : Int32) =>
                  zn (l9_30 + ((s37 * (g_s (37 : Int32).toNatClampNeg)) * r40)) fun (x42 : Int32) =>
                  zn (l10_31 + s37) fun (x43 : Int32) =>
                  zj3 (fun (l8_44 : Int32) (l10_45 : Int32) (l11_46 : Int32) =>
                    zj1 (fun (s47 : Int32) =>
                      zn (l7_28 + s47) fun (x48 : Int32) =>
                      zj2 (fun (l4_49 : Int32) (l5_50 : Int32) =>
                        zn (l12_33 + (1 : Int32)) fun (x51 : Int32) =>
                        again34 l4_49 l5_50 x38 x48 l8_44 x42 l10_45 l11_46 x51) fun k52 =>
                      if s10 ≤ l12_33 then (
                        k52 l4_25 l5_26) else (
                        zg (zin l12_33 20) <|
                        zb1 (f_M_gone g_s l4_25 (g_row l12_33.toNatClampNeg)) fun (r55 : Int32) =>
                        zg (zin l12_33 20) <|
                        zn (g_row l12_33.toNatClampNeg) fun (x58 : Int32) =>
                        k52 r55 x58)) fun k59 =>
                    if s36 = 0 then (
                      k59 (0 : Int32)) else (
                      k59 (1 : Int32))) fun k61 =>
                  zj1 (fun (_ : Unit) =>
                    zb1 (f_M_cutsOf g_s x43) fun (r62 : Int32) =>
                    zn (l8_29 + r62) fun (x64 : Int32) =>
                    zj1 (fun (s65 : Int32) =>
                      k61 x64 (0 : Int32) s65) fun k66 =>
                    if x43 ≤ l11_32 then (
                      k66 l11_32) else (
                      k66 x43)) fun k68 =>
                  if s36 = 0 then (
                    if l12_33 = s10 then (
                      k68 ()) else (
                      k61 l8_29 x43 l11_32)) else (
                    k68 ())) fun k71 =>
                if s36 = 0 then (
                  zb1 (f_M_wordsOn g_s l4_25) fun (r73 : Int32) =>
                  k71 r73) else (
                  k71 (0 : Int32))) fun k75 =>
              zj1 (fun (_ : Unit) =>
                k75 (0 : Int32)) fun k76 =>
              if s10 ≤ l12_33 then (
                k76 ()) else (
                zg (zin l12_33 20) <|
                zb1 (f_M_isCorner g_s l4_25 l5_26 (g_row l12_33.toNatClampNeg)) fun (r79 : Int32) =>
                if r79 = 0 then (
                  k76 ()) else (
                  k75 (1 : Int32))))) zF x12 (4 : Int32) (0 : Int32) (0 : Int32) (0 : Int32) (0 : Int32) (0 : Int32) (0 : Int32) (0 : Int32)) fun k82 =>
        if 0 ≤ r7 then (
          k82 r7) else (
          k82 v_rowMany))))
def f_M_at (p0 : Int32) (p1 : Int32) : Option (Int32) :=
  some ((p0 * (5 : Int32)) + p1)
def f_M_stepsAll (g_s : Nat → Int32) (g_stepsFrom : Nat → Int32) (p1 : Int32) : Option ((Nat → Int32)) :=
  zj1 (fun (g_stepsFrom_1 : Nat → Int32) =>
    zl2 (fun (l2_2 : Int32) (g_stepsFrom_3 : Nat → Int32) again4 =>
      if l2_2 = 0 then (
        some (g_stepsFrom_3)) else (
        zj2 (fun (l2_6 : Int32) (g_stepsFrom_7 : Nat → Int32) =>
          again4 l2_6 g_stepsFrom_7) fun k8 =>
        zl3 (fun (l2_9 : Int32) (l3_10 : Int32) (g_stepsFrom_11 : Nat → Int32) again12 =>
          if (36 : Int32) ≤ l3_10 then (
            k8 l2_9 g_stepsFrom_11) else (
            zj2 (fun (l2_14 : Int32) (g_stepsFrom_15 : Nat → Int32) =>
              zn (l3_10 + (1 : Int32)) fun (x16 : Int32) =>
              again12 l2_14 x16 g_stepsFrom_15) fun k17 =>
            zl3 (fun (l2_18 : Int32) (l4_19 : Int32) (g_stepsFrom_20 : Nat → Int32) again21 =>
              if (4 : Int32) ≤ l4_19 then (
                k17 l2_18 g_stepsFrom_20) else (
                zb1 (f_M_gone g_s l3_10 l4_19) fun (r23 : Int32) =>
                zj2 (fun (l2_25 : Int32) (g_stepsFrom_26 : Nat → Int32) =>
                  zn (l4_19 + (1 : Int32)) fun (x27 : Int32) =>
                  again21 l2_25 x27 g_stepsFrom_26) fun k28 =>
                if r23 < 0 then (
                  k28 l2_18 g_stepsFrom_20) else (
                  zg (zin l3_10 36) <|
                  zg (zin r23 36) <|
                  if ((g_stepsFrom_20 l3_10.toNatClampNeg) + (1 : Int32)) < (g_stepsFrom_20 r23.toNatClampNeg) then (
                    zg (zin l3_10 36) <|
                    zn ((g_stepsFrom_20 l3_10.toNatClampNeg) + (1 : Int32)) fun (x34 : Int32) =>
                    zg (zin r23 36) <|
                    zn (upd g_stepsFrom_20 r23.toNatClampNeg x34) fun (g36 : Nat → Int32) =>
                    k28 (1 : Int32) g36) else (
                    k28 l2_18 g_stepsFrom_20)))) zF l2_9 (0 : Int32) g_stepsFrom_11)) zF (0 : Int32) (0 : Int32) g_stepsFrom_3)) zF (1 : Int32) g_stepsFrom_1) fun k37 =>
  zl2 (fun (l2_38 : Int32) (g_stepsFrom_39 : Nat → Int32) again40 =>
    if (36 : Int32) ≤ l2_38 then (
      k37 g_stepsFrom_39) else (
      zj1 (fun (s42 : Int32) =>
        zg (zin l2_38 36) <|
        zn (upd g_stepsFrom_39 l2_38.toNatClampNeg s42) fun (g44 : Nat → Int32) =>
        zn (l2_38 + (1 : Int32)) fun (x45 : Int32) =>
        again40 x45 g44) fun k46 =>
      zj1 (fun (_ : Unit) =>
        k46 (1000000000 : Int32)) fun k47 =>
      if l2_38 = p1 then (
        zb1 (f_M_canBe g_s l2_38) fun (r49 : Int32) =>
        if r49 = 0 then (
          k47 ()) else (
          k46 (0 : Int32))) else (
        k47 ()))) zF (0 : Int32) g_stepsFrom
def f_M_orNone (p0 : Int32) : Option (Int32) :=
  if p0 < (1000000000 : Int32) then (
    some (p0)) else (
    some ((-9 : Int32)))
def f_M_steps (g_refused : Nat → Int32) (g_s : Nat → Int32) (g_stepsFrom : Nat → Int32) (p1 : Int32) (p2 : Int32) : Option (Int32 × (Nat → Int32) × (Nat → Int32)) :=
  zb1 (f_M_isSquare p1) fun (r1 : Int32) =>
  zj1 (fun (_ : Unit) =>
    zb2 (f_M_no g_refused (-1 : Int32)) fun (r3 : Int32) (g_refused_4 : Nat → Int32) =>
    some (r3, g_refused_4, g_stepsFrom)) fun k6 =>
  if r1 = 0 then (
    k6 ()) else (
    zb1 (f_M_isSquare p2) fun (r8 : Int32) =>
    if r8 = 0 then (
      k6 ()) else (
      zb1 (f_M_stepsAll g_s g_stepsFrom p1) fun (g_stepsFrom_11 : Nat → Int32) =>
      zg (zin p2 36) <|
      zb1 (f_M_orNone (g_stepsFrom_11 p2.toNatClampNeg)) fun (r14 : Int32) =>
      some (r14, g_refused, g_stepsFrom_11)))
def f_M_costOf (g_s : Nat → Int32) (p1 : Int32) (p2 : Int32) (p3 : Int32) (p4 : Int32) : Option (Int32) :=
  if p4 = 0 then (
    zb1 (f_M_isCorner g_s p1 p2 p3) fun (r2 : Int32) =>
    zj1 (fun (s4 : Int32) =>
      some (s4 + (1 : Int32))) fun k5 =>
    if r2 = 0 then (
      k5 (0 : Int32)) else (
      k5 (1000 : Int32))) else (
    zb1 (f_M_saidOn g_s p1 p2 p3) fun (r7 : Int32) =>
    zg (zin (37 : Int32) 39) <|
    zb1 (f_M_heardBy g_s p1) fun (r10 : Int32) =>
    some ((r7 * (g_s (37 : Int32).toNatClampNeg)) * r10))
def f_M_leastAll (g_least : Nat → Int32) (g_s : Nat → Int32) (p1 : Int32) (p2 : Int32) (p3 : Int32) : Option ((Nat → Int32)) :=
  zj1 (fun (g_least_1 : Nat → Int32) =>
    zb1 (f_M_canBe g_s p1) fun (r2 : Int32) =>
    if r2 = 0 then (
      some (g_least_1)) else (
      zb1 (f_M_at p1 (4 : Int32)) fun (r5 : Int32) =>
      zg (zin r5 180) <|
      zn (upd g_least_1 r5.toNatClampNeg (0 : Int32)) fun (g8 : Nat → Int32) =>
      zl2 (fun (l4_9 : Int32) (g_least_10 : Nat → Int32) again11 =>
        if l4_9 = 0 then (
          some (g_least_10)) else (
          zj2 (fun (l4_13 : Int32) (g_least_14 : Nat → Int32) =>
            again11 l4_13 g_least_14) fun k15 =>
          zl3 (fun (l4_16 : Int32) (l5_17 : Int32) (g_least_18 : Nat → Int32) again19 =>
            if (36 : Int32) ≤ l5_17 then (
              k15 l4_16 g_least_18) else (
              zj2 (fun (l4_21 : Int32) (g_least_22 : Nat → Int32) =>
                zn (l5_17 + (1 : Int32)) fun (x23 : Int32) =>
                again19 l4_21 x23 g_least_22) fun k24 =>
              zl3 (fun (l4_25 : Int32) (l6_26 : Int32) (g_least_27 : Nat → Int32) again28 =>
                if (4 : Int32) < l6_26 then (
                  k24 l4_25 g_least_27) else (
                  zb1 (f_M_at l5_17 l6_26) fun (r30 : Int32) =>
                  zg (zin r30 180) <|
                  zj2 (fun (l4_33 : Int32) (g_least_34 : Nat → Int32) =>
                    zn (l6_26 + (1 : Int32)) fun (x35 : Int32) =>
                    again28 l4_33 x35 g_least_34) fun k36 =>
                  if (g_least_27 r30.toNatClampNeg) < (1000000000 : Int32) then (
                    zl3 (fun (l4_38 : Int32) (l7_39 : Int32) (g_least_40 : Nat → Int32) again41 =>
                      if (4 : Int32) ≤ l7_39 then (
                        k36 l4_38 g_least_40) else (
                        zb1 (f_M_gone g_s l5_17 l7_39) fun (r43 : Int32) =>
                        zj2 (fun (l4_45 : Int32) (g_least_46 : Nat → Int32) =>
                          zn (l7_39 + (1 : Int32)) fun (x47 : Int32) =>
                          again41 l4_45 x47 g_least_46) fun k48 =>
                        if r43 < 0 then (
                          k48 l4_38 g_least_40) else (
                          zj1 (fun (_ : Unit) =>
                            zb1 (f_M_at l5_17 l6_26) fun (r50 : Int32) =>
                            zg (zin r50 180) <|
                            zb1 (f_M_costOf g_s l5_17 l6_26 l7_39 p3) fun (r53 : Int32) =>
                            zn ((g_least_40 r50.toNatClampNeg) + r53) fun (x55 : Int32) =>
                            zb1 (f_M_at r43 l7_39) fun (r56 : Int32) =>
                            zg (zin r56 180) <|
                            if x55 < (g_least_40 r56.toNatClampNeg) then (
                              zb1 (f_M_at r43 l7_39) fun (r60 : Int32) =>
                              zg (zin r60 180) <|
                              zn (upd g_least_40 r60.toNatClampNeg x55) fun (g63 : Nat → Int32) =>
                              k48 (1 : Int32) g63) else (
                              k48 l4_38 g_least_40)) fun k64 =>
                          if l6_26 = (4 : Int32) then (
                            if p2 < 0 then (
                              k64 ()) else (
                              if l7_39 = p2 then (
                                k64 ()) else (
                                k48 l4_38 g_least_40))) else (
                            k64 ())))) zF l4_25 (0 : Int32) g_least_27) else (
                    k36 l4_25 g_least_27))) zF l4_16 (0 : Int32) g_least_18)) zF (0 : Int32) (0 : Int32) g_least_10)) zF (1 : Int32) g8)) fun k68 =>
  zl2 (fun (l4_69 : Int32) (g_least_70 : Nat → Int32) again71 =>
    if (180 : Int32) ≤ l4_69 then (
      k68 g_least_70) else (
      zg (zin l4_69 180) <|
      zn (upd g_least_70 l4_69.toNatClampNeg (1000000000 : Int32)) fun (g74 : Nat → Int32) =>
      zn (l4_69 + (1 : Int32)) fun (x75 : Int32) =>
      again71 x75 g74)) zF (0 : Int32) g_least
def f_M_leastAt (g_least : Nat → Int32) (p1 : Int32) : Option (Int32) :=
  zl2 (fun (l2_1 : Int32) (l3_2 : Int32) again3 =>
    if (4 : Int32) < l3_2 then (
      some (l2_1)) else (
      zb1 (f_M_at p1 l3_2) fun (r5 : Int32) =>
      zg (zin r5 180) <|
      zj1 (fun (s8 : Int32) =>
        zn (l3_2 + (1 : Int32)) fun (x9 : Int32) =>
        again3 s8 x9) fun k10 =>
      if l2_1 ≤ (g_least r5.toNatClampNeg) then (
        k10 l2_1) else (
        zb1 (f_M_at p1 l3_2) fun (r12 : Int32) =>
        zg (zin r12 180) <|
        k10 (g_least r12.toNatClampNeg)))) zF (1000000000 : Int32) (0 : Int32)
def f_M_cornersBy (g_least : Nat → Int32) (g_s : Nat → Int32) (p1 : Int32) (p2 : Int32) (p3 : Int32) : Option (Int32 × (Nat → Int32)) :=
  zb1 (f_M_leastAll g_least g_s p1 p3 (0 : Int32)) fun (g_least_1 : Nat → Int32) =>
  zb1 (f_M_leastAt g_least_1 p2) fun (r3 : Int32) =>
  some (r3, g_least_1)
def f_M_corners (g_least : Nat → Int32) (g_refused : Nat → Int32) (g_s : Nat → Int32) (p1 : Int32) (p2 : Int32) (p3 : Int32) : Option (Int32 × (Nat → Int32) × (Nat → Int32)) :=
  zb1 (f_M_isSquare p1) fun (r1 : Int32) =>
  zj1 (fun (_ : Unit) =>
    zb2 (f_M_no g_refused (-1 : Int32)) fun (r3 : Int32) (g_refused_4 : Nat → Int32) =>
    some (r3, g_least, g_refused_4)) fun k6 =>
  if r1 = 0 then (
    k6 ()) else (
    zb1 (f_M_isSquare p2) fun (r8 : Int32) =>
    if r8 = 0 then (
      k6 ()) else (
      zb1 (f_M_isIn p3 (0 : Int32) (2 : Int32)) fun (r11 : Int32) =>
      if r11 = 0 then (
        zb2 (f_M_no g_refused (-2 : Int32)) fun (r30 : Int32) (g_refused_31 : Nat → Int32) =>
        some (r30, g_least, g_refused_31)) else (
        zb2 (f_M_cornersBy g_least g_s p1 p2 (-9 : Int32)) fun (r14 : Int32) (g_least_15 : Nat → Int32) =>
        if r14 < (1000000000 : Int32) then (
          if (2 : Int32) ≤ p3 then (
            zl2 (fun (l5_19 : Int32) (g_least_20 : Nat → Int32) again21 =>
              if (4 : Int32) ≤ l5_19 then (
                some ((-9 : Int32), g_least_20, g_refused)) else (
                if p1 = p2 then (
                  some ((-9 : Int32), g_least_20, g_refused)) else (
                  zb2 (f_M_cornersBy g_least_20 g_s p1 p2 l5_19) fun (r24 : Int32) (g_least_25 : Nat → Int32) =>
                  if r24 = r14 then (
                    some (l5_19, g_least_25, g_refused)) else (
                    zn (l5_19 + (1 : Int32)) fun (x28 : Int32) =>
                    again21 x28 g_least_25)))) zF (0 : Int32) g_least_15) else (
            if p3 = 0 then (
              some (r14 / (1000 : Int32), g_least_15, g_refused)) else (
              some (zrem r14 (1000 : Int32), g_least_15, g_refused)))) else (
          some ((-9 : Int32), g_least_15, g_refused)))))
def f_M_fines (g_least : Nat → Int32) (g_refused : Nat → Int32) (g_s : Nat → Int32) (p1 : Int32) (p2 : Int32) : Option (Int32 × (Nat → Int32) × (Nat → Int32)) :=
  zb1 (f_M_isSquare p1) fun (r1 : Int32) =>
  zj1 (fun (_ : Unit) =>
    zb2 (f_M_no g_refused (-1 : Int32)) fun (r3 : Int32) (g_refused_4 : Nat → Int32) =>
    some (r3, g_least, g_refused_4)) fun k6 =>
  if r1 = 0 then (
    k6 ()) else (
    zb1 (f_M_isSquare p2) fun (r8 : Int32) =>
    if r8 = 0 then (
      k6 ()) else (
      zb1 (f_M_leastAll g_least g_s p1 (-9 : Int32) (1 : Int32)) fun (g_least_11 : Nat → Int32) =>
      zb1 (f_M_leastAt g_least_11 p2) fun (r13 : Int32) =>
      if r13 < (1000000000 : Int32) then (
        zb1 (f_M_wordsOn g_s p2) fun (r16 : Int32) =>
        zg (zin (37 : Int32) 39) <|
        zb1 (f_M_heardBy g_s p2) fun (r19 : Int32) =>
        some (r13 + ((r16 * (g_s (37 : Int32).toNatClampNeg)) * r19), g_least_11, g_refused)) else (
        some ((-9 : Int32), g_least_11, g_refused))))
def f_M_straightOf (g_s : Nat → Int32) (p1 : Int32) (p2 : Int32) : Option (Int32) :=
  zb1 (f_M_gone g_s p1 p2) fun (r1 : Int32) =>
  zl2 (fun (l3_3 : Int32) (l4_4 : Int32) again5 =>
    if l4_4 < 0 then (
      some (l3_3)) else (
      zn (l3_3 + (1 : Int32)) fun (x7 : Int32) =>
      zb1 (f_M_gone g_s l4_4 p2) fun (r8 : Int32) =>
      again5 x7 r8)) zF (0 : Int32) r1
def f_M_straight (g_refused : Nat → Int32) (g_s : Nat → Int32) (p1 : Int32) (p2 : Int32) : Option (Int32 × (Nat → Int32)) :=
  zb1 (f_M_isSquare p1) fun (r1 : Int32) =>
  if r1 = 0 then (
    zb2 (f_M_no g_refused (-1 : Int32)) fun (r12 : Int32) (g_refused_13 : Nat → Int32) =>
    some (r12, g_refused_13)) else (
    zb1 (f_M_isIn p2 (0 : Int32) (3 : Int32)) fun (r4 : Int32) =>
    if r4 = 0 then (
      zb2 (f_M_no g_refused (-2 : Int32)) fun (r7 : Int32) (g_refused_8 : Nat → Int32) =>
      some (r7, g_refused_8)) else (
      zb1 (f_M_straightOf g_s p1 p2) fun (r10 : Int32) =>
      some (r10, g_refused)))
def f_M_longest (g_refused : Nat → Int32) (g_s : Nat → Int32) (p1 : Int32) : Option (Int32 × (Nat → Int32)) :=
  zb1 (f_M_isIn p1 (0 : Int32) (1 : Int32)) fun (r1 : Int32) =>
  if r1 = 0 then (
    zb2 (f_M_no g_refused (-2 : Int32)) fun (r34 : Int32) (g_refused_35 : Nat → Int32) =>
    some (r34, g_refused_35)) else (
    zj2 (fun (l2_4 : Int32) (l3_5 : Int32) =>
      if p1 = 0 then (
        some (l3_5, g_refused)) else (
        some (l2_4, g_refused))) fun k7 =>
    zl3 (fun (l2_8 : Int32) (l3_9 : Int32) (l4_10 : Int32) again11 =>
      if (36 : Int32) ≤ l4_10 then (
        k7 l2_8 l3_9) else (
        zj2 (fun (l2_13 : Int32) (l3_14 : Int32) =>
          zn (l4_10 + (1 : Int32)) fun (x15 : Int32) =>
          again11 l2_13 l3_14 x15) fun k16 =>
        zl3 (fun (l2_17 : Int32) (l3_18 : Int32) (l5_19 : Int32) again20 =>
          if (4 : Int32) ≤ l5_19 then (
            k16 l2_17 l3_18) else (
            zb1 (f_M_canBe g_s l4_10) fun (r22 : Int32) =>
            if r22 = 0 then (
              k16 l2_17 l3_18) else (
              zb1 (f_M_straightOf g_s l4_10 l5_19) fun (r25 : Int32) =>
              zj2 (fun (l2_27 : Int32) (l3_28 : Int32) =>
                zn (l5_19 + (1 : Int32)) fun (x29 : Int32) =>
                again20 l2_27 l3_28 x29) fun k30 =>
              if l3_18 < r25 then (
                zb1 (f_M_straightOf g_s l4_10 l5_19) fun (r32 : Int32) =>
                k30 l4_10 r32) else (
                k30 l2_17 l3_18)))) zF l2_8 l3_9 (0 : Int32))) zF (-9 : Int32) (-9 : Int32) (0 : Int32))
def f_M_isHeard (g_s : Nat → Int32) (p1 : Int32) : Option (Int32) :=
  zb1 (f_M_heardBy g_s p1) fun (r1 : Int32) =>
  if r1 ≤ 0 then (
    some ((0 : Int32))) else (
    some ((1 : Int32)))
def f_M_mostIn (g_most : Nat → Int32) (g_next : Nat → Int32) (g_s : Nat → Int32) (p1 : Int32) (p2 : Int32) (p3 : Int32) : Option (Int32 × (Nat → Int32) × (Nat → Int32)) :=
  zb1 (f_M_canBe g_s p1) fun (r1 : Int32) =>
  if r1 = 0 then (
    some ((-9 : Int32), g_most, g_next)) else (
    zj1 (fun (_ : Unit) =>
      zj1 (fun (g_most_4 : Nat → Int32) =>
        zb1 (f_M_at p1 (4 : Int32)) fun (r5 : Int32) =>
        zg (zin r5 180) <|
        zn (upd g_most_4 r5.toNatClampNeg (0 : Int32)) fun (g8 : Nat → Int32) =>
        zb1 (f_M_wordsOn g_s p1) fun (r9 : Int32) =>
        zl4 (fun (l4_11 : Int32) (l5_12 : Int32) (g_most_13 : Nat → Int32) (g_next_14 : Nat → Int32) again15 =>
          if p2 ≤ l5_12 then (
            some (l4_11, g_most_13, g_next_14)) else (
            zj1 (fun (g_next_17 : Nat → Int32) =>
              zj2 (fun (l4_18 : Int32) (g_next_19 : Nat → Int32) =>
                zj1 (fun (g_most_20 : Nat → Int32) =>
                  zn (l5_12 + (1 : Int32)) fun (x21 : Int32) =>
                  again15 l4_18 x21 g_most_20 g_next_19) fun k22 =>
                zl2 (fun (l6_23 : Int32) (g_most_24 : Nat → Int32) again25 =>
                  if (180 : Int32) ≤ l6_23 then (
                    k22 g_most_24) else (
                    zg (zin l6_23 180) <|
                    zn (g_next_19 l6_23.toNatClampNeg) fun (x28 : Int32) =>
                    zg (zin l6_23 180) <|
                    zn (upd g_most_24 l6_23.toNatClampNeg x28) fun (g30 : Nat → Int32) =>
                    zn (l6_23 + (1 : Int32)) fun (x31 : Int32) =>
                    again25 x31 g30)) zF (0 : Int32) g_most_13) fun k32 =>
              zl3 (fun (l4_33 : Int32) (l6_34 : Int32) (g_next_35 : Nat → Int32) again36 =>
                if (36 : Int32) ≤ l6_34 then (
                  k32 l4_33 g_next_35) else (
                  zj2 (fun (l4_38 : Int32) (g_next_39 : Nat → Int32) =>
                    zn (l6_34 + (1 : Int32)) fun (x40 : Int32) =>
                    again36 l4_38 x40 g_next_39) fun k41 =>
                  zl3 (fun (l4_42 : Int32) (l7_43 : Int32) (g_next_44 : Nat → Int32) again45 =>
                    if (4 : Int32) < l7_43 then (
                      k41 l4_42 g_next_44) else (
                      zb1 (f_M_at l6_34 l7_43) fun (r47 : Int32) =>
                      zg (zin r47 180) <|
                      zn (g_most_13 r47.toNatClampNeg) fun (x50 : Int32) =>
                      zj2 (fun (l4_51 : Int32) (g_next_52 : Nat → Int32) =>
                        zn (l7_43 + (1 : Int32)) fun (x53 : Int32) =>
                        again45 l4_51 x53 g_next_52) fun k54 =>
                      zl3 (fun (l4_55 : Int32) (l9_56 : Int32) (g_next_57 : Nat → Int32) again58 =>
                        if (4 : Int32) ≤ l9_56 then (
                          k54 l4_55 g_next_57) else (
                          if x50 < 0 then (
                            k54 l4_55 g_next_57) else (
                            zb1 (f_M_gone g_s l6_34 l9_56) fun (r61 : Int32) =>
                            zb1 (f_M_saidOn g_s l6_34 l7_43 l9_56) fun (r63 : Int32) =>
                            zj2 (fun (l4_65 : Int32) (g_next_66 : Nat → Int32) =>
                              zn (l9_56 + (1 : Int32)) fun (x67 : Int32) =>
                              again58 l4_65 x67 g_next_66) fun k68 =>
                            if r61 < 0 then (
                              k68 l4_55 g_next_57) else (
                              zj1 (fun (_ : Unit) =>
                                zb1 (f_M_at r61 l9_56) fun (r70 : Int32) =>
                                zg (zin r70 180) <|
                                zj1 (fun (g_next_73 : Nat → Int32) =>
                                  zj1 (fun (_ : Unit) =>
                                    zb1 (f_M_wordsOn g_s r61) fun (r74 : Int32) =>
                                    zj1 (fun (s76 : Int32) =>
                                      k68 s76 g_next_73) fun k77 =>
                                    if ((x50 + r63) + r74) ≤ l4_55 then (
                                      k77 l4_55) else (
                                      zb1 (f_M_wordsOn g_s r61) fun (r79 : Int32) =>
                                      k77 ((x50 + r63) + r79))) fun k81 =>
                                  if p3 = 0 then (
                                    k81 ()) else (
                                    zb1 (f_M_wordsOn g_s r61) fun (r83 : Int32) =>
                                    if r83 ≤ 0 then (
                                      k81 ()) else (
                                      zb1 (f_M_isHeard g_s r61) fun (r86 : Int32) =>
                                      if r86 = 0 then (
                                        k81 ()) else (
                                        k68 l4_55 g_next_73)))) fun k89 =>
                                if (x50 + r63) ≤ (g_next_57 r70.toNatClampNeg) then (
                                  k89 g_next_57) else (
                                  zb1 (f_M_at r61 l9_56) fun (r91 : Int32) =>
                                  zn (x50 + r63) fun (x93 : Int32) =>
                                  zg (zin r91 180) <|
                                  zn (upd g_next_57 r91.toNatClampNeg x93) fun (g95 : Nat → Int32) =>
                                  k89 g95)) fun k96 =>
                              if p3 = 0 then (
                                k96 ()) else (
                                if r63 ≤ 0 then (
                                  k96 ()) else (
                                  zb1 (f_M_isHeard g_s l6_34) fun (r99 : Int32) =>
                                  if r99 = 0 then (
                                    k96 ()) else (
                                    k68 l4_55 g_next_57))))))) zF l4_42 (0 : Int32) g_next_44)) zF l4_33 (0 : Int32) g_next_35)) zF l4_11 (0 : Int32) g_next_17) fun k102 =>
            zl2 (fun (l6_103 : Int32) (g_next_104 : Nat → Int32) again105 =>
              if (180 : Int32) ≤ l6_103 then (
                k102 g_next_104) else (
                zg (zin l6_103 180) <|
                zn (upd g_next_104 l6_103.toNatClampNeg (-1 : Int32)) fun (g108 : Nat → Int32) =>
                zn (l6_103 + (1 : Int32)) fun (x109 : Int32) =>
                again105 x109 g108)) zF (0 : Int32) g_next_14)) zF r9 (0 : Int32) g8 g_next) fun k110 =>
      zl2 (fun (l4_111 : Int32) (g_most_112 : Nat → Int32) again113 =>
        if (180 : Int32) ≤ l4_111 then (
          k110 g_most_112) else (
          zg (zin l4_111 180) <|
          zn (upd g_most_112 l4_111.toNatClampNeg (-1 : Int32)) fun (g116 : Nat → Int32) =>
          zn (l4_111 + (1 : Int32)) fun (x117 : Int32) =>
          again113 x117 g116)) zF (0 : Int32) g_most) fun k118 =>
    if p3 = 0 then (
      k118 ()) else (
      zb1 (f_M_isHeard g_s p1) fun (r120 : Int32) =>
      if r120 = 0 then (
        k118 ()) else (
        zb1 (f_M_wordsOn g_s p1) fun (r123 : Int32) =>
        if r123 ≤ 0 then (
          k118 ()) else (
          some ((-9 : Int32), g_most, g_next)))))
def f_M_wrongSteps (p1 : Int32) (p2 : Int32) (p3 : Int32) (p4 : Int32) : Option (Int32) :=
  zb1 (f_M_isSquare p1) fun (r1 : Int32) =>
  if r1 = 0 then (
    some ((-1 : Int32))) else (
    if p2 ≤ p3 then (
      if p3 ≤ p4 then (
        some ((0 : Int32))) else (
        some ((-6 : Int32)))) else (
      some ((-4 : Int32))))
def f_M_words (g_most : Nat → Int32) (g_next : Nat → Int32) (g_refused : Nat → Int32) (g_s : Nat → Int32) (p1 : Int32) (p2 : Int32) : Option (Int32 × (Nat → Int32) × (Nat → Int32) × (Nat → Int32)) :=
  zb1 (f_M_wrongSteps p1 (0 : Int32) p2 (20 : Int32)) fun (r1 : Int32) =>
  if r1 = 0 then (
    zb3 (f_M_mostIn g_most g_next g_s p1 p2 (0 : Int32)) fun (r4 : Int32) (g_most_5 : Nat → Int32) (g_next_6 : Nat → Int32) =>
    some (r4, g_most_5, g_next_6, g_refused)) else (
    zb2 (f_M_no g_refused r1) fun (r8 : Int32) (g_refused_9 : Nat → Int32) =>
    some (r8, g_most, g_next, g_refused_9))
def f_M_unheard (g_most : Nat → Int32) (g_next : Nat → Int32) (g_refused : Nat → Int32) (g_s : Nat → Int32) (p1 : Int32) (p2 : Int32) : Option (Int32 × (Nat → Int32) × (Nat → Int32) × (Nat → Int32)) :=
  zb1 (f_M_wrongSteps p1 (0 : Int32) p2 (20 : Int32)) fun (r1 : Int32) =>
  if r1 = 0 then (
    zb3 (f_M_mostIn g_most g_next g_s p1 p2 (1 : Int32)) fun (r4 : Int32) (g_most_5 : Nat → Int32) (g_next_6 : Nat → Int32) =>
    some (r4, g_most_5, g_next_6, g_refused)) else (
    zb2 (f_M_no g_refused r1) fun (r8 : Int32) (g_refused_9 : Nat → Int32) =>
    some (r8, g_most, g_next, g_refused_9))
def f_M_talk (g_most : Nat → Int32) (g_next : Nat → Int32) (g_refused : Nat → Int32) (g_s : Nat → Int32) (p1 : Int32) (p2 : Int32) : Option (Int32 × (Nat → Int32) × (Nat → Int32) × (Nat → Int32)) :=
  zb1 (f_M_wrongSteps p1 (1 : Int32) p2 (40 : Int32)) fun (r1 : Int32) =>
  if r1 = 0 then (
    zb1 (f_M_canBe g_s p1) fun (r4 : Int32) =>
    if r4 = 0 then (
      some ((-9 : Int32), g_most, g_next, g_refused)) else (
      zj1 (fun (g_most_7 : Nat → Int32) =>
        zb1 (f_M_at p1 (4 : Int32)) fun (r8 : Int32) =>
        zg (zin r8 180) <|
        zn (upd g_most_7 r8.toNatClampNeg (0 : Int32)) fun (g11 : Nat → Int32) =>
        zb1 (f_M_wordsOn g_s p1) fun (r12 : Int32) =>
        if r12 < p2 then (
          zl3 (fun (l4_15 : Int32) (g_most_16 : Nat → Int32) (g_next_17 : Nat → Int32) again18 =>
            if (40 : Int32) < l4_15 then (
              some ((-9 : Int32), g_most_16, g_next_17, g_refused)) else (
              zj1 (fun (g_next_20 : Nat → Int32) =>
                zj1 (fun (g_next_21 : Nat → Int32) =>
                  zj1 (fun (g_most_22 : Nat → Int32) =>
                    zn (l4_15 + (1 : Int32)) fun (x23 : Int32) =>
                    again18 x23 g_most_22 g_next_21) fun k24 =>
                  zl2 (fun (l5_25 : Int32) (g_most_26 : Nat → Int32) again27 =>
                    if (180 : Int32) ≤ l5_25 then (
                      k24 g_most_26) else (
                      zg (zin l5_25 180) <|
                      zn (g_next_21 l5_25.toNatClampNeg) fun (x30 : Int32) =>
                      zg (zin l5_25 180) <|
                      zn (upd g_most_26 l5_25.toNatClampNeg x30) fun (g32 : Nat → Int32) =>
                      zn (l5_25 + (1 : Int32)) fun (x33 : Int32) =>
                      again27 x33 g32)) zF (0 : Int32) g_most_16) fun k34 =>
                zl2 (fun (l5_35 : Int32) (g_next_36 : Nat → Int32) again37 =>
                  if (36 : Int32) ≤ l5_35 then (
                    k34 g_next_36) else (
                    zj1 (fun (g_next_39 : Nat → Int32) =>
                      zn (l5_35 + (1 : Int32)) fun (x40 : Int32) =>
                      again37 x40 g_next_39) fun k41 =>
                    zl2 (fun (l6_42 : Int32) (g_next_43 : Nat → Int32) again44 =>
                      if (4 : Int32) < l6_42 then (
                        k41 g_next_43) else (
                        zb1 (f_M_at l5_35 l6_42) fun (r46 : Int32) =>
                        zg (zin r46 180) <|
                        zn (g_most_16 r46.toNatClampNeg) fun (x49 : Int32) =>
                        zj1 (fun (g_next_50 : Nat → Int32) =>
                          zn (l6_42 + (1 : Int32)) fun (x51 : Int32) =>
                          again44 x51 g_next_50) fun k52 =>
                        zl2 (fun (l8_53 : Int32) (g_next_54 : Nat → Int32) again55 =>
                          if (4 : Int32) ≤ l8_53 then (
                            k52 g_next_54) else (
                            if x49 < 0 then (
                              k52 g_next_54) else (
                              zb1 (f_M_gone g_s l5_35 l8_53) fun (r58 : Int32) =>
                              zj1 (fun (g_next_60 : Nat → Int32) =>
                                zn (l8_53 + (1 : Int32)) fun (x61 : Int32) =>
                                again55 x61 g_next_60) fun k62 =>
                              if 0 ≤ r58 then (
                                zb1 (f_M_isCorner g_s l5_35 l6_42 l8_53) fun (r64 : Int32) =>
                                zj1 (fun (s66 : Int32) =>
                                  zb1 (f_M_wordsOn g_s r58) fun (r67 : Int32) =>
                                  if (s66 + r67) < p2 then (
                                    zb1 (f_M_at r58 l8_53) fun (r70 : Int32) =>
                                    zg (zin r70 180) <|
                                    if s66 ≤ (g_next_54 r70.toNatClampNeg) then (
                                      k62 g_next_54) else (
                                      zb1 (f_M_at r58 l8_53) fun (r74 : Int32) =>
                                      zg (zin r74 180) <|
                                      zn (upd g_next_54 r74.toNatClampNeg s66) fun (g77 : Nat → Int32) =>
                                      k62 g77)) else (
                                    some (l4_15, g_most_16, g_next_54, g_refused))) fun k78 =>
                                if r64 = 0 then (
                                  zb1 (f_M_wordsOn g_s l5_35) fun (r80 : Int32) =>
                                  k78 (x49 + r80)) else (
                                  k78 (0 : Int32))) else (
                                k62 g_next_54)))) zF (0 : Int32) g_next_43)) zF (0 : Int32) g_next_36)) zF (0 : Int32) g_next_20) fun k82 =>
              zl2 (fun (l5_83 : Int32) (g_next_84 : Nat → Int32) again85 =>
                if (180 : Int32) ≤ l5_83 then (
                  k82 g_next_84) else (
                  zg (zin l5_83 180) <|
                  zn (upd g_next_84 l5_83.toNatClampNeg (-1 : Int32)) fun (g88 : Nat → Int32) =>
                  zn (l5_83 + (1 : Int32)) fun (x89 : Int32) =>
                  again85 x89 g88)) zF (0 : Int32) g_next_17)) zF (1 : Int32) g11 g_next) else (
          some ((0 : Int32), g11, g_next, g_refused))) fun k90 =>
      zl2 (fun (l4_91 : Int32) (g_most_92 : Nat → Int32) again93 =>
        if (180 : Int32) ≤ l4_91 then (
          k90 g_most_92) else (
          zg (zin l4_91 180) <|
          zn (upd g_most_92 l4_91.toNatClampNeg (-1 : Int32)) fun (g96 : Nat → Int32) =>
          zn (l4_91 + (1 : Int32)) fun (x97 : Int32) =>
          again93 x97 g96)) zF (0 : Int32) g_most)) else (
    zb2 (f_M_no g_refused r1) fun (r98 : Int32) (g_refused_99 : Nat → Int32) =>
    some (r98, g_most, g_next, g_refused_99))
def f_M_meet (g_otherSteps : Nat → Int32) (g_refused : Nat → Int32) (g_s : Nat → Int32) (g_stepsFrom : Nat → Int32) (p1 : Int32) (p2 : Int32) (p3 : Int32) : Option (Int32 × (Nat → Int32) × (Nat → Int32) × (Nat → Int32)) :=
  zb1 (f_M_isSquare p1) fun (r1 : Int32) =>
  zj1 (fun (_ : Unit) =>
    zb2 (f_M_no g_refused (-1 : Int32)) fun (r3 : Int32) (g_refused_4 : Nat → Int32) =>
    some (r3, g_otherSteps, g_refused_4, g_stepsFrom)) fun k6 =>
  if r1 = 0 then (
    k6 ()) else (
    zb1 (f_M_isSquare p2) fun (r8 : Int32) =>
    if r8 = 0 then (
      k6 ()) else (
      zb1 (f_M_isIn p3 (0 : Int32) (1 : Int32)) fun (r11 : Int32) =>
      if r11 = 0 then (
        zb2 (f_M_no g_refused (-2 : Int32)) fun (r51 : Int32) (g_refused_52 : Nat → Int32) =>
        some (r51, g_otherSteps, g_refused_52, g_stepsFrom)) else (
        zb1 (f_M_stepsAll g_s g_stepsFrom p1) fun (g_stepsFrom_14 : Nat → Int32) =>
        zj1 (fun (g_otherSteps_16 : Nat → Int32) =>
          zb1 (f_M_stepsAll g_s g_stepsFrom_14 p2) fun (g_stepsFrom_17 : Nat → Int32) =>
          zj2 (fun (l4_19 : Int32) (l5_20 : Int32) =>
            if l4_19 < 0 then (
              some (l4_19, g_otherSteps_16, g_refused, g_stepsFrom_17)) else (
              if p3 = (1 : Int32) then (
                some (l4_19, g_otherSteps_16, g_refused, g_stepsFrom_17)) else (
                some (l5_20, g_otherSteps_16, g_refused, g_stepsFrom_17)))) fun k23 =>
          zl3 (fun (l4_24 : Int32) (l5_25 : Int32) (l6_26 : Int32) again27 =>
            if (36 : Int32) ≤ l6_26 then (
              k23 l4_24 l5_25) else (
              zg (zin l6_26 36) <|
              zg (zin l6_26 36) <|
              zj1 (fun (s31 : Int32) =>
                zj2 (fun (l4_32 : Int32) (l5_33 : Int32) =>
                  zn (l6_26 + (1 : Int32)) fun (x34 : Int32) =>
                  again27 l4_32 l5_33 x34) fun k35 =>
                if s31 < l5_25 then (
                  k35 l6_26 s31) else (
                  k35 l4_24 l5_25)) fun k37 =>
              if (g_stepsFrom_17 l6_26.toNatClampNeg) ≤ (g_otherSteps_16 l6_26.toNatClampNeg) then (
                zg (zin l6_26 36) <|
                k37 (g_otherSteps_16 l6_26.toNatClampNeg)) else (
                zg (zin l6_26 36) <|
                k37 (g_stepsFrom_17 l6_26.toNatClampNeg)))) zF (-9 : Int32) (1000000000 : Int32) (0 : Int32)) fun k41 =>
        zl2 (fun (l4_42 : Int32) (g_otherSteps_43 : Nat → Int32) again44 =>
          if (36 : Int32) ≤ l4_42 then (
            k41 g_otherSteps_43) else (
            zg (zin l4_42 36) <|
            zn (g_stepsFrom_14 l4_42.toNatClampNeg) fun (x47 : Int32) =>
            zg (zin l4_42 36) <|
            zn (upd g_otherSteps_43 l4_42.toNatClampNeg x47) fun (g49 : Nat → Int32) =>
            zn (l4_42 + (1 : Int32)) fun (x50 : Int32) =>
            again44 x50 g49)) zF (0 : Int32) g_otherSteps)))
def f_M_roundOff (g_least : Nat → Int32) (g_refused : Nat → Int32) (g_s : Nat → Int32) (p1 : Int32) (p2 : Int32) : Option (Int32 × (Nat → Int32) × (Nat → Int32) × (Nat → Int32)) :=
  zb1 (f_M_isSquare p1) fun (r1 : Int32) =>
  zj1 (fun (_ : Unit) =>
    zb2 (f_M_no g_refused (-1 : Int32)) fun (r3 : Int32) (g_refused_4 : Nat → Int32) =>
    some (r3, g_least, g_refused_4, g_s)) fun k6 =>
  if r1 = 0 then (
    k6 ()) else (
    zb1 (f_M_isSquare p2) fun (r8 : Int32) =>
    if r8 = 0 then (
      k6 ()) else (
      zb2 (f_M_cornersBy g_least g_s p1 p2 (-9 : Int32)) fun (r11 : Int32) (g_least_12 : Nat → Int32) =>
      if r11 < (1000000000 : Int32) then (
        zn (r11 / (1000 : Int32)) fun (x15 : Int32) =>
        zl5 (fun (l4_16 : Int32) (l5_17 : Int32) (l6_18 : Int32) (g_least_19 : Nat → Int32) (g_s_20 : Nat → Int32) again21 =>
          if (36 : Int32) ≤ l6_18 then (
            some (l4_16, g_least_19, g_refused, g_s_20)) else (
            zg (zin l6_18 39) <|
            zj4 (fun (l4_24 : Int32) (l5_25 : Int32) (g_least_26 : Nat → Int32) (g_s_27 : Nat → Int32) =>
              zn (l6_18 + (1 : Int32)) fun (x28 : Int32) =>
              again21 l4_24 l5_25 x28 g_least_26 g_s_27) fun k29 =>
            if (g_s_20 l6_18.toNatClampNeg) = 0 then (
              zg (zin l6_18 39) <|
              zn (upd g_s_20 l6_18.toNatClampNeg (2 : Int32)) fun (g32 : Nat → Int32) =>
              zb2 (f_M_cornersBy g_least_19 g32 p1 p2 (-9 : Int32)) fun (r33 : Int32) (g_least_34 : Nat → Int32) =>
              zn (r33 / (1000 : Int32)) fun (x36 : Int32) =>
              zg (zin l6_18 39) <|
              zn (upd g32 l6_18.toNatClampNeg (0 : Int32)) fun (g38 : Nat → Int32) =>
              if x36 < l5_17 then (
                k29 l6_18 x36 g_least_34 g38) else (
                k29 l4_16 l5_17 g_least_34 g38)) else (
              k29 l4_16 l5_17 g_least_19 g_s_20))) zF (-9 : Int32) x15 (0 : Int32) g_least_12 g_s) else (
        some ((-9 : Int32), g_least_12, g_refused, g_s))))
def f_M_heardMany (g_s : Nat → Int32) : Option (Int32) :=
  zl2 (fun (l1_1 : Int32) (l2_2 : Int32) again3 =>
    if (36 : Int32) ≤ l2_2 then (
      some (l1_1)) else (
      zb1 (f_M_isHeard g_s l2_2) fun (r5 : Int32) =>
      zj1 (fun (s7 : Int32) =>
        zn (l1_1 + s7) fun (x8 : Int32) =>
        zn (l2_2 + (1 : Int32)) fun (x9 : Int32) =>
        again3 x8 x9) fun k10 =>
      if r5 = 0 then (
        k10 (0 : Int32)) else (
        k10 (1 : Int32)))) zF (0 : Int32) (0 : Int32)
def f_M_newNiche (g_refused : Nat → Int32) (g_s : Nat → Int32) (p1 : Int32) : Option (Int32 × (Nat → Int32)) :=
  zb1 (f_M_isIn p1 (0 : Int32) (1 : Int32)) fun (r1 : Int32) =>
  if r1 = 0 then (
    zb2 (f_M_no g_refused (-2 : Int32)) fun (r41 : Int32) (g_refused_42 : Nat → Int32) =>
    some (r41, g_refused_42)) else (
    zj2 (fun (l2_4 : Int32) (l3_5 : Int32) =>
      if p1 = 0 then (
        some (l2_4, g_refused)) else (
        if 0 ≤ l2_4 then (
          some (l3_5, g_refused)) else (
          some (l2_4, g_refused)))) fun k8 =>
    zl3 (fun (l2_9 : Int32) (l3_10 : Int32) (l4_11 : Int32) again12 =>
      if (36 : Int32) ≤ l4_11 then (
        k8 l2_9 l3_10) else (
        zg (zin (36 : Int32) 39) <|
        zj2 (fun (l2_15 : Int32) (l3_16 : Int32) =>
          zn (l4_11 + (1 : Int32)) fun (x17 : Int32) =>
          again12 l2_15 l3_16 x17) fun k18 =>
        if l4_11 = (g_s (36 : Int32).toNatClampNeg) then (
          k18 l2_9 l3_10) else (
          zb1 (f_M_canBe g_s l4_11) fun (r20 : Int32) =>
          if r20 = 0 then (
            k18 l2_9 l3_10) else (
            zj1 (fun (l5_23 : Int32) =>
              if l3_10 < l5_23 then (
                k18 l4_11 l5_23) else (
                k18 l2_9 l3_10)) fun k25 =>
            zl2 (fun (l5_26 : Int32) (l6_27 : Int32) again28 =>
              if (36 : Int32) ≤ l6_27 then (
                k25 l5_26) else (
                zb1 (f_M_apart l4_11 l6_27) fun (r30 : Int32) =>
                zj1 (fun (s32 : Int32) =>
                  zn (l5_26 + s32) fun (x33 : Int32) =>
                  zn (l6_27 + (1 : Int32)) fun (x34 : Int32) =>
                  again28 x33 x34) fun k35 =>
                zj1 (fun (_ : Unit) =>
                  k35 (0 : Int32)) fun k36 =>
                if (1 : Int32) < r30 then (
                  k36 ()) else (
                  zb1 (f_M_isHeard g_s l6_27) fun (r38 : Int32) =>
                  if r38 = 0 then (
                    k35 (1 : Int32)) else (
                    k36 ())))) zF (0 : Int32) (0 : Int32))))) zF (-9 : Int32) (0 : Int32) (0 : Int32))
def f_M_bits (p0 : Int32) : Option (Int32) :=
  zl2 (fun (l1_1 : Int32) (l2_2 : Int32) again3 =>
    if (8 : Int32) ≤ l2_2 then (
      some (l1_1)) else (
      zn (l1_1 + ((zshr p0 l2_2) &&& (1 : Int32))) fun (x5 : Int32) =>
      zn (l2_2 + (1 : Int32)) fun (x6 : Int32) =>
      again3 x5 x6)) zF (0 : Int32) (0 : Int32)
def f_M_areAllHeard (g_s : Nat → Int32) (p1 : Int32) : Option (Int32) :=
  zl1 (fun (l2_1 : Int32) again2 =>
    if (36 : Int32) ≤ l2_1 then (
      some ((1 : Int32))) else (
      zb1 (f_M_isHeard g_s l2_1) fun (r4 : Int32) =>
      zj1 (fun (s6 : Int32) =>
        zj1 (fun (l3_7 : Int32) =>
          if l3_7 = 0 then (
            some ((0 : Int32))) else (
            zn (l2_1 + (1 : Int32)) fun (x9 : Int32) =>
            again2 x9)) fun k10 =>
        zl3 (fun (l3_11 : Int32) (l4_12 : Int32) (l5_13 : Int32) again14 =>
          if (36 : Int32) ≤ l5_13 then (
            k10 l3_11) else (
            zg (zin l5_13 39) <|
            zb1 (f_M_hears (g_s l5_13.toNatClampNeg)) fun (r17 : Int32) =>
            zj2 (fun (l3_19 : Int32) (l4_20 : Int32) =>
              zn (l5_13 + (1 : Int32)) fun (x21 : Int32) =>
              again14 l3_19 l4_20 x21) fun k22 =>
            if 0 ≤ r17 then (
              zj1 (fun (s24 : Int32) =>
                zn (l3_11 ||| s24) fun (x25 : Int32) =>
                zn (l4_12 + (1 : Int32)) fun (x26 : Int32) =>
                k22 x25 x26) fun k27 =>
              zj1 (fun (_ : Unit) =>
                k27 (0 : Int32)) fun k28 =>
              if ((zshr p1 l4_12) &&& (1 : Int32)) = (1 : Int32) then (
                zg (zin l5_13 39) <|
                zb1 (f_M_hears (g_s l5_13.toNatClampNeg)) fun (r31 : Int32) =>
                zb1 (f_M_apart l5_13 l2_1) fun (r33 : Int32) =>
                if r31 < r33 then (
                  k28 ()) else (
                  k27 (1 : Int32))) else (
                k28 ())) else (
              k22 l3_11 l4_12))) zF s6 (0 : Int32) (0 : Int32)) fun k36 =>
      if r4 = 0 then (
        k36 (1 : Int32)) else (
        k36 (0 : Int32)))) zF (0 : Int32)
def f_M_enough (g_refused : Nat → Int32) (g_s : Nat → Int32) : Option (Int32 × (Nat → Int32)) :=
  zj1 (fun (l1_1 : Int32) =>
    if l1_1 ≤ (8 : Int32) then (
      zn ((zshl (1 : Int32) l1_1) - (1 : Int32)) fun (x3 : Int32) =>
      zl2 (fun (l2_4 : Int32) (l3_5 : Int32) again6 =>
        if l3_5 < 0 then (
          some (l2_4, g_refused)) else (
          zb1 (f_M_bits l3_5) fun (r8 : Int32) =>
          zb1 (f_M_bits l2_4) fun (r10 : Int32) =>
          zj1 (fun (l2_12 : Int32) =>
            zn (l3_5 + (-1 : Int32)) fun (x13 : Int32) =>
            again6 l2_12 x13) fun k14 =>
          if r10 < r8 then (
            k14 l2_4) else (
            zb1 (f_M_areAllHeard g_s l3_5) fun (r16 : Int32) =>
            if r16 = 0 then (
              k14 l2_4) else (
              k14 l3_5)))) zF x3 x3) else (
      zb2 (f_M_no g_refused (-3 : Int32)) fun (r19 : Int32) (g_refused_20 : Nat → Int32) =>
      some (r19, g_refused_20))) fun k22 =>
  zl2 (fun (l1_23 : Int32) (l2_24 : Int32) again25 =>
    if (36 : Int32) ≤ l2_24 then (
      k22 l1_23) else (
      zg (zin l2_24 39) <|
      zb1 (f_M_hears (g_s l2_24.toNatClampNeg)) fun (r28 : Int32) =>
      zj1 (fun (s30 : Int32) =>
        zn (l1_23 + s30) fun (x31 : Int32) =>
        zn (l2_24 + (1 : Int32)) fun (x32 : Int32) =>
        again25 x31 x32) fun k33 =>
      if r28 < 0 then (
        k33 (0 : Int32)) else (
        k33 (1 : Int32)))) zF (0 : Int32) (0 : Int32)
def f_M_quiet (g_s : Nat → Int32) (g_stepsFrom : Nat → Int32) : Option (Int32 × (Nat → Int32)) :=
  zl4 (fun (l1_1 : Int32) (l2_2 : Int32) (l3_3 : Int32) (g_stepsFrom_4 : Nat → Int32) again5 =>
    if (36 : Int32) ≤ l3_3 then (
      some (l1_1, g_stepsFrom_4)) else (
      zb1 (f_M_canBe g_s l3_3) fun (r7 : Int32) =>
      zj3 (fun (l1_9 : Int32) (l2_10 : Int32) (g_stepsFrom_11 : Nat → Int32) =>
        zn (l3_3 + (1 : Int32)) fun (x12 : Int32) =>
        again5 l1_9 l2_10 x12 g_stepsFrom_11) fun k13 =>
      if r7 = 0 then (
        k13 l1_1 l2_2 g_stepsFrom_4) else (
        zb1 (f_M_stepsAll g_s g_stepsFrom_4 l3_3) fun (g_stepsFrom_15 : Nat → Int32) =>
        zj1 (fun (l4_17 : Int32) =>
          if (1000000000 : Int32) ≤ l4_17 then (
            k13 l1_1 l2_2 g_stepsFrom_15) else (
            if l2_2 < l4_17 then (
              k13 l3_3 l4_17 g_stepsFrom_15) else (
              k13 l1_1 l2_2 g_stepsFrom_15))) fun k20 =>
        zl2 (fun (l4_21 : Int32) (l5_22 : Int32) again23 =>
          if (36 : Int32) ≤ l5_22 then (
            k20 l4_21) else (
            zg (zin l5_22 36) <|
            zj1 (fun (l4_26 : Int32) =>
              zn (l5_22 + (1 : Int32)) fun (x27 : Int32) =>
              again23 l4_26 x27) fun k28 =>
            if l4_21 ≤ (g_stepsFrom_15 l5_22.toNatClampNeg) then (
              k28 l4_21) else (
              zb1 (f_M_isHeard g_s l5_22) fun (r30 : Int32) =>
              if r30 = 0 then (
                k28 l4_21) else (
                zg (zin l5_22 36) <|
                zn (g_stepsFrom_15 l5_22.toNatClampNeg) fun (x34 : Int32) =>
                k28 x34)))) zF (1000000000 : Int32) (0 : Int32)))) zF (-9 : Int32) (-1 : Int32) (0 : Int32) g_stepsFrom
def f_M_isYard (g_s : Nat → Int32) (p1 : Int32) : Option (Int32) :=
  zb1 (f_M_gone g_s p1 (0 : Int32)) fun (r1 : Int32) =>
  zj1 (fun (s3 : Int32) =>
    zb1 (f_M_gone g_s p1 (1 : Int32)) fun (r4 : Int32) =>
    zj1 (fun (s6 : Int32) =>
      zb1 (f_M_isTurned g_s p1) fun (r7 : Int32) =>
      if r7 = 0 then (
        some ((0 : Int32))) else (
        if s3 = 0 then (
          some ((0 : Int32))) else (
          if s6 = 0 then (
            some ((0 : Int32))) else (
            some ((1 : Int32)))))) fun k12 =>
    zj1 (fun (_ : Unit) =>
      k12 (1 : Int32)) fun k13 =>
    if 0 ≤ r4 then (
      k13 ()) else (
      zb1 (f_M_gone g_s p1 (2 : Int32)) fun (r15 : Int32) =>
      if r15 < 0 then (
        k12 (0 : Int32)) else (
        k13 ()))) fun k18 =>
  zj1 (fun (_ : Unit) =>
    k18 (1 : Int32)) fun k19 =>
  if 0 ≤ r1 then (
    k19 ()) else (
    zb1 (f_M_gone g_s p1 (3 : Int32)) fun (r21 : Int32) =>
    if r21 < 0 then (
      k18 (0 : Int32)) else (
      k19 ()))
def f_M_yards (g_refused : Nat → Int32) (g_s : Nat → Int32) (g_stepsFrom : Nat → Int32) (p1 : Int32) : Option (Int32 × (Nat → Int32) × (Nat → Int32)) :=
  zb1 (f_M_isSquare p1) fun (r1 : Int32) =>
  if r1 = 0 then (
    zb2 (f_M_no g_refused (-1 : Int32)) fun (r24 : Int32) (g_refused_25 : Nat → Int32) =>
    some (r24, g_refused_25, g_stepsFrom)) else (
    zb1 (f_M_stepsAll g_s g_stepsFrom p1) fun (g_stepsFrom_4 : Nat → Int32) =>
    zj1 (fun (l2_6 : Int32) =>
      zb1 (f_M_orNone l2_6) fun (r7 : Int32) =>
      some (r7, g_refused, g_stepsFrom_4)) fun k9 =>
    zl2 (fun (l2_10 : Int32) (l3_11 : Int32) again12 =>
      if (36 : Int32) ≤ l3_11 then (
        k9 l2_10) else (
        zg (zin l3_11 36) <|
        zj1 (fun (l2_15 : Int32) =>
          zn (l3_11 + (1 : Int32)) fun (x16 : Int32) =>
          again12 l2_15 x16) fun k17 =>
        if l2_10 ≤ (g_stepsFrom_4 l3_11.toNatClampNeg) then (
          k17 l2_10) else (
          zb1 (f_M_isYard g_s l3_11) fun (r19 : Int32) =>
          if r19 = 0 then (
            k17 l2_10) else (
            zg (zin l3_11 36) <|
            zn (g_stepsFrom_4 l3_11.toNatClampNeg) fun (x23 : Int32) =>
            k17 x23)))) zF (1000000000 : Int32) (0 : Int32))
def f_M_canBeSaid (v_rowMany : Int32) (g_ahead : Nat → Int32) (g_row : Nat → Int32) (g_s : Nat → Int32) (p1 : Int32) (p2 : Int32) (p3 : Int32) : Option (Int32) :=
  if p3 = (v_rowMany - (1 : Int32)) then (
    zb1 (f_M_wordsOn g_s p1) fun (r18 : Int32) =>
    zg (zin p3 20) <|
    if r18 = (g_row p3.toNatClampNeg) then (
      some ((1 : Int32))) else (
      some ((0 : Int32)))) else (
    zl1 (fun (l4_2 : Int32) again3 =>
      if (4 : Int32) ≤ l4_2 then (
        some ((0 : Int32))) else (
        zb1 (f_M_gone g_s p1 l4_2) fun (r5 : Int32) =>
        zj1 (fun (_ : Unit) =>
          zn (l4_2 + (1 : Int32)) fun (x7 : Int32) =>
          again3 x7) fun k8 =>
        if r5 < 0 then (
          k8 ()) else (
          zb1 (f_M_saidOn g_s p1 p2 l4_2) fun (r10 : Int32) =>
          zg (zin p3 20) <|
          if r10 = (g_row p3.toNatClampNeg) then (
            zb1 (f_M_at r5 l4_2) fun (r14 : Int32) =>
            zg (zin r14 180) <|
            if (g_ahead r14.toNatClampNeg) = 0 then (
              k8 ()) else (
              some ((1 : Int32)))) else (
            k8 ())))) zF (0 : Int32))
def f_M_said (v_rowMany : Int32) (g_ahead : Nat → Int32) (g_now : Nat → Int32) (g_refused : Nat → Int32) (g_row : Nat → Int32) (g_s : Nat → Int32) (p1 : Int32) : Option (Int32 × (Nat → Int32) × (Nat → Int32) × (Nat → Int32)) :=
  zb1 (f_M_isIn p1 (0 : Int32) (1 : Int32)) fun (r1 : Int32) =>
  if r1 = 0 then (
    zb2 (f_M_no g_refused (-2 : Int32)) fun (r76 : Int32) (g_refused_77 : Nat → Int32) =>
    some (r76, g_ahead, g_now, g_refused_77)) else (
    if v_rowMany = 0 then (
      zb2 (f_M_no g_refused (-3 : Int32)) fun (r73 : Int32) (g_refused_74 : Nat → Int32) =>
      some (r73, g_ahead, g_now, g_refused_74)) else (
      zn (v_rowMany - (1 : Int32)) fun (x5 : Int32) =>
      zj2 (fun (g_ahead_6 : Nat → Int32) (g_now_7 : Nat → Int32) =>
        zj2 (fun (l2_8 : Int32) (l3_9 : Int32) =>
          if p1 = 0 then (
            some (l2_8, g_ahead_6, g_now_7, g_refused)) else (
            some (l3_9, g_ahead_6, g_now_7, g_refused))) fun k11 =>
        zl3 (fun (l2_12 : Int32) (l3_13 : Int32) (l4_14 : Int32) again15 =>
          if l4_14 < 0 then (
            k11 l2_12 l3_13) else (
            zb1 (f_M_at l4_14 (4 : Int32)) fun (r17 : Int32) =>
            zg (zin r17 180) <|
            zj2 (fun (l2_20 : Int32) (l3_21 : Int32) =>
              zn (l4_14 + (-1 : Int32)) fun (x22 : Int32) =>
              again15 l2_20 l3_21 x22) fun k23 =>
            if (g_ahead_6 r17.toNatClampNeg) = 0 then (
              k23 l2_12 l3_13) else (
              zn (l2_12 + (1 : Int32)) fun (x25 : Int32) =>
              k23 x25 l4_14))) zF (0 : Int32) (-9 : Int32) (35 : Int32)) fun k26 =>
      zl3 (fun (l2_27 : Int32) (g_ahead_28 : Nat → Int32) (g_now_29 : Nat → Int32) again30 =>
        if l2_27 < 0 then (
          k26 g_ahead_28 g_now_29) else (
          zj1 (fun (g_now_32 : Nat → Int32) =>
            zj1 (fun (g_ahead_33 : Nat → Int32) =>
              zn (l2_27 + (-1 : Int32)) fun (x34 : Int32) =>
              again30 x34 g_ahead_33 g_now_32) fun k35 =>
            zl2 (fun (l3_36 : Int32) (g_ahead_37 : Nat → Int32) again38 =>
              if (180 : Int32) ≤ l3_36 then (
                k35 g_ahead_37) else (
                zg (zin l3_36 180) <|
                zn (g_now_32 l3_36.toNatClampNeg) fun (x41 : Int32) =>
                zg (zin l3_36 180) <|
                zg (x41 &&& 1 = x41) <|
                zn (upd g_ahead_37 l3_36.toNatClampNeg x41) fun (g44 : Nat → Int32) =>
                zn (l3_36 + (1 : Int32)) fun (x45 : Int32) =>
                again38 x45 g44)) zF (0 : Int32) g_ahead_28) fun k46 =>
          zl2 (fun (l3_47 : Int32) (g_now_48 : Nat → Int32) again49 =>
            if (36 : Int32) ≤ l3_47 then (
              k46 g_now_48) else (
              zj1 (fun (g_now_51 : Nat → Int32) =>
                zn (l3_47 + (1 : Int32)) fun (x52 : Int32) =>
                again49 x52 g_now_51) fun k53 =>
              zl2 (fun (l4_54 : Int32) (g_now_55 : Nat → Int32) again56 =>
                if (4 : Int32) < l4_54 then (
                  k53 g_now_55) else (
                  zb1 (f_M_at l3_47 l4_54) fun (r58 : Int32) =>
                  zb1 (f_M_canBe g_s l3_47) fun (r60 : Int32) =>
                  zj1 (fun (s62 : Int32) =>
                    zg (zin r58 180) <|
                    zg (s62 &&& 1 = s62) <|
                    zn (upd g_now_55 r58.toNatClampNeg s62) fun (g65 : Nat → Int32) =>
                    zn (l4_54 + (1 : Int32)) fun (x66 : Int32) =>
                    again56 x66 g65) fun k67 =>
                  zj1 (fun (_ : Unit) =>
                    k67 (0 : Int32)) fun k68 =>
                  if r60 = 0 then (
                    k68 ()) else (
                    zb1 (f_M_canBeSaid v_rowMany g_ahead_28 g_row g_s l3_47 l4_54 l2_27) fun (r70 : Int32) =>
                    if r70 = 0 then (
                      k68 ()) else (
                      k67 (1 : Int32))))) zF (0 : Int32) g_now_48)) zF (0 : Int32) g_now_29)) zF x5 g_ahead g_now))
def f_M_row (v_rowMany : Int32) (g_refused : Nat → Int32) (g_row : Nat → Int32) (p1 : Int32) : Option (Int32 × Int32 × (Nat → Int32) × (Nat → Int32)) :=
  if 0 ≤ p1 then (
    zj1 (fun (_ : Unit) =>
      zb2 (f_M_no g_refused (-6 : Int32)) fun (r2 : Int32) (g_refused_3 : Nat → Int32) =>
      some (r2, v_rowMany, g_refused_3, g_row)) fun k5 =>
    if (9 : Int32) < p1 then (
      k5 ()) else (
      if v_rowMany = (20 : Int32) then (
        k5 ()) else (
        zg (zin v_rowMany 20) <|
        zn (upd g_row v_rowMany.toNatClampNeg p1) fun (g9 : Nat → Int32) =>
        zn (v_rowMany + (1 : Int32)) fun (x10 : Int32) =>
        some (x10, x10, g_refused, g9)))) else (
    zb2 (f_M_no g_refused (-4 : Int32)) fun (r11 : Int32) (g_refused_12 : Nat → Int32) =>
    some (r11, v_rowMany, g_refused_12, g_row))
def f_M_judge (v_rowMany : Int32) (g_refused : Nat → Int32) (g_row : Nat → Int32) (g_s : Nat → Int32) : Option (Int32 × Int32 × (Nat → Int32)) :=
  zb1 (f_M_areWays v_rowMany g_row) fun (r1 : Int32) =>
  if r1 = 0 then (
    zb2 (f_M_no g_refused (-3 : Int32)) fun (r6 : Int32) (g_refused_7 : Nat → Int32) =>
    some (r6, v_rowMany, g_refused_7)) else (
    zb1 (f_M_firstWrong v_rowMany g_row g_s) fun (r4 : Int32) =>
    some (r4, (0 : Int32), g_refused))
def f_M_clear (v_rowMany : Int32) : Option (Int32 × Int32) :=
  some (v_rowMany, (0 : Int32))
def f_M_drawn (v_seed : Int32) (p1 : Int32) : Option (Int32 × Int32) :=
  zn ((v_seed * (1664525 : Int32)) + (1013904223 : Int32)) fun (x1 : Int32) =>
  zg (¬ p1 = 0) <|
  some (zrem ((x1 &&& (2147483647 : Int32)) / (256 : Int32)) p1, x1)
def f_M_lots (v_seed : Int32) (g_refused : Nat → Int32) (g_s : Nat → Int32) (p1 : Int32) (p2 : Int32) (p3 : Int32) : Option (Int32 × Int32 × (Nat → Int32)) :=
  if (1 : Int32) ≤ p1 then (
    if p1 ≤ (20 : Int32) then (
      zb1 (f_M_isIn p3 (0 : Int32) (1 : Int32)) fun (r3 : Int32) =>
      if r3 = 0 then (
        zb2 (f_M_no g_refused (-2 : Int32)) fun (r57 : Int32) (g_refused_58 : Nat → Int32) =>
        some (r57, v_seed, g_refused_58)) else (
        zj3 (fun (l4_6 : Int32) (l5_7 : Int32) (v_seed_8 : Int32) =>
          if p3 = 0 then (
            some (l4_6, v_seed_8, g_refused)) else (
            some (l5_7, v_seed_8, g_refused))) fun k10 =>
        zl4 (fun (l4_11 : Int32) (l5_12 : Int32) (l6_13 : Int32) (v_seed_14 : Int32) again15 =>
          if p1 ≤ l6_13 then (
            k10 l4_11 l5_12 v_seed_14) else (
            zg (zin (36 : Int32) 39) <|
            zn (g_s (36 : Int32).toNatClampNeg) fun (x18 : Int32) =>
            zj4 (fun (l4_19 : Int32) (l5_20 : Int32) (l7_21 : Int32) (v_seed_22 : Int32) =>
              zb1 (f_M_wordsOn g_s l7_21) fun (r23 : Int32) =>
              zn (l4_19 + r23) fun (x25 : Int32) =>
              zn (l6_13 + (1 : Int32)) fun (x26 : Int32) =>
              again15 x25 l5_20 x26 v_seed_22) fun k27 =>
            zl6 (fun (l4_28 : Int32) (l5_29 : Int32) (l7_30 : Int32) (l8_31 : Int32) (l9_32 : Int32) (v_seed_33 : Int32) again34 =>
              if (20 : Int32) ≤ l9_32 then (
                k27 l4_28 l5_29 l7_30 v_seed_33) else (
                zb2 (f_M_drawn v_seed_33 (4 : Int32)) fun (r36 : Int32) (v_seed_37 : Int32) =>
                zb1 (f_M_gone g_s l7_30 r36) fun (r39 : Int32) =>
                zj4 (fun (l4_41 : Int32) (l5_42 : Int32) (l7_43 : Int32) (l8_44 : Int32) =>
                  zn (l9_32 + (1 : Int32)) fun (x45 : Int32) =>
                  again34 l4_41 l5_42 l7_43 l8_44 x45 v_seed_37) fun k46 =>
                if 0 ≤ r39 then (
                  zb1 (f_M_saidOn g_s l7_30 l8_31 r36) fun (r48 : Int32) =>
                  zn (l4_28 + r48) fun (x50 : Int32) =>
                  zb1 (f_M_isCorner g_s l7_30 l8_31 r36) fun (r51 : Int32) =>
                  zj1 (fun (s53 : Int32) =>
                    zn (l5_29 + s53) fun (x54 : Int32) =>
                    k46 x50 x54 r39 r36) fun k55 =>
                  if r51 = 0 then (
                    k55 (0 : Int32)) else (
                    k55 (1 : Int32))) else (
                  k46 l4_28 l5_29 l7_30 l8_31))) zF l4_11 l5_12 x18 (4 : Int32) (0 : Int32) v_seed_14)) zF (0 : Int32) (0 : Int32) (0 : Int32) p2)) else (
      zb2 (f_M_no g_refused (-6 : Int32)) fun (r60 : Int32) (g_refused_61 : Nat → Int32) =>
      some (r60, v_seed, g_refused_61))) else (
    zb2 (f_M_no g_refused (-4 : Int32)) fun (r63 : Int32) (g_refused_64 : Nat → Int32) =>
    some (r63, v_seed, g_refused_64))
def f_M_image (v_hasImage : Int32) (g_image : Nat → Int32) (g_s : Nat → Int32) : Option (Int32 × Int32 × (Nat → Int32)) :=
  zb1 (f_M_lays g_s g_image) fun (g_image_1 : Nat → Int32) =>
  zg (zin (36 : Int32) 39) <|
  some (g_s (36 : Int32).toNatClampNeg, (1 : Int32), g_image_1)
def f_M_on (v_hasImage : Int32) (g_image : Nat → Int32) (g_refused : Nat → Int32) (g_s : Nat → Int32) : Option (Int32 × (Nat → Int32) × (Nat → Int32)) :=
  if v_hasImage = 0 then (
    zb2 (f_M_no g_refused (-3 : Int32)) fun (r5 : Int32) (g_refused_6 : Nat → Int32) =>
    some (r5, g_refused_6, g_s)) else (
    zb1 (f_M_lays g_image g_s) fun (g_s_2 : Nat → Int32) =>
    zg (zin (36 : Int32) 39) <|
    some (g_s_2 (36 : Int32).toNatClampNeg, g_refused, g_s_2))
def f_M_manyOf (g_s : Nat → Int32) (p1 : Int32) : Option (Int32) :=
  zl2 (fun (l2_1 : Int32) (l3_2 : Int32) again3 =>
    if (36 : Int32) ≤ l3_2 then (
      some (l2_1)) else (
      zj1 (fun (s5 : Int32) =>
        zj1 (fun (s6 : Int32) =>
          zn (l2_1 + s6) fun (x7 : Int32) =>
          zn (l3_2 + (1 : Int32)) fun (x8 : Int32) =>
          again3 x7 x8) fun k9 =>
        if s5 = 0 then (
          k9 (0 : Int32)) else (
          k9 (1 : Int32))) fun k11 =>
      if p1 = (3 : Int32) then (
        zb1 (f_M_canBe g_s l3_2) fun (r21 : Int32) =>
        k11 r21) else (
        if p1 = (4 : Int32) then (
          zg (zin l3_2 39) <|
          zb1 (f_M_hears (g_s l3_2.toNatClampNeg)) fun (r18 : Int32) =>
          if r18 < 0 then (
            k11 (0 : Int32)) else (
            k11 (1 : Int32))) else (
          zb1 (f_M_isTurned g_s l3_2) fun (r14 : Int32) =>
          if r14 = 0 then (
            k11 (1 : Int32)) else (
            k11 (0 : Int32)))))) zF (0 : Int32) (0 : Int32)
def f_M_count (v_letterMany : Int32) (v_rowMany : Int32) (g_refused : Nat → Int32) (g_s : Nat → Int32) (p1 : Int32) : Option (Int32) :=
  zb1 (f_M_isIn p1 (11 : Int32) (16 : Int32)) fun (r1 : Int32) =>
  if r1 = 0 then (
    if p1 = (0 : Int32) then (
      zg (zin ((36 : Int32) + p1) 39) <|
      some (g_s ((36 : Int32) + p1).toNatClampNeg)) else (
    if p1 = (1 : Int32) then (
      zg (zin ((36 : Int32) + p1) 39) <|
      some (g_s ((36 : Int32) + p1).toNatClampNeg)) else (
    if p1 = (2 : Int32) then (
      zg (zin ((36 : Int32) + p1) 39) <|
      some (g_s ((36 : Int32) + p1).toNatClampNeg)) else (
    if p1 = (3 : Int32) then (
      zb1 (f_M_manyOf g_s p1) fun (r11 : Int32) =>
      some (r11)) else (
    if p1 = (4 : Int32) then (
      zb1 (f_M_manyOf g_s p1) fun (r14 : Int32) =>
      some (r14)) else (
    if p1 = (5 : Int32) then (
      zb1 (f_M_heardMany g_s) fun (r17 : Int32) =>
      some (r17)) else (
    if p1 = (6 : Int32) then (
      zb1 (f_M_manyOf g_s p1) fun (r20 : Int32) =>
      some (r20)) else (
    if p1 = (7 : Int32) then (
      some (v_rowMany)) else (
    if p1 = (8 : Int32) then (
      some (v_letterMany)) else (
      some ((-9 : Int32)))))))))))) else (
    zg (zin (p1 - (10 : Int32)) 7) <|
    some (g_refused (p1 - (10 : Int32)).toNatClampNeg))
