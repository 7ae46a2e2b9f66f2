def fX1_empty : Option (Int32 × Int32 × Int32) :=
  some (0, 3, 9)

def fX5_isWithin (p0 : Int32) (p1 : Int32) (p2 : Int32) : Option (Int32) :=
  if p0 < p1 then
    some 0
  else
    if p2 < p0 then
      some 0
    else
      some 1

def fX2_append (g_length : Int32) (g_bytes : Nat → Int32) (p1 : Int32) : Option (Int32 × Int32 × (Nat → Int32)) :=
  if g_length < 150 then
    xb_in g_length 150 <|
    xb_let (g_length + 1) fun g_3 =>
    some (1, g_3, (upd g_bytes (Int32.toNatClampNeg g_length) p1))
  else
    some (0, g_length, g_bytes)

def fX5_type (g_reader_length : Int32) (g_reader_bytes : Nat → Int32) (p1 : Int32) : Option (Int32 × Int32 × (Nat → Int32)) :=
  xb_b1 (fX5_isWithin p1 0 255) fun r_1 =>
  if r_1 = 0 then
    some ((-1), g_reader_length, g_reader_bytes)
  else
    xb_b3 (fX2_append g_reader_length g_reader_bytes p1) fun r_4 g_reader_length_5 g_reader_bytes_6 =>
    if r_4 = 0 then
      some ((-3), g_reader_length_5, g_reader_bytes_6)
    else
      some (g_reader_length_5, g_reader_length_5, g_reader_bytes_6)

def fX5_clear (g_reader_length : Int32) : Option (Int32 × Int32) :=
  some (g_reader_length, 0)

def fX2_begin_9 (g_plan_houses_1 : Int32) (g_plan_reach_2 : Int32) (g_plan_used_3 : Int32) : Nat → Int32 → (Nat → Int32) → Option (Int32 × Int32 × Int32 × Int32 × Int32 × Int32 × (Nat → Int32))
  | 0, _, _ => none
  | n + 1, v1_5, g_cells_6 =>
    if 43 ≤ v1_5 then
      some (0, 0, 0, g_plan_houses_1, g_plan_reach_2, g_plan_used_3, g_cells_6)
    else
      xb_in v1_5 43 <|
      (fX2_begin_9 g_plan_houses_1 g_plan_reach_2 g_plan_used_3 n) (v1_5 + 1) (upd g_cells_6 (Int32.toNatClampNeg v1_5) 0)
def fX2_begin (F : Nat) (g_cells : Nat → Int32) : Option (Int32 × Int32 × Int32 × Int32 × Int32 × Int32 × (Nat → Int32)) :=
  xb_b3 (fX1_empty) fun g_plan_houses_1 g_plan_reach_2 g_plan_used_3 =>
  fX2_begin_9 g_plan_houses_1 g_plan_reach_2 g_plan_used_3 F 0 g_cells

def fX2_toEndOf_0 (g_length : Int32) (g_bytes : Nat → Int32) (p1 : Int32) (p2 : Int32) : Nat → Int32 → Option (Int32)
  | 0, _ => none
  | n + 1, g_place_1 =>
    if g_length ≤ g_place_1 then
      some g_place_1
    else
      xb_in g_place_1 150 <|
      if (g_bytes (Int32.toNatClampNeg g_place_1)) < p1 then
        some g_place_1
      else
        xb_in g_place_1 150 <|
        if p2 < (g_bytes (Int32.toNatClampNeg g_place_1)) then
          some g_place_1
        else
          xb_let (g_place_1 + 1) fun g_7 =>
          (fX2_toEndOf_0 g_length g_bytes p1 p2 n) g_7
def fX2_toEndOf (F : Nat) (g_length : Int32) (g_place : Int32) (g_bytes : Nat → Int32) (p1 : Int32) (p2 : Int32) : Option (Int32) :=
  fX2_toEndOf_0 g_length g_bytes p1 p2 F g_place

def fX2_takeNumber_24 (g_value : Int32) : Option (Int32 × Int32) :=
  some (4, g_value)
def fX2_takeNumber_40 (g_place : Int32) (g_bytes : Nat → Int32) : Nat → Int32 → Int32 → Option (Int32 × Int32)
  | 0, _, _ => none
  | n + 1, v2_2, g_value_3 =>
    if g_place ≤ v2_2 then
      some (2, g_value_3)
    else
      xb_in v2_2 150 <|
      xb_let (((g_value_3 * 10) + (g_bytes (Int32.toNatClampNeg v2_2))) - 48) fun g_6 =>
      (fX2_takeNumber_40 g_place g_bytes n) (v2_2 + 1) g_6
def fX2_takeNumber_30 (g_place : Int32) (g_bytes : Nat → Int32) (F : Nat) (g_tokenAt : Int32) (g_value : Int32) : Option (Int32 × Int32) :=
  fX2_takeNumber_40 g_place g_bytes F g_tokenAt g_value
def fX2_takeNumber (F : Nat) (g_place : Int32) (g_tokenAt : Int32) (g_value : Int32) (g_bytes : Nat → Int32) (p1 : Int32) : Option (Int32 × Int32) :=
  if 2 < p1 then
    fX2_takeNumber_24 g_value
  else
    if p1 = 2 then
      xb_in g_tokenAt 150 <|
      if (g_bytes (Int32.toNatClampNeg g_tokenAt)) = 48 then
        fX2_takeNumber_24 g_value
      else
        fX2_takeNumber_30 g_place g_bytes F g_tokenAt g_value
    else
      fX2_takeNumber_30 g_place g_bytes F g_tokenAt g_value

def fX2_toToken_198 (g_place_1 : Int32) (s1_12 : Int32) : Option (Int32 × Int32 × Int32 × Int32) :=
  xb_let (g_place_1 + 1) fun g_13 =>
  some (g_13, g_place_1, s1_12, 0)
def fX2_toToken_129 (g_place_20 : Int32) (g_place_1 : Int32) (s1_22 : Int32) : Option (Int32 × Int32 × Int32 × Int32) :=
  some (g_place_20, g_place_1, 1, s1_22)
def fX2_toToken_38 (g_place_1 : Int32) (g_length : Int32) (g_bytes : Nat → Int32) (F : Nat) : Option (Int32 × Int32 × Int32 × Int32) :=
  if g_place_1 < g_length then
    xb_in g_place_1 150 <|
    xb_b1 (fX5_isWithin (g_bytes (Int32.toNatClampNeg g_place_1)) 97 122) fun r_4 =>
    if r_4 = 0 then
      xb_in g_place_1 150 <|
      xb_b1 (fX5_isWithin (g_bytes (Int32.toNatClampNeg g_place_1)) 48 57) fun r_8 =>
      if r_8 = 0 then
        xb_in g_place_1 150 <|
        if (g_bytes (Int32.toNatClampNeg g_place_1)) = 59 then
          fX2_toToken_198 g_place_1 3
        else
          fX2_toToken_198 g_place_1 4
      else
        xb_b1 (fX2_toEndOf F g_length g_place_1 g_bytes 48 57) fun g_place_15 =>
        xb_b2 (fX2_takeNumber F g_place_15 g_place_1 0 g_bytes (g_place_15 - g_place_1)) fun g_kind_17 g_value_18 =>
        some (g_place_15, g_place_1, g_kind_17, g_value_18)
    else
      xb_b1 (fX2_toEndOf F g_length g_place_1 g_bytes 97 122) fun g_place_20 =>
      if (g_place_20 - g_place_1) = 1 then
        xb_in g_place_1 150 <|
        fX2_toToken_129 g_place_20 g_place_1 (g_bytes (Int32.toNatClampNeg g_place_1))
      else
        fX2_toToken_129 g_place_20 g_place_1 0
  else
    some (g_place_1, g_place_1, 0, 0)
def fX2_toToken_0 (g_length : Int32) (g_bytes : Nat → Int32) (F : Nat) : Nat → Int32 → Option (Int32 × Int32 × Int32 × Int32)
  | 0, _ => none
  | n + 1, g_place_1 =>
    if g_length ≤ g_place_1 then
      fX2_toToken_38 g_place_1 g_length g_bytes F
    else
      xb_in g_place_1 150 <|
      if (g_bytes (Int32.toNatClampNeg g_place_1)) = 32 then
        xb_let (g_place_1 + 1) fun g_28 =>
        (fX2_toToken_0 g_length g_bytes F n) g_28
      else
        fX2_toToken_38 g_place_1 g_length g_bytes F
def fX2_toToken (F : Nat) (g_length : Int32) (g_place : Int32) (g_bytes : Nat → Int32) : Option (Int32 × Int32 × Int32 × Int32) :=
  fX2_toToken_0 g_length g_bytes F F g_place

def fX2_readNumbers_2 (p2 : Int32) (F : Nat) (g_length : Int32) (g_bytes : Nat → Int32) (p1 : Int32) : Nat → Int32 → Int32 → Int32 → Int32 → Int32 → (Nat → Int32) → Option (Int32 × Int32 × Int32 × Int32 × Int32 × (Nat → Int32))
  | 0, _, _, _, _, _, _ => none
  | n + 1, v3_1, g_place_2, g_tokenAt_3, g_kind_4, g_value_5, g_numbers_6 =>
    if p2 ≤ v3_1 then
      some (1, g_place_2, g_tokenAt_3, g_kind_4, g_value_5, g_numbers_6)
    else
      xb_b4 (fX2_toToken F g_length g_place_2 g_bytes) fun g_place_8 g_tokenAt_9 g_kind_10 g_value_11 =>
      if g_kind_10 = 2 then
        xb_in (p1 + v3_1) 5 <|
        xb_in (p1 + v3_1) 5 <|
        xb_b1 (fX5_isWithin g_value_11 (xb_least (Int32.toNatClampNeg (p1 + v3_1))) (xb_most (Int32.toNatClampNeg (p1 + v3_1)))) fun r_16 =>
        if r_16 = 0 then
          some (0, g_place_8, g_tokenAt_9, g_kind_10, g_value_11, g_numbers_6)
        else
          xb_in v3_1 4 <|
          (fX2_readNumbers_2 p2 F g_length g_bytes p1 n) (v3_1 + 1) g_place_8 g_tokenAt_9 g_kind_10 g_value_11 (upd g_numbers_6 (Int32.toNatClampNeg v3_1) g_value_11)
      else
        some (0, g_place_8, g_tokenAt_9, g_kind_10, g_value_11, g_numbers_6)
def fX2_readNumbers (F : Nat) (g_length : Int32) (g_place : Int32) (g_tokenAt : Int32) (g_kind : Int32) (g_value : Int32) (g_bytes : Nat → Int32) (g_numbers : Nat → Int32) (p1 : Int32) (p2 : Int32) : Option (Int32 × Int32 × Int32 × Int32 × Int32 × (Nat → Int32)) :=
  fX2_readNumbers_2 p2 F g_length g_bytes p1 F 0 g_place g_tokenAt g_kind g_value g_numbers

def fX3_put (g_o0 : Nat → Int32) (p1 : Int32) (p2 : Int32) (p3 : Int32) (p4 : Int32) : Option ((Nat → Int32)) :=
  xb_in 1 43 <|
  xb_let (g_o0 (Int32.toNatClampNeg 1)) fun v5_2 =>
  if v5_2 < 0 then
    some g_o0
  else
    if v5_2 < 7 then
      xb_in (2 + v5_2) 43 <|
      xb_in (9 + v5_2) 43 <|
      xb_in (16 + v5_2) 43 <|
      xb_in (23 + v5_2) 43 <|
      xb_in (30 + v5_2) 43 <|
      xb_let (v5_2 + 1) fun x_10 =>
      xb_in 1 43 <|
      some (upd (upd (upd (upd (upd (upd g_o0 (Int32.toNatClampNeg (2 + v5_2)) p1) (Int32.toNatClampNeg (9 + v5_2)) p2) (Int32.toNatClampNeg (16 + v5_2)) p3) (Int32.toNatClampNeg (23 + v5_2)) p4) (Int32.toNatClampNeg (30 + v5_2)) 0) (Int32.toNatClampNeg 1) x_10)
    else
      some g_o0

def fX2_readTree (F : Nat) (g_length : Int32) (g_place : Int32) (g_tokenAt : Int32) (g_kind : Int32) (g_value : Int32) (g_bytes : Nat → Int32) (g_cells : Nat → Int32) (g_numbers : Nat → Int32) : Option (Int32 × Int32 × Int32 × Int32 × Int32 × (Nat → Int32) × (Nat → Int32)) :=
  xb_in 1 43 <|
  if 7 ≤ (g_cells (Int32.toNatClampNeg 1)) then
    some (0, g_place, g_tokenAt, g_kind, g_value, g_cells, g_numbers)
  else
    xb_b6 (fX2_readNumbers F g_length g_place g_tokenAt g_kind g_value g_bytes g_numbers 0 4) fun r_3 g_place_4 g_tokenAt_5 g_kind_6 g_value_7 g_numbers_8 =>
    if r_3 = 0 then
      some (0, g_place_4, g_tokenAt_5, g_kind_6, g_value_7, g_cells, g_numbers_8)
    else
      xb_in 0 4 <|
      xb_in 1 4 <|
      xb_in 2 4 <|
      xb_in 3 4 <|
      xb_b1 (fX3_put g_cells (g_numbers_8 (Int32.toNatClampNeg 0)) (g_numbers_8 (Int32.toNatClampNeg 1)) (g_numbers_8 (Int32.toNatClampNeg 2)) (g_numbers_8 (Int32.toNatClampNeg 3))) fun g_cells_15 =>
      some (1, g_place_4, g_tokenAt_5, g_kind_6, g_value_7, g_cells_15, g_numbers_8)

def fX1_add (g_houses : Int32) (g_x : Nat → Int32) (g_y : Nat → Int32) (g_high : Nat → Int32) (p1 : Int32) (p2 : Int32) (p3 : Int32) : Option (Int32 × (Nat → Int32) × (Nat → Int32) × (Nat → Int32)) :=
  if g_houses < 6 then
    xb_in g_houses 6 <|
    xb_in g_houses 6 <|
    xb_in g_houses 6 <|
    xb_let (g_houses + 1) fun g_5 =>
    some (g_5, (upd g_x (Int32.toNatClampNeg g_houses) p1), (upd g_y (Int32.toNatClampNeg g_houses) p2), (upd g_high (Int32.toNatClampNeg g_houses) p3))
  else
    some (g_houses, g_x, g_y, g_high)

def fX2_readHouse (F : Nat) (g_length : Int32) (g_place : Int32) (g_tokenAt : Int32) (g_kind : Int32) (g_value : Int32) (g_bytes : Nat → Int32) (g_plan_houses : Int32) (g_plan_x : Nat → Int32) (g_plan_y : Nat → Int32) (g_plan_high : Nat → Int32) (g_numbers : Nat → Int32) : Option (Int32 × Int32 × Int32 × Int32 × Int32 × Int32 × (Nat → Int32) × (Nat → Int32) × (Nat → Int32) × (Nat → Int32)) :=
  if 6 ≤ g_plan_houses then
    some (0, g_place, g_tokenAt, g_kind, g_value, g_plan_houses, g_plan_x, g_plan_y, g_plan_high, g_numbers)
  else
    xb_b6 (fX2_readNumbers F g_length g_place g_tokenAt g_kind g_value g_bytes g_numbers 0 3) fun r_2 g_place_3 g_tokenAt_4 g_kind_5 g_value_6 g_numbers_7 =>
    if r_2 = 0 then
      some (0, g_place_3, g_tokenAt_4, g_kind_5, g_value_6, g_plan_houses, g_plan_x, g_plan_y, g_plan_high, g_numbers_7)
    else
      xb_in 0 4 <|
      xb_in 1 4 <|
      xb_in 2 4 <|
      xb_b4 (fX1_add g_plan_houses g_plan_x g_plan_y g_plan_high (g_numbers_7 (Int32.toNatClampNeg 0)) (g_numbers_7 (Int32.toNatClampNeg 1)) (g_numbers_7 (Int32.toNatClampNeg 2))) fun g_plan_houses_13 g_plan_x_14 g_plan_y_15 g_plan_high_16 =>
      some (1, g_place_3, g_tokenAt_4, g_kind_5, g_value_6, g_plan_houses_13, g_plan_x_14, g_plan_y_15, g_plan_high_16, g_numbers_7)

def fX2_readReach (F : Nat) (g_length : Int32) (g_reachTold : Int32) (g_place : Int32) (g_tokenAt : Int32) (g_kind : Int32) (g_value : Int32) (g_bytes : Nat → Int32) (g_plan_reach : Int32) (g_numbers : Nat → Int32) : Option (Int32 × Int32 × Int32 × Int32 × Int32 × Int32 × Int32 × (Nat → Int32)) :=
  if g_reachTold = 0 then
    xb_b6 (fX2_readNumbers F g_length g_place g_tokenAt g_kind g_value g_bytes g_numbers 4 1) fun r_2 g_place_3 g_tokenAt_4 g_kind_5 g_value_6 g_numbers_7 =>
    if r_2 = 0 then
      some (0, g_reachTold, g_place_3, g_tokenAt_4, g_kind_5, g_value_6, g_plan_reach, g_numbers_7)
    else
      xb_in 0 4 <|
      xb_let (g_numbers_7 (Int32.toNatClampNeg 0)) fun g_11 =>
      some (1, 1, g_place_3, g_tokenAt_4, g_kind_5, g_value_6, g_11, g_numbers_7)
  else
    some (0, g_reachTold, g_place, g_tokenAt, g_kind, g_value, g_plan_reach, g_numbers)

def fX2_readUsed (F : Nat) (g_length : Int32) (g_usedTold : Int32) (g_place : Int32) (g_tokenAt : Int32) (g_kind : Int32) (g_value : Int32) (g_bytes : Nat → Int32) (g_plan_used : Int32) (g_numbers : Nat → Int32) : Option (Int32 × Int32 × Int32 × Int32 × Int32 × Int32 × Int32 × (Nat → Int32)) :=
  if g_usedTold = 0 then
    xb_b6 (fX2_readNumbers F g_length g_place g_tokenAt g_kind g_value g_bytes g_numbers 4 1) fun r_2 g_place_3 g_tokenAt_4 g_kind_5 g_value_6 g_numbers_7 =>
    if r_2 = 0 then
      some (0, g_usedTold, g_place_3, g_tokenAt_4, g_kind_5, g_value_6, g_plan_used, g_numbers_7)
    else
      xb_in 0 4 <|
      xb_let (g_numbers_7 (Int32.toNatClampNeg 0)) fun g_11 =>
      some (1, 1, g_place_3, g_tokenAt_4, g_kind_5, g_value_6, g_11, g_numbers_7)
  else
    some (0, g_usedTold, g_place, g_tokenAt, g_kind, g_value, g_plan_used, g_numbers)

def fX2_readItem_90 (v1_2 : Int32) (g_reachTold_3 : Int32) (g_usedTold_4 : Int32) (g_place_5 : Int32) (g_tokenAt_6 : Int32) (g_kind_7 : Int32) (g_value_8 : Int32) (g_plan_houses_9 : Int32) (g_plan_reach_10 : Int32) (g_plan_used_11 : Int32) (g_plan_x_12 : Nat → Int32) (g_plan_y_13 : Nat → Int32) (g_plan_high_14 : Nat → Int32) (g_cells_15 : Nat → Int32) (g_numbers_16 : Nat → Int32) (F : Nat) (g_length : Int32) (g_bytes : Nat → Int32) : Option (Int32 × Int32 × Int32 × Int32 × Int32 × Int32 × Int32 × Int32 × Int32 × Int32 × (Nat → Int32) × (Nat → Int32) × (Nat → Int32) × (Nat → Int32) × (Nat → Int32)) :=
  if v1_2 = 0 then
    some (0, g_reachTold_3, g_usedTold_4, g_place_5, g_tokenAt_6, g_kind_7, g_value_8, g_plan_houses_9, g_plan_reach_10, g_plan_used_11, g_plan_x_12, g_plan_y_13, g_plan_high_14, g_cells_15, g_numbers_16)
  else
    xb_b4 (fX2_toToken F g_length g_place_5 g_bytes) fun g_place_18 g_tokenAt_19 g_kind_20 g_value_21 =>
    if g_kind_20 = 3 then
      some (1, g_reachTold_3, g_usedTold_4, g_place_18, g_tokenAt_19, g_kind_20, g_value_21, g_plan_houses_9, g_plan_reach_10, g_plan_used_11, g_plan_x_12, g_plan_y_13, g_plan_high_14, g_cells_15, g_numbers_16)
    else
      some (0, g_reachTold_3, g_usedTold_4, g_place_18, g_tokenAt_19, g_kind_20, g_value_21, g_plan_houses_9, g_plan_reach_10, g_plan_used_11, g_plan_x_12, g_plan_y_13, g_plan_high_14, g_cells_15, g_numbers_16)
def fX2_readItem (F : Nat) (g_length : Int32) (g_reachTold : Int32) (g_usedTold : Int32) (g_place : Int32) (g_tokenAt : Int32) (g_kind : Int32) (g_value : Int32) (g_bytes : Nat → Int32) (g_plan_houses : Int32) (g_plan_reach : Int32) (g_plan_used : Int32) (g_plan_x : Nat → Int32) (g_plan_y : Nat → Int32) (g_plan_high : Nat → Int32) (g_cells : Nat → Int32) (g_numbers : Nat → Int32) : Option (Int32 × Int32 × Int32 × Int32 × Int32 × Int32 × Int32 × Int32 × Int32 × Int32 × (Nat → Int32) × (Nat → Int32) × (Nat → Int32) × (Nat → Int32) × (Nat → Int32)) :=
  if g_kind = 1 then
    if g_value = 104 then
      xb_b10 (fX2_readHouse F g_length g_place g_tokenAt g_kind g_value g_bytes g_plan_houses g_plan_x g_plan_y g_plan_high g_numbers) fun r_24 g_place_25 g_tokenAt_26 g_kind_27 g_value_28 g_plan_houses_29 g_plan_x_30 g_plan_y_31 g_plan_high_32 g_numbers_33 =>
      fX2_readItem_90 r_24 g_reachTold g_usedTold g_place_25 g_tokenAt_26 g_kind_27 g_value_28 g_plan_houses_29 g_plan_reach g_plan_used g_plan_x_30 g_plan_y_31 g_plan_high_32 g_cells g_numbers_33 F g_length g_bytes
    else if g_value = 114 then
      xb_b8 (fX2_readReach F g_length g_reachTold g_place g_tokenAt g_kind g_value g_bytes g_plan_reach g_numbers) fun r_35 g_reachTold_36 g_place_37 g_tokenAt_38 g_kind_39 g_value_40 g_plan_reach_41 g_numbers_42 =>
      fX2_readItem_90 r_35 g_reachTold_36 g_usedTold g_place_37 g_tokenAt_38 g_kind_39 g_value_40 g_plan_houses g_plan_reach_41 g_plan_used g_plan_x g_plan_y g_plan_high g_cells g_numbers_42 F g_length g_bytes
    else if g_value = 116 then
      xb_b7 (fX2_readTree F g_length g_place g_tokenAt g_kind g_value g_bytes g_cells g_numbers) fun r_44 g_place_45 g_tokenAt_46 g_kind_47 g_value_48 g_cells_49 g_numbers_50 =>
      fX2_readItem_90 r_44 g_reachTold g_usedTold g_place_45 g_tokenAt_46 g_kind_47 g_value_48 g_plan_houses g_plan_reach g_plan_used g_plan_x g_plan_y g_plan_high g_cells_49 g_numbers_50 F g_length g_bytes
    else if g_value = 117 then
      xb_b8 (fX2_readUsed F g_length g_usedTold g_place g_tokenAt g_kind g_value g_bytes g_plan_used g_numbers) fun r_52 g_usedTold_53 g_place_54 g_tokenAt_55 g_kind_56 g_value_57 g_plan_used_58 g_numbers_59 =>
      fX2_readItem_90 r_52 g_reachTold g_usedTold_53 g_place_54 g_tokenAt_55 g_kind_56 g_value_57 g_plan_houses g_plan_reach g_plan_used_58 g_plan_x g_plan_y g_plan_high g_cells g_numbers_59 F g_length g_bytes
    else 
    fX2_readItem_90 0 g_reachTold g_usedTold g_place g_tokenAt g_kind g_value g_plan_houses g_plan_reach g_plan_used g_plan_x g_plan_y g_plan_high g_cells g_numbers F g_length g_bytes
  else
    some (0, g_reachTold, g_usedTold, g_place, g_tokenAt, g_kind, g_value, g_plan_houses, g_plan_reach, g_plan_used, g_plan_x, g_plan_y, g_plan_high, g_cells, g_numbers)

def fX2_read_6 (g_length : Int32) (F : Nat) (g_bytes : Nat → Int32) : Nat → Int32 → Int32 → Int32 → Int32 → Int32 → Int32 → Int32 → Int32 → Int32 → Int32 → (Nat → Int32) → (Nat → Int32) → (Nat → Int32) → (Nat → Int32) → (Nat → Int32) → Option (Int32 × Int32 × Int32 × Int32 × Int32 × Int32 × Int32 × Int32 × Int32 × Int32 × (Nat → Int32) × (Nat → Int32) × (Nat → Int32) × (Nat → Int32) × (Nat → Int32))
  | 0, _, _, _, _, _, _, _, _, _, _, _, _, _, _, _ => none
  | n + 1, v1_9, g_reachTold_10, g_usedTold_11, g_place_12, g_tokenAt_13, g_kind_14, g_value_15, g_plan_houses_16, g_plan_reach_17, g_plan_used_18, g_plan_x_19, g_plan_y_20, g_plan_high_21, g_cells_22, g_numbers_23 =>
    if 150 ≤ v1_9 then
      some (((-10) - g_length), g_reachTold_10, g_usedTold_11, g_place_12, g_tokenAt_13, g_kind_14, g_value_15, g_plan_houses_16, g_plan_reach_17, g_plan_used_18, g_plan_x_19, g_plan_y_20, g_plan_high_21, g_cells_22, g_numbers_23)
    else
      xb_b4 (fX2_toToken F g_length g_place_12 g_bytes) fun g_place_25 g_tokenAt_26 g_kind_27 g_value_28 =>
      if g_kind_27 = 0 then
        some (v1_9, g_reachTold_10, g_usedTold_11, g_place_25, g_tokenAt_26, g_kind_27, g_value_28, g_plan_houses_16, g_plan_reach_17, g_plan_used_18, g_plan_x_19, g_plan_y_20, g_plan_high_21, g_cells_22, g_numbers_23)
      else
        xb_b15 (fX2_readItem F g_length g_reachTold_10 g_usedTold_11 g_place_25 g_tokenAt_26 g_kind_27 g_value_28 g_bytes g_plan_houses_16 g_plan_reach_17 g_plan_used_18 g_plan_x_19 g_plan_y_20 g_plan_high_21 g_cells_22 g_numbers_23) fun r_31 g_reachTold_32 g_usedTold_33 g_place_34 g_tokenAt_35 g_kind_36 g_value_37 g_plan_houses_38 g_plan_reach_39 g_plan_used_40 g_plan_x_41 g_plan_y_42 g_plan_high_43 g_cells_44 g_numbers_45 =>
        if r_31 = 0 then
          some (((-10) - g_tokenAt_35), g_reachTold_32, g_usedTold_33, g_place_34, g_tokenAt_35, g_kind_36, g_value_37, g_plan_houses_38, g_plan_reach_39, g_plan_used_40, g_plan_x_41, g_plan_y_42, g_plan_high_43, g_cells_44, g_numbers_45)
        else
          (fX2_read_6 g_length F g_bytes n) (v1_9 + 1) g_reachTold_32 g_usedTold_33 g_place_34 g_tokenAt_35 g_kind_36 g_value_37 g_plan_houses_38 g_plan_reach_39 g_plan_used_40 g_plan_x_41 g_plan_y_42 g_plan_high_43 g_cells_44 g_numbers_45
def fX2_read (F : Nat) (g_length : Int32) (g_tokenAt : Int32) (g_kind : Int32) (g_value : Int32) (g_bytes : Nat → Int32) (g_plan_x : Nat → Int32) (g_plan_y : Nat → Int32) (g_plan_high : Nat → Int32) (g_cells : Nat → Int32) (g_numbers : Nat → Int32) : Option (Int32 × Int32 × Int32 × Int32 × Int32 × Int32 × Int32 × Int32 × Int32 × Int32 × (Nat → Int32) × (Nat → Int32) × (Nat → Int32) × (Nat → Int32) × (Nat → Int32)) :=
  xb_b7 (fX2_begin F g_cells) fun g_reachTold_1 g_usedTold_2 g_place_3 g_plan_houses_4 g_plan_reach_5 g_plan_used_6 g_cells_7 =>
  fX2_read_6 g_length F g_bytes F 0 g_reachTold_1 g_usedTold_2 g_place_3 g_tokenAt g_kind g_value g_plan_houses_4 g_plan_reach_5 g_plan_used_6 g_plan_x g_plan_y g_plan_high g_cells_7 g_numbers

def fX1_become (g_x : Nat → Int32) (g_y : Nat → Int32) (g_high : Nat → Int32) (g_o1_houses : Int32) (g_o1_reach : Int32) (g_o1_used : Int32) (g_o1_x : Nat → Int32) (g_o1_y : Nat → Int32) (g_o1_high : Nat → Int32) : Option (Int32 × Int32 × Int32 × (Nat → Int32) × (Nat → Int32) × (Nat → Int32)) :=
  xb_cp 0 0 6 6 6 <|
  xb_cp 0 0 6 6 6 <|
  xb_cp 0 0 6 6 6 <|
  some (g_o1_houses, g_o1_reach, g_o1_used, (va_cpy g_o1_x g_x (Int32.toNatClampNeg 0) (Int32.toNatClampNeg 0) (Int32.toNatClampNeg 6)), (va_cpy g_o1_y g_y (Int32.toNatClampNeg 0) (Int32.toNatClampNeg 0) (Int32.toNatClampNeg 6)), (va_cpy g_o1_high g_high (Int32.toNatClampNeg 0) (Int32.toNatClampNeg 0) (Int32.toNatClampNeg 6)))

def fX3_begin (g_cells : Nat → Int32) (g_o1 : Nat → Int32) : Option (Int32 × Int32 × (Nat → Int32)) :=
  xb_cp 0 0 43 43 43 <|
  some (0, 0, (va_cpy g_o1 g_cells (Int32.toNatClampNeg 0) (Int32.toNatClampNeg 0) (Int32.toNatClampNeg 43)))

def fX5_field_44 (r_1 : Int32) (g_reader_reachTold_2 : Int32) (g_reader_usedTold_3 : Int32) (g_reader_place_4 : Int32) (g_reader_tokenAt_5 : Int32) (g_reader_kind_6 : Int32) (g_reader_value_7 : Int32) (g_reader_plan_houses_8 : Int32) (g_reader_plan_reach_9 : Int32) (g_reader_plan_used_10 : Int32) (g_reader_plan_x_11 : Nat → Int32) (g_reader_plan_y_12 : Nat → Int32) (g_reader_plan_high_13 : Nat → Int32) (g_reader_cells_14 : Nat → Int32) (g_reader_numbers_15 : Nat → Int32) (g_plan_houses_18 : Int32) (g_plan_reach_19 : Int32) (g_plan_used_20 : Int32) (g_plan_x_21 : Nat → Int32) (g_plan_y_22 : Nat → Int32) (g_plan_high_23 : Nat → Int32) (g_scene_known_25 : Int32) (g_scene_next_26 : Int32) (g_scene_cells_27 : Nat → Int32) : Nat → Int32 → (Nat → Int32) → Option (Int32 × Int32 × Int32 × Int32 × Int32 × Int32 × Int32 × Int32 × Int32 × Int32 × Int32 × Int32 × (Nat → Int32) × (Nat → Int32) × (Nat → Int32) × (Nat → Int32) × (Nat → Int32) × Int32 × Int32 × Int32 × (Nat → Int32) × (Nat → Int32) × (Nat → Int32) × Int32 × Int32 × (Nat → Int32) × (Nat → Int32))
  | 0, _, _ => none
  | n + 1, v2_29, g_kept_30 =>
    if 2 ≤ v2_29 then
      some (r_1, (-9), 0, g_reader_reachTold_2, g_reader_usedTold_3, g_reader_place_4, g_reader_tokenAt_5, g_reader_kind_6, g_reader_value_7, g_reader_plan_houses_8, g_reader_plan_reach_9, g_reader_plan_used_10, g_reader_plan_x_11, g_reader_plan_y_12, g_reader_plan_high_13, g_reader_cells_14, g_reader_numbers_15, g_plan_houses_18, g_plan_reach_19, g_plan_used_20, g_plan_x_21, g_plan_y_22, g_plan_high_23, g_scene_known_25, g_scene_next_26, g_scene_cells_27, g_kept_30)
    else
      xb_in v2_29 2 <|
      (fX5_field_44 r_1 g_reader_reachTold_2 g_reader_usedTold_3 g_reader_place_4 g_reader_tokenAt_5 g_reader_kind_6 g_reader_value_7 g_reader_plan_houses_8 g_reader_plan_reach_9 g_reader_plan_used_10 g_reader_plan_x_11 g_reader_plan_y_12 g_reader_plan_high_13 g_reader_cells_14 g_reader_numbers_15 g_plan_houses_18 g_plan_reach_19 g_plan_used_20 g_plan_x_21 g_plan_y_22 g_plan_high_23 g_scene_known_25 g_scene_next_26 g_scene_cells_27 n) (v2_29 + 1) (upd g_kept_30 (Int32.toNatClampNeg v2_29) 0)
def fX5_field (F : Nat) (g_seen : Int32) (g_reader_length : Int32) (g_reader_tokenAt : Int32) (g_reader_kind : Int32) (g_reader_value : Int32) (g_reader_bytes : Nat → Int32) (g_reader_plan_x : Nat → Int32) (g_reader_plan_y : Nat → Int32) (g_reader_plan_high : Nat → Int32) (g_reader_cells : Nat → Int32) (g_reader_numbers : Nat → Int32) (g_plan_houses : Int32) (g_plan_reach : Int32) (g_plan_used : Int32) (g_plan_x : Nat → Int32) (g_plan_y : Nat → Int32) (g_plan_high : Nat → Int32) (g_scene_known : Int32) (g_scene_next : Int32) (g_scene_cells : Nat → Int32) (g_kept : Nat → Int32) : Option (Int32 × Int32 × Int32 × Int32 × Int32 × Int32 × Int32 × Int32 × Int32 × Int32 × Int32 × Int32 × (Nat → Int32) × (Nat → Int32) × (Nat → Int32) × (Nat → Int32) × (Nat → Int32) × Int32 × Int32 × Int32 × (Nat → Int32) × (Nat → Int32) × (Nat → Int32) × Int32 × Int32 × (Nat → Int32) × (Nat → Int32)) :=
  xb_b15 (fX2_read F g_reader_length g_reader_tokenAt g_reader_kind g_reader_value g_reader_bytes g_reader_plan_x g_reader_plan_y g_reader_plan_high g_reader_cells g_reader_numbers) fun r_1 g_reader_reachTold_2 g_reader_usedTold_3 g_reader_place_4 g_reader_tokenAt_5 g_reader_kind_6 g_reader_value_7 g_reader_plan_houses_8 g_reader_plan_reach_9 g_reader_plan_used_10 g_reader_plan_x_11 g_reader_plan_y_12 g_reader_plan_high_13 g_reader_cells_14 g_reader_numbers_15 =>
  if 0 ≤ r_1 then
    xb_b6 (fX1_become g_plan_x g_plan_y g_plan_high g_reader_plan_houses_8 g_reader_plan_reach_9 g_reader_plan_used_10 g_reader_plan_x_11 g_reader_plan_y_12 g_reader_plan_high_13) fun g_plan_houses_18 g_plan_reach_19 g_plan_used_20 g_plan_x_21 g_plan_y_22 g_plan_high_23 =>
    xb_b3 (fX3_begin g_scene_cells g_reader_cells_14) fun g_scene_known_25 g_scene_next_26 g_scene_cells_27 =>
    fX5_field_44 r_1 g_reader_reachTold_2 g_reader_usedTold_3 g_reader_place_4 g_reader_tokenAt_5 g_reader_kind_6 g_reader_value_7 g_reader_plan_houses_8 g_reader_plan_reach_9 g_reader_plan_used_10 g_reader_plan_x_11 g_reader_plan_y_12 g_reader_plan_high_13 g_reader_cells_14 g_reader_numbers_15 g_plan_houses_18 g_plan_reach_19 g_plan_used_20 g_plan_x_21 g_plan_y_22 g_plan_high_23 g_scene_known_25 g_scene_next_26 g_scene_cells_27 F 0 g_kept
  else
    some (r_1, g_seen, g_reader_length, g_reader_reachTold_2, g_reader_usedTold_3, g_reader_place_4, g_reader_tokenAt_5, g_reader_kind_6, g_reader_value_7, g_reader_plan_houses_8, g_reader_plan_reach_9, g_reader_plan_used_10, g_reader_plan_x_11, g_reader_plan_y_12, g_reader_plan_high_13, g_reader_cells_14, g_reader_numbers_15, g_plan_houses, g_plan_reach, g_plan_used, g_plan_x, g_plan_y, g_plan_high, g_scene_known, g_scene_next, g_scene_cells, g_kept)

def fX3_trees (g_cells : Nat → Int32) : Option (Int32) :=
  xb_in 1 43 <|
  some (g_cells (Int32.toNatClampNeg 1))

def fX5_isTree (g_scene_cells : Nat → Int32) (p1 : Int32) : Option (Int32) :=
  if p1 < 0 then
    some 0
  else
    xb_b1 (fX3_trees g_scene_cells) fun r_2 =>
    if r_2 ≤ p1 then
      some 0
    else
      some 1

def fX3_x (g_cells : Nat → Int32) (p1 : Int32) : Option (Int32) :=
  xb_in (2 + p1) 43 <|
  some (g_cells (Int32.toNatClampNeg (2 + p1)))

def fX3_y (g_cells : Nat → Int32) (p1 : Int32) : Option (Int32) :=
  xb_in (9 + p1) 43 <|
  some (g_cells (Int32.toNatClampNeg (9 + p1)))

def fX3_high (g_cells : Nat → Int32) (p1 : Int32) : Option (Int32) :=
  xb_in (16 + p1) 43 <|
  some (g_cells (Int32.toNatClampNeg (16 + p1)))

def fX3_grows (g_cells : Nat → Int32) (p1 : Int32) : Option (Int32) :=
  xb_in (23 + p1) 43 <|
  some (g_cells (Int32.toNatClampNeg (23 + p1)))

def fX3_used (g_cells : Nat → Int32) (p1 : Int32) : Option (Int32) :=
  xb_in (30 + p1) 43 <|
  some (g_cells (Int32.toNatClampNeg (30 + p1)))

def fX3_standing (g_cells : Nat → Int32) (p1 : Int32) (p2 : Int32) : Option (Int32) :=
  xb_b1 (fX3_used g_cells p1) fun r_1 =>
  xb_let (p2 - r_1) fun v3_3 =>
  if 0 ≤ v3_3 then
    xb_b1 (fX3_high g_cells p1) fun r_5 =>
    xb_b1 (fX3_grows g_cells p1) fun r_7 =>
    some (if (r_5 + (v3_3 * r_7)) < 99 then (r_5 + (v3_3 * r_7)) else 99)
  else
    some 0

def fX1_reaches (g_reach : Int32) (g_x : Nat → Int32) (g_y : Nat → Int32) (p1 : Int32) (p2 : Int32) (p3 : Int32) : Option (Int32) :=
  xb_in p3 6 <|
  xb_let (p1 - (g_x (Int32.toNatClampNeg p3))) fun v4_2 =>
  xb_in p3 6 <|
  xb_let (p2 - (g_y (Int32.toNatClampNeg p3))) fun v5_4 =>
  if (g_reach * g_reach) < ((v4_2 * v4_2) + (v5_4 * v5_4)) then
    some 0
  else
    some 1

def fX1_below_46 (k_6 : (Int32 → Int32 → Option (Int32))) (v5_1 : Int32) (v4_5 : Int32) : Option (Int32) :=
  k_6 (v5_1 + 1) v4_5
def fX1_below_6 (g_houses : Int32) (p3 : Int32) (g_high : Nat → Int32) (g_reach : Int32) (g_x : Nat → Int32) (g_y : Nat → Int32) (p1 : Int32) (p2 : Int32) : Nat → Int32 → Int32 → Option (Int32)
  | 0, _, _ => none
  | n + 1, v5_1, v4_2 =>
    if g_houses ≤ v5_1 then
      some v4_2
    else
      xb_in v5_1 6 <|
      if p3 ≤ (g_high (Int32.toNatClampNeg v5_1)) then
        fX1_below_46 (fX1_below_6 g_houses p3 g_high g_reach g_x g_y p1 p2 n) v5_1 v4_2
      else
        xb_b1 (fX1_reaches g_reach g_x g_y p1 p2 v5_1) fun r_7 =>
        if r_7 = 0 then
          fX1_below_46 (fX1_below_6 g_houses p3 g_high g_reach g_x g_y p1 p2 n) v5_1 v4_2
        else
          xb_let (v4_2 ||| (1 <<< (v5_1 &&& 31))) fun v4_10 =>
          fX1_below_46 (fX1_below_6 g_houses p3 g_high g_reach g_x g_y p1 p2 n) v5_1 v4_10
def fX1_below (F : Nat) (g_houses : Int32) (g_reach : Int32) (g_x : Nat → Int32) (g_y : Nat → Int32) (g_high : Nat → Int32) (p1 : Int32) (p2 : Int32) (p3 : Int32) : Option (Int32) :=
  fX1_below_6 g_houses p3 g_high g_reach g_x g_y p1 p2 F 0 0

def fX0_under (F : Nat) (g_plan_houses : Int32) (g_plan_reach : Int32) (g_plan_x : Nat → Int32) (g_plan_y : Nat → Int32) (g_plan_high : Nat → Int32) (g_scene_cells : Nat → Int32) (p1 : Int32) (p2 : Int32) : Option (Int32) :=
  xb_b1 (fX3_x g_scene_cells p1) fun r_1 =>
  xb_b1 (fX3_y g_scene_cells p1) fun r_3 =>
  xb_b1 (fX3_standing g_scene_cells p1 p2) fun r_5 =>
  xb_b1 (fX1_below F g_plan_houses g_plan_reach g_plan_x g_plan_y g_plan_high r_1 r_3 r_5) fun r_7 =>
  some r_7

def fX5_tree (F : Nat) (g_plan_houses : Int32) (g_plan_reach : Int32) (g_plan_x : Nat → Int32) (g_plan_y : Nat → Int32) (g_plan_high : Nat → Int32) (g_scene_cells : Nat → Int32) (p1 : Int32) (p2 : Int32) : Option (Int32) :=
  xb_b1 (fX5_isTree g_scene_cells p1) fun r_1 =>
  if r_1 = 0 then
    some (-1)
  else
    if p2 = 0 then
      xb_b1 (fX3_x g_scene_cells p1) fun r_4 =>
      some r_4
    else if p2 = 1 then
      xb_b1 (fX3_y g_scene_cells p1) fun r_6 =>
      some r_6
    else if p2 = 2 then
      xb_b1 (fX3_high g_scene_cells p1) fun r_8 =>
      some r_8
    else if p2 = 3 then
      xb_b1 (fX3_grows g_scene_cells p1) fun r_10 =>
      some r_10
    else if p2 = 4 then
      xb_b1 (fX3_used g_scene_cells p1) fun r_12 =>
      some r_12
    else if p2 = 5 then
      xb_b1 (fX0_under F g_plan_houses g_plan_reach g_plan_x g_plan_y g_plan_high g_scene_cells p1 0) fun r_14 =>
      some r_14
    else 
    some (-1)

def fX5_isHouse (g_plan_houses : Int32) (p1 : Int32) : Option (Int32) :=
  if p1 < 0 then
    some 0
  else
    if g_plan_houses ≤ p1 then
      some 0
    else
      some 1

def fX3_struck (g_cells : Nat → Int32) (p1 : Int32) : Option (Int32) :=
  xb_in (37 + p1) 43 <|
  some (g_cells (Int32.toNatClampNeg (37 + p1)))

def fX0_covers (g_plan_reach : Int32) (g_plan_x : Nat → Int32) (g_plan_y : Nat → Int32) (g_plan_high : Nat → Int32) (g_scene_cells : Nat → Int32) (p1 : Int32) (p2 : Int32) : Option (Int32) :=
  xb_b1 (fX3_standing g_scene_cells p1 0) fun r_1 =>
  xb_in p2 6 <|
  if r_1 ≤ (g_plan_high (Int32.toNatClampNeg p2)) then
    some 0
  else
    xb_b1 (fX3_x g_scene_cells p1) fun r_5 =>
    xb_b1 (fX3_y g_scene_cells p1) fun r_7 =>
    xb_b1 (fX1_reaches g_plan_reach g_plan_x g_plan_y r_5 r_7 p2) fun r_9 =>
    if r_9 = 0 then
      some 0
    else
      some 1

def fX0_over_30 (k_4 : (Int32 → Int32 → Option (Int32))) (v3_1 : Int32) (v2_8 : Int32) : Option (Int32) :=
  k_4 (v3_1 + 1) v2_8
def fX0_over_4 (g_scene_cells : Nat → Int32) (g_plan_reach : Int32) (g_plan_x : Nat → Int32) (g_plan_y : Nat → Int32) (g_plan_high : Nat → Int32) (p1 : Int32) : Nat → Int32 → Int32 → Option (Int32)
  | 0, _, _ => none
  | n + 1, v3_1, v2_2 =>
    xb_b1 (fX3_trees g_scene_cells) fun r_3 =>
    if r_3 ≤ v3_1 then
      some v2_2
    else
      xb_b1 (fX0_covers g_plan_reach g_plan_x g_plan_y g_plan_high g_scene_cells v3_1 p1) fun r_6 =>
      if r_6 = 0 then
        fX0_over_30 (fX0_over_4 g_scene_cells g_plan_reach g_plan_x g_plan_y g_plan_high p1 n) v3_1 v2_2
      else
        xb_let (v2_2 ||| (1 <<< (v3_1 &&& 31))) fun v2_10 =>
        fX0_over_30 (fX0_over_4 g_scene_cells g_plan_reach g_plan_x g_plan_y g_plan_high p1 n) v3_1 v2_10
def fX0_over (F : Nat) (g_plan_reach : Int32) (g_plan_x : Nat → Int32) (g_plan_y : Nat → Int32) (g_plan_high : Nat → Int32) (g_scene_cells : Nat → Int32) (p1 : Int32) : Option (Int32) :=
  fX0_over_4 g_scene_cells g_plan_reach g_plan_x g_plan_y g_plan_high p1 F 0 0

def fJ6_bitCount_0f7a4 (p0 : Int32) : Option (Int32) :=
  xb_let (p0 - ((((Int32.toUInt32 p0) >>> ((Int32.toUInt32 1) &&& Int32.toUInt32 31)).toInt32) &&& 1431655765)) fun v0_1 =>
  xb_let ((v0_1 &&& 858993459) + ((((Int32.toUInt32 v0_1) >>> ((Int32.toUInt32 2) &&& Int32.toUInt32 31)).toInt32) &&& 858993459)) fun v0_2 =>
  xb_let ((v0_2 + (((Int32.toUInt32 v0_2) >>> ((Int32.toUInt32 4) &&& Int32.toUInt32 31)).toInt32)) &&& 252645135) fun v0_3 =>
  xb_let (v0_3 + (((Int32.toUInt32 v0_3) >>> ((Int32.toUInt32 8) &&& Int32.toUInt32 31)).toInt32)) fun v0_4 =>
  xb_let (v0_4 + (((Int32.toUInt32 v0_4) >>> ((Int32.toUInt32 16) &&& Int32.toUInt32 31)).toInt32)) fun v0_5 =>
  some (v0_5 &&& 63)

def fX0_premium (F : Nat) (g_plan_reach : Int32) (g_plan_x : Nat → Int32) (g_plan_y : Nat → Int32) (g_plan_high : Nat → Int32) (g_scene_cells : Nat → Int32) (p1 : Int32) : Option (Int32) :=
  xb_in p1 6 <|
  xb_b1 (fX0_over F g_plan_reach g_plan_x g_plan_y g_plan_high g_scene_cells p1) fun r_2 =>
  xb_b1 (fJ6_bitCount_0f7a4 r_2) fun r_4 =>
  some (if 1 < (((g_plan_high (Int32.toNatClampNeg p1)) + 30) - (10 * r_4)) then (((g_plan_high (Int32.toNatClampNeg p1)) + 30) - (10 * r_4)) else 1)

def fX5_house (F : Nat) (g_plan_houses : Int32) (g_plan_reach : Int32) (g_plan_x : Nat → Int32) (g_plan_y : Nat → Int32) (g_plan_high : Nat → Int32) (g_scene_cells : Nat → Int32) (p1 : Int32) (p2 : Int32) : Option (Int32) :=
  xb_b1 (fX5_isHouse g_plan_houses p1) fun r_1 =>
  if r_1 = 0 then
    some (-1)
  else
    if p2 = 0 then
      xb_in p1 6 <|
      some (g_plan_x (Int32.toNatClampNeg p1))
    else if p2 = 1 then
      xb_in p1 6 <|
      some (g_plan_y (Int32.toNatClampNeg p1))
    else if p2 = 2 then
      xb_in p1 6 <|
      some (g_plan_high (Int32.toNatClampNeg p1))
    else if p2 = 3 then
      xb_b1 (fX3_struck g_scene_cells p1) fun r_7 =>
      some r_7
    else if p2 = 4 then
      xb_b1 (fX0_over F g_plan_reach g_plan_x g_plan_y g_plan_high g_scene_cells p1) fun r_9 =>
      some r_9
    else if p2 = 5 then
      xb_b1 (fX0_premium F g_plan_reach g_plan_x g_plan_y g_plan_high g_scene_cells p1) fun r_11 =>
      some r_11
    else 
    some (-1)

def fX3_remember (g_known : Int32) (g_next : Int32) (g_cells : Nat → Int32) (g_past : Nat → Int32) : Option (Int32 × Int32 × (Nat → Int32)) :=
  xb_cp 0 (g_next * 43) 43 43 430 <|
  xb_let ((g_next + 1) - (g_next + 1) / 10 * 10) fun g_2 =>
  xb_let (if (g_known + 1) < 10 then (g_known + 1) else 10) fun g_3 =>
  some (g_3, g_2, (va_cpy g_cells g_past (Int32.toNatClampNeg 0) (Int32.toNatClampNeg (g_next * 43)) (Int32.toNatClampNeg 43)))

def fX3_pass_59 (k_2 : (Int32 → (Nat → Int32) → Option ((Nat → Int32)))) (v1_1 : Int32) (g_cells_11 : Nat → Int32) : Option ((Nat → Int32)) :=
  k_2 (v1_1 + 1) g_cells_11
def fX3_pass_2 : Nat → Int32 → (Nat → Int32) → Option ((Nat → Int32))
  | 0, _, _ => none
  | n + 1, v1_1, g_cells_2 =>
    xb_b1 (fX3_trees g_cells_2) fun r_3 =>
    if r_3 ≤ v1_1 then
      xb_in 0 43 <|
      xb_let ((g_cells_2 (Int32.toNatClampNeg 0)) + 1) fun x_7 =>
      xb_in 0 43 <|
      some (upd g_cells_2 (Int32.toNatClampNeg 0) x_7)
    else
      xb_b1 (fX3_used g_cells_2 v1_1) fun r_9 =>
      if r_9 ≤ 0 then
        xb_b1 (fX3_high g_cells_2 v1_1) fun r_13 =>
        xb_b1 (fX3_grows g_cells_2 v1_1) fun r_15 =>
        xb_let (if (r_13 + r_15) < 99 then (r_13 + r_15) else 99) fun x_17 =>
        xb_in (16 + v1_1) 43 <|
        fX3_pass_59 (fX3_pass_2 n) v1_1 (upd g_cells_2 (Int32.toNatClampNeg (16 + v1_1)) x_17)
      else
        xb_in (30 + v1_1) 43 <|
        xb_let ((g_cells_2 (Int32.toNatClampNeg (30 + v1_1))) - 1) fun x_20 =>
        xb_in (30 + v1_1) 43 <|
        fX3_pass_59 (fX3_pass_2 n) v1_1 (upd g_cells_2 (Int32.toNatClampNeg (30 + v1_1)) x_20)
def fX3_pass (F : Nat) (g_cells : Nat → Int32) : Option ((Nat → Int32)) :=
  fX3_pass_2 F 0 g_cells

def fX0_coveredBut_33 (k_5 : (Int32 → Int32 → Option (Int32))) (v4_1 : Int32) (v3_6 : Int32) : Option (Int32) :=
  k_5 (v4_1 + 1) v3_6
def fX0_coveredBut_5 (g_scene_cells : Nat → Int32) (p1 : Int32) (F : Nat) (g_plan_houses : Int32) (g_plan_reach : Int32) (g_plan_x : Nat → Int32) (g_plan_y : Nat → Int32) (g_plan_high : Nat → Int32) (p2 : Int32) : Nat → Int32 → Int32 → Option (Int32)
  | 0, _, _ => none
  | n + 1, v4_1, v3_2 =>
    xb_b1 (fX3_trees g_scene_cells) fun r_3 =>
    if r_3 ≤ v4_1 then
      some v3_2
    else
      if v4_1 = p1 then
        fX0_coveredBut_33 (fX0_coveredBut_5 g_scene_cells p1 F g_plan_houses g_plan_reach g_plan_x g_plan_y g_plan_high p2 n) v4_1 v3_2
      else
        xb_b1 (fX0_under F g_plan_houses g_plan_reach g_plan_x g_plan_y g_plan_high g_scene_cells v4_1 p2) fun r_8 =>
        xb_let (v3_2 ||| r_8) fun v3_10 =>
        fX0_coveredBut_33 (fX0_coveredBut_5 g_scene_cells p1 F g_plan_houses g_plan_reach g_plan_x g_plan_y g_plan_high p2 n) v4_1 v3_10
def fX0_coveredBut (F : Nat) (g_plan_houses : Int32) (g_plan_reach : Int32) (g_plan_x : Nat → Int32) (g_plan_y : Nat → Int32) (g_plan_high : Nat → Int32) (g_scene_cells : Nat → Int32) (p1 : Int32) (p2 : Int32) : Option (Int32) :=
  fX0_coveredBut_5 g_scene_cells p1 F g_plan_houses g_plan_reach g_plan_x g_plan_y g_plan_high p2 F 0 0

def fX0_covered (F : Nat) (g_plan_houses : Int32) (g_plan_reach : Int32) (g_plan_x : Nat → Int32) (g_plan_y : Nat → Int32) (g_plan_high : Nat → Int32) (g_scene_cells : Nat → Int32) (p1 : Int32) : Option (Int32) :=
  xb_b1 (fX0_coveredBut F g_plan_houses g_plan_reach g_plan_x g_plan_y g_plan_high g_scene_cells (-1) p1) fun r_1 =>
  some r_1

def fX5_year (F : Nat) (g_plan_houses : Int32) (g_plan_reach : Int32) (g_plan_x : Nat → Int32) (g_plan_y : Nat → Int32) (g_plan_high : Nat → Int32) (g_scene_known : Int32) (g_scene_next : Int32) (g_scene_cells : Nat → Int32) (g_scene_past : Nat → Int32) : Option (Int32 × Int32 × Int32 × (Nat → Int32) × (Nat → Int32)) :=
  xb_in 0 43 <|
  if (g_scene_cells (Int32.toNatClampNeg 0)) < 200 then
    xb_b3 (fX3_remember g_scene_known g_scene_next g_scene_cells g_scene_past) fun g_scene_known_3 g_scene_next_4 g_scene_past_5 =>
    xb_b1 (fX3_pass F g_scene_cells) fun g_scene_cells_7 =>
    xb_b1 (fX0_covered F g_plan_houses g_plan_reach g_plan_x g_plan_y g_plan_high g_scene_cells_7 0) fun r_9 =>
    some (r_9, g_scene_known_3, g_scene_next_4, g_scene_cells_7, g_scene_past_5)
  else
    some ((-2), g_scene_known, g_scene_next, g_scene_cells, g_scene_past)

def fX3_usedUp_26 (k_4 : (Int32 → Int32 → Option (Int32))) (v2_1 : Int32) (v1_8 : Int32) : Option (Int32) :=
  k_4 (v2_1 + 1) v1_8
def fX3_usedUp_4 (g_cells : Nat → Int32) : Nat → Int32 → Int32 → Option (Int32)
  | 0, _, _ => none
  | n + 1, v2_1, v1_2 =>
    xb_b1 (fX3_trees g_cells) fun r_3 =>
    if r_3 ≤ v2_1 then
      some v1_2
    else
      xb_b1 (fX3_used g_cells v2_1) fun r_6 =>
      if r_6 ≤ 0 then
        fX3_usedUp_26 (fX3_usedUp_4 g_cells n) v2_1 v1_2
      else
        xb_let (v1_2 ||| (1 <<< (v2_1 &&& 31))) fun v1_10 =>
        fX3_usedUp_26 (fX3_usedUp_4 g_cells n) v2_1 v1_10
def fX3_usedUp (F : Nat) (g_cells : Nat → Int32) : Option (Int32) :=
  fX3_usedUp_4 g_cells F 0 0

def fX4_isAhead_15 : Option (Int32) :=
  some 1
def fX4_isAhead (p0 : Int32) (p1 : Int32) (p2 : Int32) (p3 : Int32) : Option (Int32) :=
  if p2 < p0 then
    fX4_isAhead_15
  else
    if p0 = p2 then
      if p3 ≤ p1 then
        some 0
      else
        fX4_isAhead_15
    else
      some 0

def fX4_strikes_204 (k_113 : (Int32 → Int32 → Int32 → Int32 → Option (Int32))) (v6_8 : Int32) (v5_14 : Int32) (v4_15 : Int32) (v3_16 : Int32) : Option (Int32) :=
  k_113 (v6_8 + 1) v5_14 v4_15 v3_16
def fX4_strikes_113 (g_plan_houses : Int32) (g_plan_y : Nat → Int32) (p1 : Int32) (g_plan_high : Nat → Int32) (g_plan_x : Nat → Int32) : Nat → Int32 → Int32 → Int32 → Int32 → Option (Int32)
  | 0, _, _, _, _ => none
  | n + 1, v6_8, v5_9, v4_10, v3_11 =>
    if g_plan_houses ≤ v6_8 then
      some v3_11
    else
      xb_in v6_8 6 <|
      if 2 < (if 0 ≤ ((g_plan_y (Int32.toNatClampNeg v6_8)) - p1) then ((g_plan_y (Int32.toNatClampNeg v6_8)) - p1) else 0 - ((g_plan_y (Int32.toNatClampNeg v6_8)) - p1)) then
        fX4_strikes_204 (fX4_strikes_113 g_plan_houses g_plan_y p1 g_plan_high g_plan_x n) v6_8 v5_9 v4_10 v3_11
      else
        xb_in v6_8 6 <|
        xb_in v6_8 6 <|
        xb_b1 (fX4_isAhead (g_plan_high (Int32.toNatClampNeg v6_8)) (g_plan_x (Int32.toNatClampNeg v6_8)) v4_10 v5_9) fun r_20 =>
        if r_20 = 0 then
          fX4_strikes_204 (fX4_strikes_113 g_plan_houses g_plan_y p1 g_plan_high g_plan_x n) v6_8 v5_9 v4_10 v3_11
        else
          xb_let (100 + v6_8) fun v3_23 =>
          xb_in v6_8 6 <|
          xb_let (g_plan_high (Int32.toNatClampNeg v6_8)) fun v4_25 =>
          xb_in v6_8 6 <|
          xb_let (g_plan_x (Int32.toNatClampNeg v6_8)) fun v5_27 =>
          fX4_strikes_204 (fX4_strikes_113 g_plan_houses g_plan_y p1 g_plan_high g_plan_x n) v6_8 v5_27 v4_25 v3_23
def fX4_strikes_104 (k_12 : (Int32 → Int32 → Int32 → Int32 → Option (Int32))) (v6_1 : Int32) (v5_28 : Int32) (v4_29 : Int32) (v3_30 : Int32) : Option (Int32) :=
  k_12 (v6_1 + 1) v5_28 v4_29 v3_30
def fX4_strikes_12 (g_scene_cells : Nat → Int32) (g_plan_houses : Int32) (g_plan_y : Nat → Int32) (p1 : Int32) (g_plan_high : Nat → Int32) (g_plan_x : Nat → Int32) (F : Nat) (p2 : Int32) : Nat → Int32 → Int32 → Int32 → Int32 → Option (Int32)
  | 0, _, _, _, _ => none
  | n + 1, v6_1, v5_2, v4_3, v3_4 =>
    xb_b1 (fX3_trees g_scene_cells) fun r_5 =>
    if r_5 ≤ v6_1 then
      fX4_strikes_113 g_plan_houses g_plan_y p1 g_plan_high g_plan_x F 0 v5_2 v4_3 v3_4
    else
      if ((p2 >>> (v6_1 &&& 31)) &&& 1) = 0 then
        xb_b1 (fX3_y g_scene_cells v6_1) fun r_32 =>
        if 2 < (if 0 ≤ (r_32 - p1) then (r_32 - p1) else 0 - (r_32 - p1)) then
          fX4_strikes_104 (fX4_strikes_12 g_scene_cells g_plan_houses g_plan_y p1 g_plan_high g_plan_x F p2 n) v6_1 v5_2 v4_3 v3_4
        else
          xb_b1 (fX3_high g_scene_cells v6_1) fun r_35 =>
          xb_b1 (fX3_x g_scene_cells v6_1) fun r_37 =>
          xb_b1 (fX4_isAhead r_35 r_37 v4_3 v5_2) fun r_39 =>
          if r_39 = 0 then
            fX4_strikes_104 (fX4_strikes_12 g_scene_cells g_plan_houses g_plan_y p1 g_plan_high g_plan_x F p2 n) v6_1 v5_2 v4_3 v3_4
          else
            xb_b1 (fX3_high g_scene_cells v6_1) fun r_42 =>
            xb_b1 (fX3_x g_scene_cells v6_1) fun r_44 =>
            fX4_strikes_104 (fX4_strikes_12 g_scene_cells g_plan_houses g_plan_y p1 g_plan_high g_plan_x F p2 n) v6_1 r_44 r_42 v6_1
      else
        fX4_strikes_104 (fX4_strikes_12 g_scene_cells g_plan_houses g_plan_y p1 g_plan_high g_plan_x F p2 n) v6_1 v5_2 v4_3 v3_4
def fX4_strikes (F : Nat) (g_plan_houses : Int32) (g_plan_x : Nat → Int32) (g_plan_y : Nat → Int32) (g_plan_high : Nat → Int32) (g_scene_cells : Nat → Int32) (p1 : Int32) (p2 : Int32) : Option (Int32) :=
  fX4_strikes_12 g_scene_cells g_plan_houses g_plan_y p1 g_plan_high g_plan_x F p2 F 0 0 0 (-9)

def fX5_storm (F : Nat) (g_plan_houses : Int32) (g_plan_used : Int32) (g_plan_x : Nat → Int32) (g_plan_y : Nat → Int32) (g_plan_high : Nat → Int32) (g_scene_known : Int32) (g_scene_next : Int32) (g_scene_cells : Nat → Int32) (g_scene_past : Nat → Int32) (p1 : Int32) : Option (Int32 × Int32 × Int32 × (Nat → Int32) × (Nat → Int32)) :=
  xb_b1 (fX5_isWithin p1 0 9) fun r_1 =>
  if r_1 = 0 then
    some ((-1), g_scene_known, g_scene_next, g_scene_cells, g_scene_past)
  else
    xb_b3 (fX3_remember g_scene_known g_scene_next g_scene_cells g_scene_past) fun g_scene_known_4 g_scene_next_5 g_scene_past_6 =>
    xb_b1 (fX3_usedUp F g_scene_cells) fun r_8 =>
    xb_b1 (fX4_strikes F g_plan_houses g_plan_x g_plan_y g_plan_high g_scene_cells p1 r_8) fun r_10 =>
    if r_10 < 100 then
      if r_10 < 0 then
        some (r_10, g_scene_known_4, g_scene_next_5, g_scene_cells, g_scene_past_6)
      else
        xb_in (30 + r_10) 43 <|
        some (r_10, g_scene_known_4, g_scene_next_5, (upd g_scene_cells (Int32.toNatClampNeg (30 + r_10)) g_plan_used), g_scene_past_6)
    else
      xb_in ((37 + r_10) - 100) 43 <|
      xb_let ((g_scene_cells (Int32.toNatClampNeg ((37 + r_10) - 100))) + 1) fun x_16 =>
      xb_in ((37 + r_10) - 100) 43 <|
      some (r_10, g_scene_known_4, g_scene_next_5, (upd g_scene_cells (Int32.toNatClampNeg ((37 + r_10) - 100)) x_16), g_scene_past_6)

def fX5_toppedHigh (p0 : Int32) (p1 : Int32) : Option (Int32) :=
  some (if 1 < (p0 - p1) then (p0 - p1) else 1)

def fX5_tops (g_scene_known : Int32) (g_scene_next : Int32) (g_scene_cells : Nat → Int32) (g_scene_past : Nat → Int32) (p1 : Int32) (p2 : Int32) : Option (Int32 × Int32 × Int32 × (Nat → Int32) × (Nat → Int32)) :=
  xb_b1 (fX5_isTree g_scene_cells p1) fun r_1 =>
  if r_1 = 0 then
    some ((-1), g_scene_known, g_scene_next, g_scene_cells, g_scene_past)
  else
    xb_b1 (fX5_isWithin p2 1 60) fun r_4 =>
    if r_4 = 0 then
      some ((-1), g_scene_known, g_scene_next, g_scene_cells, g_scene_past)
    else
      xb_b3 (fX3_remember g_scene_known g_scene_next g_scene_cells g_scene_past) fun g_scene_known_7 g_scene_next_8 g_scene_past_9 =>
      xb_b1 (fX3_high g_scene_cells p1) fun r_11 =>
      xb_b1 (fX5_toppedHigh r_11 p2) fun r_13 =>
      xb_in (16 + p1) 43 <|
      xb_b1 (fX3_high (upd g_scene_cells (Int32.toNatClampNeg (16 + p1)) r_13) p1) fun r_16 =>
      some (r_16, g_scene_known_7, g_scene_next_8, (upd g_scene_cells (Int32.toNatClampNeg (16 + p1)) r_13), g_scene_past_9)

def fX5_plants (g_scene_known : Int32) (g_scene_next : Int32) (g_scene_cells : Nat → Int32) (g_scene_past : Nat → Int32) (p1 : Int32) (p2 : Int32) : Option (Int32 × Int32 × Int32 × (Nat → Int32) × (Nat → Int32)) :=
  xb_b1 (fX5_isWithin p1 0 9) fun r_1 =>
  if r_1 = 0 then
    some ((-1), g_scene_known, g_scene_next, g_scene_cells, g_scene_past)
  else
    xb_b1 (fX5_isWithin p2 0 9) fun r_4 =>
    if r_4 = 0 then
      some ((-1), g_scene_known, g_scene_next, g_scene_cells, g_scene_past)
    else
      xb_b1 (fX3_trees g_scene_cells) fun r_7 =>
      if r_7 < 7 then
        xb_b3 (fX3_remember g_scene_known g_scene_next g_scene_cells g_scene_past) fun g_scene_known_10 g_scene_next_11 g_scene_past_12 =>
        xb_b1 (fX3_put g_scene_cells p1 p2 1 2) fun g_scene_cells_14 =>
        some (r_7, g_scene_known_10, g_scene_next_11, g_scene_cells_14, g_scene_past_12)
      else
        some ((-3), g_scene_known, g_scene_next, g_scene_cells, g_scene_past)

def fX3_recall (g_known : Int32) (g_next : Int32) (g_cells : Nat → Int32) (g_past : Nat → Int32) : Option (Int32 × Int32 × (Nat → Int32)) :=
  xb_let (((g_next + 10) - 1) - ((g_next + 10) - 1) / 10 * 10) fun g_1 =>
  xb_let (g_known - 1) fun g_2 =>
  xb_cp (g_1 * 43) 0 43 430 43 <|
  some (g_2, g_1, (va_cpy g_past g_cells (Int32.toNatClampNeg (g_1 * 43)) (Int32.toNatClampNeg 0) (Int32.toNatClampNeg 43)))

def fX5_undo (g_scene_known : Int32) (g_scene_next : Int32) (g_scene_cells : Nat → Int32) (g_scene_past : Nat → Int32) : Option (Int32 × Int32 × Int32 × (Nat → Int32)) :=
  if g_scene_known = 0 then
    some ((-2), g_scene_known, g_scene_next, g_scene_cells)
  else
    xb_b3 (fX3_recall g_scene_known g_scene_next g_scene_cells g_scene_past) fun g_scene_known_2 g_scene_next_3 g_scene_cells_4 =>
    some (g_scene_known_2, g_scene_known_2, g_scene_next_3, g_scene_cells_4)

def fX0_premiums_4 (g_plan_houses : Int32) (F : Nat) (g_plan_reach : Int32) (g_plan_x : Nat → Int32) (g_plan_y : Nat → Int32) (g_plan_high : Nat → Int32) (g_scene_cells : Nat → Int32) : Nat → Int32 → Int32 → Option (Int32)
  | 0, _, _ => none
  | n + 1, v2_1, v1_2 =>
    if g_plan_houses ≤ v2_1 then
      some v1_2
    else
      xb_b1 (fX0_premium F g_plan_reach g_plan_x g_plan_y g_plan_high g_scene_cells v2_1) fun r_4 =>
      xb_let (v1_2 + r_4) fun v1_6 =>
      (fX0_premiums_4 g_plan_houses F g_plan_reach g_plan_x g_plan_y g_plan_high g_scene_cells n) (v2_1 + 1) v1_6
def fX0_premiums (F : Nat) (g_plan_houses : Int32) (g_plan_reach : Int32) (g_plan_x : Nat → Int32) (g_plan_y : Nat → Int32) (g_plan_high : Nat → Int32) (g_scene_cells : Nat → Int32) : Option (Int32) :=
  fX0_premiums_4 g_plan_houses F g_plan_reach g_plan_x g_plan_y g_plan_high g_scene_cells F 0 0

def fX5_struckInAll_4 (g_plan_houses : Int32) (g_scene_cells : Nat → Int32) : Nat → Int32 → Int32 → Option (Int32)
  | 0, _, _ => none
  | n + 1, v2_1, v1_2 =>
    if g_plan_houses ≤ v2_1 then
      some v1_2
    else
      xb_b1 (fX3_struck g_scene_cells v2_1) fun r_4 =>
      xb_let (v1_2 + r_4) fun v1_6 =>
      (fX5_struckInAll_4 g_plan_houses g_scene_cells n) (v2_1 + 1) v1_6
def fX5_struckInAll (F : Nat) (g_plan_houses : Int32) (g_scene_cells : Nat → Int32) : Option (Int32) :=
  fX5_struckInAll_4 g_plan_houses g_scene_cells F 0 0

def fX0_unionOf_30 (k_5 : (Int32 → Int32 → Option (Int32))) (v4_1 : Int32) (v3_4 : Int32) : Option (Int32) :=
  k_5 (v4_1 + 1) v3_4
def fX0_unionOf_5 (p2 : Int32) (p1 : Int32) (g_row : Nat → Int32) : Nat → Int32 → Int32 → Option (Int32)
  | 0, _, _ => none
  | n + 1, v4_1, v3_2 =>
    if p2 ≤ v4_1 then
      some v3_2
    else
      if ((p1 >>> (v4_1 &&& 31)) &&& 1) = 0 then
        fX0_unionOf_30 (fX0_unionOf_5 p2 p1 g_row n) v4_1 v3_2
      else
        xb_in v4_1 128 <|
        xb_let (v3_2 ||| (g_row (Int32.toNatClampNeg v4_1))) fun v3_7 =>
        fX0_unionOf_30 (fX0_unionOf_5 p2 p1 g_row n) v4_1 v3_7
def fX0_unionOf (F : Nat) (g_row : Nat → Int32) (p1 : Int32) (p2 : Int32) : Option (Int32) :=
  fX0_unionOf_5 p2 p1 g_row F 0 0

def fX0_enough_81 (k_50 : (Int32 → Int32 → Option (Int32 × (Nat → Int32)))) (v4_10 : Int32) (v3_17 : Int32) : Option (Int32 × (Nat → Int32)) :=
  k_50 (v4_10 + (-1)) v3_17
def fX0_enough_50 (g_row_4 : Nat → Int32) (F : Nat) (r_1 : Int32) (r_6 : Int32) : Nat → Int32 → Int32 → Option (Int32 × (Nat → Int32))
  | 0, _, _ => none
  | n + 1, v4_10, v3_11 =>
    if v4_10 < 0 then
      some (v3_11, g_row_4)
    else
      xb_b1 (fJ6_bitCount_0f7a4 v4_10) fun r_13 =>
      xb_b1 (fJ6_bitCount_0f7a4 v3_11) fun r_15 =>
      if r_15 < r_13 then
        fX0_enough_81 (fX0_enough_50 g_row_4 F r_1 r_6 n) v4_10 v3_11
      else
        xb_b1 (fX0_unionOf F g_row_4 v4_10 r_1) fun r_19 =>
        if r_19 = r_6 then
          fX0_enough_81 (fX0_enough_50 g_row_4 F r_1 r_6 n) v4_10 v4_10
        else
          fX0_enough_81 (fX0_enough_50 g_row_4 F r_1 r_6 n) v4_10 v3_11
def fX0_enough_10 (r_1 : Int32) (F : Nat) (g_plan_houses : Int32) (g_plan_reach : Int32) (g_plan_x : Nat → Int32) (g_plan_y : Nat → Int32) (g_plan_high : Nat → Int32) (g_scene_cells : Nat → Int32) : Nat → Int32 → (Nat → Int32) → Option (Int32 × (Nat → Int32))
  | 0, _, _ => none
  | n + 1, v2_3, g_row_4 =>
    if r_1 ≤ v2_3 then
      xb_b1 (fX0_covered F g_plan_houses g_plan_reach g_plan_x g_plan_y g_plan_high g_scene_cells 0) fun r_6 =>
      xb_let ((1 <<< (r_1 &&& 31)) - 1) fun v3_8 =>
      xb_let (v3_8 - 1) fun v4_9 =>
      fX0_enough_50 g_row_4 F r_1 r_6 F v4_9 v3_8
    else
      xb_b1 (fX0_under F g_plan_houses g_plan_reach g_plan_x g_plan_y g_plan_high g_scene_cells v2_3 0) fun r_22 =>
      xb_in v2_3 128 <|
      (fX0_enough_10 r_1 F g_plan_houses g_plan_reach g_plan_x g_plan_y g_plan_high g_scene_cells n) (v2_3 + 1) (upd g_row_4 (Int32.toNatClampNeg v2_3) r_22)
def fX0_enough (F : Nat) (g_plan_houses : Int32) (g_plan_reach : Int32) (g_plan_x : Nat → Int32) (g_plan_y : Nat → Int32) (g_plan_high : Nat → Int32) (g_scene_cells : Nat → Int32) (g_row : Nat → Int32) : Option (Int32 × (Nat → Int32)) :=
  xb_b1 (fX3_trees g_scene_cells) fun r_1 =>
  fX0_enough_10 r_1 F g_plan_houses g_plan_reach g_plan_x g_plan_y g_plan_high g_scene_cells F 0 g_row

def fX5_now (F : Nat) (g_plan_houses : Int32) (g_plan_reach : Int32) (g_plan_x : Nat → Int32) (g_plan_y : Nat → Int32) (g_plan_high : Nat → Int32) (g_scene_cells : Nat → Int32) (g_cover_row : Nat → Int32) (p1 : Int32) : Option (Int32 × (Nat → Int32)) :=
  if p1 = 0 then
    xb_in 0 43 <|
    some ((g_scene_cells (Int32.toNatClampNeg 0)), g_cover_row)
  else if p1 = 1 then
    xb_b1 (fX0_covered F g_plan_houses g_plan_reach g_plan_x g_plan_y g_plan_high g_scene_cells 0) fun r_2 =>
    some (r_2, g_cover_row)
  else if p1 = 2 then
    xb_b1 (fX3_usedUp F g_scene_cells) fun r_4 =>
    some (r_4, g_cover_row)
  else if p1 = 3 then
    xb_b1 (fX0_premiums F g_plan_houses g_plan_reach g_plan_x g_plan_y g_plan_high g_scene_cells) fun r_6 =>
    some (r_6, g_cover_row)
  else if p1 = 4 then
    xb_b1 (fX5_struckInAll F g_plan_houses g_scene_cells) fun r_8 =>
    some (r_8, g_cover_row)
  else if p1 = 5 then
    xb_b2 (fX0_enough F g_plan_houses g_plan_reach g_plan_x g_plan_y g_plan_high g_scene_cells g_cover_row) fun r_10 g_cover_row_11 =>
    some (r_10, g_cover_row_11)
  else 
  some ((-1), g_cover_row)

def fX0_lone_8 (g_scene_cells : Nat → Int32) (r_1 : Int32) : Nat → Int32 → Option (Int32)
  | 0, _ => none
  | n + 1, v3_3 =>
    xb_b1 (fX3_trees g_scene_cells) fun r_4 =>
    if r_4 ≤ v3_3 then
      some (-9)
    else
      if r_1 = (1 <<< (v3_3 &&& 31)) then
        some v3_3
      else
        (fX0_lone_8 g_scene_cells r_1 n) (v3_3 + 1)
def fX0_lone (F : Nat) (g_plan_reach : Int32) (g_plan_x : Nat → Int32) (g_plan_y : Nat → Int32) (g_plan_high : Nat → Int32) (g_scene_cells : Nat → Int32) (p1 : Int32) : Option (Int32) :=
  xb_b1 (fX0_over F g_plan_reach g_plan_x g_plan_y g_plan_high g_scene_cells p1) fun r_1 =>
  fX0_lone_8 g_scene_cells r_1 F 0

def fX5_only (F : Nat) (g_plan_houses : Int32) (g_plan_reach : Int32) (g_plan_x : Nat → Int32) (g_plan_y : Nat → Int32) (g_plan_high : Nat → Int32) (g_scene_cells : Nat → Int32) (p1 : Int32) : Option (Int32) :=
  xb_b1 (fX5_isHouse g_plan_houses p1) fun r_1 =>
  if r_1 = 0 then
    some (-1)
  else
    xb_b1 (fX0_lone F g_plan_reach g_plan_x g_plan_y g_plan_high g_scene_cells p1) fun r_4 =>
    some r_4

def fX0_firstYear_2 (F : Nat) (g_plan_houses : Int32) (g_plan_reach : Int32) (g_plan_x : Nat → Int32) (g_plan_y : Nat → Int32) (g_plan_high : Nat → Int32) (g_scene_cells : Nat → Int32) (p1 : Int32) : Nat → Int32 → Option (Int32)
  | 0, _ => none
  | n + 1, v2_1 =>
    if 60 < v2_1 then
      some (-9)
    else
      xb_b1 (fX0_covered F g_plan_houses g_plan_reach g_plan_x g_plan_y g_plan_high g_scene_cells v2_1) fun r_3 =>
      if ((r_3 >>> (p1 &&& 31)) &&& 1) = 0 then
        (fX0_firstYear_2 F g_plan_houses g_plan_reach g_plan_x g_plan_y g_plan_high g_scene_cells p1 n) (v2_1 + 1)
      else
        some v2_1
def fX0_firstYear (F : Nat) (g_plan_houses : Int32) (g_plan_reach : Int32) (g_plan_x : Nat → Int32) (g_plan_y : Nat → Int32) (g_plan_high : Nat → Int32) (g_scene_cells : Nat → Int32) (p1 : Int32) : Option (Int32) :=
  fX0_firstYear_2 F g_plan_houses g_plan_reach g_plan_x g_plan_y g_plan_high g_scene_cells p1 F 0

def fX5_when (F : Nat) (g_plan_houses : Int32) (g_plan_reach : Int32) (g_plan_x : Nat → Int32) (g_plan_y : Nat → Int32) (g_plan_high : Nat → Int32) (g_scene_cells : Nat → Int32) (p1 : Int32) : Option (Int32) :=
  xb_b1 (fX5_isHouse g_plan_houses p1) fun r_1 =>
  if r_1 = 0 then
    some (-1)
  else
    xb_b1 (fX0_firstYear F g_plan_houses g_plan_reach g_plan_x g_plan_y g_plan_high g_scene_cells p1) fun r_4 =>
    some r_4

def fX1_all (g_houses : Int32) : Option (Int32) :=
  some ((1 <<< (g_houses &&& 31)) - 1)

def fX0_lookFromPlaces_13 (F : Nat) (g_plan_houses : Int32) (g_plan_reach : Int32) (g_plan_x : Nat → Int32) (g_plan_y : Nat → Int32) (g_plan_high : Nat → Int32) (v2_1 : Int32) : Nat → Int32 → (Nat → Int32) → Option ((Nat → Int32))
  | 0, _, _ => none
  | n + 1, v3_2, g_row_3 =>
    if 100 ≤ v3_2 then
      some g_row_3
    else
      xb_b1 (fX1_below F g_plan_houses g_plan_reach g_plan_x g_plan_y g_plan_high (v3_2 / 10) (v3_2 - v3_2 / 10 * 10) v2_1) fun r_5 =>
      xb_in v3_2 128 <|
      (fX0_lookFromPlaces_13 F g_plan_houses g_plan_reach g_plan_x g_plan_y g_plan_high v2_1 n) (v3_2 + 1) (upd g_row_3 (Int32.toNatClampNeg v3_2) r_5)
def fX0_lookFromPlaces (F : Nat) (g_plan_houses : Int32) (g_plan_reach : Int32) (g_plan_x : Nat → Int32) (g_plan_y : Nat → Int32) (g_plan_high : Nat → Int32) (g_row : Nat → Int32) (p1 : Int32) : Option ((Nat → Int32)) :=
  xb_let (if (1 + (p1 * 2)) < 99 then (1 + (p1 * 2)) else 99) fun v2_1 =>
  fX0_lookFromPlaces_13 F g_plan_houses g_plan_reach g_plan_x g_plan_y g_plan_high v2_1 F 0 g_row

def fX0_placeThatCovers_2 (p1 : Int32) (g_row : Nat → Int32) : Nat → Int32 → Option (Int32)
  | 0, _ => none
  | n + 1, v3_1 =>
    if 100 ≤ v3_1 then
      some (-9)
    else
      xb_in v3_1 128 <|
      if (p1 &&& ((g_row (Int32.toNatClampNeg v3_1)) ^^^ (-1))) = 0 then
        some v3_1
      else
        (fX0_placeThatCovers_2 p1 g_row n) (v3_1 + 1)
def fX0_placeThatCovers (F : Nat) (g_row : Nat → Int32) (p1 : Int32) (p2 : Int32) : Option (Int32) :=
  fX0_placeThatCovers_2 p1 g_row F p2

def fX0_planting_73 (g_row_7 : Nat → Int32) (F : Nat) (v3_5 : Int32) (p2 : Int32) : Nat → Int32 → Option (Int32 × (Nat → Int32))
  | 0, _ => none
  | n + 1, v5_12 =>
    if 100 ≤ v5_12 then
      some ((-9), g_row_7)
    else
      xb_in v5_12 128 <|
      xb_b1 (fX0_placeThatCovers F g_row_7 (v3_5 &&& ((g_row_7 (Int32.toNatClampNeg v5_12)) ^^^ (-1))) v5_12) fun r_15 =>
      if r_15 < 0 then
        (fX0_planting_73 g_row_7 F v3_5 p2 n) (v5_12 + 1)
      else
        if p2 = 0 then
          some (2, g_row_7)
        else
          if p2 = 1 then
            some (v5_12, g_row_7)
          else
            some (r_15, g_row_7)
def fX0_planting (F : Nat) (g_plan_houses : Int32) (g_plan_reach : Int32) (g_plan_x : Nat → Int32) (g_plan_y : Nat → Int32) (g_plan_high : Nat → Int32) (g_scene_cells : Nat → Int32) (g_row : Nat → Int32) (p1 : Int32) (p2 : Int32) : Option (Int32 × (Nat → Int32)) :=
  xb_b1 (fX1_all g_plan_houses) fun r_1 =>
  xb_b1 (fX0_covered F g_plan_houses g_plan_reach g_plan_x g_plan_y g_plan_high g_scene_cells p1) fun r_3 =>
  xb_let (r_1 &&& (r_3 ^^^ (-1))) fun v3_5 =>
  if v3_5 = 0 then
    if p2 = 0 then
      some (0, g_row)
    else
      some ((-9), g_row)
  else
    xb_b1 (fX0_lookFromPlaces F g_plan_houses g_plan_reach g_plan_x g_plan_y g_plan_high g_row p1) fun g_row_7 =>
    xb_b1 (fX0_placeThatCovers F g_row_7 v3_5 0) fun r_9 =>
    if r_9 < 0 then
      fX0_planting_73 g_row_7 F v3_5 p2 F 0
    else
      if p2 = 0 then
        some (1, g_row_7)
      else
        if p2 = 1 then
          some (r_9, g_row_7)
        else
          some ((-9), g_row_7)

def fX5_where (F : Nat) (g_plan_houses : Int32) (g_plan_reach : Int32) (g_plan_x : Nat → Int32) (g_plan_y : Nat → Int32) (g_plan_high : Nat → Int32) (g_scene_cells : Nat → Int32) (g_cover_row : Nat → Int32) (p1 : Int32) (p2 : Int32) : Option (Int32 × (Nat → Int32)) :=
  xb_b1 (fX5_isWithin p1 0 40) fun r_1 =>
  if r_1 = 0 then
    some ((-1), g_cover_row)
  else
    xb_b1 (fX5_isWithin p2 0 2) fun r_4 =>
    if r_4 = 0 then
      some ((-1), g_cover_row)
    else
      xb_b2 (fX0_planting F g_plan_houses g_plan_reach g_plan_x g_plan_y g_plan_high g_scene_cells g_cover_row p1 p2) fun r_7 g_cover_row_8 =>
      some (r_7, g_cover_row_8)

def fX0_paidBy_50 (k_5 : (Int32 → Int32 → Option (Int32))) (v3_1 : Int32) (v2_8 : Int32) : Option (Int32) :=
  k_5 (v3_1 + 1) v2_8
def fX0_paidBy_48 (k_5 : (Int32 → Int32 → Option (Int32))) (v3_1 : Int32) : Option (Int32) :=
  fX0_paidBy_50 k_5 v3_1 v3_1
def fX0_paidBy_5 (g_scene_cells : Nat → Int32) (g_plan_reach : Int32) (g_plan_x : Nat → Int32) (g_plan_y : Nat → Int32) (g_plan_high : Nat → Int32) (p1 : Int32) : Nat → Int32 → Int32 → Option (Int32)
  | 0, _, _ => none
  | n + 1, v3_1, v2_2 =>
    xb_b1 (fX3_trees g_scene_cells) fun r_3 =>
    if r_3 ≤ v3_1 then
      some v2_2
    else
      xb_b1 (fX0_covers g_plan_reach g_plan_x g_plan_y g_plan_high g_scene_cells v3_1 p1) fun r_6 =>
      if r_6 = 0 then
        fX0_paidBy_50 (fX0_paidBy_5 g_scene_cells g_plan_reach g_plan_x g_plan_y g_plan_high p1 n) v3_1 v2_2
      else
        if v2_2 < 0 then
          fX0_paidBy_48 (fX0_paidBy_5 g_scene_cells g_plan_reach g_plan_x g_plan_y g_plan_high p1 n) v3_1
        else
          xb_b1 (fX3_high g_scene_cells v3_1) fun r_11 =>
          xb_b1 (fX3_high g_scene_cells v2_2) fun r_13 =>
          if r_11 ≤ r_13 then
            fX0_paidBy_50 (fX0_paidBy_5 g_scene_cells g_plan_reach g_plan_x g_plan_y g_plan_high p1 n) v3_1 v2_2
          else
            fX0_paidBy_48 (fX0_paidBy_5 g_scene_cells g_plan_reach g_plan_x g_plan_y g_plan_high p1 n) v3_1
def fX0_paidBy (F : Nat) (g_plan_reach : Int32) (g_plan_x : Nat → Int32) (g_plan_y : Nat → Int32) (g_plan_high : Nat → Int32) (g_scene_cells : Nat → Int32) (p1 : Int32) : Option (Int32) :=
  fX0_paidBy_5 g_scene_cells g_plan_reach g_plan_x g_plan_y g_plan_high p1 F 0 (-9)

def fX0_payers_27 (k_4 : (Int32 → Int32 → Option (Int32))) (v3_1 : Int32) (v2_6 : Int32) : Option (Int32) :=
  k_4 (v3_1 + 1) v2_6
def fX0_payers_4 (g_plan_houses : Int32) (F : Nat) (g_plan_reach : Int32) (g_plan_x : Nat → Int32) (g_plan_y : Nat → Int32) (g_plan_high : Nat → Int32) (g_scene_cells : Nat → Int32) (p1 : Int32) : Nat → Int32 → Int32 → Option (Int32)
  | 0, _, _ => none
  | n + 1, v3_1, v2_2 =>
    if g_plan_houses ≤ v3_1 then
      some v2_2
    else
      xb_b1 (fX0_paidBy F g_plan_reach g_plan_x g_plan_y g_plan_high g_scene_cells v3_1) fun r_4 =>
      if r_4 = p1 then
        fX0_payers_27 (fX0_payers_4 g_plan_houses F g_plan_reach g_plan_x g_plan_y g_plan_high g_scene_cells p1 n) v3_1 (v2_2 + 1)
      else
        fX0_payers_27 (fX0_payers_4 g_plan_houses F g_plan_reach g_plan_x g_plan_y g_plan_high g_scene_cells p1 n) v3_1 v2_2
def fX0_payers (F : Nat) (g_plan_houses : Int32) (g_plan_reach : Int32) (g_plan_x : Nat → Int32) (g_plan_y : Nat → Int32) (g_plan_high : Nat → Int32) (g_scene_cells : Nat → Int32) (p1 : Int32) : Option (Int32) :=
  fX0_payers_4 g_plan_houses F g_plan_reach g_plan_x g_plan_y g_plan_high g_scene_cells p1 F 0 0

def fX0_mostPaid_36 (k_7 : (Int32 → Int32 → Int32 → Option (Int32))) (v3_1 : Int32) (v2_9 : Int32) (v1_10 : Int32) : Option (Int32) :=
  k_7 (v3_1 + 1) v2_9 v1_10
def fX0_mostPaid_7 (g_scene_cells : Nat → Int32) (F : Nat) (g_plan_houses : Int32) (g_plan_reach : Int32) (g_plan_x : Nat → Int32) (g_plan_y : Nat → Int32) (g_plan_high : Nat → Int32) : Nat → Int32 → Int32 → Int32 → Option (Int32)
  | 0, _, _, _ => none
  | n + 1, v3_1, v2_2, v1_3 =>
    xb_b1 (fX3_trees g_scene_cells) fun r_4 =>
    if r_4 ≤ v3_1 then
      some v1_3
    else
      xb_b1 (fX0_payers F g_plan_houses g_plan_reach g_plan_x g_plan_y g_plan_high g_scene_cells v3_1) fun r_7 =>
      if r_7 ≤ v2_2 then
        fX0_mostPaid_36 (fX0_mostPaid_7 g_scene_cells F g_plan_houses g_plan_reach g_plan_x g_plan_y g_plan_high n) v3_1 v2_2 v1_3
      else
        fX0_mostPaid_36 (fX0_mostPaid_7 g_scene_cells F g_plan_houses g_plan_reach g_plan_x g_plan_y g_plan_high n) v3_1 r_7 v3_1
def fX0_mostPaid (F : Nat) (g_plan_houses : Int32) (g_plan_reach : Int32) (g_plan_x : Nat → Int32) (g_plan_y : Nat → Int32) (g_plan_high : Nat → Int32) (g_scene_cells : Nat → Int32) : Option (Int32) :=
  fX0_mostPaid_7 g_scene_cells F g_plan_houses g_plan_reach g_plan_x g_plan_y g_plan_high F 0 0 (-9)

def fX5_sold (F : Nat) (g_plan_houses : Int32) (g_plan_reach : Int32) (g_plan_x : Nat → Int32) (g_plan_y : Nat → Int32) (g_plan_high : Nat → Int32) (g_scene_cells : Nat → Int32) (p1 : Int32) : Option (Int32) :=
  if p1 = (-1) then
    xb_b1 (fX0_mostPaid F g_plan_houses g_plan_reach g_plan_x g_plan_y g_plan_high g_scene_cells) fun r_7 =>
    some r_7
  else
    xb_b1 (fX5_isTree g_scene_cells p1) fun r_2 =>
    if r_2 = 0 then
      some (-1)
    else
      xb_b1 (fX0_payers F g_plan_houses g_plan_reach g_plan_x g_plan_y g_plan_high g_scene_cells p1) fun r_5 =>
      some r_5

def fX0_raise_41 (p3 : Int32) (r_5 : Int32) (v5_9 : Int32) : Nat → Int32 → (Nat → Int32) → Option ((Nat → Int32))
  | 0, _, _ => none
  | n + 1, v6_10, g_row_11 =>
    if p3 < v6_10 then
      some g_row_11
    else
      xb_in (v6_10 ||| r_5) 128 <|
      xb_in v6_10 128 <|
      xb_let (if ((g_row_11 (Int32.toNatClampNeg v6_10)) + v5_9) < (g_row_11 (Int32.toNatClampNeg (v6_10 ||| r_5))) then ((g_row_11 (Int32.toNatClampNeg v6_10)) + v5_9) else (g_row_11 (Int32.toNatClampNeg (v6_10 ||| r_5)))) fun x_15 =>
      xb_in (v6_10 ||| r_5) 128 <|
      (fX0_raise_41 p3 r_5 v5_9 n) (v6_10 + 1) (upd g_row_11 (Int32.toNatClampNeg (v6_10 ||| r_5)) x_15)
def fX0_raise (F : Nat) (g_plan_houses : Int32) (g_plan_reach : Int32) (g_plan_x : Nat → Int32) (g_plan_y : Nat → Int32) (g_plan_high : Nat → Int32) (g_scene_cells : Nat → Int32) (g_row : Nat → Int32) (p1 : Int32) (p2 : Int32) (p3 : Int32) : Option ((Nat → Int32)) :=
  xb_b1 (fX3_x g_scene_cells p1) fun r_1 =>
  xb_b1 (fX3_y g_scene_cells p1) fun r_3 =>
  xb_b1 (fX1_below F g_plan_houses g_plan_reach g_plan_x g_plan_y g_plan_high r_1 r_3 p2) fun r_5 =>
  xb_b1 (fX3_high g_scene_cells p1) fun r_7 =>
  xb_let (p2 - r_7) fun v5_9 =>
  fX0_raise_41 p3 r_5 v5_9 F 0 g_row

def fX0_leastRibbons_128 (k_51 : (Int32 → (Nat → Int32) → Option (Int32 × (Nat → Int32)))) (v3_15 : Int32) (g_row_20 : Nat → Int32) : Option (Int32 × (Nat → Int32)) :=
  k_51 (v3_15 + 1) g_row_20
def fX0_leastRibbons_51 (g_plan_houses : Int32) (k_38 : (Int32 → (Nat → Int32) → Option (Int32 × (Nat → Int32)))) (v2_7 : Int32) (g_scene_cells : Nat → Int32) (g_plan_reach : Int32) (g_plan_x : Nat → Int32) (g_plan_y : Nat → Int32) (F : Nat) (g_plan_high : Nat → Int32) (r_1 : Int32) : Nat → Int32 → (Nat → Int32) → Option (Int32 × (Nat → Int32))
  | 0, _, _ => none
  | n + 1, v3_15, g_row_16 =>
    if g_plan_houses ≤ v3_15 then
      k_38 (v2_7 + 1) g_row_16
    else
      xb_b1 (fX3_used g_scene_cells v2_7) fun r_18 =>
      if r_18 = 0 then
        xb_b1 (fX3_x g_scene_cells v2_7) fun r_22 =>
        xb_b1 (fX3_y g_scene_cells v2_7) fun r_24 =>
        xb_b1 (fX1_reaches g_plan_reach g_plan_x g_plan_y r_22 r_24 v3_15) fun r_26 =>
        if r_26 = 0 then
          fX0_leastRibbons_128 (fX0_leastRibbons_51 g_plan_houses k_38 v2_7 g_scene_cells g_plan_reach g_plan_x g_plan_y F g_plan_high r_1 n) v3_15 g_row_16
        else
          xb_b1 (fX3_high g_scene_cells v2_7) fun r_29 =>
          xb_in v3_15 6 <|
          xb_b1 (fX0_raise F g_plan_houses g_plan_reach g_plan_x g_plan_y g_plan_high g_scene_cells g_row_16 v2_7 (if r_29 < ((g_plan_high (Int32.toNatClampNeg v3_15)) + 1) then ((g_plan_high (Int32.toNatClampNeg v3_15)) + 1) else r_29) r_1) fun g_row_32 =>
          fX0_leastRibbons_128 (fX0_leastRibbons_51 g_plan_houses k_38 v2_7 g_scene_cells g_plan_reach g_plan_x g_plan_y F g_plan_high r_1 n) v3_15 g_row_32
      else
        fX0_leastRibbons_128 (fX0_leastRibbons_51 g_plan_houses k_38 v2_7 g_scene_cells g_plan_reach g_plan_x g_plan_y F g_plan_high r_1 n) v3_15 g_row_16
def fX0_leastRibbons_38 (g_scene_cells : Nat → Int32) (r_1 : Int32) (g_plan_houses : Int32) (g_plan_reach : Int32) (g_plan_x : Nat → Int32) (g_plan_y : Nat → Int32) (F : Nat) (g_plan_high : Nat → Int32) : Nat → Int32 → (Nat → Int32) → Option (Int32 × (Nat → Int32))
  | 0, _, _ => none
  | n + 1, v2_7, g_row_8 =>
    xb_b1 (fX3_trees g_scene_cells) fun r_9 =>
    if r_9 ≤ v2_7 then
      xb_in r_1 128 <|
      if 1000000 ≤ (g_row_8 (Int32.toNatClampNeg r_1)) then
        some ((-5), g_row_8)
      else
        xb_in r_1 128 <|
        some ((g_row_8 (Int32.toNatClampNeg r_1)), g_row_8)
    else
      fX0_leastRibbons_51 g_plan_houses (fX0_leastRibbons_38 g_scene_cells r_1 g_plan_houses g_plan_reach g_plan_x g_plan_y F g_plan_high n) v2_7 g_scene_cells g_plan_reach g_plan_x g_plan_y F g_plan_high r_1 F 0 g_row_8
def fX0_leastRibbons_17 (r_1 : Int32) (g_scene_cells : Nat → Int32) (g_plan_houses : Int32) (g_plan_reach : Int32) (g_plan_x : Nat → Int32) (g_plan_y : Nat → Int32) (F : Nat) (g_plan_high : Nat → Int32) : Nat → Int32 → (Nat → Int32) → Option (Int32 × (Nat → Int32))
  | 0, _, _ => none
  | n + 1, v2_4, g_row_5 =>
    if r_1 < v2_4 then
      fX0_leastRibbons_38 g_scene_cells r_1 g_plan_houses g_plan_reach g_plan_x g_plan_y F g_plan_high F 0 g_row_5
    else
      xb_in v2_4 128 <|
      (fX0_leastRibbons_17 r_1 g_scene_cells g_plan_houses g_plan_reach g_plan_x g_plan_y F g_plan_high n) (v2_4 + 1) (upd g_row_5 (Int32.toNatClampNeg v2_4) 1000000)
def fX0_leastRibbons (F : Nat) (g_plan_houses : Int32) (g_plan_reach : Int32) (g_plan_x : Nat → Int32) (g_plan_y : Nat → Int32) (g_plan_high : Nat → Int32) (g_scene_cells : Nat → Int32) (g_row : Nat → Int32) : Option (Int32 × (Nat → Int32)) :=
  xb_b1 (fX1_all g_plan_houses) fun r_1 =>
  xb_in 0 128 <|
  fX0_leastRibbons_17 r_1 g_scene_cells g_plan_houses g_plan_reach g_plan_x g_plan_y F g_plan_high F 1 (upd g_row (Int32.toNatClampNeg 0) 0)

def fX5_ribbons (F : Nat) (g_plan_houses : Int32) (g_plan_reach : Int32) (g_plan_x : Nat → Int32) (g_plan_y : Nat → Int32) (g_plan_high : Nat → Int32) (g_scene_cells : Nat → Int32) (g_cover_row : Nat → Int32) : Option (Int32 × (Nat → Int32)) :=
  if g_plan_houses = 0 then
    some ((-9), g_cover_row)
  else
    xb_b2 (fX0_leastRibbons F g_plan_houses g_plan_reach g_plan_x g_plan_y g_plan_high g_scene_cells g_cover_row) fun r_2 g_cover_row_3 =>
    some (r_2, g_cover_row_3)

def fX4_tracksOf_38 (k_13 : (Int32 → Int32 → Option (Int32))) (v4_3 : Int32) (v3_8 : Int32) : Option (Int32) :=
  k_13 (v4_3 + 1) v3_8
def fX4_tracksOf_13 (F : Nat) (g_plan_houses : Int32) (g_plan_x : Nat → Int32) (g_plan_y : Nat → Int32) (g_plan_high : Nat → Int32) (g_scene_cells : Nat → Int32) (r_1 : Int32) (p1 : Int32) : Nat → Int32 → Int32 → Option (Int32)
  | 0, _, _ => none
  | n + 1, v4_3, v3_4 =>
    if 10 ≤ v4_3 then
      some v3_4
    else
      xb_b1 (fX4_strikes F g_plan_houses g_plan_x g_plan_y g_plan_high g_scene_cells v4_3 r_1) fun r_6 =>
      if r_6 = p1 then
        xb_let (v3_4 ||| (1 <<< (v4_3 &&& 31))) fun v3_10 =>
        fX4_tracksOf_38 (fX4_tracksOf_13 F g_plan_houses g_plan_x g_plan_y g_plan_high g_scene_cells r_1 p1 n) v4_3 v3_10
      else
        fX4_tracksOf_38 (fX4_tracksOf_13 F g_plan_houses g_plan_x g_plan_y g_plan_high g_scene_cells r_1 p1 n) v4_3 v3_4
def fX4_tracksOf (F : Nat) (g_plan_houses : Int32) (g_plan_x : Nat → Int32) (g_plan_y : Nat → Int32) (g_plan_high : Nat → Int32) (g_scene_cells : Nat → Int32) (p1 : Int32) : Option (Int32) :=
  xb_b1 (fX3_usedUp F g_scene_cells) fun r_1 =>
  fX4_tracksOf_13 F g_plan_houses g_plan_x g_plan_y g_plan_high g_scene_cells r_1 p1 F 0 0

def fX5_tracks_21 (p1 : Int32) (g_plan_houses : Int32) (p2 : Int32) (F : Nat) (g_plan_x : Nat → Int32) (g_plan_y : Nat → Int32) (g_plan_high : Nat → Int32) (g_scene_cells : Nat → Int32) : Option (Int32) :=
  if p1 = 1 then
    xb_b1 (fX5_isHouse g_plan_houses p2) fun r_2 =>
    if r_2 = 0 then
      some (-1)
    else
      xb_b1 (fX4_tracksOf F g_plan_houses g_plan_x g_plan_y g_plan_high g_scene_cells (100 + p2)) fun r_5 =>
      some r_5
  else
    some (-1)
def fX5_tracks (F : Nat) (g_plan_houses : Int32) (g_plan_x : Nat → Int32) (g_plan_y : Nat → Int32) (g_plan_high : Nat → Int32) (g_scene_cells : Nat → Int32) (p1 : Int32) (p2 : Int32) : Option (Int32) :=
  if p1 = 0 then
    xb_b1 (fX5_isTree g_scene_cells p2) fun r_8 =>
    if r_8 = 0 then
      fX5_tracks_21 p1 g_plan_houses p2 F g_plan_x g_plan_y g_plan_high g_scene_cells
    else
      xb_b1 (fX4_tracksOf F g_plan_houses g_plan_x g_plan_y g_plan_high g_scene_cells p2) fun r_11 =>
      some r_11
  else
    fX5_tracks_21 p1 g_plan_houses p2 F g_plan_x g_plan_y g_plan_high g_scene_cells

def fX4_spread_82 (k_17 : (Int32 → (Nat → Int32) → Option ((Nat → Int32)))) (v4_4 : Int32) (g_row_9 : Nat → Int32) : Option ((Nat → Int32)) :=
  k_17 (v4_4 + 1) g_row_9
def fX4_spread_63 (r_7 : Int32) (p1 : Int32) (k_17 : (Int32 → (Nat → Int32) → Option ((Nat → Int32)))) (v4_4 : Int32) (g_row_5 : Nat → Int32) (p2 : Int32) (v3_2 : Int32) : Option ((Nat → Int32)) :=
  if r_7 = (100 + p1) then
    fX4_spread_82 k_17 v4_4 g_row_5
  else
    xb_in p2 128 <|
    xb_let ((g_row_5 (Int32.toNatClampNeg p2)) + v3_2) fun x_12 =>
    xb_in p2 128 <|
    fX4_spread_82 k_17 v4_4 (upd g_row_5 (Int32.toNatClampNeg p2) x_12)
def fX4_spread_17 (F : Nat) (g_plan_houses : Int32) (g_plan_x : Nat → Int32) (g_plan_y : Nat → Int32) (g_plan_high : Nat → Int32) (g_scene_cells : Nat → Int32) (p2 : Int32) (p1 : Int32) (v3_2 : Int32) : Nat → Int32 → (Nat → Int32) → Option ((Nat → Int32))
  | 0, _, _ => none
  | n + 1, v4_4, g_row_5 =>
    if 10 ≤ v4_4 then
      some g_row_5
    else
      xb_b1 (fX4_strikes F g_plan_houses g_plan_x g_plan_y g_plan_high g_scene_cells v4_4 p2) fun r_7 =>
      if r_7 < 0 then
        fX4_spread_63 r_7 p1 (fX4_spread_17 F g_plan_houses g_plan_x g_plan_y g_plan_high g_scene_cells p2 p1 v3_2 n) v4_4 g_row_5 p2 v3_2
      else
        if 100 ≤ r_7 then
          fX4_spread_63 r_7 p1 (fX4_spread_17 F g_plan_houses g_plan_x g_plan_y g_plan_high g_scene_cells p2 p1 v3_2 n) v4_4 g_row_5 p2 v3_2
        else
          xb_in (p2 ||| (1 <<< (r_7 &&& 31))) 128 <|
          xb_let ((g_row_5 (Int32.toNatClampNeg (p2 ||| (1 <<< (r_7 &&& 31))))) + v3_2) fun x_17 =>
          xb_in (p2 ||| (1 <<< (r_7 &&& 31))) 128 <|
          fX4_spread_82 (fX4_spread_17 F g_plan_houses g_plan_x g_plan_y g_plan_high g_scene_cells p2 p1 v3_2 n) v4_4 (upd g_row_5 (Int32.toNatClampNeg (p2 ||| (1 <<< (r_7 &&& 31)))) x_17)
def fX4_spread (F : Nat) (g_plan_houses : Int32) (g_plan_x : Nat → Int32) (g_plan_y : Nat → Int32) (g_plan_high : Nat → Int32) (g_scene_cells : Nat → Int32) (g_row : Nat → Int32) (p1 : Int32) (p2 : Int32) : Option ((Nat → Int32)) :=
  xb_in p2 128 <|
  xb_let (g_row (Int32.toNatClampNeg p2)) fun v3_2 =>
  xb_in p2 128 <|
  fX4_spread_17 F g_plan_houses g_plan_x g_plan_y g_plan_high g_scene_cells p2 p1 v3_2 F 0 (upd g_row (Int32.toNatClampNeg p2) 0)

def fX4_missing_100 (v3_3 : Int32) (g_row_11 : Nat → Int32) : Nat → Int32 → Int32 → Option (Int32 × (Nat → Int32))
  | 0, _, _ => none
  | n + 1, v5_13, v4_14 =>
    if v3_3 ≤ v5_13 then
      some (v4_14, g_row_11)
    else
      xb_in v5_13 128 <|
      xb_let (v4_14 + (g_row_11 (Int32.toNatClampNeg v5_13))) fun v4_17 =>
      (fX4_missing_100 v3_3 g_row_11 n) (v5_13 + 1) v4_17
def fX4_missing_82 (k_60 : (Int32 → (Nat → Int32) → Option (Int32 × (Nat → Int32)))) (v5_19 : Int32) (g_row_23 : Nat → Int32) : Option (Int32 × (Nat → Int32)) :=
  k_60 (v5_19 + (-1)) g_row_23
def fX4_missing_60 (k_49 : (Int32 → (Nat → Int32) → Option (Int32 × (Nat → Int32)))) (v4_10 : Int32) (F : Nat) (g_plan_houses : Int32) (g_plan_x : Nat → Int32) (g_plan_y : Nat → Int32) (g_plan_high : Nat → Int32) (g_scene_cells : Nat → Int32) (p1 : Int32) : Nat → Int32 → (Nat → Int32) → Option (Int32 × (Nat → Int32))
  | 0, _, _ => none
  | n + 1, v5_19, g_row_20 =>
    if v5_19 < 0 then
      k_49 (v4_10 + 1) g_row_20
    else
      xb_in v5_19 128 <|
      if (g_row_20 (Int32.toNatClampNeg v5_19)) ≤ 0 then
        fX4_missing_82 (fX4_missing_60 k_49 v4_10 F g_plan_houses g_plan_x g_plan_y g_plan_high g_scene_cells p1 n) v5_19 g_row_20
      else
        xb_b1 (fX4_spread F g_plan_houses g_plan_x g_plan_y g_plan_high g_scene_cells g_row_20 p1 v5_19) fun g_row_25 =>
        fX4_missing_82 (fX4_missing_60 k_49 v4_10 F g_plan_houses g_plan_x g_plan_y g_plan_high g_scene_cells p1 n) v5_19 g_row_25
def fX4_missing_49 (p2 : Int32) (v3_3 : Int32) (F : Nat) (g_plan_houses : Int32) (g_plan_x : Nat → Int32) (g_plan_y : Nat → Int32) (g_plan_high : Nat → Int32) (g_scene_cells : Nat → Int32) (p1 : Int32) : Nat → Int32 → (Nat → Int32) → Option (Int32 × (Nat → Int32))
  | 0, _, _ => none
  | n + 1, v4_10, g_row_11 =>
    if p2 ≤ v4_10 then
      fX4_missing_100 v3_3 g_row_11 F 0 0
    else
      xb_let (v3_3 - 1) fun v5_18 =>
      fX4_missing_60 (fX4_missing_49 p2 v3_3 F g_plan_houses g_plan_x g_plan_y g_plan_high g_scene_cells p1 n) v4_10 F g_plan_houses g_plan_x g_plan_y g_plan_high g_scene_cells p1 F v5_18 g_row_11
def fX4_missing_13 (v3_3 : Int32) (F : Nat) (g_scene_cells : Nat → Int32) (p2 : Int32) (g_plan_houses : Int32) (g_plan_x : Nat → Int32) (g_plan_y : Nat → Int32) (g_plan_high : Nat → Int32) (p1 : Int32) : Nat → Int32 → (Nat → Int32) → Option (Int32 × (Nat → Int32))
  | 0, _, _ => none
  | n + 1, v4_4, g_row_5 =>
    if v3_3 ≤ v4_4 then
      xb_b1 (fX3_usedUp F g_scene_cells) fun r_7 =>
      xb_in r_7 128 <|
      fX4_missing_49 p2 v3_3 F g_plan_houses g_plan_x g_plan_y g_plan_high g_scene_cells p1 F 0 (upd g_row_5 (Int32.toNatClampNeg r_7) 1)
    else
      xb_in v4_4 128 <|
      (fX4_missing_13 v3_3 F g_scene_cells p2 g_plan_houses g_plan_x g_plan_y g_plan_high p1 n) (v4_4 + 1) (upd g_row_5 (Int32.toNatClampNeg v4_4) 0)
def fX4_missing (F : Nat) (g_plan_houses : Int32) (g_plan_x : Nat → Int32) (g_plan_y : Nat → Int32) (g_plan_high : Nat → Int32) (g_scene_cells : Nat → Int32) (g_row : Nat → Int32) (p1 : Int32) (p2 : Int32) : Option (Int32 × (Nat → Int32)) :=
  xb_b1 (fX3_trees g_scene_cells) fun r_1 =>
  xb_let (1 <<< (r_1 &&& 31)) fun v3_3 =>
  fX4_missing_13 v3_3 F g_scene_cells p2 g_plan_houses g_plan_x g_plan_y g_plan_high p1 F 0 g_row

def fX4_chance_83 (k_39 : (Int32 → Int32 → Int32 → Option (Int32 × (Nat → Int32)))) (v6_8 : Int32) (v5_15 : Int32) (v4_16 : Int32) : Option (Int32 × (Nat → Int32)) :=
  k_39 (v6_8 + 1) v5_15 v4_16
def fX4_chance_64 (v5_13 : Int32) (v4_14 : Int32) (k_39 : (Int32 → Int32 → Int32 → Option (Int32 × (Nat → Int32)))) (v6_8 : Int32) : Option (Int32 × (Nat → Int32)) :=
  if (v5_13 - v5_13 / 5 * 5) = 0 then
    xb_let (v5_13 / 5) fun v5_18 =>
    xb_let (v4_14 / 5) fun v4_19 =>
    fX4_chance_83 k_39 v6_8 v5_18 v4_19
  else
    fX4_chance_83 k_39 v6_8 v5_13 v4_14
def fX4_chance_39 (p2 : Int32) (p3 : Int32) (g_row_5 : Nat → Int32) : Nat → Int32 → Int32 → Int32 → Option (Int32 × (Nat → Int32))
  | 0, _, _, _ => none
  | n + 1, v6_8, v5_9, v4_10 =>
    if p2 ≤ v6_8 then
      if p3 = 0 then
        some (v5_9, g_row_5)
      else
        some (v4_10, g_row_5)
    else
      if (v5_9 - v5_9 / 2 * 2) = 0 then
        xb_let (v5_9 / 2) fun v5_21 =>
        xb_let (v4_10 / 2) fun v4_22 =>
        fX4_chance_64 v5_21 v4_22 (fX4_chance_39 p2 p3 g_row_5 n) v6_8
      else
        fX4_chance_64 v5_9 v4_10 (fX4_chance_39 p2 p3 g_row_5 n) v6_8
def fX4_chance_6 (p2 : Int32) (F : Nat) (g_plan_houses : Int32) (g_plan_x : Nat → Int32) (g_plan_y : Nat → Int32) (g_plan_high : Nat → Int32) (g_scene_cells : Nat → Int32) (g_row : Nat → Int32) (p1 : Int32) (p3 : Int32) : Nat → Int32 → Int32 → Option (Int32 × (Nat → Int32))
  | 0, _, _ => none
  | n + 1, v5_1, v4_2 =>
    if p2 ≤ v5_1 then
      xb_b2 (fX4_missing F g_plan_houses g_plan_x g_plan_y g_plan_high g_scene_cells g_row p1 p2) fun r_4 g_row_5 =>
      xb_let (v4_2 - r_4) fun v5_7 =>
      fX4_chance_39 p2 p3 g_row_5 F 0 v5_7 v4_2
    else
      xb_let (v4_2 * 10) fun v4_23 =>
      (fX4_chance_6 p2 F g_plan_houses g_plan_x g_plan_y g_plan_high g_scene_cells g_row p1 p3 n) (v5_1 + 1) v4_23
def fX4_chance (F : Nat) (g_plan_houses : Int32) (g_plan_x : Nat → Int32) (g_plan_y : Nat → Int32) (g_plan_high : Nat → Int32) (g_scene_cells : Nat → Int32) (g_row : Nat → Int32) (p1 : Int32) (p2 : Int32) (p3 : Int32) : Option (Int32 × (Nat → Int32)) :=
  fX4_chance_6 p2 F g_plan_houses g_plan_x g_plan_y g_plan_high g_scene_cells g_row p1 p3 F 0 1

def fX5_odds (F : Nat) (g_plan_houses : Int32) (g_plan_x : Nat → Int32) (g_plan_y : Nat → Int32) (g_plan_high : Nat → Int32) (g_scene_cells : Nat → Int32) (g_cover_row : Nat → Int32) (p1 : Int32) (p2 : Int32) (p3 : Int32) : Option (Int32 × (Nat → Int32)) :=
  xb_b1 (fX5_isHouse g_plan_houses p1) fun r_1 =>
  if r_1 = 0 then
    some ((-1), g_cover_row)
  else
    xb_b1 (fX5_isWithin p2 0 3) fun r_4 =>
    if r_4 = 0 then
      some ((-1), g_cover_row)
    else
      xb_b1 (fX5_isWithin p3 0 1) fun r_7 =>
      if r_7 = 0 then
        some ((-1), g_cover_row)
      else
        xb_b2 (fX4_chance F g_plan_houses g_plan_x g_plan_y g_plan_high g_scene_cells g_cover_row p1 p2 p3) fun r_10 g_cover_row_11 =>
        some (r_10, g_cover_row_11)

def fX5_war_87 (v6_19 : Int32) (g_scene_cells : Nat → Int32) (p1 : Int32) (v4_17 : Int32) (k_55 : (Int32 → Int32 → Int32 → Int32 → Option (Int32))) (v7_14 : Int32) (v5_20 : Int32) : Option (Int32) :=
  if 0 ≤ v6_19 then
    xb_b1 (fX3_grows g_scene_cells p1) fun r_22 =>
    xb_let (if (v4_17 + r_22) < 99 then (v4_17 + r_22) else 99) fun v4_24 =>
    k_55 (v7_14 + 1) v6_19 v5_20 v4_24
  else
    some v7_14
def fX5_war_55 (g_scene_cells : Nat → Int32) (p1 : Int32) : Nat → Int32 → Int32 → Int32 → Int32 → Option (Int32)
  | 0, _, _, _, _ => none
  | n + 1, v7_14, v6_15, v5_16, v4_17 =>
    if 99 < v7_14 then
      some (-9)
    else
      if v4_17 < v5_16 then
        fX5_war_87 v6_15 g_scene_cells p1 v4_17 (fX5_war_55 g_scene_cells p1 n) v7_14 v5_16
      else
        xb_let (v6_15 - ((v4_17 + 1) - v5_16)) fun v6_26 =>
        xb_let (v4_17 + 1) fun v5_27 =>
        fX5_war_87 v6_26 g_scene_cells p1 v4_17 (fX5_war_55 g_scene_cells p1 n) v7_14 v5_27
def fX5_war (F : Nat) (g_plan_houses : Int32) (g_plan_high : Nat → Int32) (g_scene_cells : Nat → Int32) (p1 : Int32) (p2 : Int32) (p3 : Int32) : Option (Int32) :=
  xb_b1 (fX5_isTree g_scene_cells p1) fun r_1 =>
  if r_1 = 0 then
    some (-1)
  else
    xb_b1 (fX5_isHouse g_plan_houses p2) fun r_4 =>
    if r_4 = 0 then
      some (-1)
    else
      xb_b1 (fX5_isWithin p3 0 99) fun r_7 =>
      if r_7 = 0 then
        some (-1)
      else
        xb_b1 (fX3_high g_scene_cells p1) fun r_10 =>
        xb_in p2 6 <|
        xb_let (g_plan_high (Int32.toNatClampNeg p2)) fun v5_13 =>
        fX5_war_55 g_scene_cells p1 F 0 p3 v5_13 r_10

def fX5_saw (g_seen : Int32) (g_plan_houses : Int32) (p1 : Int32) : Option (Int32 × Int32) :=
  xb_b1 (fX1_all g_plan_houses) fun r_1 =>
  xb_b1 (fX5_isWithin p1 0 r_1) fun r_3 =>
  if r_3 = 0 then
    some ((-1), g_seen)
  else
    some (g_seen, p1)

def fX0_underTopped (F : Nat) (g_plan_houses : Int32) (g_plan_reach : Int32) (g_plan_x : Nat → Int32) (g_plan_y : Nat → Int32) (g_plan_high : Nat → Int32) (g_scene_cells : Nat → Int32) (p1 : Int32) (p2 : Int32) : Option (Int32) :=
  xb_b1 (fX3_used g_scene_cells p1) fun r_1 =>
  if r_1 ≤ 0 then
    xb_b1 (fX3_x g_scene_cells p1) fun r_4 =>
    xb_b1 (fX3_y g_scene_cells p1) fun r_6 =>
    xb_b1 (fX3_high g_scene_cells p1) fun r_8 =>
    xb_b1 (fX5_toppedHigh r_8 p2) fun r_10 =>
    xb_b1 (fX1_below F g_plan_houses g_plan_reach g_plan_x g_plan_y g_plan_high r_4 r_6 r_10) fun r_12 =>
    some r_12
  else
    some 0

def fX0_toppings_89 (k_36 : (Int32 → Int32 → Int32 → Int32 → Option (Int32))) (v8_12 : Int32) (v5_19 : Int32) (v4_20 : Int32) (v3_21 : Int32) : Option (Int32) :=
  k_36 (v8_12 + 1) v5_19 v4_20 v3_21
def fX0_toppings_75 (v5_13 : Int32) (v6_1 : Int32) (k_36 : (Int32 → Int32 → Int32 → Int32 → Option (Int32))) (v8_12 : Int32) (s0_23 : Int32) (v3_15 : Int32) : Option (Int32) :=
  xb_let (v5_13 ||| (1 <<< (v6_1 &&& 31))) fun v5_24 =>
  fX0_toppings_89 k_36 v8_12 v5_24 s0_23 (v3_15 + 1)
def fX0_toppings_36 (k_12 : (Int32 → Int32 → Int32 → Int32 → Option (Int32))) (v6_1 : Int32) (F : Nat) (g_plan_houses : Int32) (g_plan_reach : Int32) (g_plan_x : Nat → Int32) (g_plan_y : Nat → Int32) (g_plan_high : Nat → Int32) (g_scene_cells : Nat → Int32) (r_10 : Int32) (p1 : Int32) : Nat → Int32 → Int32 → Int32 → Int32 → Option (Int32)
  | 0, _, _, _, _ => none
  | n + 1, v8_12, v5_13, v4_14, v3_15 =>
    if 40 < v8_12 then
      k_12 (v6_1 + 1) v5_13 v4_14 v3_15
    else
      xb_b1 (fX0_underTopped F g_plan_houses g_plan_reach g_plan_x g_plan_y g_plan_high g_scene_cells v6_1 v8_12) fun r_17 =>
      if (r_10 ||| r_17) = p1 then
        if v3_15 = 0 then
          fX0_toppings_75 v5_13 v6_1 (fX0_toppings_36 k_12 v6_1 F g_plan_houses g_plan_reach g_plan_x g_plan_y g_plan_high g_scene_cells r_10 p1 n) v8_12 ((100 * v6_1) + v8_12) v3_15
        else
          fX0_toppings_75 v5_13 v6_1 (fX0_toppings_36 k_12 v6_1 F g_plan_houses g_plan_reach g_plan_x g_plan_y g_plan_high g_scene_cells r_10 p1 n) v8_12 v4_14 v3_15
      else
        fX0_toppings_89 (fX0_toppings_36 k_12 v6_1 F g_plan_houses g_plan_reach g_plan_x g_plan_y g_plan_high g_scene_cells r_10 p1 n) v8_12 v5_13 v4_14 v3_15
def fX0_toppings_12 (g_scene_cells : Nat → Int32) (p2 : Int32) (F : Nat) (g_plan_houses : Int32) (g_plan_reach : Int32) (g_plan_x : Nat → Int32) (g_plan_y : Nat → Int32) (g_plan_high : Nat → Int32) (p1 : Int32) : Nat → Int32 → Int32 → Int32 → Int32 → Option (Int32)
  | 0, _, _, _, _ => none
  | n + 1, v6_1, v5_2, v4_3, v3_4 =>
    xb_b1 (fX3_trees g_scene_cells) fun r_5 =>
    if r_5 ≤ v6_1 then
      if p2 = 0 then
        some v3_4
      else
        if p2 = 1 then
          some v4_3
        else
          some v5_2
    else
      xb_b1 (fX0_coveredBut F g_plan_houses g_plan_reach g_plan_x g_plan_y g_plan_high g_scene_cells v6_1 0) fun r_10 =>
      fX0_toppings_36 (fX0_toppings_12 g_scene_cells p2 F g_plan_houses g_plan_reach g_plan_x g_plan_y g_plan_high p1 n) v6_1 F g_plan_houses g_plan_reach g_plan_x g_plan_y g_plan_high g_scene_cells r_10 p1 F 1 v5_2 v4_3 v3_4
def fX0_toppings (F : Nat) (g_plan_houses : Int32) (g_plan_reach : Int32) (g_plan_x : Nat → Int32) (g_plan_y : Nat → Int32) (g_plan_high : Nat → Int32) (g_scene_cells : Nat → Int32) (p1 : Int32) (p2 : Int32) : Option (Int32) :=
  fX0_toppings_12 g_scene_cells p2 F g_plan_houses g_plan_reach g_plan_x g_plan_y g_plan_high p1 F 0 0 (-9) 0

def fX5_whose (F : Nat) (g_seen : Int32) (g_plan_houses : Int32) (g_plan_reach : Int32) (g_plan_x : Nat → Int32) (g_plan_y : Nat → Int32) (g_plan_high : Nat → Int32) (g_scene_cells : Nat → Int32) (p1 : Int32) : Option (Int32) :=
  xb_b1 (fX5_isWithin p1 0 2) fun r_1 =>
  if r_1 = 0 then
    some (-1)
  else
    xb_b1 (fX0_toppings F g_plan_houses g_plan_reach g_plan_x g_plan_y g_plan_high g_scene_cells g_seen p1) fun r_4 =>
    some r_4

def fX5_asTree (g_asked : Int64) (g_scene_cells : Nat → Int32) (p1 : Int32) : Option (Int32 × Int64) :=
  xb_let (g_asked + 1) fun g_1 =>
  xb_b1 (fX3_high g_scene_cells p1) fun r_2 =>
  some (r_2, g_1)

def fX5_asOak (F : Nat) (g_asked : Int64) (g_plan_houses : Int32) (g_plan_reach : Int32) (g_plan_x : Nat → Int32) (g_plan_y : Nat → Int32) (g_plan_high : Nat → Int32) (g_scene_cells : Nat → Int32) (p1 : Int32) : Option (Int32 × Int64) :=
  xb_let (g_asked + 10) fun g_1 =>
  xb_b2 (fX5_asTree g_1 g_scene_cells p1) fun r_2 g_asked_3 =>
  xb_b1 (fX0_under F g_plan_houses g_plan_reach g_plan_x g_plan_y g_plan_high g_scene_cells p1 0) fun r_5 =>
  xb_b1 (fJ6_bitCount_0f7a4 r_5) fun r_7 =>
  some ((r_2 + r_7), g_asked_3)

def fX5_asPoplar (g_asked : Int64) (g_scene_cells : Nat → Int32) (p1 : Int32) : Option (Int32 × Int64) :=
  xb_let (g_asked + 100) fun g_1 =>
  xb_b2 (fX5_asTree g_1 g_scene_cells p1) fun r_2 g_asked_3 =>
  xb_b1 (fX3_x g_scene_cells p1) fun r_5 =>
  some ((r_2 - r_5), g_asked_3)

def fX5_asAsh (F : Nat) (g_asked : Int64) (g_plan_houses : Int32) (g_plan_reach : Int32) (g_plan_x : Nat → Int32) (g_plan_y : Nat → Int32) (g_plan_high : Nat → Int32) (g_scene_cells : Nat → Int32) (p1 : Int32) : Option (Int32 × Int64) :=
  xb_let (g_asked + 1000) fun g_1 =>
  xb_b2 (fX5_asOak F g_1 g_plan_houses g_plan_reach g_plan_x g_plan_y g_plan_high g_scene_cells p1) fun r_2 g_asked_3 =>
  some ((r_2 * 2), g_asked_3)

def fX5_asSapling (g_asked : Int64) (g_scene_cells : Nat → Int32) (p1 : Int32) : Option (Int32 × Int64) :=
  xb_let (g_asked + 10000) fun g_1 =>
  xb_b2 (fX5_asPoplar g_1 g_scene_cells p1) fun r_2 g_asked_3 =>
  xb_b1 (fX3_grows g_scene_cells p1) fun r_5 =>
  some ((r_2 + r_5), g_asked_3)

def fX5_asElm (g_asked : Int64) (g_scene_cells : Nat → Int32) (p1 : Int32) : Option (Int32 × Int64) :=
  xb_let (g_asked + 100000) fun g_1 =>
  xb_b2 (fX5_asTree g_1 g_scene_cells p1) fun r_2 g_asked_3 =>
  xb_in 0 43 <|
  some ((r_2 + (g_scene_cells (Int32.toNatClampNeg 0))), g_asked_3)

def fX5_mark (F : Nat) (g_asked : Int64) (g_plan_houses : Int32) (g_plan_reach : Int32) (g_plan_x : Nat → Int32) (g_plan_y : Nat → Int32) (g_plan_high : Nat → Int32) (g_scene_cells : Nat → Int32) (p1 : Int32) (p2 : Int32) : Option (Int32 × Int64) :=
  xb_b1 (fX5_isTree g_scene_cells p2) fun r_1 =>
  if r_1 = 0 then
    some ((-1000000), g_asked)
  else
    if p1 = 0 then
      xb_b2 (fX5_asTree g_asked g_scene_cells p2) fun r_4 g_asked_5 =>
      some (r_4, g_asked_5)
    else if p1 = 1 then
      xb_b2 (fX5_asOak F g_asked g_plan_houses g_plan_reach g_plan_x g_plan_y g_plan_high g_scene_cells p2) fun r_7 g_asked_8 =>
      some (r_7, g_asked_8)
    else if p1 = 2 then
      xb_b2 (fX5_asPoplar g_asked g_scene_cells p2) fun r_10 g_asked_11 =>
      some (r_10, g_asked_11)
    else if p1 = 3 then
      xb_b2 (fX5_asAsh F g_asked g_plan_houses g_plan_reach g_plan_x g_plan_y g_plan_high g_scene_cells p2) fun r_13 g_asked_14 =>
      some (r_13, g_asked_14)
    else if p1 = 4 then
      xb_b2 (fX5_asSapling g_asked g_scene_cells p2) fun r_16 g_asked_17 =>
      some (r_16, g_asked_17)
    else if p1 = 5 then
      xb_b2 (fX5_asElm g_asked g_scene_cells p2) fun r_19 g_asked_20 =>
      some (r_19, g_asked_20)
    else 
    some ((-1000000), g_asked)

def fX3_become (g_cells : Nat → Int32) (g_past : Nat → Int32) (g_o1_known : Int32) (g_o1_next : Int32) (g_o1_cells : Nat → Int32) (g_o1_past : Nat → Int32) : Option (Int32 × Int32 × (Nat → Int32) × (Nat → Int32)) :=
  xb_cp 0 0 43 43 43 <|
  xb_cp 0 0 430 430 430 <|
  some (g_o1_known, g_o1_next, (va_cpy g_o1_cells g_cells (Int32.toNatClampNeg 0) (Int32.toNatClampNeg 0) (Int32.toNatClampNeg 43)), (va_cpy g_o1_past g_past (Int32.toNatClampNeg 0) (Int32.toNatClampNeg 0) (Int32.toNatClampNeg 430)))

def fX5_keep (g_scene_known : Int32) (g_scene_next : Int32) (g_scene_cells : Nat → Int32) (g_scene_past : Nat → Int32) (g_images_im0_known : Int32) (g_images_im0_next : Int32) (g_images_im0_cells : Nat → Int32) (g_images_im0_past : Nat → Int32) (g_images_im1_known : Int32) (g_images_im1_next : Int32) (g_images_im1_cells : Nat → Int32) (g_images_im1_past : Nat → Int32) (g_kept : Nat → Int32) (p1 : Int32) : Option (Int32 × Int32 × Int32 × (Nat → Int32) × (Nat → Int32) × Int32 × Int32 × (Nat → Int32) × (Nat → Int32) × (Nat → Int32)) :=
  xb_b1 (fX5_isWithin p1 0 1) fun r_1 =>
  if r_1 = 0 then
    some ((-1), g_images_im0_known, g_images_im0_next, g_images_im0_cells, g_images_im0_past, g_images_im1_known, g_images_im1_next, g_images_im1_cells, g_images_im1_past, g_kept)
  else
    if p1 = 0 then
      xb_b4 (fX3_become g_images_im0_cells g_images_im0_past g_scene_known g_scene_next g_scene_cells g_scene_past) fun g_images_im0_known_4 g_images_im0_next_5 g_images_im0_cells_6 g_images_im0_past_7 =>
      xb_in p1 2 <|
      xb_in 0 43 <|
      some ((g_scene_cells (Int32.toNatClampNeg 0)), g_images_im0_known_4, g_images_im0_next_5, g_images_im0_cells_6, g_images_im0_past_7, g_images_im1_known, g_images_im1_next, g_images_im1_cells, g_images_im1_past, (upd g_kept (Int32.toNatClampNeg p1) 1))
    else if p1 = 1 then
      xb_b4 (fX3_become g_images_im1_cells g_images_im1_past g_scene_known g_scene_next g_scene_cells g_scene_past) fun g_images_im1_known_11 g_images_im1_next_12 g_images_im1_cells_13 g_images_im1_past_14 =>
      xb_in p1 2 <|
      xb_in 0 43 <|
      some ((g_scene_cells (Int32.toNatClampNeg 0)), g_images_im0_known, g_images_im0_next, g_images_im0_cells, g_images_im0_past, g_images_im1_known_11, g_images_im1_next_12, g_images_im1_cells_13, g_images_im1_past_14, (upd g_kept (Int32.toNatClampNeg p1) 1))
    else none

def fX5_back (g_scene_known : Int32) (g_scene_next : Int32) (g_scene_cells : Nat → Int32) (g_scene_past : Nat → Int32) (g_images_im0_known : Int32) (g_images_im0_next : Int32) (g_images_im0_cells : Nat → Int32) (g_images_im0_past : Nat → Int32) (g_images_im1_known : Int32) (g_images_im1_next : Int32) (g_images_im1_cells : Nat → Int32) (g_images_im1_past : Nat → Int32) (g_kept : Nat → Int32) (p1 : Int32) : Option (Int32 × Int32 × Int32 × (Nat → Int32) × (Nat → Int32)) :=
  xb_b1 (fX5_isWithin p1 0 1) fun r_1 =>
  if r_1 = 0 then
    some ((-1), g_scene_known, g_scene_next, g_scene_cells, g_scene_past)
  else
    xb_in p1 2 <|
    if (g_kept (Int32.toNatClampNeg p1)) = 0 then
      some ((-2), g_scene_known, g_scene_next, g_scene_cells, g_scene_past)
    else
      if p1 = 0 then
        xb_b4 (fX3_become g_scene_cells g_scene_past g_images_im0_known g_images_im0_next g_images_im0_cells g_images_im0_past) fun g_scene_known_6 g_scene_next_7 g_scene_cells_8 g_scene_past_9 =>
        xb_in 0 43 <|
        some ((g_scene_cells_8 (Int32.toNatClampNeg 0)), g_scene_known_6, g_scene_next_7, g_scene_cells_8, g_scene_past_9)
      else if p1 = 1 then
        xb_b4 (fX3_become g_scene_cells g_scene_past g_images_im1_known g_images_im1_next g_images_im1_cells g_images_im1_past) fun g_scene_known_12 g_scene_next_13 g_scene_cells_14 g_scene_past_15 =>
        xb_in 0 43 <|
        some ((g_scene_cells_14 (Int32.toNatClampNeg 0)), g_scene_known_12, g_scene_next_13, g_scene_cells_14, g_scene_past_15)
      else none

def fX5_count (g_reader_length : Int32) (g_plan_houses : Int32) (g_plan_reach : Int32) (g_plan_used : Int32) (g_scene_known : Int32) (g_scene_cells : Nat → Int32) (p1 : Int32) : Option (Int32) :=
  if p1 = 0 then
    xb_b1 (fX3_trees g_scene_cells) fun r_1 =>
    some r_1
  else if p1 = 1 then
    some g_plan_houses
  else if p1 = 2 then
    some g_plan_reach
  else if p1 = 3 then
    some g_plan_used
  else if p1 = 4 then
    some g_scene_known
  else if p1 = 5 then
    some g_reader_length
  else 
  some (-1)

def fX5_trace (g_asked : Int64) : Option (Int64) :=
  some g_asked

def fX6_in (p0 : Int64) (p2 : Int64) (p4 : Int64) : Option (Int32) :=
  if (lg_cmp p0 p2) < 0 then
    some 0
  else
    if 0 < (lg_cmp p0 p4) then
      some 0
    else
      some 1

def fX6_plain_2 : Nat → Int32 → (Nat → Int32) → Option ((Nat → Int32))
  | 0, _, _ => none
  | n + 1, v1_1, g_read_2 =>
    if 51 ≤ v1_1 then
      xb_in 2 51 <|
      xb_in 3 51 <|
      some (upd (upd g_read_2 (Int32.toNatClampNeg 2) 3) (Int32.toNatClampNeg 3) 9)
    else
      xb_in v1_1 51 <|
      (fX6_plain_2 n) (v1_1 + 1) (upd g_read_2 (Int32.toNatClampNeg v1_1) 0)
def fX6_plain (F : Nat) (g_read : Nat → Int32) : Option ((Nat → Int32)) :=
  fX6_plain_2 F 0 g_read

def fX6_takes_73 (k_61 : (Int32 → (Nat → Int32) → Option (Int32 × Int32 × (Nat → Int32) × (Nat → Int32) × (Nat → Int32)))) (v1_10 : Int32) (g_field_2 : Nat → Int32) : Nat → Int32 → (Nat → Int32) → Option (Int32 × Int32 × (Nat → Int32) × (Nat → Int32) × (Nat → Int32))
  | 0, _, _ => none
  | n + 1, v2_16, g_now_17 =>
    if 4 ≤ v2_16 then
      k_61 (v1_10 + 1) g_now_17
    else
      xb_in ((5 + (4 * v1_10)) + v2_16) 51 <|
      xb_let (g_field_2 (Int32.toNatClampNeg ((5 + (4 * v1_10)) + v2_16))) fun x_20 =>
      xb_in ((2 + (5 * v1_10)) + v2_16) 43 <|
      (fX6_takes_73 k_61 v1_10 g_field_2 n) (v2_16 + 1) (upd g_now_17 (Int32.toNatClampNeg ((2 + (5 * v1_10)) + v2_16)) x_20)
def fX6_takes_61 (g_field_2 : Nat → Int32) (g_kept : Nat → Int32) (F : Nat) : Nat → Int32 → (Nat → Int32) → Option (Int32 × Int32 × (Nat → Int32) × (Nat → Int32) × (Nat → Int32))
  | 0, _, _ => none
  | n + 1, v1_10, g_now_11 =>
    xb_in 0 51 <|
    if (g_field_2 (Int32.toNatClampNeg 0)) ≤ v1_10 then
      xb_in 0 950 <|
      xb_in 475 950 <|
      some (0, (-9), g_field_2, g_now_11, (upd (upd g_kept (Int32.toNatClampNeg 0) 0) (Int32.toNatClampNeg 475) 0))
    else
      fX6_takes_73 (fX6_takes_61 g_field_2 g_kept F n) v1_10 g_field_2 F 0 g_now_11
def fX6_takes_28 (g_field_2 : Nat → Int32) (g_kept : Nat → Int32) (F : Nat) : Nat → Int32 → (Nat → Int32) → Option (Int32 × Int32 × (Nat → Int32) × (Nat → Int32) × (Nat → Int32))
  | 0, _, _ => none
  | n + 1, v1_4, g_now_5 =>
    if 43 ≤ v1_4 then
      xb_in 0 51 <|
      xb_let (g_field_2 (Int32.toNatClampNeg 0)) fun x_8 =>
      xb_in 1 43 <|
      fX6_takes_61 g_field_2 g_kept F F 0 (upd g_now_5 (Int32.toNatClampNeg 1) x_8)
    else
      xb_in v1_4 43 <|
      (fX6_takes_28 g_field_2 g_kept F n) (v1_4 + 1) (upd g_now_5 (Int32.toNatClampNeg v1_4) 0)
def fX6_takes_2 (g_kept : Nat → Int32) (F : Nat) (g_now : Nat → Int32) (g_read : Nat → Int32) : Nat → Int32 → (Nat → Int32) → Option (Int32 × Int32 × (Nat → Int32) × (Nat → Int32) × (Nat → Int32))
  | 0, _, _ => none
  | n + 1, v1_1, g_field_2 =>
    if 51 ≤ v1_1 then
      fX6_takes_28 g_field_2 g_kept F F 0 g_now
    else
      xb_in v1_1 51 <|
      xb_let (g_read (Int32.toNatClampNeg v1_1)) fun x_24 =>
      xb_in v1_1 51 <|
      (fX6_takes_2 g_kept F g_now g_read n) (v1_1 + 1) (upd g_field_2 (Int32.toNatClampNeg v1_1) x_24)
def fX6_takes (F : Nat) (g_read : Nat → Int32) (g_field : Nat → Int32) (g_now : Nat → Int32) (g_kept : Nat → Int32) : Option (Int32 × Int32 × (Nat → Int32) × (Nat → Int32) × (Nat → Int32)) :=
  fX6_takes_2 g_kept F g_now g_read F 0 g_field

def fX6_type (g_size : Int32) (g_text : Nat → Int32) (p1 : Int32) : Option (Int32 × Int32 × (Nat → Int32)) :=
  xb_b1 (fX6_in (Int32.toInt64 p1) 0 255) fun r_1 =>
  if r_1 = 0 then
    some ((-1), g_size, g_text)
  else
    if g_size = 150 then
      some ((-3), g_size, g_text)
    else
      xb_in g_size 150 <|
      xb_let (g_size + 1) fun g_6 =>
      some (g_6, g_6, (upd g_text (Int32.toNatClampNeg g_size) p1))

def fX6_clear (g_size : Int32) : Option (Int32 × Int32) :=
  some (g_size, 0)

def fX6_isLetter (p0 : Int32) : Option (Int32) :=
  xb_b1 (fX6_in (Int32.toInt64 p0) 97 122) fun r_1 =>
  xb_bool r_1 <|
  some r_1

def fX6_isFigure (p0 : Int32) : Option (Int32) :=
  xb_b1 (fX6_in (Int32.toInt64 p0) 48 57) fun r_1 =>
  xb_bool r_1 <|
  some r_1

def fX6_readLetters_107 (g_at_3 : Int32) (s1_4 : Int32) (g_2 : Int32) : Option (Int32 × Int32 × Int32) :=
  some (g_at_3, s1_4, g_2)
def fX6_readLetters_106 (g_at_3 : Int32) (g_2 : Int32) : Option (Int32 × Int32 × Int32) :=
  fX6_readLetters_107 g_at_3 4 g_2
def fX6_readLetters_102 (g_at_3 : Int32) (g_2 : Int32) : Option (Int32 × Int32 × Int32) :=
  fX6_readLetters_107 g_at_3 1 g_2
def fX6_readLetters_52 (g_at_3 : Int32) (g_begin : Int32) (g_2 : Int32) : Option (Int32 × Int32 × Int32) :=
  if (g_at_3 - g_begin) = 1 then
    if g_2 = 116 then
      fX6_readLetters_102 g_at_3 g_2
    else
      if g_2 = 104 then
        fX6_readLetters_102 g_at_3 g_2
      else
        if g_2 = 114 then
          fX6_readLetters_102 g_at_3 g_2
        else
          if g_2 = 117 then
            fX6_readLetters_102 g_at_3 g_2
          else
            fX6_readLetters_106 g_at_3 g_2
  else
    fX6_readLetters_106 g_at_3 g_2
def fX6_readLetters_13 (g_size : Int32) (g_begin : Int32) (g_2 : Int32) (g_text : Nat → Int32) : Nat → Int32 → Option (Int32 × Int32 × Int32)
  | 0, _ => none
  | n + 1, g_at_3 =>
    if g_size ≤ g_at_3 then
      fX6_readLetters_52 g_at_3 g_begin g_2
    else
      xb_in g_at_3 150 <|
      xb_b1 (fX6_isLetter (g_text (Int32.toNatClampNeg g_at_3))) fun r_12 =>
      if r_12 = 0 then
        fX6_readLetters_52 g_at_3 g_begin g_2
      else
        xb_let (g_at_3 + 1) fun g_15 =>
        (fX6_readLetters_13 g_size g_begin g_2 g_text n) g_15
def fX6_readLetters (F : Nat) (g_size : Int32) (g_at : Int32) (g_begin : Int32) (g_text : Nat → Int32) : Option (Int32 × Int32 × Int32) :=
  xb_in g_at 150 <|
  xb_let (g_text (Int32.toNatClampNeg g_at)) fun g_2 =>
  fX6_readLetters_13 g_size g_begin g_2 g_text F g_at

def fX6_readNumber_108 (g_at_2 : Int32) (s1_3 : Int32) (v1_1 : Int32) : Option (Int32 × Int32 × Int32) :=
  some (g_at_2, s1_3, v1_1)
def fX6_readNumber_103 (g_at_2 : Int32) (v1_1 : Int32) : Option (Int32 × Int32 × Int32) :=
  fX6_readNumber_108 g_at_2 4 v1_1
def fX6_readNumber_107 (g_at_2 : Int32) (v1_1 : Int32) : Option (Int32 × Int32 × Int32) :=
  fX6_readNumber_108 g_at_2 2 v1_1
def fX6_readNumber_69 (v1_1 : Int32) (g_at_2 : Int32) (g_begin : Int32) (g_text : Nat → Int32) : Option (Int32 × Int32 × Int32) :=
  if 99 < v1_1 then
    fX6_readNumber_103 g_at_2 v1_1
  else
    if (g_at_2 - g_begin) ≤ 1 then
      fX6_readNumber_107 g_at_2 v1_1
    else
      xb_in g_begin 150 <|
      if (g_text (Int32.toNatClampNeg g_begin)) = 48 then
        fX6_readNumber_103 g_at_2 v1_1
      else
        fX6_readNumber_107 g_at_2 v1_1
def fX6_readNumber_55 (g_at_2 : Int32) (k_2 : (Int32 → Int32 → Option (Int32 × Int32 × Int32))) (s0_13 : Int32) : Option (Int32 × Int32 × Int32) :=
  xb_let (g_at_2 + 1) fun g_14 =>
  k_2 s0_13 g_14
def fX6_readNumber_2 (g_size : Int32) (g_begin : Int32) (g_text : Nat → Int32) : Nat → Int32 → Int32 → Option (Int32 × Int32 × Int32)
  | 0, _, _ => none
  | n + 1, v1_1, g_at_2 =>
    if g_size ≤ g_at_2 then
      fX6_readNumber_69 v1_1 g_at_2 g_begin g_text
    else
      xb_in g_at_2 150 <|
      xb_b1 (fX6_isFigure (g_text (Int32.toNatClampNeg g_at_2))) fun r_10 =>
      if r_10 = 0 then
        fX6_readNumber_69 v1_1 g_at_2 g_begin g_text
      else
        if v1_1 ≤ 99 then
          xb_in g_at_2 150 <|
          fX6_readNumber_55 g_at_2 (fX6_readNumber_2 g_size g_begin g_text n) (((10 * v1_1) + (g_text (Int32.toNatClampNeg g_at_2))) - 48)
        else
          fX6_readNumber_55 g_at_2 (fX6_readNumber_2 g_size g_begin g_text n) v1_1
def fX6_readNumber (F : Nat) (g_size : Int32) (g_at : Int32) (g_begin : Int32) (g_text : Nat → Int32) : Option (Int32 × Int32 × Int32) :=
  fX6_readNumber_2 g_size g_begin g_text F 0 g_at

def fX6_reads_150 (g_at_1 : Int32) (s2_13 : Int32) (s1_12 : Int32) (g_told : Int32) : Option (Int32 × Int32 × Int32 × Int32) :=
  xb_let (g_at_1 + s2_13) fun g_14 =>
  some (g_14, g_at_1, s1_12, g_told)
def fX6_reads_129 (s1_12 : Int32) (g_at_1 : Int32) (g_told : Int32) : Option (Int32 × Int32 × Int32 × Int32) :=
  if s1_12 = 3 then
    fX6_reads_150 g_at_1 1 s1_12 g_told
  else
    fX6_reads_150 g_at_1 0 s1_12 g_told
def fX6_reads_38 (g_at_1 : Int32) (g_size : Int32) (g_told : Int32) (g_text : Nat → Int32) (F : Nat) : Option (Int32 × Int32 × Int32 × Int32) :=
  if g_at_1 = g_size then
    some (g_at_1, g_at_1, 0, g_told)
  else
    xb_in g_at_1 150 <|
    xb_b1 (fX6_isLetter (g_text (Int32.toNatClampNeg g_at_1))) fun r_4 =>
    if r_4 = 0 then
      xb_in g_at_1 150 <|
      xb_b1 (fX6_isFigure (g_text (Int32.toNatClampNeg g_at_1))) fun r_8 =>
      if r_8 = 0 then
        xb_in g_at_1 150 <|
        if (g_text (Int32.toNatClampNeg g_at_1)) = 59 then
          fX6_reads_129 3 g_at_1 g_told
        else
          fX6_reads_129 4 g_at_1 g_told
      else
        xb_b3 (fX6_readNumber F g_size g_at_1 g_at_1 g_text) fun g_at_17 g_token_18 g_told_19 =>
        some (g_at_17, g_at_1, g_token_18, g_told_19)
    else
      xb_b3 (fX6_readLetters F g_size g_at_1 g_at_1 g_text) fun g_at_21 g_token_22 g_told_23 =>
      some (g_at_21, g_at_1, g_token_22, g_told_23)
def fX6_reads_0 (g_size : Int32) (g_told : Int32) (g_text : Nat → Int32) (F : Nat) : Nat → Int32 → Option (Int32 × Int32 × Int32 × Int32)
  | 0, _ => none
  | n + 1, g_at_1 =>
    if g_size ≤ g_at_1 then
      fX6_reads_38 g_at_1 g_size g_told g_text F
    else
      xb_in g_at_1 150 <|
      if (g_text (Int32.toNatClampNeg g_at_1)) = 32 then
        xb_let (g_at_1 + 1) fun g_28 =>
        (fX6_reads_0 g_size g_told g_text F n) g_28
      else
        fX6_reads_38 g_at_1 g_size g_told g_text F
def fX6_reads (F : Nat) (g_size : Int32) (g_at : Int32) (g_told : Int32) (g_text : Nat → Int32) : Option (Int32 × Int32 × Int32 × Int32) :=
  fX6_reads_0 g_size g_told g_text F F g_at

def fX6_ends (F : Nat) (g_size : Int32) (g_at : Int32) (g_told : Int32) (g_text : Nat → Int32) : Option (Int32 × Int32 × Int32 × Int32 × Int32) :=
  xb_b4 (fX6_reads F g_size g_at g_told g_text) fun g_at_1 g_begin_2 g_token_3 g_told_4 =>
  if g_token_3 = 3 then
    some (1, g_at_1, g_begin_2, g_token_3, g_told_4)
  else
    some (0, g_at_1, g_begin_2, g_token_3, g_told_4)

def fX6_number_57 (p1 : Int32) (s0_6 : Int32) (g_at_1 : Int32) (g_begin_2 : Int32) (g_token_3 : Int32) (g_told_4 : Int32) (g_read : Nat → Int32) (s2_7 : Int32) : Option (Int32 × Int32 × Int32 × Int32 × Int32 × (Nat → Int32)) :=
  xb_in p1 51 <|
  xb_bool s0_6 <|
  some (s0_6, g_at_1, g_begin_2, g_token_3, g_told_4, (upd g_read (Int32.toNatClampNeg p1) s2_7))
def fX6_number_32 (s0_6 : Int32) (p1 : Int32) (g_at_1 : Int32) (g_begin_2 : Int32) (g_token_3 : Int32) (g_told_4 : Int32) (g_read : Nat → Int32) : Option (Int32 × Int32 × Int32 × Int32 × Int32 × (Nat → Int32)) :=
  if s0_6 = 0 then
    xb_in p1 51 <|
    fX6_number_57 p1 s0_6 g_at_1 g_begin_2 g_token_3 g_told_4 g_read (g_read (Int32.toNatClampNeg p1))
  else
    fX6_number_57 p1 s0_6 g_at_1 g_begin_2 g_token_3 g_told_4 g_read g_told_4
def fX6_number_31 (p1 : Int32) (g_at_1 : Int32) (g_begin_2 : Int32) (g_token_3 : Int32) (g_told_4 : Int32) (g_read : Nat → Int32) : Option (Int32 × Int32 × Int32 × Int32 × Int32 × (Nat → Int32)) :=
  fX6_number_32 0 p1 g_at_1 g_begin_2 g_token_3 g_told_4 g_read
def fX6_number (F : Nat) (g_size : Int32) (g_at : Int32) (g_told : Int32) (g_text : Nat → Int32) (g_read : Nat → Int32) (p1 : Int32) (p2 : Int32) (p3 : Int32) : Option (Int32 × Int32 × Int32 × Int32 × Int32 × (Nat → Int32)) :=
  xb_b4 (fX6_reads F g_size g_at g_told g_text) fun g_at_1 g_begin_2 g_token_3 g_told_4 =>
  if g_token_3 = 2 then
    xb_b1 (fX6_in (Int32.toInt64 g_told_4) (Int32.toInt64 p2) (Int32.toInt64 p3)) fun r_13 =>
    if r_13 = 0 then
      fX6_number_31 p1 g_at_1 g_begin_2 g_token_3 g_told_4 g_read
    else
      fX6_number_32 1 p1 g_at_1 g_begin_2 g_token_3 g_told_4 g_read
  else
    fX6_number_31 p1 g_at_1 g_begin_2 g_token_3 g_told_4 g_read

def fX6_readTree (F : Nat) (g_size : Int32) (g_at : Int32) (g_begin : Int32) (g_token : Int32) (g_told : Int32) (g_text : Nat → Int32) (g_read : Nat → Int32) : Option (Int32 × Int32 × Int32 × Int32 × Int32 × (Nat → Int32)) :=
  xb_in 0 51 <|
  xb_let (5 + (4 * (g_read (Int32.toNatClampNeg 0)))) fun v1_2 =>
  xb_in 0 51 <|
  if (g_read (Int32.toNatClampNeg 0)) = 7 then
    some (0, g_at, g_begin, g_token, g_told, g_read)
  else
    xb_b6 (fX6_number F g_size g_at g_told g_text g_read v1_2 0 9) fun r_5 g_at_6 g_begin_7 g_token_8 g_told_9 g_read_10 =>
    if r_5 = 0 then
      some (0, g_at_6, g_begin_7, g_token_8, g_told_9, g_read_10)
    else
      xb_b6 (fX6_number F g_size g_at_6 g_told_9 g_text g_read_10 (v1_2 + 1) 0 9) fun r_13 g_at_14 g_begin_15 g_token_16 g_told_17 g_read_18 =>
      if r_13 = 0 then
        some (0, g_at_14, g_begin_15, g_token_16, g_told_17, g_read_18)
      else
        xb_b6 (fX6_number F g_size g_at_14 g_told_17 g_text g_read_18 (v1_2 + 2) 1 60) fun r_21 g_at_22 g_begin_23 g_token_24 g_told_25 g_read_26 =>
        if r_21 = 0 then
          some (0, g_at_22, g_begin_23, g_token_24, g_told_25, g_read_26)
        else
          xb_b6 (fX6_number F g_size g_at_22 g_told_25 g_text g_read_26 (v1_2 + 3) 0 5) fun r_29 g_at_30 g_begin_31 g_token_32 g_told_33 g_read_34 =>
          if r_29 = 0 then
            some (0, g_at_30, g_begin_31, g_token_32, g_told_33, g_read_34)
          else
            xb_in 0 51 <|
            xb_let ((g_read_34 (Int32.toNatClampNeg 0)) + 1) fun x_38 =>
            xb_in 0 51 <|
            xb_b5 (fX6_ends F g_size g_at_30 g_told_33 g_text) fun r_40 g_at_41 g_begin_42 g_token_43 g_told_44 =>
            xb_bool r_40 <|
            some (r_40, g_at_41, g_begin_42, g_token_43, g_told_44, (upd g_read_34 (Int32.toNatClampNeg 0) x_38))

def fX6_readHouse (F : Nat) (g_size : Int32) (g_at : Int32) (g_begin : Int32) (g_token : Int32) (g_told : Int32) (g_text : Nat → Int32) (g_read : Nat → Int32) : Option (Int32 × Int32 × Int32 × Int32 × Int32 × (Nat → Int32)) :=
  xb_in 1 51 <|
  xb_let (33 + (3 * (g_read (Int32.toNatClampNeg 1)))) fun v1_2 =>
  xb_in 1 51 <|
  if (g_read (Int32.toNatClampNeg 1)) = 6 then
    some (0, g_at, g_begin, g_token, g_told, g_read)
  else
    xb_b6 (fX6_number F g_size g_at g_told g_text g_read v1_2 0 9) fun r_5 g_at_6 g_begin_7 g_token_8 g_told_9 g_read_10 =>
    if r_5 = 0 then
      some (0, g_at_6, g_begin_7, g_token_8, g_told_9, g_read_10)
    else
      xb_b6 (fX6_number F g_size g_at_6 g_told_9 g_text g_read_10 (v1_2 + 1) 0 9) fun r_13 g_at_14 g_begin_15 g_token_16 g_told_17 g_read_18 =>
      if r_13 = 0 then
        some (0, g_at_14, g_begin_15, g_token_16, g_told_17, g_read_18)
      else
        xb_b6 (fX6_number F g_size g_at_14 g_told_17 g_text g_read_18 (v1_2 + 2) 1 60) fun r_21 g_at_22 g_begin_23 g_token_24 g_told_25 g_read_26 =>
        if r_21 = 0 then
          some (0, g_at_22, g_begin_23, g_token_24, g_told_25, g_read_26)
        else
          xb_in 1 51 <|
          xb_let ((g_read_26 (Int32.toNatClampNeg 1)) + 1) fun x_30 =>
          xb_in 1 51 <|
          xb_b5 (fX6_ends F g_size g_at_22 g_told_25 g_text) fun r_32 g_at_33 g_begin_34 g_token_35 g_told_36 =>
          xb_bool r_32 <|
          some (r_32, g_at_33, g_begin_34, g_token_35, g_told_36, (upd g_read_26 (Int32.toNatClampNeg 1) x_30))

def fX6_once (F : Nat) (g_size : Int32) (g_at : Int32) (g_begin : Int32) (g_token : Int32) (g_told : Int32) (g_text : Nat → Int32) (g_read : Nat → Int32) (p1 : Int32) (p2 : Int32) : Option (Int32 × Int32 × Int32 × Int32 × Int32 × (Nat → Int32)) :=
  xb_in 4 51 <|
  if ((g_read (Int32.toNatClampNeg 4)) &&& p1) = 0 then
    xb_b6 (fX6_number F g_size g_at g_told g_text g_read p2 1 9) fun r_3 g_at_4 g_begin_5 g_token_6 g_told_7 g_read_8 =>
    if r_3 = 0 then
      some (0, g_at_4, g_begin_5, g_token_6, g_told_7, g_read_8)
    else
      xb_in 4 51 <|
      xb_let ((g_read_8 (Int32.toNatClampNeg 4)) ||| p1) fun x_12 =>
      xb_in 4 51 <|
      xb_b5 (fX6_ends F g_size g_at_4 g_told_7 g_text) fun r_14 g_at_15 g_begin_16 g_token_17 g_told_18 =>
      xb_bool r_14 <|
      some (r_14, g_at_15, g_begin_16, g_token_17, g_told_18, (upd g_read_8 (Int32.toNatClampNeg 4) x_12))
  else
    some (0, g_at, g_begin, g_token, g_told, g_read)

def fX6_readItem (F : Nat) (g_size : Int32) (g_at : Int32) (g_begin : Int32) (g_token : Int32) (g_told : Int32) (g_text : Nat → Int32) (g_read : Nat → Int32) : Option (Int32 × Int32 × Int32 × Int32 × Int32 × (Nat → Int32)) :=
  if g_token = 1 then
    if g_told = 104 then
      xb_b6 (fX6_readHouse F g_size g_at g_begin g_token g_told g_text g_read) fun r_2 g_at_3 g_begin_4 g_token_5 g_told_6 g_read_7 =>
      xb_bool r_2 <|
      some (r_2, g_at_3, g_begin_4, g_token_5, g_told_6, g_read_7)
    else if g_told = 114 then
      xb_b6 (fX6_once F g_size g_at g_begin g_token g_told g_text g_read 1 2) fun r_10 g_at_11 g_begin_12 g_token_13 g_told_14 g_read_15 =>
      xb_bool r_10 <|
      some (r_10, g_at_11, g_begin_12, g_token_13, g_told_14, g_read_15)
    else if g_told = 116 then
      xb_b6 (fX6_readTree F g_size g_at g_begin g_token g_told g_text g_read) fun r_18 g_at_19 g_begin_20 g_token_21 g_told_22 g_read_23 =>
      xb_bool r_18 <|
      some (r_18, g_at_19, g_begin_20, g_token_21, g_told_22, g_read_23)
    else 
    xb_b6 (fX6_once F g_size g_at g_begin g_token g_told g_text g_read 2 3) fun r_26 g_at_27 g_begin_28 g_token_29 g_told_30 g_read_31 =>
    xb_bool r_26 <|
    some (r_26, g_at_27, g_begin_28, g_token_29, g_told_30, g_read_31)
  else
    some (0, g_at, g_begin, g_token, g_told, g_read)

def fX6_field_15 (F : Nat) (g_field : Nat → Int32) (g_now : Nat → Int32) (g_kept : Nat → Int32) (g_size : Int32) (g_text : Nat → Int32) (g_undos : Int32) (g_seen : Int32) : Nat → Int32 → Int32 → Int32 → Int32 → Int32 → (Nat → Int32) → Option (Int32 × Int32 × Int32 × Int32 × Int32 × Int32 × Int32 × Int32 × (Nat → Int32) × (Nat → Int32) × (Nat → Int32) × (Nat → Int32))
  | 0, _, _, _, _, _, _ => none
  | n + 1, v1_8, g_at_9, g_begin_10, g_token_11, g_told_12, g_read_13 =>
    if g_token_11 = 0 then
      xb_b5 (fX6_takes F g_read_13 g_field g_now g_kept) fun g_undos_15 g_seen_16 g_field_17 g_now_18 g_kept_19 =>
      some (v1_8, 0, g_at_9, g_begin_10, g_token_11, g_told_12, g_undos_15, g_seen_16, g_read_13, g_field_17, g_now_18, g_kept_19)
    else
      xb_b6 (fX6_readItem F g_size g_at_9 g_begin_10 g_token_11 g_told_12 g_text g_read_13) fun r_21 g_at_22 g_begin_23 g_token_24 g_told_25 g_read_26 =>
      if r_21 = 0 then
        some (((-10) - g_begin_23), g_size, g_at_22, g_begin_23, g_token_24, g_told_25, g_undos, g_seen, g_read_26, g_field, g_now, g_kept)
      else
        xb_b4 (fX6_reads F g_size g_at_22 g_told_25 g_text) fun g_at_29 g_begin_30 g_token_31 g_told_32 =>
        (fX6_field_15 F g_field g_now g_kept g_size g_text g_undos g_seen n) (v1_8 + 1) g_at_29 g_begin_30 g_token_31 g_told_32 g_read_26
def fX6_field (F : Nat) (g_size : Int32) (g_told : Int32) (g_undos : Int32) (g_seen : Int32) (g_text : Nat → Int32) (g_read : Nat → Int32) (g_field : Nat → Int32) (g_now : Nat → Int32) (g_kept : Nat → Int32) : Option (Int32 × Int32 × Int32 × Int32 × Int32 × Int32 × Int32 × Int32 × (Nat → Int32) × (Nat → Int32) × (Nat → Int32) × (Nat → Int32)) :=
  xb_b1 (fX6_plain F g_read) fun g_read_1 =>
  xb_b4 (fX6_reads F g_size 0 g_told g_text) fun g_at_3 g_begin_4 g_token_5 g_told_6 =>
  fX6_field_15 F g_field g_now g_kept g_size g_text g_undos g_seen F 0 g_at_3 g_begin_4 g_token_5 g_told_6 g_read_1

def fX6_isTree (g_now : Nat → Int32) (p1 : Int32) : Option (Int32) :=
  xb_in 1 43 <|
  xb_b1 (fX6_in (Int32.toInt64 p1) 0 (Int32.toInt64 ((g_now (Int32.toNatClampNeg 1)) - 1))) fun r_2 =>
  xb_bool r_2 <|
  some r_2

def fX6_isHouse (g_field : Nat → Int32) (p1 : Int32) : Option (Int32) :=
  xb_in 1 51 <|
  xb_b1 (fX6_in (Int32.toInt64 p1) 0 (Int32.toInt64 ((g_field (Int32.toNatClampNeg 1)) - 1))) fun r_2 =>
  xb_bool r_2 <|
  some r_2

def fX6_high (g_now : Nat → Int32) (p1 : Int32) : Option (Int32) :=
  xb_in ((2 + (5 * p1)) + 2) 43 <|
  some (g_now (Int32.toNatClampNeg ((2 + (5 * p1)) + 2)))

def fX6_isUsed (g_now : Nat → Int32) (p1 : Int32) : Option (Int32) :=
  xb_in ((2 + (5 * p1)) + 4) 43 <|
  if (g_now (Int32.toNatClampNeg ((2 + (5 * p1)) + 4))) ≤ 0 then
    some 0
  else
    some 1

def fX6_tall (g_field : Nat → Int32) (p1 : Int32) : Option (Int32) :=
  xb_in ((33 + (3 * p1)) + 2) 51 <|
  some (g_field (Int32.toNatClampNeg ((33 + (3 * p1)) + 2)))

def fX6_isNear (g_field : Nat → Int32) (p1 : Int32) (p2 : Int32) (p3 : Int32) : Option (Int32) :=
  xb_in (33 + (3 * p3)) 51 <|
  xb_let ((g_field (Int32.toNatClampNeg (33 + (3 * p3)))) - p1) fun v4_2 =>
  xb_in ((33 + (3 * p3)) + 1) 51 <|
  xb_let ((g_field (Int32.toNatClampNeg ((33 + (3 * p3)) + 1))) - p2) fun v5_4 =>
  xb_in 2 51 <|
  xb_in 2 51 <|
  if ((g_field (Int32.toNatClampNeg 2)) * (g_field (Int32.toNatClampNeg 2))) < ((v4_2 * v4_2) + (v5_4 * v5_4)) then
    some 0
  else
    some 1

def fX6_isInReach (g_field : Nat → Int32) (g_now : Nat → Int32) (p1 : Int32) (p2 : Int32) : Option (Int32) :=
  xb_b1 (fX6_isUsed g_now p1) fun r_1 =>
  if r_1 = 0 then
    xb_in (2 + (5 * p1)) 43 <|
    xb_in ((2 + (5 * p1)) + 1) 43 <|
    xb_b1 (fX6_isNear g_field (g_now (Int32.toNatClampNeg (2 + (5 * p1)))) (g_now (Int32.toNatClampNeg ((2 + (5 * p1)) + 1))) p2) fun r_6 =>
    if r_6 = 0 then
      some 0
    else
      some 1
  else
    some 0

def fX6_covers (g_field : Nat → Int32) (g_now : Nat → Int32) (p1 : Int32) (p2 : Int32) : Option (Int32) :=
  xb_b1 (fX6_isInReach g_field g_now p1 p2) fun r_1 =>
  if r_1 = 0 then
    some 0
  else
    xb_b1 (fX6_high g_now p1) fun r_4 =>
    xb_b1 (fX6_tall g_field p2) fun r_6 =>
    if r_4 ≤ r_6 then
      some 0
    else
      some 1

def fX6_coveredBy_31 (v2_2 : Int32) (s1_7 : Int32) (k_4 : (Int32 → Int32 → Option (Int32))) (v3_1 : Int32) : Option (Int32) :=
  xb_let (v2_2 ||| s1_7) fun v2_8 =>
  k_4 (v3_1 + 1) v2_8
def fX6_coveredBy_4 (g_field : Nat → Int32) (g_now : Nat → Int32) (p1 : Int32) : Nat → Int32 → Int32 → Option (Int32)
  | 0, _, _ => none
  | n + 1, v3_1, v2_2 =>
    xb_in 1 51 <|
    if (g_field (Int32.toNatClampNeg 1)) ≤ v3_1 then
      some v2_2
    else
      xb_b1 (fX6_covers g_field g_now p1 v3_1) fun r_5 =>
      if r_5 = 0 then
        fX6_coveredBy_31 v2_2 0 (fX6_coveredBy_4 g_field g_now p1 n) v3_1
      else
        fX6_coveredBy_31 v2_2 (1 <<< (v3_1 &&& 31)) (fX6_coveredBy_4 g_field g_now p1 n) v3_1
def fX6_coveredBy (F : Nat) (g_field : Nat → Int32) (g_now : Nat → Int32) (p1 : Int32) : Option (Int32) :=
  fX6_coveredBy_4 g_field g_now p1 F 0 0

def fX6_covering_31 (v2_2 : Int32) (s1_7 : Int32) (k_4 : (Int32 → Int32 → Option (Int32))) (v3_1 : Int32) : Option (Int32) :=
  xb_let (v2_2 ||| s1_7) fun v2_8 =>
  k_4 (v3_1 + 1) v2_8
def fX6_covering_4 (g_now : Nat → Int32) (g_field : Nat → Int32) (p1 : Int32) : Nat → Int32 → Int32 → Option (Int32)
  | 0, _, _ => none
  | n + 1, v3_1, v2_2 =>
    xb_in 1 43 <|
    if (g_now (Int32.toNatClampNeg 1)) ≤ v3_1 then
      some v2_2
    else
      xb_b1 (fX6_covers g_field g_now v3_1 p1) fun r_5 =>
      if r_5 = 0 then
        fX6_covering_31 v2_2 0 (fX6_covering_4 g_now g_field p1 n) v3_1
      else
        fX6_covering_31 v2_2 (1 <<< (v3_1 &&& 31)) (fX6_covering_4 g_now g_field p1 n) v3_1
def fX6_covering (F : Nat) (g_field : Nat → Int32) (g_now : Nat → Int32) (p1 : Int32) : Option (Int32) :=
  fX6_covering_4 g_now g_field p1 F 0 0

def fX6_covered_4 (g_now : Nat → Int32) (F : Nat) (g_field : Nat → Int32) : Nat → Int32 → Int32 → Option (Int32)
  | 0, _, _ => none
  | n + 1, v2_1, v1_2 =>
    xb_in 1 43 <|
    if (g_now (Int32.toNatClampNeg 1)) ≤ v2_1 then
      some v1_2
    else
      xb_b1 (fX6_coveredBy F g_field g_now v2_1) fun r_5 =>
      xb_let (v1_2 ||| r_5) fun v1_7 =>
      (fX6_covered_4 g_now F g_field n) (v2_1 + 1) v1_7
def fX6_covered (F : Nat) (g_field : Nat → Int32) (g_now : Nat → Int32) : Option (Int32) :=
  fX6_covered_4 g_now F g_field F 0 0

def fX6_many_4 : Nat → Int32 → Int32 → Option (Int32)
  | 0, _, _ => none
  | n + 1, v2_1, v1_2 =>
    if v2_1 = 0 then
      some v1_2
    else
      xb_let (v2_1 &&& (v2_1 - 1)) fun v2_4 =>
      (fX6_many_4 n) v2_4 (v1_2 + 1)
def fX6_many (F : Nat) (p0 : Int32) : Option (Int32) :=
  fX6_many_4 F p0 0

def fX6_premium (F : Nat) (g_field : Nat → Int32) (g_now : Nat → Int32) (p1 : Int32) : Option (Int32) :=
  xb_b1 (fX6_tall g_field p1) fun r_1 =>
  xb_b1 (fX6_covering F g_field g_now p1) fun r_3 =>
  xb_b1 (fX6_many F r_3) fun r_5 =>
  xb_let ((r_1 + 30) - (10 * r_5)) fun v2_7 =>
  if 1 ≤ v2_7 then
    some v2_7
  else
    some 1

def fX6_tree (F : Nat) (g_field : Nat → Int32) (g_now : Nat → Int32) (p1 : Int32) (p2 : Int32) : Option (Int32) :=
  xb_b1 (fX6_isTree g_now p1) fun r_1 =>
  if r_1 = 0 then
    some (-1)
  else
    xb_b1 (fX6_in (Int32.toInt64 p2) 0 5) fun r_4 =>
    if r_4 = 0 then
      some (-1)
    else
      if p2 = 5 then
        xb_b1 (fX6_coveredBy F g_field g_now p1) fun r_9 =>
        some r_9
      else
        xb_in ((2 + (5 * p1)) + p2) 43 <|
        some (g_now (Int32.toNatClampNeg ((2 + (5 * p1)) + p2)))

def fX6_house (F : Nat) (g_field : Nat → Int32) (g_now : Nat → Int32) (p1 : Int32) (p2 : Int32) : Option (Int32) :=
  xb_b1 (fX6_isHouse g_field p1) fun r_1 =>
  if r_1 = 0 then
    some (-1)
  else
    xb_b1 (fX6_in (Int32.toInt64 p2) 0 5) fun r_4 =>
    if r_4 = 0 then
      some (-1)
    else
      if 3 ≤ p2 then
        if p2 = 3 then
          xb_in (37 + p1) 43 <|
          some (g_now (Int32.toNatClampNeg (37 + p1)))
        else
          if p2 = 4 then
            xb_b1 (fX6_covering F g_field g_now p1) fun r_12 =>
            some r_12
          else
            xb_b1 (fX6_premium F g_field g_now p1) fun r_10 =>
            some r_10
      else
        xb_in ((33 + (3 * p1)) + p2) 51 <|
        some (g_field (Int32.toNatClampNeg ((33 + (3 * p1)) + p2)))

def fX6_notes_48 (g_undos_1 : Int32) (g_now : Nat → Int32) : Nat → Int32 → (Nat → Int32) → Option (Int32 × (Nat → Int32))
  | 0, _, _ => none
  | n + 1, v1_3, g_undone_4 =>
    if 43 ≤ v1_3 then
      xb_let (g_undos_1 + 1) fun g_6 =>
      some (g_6, g_undone_4)
    else
      xb_in v1_3 43 <|
      xb_let (g_now (Int32.toNatClampNeg v1_3)) fun x_8 =>
      xb_in ((43 * g_undos_1) + v1_3) 430 <|
      (fX6_notes_48 g_undos_1 g_now n) (v1_3 + 1) (upd g_undone_4 (Int32.toNatClampNeg ((43 * g_undos_1) + v1_3)) x_8)
def fX6_notes_46 (g_undos_1 : Int32) (g_now : Nat → Int32) (F : Nat) (g_undone_2 : Nat → Int32) : Option (Int32 × (Nat → Int32)) :=
  fX6_notes_48 g_undos_1 g_now F 0 g_undone_2
def fX6_notes_12 (g_now : Nat → Int32) (F : Nat) : Nat → Int32 → (Nat → Int32) → Option (Int32 × (Nat → Int32))
  | 0, _, _ => none
  | n + 1, v1_11, g_undone_12 =>
    if 430 ≤ v1_11 then
      fX6_notes_46 9 g_now F g_undone_12
    else
      xb_in v1_11 430 <|
      xb_let (g_undone_12 (Int32.toNatClampNeg v1_11)) fun x_15 =>
      xb_in (v1_11 - 43) 430 <|
      (fX6_notes_12 g_now F n) (v1_11 + 1) (upd g_undone_12 (Int32.toNatClampNeg (v1_11 - 43)) x_15)
def fX6_notes (F : Nat) (g_undos : Int32) (g_now : Nat → Int32) (g_undone : Nat → Int32) : Option (Int32 × (Nat → Int32)) :=
  if g_undos = 10 then
    fX6_notes_12 g_now F F 43 g_undone
  else
    fX6_notes_46 g_undos g_now F g_undone

def fX6_grows_82 (k_2 : (Int32 → (Nat → Int32) → Option ((Nat → Int32)))) (v1_1 : Int32) (g_now_10 : Nat → Int32) : Option ((Nat → Int32)) :=
  k_2 (v1_1 + 1) g_now_10
def fX6_grows_81 (v2_8 : Int32) (k_2 : (Int32 → (Nat → Int32) → Option ((Nat → Int32)))) (v1_1 : Int32) (g_now_2 : Nat → Int32) (s2_15 : Int32) : Option ((Nat → Int32)) :=
  xb_in (v2_8 + 2) 43 <|
  fX6_grows_82 k_2 v1_1 (upd g_now_2 (Int32.toNatClampNeg (v2_8 + 2)) s2_15)
def fX6_grows_2 : Nat → Int32 → (Nat → Int32) → Option ((Nat → Int32))
  | 0, _, _ => none
  | n + 1, v1_1, g_now_2 =>
    xb_in 1 43 <|
    if (g_now_2 (Int32.toNatClampNeg 1)) ≤ v1_1 then
      xb_in 0 43 <|
      xb_let ((g_now_2 (Int32.toNatClampNeg 0)) + 1) fun x_6 =>
      xb_in 0 43 <|
      some (upd g_now_2 (Int32.toNatClampNeg 0) x_6)
    else
      xb_let (2 + (5 * v1_1)) fun v2_8 =>
      xb_in (v2_8 + 4) 43 <|
      if (g_now_2 (Int32.toNatClampNeg (v2_8 + 4))) ≤ 0 then
        xb_in (v2_8 + 2) 43 <|
        xb_in (v2_8 + 3) 43 <|
        xb_let ((g_now_2 (Int32.toNatClampNeg (v2_8 + 2))) + (g_now_2 (Int32.toNatClampNeg (v2_8 + 3)))) fun v3_14 =>
        if v3_14 ≤ 99 then
          fX6_grows_81 v2_8 (fX6_grows_2 n) v1_1 g_now_2 v3_14
        else
          fX6_grows_81 v2_8 (fX6_grows_2 n) v1_1 g_now_2 99
      else
        xb_in (v2_8 + 4) 43 <|
        xb_let ((g_now_2 (Int32.toNatClampNeg (v2_8 + 4))) - 1) fun x_19 =>
        xb_in (v2_8 + 4) 43 <|
        fX6_grows_82 (fX6_grows_2 n) v1_1 (upd g_now_2 (Int32.toNatClampNeg (v2_8 + 4)) x_19)
def fX6_grows (F : Nat) (g_now : Nat → Int32) : Option ((Nat → Int32)) :=
  fX6_grows_2 F 0 g_now

def fX6_year (F : Nat) (g_undos : Int32) (g_field : Nat → Int32) (g_now : Nat → Int32) (g_undone : Nat → Int32) : Option (Int32 × Int32 × (Nat → Int32) × (Nat → Int32)) :=
  xb_in 0 43 <|
  if (g_now (Int32.toNatClampNeg 0)) = 200 then
    some ((-2), g_undos, g_now, g_undone)
  else
    xb_b2 (fX6_notes F g_undos g_now g_undone) fun g_undos_3 g_undone_4 =>
    xb_b1 (fX6_grows F g_now) fun g_now_6 =>
    xb_b1 (fX6_covered F g_field g_now_6) fun r_8 =>
    some (r_8, g_undos_3, g_now_6, g_undone_4)

def fX6_strikes_272 (k_11 : (Int32 → Int32 → Int32 → Int32 → Option (Int32))) (v5_1 : Int32) (s0_20 : Int32) (s0_19 : Int32) (s0_18 : Int32) : Option (Int32) :=
  k_11 (v5_1 + 1) s0_20 s0_19 s0_18
def fX6_strikes_259 (s0_17 : Int32) (k_11 : (Int32 → Int32 → Int32 → Int32 → Option (Int32))) (v5_1 : Int32) (v4_2 : Int32) (s0_19 : Int32) (s0_18 : Int32) (s0_11 : Int32) : Option (Int32) :=
  if s0_17 = 0 then
    fX6_strikes_272 k_11 v5_1 v4_2 s0_19 s0_18
  else
    fX6_strikes_272 k_11 v5_1 s0_11 s0_19 s0_18
def fX6_strikes_247 (s0_17 : Int32) (k_11 : (Int32 → Int32 → Int32 → Int32 → Option (Int32))) (v5_1 : Int32) (v4_2 : Int32) (v3_3 : Int32) (s0_18 : Int32) (s0_11 : Int32) (s0_14 : Int32) : Option (Int32) :=
  if s0_17 = 0 then
    fX6_strikes_259 s0_17 k_11 v5_1 v4_2 v3_3 s0_18 s0_11
  else
    fX6_strikes_259 s0_17 k_11 v5_1 v4_2 s0_14 s0_18 s0_11
def fX6_strikes_221 (s0_17 : Int32) (k_11 : (Int32 → Int32 → Int32 → Int32 → Option (Int32))) (v5_1 : Int32) (v4_2 : Int32) (v3_3 : Int32) (v2_4 : Int32) (s0_11 : Int32) (s0_14 : Int32) (s0_9 : Int32) (s0_10 : Int32) : Option (Int32) :=
  if s0_17 = 0 then
    fX6_strikes_247 s0_17 k_11 v5_1 v4_2 v3_3 v2_4 s0_11 s0_14
  else
    if s0_9 = 0 then
      fX6_strikes_247 s0_17 k_11 v5_1 v4_2 v3_3 (100 + s0_10) s0_11 s0_14
    else
      fX6_strikes_247 s0_17 k_11 v5_1 v4_2 v3_3 s0_10 s0_11 s0_14
def fX6_strikes_220 (k_11 : (Int32 → Int32 → Int32 → Int32 → Option (Int32))) (v5_1 : Int32) (v4_2 : Int32) (v3_3 : Int32) (v2_4 : Int32) (s0_11 : Int32) (s0_14 : Int32) (s0_9 : Int32) (s0_10 : Int32) : Option (Int32) :=
  fX6_strikes_221 0 k_11 v5_1 v4_2 v3_3 v2_4 s0_11 s0_14 s0_9 s0_10
def fX6_strikes_216 (k_11 : (Int32 → Int32 → Int32 → Int32 → Option (Int32))) (v5_1 : Int32) (v4_2 : Int32) (v3_3 : Int32) (v2_4 : Int32) (s0_11 : Int32) (s0_14 : Int32) (s0_9 : Int32) (s0_10 : Int32) : Option (Int32) :=
  fX6_strikes_221 1 k_11 v5_1 v4_2 v3_3 v2_4 s0_11 s0_14 s0_9 s0_10
def fX6_strikes_191 (v2_4 : Int32) (k_11 : (Int32 → Int32 → Int32 → Int32 → Option (Int32))) (v5_1 : Int32) (v4_2 : Int32) (v3_3 : Int32) (s0_11 : Int32) (s0_14 : Int32) (s0_9 : Int32) (s0_10 : Int32) : Option (Int32) :=
  if v2_4 = (-9) then
    fX6_strikes_216 k_11 v5_1 v4_2 v3_3 v2_4 s0_11 s0_14 s0_9 s0_10
  else
    if v3_3 < s0_14 then
      fX6_strikes_216 k_11 v5_1 v4_2 v3_3 v2_4 s0_11 s0_14 s0_9 s0_10
    else
      if s0_14 = v3_3 then
        if v4_2 ≤ s0_11 then
          fX6_strikes_220 k_11 v5_1 v4_2 v3_3 v2_4 s0_11 s0_14 s0_9 s0_10
        else
          fX6_strikes_216 k_11 v5_1 v4_2 v3_3 v2_4 s0_11 s0_14 s0_9 s0_10
      else
        fX6_strikes_220 k_11 v5_1 v4_2 v3_3 v2_4 s0_11 s0_14 s0_9 s0_10
def fX6_strikes_160 (v9_13 : Int32) (k_11 : (Int32 → Int32 → Int32 → Int32 → Option (Int32))) (v5_1 : Int32) (v4_2 : Int32) (v3_3 : Int32) (v2_4 : Int32) (s0_11 : Int32) (s0_14 : Int32) (s0_9 : Int32) (s0_10 : Int32) (g_now : Nat → Int32) : Option (Int32) :=
  xb_b1 (fX6_in (Int32.toInt64 v9_13) (-2) 2) fun r_15 =>
  if r_15 = 0 then
    fX6_strikes_220 k_11 v5_1 v4_2 v3_3 v2_4 s0_11 s0_14 s0_9 s0_10
  else
    if s0_9 = 0 then
      fX6_strikes_191 v2_4 k_11 v5_1 v4_2 v3_3 s0_11 s0_14 s0_9 s0_10
    else
      xb_b1 (fX6_isUsed g_now s0_10) fun r_31 =>
      if r_31 = 0 then
        fX6_strikes_191 v2_4 k_11 v5_1 v4_2 v3_3 s0_11 s0_14 s0_9 s0_10
      else
        fX6_strikes_220 k_11 v5_1 v4_2 v3_3 v2_4 s0_11 s0_14 s0_9 s0_10
def fX6_strikes_136 (s0_12 : Int32) (p1 : Int32) (s0_9 : Int32) (g_field : Nat → Int32) (s0_10 : Int32) (k_11 : (Int32 → Int32 → Int32 → Int32 → Option (Int32))) (v5_1 : Int32) (v4_2 : Int32) (v3_3 : Int32) (v2_4 : Int32) (s0_11 : Int32) (g_now : Nat → Int32) : Option (Int32) :=
  xb_let (s0_12 - p1) fun v9_13 =>
  if s0_9 = 0 then
    xb_b1 (fX6_tall g_field s0_10) fun r_35 =>
    fX6_strikes_160 v9_13 k_11 v5_1 v4_2 v3_3 v2_4 s0_11 r_35 s0_9 s0_10 g_now
  else
    xb_b1 (fX6_high g_now s0_10) fun r_37 =>
    fX6_strikes_160 v9_13 k_11 v5_1 v4_2 v3_3 v2_4 s0_11 r_37 s0_9 s0_10 g_now
def fX6_strikes_99 (s0_9 : Int32) (s0_10 : Int32) (g_field : Nat → Int32) (p1 : Int32) (k_11 : (Int32 → Int32 → Int32 → Int32 → Option (Int32))) (v5_1 : Int32) (v4_2 : Int32) (v3_3 : Int32) (v2_4 : Int32) (s0_11 : Int32) (g_now : Nat → Int32) : Option (Int32) :=
  if s0_9 = 0 then
    xb_in ((33 + (3 * s0_10)) + 1) 51 <|
    fX6_strikes_136 (g_field (Int32.toNatClampNeg ((33 + (3 * s0_10)) + 1))) p1 s0_9 g_field s0_10 k_11 v5_1 v4_2 v3_3 v2_4 s0_11 g_now
  else
    xb_in ((2 + (5 * s0_10)) + 1) 43 <|
    fX6_strikes_136 (g_now (Int32.toNatClampNeg ((2 + (5 * s0_10)) + 1))) p1 s0_9 g_field s0_10 k_11 v5_1 v4_2 v3_3 v2_4 s0_11 g_now
def fX6_strikes_66 (s0_9 : Int32) (s0_10 : Int32) (g_field : Nat → Int32) (p1 : Int32) (k_11 : (Int32 → Int32 → Int32 → Int32 → Option (Int32))) (v5_1 : Int32) (v4_2 : Int32) (v3_3 : Int32) (v2_4 : Int32) (g_now : Nat → Int32) : Option (Int32) :=
  if s0_9 = 0 then
    xb_in (33 + (3 * s0_10)) 51 <|
    fX6_strikes_99 s0_9 s0_10 g_field p1 k_11 v5_1 v4_2 v3_3 v2_4 (g_field (Int32.toNatClampNeg (33 + (3 * s0_10)))) g_now
  else
    xb_in (2 + (5 * s0_10)) 43 <|
    fX6_strikes_99 s0_9 s0_10 g_field p1 k_11 v5_1 v4_2 v3_3 v2_4 (g_now (Int32.toNatClampNeg (2 + (5 * s0_10)))) g_now
def fX6_strikes_45 (s0_9 : Int32) (v5_1 : Int32) (g_now : Nat → Int32) (g_field : Nat → Int32) (p1 : Int32) (k_11 : (Int32 → Int32 → Int32 → Int32 → Option (Int32))) (v4_2 : Int32) (v3_3 : Int32) (v2_4 : Int32) : Option (Int32) :=
  if s0_9 = 0 then
    xb_in 1 43 <|
    fX6_strikes_66 s0_9 (v5_1 - (g_now (Int32.toNatClampNeg 1))) g_field p1 k_11 v5_1 v4_2 v3_3 v2_4 g_now
  else
    fX6_strikes_66 s0_9 v5_1 g_field p1 k_11 v5_1 v4_2 v3_3 v2_4 g_now
def fX6_strikes_11 (g_now : Nat → Int32) (g_field : Nat → Int32) (p1 : Int32) : Nat → Int32 → Int32 → Int32 → Int32 → Option (Int32)
  | 0, _, _, _, _ => none
  | n + 1, v5_1, v4_2, v3_3, v2_4 =>
    xb_in 1 43 <|
    xb_in 1 51 <|
    if ((g_now (Int32.toNatClampNeg 1)) + (g_field (Int32.toNatClampNeg 1))) ≤ v5_1 then
      some v2_4
    else
      xb_in 1 43 <|
      if (g_now (Int32.toNatClampNeg 1)) ≤ v5_1 then
        fX6_strikes_45 0 v5_1 g_now g_field p1 (fX6_strikes_11 g_now g_field p1 n) v4_2 v3_3 v2_4
      else
        fX6_strikes_45 1 v5_1 g_now g_field p1 (fX6_strikes_11 g_now g_field p1 n) v4_2 v3_3 v2_4
def fX6_strikes (F : Nat) (g_field : Nat → Int32) (g_now : Nat → Int32) (p1 : Int32) : Option (Int32) :=
  fX6_strikes_11 g_now g_field p1 F 0 0 0 (-9)

def fX6_storms (F : Nat) (g_field : Nat → Int32) (g_now : Nat → Int32) (p1 : Int32) : Option (Int32 × (Nat → Int32)) :=
  xb_b1 (fX6_strikes F g_field g_now p1) fun r_1 =>
  if r_1 < 100 then
    if r_1 < 0 then
      some (r_1, g_now)
    else
      xb_in 3 51 <|
      xb_let (g_field (Int32.toNatClampNeg 3)) fun x_6 =>
      xb_in ((2 + (5 * r_1)) + 4) 43 <|
      some (r_1, (upd g_now (Int32.toNatClampNeg ((2 + (5 * r_1)) + 4)) x_6))
  else
    xb_in ((37 + r_1) - 100) 43 <|
    xb_let ((g_now (Int32.toNatClampNeg ((37 + r_1) - 100))) + 1) fun x_9 =>
    xb_in ((37 + r_1) - 100) 43 <|
    some (r_1, (upd g_now (Int32.toNatClampNeg ((37 + r_1) - 100)) x_9))

def fX6_storm (F : Nat) (g_undos : Int32) (g_field : Nat → Int32) (g_now : Nat → Int32) (g_undone : Nat → Int32) (p1 : Int32) : Option (Int32 × Int32 × (Nat → Int32) × (Nat → Int32)) :=
  xb_b1 (fX6_in (Int32.toInt64 p1) 0 9) fun r_1 =>
  if r_1 = 0 then
    some ((-1), g_undos, g_now, g_undone)
  else
    xb_b2 (fX6_notes F g_undos g_now g_undone) fun g_undos_4 g_undone_5 =>
    xb_b2 (fX6_storms F g_field g_now p1) fun r_7 g_now_8 =>
    some (r_7, g_undos_4, g_now_8, g_undone_5)

def fX6_tops_55 (p1 : Int32) (g_now : Nat → Int32) (s2_13 : Int32) (g_undos_7 : Int32) (g_undone_8 : Nat → Int32) : Option (Int32 × Int32 × (Nat → Int32) × (Nat → Int32)) :=
  xb_in ((2 + (5 * p1)) + 2) 43 <|
  xb_b1 (fX6_high (upd g_now (Int32.toNatClampNeg ((2 + (5 * p1)) + 2)) s2_13) p1) fun r_15 =>
  some (r_15, g_undos_7, (upd g_now (Int32.toNatClampNeg ((2 + (5 * p1)) + 2)) s2_13), g_undone_8)
def fX6_tops (F : Nat) (g_undos : Int32) (g_now : Nat → Int32) (g_undone : Nat → Int32) (p1 : Int32) (p2 : Int32) : Option (Int32 × Int32 × (Nat → Int32) × (Nat → Int32)) :=
  xb_b1 (fX6_isTree g_now p1) fun r_1 =>
  if r_1 = 0 then
    some ((-1), g_undos, g_now, g_undone)
  else
    xb_b1 (fX6_in (Int32.toInt64 p2) 1 60) fun r_4 =>
    if r_4 = 0 then
      some ((-1), g_undos, g_now, g_undone)
    else
      xb_b2 (fX6_notes F g_undos g_now g_undone) fun g_undos_7 g_undone_8 =>
      xb_b1 (fX6_high g_now p1) fun r_10 =>
      xb_let (r_10 - p2) fun v3_12 =>
      if 1 ≤ v3_12 then
        fX6_tops_55 p1 g_now v3_12 g_undos_7 g_undone_8
      else
        fX6_tops_55 p1 g_now 1 g_undos_7 g_undone_8

def fX6_plants (F : Nat) (g_undos : Int32) (g_now : Nat → Int32) (g_undone : Nat → Int32) (p1 : Int32) (p2 : Int32) : Option (Int32 × Int32 × (Nat → Int32) × (Nat → Int32)) :=
  xb_b1 (fX6_in (Int32.toInt64 p1) 0 9) fun r_1 =>
  if r_1 = 0 then
    some ((-1), g_undos, g_now, g_undone)
  else
    xb_b1 (fX6_in (Int32.toInt64 p2) 0 9) fun r_4 =>
    if r_4 = 0 then
      some ((-1), g_undos, g_now, g_undone)
    else
      xb_in 1 43 <|
      if (g_now (Int32.toNatClampNeg 1)) = 7 then
        some ((-3), g_undos, g_now, g_undone)
      else
        xb_b2 (fX6_notes F g_undos g_now g_undone) fun g_undos_9 g_undone_10 =>
        xb_in 1 43 <|
        xb_let (2 + (5 * (g_now (Int32.toNatClampNeg 1)))) fun v3_13 =>
        xb_in v3_13 43 <|
        xb_in (v3_13 + 1) 43 <|
        xb_in (v3_13 + 2) 43 <|
        xb_in (v3_13 + 3) 43 <|
        xb_in (v3_13 + 4) 43 <|
        xb_in 1 43 <|
        xb_let (((upd (upd (upd (upd (upd g_now (Int32.toNatClampNeg v3_13) p1) (Int32.toNatClampNeg (v3_13 + 1)) p2) (Int32.toNatClampNeg (v3_13 + 2)) 1) (Int32.toNatClampNeg (v3_13 + 3)) 2) (Int32.toNatClampNeg (v3_13 + 4)) 0) (Int32.toNatClampNeg 1)) + 1) fun x_20 =>
        xb_in 1 43 <|
        xb_in 1 43 <|
        some ((((upd (upd (upd (upd (upd (upd g_now (Int32.toNatClampNeg v3_13) p1) (Int32.toNatClampNeg (v3_13 + 1)) p2) (Int32.toNatClampNeg (v3_13 + 2)) 1) (Int32.toNatClampNeg (v3_13 + 3)) 2) (Int32.toNatClampNeg (v3_13 + 4)) 0) (Int32.toNatClampNeg 1) x_20) (Int32.toNatClampNeg 1)) - 1), g_undos_9, (upd (upd (upd (upd (upd (upd g_now (Int32.toNatClampNeg v3_13) p1) (Int32.toNatClampNeg (v3_13 + 1)) p2) (Int32.toNatClampNeg (v3_13 + 2)) 1) (Int32.toNatClampNeg (v3_13 + 3)) 2) (Int32.toNatClampNeg (v3_13 + 4)) 0) (Int32.toNatClampNeg 1) x_20), g_undone_10)

def fX6_undo_22 (g_2 : Int32) (g_undone : Nat → Int32) : Nat → Int32 → (Nat → Int32) → Option (Int32 × Int32 × (Nat → Int32))
  | 0, _, _ => none
  | n + 1, v1_3, g_now_4 =>
    if 43 ≤ v1_3 then
      some (g_2, g_2, g_now_4)
    else
      xb_in ((43 * g_2) + v1_3) 430 <|
      xb_let (g_undone (Int32.toNatClampNeg ((43 * g_2) + v1_3))) fun x_7 =>
      xb_in v1_3 43 <|
      (fX6_undo_22 g_2 g_undone n) (v1_3 + 1) (upd g_now_4 (Int32.toNatClampNeg v1_3) x_7)
def fX6_undo (F : Nat) (g_undos : Int32) (g_now : Nat → Int32) (g_undone : Nat → Int32) : Option (Int32 × Int32 × (Nat → Int32)) :=
  if g_undos = 0 then
    some ((-2), g_undos, g_now)
  else
    xb_let (g_undos - 1) fun g_2 =>
    fX6_undo_22 g_2 g_undone F 0 g_now

def fX6_enough_98 (k_10 : (Int32 → Int32 → Option (Int32))) (v3_3 : Int32) (s0_11 : Int32) : Option (Int32) :=
  k_10 (v3_3 + 1) s0_11
def fX6_enough_97 (k_10 : (Int32 → Int32 → Option (Int32))) (v3_3 : Int32) (v2_4 : Int32) : Option (Int32) :=
  fX6_enough_98 k_10 v3_3 v2_4
def fX6_enough_93 (k_10 : (Int32 → Int32 → Option (Int32))) (v3_3 : Int32) : Option (Int32) :=
  fX6_enough_98 k_10 v3_3 v3_3
def fX6_enough_61 (v4_8 : Int32) (s1_19 : Int32) (k_28 : (Int32 → Int32 → Option (Int32))) (v5_7 : Int32) : Option (Int32) :=
  xb_let (v4_8 ||| s1_19) fun v4_20 =>
  k_28 (v5_7 + 1) v4_20
def fX6_enough_28 (g_now : Nat → Int32) (r_1 : Int32) (v2_4 : Int32) (k_10 : (Int32 → Int32 → Option (Int32))) (v3_3 : Int32) (F : Nat) (g_field : Nat → Int32) : Nat → Int32 → Int32 → Option (Int32)
  | 0, _, _ => none
  | n + 1, v5_7, v4_8 =>
    xb_in 1 43 <|
    if (g_now (Int32.toNatClampNeg 1)) ≤ v5_7 then
      if v4_8 = r_1 then
        if v2_4 = (-9) then
          fX6_enough_93 k_10 v3_3
        else
          xb_b1 (fX6_many F v3_3) fun r_14 =>
          xb_b1 (fX6_many F v2_4) fun r_16 =>
          if r_16 ≤ r_14 then
            fX6_enough_97 k_10 v3_3 v2_4
          else
            fX6_enough_93 k_10 v3_3
      else
        fX6_enough_97 k_10 v3_3 v2_4
    else
      if ((v3_3 >>> (v5_7 &&& 31)) &&& 1) = 1 then
        xb_b1 (fX6_coveredBy F g_field g_now v5_7) fun r_22 =>
        fX6_enough_61 v4_8 r_22 (fX6_enough_28 g_now r_1 v2_4 k_10 v3_3 F g_field n) v5_7
      else
        fX6_enough_61 v4_8 0 (fX6_enough_28 g_now r_1 v2_4 k_10 v3_3 F g_field n) v5_7
def fX6_enough_10 (g_now : Nat → Int32) (r_1 : Int32) (F : Nat) (g_field : Nat → Int32) : Nat → Int32 → Int32 → Option (Int32)
  | 0, _, _ => none
  | n + 1, v3_3, v2_4 =>
    xb_in 1 43 <|
    if (1 <<< ((g_now (Int32.toNatClampNeg 1)) &&& 31)) ≤ v3_3 then
      some v2_4
    else
      fX6_enough_28 g_now r_1 v2_4 (fX6_enough_10 g_now r_1 F g_field n) v3_3 F g_field F 0 0
def fX6_enough (F : Nat) (g_field : Nat → Int32) (g_now : Nat → Int32) : Option (Int32) :=
  xb_b1 (fX6_covered F g_field g_now) fun r_1 =>
  fX6_enough_10 g_now r_1 F g_field F 0 (-9)

def fX6_now_50 (g_field : Nat → Int32) (p1 : Int32) (g_now : Nat → Int32) (F : Nat) (v2_2 : Int32) : Nat → Int32 → Int32 → Int32 → Option (Int32)
  | 0, _, _, _ => none
  | n + 1, v5_5, v4_6, v3_7 =>
    xb_in 1 51 <|
    if (g_field (Int32.toNatClampNeg 1)) ≤ v5_5 then
      if p1 = 0 then
        xb_in 0 43 <|
        some (g_now (Int32.toNatClampNeg 0))
      else if p1 = 1 then
        xb_b1 (fX6_covered F g_field g_now) fun r_11 =>
        some r_11
      else if p1 = 2 then
        some v2_2
      else if p1 = 3 then
        some v3_7
      else if p1 = 4 then
        some v4_6
      else if p1 = 5 then
        xb_b1 (fX6_enough F g_field g_now) fun r_13 =>
        some r_13
      else 
      some (-1)
    else
      xb_b1 (fX6_premium F g_field g_now v5_5) fun r_15 =>
      xb_let (v3_7 + r_15) fun v3_17 =>
      xb_in (37 + v5_5) 43 <|
      xb_let (v4_6 + (g_now (Int32.toNatClampNeg (37 + v5_5)))) fun v4_19 =>
      (fX6_now_50 g_field p1 g_now F v2_2 n) (v5_5 + 1) v4_19 v3_17
def fX6_now_39 (v2_2 : Int32) (s1_22 : Int32) (k_10 : (Int32 → Int32 → Option (Int32))) (v5_1 : Int32) : Option (Int32) :=
  xb_let (v2_2 ||| s1_22) fun v2_23 =>
  k_10 (v5_1 + 1) v2_23
def fX6_now_10 (g_now : Nat → Int32) (g_field : Nat → Int32) (p1 : Int32) (F : Nat) : Nat → Int32 → Int32 → Option (Int32)
  | 0, _, _ => none
  | n + 1, v5_1, v2_2 =>
    xb_in 1 43 <|
    if (g_now (Int32.toNatClampNeg 1)) ≤ v5_1 then
      fX6_now_50 g_field p1 g_now F v2_2 F 0 0 0
    else
      xb_b1 (fX6_isUsed g_now v5_1) fun r_20 =>
      if r_20 = 0 then
        fX6_now_39 v2_2 0 (fX6_now_10 g_now g_field p1 F n) v5_1
      else
        fX6_now_39 v2_2 (1 <<< (v5_1 &&& 31)) (fX6_now_10 g_now g_field p1 F n) v5_1
def fX6_now (F : Nat) (g_field : Nat → Int32) (g_now : Nat → Int32) (p1 : Int32) : Option (Int32) :=
  fX6_now_10 g_now g_field p1 F F 0 0

def fX6_asides_2 (g_now : Nat → Int32) : Nat → Int32 → (Nat → Int32) → Option ((Nat → Int32))
  | 0, _, _ => none
  | n + 1, v1_1, g_aside_2 =>
    if 43 ≤ v1_1 then
      some g_aside_2
    else
      xb_in v1_1 43 <|
      xb_let (g_now (Int32.toNatClampNeg v1_1)) fun x_5 =>
      xb_in v1_1 43 <|
      (fX6_asides_2 g_now n) (v1_1 + 1) (upd g_aside_2 (Int32.toNatClampNeg v1_1) x_5)
def fX6_asides (F : Nat) (g_now : Nat → Int32) (g_aside : Nat → Int32) : Option ((Nat → Int32)) :=
  fX6_asides_2 g_now F 0 g_aside

def fX6_backs_2 (g_aside : Nat → Int32) : Nat → Int32 → (Nat → Int32) → Option ((Nat → Int32))
  | 0, _, _ => none
  | n + 1, v1_1, g_now_2 =>
    if 43 ≤ v1_1 then
      some g_now_2
    else
      xb_in v1_1 43 <|
      xb_let (g_aside (Int32.toNatClampNeg v1_1)) fun x_5 =>
      xb_in v1_1 43 <|
      (fX6_backs_2 g_aside n) (v1_1 + 1) (upd g_now_2 (Int32.toNatClampNeg v1_1) x_5)
def fX6_backs (F : Nat) (g_now : Nat → Int32) (g_aside : Nat → Int32) : Option ((Nat → Int32)) :=
  fX6_backs_2 g_aside F 0 g_now

def fX6_only_29 (r_4 : Int32) : Nat → Int32 → Option (Int32)
  | 0, _ => none
  | n + 1, v3_9 =>
    if ((r_4 >>> (v3_9 &&& 31)) &&& 1) = 0 then
      (fX6_only_29 r_4 n) (v3_9 + 1)
    else
      some v3_9
def fX6_only (F : Nat) (g_field : Nat → Int32) (g_now : Nat → Int32) (p1 : Int32) : Option (Int32) :=
  xb_b1 (fX6_isHouse g_field p1) fun r_1 =>
  if r_1 = 0 then
    some (-1)
  else
    xb_b1 (fX6_covering F g_field g_now p1) fun r_4 =>
    xb_b1 (fX6_many F r_4) fun r_6 =>
    if r_6 = 1 then
      fX6_only_29 r_4 F 0
    else
      some (-9)

def fX6_when_56 (F : Nat) (g_now_8 : Nat → Int32) (g_aside_4 : Nat → Int32) (v2_7 : Int32) : Option (Int32 × (Nat → Int32) × (Nat → Int32)) :=
  xb_b1 (fX6_backs F g_now_8 g_aside_4) fun g_now_9 =>
  some (v2_7, g_now_9, g_aside_4)
def fX6_when_45 (F : Nat) (g_now_8 : Nat → Int32) (k_19 : (Int32 → Int32 → (Nat → Int32) → Option (Int32 × (Nat → Int32) × (Nat → Int32)))) (v3_6 : Int32) (s0_15 : Int32) : Option (Int32 × (Nat → Int32) × (Nat → Int32)) :=
  xb_b1 (fX6_grows F g_now_8) fun g_now_16 =>
  k_19 (v3_6 + 1) s0_15 g_now_16
def fX6_when_19 (F : Nat) (g_aside_4 : Nat → Int32) (g_field : Nat → Int32) (p1 : Int32) : Nat → Int32 → Int32 → (Nat → Int32) → Option (Int32 × (Nat → Int32) × (Nat → Int32))
  | 0, _, _, _ => none
  | n + 1, v3_6, v2_7, g_now_8 =>
    if 61 ≤ v3_6 then
      fX6_when_56 F g_now_8 g_aside_4 v2_7
    else
      if v2_7 = (-9) then
        xb_b1 (fX6_covering F g_field g_now_8 p1) fun r_13 =>
        if r_13 = 0 then
          fX6_when_45 F g_now_8 (fX6_when_19 F g_aside_4 g_field p1 n) v3_6 (-9)
        else
          fX6_when_45 F g_now_8 (fX6_when_19 F g_aside_4 g_field p1 n) v3_6 v3_6
      else
        fX6_when_56 F g_now_8 g_aside_4 v2_7
def fX6_when (F : Nat) (g_field : Nat → Int32) (g_now : Nat → Int32) (g_aside : Nat → Int32) (p1 : Int32) : Option (Int32 × (Nat → Int32) × (Nat → Int32)) :=
  xb_b1 (fX6_isHouse g_field p1) fun r_1 =>
  if r_1 = 0 then
    some ((-1), g_now, g_aside)
  else
    xb_b1 (fX6_asides F g_now g_aside) fun g_aside_4 =>
    fX6_when_19 F g_aside_4 g_field p1 F 0 (-9) g_now

def fX6_wouldCover_52 (v3_2 : Int32) (s1_7 : Int32) (k_5 : (Int32 → Int32 → Option (Int32))) (v4_1 : Int32) : Option (Int32) :=
  xb_let (v3_2 ||| s1_7) fun v3_8 =>
  k_5 (v4_1 + 1) v3_8
def fX6_wouldCover_51 (v3_2 : Int32) (k_5 : (Int32 → Int32 → Option (Int32))) (v4_1 : Int32) : Option (Int32) :=
  fX6_wouldCover_52 v3_2 0 k_5 v4_1
def fX6_wouldCover_5 (g_field : Nat → Int32) (p1 : Int32) (p2 : Int32) : Nat → Int32 → Int32 → Option (Int32)
  | 0, _, _ => none
  | n + 1, v4_1, v3_2 =>
    xb_in 1 51 <|
    if (g_field (Int32.toNatClampNeg 1)) ≤ v4_1 then
      some v3_2
    else
      xb_b1 (fX6_isNear g_field (p1 / 10) (p1 - p1 / 10 * 10) v4_1) fun r_5 =>
      if r_5 = 0 then
        fX6_wouldCover_51 v3_2 (fX6_wouldCover_5 g_field p1 p2 n) v4_1
      else
        xb_b1 (fX6_tall g_field v4_1) fun r_10 =>
        if p2 ≤ r_10 then
          fX6_wouldCover_51 v3_2 (fX6_wouldCover_5 g_field p1 p2 n) v4_1
        else
          fX6_wouldCover_52 v3_2 (1 <<< (v4_1 &&& 31)) (fX6_wouldCover_5 g_field p1 p2 n) v4_1
def fX6_wouldCover (F : Nat) (g_field : Nat → Int32) (p1 : Int32) (p2 : Int32) : Option (Int32) :=
  fX6_wouldCover_5 g_field p1 p2 F 0 0

def fX6_where_227 (k_146 : (Int32 → Option (Int32 × (Nat → Int32) × (Nat → Int32)))) (v5_22 : Int32) : Option (Int32 × (Nat → Int32) × (Nat → Int32)) :=
  k_146 (v5_22 + 1)
def fX6_where_171 (k_146 : (Int32 → Option (Int32 × (Nat → Int32) × (Nat → Int32)))) (v5_22 : Int32) (v6_26 : Int32) (v3_15 : Int32) (F : Nat) (g_field : Nat → Int32) (v4_19 : Int32) (p2 : Int32) (g_now_16 : Nat → Int32) (g_aside_7 : Nat → Int32) : Nat → Int32 → Option (Int32 × (Nat → Int32) × (Nat → Int32))
  | 0, _ => none
  | n + 1, v7_27 =>
    if 100 ≤ v7_27 then
      fX6_where_227 k_146 v5_22
    else
      if v6_26 = v3_15 then
        fX6_where_227 k_146 v5_22
      else
        xb_b1 (fX6_wouldCover F g_field v7_27 v4_19) fun r_30 =>
        if (v6_26 &&& (r_30 ^^^ (-1))) = 0 then
          if p2 = 0 then
            some (2, g_now_16, g_aside_7)
          else
            if p2 = 1 then
              some (v5_22, g_now_16, g_aside_7)
            else
              some (v7_27, g_now_16, g_aside_7)
        else
          (fX6_where_171 k_146 v5_22 v6_26 v3_15 F g_field v4_19 p2 g_now_16 g_aside_7 n) (v7_27 + 1)
def fX6_where_146 (g_now_16 : Nat → Int32) (g_aside_7 : Nat → Int32) (F : Nat) (g_field : Nat → Int32) (v4_19 : Int32) (v3_15 : Int32) (p2 : Int32) : Nat → Int32 → Option (Int32 × (Nat → Int32) × (Nat → Int32))
  | 0, _ => none
  | n + 1, v5_22 =>
    if 100 ≤ v5_22 then
      some ((-9), g_now_16, g_aside_7)
    else
      xb_b1 (fX6_wouldCover F g_field v5_22 v4_19) fun r_24 =>
      xb_let (v3_15 &&& (r_24 ^^^ (-1))) fun v6_26 =>
      fX6_where_171 (fX6_where_146 g_now_16 g_aside_7 F g_field v4_19 v3_15 p2 n) v5_22 v6_26 v3_15 F g_field v4_19 p2 g_now_16 g_aside_7 F v5_22
def fX6_where_94 (g_now_16 : Nat → Int32) (g_aside_7 : Nat → Int32) (F : Nat) (g_field : Nat → Int32) (v4_19 : Int32) (v3_15 : Int32) (p2 : Int32) : Nat → Int32 → Option (Int32 × (Nat → Int32) × (Nat → Int32))
  | 0, _ => none
  | n + 1, v5_20 =>
    if 100 ≤ v5_20 then
      fX6_where_146 g_now_16 g_aside_7 F g_field v4_19 v3_15 p2 F 0
    else
      xb_b1 (fX6_wouldCover F g_field v5_20 v4_19) fun r_35 =>
      if (v3_15 &&& (r_35 ^^^ (-1))) = 0 then
        if p2 = 0 then
          some (1, g_now_16, g_aside_7)
        else
          if p2 = 1 then
            some (v5_20, g_now_16, g_aside_7)
          else
            some ((-9), g_now_16, g_aside_7)
      else
        (fX6_where_94 g_now_16 g_aside_7 F g_field v4_19 v3_15 p2 n) (v5_20 + 1)
def fX6_where_32 (p1 : Int32) (F : Nat) (g_field : Nat → Int32) (g_aside_7 : Nat → Int32) (p2 : Int32) : Nat → Int32 → (Nat → Int32) → Option (Int32 × (Nat → Int32) × (Nat → Int32))
  | 0, _, _ => none
  | n + 1, v3_9, g_now_10 =>
    if p1 ≤ v3_9 then
      xb_in 1 51 <|
      xb_b1 (fX6_covered F g_field g_now_10) fun r_13 =>
      xb_let (((1 <<< ((g_field (Int32.toNatClampNeg 1)) &&& 31)) - 1) &&& (r_13 ^^^ (-1))) fun v3_15 =>
      xb_b1 (fX6_backs F g_now_10 g_aside_7) fun g_now_16 =>
      if v3_15 = 0 then
        if p2 = 0 then
          some (0, g_now_16, g_aside_7)
        else
          some ((-9), g_now_16, g_aside_7)
      else
        xb_let (1 + (2 * p1)) fun v4_19 =>
        fX6_where_94 g_now_16 g_aside_7 F g_field v4_19 v3_15 p2 F 0
    else
      xb_b1 (fX6_grows F g_now_10) fun g_now_41 =>
      (fX6_where_32 p1 F g_field g_aside_7 p2 n) (v3_9 + 1) g_now_41
def fX6_where (F : Nat) (g_field : Nat → Int32) (g_now : Nat → Int32) (g_aside : Nat → Int32) (p1 : Int32) (p2 : Int32) : Option (Int32 × (Nat → Int32) × (Nat → Int32)) :=
  xb_b1 (fX6_in (Int32.toInt64 p1) 0 40) fun r_1 =>
  if r_1 = 0 then
    some ((-1), g_now, g_aside)
  else
    xb_b1 (fX6_in (Int32.toInt64 p2) 0 2) fun r_4 =>
    if r_4 = 0 then
      some ((-1), g_now, g_aside)
    else
      xb_b1 (fX6_asides F g_now g_aside) fun g_aside_7 =>
      fX6_where_32 p1 F g_field g_aside_7 p2 F 0 g_now

def fX6_paid_91 (v2_2 : Int32) (s1_9 : Int32) (k_4 : (Int32 → Int32 → Option (Int32))) (v3_1 : Int32) : Option (Int32) :=
  xb_let (v2_2 + s1_9) fun v2_10 =>
  k_4 (v3_1 + 1) v2_10
def fX6_paid_71 (k_21 : (Int32 → Int32 → Option (Int32))) (v5_5 : Int32) (s0_14 : Int32) : Option (Int32) :=
  k_21 (v5_5 + 1) s0_14
def fX6_paid_69 (k_21 : (Int32 → Int32 → Option (Int32))) (v5_5 : Int32) (v4_6 : Int32) : Option (Int32) :=
  fX6_paid_71 k_21 v5_5 v4_6
def fX6_paid_64 (k_21 : (Int32 → Int32 → Option (Int32))) (v5_5 : Int32) : Option (Int32) :=
  fX6_paid_71 k_21 v5_5 v5_5
def fX6_paid_21 (g_now : Nat → Int32) (p1 : Int32) (v2_2 : Int32) (k_4 : (Int32 → Int32 → Option (Int32))) (v3_1 : Int32) (g_field : Nat → Int32) : Nat → Int32 → Int32 → Option (Int32)
  | 0, _, _ => none
  | n + 1, v5_5, v4_6 =>
    xb_in 1 43 <|
    if (g_now (Int32.toNatClampNeg 1)) ≤ v5_5 then
      if v4_6 = p1 then
        fX6_paid_91 v2_2 1 k_4 v3_1
      else
        fX6_paid_91 v2_2 0 k_4 v3_1
    else
      xb_b1 (fX6_covers g_field g_now v5_5 v3_1) fun r_12 =>
      if r_12 = 0 then
        fX6_paid_69 (fX6_paid_21 g_now p1 v2_2 k_4 v3_1 g_field n) v5_5 v4_6
      else
        if v4_6 = (-9) then
          fX6_paid_64 (fX6_paid_21 g_now p1 v2_2 k_4 v3_1 g_field n) v5_5
        else
          xb_b1 (fX6_high g_now v5_5) fun r_17 =>
          xb_b1 (fX6_high g_now v4_6) fun r_19 =>
          if r_17 ≤ r_19 then
            fX6_paid_69 (fX6_paid_21 g_now p1 v2_2 k_4 v3_1 g_field n) v5_5 v4_6
          else
            fX6_paid_64 (fX6_paid_21 g_now p1 v2_2 k_4 v3_1 g_field n) v5_5
def fX6_paid_4 (g_field : Nat → Int32) (g_now : Nat → Int32) (p1 : Int32) (F : Nat) : Nat → Int32 → Int32 → Option (Int32)
  | 0, _, _ => none
  | n + 1, v3_1, v2_2 =>
    xb_in 1 51 <|
    if (g_field (Int32.toNatClampNeg 1)) ≤ v3_1 then
      some v2_2
    else
      fX6_paid_21 g_now p1 v2_2 (fX6_paid_4 g_field g_now p1 F n) v3_1 g_field F 0 (-9)
def fX6_paid (F : Nat) (g_field : Nat → Int32) (g_now : Nat → Int32) (p1 : Int32) : Option (Int32) :=
  fX6_paid_4 g_field g_now p1 F F 0 0

def fX6_sold_73 (k_30 : (Int32 → Int32 → Option (Int32))) (v3_2 : Int32) (s0_8 : Int32) : Option (Int32) :=
  k_30 (v3_2 + 1) s0_8
def fX6_sold_72 (k_30 : (Int32 → Int32 → Option (Int32))) (v3_2 : Int32) (v2_3 : Int32) : Option (Int32) :=
  fX6_sold_73 k_30 v3_2 v2_3
def fX6_sold_68 (k_30 : (Int32 → Int32 → Option (Int32))) (v3_2 : Int32) : Option (Int32) :=
  fX6_sold_73 k_30 v3_2 v3_2
def fX6_sold_30 (g_now : Nat → Int32) (F : Nat) (g_field : Nat → Int32) : Nat → Int32 → Int32 → Option (Int32)
  | 0, _, _ => none
  | n + 1, v3_2, v2_3 =>
    xb_in 1 43 <|
    if (g_now (Int32.toNatClampNeg 1)) ≤ v3_2 then
      some v2_3
    else
      xb_b1 (fX6_paid F g_field g_now v3_2) fun r_6 =>
      if r_6 ≤ 0 then
        fX6_sold_72 (fX6_sold_30 g_now F g_field n) v3_2 v2_3
      else
        if v2_3 = (-9) then
          fX6_sold_68 (fX6_sold_30 g_now F g_field n) v3_2
        else
          xb_b1 (fX6_paid F g_field g_now v2_3) fun r_11 =>
          if r_6 ≤ r_11 then
            fX6_sold_72 (fX6_sold_30 g_now F g_field n) v3_2 v2_3
          else
            fX6_sold_68 (fX6_sold_30 g_now F g_field n) v3_2
def fX6_sold_15 (p1 : Int32) (g_now : Nat → Int32) (F : Nat) (g_field : Nat → Int32) : Option (Int32) :=
  if p1 < 0 then
    fX6_sold_30 g_now F g_field F 0 (-9)
  else
    xb_b1 (fX6_paid F g_field g_now p1) fun r_14 =>
    some r_14
def fX6_sold (F : Nat) (g_field : Nat → Int32) (g_now : Nat → Int32) (p1 : Int32) : Option (Int32) :=
  if p1 = (-1) then
    fX6_sold_15 p1 g_now F g_field
  else
    xb_b1 (fX6_isTree g_now p1) fun r_17 =>
    if r_17 = 0 then
      some (-1)
    else
      fX6_sold_15 p1 g_now F g_field

def fX6_ribbons_252 (k_42 : (Int32 → Int32 → (Nat → Int32) → Option (Int32 × (Nat → Int32)))) (v3_7 : Int32) (s0_22 : Int32) (g_raised_17 : Nat → Int32) : Option (Int32 × (Nat → Int32)) :=
  k_42 (v3_7 + 1) s0_22 g_raised_17
def fX6_ribbons_251 (k_42 : (Int32 → Int32 → (Nat → Int32) → Option (Int32 × (Nat → Int32)))) (v3_7 : Int32) (v1_8 : Int32) (g_raised_17 : Nat → Int32) : Option (Int32 × (Nat → Int32)) :=
  fX6_ribbons_252 k_42 v3_7 v1_8 g_raised_17
def fX6_ribbons_246 (k_42 : (Int32 → Int32 → (Nat → Int32) → Option (Int32 × (Nat → Int32)))) (v3_7 : Int32) (v6_20 : Int32) (g_raised_17 : Nat → Int32) : Option (Int32 × (Nat → Int32)) :=
  fX6_ribbons_252 k_42 v3_7 v6_20 g_raised_17
def fX6_ribbons_206 (v5_15 : Int32) (k_42 : (Int32 → Int32 → (Nat → Int32) → Option (Int32 × (Nat → Int32)))) (v3_7 : Int32) (v1_8 : Int32) (g_raised_17 : Nat → Int32) : Nat → Int32 → Int32 → Option (Int32 × (Nat → Int32))
  | 0, _, _ => none
  | n + 1, v7_19, v6_20 =>
    if 7 ≤ v7_19 then
      if v5_15 = 0 then
        fX6_ribbons_251 k_42 v3_7 v1_8 g_raised_17
      else
        if v1_8 < 0 then
          fX6_ribbons_246 k_42 v3_7 v6_20 g_raised_17
        else
          if v1_8 ≤ v6_20 then
            fX6_ribbons_251 k_42 v3_7 v1_8 g_raised_17
          else
            fX6_ribbons_246 k_42 v3_7 v6_20 g_raised_17
    else
      xb_in v7_19 7 <|
      xb_let (v6_20 + (g_raised_17 (Int32.toNatClampNeg v7_19))) fun v6_27 =>
      (fX6_ribbons_206 v5_15 k_42 v3_7 v1_8 g_raised_17 n) (v7_19 + 1) v6_27
def fX6_ribbons_200 (v5_15 : Int32) (k_42 : (Int32 → Int32 → (Nat → Int32) → Option (Int32 × (Nat → Int32)))) (v3_7 : Int32) (v1_8 : Int32) (g_raised_17 : Nat → Int32) (F : Nat) : Option (Int32 × (Nat → Int32)) :=
  fX6_ribbons_206 v5_15 k_42 v3_7 v1_8 g_raised_17 F 0 0
def fX6_ribbons_193 (v7_30 : Int32) (k_80 : (Int32 → Int32 → Int32 → (Nat → Int32) → Option (Int32 × (Nat → Int32)))) (v6_14 : Int32) (s0_34 : Int32) (v4_31 : Int32) (g_raised_17 : Nat → Int32) (s2_37 : Int32) : Option (Int32 × (Nat → Int32)) :=
  xb_in v7_30 7 <|
  k_80 (v6_14 + 1) s0_34 v4_31 (upd g_raised_17 (Int32.toNatClampNeg v7_30) s2_37)
def fX6_ribbons_161 (v7_30 : Int32) (s0_35 : Int32) (g_raised_17 : Nat → Int32) (k_80 : (Int32 → Int32 → Int32 → (Nat → Int32) → Option (Int32 × (Nat → Int32)))) (v6_14 : Int32) (s0_34 : Int32) (v4_31 : Int32) : Option (Int32 × (Nat → Int32)) :=
  xb_in v7_30 7 <|
  if s0_35 ≤ (g_raised_17 (Int32.toNatClampNeg v7_30)) then
    xb_in v7_30 7 <|
    fX6_ribbons_193 v7_30 k_80 v6_14 s0_34 v4_31 g_raised_17 (g_raised_17 (Int32.toNatClampNeg v7_30))
  else
    fX6_ribbons_193 v7_30 k_80 v6_14 s0_34 v4_31 g_raised_17 s0_35
def fX6_ribbons_135 (s0_34 : Int32) (v7_30 : Int32) (g_raised_17 : Nat → Int32) (k_80 : (Int32 → Int32 → Int32 → (Nat → Int32) → Option (Int32 × (Nat → Int32)))) (v6_14 : Int32) (v4_31 : Int32) (g_field : Nat → Int32) (g_now : Nat → Int32) : Option (Int32 × (Nat → Int32)) :=
  if s0_34 = 0 then
    fX6_ribbons_161 v7_30 0 g_raised_17 k_80 v6_14 s0_34 v4_31
  else
    xb_b1 (fX6_tall g_field v6_14) fun r_42 =>
    xb_b1 (fX6_high g_now v7_30) fun r_44 =>
    fX6_ribbons_161 v7_30 ((r_42 + 1) - r_44) g_raised_17 k_80 v6_14 s0_34 v4_31
def fX6_ribbons_134 (v7_30 : Int32) (g_raised_17 : Nat → Int32) (k_80 : (Int32 → Int32 → Int32 → (Nat → Int32) → Option (Int32 × (Nat → Int32)))) (v6_14 : Int32) (v4_31 : Int32) (g_field : Nat → Int32) (g_now : Nat → Int32) : Option (Int32 × (Nat → Int32)) :=
  fX6_ribbons_135 0 v7_30 g_raised_17 k_80 v6_14 v4_31 g_field g_now
def fX6_ribbons_80 (g_field : Nat → Int32) (k_42 : (Int32 → Int32 → (Nat → Int32) → Option (Int32 × (Nat → Int32)))) (v3_7 : Int32) (v1_8 : Int32) (F : Nat) (g_now : Nat → Int32) : Nat → Int32 → Int32 → Int32 → (Nat → Int32) → Option (Int32 × (Nat → Int32))
  | 0, _, _, _, _ => none
  | n + 1, v6_14, v5_15, v4_16, g_raised_17 =>
    xb_in 1 51 <|
    if (g_field (Int32.toNatClampNeg 1)) ≤ v6_14 then
      fX6_ribbons_200 v5_15 k_42 v3_7 v1_8 g_raised_17 F
    else
      if v5_15 = 0 then
        fX6_ribbons_200 v5_15 k_42 v3_7 v1_8 g_raised_17 F
      else
        xb_let (v4_16 - v4_16 / 7 * 7) fun v7_30 =>
        xb_let (v4_16 / 7) fun v4_31 =>
        xb_b1 (fX6_isTree g_now v7_30) fun r_32 =>
        if r_32 = 0 then
          fX6_ribbons_134 v7_30 g_raised_17 (fX6_ribbons_80 g_field k_42 v3_7 v1_8 F g_now n) v6_14 v4_31 g_field g_now
        else
          xb_b1 (fX6_isInReach g_field g_now v7_30 v6_14) fun r_47 =>
          if r_47 = 0 then
            fX6_ribbons_134 v7_30 g_raised_17 (fX6_ribbons_80 g_field k_42 v3_7 v1_8 F g_now n) v6_14 v4_31 g_field g_now
          else
            fX6_ribbons_135 1 v7_30 g_raised_17 (fX6_ribbons_80 g_field k_42 v3_7 v1_8 F g_now n) v6_14 v4_31 g_field g_now
def fX6_ribbons_50 (g_field : Nat → Int32) (k_42 : (Int32 → Int32 → (Nat → Int32) → Option (Int32 × (Nat → Int32)))) (v3_7 : Int32) (v1_8 : Int32) (F : Nat) (g_now : Nat → Int32) : Nat → Int32 → (Nat → Int32) → Option (Int32 × (Nat → Int32))
  | 0, _, _ => none
  | n + 1, v4_11, g_raised_12 =>
    if 7 ≤ v4_11 then
      fX6_ribbons_80 g_field k_42 v3_7 v1_8 F g_now F 0 1 v3_7 g_raised_12
    else
      xb_in v4_11 7 <|
      (fX6_ribbons_50 g_field k_42 v3_7 v1_8 F g_now n) (v4_11 + 1) (upd g_raised_12 (Int32.toNatClampNeg v4_11) 0)
def fX6_ribbons_42 (v2_4 : Int32) (g_field : Nat → Int32) (F : Nat) (g_now : Nat → Int32) : Nat → Int32 → Int32 → (Nat → Int32) → Option (Int32 × (Nat → Int32))
  | 0, _, _, _ => none
  | n + 1, v3_7, v1_8, g_raised_9 =>
    if v2_4 ≤ v3_7 then
      some (v1_8, g_raised_9)
    else
      fX6_ribbons_50 g_field (fX6_ribbons_42 v2_4 g_field F g_now n) v3_7 v1_8 F g_now F 0 g_raised_9
def fX6_ribbons_19 (g_field : Nat → Int32) (F : Nat) (g_now : Nat → Int32) (g_raised : Nat → Int32) : Nat → Int32 → Int32 → Option (Int32 × (Nat → Int32))
  | 0, _, _ => none
  | n + 1, v3_3, v2_4 =>
    xb_in 1 51 <|
    if (g_field (Int32.toNatClampNeg 1)) ≤ v3_3 then
      fX6_ribbons_42 v2_4 g_field F g_now F 0 (-5) g_raised
    else
      xb_let (v2_4 * 7) fun v2_51 =>
      (fX6_ribbons_19 g_field F g_now g_raised n) (v3_3 + 1) v2_51
def fX6_ribbons (F : Nat) (g_field : Nat → Int32) (g_now : Nat → Int32) (g_raised : Nat → Int32) : Option (Int32 × (Nat → Int32)) :=
  xb_in 1 51 <|
  if (g_field (Int32.toNatClampNeg 1)) = 0 then
    some ((-9), g_raised)
  else
    fX6_ribbons_19 g_field F g_now g_raised F 0 1

def fX6_tracks_71 (v3_5 : Int32) (s1_9 : Int32) (k_40 : (Int32 → Int32 → Option (Int32))) (v4_4 : Int32) : Option (Int32) :=
  xb_let (v3_5 ||| s1_9) fun v3_10 =>
  k_40 (v4_4 + 1) v3_10
def fX6_tracks_40 (F : Nat) (g_field : Nat → Int32) (g_now : Nat → Int32) (p2 : Int32) (p1 : Int32) : Nat → Int32 → Int32 → Option (Int32)
  | 0, _, _ => none
  | n + 1, v4_4, v3_5 =>
    if 10 ≤ v4_4 then
      some v3_5
    else
      xb_b1 (fX6_strikes F g_field g_now v4_4) fun r_7 =>
      if r_7 = (p2 + (100 * p1)) then
        fX6_tracks_71 v3_5 (1 <<< (v4_4 &&& 31)) (fX6_tracks_40 F g_field g_now p2 p1 n) v4_4
      else
        fX6_tracks_71 v3_5 0 (fX6_tracks_40 F g_field g_now p2 p1 n) v4_4
def fX6_tracks_35 (F : Nat) (g_field : Nat → Int32) (g_now : Nat → Int32) (p2 : Int32) (p1 : Int32) : Option (Int32) :=
  fX6_tracks_40 F g_field g_now p2 p1 F 0 0
def fX6_tracks (F : Nat) (g_field : Nat → Int32) (g_now : Nat → Int32) (p1 : Int32) (p2 : Int32) : Option (Int32) :=
  xb_b1 (fX6_in (Int32.toInt64 p1) 0 1) fun r_1 =>
  if r_1 = 0 then
    some (-1)
  else
    if p1 = 0 then
      xb_b1 (fX6_isTree g_now p2) fun r_16 =>
      if r_16 = 0 then
        some (-1)
      else
        fX6_tracks_35 F g_field g_now p2 p1
    else
      xb_b1 (fX6_isHouse g_field p2) fun r_13 =>
      if r_13 = 0 then
        some (-1)
      else
        fX6_tracks_35 F g_field g_now p2 p1

def fX6_odds_164 (p3 : Int32) (v5_16 : Int32) (g_now_17 : Nat → Int32) (g_aside_10 : Nat → Int32) (v4_13 : Int32) : Nat → Int32 → Int32 → Option (Int32 × (Nat → Int32) × (Nat → Int32))
  | 0, _, _ => none
  | n + 1, v7_19, v6_20 =>
    if v7_19 = 0 then
      if p3 = 0 then
        xb_nz v6_20 <|
        some ((v5_16 / v6_20), g_now_17, g_aside_10)
      else
        xb_nz v6_20 <|
        some ((v4_13 / v6_20), g_now_17, g_aside_10)
    else
      xb_nz v7_19 <|
      xb_let (v6_20 - v6_20 / v7_19 * v7_19) fun v8_26 =>
      (fX6_odds_164 p3 v5_16 g_now_17 g_aside_10 v4_13 n) v8_26 v7_19
def fX6_odds_143 (v5_16 : Int32) (s1_32 : Int32) (F : Nat) (g_now_30 : Nat → Int32) (g_aside_10 : Nat → Int32) (k_67 : (Int32 → Int32 → (Nat → Int32) → Option (Int32 × (Nat → Int32) × (Nat → Int32)))) (v6_15 : Int32) : Option (Int32 × (Nat → Int32) × (Nat → Int32)) :=
  xb_let (v5_16 + s1_32) fun v5_33 =>
  xb_b1 (fX6_backs F g_now_30 g_aside_10) fun g_now_34 =>
  k_67 (v6_15 + 1) v5_33 g_now_34
def fX6_odds_116 (v7_29 : Int32) (k_84 : (Int32 → Int32 → Int32 → (Nat → Int32) → Option (Int32 × (Nat → Int32) × (Nat → Int32)))) (v9_27 : Int32) (s0_40 : Int32) (g_now_38 : Nat → Int32) : Option (Int32 × (Nat → Int32) × (Nat → Int32)) :=
  xb_let (v7_29 / 10) fun v7_41 =>
  k_84 (v9_27 + 1) s0_40 v7_41 g_now_38
def fX6_odds_111 (v7_29 : Int32) (k_84 : (Int32 → Int32 → Int32 → (Nat → Int32) → Option (Int32 × (Nat → Int32) × (Nat → Int32)))) (v9_27 : Int32) (g_now_38 : Nat → Int32) : Option (Int32 × (Nat → Int32) × (Nat → Int32)) :=
  fX6_odds_116 v7_29 k_84 v9_27 1 g_now_38
def fX6_odds_84 (p2 : Int32) (v5_16 : Int32) (F : Nat) (g_aside_10 : Nat → Int32) (k_67 : (Int32 → Int32 → (Nat → Int32) → Option (Int32 × (Nat → Int32) × (Nat → Int32)))) (v6_15 : Int32) (g_field : Nat → Int32) (p1 : Int32) : Nat → Int32 → Int32 → Int32 → (Nat → Int32) → Option (Int32 × (Nat → Int32) × (Nat → Int32))
  | 0, _, _, _, _ => none
  | n + 1, v9_27, v8_28, v7_29, g_now_30 =>
    if p2 ≤ v9_27 then
      if v8_28 = 0 then
        fX6_odds_143 v5_16 0 F g_now_30 g_aside_10 k_67 v6_15
      else
        fX6_odds_143 v5_16 1 F g_now_30 g_aside_10 k_67 v6_15
    else
      xb_b2 (fX6_storms F g_field g_now_30 (v7_29 - v7_29 / 10 * 10)) fun r_37 g_now_38 =>
      if r_37 = (100 + p1) then
        fX6_odds_111 v7_29 (fX6_odds_84 p2 v5_16 F g_aside_10 k_67 v6_15 g_field p1 n) v9_27 g_now_38
      else
        if v8_28 = 0 then
          fX6_odds_116 v7_29 (fX6_odds_84 p2 v5_16 F g_aside_10 k_67 v6_15 g_field p1 n) v9_27 0 g_now_38
        else
          fX6_odds_111 v7_29 (fX6_odds_84 p2 v5_16 F g_aside_10 k_67 v6_15 g_field p1 n) v9_27 g_now_38
def fX6_odds_67 (v4_13 : Int32) (p3 : Int32) (g_aside_10 : Nat → Int32) (F : Nat) (p2 : Int32) (g_field : Nat → Int32) (p1 : Int32) : Nat → Int32 → Int32 → (Nat → Int32) → Option (Int32 × (Nat → Int32) × (Nat → Int32))
  | 0, _, _, _ => none
  | n + 1, v6_15, v5_16, g_now_17 =>
    if v4_13 ≤ v6_15 then
      fX6_odds_164 p3 v5_16 g_now_17 g_aside_10 v4_13 F v4_13 v5_16
    else
      fX6_odds_84 p2 v5_16 F g_aside_10 (fX6_odds_67 v4_13 p3 g_aside_10 F p2 g_field p1 n) v6_15 g_field p1 F 0 0 v6_15 g_now_17
def fX6_odds_42 (p2 : Int32) (p3 : Int32) (g_aside_10 : Nat → Int32) (F : Nat) (g_field : Nat → Int32) (p1 : Int32) (g_now : Nat → Int32) : Nat → Int32 → Int32 → Option (Int32 × (Nat → Int32) × (Nat → Int32))
  | 0, _, _ => none
  | n + 1, v5_12, v4_13 =>
    if p2 ≤ v5_12 then
      fX6_odds_67 v4_13 p3 g_aside_10 F p2 g_field p1 F 0 0 g_now
    else
      xb_let (v4_13 * 10) fun v4_44 =>
      (fX6_odds_42 p2 p3 g_aside_10 F g_field p1 g_now n) (v5_12 + 1) v4_44
def fX6_odds (F : Nat) (g_field : Nat → Int32) (g_now : Nat → Int32) (g_aside : Nat → Int32) (p1 : Int32) (p2 : Int32) (p3 : Int32) : Option (Int32 × (Nat → Int32) × (Nat → Int32)) :=
  xb_b1 (fX6_isHouse g_field p1) fun r_1 =>
  if r_1 = 0 then
    some ((-1), g_now, g_aside)
  else
    xb_b1 (fX6_in (Int32.toInt64 p2) 0 3) fun r_4 =>
    if r_4 = 0 then
      some ((-1), g_now, g_aside)
    else
      xb_b1 (fX6_in (Int32.toInt64 p3) 0 1) fun r_7 =>
      if r_7 = 0 then
        some ((-1), g_now, g_aside)
      else
        xb_b1 (fX6_asides F g_now g_aside) fun g_aside_10 =>
        fX6_odds_42 p2 p3 g_aside_10 F g_field p1 g_now F 0 1

def fX6_war_121 (k_50 : (Int32 → Int32 → Int32 → Int32 → Option (Int32))) (v7_14 : Int32) (v6_19 : Int32) (v5_20 : Int32) (s0_24 : Int32) : Option (Int32) :=
  k_50 (v7_14 + 1) v6_19 v5_20 s0_24
def fX6_war_82 (v6_19 : Int32) (p1 : Int32) (v4_17 : Int32) (g_now : Nat → Int32) (k_50 : (Int32 → Int32 → Int32 → Int32 → Option (Int32))) (v7_14 : Int32) (v5_20 : Int32) : Option (Int32) :=
  if 0 ≤ v6_19 then
    xb_in ((2 + (5 * p1)) + 3) 43 <|
    xb_let (v4_17 + (g_now (Int32.toNatClampNeg ((2 + (5 * p1)) + 3)))) fun v4_23 =>
    if v4_23 ≤ 99 then
      fX6_war_121 k_50 v7_14 v6_19 v5_20 v4_23
    else
      fX6_war_121 k_50 v7_14 v6_19 v5_20 99
  else
    some v7_14
def fX6_war_50 (p1 : Int32) (g_now : Nat → Int32) : Nat → Int32 → Int32 → Int32 → Int32 → Option (Int32)
  | 0, _, _, _, _ => none
  | n + 1, v7_14, v6_15, v5_16, v4_17 =>
    if 100 ≤ v7_14 then
      some (-9)
    else
      if v4_17 < v5_16 then
        fX6_war_82 v6_15 p1 v4_17 g_now (fX6_war_50 p1 g_now n) v7_14 v5_16
      else
        xb_let (v6_15 - ((v4_17 + 1) - v5_16)) fun v6_27 =>
        xb_let (v4_17 + 1) fun v5_28 =>
        fX6_war_82 v6_27 p1 v4_17 g_now (fX6_war_50 p1 g_now n) v7_14 v5_28
def fX6_war (F : Nat) (g_field : Nat → Int32) (g_now : Nat → Int32) (p1 : Int32) (p2 : Int32) (p3 : Int32) : Option (Int32) :=
  xb_b1 (fX6_isTree g_now p1) fun r_1 =>
  if r_1 = 0 then
    some (-1)
  else
    xb_b1 (fX6_isHouse g_field p2) fun r_4 =>
    if r_4 = 0 then
      some (-1)
    else
      xb_b1 (fX6_in (Int32.toInt64 p3) 0 99) fun r_7 =>
      if r_7 = 0 then
        some (-1)
      else
        xb_b1 (fX6_high g_now p1) fun r_10 =>
        xb_b1 (fX6_tall g_field p2) fun r_12 =>
        fX6_war_50 p1 g_now F 0 p3 r_12 r_10

def fX6_saw (g_seen : Int32) (g_field : Nat → Int32) (p1 : Int32) : Option (Int32 × Int32) :=
  xb_in 1 51 <|
  xb_b1 (fX6_in (Int32.toInt64 p1) 0 (Int32.toInt64 ((1 <<< ((g_field (Int32.toNatClampNeg 1)) &&& 31)) - 1))) fun r_2 =>
  if r_2 = 0 then
    some ((-1), g_seen)
  else
    some (g_seen, p1)

def fX6_whose_192 (p1 : Int32) (v2_7 : Int32) (g_now_8 : Nat → Int32) (v3_6 : Int32) (v4_5 : Int32) : Option (Int32 × (Nat → Int32)) :=
  if p1 = 0 then
    some (v2_7, g_now_8)
  else
    if p1 = 1 then
      some (v3_6, g_now_8)
    else
      some (v4_5, g_now_8)
def fX6_whose_162 (v4_17 : Int32) (s1_31 : Int32) (k_56 : (Int32 → Int32 → Int32 → Int32 → (Nat → Int32) → Option (Int32 × (Nat → Int32)))) (v7_16 : Int32) (s0_28 : Int32) (v2_30 : Int32) (g_now_20 : Nat → Int32) (v5_4 : Int32) (s2_23 : Int32) : Option (Int32 × (Nat → Int32)) :=
  xb_let (v4_17 ||| s1_31) fun v4_32 =>
  k_56 (v7_16 + 1) v4_32 s0_28 v2_30 (upd g_now_20 (Int32.toNatClampNeg ((2 + (5 * v5_4)) + 2)) s2_23)
def fX6_whose_145 (v2_19 : Int32) (s1_29 : Int32) (s0_27 : Int32) (v4_17 : Int32) (k_56 : (Int32 → Int32 → Int32 → Int32 → (Nat → Int32) → Option (Int32 × (Nat → Int32)))) (v7_16 : Int32) (s0_28 : Int32) (g_now_20 : Nat → Int32) (v5_4 : Int32) (s2_23 : Int32) : Option (Int32 × (Nat → Int32)) :=
  xb_let (v2_19 + s1_29) fun v2_30 =>
  if s0_27 = 0 then
    fX6_whose_162 v4_17 0 k_56 v7_16 s0_28 v2_30 g_now_20 v5_4 s2_23
  else
    fX6_whose_162 v4_17 (1 <<< (v5_4 &&& 31)) k_56 v7_16 s0_28 v2_30 g_now_20 v5_4 s2_23
def fX6_whose_133 (s0_27 : Int32) (v2_19 : Int32) (v4_17 : Int32) (k_56 : (Int32 → Int32 → Int32 → Int32 → (Nat → Int32) → Option (Int32 × (Nat → Int32)))) (v7_16 : Int32) (s0_28 : Int32) (g_now_20 : Nat → Int32) (v5_4 : Int32) (s2_23 : Int32) : Option (Int32 × (Nat → Int32)) :=
  if s0_27 = 0 then
    fX6_whose_145 v2_19 0 s0_27 v4_17 k_56 v7_16 s0_28 g_now_20 v5_4 s2_23
  else
    fX6_whose_145 v2_19 1 s0_27 v4_17 k_56 v7_16 s0_28 g_now_20 v5_4 s2_23
def fX6_whose_132 (s0_27 : Int32) (v2_19 : Int32) (v4_17 : Int32) (k_56 : (Int32 → Int32 → Int32 → Int32 → (Nat → Int32) → Option (Int32 × (Nat → Int32)))) (v7_16 : Int32) (v3_18 : Int32) (g_now_20 : Nat → Int32) (v5_4 : Int32) (s2_23 : Int32) : Option (Int32 × (Nat → Int32)) :=
  fX6_whose_133 s0_27 v2_19 v4_17 k_56 v7_16 v3_18 g_now_20 v5_4 s2_23
def fX6_whose_110 (s0_27 : Int32) (v2_19 : Int32) (v4_17 : Int32) (k_56 : (Int32 → Int32 → Int32 → Int32 → (Nat → Int32) → Option (Int32 × (Nat → Int32)))) (v7_16 : Int32) (v3_18 : Int32) (g_now_20 : Nat → Int32) (v5_4 : Int32) (s2_23 : Int32) : Option (Int32 × (Nat → Int32)) :=
  if s0_27 = 0 then
    fX6_whose_132 s0_27 v2_19 v4_17 k_56 v7_16 v3_18 g_now_20 v5_4 s2_23
  else
    if v2_19 = 0 then
      fX6_whose_133 s0_27 v2_19 v4_17 k_56 v7_16 ((100 * v5_4) + v7_16) g_now_20 v5_4 s2_23
    else
      fX6_whose_132 s0_27 v2_19 v4_17 k_56 v7_16 v3_18 g_now_20 v5_4 s2_23
def fX6_whose_93 (v5_4 : Int32) (F : Nat) (g_field : Nat → Int32) (g_now_20 : Nat → Int32) (s2_23 : Int32) (g_seen : Int32) (v2_19 : Int32) (v4_17 : Int32) (k_56 : (Int32 → Int32 → Int32 → Int32 → (Nat → Int32) → Option (Int32 × (Nat → Int32)))) (v7_16 : Int32) (v3_18 : Int32) : Option (Int32 × (Nat → Int32)) :=
  xb_in ((2 + (5 * v5_4)) + 2) 43 <|
  xb_b1 (fX6_covered F g_field (upd g_now_20 (Int32.toNatClampNeg ((2 + (5 * v5_4)) + 2)) s2_23)) fun r_25 =>
  if r_25 = g_seen then
    fX6_whose_110 1 v2_19 v4_17 k_56 v7_16 v3_18 g_now_20 v5_4 s2_23
  else
    fX6_whose_110 0 v2_19 v4_17 k_56 v7_16 v3_18 g_now_20 v5_4 s2_23
def fX6_whose_56 (v5_4 : Int32) (k_25 : (Int32 → Int32 → Int32 → Int32 → (Nat → Int32) → Option (Int32 × (Nat → Int32)))) (r_14 : Int32) (F : Nat) (g_field : Nat → Int32) (g_seen : Int32) : Nat → Int32 → Int32 → Int32 → Int32 → (Nat → Int32) → Option (Int32 × (Nat → Int32))
  | 0, _, _, _, _, _ => none
  | n + 1, v7_16, v4_17, v3_18, v2_19, g_now_20 =>
    if 41 ≤ v7_16 then
      xb_in ((2 + (5 * v5_4)) + 2) 43 <|
      k_25 (v5_4 + 1) v4_17 v3_18 v2_19 (upd g_now_20 (Int32.toNatClampNeg ((2 + (5 * v5_4)) + 2)) r_14)
    else
      if 1 ≤ (r_14 - v7_16) then
        fX6_whose_93 v5_4 F g_field g_now_20 (r_14 - v7_16) g_seen v2_19 v4_17 (fX6_whose_56 v5_4 k_25 r_14 F g_field g_seen n) v7_16 v3_18
      else
        fX6_whose_93 v5_4 F g_field g_now_20 1 g_seen v2_19 v4_17 (fX6_whose_56 v5_4 k_25 r_14 F g_field g_seen n) v7_16 v3_18
def fX6_whose_25 (p1 : Int32) (g_seen : Int32) (F : Nat) (g_field : Nat → Int32) : Nat → Int32 → Int32 → Int32 → Int32 → (Nat → Int32) → Option (Int32 × (Nat → Int32))
  | 0, _, _, _, _, _ => none
  | n + 1, v5_4, v4_5, v3_6, v2_7, g_now_8 =>
    xb_in 1 43 <|
    if (g_now_8 (Int32.toNatClampNeg 1)) ≤ v5_4 then
      fX6_whose_192 p1 v2_7 g_now_8 v3_6 v4_5
    else
      if g_seen = (-9) then
        fX6_whose_192 p1 v2_7 g_now_8 v3_6 v4_5
      else
        xb_b1 (fX6_high g_now_8 v5_4) fun r_14 =>
        fX6_whose_56 v5_4 (fX6_whose_25 p1 g_seen F g_field n) r_14 F g_field g_seen F 1 v4_5 v3_6 v2_7 g_now_8
def fX6_whose (F : Nat) (g_seen : Int32) (g_field : Nat → Int32) (g_now : Nat → Int32) (p1 : Int32) : Option (Int32 × (Nat → Int32)) :=
  xb_b1 (fX6_in (Int32.toInt64 p1) 0 2) fun r_1 =>
  if r_1 = 0 then
    some ((-1), g_now)
  else
    fX6_whose_25 p1 g_seen F g_field F 0 0 (-9) 0 g_now

def fX6_mark_83 (g_trace : Int64) (s2_7 : Int64) (g_now : Nat → Int32) (p2 : Int32) (F : Nat) (g_field : Nat → Int32) (p1 : Int32) : Option (Int32 × Int64) :=
  xb_let (g_trace + s2_7) fun g_8 =>
  xb_b1 (fX6_high g_now p2) fun r_9 =>
  xb_b1 (fX6_coveredBy F g_field g_now p2) fun r_11 =>
  xb_b1 (fX6_many F r_11) fun r_13 =>
  xb_let (r_9 + r_13) fun v3_15 =>
  xb_b1 (fX6_high g_now p2) fun r_16 =>
  xb_in (2 + (5 * p2)) 43 <|
  xb_let (r_16 - (g_now (Int32.toNatClampNeg (2 + (5 * p2))))) fun v4_19 =>
  if p1 = 0 then
    xb_b1 (fX6_high g_now p2) fun r_20 =>
    some (r_20, g_8)
  else if p1 = 1 then
    some (v3_15, g_8)
  else if p1 = 2 then
    some (v4_19, g_8)
  else if p1 = 3 then
    some ((2 * v3_15), g_8)
  else if p1 = 4 then
    xb_in ((2 + (5 * p2)) + 3) 43 <|
    some ((v4_19 + (g_now (Int32.toNatClampNeg ((2 + (5 * p2)) + 3)))), g_8)
  else 
  xb_b1 (fX6_high g_now p2) fun r_23 =>
  xb_in 0 43 <|
  some ((r_23 + (g_now (Int32.toNatClampNeg 0))), g_8)
def fX6_mark (F : Nat) (g_trace : Int64) (g_field : Nat → Int32) (g_now : Nat → Int32) (p1 : Int32) (p2 : Int32) : Option (Int32 × Int64) :=
  xb_b1 (fX6_in (Int32.toInt64 p1) 0 5) fun r_1 =>
  if r_1 = 0 then
    some ((-1000000), g_trace)
  else
    xb_b1 (fX6_isTree g_now p2) fun r_4 =>
    if r_4 = 0 then
      some ((-1000000), g_trace)
    else
      if p1 = 0 then
        fX6_mark_83 g_trace 1 g_now p2 F g_field p1
      else
        if p1 = 1 then
          fX6_mark_83 g_trace 11 g_now p2 F g_field p1
        else
          if p1 = 2 then
            fX6_mark_83 g_trace 101 g_now p2 F g_field p1
          else
            if p1 = 3 then
              fX6_mark_83 g_trace 1011 g_now p2 F g_field p1
            else
              if p1 = 4 then
                fX6_mark_83 g_trace 10101 g_now p2 F g_field p1
              else
                fX6_mark_83 g_trace 100001 g_now p2 F g_field p1

def fX6_trace (g_trace : Int64) : Option (Int64) :=
  some g_trace

def fX6_keep_69 (g_now : Nat → Int32) (g_undone : Nat → Int32) (v2_4 : Int32) : Nat → Int32 → (Nat → Int32) → Option (Int32 × (Nat → Int32))
  | 0, _, _ => none
  | n + 1, v3_10, g_kept_11 =>
    if 430 ≤ v3_10 then
      xb_in 0 43 <|
      some ((g_now (Int32.toNatClampNeg 0)), g_kept_11)
    else
      xb_in v3_10 430 <|
      xb_let (g_undone (Int32.toNatClampNeg v3_10)) fun x_15 =>
      xb_in ((v2_4 + 45) + v3_10) 950 <|
      (fX6_keep_69 g_now g_undone v2_4 n) (v3_10 + 1) (upd g_kept_11 (Int32.toNatClampNeg ((v2_4 + 45) + v3_10)) x_15)
def fX6_keep_39 (g_now : Nat → Int32) (g_undone : Nat → Int32) (v2_4 : Int32) (F : Nat) : Nat → Int32 → (Nat → Int32) → Option (Int32 × (Nat → Int32))
  | 0, _, _ => none
  | n + 1, v3_7, g_kept_8 =>
    if 43 ≤ v3_7 then
      fX6_keep_69 g_now g_undone v2_4 F 0 g_kept_8
    else
      xb_in v3_7 43 <|
      xb_let (g_now (Int32.toNatClampNeg v3_7)) fun x_18 =>
      xb_in ((v2_4 + 2) + v3_7) 950 <|
      (fX6_keep_39 g_now g_undone v2_4 F n) (v3_7 + 1) (upd g_kept_8 (Int32.toNatClampNeg ((v2_4 + 2) + v3_7)) x_18)
def fX6_keep (F : Nat) (g_undos : Int32) (g_now : Nat → Int32) (g_undone : Nat → Int32) (g_kept : Nat → Int32) (p1 : Int32) : Option (Int32 × (Nat → Int32)) :=
  xb_b1 (fX6_in (Int32.toInt64 p1) 0 1) fun r_1 =>
  if r_1 = 0 then
    some ((-1), g_kept)
  else
    xb_let (475 * p1) fun v2_4 =>
    xb_in v2_4 950 <|
    xb_in (v2_4 + 1) 950 <|
    fX6_keep_39 g_now g_undone v2_4 F F 0 (upd (upd g_kept (Int32.toNatClampNeg v2_4) 1) (Int32.toNatClampNeg (v2_4 + 1)) g_undos)

def fX6_back_74 (g_now_10 : Nat → Int32) (g_8 : Int32) (v2_4 : Int32) (g_kept : Nat → Int32) : Nat → Int32 → (Nat → Int32) → Option (Int32 × Int32 × (Nat → Int32) × (Nat → Int32))
  | 0, _, _ => none
  | n + 1, v3_12, g_undone_13 =>
    if 430 ≤ v3_12 then
      xb_in 0 43 <|
      some ((g_now_10 (Int32.toNatClampNeg 0)), g_8, g_now_10, g_undone_13)
    else
      xb_in ((v2_4 + 45) + v3_12) 950 <|
      xb_let (g_kept (Int32.toNatClampNeg ((v2_4 + 45) + v3_12))) fun x_17 =>
      xb_in v3_12 430 <|
      (fX6_back_74 g_now_10 g_8 v2_4 g_kept n) (v3_12 + 1) (upd g_undone_13 (Int32.toNatClampNeg v3_12) x_17)
def fX6_back_44 (g_8 : Int32) (v2_4 : Int32) (g_kept : Nat → Int32) (F : Nat) (g_undone : Nat → Int32) : Nat → Int32 → (Nat → Int32) → Option (Int32 × Int32 × (Nat → Int32) × (Nat → Int32))
  | 0, _, _ => none
  | n + 1, v3_9, g_now_10 =>
    if 43 ≤ v3_9 then
      fX6_back_74 g_now_10 g_8 v2_4 g_kept F 0 g_undone
    else
      xb_in ((v2_4 + 2) + v3_9) 950 <|
      xb_let (g_kept (Int32.toNatClampNeg ((v2_4 + 2) + v3_9))) fun x_20 =>
      xb_in v3_9 43 <|
      (fX6_back_44 g_8 v2_4 g_kept F g_undone n) (v3_9 + 1) (upd g_now_10 (Int32.toNatClampNeg v3_9) x_20)
def fX6_back (F : Nat) (g_undos : Int32) (g_now : Nat → Int32) (g_undone : Nat → Int32) (g_kept : Nat → Int32) (p1 : Int32) : Option (Int32 × Int32 × (Nat → Int32) × (Nat → Int32)) :=
  xb_b1 (fX6_in (Int32.toInt64 p1) 0 1) fun r_1 =>
  if r_1 = 0 then
    some ((-1), g_undos, g_now, g_undone)
  else
    xb_let (475 * p1) fun v2_4 =>
    xb_in v2_4 950 <|
    if (g_kept (Int32.toNatClampNeg v2_4)) = 0 then
      some ((-2), g_undos, g_now, g_undone)
    else
      xb_in (v2_4 + 1) 950 <|
      xb_let (g_kept (Int32.toNatClampNeg (v2_4 + 1))) fun g_8 =>
      fX6_back_44 g_8 v2_4 g_kept F g_undone F 0 g_now

def fX6_count (g_size : Int32) (g_undos : Int32) (g_field : Nat → Int32) (g_now : Nat → Int32) (p1 : Int32) : Option (Int32) :=
  if p1 = 0 then
    xb_in 1 43 <|
    some (g_now (Int32.toNatClampNeg 1))
  else if p1 = 1 then
    xb_in p1 51 <|
    some (g_field (Int32.toNatClampNeg p1))
  else if p1 = 2 then
    xb_in p1 51 <|
    some (g_field (Int32.toNatClampNeg p1))
  else if p1 = 3 then
    xb_in p1 51 <|
    some (g_field (Int32.toNatClampNeg p1))
  else if p1 = 4 then
    some g_undos
  else if p1 = 5 then
    some g_size
  else 
  some (-1)
