def tape_hasRoomForTwenty (N : Nat) (σ : xS) : Option (Int32 × xS) := if (380 : Int32) < (σ.1 0) then some ((0 : Int32), σ) else some ((1 : Int32), σ)
def tape_addFour_b3 (N : Nat) : Nat → Int32 → Int32 → xS → Option (Int32 × xS)
 | 0, _, _, _ => none
 | n + 1, l1, l2, σ => if l2 < 0 then some (0, σ) else if (400 : Int32) ≤ (σ.1 0) then some (0, σ) else ast σ 0 400 (σ.1 0) (((l1.toUInt32 >>> (l2.toUInt32 &&& Int32.toUInt32 31)).toInt32) &&& (255 : Int32)) fun σ1 => put σ1 0 ((σ1.1 0) + (1 : Int32)) fun σ2 => bnd (l2 + (-8 : Int32)) fun l2_3 => tape_addFour_b3 N n l1 l2_3 σ2
def tape_addFour (N : Nat) (l1 : Int32) (σ : xS) : Option (Int32 × xS) := tape_addFour_b3 N N l1 (24 : Int32) σ
def tape_size (N : Nat) (σ : xS) : Option (Int32 × xS) := some (σ.1 0, σ)
def cw_feed (N : Nat) (l1 l2 l3 l4 l5 : Int32) (σ : xS) : Option (Int32 × xS) := cal (tape_hasRoomForTwenty N σ) fun v1 σ2 => if v1 = 0 then some ((-1 : Int32), σ2) else cal (tape_addFour N l1 σ2) fun _ σ4 => cal (tape_addFour N l2 σ4) fun _ σ6 => cal (tape_addFour N l3 σ6) fun _ σ8 => cal (tape_addFour N l4 σ8) fun _ σ10 => cal (tape_addFour N l5 σ10) fun _ σ12 => cal (tape_size N σ12) fun v13 σ14 => some (v13, σ14)
def tape_keepFirst (N : Nat) (l1 : Int32) (σ : xS) : Option (Int32 × xS) := if l1 < 0 then some ((0 : Int32), σ) else if l1 ≤ (σ.1 0) then put σ 0 l1 fun σ1 => some ((1 : Int32), σ1) else some ((0 : Int32), σ)
def cw_end (N : Nat) (l1 : Int32) (σ : xS) : Option (Int32 × xS) := cal (tape_keepFirst N l1 σ) fun v1 σ2 => gdb v1 (some (v1, σ2))
def cl_canBeSide (N : Nat) (l0 : Int32) (σ : xS) : Option (Int32 × xS) := if l0 < (1 : Int32) then some ((0 : Int32), σ) else if (8 : Int32) < l0 then some ((0 : Int32), σ) else some ((1 : Int32), σ)
def ju_fill_b5 (ab : Nat) (nb : Nat) (N : Nat) : Nat → Int32 → Int32 → Int32 → xS → Option (Int32 × xS)
 | 0, _, _, _, _ => none
 | n + 1, l1, l2, l3, σ => if l3 ≤ l2 then some (0, σ) else ast σ ab nb l2 l1 fun σ2 => bnd (l2 + (1 : Int32)) fun l2_3 => ju_fill_b5 ab nb N n l1 l2_3 l3 σ2
def ju_fill (ab : Nat) (nb : Nat) (N : Nat) (l1 : Int32) (σ : xS) : Option (Int32 × xS) := bnd (Int32.ofNat nb) fun l3_1 => ju_fill_b5 ab nb N N l1 (0 : Int32) l3_1 σ
def draft_begin (N : Nat) (l1 l2 l3 : Int32) (σ : xS) : Option (Int32 × xS) := put σ 7 l1 fun σ1 => put σ1 8 l2 fun σ2 => put σ2 9 l3 fun σ3 => cal (ju_fill 4 1000 N (0 : Int32) σ3) fun _ σ5 => some (0, σ5)
def tape_byteAt (N : Nat) (l1 : Int32) (σ : xS) : Option (Int32 × xS) := if l1 < 0 then some ((-1 : Int32), σ) else if (σ.1 0) ≤ l1 then some ((-1 : Int32), σ) else ald σ 0 400 l1 fun v1 => some (v1, σ)
def rd_isBlank (N : Nat) (l0 : Int32) (σ : xS) : Option (Int32 × xS) := if l0 = (10 : Int32) then some ((1 : Int32), σ) else if l0 = (32 : Int32) then some ((1 : Int32), σ) else some ((0 : Int32), σ)
def reader_skipBlanks_b0 (N : Nat) : Nat → xS → Option (Int32 × xS)
 | 0, _ => none
 | n + 1, σ => cal (tape_size N σ) fun v1 σ2 => if v1 ≤ (σ.1 1) then some (0, σ2) else cal (tape_byteAt N (σ2.1 1) σ2) fun v3 σ4 => cal (rd_isBlank N v3 σ4) fun v5 σ6 => if v5 = 0 then some (0, σ6) else put σ6 1 ((σ6.1 1) + (1 : Int32)) fun σ7 => reader_skipBlanks_b0 N n σ7
def reader_skipBlanks (N : Nat) (σ : xS) : Option (Int32 × xS) := reader_skipBlanks_b0 N N σ
def rd_isLetter (N : Nat) (l0 : Int32) (σ : xS) : Option (Int32 × xS) := if l0 < (97 : Int32) then some ((0 : Int32), σ) else if (122 : Int32) < l0 then some ((0 : Int32), σ) else some ((1 : Int32), σ)
def reader_takeWord_b7 (w : Nat) (N : Nat) : Nat → Int32 → Int32 → xS → Option (Int32 × xS)
 | 0, _, _, _ => none
 | n + 1, l2, l3, σ => if l2 ≤ l3 then cal (tape_byteAt N ((σ.1 1) + l2) σ) fun v3 σ4 => cal (rd_isLetter N v3 σ4) fun v5 σ6 => if v5 = 0 then put σ6 1 ((σ6.1 1) + l2) fun σ7 => some ((1 : Int32), σ7) else some ((0 : Int32), σ6) else cal (tape_byteAt N ((σ.1 1) + l3) σ) fun v8 σ9 => sch w l3 fun v10 => if v8 = v10 then bnd (l3 + (1 : Int32)) fun l3_11 => reader_takeWord_b7 w N n l2 l3_11 σ9 else some ((0 : Int32), σ9)
def reader_takeWord (w : Nat) (N : Nat) (σ : xS) : Option (Int32 × xS) := bnd (Int32.ofNat (xtl.getD w 0)) fun l2_2 => reader_takeWord_b7 w N N l2_2 (0 : Int32) σ
def reader_refuse (N : Nat) (l1 l2 : Int32) (σ : xS) : Option (Int32 × xS) := if (σ.1 2) = 0 then put σ 2 l1 fun σ1 => put σ1 3 l2 fun σ2 => some (0, σ2) else some (0, σ)
def draft_canTurn (N : Nat) (σ : xS) : Option (Int32 × xS) := if (σ.1 7) = (σ.1 8) then some ((1 : Int32), σ) else some ((0 : Int32), σ)
def reader_readSemicolon (N : Nat) (σ : xS) : Option (Int32 × xS) := cal (reader_skipBlanks N σ) fun _ σ2 => cal (tape_byteAt N (σ2.1 1) σ2) fun v3 σ4 => if v3 = (59 : Int32) then put σ4 1 ((σ4.1 1) + (1 : Int32)) fun σ7 => some (0, σ7) else cal (reader_refuse N (1 : Int32) (σ4.1 1) σ4) fun _ σ6 => some (0, σ6)
def cl_indexOf (N : Nat) (l0 l1 l2 : Int32) (σ : xS) : Option (Int32 × xS) := some (((((l2 + (1 : Int32)) * (100 : Int32)) + ((l1 + (1 : Int32)) * (10 : Int32))) + l0) + (1 : Int32), σ)
def cl_isSolid (a_solidCells : Nat) (N : Nat) (l1 : Int32) (σ : xS) : Option (Int32 × xS) := if l1 < 0 then some ((0 : Int32), σ) else if (1000 : Int32) ≤ l1 then some ((0 : Int32), σ) else ald σ a_solidCells 1000 l1 fun v1 => if v1 = (1 : Int32) then some ((1 : Int32), σ) else some ((0 : Int32), σ)
def draft_keepLayer_b18 (N : Nat) (K2 : Int32 → Int32 → xS → Option (Int32 × xS)) : Nat → Int32 → Int32 → Int32 → xS → Option (Int32 × xS)
 | 0, _, _, _, _ => none
 | n + 1, l1, l2, l3, σ => if (σ.1 7) ≤ l3 then bnd (l2 + (1 : Int32)) fun l2_1 => K2 l1 l2_1 σ else if (8 : Int32) ≤ l3 then bnd (l2 + (1 : Int32)) fun l2_2 => K2 l1 l2_2 σ else cal (cl_indexOf N l3 l2 l1 σ) fun v3 σ4 => cal (cl_isSolid 4 N v3 σ4) fun v5 σ6 => if v5 = 0 then ast σ6 5 64 ((l2 * (8 : Int32)) + l3) (0 : Int32) fun σ7 => bnd (l3 + (1 : Int32)) fun l3_8 => draft_keepLayer_b18 N K2 n l1 l2 l3_8 σ7 else ast σ6 5 64 ((l2 * (8 : Int32)) + l3) (1 : Int32) fun σ9 => bnd (l3 + (1 : Int32)) fun l3_10 => draft_keepLayer_b18 N K2 n l1 l2 l3_10 σ9
def draft_keepLayer_b2 (N : Nat) : Nat → Int32 → Int32 → xS → Option (Int32 × xS)
 | 0, _, _, _ => none
 | n + 1, l1, l2, σ => if (σ.1 8) ≤ l2 then some (0, σ) else if (8 : Int32) ≤ l2 then some (0, σ) else draft_keepLayer_b18 N (draft_keepLayer_b2 N n) N l1 l2 (0 : Int32) σ
def draft_keepLayer (N : Nat) (l1 : Int32) (σ : xS) : Option (Int32 × xS) := draft_keepLayer_b2 N N l1 (0 : Int32) σ
def cl_areWithin (i_wide : Nat) (i_high : Nat) (i_deep : Nat) (N : Nat) (l1 l2 l3 l4 : Int32) (σ : xS) : Option (Int32 × xS) := if (σ.1 i_wide) ≤ 0 then some ((0 : Int32), σ) else if l1 < (-l4) then some ((0 : Int32), σ) else if ((σ.1 i_wide) + l4) ≤ l1 then some ((0 : Int32), σ) else if l2 < (-l4) then some ((0 : Int32), σ) else if ((σ.1 i_high) + l4) ≤ l2 then some ((0 : Int32), σ) else if l3 < (-l4) then some ((0 : Int32), σ) else if ((σ.1 i_deep) + l4) ≤ l3 then some ((0 : Int32), σ) else some ((1 : Int32), σ)
def draft_put (N : Nat) (l1 l2 l3 l4 : Int32) (σ : xS) : Option (Int32 × xS) := cal (cl_areWithin 7 8 9 N l1 l2 l3 (0 : Int32) σ) fun v1 σ2 => if v1 = 0 then some (0, σ2) else cal (cl_indexOf N l1 l2 l3 σ2) fun v3 σ4 => ast σ4 4 1000 v3 l4 fun σ5 => some (0, σ5)
def draft_turnOnce_b40 (N : Nat) (K2 : Int32 → xS → Option (Int32 × xS)) (K24 : Int32 → Int32 → xS → Option (Int32 × xS)) : Nat → Int32 → Int32 → Int32 → xS → Option (Int32 × xS)
 | 0, _, _, _, _ => none
 | n + 1, l1, l2, l3, σ => if (σ.1 7) ≤ l3 then bnd (l2 + (1 : Int32)) fun l2_7 => K24 l1 l2_7 σ else if (8 : Int32) ≤ l3 then bnd (l2 + (1 : Int32)) fun l2_8 => K24 l1 l2_8 σ else ald σ 5 64 ((l2 * (8 : Int32)) + l3) fun v9 => cal (draft_put N l2 (((σ.1 7) - (1 : Int32)) - l3) l1 v9 σ) fun _ σ11 => bnd (l3 + (1 : Int32)) fun l3_12 => draft_turnOnce_b40 N K2 K24 n l1 l2 l3_12 σ11
def draft_turnOnce_b24 (N : Nat) (K2 : Int32 → xS → Option (Int32 × xS)) : Nat → Int32 → Int32 → xS → Option (Int32 × xS)
 | 0, _, _, _ => none
 | n + 1, l1, l2, σ => if (σ.1 8) ≤ l2 then bnd (l1 + (1 : Int32)) fun l1_5 => K2 l1_5 σ else if (8 : Int32) ≤ l2 then bnd (l1 + (1 : Int32)) fun l1_6 => K2 l1_6 σ else draft_turnOnce_b40 N (K2) (draft_turnOnce_b24 N K2 n) N l1 l2 (0 : Int32) σ
def draft_turnOnce_b2 (N : Nat) : Nat → Int32 → xS → Option (Int32 × xS)
 | 0, _, _ => none
 | n + 1, l1, σ => if (σ.1 9) ≤ l1 then some (0, σ) else cal (draft_canTurn N σ) fun v1 σ2 => if v1 = 0 then some (0, σ2) else cal (draft_keepLayer N l1 σ2) fun _ σ4 => draft_turnOnce_b24 N (draft_turnOnce_b2 N n) N l1 (0 : Int32) σ4
def draft_turnOnce (N : Nat) (σ : xS) : Option (Int32 × xS) := draft_turnOnce_b2 N N (0 : Int32) σ
def reader_readTurn (N : Nat) (l2 : Int32) (σ : xS) : Option (Int32 × xS) := cal (draft_canTurn N σ) fun v1 σ2 => if v1 = 0 then cal (reader_refuse N (2 : Int32) l2 σ2) fun _ σ8 => cal (reader_readSemicolon N σ8) fun _ σ10 => if (σ10.1 2) = 0 then cal (draft_turnOnce N σ10) fun _ σ12 => some (0, σ12) else some (0, σ10) else cal (reader_readSemicolon N σ2) fun _ σ4 => if (σ4.1 2) = 0 then cal (draft_turnOnce N σ4) fun _ σ6 => some (0, σ6) else some (0, σ4)
def reader_takeAxis (N : Nat) (σ : xS) : Option (Int32 × xS) := cal (reader_takeWord 4 N σ) fun v1 σ2 => if v1 = 0 then cal (reader_takeWord 5 N σ2) fun v3 σ4 => if v3 = 0 then cal (reader_takeWord 6 N σ4) fun v5 σ6 => if v5 = 0 then some ((-1 : Int32), σ6) else some ((2 : Int32), σ6) else some ((1 : Int32), σ4) else some ((0 : Int32), σ2)
def draft_mirrorAcross_b82 (N : Nat) (K2 : Int32 → Int32 → xS → Option (Int32 × xS)) (K12 : Int32 → Int32 → Int32 → xS → Option (Int32 × xS)) (K23 : Int32 → Int32 → Int32 → Int32 → xS → Option (Int32 × xS)) (l1 l2 l3 l4 s1 s2 : Int32) (σ : xS) : Option (Int32 × xS) := if l1 = (2 : Int32) then cal (draft_put N s1 s2 (((σ.1 9) - (1 : Int32)) - l2) (1 : Int32) σ) fun _ σ12 => bnd (l4 + (1 : Int32)) fun l4_13 => K23 l1 l2 l3 l4_13 σ12 else cal (draft_put N s1 s2 l2 (1 : Int32) σ) fun _ σ9 => bnd (l4 + (1 : Int32)) fun l4_10 => K23 l1 l2 l3 l4_10 σ9
def draft_mirrorAcross_b65 (N : Nat) (K2 : Int32 → Int32 → xS → Option (Int32 × xS)) (K12 : Int32 → Int32 → Int32 → xS → Option (Int32 × xS)) (K23 : Int32 → Int32 → Int32 → Int32 → xS → Option (Int32 × xS)) (l1 l2 l3 l4 s1 : Int32) (σ : xS) : Option (Int32 × xS) := if l1 = (1 : Int32) then draft_mirrorAcross_b82 N (K2) (K12) (K23) l1 l2 l3 l4 s1 (((σ.1 8) - (1 : Int32)) - l3) σ else draft_mirrorAcross_b82 N (K2) (K12) (K23) l1 l2 l3 l4 s1 l3 σ
def draft_mirrorAcross_b23 (N : Nat) (K2 : Int32 → Int32 → xS → Option (Int32 × xS)) (K12 : Int32 → Int32 → Int32 → xS → Option (Int32 × xS)) : Nat → Int32 → Int32 → Int32 → Int32 → xS → Option (Int32 × xS)
 | 0, _, _, _, _, _ => none
 | n + 1, l1, l2, l3, l4, σ => if (σ.1 7) ≤ l4 then bnd (l3 + (1 : Int32)) fun l3_2 => K12 l1 l2 l3_2 σ else cal (cl_indexOf N l4 l3 l2 σ) fun v3 σ4 => cal (cl_isSolid 4 N v3 σ4) fun v5 σ6 => if v5 = 0 then bnd (l4 + (1 : Int32)) fun l4_7 => draft_mirrorAcross_b23 N K2 K12 n l1 l2 l3 l4_7 σ6 else if l1 = 0 then draft_mirrorAcross_b65 N (K2) (K12) (draft_mirrorAcross_b23 N K2 K12 n) l1 l2 l3 l4 (((σ6.1 7) - (1 : Int32)) - l4) σ6 else draft_mirrorAcross_b65 N (K2) (K12) (draft_mirrorAcross_b23 N K2 K12 n) l1 l2 l3 l4 l4 σ6
def draft_mirrorAcross_b12 (N : Nat) (K2 : Int32 → Int32 → xS → Option (Int32 × xS)) : Nat → Int32 → Int32 → Int32 → xS → Option (Int32 × xS)
 | 0, _, _, _, _ => none
 | n + 1, l1, l2, l3, σ => if (σ.1 8) ≤ l3 then bnd (l2 + (1 : Int32)) fun l2_1 => K2 l1 l2_1 σ else draft_mirrorAcross_b23 N (K2) (draft_mirrorAcross_b12 N K2 n) N l1 l2 l3 (0 : Int32) σ
def draft_mirrorAcross_b2 (N : Nat) : Nat → Int32 → Int32 → xS → Option (Int32 × xS)
 | 0, _, _, _ => none
 | n + 1, l1, l2, σ => if (σ.1 9) ≤ l2 then some (0, σ) else draft_mirrorAcross_b12 N (draft_mirrorAcross_b2 N n) N l1 l2 (0 : Int32) σ
def draft_mirrorAcross (N : Nat) (l1 : Int32) (σ : xS) : Option (Int32 × xS) := draft_mirrorAcross_b2 N N l1 (0 : Int32) σ
def reader_readMirror (N : Nat) (σ : xS) : Option (Int32 × xS) := cal (reader_skipBlanks N σ) fun _ σ2 => bnd (σ2.1 1) fun l2_3 => cal (reader_takeAxis N σ2) fun v4 σ5 => if v4 = (-1 : Int32) then cal (reader_refuse N (1 : Int32) l2_3 σ5) fun _ σ11 => cal (reader_readSemicolon N σ11) fun _ σ13 => if (σ13.1 2) = 0 then cal (draft_mirrorAcross N v4 σ13) fun _ σ15 => some (0, σ15) else some (0, σ13) else cal (reader_readSemicolon N σ5) fun _ σ7 => if (σ7.1 2) = 0 then cal (draft_mirrorAcross N v4 σ7) fun _ σ9 => some (0, σ9) else some (0, σ7)
def draft_fillBlock_b84 (N : Nat) (K60 : Int32 → Int32 → Int32 → Int32 → Int32 → xS → Option (Int32 × xS)) (K72 : Int32 → Int32 → Int32 → Int32 → Int32 → Int32 → xS → Option (Int32 × xS)) : Nat → Int32 → Int32 → Int32 → Int32 → Int32 → Int32 → Int32 → xS → Option (Int32 × xS)
 | 0, _, _, _, _, _, _, _, _ => none
 | n + 1, l2, l3, l4, l5, l6, l7, l8, σ => if l3 ≤ l8 then bnd (l7 + (1 : Int32)) fun l7_14 => K72 l2 l3 l4 l5 l6 l7_14 σ else cal (draft_put N l8 l7 l6 l2 σ) fun _ σ16 => bnd (l8 + (1 : Int32)) fun l8_17 => draft_fillBlock_b84 N K60 K72 n l2 l3 l4 l5 l6 l7 l8_17 σ16
def draft_fillBlock_b72 (N : Nat) (K60 : Int32 → Int32 → Int32 → Int32 → Int32 → xS → Option (Int32 × xS)) : Nat → Int32 → Int32 → Int32 → Int32 → Int32 → Int32 → xS → Option (Int32 × xS)
 | 0, _, _, _, _, _, _, _ => none
 | n + 1, l2, l3, l4, l5, l6, l7, σ => if l4 ≤ l7 then bnd (l6 + (1 : Int32)) fun l6_12 => K60 l2 l3 l4 l5 l6_12 σ else ald σ 1 6 (0 : Int32) fun v13 => draft_fillBlock_b84 N (K60) (draft_fillBlock_b72 N K60 n) N l2 l3 l4 l5 l6 l7 v13 σ
def draft_fillBlock_b60 (N : Nat) : Nat → Int32 → Int32 → Int32 → Int32 → Int32 → xS → Option (Int32 × xS)
 | 0, _, _, _, _, _, _ => none
 | n + 1, l2, l3, l4, l5, l6, σ => if l5 ≤ l6 then some (0, σ) else ald σ 1 6 (1 : Int32) fun v11 => draft_fillBlock_b72 N (draft_fillBlock_b60 N n) N l2 l3 l4 l5 l6 v11 σ
def draft_fillBlock (N : Nat) (l2 : Int32) (σ : xS) : Option (Int32 × xS) := if (6 : Int32) ≤ (Int32.ofNat 6) then ald σ 1 6 (0 : Int32) fun v1 => ald σ 1 6 (3 : Int32) fun v2 => bnd (xmin (σ.1 7) (v1 + v2)) fun v3 => ald σ 1 6 (1 : Int32) fun v4 => ald σ 1 6 (4 : Int32) fun v5 => bnd (xmin (σ.1 8) (v4 + v5)) fun v6 => ald σ 1 6 (2 : Int32) fun v7 => ald σ 1 6 (5 : Int32) fun v8 => bnd (xmin (σ.1 9) (v7 + v8)) fun v9 => ald σ 1 6 (2 : Int32) fun v10 => draft_fillBlock_b60 N N l2 v3 v6 v9 v10 σ else some (0, σ)
def reader_readNumber_b37 (N : Nat) (l1 l3 s0 : Int32) (σ : xS) : Option (Int32 × xS) := if s0 = 0 then cal (reader_refuse N (1 : Int32) (σ.1 1) σ) fun _ σ8 => some (0, σ8) else if l3 < 0 then cal (reader_refuse N (1 : Int32) (σ.1 1) σ) fun _ σ10 => some (0, σ10) else if l3 ≤ (9 : Int32) then if l1 < (3 : Int32) then ast σ 1 6 l1 l3 fun σ11 => put σ11 1 ((σ11.1 1) + (1 : Int32)) fun σ12 => some (0, σ12) else if l3 = 0 then cal (reader_refuse N (2 : Int32) (σ.1 1) σ) fun _ σ16 => some (0, σ16) else ast σ 1 6 l1 l3 fun σ13 => put σ13 1 ((σ13.1 1) + (1 : Int32)) fun σ14 => some (0, σ14) else cal (reader_refuse N (1 : Int32) (σ.1 1) σ) fun _ σ18 => some (0, σ18)
def reader_readNumber (N : Nat) (l1 : Int32) (σ : xS) : Option (Int32 × xS) := bnd (σ.1 1) fun l2_1 => cal (reader_skipBlanks N σ) fun _ σ3 => cal (tape_byteAt N (σ3.1 1) σ3) fun v4 σ5 => bnd (v4 - (48 : Int32)) fun l3_6 => if (σ5.1 1) ≤ l2_1 then reader_readNumber_b37 N l1 l3_6 (0 : Int32) σ5 else reader_readNumber_b37 N l1 l3_6 (1 : Int32) σ5
def reader_readBlock_b2 (N : Nat) : Nat → Int32 → Int32 → xS → Option (Int32 × xS)
 | 0, _, _, _ => none
 | n + 1, l2, l3, σ => if (6 : Int32) ≤ l3 then cal (reader_readSemicolon N σ) fun _ σ2 => if (σ2.1 2) = 0 then cal (draft_fillBlock N l2 σ2) fun _ σ4 => some (0, σ4) else some (0, σ2) else if (σ.1 2) = 0 then cal (reader_readNumber N l3 σ) fun _ σ10 => bnd (l3 + (1 : Int32)) fun l3_11 => reader_readBlock_b2 N n l2 l3_11 σ10 else cal (reader_readSemicolon N σ) fun _ σ6 => if (σ6.1 2) = 0 then cal (draft_fillBlock N l2 σ6) fun _ σ8 => some (0, σ8) else some (0, σ6)
def reader_readBlock (N : Nat) (l2 : Int32) (σ : xS) : Option (Int32 × xS) := reader_readBlock_b2 N N l2 (0 : Int32) σ
def reader_readStatement (N : Nat) (σ : xS) : Option (Int32 × xS) := bnd (σ.1 1) fun l2_1 => cal (reader_takeWord 0 N σ) fun v2 σ3 => if v2 = 0 then cal (reader_takeWord 1 N σ3) fun v4 σ5 => if v4 = 0 then cal (reader_takeWord 2 N σ5) fun v6 σ7 => if v6 = 0 then cal (reader_takeWord 3 N σ7) fun v8 σ9 => if v8 = 0 then cal (reader_refuse N (1 : Int32) l2_1 σ9) fun _ σ11 => some (0, σ11) else cal (reader_readTurn N l2_1 σ9) fun _ σ13 => some (0, σ13) else cal (reader_readMirror N σ7) fun _ σ15 => some (0, σ15) else cal (reader_readBlock N (0 : Int32) σ5) fun _ σ17 => some (0, σ17) else cal (reader_readBlock N (1 : Int32) σ3) fun _ σ19 => some (0, σ19)
def reader_readOnto_b21 (N : Nat) : Nat → Int32 → xS → Option (Int32 × xS)
 | 0, _, _ => none
 | n + 1, l2, σ => if (400 : Int32) ≤ l2 then if (σ.1 2) = 0 then some ((1 : Int32), σ) else some ((0 : Int32), σ) else if (σ.1 2) = 0 then cal (tape_size N σ) fun v6 σ7 => if v6 ≤ (σ.1 1) then if (σ7.1 2) = 0 then some ((1 : Int32), σ7) else some ((0 : Int32), σ7) else cal (reader_readStatement N σ7) fun _ σ9 => cal (reader_skipBlanks N σ9) fun _ σ11 => bnd (l2 + (1 : Int32)) fun l2_12 => reader_readOnto_b21 N n l2_12 σ11 else if (σ.1 2) = 0 then some ((1 : Int32), σ) else some ((0 : Int32), σ)
def reader_readOnto (N : Nat) (σ : xS) : Option (Int32 × xS) := put σ 1 (0 : Int32) fun σ1 => put σ1 2 (0 : Int32) fun σ2 => put σ2 3 (-1 : Int32) fun σ3 => cal (reader_skipBlanks N σ3) fun _ σ5 => reader_readOnto_b21 N N (0 : Int32) σ5
def cells_copyFrom (N : Nat) (σ : xS) : Option (Int32 × xS) := put σ 4 (σ.1 7) fun σ1 => put σ1 5 (σ1.1 8) fun σ2 => put σ2 6 (σ2.1 9) fun σ3 => cpy σ3 4 2 1000 fun σ4 => some (0, σ4)
def mould_beside (N : Nat) (l1 l2 : Int32) (σ : xS) : Option (Int32 × xS) := if 0 ≤ l1 then if l2 = (0 : Int32) then gdz (10 : Int32) (if (σ.1 4) < (l1 - l1 / (10 : Int32) * (10 : Int32)) then some ((-1 : Int32), σ) else some (l1 + (1 : Int32), σ)) else if l2 = (1 : Int32) then gdz (10 : Int32) (if (l1 - l1 / (10 : Int32) * (10 : Int32)) ≤ 0 then some ((-1 : Int32), σ) else some (l1 - (1 : Int32), σ)) else if l2 = (2 : Int32) then gdz (10 : Int32) (gdz (10 : Int32) (if (σ.1 5) < ((l1 / (10 : Int32)) - (l1 / (10 : Int32)) / (10 : Int32) * (10 : Int32)) then some ((-1 : Int32), σ) else some (l1 + (10 : Int32), σ))) else if l2 = (3 : Int32) then gdz (10 : Int32) (gdz (10 : Int32) (if ((l1 / (10 : Int32)) - (l1 / (10 : Int32)) / (10 : Int32) * (10 : Int32)) ≤ 0 then some ((-1 : Int32), σ) else some (l1 - (10 : Int32), σ))) else if l2 = (4 : Int32) then gdz (100 : Int32) (if (σ.1 6) < (l1 / (100 : Int32)) then some ((-1 : Int32), σ) else some (l1 + (100 : Int32), σ)) else if l2 = (5 : Int32) then gdz (100 : Int32) (if (l1 / (100 : Int32)) ≤ 0 then some ((-1 : Int32), σ) else some (l1 - (100 : Int32), σ)) else some ((-1 : Int32), σ) else some ((-1 : Int32), σ)
def mould_freeInwards_b5 (N : Nat) : Nat → Int32 → Int32 → Int32 → xS → Option (Int32 × xS)
 | 0, _, _, _, _ => none
 | n + 1, l2, l3, l4, σ => if (10 : Int32) ≤ l4 then some (0, σ) else if l3 < 0 then some (0, σ) else if (1000 : Int32) ≤ l3 then some (0, σ) else cal (cl_isSolid 2 N l3 σ) fun v1 σ2 => if v1 = 0 then ald σ2 7 1000 l3 fun v3 => ast σ2 7 1000 l3 (v3 ||| ((1 : Int32) <<< (l2 &&& 31))) fun σ4 => cal (mould_beside N l3 (l2 ^^^ (1 : Int32)) σ4) fun v5 σ6 => bnd (l4 + (1 : Int32)) fun l4_7 => mould_freeInwards_b5 N n l2 v5 l4_7 σ6 else some (0, σ2)
def mould_freeInwards (N : Nat) (l1 l2 : Int32) (σ : xS) : Option (Int32 × xS) := mould_freeInwards_b5 N N l2 l1 (0 : Int32) σ
def mould_freeFromEdge_b2 (N : Nat) : Nat → Int32 → Int32 → xS → Option (Int32 × xS)
 | 0, _, _, _ => none
 | n + 1, l1, l2, σ => if (6 : Int32) ≤ l2 then some (0, σ) else cal (mould_beside N l1 l2 σ) fun v1 σ2 => if v1 = (-1 : Int32) then cal (mould_freeInwards N l1 l2 σ2) fun _ σ5 => bnd (l2 + (1 : Int32)) fun l2_6 => mould_freeFromEdge_b2 N n l1 l2_6 σ5 else bnd (l2 + (1 : Int32)) fun l2_3 => mould_freeFromEdge_b2 N n l1 l2_3 σ2
def mould_freeFromEdge (N : Nat) (l1 : Int32) (σ : xS) : Option (Int32 × xS) := mould_freeFromEdge_b2 N N l1 (0 : Int32) σ
def mould_cellAt (N : Nat) (l1 l2 l3 : Int32) (σ : xS) : Option (Int32 × xS) := cal (cl_areWithin 4 5 6 N l1 l2 l3 (1 : Int32) σ) fun v1 σ2 => if v1 = 0 then some ((-1 : Int32), σ2) else cal (cl_indexOf N l1 l2 l3 σ2) fun v3 σ4 => cal (cl_isSolid 2 N v3 σ4) fun v5 σ6 => if v5 = 0 then some (v3, σ6) else some ((-1 : Int32), σ6)
def mould_addMember (N : Nat) (l1 : Int32) (σ : xS) : Option (Int32 × xS) := if l1 = (-1 : Int32) then some (0, σ) else if (1000 : Int32) ≤ (σ.1 10) then some (0, σ) else ast σ 6 1000 (σ.1 10) l1 fun σ1 => put σ1 10 ((σ1.1 10) + (1 : Int32)) fun σ2 => some (0, σ2)
def mould_makeAnew_b83 (N : Nat) : Nat → Int32 → xS → Option (Int32 × xS)
 | 0, _, _ => none
 | n + 1, l1, σ => if (σ.1 10) ≤ l1 then some (0, σ) else ald σ 6 1000 l1 fun v4 => cal (mould_freeFromEdge N v4 σ) fun _ σ6 => bnd (l1 + (1 : Int32)) fun l1_7 => mould_makeAnew_b83 N n l1_7 σ6
def mould_makeAnew_b41 (N : Nat) (K15 : Int32 → xS → Option (Int32 × xS)) (K28 : Int32 → Int32 → xS → Option (Int32 × xS)) : Nat → Int32 → Int32 → Int32 → xS → Option (Int32 × xS)
 | 0, _, _, _, _ => none
 | n + 1, l1, l2, l3, σ => if (σ.1 4) < l3 then bnd (l2 + (1 : Int32)) fun l2_9 => K28 l1 l2_9 σ else cal (mould_cellAt N l3 l2 l1 σ) fun v10 σ11 => cal (mould_addMember N v10 σ11) fun _ σ13 => bnd (l3 + (1 : Int32)) fun l3_14 => mould_makeAnew_b41 N K15 K28 n l1 l2 l3_14 σ13
def mould_makeAnew_b28 (N : Nat) (K15 : Int32 → xS → Option (Int32 × xS)) : Nat → Int32 → Int32 → xS → Option (Int32 × xS)
 | 0, _, _, _ => none
 | n + 1, l1, l2, σ => if (σ.1 5) < l2 then bnd (l1 + (1 : Int32)) fun l1_8 => K15 l1_8 σ else mould_makeAnew_b41 N (K15) (mould_makeAnew_b28 N K15 n) N l1 l2 (-1 : Int32) σ
def mould_makeAnew_b15 (N : Nat) : Nat → Int32 → xS → Option (Int32 × xS)
 | 0, _, _ => none
 | n + 1, l1, σ => if (σ.1 6) < l1 then mould_makeAnew_b83 N N (0 : Int32) σ else mould_makeAnew_b28 N (mould_makeAnew_b15 N n) N l1 (-1 : Int32) σ
def mould_makeAnew (N : Nat) (σ : xS) : Option (Int32 × xS) := cal (ju_fill 7 1000 N (0 : Int32) σ) fun _ σ2 => put σ2 10 (0 : Int32) fun σ3 => mould_makeAnew_b15 N N (-1 : Int32) σ3
def pieces_clear (N : Nat) (σ : xS) : Option (Int32 × xS) := put σ 11 (0 : Int32) fun σ1 => some (0, σ1)
def drawing_forget (N : Nat) (σ : xS) : Option (Int32 × xS) := put σ 14 (0 : Int32) fun σ1 => cal (pieces_clear N σ1) fun _ σ3 => some (0, σ3)
def cells_countSolid_b4 (N : Nat) : Nat → Int32 → Int32 → xS → Option (Int32 × xS)
 | 0, _, _, _ => none
 | n + 1, l1, l2, σ => if (1000 : Int32) ≤ l2 then some (l1, σ) else ald σ 2 1000 l2 fun v1 => bnd (l1 + v1) fun l1_2 => bnd (l2 + (1 : Int32)) fun l2_3 => cells_countSolid_b4 N n l1_2 l2_3 σ
def cells_countSolid (N : Nat) (σ : xS) : Option (Int32 × xS) := cells_countSolid_b4 N N (0 : Int32) (0 : Int32) σ
def cw_form (N : Nat) (l1 l2 l3 : Int32) (σ : xS) : Option (Int32 × xS) := cal (cl_canBeSide N l1 σ) fun v1 σ2 => if v1 = 0 then some ((-2 : Int32), σ2) else cal (cl_canBeSide N l2 σ2) fun v3 σ4 => if v3 = 0 then some ((-2 : Int32), σ4) else cal (cl_canBeSide N l3 σ4) fun v5 σ6 => if v5 = 0 then some ((-2 : Int32), σ6) else cal (draft_begin N l1 l2 l3 σ6) fun _ σ8 => cal (reader_readOnto N σ8) fun v9 σ10 => cal (tape_keepFirst N (0 : Int32) σ10) fun v11 σ12 => if v9 = 0 then some ((-1 : Int32), σ12) else cal (cells_copyFrom N σ12) fun _ σ14 => cal (mould_makeAnew N σ14) fun _ σ16 => cal (drawing_forget N σ16) fun _ σ18 => cal (cells_countSolid N σ18) fun v19 σ20 => some (v19, σ20)
def reader_faultKind (N : Nat) (σ : xS) : Option (Int32 × xS) := some (σ.1 2, σ)
def reader_faultPlace (N : Nat) (σ : xS) : Option (Int32 × xS) := some (σ.1 3, σ)
def cw_fault (N : Nat) (l1 : Int32) (σ : xS) : Option (Int32 × xS) := if l1 = (0 : Int32) then cal (reader_faultKind N σ) fun v1 σ2 => some (v1, σ2) else if l1 = (1 : Int32) then cal (reader_faultPlace N σ) fun v3 σ4 => some (v3, σ4) else some ((-1 : Int32), σ)
def cw_solid (N : Nat) (l1 l2 l3 : Int32) (σ : xS) : Option (Int32 × xS) := cal (cl_areWithin 4 5 6 N l1 l2 l3 (0 : Int32) σ) fun v1 σ2 => if v1 = 0 then some ((-1 : Int32), σ2) else cal (cl_indexOf N l1 l2 l3 σ2) fun v3 σ4 => cal (cl_isSolid 2 N v3 σ4) fun v5 σ6 => if v5 = 0 then some ((0 : Int32), σ6) else some ((1 : Int32), σ6)
def mould_freeWays (N : Nat) (l1 : Int32) (σ : xS) : Option (Int32 × xS) := if l1 < 0 then some ((0 : Int32), σ) else if (1000 : Int32) ≤ l1 then some ((0 : Int32), σ) else ald σ 7 1000 l1 fun v1 => some (v1, σ)
def cw_free (N : Nat) (l1 l2 l3 : Int32) (σ : xS) : Option (Int32 × xS) := cal (mould_cellAt N l1 l2 l3 σ) fun v1 σ2 => if v1 = (-1 : Int32) then some ((-1 : Int32), σ2) else cal (mould_freeWays N v1 σ2) fun v3 σ4 => some (v3, σ4)
def cells_isThere (N : Nat) (σ : xS) : Option (Int32 × xS) := if (σ.1 4) ≤ 0 then some ((0 : Int32), σ) else some ((1 : Int32), σ)
def mould_countShut_b4 (N : Nat) : Nat → Int32 → Int32 → xS → Option (Int32 × xS)
 | 0, _, _, _ => none
 | n + 1, l1, l2, σ => if (σ.1 10) ≤ l2 then some (l1, σ) else ald σ 6 1000 l2 fun v1 => cal (mould_freeWays N v1 σ) fun v2 σ3 => if v2 = 0 then bnd (l1 + (1 : Int32)) fun l1_6 => bnd (l2 + (1 : Int32)) fun l2_7 => mould_countShut_b4 N n l1_6 l2_7 σ3 else bnd (l1 + (0 : Int32)) fun l1_4 => bnd (l2 + (1 : Int32)) fun l2_5 => mould_countShut_b4 N n l1_4 l2_5 σ3
def mould_countShut (N : Nat) (σ : xS) : Option (Int32 × xS) := mould_countShut_b4 N N (0 : Int32) (0 : Int32) σ
def cw_shut (N : Nat) (σ : xS) : Option (Int32 × xS) := cal (cells_isThere N σ) fun v1 σ2 => if v1 = 0 then some ((-1 : Int32), σ2) else cal (mould_countShut N σ2) fun v3 σ4 => some (v3, σ4)
def mould_size (N : Nat) (σ : xS) : Option (Int32 × xS) := some (σ.1 10, σ)
def mould_member (N : Nat) (l1 : Int32) (σ : xS) : Option (Int32 × xS) := if l1 < 0 then some ((-1 : Int32), σ) else if (σ.1 10) ≤ l1 then some ((-1 : Int32), σ) else ald σ 6 1000 l1 fun v1 => some (v1, σ)
def drawing_noteFreedoms_b10 (N : Nat) : Nat → Int32 → xS → Option (Int32 × xS)
 | 0, _, _ => none
 | n + 1, l1, σ => cal (mould_size N σ) fun v3 σ4 => if v3 ≤ l1 then some (0, σ4) else cal (mould_member N l1 σ4) fun v5 σ6 => cal (mould_freeWays N v5 σ6) fun v7 σ8 => ald σ8 15 64 (v7 &&& (63 : Int32)) fun v9 => ast σ8 15 64 (v7 &&& (63 : Int32)) (v9 + (1 : Int32)) fun σ10 => bnd (l1 + (1 : Int32)) fun l1_11 => drawing_noteFreedoms_b10 N n l1_11 σ10
def drawing_noteFreedoms (N : Nat) (σ : xS) : Option (Int32 × xS) := cal (ju_fill 15 64 N (0 : Int32) σ) fun _ σ2 => drawing_noteFreedoms_b10 N N (0 : Int32) σ2
def ji_bitCount (N : Nat) (l0 : Int32) (σ : xS) : Option (Int32 × xS) := bnd (l0 - (((l0.toUInt32 >>> ((1 : Int32).toUInt32 &&& Int32.toUInt32 31)).toInt32) &&& (1431655765 : Int32))) fun l0_1 => bnd ((l0_1 &&& (858993459 : Int32)) + (((l0_1.toUInt32 >>> ((2 : Int32).toUInt32 &&& Int32.toUInt32 31)).toInt32) &&& (858993459 : Int32))) fun l0_2 => bnd ((l0_2 + ((l0_2.toUInt32 >>> ((4 : Int32).toUInt32 &&& Int32.toUInt32 31)).toInt32)) &&& (252645135 : Int32)) fun l0_3 => bnd (l0_3 + ((l0_3.toUInt32 >>> ((8 : Int32).toUInt32 &&& Int32.toUInt32 31)).toInt32)) fun l0_4 => bnd (l0_4 + ((l0_4.toUInt32 >>> ((16 : Int32).toUInt32 &&& Int32.toUInt32 31)).toInt32)) fun l0_5 => some (l0_5 &&& (63 : Int32), σ)
def drawing_frees_b2 (N : Nat) : Nat → Int32 → Int32 → xS → Option (Int32 × xS)
 | 0, _, _, _ => none
 | n + 1, l1, l2, σ => if (64 : Int32) ≤ l2 then some ((1 : Int32), σ) else ald σ 15 64 l2 fun v1 => if v1 ≤ 0 then bnd (l2 + (1 : Int32)) fun l2_2 => drawing_frees_b2 N n l1 l2_2 σ else if (l2 &&& l1) = 0 then some ((0 : Int32), σ) else bnd (l2 + (1 : Int32)) fun l2_3 => drawing_frees_b2 N n l1 l2_3 σ
def drawing_frees (N : Nat) (l1 : Int32) (σ : xS) : Option (Int32 × xS) := drawing_frees_b2 N N l1 (0 : Int32) σ
def drawing_fewestWays_b4 (N : Nat) : Nat → Int32 → Int32 → xS → Option (Int32 × xS)
 | 0, _, _, _ => none
 | n + 1, l1, l2, σ => if (64 : Int32) ≤ l2 then some (l1, σ) else cal (ji_bitCount N l2 σ) fun v1 σ2 => if l1 = (-1 : Int32) then cal (drawing_frees N l2 σ2) fun v3 σ4 => if v3 = 0 then bnd (l2 + (1 : Int32)) fun l2_5 => drawing_fewestWays_b4 N n l1 l2_5 σ4 else bnd (l2 + (1 : Int32)) fun l2_6 => drawing_fewestWays_b4 N n v1 l2_6 σ4 else if l1 ≤ v1 then bnd (l2 + (1 : Int32)) fun l2_7 => drawing_fewestWays_b4 N n l1 l2_7 σ2 else cal (drawing_frees N l2 σ2) fun v8 σ9 => if v8 = 0 then bnd (l2 + (1 : Int32)) fun l2_10 => drawing_fewestWays_b4 N n l1 l2_10 σ9 else bnd (l2 + (1 : Int32)) fun l2_11 => drawing_fewestWays_b4 N n v1 l2_11 σ9
def drawing_fewestWays (N : Nat) (σ : xS) : Option (Int32 × xS) := drawing_fewestWays_b4 N N (-1 : Int32) (1 : Int32) σ
def parting_openCells_b2 (N : Nat) : Nat → Int32 → Int32 → Int32 → xS → Option (Int32 × xS)
 | 0, _, _, _, _ => none
 | n + 1, l1, l2, l3, σ => cal (mould_size N σ) fun v1 σ2 => if v1 ≤ l3 then some (0, σ2) else cal (mould_member N l3 σ2) fun v3 σ4 => cal (mould_freeWays N v3 σ4) fun v5 σ6 => if ((v5 >>> (l1 &&& 31)) &&& (1 : Int32)) = (1 : Int32) then if (v5 &&& l2) = 0 then ast σ6 16 1000 v3 (-2 : Int32) fun σ9 => bnd (l3 + (1 : Int32)) fun l3_10 => parting_openCells_b2 N n l1 l2 l3_10 σ9 else bnd (l3 + (1 : Int32)) fun l3_8 => parting_openCells_b2 N n l1 l2 l3_8 σ6 else bnd (l3 + (1 : Int32)) fun l3_7 => parting_openCells_b2 N n l1 l2 l3_7 σ6
def parting_openCells (N : Nat) (l1 l2 : Int32) (σ : xS) : Option (Int32 × xS) := parting_openCells_b2 N N l1 l2 (0 : Int32) σ
def parting_numberAt (N : Nat) (l1 : Int32) (σ : xS) : Option (Int32 × xS) := if l1 < 0 then some ((-1 : Int32), σ) else if (1000 : Int32) ≤ l1 then some ((-1 : Int32), σ) else ald σ 16 1000 l1 fun v1 => some (v1, σ)
def parting_reach (N : Nat) (l1 l2 l3 : Int32) (σ : xS) : Option (Int32 × xS) := if l1 < 0 then some (l3, σ) else if (1000 : Int32) ≤ l1 then some (l3, σ) else ald σ 16 1000 l1 fun v1 => if v1 = (-2 : Int32) then if l3 < (1000 : Int32) then ast σ 16 1000 l1 l2 fun σ2 => ast σ2 17 1000 l3 l1 fun σ3 => some (l3 + (1 : Int32), σ3) else some (l3, σ) else some (l3, σ)
def parting_spread_b28 (N : Nat) (K11 : Int32 → Int32 → Int32 → xS → Option (Int32 × xS)) : Nat → Int32 → Int32 → Int32 → Int32 → xS → Option (Int32 × xS)
 | 0, _, _, _, _, _ => none
 | n + 1, l2, l3, l4, l5, σ => if (6 : Int32) ≤ l5 then bnd (l4 + (1 : Int32)) fun l4_3 => K11 l2 l3 l4_3 σ else ald σ 17 1000 l4 fun v4 => cal (mould_beside N v4 l5 σ) fun v5 σ6 => cal (parting_reach N v5 l2 l3 σ6) fun v7 σ8 => bnd (l5 + (1 : Int32)) fun l5_9 => parting_spread_b28 N K11 n l2 v7 l4 l5_9 σ8
def parting_spread_b11 (N : Nat) : Nat → Int32 → Int32 → Int32 → xS → Option (Int32 × xS)
 | 0, _, _, _, _ => none
 | n + 1, l2, l3, l4, σ => if l3 ≤ l4 then some (0, σ) else if (1000 : Int32) ≤ l4 then some (0, σ) else parting_spread_b28 N (parting_spread_b11 N n) N l2 l3 l4 (0 : Int32) σ
def parting_spread (N : Nat) (l1 l2 : Int32) (σ : xS) : Option (Int32 × xS) := cal (parting_reach N l1 l2 (0 : Int32) σ) fun v1 σ2 => parting_spread_b11 N N l2 v1 (0 : Int32) σ2
def parting_part_b12 (N : Nat) : Nat → Int32 → Int32 → Int32 → xS → Option (Int32 × xS)
 | 0, _, _, _, _ => none
 | n + 1, l3, l4, l5, σ => cal (mould_size N σ) fun v3 σ4 => if v3 ≤ l5 then some (l4 - l3, σ4) else cal (mould_member N l5 σ4) fun v5 σ6 => cal (parting_numberAt N v5 σ6) fun v7 σ8 => if v7 = (-2 : Int32) then cal (parting_spread N v5 l4 σ8) fun _ σ11 => bnd (l4 + (1 : Int32)) fun l4_12 => bnd (l5 + (1 : Int32)) fun l5_13 => parting_part_b12 N n l3 l4_12 l5_13 σ11 else bnd (l5 + (1 : Int32)) fun l5_9 => parting_part_b12 N n l3 l4 l5_9 σ8
def parting_part (N : Nat) (l1 l2 l3 : Int32) (σ : xS) : Option (Int32 × xS) := cal (parting_openCells N l1 l2 σ) fun _ σ2 => parting_part_b12 N N l3 l3 (0 : Int32) σ2
def drawing_weighWays_b2 (N : Nat) : Nat → Int32 → Int32 → xS → Option (Int32 × xS)
 | 0, _, _, _ => none
 | n + 1, l1, l2, σ => if (6 : Int32) ≤ l2 then some (0, σ) else bnd (l1 ||| ((1 : Int32) <<< (l2 &&& 31))) fun l3_1 => if l3_1 = l1 then bnd (l2 + (1 : Int32)) fun l2_2 => drawing_weighWays_b2 N n l1 l2_2 σ else ald σ 13 64 l3_1 fun v3 => ald σ 13 64 l1 fun v4 => if v4 ≤ (v3 + (1 : Int32)) then bnd (l2 + (1 : Int32)) fun l2_5 => drawing_weighWays_b2 N n l1 l2_5 σ else cal (parting_part N l2 l1 (0 : Int32) σ) fun v6 σ7 => ald σ7 13 64 l3_1 fun v8 => bnd (v6 + v8) fun l4_9 => ald σ7 13 64 l1 fun v10 => if v10 ≤ l4_9 then bnd (l2 + (1 : Int32)) fun l2_11 => drawing_weighWays_b2 N n l1 l2_11 σ7 else ast σ7 13 64 l1 l4_9 fun σ12 => ast σ12 14 64 l1 l2 fun σ13 => bnd (l2 + (1 : Int32)) fun l2_14 => drawing_weighWays_b2 N n l1 l2_14 σ13
def drawing_weighWays (N : Nat) (l1 : Int32) (σ : xS) : Option (Int32 × xS) := drawing_weighWays_b2 N N l1 (0 : Int32) σ
def drawing_weighSets_b36 (N : Nat) (K3 : Int32 → Int32 → xS → Option (Int32 × xS)) (l1 l2 l3 s1 s2 : Int32) (σ : xS) : Option (Int32 × xS) := ast σ 13 64 s1 s2 fun σ3 => ast σ3 14 64 l2 (-1 : Int32) fun σ4 => if l1 ≤ l3 then bnd (l2 + (-1 : Int32)) fun l2_5 => K3 l1 l2_5 σ4 else cal (drawing_weighWays N l2 σ4) fun _ σ7 => bnd (l2 + (-1 : Int32)) fun l2_8 => K3 l1 l2_8 σ7
def drawing_weighSets_b3 (N : Nat) : Nat → Int32 → Int32 → xS → Option (Int32 × xS)
 | 0, _, _, _ => none
 | n + 1, l1, l2, σ => if l2 < 0 then some (0, σ) else cal (ji_bitCount N l2 σ) fun v1 σ2 => if v1 = l1 then cal (drawing_frees N l2 σ2) fun v9 σ10 => if v9 = 0 then drawing_weighSets_b36 N (drawing_weighSets_b3 N n) l1 l2 v1 l2 (1000000 : Int32) σ10 else drawing_weighSets_b36 N (drawing_weighSets_b3 N n) l1 l2 v1 l2 (0 : Int32) σ10 else drawing_weighSets_b36 N (drawing_weighSets_b3 N n) l1 l2 v1 l2 (1000000 : Int32) σ2
def drawing_weighSets (N : Nat) (l1 : Int32) (σ : xS) : Option (Int32 × xS) := drawing_weighSets_b3 N N l1 (63 : Int32) σ
def pieces_count (N : Nat) (σ : xS) : Option (Int32 × xS) := some (σ.1 11, σ)
def pieces_add_b2 (N : Nat) : Nat → Int32 → Int32 → Int32 → xS → Option (Int32 × xS)
 | 0, _, _, _, _ => none
 | n + 1, l1, l2, l3, σ => if l2 ≤ l3 then some (0, σ) else if (1000 : Int32) ≤ (σ.1 11) then some (0, σ) else ast σ 8 1000 (σ.1 11) l1 fun σ1 => ast σ1 9 1000 (σ1.1 11) (0 : Int32) fun σ2 => ast σ2 10 1000 (σ2.1 11) (0 : Int32) fun σ3 => ast σ3 11 1000 (σ3.1 11) (0 : Int32) fun σ4 => put σ4 11 ((σ4.1 11) + (1 : Int32)) fun σ5 => bnd (l3 + (1 : Int32)) fun l3_6 => pieces_add_b2 N n l1 l2 l3_6 σ5
def pieces_add (N : Nat) (l1 l2 : Int32) (σ : xS) : Option (Int32 × xS) := pieces_add_b2 N N l1 l2 (0 : Int32) σ
def drawing_keepBest_b4 (N : Nat) : Nat → Int32 → Int32 → Int32 → xS → Option (Int32 × xS)
 | 0, _, _, _, _ => none
 | n + 1, l1, l2, l3, σ => if l1 ≤ l3 then some (0, σ) else if (6 : Int32) ≤ l3 then some (0, σ) else ald σ 14 64 l2 fun v1 => if v1 = (-1 : Int32) then some (0, σ) else ald σ 14 64 l2 fun v2 => ast σ 12 6 l3 v2 fun σ3 => put σ3 14 (l3 + (1 : Int32)) fun σ4 => cal (pieces_count N σ4) fun v5 σ6 => cal (parting_part N v2 l2 v5 σ6) fun v7 σ8 => cal (pieces_add N v2 v7 σ8) fun _ σ10 => bnd (l2 ||| ((1 : Int32) <<< (v2 &&& 31))) fun l2_11 => bnd (l3 + (1 : Int32)) fun l3_12 => drawing_keepBest_b4 N n l1 l2_11 l3_12 σ10
def drawing_keepBest (N : Nat) (l1 : Int32) (σ : xS) : Option (Int32 × xS) := drawing_keepBest_b4 N N l1 (0 : Int32) (0 : Int32) σ
def pieces_has (N : Nat) (l1 : Int32) (σ : xS) : Option (Int32 × xS) := if l1 < 0 then some ((0 : Int32), σ) else if (σ.1 11) ≤ l1 then some ((0 : Int32), σ) else some ((1 : Int32), σ)
def mould_touchesSolid_b2 (N : Nat) : Nat → Int32 → Int32 → xS → Option (Int32 × xS)
 | 0, _, _, _ => none
 | n + 1, l1, l2, σ => if (6 : Int32) ≤ l2 then some ((0 : Int32), σ) else cal (mould_beside N l1 l2 σ) fun v1 σ2 => cal (cl_isSolid 2 N v1 σ2) fun v3 σ4 => if v3 = 0 then bnd (l2 + (1 : Int32)) fun l2_5 => mould_touchesSolid_b2 N n l1 l2_5 σ4 else some ((1 : Int32), σ4)
def mould_touchesSolid (N : Nat) (l1 : Int32) (σ : xS) : Option (Int32 × xS) := mould_touchesSolid_b2 N N l1 (0 : Int32) σ
def pieces_gather_b2 (N : Nat) : Nat → Int32 → xS → Option (Int32 × xS)
 | 0, _, _ => none
 | n + 1, l3, σ => cal (mould_size N σ) fun v1 σ2 => if v1 ≤ l3 then some (0, σ2) else cal (mould_member N l3 σ2) fun v3 σ4 => cal (parting_numberAt N v3 σ4) fun v5 σ6 => cal (pieces_has N v5 σ6) fun v7 σ8 => if v7 = 0 then bnd (l3 + (1 : Int32)) fun l3_9 => pieces_gather_b2 N n l3_9 σ8 else ald σ8 9 1000 v5 fun v10 => ast σ8 9 1000 v5 (v10 + (1 : Int32)) fun σ11 => ald σ11 10 1000 v5 fun v12 => cal (mould_touchesSolid N v3 σ11) fun v13 σ14 => if v13 = 0 then ast σ14 10 1000 v5 (v12 + (0 : Int32)) fun σ15 => bnd (l3 + (1 : Int32)) fun l3_16 => pieces_gather_b2 N n l3_16 σ15 else ast σ14 10 1000 v5 (v12 + (1 : Int32)) fun σ17 => bnd (l3 + (1 : Int32)) fun l3_18 => pieces_gather_b2 N n l3_18 σ17
def pieces_gather (N : Nat) (σ : xS) : Option (Int32 × xS) := pieces_gather_b2 N N (0 : Int32) σ
def pieces_takeBackPours (N : Nat) (σ : xS) : Option (Int32 × xS) := cal (ju_fill 11 1000 N (0 : Int32) σ) fun _ σ2 => some (0, σ2)
def drawing_find (N : Nat) (σ : xS) : Option (Int32 × xS) := if (σ.1 14) ≤ 0 then cal (drawing_noteFreedoms N σ) fun _ σ2 => cal (drawing_fewestWays N σ2) fun v3 σ4 => if v3 = (-1 : Int32) then some ((0 : Int32), σ4) else cal (drawing_weighSets N v3 σ4) fun _ σ6 => cal (drawing_keepBest N v3 σ6) fun _ σ8 => cal (pieces_gather N σ8) fun _ σ10 => some ((1 : Int32), σ10) else cal (pieces_takeBackPours N σ) fun _ σ12 => some ((1 : Int32), σ12)
def cw_draw (N : Nat) (σ : xS) : Option (Int32 × xS) := cal (cells_isThere N σ) fun v1 σ2 => if v1 = 0 then some ((-1 : Int32), σ2) else cal (drawing_find N σ2) fun v3 σ4 => if v3 = 0 then some ((-2 : Int32), σ4) else cal (pieces_count N σ4) fun v5 σ6 => some (v5, σ6)
def drawing_wayNumber (N : Nat) (l1 : Int32) (σ : xS) : Option (Int32 × xS) := if l1 < 0 then some ((-1 : Int32), σ) else if (σ.1 14) ≤ l1 then some ((-1 : Int32), σ) else ald σ 12 6 l1 fun v1 => some (v1, σ)
def cw_way (N : Nat) (l1 : Int32) (σ : xS) : Option (Int32 × xS) := cal (drawing_wayNumber N l1 σ) fun v1 σ2 => some (v1, σ2)
def drawing_pieceOfCell (N : Nat) (l1 : Int32) (σ : xS) : Option (Int32 × xS) := if (σ.1 14) ≤ 0 then some ((-1 : Int32), σ) else cal (parting_numberAt N l1 σ) fun v1 σ2 => some (v1, σ2)
def cw_pieceAt (N : Nat) (l1 l2 l3 : Int32) (σ : xS) : Option (Int32 × xS) := cal (mould_cellAt N l1 l2 l3 σ) fun v1 σ2 => if v1 = (-1 : Int32) then some ((-1 : Int32), σ2) else cal (drawing_pieceOfCell N v1 σ2) fun v3 σ4 => some (v3, σ4)
def pieces_borneBy (N : Nat) (l1 : Int32) (σ : xS) : Option (Int32 × xS) := ald σ 10 1000 l1 fun v1 => bnd (xmax (1 : Int32) ((σ.1 12) - v1)) fun v2 => some (v2, σ)
def pieces_tell (N : Nat) (l1 l2 : Int32) (σ : xS) : Option (Int32 × xS) := cal (pieces_has N l1 σ) fun v1 σ2 => if v1 = 0 then some ((-1 : Int32), σ2) else if l2 = (0 : Int32) then ald σ2 8 1000 l1 fun v3 => some (v3, σ2) else if l2 = (1 : Int32) then ald σ2 9 1000 l1 fun v4 => some (v4, σ2) else if l2 = (2 : Int32) then ald σ2 10 1000 l1 fun v5 => some (v5, σ2) else if l2 = (3 : Int32) then cal (pieces_borneBy N l1 σ2) fun v6 σ7 => some (v6, σ7) else if l2 = (4 : Int32) then ald σ2 11 1000 l1 fun v8 => some (v8, σ2) else some ((-1 : Int32), σ2)
def cw_piece (N : Nat) (l1 l2 : Int32) (σ : xS) : Option (Int32 × xS) := cal (pieces_tell N l1 l2 σ) fun v1 σ2 => some (v1, σ2)
def pieces_setWear (N : Nat) (l1 l2 : Int32) (σ : xS) : Option (Int32 × xS) := if l1 < (1 : Int32) then some ((0 : Int32), σ) else if (1000 : Int32) < l1 then some ((0 : Int32), σ) else if l2 < 0 then some ((0 : Int32), σ) else if l2 ≤ (100 : Int32) then put σ 12 l1 fun σ1 => put σ1 13 l2 fun σ2 => some ((1 : Int32), σ2) else some ((0 : Int32), σ)
def cw_wear (N : Nat) (l1 l2 : Int32) (σ : xS) : Option (Int32 × xS) := cal (pieces_setWear N l1 l2 σ) fun v1 σ2 => gdb v1 (some (v1, σ2))
def pieces_canPour (N : Nat) (l1 : Int32) (σ : xS) : Option (Int32 × xS) := if (σ.1 11) ≤ 0 then some ((0 : Int32), σ) else if l1 < (1 : Int32) then some ((0 : Int32), σ) else if (1000 : Int32) < l1 then some ((0 : Int32), σ) else some ((1 : Int32), σ)
def pieces_leftOn (N : Nat) (l1 : Int32) (σ : xS) : Option (Int32 × xS) := cal (pieces_borneBy N l1 σ) fun v1 σ2 => ald σ2 11 1000 l1 fun v3 => bnd (xmax (0 : Int32) (v1 - v3)) fun v4 => some (v4, σ2)
def pieces_pourWhileBorne_b30 (N : Nat) : Nat → Int32 → Int32 → xS → Option (Int32 × xS)
 | 0, _, _, _ => none
 | n + 1, l2, l3, σ => if (σ.1 11) ≤ l3 then some (l2, σ) else ald σ 11 1000 l3 fun v1 => ast σ 11 1000 l3 (v1 + l2) fun σ2 => bnd (l3 + (1 : Int32)) fun l3_3 => pieces_pourWhileBorne_b30 N n l2 l3_3 σ2
def pieces_pourWhileBorne_b4 (N : Nat) : Nat → Int32 → Int32 → xS → Option (Int32 × xS)
 | 0, _, _, _ => none
 | n + 1, l2, l3, σ => if (σ.1 11) ≤ l3 then pieces_pourWhileBorne_b30 N N l2 (0 : Int32) σ else cal (pieces_leftOn N l3 σ) fun v4 σ5 => bnd (xmin l2 v4) fun v6 => bnd (l3 + (1 : Int32)) fun l3_7 => pieces_pourWhileBorne_b4 N n v6 l3_7 σ5
def pieces_pourWhileBorne (N : Nat) (l1 : Int32) (σ : xS) : Option (Int32 × xS) := pieces_pourWhileBorne_b4 N N l1 (0 : Int32) σ
def cw_pour (N : Nat) (l1 : Int32) (σ : xS) : Option (Int32 × xS) := cal (pieces_canPour N l1 σ) fun v1 σ2 => if v1 = 0 then some ((-1 : Int32), σ2) else cal (pieces_pourWhileBorne N l1 σ2) fun v3 σ4 => some (v3, σ4)
def pieces_mendOne (N : Nat) (l1 : Int32) (σ : xS) : Option (Int32 × xS) := cal (pieces_has N l1 σ) fun v1 σ2 => if v1 = 0 then some ((-1 : Int32), σ2) else ast σ2 11 1000 l1 (0 : Int32) fun σ3 => ald σ3 9 1000 l1 fun v4 => some (v4 * (σ3.1 13), σ3)
def cw_mend (N : Nat) (l1 : Int32) (σ : xS) : Option (Int32 × xS) := cal (pieces_has N l1 σ) fun v1 σ2 => if v1 = 0 then some ((-1 : Int32), σ2) else cal (pieces_mendOne N l1 σ2) fun v3 σ4 => some (v3, σ4)
def pieces_pourAndMendOne (N : Nat) (l1 l2 : Int32) (σ : xS) : Option (Int32 × xS) := cal (pieces_leftOn N l1 σ) fun v1 σ2 => if v1 < l2 then cal (pieces_borneBy N l1 σ2) fun v3 σ4 => bnd (xmax (1 : Int32) v3) fun v5 => bnd (l2 - v1) fun l5_6 => gdz v5 (bnd (((l5_6 + v5) - (1 : Int32)) / v5) fun l6_7 => ast σ4 11 1000 l1 (l5_6 - ((l6_7 - (1 : Int32)) * v5)) fun σ8 => ald σ8 9 1000 l1 fun v9 => some ((l6_7 * v9) * (σ8.1 13), σ8)) else ald σ2 11 1000 l1 fun v10 => ast σ2 11 1000 l1 (v10 + l2) fun σ11 => some ((0 : Int32), σ11)
def pieces_pourAndMend_b4 (N : Nat) : Nat → Int32 → Int32 → Int32 → xS → Option (Int32 × xS)
 | 0, _, _, _, _ => none
 | n + 1, l1, l2, l3, σ => if (σ.1 11) ≤ l3 then some (l2, σ) else cal (pieces_pourAndMendOne N l3 l1 σ) fun v1 σ2 => bnd (l2 + v1) fun l2_3 => bnd (l3 + (1 : Int32)) fun l3_4 => pieces_pourAndMend_b4 N n l1 l2_3 l3_4 σ2
def pieces_pourAndMend (N : Nat) (l1 : Int32) (σ : xS) : Option (Int32 × xS) := pieces_pourAndMend_b4 N N l1 (0 : Int32) (0 : Int32) σ
def cw_run (N : Nat) (l1 : Int32) (σ : xS) : Option (Int32 × xS) := cal (pieces_canPour N l1 σ) fun v1 σ2 => if v1 = 0 then some ((-1 : Int32), σ2) else cal (pieces_pourAndMend N l1 σ2) fun v3 σ4 => some (v3, σ4)
def orders_setDry (N : Nat) (l1 : Int32) (σ : xS) : Option (Int32 × xS) := if l1 < 0 then some ((-1 : Int32), σ) else if l1 ≤ (100 : Int32) then bnd (σ.1 15) fun l2_1 => put σ 15 l1 fun σ2 => some (l2_1, σ2) else some ((-1 : Int32), σ)
def cw_dry (N : Nat) (l1 : Int32) (σ : xS) : Option (Int32 × xS) := cal (orders_setDry N l1 σ) fun v1 σ2 => some (v1, σ2)
def orders_add_b43 (N : Nat) : Nat → Int32 → Int32 → Int32 → Int32 → Int32 → xS → Option (Int32 × xS)
 | 0, _, _, _, _, _, _ => none
 | n + 1, l1, l2, l3, l4, l5, σ => if (10 : Int32) ≤ l5 then some ((-1 : Int32), σ) else if l4 = 0 then some ((-1 : Int32), σ) else ald σ 18 10 l5 fun v1 => if v1 = 0 then ast σ 18 10 l5 l1 fun σ3 => ast σ3 19 10 l5 l2 fun σ4 => ast σ4 20 10 l5 l3 fun σ5 => some (l5, σ5) else bnd (l5 + (1 : Int32)) fun l5_2 => orders_add_b43 N n l1 l2 l3 l4 l5_2 σ
def orders_add (N : Nat) (l1 l2 l3 : Int32) (σ : xS) : Option (Int32 × xS) := if l1 < (1 : Int32) then orders_add_b43 N N l1 l2 l3 (0 : Int32) (0 : Int32) σ else if (50 : Int32) < l1 then orders_add_b43 N N l1 l2 l3 (0 : Int32) (0 : Int32) σ else if l2 < 0 then orders_add_b43 N N l1 l2 l3 (0 : Int32) (0 : Int32) σ else if (1000 : Int32) < l2 then orders_add_b43 N N l1 l2 l3 (0 : Int32) (0 : Int32) σ else if l3 < (1 : Int32) then orders_add_b43 N N l1 l2 l3 (0 : Int32) (0 : Int32) σ else if (100 : Int32) < l3 then orders_add_b43 N N l1 l2 l3 (0 : Int32) (0 : Int32) σ else orders_add_b43 N N l1 l2 l3 (1 : Int32) (0 : Int32) σ
def cw_order (N : Nat) (l1 l2 l3 : Int32) (σ : xS) : Option (Int32 × xS) := cal (orders_add N l1 l2 l3 σ) fun v1 σ2 => some (v1, σ2)
def orders_remove (N : Nat) (l1 : Int32) (σ : xS) : Option (Int32 × xS) := if l1 < 0 then some ((0 : Int32), σ) else if (10 : Int32) ≤ l1 then some ((0 : Int32), σ) else ald σ 18 10 l1 fun v1 => if v1 = 0 then some ((0 : Int32), σ) else ast σ 18 10 l1 (0 : Int32) fun σ2 => some ((1 : Int32), σ2)
def cw_cancel (N : Nat) (l1 : Int32) (σ : xS) : Option (Int32 × xS) := cal (orders_remove N l1 σ) fun v1 σ2 => gdb v1 (some (v1, σ2))
def orders_allOrders_b4 (N : Nat) : Nat → Int32 → Int32 → xS → Option (Int32 × xS)
 | 0, _, _, _ => none
 | n + 1, l1, l2, σ => if (10 : Int32) ≤ l2 then some (l1, σ) else ald σ 18 10 l2 fun v1 => if v1 ≤ 0 then bnd (l1 ||| (0 : Int32)) fun l1_2 => bnd (l2 + (1 : Int32)) fun l2_3 => orders_allOrders_b4 N n l1_2 l2_3 σ else bnd (l1 ||| ((1 : Int32) <<< (l2 &&& 31))) fun l1_4 => bnd (l2 + (1 : Int32)) fun l2_5 => orders_allOrders_b4 N n l1_4 l2_5 σ
def orders_allOrders (N : Nat) (σ : xS) : Option (Int32 × xS) := orders_allOrders_b4 N N (0 : Int32) (0 : Int32) σ
def orders_poursOf_b4 (N : Nat) : Nat → Int32 → Int32 → Int32 → xS → Option (Int32 × xS)
 | 0, _, _, _, _ => none
 | n + 1, l1, l2, l3, σ => if (10 : Int32) ≤ l3 then some (l2, σ) else ald σ 18 10 l3 fun v1 => bnd (l2 + (((l1 >>> (l3 &&& 31)) &&& (1 : Int32)) * v1)) fun l2_2 => bnd (l3 + (1 : Int32)) fun l3_3 => orders_poursOf_b4 N n l1 l2_2 l3_3 σ
def orders_poursOf (N : Nat) (l1 : Int32) (σ : xS) : Option (Int32 × xS) := orders_poursOf_b4 N N l1 (0 : Int32) (0 : Int32) σ
def orders_latenessOf (N : Nat) (l1 l2 : Int32) (σ : xS) : Option (Int32 × xS) := ald σ 18 10 l1 fun v1 => ald σ 19 10 l1 fun v2 => bnd (xmax (0 : Int32) (((l2 + v1) + (σ.1 15)) - v2)) fun v3 => some (v3, σ)
def orders_keepRow_b12 (N : Nat) : Nat → Int32 → Int32 → Int32 → xS → Option (Int32 × xS)
 | 0, _, _, _, _ => none
 | n + 1, l2, l3, l4, σ => if (10 : Int32) ≤ l4 then some (0, σ) else if l2 = 0 then some (0, σ) else ald σ 22 1024 l2 fun v2 => ast σ 23 10 l4 v2 fun σ3 => cal (orders_latenessOf N v2 l3 σ3) fun v4 σ5 => ast σ5 24 10 l4 v4 fun σ6 => put σ6 16 (l4 + (1 : Int32)) fun σ7 => ald σ7 18 10 v2 fun v8 => bnd (l3 + v8) fun l3_9 => bnd (l2 &&& (((1 : Int32) <<< (v2 &&& 31)) ^^^ (-1 : Int32))) fun l2_10 => bnd (l4 + (1 : Int32)) fun l4_11 => orders_keepRow_b12 N n l2_10 l3_9 l4_11 σ7
def orders_keepRow (N : Nat) (l1 : Int32) (σ : xS) : Option (Int32 × xS) := put σ 16 (0 : Int32) fun σ1 => orders_keepRow_b12 N N l1 (0 : Int32) (0 : Int32) σ1
def orders_weighSet_b10 (N : Nat) : Nat → Int32 → Int32 → Int32 → xS → Option (Int32 × xS)
 | 0, _, _, _, _ => none
 | n + 1, l1, l2, l3, σ => if (10 : Int32) ≤ l3 then some (0, σ) else bnd (l1 &&& (((1 : Int32) <<< (l3 &&& 31)) ^^^ (-1 : Int32))) fun l4_2 => if l4_2 = l1 then bnd (l3 + (1 : Int32)) fun l3_3 => orders_weighSet_b10 N n l1 l2 l3_3 σ else ald σ 20 10 l3 fun v4 => cal (orders_latenessOf N l3 l2 σ) fun v5 σ6 => ald σ6 21 1024 l4_2 fun v7 => bnd ((v4 * v5) + v7) fun l5_8 => ald σ6 21 1024 l1 fun v9 => if v9 ≤ l5_8 then bnd (l3 + (1 : Int32)) fun l3_10 => orders_weighSet_b10 N n l1 l2 l3_10 σ6 else ast σ6 21 1024 l1 l5_8 fun σ11 => ast σ11 22 1024 l1 l3 fun σ12 => bnd (l3 + (1 : Int32)) fun l3_13 => orders_weighSet_b10 N n l1 l2 l3_13 σ12
def orders_weighSet (N : Nat) (l1 l2 : Int32) (σ : xS) : Option (Int32 × xS) := ast σ 21 1024 l1 (1000000 : Int32) fun σ1 => orders_weighSet_b10 N N l1 l2 (0 : Int32) σ1
def orders_findRow_b26 (N : Nat) : Nat → Int32 → Int32 → Int32 → xS → Option (Int32 × xS)
 | 0, _, _, _, _ => none
 | n + 1, l1, l2, l3, σ => if l1 < l3 then cal (orders_keepRow N l1 σ) fun _ σ7 => ald σ7 21 1024 l1 fun v8 => some (v8, σ7) else if (l3 &&& l1) = l3 then cal (orders_poursOf N l3 σ) fun v10 σ11 => cal (orders_weighSet N l3 (l2 - v10) σ11) fun _ σ13 => bnd (l3 + (1 : Int32)) fun l3_14 => orders_findRow_b26 N n l1 l2 l3_14 σ13 else bnd (l3 + (1 : Int32)) fun l3_9 => orders_findRow_b26 N n l1 l2 l3_9 σ
def orders_findRow (N : Nat) (σ : xS) : Option (Int32 × xS) := cal (orders_allOrders N σ) fun v1 σ2 => if v1 = 0 then some ((-1 : Int32), σ2) else cal (orders_poursOf N v1 σ2) fun v3 σ4 => ast σ4 21 1024 (0 : Int32) (0 : Int32) fun σ5 => orders_findRow_b26 N N v1 v3 (1 : Int32) σ5
def cw_row (N : Nat) (σ : xS) : Option (Int32 × xS) := cal (orders_findRow N σ) fun v1 σ2 => some (v1, σ2)
def orders_rowNumber (N : Nat) (l1 : Int32) (σ : xS) : Option (Int32 × xS) := if l1 < 0 then some ((-1 : Int32), σ) else if (σ.1 16) ≤ l1 then some ((-1 : Int32), σ) else ald σ 23 10 l1 fun v1 => some (v1, σ)
def cw_next (N : Nat) (l1 : Int32) (σ : xS) : Option (Int32 × xS) := cal (orders_rowNumber N l1 σ) fun v1 σ2 => some (v1, σ2)
def orders_rowLateness (N : Nat) (l1 : Int32) (σ : xS) : Option (Int32 × xS) := if l1 < 0 then some ((-1 : Int32), σ) else if (σ.1 16) ≤ l1 then some ((-1 : Int32), σ) else ald σ 24 10 l1 fun v1 => some (v1, σ)
def cw_late (N : Nat) (l1 : Int32) (σ : xS) : Option (Int32 × xS) := cal (orders_rowLateness N l1 σ) fun v1 σ2 => some (v1, σ2)
def finds_set_b39 (N : Nat) (l1 l2 l3 : Int32) (σ : xS) : Option (Int32 × xS) := ast σ 25 12 l1 l2 fun σ1 => if l2 ≤ 0 then ast σ1 26 12 l1 (0 : Int32) fun σ2 => some ((1 : Int32), σ2) else ast σ1 26 12 l1 l3 fun σ3 => some ((1 : Int32), σ3)
def finds_set (N : Nat) (l1 l2 l3 : Int32) (σ : xS) : Option (Int32 × xS) := if l1 < 0 then some ((0 : Int32), σ) else if (12 : Int32) ≤ l1 then some ((0 : Int32), σ) else if l2 < 0 then some ((0 : Int32), σ) else if l2 ≤ (100000 : Int32) then if l2 ≤ 0 then finds_set_b39 N l1 l2 l3 σ else if l3 < 0 then some ((0 : Int32), σ) else if l3 ≤ (1000 : Int32) then finds_set_b39 N l1 l2 l3 σ else some ((0 : Int32), σ) else some ((0 : Int32), σ)
def cw_cast (N : Nat) (l1 l2 l3 : Int32) (σ : xS) : Option (Int32 × xS) := cal (finds_set N l1 l2 l3 σ) fun v1 σ2 => gdb v1 (some (v1, σ2))
def finds_setCopying (N : Nat) (l1 l2 l3 : Int32) (σ : xS) : Option (Int32 × xS) := if l1 < (900 : Int32) then some ((0 : Int32), σ) else if (1000 : Int32) < l1 then some ((0 : Int32), σ) else if l2 < 0 then some ((0 : Int32), σ) else if (1000 : Int32) < l2 then some ((0 : Int32), σ) else if l3 < 0 then some ((0 : Int32), σ) else if l3 ≤ (100000 : Int32) then put σ 17 l1 fun σ1 => put σ1 18 l2 fun σ2 => put σ2 19 l3 fun σ3 => some ((1 : Int32), σ3) else some ((0 : Int32), σ)
def cw_copies (N : Nat) (l1 l2 l3 : Int32) (σ : xS) : Option (Int32 × xS) := cal (finds_setCopying N l1 l2 l3 σ) fun v1 σ2 => gdb v1 (some (v1, σ2))
def finds_has (N : Nat) (l1 : Int32) (σ : xS) : Option (Int32 × xS) := if l1 < 0 then some ((0 : Int32), σ) else if (12 : Int32) ≤ l1 then some ((0 : Int32), σ) else ald σ 25 12 l1 fun v1 => if v1 ≤ 0 then some ((0 : Int32), σ) else some ((1 : Int32), σ)
def finds_canBeMother (N : Nat) (l1 l2 : Int32) (σ : xS) : Option (Int32 × xS) := cal (finds_has N l1 σ) fun v1 σ2 => if v1 = 0 then some ((0 : Int32), σ2) else cal (finds_has N l2 σ2) fun v3 σ4 => if v3 = 0 then some ((0 : Int32), σ4) else ald σ4 25 12 l1 fun v5 => ald σ4 25 12 l2 fun v6 => if v6 < v5 then some ((1 : Int32), σ4) else ald σ4 25 12 l1 fun v7 => ald σ4 25 12 l2 fun v8 => if v7 = v8 then ald σ4 26 12 l1 fun v9 => ald σ4 26 12 l2 fun v10 => if v9 ≤ v10 then some ((0 : Int32), σ4) else some ((1 : Int32), σ4) else some ((0 : Int32), σ4)
def finds_quarrelOf (N : Nat) (l1 l2 : Int32) (σ : xS) : Option (Int32 × xS) := cal (finds_has N l1 σ) fun v1 σ2 => if v1 = 0 then some ((0 : Int32), σ2) else cal (finds_has N l2 σ2) fun v3 σ4 => if v3 = 0 then some ((0 : Int32), σ4) else ald σ4 25 12 l1 fun v5 => ald σ4 25 12 l2 fun v6 => gdz (1000 : Int32) (bnd (xabs (v5 - ((v6 * (σ4.1 17)) / (1000 : Int32)))) fun v7 => ald σ4 26 12 l1 fun v8 => ald σ4 26 12 l2 fun v9 => gdz (1000 : Int32) (bnd (xabs (v8 - ((v9 * (σ4.1 18)) / (1000 : Int32)))) fun v10 => some (v7 + v10, σ4)))
def finds_motherOf_b12 (N : Nat) : Nat → Int32 → Int32 → Int32 → Int32 → xS → Option (Int32 × xS)
 | 0, _, _, _, _, _ => none
 | n + 1, l1, l2, l3, l4, σ => if (12 : Int32) ≤ l4 then some (l2, σ) else cal (finds_canBeMother N l4 l1 σ) fun v2 σ3 => if v2 = 0 then bnd (l4 + (1 : Int32)) fun l4_4 => finds_motherOf_b12 N n l1 l2 l3 l4_4 σ3 else cal (finds_quarrelOf N l1 l4 σ3) fun v5 σ6 => if l3 ≤ v5 then bnd (l4 + (1 : Int32)) fun l4_7 => finds_motherOf_b12 N n l1 l2 l3 l4_7 σ6 else bnd (l4 + (1 : Int32)) fun l4_8 => finds_motherOf_b12 N n l1 l4 v5 l4_8 σ6
def finds_motherOf (N : Nat) (l1 : Int32) (σ : xS) : Option (Int32 × xS) := bnd ((σ.1 19) + (1 : Int32)) fun l3_1 => finds_motherOf_b12 N N l1 (-1 : Int32) l3_1 (0 : Int32) σ
def cw_mother (N : Nat) (l1 : Int32) (σ : xS) : Option (Int32 × xS) := cal (finds_has N l1 σ) fun v1 σ2 => if v1 = 0 then some ((-1 : Int32), σ2) else cal (finds_motherOf N l1 σ2) fun v3 σ4 => if v3 = (-1 : Int32) then some ((-2 : Int32), σ4) else some (v3, σ4)
def finds_stepsFrom_b11 (N : Nat) : Nat → Int32 → Int32 → Int32 → xS → Option (Int32 × xS)
 | 0, _, _, _, _ => none
 | n + 1, l2, l3, l4, σ => if (12 : Int32) ≤ l4 then some (l2, σ) else if l3 = (-1 : Int32) then some (l2, σ) else bnd (l2 + (1 : Int32)) fun l2_3 => cal (finds_motherOf N l3 σ) fun v4 σ5 => bnd (l4 + (1 : Int32)) fun l4_6 => finds_stepsFrom_b11 N n l2_3 v4 l4_6 σ5
def finds_stepsFrom (N : Nat) (l1 : Int32) (σ : xS) : Option (Int32 × xS) := cal (finds_motherOf N l1 σ) fun v1 σ2 => finds_stepsFrom_b11 N N (0 : Int32) v1 (0 : Int32) σ2
def cw_steps (N : Nat) (l1 : Int32) (σ : xS) : Option (Int32 × xS) := cal (finds_has N l1 σ) fun v1 σ2 => if v1 = 0 then some ((-1 : Int32), σ2) else cal (finds_stepsFrom N l1 σ2) fun v3 σ4 => some (v3, σ4)
def finds_countMotherless_b4 (N : Nat) : Nat → Int32 → Int32 → xS → Option (Int32 × xS)
 | 0, _, _, _ => none
 | n + 1, l1, l2, σ => if (12 : Int32) ≤ l2 then some (l1, σ) else cal (finds_has N l2 σ) fun v1 σ2 => if v1 = 0 then bnd (l1 + (0 : Int32)) fun l1_3 => bnd (l2 + (1 : Int32)) fun l2_4 => finds_countMotherless_b4 N n l1_3 l2_4 σ2 else cal (finds_motherOf N l2 σ2) fun v5 σ6 => if v5 = (-1 : Int32) then bnd (l1 + (1 : Int32)) fun l1_9 => bnd (l2 + (1 : Int32)) fun l2_10 => finds_countMotherless_b4 N n l1_9 l2_10 σ6 else bnd (l1 + (0 : Int32)) fun l1_7 => bnd (l2 + (1 : Int32)) fun l2_8 => finds_countMotherless_b4 N n l1_7 l2_8 σ6
def finds_countMotherless (N : Nat) (σ : xS) : Option (Int32 × xS) := finds_countMotherless_b4 N N (0 : Int32) (0 : Int32) σ
def finds_sumQuarrels_b4 (N : Nat) : Nat → Int32 → Int32 → xS → Option (Int32 × xS)
 | 0, _, _, _ => none
 | n + 1, l1, l2, σ => if (12 : Int32) ≤ l2 then some (l1, σ) else cal (finds_motherOf N l2 σ) fun v1 σ2 => if v1 = (-1 : Int32) then bnd (l1 + (0 : Int32)) fun l1_7 => bnd (l2 + (1 : Int32)) fun l2_8 => finds_sumQuarrels_b4 N n l1_7 l2_8 σ2 else cal (finds_quarrelOf N l2 v1 σ2) fun v3 σ4 => bnd (l1 + v3) fun l1_5 => bnd (l2 + (1 : Int32)) fun l2_6 => finds_sumQuarrels_b4 N n l1_5 l2_6 σ4
def finds_sumQuarrels (N : Nat) (σ : xS) : Option (Int32 × xS) := finds_sumQuarrels_b4 N N (0 : Int32) (0 : Int32) σ
def cw_told (N : Nat) (l1 : Int32) (σ : xS) : Option (Int32 × xS) := if l1 = (0 : Int32) then cal (finds_countMotherless N σ) fun v1 σ2 => some (v1, σ2) else if l1 = (1 : Int32) then cal (finds_sumQuarrels N σ) fun v3 σ4 => some (v3, σ4) else some ((-1 : Int32), σ)
