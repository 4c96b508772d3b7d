def m_feed_b71 (N : Nat) (K18 : Int32 → Int32 → Int32 → Int32 → Int32 → Int32 → xS → Option (Int32 × xS)) (l1 l2 l3 l4 l5 l6 s0 : Int32) (σ : xS) : Option (Int32 × xS) := gdz (4 : Int32) (ast σ 0 400 (σ.1 0) ((s0 >>> (((8 : Int32) * ((3 : Int32) - (l6 - l6 / (4 : Int32) * (4 : Int32)))) &&& 31)) &&& (255 : Int32)) fun σ1 => put σ1 0 ((σ1.1 0) + (1 : Int32)) fun σ2 => bnd (l6 + (1 : Int32)) fun l6_3 => K18 l1 l2 l3 l4 l5 l6_3 σ2)
def m_feed_b18 (N : Nat) : Nat → Int32 → Int32 → Int32 → Int32 → Int32 → Int32 → xS → Option (Int32 × xS)
 | 0, _, _, _, _, _, _, _ => none
 | n + 1, l1, l2, l3, l4, l5, l6, σ => if (20 : Int32) ≤ l6 then some (σ.1 0, σ) else if (4 : Int32) ≤ l6 then if (8 : Int32) ≤ l6 then if (12 : Int32) ≤ l6 then if (16 : Int32) ≤ l6 then m_feed_b71 N (m_feed_b18 N n) l1 l2 l3 l4 l5 l6 l5 σ else m_feed_b71 N (m_feed_b18 N n) l1 l2 l3 l4 l5 l6 l4 σ else m_feed_b71 N (m_feed_b18 N n) l1 l2 l3 l4 l5 l6 l3 σ else m_feed_b71 N (m_feed_b18 N n) l1 l2 l3 l4 l5 l6 l2 σ else m_feed_b71 N (m_feed_b18 N n) l1 l2 l3 l4 l5 l6 l1 σ
def m_feed (N : Nat) (l1 l2 l3 l4 l5 : Int32) (σ : xS) : Option (Int32 × xS) := if ((σ.1 0) + (20 : Int32)) ≤ (400 : Int32) then m_feed_b18 N N l1 l2 l3 l4 l5 (0 : Int32) σ else some ((-1 : Int32), σ)
def m_end (N : Nat) (l1 : Int32) (σ : xS) : Option (Int32 × xS) := if l1 < 0 then some ((0 : Int32), σ) else if l1 ≤ (σ.1 0) then put σ 0 l1 fun σ1 => some ((1 : Int32), σ1) else some ((0 : Int32), σ)
def m_isIn (N : Nat) (l0 l1 l2 : Int32) (σ : xS) : Option (Int32 × xS) := if l0 < l1 then some ((0 : Int32), σ) else if l2 < l0 then some ((0 : Int32), σ) else some ((1 : Int32), σ)
def m_next_b52 (N : Nat) (σ : xS) : Option (Int32 × xS) := put σ 3 (σ.1 1) fun σ1 => if (σ1.1 2) ≤ (σ1.1 1) then some ((-1 : Int32), σ1) else ald σ1 0 400 (σ1.1 1) fun v2 => some (v2, σ1)
def m_next_b0 (N : Nat) : Nat → xS → Option (Int32 × xS)
 | 0, _ => none
 | n + 1, σ => if (σ.1 2) ≤ (σ.1 1) then m_next_b52 N σ else ald σ 0 400 (σ.1 1) fun v3 => if v3 = (10 : Int32) then put σ 1 ((σ.1 1) + (1 : Int32)) fun σ4 => m_next_b0 N n σ4 else ald σ 0 400 (σ.1 1) fun v5 => if v5 = (32 : Int32) then put σ 1 ((σ.1 1) + (1 : Int32)) fun σ6 => m_next_b0 N n σ6 else m_next_b52 N σ
def m_next (N : Nat) (σ : xS) : Option (Int32 × xS) := m_next_b0 N N σ
def m_isLetter (N : Nat) (l0 : Int32) (σ : xS) : Option (Int32 × xS) := if l0 < (97 : Int32) then some ((0 : Int32), σ) else if (122 : Int32) < l0 then some ((0 : Int32), σ) else some ((1 : Int32), σ)
def m_isWord_b67 (ab : Nat) (nb : Nat) (N : Nat) : Nat → Int32 → Int32 → xS → Option (Int32 × xS)
 | 0, _, _, _ => none
 | n + 1, l2, l3, σ => if (Int32.ofNat nb) ≤ l3 then put σ 1 l2 fun σ4 => put σ4 4 l2 fun σ5 => some ((1 : Int32), σ5) else ald σ 0 400 ((σ.1 1) + l3) fun v6 => ald σ ab nb l3 fun v7 => if v6 = v7 then bnd (l3 + (1 : Int32)) fun l3_8 => m_isWord_b67 ab nb N n l2 l3_8 σ else some ((0 : Int32), σ)
def m_isWord_b26 (ab : Nat) (nb : Nat) (N : Nat) : Nat → Int32 → xS → Option (Int32 × xS)
 | 0, _, _ => none
 | n + 1, l2, σ => if (σ.1 2) ≤ l2 then if (l2 - (σ.1 1)) = (Int32.ofNat nb) then m_isWord_b67 ab nb N N l2 (0 : Int32) σ else some ((0 : Int32), σ) else ald σ 0 400 l2 fun v9 => cal (m_isLetter N v9 σ) fun v10 σ11 => if v10 = 0 then if (l2 - (σ11.1 1)) = (Int32.ofNat nb) then m_isWord_b67 ab nb N N l2 (0 : Int32) σ11 else some ((0 : Int32), σ11) else bnd (l2 + (1 : Int32)) fun l2_12 => m_isWord_b26 ab nb N n l2_12 σ11
def m_isWord (ab : Nat) (nb : Nat) (N : Nat) (σ : xS) : Option (Int32 × xS) := cal (m_next N σ) fun v1 σ2 => if v1 = (-1 : Int32) then some ((0 : Int32), σ2) else if (σ2.1 1) = (σ2.1 4) then some ((0 : Int32), σ2) else bnd (σ2.1 1) fun l2_3 => m_isWord_b26 ab nb N N l2_3 σ2
def m_fail (N : Nat) (l1 l2 : Int32) (σ : xS) : Option (Int32 × xS) := if (σ.1 5) = 0 then put σ 5 l1 fun σ1 => put σ1 6 l2 fun σ2 => some (0, σ2) else some (0, σ)
def m_cell (N : Nat) (l0 l1 l2 : Int32) (σ : xS) : Option (Int32 × xS) := some ((((l2 * (8 : Int32)) + l1) * (8 : Int32)) + l0, σ)
def m_turns_b68 (N : Nat) (K47 : Int32 → xS → Option (Int32 × xS)) (K57 : Int32 → Int32 → xS → Option (Int32 × xS)) : Nat → Int32 → Int32 → Int32 → xS → Option (Int32 × xS)
 | 0, _, _, _, _ => none
 | n + 1, l2, l3, l4, σ => if (σ.1 9) ≤ l4 then bnd (l3 + (1 : Int32)) fun l3_2 => K57 l2 l3_2 σ else cal (m_cell N l3 (((σ.1 9) - (1 : Int32)) - l4) l2 σ) fun v3 σ4 => cal (m_cell N l4 l3 l2 σ4) fun v5 σ6 => ald σ6 6 512 v5 fun v7 => ast σ6 5 512 v3 (vp_nar .boolean v7) fun σ8 => bnd (l4 + (1 : Int32)) fun l4_9 => m_turns_b68 N K47 K57 n l2 l3 l4_9 σ8
def m_turns_b57 (N : Nat) (K47 : Int32 → xS → Option (Int32 × xS)) : Nat → Int32 → Int32 → xS → Option (Int32 × xS)
 | 0, _, _, _ => none
 | n + 1, l2, l3, σ => if (σ.1 10) ≤ l3 then bnd (l2 + (1 : Int32)) fun l2_1 => K47 l2_1 σ else m_turns_b68 N (K47) (m_turns_b57 N K47 n) N l2 l3 (0 : Int32) σ
def m_turns_b47 (N : Nat) : Nat → Int32 → xS → Option (Int32 × xS)
 | 0, _, _ => none
 | n + 1, l2, σ => if (σ.1 11) ≤ l2 then some (0, σ) else m_turns_b57 N (m_turns_b47 N n) N l2 (0 : Int32) σ
def m_turns_b20 (N : Nat) : Nat → Int32 → xS → Option (Int32 × xS)
 | 0, _, _ => none
 | n + 1, l2, σ => if (512 : Int32) ≤ l2 then m_turns_b47 N N (0 : Int32) σ else ald σ 5 512 l2 fun v10 => ast σ 6 512 l2 (vp_nar .boolean v10) fun σ11 => bnd (l2 + (1 : Int32)) fun l2_12 => m_turns_b20 N n l2_12 σ11
def m_turns (N : Nat) (l1 : Int32) (σ : xS) : Option (Int32 × xS) := if (σ.1 9) = (σ.1 10) then m_turns_b20 N N (0 : Int32) σ else cal (m_fail N (2 : Int32) l1 σ) fun _ σ14 => some (0, σ14)
def m_mirrors_b211 (N : Nat) (K121 : Int32 → Int32 → xS → Option (Int32 × xS)) (K131 : Int32 → Int32 → Int32 → xS → Option (Int32 × xS)) (K142 : Int32 → Int32 → Int32 → Int32 → xS → Option (Int32 × xS)) (l1 l2 l3 l4 s1 s2 : Int32) (σ : xS) : Option (Int32 × xS) := if l1 = (122 : Int32) then cal (m_cell N s1 s2 (((σ.1 11) - (1 : Int32)) - l2) σ) fun v16 σ17 => ast σ17 5 512 v16 (vp_nar .boolean (1 : Int32)) fun σ18 => bnd (l4 + (1 : Int32)) fun l4_19 => K142 l1 l2 l3 l4_19 σ18 else cal (m_cell N s1 s2 l2 σ) fun v12 σ13 => ast σ13 5 512 v12 (vp_nar .boolean (1 : Int32)) fun σ14 => bnd (l4 + (1 : Int32)) fun l4_15 => K142 l1 l2 l3 l4_15 σ14
def m_mirrors_b193 (N : Nat) (K121 : Int32 → Int32 → xS → Option (Int32 × xS)) (K131 : Int32 → Int32 → Int32 → xS → Option (Int32 × xS)) (K142 : Int32 → Int32 → Int32 → Int32 → xS → Option (Int32 × xS)) (l1 l2 l3 l4 s1 : Int32) (σ : xS) : Option (Int32 × xS) := if l1 = (121 : Int32) then m_mirrors_b211 N (K121) (K131) (K142) l1 l2 l3 l4 s1 (((σ.1 10) - (1 : Int32)) - l3) σ else m_mirrors_b211 N (K121) (K131) (K142) l1 l2 l3 l4 s1 l3 σ
def m_mirrors_b142 (N : Nat) (K121 : Int32 → Int32 → xS → Option (Int32 × xS)) (K131 : Int32 → Int32 → Int32 → xS → Option (Int32 × xS)) : Nat → Int32 → Int32 → Int32 → Int32 → xS → Option (Int32 × xS)
 | 0, _, _, _, _, _ => none
 | n + 1, l1, l2, l3, l4, σ => if (σ.1 9) ≤ l4 then bnd (l3 + (1 : Int32)) fun l3_8 => K131 l1 l2 l3_8 σ else cal (m_cell N l4 l3 l2 σ) fun v9 σ10 => ald σ10 6 512 v9 fun v11 => if v11 = 0 then bnd (l4 + (1 : Int32)) fun l4_20 => m_mirrors_b142 N K121 K131 n l1 l2 l3 l4_20 σ10 else if l1 = (120 : Int32) then m_mirrors_b193 N (K121) (K131) (m_mirrors_b142 N K121 K131 n) l1 l2 l3 l4 (((σ10.1 9) - (1 : Int32)) - l4) σ10 else m_mirrors_b193 N (K121) (K131) (m_mirrors_b142 N K121 K131 n) l1 l2 l3 l4 l4 σ10
def m_mirrors_b131 (N : Nat) (K121 : Int32 → Int32 → xS → Option (Int32 × xS)) : Nat → Int32 → Int32 → Int32 → xS → Option (Int32 × xS)
 | 0, _, _, _, _ => none
 | n + 1, l1, l2, l3, σ => if (σ.1 10) ≤ l3 then bnd (l2 + (1 : Int32)) fun l2_7 => K121 l1 l2_7 σ else m_mirrors_b142 N (K121) (m_mirrors_b131 N K121 n) N l1 l2 l3 (0 : Int32) σ
def m_mirrors_b121 (N : Nat) : Nat → Int32 → Int32 → xS → Option (Int32 × xS)
 | 0, _, _, _ => none
 | n + 1, l1, l2, σ => if (σ.1 11) ≤ l2 then some (0, σ) else m_mirrors_b131 N (m_mirrors_b121 N n) N l1 l2 (0 : Int32) σ
def m_mirrors_b94 (N : Nat) : Nat → Int32 → Int32 → xS → Option (Int32 × xS)
 | 0, _, _, _ => none
 | n + 1, l1, l2, σ => if (512 : Int32) ≤ l2 then m_mirrors_b121 N N l1 (0 : Int32) σ else ald σ 5 512 l2 fun v21 => ast σ 6 512 l2 (vp_nar .boolean v21) fun σ22 => bnd (l2 + (1 : Int32)) fun l2_23 => m_mirrors_b94 N n l1 l2_23 σ22
def m_mirrors_b74 (N : Nat) (l1 : Int32) (σ : xS) : Option (Int32 × xS) := put σ 1 ((σ.1 1) + (1 : Int32)) fun σ5 => put σ5 4 (σ5.1 1) fun σ6 => m_mirrors_b94 N N l1 (0 : Int32) σ6
def m_mirrors_b23 (N : Nat) (l1 : Int32) (σ : xS) : Option (Int32 × xS) := if (σ.1 1) = (σ.1 4) then cal (m_fail N (1 : Int32) (σ.1 1) σ) fun _ σ4 => some (0, σ4) else if (σ.1 2) ≤ ((σ.1 1) + (1 : Int32)) then m_mirrors_b74 N l1 σ else ald σ 0 400 ((σ.1 1) + (1 : Int32)) fun v24 => cal (m_isLetter N v24 σ) fun v25 σ26 => if v25 = 0 then m_mirrors_b74 N l1 σ26 else cal (m_fail N (1 : Int32) (σ26.1 1) σ26) fun _ σ28 => some (0, σ28)
def m_mirrors (N : Nat) (σ : xS) : Option (Int32 × xS) := cal (m_next N σ) fun v1 σ2 => if v1 = (120 : Int32) then m_mirrors_b23 N v1 σ2 else if v1 = (121 : Int32) then m_mirrors_b23 N v1 σ2 else if v1 = (122 : Int32) then m_mirrors_b23 N v1 σ2 else cal (m_fail N (1 : Int32) (σ2.1 1) σ2) fun _ σ30 => some (0, σ30)
def m_isDigit (N : Nat) (l0 : Int32) (σ : xS) : Option (Int32 × xS) := if l0 < (48 : Int32) then some ((0 : Int32), σ) else if (57 : Int32) < l0 then some ((0 : Int32), σ) else some ((1 : Int32), σ)
def m_number_b59 (N : Nat) (l2 : Int32) (σ : xS) : Option (Int32 × xS) := put σ 1 ((σ.1 1) + (1 : Int32)) fun σ9 => if (σ9.1 2) ≤ (σ9.1 1) then put σ9 4 (σ9.1 1) fun σ10 => some (l2, σ10) else ald σ9 0 400 (σ9.1 1) fun v11 => cal (m_isDigit N v11 σ9) fun v12 σ13 => if v12 = 0 then put σ13 4 (σ13.1 1) fun σ14 => some (l2, σ14) else cal (m_fail N (1 : Int32) (σ13.1 1) σ13) fun _ σ16 => put σ16 4 (σ16.1 1) fun σ17 => some (l2, σ17)
def m_number (N : Nat) (l1 : Int32) (σ : xS) : Option (Int32 × xS) := cal (m_next N σ) fun v1 σ2 => cal (m_isDigit N v1 σ2) fun v3 σ4 => if v3 = 0 then cal (m_fail N (1 : Int32) (σ4.1 1) σ4) fun _ σ6 => some ((0 : Int32), σ6) else if (σ4.1 1) = (σ4.1 4) then cal (m_fail N (1 : Int32) (σ4.1 1) σ4) fun _ σ21 => some ((0 : Int32), σ21) else ald σ4 0 400 (σ4.1 1) fun v7 => bnd (v7 - (48 : Int32)) fun l2_8 => if l1 ≤ l2_8 then m_number_b59 N l2_8 σ4 else cal (m_fail N (2 : Int32) (σ4.1 1) σ4) fun _ σ19 => m_number_b59 N l2_8 σ19
def m_boxes_b121 (N : Nat) (K56 : Int32 → Int32 → xS → Option (Int32 × xS)) (K88 : Int32 → Int32 → Int32 → xS → Option (Int32 × xS)) : Nat → Int32 → Int32 → Int32 → Int32 → xS → Option (Int32 × xS)
 | 0, _, _, _, _, _ => none
 | n + 1, l1, l2, l3, l4, σ => ald σ 7 6 (0 : Int32) fun v10 => ald σ 7 6 (3 : Int32) fun v11 => if (v10 + v11) ≤ l4 then bnd (l3 + (1 : Int32)) fun l3_12 => K88 l1 l2 l3_12 σ else if (σ.1 9) ≤ l4 then bnd (l3 + (1 : Int32)) fun l3_13 => K88 l1 l2 l3_13 σ else cal (m_cell N l4 l3 l2 σ) fun v14 σ15 => ast σ15 5 512 v14 (vp_nar .boolean l1) fun σ16 => bnd (l4 + (1 : Int32)) fun l4_17 => m_boxes_b121 N K56 K88 n l1 l2 l3 l4_17 σ16
def m_boxes_b88 (N : Nat) (K56 : Int32 → Int32 → xS → Option (Int32 × xS)) : Nat → Int32 → Int32 → Int32 → xS → Option (Int32 × xS)
 | 0, _, _, _, _ => none
 | n + 1, l1, l2, l3, σ => ald σ 7 6 (1 : Int32) fun v5 => ald σ 7 6 (4 : Int32) fun v6 => if (v5 + v6) ≤ l3 then bnd (l2 + (1 : Int32)) fun l2_7 => K56 l1 l2_7 σ else if (σ.1 10) ≤ l3 then bnd (l2 + (1 : Int32)) fun l2_8 => K56 l1 l2_8 σ else ald σ 7 6 (0 : Int32) fun v9 => m_boxes_b121 N (K56) (m_boxes_b88 N K56 n) N l1 l2 l3 v9 σ
def m_boxes_b56 (N : Nat) : Nat → Int32 → Int32 → xS → Option (Int32 × xS)
 | 0, _, _, _ => none
 | n + 1, l1, l2, σ => ald σ 7 6 (2 : Int32) fun v2 => ald σ 7 6 (5 : Int32) fun v3 => if (v2 + v3) ≤ l2 then some (0, σ) else if (σ.1 11) ≤ l2 then some (0, σ) else ald σ 7 6 (1 : Int32) fun v4 => m_boxes_b88 N (m_boxes_b56 N n) N l1 l2 v4 σ
def m_boxes_b2 (N : Nat) : Nat → Int32 → Int32 → xS → Option (Int32 × xS)
 | 0, _, _, _ => none
 | n + 1, l1, l2, σ => if (6 : Int32) ≤ l2 then if (σ.1 5) = 0 then ald σ 7 6 (2 : Int32) fun v1 => m_boxes_b56 N N l1 v1 σ else some (0, σ) else if (σ.1 5) = 0 then if l2 ≤ (2 : Int32) then cal (m_number N (0 : Int32) σ) fun v19 σ20 => ast σ20 7 6 l2 v19 fun σ21 => bnd (l2 + (1 : Int32)) fun l2_22 => m_boxes_b2 N n l1 l2_22 σ21 else cal (m_number N (1 : Int32) σ) fun v23 σ24 => ast σ24 7 6 l2 v23 fun σ25 => bnd (l2 + (1 : Int32)) fun l2_26 => m_boxes_b2 N n l1 l2_26 σ25 else if (σ.1 5) = 0 then ald σ 7 6 (2 : Int32) fun v18 => m_boxes_b56 N N l1 v18 σ else some (0, σ)
def m_boxes (N : Nat) (l1 : Int32) (σ : xS) : Option (Int32 × xS) := m_boxes_b2 N N l1 (0 : Int32) σ
def m_reads_b104 (N : Nat) (K0 : xS → Option (Int32 × xS)) (σ : xS) : Option (Int32 × xS) := if (σ.1 5) = 0 then cal (m_next N σ) fun v15 σ16 => if v15 = (59 : Int32) then put σ16 1 ((σ16.1 1) + (1 : Int32)) fun σ17 => K0 σ17 else cal (m_fail N (1 : Int32) (σ16.1 1) σ16) fun _ σ19 => put σ19 1 ((σ19.1 1) + (1 : Int32)) fun σ20 => K0 σ20 else put σ 1 ((σ.1 1) + (1 : Int32)) fun σ14 => K0 σ14
def m_reads_b0 (N : Nat) : Nat → xS → Option (Int32 × xS)
 | 0, _ => none
 | n + 1, σ => if (σ.1 5) = 0 then cal (m_next N σ) fun v1 σ2 => if v1 = (-1 : Int32) then some (0, σ2) else bnd (σ2.1 1) fun l1_3 => cal (m_isWord 1 3 N σ2) fun v4 σ5 => if v4 = 0 then cal (m_isWord 2 4 N σ5) fun v6 σ7 => if v6 = 0 then cal (m_isWord 3 6 N σ7) fun v8 σ9 => if v8 = 0 then cal (m_isWord 4 4 N σ9) fun v10 σ11 => if v10 = 0 then cal (m_fail N (1 : Int32) (σ11.1 1) σ11) fun _ σ13 => m_reads_b104 N (m_reads_b0 N n) σ13 else cal (m_turns N l1_3 σ11) fun _ σ22 => m_reads_b104 N (m_reads_b0 N n) σ22 else cal (m_mirrors N σ9) fun _ σ24 => m_reads_b104 N (m_reads_b0 N n) σ24 else cal (m_boxes N (0 : Int32) σ7) fun _ σ26 => m_reads_b104 N (m_reads_b0 N n) σ26 else cal (m_boxes N (1 : Int32) σ5) fun _ σ28 => m_reads_b104 N (m_reads_b0 N n) σ28 else some (0, σ)
def m_reads (N : Nat) (σ : xS) : Option (Int32 × xS) := m_reads_b0 N N σ
def m_place (N : Nat) (l0 l1 l2 : Int32) (σ : xS) : Option (Int32 × xS) := some (((((((l2 + (1 : Int32)) * (10 : Int32)) + l1) + (1 : Int32)) * (10 : Int32)) + l0) + (1 : Int32), σ)
def m_isMould (N : Nat) (l1 l2 l3 : Int32) (σ : xS) : Option (Int32 × xS) := if (σ.1 12) = 0 then some ((0 : Int32), σ) else if l1 < (-1 : Int32) then some ((0 : Int32), σ) else if (σ.1 13) < l1 then some ((0 : Int32), σ) else if l2 < (-1 : Int32) then some ((0 : Int32), σ) else if (σ.1 14) < l2 then some ((0 : Int32), σ) else if l3 < (-1 : Int32) then some ((0 : Int32), σ) else if (σ.1 15) < l3 then some ((0 : Int32), σ) else some ((1 : Int32), σ)
def m_stepX (N : Nat) (l0 : Int32) (σ : xS) : Option (Int32 × xS) := if l0 = 0 then some ((1 : Int32), σ) else if l0 = (1 : Int32) then some ((-1 : Int32), σ) else some ((0 : Int32), σ)
def m_stepY (N : Nat) (l0 : Int32) (σ : xS) : Option (Int32 × xS) := if l0 = (2 : Int32) then some ((1 : Int32), σ) else if l0 = (3 : Int32) then some ((-1 : Int32), σ) else some ((0 : Int32), σ)
def m_stepZ (N : Nat) (l0 : Int32) (σ : xS) : Option (Int32 × xS) := if l0 = (4 : Int32) then some ((1 : Int32), σ) else if l0 = (5 : Int32) then some ((-1 : Int32), σ) else some ((0 : Int32), σ)
def m_waysOf_b65 (N : Nat) (K6 : Int32 → Int32 → Int32 → Int32 → Int32 → xS → Option (Int32 × xS)) (K25 : Int32 → Int32 → Int32 → Int32 → Int32 → Int32 → Int32 → Int32 → Int32 → xS → Option (Int32 × xS)) (l1 l2 l3 l4 l5 l7 l8 l9 s0 : Int32) (σ : xS) : Option (Int32 × xS) := cal (m_stepX N l5 σ) fun v6 σ7 => bnd (l7 + v6) fun l7_8 => cal (m_stepY N l5 σ7) fun v9 σ10 => bnd (l8 + v9) fun l8_11 => cal (m_stepZ N l5 σ10) fun v12 σ13 => bnd (l9 + v12) fun l9_14 => K25 l1 l2 l3 l4 l5 s0 l7_8 l8_11 l9_14 σ13
def m_waysOf_b25 (N : Nat) (K6 : Int32 → Int32 → Int32 → Int32 → Int32 → xS → Option (Int32 × xS)) : Nat → Int32 → Int32 → Int32 → Int32 → Int32 → Int32 → Int32 → Int32 → Int32 → xS → Option (Int32 × xS)
 | 0, _, _, _, _, _, _, _, _, _, _ => none
 | n + 1, l1, l2, l3, l4, l5, l6, l7, l8, l9, σ => cal (m_isMould N l7 l8 l9 σ) fun v1 σ2 => if v1 = 0 then if l6 = 0 then bnd (l5 + (1 : Int32)) fun l5_3 => K6 l1 l2 l3 l4 l5_3 σ2 else bnd (l4 ||| ((1 : Int32) <<< (l5 &&& 31))) fun l4_4 => bnd (l5 + (1 : Int32)) fun l5_5 => K6 l1 l2 l3 l4_4 l5_5 σ2 else if l6 = 0 then m_waysOf_b65 N (K6) (m_waysOf_b25 N K6 n) l1 l2 l3 l4 l5 l7 l8 l9 (0 : Int32) σ2 else cal (m_place N l7 l8 l9 σ2) fun v15 σ16 => ald σ16 8 1000 v15 fun v17 => if v17 = 0 then m_waysOf_b65 N (K6) (m_waysOf_b25 N K6 n) l1 l2 l3 l4 l5 l7 l8 l9 (1 : Int32) σ16 else m_waysOf_b65 N (K6) (m_waysOf_b25 N K6 n) l1 l2 l3 l4 l5 l7 l8 l9 (0 : Int32) σ16
def m_waysOf_b6 (N : Nat) : Nat → Int32 → Int32 → Int32 → Int32 → Int32 → xS → Option (Int32 × xS)
 | 0, _, _, _, _, _, _ => none
 | n + 1, l1, l2, l3, l4, l5, σ => if (6 : Int32) ≤ l5 then some (l4, σ) else m_waysOf_b25 N (m_waysOf_b6 N n) N l1 l2 l3 l4 l5 (1 : Int32) l1 l2 l3 σ
def m_waysOf (N : Nat) (l1 l2 l3 : Int32) (σ : xS) : Option (Int32 × xS) := m_waysOf_b6 N N l1 l2 l3 (0 : Int32) (0 : Int32) σ
def m_form_b302 (N : Nat) (K284 : Int32 → Int32 → Int32 → Int32 → Int32 → xS → Option (Int32 × xS)) (K293 : Int32 → Int32 → Int32 → Int32 → Int32 → Int32 → xS → Option (Int32 × xS)) : Nat → Int32 → Int32 → Int32 → Int32 → Int32 → Int32 → Int32 → xS → Option (Int32 × xS)
 | 0, _, _, _, _, _, _, _, _ => none
 | n + 1, l1, l2, l3, l4, l5, l6, l7, σ => if l1 < l7 then bnd (l6 + (1 : Int32)) fun l6_26 => K293 l1 l2 l3 l4 l5 l6_26 σ else cal (m_place N l7 l6 l5 σ) fun v27 σ28 => cal (m_place N l7 l6 l5 σ28) fun v29 σ30 => ald σ30 8 1000 v29 fun v31 => if v31 = 0 then cal (m_waysOf N l7 l6 l5 σ30) fun v32 σ33 => ast σ33 9 1000 v27 v32 fun σ34 => bnd (l7 + (1 : Int32)) fun l7_35 => m_form_b302 N K284 K293 n l1 l2 l3 l4 l5 l6 l7_35 σ34 else ast σ30 9 1000 v27 (0 : Int32) fun σ36 => bnd (l7 + (1 : Int32)) fun l7_37 => m_form_b302 N K284 K293 n l1 l2 l3 l4 l5 l6 l7_37 σ36
def m_form_b293 (N : Nat) (K284 : Int32 → Int32 → Int32 → Int32 → Int32 → xS → Option (Int32 × xS)) : Nat → Int32 → Int32 → Int32 → Int32 → Int32 → Int32 → xS → Option (Int32 × xS)
 | 0, _, _, _, _, _, _, _ => none
 | n + 1, l1, l2, l3, l4, l5, l6, σ => if l2 < l6 then bnd (l5 + (1 : Int32)) fun l5_25 => K284 l1 l2 l3 l4 l5_25 σ else m_form_b302 N (K284) (m_form_b293 N K284 n) N l1 l2 l3 l4 l5 l6 (-1 : Int32) σ
def m_form_b284 (N : Nat) : Nat → Int32 → Int32 → Int32 → Int32 → Int32 → xS → Option (Int32 × xS)
 | 0, _, _, _, _, _, _ => none
 | n + 1, l1, l2, l3, l4, l5, σ => if l3 < l5 then some (l4, σ) else m_form_b293 N (m_form_b284 N n) N l1 l2 l3 l4 l5 (-1 : Int32) σ
def m_form_b209 (N : Nat) (K191 : Int32 → Int32 → Int32 → Int32 → Int32 → xS → Option (Int32 × xS)) (K200 : Int32 → Int32 → Int32 → Int32 → Int32 → Int32 → xS → Option (Int32 × xS)) : Nat → Int32 → Int32 → Int32 → Int32 → Int32 → Int32 → Int32 → xS → Option (Int32 × xS)
 | 0, _, _, _, _, _, _, _, _ => none
 | n + 1, l1, l2, l3, l4, l5, l6, l7, σ => if l1 ≤ l7 then bnd (l6 + (1 : Int32)) fun l6_39 => K200 l1 l2 l3 l4 l5 l6_39 σ else cal (m_place N l7 l6 l5 σ) fun v40 σ41 => cal (m_cell N l7 l6 l5 σ41) fun v42 σ43 => ald σ43 5 512 v42 fun v44 => ast σ43 8 1000 v40 (vp_nar .boolean v44) fun σ45 => cal (m_cell N l7 l6 l5 σ45) fun v46 σ47 => ald σ47 5 512 v46 fun v48 => if v48 = 0 then bnd (l7 + (1 : Int32)) fun l7_49 => m_form_b209 N K191 K200 n l1 l2 l3 l4 l5 l6 l7_49 σ47 else bnd (l4 + (1 : Int32)) fun l4_50 => bnd (l7 + (1 : Int32)) fun l7_51 => m_form_b209 N K191 K200 n l1 l2 l3 l4_50 l5 l6 l7_51 σ47
def m_form_b200 (N : Nat) (K191 : Int32 → Int32 → Int32 → Int32 → Int32 → xS → Option (Int32 × xS)) : Nat → Int32 → Int32 → Int32 → Int32 → Int32 → Int32 → xS → Option (Int32 × xS)
 | 0, _, _, _, _, _, _, _ => none
 | n + 1, l1, l2, l3, l4, l5, l6, σ => if l2 ≤ l6 then bnd (l5 + (1 : Int32)) fun l5_38 => K191 l1 l2 l3 l4 l5_38 σ else m_form_b209 N (K191) (m_form_b200 N K191 n) N l1 l2 l3 l4 l5 l6 (0 : Int32) σ
def m_form_b191 (N : Nat) : Nat → Int32 → Int32 → Int32 → Int32 → Int32 → xS → Option (Int32 × xS)
 | 0, _, _, _, _, _, _ => none
 | n + 1, l1, l2, l3, l4, l5, σ => if l3 ≤ l5 then m_form_b284 N N l1 l2 l3 l4 (-1 : Int32) σ else m_form_b200 N (m_form_b191 N n) N l1 l2 l3 l4 l5 (0 : Int32) σ
def m_form_b166 (N : Nat) : Nat → Int32 → Int32 → Int32 → Int32 → Int32 → xS → Option (Int32 × xS)
 | 0, _, _, _, _, _, _ => none
 | n + 1, l1, l2, l3, l4, l5, σ => if (1000 : Int32) ≤ l5 then m_form_b191 N N l1 l2 l3 l4 (0 : Int32) σ else ast σ 8 1000 l5 (vp_nar .boolean (0 : Int32)) fun σ52 => bnd (l5 + (1 : Int32)) fun l5_53 => m_form_b166 N n l1 l2 l3 l4 l5_53 σ52
def m_form_b84 (N : Nat) : Nat → Int32 → Int32 → Int32 → Int32 → xS → Option (Int32 × xS)
 | 0, _, _, _, _, _ => none
 | n + 1, l1, l2, l3, l4, σ => if (512 : Int32) ≤ l4 then cal (m_reads N σ) fun _ σ17 => put σ17 7 (σ17.1 5) fun σ18 => put σ18 8 (σ18.1 6) fun σ19 => if (σ19.1 5) = 0 then put σ19 12 (1 : Int32) fun σ20 => put σ20 16 (0 : Int32) fun σ21 => put σ21 13 l1 fun σ22 => put σ22 14 l2 fun σ23 => put σ23 15 l3 fun σ24 => m_form_b166 N N l1 l2 l3 (0 : Int32) (0 : Int32) σ24 else some ((-1 : Int32), σ19) else ast σ 5 512 l4 (vp_nar .boolean (0 : Int32)) fun σ54 => bnd (l4 + (1 : Int32)) fun l4_55 => m_form_b84 N n l1 l2 l3 l4_55 σ54
def m_form (N : Nat) (l1 l2 l3 : Int32) (σ : xS) : Option (Int32 × xS) := cal (m_isIn N l1 (1 : Int32) (8 : Int32) σ) fun v1 σ2 => if v1 = 0 then some ((-2 : Int32), σ2) else cal (m_isIn N l2 (1 : Int32) (8 : Int32) σ2) fun v3 σ4 => if v3 = 0 then some ((-2 : Int32), σ4) else cal (m_isIn N l3 (1 : Int32) (8 : Int32) σ4) fun v5 σ6 => if v5 = 0 then some ((-2 : Int32), σ6) else put σ6 1 (0 : Int32) fun σ7 => put σ7 4 (-1 : Int32) fun σ8 => put σ8 2 (σ8.1 0) fun σ9 => put σ9 0 (0 : Int32) fun σ10 => put σ10 5 (0 : Int32) fun σ11 => put σ11 6 (-1 : Int32) fun σ12 => put σ12 9 l1 fun σ13 => put σ13 10 l2 fun σ14 => put σ14 11 l3 fun σ15 => m_form_b84 N N l1 l2 l3 (0 : Int32) σ15
def m_fault (N : Nat) (l1 : Int32) (σ : xS) : Option (Int32 × xS) := if l1 = 0 then some (σ.1 7, σ) else if l1 = (1 : Int32) then some (σ.1 8, σ) else some ((-1 : Int32), σ)
def m_solid (N : Nat) (l1 l2 l3 : Int32) (σ : xS) : Option (Int32 × xS) := if (σ.1 12) = 0 then some ((-1 : Int32), σ) else if l1 < 0 then some ((-1 : Int32), σ) else if (σ.1 13) ≤ l1 then some ((-1 : Int32), σ) else if l2 < 0 then some ((-1 : Int32), σ) else if (σ.1 14) ≤ l2 then some ((-1 : Int32), σ) else if l3 < 0 then some ((-1 : Int32), σ) else if l3 < (σ.1 15) then cal (m_place N l1 l2 l3 σ) fun v1 σ2 => ald σ2 8 1000 v1 fun v3 => if v3 = 0 then some ((0 : Int32), σ2) else some ((1 : Int32), σ2) else some ((-1 : Int32), σ)
def m_free (N : Nat) (l1 l2 l3 : Int32) (σ : xS) : Option (Int32 × xS) := cal (m_isMould N l1 l2 l3 σ) fun v1 σ2 => if v1 = 0 then some ((-1 : Int32), σ2) else cal (m_place N l1 l2 l3 σ2) fun v3 σ4 => ald σ4 8 1000 v3 fun v5 => if v5 = 0 then cal (m_place N l1 l2 l3 σ4) fun v6 σ7 => ald σ7 9 1000 v6 fun v8 => some (v8, σ7) else some ((-1 : Int32), σ4)
def m_shut_b34 (N : Nat) (K13 : Int32 → Int32 → xS → Option (Int32 × xS)) (K23 : Int32 → Int32 → Int32 → xS → Option (Int32 × xS)) : Nat → Int32 → Int32 → Int32 → Int32 → xS → Option (Int32 × xS)
 | 0, _, _, _, _, _ => none
 | n + 1, l1, l2, l3, l4, σ => if (σ.1 13) ≤ l4 then bnd (l3 + (1 : Int32)) fun l3_2 => K23 l1 l2 l3_2 σ else cal (m_place N l4 l3 l2 σ) fun v3 σ4 => ald σ4 8 1000 v3 fun v5 => if v5 = 0 then cal (m_place N l4 l3 l2 σ4) fun v7 σ8 => ald σ8 9 1000 v7 fun v9 => if v9 = 0 then bnd (l1 + (1 : Int32)) fun l1_11 => bnd (l4 + (1 : Int32)) fun l4_12 => m_shut_b34 N K13 K23 n l1_11 l2 l3 l4_12 σ8 else bnd (l4 + (1 : Int32)) fun l4_10 => m_shut_b34 N K13 K23 n l1 l2 l3 l4_10 σ8 else bnd (l4 + (1 : Int32)) fun l4_6 => m_shut_b34 N K13 K23 n l1 l2 l3 l4_6 σ4
def m_shut_b23 (N : Nat) (K13 : Int32 → Int32 → xS → Option (Int32 × xS)) : Nat → Int32 → Int32 → Int32 → xS → Option (Int32 × xS)
 | 0, _, _, _, _ => none
 | n + 1, l1, l2, l3, σ => if (σ.1 14) ≤ l3 then bnd (l2 + (1 : Int32)) fun l2_1 => K13 l1 l2_1 σ else m_shut_b34 N (K13) (m_shut_b23 N K13 n) N l1 l2 l3 (0 : Int32) σ
def m_shut_b13 (N : Nat) : Nat → Int32 → Int32 → xS → Option (Int32 × xS)
 | 0, _, _, _ => none
 | n + 1, l1, l2, σ => if (σ.1 15) ≤ l2 then some (l1, σ) else m_shut_b23 N (m_shut_b13 N n) N l1 l2 (0 : Int32) σ
def m_shut (N : Nat) (σ : xS) : Option (Int32 × xS) := if (σ.1 12) = 0 then some ((-1 : Int32), σ) else m_shut_b13 N N (0 : Int32) (0 : Int32) σ
def m_ones_b4 (N : Nat) : Nat → Int32 → Int32 → Int32 → xS → Option (Int32 × xS)
 | 0, _, _, _, _ => none
 | n + 1, l0, l1, l2, σ => if (6 : Int32) ≤ l2 then some (l1, σ) else bnd (l1 + ((l0 >>> (l2 &&& 31)) &&& (1 : Int32))) fun l1_1 => bnd (l2 + (1 : Int32)) fun l2_2 => m_ones_b4 N n l0 l1_1 l2_2 σ
def m_ones (N : Nat) (l0 : Int32) (σ : xS) : Option (Int32 × xS) := m_ones_b4 N N l0 (0 : Int32) (0 : Int32) σ
def m_covers_b23 (N : Nat) (K2 : Int32 → Int32 → xS → Option (Int32 × xS)) (K12 : Int32 → Int32 → Int32 → xS → Option (Int32 × xS)) : Nat → Int32 → Int32 → Int32 → Int32 → xS → Option (Int32 × xS)
 | 0, _, _, _, _, _ => none
 | n + 1, l1, l2, l3, l4, σ => if (σ.1 13) < l4 then bnd (l3 + (1 : Int32)) fun l3_2 => K12 l1 l2 l3_2 σ else cal (m_place N l4 l3 l2 σ) fun v3 σ4 => ald σ4 8 1000 v3 fun v5 => if v5 = 0 then cal (m_place N l4 l3 l2 σ4) fun v7 σ8 => ald σ8 9 1000 v7 fun v9 => if (v9 &&& l1) = 0 then some ((0 : Int32), σ8) else bnd (l4 + (1 : Int32)) fun l4_10 => m_covers_b23 N K2 K12 n l1 l2 l3 l4_10 σ8 else bnd (l4 + (1 : Int32)) fun l4_6 => m_covers_b23 N K2 K12 n l1 l2 l3 l4_6 σ4
def m_covers_b12 (N : Nat) (K2 : Int32 → Int32 → xS → Option (Int32 × xS)) : Nat → Int32 → Int32 → Int32 → xS → Option (Int32 × xS)
 | 0, _, _, _, _ => none
 | n + 1, l1, l2, l3, σ => if (σ.1 14) < l3 then bnd (l2 + (1 : Int32)) fun l2_1 => K2 l1 l2_1 σ else m_covers_b23 N (K2) (m_covers_b12 N K2 n) N l1 l2 l3 (-1 : Int32) σ
def m_covers_b2 (N : Nat) : Nat → Int32 → Int32 → xS → Option (Int32 × xS)
 | 0, _, _, _ => none
 | n + 1, l1, l2, σ => if (σ.1 15) < l2 then some ((1 : Int32), σ) else m_covers_b12 N (m_covers_b2 N n) N l1 l2 (-1 : Int32) σ
def m_covers (N : Nat) (l1 : Int32) (σ : xS) : Option (Int32 × xS) := m_covers_b2 N N l1 (-1 : Int32) σ
def m_fewest_b5 (N : Nat) : Nat → Int32 → Int32 → xS → Option (Int32 × xS)
 | 0, _, _, _ => none
 | n + 1, l1, l2, σ => if (64 : Int32) ≤ l2 then some (l1, σ) else cal (m_ones N l2 σ) fun v1 σ2 => if l1 ≤ v1 then bnd (l2 + (1 : Int32)) fun l2_3 => m_fewest_b5 N n l1 l2_3 σ2 else cal (m_covers N l2 σ2) fun v4 σ5 => if v4 = 0 then bnd (l2 + (1 : Int32)) fun l2_6 => m_fewest_b5 N n l1 l2_6 σ5 else cal (m_ones N l2 σ5) fun v7 σ8 => bnd (l2 + (1 : Int32)) fun l2_9 => m_fewest_b5 N n v7 l2_9 σ8
def m_fewest (N : Nat) (σ : xS) : Option (Int32 × xS) := m_fewest_b5 N N (7 : Int32) (1 : Int32) σ
def m_belongs_b3 (ab : Nat) (N : Nat) : Nat → Int32 → Int32 → Int32 → xS → Option (Int32 × xS)
 | 0, _, _, _, _ => none
 | n + 1, l1, l3, l4, σ => if l3 ≤ l4 then some ((-1 : Int32), σ) else ald σ 9 1000 l1 fun v1 => ald σ ab 6 l4 fun v2 => if ((v1 >>> (v2 &&& 31)) &&& (1 : Int32)) = (1 : Int32) then some (l4, σ) else bnd (l4 + (1 : Int32)) fun l4_3 => m_belongs_b3 ab N n l1 l3 l4_3 σ
def m_belongs (ab : Nat) (N : Nat) (l1 l3 : Int32) (σ : xS) : Option (Int32 × xS) := m_belongs_b3 ab N N l1 l3 (0 : Int32) σ
def m_touches_b3 (N : Nat) : Nat → Int32 → Int32 → Int32 → Int32 → xS → Option (Int32 × xS)
 | 0, _, _, _, _, _ => none
 | n + 1, l1, l2, l3, l4, σ => if (6 : Int32) ≤ l4 then some ((0 : Int32), σ) else cal (m_stepX N l4 σ) fun v1 σ2 => cal (m_stepY N l4 σ2) fun v3 σ4 => cal (m_stepZ N l4 σ4) fun v5 σ6 => cal (m_isMould N (l1 + v1) (l2 + v3) (l3 + v5) σ6) fun v7 σ8 => if v7 = 0 then bnd (l4 + (1 : Int32)) fun l4_9 => m_touches_b3 N n l1 l2 l3 l4_9 σ8 else cal (m_stepX N l4 σ8) fun v10 σ11 => cal (m_stepY N l4 σ11) fun v12 σ13 => cal (m_stepZ N l4 σ13) fun v14 σ15 => cal (m_place N (l1 + v10) (l2 + v12) (l3 + v14) σ15) fun v16 σ17 => ald σ17 8 1000 v16 fun v18 => if v18 = 0 then bnd (l4 + (1 : Int32)) fun l4_19 => m_touches_b3 N n l1 l2 l3 l4_19 σ17 else some ((1 : Int32), σ17)
def m_touches (N : Nat) (l1 l2 l3 : Int32) (σ : xS) : Option (Int32 × xS) := m_touches_b3 N N l1 l2 l3 (0 : Int32) σ
def m_hangs_b160 (ab : Nat) (N : Nat) (K66 : Int32 → Int32 → Int32 → Int32 → xS → Option (Int32 × xS)) : Nat → Int32 → Int32 → Int32 → Int32 → Int32 → Int32 → Int32 → Int32 → xS → Option (Int32 × xS)
 | 0, _, _, _, _, _, _, _, _, _ => none
 | n + 1, l3, l4, l5, l6, l7, l8, l9, l10, σ => if (6 : Int32) ≤ l10 then bnd (l6 + (1 : Int32)) fun l6_19 => K66 l3 l4 l5 l6_19 σ else cal (m_stepX N l10 σ) fun v20 σ21 => bnd (l7 + v20) fun l11_22 => cal (m_stepY N l10 σ21) fun v23 σ24 => bnd (l8 + v23) fun l12_25 => cal (m_stepZ N l10 σ24) fun v26 σ27 => bnd (l9 + v26) fun l13_28 => cal (m_isMould N l11_22 l12_25 l13_28 σ27) fun v29 σ30 => if v29 = 0 then bnd (l10 + (1 : Int32)) fun l10_44 => m_hangs_b160 ab N K66 n l3 l4 l5 l6 l7 l8 l9 l10_44 σ30 else cal (m_place N l11_22 l12_25 l13_28 σ30) fun v31 σ32 => ald σ32 8 1000 v31 fun v33 => if v33 = 0 then ald σ32 12 1000 v31 fun v35 => if v35 = (-1 : Int32) then cal (m_belongs ab N v31 l3 σ32) fun v37 σ38 => if v37 = l4 then ast σ38 12 1000 v31 (σ38.1 18) fun σ39 => ast σ39 13 1000 l5 v31 fun σ40 => bnd (l5 + (1 : Int32)) fun l5_41 => bnd (l10 + (1 : Int32)) fun l10_42 => m_hangs_b160 ab N K66 n l3 l4 l5_41 l6 l7 l8 l9 l10_42 σ40 else bnd (l10 + (1 : Int32)) fun l10_43 => m_hangs_b160 ab N K66 n l3 l4 l5 l6 l7 l8 l9 l10_43 σ38 else bnd (l10 + (1 : Int32)) fun l10_36 => m_hangs_b160 ab N K66 n l3 l4 l5 l6 l7 l8 l9 l10_36 σ32 else bnd (l10 + (1 : Int32)) fun l10_34 => m_hangs_b160 ab N K66 n l3 l4 l5 l6 l7 l8 l9 l10_34 σ32
def m_hangs_b66 (ab : Nat) (N : Nat) : Nat → Int32 → Int32 → Int32 → Int32 → xS → Option (Int32 × xS)
 | 0, _, _, _, _, _ => none
 | n + 1, l3, l4, l5, l6, σ => if l5 ≤ l6 then put σ 18 ((σ.1 18) + (1 : Int32)) fun σ8 => some (0, σ8) else ald σ 13 1000 l6 fun v9 => gdz (10 : Int32) (bnd ((v9 - v9 / (10 : Int32) * (10 : Int32)) - (1 : Int32)) fun l7_10 => ald σ 13 1000 l6 fun v11 => gdz (10 : Int32) (gdz (10 : Int32) (bnd (((v11 / (10 : Int32)) - (v11 / (10 : Int32)) / (10 : Int32) * (10 : Int32)) - (1 : Int32)) fun l8_12 => ald σ 13 1000 l6 fun v13 => gdz (100 : Int32) (bnd ((v13 / (100 : Int32)) - (1 : Int32)) fun l9_14 => ald σ 15 1000 (σ.1 18) fun v15 => ast σ 15 1000 (σ.1 18) (v15 + (1 : Int32)) fun σ16 => cal (m_touches N l7_10 l8_12 l9_14 σ16) fun v17 σ18 => if v17 = 0 then m_hangs_b160 ab N (m_hangs_b66 ab N n) N l3 l4 l5 l6 l7_10 l8_12 l9_14 (0 : Int32) σ18 else ald σ18 16 1000 (σ18.1 18) fun v45 => ast σ18 16 1000 (σ18.1 18) (v45 + (1 : Int32)) fun σ46 => m_hangs_b160 ab N (m_hangs_b66 ab N n) N l3 l4 l5 l6 l7_10 l8_12 l9_14 (0 : Int32) σ46))))
def m_hangs (ab : Nat) (N : Nat) (l1 l3 l4 : Int32) (σ : xS) : Option (Int32 × xS) := ast σ 13 1000 (0 : Int32) l1 fun σ1 => ast σ1 12 1000 l1 (σ1.1 18) fun σ2 => ald σ2 ab 6 l4 fun v3 => ast σ2 14 1000 (σ2.1 18) v3 fun σ4 => ast σ4 15 1000 (σ4.1 18) (0 : Int32) fun σ5 => ast σ5 16 1000 (σ5.1 18) (0 : Int32) fun σ6 => ast σ6 17 1000 (σ6.1 18) (0 : Int32) fun σ7 => m_hangs_b66 ab N N l3 l4 (1 : Int32) (0 : Int32) σ7
def m_parts_b61 (ab : Nat) (N : Nat) (K29 : Int32 → Int32 → xS → Option (Int32 × xS)) (K37 : Int32 → Int32 → Int32 → xS → Option (Int32 × xS)) (K49 : Int32 → Int32 → Int32 → Int32 → xS → Option (Int32 × xS)) : Nat → Int32 → Int32 → Int32 → Int32 → Int32 → xS → Option (Int32 × xS)
 | 0, _, _, _, _, _, _ => none
 | n + 1, l2, l3, l4, l5, l6, σ => if (σ.1 13) < l6 then bnd (l5 + (1 : Int32)) fun l5_4 => K49 l2 l3 l4 l5_4 σ else cal (m_place N l6 l5 l4 σ) fun v5 σ6 => ald σ6 8 1000 v5 fun v7 => if v7 = 0 then ald σ6 12 1000 v5 fun v9 => if v9 = (-1 : Int32) then cal (m_belongs ab N v5 l2 σ6) fun v11 σ12 => if v11 = l3 then cal (m_hangs ab N v5 l2 l3 σ12) fun _ σ14 => bnd (l6 + (1 : Int32)) fun l6_15 => m_parts_b61 ab N K29 K37 K49 n l2 l3 l4 l5 l6_15 σ14 else bnd (l6 + (1 : Int32)) fun l6_16 => m_parts_b61 ab N K29 K37 K49 n l2 l3 l4 l5 l6_16 σ12 else bnd (l6 + (1 : Int32)) fun l6_10 => m_parts_b61 ab N K29 K37 K49 n l2 l3 l4 l5 l6_10 σ6 else bnd (l6 + (1 : Int32)) fun l6_8 => m_parts_b61 ab N K29 K37 K49 n l2 l3 l4 l5 l6_8 σ6
def m_parts_b49 (ab : Nat) (N : Nat) (K29 : Int32 → Int32 → xS → Option (Int32 × xS)) (K37 : Int32 → Int32 → Int32 → xS → Option (Int32 × xS)) : Nat → Int32 → Int32 → Int32 → Int32 → xS → Option (Int32 × xS)
 | 0, _, _, _, _, _ => none
 | n + 1, l2, l3, l4, l5, σ => if (σ.1 14) < l5 then bnd (l4 + (1 : Int32)) fun l4_3 => K37 l2 l3 l4_3 σ else m_parts_b61 ab N (K29) (K37) (m_parts_b49 ab N K29 K37 n) N l2 l3 l4 l5 (-1 : Int32) σ
def m_parts_b37 (ab : Nat) (N : Nat) (K29 : Int32 → Int32 → xS → Option (Int32 × xS)) : Nat → Int32 → Int32 → Int32 → xS → Option (Int32 × xS)
 | 0, _, _, _, _ => none
 | n + 1, l2, l3, l4, σ => if (σ.1 15) < l4 then bnd (l3 + (1 : Int32)) fun l3_2 => K29 l2 l3_2 σ else m_parts_b49 ab N (K29) (m_parts_b37 ab N K29 n) N l2 l3 l4 (-1 : Int32) σ
def m_parts_b29 (ab : Nat) (N : Nat) : Nat → Int32 → Int32 → xS → Option (Int32 × xS)
 | 0, _, _, _ => none
 | n + 1, l2, l3, σ => if l2 ≤ l3 then some (σ.1 18, σ) else m_parts_b37 ab N (m_parts_b29 ab N n) N l2 l3 (-1 : Int32) σ
def m_parts_b2 (ab : Nat) (N : Nat) : Nat → Int32 → Int32 → xS → Option (Int32 × xS)
 | 0, _, _, _ => none
 | n + 1, l2, l3, σ => if (1000 : Int32) ≤ l3 then put σ 18 (0 : Int32) fun σ1 => m_parts_b29 ab N N l2 (0 : Int32) σ1 else ast σ 12 1000 l3 (-1 : Int32) fun σ17 => bnd (l3 + (1 : Int32)) fun l3_18 => m_parts_b2 ab N n l2 l3_18 σ17
def m_parts (ab : Nat) (N : Nat) (l2 : Int32) (σ : xS) : Option (Int32 × xS) := m_parts_b2 ab N N l2 (0 : Int32) σ
def m_draw_b158 (N : Nat) (K49 : Int32 → Int32 → Int32 → Int32 → xS → Option (Int32 × xS)) : Nat → Int32 → Int32 → Int32 → Int32 → Int32 → xS → Option (Int32 × xS)
 | 0, _, _, _, _, _, _ => none
 | n + 1, l1, l2, l3, l4, l8, σ => if l1 ≤ l8 then bnd (l4 + (1 : Int32)) fun l4_15 => K49 l1 l2 l3 l4_15 σ else ald σ 11 6 l8 fun v16 => ast σ 10 6 l8 v16 fun σ17 => bnd (l8 + (1 : Int32)) fun l8_18 => m_draw_b158 N K49 n l1 l2 l3 l4 l8_18 σ17
def m_draw_b67 (N : Nat) (K49 : Int32 → Int32 → Int32 → Int32 → xS → Option (Int32 × xS)) : Nat → Int32 → Int32 → Int32 → Int32 → Int32 → Int32 → Int32 → xS → Option (Int32 × xS)
 | 0, _, _, _, _, _, _, _, _ => none
 | n + 1, l1, l2, l3, l4, l5, l6, l7, σ => if l7 < 0 then cal (m_ones N l6 σ) fun v8 σ9 => if v8 < l1 then bnd (l4 + (1 : Int32)) fun l4_10 => K49 l1 l2 l3 l4_10 σ9 else cal (m_covers N l6 σ9) fun v11 σ12 => if v11 = 0 then bnd (l4 + (1 : Int32)) fun l4_20 => K49 l1 l2 l3 l4_20 σ12 else cal (m_parts 11 N l1 σ12) fun v13 σ14 => if v13 < l3 then m_draw_b158 N (K49) N l1 l2 v13 l4 (0 : Int32) σ14 else bnd (l4 + (1 : Int32)) fun l4_19 => K49 l1 l2 l3 l4_19 σ14 else gdz (6 : Int32) (ast σ 11 6 l7 (l5 - l5 / (6 : Int32) * (6 : Int32)) fun σ21 => gdz (6 : Int32) (bnd (l5 / (6 : Int32)) fun l5_22 => ald σ21 11 6 l7 fun v23 => bnd (l6 ||| ((1 : Int32) <<< (v23 &&& 31))) fun l6_24 => bnd (l7 + (-1 : Int32)) fun l7_25 => m_draw_b67 N K49 n l1 l2 l3 l4 l5_22 l6_24 l7_25 σ21))
def m_draw_b49 (N : Nat) : Nat → Int32 → Int32 → Int32 → Int32 → xS → Option (Int32 × xS)
 | 0, _, _, _, _, _ => none
 | n + 1, l1, l2, l3, l4, σ => if l2 ≤ l4 then put σ 17 l1 fun σ3 => put σ3 16 (1 : Int32) fun σ4 => cal (m_parts 10 N l1 σ4) fun v5 σ6 => some (v5, σ6) else bnd (l1 - (1 : Int32)) fun l7_7 => m_draw_b67 N (m_draw_b49 N n) N l1 l2 l3 l4 l4 (0 : Int32) l7_7 σ
def m_draw_b27 (N : Nat) : Nat → Int32 → Int32 → Int32 → xS → Option (Int32 × xS)
 | 0, _, _, _, _ => none
 | n + 1, l1, l2, l3, σ => if l1 ≤ l3 then m_draw_b49 N N l1 l2 (1000000 : Int32) (0 : Int32) σ else bnd (l2 * (6 : Int32)) fun l2_26 => bnd (l3 + (1 : Int32)) fun l3_27 => m_draw_b27 N n l1 l2_26 l3_27 σ
def m_draw (N : Nat) (σ : xS) : Option (Int32 × xS) := if (σ.1 12) = 0 then some ((-1 : Int32), σ) else cal (m_fewest N σ) fun v1 σ2 => if v1 = (7 : Int32) then some ((-2 : Int32), σ2) else m_draw_b27 N N v1 (1 : Int32) (0 : Int32) σ2
def m_way (N : Nat) (l1 : Int32) (σ : xS) : Option (Int32 × xS) := if (σ.1 16) = 0 then some ((-1 : Int32), σ) else if l1 < 0 then some ((-1 : Int32), σ) else if (σ.1 17) ≤ l1 then some ((-1 : Int32), σ) else ald σ 10 6 l1 fun v1 => some (v1, σ)
def m_pieceAt (N : Nat) (l1 l2 l3 : Int32) (σ : xS) : Option (Int32 × xS) := if (σ.1 16) = 0 then some ((-1 : Int32), σ) else cal (m_isMould N l1 l2 l3 σ) fun v1 σ2 => if v1 = 0 then some ((-1 : Int32), σ2) else cal (m_place N l1 l2 l3 σ2) fun v3 σ4 => ald σ4 8 1000 v3 fun v5 => if v5 = 0 then cal (m_place N l1 l2 l3 σ4) fun v6 σ7 => ald σ7 12 1000 v6 fun v8 => some (v8, σ7) else some ((-1 : Int32), σ4)
def m_isPiece (N : Nat) (l1 : Int32) (σ : xS) : Option (Int32 × xS) := if (σ.1 16) = 0 then some ((0 : Int32), σ) else if l1 < 0 then some ((0 : Int32), σ) else if (σ.1 18) ≤ l1 then some ((0 : Int32), σ) else some ((1 : Int32), σ)
def m_bears (N : Nat) (l1 : Int32) (σ : xS) : Option (Int32 × xS) := ald σ 16 1000 l1 fun v1 => if (1 : Int32) ≤ ((σ.1 19) - v1) then ald σ 16 1000 l1 fun v2 => some ((σ.1 19) - v2, σ) else some ((1 : Int32), σ)
def m_piece (N : Nat) (l1 l2 : Int32) (σ : xS) : Option (Int32 × xS) := cal (m_isPiece N l1 σ) fun v1 σ2 => if v1 = 0 then some ((-1 : Int32), σ2) else if l2 = (0 : Int32) then ald σ2 14 1000 l1 fun v3 => some (v3, σ2) else if l2 = (1 : Int32) then ald σ2 15 1000 l1 fun v4 => some (v4, σ2) else if l2 = (2 : Int32) then ald σ2 16 1000 l1 fun v5 => some (v5, σ2) else if l2 = (3 : Int32) then cal (m_bears N l1 σ2) fun v6 σ7 => some (v6, σ7) else if l2 = (4 : Int32) then ald σ2 17 1000 l1 fun v8 => some (v8, σ2) else some ((-1 : Int32), σ2)
def m_wear (N : Nat) (l1 l2 : Int32) (σ : xS) : Option (Int32 × xS) := cal (m_isIn N l1 (1 : Int32) (1000 : Int32) σ) fun v1 σ2 => if v1 = 0 then some ((0 : Int32), σ2) else cal (m_isIn N l2 (0 : Int32) (100 : Int32) σ2) fun v3 σ4 => if v3 = 0 then some ((0 : Int32), σ4) else put σ4 19 l1 fun σ5 => put σ5 20 l2 fun σ6 => some ((1 : Int32), σ6)
def m_isBorne_b2 (N : Nat) : Nat → Int32 → xS → Option (Int32 × xS)
 | 0, _, _ => none
 | n + 1, l1, σ => if (σ.1 18) ≤ l1 then some ((1 : Int32), σ) else ald σ 17 1000 l1 fun v1 => cal (m_bears N l1 σ) fun v2 σ3 => if v1 < v2 then bnd (l1 + (1 : Int32)) fun l1_4 => m_isBorne_b2 N n l1_4 σ3 else some ((0 : Int32), σ3)
def m_isBorne (N : Nat) (σ : xS) : Option (Int32 × xS) := m_isBorne_b2 N N (0 : Int32) σ
def m_pours_b2 (N : Nat) : Nat → Int32 → xS → Option (Int32 × xS)
 | 0, _, _ => none
 | n + 1, l1, σ => if (σ.1 18) ≤ l1 then some (0, σ) else ald σ 17 1000 l1 fun v1 => ast σ 17 1000 l1 (v1 + (1 : Int32)) fun σ2 => bnd (l1 + (1 : Int32)) fun l1_3 => m_pours_b2 N n l1_3 σ2
def m_pours (N : Nat) (σ : xS) : Option (Int32 × xS) := m_pours_b2 N N (0 : Int32) σ
def m_pour_b22 (N : Nat) : Nat → Int32 → Int32 → xS → Option (Int32 × xS)
 | 0, _, _, _ => none
 | n + 1, l1, l2, σ => if l1 ≤ l2 then some (l2, σ) else cal (m_isBorne N σ) fun v3 σ4 => if v3 = 0 then some (l2, σ4) else cal (m_pours N σ4) fun _ σ6 => bnd (l2 + (1 : Int32)) fun l2_7 => m_pour_b22 N n l1 l2_7 σ6
def m_pour (N : Nat) (l1 : Int32) (σ : xS) : Option (Int32 × xS) := if (σ.1 16) = 0 then some ((-1 : Int32), σ) else cal (m_isIn N l1 (1 : Int32) (1000 : Int32) σ) fun v1 σ2 => if v1 = 0 then some ((-1 : Int32), σ2) else m_pour_b22 N N l1 (0 : Int32) σ2
def m_mend (N : Nat) (l1 : Int32) (σ : xS) : Option (Int32 × xS) := cal (m_isPiece N l1 σ) fun v1 σ2 => if v1 = 0 then some ((-1 : Int32), σ2) else ast σ2 17 1000 l1 (0 : Int32) fun σ3 => ald σ3 15 1000 l1 fun v4 => some (v4 * (σ3.1 20), σ3)
def m_run_b32 (N : Nat) (K24 : Int32 → Int32 → Int32 → xS → Option (Int32 × xS)) : Nat → Int32 → Int32 → Int32 → Int32 → xS → Option (Int32 × xS)
 | 0, _, _, _, _, _ => none
 | n + 1, l1, l2, l3, l4, σ => if (σ.1 18) ≤ l4 then cal (m_pours N σ) fun _ σ4 => bnd (l3 + (1 : Int32)) fun l3_5 => K24 l1 l2 l3_5 σ4 else ald σ 17 1000 l4 fun v6 => cal (m_bears N l4 σ) fun v7 σ8 => if v6 < v7 then bnd (l4 + (1 : Int32)) fun l4_9 => m_run_b32 N K24 n l1 l2 l3 l4_9 σ8 else cal (m_mend N l4 σ8) fun v10 σ11 => bnd (l2 + v10) fun l2_12 => bnd (l4 + (1 : Int32)) fun l4_13 => m_run_b32 N K24 n l1 l2_12 l3 l4_13 σ11
def m_run_b24 (N : Nat) : Nat → Int32 → Int32 → Int32 → xS → Option (Int32 × xS)
 | 0, _, _, _, _ => none
 | n + 1, l1, l2, l3, σ => if l1 ≤ l3 then some (l2, σ) else m_run_b32 N (m_run_b24 N n) N l1 l2 l3 (0 : Int32) σ
def m_run (N : Nat) (l1 : Int32) (σ : xS) : Option (Int32 × xS) := if (σ.1 16) = 0 then some ((-1 : Int32), σ) else cal (m_isIn N l1 (1 : Int32) (1000 : Int32) σ) fun v1 σ2 => if v1 = 0 then some ((-1 : Int32), σ2) else m_run_b24 N N l1 (0 : Int32) (0 : Int32) σ2
def m_dry (N : Nat) (l1 : Int32) (σ : xS) : Option (Int32 × xS) := cal (m_isIn N l1 (0 : Int32) (100 : Int32) σ) fun v1 σ2 => if v1 = 0 then some ((-1 : Int32), σ2) else bnd (σ2.1 21) fun l2_3 => put σ2 21 l1 fun σ4 => some (l2_3, σ4)
def m_order_b59 (N : Nat) (l1 l2 l3 l4 : Int32) (σ : xS) : Option (Int32 × xS) := if l4 = (10 : Int32) then some ((-1 : Int32), σ) else ast σ 18 10 l4 (vp_nar .boolean (1 : Int32)) fun σ7 => ast σ7 19 10 l4 l1 fun σ8 => ast σ8 20 10 l4 l2 fun σ9 => ast σ9 21 10 l4 l3 fun σ10 => some (l4, σ10)
def m_order_b36 (N : Nat) : Nat → Int32 → Int32 → Int32 → Int32 → xS → Option (Int32 × xS)
 | 0, _, _, _, _, _ => none
 | n + 1, l1, l2, l3, l4, σ => if (10 : Int32) ≤ l4 then m_order_b59 N l1 l2 l3 l4 σ else ald σ 18 10 l4 fun v11 => if v11 = 0 then m_order_b59 N l1 l2 l3 l4 σ else bnd (l4 + (1 : Int32)) fun l4_12 => m_order_b36 N n l1 l2 l3 l4_12 σ
def m_order (N : Nat) (l1 l2 l3 : Int32) (σ : xS) : Option (Int32 × xS) := cal (m_isIn N l1 (1 : Int32) (50 : Int32) σ) fun v1 σ2 => if v1 = 0 then some ((-1 : Int32), σ2) else cal (m_isIn N l2 (0 : Int32) (1000 : Int32) σ2) fun v3 σ4 => if v3 = 0 then some ((-1 : Int32), σ4) else cal (m_isIn N l3 (1 : Int32) (100 : Int32) σ4) fun v5 σ6 => if v5 = 0 then some ((-1 : Int32), σ6) else m_order_b36 N N l1 l2 l3 (0 : Int32) σ6
def m_cancel (N : Nat) (l1 : Int32) (σ : xS) : Option (Int32 × xS) := if l1 < 0 then some ((0 : Int32), σ) else if (9 : Int32) < l1 then some ((0 : Int32), σ) else ald σ 18 10 l1 fun v1 => if v1 = 0 then some ((0 : Int32), σ) else ast σ 18 10 l1 (vp_nar .boolean (0 : Int32)) fun σ2 => some ((1 : Int32), σ2)
def m_poursOf_b4 (N : Nat) : Nat → Int32 → Int32 → Int32 → xS → Option (Int32 × xS)
 | 0, _, _, _, _ => none
 | n + 1, l1, l2, l3, σ => if (10 : Int32) ≤ l3 then some (l2, σ) else if ((l1 >>> (l3 &&& 31)) &&& (1 : Int32)) = (1 : Int32) then ald σ 19 10 l3 fun v2 => bnd (l2 + v2) fun l2_3 => bnd (l3 + (1 : Int32)) fun l3_4 => m_poursOf_b4 N n l1 l2_3 l3_4 σ else bnd (l3 + (1 : Int32)) fun l3_1 => m_poursOf_b4 N n l1 l2 l3_1 σ
def m_poursOf (N : Nat) (l1 : Int32) (σ : xS) : Option (Int32 × xS) := m_poursOf_b4 N N l1 (0 : Int32) (0 : Int32) σ
def m_lateOf (N : Nat) (l1 l2 : Int32) (σ : xS) : Option (Int32 × xS) := cal (m_poursOf N l2 σ) fun v1 σ2 => ald σ2 19 10 l1 fun v3 => ald σ2 20 10 l1 fun v4 => bnd (((v1 + v3) + (σ2.1 21)) - v4) fun l3_5 => if 0 ≤ l3_5 then some (l3_5, σ2) else some ((0 : Int32), σ2)
def m_row_b170 (N : Nat) (K163 : Int32 → Int32 → xS → Option (Int32 × xS)) : Nat → Int32 → Int32 → Int32 → xS → Option (Int32 × xS)
 | 0, _, _, _, _ => none
 | n + 1, l1, l2, l3, σ => if ((l1 >>> (l3 &&& 31)) &&& (1 : Int32)) = 0 then bnd (l3 + (1 : Int32)) fun l3_3 => m_row_b170 N K163 n l1 l2 l3_3 σ else if ((l2 >>> (l3 &&& 31)) &&& (1 : Int32)) = (1 : Int32) then bnd (l3 + (1 : Int32)) fun l3_4 => m_row_b170 N K163 n l1 l2 l3_4 σ else ald σ 21 10 l3 fun v5 => cal (m_lateOf N l3 l2 σ) fun v6 σ7 => ald σ7 22 1024 (l2 ||| ((1 : Int32) <<< (l3 &&& 31))) fun v8 => ald σ7 22 1024 l2 fun v9 => if ((v5 * v6) + v8) = v9 then ast σ7 23 10 (σ7.1 22) l3 fun σ10 => cal (m_lateOf N l3 l2 σ10) fun v11 σ12 => ast σ12 24 10 (σ10.1 22) v11 fun σ13 => put σ13 22 ((σ13.1 22) + (1 : Int32)) fun σ14 => bnd (l2 ||| ((1 : Int32) <<< (l3 &&& 31))) fun l2_15 => K163 l1 l2_15 σ14 else bnd (l3 + (1 : Int32)) fun l3_16 => m_row_b170 N K163 n l1 l2 l3_16 σ7
def m_row_b163 (N : Nat) : Nat → Int32 → Int32 → xS → Option (Int32 × xS)
 | 0, _, _, _ => none
 | n + 1, l1, l2, σ => if l2 = l1 then ald σ 22 1024 (0 : Int32) fun v2 => some (v2, σ) else m_row_b170 N (m_row_b163 N n) N l1 l2 (0 : Int32) σ
def m_row_b70 (N : Nat) (K39 : Int32 → Int32 → xS → Option (Int32 × xS)) : Nat → Int32 → Int32 → Int32 → Int32 → xS → Option (Int32 × xS)
 | 0, _, _, _, _, _ => none
 | n + 1, l1, l2, l3, l4, σ => if (10 : Int32) ≤ l4 then ast σ 22 1024 l2 l3 fun σ17 => bnd (l2 + (-1 : Int32)) fun l2_18 => K39 l1 l2_18 σ17 else if ((l1 >>> (l4 &&& 31)) &&& (1 : Int32)) = 0 then bnd (l4 + (1 : Int32)) fun l4_19 => m_row_b70 N K39 n l1 l2 l3 l4_19 σ else if ((l2 >>> (l4 &&& 31)) &&& (1 : Int32)) = (1 : Int32) then bnd (l4 + (1 : Int32)) fun l4_27 => m_row_b70 N K39 n l1 l2 l3 l4_27 σ else ald σ 21 10 l4 fun v20 => cal (m_lateOf N l4 l2 σ) fun v21 σ22 => ald σ22 22 1024 (l2 ||| ((1 : Int32) <<< (l4 &&& 31))) fun v23 => bnd ((v20 * v21) + v23) fun l5_24 => if l3 ≤ l5_24 then bnd (l4 + (1 : Int32)) fun l4_25 => m_row_b70 N K39 n l1 l2 l3 l4_25 σ22 else bnd (l4 + (1 : Int32)) fun l4_26 => m_row_b70 N K39 n l1 l2 l5_24 l4_26 σ22
def m_row_b39 (N : Nat) : Nat → Int32 → Int32 → xS → Option (Int32 × xS)
 | 0, _, _, _ => none
 | n + 1, l1, l2, σ => if l2 < 0 then put σ 22 (0 : Int32) fun σ1 => m_row_b163 N N l1 (0 : Int32) σ1 else if (l2 &&& (l1 ^^^ (-1 : Int32))) = 0 then if l2 = l1 then m_row_b70 N (m_row_b39 N n) N l1 l2 (0 : Int32) (0 : Int32) σ else m_row_b70 N (m_row_b39 N n) N l1 l2 (1000000000 : Int32) (0 : Int32) σ else bnd (l2 + (-1 : Int32)) fun l2_28 => m_row_b39 N n l1 l2_28 σ
def m_row_b4 (N : Nat) : Nat → Int32 → Int32 → xS → Option (Int32 × xS)
 | 0, _, _, _ => none
 | n + 1, l1, l2, σ => if (10 : Int32) ≤ l2 then if l1 = 0 then some ((-1 : Int32), σ) else m_row_b39 N N l1 l1 σ else ald σ 18 10 l2 fun v29 => if v29 = 0 then bnd (l2 + (1 : Int32)) fun l2_30 => m_row_b4 N n l1 l2_30 σ else bnd (l1 ||| ((1 : Int32) <<< (l2 &&& 31))) fun l1_31 => bnd (l2 + (1 : Int32)) fun l2_32 => m_row_b4 N n l1_31 l2_32 σ
def m_row (N : Nat) (σ : xS) : Option (Int32 × xS) := m_row_b4 N N (0 : Int32) (0 : Int32) σ
def m_next_ (N : Nat) (l1 : Int32) (σ : xS) : Option (Int32 × xS) := if l1 < 0 then some ((-1 : Int32), σ) else if (σ.1 22) ≤ l1 then some ((-1 : Int32), σ) else ald σ 23 10 l1 fun v1 => some (v1, σ)
def m_late (N : Nat) (l1 : Int32) (σ : xS) : Option (Int32 × xS) := if l1 < 0 then some ((-1 : Int32), σ) else if (σ.1 22) ≤ l1 then some ((-1 : Int32), σ) else ald σ 24 10 l1 fun v1 => some (v1, σ)
def m_cast (N : Nat) (l1 l2 l3 : Int32) (σ : xS) : Option (Int32 × xS) := if l1 < 0 then some ((0 : Int32), σ) else if (12 : Int32) ≤ l1 then some ((0 : Int32), σ) else cal (m_isIn N l2 (0 : Int32) (100000 : Int32) σ) fun v1 σ2 => if v1 = 0 then some ((0 : Int32), σ2) else if l2 ≤ 0 then ast σ2 25 12 l1 l2 fun σ3 => ast σ3 26 12 l1 l3 fun σ4 => some ((1 : Int32), σ4) else cal (m_isIn N l3 (0 : Int32) (1000 : Int32) σ2) fun v5 σ6 => if v5 = 0 then some ((0 : Int32), σ6) else ast σ6 25 12 l1 l2 fun σ7 => ast σ7 26 12 l1 l3 fun σ8 => some ((1 : Int32), σ8)
def m_copies (N : Nat) (l1 l2 l3 : Int32) (σ : xS) : Option (Int32 × xS) := cal (m_isIn N l1 (900 : Int32) (1000 : Int32) σ) fun v1 σ2 => if v1 = 0 then some ((0 : Int32), σ2) else cal (m_isIn N l2 (0 : Int32) (1000 : Int32) σ2) fun v3 σ4 => if v3 = 0 then some ((0 : Int32), σ4) else cal (m_isIn N l3 (0 : Int32) (100000 : Int32) σ4) fun v5 σ6 => if v5 = 0 then some ((0 : Int32), σ6) else put σ6 23 l1 fun σ7 => put σ7 24 l2 fun σ8 => put σ8 25 l3 fun σ9 => some ((1 : Int32), σ9)
def m_isCast (N : Nat) (l1 : Int32) (σ : xS) : Option (Int32 × xS) := if l1 < 0 then some ((0 : Int32), σ) else if (12 : Int32) ≤ l1 then some ((0 : Int32), σ) else ald σ 25 12 l1 fun v1 => if v1 ≤ 0 then some ((0 : Int32), σ) else some ((1 : Int32), σ)
def m_far (N : Nat) (l0 l1 : Int32) (σ : xS) : Option (Int32 × xS) := if l1 ≤ l0 then some (l0 - l1, σ) else some (l1 - l0, σ)
def m_quarrel (N : Nat) (l1 l2 : Int32) (σ : xS) : Option (Int32 × xS) := ald σ 25 12 l1 fun v1 => ald σ 25 12 l2 fun v2 => gdz (1000 : Int32) (cal (m_far N v1 ((v2 * (σ.1 23)) / (1000 : Int32)) σ) fun v3 σ4 => ald σ4 26 12 l1 fun v5 => ald σ4 26 12 l2 fun v6 => gdz (1000 : Int32) (cal (m_far N v5 ((v6 * (σ4.1 24)) / (1000 : Int32)) σ4) fun v7 σ8 => some (v3 + v7, σ8)))
def m_mother_b77 (N : Nat) (K15 : Int32 → Int32 → Int32 → xS → Option (Int32 × xS)) (l1 l2 l3 : Int32) (σ : xS) : Option (Int32 × xS) := cal (m_quarrel N l1 l3 σ) fun v11 σ12 => if (σ12.1 25) < v11 then bnd (l3 + (1 : Int32)) fun l3_13 => K15 l1 l2 l3_13 σ12 else if l2 = (-2 : Int32) then bnd (l3 + (1 : Int32)) fun l3_14 => K15 l1 l3 l3_14 σ12 else cal (m_quarrel N l1 l3 σ12) fun v15 σ16 => cal (m_quarrel N l1 l2 σ16) fun v17 σ18 => if v17 ≤ v15 then bnd (l3 + (1 : Int32)) fun l3_19 => K15 l1 l2 l3_19 σ18 else bnd (l3 + (1 : Int32)) fun l3_20 => K15 l1 l3 l3_20 σ18
def m_mother_b15 (N : Nat) : Nat → Int32 → Int32 → Int32 → xS → Option (Int32 × xS)
 | 0, _, _, _, _ => none
 | n + 1, l1, l2, l3, σ => if (12 : Int32) ≤ l3 then some (l2, σ) else cal (m_isCast N l3 σ) fun v3 σ4 => if v3 = 0 then bnd (l3 + (1 : Int32)) fun l3_5 => m_mother_b15 N n l1 l2 l3_5 σ4 else ald σ4 25 12 l3 fun v6 => ald σ4 25 12 l1 fun v7 => if v6 < v7 then bnd (l3 + (1 : Int32)) fun l3_8 => m_mother_b15 N n l1 l2 l3_8 σ4 else ald σ4 25 12 l3 fun v9 => ald σ4 25 12 l1 fun v10 => if v9 = v10 then ald σ4 26 12 l3 fun v21 => ald σ4 26 12 l1 fun v22 => if v22 < v21 then m_mother_b77 N (m_mother_b15 N n) l1 l2 l3 σ4 else bnd (l3 + (1 : Int32)) fun l3_23 => m_mother_b15 N n l1 l2 l3_23 σ4 else m_mother_b77 N (m_mother_b15 N n) l1 l2 l3 σ4
def m_mother (N : Nat) (l1 : Int32) (σ : xS) : Option (Int32 × xS) := cal (m_isCast N l1 σ) fun v1 σ2 => if v1 = 0 then some ((-1 : Int32), σ2) else m_mother_b15 N N l1 (-2 : Int32) (0 : Int32) σ2
def m_steps_b18 (N : Nat) : Nat → Int32 → Int32 → xS → Option (Int32 × xS)
 | 0, _, _, _ => none
 | n + 1, l2, l3, σ => if l3 < 0 then some (l2, σ) else bnd (l2 + (1 : Int32)) fun l2_5 => cal (m_mother N l3 σ) fun v6 σ7 => m_steps_b18 N n l2_5 v6 σ7
def m_steps (N : Nat) (l1 : Int32) (σ : xS) : Option (Int32 × xS) := cal (m_isCast N l1 σ) fun v1 σ2 => if v1 = 0 then some ((-1 : Int32), σ2) else cal (m_mother N l1 σ2) fun v3 σ4 => m_steps_b18 N N (0 : Int32) v3 σ4
def m_told_b51 (N : Nat) (K15 : Int32 → Int32 → Int32 → xS → Option (Int32 × xS)) (l1 l2 l3 l4 : Int32) (σ : xS) : Option (Int32 × xS) := if l1 = (1 : Int32) then if l4 < 0 then bnd (l3 + (1 : Int32)) fun l3_6 => K15 l1 l2 l3_6 σ else cal (m_quarrel N l3 l4 σ) fun v7 σ8 => bnd (l2 + v7) fun l2_9 => bnd (l3 + (1 : Int32)) fun l3_10 => K15 l1 l2_9 l3_10 σ8 else bnd (l3 + (1 : Int32)) fun l3_5 => K15 l1 l2 l3_5 σ
def m_told_b15 (N : Nat) : Nat → Int32 → Int32 → Int32 → xS → Option (Int32 × xS)
 | 0, _, _, _, _ => none
 | n + 1, l1, l2, l3, σ => if (12 : Int32) ≤ l3 then some (l2, σ) else cal (m_isCast N l3 σ) fun v1 σ2 => if v1 = 0 then bnd (l3 + (1 : Int32)) fun l3_12 => m_told_b15 N n l1 l2 l3_12 σ2 else cal (m_mother N l3 σ2) fun v3 σ4 => if l1 = 0 then if 0 ≤ v3 then m_told_b51 N (m_told_b15 N n) l1 l2 l3 v3 σ4 else bnd (l2 + (1 : Int32)) fun l2_11 => m_told_b51 N (m_told_b15 N n) l1 l2_11 l3 v3 σ4 else m_told_b51 N (m_told_b15 N n) l1 l2 l3 v3 σ4
def m_told (N : Nat) (l1 : Int32) (σ : xS) : Option (Int32 × xS) := if l1 = 0 then m_told_b15 N N l1 (0 : Int32) (0 : Int32) σ else if l1 = (1 : Int32) then m_told_b15 N N l1 (0 : Int32) (0 : Int32) σ else some ((-1 : Int32), σ)
