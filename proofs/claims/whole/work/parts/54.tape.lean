def bt (x : Int32) (i : Nat) : Bool := x.toBitVec.getLsbD i
theorem b_ext {x y : Int32} (h : ∀ i, i < 32 → bt x i = bt y i) : x = y := Int32.toBitVec_inj.mp (BitVec.eq_of_getLsbD_eq (fun i hi => h i hi))
theorem b_or (x y : Int32) (i : Nat) : bt (x ||| y) i = (bt x i || bt y i) := by unfold bt; rw [Int32.toBitVec_or, BitVec.getLsbD_or]
theorem b_and (x y : Int32) (i : Nat) : bt (x &&& y) i = (bt x i && bt y i) := by unfold bt; rw [Int32.toBitVec_and, BitVec.getLsbD_and]
theorem b_xor (x y : Int32) (i : Nat) : bt (x ^^^ y) i = (bt x i ^^ bt y i) := by unfold bt; rw [Int32.toBitVec_xor, BitVec.getLsbD_xor]
theorem b_big {x : Int32} {i : Nat} (h : 32 ≤ i) : bt x i = false := BitVec.getLsbD_of_ge _ _ h
theorem b_255 (i : Nat) : bt 255 i = decide (i < 8) := by
  rcases Nat.lt_or_ge i 32 with h | h
  · exact (by decide +kernel : ∀ i, i < 32 → bt 255 i = decide (i < 8)) i h
  · rw [b_big h, decide_eq_false (by omega)]
theorem b_65535 (i : Nat) : bt 65535 i = decide (i < 16) := by
  rcases Nat.lt_or_ge i 32 with h | h
  · exact (by decide +kernel : ∀ i, i < 32 → bt 65535 i = decide (i < 16)) i h
  · rw [b_big h, decide_eq_false (by omega)]
theorem b_m1 : ∀ i, i < 32 → bt (-1) i = true := by decide +kernel
theorem b_0 (i : Nat) : bt 0 i = false := BitVec.getLsbD_zero
theorem s_l : ∀ n, n < 32 → ((nI n &&& 31).toBitVec.smod 32).toNat = n := by decide +kernel
theorem s_u : ∀ n, n < 32 → (((nI n).toUInt32 &&& Int32.toUInt32 31).toBitVec % 32).toNat = n := by decide +kernel
theorem b_shl (n : Nat) (hn : n < 32) (x : Int32) {i : Nat} (hi : i < 32) : bt (x <<< (nI n &&& 31)) i = (decide (n ≤ i) && bt x (i - n)) := by
  unfold bt
  rw [Int32.toBitVec_shiftLeft]
  show (x.toBitVec <<< ((nI n &&& 31).toBitVec.smod 32).toNat).getLsbD i = _
  rw [s_l n hn, BitVec.getLsbD_shiftLeft]
  rcases Nat.lt_or_ge i n with h | h
  · simp [h, Nat.not_le.mpr h]
  · simp [hi, h, Nat.not_lt.mpr h]
theorem b_ushr (n : Nat) (hn : n < 32) (x : Int32) (i : Nat) : bt ((x.toUInt32 >>> ((nI n).toUInt32 &&& Int32.toUInt32 31)).toInt32) i = bt x (n + i) := by
  show (x.toUInt32 >>> ((nI n).toUInt32 &&& Int32.toUInt32 31)).toBitVec.getLsbD i = x.toUInt32.toBitVec.getLsbD (n + i)
  rw [UInt32.toBitVec_shiftRight]
  show (x.toUInt32.toBitVec >>> (((nI n).toUInt32 &&& Int32.toUInt32 31).toBitVec % 32).toNat).getLsbD i = _
  rw [s_u n hn, BitVec.getLsbD_ushiftRight]
theorem b_sshr (n : Nat) (hn : n < 32) (x : Int32) {i : Nat} (hi : i < 32) : bt (x >>> (nI n &&& 31)) i = if n + i < 32 then bt x (n + i) else bt x 31 := by
  unfold bt
  rw [Int32.toBitVec_shiftRight]
  show (x.toBitVec.sshiftRight ((nI n &&& 31).toBitVec.smod 32).toNat).getLsbD i = _
  rw [s_l n hn, BitVec.getLsbD_sshiftRight, BitVec.msb_eq_getLsbD_last]
  simp [hi]
theorem nx_and (a b : Nat) : nI a &&& nI b = nI (a &&& b) := by
  apply Int32.toBitVec_inj.1
  show BitVec.ofNat 32 a &&& BitVec.ofNat 32 b = BitVec.ofNat 32 (a &&& b)
  apply BitVec.eq_of_getLsbD_eq
  intro i hi
  simp [hi]
theorem nx_xor (a b : Nat) : nI a ^^^ nI b = nI (a ^^^ b) := by
  apply Int32.toBitVec_inj.1
  show BitVec.ofNat 32 a ^^^ BitVec.ofNat 32 b = BitVec.ofNat 32 (a ^^^ b)
  apply BitVec.eq_of_getLsbD_eq
  intro i hi
  simp [hi]
/-- bits of small whole numbers -/
theorem j_and (a b : Nat) : iI (a : Int) &&& iI (b : Int) = iI ((a &&& b : Nat) : Int) := by rw [← iI_nI, ← iI_nI, ← iI_nI]; exact nx_and a b
theorem j_or (a b : Nat) : iI (a : Int) ||| iI (b : Int) = iI ((a ||| b : Nat) : Int) := by
  rw [← iI_nI, ← iI_nI, ← iI_nI]
  apply Int32.toBitVec_inj.1
  show BitVec.ofNat 32 a ||| BitVec.ofNat 32 b = BitVec.ofNat 32 (a ||| b)
  apply BitVec.eq_of_getLsbD_eq
  intro i hi
  simp [hi]
theorem j_31 {a : Int} (h1 : 0 ≤ a) (h2 : a < 32) : iI a &&& 31 = iI a := by
  have e : a = ((a.toNat : Nat) : Int) := by omega
  rw [e, show (31 : Int32) = iI ((31 : Nat) : Int) from rfl, j_and]
  have : ∀ n : Nat, n < 32 → n &&& 31 = n := by decide
  rw [this a.toNat (by omega)]
theorem j_shl1 {k : Nat} (hk : k < 31) : (1 : Int32) <<< (iI (k : Int) &&& 31) = iI ((2 ^ k : Nat) : Int) := by
  rw [← iI_nI, ← iI_nI]
  have : ∀ k : Nat, k < 31 → (1 : Int32) <<< (nI k &&& 31) = nI (2 ^ k) := by decide +kernel
  exact this k hk
theorem j_shr {a k : Nat} (ha : a < 2147483648) (hk : k < 32) : iI (a : Int) >>> (iI (k : Int) &&& 31) = iI ((a / 2 ^ k : Nat) : Int) := by
  rw [← iI_nI, ← iI_nI, ← iI_nI]
  exact pk_shrN (by omega) _ k (s_l k hk)
theorem j_bit {a k : Nat} (ha : a < 2147483648) (hk : k < 32) : (iI (a : Int) >>> (iI (k : Int) &&& 31)) &&& 1 = iI (if a.testBit k then 1 else 0) := by
  rw [j_shr ha hk, show (1 : Int32) = iI ((1 : Nat) : Int) from rfl, j_and, Nat.and_one_is_mod, Nat.testBit_eq_decide_div_mod_eq]
  have : a / 2 ^ k % 2 = 0 ∨ a / 2 ^ k % 2 = 1 := by omega
  rcases this with e | e <;> rw [e] <;> rfl
theorem upd_e (f : Nat → Int32) (k : Nat) (x : Int32) (j : Nat) : upd f k x j = if j = k then x else f j := rfl
/-- the tape -/
def by8 (x : Int32) (j : Nat) : Int32 := (x >>> (iI (24 - 8 * (j : Int)) &&& 31)) &&& 255
theorem by8_rng (x : Int32) (j : Nat) : ∃ b : Int, by8 x j = iI b ∧ 0 ≤ b ∧ b < 256 := by
  unfold by8
  obtain ⟨k, hk, e⟩ := pk_andE (x >>> (iI (24 - 8 * (j : Int)) &&& 31)) (m := 255) 8 (by decide)
  exact ⟨(k : Int), by rw [e, iI_nI], by omega, by omega⟩
theorem by8_u (x : Int32) {n : Nat} (hn : n < 25) : ((x.toUInt32 >>> ((nI n).toUInt32 &&& Int32.toUInt32 31)).toInt32) &&& 255 = (x >>> (nI n &&& 31)) &&& 255 := by
  apply b_ext
  intro i hi
  rw [b_and, b_and, b_255, b_ushr n (by omega), b_sshr n (by omega) x hi]
  by_cases h : i < 8
  · rw [if_pos (by omega)]
  · rw [decide_eq_false h, Bool.and_false, Bool.and_false]
def Rtape (σ τ : xS) : Prop := ∃ n : Nat, n ≤ 400 ∧ σ.1 0 = iI n ∧ τ.1 0 = iI n ∧ ∀ i : Nat, i < n → σ.2 0 i = τ.2 0 i ∧ ∃ b : Int, τ.2 0 i = iI b ∧ 0 ≤ b ∧ b < 256
theorem Rtape_fr {S T S' T' : List Nat} {σ σ' τ τ' : xS} (h : Rtape σ τ) (f : fr S T σ σ') (g : fr S' T' τ τ') (h1 : 0 ∉ S) (h2 : 0 ∉ T) (h3 : 0 ∉ S') (h4 : 0 ∉ T') : Rtape σ' τ' := by
  obtain ⟨n, a, b, c, d⟩ := h
  exact ⟨n, a, by rw [f.1 0 h1]; exact b, by rw [g.1 0 h3]; exact c, fun i hi => by rw [f.2 0 h2, g.2 0 h4]; exact d i hi⟩
theorem four_x {N : Nat} (hN : 4 < N) {σ : xS} {n : Nat} (x : Int32) (h0 : σ.1 0 = iI n) (hn : n + 4 ≤ 400) : ∃ σ' : xS, tape_addFour N x σ = some (0, σ') ∧ σ'.1 0 = iI ((n + 4 : Nat) : Int) ∧ (∀ i : Nat, i < n → σ'.2 0 i = σ.2 0 i) ∧ ∀ j : Nat, j < 4 → σ'.2 0 (n + j) = by8 x j := by
  have step : ∀ (f j : Nat) (σ' : xS), j ≤ 4 → 4 < j + f → σ'.1 0 = iI ((n + j : Nat) : Int) → (∀ i : Nat, i < n → σ'.2 0 i = σ.2 0 i) → (∀ k : Nat, k < j → σ'.2 0 (n + k) = by8 x k) → ∃ σ2 : xS, tape_addFour_b3 N f x (iI (24 - 8 * (j : Int))) σ' = some (0, σ2) ∧ σ2.1 0 = iI ((n + 4 : Nat) : Int) ∧ (∀ i : Nat, i < n → σ2.2 0 i = σ.2 0 i) ∧ ∀ k : Nat, k < 4 → σ2.2 0 (n + k) = by8 x k := by
    intro f
    induction f with
    | zero => intro j σ' h1 h2; omega
    | succ f ih =>
      intro j σ' h1 h2 e0 e1 e2
      rw [tape_addFour_b3, e0]
      simp (disch := omega) only [iI_lit, iI_lt, iI_le, ast_at, put_at, bnd_at, iI_neg, iI_add]
      by_cases hj : j = 4
      · subst hj
        rw [if_pos (by omega)]
        exact ⟨σ', rfl, e0, e1, e2⟩
      · rw [if_neg (by omega), if_neg (by omega)]
        have eb : ((x.toUInt32 >>> ((iI (24 - 8 * (j : Int))).toUInt32 &&& Int32.toUInt32 (iI 31))).toInt32 &&& iI 255) = by8 x j := by
          have en : iI (24 - 8 * (j : Int)) = nI (24 - 8 * j) := by rw [iI_nI]; congr 1; omega
          unfold by8
          rw [en]
          exact by8_u x (by omega)
        rw [eb, show 24 - 8 * (j : Int) + -8 = 24 - 8 * ((j + 1 : Nat) : Int) by omega]
        refine ih (j + 1) _ (by omega) (by omega) ?_ ?_ ?_
        · dsimp only
          rw [va_up_s, e0, iI_add]
          congr 1
        · intro i hi
          dsimp only
          rw [va_up_s, upd_e, if_neg (by omega)]
          exact e1 i hi
        · intro k hk
          dsimp only
          rw [va_up_s, upd_e]
          by_cases hk2 : k = j
          · subst hk2
            rw [if_pos (by omega)]
          · rw [if_neg (by omega)]
            exact e2 k (by omega)
  unfold tape_addFour
  exact step N 0 σ (by omega) (by omega) (by rw [h0]; rfl) (fun _ _ => rfl) (fun k hk => by omega)
theorem mfeed {N : Nat} {τ : xS} {n : Nat} (a b c d e : Int32) (hn : n + 20 ≤ 400) : ∀ (f k : Nat) (τ' : xS), k ≤ 20 → 20 < k + f → τ'.1 0 = iI ((n + k : Nat) : Int) → (∀ i : Nat, i < n → τ'.2 0 i = τ.2 0 i) → (∀ j : Nat, j < k → τ'.2 0 (n + j) = by8 (if j < 4 then a else if j < 8 then b else if j < 12 then c else if j < 16 then d else e) (j % 4)) → ∃ τ2 : xS, m_feed_b18 N f a b c d e (iI k) τ' = some (iI ((n + 20 : Nat) : Int), τ2) ∧ τ2.1 0 = iI ((n + 20 : Nat) : Int) ∧ (∀ i : Nat, i < n → τ2.2 0 i = τ.2 0 i) ∧ ∀ j : Nat, j < 20 → τ2.2 0 (n + j) = by8 (if j < 4 then a else if j < 8 then b else if j < 12 then c else if j < 16 then d else e) (j % 4) := by
  intro f
  induction f with
  | zero => intro k τ' h1 h2; omega
  | succ f ih =>
    intro k τ' h1 h2 e0 e1 e2
    have hb : ∀ x : Int32, x = (if k < 4 then a else if k < 8 then b else if k < 12 then c else if k < 16 then d else e) → k < 20 → ∃ τ2 : xS, m_feed_b71 N (m_feed_b18 N f) a b c d e (iI k) x τ' = some (iI ((n + 20 : Nat) : Int), τ2) ∧ τ2.1 0 = iI ((n + 20 : Nat) : Int) ∧ (∀ i : Nat, i < n → τ2.2 0 i = τ.2 0 i) ∧ ∀ j : Nat, j < 20 → τ2.2 0 (n + j) = by8 (if j < 4 then a else if j < 8 then b else if j < 12 then c else if j < 16 then d else e) (j % 4) := by
      intro x hx hk
      unfold m_feed_b71
      rw [e0]
      simp (disch := omega) only [iI_lit, gdz_at, iI_div, iI_mul, iI_sub, ast_at, put_at, bnd_at, iI_add]
      have eb : ((x >>> (iI (8 * (3 - ((k : Int) - (k : Int) / 4 * 4))) &&& iI 31)) &&& iI 255) = by8 x (k % 4) := by
        unfold by8
        rw [show (8 : Int) * (3 - ((k : Int) - (k : Int) / 4 * 4)) = 24 - 8 * ((k % 4 : Nat) : Int) by omega]
        rfl
      rw [eb]
      refine ih (k + 1) _ (by omega) (by omega) ?_ ?_ ?_
      · dsimp only
        rw [va_up_s, e0, iI_add]
        congr 1
      · intro i hi
        dsimp only
        rw [va_up_s, upd_e, if_neg (by omega)]
        exact e1 i hi
      · intro j hj
        dsimp only
        rw [va_up_s, upd_e]
        by_cases hk2 : j = k
        · subst hk2
          rw [if_pos (by omega), hx]
        · rw [if_neg (by omega)]
          exact e2 j (by omega)
    rw [m_feed_b18]
    simp (disch := omega) only [iI_lit, iI_le]
    by_cases q : (20 : Int) ≤ k
    · rw [if_pos q]
      have : k = 20 := by omega
      subst this
      exact ⟨τ', by rw [e0], e0, e1, e2⟩
    · rw [if_neg q]
      by_cases q1 : (4 : Int) ≤ k
      · rw [if_pos q1]
        by_cases q2 : (8 : Int) ≤ k
        · rw [if_pos q2]
          by_cases q3 : (12 : Int) ≤ k
          · rw [if_pos q3]
            by_cases q4 : (16 : Int) ≤ k
            · rw [if_pos q4]
              exact hb e (by rw [if_neg (by omega), if_neg (by omega), if_neg (by omega), if_neg (by omega)]) (by omega)
            · rw [if_neg q4]
              exact hb d (by rw [if_neg (by omega), if_neg (by omega), if_neg (by omega), if_pos (by omega)]) (by omega)
          · rw [if_neg q3]
            exact hb c (by rw [if_neg (by omega), if_neg (by omega), if_pos (by omega)]) (by omega)
        · rw [if_neg q2]
          exact hb b (by rw [if_neg (by omega), if_pos (by omega)]) (by omega)
      · rw [if_neg q1]
        exact hb a (by rw [if_pos (by omega)]) (by omega)
theorem sim_feed {N : Nat} (hN : 20 < N) (a b c d e : Int32) {σ τ : xS} (h : Rtape σ τ) : ∃ (r : Int32) (σ' τ' : xS), cw_feed N a b c d e σ = some (r, σ') ∧ m_feed N a b c d e τ = some (r, τ') ∧ Rtape σ' τ' := by
  obtain ⟨n, hn, h1, h2, h3⟩ := id h
  unfold cw_feed tape_hasRoomForTwenty m_feed
  rw [h1, h2]
  simp (disch := omega) only [iI_lit, iI_lt, iI_le, iI_add]
  by_cases q : (380 : Int) < n
  · rw [if_pos q, if_neg (by omega)]
    simp only [cal_at, if_true]
    exact ⟨_, _, _, rfl, rfl, h⟩
  · rw [if_neg q, if_pos (by omega), cal_at, if_neg n10]
    obtain ⟨s1, g1, l1, o1, b1⟩ := four_x (N := N) (by omega) a h1 (by omega)
    obtain ⟨s2, g2, l2, o2, b2⟩ := four_x (N := N) (by omega) b l1 (by omega)
    obtain ⟨s3, g3, l3, o3, b3⟩ := four_x (N := N) (by omega) c l2 (by omega)
    obtain ⟨s4, g4, l4, o4, b4⟩ := four_x (N := N) (by omega) d l3 (by omega)
    obtain ⟨s5, g5, l5, o5, b5⟩ := four_x (N := N) (by omega) e l4 (by omega)
    obtain ⟨t, m1, m2, m3, m4⟩ := mfeed (N := N) (τ := τ) (n := n) a b c d e (by omega) N 0 τ (by omega) (by omega) (by rw [h2]; rfl) (fun _ _ => rfl) (fun j hj => by omega)
    have m1 : m_feed_b18 N N a b c d e (iI 0) τ = some (iI ((n + 20 : Nat) : Int), t) := m1
    rw [g1, cal_at, g2, cal_at, g3, cal_at, g4, cal_at, g5, cal_at, m1]
    unfold tape_size
    rw [cal_at, l5]
    refine ⟨_, _, _, rfl, rfl, n + 20, by omega, l5, m2, fun i hi => ?_⟩
    have hx : s5.2 0 i = t.2 0 i := by
      by_cases c0 : i < n
      · rw [o5 i (by omega), o4 i (by omega), o3 i (by omega), o2 i (by omega), o1 i c0, m3 i c0]
        exact (h3 i c0).1
      · obtain ⟨j, rfl⟩ : ∃ j, i = n + j := ⟨i - n, by omega⟩
        rw [m4 j (by omega)]
        by_cases c1 : j < 4
        · rw [o5 _ (by omega), o4 _ (by omega), o3 _ (by omega), o2 _ (by omega), b1 j c1, if_pos c1, show j % 4 = j by omega]
        · rw [if_neg c1]
          by_cases c2 : j < 8
          · have := b2 (j - 4) (by omega)
            rw [show n + 4 + (j - 4) = n + j by omega] at this
            rw [o5 _ (by omega), o4 _ (by omega), o3 _ (by omega), this, if_pos c2, show j % 4 = j - 4 by omega]
          · rw [if_neg c2]
            by_cases c3 : j < 12
            · have := b3 (j - 8) (by omega)
              rw [show n + 4 + 4 + (j - 8) = n + j by omega] at this
              rw [o5 _ (by omega), o4 _ (by omega), this, if_pos c3, show j % 4 = j - 8 by omega]
            · rw [if_neg c3]
              by_cases c4 : j < 16
              · have := b4 (j - 12) (by omega)
                rw [show n + 4 + 4 + 4 + (j - 12) = n + j by omega] at this
                rw [o5 _ (by omega), this, if_pos c4, show j % 4 = j - 12 by omega]
              · rw [if_neg c4]
                have := b5 (j - 16) (by omega)
                rw [show n + 4 + 4 + 4 + 4 + (j - 16) = n + j by omega] at this
                rw [this, show j % 4 = j - 16 by omega]
    refine ⟨hx, ?_⟩
    by_cases c0 : i < n
    · rw [m3 i c0]
      exact (h3 i c0).2
    · obtain ⟨j, rfl⟩ : ∃ j, i = n + j := ⟨i - n, by omega⟩
      rw [m4 j (by omega)]
      exact by8_rng _ _
theorem keep_x {N : Nat} {σ : xS} {n : Nat} {a : Int} (hn : n ≤ 400) (h : σ.1 0 = iI n) (a1 : -2147483648 ≤ a) (a2 : a < 2147483648) : tape_keepFirst N (iI a) σ = if 0 ≤ a ∧ a ≤ n then some (iI 1, (va_up σ.1 0 (iI a), σ.2)) else some (iI 0, σ) := by
  unfold tape_keepFirst
  rw [h]
  simp (disch := omega) only [iI_lit, iI_lt, iI_le, put_at]
  by_cases q : a < 0
  · rw [if_pos q, if_neg (by omega)]
  · rw [if_neg q]
    by_cases q2 : a ≤ n
    · rw [if_pos q2, if_pos (by omega)]
    · rw [if_neg q2, if_neg (by omega)]
theorem sim_end {N : Nat} (a : Int32) {σ τ : xS} (h : Rtape σ τ) : ∃ (r : Int32) (σ' τ' : xS), cw_end N a σ = some (r, σ') ∧ m_end N a τ = some (r, τ') ∧ Rtape σ' τ' := by
  obtain ⟨a, rfl, a1, a2⟩ := iI_ex a
  obtain ⟨n, hn, h1, h2, h3⟩ := id h
  unfold cw_end m_end
  rw [keep_x hn h1 a1 a2, h2]
  simp (disch := omega) only [iI_lit, iI_lt, iI_le, put_at]
  by_cases q : a < 0
  · rw [if_pos q, if_neg (by omega), cal_at, gdb_0]
    exact ⟨_, _, _, rfl, rfl, h⟩
  · rw [if_neg q]
    by_cases q2 : a ≤ n
    · rw [if_pos q2, if_pos (by omega), cal_at, gdb_1]
      refine ⟨_, _, _, rfl, rfl, a.toNat, by omega, ?_, ?_, fun i hi => h3 i (by omega)⟩
      · dsimp only
        rw [va_up_s, show ((a.toNat : Nat) : Int) = a by omega]
      · dsimp only
        rw [va_up_s, show ((a.toNat : Nat) : Int) = a by omega]
    · rw [if_neg q2, if_neg (by omega), cal_at, gdb_0]
      exact ⟨_, _, _, rfl, rfl, h⟩
