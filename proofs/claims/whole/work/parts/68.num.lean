/-! reading, side by side -/
def wds (τ : xS) : Prop := ∀ k : Nat, k < 4 → ∀ j : Nat, j < Wl k → τ.2 (k + 1) j = iI (Wd k j)
theorem wds_fr {S T : List Nat} {σ σ' : xS} (h : wds σ) (f : fr S T σ σ') (h2 : 1 ∉ T ∧ 2 ∉ T ∧ 3 ∉ T ∧ 4 ∉ T) : wds σ' := by
  intro k hk
  have e : σ'.2 (k + 1) = σ.2 (k + 1) := by
    rcases (show k = 0 ∨ k = 1 ∨ k = 2 ∨ k = 3 by omega) with rfl | rfl | rfl | rfl
    · exact f.2 1 h2.1
    · exact f.2 2 h2.2.1
    · exact f.2 3 h2.2.2.1
    · exact f.2 4 h2.2.2.2
  rw [e]; exact h k hk
def Fb (σ τ : xS) : Prop := ∃ k p : Int, (k = 1 ∨ k = 2) ∧ σ.1 2 = iI k ∧ σ.1 3 = iI p ∧ τ.1 5 = iI k ∧ τ.1 6 = iI p
theorem Fb_x {σ τ : xS} (h : Fb σ τ) : ¬ σ.1 2 = (0 : Int32) ∧ ¬ τ.1 5 = (0 : Int32) := by
  obtain ⟨k, p, hk, e1, _, e2, _⟩ := h
  rw [e1, e2]
  rcases hk with rfl | rfl <;> exact ⟨by decide, by decide⟩
theorem ref_x {N : Nat} {σ : xS} (k p : Int32) (h : σ.1 2 = iI 0) : reader_refuse N k p σ = some (0, (va_up (va_up σ.1 2 k) 3 p, σ.2)) := by
  unfold reader_refuse; rw [h, if_pos (by decide), put_at, put_at]
theorem ref_x' {N : Nat} {σ : xS} (k p : Int32) (h : ¬ σ.1 2 = (0 : Int32)) : reader_refuse N k p σ = some (0, σ) := by
  unfold reader_refuse; rw [if_neg h]
theorem fail_m {N : Nat} {τ : xS} (k p : Int32) (h : τ.1 5 = iI 0) : m_fail N k p τ = some (0, (va_up (va_up τ.1 5 k) 6 p, τ.2)) := by
  unfold m_fail; rw [h, if_pos (by decide), put_at, put_at]
theorem fail_m' {N : Nat} {τ : xS} (k p : Int32) (h : ¬ τ.1 5 = (0 : Int32)) : m_fail N k p τ = some (0, τ) := by
  unfold m_fail; rw [if_neg h]
theorem semi_x {N n : Nat} (hN : 500 < N) {t : Nat → Int} (ok : tpOk n t) {σ : xS} (hx : tpX n t σ) {a b : Nat} (hs : Sk n t a b) (h1 : σ.1 1 = iI a) (h2 : σ.1 2 = iI 0) : (tb n t b = 59 → ∃ σ' : xS, reader_readSemicolon N σ = some (0, σ') ∧ σ'.1 1 = iI (b + 1 : Nat) ∧ fr [1] [] σ σ') ∧ (¬ tb n t b = 59 → ∃ σ' : xS, reader_readSemicolon N σ = some (0, σ') ∧ σ'.1 2 = iI 1 ∧ σ'.1 3 = iI b ∧ σ'.1 1 = iI b) := by
  obtain ⟨σ1, e1, p1, f1⟩ := skip_X hN ok hs hx h1
  have k := ok.1
  have hb := hs.2.1
  have tbd := tb_bd ok b
  have hx1 := tpX_fr hx f1 (by decide) (by decide)
  unfold reader_readSemicolon
  rw [e1, cal_at, p1, byte_x ok hx1 (by omega), cal_at]
  refine ⟨fun z => ?_, fun z => ?_⟩
  · rw [z, if_pos (by decide), put_at, p1, i_suc]
    exact ⟨_, rfl, rfl, fr_trans f1 ⟨fun j hj => va_up_n _ _ (fun z => hj (by rw [z]; decide)), fun _ _ => rfl⟩⟩
  · rw [if_neg (show ¬ iI (tb n t b) = (59 : Int32) by rw [show (59 : Int32) = iI 59 from rfl, iI_eq (by omega) (by omega) (by omega) (by omega)]; exact z), ref_x _ _ (by rw [f1.1 2 (by decide)]; exact h2), cal_at]
    exact ⟨_, rfl, rfl, p1, p1⟩
theorem semi_x' {N n : Nat} (hN : 500 < N) {t : Nat → Int} (ok : tpOk n t) {σ : xS} (hx : tpX n t σ) {a : Nat} (ha : a ≤ n) (h1 : σ.1 1 = iI a) (h2 : ¬ σ.1 2 = (0 : Int32)) : ∃ σ' : xS, reader_readSemicolon N σ = some (0, σ') ∧ σ'.1 2 = σ.1 2 ∧ σ'.1 3 = σ.1 3 ∧ ∃ a' : Nat, a' ≤ n ∧ σ'.1 1 = iI a' := by
  obtain ⟨b, hs⟩ := Sk_ex (n := n) (t := t) n a ha (by omega)
  obtain ⟨σ1, e1, p1, f1⟩ := skip_X hN ok hs hx h1
  have k := ok.1
  have hb := hs.2.1
  have hx1 := tpX_fr hx f1 (by decide) (by decide)
  have e2 := f1.1 2 (by decide)
  have e3 := f1.1 3 (by decide)
  unfold reader_readSemicolon
  rw [e1, cal_at, p1, byte_x ok hx1 (by omega), cal_at, ref_x' _ _ (by rw [e2]; exact h2), cal_at]
  by_cases c : iI (tb n t b) = (59 : Int32)
  · have bn : b < n := by
      by_cases z : b < n
      · exact z
      · unfold tb at c; rw [if_neg z] at c; exact absurd c (by decide)
    rw [if_pos c, put_at, p1, i_suc]; exact ⟨_, rfl, e2, e3, b + 1, by omega, rfl⟩
  · rw [if_neg c]; exact ⟨_, rfl, e2, e3, b, hb, p1⟩
theorem semi_m {N n : Nat} (hN : 500 < N) {t : Nat → Int} (ok : tpOk n t) {τ : xS} (hx : tpM n t τ) {a b : Nat} (hs : Sk n t a b) (h1 : τ.1 1 = iI a) (h2 : τ.1 5 = iI 0) (K : xS → Option (Int32 × xS)) : (tb n t b = 59 → ∃ τ' : xS, m_reads_b104 N K τ = K τ' ∧ τ'.1 1 = iI (b + 1 : Nat) ∧ fr [1, 3] [] τ τ') ∧ (¬ tb n t b = 59 → ∃ τ' : xS, m_reads_b104 N K τ = K τ' ∧ τ'.1 5 = iI 1 ∧ τ'.1 6 = iI b) := by
  obtain ⟨τ1, e1, p1, f1⟩ := next_M hN ok hs hx h1
  have tbd := tb_bd ok b
  unfold m_reads_b104
  rw [h2, if_pos (by decide), e1, cal_at]
  refine ⟨fun z => ?_, fun z => ?_⟩
  · rw [z, if_pos (by decide), put_at, p1, i_suc]
    exact ⟨_, rfl, rfl, fr_trans f1 ⟨fun j hj => va_up_n _ _ (fun z => hj (by rw [z]; decide)), fun _ _ => rfl⟩⟩
  · rw [if_neg (show ¬ iI (tb n t b) = (59 : Int32) by rw [show (59 : Int32) = iI 59 from rfl, iI_eq (by omega) (by omega) (by omega) (by omega)]; exact z), p1, fail_m _ _ (by rw [f1.1 5 (by decide)]; exact h2), cal_at, put_at]
    exact ⟨_, rfl, rfl, rfl⟩
theorem semi_m' {N : Nat} {τ : xS} (h2 : ¬ τ.1 5 = (0 : Int32)) (K : xS → Option (Int32 × xS)) : ∃ τ' : xS, m_reads_b104 N K τ = K τ' ∧ τ'.1 5 = τ.1 5 ∧ τ'.1 6 = τ.1 6 := by
  unfold m_reads_b104
  rw [if_neg h2, put_at]
  exact ⟨_, rfl, rfl, rfl⟩
/-- both stand at a, no fault yet -/
def At (a : Nat) (σ τ : xS) : Prop := σ.1 1 = iI a ∧ σ.1 2 = iI 0 ∧ σ.1 3 = iI (-1) ∧ τ.1 1 = iI a ∧ τ.1 5 = iI 0 ∧ τ.1 6 = iI (-1)
theorem num_xm {N n : Nat} (hN : 500 < N) {t : Nat → Int} (ok : tpOk n t) {σ τ : xS} (hx : tpX n t σ) (hm : tpM n t τ) {a i : Nat} (ha : a ≤ n) (hi : i < 6) (h : At a σ τ) (h4 : τ.1 4 = iI a) : ∃ (σ' τ' : xS) (v : Int32), reader_readNumber N (iI i) σ = some (0, σ') ∧ m_number N (iI (if i ≤ 2 then 0 else 1)) τ = some (v, τ') ∧ fr [1, 2, 3] [1] σ σ' ∧ fr [1, 3, 4, 5, 6] [] τ τ' ∧ (∃ a' : Nat, a' ≤ n ∧ σ'.1 1 = iI a') ∧ (Fb σ' τ' ∨ (∃ (a' : Nat) (z : Int), a < a' ∧ a' ≤ n ∧ v = iI z ∧ 0 ≤ z ∧ z ≤ 9 ∧ At a' σ' τ' ∧ τ'.1 4 = iI a' ∧ σ'.2 1 = upd (σ.2 1) i (iI z)) ∨ (∃ a' : Nat, a' < n ∧ 48 ≤ t a' ∧ t a' ≤ 57 ∧ σ'.1 1 = iI a' ∧ σ'.1 2 = iI 0 ∧ τ'.1 5 = iI 1 ∧ τ'.1 6 = iI a')) := by
  obtain ⟨b, hs⟩ := Sk_ex (n := n) (t := t) n a ha (by omega)
  obtain ⟨σ1, e1, p1, f1⟩ := skip_X hN ok hs hx h.1
  obtain ⟨τ1, d1, q1, g1⟩ := next_M hN ok hs hm h.2.2.2.1
  have k := ok.1
  have hb := hs.2.1
  have hab := hs.1
  have tbd := tb_bd ok b
  have hx1 := tpX_fr hx f1 (by decide) (by decide)
  have hm1 := tpM_fr hm g1 (by decide) (by decide)
  have s2 : σ1.1 2 = iI 0 := by rw [f1.1 2 (by decide)]; exact h.2.1
  have s3 : σ1.1 3 = iI (-1) := by rw [f1.1 3 (by decide)]; exact h.2.2.1
  have t4 : τ1.1 4 = iI a := by rw [g1.1 4 (by decide)]; exact h4
  have t5 : τ1.1 5 = iI 0 := by rw [g1.1 5 (by decide)]; exact h.2.2.2.2.1
  have t6 : τ1.1 6 = iI (-1) := by rw [g1.1 6 (by decide)]; exact h.2.2.2.2.2
  have XB : reader_readNumber N (iI i) σ = reader_readNumber_b37 N (iI i) (iI (tb n t b - 48)) (iI (if b ≤ a then 0 else 1)) σ1 := by
    unfold reader_readNumber
    rw [bnd_at, e1, cal_at, p1, byte_x ok hx1 (by omega), cal_at, h.1, p1, show (48 : Int32) = iI 48 from rfl, iI_sub, bnd_at]
    by_cases c : b ≤ a
    · rw [if_pos (by rw [iI_le (by omega) (by omega) (by omega) (by omega)]; omega), if_pos c]; rfl
    · rw [if_neg (by rw [iI_le (by omega) (by omega) (by omega) (by omega)]; omega), if_neg c]; rfl
  -- both refuse with 1 at b
  have bad : reader_readNumber N (iI i) σ = some (0, (va_up (va_up σ1.1 2 (iI 1)) 3 (iI b), σ1.2)) → m_number N (iI (if i ≤ 2 then 0 else 1)) τ = some (0, (va_up (va_up τ1.1 5 (iI 1)) 6 (iI b), τ1.2)) → ∃ (σ' τ' : xS) (v : Int32), reader_readNumber N (iI i) σ = some (0, σ') ∧ m_number N (iI (if i ≤ 2 then 0 else 1)) τ = some (v, τ') ∧ fr [1, 2, 3] [1] σ σ' ∧ fr [1, 3, 4, 5, 6] [] τ τ' ∧ (∃ a' : Nat, a' ≤ n ∧ σ'.1 1 = iI a') ∧ (Fb σ' τ' ∨ (∃ (a' : Nat) (z : Int), a < a' ∧ a' ≤ n ∧ v = iI z ∧ 0 ≤ z ∧ z ≤ 9 ∧ At a' σ' τ' ∧ τ'.1 4 = iI a' ∧ σ'.2 1 = upd (σ.2 1) i (iI z)) ∨ (∃ a' : Nat, a' < n ∧ 48 ≤ t a' ∧ t a' ≤ 57 ∧ σ'.1 1 = iI a' ∧ σ'.1 2 = iI 0 ∧ τ'.1 5 = iI 1 ∧ τ'.1 6 = iI a')) := by
    intro X M
    exact ⟨_, _, _, X, M, f_reader_readNumber X, f_m_number M, ⟨b, hb, p1⟩, Or.inl ⟨1, b, Or.inl rfl, rfl, rfl, rfl, rfl⟩⟩
  by_cases dg_ : 48 ≤ tb n t b ∧ tb n t b ≤ 57
  · have bn : b < n := by
      by_cases c : b < n
      · exact c
      · unfold tb at dg_; rw [if_neg c] at dg_; omega
    have tl : tb n t b = t b := by unfold tb; rw [if_pos bn]
    by_cases c : b ≤ a
    · apply bad
      · rw [XB]
        unfold reader_readNumber_b37
        rw [if_pos c, if_pos (by decide), p1, ref_x _ _ s2, cal_at]; rfl
      · unfold m_number
        rw [d1, cal_at, digit_m (by omega) (by omega), cal_at, if_pos dg_, if_neg (by decide), q1, t4, if_pos (by rw [show a = b by omega]), fail_m _ _ t5, cal_at]; rfl
    · have XC : reader_readNumber N (iI i) σ = (if i < 3 ∨ ¬ tb n t b = 48 then some (0, (va_up σ1.1 1 (iI (b + 1 : Nat)), va_up σ1.2 1 (upd (σ1.2 1) i (iI (tb n t b - 48))))) else some (0, (va_up (va_up σ1.1 2 (iI 2)) 3 (iI b), σ1.2))) := by
        rw [XB]
        unfold reader_readNumber_b37
        rw [if_neg c, if_neg (by decide)]
        simp (disch := omega) only [iI_lit, iI_lt, iI_le, iI_eq]
        rw [if_neg (by omega), if_pos (by omega), ast_at (by omega) (by omega) (by omega), put_at, p1, iI_add, Int.toNat_natCast, ref_x _ _ s2, cal_at]
        by_cases j3 : i < 3
        · rw [if_pos (by omega), if_pos (Or.inl j3)]; rfl
        · rw [if_neg (by omega)]
          by_cases z0 : tb n t b = 48
          · rw [if_pos (by omega), if_neg (by omega)]
          · rw [if_neg (by omega), if_pos (Or.inr z0)]; rfl
      have MC : m_number N (iI (if i ≤ 2 then 0 else 1)) τ = if i < 3 ∨ ¬ tb n t b = 48 then m_number_b59 N (iI (tb n t b - 48)) τ1 else m_number_b59 N (iI (tb n t b - 48)) (va_up (va_up τ1.1 5 (iI 2)) 6 (iI b), τ1.2) := by
        unfold m_number
        rw [d1, cal_at, digit_m (by omega) (by omega), cal_at, if_pos dg_, if_neg (by decide), q1, t4, if_neg (by rw [iI_eq (by omega) (by omega) (by omega) (by omega)]; omega), ald_at (by omega) (by omega) (by omega), Int.toNat_natCast, hm1.2 b bn, tl, show (48 : Int32) = iI 48 from rfl, iI_sub, bnd_at, fail_m _ _ t5, cal_at]
        have tb0 := ok.2 b bn
        by_cases j3 : i < 3
        · rw [if_pos (show i ≤ 2 by omega), if_pos (by rw [iI_le (by omega) (by omega) (by omega) (by omega)]; omega), if_pos (Or.inl j3)]
        · rw [if_neg (show ¬ i ≤ 2 by omega)]
          by_cases z0 : t b = 48
          · rw [if_neg (by rw [iI_le (by omega) (by omega) (by omega) (by omega)]; omega), if_neg (by omega)]; rfl
          · rw [if_pos (by rw [iI_le (by omega) (by omega) (by omega) (by omega)]; omega), if_pos (Or.inr z0)]
      by_cases good : i < 3 ∨ ¬ tb n t b = 48
      · rw [if_pos good] at XC MC
        -- is there a second digit
        by_cases sd : b + 1 < n ∧ 48 ≤ t (b + 1) ∧ t (b + 1) ≤ 57
        · have M : m_number N (iI (if i ≤ 2 then 0 else 1)) τ = some (iI (tb n t b - 48), (va_up (va_up (va_up (va_up τ1.1 1 (iI (b + 1 : Nat))) 5 (iI 1)) 6 (iI (b + 1 : Nat))) 4 (iI (b + 1 : Nat)), τ1.2)) := by
            rw [MC]
            unfold m_number_b59
            have e2 : (va_up τ1.1 1 (iI (b + 1 : Nat)), τ1.2).1 2 = iI n := hm1.1
            have e1' : (va_up τ1.1 1 (iI (b + 1 : Nat)), τ1.2).1 1 = iI (b + 1 : Nat) := rfl
            have e0 : (va_up τ1.1 1 (iI (b + 1 : Nat)), τ1.2).2 0 (b + 1) = iI (t (b + 1)) := hm1.2 (b + 1) sd.1
            rw [put_at, q1, i_suc, e2, e1', if_neg (by rw [iI_le (by omega) (by omega) (by omega) (by omega)]; omega), ald_at (by omega) (by omega) (by omega), Int.toNat_natCast, e0, digit_m (by omega) (by omega), cal_at, if_pos sd.2, if_neg (by decide), e1', fail_m (τ := (va_up τ1.1 1 (iI (b + 1 : Nat)), τ1.2)) _ _ t5, cal_at, put_at]
            rfl
          exact ⟨_, _, _, XC, M, f_reader_readNumber XC, f_m_number M, ⟨b + 1, by omega, rfl⟩, Or.inr (Or.inr ⟨b + 1, sd.1, sd.2.1, sd.2.2, rfl, s2, rfl, rfl⟩)⟩
        · have M : m_number N (iI (if i ≤ 2 then 0 else 1)) τ = some (iI (tb n t b - 48), (va_up (va_up τ1.1 1 (iI (b + 1 : Nat))) 4 (iI (b + 1 : Nat)), τ1.2)) := by
            rw [MC]
            unfold m_number_b59
            have e2 : (va_up τ1.1 1 (iI (b + 1 : Nat)), τ1.2).1 2 = iI n := hm1.1
            have e1' : (va_up τ1.1 1 (iI (b + 1 : Nat)), τ1.2).1 1 = iI (b + 1 : Nat) := rfl
            rw [put_at, q1, i_suc, e2, e1']
            by_cases en : n ≤ b + 1
            · rw [if_pos (by rw [iI_le (by omega) (by omega) (by omega) (by omega)]; omega), put_at]
            · have e0 : (va_up τ1.1 1 (iI (b + 1 : Nat)), τ1.2).2 0 (b + 1) = iI (t (b + 1)) := hm1.2 (b + 1) (by omega)
              have tb1 := ok.2 (b + 1) (by omega)
              rw [if_neg (by rw [iI_le (by omega) (by omega) (by omega) (by omega)]; omega), ald_at (by omega) (by omega) (by omega), Int.toNat_natCast, e0, digit_m (by omega) (by omega), cal_at, if_neg (fun z => sd ⟨by omega, z⟩), if_pos (by decide), put_at]; rfl
          have r1 : σ1.2 1 = σ.2 1 := f1.2 1 (by decide)
          exact ⟨_, _, _, XC, M, f_reader_readNumber XC, f_m_number M, ⟨b + 1, by omega, rfl⟩, Or.inr (Or.inl ⟨b + 1, tb n t b - 48, by omega, by omega, rfl, by omega, by omega, ⟨rfl, s2, s3, rfl, t5, t6⟩, rfl, by rw [← r1]; rfl⟩)⟩
      · rw [if_neg good] at XC MC
        have M : ∃ τ' : xS, m_number N (iI (if i ≤ 2 then 0 else 1)) τ = some (iI (tb n t b - 48), τ') ∧ τ'.1 5 = iI 2 ∧ τ'.1 6 = iI b := by
          rw [MC]
          unfold m_number_b59
          have e2 : (va_up (va_up (va_up τ1.1 5 (iI 2)) 6 (iI b)) 1 (iI (b + 1 : Nat)), τ1.2).1 2 = iI n := hm1.1
          have e1' : (va_up (va_up (va_up τ1.1 5 (iI 2)) 6 (iI b)) 1 (iI (b + 1 : Nat)), τ1.2).1 1 = iI (b + 1 : Nat) := rfl
          have q1' : (va_up (va_up τ1.1 5 (iI 2)) 6 (iI b), τ1.2).1 1 = iI b := q1
          rw [put_at, q1', i_suc, e2, e1']
          by_cases en : n ≤ b + 1
          · rw [if_pos (by rw [iI_le (by omega) (by omega) (by omega) (by omega)]; omega), put_at]; exact ⟨_, rfl, rfl, rfl⟩
          · have e0 : (va_up (va_up (va_up τ1.1 5 (iI 2)) 6 (iI b)) 1 (iI (b + 1 : Nat)), τ1.2).2 0 (b + 1) = iI (t (b + 1)) := hm1.2 (b + 1) (by omega)
            have tb1 := ok.2 (b + 1) (by omega)
            rw [if_neg (by rw [iI_le (by omega) (by omega) (by omega) (by omega)]; omega), ald_at (by omega) (by omega) (by omega), Int.toNat_natCast, e0, digit_m (by omega) (by omega), cal_at, fail_m' (τ := (va_up (va_up (va_up τ1.1 5 (iI 2)) 6 (iI b)) 1 (iI (b + 1 : Nat)), τ1.2)) _ _ (show ¬ iI 2 = (0 : Int32) by decide), cal_at, put_at]
            by_cases z : 48 ≤ t (b + 1) ∧ t (b + 1) ≤ 57
            · rw [if_pos z, if_neg (by decide)]; exact ⟨_, rfl, rfl, rfl⟩
            · rw [if_neg z, if_pos (by decide)]; exact ⟨_, rfl, rfl, rfl⟩
        obtain ⟨τ', M1, M2, M3⟩ := M
        exact ⟨_, _, _, XC, M1, f_reader_readNumber XC, f_m_number M1, ⟨b, hb, p1⟩, Or.inl ⟨2, b, Or.inr rfl, rfl, rfl, M2, M3⟩⟩
  · apply bad
    · rw [XB]
      unfold reader_readNumber_b37
      rw [p1, ref_x _ _ s2, cal_at]
      by_cases c : b ≤ a
      · rw [if_pos c, if_pos (by decide)]; rfl
      · rw [if_neg c, if_neg (by decide)]
        simp (disch := omega) only [iI_lit, iI_lt, iI_le, iI_eq]
        by_cases c2 : tb n t b - 48 < 0
        · rw [if_pos c2]
        · rw [if_neg c2, if_neg (by omega)]
    · unfold m_number
      rw [d1, cal_at, digit_m (by omega) (by omega), cal_at, if_neg dg_, if_pos (by decide), q1, fail_m _ _ t5, cal_at]; rfl
