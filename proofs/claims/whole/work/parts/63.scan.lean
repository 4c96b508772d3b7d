/-- a loop with a counter that goes up to B -/
theorem lpA {S R : Type} (L : Nat → Int32 → S → R) (E : S → R) (B : Int) (Inv : Int → S → Prop) (he : ∀ (n : Nat) (s : S), Inv B s → L (n + 1) (iI B) s = E s) (hs : ∀ (n : Nat) (k : Int) (s : S), k < B → Inv k s → ∃ s' : S, L (n + 1) (iI k) s = L n (iI (k + 1)) s' ∧ Inv (k + 1) s') : ∀ (n : Nat) (k : Int) (s : S), k ≤ B → B < k + n → Inv k s → ∃ s' : S, L n (iI k) s = E s' ∧ Inv B s' := by
  intro n
  induction n with
  | zero => intro k s h1 h2; omega
  | succ n ih =>
    intro k s h1 h2 hi
    by_cases q : k = B
    · subst q; exact ⟨s, he n s hi, hi⟩
    · obtain ⟨s', e, hi'⟩ := hs n k s (by omega) hi
      obtain ⟨s2, e2, hi2⟩ := ih (k + 1) s' (by omega) (by omega) hi'
      exact ⟨s2, e.trans e2, hi2⟩
/-- the same, with a way out -/
theorem lpB {S R : Type} (L : Nat → Int32 → S → R) (E : S → R) (Q : R → Prop) (B : Int) (Inv : Int → S → Prop) (he : ∀ (n : Nat) (s : S), Inv B s → L (n + 1) (iI B) s = E s) (hs : ∀ (n : Nat) (k : Int) (s : S), k < B → Inv k s → (∃ s' : S, L (n + 1) (iI k) s = L n (iI (k + 1)) s' ∧ Inv (k + 1) s') ∨ Q (L (n + 1) (iI k) s)) : ∀ (n : Nat) (k : Int) (s : S), k ≤ B → B < k + n → Inv k s → (∃ s' : S, L n (iI k) s = E s' ∧ Inv B s') ∨ Q (L n (iI k) s) := by
  intro n
  induction n with
  | zero => intro k s h1 h2; omega
  | succ n ih =>
    intro k s h1 h2 hi
    by_cases q : k = B
    · subst q; exact Or.inl ⟨s, he n s hi, hi⟩
    · rcases hs n k s (by omega) hi with ⟨s', e, hi'⟩ | h
      · rcases ih (k + 1) s' (by omega) (by omega) hi' with ⟨s2, e2, hi2⟩ | h
        · exact Or.inl ⟨s2, e.trans e2, hi2⟩
        · exact Or.inr (by rw [e]; exact h)
      · exact Or.inr h
/-! the text -/
def tpOk (n : Nat) (t : Nat → Int) : Prop := n ≤ 400 ∧ ∀ i : Nat, i < n → 0 ≤ t i ∧ t i < 256
def tpX (n : Nat) (t : Nat → Int) (σ : xS) : Prop := σ.1 0 = iI n ∧ ∀ i : Nat, i < n → σ.2 0 i = iI (t i)
def tpM (n : Nat) (t : Nat → Int) (τ : xS) : Prop := τ.1 2 = iI n ∧ ∀ i : Nat, i < n → τ.2 0 i = iI (t i)
def tb (n : Nat) (t : Nat → Int) (a : Nat) : Int := if a < n then t a else -1
theorem tb_bd {n : Nat} {t : Nat → Int} (ok : tpOk n t) (a : Nat) : -1 ≤ tb n t a ∧ tb n t a < 256 := by
  unfold tb
  by_cases q : a < n
  · rw [if_pos q]; have := ok.2 a q; omega
  · rw [if_neg q]; omega
theorem byte_x {N n : Nat} {t : Nat → Int} {σ : xS} {a : Nat} (ok : tpOk n t) (h : tpX n t σ) (ha : a < 1000) : tape_byteAt N (iI a) σ = some (iI (tb n t a), σ) := by
  have := ok.1
  unfold tape_byteAt tb
  rw [h.1]
  simp (disch := omega) only [iI_lit, iI_lt, iI_le]
  rw [if_neg (by omega)]
  by_cases q : a < n
  · rw [if_neg (by omega), ald_at (by omega) (by omega) (by omega), Int.toNat_natCast, h.2 a q, if_pos q]
  · rw [if_pos (by omega), if_neg q]; rfl
abbrev bk (z : Int) : Prop := z = 10 ∨ z = 32
abbrev lt_ (z : Int) : Prop := 97 ≤ z ∧ z ≤ 122
theorem blank_x {N : Nat} {σ : xS} {z : Int} (h1 : -2147483648 ≤ z) (h2 : z < 2147483648) : rd_isBlank N (iI z) σ = some (iI (if bk z then 1 else 0), σ) := by
  unfold rd_isBlank
  simp (disch := omega) only [iI_lit, iI_eq]
  by_cases q : z = 10
  · rw [if_pos q, if_pos (Or.inl q)]
  · by_cases q2 : z = 32
    · rw [if_neg q, if_pos q2, if_pos (Or.inr q2)]
    · rw [if_neg q, if_neg q2, if_neg (by omega)]
theorem letter_x {N : Nat} {σ : xS} {z : Int} (h1 : -2147483648 ≤ z) (h2 : z < 2147483648) : rd_isLetter N (iI z) σ = some (iI (if lt_ z then 1 else 0), σ) := by
  unfold rd_isLetter
  simp (disch := omega) only [iI_lit, iI_lt]
  by_cases q : z < 97
  · rw [if_pos q, if_neg (by omega)]
  · by_cases q2 : 122 < z
    · rw [if_neg q, if_pos q2, if_neg (by omega)]
    · rw [if_neg q, if_neg q2, if_pos (by omega)]
theorem letter_m {N : Nat} {σ : xS} {z : Int} (h1 : -2147483648 ≤ z) (h2 : z < 2147483648) : m_isLetter N (iI z) σ = some (iI (if lt_ z then 1 else 0), σ) := by
  unfold m_isLetter
  simp (disch := omega) only [iI_lit, iI_lt]
  by_cases q : z < 97
  · rw [if_pos q, if_neg (by omega)]
  · by_cases q2 : 122 < z
    · rw [if_neg q, if_pos q2, if_neg (by omega)]
    · rw [if_neg q, if_neg q2, if_pos (by omega)]
theorem digit_m {N : Nat} {σ : xS} {z : Int} (h1 : -2147483648 ≤ z) (h2 : z < 2147483648) : m_isDigit N (iI z) σ = some (iI (if 48 ≤ z ∧ z ≤ 57 then 1 else 0), σ) := by
  unfold m_isDigit
  simp (disch := omega) only [iI_lit, iI_lt]
  by_cases q : z < 48
  · rw [if_pos q, if_neg (by omega)]
  · by_cases q2 : 57 < z
    · rw [if_neg q, if_pos q2, if_neg (by omega)]
    · rw [if_neg q, if_neg q2, if_pos (by omega)]
/-- from a on, behind blanks: b -/
def Sk (n : Nat) (t : Nat → Int) (a b : Nat) : Prop := a ≤ b ∧ b ≤ n ∧ (∀ i : Nat, a ≤ i → i < b → bk (t i)) ∧ (b < n → ¬ bk (t b))
theorem Sk_ex {n : Nat} {t : Nat → Int} : ∀ (m a : Nat), a ≤ n → n ≤ a + m → ∃ b, Sk n t a b
  | 0, a, h1, h2 => ⟨a, by omega, by omega, fun i _ _ => by omega, fun _ => by omega⟩
  | m + 1, a, h1, h2 => by
    by_cases q : a < n ∧ bk (t a)
    · obtain ⟨b, h⟩ := Sk_ex (n := n) (t := t) m (a + 1) (by omega) (by omega)
      refine ⟨b, by have := h.1; omega, h.2.1, fun i h3 h4 => ?_, h.2.2.2⟩
      by_cases e : i = a
      · subst e; exact q.2
      · exact h.2.2.1 i (by omega) h4
    · exact ⟨a, by omega, h1, fun i _ _ => by omega, fun h => fun z => q ⟨h, z⟩⟩
theorem Sk_s {n : Nat} {t : Nat → Int} {a b : Nat} (h : Sk n t a b) : Sk n t b b := ⟨by omega, h.2.1, fun i _ _ => by omega, h.2.2.2⟩
theorem skip_x {N n : Nat} {t : Nat → Int} (ok : tpOk n t) {b : Nat} : ∀ (f a : Nat) (σ : xS), Sk n t a b → b < a + f → tpX n t σ → σ.1 1 = iI a → ∃ σ' : xS, reader_skipBlanks_b0 N f σ = some (0, σ') ∧ σ'.1 1 = iI b := by
  intro f
  induction f with
  | zero => intro a σ h1 h2; have := h1.1; omega
  | succ f ih =>
    intro a σ h h2 hx h1
    have k := ok.1
    have hb := h.1
    have hb2 := h.2.1
    rw [reader_skipBlanks_b0]
    unfold tape_size
    rw [cal_at, hx.1, h1]
    by_cases q : n ≤ a
    · rw [if_pos (by rw [iI_le (by omega) (by omega) (by omega) (by omega)]; omega)]
      exact ⟨σ, rfl, by rw [h1, show a = b by omega]⟩
    · have ta := ok.2 a (by omega)
      rw [if_neg (by rw [iI_le (by omega) (by omega) (by omega) (by omega)]; omega), byte_x ok hx (by omega), cal_at]
      have e : tb n t a = t a := by unfold tb; rw [if_pos (by omega)]
      rw [e, blank_x (by omega) (by omega), cal_at]
      by_cases c : bk (t a)
      · have ab : a ≠ b := fun z => by subst z; exact h.2.2.2 (by omega) c
        rw [if_pos c, if_neg (by decide), put_at, h1, i_suc]
        exact ih (a + 1) _ ⟨by omega, h.2.1, fun i h3 h4 => h.2.2.1 i (by omega) h4, h.2.2.2⟩ (by omega) hx rfl
      · have ab : a = b := by
          by_cases z : a = b
          · exact z
          · exact absurd (h.2.2.1 a (by omega) (by omega)) c
        rw [if_neg c, if_pos (by decide)]
        exact ⟨σ, rfl, by rw [h1, ab]⟩
theorem skip_X {N n : Nat} (hN : 500 < N) {t : Nat → Int} (ok : tpOk n t) {a b : Nat} {σ : xS} (h : Sk n t a b) (hx : tpX n t σ) (h1 : σ.1 1 = iI a) : ∃ σ' : xS, reader_skipBlanks N σ = some (0, σ') ∧ σ'.1 1 = iI b ∧ fr [1] [] σ σ' := by
  have k := ok.1
  have := h.2.1
  obtain ⟨σ', e, g⟩ := skip_x (N := N) ok N a σ h (by omega) hx h1
  exact ⟨σ', e, g, f_reader_skipBlanks e⟩
theorem next_m {N n : Nat} {t : Nat → Int} (ok : tpOk n t) {b : Nat} : ∀ (f a : Nat) (τ : xS), Sk n t a b → b < a + f → tpM n t τ → τ.1 1 = iI a → ∃ τ' : xS, m_next_b0 N f τ = some (iI (tb n t b), τ') ∧ τ'.1 1 = iI b := by
  intro f
  induction f with
  | zero => intro a σ h1 h2; have := h1.1; omega
  | succ f ih =>
    intro a τ h h2 hx h1
    have k := ok.1
    have hb := h.1
    have hb2 := h.2.1
    have out : a = b → ∃ τ' : xS, m_next_b52 N τ = some (iI (tb n t b), τ') ∧ τ'.1 1 = iI b := by
      intro z
      unfold m_next_b52
      rw [put_at]
      have e1 : (va_up τ.1 3 (τ.1 1), τ.2).1 2 = iI n := hx.1
      have e2 : (va_up τ.1 3 (τ.1 1), τ.2).1 1 = iI a := h1
      rw [e1, e2]
      unfold tb
      by_cases q : n ≤ a
      · rw [if_pos (by rw [iI_le (by omega) (by omega) (by omega) (by omega)]; omega), if_neg (by omega)]
        exact ⟨_, rfl, by rw [e2, z]⟩
      · rw [if_neg (by rw [iI_le (by omega) (by omega) (by omega) (by omega)]; omega), if_pos (by omega), ald_at (by omega) (by omega) (by omega), Int.toNat_natCast]
        exact ⟨_, by rw [← z, ← hx.2 a (by omega)], by rw [e2, z]⟩
    rw [m_next_b0, hx.1, h1]
    by_cases q : n ≤ a
    · rw [if_pos (by rw [iI_le (by omega) (by omega) (by omega) (by omega)]; omega)]
      exact out (by omega)
    · have ta := ok.2 a (by omega)
      rw [if_neg (by rw [iI_le (by omega) (by omega) (by omega) (by omega)]; omega), ald_at (by omega) (by omega) (by omega), ald_at (by omega) (by omega) (by omega), Int.toNat_natCast, hx.2 a (by omega)]
      simp (disch := omega) only [iI_lit, iI_eq, put_at, iI_add]
      by_cases c : bk (t a)
      · have ab : a ≠ b := fun z => by subst z; exact h.2.2.2 (by omega) c
        have g : ∃ τ' : xS, m_next_b0 N f (va_up τ.1 1 (iI ((a : Int) + 1)), τ.2) = some (iI (tb n t b), τ') ∧ τ'.1 1 = iI b := ih (a + 1) _ ⟨by omega, h.2.1, fun i h3 h4 => h.2.2.1 i (by omega) h4, h.2.2.2⟩ (by omega) hx rfl
        rcases c with c | c
        · rw [if_pos c]; exact g
        · rw [if_neg (by omega), if_pos c]; exact g
      · have ab : a = b := by
          by_cases z : a = b
          · exact z
          · exact absurd (h.2.2.1 a (by omega) (by omega)) c
        rw [if_neg (fun z => c (Or.inl z)), if_neg (fun z => c (Or.inr z))]
        exact out ab
theorem next_M {N n : Nat} (hN : 500 < N) {t : Nat → Int} (ok : tpOk n t) {a b : Nat} {τ : xS} (h : Sk n t a b) (hx : tpM n t τ) (h1 : τ.1 1 = iI a) : ∃ τ' : xS, m_next N τ = some (iI (tb n t b), τ') ∧ τ'.1 1 = iI b ∧ fr [1, 3] [] τ τ' := by
  have k := ok.1
  have := h.2.1
  obtain ⟨σ', e, g⟩ := next_m (N := N) ok N a τ h (by omega) hx h1
  exact ⟨σ', e, g, f_m_next e⟩
theorem tpX_fr {S T : List Nat} {n : Nat} {t : Nat → Int} {σ σ' : xS} (h : tpX n t σ) (f : fr S T σ σ') (h1 : 0 ∉ S) (h2 : 0 ∉ T) : tpX n t σ' := by
  unfold tpX; rw [f.1 0 h1, f.2 0 h2]; exact h
theorem tpM_fr {S T : List Nat} {n : Nat} {t : Nat → Int} {σ σ' : xS} (h : tpM n t σ) (f : fr S T σ σ') (h1 : 2 ∉ S) (h2 : 0 ∉ T) : tpM n t σ' := by
  unfold tpM; rw [f.1 2 h1, f.2 0 h2]; exact h
/-! words -/
def Wd (w j : Nat) : Int := ((xtb.getD w []).getD j 0).toInt
abbrev Wl (w : Nat) : Nat := xtl.getD w 0
theorem Wd_e (w j : Nat) : (xtb.getD w []).getD j 0 = iI (Wd w j) := iI_of _
theorem Wl_bd : ∀ w : Nat, w < 7 → 1 ≤ Wl w ∧ Wl w ≤ 6 := by decide
theorem Wd_lt : ∀ w : Nat, w < 7 → ∀ j : Nat, j < Wl w → lt_ (Wd w j) := by decide
def wm (n : Nat) (t : Nat → Int) (w a : Nat) : Prop := (∀ j : Nat, j < Wl w → tb n t (a + j) = Wd w j) ∧ ¬ lt_ (tb n t (a + Wl w))
theorem take_x {N n : Nat} {t : Nat → Int} (ok : tpOk n t) {w a : Nat} (hw : w < 7) (ha : a ≤ n) {σ : xS} (hx : tpX n t σ) (h1 : σ.1 1 = iI a) : ∀ (f j : Nat), j ≤ Wl w → Wl w < j + f → (∀ i : Nat, i < j → tb n t (a + i) = Wd w i) → (wm n t w a → reader_takeWord_b7 w N f (iI (Wl w : Nat)) (iI j) σ = some (1, (va_up σ.1 1 (iI (a + Wl w : Nat)), σ.2))) ∧ (¬ wm n t w a → reader_takeWord_b7 w N f (iI (Wl w : Nat)) (iI j) σ = some (0, σ)) := by
  intro f
  induction f with
  | zero => intro j h1 h2; omega
  | succ f ih =>
    intro j h2 h3 hj
    have k := ok.1
    have wl := Wl_bd w hw
    rw [reader_takeWord_b7, h1, iI_add, iI_add]
    by_cases q : Wl w ≤ j
    · have tbd := tb_bd ok (a + Wl w)
      have B : tape_byteAt N (iI ((a : Int) + (Wl w : Nat))) σ = some (iI (tb n t (a + Wl w)), σ) := byte_x (a := a + Wl w) ok hx (by omega)
      rw [if_pos (by rw [iI_le (by omega) (by omega) (by omega) (by omega)]; omega), B, cal_at, letter_x (by omega) (by omega), cal_at]
      have ej : j = Wl w := by omega
      subst ej
      by_cases c : lt_ (tb n t (a + Wl w))
      · rw [if_pos c, if_neg (by decide)]
        exact ⟨fun z => absurd c z.2, fun _ => rfl⟩
      · rw [if_neg c, if_pos (by decide), put_at, h1, iI_add]
        exact ⟨fun _ => rfl, fun z => absurd ⟨hj, c⟩ z⟩
    · have tbd := tb_bd ok (a + j)
      have wd := Wd_lt w hw j (by omega)
      have B : tape_byteAt N (iI ((a : Int) + j)) σ = some (iI (tb n t (a + j)), σ) := byte_x (a := a + j) ok hx (by omega)
      rw [if_neg (by rw [iI_le (by omega) (by omega) (by omega) (by omega)]; omega), B, cal_at]
      have sj : xin (iI (j : Int)) (xtl.getD w 0) = true := iI_in (n := Wl w) (by omega) (by omega) (by omega)
      unfold sch
      rw [if_pos sj, iI_cl (by omega) (by omega), Int.toNat_natCast, Wd_e]
      dsimp only
      by_cases c : tb n t (a + j) = Wd w j
      · rw [if_pos (by rw [c]), bnd_at, i_suc]
        refine ih (j + 1) (by omega) (by omega) (fun i hi => ?_)
        by_cases e : i = j
        · subst e; exact c
        · exact hj i (by omega)
      · rw [if_neg (by rw [iI_eq (by omega) (by omega) (by omega) (by omega)]; exact c)]
        exact ⟨fun z => absurd (z.1 j (by omega)) c, fun _ => rfl⟩
theorem take_X {N n : Nat} (hN : 500 < N) {t : Nat → Int} (ok : tpOk n t) {w a : Nat} (hw : w < 7) (ha : a ≤ n) {σ : xS} (hx : tpX n t σ) (h1 : σ.1 1 = iI a) : (wm n t w a → ∃ σ' : xS, reader_takeWord w N σ = some (1, σ') ∧ σ'.1 1 = iI (a + Wl w : Nat) ∧ fr [1] [] σ σ') ∧ (¬ wm n t w a → reader_takeWord w N σ = some (0, σ)) := by
  have wl := Wl_bd w hw
  have g := take_x (N := N) ok hw ha hx h1 N 0 (by omega) (by omega) (fun i hi => by omega)
  have e : reader_takeWord w N σ = reader_takeWord_b7 w N N (iI (Wl w : Nat)) (iI (0 : Nat)) σ := by
    unfold reader_takeWord
    rw [bnd_at, iI_nat]; rfl
  rw [e]
  exact ⟨fun z => ⟨_, g.1 z, rfl, f_reader_takeWord (e.trans (g.1 z))⟩, g.2⟩
theorem isw_c {N n : Nat} {t : Nat → Int} (ok : tpOk n t) {w a l : Nat} (hw : w < 4) (hl : a + Wl w = l) (hln : l ≤ n) {τ : xS} (hx : tpM n t τ) (h1 : τ.1 1 = iI a) (hd : ∀ j : Nat, j < Wl w → τ.2 (w + 1) j = iI (Wd w j)) : ∀ (f j : Nat), j ≤ Wl w → Wl w < j + f → (∀ i : Nat, i < j → t (a + i) = Wd w i) → ((∀ i : Nat, i < Wl w → t (a + i) = Wd w i) → ∃ τ' : xS, m_isWord_b67 (w + 1) (Wl w) N f (iI l) (iI j) τ = some (1, τ') ∧ τ'.1 1 = iI l ∧ τ'.1 4 = iI l) ∧ (¬ (∀ i : Nat, i < Wl w → t (a + i) = Wd w i) → m_isWord_b67 (w + 1) (Wl w) N f (iI l) (iI j) τ = some (0, τ)) := by
  intro f
  induction f with
  | zero => intro j h1 h2; omega
  | succ f ih =>
    intro j h2 h3 hj
    have k := ok.1
    have wl := Wl_bd w (by omega)
    rw [m_isWord_b67, iI_nat, h1, iI_add]
    by_cases q : Wl w ≤ j
    · rw [if_pos (by rw [iI_le (by omega) (by omega) (by omega) (by omega)]; omega), put_at, put_at]
      exact ⟨fun _ => ⟨_, rfl, rfl, rfl⟩, fun z => absurd (fun i hi => hj i (by omega)) z⟩
    · have wd := Wd_lt w (by omega) j (by omega)
      have ta := ok.2 (a + j) (by omega)
      rw [if_neg (by rw [iI_le (by omega) (by omega) (by omega) (by omega)]; omega), ald_at (by omega) (by omega) (by omega), ald_at (by omega) (by omega) (by omega), Int.toNat_natCast, show ((a : Int) + (j : Int)).toNat = a + j by omega, hd j (by omega), hx.2 (a + j) (by omega)]
      by_cases c : t (a + j) = Wd w j
      · rw [if_pos (by rw [c]), bnd_at, i_suc]
        refine ih (j + 1) (by omega) (by omega) (fun i hi => ?_)
        by_cases e : i = j
        · subst e; exact c
        · exact hj i (by omega)
      · rw [if_neg (by rw [iI_eq (by omega) (by omega) (by omega) (by omega)]; exact c)]
        exact ⟨fun z => absurd (z j (by omega)) c, fun _ => rfl⟩
theorem isw_s {N n : Nat} (hN : 500 < N) {t : Nat → Int} (ok : tpOk n t) {w a : Nat} (hw : w < 4) (ha : a < n) {τ : xS} (hx : tpM n t τ) (h1 : τ.1 1 = iI a) (hd : ∀ j : Nat, j < Wl w → τ.2 (w + 1) j = iI (Wd w j)) : ∀ (f l : Nat), a ≤ l → l ≤ n → n < l + f → (∀ i : Nat, a ≤ i → i < l → lt_ (t i)) → (wm n t w a → ∃ τ' : xS, m_isWord_b26 (w + 1) (Wl w) N f (iI l) τ = some (1, τ') ∧ τ'.1 1 = iI (a + Wl w : Nat) ∧ τ'.1 4 = iI (a + Wl w : Nat)) ∧ (¬ wm n t w a → m_isWord_b26 (w + 1) (Wl w) N f (iI l) τ = some (0, τ)) := by
  intro f
  induction f with
  | zero => intro l h1 h2; omega
  | succ f ih =>
    intro l h2 h3 h4 hj
    have k := ok.1
    have wl := Wl_bd w (by omega)
    have tl : ∀ i : Nat, i < n → tb n t i = t i := fun i hi => by unfold tb; rw [if_pos hi]
    -- the letters end at l
    have out : (l < n → ¬ lt_ (t l)) → (wm n t w a → ∃ τ' : xS, (if (iI l - iI a) = Int32.ofNat (Wl w) then m_isWord_b67 (w + 1) (Wl w) N N (iI l) 0 τ else some (0, τ)) = some (1, τ') ∧ τ'.1 1 = iI (a + Wl w : Nat) ∧ τ'.1 4 = iI (a + Wl w : Nat)) ∧ (¬ wm n t w a → (if (iI l - iI a) = Int32.ofNat (Wl w) then m_isWord_b67 (w + 1) (Wl w) N N (iI l) 0 τ else some (0, τ)) = some (0, τ)) := by
      intro nl
      rw [iI_sub, iI_nat]
      by_cases q : a + Wl w = l
      · have c := isw_c (N := N) ok hw q h3 hx h1 hd N 0 (by omega) (by omega) (fun i hi => by omega)
        rw [if_pos (by rw [iI_eq (by omega) (by omega) (by omega) (by omega)]; omega)]
        have m1 : wm n t w a ↔ ∀ i : Nat, i < Wl w → t (a + i) = Wd w i := by
          constructor
          · intro z i hi; rw [← tl (a + i) (by omega)]; exact z.1 i hi
          · intro z
            refine ⟨fun i hi => by rw [tl (a + i) (by omega)]; exact z i hi, ?_⟩
            rw [q]
            by_cases e : l < n
            · rw [tl l e]; exact nl e
            · unfold tb; rw [if_neg e]; omega
        refine ⟨fun z => ?_, fun z => ?_⟩
        · rw [q]; exact c.1 (m1.mp z)
        · exact c.2 (fun y => z (m1.mpr y))
      · rw [if_neg (by rw [iI_eq (by omega) (by omega) (by omega) (by omega)]; omega)]
        refine ⟨fun z => ?_, fun _ => rfl⟩
        exfalso
        by_cases e : a + Wl w < l
        · have := hj (a + Wl w) (by omega) e
          apply z.2
          rw [tl (a + Wl w) (by omega)]; exact this
        · have e2 : l - a < Wl w := by omega
          have w1 := z.1 (l - a) e2
          have w2 := Wd_lt w (by omega) (l - a) e2
          rw [← w1, show a + (l - a) = l by omega] at w2
          by_cases e3 : l < n
          · rw [tl l e3] at w2; exact nl e3 w2
          · unfold tb at w2; rw [if_neg e3] at w2; omega
    rw [m_isWord_b26, hx.1, h1]
    by_cases q : n ≤ l
    · rw [if_pos (by rw [iI_le (by omega) (by omega) (by omega) (by omega)]; omega)]
      exact out (fun z => by omega)
    · have ta := ok.2 l (by omega)
      rw [if_neg (by rw [iI_le (by omega) (by omega) (by omega) (by omega)]; omega), ald_at (by omega) (by omega) (by omega), Int.toNat_natCast, hx.2 l (by omega), letter_m (by omega) (by omega), cal_at, h1]
      by_cases c : lt_ (t l)
      · rw [if_pos c, if_neg (by decide), bnd_at, i_suc]
        refine ih (l + 1) (by omega) (by omega) (by omega) (fun i hi hi2 => ?_)
        by_cases e : i = l
        · subst e; exact c
        · exact hj i hi (by omega)
      · rw [if_neg c, if_pos (by decide)]
        exact out (fun _ => c)
theorem isw_M {N n : Nat} (hN : 500 < N) {t : Nat → Int} (ok : tpOk n t) {w a : Nat} (hw : w < 4) (ha : a < n) (hs : Sk n t a a) {τ : xS} (hx : tpM n t τ) (h1 : τ.1 1 = iI a) (h4 : ¬ τ.1 4 = iI a) (hd : ∀ j : Nat, j < Wl w → τ.2 (w + 1) j = iI (Wd w j)) : (wm n t w a → ∃ τ' : xS, m_isWord (w + 1) (Wl w) N τ = some (1, τ') ∧ τ'.1 1 = iI (a + Wl w : Nat) ∧ τ'.1 4 = iI (a + Wl w : Nat) ∧ fr [1, 3, 4] [] τ τ') ∧ (¬ wm n t w a → ∃ τ' : xS, m_isWord (w + 1) (Wl w) N τ = some (0, τ') ∧ τ'.1 1 = iI a ∧ τ'.1 4 = τ.1 4 ∧ fr [1, 3, 4] [] τ τ') := by
  have k := ok.1
  obtain ⟨τ1, e1, g1, f1⟩ := next_M hN ok hs hx h1
  have ta := ok.2 a ha
  have tl : tb n t a = t a := by unfold tb; rw [if_pos ha]
  have e4 : τ1.1 4 = τ.1 4 := f1.1 4 (by decide)
  have hx1 := tpM_fr hx f1 (by decide) (by decide)
  have hd1 : ∀ j : Nat, j < Wl w → τ1.2 (w + 1) j = iI (Wd w j) := fun j hj => by rw [f1.2 (w + 1) (by simp)]; exact hd j hj
  have S := isw_s (N := N) hN ok hw ha hx1 g1 hd1 N a (by omega) (by omega) (by omega) (fun i _ _ => by omega)
  have E : m_isWord (w + 1) (Wl w) N τ = m_isWord_b26 (w + 1) (Wl w) N N (iI a) τ1 := by
    unfold m_isWord
    rw [e1, cal_at, tl, if_neg (show ¬ iI (t a) = (-1 : Int32) by rw [show (-1 : Int32) = iI (-1) from rfl, iI_eq (by omega) (by omega) (by omega) (by omega)]; omega), g1, e4, if_neg (fun z => h4 z.symm), bnd_at]
  refine ⟨fun z => ?_, fun z => ?_⟩
  · obtain ⟨τ', a1, a2, a3⟩ := S.1 z
    exact ⟨τ', E.trans a1, a2, a3, f_m_isWord (E.trans a1)⟩
  · have a1 := S.2 z
    exact ⟨τ1, E.trans a1, g1, e4, f_m_isWord (E.trans a1)⟩
