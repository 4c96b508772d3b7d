theorem if_c {p q : Prop} [Decidable p] [Decidable q] {α : Type} {a b : α} (h : p ↔ q) : (if p then a else b) = if q then a else b := by
  by_cases c : p
  · rw [if_pos c, if_pos (h.mp c)]
  · rw [if_neg c, if_neg (fun z => c (h.mpr z))]
/-- three loops, one inside the other, with a way out -/
theorem lpTQ {S R : Type} {N : Nat} (L1 : Nat → Int32 → S → R) (L2 : Nat → Nat → Int32 → Int32 → S → R) (L3 : Nat → Nat → Nat → Int32 → Int32 → Int32 → S → R) (E : S → R) (Q : R → Prop) (x0 y0 W H D : Int) (Inv1 : Int → S → Prop) (Inv : Int → Int → Int → S → Prop) (hx : x0 ≤ W) (hy : y0 ≤ H) (nx : W < x0 + N) (ny : H < y0 + N)
    (h1e : ∀ (n : Nat) (s : S), Inv1 D s → L1 (n + 1) (iI D) s = E s)
    (h1 : ∀ (n : Nat) (z : Int) (s : S), z < D → Inv1 z s → ∃ s' : S, L1 (n + 1) (iI z) s = L2 n N (iI z) (iI y0) s' ∧ Inv z y0 x0 s')
    (h2e : ∀ (n1 n : Nat) (z : Int) (s : S), z < D → Inv z H x0 s → L2 n1 (n + 1) (iI z) (iI H) s = L1 n1 (iI (z + 1)) s ∧ Inv1 (z + 1) s)
    (h2 : ∀ (n1 n : Nat) (z y : Int) (s : S), z < D → y < H → y0 ≤ y → Inv z y x0 s → L2 n1 (n + 1) (iI z) (iI y) s = L3 n1 n N (iI z) (iI y) (iI x0) s)
    (h3e : ∀ (n1 n2 n : Nat) (z y : Int) (s : S), z < D → y < H → y0 ≤ y → Inv z y W s → L3 n1 n2 (n + 1) (iI z) (iI y) (iI W) s = L2 n1 n2 (iI z) (iI (y + 1)) s ∧ Inv z (y + 1) x0 s)
    (h3 : ∀ (n1 n2 n : Nat) (z y x : Int) (s : S), z < D → y < H → x < W → y0 ≤ y → x0 ≤ x → Inv z y x s → (∃ s' : S, L3 n1 n2 (n + 1) (iI z) (iI y) (iI x) s = L3 n1 n2 n (iI z) (iI y) (iI (x + 1)) s' ∧ Inv z y (x + 1) s') ∨ Q (L3 n1 n2 (n + 1) (iI z) (iI y) (iI x) s)) :
    ∀ (n : Nat) (z : Int) (s : S), z ≤ D → D < z + n → Inv1 z s → (∃ s' : S, L1 n (iI z) s = E s' ∧ Inv1 D s') ∨ Q (L1 n (iI z) s) := by
  have r3 : ∀ (n1 n2 n : Nat) (z y x : Int) (s : S), z < D → y < H → y0 ≤ y → x0 ≤ x → x ≤ W → W < x + n → Inv z y x s → (∃ s' : S, L3 n1 n2 n (iI z) (iI y) (iI x) s = L2 n1 n2 (iI z) (iI (y + 1)) s' ∧ Inv z (y + 1) x0 s') ∨ Q (L3 n1 n2 n (iI z) (iI y) (iI x) s) := by
    intro n1 n2 n
    induction n with
    | zero => intro z y x s _ _ _ _ h1 h2; omega
    | succ n ih =>
      intro z y x s hz hy' hy0 hx0 hxW hn hi
      by_cases q : x = W
      · subst q
        have e := h3e n1 n2 n z y s hz hy' hy0 hi
        exact Or.inl ⟨s, e.1, e.2⟩
      · rcases h3 n1 n2 n z y x s hz hy' (by omega) hy0 hx0 hi with ⟨s', e, hi'⟩ | h
        · rcases ih z y (x + 1) s' hz hy' hy0 (by omega) (by omega) (by omega) hi' with ⟨s2, e2, hi2⟩ | h
          · exact Or.inl ⟨s2, e.trans e2, hi2⟩
          · exact Or.inr (by rw [e]; exact h)
        · exact Or.inr h
  have r2 : ∀ (n1 n : Nat) (z y : Int) (s : S), z < D → y0 ≤ y → y ≤ H → H < y + n → Inv z y x0 s → (∃ s' : S, L2 n1 n (iI z) (iI y) s = L1 n1 (iI (z + 1)) s' ∧ Inv1 (z + 1) s') ∨ Q (L2 n1 n (iI z) (iI y) s) := by
    intro n1 n
    induction n with
    | zero => intro z y s _ _ h1 h2; omega
    | succ n ih =>
      intro z y s hz hy0 hyH hn hi
      by_cases q : y = H
      · subst q
        have e := h2e n1 n z s hz hi
        exact Or.inl ⟨s, e.1, e.2⟩
      · have e := h2 n1 n z y s hz (by omega) hy0 hi
        rcases r3 n1 n N z y x0 s hz (by omega) hy0 (by omega) hx nx hi with ⟨s', e', hi'⟩ | h
        · rcases ih z (y + 1) s' hz (by omega) (by omega) (by omega) hi' with ⟨s2, e2, hi2⟩ | h
          · exact Or.inl ⟨s2, e.trans (e'.trans e2), hi2⟩
          · exact Or.inr (by rw [e, e']; exact h)
        · exact Or.inr (by rw [e]; exact h)
  intro n
  induction n with
  | zero => intro z s h1 h2; omega
  | succ n ih =>
    intro z s hzD hn hi
    by_cases q : z = D
    · subst q; exact Or.inl ⟨s, h1e n s hi, hi⟩
    · obtain ⟨s1, e, hi1⟩ := h1 n z s (by omega) hi
      rcases r2 n N z y0 s1 (by omega) (by omega) hy ny hi1 with ⟨s', e', hi'⟩ | h
      · rcases ih (z + 1) s' (by omega) (by omega) hi' with ⟨s2, e2, hi2⟩ | h
        · exact Or.inl ⟨s2, e.trans (e'.trans e2), hi2⟩
        · exact Or.inr (by rw [e, e']; exact h)
      · exact Or.inr (by rw [e]; exact h)
theorem lpT {S R : Type} {N : Nat} (L1 : Nat → Int32 → S → R) (L2 : Nat → Nat → Int32 → Int32 → S → R) (L3 : Nat → Nat → Nat → Int32 → Int32 → Int32 → S → R) (E : S → R) (x0 y0 W H D : Int) (Inv : Int → Int → Int → S → Prop) (hx : x0 ≤ W) (hy : y0 ≤ H) (nx : W < x0 + N) (ny : H < y0 + N)
    (h1e : ∀ (n : Nat) (s : S), Inv D y0 x0 s → L1 (n + 1) (iI D) s = E s)
    (h1 : ∀ (n : Nat) (z : Int) (s : S), z < D → Inv z y0 x0 s → L1 (n + 1) (iI z) s = L2 n N (iI z) (iI y0) s)
    (h2e : ∀ (n1 n : Nat) (z : Int) (s : S), z < D → Inv z H x0 s → L2 n1 (n + 1) (iI z) (iI H) s = L1 n1 (iI (z + 1)) s ∧ Inv (z + 1) y0 x0 s)
    (h2 : ∀ (n1 n : Nat) (z y : Int) (s : S), z < D → y < H → y0 ≤ y → Inv z y x0 s → L2 n1 (n + 1) (iI z) (iI y) s = L3 n1 n N (iI z) (iI y) (iI x0) s)
    (h3e : ∀ (n1 n2 n : Nat) (z y : Int) (s : S), z < D → y < H → y0 ≤ y → Inv z y W s → L3 n1 n2 (n + 1) (iI z) (iI y) (iI W) s = L2 n1 n2 (iI z) (iI (y + 1)) s ∧ Inv z (y + 1) x0 s)
    (h3 : ∀ (n1 n2 n : Nat) (z y x : Int) (s : S), z < D → y < H → x < W → y0 ≤ y → x0 ≤ x → Inv z y x s → ∃ s' : S, L3 n1 n2 (n + 1) (iI z) (iI y) (iI x) s = L3 n1 n2 n (iI z) (iI y) (iI (x + 1)) s' ∧ Inv z y (x + 1) s') :
    ∀ (n : Nat) (z : Int) (s : S), z ≤ D → D < z + n → Inv z y0 x0 s → ∃ s' : S, L1 n (iI z) s = E s' ∧ Inv D y0 x0 s' := by
  intro n z s a b c
  rcases lpTQ L1 L2 L3 E (fun _ => False) x0 y0 W H D (fun z s => Inv z y0 x0 s) Inv hx hy nx ny h1e (fun n z s a b => ⟨s, h1 n z s a b, b⟩) h2e h2 h3e (fun n1 n2 n z y x s a b c d e f => Or.inl (h3 n1 n2 n z y x s a b c d e f)) n z s a b c with h | h
  · exact h
  · exact h.elim
/-! cells -/
abbrev bI (b : Bool) : Int := if b then 1 else 0
abbrev dOk (w h d : Nat) : Prop := (1 ≤ w ∧ w ≤ 8) ∧ (1 ≤ h ∧ h ≤ 8) ∧ 1 ≤ d ∧ d ≤ 8
abbrev inn (w h d i : Nat) : Prop := 1 ≤ i % 10 ∧ i % 10 ≤ w ∧ 1 ≤ i / 10 % 10 ∧ i / 10 % 10 ≤ h ∧ 1 ≤ i / 100 ∧ i / 100 ≤ d
theorem pI_in {w h d : Nat} {x y z : Int} (hd : dOk w h d) (h1 : 0 ≤ x) (h2 : x < w) (h3 : 0 ≤ y) (h4 : y < h) (h5 : 0 ≤ z) (h6 : z < d) : inn w h d ((z + 1) * 100 + (y + 1) * 10 + x + 1).toNat ∧ ((z + 1) * 100 + (y + 1) * 10 + x + 1).toNat < 1000 ∧ (((((((((z + 1) * 100 + (y + 1) * 10 + x + 1)).toNat) / 100 - 1) * 8 + (((((z + 1) * 100 + (y + 1) * 10 + x + 1)).toNat) / 10 % 10 - 1)) * 8 + (((((z + 1) * 100 + (y + 1) * 10 + x + 1)).toNat) % 10 - 1)) : Nat) : Int) = (z * 8 + y) * 8 + x := by
  refine ⟨by omega, by omega, by omega⟩
theorem pI_un {w h d i : Nat} {x y z : Int} (hd : dOk w h d) (h1 : 0 ≤ x) (h2 : x < w) (h3 : 0 ≤ y) (h4 : y < h) (h5 : 0 ≤ z) (h6 : z < d) (hi : inn w h d i) : ((((i / 100 - 1) * 8 + (i / 10 % 10 - 1)) * 8 + (i % 10 - 1)) = ((z * 8 + y) * 8 + x).toNat) ↔ i = ((z + 1) * 100 + (y + 1) * 10 + x + 1).toNat := by
  constructor
  · intro e; omega
  · intro e; subst e; omega
theorem idx_x {N : Nat} {σ : xS} (x y z : Int) : cl_indexOf N (iI x) (iI y) (iI z) σ = some (iI ((z + 1) * 100 + (y + 1) * 10 + x + 1), σ) := by
  unfold cl_indexOf
  simp only [iI_lit, iI_add, iI_mul]
theorem idx_m {N : Nat} {τ : xS} (x y z : Int) : m_place N (iI x) (iI y) (iI z) τ = some (iI ((z + 1) * 100 + (y + 1) * 10 + x + 1), τ) := by
  unfold m_place
  simp only [iI_lit, iI_add, iI_mul]
  congr 3; omega
theorem ce_m {N : Nat} {τ : xS} (x y z : Int) : m_cell N (iI x) (iI y) (iI z) τ = some (iI ((z * 8 + y) * 8 + x), τ) := by
  unfold m_cell
  simp only [iI_lit, iI_add, iI_mul]
theorem nb_b (b : Bool) : vp_nar .boolean (iI (bI b)) = iI (bI b) := by cases b <;> decide
theorem bI_0 (b : Bool) : (iI (bI b) = (0 : Int32)) = (b = false) := by cases b <;> decide
theorem sol_x {N a : Nat} {σ : xS} {i : Int} {b : Bool} (h1 : 0 ≤ i) (h2 : i < 1000) (h : σ.2 a i.toNat = iI (bI b)) : cl_isSolid a N (iI i) σ = some (iI (bI b), σ) := by
  unfold cl_isSolid
  simp (disch := omega) only [iI_lit, iI_lt, iI_le]
  rw [if_neg (by omega), if_neg (by omega), ald_at (by omega) (by omega) (by omega), h]
  cases b <;> rfl
theorem win_x {N iw ih id_ : Nat} {σ : xS} {w h d : Nat} {x y z m : Int} (hw : w ≤ 8) (hh : h ≤ 8) (hd : d ≤ 8) (e1 : σ.1 iw = iI w) (e2 : σ.1 ih = iI h) (e3 : σ.1 id_ = iI d) (m0 : 0 ≤ m) (m1 : m ≤ 1) (x1 : -2147483648 ≤ x) (x2 : x < 2147483648) (y1 : -2147483648 ≤ y) (y2 : y < 2147483648) (z1 : -2147483648 ≤ z) (z2 : z < 2147483648) : cl_areWithin iw ih id_ N (iI x) (iI y) (iI z) (iI m) σ = some (iI (if 0 < w ∧ (-m ≤ x ∧ x < w + m) ∧ (-m ≤ y ∧ y < h + m) ∧ -m ≤ z ∧ z < d + m then 1 else 0), σ) := by
  unfold cl_areWithin
  rw [e1, e2, e3]
  simp (disch := omega) only [iI_lit, iI_neg, iI_add, iI_lt, iI_le]
  by_cases q0 : (w : Int) ≤ 0
  · rw [if_pos q0, if_neg (by omega)]
  · rw [if_neg q0]
    by_cases q1 : x < -m
    · rw [if_pos q1, if_neg (by omega)]
    · rw [if_neg q1]
      by_cases q2 : (w : Int) + m ≤ x
      · rw [if_pos q2, if_neg (by omega)]
      · rw [if_neg q2]
        by_cases q3 : y < -m
        · rw [if_pos q3, if_neg (by omega)]
        · rw [if_neg q3]
          by_cases q4 : (h : Int) + m ≤ y
          · rw [if_pos q4, if_neg (by omega)]
          · rw [if_neg q4]
            by_cases q5 : z < -m
            · rw [if_pos q5, if_neg (by omega)]
            · rw [if_neg q5]
              by_cases q6 : (d : Int) + m ≤ z
              · rw [if_pos q6, if_neg (by omega)]
              · rw [if_neg q6, if_pos (by omega)]
/-! the grid that is made -/
def gX (w h d : Nat) (g : Nat → Bool) (σ : xS) : Prop := σ.1 7 = iI w ∧ σ.1 8 = iI h ∧ σ.1 9 = iI d ∧ ∀ i : Nat, i < 1000 → σ.2 4 i = iI (bI (g i))
def gM (w h d : Nat) (g : Nat → Bool) (τ : xS) : Prop := τ.1 9 = iI w ∧ τ.1 10 = iI h ∧ τ.1 11 = iI d ∧ ∀ i : Nat, inn w h d i → τ.2 5 (((i / 100 - 1) * 8 + (i / 10 % 10 - 1)) * 8 + (i % 10 - 1)) = iI (bI (g i))
theorem gX_c {w h d : Nat} {g g' : Nat → Bool} {σ : xS} (hg : gX w h d g σ) (e : ∀ i : Nat, i < 1000 → g i = g' i) : gX w h d g' σ := ⟨hg.1, hg.2.1, hg.2.2.1, fun i hi => by rw [← e i hi]; exact hg.2.2.2 i hi⟩
theorem gM_c {w h d : Nat} {g g' : Nat → Bool} {τ : xS} (hg : gM w h d g τ) (e : ∀ i : Nat, inn w h d i → g i = g' i) : gM w h d g' τ := ⟨hg.1, hg.2.1, hg.2.2.1, fun i hi => by rw [← e i hi]; exact hg.2.2.2 i hi⟩
theorem gX_fr {S T : List Nat} {w h d : Nat} {g : Nat → Bool} {σ σ' : xS} (hg : gX w h d g σ) (f : fr S T σ σ') (h1 : 7 ∉ S ∧ 8 ∉ S ∧ 9 ∉ S) (h2 : 4 ∉ T) : gX w h d g σ' := by
  unfold gX; rw [f.1 7 h1.1, f.1 8 h1.2.1, f.1 9 h1.2.2, f.2 4 h2]; exact hg
theorem gM_fr {S T : List Nat} {w h d : Nat} {g : Nat → Bool} {σ σ' : xS} (hg : gM w h d g σ) (f : fr S T σ σ') (h1 : 9 ∉ S ∧ 10 ∉ S ∧ 11 ∉ S) (h2 : 5 ∉ T) : gM w h d g σ' := by
  unfold gM; rw [f.1 9 h1.1, f.1 10 h1.2.1, f.1 11 h1.2.2, f.2 5 h2]; exact hg
theorem put_x {N w h d : Nat} {g : Nat → Bool} {σ : xS} {x y z : Int} {v : Bool} (hd : dOk w h d) (hg : gX w h d g σ) (h1 : 0 ≤ x) (h2 : x < w) (h3 : 0 ≤ y) (h4 : y < h) (h5 : 0 ≤ z) (h6 : z < d) : ∃ σ' : xS, draft_put N (iI x) (iI y) (iI z) (iI (bI v)) σ = some (0, σ') ∧ gX w h d (fun i => if i = ((z + 1) * 100 + (y + 1) * 10 + x + 1).toNat then v else g i) σ' ∧ fr [] [4] σ σ' := by
  have e : draft_put N (iI x) (iI y) (iI z) (iI (bI v)) σ = some (0, (σ.1, va_up σ.2 4 (upd (σ.2 4) ((z + 1) * 100 + (y + 1) * 10 + x + 1).toNat (iI (bI v))))) := by
    unfold draft_put
    rw [show (0 : Int32) = iI 0 from rfl, win_x (m := 0) (w := w) (h := h) (d := d) (by omega) (by omega) (by omega) hg.1 hg.2.1 hg.2.2.1 (by omega) (by omega) (by omega) (by omega) (by omega) (by omega) (by omega) (by omega), if_pos (by omega), cal_at, if_neg n10, idx_x, cal_at, ast_at (by omega) (by omega) (by omega)]
  refine ⟨_, e, ⟨hg.1, hg.2.1, hg.2.2.1, fun i hi => ?_⟩, f_draft_put e⟩
  show upd (σ.2 4) ((z + 1) * 100 + (y + 1) * 10 + x + 1).toNat (iI (bI v)) i = _
  rw [upd_e]
  by_cases q : i = ((z + 1) * 100 + (y + 1) * 10 + x + 1).toNat
  · simp only [if_pos q]
  · simp only [if_neg q]; exact hg.2.2.2 i hi
theorem ste_m {w h d : Nat} {g : Nat → Bool} {τ : xS} {x y z : Int} {v : Bool} (hd : dOk w h d) (hg : gM w h d g τ) (h1 : 0 ≤ x) (h2 : x < w) (h3 : 0 ≤ y) (h4 : y < h) (h5 : 0 ≤ z) (h6 : z < d) : gM w h d (fun i => if i = ((z + 1) * 100 + (y + 1) * 10 + x + 1).toNat then v else g i) (τ.1, va_up τ.2 5 (upd (τ.2 5) ((z * 8 + y) * 8 + x).toNat (iI (bI v)))) := by
  refine ⟨hg.1, hg.2.1, hg.2.2.1, fun i hi => ?_⟩
  show upd (τ.2 5) ((z * 8 + y) * 8 + x).toNat (iI (bI v)) (((i / 100 - 1) * 8 + (i / 10 % 10 - 1)) * 8 + (i % 10 - 1)) = _
  rw [upd_e]
  have u := pI_un hd h1 h2 h3 h4 h5 h6 hi
  by_cases q : i = ((z + 1) * 100 + (y + 1) * 10 + x + 1).toNat
  · rw [if_pos (u.mpr q)]; simp only [if_pos q]
  · rw [if_neg (fun e => q (u.mp e))]; simp only [if_neg q]; exact hg.2.2.2 i hi
