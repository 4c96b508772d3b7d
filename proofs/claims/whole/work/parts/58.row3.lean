theorem i_suc (k : Nat) : iI (k : Int) + 1 = iI ((k + 1 : Nat) : Int) := by
  rw [show (1 : Int32) = iI 1 from rfl, iI_add]; rfl
theorem i_sucI (k : Int) : iI k + 1 = iI (k + 1) := by
  rw [show (1 : Int32) = iI 1 from rfl, iI_add]
theorem weigh_x {N : Nat} {s : oS} {al : Nat} (ok : oOk s) (hal : oAl s al) {x : Nat} (hx : x < 1024) (hs : sub_ x al) : ∀ (n k : Nat) (σ : xS), k ≤ 10 → 10 < k + n → oX σ s → (∀ y : Nat, y < x → sub_ y al → σ.2 21 y = iI (oA s al 10 y)) → σ.2 21 x = iI (mn (oC s al x) x k).1 → ((mn (oC s al x) x k).1 < 1000000 → σ.2 22 x = iI ((mn (oC s al x) x k).2 : Nat)) → ∃ σ' : xS, orders_weighSet_b10 N n (iI x) (iI (Pm s.1 al 10 - Pm s.1 x 10)) (iI k) σ = some (0, σ') ∧ oX σ' s ∧ (∀ y : Nat, y ≠ x → σ'.2 21 y = σ.2 21 y ∧ σ'.2 22 y = σ.2 22 y) ∧ σ'.2 21 x = iI (mn (oC s al x) x 10).1 ∧ ((mn (oC s al x) x 10).1 < 1000000 → σ'.2 22 x = iI ((mn (oC s al x) x 10).2 : Nat)) := by
  intro n
  induction n with
  | zero => intro k σ h1 h2; omega
  | succ n ih =>
    intro k σ h1 h2 hX ht h3 h4
    rw [orders_weighSet_b10]
    by_cases q : (10 : Int) ≤ k
    · have ek : k = 10 := by omega
      subst ek
      rw [if_pos (show (10 : Int32) ≤ iI (10 : Nat) by decide)]
      exact ⟨_, rfl, hX, fun _ _ => ⟨rfl, rfl⟩, h3, h4⟩
    · have k10 : k < 10 := by omega
      rw [if_neg (show ¬ (10 : Int32) ≤ iI k by rw [show (10 : Int32) = iI 10 from rfl, iI_le (by omega) (by omega) (by omega) (by omega)]; exact q), bnd_at, j_clr k10 hx]
      by_cases hb : x.testBit k = true
      · rw [if_pos hb]
        have p1 := j_bp hb
        have p2 := (j_pw k k10).2
        have hp := (hal.2 k k10).mp (hs k k10 hb)
        have P := P_mono ok hx hal.1 hs
        have hl := late_x (N := N) ok hX k10 hp P.1 P.2
        have C := oC_bd ok hal hx hs k10 hb
        have e20 := ((hX.1 k k10).2 hp).2
        have t1 := ht (x - 2 ^ k) (by omega) (sub_cl hx k10 hb hs).1
        have ce : s.2.2.1 k * oL s k (Pm s.1 al 10 - Pm s.1 x 10) + oA s al 10 (x - 2 ^ k) = oC s al x k := rfl
        rw [if_neg (show ¬ iI ((x - 2 ^ k : Nat) : Int) = iI (x : Int) by rw [iI_eq (by omega) (by omega) (by omega) (by omega)]; omega), ald_at (by omega) (by omega) (by omega), hl, cal_at, ald_at (by omega) (by omega) (by omega), bnd_at, ald_at (by omega) (by omega) (by omega), ast_at (by omega) (by omega) (by omega)]
        simp only [Int.toNat_natCast, e20, t1, iI_mul, iI_add, bnd_at, ce, i_suc, h3]
        have M := mn_sp (g := oC s al x) (x := x) (k := k) (fun o ho hb => ⟨(oC_bd ok hal hx hs (by omega) hb).1, by have := (oC_bd ok hal hx hs (by omega) hb).2; omega⟩)
        by_cases g : (mn (oC s al x) x k).1 ≤ oC s al x k
        · have em : mn (oC s al x) x (k + 1) = mn (oC s al x) x k := by rw [mn, if_neg (fun z => by have := z.2; omega)]
          rw [if_pos (by rw [iI_le (by omega) (by omega) (by omega) (by omega)]; exact g)]
          exact ih (k + 1) σ (by omega) (by omega) hX ht (by rw [em]; exact h3) (by rw [em]; exact h4)
        · have em : mn (oC s al x) x (k + 1) = (oC s al x k, k) := by rw [mn, if_pos ⟨hb, by omega⟩]
          rw [if_neg (by rw [iI_le (by omega) (by omega) (by omega) (by omega)]; exact g), ast_at (by omega) (by omega) (by omega)]
          obtain ⟨σ', r1, r2, r3, r4, r5⟩ := ih (k + 1) (σ.1, va_up (va_up σ.2 21 (upd (σ.2 21) x (iI (oC s al x k)))) 22 (upd (σ.2 22) x (iI k))) (by omega) (by omega) hX (fun y hy hy2 => by
              show upd (σ.2 21) x (iI (oC s al x k)) y = _
              rw [upd_e, if_neg (by omega)]; exact ht y hy hy2) (by
              show upd (σ.2 21) x (iI (oC s al x k)) x = _
              rw [em, upd_e, if_pos rfl]) (fun _ => by
              show upd (σ.2 22) x (iI k) x = _
              rw [em, upd_e, if_pos rfl])
          refine ⟨σ', r1, r2, fun y hy => ?_, r4, r5⟩
          have := r3 y hy
          refine ⟨this.1.trans ?_, this.2.trans ?_⟩
          · show upd (σ.2 21) x (iI (oC s al x k)) y = _
            rw [upd_e, if_neg hy]
          · show upd (σ.2 22) x (iI k) y = _
            rw [upd_e, if_neg hy]
      · rw [if_neg hb, if_pos rfl, bnd_at]
        have em : mn (oC s al x) x (k + 1) = mn (oC s al x) x k := by rw [mn, if_neg (fun z => hb z.1)]
        rw [i_suc]; exact ih (k + 1) σ (by omega) (by omega) hX ht (by rw [em]; exact h3) (by rw [em]; exact h4)
/-- the table of the class: all sets below z -/
def tX (s : oS) (al z : Nat) (σ : xS) : Prop := ∀ y : Nat, y < z → sub_ y al → σ.2 21 y = iI (oA s al 10 y) ∧ (y ≠ 0 → σ.2 22 y = iI ((mn (oC s al y) y 10).2 : Nat))
theorem wset_x {N : Nat} (hN : 10 < N) {s : oS} {al : Nat} (ok : oOk s) (hal : oAl s al) {x : Nat} (hx : x < 1024) (hs : sub_ x al) (h0 : x ≠ 0) {σ : xS} (hX : oX σ s) (ht : tX s al x σ) : ∃ σ' : xS, orders_weighSet N (iI x) (iI (Pm s.1 al 10 - Pm s.1 x 10)) σ = some (0, σ') ∧ oX σ' s ∧ tX s al (x + 1) σ' := by
  unfold orders_weighSet
  rw [ast_at (by omega) (by omega) (by omega)]
  obtain ⟨σ', r1, r2, r3, r4, r5⟩ := weigh_x (N := N) ok hal hx hs N 0 (σ.1, va_up σ.2 21 (upd (σ.2 21) x (iI 1000000))) (by omega) (by omega) hX (fun y hy hy2 => by
              show upd (σ.2 21) x (iI 1000000) y = _
              rw [upd_e, if_neg (by omega)]; exact (ht y hy hy2).1) (by
              show upd (σ.2 21) x (iI 1000000) x = _
              rw [upd_e, if_pos rfl, mn]) (fun z => by rw [mn] at z; exact absurd z (by decide))
  refine ⟨σ', r1, r2, fun y hy hy2 => ?_⟩
  by_cases e : y = x
  · subst e
    have m := oM_sp ok hal hx hs h0
    exact ⟨by rw [r4, oA_eq hx h0], fun _ => r5 m.1⟩
  · have a := r3 y e
    have b := ht y (by omega) hy2
    refine ⟨?_, fun q => ?_⟩
    · rw [a.1]
      show upd (σ.2 21) x (iI 1000000) y = _
      rw [upd_e, if_neg e]; exact b.1
    · rw [a.2]; exact b.2 q
theorem find_x {N : Nat} (hN : 10 < N) {s : oS} {al : Nat} (ok : oOk s) (hal : oAl s al) : ∀ (n z : Nat) (σ : xS), 0 < z → z ≤ al + 1 → al + 1 < z + n → oX σ s → tX s al z σ → ∃ σ' : xS, orders_findRow_b26 N n (iI al) (iI (Pm s.1 al 10)) (iI z) σ = (cal (orders_keepRow N (iI al) σ') fun _ σ7 => ald σ7 21 1024 (iI al) fun v8 => some (v8, σ7)) ∧ oX σ' s ∧ tX s al (al + 1) σ' := by
  intro n
  induction n with
  | zero => intro z σ h0 h1 h2; omega
  | succ n ih =>
    intro z σ h0 h1 h2 hX ht
    have al2 := hal.1
    rw [orders_findRow_b26]
    by_cases q : al < z
    · rw [if_pos (by rw [iI_lt (by omega) (by omega) (by omega) (by omega)]; omega)]
      exact ⟨σ, rfl, hX, by rw [show al + 1 = z by omega]; exact ht⟩
    · rw [if_neg (by rw [iI_lt (by omega) (by omega) (by omega) (by omega)]; omega), j_and]
      by_cases g : z &&& al = z
      · rw [if_pos (by rw [g])]
        have hs : sub_ z al := by rw [sub_and (by omega)] at g; exact g
        have hp := pours_x (N := N) ok hX (x := z) (by omega) N 0 (by omega) (by omega)
        have hp2 : orders_poursOf N (iI z) σ = some (iI (Pm s.1 z 10), σ) := hp
        rw [hp2, cal_at, iI_sub]
        obtain ⟨σ', r1, r2, r3⟩ := wset_x hN ok hal (by omega) hs (by omega) hX ht
        rw [r1, cal_at, bnd_at, i_suc]
        exact ih (z + 1) σ' (by omega) (by omega) (by omega) r2 r3
      · rw [if_neg (by rw [iI_eq (by omega) (by have := Nat.and_le_left (n := z) (m := al); omega) (by omega) (by omega)]; omega), bnd_at, i_suc]
        refine ih (z + 1) σ (by omega) (by omega) (by omega) hX (fun y hy hy2 => ?_)
        by_cases e : y = z
        · subst e; rw [← sub_and (by omega)] at hy2; exact absurd hy2 g
        · exact ht y (by omega) hy2
/-! the reference -/
theorem pours_m {N : Nat} {τ : xS} {s : oS} {al : Nat} (ok : oOk s) (hal : oAl s al) (hm : oM τ s) {x : Nat} (hxl : x < 1024) (hs : sub_ x al) : ∀ (n k : Nat), k ≤ 10 → 10 < k + n → m_poursOf_b4 N n (iI (x : Int)) (iI (Pm s.1 x k)) (iI k) τ = some (iI (Pm s.1 x 10), τ) := by
  intro n
  induction n with
  | zero => intro k h1 h2; omega
  | succ n ih =>
    intro k h1 h2
    rw [m_poursOf_b4]
    by_cases q : (10 : Int) ≤ k
    · rw [if_pos (show (10 : Int32) ≤ iI k by rw [show (10 : Int32) = iI 10 from rfl, iI_le (by omega) (by omega) (by omega) (by omega)]; exact q), show k = 10 by omega]
    · have g := ih (k + 1) (by omega) (by omega)
      rw [if_neg (show ¬ (10 : Int32) ≤ iI k by rw [show (10 : Int32) = iI 10 from rfl, iI_le (by omega) (by omega) (by omega) (by omega)]; exact q), j_bit (by omega) (by omega)]
      rw [Pm] at g
      by_cases hb : x.testBit k = true
      · have hp := (hal.2 k (by omega)).mp (hs k (by omega) hb)
        have e := ((hm.1 k (by omega)).2 hp).1
        rw [if_pos hb] at g ⊢
        rw [if_pos (by decide), ald_at (by omega) (by omega) (by omega)]
        simp only [Int.toNat_natCast, e, bnd_at, iI_add, i_suc]
        exact g
      · rw [if_neg hb] at g ⊢
        rw [if_neg (by decide), bnd_at, i_suc]
        rw [Int.add_zero] at g
        exact g
theorem late_m {N : Nat} (hN : 10 < N) {τ : xS} {s : oS} {al : Nat} (ok : oOk s) (hal : oAl s al) (hm : oM τ s) {x : Nat} (hxl : x < 1024) (hs : sub_ x al) {o : Nat} (ho : o < 10) (hp : 0 < s.1 o) : m_lateOf N (iI o) (iI x) τ = some (iI (oL s o (Pm s.1 x 10)), τ) := by
  have g : m_poursOf N (iI x) τ = some (iI (Pm s.1 x 10), τ) := pours_m (N := N) ok hal hm hxl hs N 0 (by omega) (by omega)
  have e := (hm.1 o ho).2 hp
  have o1 := ok.1 o ho
  have o2 := o1.2.2 hp
  have o3 := ok.2
  have P := P_bd ok x
  unfold m_lateOf oL
  rw [g, cal_at, ald_at (by omega) (by omega) (by omega), ald_at (by omega) (by omega) (by omega)]
  simp only [Int.toNat_natCast, e.1, e.2.1, hm.2, iI_add, iI_sub, bnd_at]
  simp (disch := omega) only [iI_lit, iI_le]
  split <;> rfl
/-- the table of the reference: all sets from z on -/
def tM (s : oS) (al z : Nat) (τ : xS) : Prop := ∀ x : Nat, x < 1024 → sub_ x al → z ≤ al - x → τ.2 22 (al - x) = iI (oA s al 10 x)
theorem co_or {x al o : Nat} (hx : x < 1024) (ha : al < 1024) (hs : sub_ x al) (ho : o < 10) (hb : x.testBit o = true) : (al - x) ||| 2 ^ o = al - (x - 2 ^ o) ∧ al - (x - 2 ^ o) = al - x + 2 ^ o ∧ (al - x).testBit o = false := by
  have c := sub_co hx ha hs
  have b : (al - x).testBit o = false := by rw [c.2.2.1 o ho, hb]; simp
  have := j_set ho c.2.1 b
  have := j_bp hb
  have := c.1
  exact ⟨by omega, by omega, b⟩
theorem best_m {N : Nat} (hN : 10 < N) {s : oS} {al : Nat} (ok : oOk s) (hal : oAl s al) {x : Nat} (hx : x < 1024) (hs : sub_ x al) {τ : xS} (hm : oM τ s) (ht : tM s al (al - x + 1) τ) (K : Int32 → Int32 → xS → Option (Int32 × xS)) : ∀ (n k : Nat) (b : Int), k ≤ 10 → 10 < k + n → b = (if x = 0 then 0 else if (mn (oC s al x) x k).1 = 1000000 then 1000000000 else (mn (oC s al x) x k).1) → m_row_b70 N K n (iI al) (iI (al - x : Nat)) (iI b) (iI k) τ = K (iI al) (iI ((al - x : Nat) : Int) + (-1 : Int32)) (τ.1, va_up τ.2 22 (upd (τ.2 22) (al - x) (iI (oA s al 10 x)))) := by
  intro n
  induction n with
  | zero => intro k b h1 h2; omega
  | succ n ih =>
    intro k b h1 h2 hb
    have al2 := hal.1
    have c := sub_co hx al2 hs
    rw [m_row_b70]
    by_cases q : (10 : Int) ≤ k
    · have ek : k = 10 := by omega
      subst ek
      rw [if_pos (show (10 : Int32) ≤ iI (10 : Nat) by decide), ast_at (by omega) (by omega) (by omega), bnd_at]
      have eb : b = oA s al 10 x := by
        by_cases h0 : x = 0
        · rw [hb, if_pos h0, h0, oA, if_pos rfl]
        · have m := oM_sp ok hal hx hs h0
          rw [hb, if_neg h0, if_neg (by have := m.1; omega), oA_eq hx h0]
      rw [eb]; rfl
    · have k10 : k < 10 := by omega
      rw [if_neg (show ¬ (10 : Int32) ≤ iI k by rw [show (10 : Int32) = iI 10 from rfl, iI_le (by omega) (by omega) (by omega) (by omega)]; exact q), j_bit (by omega) (by omega), j_bit (by omega) (by omega)]
      by_cases hbx : x.testBit k = true
      · have ha : al.testBit k = true := hs k k10 hbx
        have h0 : x ≠ 0 := fun z => by rw [z, Nat.zero_testBit] at hbx; cases hbx
        obtain ⟨o1, o2, o3⟩ := co_or hx al2 hs k10 hbx
        have p1 := j_bp hbx
        have p2 := (j_pw k k10).2
        have hp := (hal.2 k k10).mp ha
        have hl := late_m hN ok hal hm c.2.1 c.2.2.2 k10 hp
        have C := oC_bd ok hal hx hs k10 hbx
        have e21 := ((hm.1 k k10).2 hp).2.2
        have t1 := ht (x - 2 ^ k) (by omega) (sub_cl hx k10 hbx hs).1 (by omega)
        have ce : s.2.2.1 k * oL s k (Pm s.1 (al - x) 10) + oA s al 10 (x - 2 ^ k) = oC s al x k := by
          rw [Pm_co (p := s.1) (z := al - x) (k := 10) hs c.2.2.1]; rfl
        rw [if_pos ha, o3, if_neg (show ¬ iI 1 = 0 by decide), if_neg (show ¬ (iI (if false = true then 1 else 0) = (1 : Int32)) by decide), ald_at (by omega) (by omega) (by omega), hl, cal_at, j_shl1 (by omega), j_or, o1, ald_at (by omega) (by omega) (by omega)]
        simp only [Int.toNat_natCast, e21, t1, iI_mul, iI_add, bnd_at, ce, i_suc]
        have M := mn_sp (g := oC s al x) (x := x) (k := k) (fun o ho hb => ⟨(oC_bd ok hal hx hs (by omega) hb).1, by have := (oC_bd ok hal hx hs (by omega) hb).2; omega⟩)
        rw [if_neg h0] at hb
        by_cases g : (mn (oC s al x) x k).1 ≤ oC s al x k
        · have em : mn (oC s al x) x (k + 1) = mn (oC s al x) x k := by rw [mn, if_neg (fun z => by have := z.2; omega)]
          rw [if_neg (by omega)] at hb
          rw [if_pos (by rw [iI_le (by omega) (by omega) (by omega) (by omega)]; omega)]
          exact ih (k + 1) b (by omega) (by omega) (by rw [em, if_neg h0, if_neg (by omega)]; exact hb)
        · have em : mn (oC s al x) x (k + 1) = (oC s al x k, k) := by rw [mn, if_pos ⟨hbx, by omega⟩]
          have g2 : ¬ b ≤ oC s al x k ∧ b ≤ 1000000000 := by
            by_cases e : (mn (oC s al x) x k).1 = 1000000
            · rw [if_pos e] at hb; omega
            · rw [if_neg e] at hb; omega
          rw [if_neg (by rw [iI_le (by omega) (by omega) (by omega) (by omega)]; exact g2.1)]
          exact ih (k + 1) (oC s al x k) (by omega) (by omega) (by rw [em, if_neg h0, if_neg (by show ¬ oC s al x k = 1000000; omega)])
      · have em : mn (oC s al x) x (k + 1) = mn (oC s al x) x k := by rw [mn, if_neg (fun z => hbx z.1)]
        have g := ih (k + 1) b (by omega) (by omega) (by rw [em]; exact hb)
        by_cases ha : al.testBit k = true
        · have : (al - x).testBit k = true := by rw [c.2.2.1 k k10, ha]; simp [hbx]
          rw [if_pos ha, this, if_neg (show ¬ iI 1 = 0 by decide), if_pos (show (iI (if true = true then 1 else 0) = (1 : Int32)) by decide), bnd_at, i_suc]
          exact g
        · rw [if_neg ha, if_pos (by decide), bnd_at, i_suc]
          exact g
theorem tab_m {N : Nat} (hN : 10 < N) {s : oS} {al : Nat} (ok : oOk s) (hal : oAl s al) : ∀ (n z : Nat) (τ : xS), z ≤ al + 1 → z < n → oM τ s → tM s al z τ → ∃ τ' : xS, m_row_b39 N n (iI al) (iI ((z : Int) - 1)) τ = m_row_b163 N N (iI al) (iI 0) (va_up τ'.1 22 (iI 0), τ'.2) ∧ oM τ' s ∧ tM s al 0 τ' := by
  intro n
  induction n with
  | zero => intro z τ h1 h2; omega
  | succ n ih =>
    intro z τ h1 h2 hm ht
    have al2 := hal.1
    rw [m_row_b39]
    cases z with
    | zero =>
      rw [if_pos (by decide)]
      exact ⟨τ, rfl, hm, ht⟩
    | succ y =>
      rw [show (((y + 1 : Nat) : Int) - 1) = (y : Int) by omega, if_neg (by rw [show (0 : Int32) = iI 0 from rfl, iI_lt (by omega) (by omega) (by omega) (by omega)]; omega)]
      have e1 : (iI (y : Int) &&& (iI (al : Int) ^^^ (-1 : Int32)) = (0 : Int32)) = (y &&& al = y) := j_sub (by omega) (by omega)
      simp only [e1]
      by_cases g : y &&& al = y
      · rw [if_pos g]
        have hs : sub_ y al := by rw [sub_and (by omega)] at g; exact g
        have c := sub_co (show y < 1024 by omega) al2 hs
        have ey : al - (al - y) = y := by omega
        have stp : ∀ b : Int, b = (if al - y = 0 then 0 else if (mn (oC s al (al - y)) (al - y) 0).1 = 1000000 then 1000000000 else (mn (oC s al (al - y)) (al - y) 0).1) → ∃ τ' : xS, m_row_b70 N (m_row_b39 N n) N (iI al) (iI y) (iI b) (iI 0) τ = m_row_b163 N N (iI al) (iI 0) (va_up τ'.1 22 (iI 0), τ'.2) ∧ oM τ' s ∧ tM s al 0 τ' := by
          intro b hb
          have B := best_m hN ok hal c.2.1 c.2.2.2 hm (by rw [ey]; exact ht) (m_row_b39 N n) N 0 b (by omega) (by omega) hb
          rw [ey] at B
          have B : m_row_b70 N (m_row_b39 N n) N (iI al) (iI y) (iI b) (iI 0) τ = _ := B
          rw [B, show (-1 : Int32) = iI (-1) from rfl, iI_add]
          refine ih y _ (by omega) (by omega) hm (fun x hx hxs hz => ?_)
          show upd (τ.2 22) y (iI (oA s al 10 (al - y))) (al - x) = _
          have cx := sub_co hx al2 hxs
          rw [upd_e]
          by_cases e : al - x = y
          · rw [if_pos e, show al - y = x by omega]
          · rw [if_neg e]; exact ht x hx hxs (by omega)
        by_cases ea : y = al
        · rw [if_pos (by rw [ea])]
          exact stp 0 (by rw [if_pos (by omega)])
        · rw [if_neg (by rw [iI_eq (by omega) (by omega) (by omega) (by omega)]; omega)]
          have := c.1
          exact stp 1000000000 (by rw [if_neg (by omega), mn, if_pos rfl])
      · rw [if_neg g, bnd_at, show (-1 : Int32) = iI (-1) from rfl, iI_add]
        refine ih y τ (by omega) (by omega) hm (fun x hx hxs hz => ?_)
        have cx := sub_co hx al2 hxs
        refine ht x hx hxs ?_
        by_cases e : al - x = y
        · have h2 := cx.2.2.2
          rw [e] at h2
          rw [← sub_and (by omega)] at h2
          exact absurd h2 g
        · omega
