/-! loops over the members, and over the box -/
theorem rk_no {m : Nat → Bool} {a b : Nat} (hab : a ≤ b) (h : rk m b ≤ rk m a) (c : Nat) (h1 : a ≤ c) (h2 : c < b) : m c = false := by
  cases e : m c with
  | false => rfl
  | true =>
    have := rk_lt h2 e
    have := rk_mono m h1
    omega
theorem lpM {S R : Type} (m : Nat → Bool) (L : Nat → Int32 → S → R) (E : S → R) (Inv : Nat → S → Prop) (hg : ∀ (a b : Nat) (s : S), a ≤ b → (∀ c : Nat, a ≤ c → c < b → m c = false) → Inv a s → Inv b s) (he : ∀ (n : Nat) (s : S), Inv 1000 s → L (n + 1) (iI (rk m 1000 : Nat)) s = E s) (hs : ∀ (n c : Nat) (s : S), c < 1000 → m c = true → Inv c s → ∃ s' : S, L (n + 1) (iI (rk m c : Nat)) s = L n (iI (rk m c + 1 : Nat)) s' ∧ Inv (c + 1) s') : ∀ (n k : Nat) (s : S), k ≤ 1000 → rk m 1000 < rk m k + n → Inv k s → ∃ s' : S, L n (iI (rk m k : Nat)) s = E s' ∧ Inv 1000 s' := by
  intro n
  induction n with
  | zero => intro k s h1 h2; have := rk_mono m h1; omega
  | succ n ih =>
    intro k s h1 h2 hi
    have r2 := rk_mono m h1
    by_cases q : rk m 1000 ≤ rk m k
    · have e : rk m k = rk m 1000 := by omega
      have i2 := hg k 1000 s h1 (fun c a b => rk_no h1 q c a b) hi
      rw [e]
      exact ⟨s, he n s i2, i2⟩
    · obtain ⟨c, c1, c2, c3, c4, c5⟩ := rk_nx (m := m) 1000 k 1000 (by omega) (by omega)
      obtain ⟨s', e1, i1⟩ := hs n c s c2 c3 (hg k c s c1 c5 hi)
      have e2 : rk m (c + 1) = rk m c + 1 := by rw [rk, if_pos c3]
      obtain ⟨s2, e3, i3⟩ := ih (c + 1) s' (by omega) (by omega) i1
      rw [← c4, e1, ← e2, e3]
      exact ⟨s2, rfl, i3⟩
theorem lpX {S R : Type} {N w h d : Nat} (hN : 100 < N) (hd : dOk w h d) (L1 : Nat → Int32 → S → R) (L2 : Nat → Nat → Int32 → Int32 → S → R) (L3 : Nat → Nat → Nat → Int32 → Int32 → Int32 → S → R) (E : S → R) (Q : R → Prop) (Inv : Nat → S → Prop)
    (hg : ∀ (a b : Nat) (s : S), a ≤ b → (∀ c : Nat, a ≤ c → c < b → ¬ bx w h d c) → Inv a s → Inv b s)
    (h1e : ∀ (n : Nat) (s : S), Inv 1000 s → L1 (n + 1) (iI ((d : Int) + 1)) s = E s)
    (h1 : ∀ (n c : Nat) (z : Int) (s : S), -1 ≤ z → z < d + 1 → Inv c s → L1 (n + 1) (iI z) s = L2 n N (iI z) (iI (-1)) s)
    (h2e : ∀ (n1 n c : Nat) (z : Int) (s : S), -1 ≤ z → z < d + 1 → Inv c s → L2 n1 (n + 1) (iI z) (iI ((h : Int) + 1)) s = L1 n1 (iI (z + 1)) s)
    (h2 : ∀ (n1 n c : Nat) (z y : Int) (s : S), -1 ≤ z → z < d + 1 → -1 ≤ y → y < h + 1 → Inv c s → L2 n1 (n + 1) (iI z) (iI y) s = L3 n1 n N (iI z) (iI y) (iI (-1)) s)
    (h3e : ∀ (n1 n2 n c : Nat) (z y : Int) (s : S), -1 ≤ z → z < d + 1 → -1 ≤ y → y < h + 1 → Inv c s → L3 n1 n2 (n + 1) (iI z) (iI y) (iI ((w : Int) + 1)) s = L2 n1 n2 (iI z) (iI (y + 1)) s)
    (h3 : ∀ (n1 n2 n c : Nat) (s : S), bx w h d c → Inv c s → (∃ s' : S, L3 n1 n2 (n + 1) (iI (((c / 100 : Nat) : Int) - 1)) (iI (((c / 10 % 10 : Nat) : Int) - 1)) (iI (((c % 10 : Nat) : Int) - 1)) s = L3 n1 n2 n (iI (((c / 100 : Nat) : Int) - 1)) (iI (((c / 10 % 10 : Nat) : Int) - 1)) (iI ((c % 10 : Nat) : Int)) s' ∧ Inv (c + 1) s') ∨ Q (L3 n1 n2 (n + 1) (iI (((c / 100 : Nat) : Int) - 1)) (iI (((c / 10 % 10 : Nat) : Int) - 1)) (iI (((c % 10 : Nat) : Int) - 1)) s))
    (s : S) (hi : Inv 0 s) : (∃ s' : S, L1 N (iI (-1)) s = E s' ∧ Inv 1000 s') ∨ Q (L1 N (iI (-1)) s) := by
  have key := lpTQ (N := N) L1 L2 L3 E Q (-1) (-1) ((w : Int) + 1) ((h : Int) + 1) ((d : Int) + 1)
    (fun z s => -1 ≤ z ∧ Inv (((z + 1) * 100 + (((-1 : Int)) + 1) * 10 + ((-1 : Int)) + 1)).toNat s) (fun z y x s => -1 ≤ z ∧ Inv (((z + 1) * 100 + (y + 1) * 10 + x + 1)).toNat s)
    (by omega) (by omega) (by omega) (by omega)
    (fun n s hi => by
      exact h1e n s (hg _ 1000 s (by omega) (fun c h1 h2 h3 => by omega) hi.2))
    (fun n z s hz hi => ⟨s, h1 n _ z s hi.1 hz hi.2, hi.1, hi.2⟩)
    (fun n1 n z s hz hi => ⟨h2e n1 n _ z s hi.1 hz hi.2, by omega, hg _ _ s (by omega) (fun c h1 h2 h3 => by omega) hi.2⟩)
    (fun n1 n z y s hz hy hy0 hi => h2 n1 n _ z y s hi.1 hz hy0 hy hi.2)
    (fun n1 n2 n z y s hz hy hy0 hi => ⟨h3e n1 n2 n _ z y s hi.1 hz hy0 hy hi.2, hi.1, hg _ _ s (by omega) (fun c h1 h2 h3 => by omega) hi.2⟩)
    (fun n1 n2 n z y x s hz hy hx hy0 hx0 hi => by
      obtain ⟨c, hc⟩ : ∃ c : Nat, c = (((z + 1) * 100 + (y + 1) * 10 + x + 1)).toNat := ⟨_, rfl⟩
      have D := P_d (x := x) (y := y) (z := z) (by omega) (by omega) (by omega) (by omega) (by omega)
      rw [← hc] at D hi
      have g := h3 n1 n2 n c s (by omega) hi.2
      rw [show ((c % 10 : Nat) : Int) - 1 = x by omega, show ((c / 10 % 10 : Nat) : Int) - 1 = y by omega, show ((c / 100 : Nat) : Int) - 1 = z by omega, show ((c % 10 : Nat) : Int) = x + 1 by omega] at g
      rw [show (((z + 1) * 100 + (y + 1) * 10 + (x + 1) + 1)).toNat = c + 1 by omega]
      rcases g with ⟨s', e, i⟩ | g
      · exact Or.inl ⟨s', e, hi.1, i⟩
      · exact Or.inr g)
    N (-1) s (by omega) (by omega) ⟨by omega, by
      have e : (((((-1 : Int)) + 1) * 100 + (((-1 : Int)) + 1) * 10 + ((-1 : Int)) + 1)).toNat = 0 := by decide
      rw [e]; exact hi⟩
  rcases key with ⟨s', e, i⟩ | q
  · exact Or.inl ⟨s', e, hg _ 1000 s' (by omega) (fun c h1 h2 h3 => by omega) i.2⟩
  · exact Or.inr q
/-! what is asked of the form -/
theorem sim_solid {N : Nat} (a b c : Int32) {σ τ : xS} (hr : Rform σ τ) : ∃ (r : Int32), cw_solid N a b c σ = some (r, σ) ∧ m_solid N a b c τ = some (r, τ) := by
  obtain ⟨x, rfl, x1, x2⟩ := iI_ex a
  obtain ⟨y, rfl, y1, y2⟩ := iI_ex b
  obtain ⟨z, rfl, z1, z2⟩ := iI_ex c
  rcases hr with ⟨e1, e2⟩ | ⟨w, h, d, f, hd, hx, hm, hin⟩
  · unfold cw_solid m_solid cl_areWithin
    rw [e1, e2, if_pos (by decide), cal_at, if_pos rfl, if_pos (by decide)]
    exact ⟨_, rfl, rfl⟩
  · have W : cl_areWithin 4 5 6 N (iI x) (iI y) (iI z) 0 σ = _ := win_x (N := N) (m := 0) (w := w) (h := h) (d := d) (by omega) (by omega) (by omega) hx.1.1 hx.1.2.1 hx.1.2.2.1 (by omega) (by omega) x1 x2 y1 y2 z1 z2
    have M0 : m_solid N (iI x) (iI y) (iI z) τ = if x < 0 then some (-1, τ) else if (w : Int) ≤ x then some (-1, τ) else if y < 0 then some (-1, τ) else if (h : Int) ≤ y then some (-1, τ) else if z < 0 then some (-1, τ) else if z < (d : Int) then (cal (m_place N (iI x) (iI y) (iI z) τ) fun v1 σ2 => ald σ2 8 1000 v1 fun v3 => if v3 = 0 then some ((0 : Int32), σ2) else some ((1 : Int32), σ2)) else some (-1, τ) := by
      unfold m_solid
      rw [hm.1.1, if_neg (show ¬ iI 1 = (0 : Int32) by decide), hm.1.2.1, hm.1.2.2.1, hm.1.2.2.2, show (0 : Int32) = iI 0 from rfl]
      simp (disch := omega) only [iI_lt, iI_le]
    by_cases q : 0 ≤ x ∧ x < w ∧ 0 ≤ y ∧ y < h ∧ 0 ≤ z ∧ z < d
    · rw [if_pos (by omega)] at W
      have X : cw_solid N (iI x) (iI y) (iI z) σ = some (iI (bI (f (((z + 1) * 100 + (y + 1) * 10 + x + 1)).toNat)), σ) := by
        unfold cw_solid
        rw [W, cal_at, if_neg (show ¬ iI 1 = (0 : Int32) by decide), idx_x, cal_at, sol_x (b := f (((z + 1) * 100 + (y + 1) * 10 + x + 1)).toNat) (by omega) (by omega) (hx.1.2.2.2 _ (by omega)), cal_at]
        cases f (((z + 1) * 100 + (y + 1) * 10 + x + 1)).toNat <;> rfl
      rw [if_neg (by omega), if_neg (by omega), if_neg (by omega), if_neg (by omega), if_neg (by omega), if_pos (by omega), idx_m, cal_at, ald_at (by omega) (by omega) (by omega), hm.2.1 _ (by omega)] at M0
      refine ⟨_, X, M0.trans ?_⟩
      cases f (((z + 1) * 100 + (y + 1) * 10 + x + 1)).toNat <;> rfl
    · rw [if_neg (by omega)] at W
      have X : cw_solid N (iI x) (iI y) (iI z) σ = some (-1, σ) := by
        unfold cw_solid
        rw [W, cal_at, if_pos (show iI 0 = (0 : Int32) by decide)]
      refine ⟨_, X, M0.trans ?_⟩
      by_cases q1 : x < 0
      · rw [if_pos q1]
      · rw [if_neg q1]
        by_cases q2 : (w : Int) ≤ x
        · rw [if_pos q2]
        · rw [if_neg q2]
          by_cases q3 : y < 0
          · rw [if_pos q3]
          · rw [if_neg q3]
            by_cases q4 : (h : Int) ≤ y
            · rw [if_pos q4]
            · rw [if_neg q4]
              by_cases q5 : z < 0
              · rw [if_pos q5]
              · rw [if_neg q5, if_neg (by omega)]
theorem frw_x {N w h d c : Nat} {f : Nat → Bool} (hd : dOk w h d) (hc : bx w h d c) {σ : xS} (hx : fX w h d f σ) : mould_freeWays N (iI c) σ = some (iI (wy w h d f c : Nat), σ) := by
  have := bx_lt hd hc
  unfold mould_freeWays
  rw [if_neg (by rw [show (0 : Int32) = iI 0 from rfl, iI_lt (by omega) (by omega) (by omega) (by omega)]; omega), if_neg (by rw [show (1000 : Int32) = iI 1000 from rfl, iI_le (by omega) (by omega) (by omega) (by omega)]; omega), ald_at (by omega) (by omega) (by omega), Int.toNat_natCast, hx.2.2 c hc]
theorem sim_free {N : Nat} (a b c : Int32) {σ τ : xS} (hr : Rform σ τ) : ∃ (r : Int32), cw_free N a b c σ = some (r, σ) ∧ m_free N a b c τ = some (r, τ) := by
  obtain ⟨x, rfl, x1, x2⟩ := iI_ex a
  obtain ⟨y, rfl, y1, y2⟩ := iI_ex b
  obtain ⟨z, rfl, z1, z2⟩ := iI_ex c
  rcases hr with ⟨e1, e2⟩ | ⟨w, h, d, f, hd, hx, hm, hin⟩
  · unfold cw_free m_free mould_cellAt cl_areWithin m_isMould
    rw [e1, e2, if_pos (by decide), cal_at, if_pos rfl, cal_at, if_pos rfl, if_pos (by decide), cal_at, if_pos rfl]
    exact ⟨_, rfl, rfl⟩
  · unfold cw_free m_free
    rw [cell_x hd hx.1 x1 x2 y1 y2 z1 z2, cal_at, mou_m hd hm.1 x1 x2 y1 y2 z1 z2, cal_at]
    by_cases q : -1 ≤ x ∧ x ≤ w ∧ -1 ≤ y ∧ y ≤ h ∧ -1 ≤ z ∧ z ≤ d
    · obtain ⟨c, hc⟩ : ∃ c : Nat, (c : Int) = ((z + 1) * 100 + (y + 1) * 10 + x + 1) := ⟨(((z + 1) * 100 + (y + 1) * 10 + x + 1)).toNat, by omega⟩
      have bc := bx_P hd q
      have c1 : (((z + 1) * 100 + (y + 1) * 10 + x + 1)).toNat = c := by omega
      rw [c1] at bc
      have cl := bx_lt hd bc
      rw [if_pos q, if_pos q, c1, if_neg (show ¬ iI 1 = (0 : Int32) by decide), idx_m, cal_at, ald_at (by omega) (by omega) (by omega), c1, hm.2.1 c cl, idx_m, cal_at, ald_at (by omega) (by omega) (by omega), c1]
      cases e : f c
      · rw [if_neg (show ¬ (false = true) by decide), ← hc, if_neg (by rw [show (-1 : Int32) = iI (-1) from rfl, iI_eq (by omega) (by omega) (by omega) (by omega)]; omega), frw_x hd bc hx, cal_at, if_pos (by decide), hm.2.2 c (mem_iff.mpr ⟨bc, e⟩)]
        exact ⟨_, rfl, rfl⟩
      · rw [if_pos rfl, if_pos (by decide), if_neg (by decide)]
        exact ⟨_, rfl, rfl⟩
    · rw [if_neg q, if_neg q, if_pos (by decide), if_pos (by decide)]
      exact ⟨_, rfl, rfl⟩
/-- shut cells -/
def shC (w h d : Nat) (f : Nat → Bool) (c : Nat) : Bool := mem w h d f c && decide (wy w h d f c = 0)
theorem shC_in {w h d c : Nat} {f : Nat → Bool} (hd : dOk w h d) (hc : shC w h d f c = true) : inn w h d c := by
  unfold shC at hc
  rw [Bool.and_eq_true, decide_eq_true_eq] at hc
  have m := mem_iff.mp hc.1
  have all : ∀ k : Nat, k < 6 → 0 < ed w h d k c := by
    intro k hk
    by_cases z : 0 < ed w h d k c
    · exact z
    · have b := wy_bit (w := w) (h := h) (d := d) (i := c) (f := f) hk
      rw [hc.2, Nat.zero_testBit, (clw_s (f := f) hd hk m.1).2 (by omega), m.2] at b
      cases b
  have a0 := all 0 (by omega)
  have a1 := all 1 (by omega)
  have a2 := all 2 (by omega)
  have a3 := all 3 (by omega)
  have a4 := all 4 (by omega)
  have a5 := all 5 (by omega)
  rw [ed_0] at a0
  rw [ed_1] at a1
  rw [ed_2] at a2
  rw [ed_3] at a3
  rw [ed_4] at a4
  rw [ed_5] at a5
  have := m.1
  omega
theorem mbr_x {N w h d c : Nat} {f : Nat → Bool} {σ : xS} (hx : fX w h d f σ) (hc : c < 1000) (hm : mem w h d f c = true) : mould_member N (iI (rk (mem w h d f) c : Nat)) σ = some (iI c, σ) := by
  have r1 := rk_lt hc hm
  have r2 := rk_le (mem w h d f) 1000
  unfold mould_member
  rw [hx.2.1.1, if_neg (by rw [show (0 : Int32) = iI 0 from rfl, iI_lt (by omega) (by omega) (by omega) (by omega)]; omega), if_neg (by rw [iI_le (by omega) (by omega) (by omega) (by omega)]; omega), ald_at (by omega) (by omega) (by omega), Int.toNat_natCast, hx.2.1.2 c hm]
theorem sim_shut {N : Nat} (hN : 1100 < N) {σ τ : xS} (hr : Rform σ τ) : ∃ (r : Int32), cw_shut N σ = some (r, σ) ∧ m_shut N τ = some (r, τ) := by
  rcases hr with ⟨e1, e2⟩ | ⟨w, h, d, f, hd, hx, hm, hin⟩
  · unfold cw_shut m_shut cells_isThere
    rw [e1, e2, if_pos (by decide), cal_at, if_pos rfl, if_pos (by decide)]
    exact ⟨_, rfl, rfl⟩
  · have w4 : ¬ iI (w : Int) ≤ (0 : Int32) := by rw [show (0 : Int32) = iI 0 from rfl, iI_le (by omega) (by omega) (by omega) (by omega)]; omega
    have r2 := rk_le (mem w h d f) 1000
    obtain ⟨s', k1, k2, k3⟩ := lpM (S := Int32 × xS) (mem w h d f) (fun n i s => mould_countShut_b4 N n s.1 i s.2) (fun s => some (s.1, s.2))
      (fun k s => s.1 = iI (rk (shC w h d f) k : Nat) ∧ s.2 = σ)
      (fun a b s hab hno hi => ⟨by rw [hi.1, rk_gap hab (fun c h1 h2 => by unfold shC; rw [hno c h1 h2]; rfl)], hi.2⟩)
      (fun n s hi => by rw [mould_countShut_b4, hi.2, hx.2.1.1, if_pos (by rw [iI_le (by omega) (by omega) (by omega) (by omega)]; omega)])
      (fun n c s hc hm' hi => by
        have r1 := rk_lt hc hm'
        have bc := (mem_iff.mp hm').1
        have wl := wy_lt w h d f c
        refine ⟨(iI (rk (shC w h d f) (c + 1) : Nat), σ), ?_, rfl, rfl⟩
        rw [mould_countShut_b4, hi.2, hx.2.1.1, if_neg (by rw [iI_le (by omega) (by omega) (by omega) (by omega)]; omega), ald_at (by omega) (by omega) (by omega), Int.toNat_natCast, hx.2.1.2 c hm', frw_x hd bc hx, cal_at, hi.1, rk]
        simp only [bnd_at, i_suc]
        by_cases q : wy w h d f c = 0
        · rw [if_pos (by rw [q]; decide), if_pos (by unfold shC; rw [hm', q]; rfl)]
        · rw [if_neg (by rw [show (0 : Int32) = iI 0 from rfl, iI_eq (by omega) (by omega) (by omega) (by omega)]; omega), if_neg (by unfold shC; rw [hm', decide_eq_false q]; decide), show (0 : Int32) = iI 0 from rfl, iI_add]
          rfl)
      N 0 (iI 0, σ) (by omega) (by omega) ⟨rfl, rfl⟩
    have k1 : mould_countShut N σ = some (s'.1, s'.2) := k1
    have key := lpT (S := Int32 × xS) (N := N)
      (fun n z s => m_shut_b13 N n s.1 z s.2)
      (fun n1 n z y s => m_shut_b23 N (m_shut_b13 N n1) n s.1 z y s.2)
      (fun n1 n2 n z y x s => m_shut_b34 N (m_shut_b13 N n1) (m_shut_b23 N (m_shut_b13 N n1) n2) n s.1 z y x s.2)
      (fun s => some (s.1, s.2)) 0 0 w h d
      (fun z y x s => s.1 = iI (rk (shC w h d f) (((z + 1) * 100 + (y + 1) * 10 + x + 1)).toNat : Nat) ∧ s.2 = τ ∧ 0 ≤ z)
      (by omega) (by omega) (by omega) (by omega)
      (fun n s hi => by rw [m_shut_b13, hi.2.1, hm.1.2.2.2, if_pos (by rw [iI_le (by omega) (by omega) (by omega) (by omega)]; omega)])
      (fun n z s hz hi => by rw [m_shut_b13, hi.2.1, hm.1.2.2.2, if_neg (by rw [iI_le (by omega) (by omega) (by omega) (by omega)]; omega)]; rfl)
      (fun n1 n z s hz hi => by
        have z0 := hi.2.2
        refine ⟨?_, ?_, hi.2.1, by omega⟩
        · rw [m_shut_b23, hi.2.1, hm.1.2.2.1, if_pos (by rw [iI_le (by omega) (by omega) (by omega) (by omega)]; omega), bnd_at, i_sucI]
        · rw [hi.1, rk_gap (a := (((z + 1) * 100 + (((h : Int)) + 1) * 10 + 0 + 1)).toNat) (b := ((((z + 1) + 1) * 100 + (0 + 1) * 10 + 0 + 1)).toNat) (by omega) (fun c c1 c2 => by
            cases e : shC w h d f c with
            | false => rfl
            | true => have := shC_in hd e; omega)])
      (fun n1 n z y s hz hy hy0 hi => by rw [m_shut_b23, hi.2.1, hm.1.2.2.1, if_neg (by rw [iI_le (by omega) (by omega) (by omega) (by omega)]; omega)]; rfl)
      (fun n1 n2 n z y s hz hy hy0 hi => by
        have z0 := hi.2.2
        refine ⟨?_, ?_, hi.2.1, hi.2.2⟩
        · rw [m_shut_b34, hi.2.1, hm.1.2.1, if_pos (by rw [iI_le (by omega) (by omega) (by omega) (by omega)]; omega), bnd_at, i_sucI]
        · rw [hi.1, rk_gap (a := (((z + 1) * 100 + (y + 1) * 10 + ((w : Int)) + 1)).toNat) (b := (((z + 1) * 100 + ((y + 1) + 1) * 10 + 0 + 1)).toNat) (by omega) (fun c c1 c2 => by
            cases e : shC w h d f c with
            | false => rfl
            | true => have := shC_in hd e; omega)])
      (fun n1 n2 n z y x s hz hy hx' hy0 hx0 hi => by
        have z0 := hi.2.2
        obtain ⟨c, hc⟩ : ∃ c : Nat, (c : Int) = ((z + 1) * 100 + (y + 1) * 10 + x + 1) := ⟨(((z + 1) * 100 + (y + 1) * 10 + x + 1)).toNat, by omega⟩
        have c1 : (((z + 1) * 100 + (y + 1) * 10 + x + 1)).toNat = c := by omega
        have c2 : (((z + 1) * 100 + (y + 1) * 10 + (x + 1) + 1)).toNat = c + 1 := by omega
        have bc := bx_P (w := w) (h := h) (d := d) hd (x := x) (y := y) (z := z) (by omega)
        rw [c1] at bc
        have cl := bx_lt hd bc
        have wl := wy_lt w h d f c
        rw [c1] at hi
        refine ⟨(iI (rk (shC w h d f) (c + 1) : Nat), τ), ?_, by rw [c2], rfl, z0⟩
        rw [m_shut_b34, hi.2.1, hm.1.2.1, if_neg (by rw [iI_le (by omega) (by omega) (by omega) (by omega)]; omega), idx_m, cal_at, ald_at (by omega) (by omega) (by omega), c1, hm.2.1 c cl, idx_m, cal_at, ald_at (by omega) (by omega) (by omega), c1, hi.1, rk]
        simp only [bnd_at, i_suc, i_sucI]
        cases e : f c
        · have mc := mem_iff.mpr ⟨bc, e⟩
          rw [if_pos (by decide), hm.2.2 c mc]
          by_cases q : wy w h d f c = 0
          · rw [if_pos (by rw [q]; decide), if_pos (by unfold shC; rw [mc, q]; rfl)]; rfl
          · rw [if_neg (by rw [show (0 : Int32) = iI 0 from rfl, iI_eq (by omega) (by omega) (by omega) (by omega)]; omega), if_neg (by unfold shC; rw [mc, decide_eq_false q]; decide)]; rfl
        · rw [if_neg (by decide), if_neg (by unfold shC mem; rw [e]; simp)]; rfl)
      N 0 (iI 0, τ) (by omega) (by omega) ⟨by
        show iI 0 = _
        rw [rk_gap (a := 0) (b := (((((0 : Int)) + 1) * 100 + (((0 : Int)) + 1) * 10 + ((0 : Int)) + 1)).toNat) (by omega) (fun c c1 c2 => by
          cases e : shC w h d f c with
          | false => rfl
          | true => have := shC_in hd e; omega)]
        rfl, rfl, by omega⟩
    obtain ⟨s2, j1, j2, j3, _⟩ := key
    have gp : rk (shC w h d f) 1000 = rk (shC w h d f) (((((d : Int)) + 1) * 100 + (((0 : Int)) + 1) * 10 + ((0 : Int)) + 1)).toNat := rk_gap (by omega) (fun c c1 c2 => by
      cases e : shC w h d f c with
      | false => rfl
      | true => have := shC_in hd e; omega)
    have j1 : m_shut_b13 N N 0 0 τ = _ := j1
    unfold cw_shut m_shut cells_isThere
    rw [hx.1.1, if_neg w4, cal_at, if_neg (by decide), k1, cal_at, hm.1.1, if_neg (by decide), j1, k2, k3, j2, j3, gp]
    exact ⟨_, rfl, rfl⟩
