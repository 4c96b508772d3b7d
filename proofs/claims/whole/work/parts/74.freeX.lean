/-! the class: which cells are free -/
def dX (w h d : Nat) (f : Nat → Bool) (σ : xS) : Prop := σ.1 4 = iI w ∧ σ.1 5 = iI h ∧ σ.1 6 = iI d ∧ ∀ i : Nat, i < 1000 → σ.2 2 i = iI (bI (f i))
theorem dX_fr {S T : List Nat} {w h d : Nat} {f : Nat → Bool} {σ σ' : xS} (hg : dX w h d f σ) (r : fr S T σ σ') (h1 : 4 ∉ S ∧ 5 ∉ S ∧ 6 ∉ S) (h2 : 2 ∉ T) : dX w h d f σ' := by
  unfold dX; rw [r.1 4 h1.1, r.1 5 h1.2.1, r.1 6 h1.2.2, r.2 2 h2]; exact hg
def fb (w h d : Nat) (B : Nat → Nat → Bool) (σ : xS) : Prop := ∀ c : Nat, bx w h d c → σ.2 7 c = iI (mk (fun k => B k c) 6 : Nat)
theorem mk_cong {f g : Nat → Bool} : ∀ {n : Nat}, (∀ k : Nat, k < n → f k = g k) → mk f n = mk g n
  | 0, _ => rfl
  | n + 1, h => by rw [mk, mk, mk_cong (n := n) (fun k hk => h k (by omega)), h n (by omega)]
theorem mk_or {f : Nat → Bool} {k : Nat} (hk : k < 6) : mk f 6 ||| 2 ^ k = mk (fun j => f j || decide (j = k)) 6 := by
  apply Nat.eq_of_testBit_eq
  intro i
  rw [Nat.testBit_or, mk_bit, mk_bit, Nat.testBit_two_pow]
  by_cases e : k = i
  · subst e; simp [hk]
  · have e2 : ¬ i = k := fun z => e z.symm
    simp [e, e2]
theorem fb_c {w h d : Nat} {B B' : Nat → Nat → Bool} {σ : xS} (hf : fb w h d B σ) (e : ∀ k c : Nat, k < 6 → bx w h d c → B k c = B' k c) : fb w h d B' σ := fun c hc => by
  rw [hf c hc, mk_cong (fun k hk => e k c hk hc)]
theorem xov {k : Nat} (hk : k < 6) : iI (k : Int) ^^^ 1 = iI (ov k : Nat) := by
  rcases k6 hk with rfl | rfl | rfl | rfl | rfl | rfl <;> decide
theorem in_x {N w h d k e : Nat} {f : Nat → Bool} (hd : dOk w h d) (hk : k < 6) (B : Nat → Nat → Bool) : ∀ (n m p : Nat) (σ : xS), dX w h d f σ → bx w h d p → eg w h d k p = e → ed w h d k p = m → 10 ≤ m + n → 0 < n → (m = 0 ∨ clw w h d f k (nx k p) = true) → fb w h d (fun k' i => B k' i || (decide (k' = k) && decide (eg w h d k i = e ∧ ed w h d k i < m) && clw w h d f k i)) σ → ∃ σ' : xS, mould_freeInwards_b5 N (n + 1) (iI k) (iI p) (iI m) σ = some (0, σ') ∧ fb w h d (fun k' i => B k' i || (decide (k' = k) && decide (eg w h d k i = e) && clw w h d f k i)) σ' := by
  intro n
  induction n with
  | zero => intro m p σ _ _ _ _ _ h0; omega
  | succ n ih =>
    intro m p σ hx hp he hm hn _ hcl hf
    have g1 := geo1 hd hk hp
    have pl := bx_lt hd hp
    have ro := ov_lt hk
    rw [mould_freeInwards_b5, if_neg (by rw [show (10 : Int32) = iI 10 from rfl, iI_le (by omega) (by omega) (by omega) (by omega)]; omega), if_neg (by rw [show (0 : Int32) = iI 0 from rfl, iI_lt (by omega) (by omega) (by omega) (by omega)]; omega), if_neg (by rw [show (1000 : Int32) = iI 1000 from rfl, iI_le (by omega) (by omega) (by omega) (by omega)]; omega), sol_x (b := f p) (by omega) (by omega) (by rw [Int.toNat_natCast]; exact hx.2.2.2 p pl), cal_at]
    by_cases c : f p = true
    · rw [c, if_neg (by decide)]
      refine ⟨σ, rfl, fb_c hf (fun k' i hk' hi => ?_)⟩
      by_cases q : k' = k ∧ eg w h d k i = e ∧ clw w h d f k i = true
      · have lm : ed w h d k i < m := by
          by_cases z : ed w h d k i < m
          · exact z
          · have r := clw_ray hd hk hp (ed w h d k i - m) i hi (by rw [q.2.1, he]) (by omega) q.2.2
            have := clw_f hd hk hp r
            rw [c] at this; cases this
        simp [q.1, q.2.1, q.2.2, lm]
      · congr 1
        by_cases q1 : k' = k
        · by_cases q2 : eg w h d k i = e
          · have : clw w h d f k i = false := by cases z : clw w h d f k i <;> simp_all
            simp [this]
          · simp [q2]
        · simp [q1]
    · have c0 : f p = false := by cases z : f p <;> simp_all
      have cp : clw w h d f k p = true := by
        have s := clw_s (f := f) hd hk hp
        by_cases q : 0 < ed w h d k p
        · rcases hcl with z | z
          · omega
          · rw [s.1 q, c0, z]; rfl
        · rw [s.2 (by omega), c0]; rfl
      rw [c0, if_pos (by decide), ald_at (by omega) (by omega) (by omega), Int.toNat_natCast, hf p hp, j_shl1 (by omega), j_or, ast_at (by omega) (by omega) (by omega), Int.toNat_natCast, xov hk]
      obtain ⟨σ1, hσ1⟩ : ∃ σ1 : xS, σ1 = (σ.1, va_up σ.2 7 (upd (σ.2 7) p (iI ((mk (fun k_1 => B k_1 p || (decide (k_1 = k) && decide (eg w h d k p = e ∧ ed w h d k p < m) && clw w h d f k p)) 6 ||| 2 ^ k : Nat) : Int)))) := ⟨_, rfl⟩
      rw [← hσ1]
      have hx1 : dX w h d f σ1 := by rw [hσ1]; exact hx
      have hf1 : fb w h d (fun k' i => B k' i || (decide (k' = k) && decide (eg w h d k i = e ∧ ed w h d k i < m + 1) && clw w h d f k i)) σ1 := by
        intro i hi
        rw [hσ1]
        show upd (σ.2 7) p _ i = _
        rw [upd_e]
        by_cases q : i = p
        · subst q
          rw [if_pos rfl, mk_or hk]
          congr 2
          apply mk_cong
          intro j hj
          by_cases z : j = k
          · subst z; simp [he, hm, cp]
          · simp [z]
        · rw [if_neg q, hf i hi]
          congr 2
          apply mk_cong
          intro j hj
          dsimp only
          congr 3
          apply decide_eq_decide.mpr
          constructor
          · intro z; exact ⟨z.1, by omega⟩
          · intro z
            refine ⟨z.1, ?_⟩
            by_cases y : ed w h d k i = m
            · exact absurd (geo4 hd hk hi hp (z.1.trans he.symm) (y.trans hm.symm)) q
            · omega
      rw [bes_x hd ro.1 hp hx1.1 hx1.2.1 hx1.2.2.1, cal_at, bnd_at, i_suc]
      by_cases o : ed w h d (ov k) p = 0
      · rw [if_pos o, mould_freeInwards_b5]
        refine ⟨σ1, ?_, fb_c hf1 (fun k' i hk' hi => ?_)⟩
        · rw [if_pos (show iI (-1) < (0 : Int32) by decide)]
          split <;> rfl
        · congr 3
          apply decide_eq_decide.mpr
          constructor
          · intro z; exact z.1
          · intro z; exact ⟨z, by have := geo5 hd hk hp hi (z.trans he.symm) o; omega⟩
      · have g3 := geo3 hd hk hp (by omega)
        have g1' := geo1 hd hk g3.1
        rw [if_neg o]
        exact ih (m + 1) (nx (ov k) p) σ1 hx1 g3.1 (g3.2.2.1.trans he) (by omega) (by omega) (by omega) (Or.inr (by rw [g3.2.2.2]; exact cp)) hf1
theorem edge_x {N w h d c : Nat} (hN : 100 < N) {f : Nat → Bool} (hd : dOk w h d) (hc : bx w h d c) (B : Nat → Nat → Bool) : ∀ (n k : Nat) (σ : xS), k ≤ 6 → 6 < k + n → dX w h d f σ → fb w h d (fun k' i => B k' i || (decide (k' < k ∧ eg w h d k' i = c) && clw w h d f k' i)) σ → ∃ σ' : xS, mould_freeFromEdge_b2 N n (iI c) (iI k) σ = some (0, σ') ∧ fb w h d (fun k' i => B k' i || (decide (eg w h d k' i = c) && clw w h d f k' i)) σ' := by
  intro n
  induction n with
  | zero => intro k σ h1 h2; omega
  | succ n ih =>
    intro k σ h1 h2 hx hf
    have cl := bx_lt hd hc
    rw [mould_freeFromEdge_b2]
    by_cases q : k = 6
    · rw [if_pos (by rw [q]; decide)]
      refine ⟨σ, rfl, fb_c hf (fun k' i hk' hi => ?_)⟩
      congr 2
      apply decide_eq_decide.mpr
      constructor
      · intro z; exact z.2
      · intro z; exact ⟨by omega, z⟩
    · have hk : k < 6 := by omega
      rw [if_neg (by rw [show (6 : Int32) = iI 6 from rfl, iI_le (by omega) (by omega) (by omega) (by omega)]; omega), bes_x hd hk hc hx.1 hx.2.1 hx.2.2.1, cal_at]
      by_cases o : ed w h d k c = 0
      · have g1 := geo1 hd hk hc
        obtain ⟨N, rfl⟩ : ∃ z, N = z + 1 := ⟨N - 1, by omega⟩
        have I := in_x (N := N + 1) (e := c) hd hk (fun k' i => B k' i || (decide (k' < k ∧ eg w h d k' i = c) && clw w h d f k' i)) N 0 c σ hx hc (g1.2.2.2 o) o (by omega) (by omega) (Or.inl rfl) (fb_c hf (fun k' i _ _ => by
          rw [decide_eq_false (show ¬ (eg w h d k i = c ∧ ed w h d k i < 0) from fun z => by omega)]
          simp))
        obtain ⟨σ1, I1, I2⟩ := I
        have I1 : mould_freeInwards (N + 1) (iI c) (iI k) σ = some (0, σ1) := I1
        have r := f_mould_freeInwards I1
        rw [if_pos o, if_pos (show iI (-1) = (-1 : Int32) by decide), I1, cal_at, bnd_at, i_suc]
        refine ih (k + 1) σ1 (by omega) (by omega) (dX_fr hx r (by decide) (by decide)) (fb_c I2 (fun k' i hk' hi => ?_))
        by_cases y : k' = k
        · subst y; simp
        · rw [decide_eq_false y, show (decide (k' < k + 1 ∧ eg w h d k' i = c)) = decide (k' < k ∧ eg w h d k' i = c) by
            apply decide_eq_decide.mpr
            constructor
            · intro z; exact ⟨by omega, z.2⟩
            · intro z; exact ⟨by omega, z.2⟩]
          simp
      · rw [if_neg o, if_neg (by rw [show (-1 : Int32) = iI (-1) from rfl, iI_eq (by omega) (by have := (geo2 hd hk hc (by omega)).1; have := bx_lt hd this; omega) (by omega) (by omega)]; omega), bnd_at, i_suc]
        refine ih (k + 1) σ (by omega) (by omega) hx (fb_c hf (fun k' i hk' hi => ?_))
        congr 2
        apply decide_eq_decide.mpr
        constructor
        · intro z; exact ⟨by omega, z.2⟩
        · intro z
          refine ⟨?_, z.2⟩
          by_cases y : k' = k
          · subst y
            have g1 := geo1 hd hk' hi
            rw [z.2] at g1
            exact absurd g1.2.1 o
          · omega
/-- the members as the class lists them -/
def mX (w h d : Nat) (f : Nat → Bool) (σ : xS) : Prop := σ.1 10 = iI (rk (mem w h d f) 1000 : Nat) ∧ ∀ c : Nat, mem w h d f c = true → σ.2 6 (rk (mem w h d f) c) = iI c
theorem mX_fr {S T : List Nat} {w h d : Nat} {f : Nat → Bool} {σ σ' : xS} (hg : mX w h d f σ) (r : fr S T σ σ') (h1 : 10 ∉ S) (h2 : 6 ∉ T) : mX w h d f σ' := by
  unfold mX; rw [r.1 10 h1, r.2 6 h2]; exact hg
theorem free_x {N w h d : Nat} (hN : 1000 < N) {f : Nat → Bool} (hd : dOk w h d) : ∀ (n k : Nat) (σ : xS), k ≤ 1000 → rk (mem w h d f) 1000 < rk (mem w h d f) k + n → dX w h d f σ → mX w h d f σ → fb w h d (fun k' i => clw w h d f k' i && decide (eg w h d k' i < k)) σ → ∃ σ' : xS, mould_makeAnew_b83 N n (iI (rk (mem w h d f) k : Nat)) σ = some (0, σ') ∧ fr [] [7] σ σ' ∧ fb w h d (fun k' i => clw w h d f k' i) σ' := by
  intro n
  induction n with
  | zero => intro k σ h1 h2; have := rk_mono (mem w h d f) h1; omega
  | succ n ih =>
    intro k σ h1 h2 hx hm hf
    have r1 := rk_le (mem w h d f) 1000
    have r2 := rk_mono (mem w h d f) h1
    have emp : ∀ k' i : Nat, k' < 6 → bx w h d i → clw w h d f k' i = true → mem w h d f (eg w h d k' i) = true := by
      intro k' i hk hi hc
      have g := geo1 hd hk hi
      have g' := geo1 hd hk g.1
      have c := clw_ray (f := f) hd hk g.1 (ed w h d k' i) i hi (g'.2.2.2 g.2.1).symm (by omega) hc
      exact mem_iff.mpr ⟨g.1, clw_f hd hk g.1 c⟩
    rw [mould_makeAnew_b83, hm.1]
    by_cases q : rk (mem w h d f) 1000 ≤ rk (mem w h d f) k
    · rw [if_pos (by rw [iI_le (by omega) (by omega) (by omega) (by omega)]; omega)]
      refine ⟨σ, rfl, fr_refl, fb_c hf (fun k' i hk hi => ?_)⟩
      by_cases c : clw w h d f k' i = true
      · have e := emp k' i hk hi c
        have : eg w h d k' i < k := by
          by_cases z : eg w h d k' i < k
          · exact z
          · have a1 := rk_mono (mem w h d f) (show k ≤ eg w h d k' i by omega)
            have a2 := rk_lt (bx_lt hd (geo1 hd hk hi).1) e
            omega
        simp [c, this]
      · have c0 : clw w h d f k' i = false := by cases z : clw w h d f k' i <;> simp_all
        simp [c0]
    · obtain ⟨c, c1, c2, c3, c4, c5⟩ := rk_nx (m := mem w h d f) 1000 k 1000 (by omega) (by omega)
      have cb := (mem_iff.mp c3).1
      obtain ⟨σ1, E1, E2⟩ := edge_x (N := N) (c := c) (by omega) hd cb (fun k' i => clw w h d f k' i && decide (eg w h d k' i < c)) N 0 σ (by omega) (by omega) hx (fb_c hf (fun k' i hk hi => by
        rw [decide_eq_false (show ¬ (k' < 0 ∧ eg w h d k' i = c) from fun z => by omega), Bool.false_and, Bool.or_false]
        by_cases y : clw w h d f k' i = true
        · have e := emp k' i hk hi y
          rw [y, Bool.true_and, Bool.true_and]
          apply decide_eq_decide.mpr
          constructor
          · intro z; omega
          · intro z
            by_cases z2 : eg w h d k' i < k
            · exact z2
            · have := c5 (eg w h d k' i) (by omega) z
              rw [this] at e; cases e
        · have c0 : clw w h d f k' i = false := by cases z : clw w h d f k' i <;> simp_all
          simp [c0]))
      have E1 : mould_freeFromEdge N (iI c) σ = some (0, σ1) := E1
      have r := f_mould_freeFromEdge E1
      rw [if_neg (by rw [iI_le (by omega) (by omega) (by omega) (by omega)]; omega), ald_at (by omega) (by omega) (by omega), Int.toNat_natCast, ← c4, hm.2 c c3, E1, cal_at, bnd_at, i_suc]
      have e : rk (mem w h d f) c + 1 = rk (mem w h d f) (c + 1) := by rw [rk, if_pos c3]
      rw [e]
      have fb2 : fb w h d (fun k' i => clw w h d f k' i && decide (eg w h d k' i < c + 1)) σ1 := fb_c E2 (fun k' i hk hi => by
        by_cases y : clw w h d f k' i = true
        · rw [y, Bool.true_and, Bool.and_true, Bool.true_and, ← Bool.decide_or]
          apply decide_eq_decide.mpr
          constructor
          · intro z; omega
          · intro z; omega
        · have c0 : clw w h d f k' i = false := by cases z : clw w h d f k' i <;> simp_all
          simp [c0])
      obtain ⟨σ', a1, a2, a3⟩ := ih (c + 1) σ1 (by omega) (by omega) (dX_fr hx r (by decide) (by decide)) (mX_fr hm r (by decide) (by decide)) fb2
      exact ⟨σ', a1, fr_trans r a2, a3⟩
