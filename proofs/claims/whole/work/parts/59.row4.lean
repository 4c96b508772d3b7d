theorem first_m {N : Nat} (hN : 10 < N) {s : oS} {al : Nat} (ok : oOk s) (hal : oAl s al) {x : Nat} (hx : x < 1024) (hs : sub_ x al) (h0 : x ≠ 0) {τ : xS} (hm : oM τ s) (ht : tM s al 0 τ) {k : Nat} (hk : k < 10) (h22 : τ.1 22 = iI k) (K : Int32 → Int32 → xS → Option (Int32 × xS)) : ∀ (n j : Nat), j ≤ (mn (oC s al x) x 10).2 → (mn (oC s al x) x 10).2 < j + n → m_row_b170 N K n (iI al) (iI (al - x : Nat)) (iI j) τ = K (iI al) (iI (al - (x - 2 ^ (mn (oC s al x) x 10).2) : Nat)) (va_up τ.1 22 (iI (k + 1 : Nat)), va_up (va_up τ.2 23 (upd (τ.2 23) k (iI (mn (oC s al x) x 10).2))) 24 (upd (τ.2 24) k (iI (oL s (mn (oC s al x) x 10).2 (Pm s.1 al 10 - Pm s.1 x 10))))) := by
  intro n
  induction n with
  | zero => intro j h1 h2; omega
  | succ n ih =>
    intro j h1 h2
    have al2 := hal.1
    have c := sub_co hx al2 hs
    have m := oM_sp ok hal hx hs h0
    have k10 : j < 10 := by have := m.2.1; omega
    rw [m_row_b170, j_bit (by omega) (by omega), j_bit (by omega) (by omega)]
    by_cases hbx : x.testBit j = true
    · have ha : al.testBit j = true := hs j k10 hbx
      obtain ⟨o1, o2, o3⟩ := co_or hx al2 hs k10 hbx
      have p1 := j_bp hbx
      have p2 := (j_pw j k10).2
      have hp := (hal.2 j k10).mp ha
      have hl := late_m hN ok hal hm c.2.1 c.2.2.2 k10 hp
      have C := oC_bd ok hal hx hs k10 hbx
      have A := oA_bd ok hal 10 x hx hs
      have cb := cnt_bd x
      have e21 := ((hm.1 j k10).2 hp).2.2
      have t1 := ht (x - 2 ^ j) (by omega) (sub_cl hx k10 hbx hs).1 (by omega)
      have t2 := ht x (by omega) hs (by omega)
      have pe : Pm s.1 (al - x) 10 = Pm s.1 al 10 - Pm s.1 x 10 := Pm_co (p := s.1) (z := al - x) (k := 10) hs c.2.2.1
      have ce : s.2.2.1 j * oL s j (Pm s.1 (al - x) 10) + oA s al 10 (x - 2 ^ j) = oC s al x j := by
        rw [pe]; rfl
      rw [if_pos ha, o3, if_neg (show ¬ iI 1 = 0 by decide), if_neg (show ¬ (iI (if false = true then 1 else 0) = (1 : Int32)) by decide), ald_at (by omega) (by omega) (by omega), hl, cal_at, j_shl1 (by omega), j_or, o1, ald_at (by omega) (by omega) (by omega), ald_at (by omega) (by omega) (by omega)]
      simp only [Int.toNat_natCast, e21, t1, t2, iI_mul, iI_add, bnd_at, ce, i_suc]
      by_cases g : j = (mn (oC s al x) x 10).2
      · have e1 : oC s al x j = oA s al 10 x := by rw [g]; exact m.2.2.2.1
        have hl2 := late_m (τ := (τ.1, va_up τ.2 23 (upd (τ.2 23) k (iI j)))) hN ok hal hm c.2.1 c.2.2.2 k10 hp
        rw [if_pos (by rw [e1]), h22, ast_at (by omega) (by omega) (by omega), Int.toNat_natCast, hl2, cal_at]
        dsimp only
        rw [h22, ast_at (by omega) (by omega) (by omega)]
        simp only [put_at, h22, Int.toNat_natCast, i_suc, bnd_at, ← g, pe]
        rfl
      · rw [if_neg (by
          rw [iI_eq (by omega) (by omega) (by omega) (by omega)]
          exact m.2.2.2.2 j (by omega) hbx)]
        exact ih (j + 1) (by omega) (by omega)
    · have g : j ≠ (mn (oC s al x) x 10).2 := fun z => hbx (by rw [z]; exact m.2.2.1)
      have g := ih (j + 1) (by omega) (by omega)
      by_cases ha : al.testBit j = true
      · have : (al - x).testBit j = true := by rw [c.2.2.1 j k10, ha]; simp [hbx]
        rw [if_pos ha, this, if_neg (show ¬ iI 1 = 0 by decide), if_pos (show (iI (if true = true then 1 else 0) = (1 : Int32)) by decide), bnd_at, i_suc]
        exact g
      · rw [if_neg ha, if_pos (by decide), bnd_at, i_suc]
        exact g
theorem keep_xm {N : Nat} (hN : 10 < N) {s : oS} {al : Nat} (ok : oOk s) (hal : oAl s al) : ∀ (n n' k x : Nat) (σ τ : xS), x < 1024 → sub_ x al → cnt x + k ≤ 10 → cnt x < n → cnt x < n' → oX σ s → tX s al (al + 1) σ → oM τ s → tM s al 0 τ → σ.1 16 = iI k → τ.1 22 = iI k → (∀ i : Nat, i < k → σ.2 23 i = τ.2 23 i ∧ σ.2 24 i = τ.2 24 i) → ∃ σ' τ' : xS, orders_keepRow_b12 N n (iI x) (iI (Pm s.1 al 10 - Pm s.1 x 10)) (iI k) σ = some (0, σ') ∧ m_row_b163 N n' (iI al) (iI (al - x : Nat)) τ = some (iI (oA s al 10 al), τ') ∧ oX σ' s ∧ oM τ' s ∧ Rrow σ' τ' ∧ σ'.2 21 al = σ.2 21 al := by
  intro n
  induction n with
  | zero => intro n' k x σ τ hx hs h1 h2; have := cnt_bd x; omega
  | succ n ih =>
    intro n' k x σ τ hx hs h1 h2 h3 hX tx hm tm e16 e22 rw_
    have al2 := hal.1
    have c := sub_co hx al2 hs
    have cb := cnt_bd x
    obtain ⟨n', rfl⟩ : ∃ q, n' = q + 1 := ⟨n' - 1, by omega⟩
    rw [orders_keepRow_b12, m_row_b163]
    by_cases h0 : x = 0
    · subst h0
      rw [if_pos (show iI ((al - 0 : Nat) : Int) = iI al from rfl), show (0 : Int32) = iI 0 from rfl]
      have t := tm al al2 (fun _ _ h => h) (by omega)
      rw [Nat.sub_self] at t
      refine ⟨σ, τ, ?_, by rw [ald_at (by omega) (by omega) (by omega), show (0 : Int).toNat = 0 from rfl, t], hX, hm, ⟨k, by omega, e16, e22, rw_⟩, rfl⟩
      by_cases q : (10 : Int32) ≤ iI k
      · rw [if_pos q]
      · rw [if_neg q, if_pos (show iI ((0 : Nat) : Int) = iI 0 from rfl)]
    · have m := oM_sp ok hal hx hs h0
      obtain ⟨o, ho, hb⟩ := bit_ex hx h0
      have cc := cnt_cl hx ho hb
      have cb2 := cnt_bd (x - 2 ^ o)
      have k10 : k < 10 := by omega
      have F := first_m hN ok hal hx hs h0 hm tm k10 e22 (m_row_b163 N n') N 0 (by omega) (by have := m.2.1; omega)
      have tx1 := (tx x (by omega) hs).2 h0
      obtain ⟨f, ef⟩ : ∃ f, f = (mn (oC s al x) x 10).2 := ⟨_, rfl⟩
      rw [← ef] at F tx1 m
      have P := P_mono ok hx hal.1 hs
      have hp := (hal.2 f m.2.1).mp (hs f m.2.1 m.2.2.1)
      have p1 := j_bp m.2.2.1
      have p2 := (j_pw f m.2.1).2
      have f10 := m.2.1
      have cf := cnt_cl hx m.2.1 m.2.2.1
      have sc := sub_cl hx m.2.1 m.2.2.1 hs
      have pc := Pm_cl (p := s.1) (k := 10) m.2.2.1 sc.2
      rw [if_pos m.2.1] at pc
      have hl := late_x (N := N) (σ := (σ.1, va_up σ.2 23 (upd (σ.2 23) k (iI f)))) ok hX m.2.1 hp P.1 P.2
      have e18 := (hX.1 f m.2.1).1
      rw [if_neg (show ¬ (10 : Int32) ≤ iI k by rw [show (10 : Int32) = iI 10 from rfl, iI_le (by omega) (by omega) (by omega) (by omega)]; omega), if_neg (show ¬ iI (x : Int) = 0 by rw [show (0 : Int32) = iI 0 from rfl, iI_eq (by omega) (by omega) (by omega) (by omega)]; omega), if_neg (show ¬ iI ((al - x : Nat) : Int) = iI al by rw [iI_eq (by omega) (by omega) (by omega) (by omega)]; omega), ald_at (by omega) (by omega) (by omega), Int.toNat_natCast, tx1, ast_at (by omega) (by omega) (by omega), Int.toNat_natCast, hl, cal_at, ast_at (by omega) (by omega) (by omega), put_at, ald_at (by omega) (by omega) (by omega), j_clr m.2.1 hx, if_pos m.2.2.1]
      have F : m_row_b170 N (m_row_b163 N n') N (iI al) (iI (al - x : Nat)) 0 τ = _ := F
      rw [F]
      have e18' : (va_up (va_up σ.2 23 (upd (σ.2 23) k (iI f))) 24 (upd (σ.2 24) k (iI (oL s f (Pm s.1 al 10 - Pm s.1 x 10))))) 18 f = iI (s.1 f) := e18
      obtain ⟨σ', τ', r1, r2, r3, r4, r5, r6⟩ := ih n' (k + 1) (x - 2 ^ f) (va_up σ.1 16 (iI (k + 1 : Nat)), va_up (va_up σ.2 23 (upd (σ.2 23) k (iI f))) 24 (upd (σ.2 24) k (iI (oL s f (Pm s.1 al 10 - Pm s.1 x 10))))) (va_up τ.1 22 (iI (k + 1 : Nat)), va_up (va_up τ.2 23 (upd (τ.2 23) k (iI f))) 24 (upd (τ.2 24) k (iI (oL s f (Pm s.1 al 10 - Pm s.1 x 10))))) (by omega) sc.1 (by rw [cf]; omega) (by rw [cf]; omega) (by rw [cf]; omega) hX tx hm tm rfl rfl (by
          intro i hi
          show upd (σ.2 23) k (iI f) i = upd (τ.2 23) k (iI f) i ∧ upd (σ.2 24) k _ i = upd (τ.2 24) k _ i
          rw [upd_e, upd_e, upd_e, upd_e]
          by_cases q : i = k
          · rw [if_pos q, if_pos q, if_pos q, if_pos q]; exact ⟨rfl, rfl⟩
          · rw [if_neg q, if_neg q, if_neg q, if_neg q]; exact rw_ i (by omega))
      refine ⟨σ', τ', ?_, r2, r3, r4, r5, r6⟩
      simp only [bnd_at, Int.toNat_natCast, i_suc]
      rw [← r1, show Pm s.1 al 10 - Pm s.1 (x - 2 ^ f) 10 = Pm s.1 al 10 - Pm s.1 x 10 + s.1 f by rw [pc]; omega, ← iI_add, ← e18']
      rfl
theorem all_m {N : Nat} {τ : xS} {s : oS} (hm : oM τ s) : ∀ (n k : Nat), k ≤ 10 → 10 < k + n → m_row_b4 N n (iI ((mk (fun o => decide (0 < s.1 o)) k : Nat) : Int)) (iI k) τ = if iI ((mk (fun o => decide (0 < s.1 o)) 10 : Nat) : Int) = 0 then some ((-1 : Int32), τ) else m_row_b39 N N (iI ((mk (fun o => decide (0 < s.1 o)) 10 : Nat) : Int)) (iI ((mk (fun o => decide (0 < s.1 o)) 10 : Nat) : Int)) τ := by
  intro n
  induction n with
  | zero => intro k h1 h2; omega
  | succ n ih =>
    intro k h1 h2
    rw [m_row_b4]
    by_cases q : (10 : Int) ≤ k
    · rw [if_pos (show (10 : Int32) ≤ iI k by rw [show (10 : Int32) = iI 10 from rfl, iI_le (by omega) (by omega) (by omega) (by omega)]; exact q), show k = 10 by omega]
    · have g := ih (k + 1) (by omega) (by omega)
      have e1 := (hm.1 k (by omega)).1
      have ml := mk_lt (fun o => decide (0 < s.1 o)) k
      have mb := mk_bit (fun o => decide (0 < s.1 o)) k k
      have p10 : 2 ^ k ≤ 1024 := (Nat.pow_le_pow_right (by omega) (by omega) : 2 ^ k ≤ 2 ^ 10)
      rw [mk] at g
      rw [if_neg (show ¬ (10 : Int32) ≤ iI k by rw [show (10 : Int32) = iI 10 from rfl, iI_le (by omega) (by omega) (by omega) (by omega)]; exact q), j_shl1 (show k < 31 by omega), j_or, j_set (show k < 10 by omega) (by omega) (by rw [mb]; simp), ald_at (by omega) (by omega) (by omega), Int.toNat_natCast, e1, bnd_at, bnd_at, i_suc]
      by_cases hp : 0 < s.1 k
      · rw [if_pos hp, if_neg (by decide)]
        rw [if_pos (by simp [hp])] at g
        exact g
      · rw [if_neg hp, if_pos (by decide)]
        rw [if_neg (by simp [hp]), Nat.add_zero] at g
        exact g
theorem sim_row {N : Nat} (hN : 1100 < N) {σ τ : xS} (h : Rord σ τ) (h' : Rrow σ τ) : ∃ (r : Int32) (σ' τ' : xS), cw_row N σ = some (r, σ') ∧ m_row N τ = some (r, τ') ∧ Rord σ' τ' ∧ Rrow σ' τ' := by
  obtain ⟨s, ok, hX, hm⟩ := id h
  have A : orders_allOrders N σ = _ := all_x (N := N) ok hX N 0 (by omega) (by omega)
  have B : m_row_b4 N N 0 0 τ = _ := all_m (N := N) hm N 0 (by omega) (by omega)
  have hal := al_ok (s := s)
  unfold cw_row orders_findRow m_row
  rw [A, B, cal_at]
  obtain ⟨al, e⟩ : ∃ al, al = mk (fun o => decide (0 < s.1 o)) 10 := ⟨_, rfl⟩
  rw [← e] at hal ⊢
  have al2 := hal.1
  by_cases q : al = 0
  · subst q
    rw [if_pos (by decide), if_pos (by decide), cal_at]
    exact ⟨_, _, _, rfl, rfl, h, h'⟩
  · have q2 : ¬ iI (al : Int) = 0 := by rw [show (0 : Int32) = iI 0 from rfl, iI_eq (by omega) (by omega) (by omega) (by omega)]; omega
    have hp : orders_poursOf N (iI al) σ = some (iI (Pm s.1 al 10), σ) := pours_x (N := N) ok hX (x := al) (by omega) N 0 (by omega) (by omega)
    rw [if_neg q2, if_neg q2, hp, cal_at, show (0 : Int32) = iI 0 from rfl, ast_at (by omega) (by omega) (by omega)]
    obtain ⟨σ1, r1, r2, r3⟩ := find_x (N := N) (by omega) ok hal N 1 (σ.1, va_up σ.2 21 (upd (σ.2 21) 0 (iI 0))) (by omega) (by omega) (by omega) hX (by
      intro y hy _
      have : y = 0 := by omega
      subst this
      exact ⟨by show upd (σ.2 21) 0 (iI 0) 0 = _; rw [upd_e, if_pos rfl, oA, if_pos rfl], fun z => absurd rfl z⟩)
    obtain ⟨τ1, g1, g2, g3⟩ := tab_m (N := N) (by omega) ok hal N (al + 1) τ (by omega) (by omega) hm (fun x hx _ hz => by omega)
    rw [show (((al + 1 : Nat) : Int) - 1) = (al : Int) by omega] at g1
    have r1 : orders_findRow_b26 N N (iI al) (iI (Pm s.1 al 10)) 1 (σ.1, va_up σ.2 21 (upd (σ.2 21) (0 : Int).toNat (iI 0))) = _ := r1
    rw [r1, g1]
    have cb := cnt_bd al
    obtain ⟨σ2, τ2, a1, a2, a3, a4, a5, a6⟩ := keep_xm (N := N) (by omega) ok hal N N 0 al (va_up σ1.1 16 (iI 0), σ1.2) (va_up τ1.1 22 (iI 0), τ1.2) al2 (fun _ _ h => h) (by omega) (by omega) (by omega) r2 r3 g2 g3 rfl rfl (fun i hi => by omega)
    rw [Nat.sub_self] at a2
    have a2 : m_row_b163 N N (iI al) (iI 0) (va_up τ1.1 22 (iI 0), τ1.2) = _ := a2
    rw [Int.sub_self] at a1
    have a1 : orders_keepRow N (iI al) σ1 = some (0, σ2) := a1
    rw [a1, a2, cal_at, ald_at (by omega) (by omega) (by omega), Int.toNat_natCast, a6, cal_at]
    have t := (r3 al (by omega) (fun _ _ h => h)).1
    exact ⟨_, _, _, rfl, by rw [← t], ⟨s, ok, a3, a4⟩, a5⟩
