/-! a block of cells -/
abbrev blk (x0 x1 y0 y1 z0 z1 : Int) (i : Nat) : Prop := x0 + 1 ≤ ((i % 10 : Nat) : Int) ∧ ((i % 10 : Nat) : Int) ≤ x1 ∧ y0 + 1 ≤ ((i / 10 % 10 : Nat) : Int) ∧ ((i / 10 % 10 : Nat) : Int) ≤ y1 ∧ z0 + 1 ≤ ((i / 100 : Nat) : Int) ∧ ((i / 100 : Nat) : Int) ≤ z1
def opB (x0 x1 y0 y1 z0 z1 : Int) (v : Bool) (g : Nat → Bool) (i : Nat) : Bool := if blk x0 x1 y0 y1 z0 z1 i then v else g i
theorem mx_ex (a b : Int) : ∃ m : Int, a ≤ m ∧ b ≤ m ∧ (m = a ∨ m = b) := by
  by_cases q : a ≤ b
  · exact ⟨b, q, Int.le_refl b, Or.inr rfl⟩
  · exact ⟨a, Int.le_refl a, by omega, Or.inl rfl⟩
theorem fill_x {N w h d : Nat} (hN : 100 < N) {g : Nat → Bool} {v : Bool} (hd : dOk w h d) {x0 x1 y0 y1 z0 z1 : Int} (a1 : 0 ≤ x0 ∧ x0 ≤ 9 ∧ 0 ≤ x1 ∧ x1 ≤ w) (a2 : 0 ≤ y0 ∧ y0 ≤ 9 ∧ 0 ≤ y1 ∧ y1 ≤ h) (a3 : 0 ≤ z0 ∧ z0 ≤ 9 ∧ 0 ≤ z1 ∧ z1 ≤ d) {σ : xS} (hg : gX w h d g σ) (e0 : σ.2 1 0 = iI x0) (e1 : σ.2 1 1 = iI y0) : ∃ σ' : xS, draft_fillBlock_b60 N N (iI (bI v)) (iI x1) (iI y1) (iI z1) (iI z0) σ = some (0, σ') ∧ gX w h d (opB x0 x1 y0 y1 z0 z1 v g) σ' := by
  obtain ⟨bx, bx1, bx2, bx3⟩ := mx_ex x0 x1
  obtain ⟨by_, by1, by2, by3⟩ := mx_ex y0 y1
  obtain ⟨bz, bz1, bz2, bz3⟩ := mx_ex z0 z1
  have key := lpT (S := xS) (N := N)
    (fun n z σ => draft_fillBlock_b60 N n (iI (bI v)) (iI x1) (iI y1) (iI z1) z σ)
    (fun n1 n z y σ => draft_fillBlock_b72 N (draft_fillBlock_b60 N n1) n (iI (bI v)) (iI x1) (iI y1) (iI z1) z y σ)
    (fun n1 n2 n z y x σ => draft_fillBlock_b84 N (draft_fillBlock_b60 N n1) (draft_fillBlock_b72 N (draft_fillBlock_b60 N n1) n2) n (iI (bI v)) (iI x1) (iI y1) (iI z1) z y x σ)
    (fun σ => some (0, σ)) x0 y0 bx by_ bz
    (fun z y x σ' => gX w h d (fun i => if blk x0 x1 y0 y1 z0 z1 i ∧ (i : Int) < ((z + 1) * 100 + (y + 1) * 10 + x + 1) then v else g i) σ' ∧ fr [] [4] σ σ' ∧ z0 ≤ z)
    (by omega) (by omega) (by omega) (by omega)
    (fun n s hi => by
      rw [draft_fillBlock_b60, if_pos (by rw [iI_le (by omega) (by omega) (by omega) (by omega)]; omega)])
    (fun n z s hz hi => by
      have r1 : s.2 1 1 = iI y0 := by rw [hi.2.1.2 1 (by decide)]; exact e1
      rw [draft_fillBlock_b60, if_neg (by rw [iI_le (by omega) (by omega) (by omega) (by omega)]; omega), show (1 : Int32) = iI 1 from rfl, ald_at (by omega) (by omega) (by omega), show (1 : Int).toNat = 1 from rfl, r1])
    (fun n1 n z s hz hi => by
      refine ⟨?_, gX_c hi.1 (fun i h => if_c (by omega)), hi.2.1, by omega⟩
      rw [draft_fillBlock_b72, if_pos (by rw [iI_le (by omega) (by omega) (by omega) (by omega)]; omega), bnd_at, i_sucI])
    (fun n1 n z y s hz hy hy0 hi => by
      have r1 : s.2 1 0 = iI x0 := by rw [hi.2.1.2 1 (by decide)]; exact e0
      rw [draft_fillBlock_b72, if_neg (by rw [iI_le (by omega) (by omega) (by omega) (by omega)]; omega), show (0 : Int32) = iI 0 from rfl, ald_at (by omega) (by omega) (by omega), show (0 : Int).toNat = 0 from rfl, r1])
    (fun n1 n2 n z y s hz hy hy0 hi => by
      refine ⟨?_, gX_c hi.1 (fun i h => if_c (by omega)), hi.2.1, by omega⟩
      rw [draft_fillBlock_b84, if_pos (by rw [iI_le (by omega) (by omega) (by omega) (by omega)]; omega), bnd_at, i_sucI])
    (fun n1 n2 n z y x s hz hy hx hy0 hx0 hi => by
      obtain ⟨s', p1, p2, p3⟩ := put_x (N := N) (v := v) hd hi.1 (show 0 ≤ x by omega) (by omega) (show 0 ≤ y by omega) (by omega) (show 0 ≤ z by omega) (by omega)
      refine ⟨s', ?_, gX_c p2 (fun i h => ?_), fr_trans hi.2.1 p3, by omega⟩
      · rw [draft_fillBlock_b84, if_neg (by rw [iI_le (by omega) (by omega) (by omega) (by omega)]; omega), p1, cal_at, bnd_at, i_sucI]
      · by_cases q : i = (((z + 1) * 100 + (y + 1) * 10 + x + 1)).toNat
        · rw [if_pos q, if_pos (by omega)]
        · rw [if_neg q]
          exact if_c (by omega))
    N z0 σ (by omega) (by omega) ⟨gX_c hg (fun i h => by rw [if_neg (by omega)]), fr_refl, by omega⟩
  obtain ⟨σ', k1, k2, _⟩ := key
  exact ⟨σ', k1, gX_c k2 (fun i h => by unfold opB; exact if_c (by omega))⟩
theorem fill_X {N w h d : Nat} (hN : 100 < N) {g : Nat → Bool} {v : Bool} (hd : dOk w h d) {q : Nat → Int} (hq : ∀ j : Nat, j < 6 → 0 ≤ q j ∧ q j ≤ 9) {σ : xS} (hg : gX w h d g σ) (e : ∀ j : Nat, j < 6 → σ.2 1 j = iI (q j)) : ∃ σ' : xS, draft_fillBlock N (iI (bI v)) σ = some (0, σ') ∧ gX w h d (opB (q 0) (if q 0 + q 3 < w then q 0 + q 3 else w) (q 1) (if q 1 + q 4 < h then q 1 + q 4 else h) (q 2) (if q 2 + q 5 < d then q 2 + q 5 else d) v g) σ' ∧ fr [] [4] σ σ' := by
  have q0 := hq 0 (by omega)
  have q1 := hq 1 (by omega)
  have q2 := hq 2 (by omega)
  have q3 := hq 3 (by omega)
  have q4 := hq 4 (by omega)
  have q5 := hq 5 (by omega)
  obtain ⟨σ', k1, k2⟩ := fill_x (N := N) (v := v) (x0 := q 0) (x1 := if q 0 + q 3 < w then q 0 + q 3 else w) (y0 := q 1) (y1 := if q 1 + q 4 < h then q 1 + q 4 else h) (z0 := q 2) (z1 := if q 2 + q 5 < d then q 2 + q 5 else d) hN hd (by split <;> omega) (by split <;> omega) (by split <;> omega) hg (e 0 (by omega)) (e 1 (by omega))
  have E : draft_fillBlock N (iI (bI v)) σ = some (0, σ') := by
    unfold draft_fillBlock
    rw [if_pos (by decide)]
    simp only [show (0 : Int32) = iI 0 from rfl, show (1 : Int32) = iI 1 from rfl, show (2 : Int32) = iI 2 from rfl, show (3 : Int32) = iI 3 from rfl, show (4 : Int32) = iI 4 from rfl, show (5 : Int32) = iI 5 from rfl]
    simp (disch := omega) only [ald_at, show (0 : Int).toNat = 0 from rfl, show (1 : Int).toNat = 1 from rfl, show (2 : Int).toNat = 2 from rfl, show (3 : Int).toNat = 3 from rfl, show (4 : Int).toNat = 4 from rfl, show (5 : Int).toNat = 5 from rfl, e 0 (by omega), e 1 (by omega), e 2 (by omega), e 3 (by omega), e 4 (by omega), e 5 (by omega), hg.1, hg.2.1, hg.2.2.1, iI_add, iI_min, bnd_at]
    exact k1
  exact ⟨σ', E, k2, f_draft_fillBlock E⟩
theorem fill_M {N w h d : Nat} (hN : 100 < N) {g : Nat → Bool} {v : Bool} (hd : dOk w h d) {q : Nat → Int} (hq : ∀ j : Nat, j < 6 → 0 ≤ q j ∧ q j ≤ 9) {τ : xS} (hg : gM w h d g τ) (e : ∀ j : Nat, j < 6 → τ.2 7 j = iI (q j)) : ∃ τ' : xS, m_boxes_b56 N N (iI (bI v)) (iI (q 2)) τ = some (0, τ') ∧ gM w h d (opB (q 0) (if q 0 + q 3 < w then q 0 + q 3 else w) (q 1) (if q 1 + q 4 < h then q 1 + q 4 else h) (q 2) (if q 2 + q 5 < d then q 2 + q 5 else d) v g) τ' ∧ fr [] [5] τ τ' := by
  have q0 := hq 0 (by omega)
  have q1 := hq 1 (by omega)
  have q2 := hq 2 (by omega)
  have q3 := hq 3 (by omega)
  have q4 := hq 4 (by omega)
  have q5 := hq 5 (by omega)
  obtain ⟨x1, hx1⟩ : ∃ x1 : Int, x1 = if q 0 + q 3 < w then q 0 + q 3 else w := ⟨_, rfl⟩
  obtain ⟨y1, hy1⟩ : ∃ x1 : Int, x1 = if q 1 + q 4 < h then q 1 + q 4 else h := ⟨_, rfl⟩
  obtain ⟨z1, hz1⟩ : ∃ x1 : Int, x1 = if q 2 + q 5 < d then q 2 + q 5 else d := ⟨_, rfl⟩
  rw [← hx1, ← hy1, ← hz1]
  have x1b : x1 ≤ w ∧ x1 ≤ q 0 + q 3 ∧ (x1 = w ∨ x1 = q 0 + q 3) := by rw [hx1]; split <;> omega
  have y1b : y1 ≤ h ∧ y1 ≤ q 1 + q 4 ∧ (y1 = h ∨ y1 = q 1 + q 4) := by rw [hy1]; split <;> omega
  have z1b : z1 ≤ d ∧ z1 ≤ q 2 + q 5 ∧ (z1 = d ∨ z1 = q 2 + q 5) := by rw [hz1]; split <;> omega
  obtain ⟨x0, hx0⟩ : ∃ x : Int, x = q 0 := ⟨_, rfl⟩
  obtain ⟨y0, hy0⟩ : ∃ x : Int, x = q 1 := ⟨_, rfl⟩
  obtain ⟨z0, hz0⟩ : ∃ x : Int, x = q 2 := ⟨_, rfl⟩
  rw [← hx0, ← hy0, ← hz0]
  obtain ⟨bx, bx1, bx2, bx3⟩ := mx_ex x0 x1
  obtain ⟨by_, by1, by2, by3⟩ := mx_ex y0 y1
  obtain ⟨bz, bz1, bz2, bz3⟩ := mx_ex z0 z1
  have e0 := e 0 (by omega)
  have e1 := e 1 (by omega)
  have e2 := e 2 (by omega)
  have e3 := e 3 (by omega)
  have e4 := e 4 (by omega)
  have e5 := e 5 (by omega)
  have key := lpT (S := xS) (N := N)
    (fun n z σ => m_boxes_b56 N n (iI (bI v)) z σ)
    (fun n1 n z y σ => m_boxes_b88 N (m_boxes_b56 N n1) n (iI (bI v)) z y σ)
    (fun n1 n2 n z y x σ => m_boxes_b121 N (m_boxes_b56 N n1) (m_boxes_b88 N (m_boxes_b56 N n1) n2) n (iI (bI v)) z y x σ)
    (fun σ => some (0, σ)) x0 y0 bx by_ bz
    (fun z y x σ' => gM w h d (fun i => if blk x0 x1 y0 y1 z0 z1 i ∧ (i : Int) < ((z + 1) * 100 + (y + 1) * 10 + x + 1) then v else g i) σ' ∧ fr [] [5] τ σ' ∧ z0 ≤ z)
    (by omega) (by omega) (by omega) (by omega)
    (fun n s hi => by
      have r7 := hi.2.1.2 7 (by decide)
      rw [m_boxes_b56, show (2 : Int32) = iI 2 from rfl, show (5 : Int32) = iI 5 from rfl, ald_at (by omega) (by omega) (by omega), ald_at (by omega) (by omega) (by omega), show (2 : Int).toNat = 2 from rfl, show (5 : Int).toNat = 5 from rfl, r7, e2, e5, hi.1.2.2.1, iI_add]
      simp (disch := omega) only [iI_le]
      by_cases c : q 2 + q 5 ≤ bz
      · rw [if_pos c]
      · rw [if_neg c, if_pos (by omega)])
    (fun n z s hz hi => by
      have r7 := hi.2.1.2 7 (by decide)
      rw [m_boxes_b56, show (2 : Int32) = iI 2 from rfl, show (5 : Int32) = iI 5 from rfl, show (1 : Int32) = iI 1 from rfl, ald_at (by omega) (by omega) (by omega), ald_at (by omega) (by omega) (by omega), ald_at (by omega) (by omega) (by omega), show (2 : Int).toNat = 2 from rfl, show (5 : Int).toNat = 5 from rfl, show (1 : Int).toNat = 1 from rfl, r7, e2, e5, e1, hi.1.2.2.1, iI_add]
      simp (disch := omega) only [iI_le]
      rw [if_neg (by omega), if_neg (by omega), hy0])
    (fun n1 n z s hz hi => by
      refine ⟨?_, gM_c hi.1 (fun i h => if_c (by omega)), hi.2.1, by omega⟩
      have r7 := hi.2.1.2 7 (by decide)
      rw [m_boxes_b88, show (1 : Int32) = iI 1 from rfl, show (4 : Int32) = iI 4 from rfl, ald_at (by omega) (by omega) (by omega), ald_at (by omega) (by omega) (by omega), show (1 : Int).toNat = 1 from rfl, show (4 : Int).toNat = 4 from rfl, r7, e1, e4, hi.1.2.1, iI_add]
      simp (disch := omega) only [iI_le, bnd_at, iI_add]
      by_cases c : q 1 + q 4 ≤ by_
      · rw [if_pos c]
      · rw [if_neg c, if_pos (by omega)])
    (fun n1 n z y s hz hy hy0 hi => by
      have r7 := hi.2.1.2 7 (by decide)
      rw [m_boxes_b88, show (1 : Int32) = iI 1 from rfl, show (4 : Int32) = iI 4 from rfl, show (0 : Int32) = iI 0 from rfl, ald_at (by omega) (by omega) (by omega), ald_at (by omega) (by omega) (by omega), ald_at (by omega) (by omega) (by omega), show (1 : Int).toNat = 1 from rfl, show (4 : Int).toNat = 4 from rfl, show (0 : Int).toNat = 0 from rfl, r7, e1, e4, e0, hi.1.2.1, iI_add]
      simp (disch := omega) only [iI_le]
      rw [if_neg (by omega), if_neg (by omega), hx0])
    (fun n1 n2 n z y s hz hy hy0 hi => by
      refine ⟨?_, gM_c hi.1 (fun i h => if_c (by omega)), hi.2.1, by omega⟩
      have r7 := hi.2.1.2 7 (by decide)
      rw [m_boxes_b121, show (0 : Int32) = iI 0 from rfl, show (3 : Int32) = iI 3 from rfl, show (1 : Int32) = iI 1 from rfl, ald_at (by omega) (by omega) (by omega), ald_at (by omega) (by omega) (by omega), show (0 : Int).toNat = 0 from rfl, show (3 : Int).toNat = 3 from rfl, r7, e0, e3, hi.1.1, iI_add]
      simp (disch := omega) only [iI_le, bnd_at, iI_add]
      by_cases c : q 0 + q 3 ≤ bx
      · rw [if_pos c]
      · rw [if_neg c, if_pos (by omega)])
    (fun n1 n2 n z y x s hz hy hx hy0 hx0 hi => by
      have r7 := hi.2.1.2 7 (by decide)
      have P := ste_m (v := v) hd hi.1 (show 0 ≤ x by omega) (by omega) (show 0 ≤ y by omega) (by omega) (show 0 ≤ z by omega) (by omega)
      refine ⟨_, ?_, gM_c P (fun i h => ?_), fr_trans hi.2.1 ⟨fun _ _ => rfl, fun a ha => va_up_n _ _ (fun z => ha (by rw [z]; decide))⟩, by omega⟩
      · rw [m_boxes_b121, show (0 : Int32) = iI 0 from rfl, show (3 : Int32) = iI 3 from rfl, ald_at (by omega) (by omega) (by omega), ald_at (by omega) (by omega) (by omega), show (0 : Int).toNat = 0 from rfl, show (3 : Int).toNat = 3 from rfl, r7, e0, e3, hi.1.1, iI_add]
        simp (disch := omega) only [iI_le]
        rw [if_neg (by omega), if_neg (by omega), ce_m, cal_at, nb_b, ast_at (by omega) (by omega) (by omega), bnd_at, i_sucI]
      · by_cases q : i = (((z + 1) * 100 + (y + 1) * 10 + x + 1)).toNat
        · rw [if_pos q, if_pos (by omega)]
        · rw [if_neg q]
          exact if_c (by omega))
    N z0 τ (by omega) (by omega) ⟨gM_c hg (fun i h => by rw [if_neg (by omega)]), fr_refl, by omega⟩
  obtain ⟨σ', k1, k2, k3, _⟩ := key
  exact ⟨σ', k1, gM_c k2 (fun i h => by unfold opB; exact if_c (by omega)), k3⟩
