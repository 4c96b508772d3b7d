def mCh (N : Nat) (K : xS → Option (Int32 × xS)) (l : Int32) (σ2 : xS) : Option (Int32 × xS) := cal (m_isWord 1 3 N σ2) fun v4 σ5 => if v4 = 0 then cal (m_isWord 2 4 N σ5) fun v6 σ7 => if v6 = 0 then cal (m_isWord 3 6 N σ7) fun v8 σ9 => if v8 = 0 then cal (m_isWord 4 4 N σ9) fun v10 σ11 => if v10 = 0 then cal (m_fail N (1 : Int32) (σ11.1 1) σ11) fun _ σ13 => m_reads_b104 N K σ13 else cal (m_turns N l σ11) fun _ σ22 => m_reads_b104 N K σ22 else cal (m_mirrors N σ9) fun _ σ24 => m_reads_b104 N K σ24 else cal (m_boxes N (0 : Int32) σ7) fun _ σ26 => m_reads_b104 N K σ26 else cal (m_boxes N (1 : Int32) σ5) fun _ σ28 => m_reads_b104 N K σ28
theorem wm_le {n : Nat} {t : Nat → Int} {w b : Nat} (hw : w < 7) (h : wm n t w b) : b + Wl w ≤ n := by
  have wl := Wl_bd w hw
  have a := h.1 (Wl w - 1) (by omega)
  have c := Wd_lt w hw (Wl w - 1) (by omega)
  have := semi_p (n := n) (t := t) (b := b + (Wl w - 1)) (v := Wd w (Wl w - 1)) (by omega) a
  omega
theorem wX_n {N n : Nat} (hN : 500 < N) {t : Nat → Int} (ok : tpOk n t) {w b : Nat} (hw : w < 7) {σ : xS} (hx : tpX n t σ) (hb : b ≤ n) (h1 : σ.1 1 = iI b) (hn : ¬ wm n t w b) : reader_takeWord w N σ = some (0, σ) := (take_X hN ok hw hb hx h1).2 hn
theorem stmt_xm {N n : Nat} (hN : 1000 < N) {t : Nat → Int} (ok : tpOk n t) {w h d : Nat} (hd : dOk w h d) {g : Nat → Bool} (hin : ∀ i : Nat, g i = true → inn w h d i) (K : xS → Option (Int32 × xS)) {b : Nat} {σ τ : xS} (hx : tpX n t σ) (hg : gX w h d g σ) (hm : tpM n t τ) (hgm : gM w h d g τ) (hwd : wds τ) (hb : b < n) (hs : Sk n t b b) (hh : At b σ τ) {e : Int} (h4 : τ.1 4 = iI e) (he : -1 ≤ e ∧ e < b) : ∃ σ' τ' : xS, reader_readStatement N σ = some (0, σ') ∧ mCh N K (iI b) τ = K τ' ∧ (Fx n t σ' τ' ∨ ∃ (a' : Nat) (g' : Nat → Bool), b < a' ∧ St n t w h d a' g' σ' τ') := by
  have k := ok.1
  have nd : ∀ τ' : xS, τ'.1 4 = iI e → ¬ τ'.1 4 = iI b := fun τ' z y => by
    rw [z, iI_eq (by omega) (by omega) (by omega) (by omega)] at y; omega
  have fit : ∀ (q : Nat) (σ1 τ1 : xS), q < 4 → wm n t q b → fr [1] [] σ σ1 → σ1.1 1 = iI (b + Wl q : Nat) → τ1.1 1 = iI (b + Wl q : Nat) → fr [1, 3, 4] [] τ τ1 → tpX n t σ1 ∧ gX w h d g σ1 ∧ tpM n t τ1 ∧ gM w h d g τ1 ∧ wds τ1 ∧ b + Wl q ≤ n ∧ At (b + Wl q) σ1 τ1 := by
    intro q σ1 τ1 hq hwm f1 p1 r1 f2
    refine ⟨tpX_fr hx f1 (by decide) (by decide), gX_fr hg f1 (by decide) (by decide), tpM_fr hm f2 (by decide) (by decide), gM_fr hgm f2 (by decide) (by decide), wds_fr hwd f2 (by decide), wm_le (by omega) hwm, p1, ?_, ?_, r1, ?_, ?_⟩
    · rw [f1.1 2 (by decide)]; exact hh.2.1
    · rw [f1.1 3 (by decide)]; exact hh.2.2.1
    · rw [f2.1 5 (by decide)]; exact hh.2.2.2.2.1
    · rw [f2.1 6 (by decide)]; exact hh.2.2.2.2.2
  have up : ∀ σ' τ' : xS, ∀ q : Nat, q < 4 → (Fx n t σ' τ' ∨ ∃ (a' : Nat) (g' : Nat → Bool), b + Wl q < a' ∧ St n t w h d a' g' σ' τ') → (Fx n t σ' τ' ∨ ∃ (a' : Nat) (g' : Nat → Bool), b < a' ∧ St n t w h d a' g' σ' τ') := by
    intro σ' τ' q _ z
    rcases z with z | ⟨a', g', z1, z2⟩
    · exact Or.inl z
    · exact Or.inr ⟨a', g', by omega, z2⟩
  unfold reader_readStatement mCh
  rw [bnd_at]
  -- box
  have I0 : (wm n t 0 b → ∃ τ' : xS, m_isWord 1 3 N τ = some (1, τ') ∧ _) ∧ (¬ wm n t 0 b → ∃ τ' : xS, m_isWord 1 3 N τ = some (0, τ') ∧ _) := isw_M (N := N) (by omega) ok (w := 0) (by omega) hb hs hm hh.2.2.2.1 (nd τ h4) (hwd 0 (by omega))
  by_cases w0 : wm n t 0 b
  · obtain ⟨σ1, a1, a2, a3⟩ := (take_X (N := N) (by omega) ok (w := 0) (by omega) (show b ≤ n by omega) hx hh.1).1 w0
    obtain ⟨τ1, b1, b2, b3, b4⟩ := I0.1 w0
    obtain ⟨c1, c2, c3, c4, c5, c6, c7⟩ := fit 0 σ1 τ1 (by omega) w0 a3 a2 b2 b4
    obtain ⟨σ', τ', d1, d2, d3⟩ := block_xm hN ok hd hin true K c1 c2 c3 c4 c5 c6 c7 b3
    have d1 : reader_readBlock N 1 σ1 = some (0, σ') := d1
    have d2 : cal (m_boxes N 1 τ1) (fun _ τ1 => m_reads_b104 N K τ1) = K τ' := d2
    rw [a1, cal_at, if_neg (by decide), d1, cal_at, b1, cal_at, if_neg (by decide)]
    exact ⟨σ', τ', rfl, d2, up σ' τ' 0 (by omega) d3⟩
  obtain ⟨τ1, b1, b2, b3, b4⟩ := I0.2 w0
  rw [wX_n (N := N) (by omega) ok (w := 0) (by omega) hx (by omega) hh.1 w0, cal_at, if_pos rfl, b1, cal_at, if_pos rfl]
  have hm1 := tpM_fr hm b4 (by decide) (by decide)
  have hwd1 := wds_fr hwd b4 (by decide)
  -- hole
  have I1 : (wm n t 1 b → ∃ τ' : xS, m_isWord 2 4 N τ1 = some (1, τ') ∧ _) ∧ (¬ wm n t 1 b → ∃ τ' : xS, m_isWord 2 4 N τ1 = some (0, τ') ∧ _) := isw_M (N := N) (by omega) ok (w := 1) (by omega) hb hs hm1 b2 (nd τ1 (b3.trans h4)) (hwd1 1 (by omega))
  by_cases w1 : wm n t 1 b
  · obtain ⟨σ1, a1, a2, a3⟩ := (take_X (N := N) (by omega) ok (w := 1) (by omega) (show b ≤ n by omega) hx hh.1).1 w1
    obtain ⟨τ2, e1, e2, e3, e4⟩ := I1.1 w1
    obtain ⟨c1, c2, c3, c4, c5, c6, c7⟩ := fit 1 σ1 τ2 (by omega) w1 a3 a2 e2 (fr_trans b4 e4)
    obtain ⟨σ', τ', d1, d2, d3⟩ := block_xm hN ok hd hin false K c1 c2 c3 c4 c5 c6 c7 e3
    have d1 : reader_readBlock N 0 σ1 = some (0, σ') := d1
    have d2 : cal (m_boxes N 0 τ2) (fun _ τ1 => m_reads_b104 N K τ1) = K τ' := d2
    rw [a1, cal_at, if_neg (by decide), d1, cal_at, e1, cal_at, if_neg (by decide)]
    exact ⟨σ', τ', rfl, d2, up σ' τ' 1 (by omega) d3⟩
  obtain ⟨τ2, c1, c2, c3, c4⟩ := I1.2 w1
  rw [wX_n (N := N) (by omega) ok (w := 1) (by omega) hx (by omega) hh.1 w1, cal_at, if_pos rfl, c1, cal_at, if_pos rfl]
  have f2 := fr_trans b4 c4
  have hm2 := tpM_fr hm f2 (by decide) (by decide)
  have hwd2 := wds_fr hwd f2 (by decide)
  -- mirror
  have I2 : (wm n t 2 b → ∃ τ' : xS, m_isWord 3 6 N τ2 = some (1, τ') ∧ _) ∧ (¬ wm n t 2 b → ∃ τ' : xS, m_isWord 3 6 N τ2 = some (0, τ') ∧ _) := isw_M (N := N) (by omega) ok (w := 2) (by omega) hb hs hm2 c2 (nd τ2 (c3.trans (b3.trans h4))) (hwd2 2 (by omega))
  by_cases w2 : wm n t 2 b
  · obtain ⟨σ1, a1, a2, a3⟩ := (take_X (N := N) (by omega) ok (w := 2) (by omega) (show b ≤ n by omega) hx hh.1).1 w2
    obtain ⟨τ3, e1, e2, e3, e4⟩ := I2.1 w2
    obtain ⟨c1, c2, c3, c4, c5, c6, c7⟩ := fit 2 σ1 τ3 (by omega) w2 a3 a2 e2 (fr_trans f2 e4)
    obtain ⟨σ', τ', d1, d2, d3⟩ := mirror_xm hN ok hd hin K c1 c2 c3 c4 c5 c6 c7 e3 w2.2
    rw [a1, cal_at, if_neg (by decide), d1, cal_at, e1, cal_at, if_neg (by decide)]
    exact ⟨σ', τ', rfl, d2, up σ' τ' 2 (by omega) d3⟩
  obtain ⟨τ3, d1, d2, d3, d4⟩ := I2.2 w2
  rw [wX_n (N := N) (by omega) ok (w := 2) (by omega) hx (by omega) hh.1 w2, cal_at, if_pos rfl, d1, cal_at, if_pos rfl]
  have f3 := fr_trans f2 d4
  have hm3 := tpM_fr hm f3 (by decide) (by decide)
  have hwd3 := wds_fr hwd f3 (by decide)
  -- turn
  have I3 : (wm n t 3 b → ∃ τ' : xS, m_isWord 4 4 N τ3 = some (1, τ') ∧ _) ∧ (¬ wm n t 3 b → ∃ τ' : xS, m_isWord 4 4 N τ3 = some (0, τ') ∧ _) := isw_M (N := N) (by omega) ok (w := 3) (by omega) hb hs hm3 d2 (nd τ3 (d3.trans (c3.trans (b3.trans h4)))) (hwd3 3 (by omega))
  by_cases w3 : wm n t 3 b
  · obtain ⟨σ1, a1, a2, a3⟩ := (take_X (N := N) (by omega) ok (w := 3) (by omega) (show b ≤ n by omega) hx hh.1).1 w3
    obtain ⟨τ4, e1, e2, e3, e4⟩ := I3.1 w3
    obtain ⟨c1, c2, c3, c4, c5, c6, c7⟩ := fit 3 σ1 τ4 (by omega) w3 a3 a2 e2 (fr_trans f3 e4)
    obtain ⟨σ', τ', d1, d2, d3⟩ := turn_xm (s0 := b) hN ok hd hin K c1 c2 c3 c4 c5 c6 c7 e3
    rw [a1, cal_at, if_neg (by decide), hh.1, d1, cal_at, e1, cal_at, if_neg (by decide)]
    exact ⟨σ', τ', rfl, d2, up σ' τ' 3 (by omega) d3⟩
  obtain ⟨τ4, e1, e2, e3, e4⟩ := I3.2 w3
  have f4 := fr_trans f3 e4
  rw [wX_n (N := N) (by omega) ok (w := 3) (by omega) hx (by omega) hh.1 w3, cal_at, if_pos rfl, e1, cal_at, if_pos rfl, hh.1, ref_x _ _ hh.2.1, cal_at, e2, fail_m _ _ (by rw [f4.1 5 (by decide)]; exact hh.2.2.2.2.1), cal_at]
  obtain ⟨τ5, g1, g2, g3⟩ := semi_m' (N := N) (τ := (va_up (va_up τ4.1 5 1) 6 (iI b), τ4.2)) (show ¬ (1 : Int32) = 0 by decide) K
  exact ⟨_, τ5, rfl, g1, Or.inl ⟨⟨1, b, Or.inl rfl, rfl, rfl, g2, g3⟩, hx, b, by omega, hh.1⟩⟩
/-- both read the whole text alike -/
theorem text_xm {N n : Nat} (hN : 1000 < N) {t : Nat → Int} (ok : tpOk n t) {w h d : Nat} (hd : dOk w h d) : ∀ (m a b k : Nat) (g : Nat → Bool) (σ τ : xS) (f f' : Nat), n + 1 ≤ a + m → m < f → m < f' → k ≤ a → k ≤ 400 → Sk n t a b → tpX n t σ → gX w h d g σ → tpM n t τ → gM w h d g τ → wds τ → σ.1 1 = iI b → σ.1 2 = iI 0 → σ.1 3 = iI (-1) → τ.1 1 = iI a → τ.1 5 = iI 0 → τ.1 6 = iI (-1) → (∃ e : Int, τ.1 4 = iI e ∧ -1 ≤ e ∧ e < a) → (∀ i : Nat, g i = true → inn w h d i) → ∃ (r : Int32) (σ' τ' : xS), reader_readOnto_b21 N f (iI k) σ = some (r, σ') ∧ m_reads_b0 N f' τ = some (0, τ') ∧ ((r = 0 ∧ Fb σ' τ') ∨ (r = 1 ∧ σ'.1 2 = iI 0 ∧ σ'.1 3 = iI (-1) ∧ τ'.1 5 = iI 0 ∧ τ'.1 6 = iI (-1) ∧ ∃ g' : Nat → Bool, gX w h d g' σ' ∧ gM w h d g' τ' ∧ ∀ i : Nat, g' i = true → inn w h d i)) := by
  intro m
  induction m with
  | zero => intro a b k g σ τ f f' h1 _ _ _ _ hs; have := hs.1; have := hs.2.1; omega
  | succ m ih =>
    intro a b k g σ τ f f' h1 hf hf' hk hk4 hs hx hg hm hgm hwd e1 e2 e3 t1 t5 t6 t4 hin
    have n4 := ok.1
    have hab := hs.1
    have hbn := hs.2.1
    obtain ⟨f, rfl⟩ : ∃ z, f = z + 1 := ⟨f - 1, by omega⟩
    obtain ⟨f', rfl⟩ : ∃ z, f' = z + 1 := ⟨f' - 1, by omega⟩
    obtain ⟨τ1, d1, q1, g1⟩ := next_M (N := N) (by omega) ok hs hm t1
    have tbd := tb_bd ok b
    rw [reader_readOnto_b21, m_reads_b0, t5, if_pos (show iI 0 = (0 : Int32) from rfl), d1, cal_at]
    by_cases en : b = n
    · have tbn : tb n t b = -1 := by unfold tb; rw [if_neg (by omega)]
      have M : ∃ τ' : xS, (if iI (tb n t b) = (-1 : Int32) then some ((0 : Int32), τ1) else bnd (τ1.1 1) fun l1_3 => mCh N (m_reads_b0 N f') l1_3 τ1) = some (0, τ') ∧ τ'.1 5 = iI 0 ∧ τ'.1 6 = iI (-1) ∧ gM w h d g τ' := by
        rw [tbn, if_pos (by decide)]
        exact ⟨τ1, rfl, by rw [g1.1 5 (by decide)]; exact t5, by rw [g1.1 6 (by decide)]; exact t6, gM_fr hgm g1 (by decide) (by decide)⟩
      obtain ⟨τ', M1, M2, M3, M4⟩ := M
      refine ⟨1, σ, τ', ?_, M1, Or.inr ⟨rfl, e2, e3, M2, M3, g, hg, M4, hin⟩⟩
      by_cases c : (400 : Int32) ≤ iI k
      · rw [if_pos c, if_pos (by rw [e2]; decide)]
      · rw [if_neg c, if_pos (by rw [e2]; decide)]
        unfold tape_size
        rw [cal_at, hx.1, e1, if_pos (by rw [iI_le (by omega) (by omega) (by omega) (by omega)]; omega), if_pos (by rw [e2]; decide)]
    · have bn : b < n := by omega
      have tl := ok.2 b bn
      have tbb : tb n t b = t b := by unfold tb; rw [if_pos bn]
      obtain ⟨e, he1, he2, he3⟩ := t4
      obtain ⟨σ1, τ2, S1, S2, S3⟩ := stmt_xm (N := N) (τ := τ1) hN ok hd hin (m_reads_b0 N f') hx hg (tpM_fr hm g1 (by decide) (by decide)) (gM_fr hgm g1 (by decide) (by decide)) (wds_fr hwd g1 (by decide)) bn (Sk_s hs) ⟨e1, e2, e3, q1, by rw [g1.1 5 (by decide)]; exact t5, by rw [g1.1 6 (by decide)]; exact t6⟩ (e := e) (by rw [g1.1 4 (by decide)]; exact he1) ⟨he2, by omega⟩
      have M : (if iI (tb n t b) = (-1 : Int32) then some ((0 : Int32), τ1) else bnd (τ1.1 1) fun l1_3 => mCh N (m_reads_b0 N f') l1_3 τ1) = m_reads_b0 N f' τ2 := by
        rw [if_neg (by rw [show (-1 : Int32) = iI (-1) from rfl, iI_eq (by omega) (by omega) (by omega) (by omega)]; omega), q1, bnd_at, S2]
      have XC : (if (400 : Int32) ≤ iI k then (if σ.1 2 = (0 : Int32) then some ((1 : Int32), σ) else some (0, σ)) else if σ.1 2 = (0 : Int32) then cal (tape_size N σ) fun v6 σ7 => if v6 ≤ σ.1 1 then (if σ7.1 2 = (0 : Int32) then some ((1 : Int32), σ7) else some (0, σ7)) else cal (reader_readStatement N σ7) fun _ σ9 => cal (reader_skipBlanks N σ9) fun _ σ11 => bnd (iI k + (1 : Int32)) fun l2_12 => reader_readOnto_b21 N f l2_12 σ11 else if σ.1 2 = (0 : Int32) then some ((1 : Int32), σ) else some (0, σ)) = cal (reader_skipBlanks N σ1) fun _ σ11 => reader_readOnto_b21 N f (iI (k + 1 : Nat)) σ11 := by
        unfold tape_size
        rw [if_neg (by rw [show (400 : Int32) = iI 400 from rfl, iI_le (by omega) (by omega) (by omega) (by omega)]; omega), if_pos (by rw [e2]; decide), cal_at, hx.1, e1, if_neg (by rw [iI_le (by omega) (by omega) (by omega) (by omega)]; omega), S1, cal_at]
        simp only [bnd_at, i_suc]
      have goal2 : ∃ (r : Int32) (σ' τ' : xS), (cal (reader_skipBlanks N σ1) fun _ σ11 => reader_readOnto_b21 N f (iI (k + 1 : Nat)) σ11) = some (r, σ') ∧ m_reads_b0 N f' τ2 = some (0, τ') ∧ ((r = 0 ∧ Fb σ' τ') ∨ (r = 1 ∧ σ'.1 2 = iI 0 ∧ σ'.1 3 = iI (-1) ∧ τ'.1 5 = iI 0 ∧ τ'.1 6 = iI (-1) ∧ ∃ g' : Nat → Bool, gX w h d g' σ' ∧ gM w h d g' τ' ∧ ∀ i : Nat, g' i = true → inn w h d i)) := by
        rcases S3 with ⟨fb, hx1, a2, ha2, pa2⟩ | ⟨a2, g2, ha2, hx1, hg1, hm1, hgm1, hwd1, ha3, hat, t4', hin'⟩
        · have nz := Fb_x fb
          obtain ⟨b2, hs2⟩ := Sk_ex (n := n) (t := t) n a2 ha2 (by omega)
          obtain ⟨σ2, s1, s2, s3⟩ := skip_X (N := N) (by omega) ok hs2 hx1 pa2
          obtain ⟨f, rfl⟩ : ∃ z, f = z + 1 := ⟨f - 1, by omega⟩
          obtain ⟨f', rfl⟩ : ∃ z, f' = z + 1 := ⟨f' - 1, by omega⟩
          have n2 : ¬ σ2.1 2 = (0 : Int32) := by rw [s3.1 2 (by decide)]; exact nz.1
          refine ⟨0, σ2, τ2, ?_, ?_, Or.inl ⟨rfl, ?_⟩⟩
          · rw [s1, cal_at, reader_readOnto_b21, if_neg n2, if_neg n2]
            split <;> rfl
          · rw [m_reads_b0, if_neg nz.2]
          · obtain ⟨k, p, hk, x1, x2, x3, x4⟩ := fb
            exact ⟨k, p, hk, by rw [s3.1 2 (by decide)]; exact x1, by rw [s3.1 3 (by decide)]; exact x2, x3, x4⟩
        · obtain ⟨b2, hs2⟩ := Sk_ex (n := n) (t := t) n a2 ha3 (by omega)
          obtain ⟨σ2, s1, s2, s3⟩ := skip_X (N := N) (by omega) ok hs2 hx1 hat.1
          rw [s1, cal_at]
          exact ih a2 b2 (k + 1) g2 σ2 τ2 f f' (by omega) (by omega) (by omega) (by omega) (by omega) hs2 (tpX_fr hx1 s3 (by decide) (by decide)) (gX_fr hg1 s3 (by decide) (by decide)) hm1 hgm1 hwd1 s2 (by rw [s3.1 2 (by decide)]; exact hat.2.1) (by rw [s3.1 3 (by decide)]; exact hat.2.2.1) hat.2.2.2.1 hat.2.2.2.2.1 hat.2.2.2.2.2 t4' hin'
      obtain ⟨r, σ', τ', A1, A2, A3⟩ := goal2
      exact ⟨r, σ', τ', XC.trans A1, M.trans A2, A3⟩
