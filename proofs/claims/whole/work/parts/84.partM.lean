/-! the reference parts the cells of a row of ways -/
def szN (w h d : Nat) (f : Nat → Bool) (num : Nat → Int32) (v : Nat) : Int := sumP (fun e => if (mem w h d f e && decide (num e = iI (v : Nat))) = true then 1 else 0) 1000
def tcN (w h d : Nat) (f : Nat → Bool) (num : Nat → Int32) (v : Nat) : Int := sumP (fun e => if (mem w h d f e && decide (num e = iI (v : Nat))) = true then bI (tch w h d f e 6) else 0) 1000
theorem i_inj {a b : Nat} (ha : a < 100000) (hb : b < 100000) (e : iI (a : Int) = iI (b : Int)) : a = b := by
  rw [iI_eq (by omega) (by omega) (by omega) (by omega)] at e; omega
theorem i_m1 {a : Nat} (ha : a < 100000) : iI (a : Int) ≠ iI (-1) := fun e => by
  rw [iI_eq (by omega) (by omega) (by omega) (by omega)] at e; omega
def pM (N w h d : Nat) (f : Nat → Bool) (q : Nat → Nat) (i c : Nat) (τ u : xS) : Prop := fr [18] [12, 13, 14, 15, 16, 17] τ u ∧ u.1 18 = iI ((vQ N w h d f q i + (pO N w h d (oQ w h d f q i) c).2 : Nat) : Int) ∧ (∀ e : Nat, mem w h d f e = true → u.2 12 e = nM N w h d f q i c e) ∧ (∀ v : Nat, v < vQ N w h d f q i + (pO N w h d (oQ w h d f q i) c).2 → u.2 15 v = iI (szN w h d f (nM N w h d f q i c) v) ∧ u.2 16 v = iI (tcN w h d f (nM N w h d f q i c) v) ∧ u.2 17 v = iI 0) ∧ ∀ v j : Nat, j ≤ i → vQ N w h d f q j ≤ v → v < vQ N w h d f q (j + 1) → v < vQ N w h d f q i + (pO N w h d (oQ w h d f q i) c).2 → u.2 14 v = iI (q j : Nat)
theorem pM_eq {N w h d : Nat} {f : Nat → Bool} {q : Nat → Nat} {i a b : Nat} {τ u : xS} (h1 : pO N w h d (oQ w h d f q i) b = pO N w h d (oQ w h d f q i) a) (h2 : pN N w h d (oQ w h d f q i) (nQ N w h d f q (fun _ => iI (-1)) i) (vQ N w h d f q i) b = pN N w h d (oQ w h d f q i) (nQ N w h d f q (fun _ => iI (-1)) i) (vQ N w h d f q i) a) (hp : pM N w h d f q i a τ u) : pM N w h d f q i b τ u := by
  have e : nM N w h d f q i b = nM N w h d f q i a := by funext c; exact congrFun h2 c
  unfold pM
  rw [e, h1]
  exact hp
theorem pM_fl {N ab w h d K i c : Nat} {f : Nat → Bool} {q : Nat → Nat} (hN : 1100 < N) (hab : ab = 10 ∨ ab = 11) (hK : K ≤ 6) (hi : i < K) (hd : dOk w h d) {τ u : xS} (hm : fM w h d f τ) (hq : qM ab K q τ) (hp : pM N w h d f q i c τ u) (hc : (pO N w h d (oQ w h d f q i) c).1 c = true) : ∃ u' : xS, m_hangs ab N (iI c) (iI K) (iI i) u = some (0, u') ∧ pM N w h d f q i (c + 1) τ u' := by
  have sp := pO_sp (N := N) (w := w) (h := h) (d := d) (O := oQ w h d f q i) (oQ_lt hd) c
  have vl := vQ_lt (N := N) (f := f) (q := q) hd hc
  have hm' := fM_fr hm hp.1 (by decide) (by decide)
  have hq' : qM ab K q u := fun t ht => by
    rw [hp.1.2 ab (by rcases hab with z | z <;> rw [z] <;> decide)]; exact hq t ht
  have eP : pO N w h d (oQ w h d f q i) (c + 1) = ((fl0 N w h d (pO N w h d (oQ w h d f q i) c).1 c).1, (pO N w h d (oQ w h d f q i) c).2 + 1) := by rw [pO, if_pos hc]
  have eN : ∀ e : Nat, nM N w h d f q i (c + 1) e = if ((pO N w h d (oQ w h d f q i) c).1 e && !(fl0 N w h d (pO N w h d (oQ w h d f q i) c).1 c).1 e) = true then iI ((vQ N w h d f q i + (pO N w h d (oQ w h d f q i) c).2 : Nat) : Int) else nM N w h d f q i c e := fun e => by
    show pN N w h d _ _ _ (c + 1) e = _
    rw [pN, eP]
  have ff := fl0_sp (N := N) (w := w) (h := h) (d := d) (O := (pO N w h d (oQ w h d f q i) c).1) (fun e he => oQ_lt hd e (sp.1 e he)) hc
  obtain ⟨u', a1, a2, a3, a4, a5, a6, a7, a8, a9⟩ := hangs_m (N := N) (q := q) hN hab hK hi hd (O := (pO N w h d (oQ w h d f q i) c).1) (fun e he => (oQ_iff hi).mp (sp.1 e he)) (num := nM N w h d f q i c) (fun e me ho ne be => nM_cl hd ((oQ_iff hi).mpr ⟨me, be⟩) ho (by omega) ne) vl hc hm' hq' hp.2.1 (fun e me => by
    rw [hp.2.2.1 e me]
    by_cases o : (pO N w h d (oQ w h d f q i) c).1 e = true
    · rw [if_pos o]; exact nM_op hd o
    · rw [if_neg o])
  have k1 : ∀ e : Nat, ((pO N w h d (oQ w h d f q i) c).1 e && !(fl0 N w h d (pO N w h d (oQ w h d f q i) c).1 c).1 e) = (mem w h d f e && decide (nM N w h d f q i (c + 1) e = iI ((vQ N w h d f q i + (pO N w h d (oQ w h d f q i) c).2 : Nat) : Int))) := fun e => by
    cases b : ((pO N w h d (oQ w h d f q i) c).1 e && !(fl0 N w h d (pO N w h d (oQ w h d f q i) c).1 c).1 e) with
    | true =>
      have o : (pO N w h d (oQ w h d f q i) c).1 e = true := by
        rw [Bool.and_eq_true] at b; exact b.1
      rw [((oQ_iff hi).mp (sp.1 e o)).1, eN e, if_pos b]; simp
    | false =>
      rw [eN e, if_neg (by rw [b]; decide)]
      rcases nM_rg (N := N) (f := f) (q := q) hd i c e with z | ⟨t, ht, z⟩
      · rw [z, decide_eq_false (fun y => i_m1 (by omega) y.symm), Bool.and_false]
      · rw [z, decide_eq_false (fun y => by have := i_inj (by omega) (by omega) y; omega), Bool.and_false]
  have k2 : ∀ e v : Nat, v < vQ N w h d f q i + (pO N w h d (oQ w h d f q i) c).2 → (mem w h d f e && decide (nM N w h d f q i c e = iI (v : Nat))) = (mem w h d f e && decide (nM N w h d f q i (c + 1) e = iI (v : Nat))) := fun e v hv => by
    by_cases b : ((pO N w h d (oQ w h d f q i) c).1 e && !(fl0 N w h d (pO N w h d (oQ w h d f q i) c).1 c).1 e) = true
    · rw [eN e, if_pos b]
      rw [Bool.and_eq_true] at b
      rw [nM_op hd b.1, decide_eq_false (fun y => i_m1 (by omega) y.symm), decide_eq_false (fun y => by have := i_inj (by omega) (by omega) y; omega)]
    · rw [eN e, if_neg b]
  have eV : vQ N w h d f q i + (pO N w h d (oQ w h d f q i) (c + 1)).2 = vQ N w h d f q i + (pO N w h d (oQ w h d f q i) c).2 + 1 := by rw [eP]; rfl
  refine ⟨u', a1, fr_trans hp.1 a9, by rw [eV]; exact a2, fun e me => ?_, fun v hv => ?_, fun v j hj h1 h2 hv => ?_⟩
  · rw [a3 e me, eN e]
    by_cases x : (fl0 N w h d (pO N w h d (oQ w h d f q i) c).1 c).1 e = true
    · rw [if_pos x, if_neg (by rw [x]; simp), nM_op hd (ff.1.1 e x)]
    · rw [if_neg x]
      apply if_c
      rw [show (fl0 N w h d (pO N w h d (oQ w h d f q i) c).1 c).1 e = false from Bool.eq_false_iff.mpr x]
      simp
  · rw [eV] at hv
    by_cases y : v = vQ N w h d f q i + (pO N w h d (oQ w h d f q i) c).2
    · rw [y, a5, a6, a7]
      refine ⟨congrArg iI (sumP_cong (fun e _ => ?_)), congrArg iI (sumP_cong (fun e _ => ?_)), rfl⟩
      · rw [k1 e]
      · rw [k1 e]
    · have o := a8 v y
      have g := hp.2.2.2.1 v (by omega)
      rw [o.2.1, o.2.2.1, o.2.2.2, g.1, g.2.1, g.2.2]
      refine ⟨congrArg iI (sumP_cong (fun e _ => ?_)), congrArg iI (sumP_cong (fun e _ => ?_)), rfl⟩
      · rw [k2 e v (by omega)]
      · rw [k2 e v (by omega)]
  · rw [eV] at hv
    by_cases y : v = vQ N w h d f q i + (pO N w h d (oQ w h d f q i) c).2
    · have ji : j = i := by
        by_cases z : j = i
        · exact z
        · have := vQ_mono (N := N) (w := w) (h := h) (d := d) (f := f) (q := q) (i := j + 1) (j := i) (by omega)
          omega
      rw [y, a4, ji]
    · rw [(a8 v y).1]
      exact hp.2.2.2.2 v j hj h1 h2 (by omega)
theorem pM_nx {N w h d : Nat} {f : Nat → Bool} {q : Nat → Nat} {i : Nat} {τ u : xS} (hp : pM N w h d f q i 1000 τ u) : pM N w h d f q (i + 1) 0 τ u := by
  have e : nM N w h d f q (i + 1) 0 = nM N w h d f q i 1000 := by
    funext c
    have a : nM N w h d f q (i + 1) 0 c = nQ N w h d f q (fun _ => iI (-1)) (i + 1) c := rfl
    rw [a, nQ]
  have z : pO N w h d (oQ w h d f q (i + 1)) 0 = (oQ w h d f q (i + 1), 0) := rfl
  have ev : vQ N w h d f q (i + 1) = vQ N w h d f q i + (pO N w h d (oQ w h d f q i) 1000).2 := by rw [vQ]
  unfold pM
  rw [e, z]
  dsimp only
  rw [Nat.add_zero]
  refine ⟨hp.1, ?_, hp.2.2.1, ?_, fun v j hj h1 h2 hv => ?_⟩
  · rw [ev]; exact hp.2.1
  · rw [ev]; exact hp.2.2.2.1
  · by_cases y : j = i + 1
    · rw [y] at h1; omega
    · rw [ev] at hv
      exact hp.2.2.2.2 v j (by omega) h1 h2 hv
theorem parts_w {N ab w h d K i : Nat} {f : Nat → Bool} {q : Nat → Nat} (hN : 1100 < N) (hab : ab = 10 ∨ ab = 11) (hK : K ≤ 6) (hi : i < K) (hd : dOk w h d) (K29 : Int32 → Int32 → xS → Option (Int32 × xS)) {τ u : xS} (hm : fM w h d f τ) (hq : qM ab K q τ) (hp : pM N w h d f q i 0 τ u) : ∃ u' : xS, m_parts_b37 ab N K29 N (iI K) (iI i) (iI (-1)) u = K29 (iI K) (iI (i + 1 : Nat)) u' ∧ pM N w h d f q (i + 1) 0 τ u' := by
  have key := lpX (S := xS) (N := N) (by omega) hd
    (fun n z s => m_parts_b37 ab N K29 n (iI K) (iI i) z s)
    (fun n1 n z y s => m_parts_b49 ab N K29 (m_parts_b37 ab N K29 n1) n (iI K) (iI i) z y s)
    (fun n1 n2 n z y x s => m_parts_b61 ab N K29 (m_parts_b37 ab N K29 n1) (m_parts_b49 ab N K29 (m_parts_b37 ab N K29 n1) n2) n (iI K) (iI i) z y x s)
    (fun s => K29 (iI K) (iI (i + 1 : Nat)) s) (fun _ => False)
    (fun c s => pM N w h d f q i c τ s)
    (fun a b s hab' hno hs => by
      have g := pO_gap (N := N) (w := w) (h := h) (d := d) (O := oQ w h d f q i) (num := nQ N w h d f q (fun _ => iI (-1)) i) (v := vQ N w h d f q i) (oQ_lt hd) hab' (fun c h1 h2 => by
        cases y : oQ w h d f q i c with
        | false => rfl
        | true => exact absurd (oW_b y).1 (hno c h1 h2))
      exact pM_eq g.1 g.2 hs)
    (fun n s hs => by
      have hm' := fM_fr hm hs.1 (by decide) (by decide)
      rw [m_parts_b37, hm'.1.2.2.2, if_pos (by rw [iI_lt (by omega) (by omega) (by omega) (by omega)]; omega), bnd_at, i_suc])
    (fun n c z s z1 z2 hs => by
      have hm' := fM_fr hm hs.1 (by decide) (by decide)
      rw [m_parts_b37, hm'.1.2.2.2, if_neg (by rw [iI_lt (by omega) (by omega) (by omega) (by omega)]; omega)]; rfl)
    (fun n1 n c z s z1 z2 hs => by
      have hm' := fM_fr hm hs.1 (by decide) (by decide)
      rw [m_parts_b49, hm'.1.2.2.1, if_pos (by rw [iI_lt (by omega) (by omega) (by omega) (by omega)]; omega), bnd_at, i_sucI])
    (fun n1 n c z y s z1 z2 y1 y2 hs => by
      have hm' := fM_fr hm hs.1 (by decide) (by decide)
      rw [m_parts_b49, hm'.1.2.2.1, if_neg (by rw [iI_lt (by omega) (by omega) (by omega) (by omega)]; omega)]; rfl)
    (fun n1 n2 n c z y s z1 z2 y1 y2 hs => by
      have hm' := fM_fr hm hs.1 (by decide) (by decide)
      rw [m_parts_b61, hm'.1.2.1, if_pos (by rw [iI_lt (by omega) (by omega) (by omega) (by omega)]; omega), bnd_at, i_sucI])
    (fun n1 n2 n c s bc hs => by
      have hm' := fM_fr hm hs.1 (by decide) (by decide)
      have hq' : qM ab K q s := fun t ht => by
        rw [hs.1.2 ab (by rcases hab with z | z <;> rw [z] <;> decide)]; exact hq t ht
      have cl := bx_lt hd bc
      have sk : ¬ (pO N w h d (oQ w h d f q i) c).1 c = true → pM N w h d f q i (c + 1) τ s := fun z => by
        have g := pO_skip (N := N) (w := w) (h := h) (d := d) (O := oQ w h d f q i) (num := nQ N w h d f q (fun _ => iI (-1)) i) (v := vQ N w h d f q i) z
        exact pM_eq g.1 g.2 hs
      have sp := pO_sp (N := N) (w := w) (h := h) (d := d) (O := oQ w h d f q i) (oQ_lt hd) c
      have ex : ((c % 10 : Nat) : Int) - 1 + 1 = ((c % 10 : Nat) : Int) := by omega
      refine Or.inl ?_
      rw [m_parts_b61, hm'.1.2.1, if_neg (by rw [iI_lt (by omega) (by omega) (by omega) (by omega)]; omega), idx_m, P_of, cal_at, ald_at (by omega) (by omega) (by omega), Int.toNat_natCast, hm'.2.1 c cl]
      cases fe : f c with
      | true =>
        rw [if_neg (by decide), bnd_at, i_sucI, ex]
        exact ⟨s, rfl, sk (fun z => by have := (mem_iff.mp (oW_b (sp.1 c z)).2).2; rw [fe] at this; cases this)⟩
      | false =>
        have me := mem_iff.mpr ⟨bc, fe⟩
        rw [if_pos (by decide), ald_at (by omega) (by omega) (by omega), Int.toNat_natCast, hs.2.2.1 c me]
        by_cases o : (pO N w h d (oQ w h d f q i) c).1 c = true
        · obtain ⟨s', b1, b2⟩ := pM_fl hN hab hK hi hd hm hq hs o
          rw [nM_op hd o, if_pos (by decide), bel_m (by omega) hK me cl hm' hq', cal_at, ((oQ_iff hi).mp (sp.1 c o)).2, if_pos rfl, b1, cal_at, bnd_at, i_sucI, ex]
          exact ⟨s', rfl, b2⟩
        · have pb := vQ_bd (N := N) (f := f) (q := q) hd i
          have pc : (pO N w h d (oQ w h d f q i) c).2 ≤ c := sp.2.2
          by_cases z : nM N w h d f q i c c = (-1 : Int32)
          · have nb : bel (wy w h d f c) q K 0 ≠ (i : Int) := fun be => nM_cl hd ((oQ_iff hi).mpr ⟨me, be⟩) (by cases y : (pO N w h d (oQ w h d f q i) c).1 c <;> simp_all) (by omega) z
            have bb := bel_bd (W := wy w h d f c) (q := q) K 0
            rw [if_pos z, bel_m (by omega) hK me cl hm' hq', cal_at, if_neg (by rw [iI_eq (by omega) (by omega) (by omega) (by omega)]; exact nb), bnd_at, i_sucI, ex]
            exact ⟨s, rfl, sk o⟩
          · rw [if_neg z, bnd_at, i_sucI, ex]
            exact ⟨s, rfl, sk o⟩)
    u hp
  rcases key with ⟨u', e1, p1⟩ | z
  · exact ⟨u', e1, pM_nx p1⟩
  · exact z.elim
theorem parts_l {N ab w h d K : Nat} {f : Nat → Bool} {q : Nat → Nat} (hN : 1100 < N) (hab : ab = 10 ∨ ab = 11) (hK : K ≤ 6) (hd : dOk w h d) {τ : xS} (hm : fM w h d f τ) (hq : qM ab K q τ) : ∀ (n i : Nat) (u : xS), i ≤ K → K < i + n → pM N w h d f q i 0 τ u → ∃ u' : xS, m_parts_b29 ab N n (iI K) (iI i) u = some (iI (vQ N w h d f q K : Nat), u') ∧ pM N w h d f q K 0 τ u' := by
  intro n
  induction n with
  | zero => intro i u h1 h2; omega
  | succ n ih =>
    intro i u h1 h2 hp
    rw [m_parts_b29]
    by_cases z : i = K
    · subst z
      rw [if_pos (by rw [iI_le (by omega) (by omega) (by omega) (by omega)]; omega), hp.2.1]
      exact ⟨u, rfl, hp⟩
    · obtain ⟨u1, b1, b2⟩ := parts_w hN hab hK (show i < K by omega) hd (m_parts_b29 ab N n) hm hq hp
      have b1 : m_parts_b37 ab N (m_parts_b29 ab N n) N (iI K) (iI i) (-1 : Int32) u = _ := b1
      rw [if_neg (by rw [iI_le (by omega) (by omega) (by omega) (by omega)]; omega), b1]
      exact ih (i + 1) u1 (by omega) (by omega) b2
theorem parts_m {N ab w h d K : Nat} {f : Nat → Bool} {q : Nat → Nat} (hN : 1100 < N) (hab : ab = 10 ∨ ab = 11) (hK : K ≤ 6) (hd : dOk w h d) {τ : xS} (hm : fM w h d f τ) (hq : qM ab K q τ) : ∃ u : xS, m_parts ab N (iI K) τ = some (iI (vQ N w h d f q K : Nat), u) ∧ pM N w h d f q K 0 τ u := by
  obtain ⟨u, k1, k2, k3⟩ := lpA (S := xS) (fun n k s => m_parts_b2 ab N n (iI K) k s) (fun s => m_parts_b29 ab N N (iI K) (iI 0) (va_up s.1 18 (iI 0), s.2)) 1000
    (fun k s => (∀ e : Nat, (e : Int) < k → s.2 12 e = iI (-1)) ∧ fr [18] [12, 13, 14, 15, 16, 17] τ s ∧ 0 ≤ k)
    (fun n s hs => by rw [m_parts_b2, if_pos (by decide), put_at]; rfl)
    (fun n k s hk hs => by
      have k0 := hs.2.2
      rw [m_parts_b2, if_neg (by rw [show (1000 : Int32) = iI 1000 from rfl, iI_le (by omega) (by omega) (by omega) (by omega)]; omega), ast_at (by omega) (by omega) (by omega), bnd_at, i_sucI]
      refine ⟨_, rfl, fun e he => ?_, fr_trans hs.2.1 ⟨fun _ _ => rfl, fun a ha => va_up_n _ _ (fun z => ha (by rw [z]; decide))⟩, by omega⟩
      show upd (s.2 12) k.toNat (-1) e = _
      rw [upd_e]
      by_cases y : e = k.toNat
      · rw [if_pos y]; rfl
      · rw [if_neg y]; exact hs.1 e (by omega))
    N 0 τ (by omega) (by omega) ⟨fun e he => by omega, fr_refl, by omega⟩
  have k1 : m_parts ab N (iI K) τ = _ := k1
  rw [k1]
  refine parts_l hN hab hK hd hm hq N 0 _ (by omega) (by omega) ⟨fr_trans k3.1 ⟨fun k hk => va_up_n _ _ (fun z => hk (by rw [z]; decide)), fun _ _ => rfl⟩, rfl, fun e me => ?_, fun v hv => ?_, fun v j _ _ _ hv => ?_⟩
  · exact k2 e (by have := bx_lt hd (mem_iff.mp me).1; omega)
  · have hv : v < 0 + 0 := hv
    omega
  · have hv : v < 0 + 0 := hv
    omega
