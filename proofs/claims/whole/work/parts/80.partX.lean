/-- the cells of way k, when those of the ways s are gone -/
def oW (w h d : Nat) (f : Nat → Bool) (k s c : Nat) : Bool := mem w h d f c && ((wy w h d f c).testBit k && decide (wy w h d f c &&& s = 0))
theorem oW_b {w h d k s c : Nat} {f : Nat → Bool} (h1 : oW w h d f k s c = true) : bx w h d c ∧ mem w h d f c = true := by
  unfold oW at h1
  rw [Bool.and_eq_true] at h1
  exact ⟨(mem_iff.mp h1.1).1, h1.1⟩
theorem msz_x {N : Nat} {w h d : Nat} {f : Nat → Bool} {σ : xS} (hx : fX w h d f σ) : mould_size N σ = some (iI (rk (mem w h d f) 1000 : Nat), σ) := by
  unfold mould_size; rw [hx.2.1.1]
theorem open_x {N w h d k s : Nat} {f : Nat → Bool} (hN : 1100 < N) (hd : dOk w h d) (hk : k < 6) (hs : s < 64) {σ : xS} (hx : fX w h d f σ) : ∃ σ' : xS, parting_openCells N (iI k) (iI s) σ = some (0, σ') ∧ (∀ e : Nat, e < 1000 → σ'.2 16 e = if oW w h d f k s e = true then iI (-2) else σ.2 16 e) ∧ fr [] [16] σ σ' := by
  have r2 := rk_le (mem w h d f) 1000
  obtain ⟨σ', k1, k2, k3⟩ := lpM (S := xS) (mem w h d f) (fun n i u => parting_openCells_b2 N n (iI k) (iI s) i u) (fun u => some ((0 : Int32), u))
    (fun a u => (∀ e : Nat, e < 1000 → u.2 16 e = if oW w h d f k s e = true ∧ e < a then iI (-2) else σ.2 16 e) ∧ fr [] [16] σ u)
    (fun a b u hab hno hi => ⟨fun e he => by
      rw [hi.1 e he]
      apply if_c
      constructor
      · intro z; exact ⟨z.1, by omega⟩
      · intro z
        refine ⟨z.1, ?_⟩
        by_cases y : e < a
        · exact y
        · have := hno e (by omega) z.2
          exact absurd ((oW_b z.1).2.symm.trans this) (by decide), hi.2⟩)
    (fun n u hi => by
      have hxu := fX_fr hx hi.2 (by decide) (by decide)
      rw [parting_openCells_b2, msz_x hxu, cal_at, if_pos (by rw [iI_le (by omega) (by omega) (by omega) (by omega)]; omega)])
    (fun n c u hc hm hi => by
      have hxu := fX_fr hx hi.2 (by decide) (by decide)
      have r1 := rk_lt hc hm
      have bc := (mem_iff.mp hm).1
      have wl := wy_lt w h d f c
      have al := Nat.and_le_left (n := wy w h d f c) (m := s)
      rw [parting_openCells_b2, msz_x hxu, cal_at, if_neg (by rw [iI_le (by omega) (by omega) (by omega) (by omega)]; omega), mbr_x hxu hc hm, cal_at, frw_x hd bc hxu, cal_at, j_bit (by omega) (by omega), j_and]
      simp only [bnd_at, i_suc]
      have keep : oW w h d f k s c = false → (∀ e : Nat, e < 1000 → u.2 16 e = if oW w h d f k s e = true ∧ e < c + 1 then iI (-2) else σ.2 16 e) := by
        intro o e he
        rw [hi.1 e he]
        apply if_c
        constructor
        · intro z; exact ⟨z.1, by omega⟩
        · intro z
          refine ⟨z.1, ?_⟩
          by_cases y : e = c
          · rw [y, o] at z; cases z.1
          · omega
      by_cases b : (wy w h d f c).testBit k = true
      · rw [if_pos b, if_pos (show iI 1 = (1 : Int32) by decide)]
        by_cases q : wy w h d f c &&& s = 0
        · have o : oW w h d f k s c = true := by unfold oW; rw [hm, b, q]; rfl
          rw [if_pos (by rw [q]; decide), ast_at (by omega) (by omega) (by omega), Int.toNat_natCast]
          refine ⟨_, rfl, fun e he => ?_, fr_trans hi.2 ⟨fun _ _ => rfl, fun a ha => va_up_n _ _ (fun z => ha (by rw [z]; decide))⟩⟩
          show upd (u.2 16) c (-2) e = _
          rw [upd_e]
          by_cases y : e = c
          · rw [if_pos y, y, if_pos ⟨o, by omega⟩]; rfl
          · rw [if_neg y, hi.1 e he]
            apply if_c
            constructor
            · intro z; exact ⟨z.1, by omega⟩
            · intro z; exact ⟨z.1, by omega⟩
        · rw [if_neg (by rw [show (0 : Int32) = iI 0 from rfl, iI_eq (by omega) (by omega) (by omega) (by omega)]; omega)]
          exact ⟨u, rfl, keep (by unfold oW; rw [decide_eq_false q]; simp), hi.2⟩
      · rw [if_neg b, if_neg (show ¬ iI 0 = (1 : Int32) by decide)]
        exact ⟨u, rfl, keep (by unfold oW; rw [show (wy w h d f c).testBit k = false by cases z : (wy w h d f c).testBit k <;> simp_all]; simp), hi.2⟩)
    N 0 σ (by omega) (by omega) ⟨fun e he => by rw [if_neg (fun z => by omega)], fr_refl⟩
  refine ⟨σ', k1, fun e he => ?_, k3⟩
  rw [k2 e he]
  apply if_c
  constructor
  · intro z; exact z.1
  · intro z; exact ⟨z, he⟩
theorem pN_ne {N w h d : Nat} {O : Nat → Bool} {num : Nat → Int32} {v : Nat} (hv : v ≤ 1000) (hO : ∀ c : Nat, O c = true → c < 1000) (hn : ∀ c : Nat, c < 1000 → O c = false → num c ≠ iI (-2)) : ∀ (k e : Nat), k ≤ 1000 → e < 1000 → (pO N w h d O k).1 e = false → pN N w h d O num v k e ≠ iI (-2)
  | 0, e, _, he, ho => hn e he ho
  | k + 1, e, hk, he, ho => by
    have sp := pO_sp (N := N) (w := w) (h := h) (d := d) hO k
    rw [pN]
    by_cases q : ((pO N w h d O k).1 e && !(pO N w h d O (k + 1)).1 e) = true
    · rw [if_pos q]
      intro z
      rw [iI_eq (by omega) (by omega) (by omega) (by omega)] at z
      omega
    · rw [if_neg q]
      rw [ho] at q
      exact pN_ne hv hO hn k e (by omega) he (by cases y : (pO N w h d O k).1 e <;> simp_all)
theorem part_x {N w h d k s v : Nat} {f : Nat → Bool} (hN : 1100 < N) (hd : dOk w h d) (hk : k < 6) (hs : s < 64) (hv : v ≤ 1000) {σ : xS} (hx : fX w h d f σ) (h16 : ∀ e : Nat, e < 1000 → σ.2 16 e ≠ iI (-2)) : ∃ σ' : xS, parting_part N (iI k) (iI s) (iI v) σ = some (iI ((pO N w h d (oW w h d f k s) 1000).2 : Nat), σ') ∧ (∀ e : Nat, e < 1000 → σ'.2 16 e = pN N w h d (oW w h d f k s) (σ.2 16) v 1000 e) ∧ (∀ e : Nat, e < 1000 → σ'.2 16 e ≠ iI (-2)) ∧ fr [] [16, 17] σ σ' := by
  have r2 := rk_le (mem w h d f) 1000
  have hO : ∀ c : Nat, oW w h d f k s c = true → c < 1000 := fun c hc => bx_lt hd (oW_b hc).1
  obtain ⟨σ1, O1, O2, O3⟩ := open_x (N := N) hN hd hk hs hx
  have hx1 := fX_fr hx O3 (by decide) (by decide)
  obtain ⟨u, k1, k2, k3, k4⟩ := lpM (S := Int32 × xS) (mem w h d f) (fun n i u => parting_part_b12 N n (iI v) u.1 i u.2) (fun u => some (u.1 - iI v, u.2))
    (fun a u => u.1 = iI (v + (pO N w h d (oW w h d f k s) a).2 : Nat) ∧ (∀ e : Nat, e < 1000 → u.2.2 16 e = if (pO N w h d (oW w h d f k s) a).1 e = true then iI (-2) else pN N w h d (oW w h d f k s) (σ.2 16) v a e) ∧ fr [] [16, 17] σ1 u.2)
    (fun a b u hab hno hi => by
      have g := pO_gap (N := N) (w := w) (h := h) (d := d) (num := σ.2 16) (v := v) hO hab (fun c h1 h2 => by
        cases y : oW w h d f k s c with
        | false => rfl
        | true => have := (oW_b y).2; rw [hno c h1 h2] at this; cases this)
      rw [g.1, g.2]; exact hi)
    (fun n u hi => by
      have hxu := fX_fr hx1 hi.2.2 (by decide) (by decide)
      rw [parting_part_b12, msz_x hxu, cal_at, if_pos (by rw [iI_le (by omega) (by omega) (by omega) (by omega)]; omega)])
    (fun n c u hc hm hi => by
      have hxu := fX_fr hx1 hi.2.2 (by decide) (by decide)
      have r1 := rk_lt hc hm
      have sp := pO_sp (N := N) (w := w) (h := h) (d := d) hO c
      have NA : parting_numberAt N (iI c) u.2 = some (u.2.2 16 c, u.2) := by
        unfold parting_numberAt
        rw [if_neg (by rw [show (0 : Int32) = iI 0 from rfl, iI_lt (by omega) (by omega) (by omega) (by omega)]; omega), if_neg (by rw [show (1000 : Int32) = iI 1000 from rfl, iI_le (by omega) (by omega) (by omega) (by omega)]; omega), ald_at (by omega) (by omega) (by omega), Int.toNat_natCast]
      rw [parting_part_b12, msz_x hxu, cal_at, if_neg (by rw [iI_le (by omega) (by omega) (by omega) (by omega)]; omega), mbr_x hxu hc hm, cal_at, NA, cal_at, hi.2.1 c hc, pO]
      by_cases q : (pO N w h d (oW w h d f k s) c).1 c = true
      · obtain ⟨σ2, S1, S2, S3⟩ := spread_x (N := N) (num := pN N w h d (oW w h d f k s) (σ.2 16) v c) (v := (v + (pO N w h d (oW w h d f k s) c).2 : Nat)) hN hd (O := (pO N w h d (oW w h d f k s) c).1) (fun e he => (oW_b (sp.1 e he)).1) (fun e he ho => pN_ne hv hO (fun c hc _ => h16 c hc) c e (by omega) he ho) (by omega) (by omega) q hxu.1 hi.2.1
        rw [if_pos q, if_pos (by decide), if_pos q, hi.1, S1, cal_at]
        simp only [bnd_at, i_suc]
        refine ⟨(iI (v + (pO N w h d (oW w h d f k s) c).2 + 1 : Nat), σ2), rfl, rfl, fun e he => ?_, fr_trans hi.2.2 S3⟩
        rw [S2 e he, pN, pO, if_pos q]
        dsimp only
        by_cases y : (fl0 N w h d (pO N w h d (oW w h d f k s) c).1 c).1 e = true
        · rw [if_pos y, if_pos y]
        · rw [if_neg y, if_neg y]
          apply if_c
          have y0 : (fl0 N w h d (pO N w h d (oW w h d f k s) c).1 c).1 e = false := by cases z : (fl0 N w h d (pO N w h d (oW w h d f k s) c).1 c).1 e <;> simp_all
          rw [y0]; simp
      · have ne := pN_ne (N := N) (w := w) (h := h) (d := d) hv hO (fun c hc _ => h16 c hc) c c (by omega) hc (by cases z : (pO N w h d (oW w h d f k s) c).1 c <;> simp_all)
        rw [if_neg q, if_neg (show ¬ pN N w h d (oW w h d f k s) (σ.2 16) v c c = (-2 : Int32) from ne), if_neg q]
        simp only [bnd_at, i_suc]
        refine ⟨u, rfl, hi.1, fun e he => ?_, hi.2.2⟩
        rw [hi.2.1 e he, pN, pO, if_neg q]
        congr 1
        rw [if_neg (by cases (pO N w h d (oW w h d f k s) c).1 e <;> simp)])
    N 0 (iI v, σ1) (by omega) (by omega) ⟨rfl, O2, fr_refl⟩
  have sp := pO_sp (N := N) (w := w) (h := h) (d := d) hO 1000
  have E : parting_part N (iI k) (iI s) (iI v) σ = some (iI ((pO N w h d (oW w h d f k s) 1000).2 : Nat), u.2) := by
    unfold parting_part
    have k1 : parting_part_b12 N N (iI v) (iI v) 0 σ1 = some (u.1 - iI v, u.2) := k1
    rw [O1, cal_at, k1, k2, iI_sub, show (((v + (pO N w h d (oW w h d f k s) 1000).2 : Nat) : Int) - (v : Int)) = (((pO N w h d (oW w h d f k s) 1000).2 : Nat) : Int) by omega]
  have V : ∀ e : Nat, e < 1000 → u.2.2 16 e = pN N w h d (oW w h d f k s) (σ.2 16) v 1000 e := fun e he => by
    rw [k3 e he, if_neg (by rw [sp.2.1 e he]; decide)]
  refine ⟨u.2, E, V, fun e he => ?_, f_parting_part E⟩
  rw [V e he]
  exact pN_ne hv hO (fun c hc _ => h16 c hc) 1000 e (by omega) he (sp.2.1 e he)
