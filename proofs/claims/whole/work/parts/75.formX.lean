theorem cell_x {N w h d : Nat} (hd : dOk w h d) {f : Nat → Bool} {σ : xS} (hx : dX w h d f σ) {x y z : Int} (x1 : -2147483648 ≤ x) (x2 : x < 2147483648) (y1 : -2147483648 ≤ y) (y2 : y < 2147483648) (z1 : -2147483648 ≤ z) (z2 : z < 2147483648) : mould_cellAt N (iI x) (iI y) (iI z) σ = some (iI (if -1 ≤ x ∧ x ≤ w ∧ -1 ≤ y ∧ y ≤ h ∧ -1 ≤ z ∧ z ≤ d then (if f (((z + 1) * 100 + (y + 1) * 10 + x + 1)).toNat = true then -1 else ((z + 1) * 100 + (y + 1) * 10 + x + 1)) else -1), σ) := by
  have W : cl_areWithin 4 5 6 N (iI x) (iI y) (iI z) 1 σ = _ := win_x (N := N) (m := 1) (w := w) (h := h) (d := d) (by omega) (by omega) (by omega) hx.1 hx.2.1 hx.2.2.1 (by omega) (by omega) x1 x2 y1 y2 z1 z2
  unfold mould_cellAt
  by_cases q : -1 ≤ x ∧ x ≤ w ∧ -1 ≤ y ∧ y ≤ h ∧ -1 ≤ z ∧ z ≤ d
  · rw [if_pos (by omega)] at W
    rw [W, cal_at, if_pos q, if_neg (by decide), idx_x, cal_at, sol_x (b := f (((z + 1) * 100 + (y + 1) * 10 + x + 1)).toNat) (by omega) (by omega) (hx.2.2.2 _ (by omega)), cal_at]
    by_cases c : f (((z + 1) * 100 + (y + 1) * 10 + x + 1)).toNat = true
    · rw [if_pos c, c, if_neg (by decide)]; rfl
    · rw [if_neg c, show f (((z + 1) * 100 + (y + 1) * 10 + x + 1)).toNat = false by cases z : f (((z + 1) * 100 + (y + 1) * 10 + x + 1)).toNat <;> simp_all, if_pos (by decide)]
  · rw [if_neg (by omega)] at W
    rw [W, cal_at, if_neg q, if_pos (by decide)]; rfl
theorem bx_P {w h d : Nat} (hd : dOk w h d) {x y z : Int} (q : -1 ≤ x ∧ x ≤ w ∧ -1 ≤ y ∧ y ≤ h ∧ -1 ≤ z ∧ z ≤ d) : bx w h d (((z + 1) * 100 + (y + 1) * 10 + x + 1)).toNat := by
  have D := P_d (x := x) (y := y) (z := z) (by omega) (by omega) (by omega) (by omega) (by omega)
  omega
theorem mem_x {N w h d : Nat} (hN : 1000 < N) {f : Nat → Bool} (hd : dOk w h d) {σ : xS} (hx : dX w h d f σ) (h10 : σ.1 10 = iI 0) : ∃ σ' : xS, mould_makeAnew_b15 N N (iI (-1)) σ = mould_makeAnew_b83 N N (iI 0) σ' ∧ mX w h d f σ' ∧ fr [10] [6] σ σ' := by
  have key := lpT (S := xS) (N := N)
    (fun n z σ => mould_makeAnew_b15 N n z σ)
    (fun n1 n z y σ => mould_makeAnew_b28 N (mould_makeAnew_b15 N n1) n z y σ)
    (fun n1 n2 n z y x σ => mould_makeAnew_b41 N (mould_makeAnew_b15 N n1) (mould_makeAnew_b28 N (mould_makeAnew_b15 N n1) n2) n z y x σ)
    (fun σ => mould_makeAnew_b83 N N (iI 0) σ) (-1) (-1) (w + 1) (h + 1) (d + 1)
    (fun z y x σ' => σ'.1 10 = iI (rk (mem w h d f) (((z + 1) * 100 + (y + 1) * 10 + x + 1)).toNat : Nat) ∧ (∀ c : Nat, (c : Int) < ((z + 1) * 100 + (y + 1) * 10 + x + 1) → mem w h d f c = true → σ'.2 6 (rk (mem w h d f) c) = iI c) ∧ fr [10] [6] σ σ' ∧ -1 ≤ z)
    (by omega) (by omega) (by omega) (by omega)
    (fun n s hi => by
      have hxs := dX_fr hx hi.2.2.1 (by decide) (by decide)
      rw [mould_makeAnew_b15, hxs.2.2.1, if_pos (by rw [iI_lt (by omega) (by omega) (by omega) (by omega)]; omega)]; rfl)
    (fun n z s hz hi => by
      have hxs := dX_fr hx hi.2.2.1 (by decide) (by decide)
      rw [mould_makeAnew_b15, hxs.2.2.1, if_neg (by rw [iI_lt (by omega) (by omega) (by omega) (by omega)]; omega)]; rfl)
    (fun n1 n z s hz hi => by
      have hxs := dX_fr hx hi.2.2.1 (by decide) (by decide)
      have z0 := hi.2.2.2
      have gap : ∀ c : Nat, (((z + 1) * 100 + (((h : Int) + 1) + 1) * 10 + (-1) + 1)).toNat ≤ c → c < ((((z + 1) + 1) * 100 + ((-1) + 1) * 10 + (-1) + 1)).toNat → mem w h d f c = false := by
        intro c c1 c2
        cases e : mem w h d f c with
        | false => rfl
        | true => have := (mem_iff.mp e).1; omega
      refine ⟨?_, ?_, fun c h1 h2 => ?_, hi.2.2.1, by omega⟩
      · rw [mould_makeAnew_b28, hxs.2.1, if_pos (by rw [iI_lt (by omega) (by omega) (by omega) (by omega)]; omega), bnd_at, i_sucI]
      · rw [hi.1, rk_gap (a := (((z + 1) * 100 + (((h : Int) + 1) + 1) * 10 + (-1) + 1)).toNat) (b := ((((z + 1) + 1) * 100 + ((-1) + 1) * 10 + (-1) + 1)).toNat) (by omega) gap]
      · by_cases q : (c : Int) < ((z + 1) * 100 + (((h : Int) + 1) + 1) * 10 + (-1) + 1)
        · exact hi.2.1 c q h2
        · rw [gap c (by omega) (by omega)] at h2; cases h2)
    (fun n1 n z y s hz hy hy0 hi => by
      have hxs := dX_fr hx hi.2.2.1 (by decide) (by decide)
      rw [mould_makeAnew_b28, hxs.2.1, if_neg (by rw [iI_lt (by omega) (by omega) (by omega) (by omega)]; omega)]; rfl)
    (fun n1 n2 n z y s hz hy hy0 hi => by
      have hxs := dX_fr hx hi.2.2.1 (by decide) (by decide)
      have z0 := hi.2.2.2
      have gap : ∀ c : Nat, (((z + 1) * 100 + (y + 1) * 10 + ((w : Int) + 1) + 1)).toNat ≤ c → c < (((z + 1) * 100 + ((y + 1) + 1) * 10 + (-1) + 1)).toNat → mem w h d f c = false := by
        intro c c1 c2
        cases e : mem w h d f c with
        | false => rfl
        | true => have := (mem_iff.mp e).1; omega
      refine ⟨?_, ?_, fun c h1 h2 => ?_, hi.2.2.1, hi.2.2.2⟩
      · rw [mould_makeAnew_b41, hxs.1, if_pos (by rw [iI_lt (by omega) (by omega) (by omega) (by omega)]; omega), bnd_at, i_sucI]
      · rw [hi.1, rk_gap (a := (((z + 1) * 100 + (y + 1) * 10 + ((w : Int) + 1) + 1)).toNat) (b := (((z + 1) * 100 + ((y + 1) + 1) * 10 + (-1) + 1)).toNat) (by omega) gap]
      · by_cases q : (c : Int) < ((z + 1) * 100 + (y + 1) * 10 + ((w : Int) + 1) + 1)
        · exact hi.2.1 c q h2
        · rw [gap c (by omega) (by omega)] at h2; cases h2)
    (fun n1 n2 n z y x s hz hy hx' hy0 hx0 hi => by
      have hxs := dX_fr hx hi.2.2.1 (by decide) (by decide)
      have z0 := hi.2.2.2
      obtain ⟨c, hc⟩ : ∃ c : Nat, (c : Int) = ((z + 1) * 100 + (y + 1) * 10 + x + 1) := ⟨(((z + 1) * 100 + (y + 1) * 10 + x + 1)).toNat, by omega⟩
      have c1 : (((z + 1) * 100 + (y + 1) * 10 + x + 1)).toNat = c := by omega
      have c2 : (((z + 1) * 100 + (y + 1) * 10 + (x + 1) + 1)).toNat = c + 1 := by omega
      have bc : bx w h d c := by rw [← c1]; exact bx_P hd (by omega)
      have r1 := rk_le (mem w h d f) c
      have cl := bx_lt hd bc
      rw [mould_makeAnew_b41, hxs.1, if_neg (by rw [iI_lt (by omega) (by omega) (by omega) (by omega)]; omega), cell_x hd hxs (by omega) (by omega) (by omega) (by omega) (by omega) (by omega), cal_at, if_pos (by omega), c1]
      rw [c1] at hi
      rw [c2]
      by_cases b : f c = true
      · have mc : mem w h d f c = false := by unfold mem; rw [b]; simp
        have A : mould_addMember N (iI (if f c = true then -1 else ((z + 1) * 100 + (y + 1) * 10 + x + 1))) s = some (0, s) := by
          unfold mould_addMember; rw [if_pos b, if_pos (by decide)]
        rw [A, cal_at, bnd_at, i_sucI]
        refine ⟨s, rfl, by rw [rk, mc]; exact hi.1, fun e h1 h2 => ?_, hi.2.2⟩
        by_cases q : e = c
        · rw [q, mc] at h2; cases h2
        · exact hi.2.1 e (by omega) h2
      · have mc : mem w h d f c = true := mem_iff.mpr ⟨bc, by cases z : f c <;> simp_all⟩
        have A : mould_addMember N (iI (if f c = true then -1 else ((z + 1) * 100 + (y + 1) * 10 + x + 1))) s = some (0, (va_up s.1 10 (iI (rk (mem w h d f) (c + 1) : Nat)), va_up s.2 6 (upd (s.2 6) (rk (mem w h d f) c) (iI c)))) := by
          unfold mould_addMember
          rw [if_neg b, ← hc, if_neg (by rw [show (-1 : Int32) = iI (-1) from rfl, iI_eq (by omega) (by omega) (by omega) (by omega)]; omega), hi.1, if_neg (by rw [show (1000 : Int32) = iI 1000 from rfl, iI_le (by omega) (by omega) (by omega) (by omega)]; omega), ast_at (by omega) (by omega) (by omega), Int.toNat_natCast, put_at]
          dsimp only
          rw [hi.1, i_suc, show rk (mem w h d f) (c + 1) = rk (mem w h d f) c + 1 by rw [rk, if_pos mc]]
        have r := f_mould_addMember A
        rw [A, cal_at, bnd_at, i_sucI]
        refine ⟨_, rfl, rfl, fun e h1 h2 => ?_, fr_trans hi.2.2.1 r, hi.2.2.2⟩
        show upd (s.2 6) (rk (mem w h d f) c) (iI c) (rk (mem w h d f) e) = _
        rw [upd_e]
        by_cases q : e = c
        · rw [q, if_pos rfl]
        · have : rk (mem w h d f) e < rk (mem w h d f) c := rk_lt (by omega) h2
          rw [if_neg (by omega)]
          exact hi.2.1 e (by omega) h2)
    N (-1) σ (by omega) (by omega) ⟨by rw [h10]; rfl, fun c h1 _ => by omega, fr_refl, by omega⟩
  obtain ⟨σ', k1, k2, k3, k4, _⟩ := key
  have gap : ∀ c : Nat, (((((d : Int) + 1) + 1) * 100 + ((-1) + 1) * 10 + (-1) + 1)).toNat ≤ c → mem w h d f c = false := by
    intro c c1
    cases e : mem w h d f c with
    | false => rfl
    | true => have := (mem_iff.mp e).1; omega
  refine ⟨σ', k1, ⟨?_, fun c hc => ?_⟩, k4⟩
  · rw [k2, rk_gap (a := (((((d : Int) + 1) + 1) * 100 + ((-1) + 1) * 10 + (-1) + 1)).toNat) (b := 1000) (by omega) (fun c h1 _ => gap c h1)]
  · by_cases q : (c : Int) < ((((d : Int) + 1) + 1) * 100 + ((-1) + 1) * 10 + (-1) + 1)
    · exact k3 c q hc
    · rw [gap c (by omega)] at hc; cases hc
theorem fill_z {N a n : Nat} (hN : n < N) (hn : n < 2147483648) (v : Int32) (σ : xS) : ∃ σ' : xS, ju_fill a n N v σ = some (0, σ') ∧ (∀ i : Nat, i < n → σ'.2 a i = v) ∧ fr [] [a] σ σ' := by
  obtain ⟨σ', k1, k2, _⟩ := lpA (fun f k σ => ju_fill_b5 a n N f v k (iI n) σ) (fun σ => some ((0 : Int32), σ)) n
    (fun k s => (∀ i : Nat, (i : Int) < k → s.2 a i = v) ∧ 0 ≤ k)
    (fun f s _ => by rw [ju_fill_b5, if_pos (by rw [iI_le (by omega) (by omega) (by omega) (by omega)]; omega)])
    (fun f k s hk hi => by
      refine ⟨(s.1, va_up s.2 a (upd (s.2 a) k.toNat v)), ?_, fun i h1 => ?_, by omega⟩
      · rw [ju_fill_b5, if_neg (by rw [iI_le (by omega) (by omega) (by omega) (by omega)]; omega), ast_at (by omega) (by omega) (by omega), bnd_at, i_sucI]
      · show va_up s.2 a _ a i = _
        rw [va_up_s, upd_e]
        by_cases q : i = k.toNat
        · rw [if_pos q]
        · rw [if_neg q]; exact hi.1 i (by omega))
    N 0 σ (by omega) (by omega) ⟨fun i h1 => by omega, by omega⟩
  have E : ju_fill a n N v σ = some (0, σ') := by
    unfold ju_fill; rw [bnd_at, iI_nat]; exact k1
  exact ⟨σ', E, fun i hi => k2 i (by omega), f_ju_fill E⟩
/-- the class's mould -/
def fX (w h d : Nat) (f : Nat → Bool) (σ : xS) : Prop := dX w h d f σ ∧ mX w h d f σ ∧ ∀ c : Nat, bx w h d c → σ.2 7 c = iI (wy w h d f c : Nat)
theorem make_x {N w h d : Nat} (hN : 1000 < N) {f : Nat → Bool} (hd : dOk w h d) {σ : xS} (hx : dX w h d f σ) : ∃ σ' : xS, mould_makeAnew N σ = some (0, σ') ∧ fX w h d f σ' := by
  obtain ⟨σ1, F1, F2, F3⟩ := fill_z (N := N) (a := 7) (n := 1000) hN (by omega) 0 σ
  have hx1 := dX_fr hx F3 (by decide) (by decide)
  obtain ⟨σ2, M1, M2, M3⟩ := mem_x (N := N) (σ := (va_up σ1.1 10 0, σ1.2)) hN hd hx1 rfl
  have hx2 := dX_fr (σ := (va_up σ1.1 10 0, σ1.2)) hx1 M3 (by decide) (by decide)
  obtain ⟨σ3, R1, r3, R2⟩ := free_x (N := N) (f := f) hN hd N 0 σ2 (by omega) (by have := rk_le (mem w h d f) 1000; omega) hx2 M2 (fun c hc => by
    have := bx_lt hd hc
    rw [M3.2 7 (by decide)]
    show σ1.2 7 c = _
    rw [F2 c this, mk_cong (g := fun _ => false) (fun k hk => by simp)]
    rfl)
  have E : mould_makeAnew N σ = some (0, σ3) := by
    unfold mould_makeAnew
    rw [F1, cal_at, put_at]
    have M1 : mould_makeAnew_b15 N N (-1) (va_up σ1.1 10 0, σ1.2) = _ := M1
    rw [M1]; exact R1
  refine ⟨σ3, E, ?_, ?_, R2⟩
  · exact dX_fr hx2 r3 (by decide) (by decide)
  · exact mX_fr M2 r3 (by decide) (by decide)
theorem cnt_x {N : Nat} (hN : 1000 < N) {w h d : Nat} {f : Nat → Bool} {σ : xS} (hx : dX w h d f σ) : cells_countSolid N σ = some (iI (rk f 1000 : Nat), σ) := by
  obtain ⟨s', k1, k2, k3, _⟩ := lpA (S := Int32 × xS) (fun n k s => cells_countSolid_b4 N n s.1 k s.2) (fun s => some (s.1, s.2)) 1000
    (fun k s => s.1 = iI (rk f k.toNat : Nat) ∧ s.2 = σ ∧ 0 ≤ k)
    (fun n s _ => by rw [cells_countSolid_b4, if_pos (by decide)])
    (fun n k s hk hi => by
      refine ⟨(iI (rk f (k + 1).toNat : Nat), σ), ?_, rfl, rfl, by omega⟩
      rw [cells_countSolid_b4, if_neg (by rw [show (1000 : Int32) = iI 1000 from rfl, iI_le (by omega) (by omega) (by omega) (by omega)]; omega), ald_at (by omega) (by omega) (by omega), hi.2.1, hx.2.2.2 k.toNat (by omega), hi.1, iI_add, bnd_at, bnd_at, i_sucI, show (k + 1).toNat = k.toNat + 1 by omega, rk]
      dsimp only
      congr 2
      cases f k.toNat <;> simp [bI])
    N 0 (iI 0, σ) (by omega) (by omega) ⟨rfl, rfl, by omega⟩
  have k1 : cells_countSolid N σ = some (s'.1, s'.2) := k1
  rw [k1, k2, k3]; rfl
