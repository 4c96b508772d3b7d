/-! a flood over open cells: open, queue, its length -/
abbrev fS : Type := (Nat → Bool) × (Nat → Nat) × Nat
def rch (s : fS) (e : Nat) : fS := if s.1 e = true then ((fun i => if i = e then false else s.1 i), (fun j => if j = s.2.2 then e else s.2.1 j), s.2.2 + 1) else s
def xpd (w h d x : Nat) : Nat → fS → fS
  | 0, s => s
  | k + 1, s => if ed w h d k x = 0 then xpd w h d x k s else rch (xpd w h d x k s) (nx k x)
def fld (w h d : Nat) : Nat → fS → Nat → fS
  | 0, s, _ => s
  | n + 1, s, p => if s.2.2 ≤ p then s else fld w h d n (xpd w h d (s.2.1 p) 6 s) (p + 1)
def FI (O : Nat → Bool) (s : fS) : Prop := (∀ c : Nat, s.1 c = true → O c = true) ∧ (∀ j : Nat, j < s.2.2 → O (s.2.1 j) = true ∧ s.1 (s.2.1 j) = false) ∧ ∀ t : Nat → Int, sumP (fun j => t (s.2.1 j)) s.2.2 = sumP (fun c => if (O c && !s.1 c) = true then t c else 0) 1000
theorem sumP_at {A A' : Nat → Bool} {t : Nat → Int} {e : Nat} (h0 : A e = false) (h1 : A' e = true) (h2 : ∀ c : Nat, c ≠ e → A' c = A c) : ∀ k : Nat, sumP (fun c => if A' c = true then t c else 0) k = sumP (fun c => if A c = true then t c else 0) k + if e < k then t e else 0
  | 0 => by rw [sumP, sumP, if_neg (by omega)]; rfl
  | k + 1 => by
    rw [sumP, sumP, sumP_at h0 h1 h2 k]
    by_cases q : k = e
    · subst q
      rw [if_neg (show ¬ k < k by omega), if_pos (show k < k + 1 by omega), h0, h1]; simp
    · rw [h2 k q]
      by_cases z : e < k
      · rw [if_pos z, if_pos (show e < k + 1 by omega)]; omega
      · rw [if_neg z, if_neg (show ¬ e < k + 1 by omega)]; omega
theorem FI_r {O : Nat → Bool} (hO : ∀ c : Nat, O c = true → c < 1000) {s : fS} (h : FI O s) (e : Nat) : FI O (rch s e) ∧ s.2.2 ≤ (rch s e).2.2 ∧ ∀ j : Nat, j < s.2.2 → (rch s e).2.1 j = s.2.1 j := by
  unfold rch
  by_cases q : s.1 e = true
  · rw [if_pos q]
    refine ⟨⟨fun c hc => ?_, fun j hj => ?_, fun t => ?_⟩, by show s.2.2 ≤ s.2.2 + 1; omega, fun j hj => ?_⟩
    · dsimp only at hc
      by_cases z : c = e
      · rw [if_pos z] at hc; cases hc
      · rw [if_neg z] at hc; exact h.1 c hc
    · dsimp only at hj ⊢
      by_cases z : j = s.2.2
      · rw [if_pos z, if_pos rfl]; exact ⟨h.1 e q, rfl⟩
      · rw [if_neg z]
        have := h.2.1 j (by omega)
        refine ⟨this.1, ?_⟩
        by_cases y : s.2.1 j = e
        · rw [if_pos y]
        · rw [if_neg y]; exact this.2
    · dsimp only
      rw [sumP, if_pos rfl, sumP_cong (g := fun j => t (s.2.1 j)) (fun j hj => by rw [if_neg (by omega)]), h.2.2 t]
      have el := hO e (h.1 e q)
      rw [sumP_at (A := fun c => O c && !s.1 c) (A' := fun c => O c && !(if c = e then false else s.1 c)) (e := e) (t := t) (by rw [q]; simp) (by rw [if_pos rfl, h.1 e q]; rfl) (fun c hc => by rw [if_neg hc]) 1000, if_pos el]
    · show (if j = s.2.2 then e else s.2.1 j) = _
      rw [if_neg (by omega)]
  · rw [if_neg q]; exact ⟨h, Nat.le_refl _, fun _ _ => rfl⟩
theorem FI_x {O : Nat → Bool} (hO : ∀ c : Nat, O c = true → c < 1000) {w h d x : Nat} {s : fS} (hf : FI O s) : ∀ k : Nat, FI O (xpd w h d x k s) ∧ s.2.2 ≤ (xpd w h d x k s).2.2 ∧ ∀ j : Nat, j < s.2.2 → (xpd w h d x k s).2.1 j = s.2.1 j
  | 0 => ⟨hf, Nat.le_refl _, fun _ _ => rfl⟩
  | k + 1 => by
    have ih := FI_x hO (w := w) (h := h) (d := d) (x := x) hf k
    rw [xpd]
    by_cases q : ed w h d k x = 0
    · rw [if_pos q]; exact ih
    · rw [if_neg q]
      have r := FI_r hO ih.1 (nx k x)
      exact ⟨r.1, by omega, fun j hj => (r.2.2 j (by omega)).trans (ih.2.2 j hj)⟩
theorem FI_f {O : Nat → Bool} (hO : ∀ c : Nat, O c = true → c < 1000) {w h d : Nat} : ∀ (n : Nat) (s : fS) (p : Nat), FI O s → FI O (fld w h d n s p) ∧ ∀ c : Nat, (fld w h d n s p).1 c = true → s.1 c = true
  | 0, s, p, hf => ⟨hf, fun _ h => h⟩
  | n + 1, s, p, hf => by
    rw [fld]
    by_cases q : s.2.2 ≤ p
    · rw [if_pos q]; exact ⟨hf, fun _ h => h⟩
    · rw [if_neg q]
      have x := FI_x hO (w := w) (h := h) (d := d) (x := s.2.1 p) hf 6
      have ih := FI_f hO (w := w) (h := h) (d := d) n _ (p + 1) x.1
      have xm : ∀ (k c : Nat), (xpd w h d (s.2.1 p) k s).1 c = true → s.1 c = true := by
        intro k
        induction k with
        | zero => intro c h; exact h
        | succ k ihk =>
          intro c hc
          rw [xpd] at hc
          by_cases z : ed w h d k (s.2.1 p) = 0
          · rw [if_pos z] at hc; exact ihk c hc
          · rw [if_neg z] at hc
            unfold rch at hc
            by_cases y : (xpd w h d (s.2.1 p) k s).1 (nx k (s.2.1 p)) = true
            · rw [if_pos y] at hc
              dsimp only at hc
              by_cases u : c = nx k (s.2.1 p)
              · rw [if_pos u] at hc; cases hc
              · rw [if_neg u] at hc; exact ihk c hc
            · rw [if_neg y] at hc; exact ihk c hc
      exact ⟨ih.1, fun c hc => xm 6 c (ih.2 c hc)⟩
theorem sumP_le {f g : Nat → Int} : ∀ {k : Nat}, (∀ c : Nat, c < k → f c ≤ g c) → sumP f k ≤ sumP g k
  | 0, _ => Int.le_refl 0
  | k + 1, h => by
    have := sumP_le (k := k) (fun c hc => h c (by omega))
    have := h k (by omega)
    rw [sumP, sumP]; omega
theorem sumP_1 : ∀ k : Nat, sumP (fun _ => (1 : Int)) k = k
  | 0 => rfl
  | k + 1 => by rw [sumP, sumP_1 k]; rfl
theorem FI_l {O : Nat → Bool} {s : fS} (h : FI O s) : s.2.2 ≤ 1000 := by
  have a := h.2.2 (fun _ => 1)
  rw [sumP_1] at a
  have b := sumP_le (f := fun c => if (O c && !s.1 c) = true then (1 : Int) else 0) (g := fun _ => 1) (k := 1000) (fun c _ => by split <;> omega)
  rw [sumP_1] at b
  omega
/-- the flood from c on -/
def fl0 (N w h d : Nat) (O : Nat → Bool) (c : Nat) : fS := fld w h d N (rch (O, fun _ => 0, 0) c) 0
theorem FI_0 {O : Nat → Bool} : FI O (O, fun _ => 0, 0) := ⟨fun _ h => h, fun j hj => absurd hj (Nat.not_lt_zero j), fun t => by
  show (0 : Int) = _
  have : ∀ k, sumP (fun c => if (O c && !O c) = true then t c else 0) k = 0 := by
    intro k
    induction k with
    | zero => rfl
    | succ k ih => rw [sumP, ih]; cases O k <;> simp
  exact (this 1000).symm⟩
theorem fl0_sp {N w h d : Nat} {O : Nat → Bool} (hO : ∀ c : Nat, O c = true → c < 1000) {c : Nat} (hc : O c = true) : FI O (fl0 N w h d O c) ∧ (fl0 N w h d O c).1 c = false := by
  have r := FI_r hO (FI_0 (O := O)) c
  have f := FI_f hO (w := w) (h := h) (d := d) N _ 0 r.1
  refine ⟨f.1, ?_⟩
  cases e : (fl0 N w h d O c).1 c with
  | false => rfl
  | true =>
    have := f.2 c e
    unfold rch at this
    rw [if_pos hc] at this
    dsimp only at this
    rw [if_pos rfl] at this; cases this
/-! the class's flood -/
def xR (O : Nat → Bool) (num : Nat → Int32) (v : Int) (s : fS) (σ : xS) : Prop := (∀ c : Nat, c < 1000 → σ.2 16 c = if s.1 c = true then iI (-2) else if O c = true then iI v else num c) ∧ ∀ j : Nat, j < s.2.2 → σ.2 17 j = iI (s.2.1 j : Nat)
theorem rch_x {N : Nat} {O : Nat → Bool} (hO : ∀ c : Nat, O c = true → c < 1000) {num : Nat → Int32} (hn : ∀ c : Nat, c < 1000 → O c = false → num c ≠ iI (-2)) {v : Int} (v0 : 0 ≤ v) (v1 : v < 2000) {s : fS} (hf : FI O s) {σ : xS} (hx : xR O num v s σ) {e : Nat} (he : e < 1000) : ∃ σ' : xS, parting_reach N (iI e) (iI v) (iI (s.2.2 : Nat)) σ = some (iI ((rch s e).2.2 : Nat), σ') ∧ xR O num v (rch s e) σ' := by
  have l := FI_l hf
  have l2 := FI_l (FI_r hO hf e).1
  have h16 := hx.1 e he
  unfold parting_reach
  rw [if_neg (by rw [show (0 : Int32) = iI 0 from rfl, iI_lt (by omega) (by omega) (by omega) (by omega)]; omega), if_neg (by rw [show (1000 : Int32) = iI 1000 from rfl, iI_le (by omega) (by omega) (by omega) (by omega)]; omega), ald_at (by omega) (by omega) (by omega), Int.toNat_natCast, h16]
  by_cases q : s.1 e = true
  · have er : rch s e = ((fun i => if i = e then false else s.1 i), (fun j => if j = s.2.2 then e else s.2.1 j), s.2.2 + 1) := by unfold rch; rw [if_pos q]
    rw [er] at l2 ⊢
    dsimp only at l2 ⊢
    rw [if_pos q, if_pos (by decide), if_pos (by rw [show (1000 : Int32) = iI 1000 from rfl, iI_lt (by omega) (by omega) (by omega) (by omega)]; omega), ast_at (by omega) (by omega) (by omega), ast_at (by omega) (by omega) (by omega), Int.toNat_natCast, Int.toNat_natCast, i_suc]
    refine ⟨_, rfl, fun c hc => ?_, fun j hj => ?_⟩
    · show upd (σ.2 16) e (iI v) c = _
      rw [upd_e]
      dsimp only
      by_cases z : c = e
      · subst z; simp [hf.1 _ q]
      · rw [if_neg z]; simp only [if_neg z]; exact hx.1 c hc
    · show upd (σ.2 17) s.2.2 (iI e) j = _
      rw [upd_e]
      dsimp only at hj ⊢
      by_cases z : j = s.2.2
      · rw [if_pos z, if_pos z]
      · rw [if_neg z, if_neg z]; exact hx.2 j (by omega)
  · have er : rch s e = s := by unfold rch; rw [if_neg q]
    rw [er, if_neg q, if_neg (by
      by_cases z : O e = true
      · rw [if_pos z, show (-2 : Int32) = iI (-2) from rfl, iI_eq (by omega) (by omega) (by omega) (by omega)]; omega
      · rw [if_neg z]; exact hn e he (by cases y : O e <;> simp_all))]
    exact ⟨σ, rfl, hx⟩
theorem spr_x {N w h d : Nat} {f : Nat → Bool} (hN : 1100 < N) (hd : dOk w h d) {O : Nat → Bool} (hO : ∀ c : Nat, O c = true → bx w h d c) {num : Nat → Int32} (hn : ∀ c : Nat, c < 1000 → O c = false → num c ≠ iI (-2)) {v : Int} (v0 : 0 ≤ v) (v1 : v < 2000) : ∀ (n p : Nat) (s : fS) (σ : xS), p ≤ s.2.2 → 1000 < p + n → FI O s → dX w h d f σ → xR O num v s σ → ∃ σ' : xS, parting_spread_b11 N n (iI v) (iI (s.2.2 : Nat)) (iI p) σ = some (0, σ') ∧ xR O num v (fld w h d n s p) σ' ∧ fr [] [16, 17] σ σ' := by
  have hO' : ∀ c : Nat, O c = true → c < 1000 := fun c hc => bx_lt hd (hO c hc)
  intro n
  induction n with
  | zero => intro p s σ h1 h2 hf; have := FI_l hf; omega
  | succ n ih =>
    intro p s σ h1 h2 hf hdx hx
    have l := FI_l hf
    rw [parting_spread_b11, fld]
    by_cases q : s.2.2 ≤ p
    · rw [if_pos (by rw [iI_le (by omega) (by omega) (by omega) (by omega)]; omega), if_pos q]
      exact ⟨σ, rfl, hx, fr_refl⟩
    · rw [if_neg (by rw [iI_le (by omega) (by omega) (by omega) (by omega)]; omega), if_neg (by rw [show (1000 : Int32) = iI 1000 from rfl, iI_le (by omega) (by omega) (by omega) (by omega)]; omega), if_neg q]
      have qp := hf.2.1 p (by omega)
      have bq := hO _ qp.1
      obtain ⟨u, k1, k2, k3, k4, _⟩ := lpA (S := Int32 × xS) (fun n' k u => parting_spread_b28 N (parting_spread_b11 N n) n' (iI v) u.1 (iI p) k u.2) (fun u => parting_spread_b11 N n (iI v) u.1 (iI (p + 1 : Nat)) u.2) 6
        (fun k u => u.1 = iI ((xpd w h d (s.2.1 p) k.toNat s).2.2 : Nat) ∧ xR O num v (xpd w h d (s.2.1 p) k.toNat s) u.2 ∧ fr [] [16, 17] σ u.2 ∧ 0 ≤ k)
        (fun n' u hi => by rw [parting_spread_b28, if_pos (by decide), bnd_at, i_suc])
        (fun n' k u hk hi => by
          obtain ⟨j, rfl⟩ : ∃ j : Nat, k = j := ⟨k.toNat, by have := hi.2.2.2; omega⟩
          rw [Int.toNat_natCast] at hi
          have fx := FI_x hO' (w := w) (h := h) (d := d) (x := s.2.1 p) hf j
          have r17 := hi.2.1.2 p (by omega)
          rw [fx.2.2 p (by omega)] at r17
          have hdu := dX_fr hdx hi.2.2.1 (by decide) (by decide)
          have hj : j < 6 := by omega
          rw [parting_spread_b28, if_neg (by rw [show (6 : Int32) = iI 6 from rfl, iI_le (by omega) (by omega) (by omega) (by omega)]; omega), ald_at (by omega) (by omega) (by omega), Int.toNat_natCast, r17, bes_x hd hj bq hdu.1 hdu.2.1 hdu.2.2.1, cal_at, hi.1]
          rw [show ((j : Int) + 1).toNat = j + 1 by omega, xpd]
          by_cases z : ed w h d j (s.2.1 p) = 0
          · have R : parting_reach N (iI (-1)) (iI v) (iI ((xpd w h d (s.2.1 p) j s).2.2 : Nat)) u.2 = some (iI ((xpd w h d (s.2.1 p) j s).2.2 : Nat), u.2) := by
              unfold parting_reach; rw [if_pos (by decide)]
            rw [if_pos z, if_pos z, R, cal_at, bnd_at, i_sucI]
            exact ⟨(_, u.2), rfl, rfl, hi.2.1, hi.2.2.1, by omega⟩
          · have bn := (geo2 hd hj bq (by omega)).1
            obtain ⟨σ1, R1, R2⟩ := rch_x (N := N) hO' hn v0 v1 fx.1 hi.2.1 (bx_lt hd bn)
            rw [if_neg z, if_neg z, R1, cal_at, bnd_at, i_sucI]
            exact ⟨(_, σ1), rfl, rfl, R2, fr_trans hi.2.2.1 (f_parting_reach R1), by omega⟩)
        N 0 (iI (s.2.2 : Nat), σ) (by omega) (by omega) ⟨rfl, hx, fr_refl, by omega⟩
      have fx := FI_x hO' (w := w) (h := h) (d := d) (x := s.2.1 p) hf 6
      obtain ⟨σ', a1, a2, a3⟩ := ih (p + 1) (xpd w h d (s.2.1 p) 6 s) u.2 (by omega) (by omega) fx.1 (dX_fr hdx k4 (by decide) (by decide)) k3
      have k1 : parting_spread_b28 N (parting_spread_b11 N n) N (iI v) (iI (s.2.2 : Nat)) (iI p) 0 σ = parting_spread_b11 N n (iI v) u.1 (iI (p + 1 : Nat)) u.2 := k1
      refine ⟨σ', ?_, a2, fr_trans k4 a3⟩
      rw [k1, k2]; exact a1
theorem spread_x {N w h d : Nat} {f : Nat → Bool} (hN : 1100 < N) (hd : dOk w h d) {O : Nat → Bool} (hO : ∀ c : Nat, O c = true → bx w h d c) {num : Nat → Int32} (hn : ∀ c : Nat, c < 1000 → O c = false → num c ≠ iI (-2)) {v : Int} (v0 : 0 ≤ v) (v1 : v < 2000) {c : Nat} (hc : O c = true) {σ : xS} (hdx : dX w h d f σ) (hx : ∀ e : Nat, e < 1000 → σ.2 16 e = if O e = true then iI (-2) else num e) : ∃ σ' : xS, parting_spread N (iI c) (iI v) σ = some (0, σ') ∧ (∀ e : Nat, e < 1000 → σ'.2 16 e = if (fl0 N w h d O c).1 e = true then iI (-2) else if O e = true then iI v else num e) ∧ fr [] [16, 17] σ σ' := by
  have hO' : ∀ c : Nat, O c = true → c < 1000 := fun c hc => bx_lt hd (hO c hc)
  have x0 : xR O num v (O, fun _ => 0, 0) σ := ⟨fun e he => by
    rw [hx e he]
    by_cases q : O e = true
    · rw [if_pos q, if_pos q]
    · rw [if_neg q, if_neg q, if_neg q], fun j hj => absurd hj (Nat.not_lt_zero j)⟩
  obtain ⟨σ1, R1, R2⟩ := rch_x (N := N) hO' hn v0 v1 (FI_0 (O := O)) x0 (hO' c hc)
  have r := FI_r hO' (FI_0 (O := O)) c
  have f1 := f_parting_reach R1
  obtain ⟨σ2, S1, S2, S3⟩ := spr_x (N := N) hN hd hO hn v0 v1 N 0 _ σ1 (by omega) (by omega) r.1 (dX_fr hdx f1 (by decide) (by decide)) R2
  refine ⟨σ2, ?_, S2.1, fr_trans f1 S3⟩
  unfold parting_spread
  have R1 : parting_reach N (iI c) (iI v) 0 σ = _ := R1
  rw [R1, cal_at]; exact S1
/-! all the pieces of one way: open cells left, how many floods -/
def pO (N w h d : Nat) (O : Nat → Bool) : Nat → (Nat → Bool) × Nat
  | 0 => (O, 0)
  | c + 1 => if (pO N w h d O c).1 c = true then ((fl0 N w h d (pO N w h d O c).1 c).1, (pO N w h d O c).2 + 1) else pO N w h d O c
def pN (N w h d : Nat) (O : Nat → Bool) (num : Nat → Int32) (v : Nat) : Nat → Nat → Int32
  | 0, e => num e
  | c + 1, e => if ((pO N w h d O c).1 e && !(pO N w h d O (c + 1)).1 e) = true then iI (v + (pO N w h d O c).2 : Nat) else pN N w h d O num v c e
theorem pO_sp {N w h d : Nat} {O : Nat → Bool} (hO : ∀ c : Nat, O c = true → c < 1000) : ∀ k : Nat, (∀ e : Nat, (pO N w h d O k).1 e = true → O e = true) ∧ (∀ e : Nat, e < k → (pO N w h d O k).1 e = false) ∧ (pO N w h d O k).2 ≤ k
  | 0 => ⟨fun _ h => h, fun e he => absurd he (Nat.not_lt_zero e), Nat.le_refl 0⟩
  | k + 1 => by
    have ih := pO_sp (N := N) (w := w) (h := h) (d := d) hO k
    rw [pO]
    by_cases q : (pO N w h d O k).1 k = true
    · have s := fl0_sp (N := N) (w := w) (h := h) (d := d) (O := (pO N w h d O k).1) (fun c hc => hO c (ih.1 c hc)) q
      rw [if_pos q]
      refine ⟨fun e he => ih.1 e (s.1.1 e he), fun e he => ?_, by show (pO N w h d O k).2 + 1 ≤ k + 1; omega⟩
      by_cases z : e = k
      · rw [z]; exact s.2
      · cases y : (fl0 N w h d (pO N w h d O k).1 k).1 e with
        | false => rfl
        | true => have := s.1.1 e y; rw [ih.2.1 e (by omega)] at this; cases this
    · rw [if_neg q]
      refine ⟨ih.1, fun e he => ?_, by omega⟩
      by_cases z : e = k
      · rw [z]; cases y : (pO N w h d O k).1 k <;> simp_all
      · exact ih.2.1 e (by omega)
theorem pO_gap {N w h d : Nat} {O : Nat → Bool} {num : Nat → Int32} {v : Nat} (hO : ∀ c : Nat, O c = true → c < 1000) {a : Nat} : ∀ {b : Nat}, a ≤ b → (∀ c : Nat, a ≤ c → c < b → O c = false) → pO N w h d O b = pO N w h d O a ∧ pN N w h d O num v b = pN N w h d O num v a
  | 0, hab, _ => by rw [show a = 0 by omega]; exact ⟨rfl, rfl⟩
  | b + 1, hab, hno => by
    by_cases q : a = b + 1
    · rw [q]; exact ⟨rfl, rfl⟩
    · have ih := pO_gap (N := N) (w := w) (h := h) (d := d) (num := num) (v := v) hO (a := a) (b := b) (by omega) (fun c h1 h2 => hno c h1 (by omega))
      have e : pO N w h d O (b + 1) = pO N w h d O b := by
        rw [pO, if_neg]
        intro z
        have := (pO_sp (N := N) (w := w) (h := h) (d := d) hO b).1 b z
        rw [hno b (by omega) (by omega)] at this; cases this
      refine ⟨e.trans ih.1, ?_⟩
      rw [← ih.2]
      funext i
      rw [pN, e]
      cases (pO N w h d O b).1 i <;> simp
