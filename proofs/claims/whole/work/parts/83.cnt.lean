/-! how many cells, how many pieces -/
def cnB (O : Nat → Bool) : Int := sumP (fun e => if O e = true then 1 else 0) 1000
theorem cnB_lt {O O' : Nat → Bool} {e : Nat} (h : ∀ c : Nat, O' c = true → O c = true) (h1 : O e = true) (h2 : O' e = false) (he : e < 1000) : cnB O' + 1 ≤ cnB O := by
  unfold cnB
  have a := sumP_at (A := fun c => O c && !decide (c = e)) (A' := O) (t := fun _ => 1) (e := e) (by simp) h1 (fun c hc => by simp [hc]) 1000
  rw [if_pos he] at a
  rw [a]
  have b := sumP_le (f := fun c => if O' c = true then (1 : Int) else 0) (g := fun c => if (O c && !decide (c = e)) = true then (1 : Int) else 0) (k := 1000) (fun c _ => by
    by_cases z : O' c = true
    · have hne : c ≠ e := fun y => by rw [y, h2] at z; cases z
      rw [if_pos z, if_pos (by rw [h c z]; simp [hne])]; exact Int.le_refl _
    · rw [if_neg z]; split <;> omega)
  omega
theorem cnB_bd (O : Nat → Bool) : 0 ≤ cnB O ∧ cnB O ≤ 1000 := by
  unfold cnB
  have a := sumP_le (f := fun c => if O c = true then (1 : Int) else 0) (g := fun _ => 1) (k := 1000) (fun c _ => by split <;> omega)
  rw [sumP_1] at a
  have b := sumP_le (f := fun _ => (0 : Int)) (g := fun c => if O c = true then (1 : Int) else 0) (k := 1000) (fun c _ => by split <;> omega)
  have z : ∀ k : Nat, sumP (fun _ => (0 : Int)) k = 0 := by
    intro k
    induction k with
    | zero => rfl
    | succ k ih => rw [sumP, ih]; rfl
  rw [z] at b
  exact ⟨b, by omega⟩
theorem cnB_pos {O : Nat → Bool} {e : Nat} (h1 : O e = true) (he : e < 1000) : 1 ≤ cnB O := by
  have := cnB_lt (O := O) (O' := fun _ => false) (e := e) (fun c hc => by cases hc) h1 rfl he
  have := (cnB_bd (fun _ => false)).1
  omega
theorem pO_mono {N w h d : Nat} {O : Nat → Bool} (hO : ∀ c : Nat, O c = true → c < 1000) (k e : Nat) (he : (pO N w h d O (k + 1)).1 e = true) : (pO N w h d O k).1 e = true := by
  have sp := pO_sp (N := N) (w := w) (h := h) (d := d) hO k
  rw [pO] at he
  by_cases q : (pO N w h d O k).1 k = true
  · rw [if_pos q] at he
    exact (fl0_sp (N := N) (w := w) (h := h) (d := d) (O := (pO N w h d O k).1) (fun c hc => hO c (sp.1 c hc)) q).1.1 e he
  · rw [if_neg q] at he; exact he
theorem pO_cnt {N w h d : Nat} {O : Nat → Bool} (hO : ∀ c : Nat, O c = true → c < 1000) : ∀ k : Nat, ((pO N w h d O k).2 : Int) + cnB (pO N w h d O k).1 ≤ cnB O
  | 0 => by rw [pO]; simp
  | k + 1 => by
    have ih := pO_cnt (N := N) (w := w) (h := h) (d := d) hO k
    have sp := pO_sp (N := N) (w := w) (h := h) (d := d) hO k
    rw [pO]
    by_cases q : (pO N w h d O k).1 k = true
    · have s := fl0_sp (N := N) (w := w) (h := h) (d := d) (O := (pO N w h d O k).1) (fun c hc => hO c (sp.1 c hc)) q
      have l := cnB_lt (O := (pO N w h d O k).1) (O' := (fl0 N w h d (pO N w h d O k).1 k).1) s.1.1 q s.2 (hO k (sp.1 k q))
      rw [if_pos q]
      dsimp only
      omega
    · rw [if_neg q]; exact ih
theorem pO_skip {N w h d k : Nat} {O : Nat → Bool} {num : Nat → Int32} {v : Nat} (q : ¬ (pO N w h d O k).1 k = true) : pO N w h d O (k + 1) = pO N w h d O k ∧ pN N w h d O num v (k + 1) = pN N w h d O num v k := by
  have e : pO N w h d O (k + 1) = pO N w h d O k := by rw [pO, if_neg q]
  refine ⟨e, ?_⟩
  funext i
  rw [pN, e]
  cases (pO N w h d O k).1 i <;> simp
theorem pO_up {N w h d : Nat} {O : Nat → Bool} : ∀ k : Nat, (pO N w h d O k).2 ≤ (pO N w h d O (k + 1)).2
  | k => by
    rw [pO]
    by_cases q : (pO N w h d O k).1 k = true
    · rw [if_pos q]; dsimp only; omega
    · rw [if_neg q]; omega
/-- a cell that is still open has its old number; so has one that never was -/
theorem pN_old {N w h d : Nat} {O : Nat → Bool} (hO : ∀ c : Nat, O c = true → c < 1000) {num : Nat → Int32} {v : Nat} : ∀ (k e : Nat), ((pO N w h d O k).1 e = true ∨ O e = false) → pN N w h d O num v k e = num e
  | 0, _, _ => rfl
  | k + 1, e, he => by
    have sp := pO_sp (N := N) (w := w) (h := h) (d := d) hO k
    rw [pN]
    rcases he with he | he
    · rw [if_neg (by rw [he]; simp)]
      exact pN_old hO k e (Or.inl (pO_mono hO k e he))
    · have : (pO N w h d O k).1 e = false := by
        cases z : (pO N w h d O k).1 e with
        | false => rfl
        | true => have := sp.1 e z; rw [he] at this; cases this
      rw [if_neg (by rw [this]; simp)]
      exact pN_old hO k e (Or.inr he)
theorem pN_new {N w h d : Nat} {O : Nat → Bool} (hO : ∀ c : Nat, O c = true → c < 1000) {num : Nat → Int32} {v : Nat} : ∀ (k e : Nat), O e = true → (pO N w h d O k).1 e = false → ∃ u : Nat, v ≤ u ∧ u < v + (pO N w h d O k).2 ∧ pN N w h d O num v k e = iI (u : Nat)
  | 0, e, h1, h2 => by rw [pO] at h2; dsimp only at h2; rw [h1] at h2; cases h2
  | k + 1, e, h1, h2 => by
    rw [pN]
    cases z : (pO N w h d O k).1 e with
    | true =>
      have q : (pO N w h d O k).1 k = true := by
        cases y : (pO N w h d O k).1 k with
        | true => rfl
        | false =>
          rw [(pO_skip (num := num) (v := v) (by rw [y]; decide)).1, z] at h2; cases h2
      have e2 : (pO N w h d O (k + 1)).2 = (pO N w h d O k).2 + 1 := by rw [pO, if_pos q]
      rw [if_pos (by rw [h2]; rfl)]
      exact ⟨_, by omega, by omega, rfl⟩
    | false =>
      rw [if_neg (by simp)]
      obtain ⟨u, a, b, c⟩ := pN_new hO (num := num) (v := v) k e h1 z
      have := pO_up (N := N) (w := w) (h := h) (d := d) (O := O) k
      exact ⟨u, a, by omega, c⟩
/-- the same numbers, whatever stood there before -/
theorem pN_same {N w h d : Nat} {O : Nat → Bool} (hO : ∀ c : Nat, O c = true → c < 1000) {num num' : Nat → Int32} {v : Nat} : ∀ (k e : Nat), (O e = true ∧ (pO N w h d O k).1 e = false) ∨ num e = num' e → pN N w h d O num v k e = pN N w h d O num' v k e
  | 0, e, he => by
    rcases he with ⟨h1, h2⟩ | he
    · rw [pO] at h2; dsimp only at h2; rw [h1] at h2; cases h2
    · exact he
  | k + 1, e, he => by
    rw [pN, pN]
    rcases he with ⟨h1, h2⟩ | he
    · cases z : (pO N w h d O k).1 e with
      | true => rw [if_pos (by rw [h2]; rfl), if_pos (by rw [h2]; rfl)]
      | false =>
        rw [if_neg (by simp), if_neg (by simp)]
        exact pN_same hO k e (Or.inl ⟨h1, z⟩)
    · rw [pN_same hO k e (Or.inr he)]
/-! a row of ways: its pieces and numbers -/
abbrev oQ (w h d : Nat) (f : Nat → Bool) (q : Nat → Nat) (i : Nat) : Nat → Bool := oW w h d f (q i) (sq q i)
def vQ (N w h d : Nat) (f : Nat → Bool) (q : Nat → Nat) : Nat → Nat
  | 0 => 0
  | i + 1 => vQ N w h d f q i + (pO N w h d (oQ w h d f q i) 1000).2
def nQ (N w h d : Nat) (f : Nat → Bool) (q : Nat → Nat) (num : Nat → Int32) : Nat → Nat → Int32
  | 0, e => num e
  | i + 1, e => pN N w h d (oQ w h d f q i) (nQ N w h d f q num i) (vQ N w h d f q i) 1000 e
theorem oQ_lt {w h d i : Nat} {f : Nat → Bool} {q : Nat → Nat} (hd : dOk w h d) : ∀ c : Nat, oQ w h d f q i c = true → c < 1000 := fun _ hc => bx_lt hd (oW_b hc).1
theorem oQ_iff {w h d i K c : Nat} {f : Nat → Bool} {q : Nat → Nat} (hi : i < K) : oQ w h d f q i c = true ↔ (mem w h d f c = true ∧ bel (wy w h d f c) q K 0 = (i : Int)) := by
  unfold oQ
  rw [oW_bel hi, Bool.and_eq_true, decide_eq_true_eq]
theorem oQ_dis {w h d i j c : Nat} {f : Nat → Bool} {q : Nat → Nat} (hij : i ≠ j) (hi : oQ w h d f q i c = true) : oQ w h d f q j c = false := by
  cases z : oQ w h d f q j c with
  | false => rfl
  | true =>
    have a := ((oQ_iff (K := i + j + 1) (by omega)).mp hi).2
    have b := ((oQ_iff (K := i + j + 1) (by omega)).mp z).2
    rw [a] at b; omega
theorem vQ_mono {N w h d : Nat} {f : Nat → Bool} {q : Nat → Nat} {i : Nat} : ∀ {j : Nat}, i ≤ j → vQ N w h d f q i ≤ vQ N w h d f q j
  | 0, hij => by rw [show i = 0 by omega]; omega
  | j + 1, hij => by
    by_cases z : i = j + 1
    · rw [z]; omega
    · have := vQ_mono (N := N) (w := w) (h := h) (d := d) (f := f) (q := q) (i := i) (j := j) (by omega)
      rw [vQ]; omega
def uQ (w h d : Nat) (f : Nat → Bool) (q : Nat → Nat) : Nat → Nat → Bool
  | 0, _ => false
  | i + 1, e => uQ w h d f q i e || oQ w h d f q i e
theorem uQ_dis {w h d : Nat} {f : Nat → Bool} {q : Nat → Nat} {e j : Nat} (hj : oQ w h d f q j e = true) : ∀ i : Nat, i ≤ j → uQ w h d f q i e = false
  | 0, _ => rfl
  | i + 1, h => by rw [uQ, uQ_dis hj i (by omega), oQ_dis (i := j) (j := i) (by omega) hj]; rfl
theorem vQ_cnt {N w h d : Nat} {f : Nat → Bool} {q : Nat → Nat} (hd : dOk w h d) : ∀ i : Nat, (vQ N w h d f q i : Int) ≤ cnB (uQ w h d f q i)
  | 0 => (cnB_bd _).1
  | i + 1 => by
    have ih := vQ_cnt (N := N) (f := f) (q := q) hd i
    have p := pO_cnt (N := N) (w := w) (h := h) (d := d) (O := oQ w h d f q i) (oQ_lt hd) 1000
    have b := (cnB_bd (pO N w h d (oQ w h d f q i) 1000).1).1
    have e : cnB (uQ w h d f q (i + 1)) = cnB (uQ w h d f q i) + cnB (oQ w h d f q i) := by
      unfold cnB
      rw [← sumP_add]
      apply sumP_cong
      intro c _
      rw [uQ]
      cases z : oQ w h d f q i c with
      | true => rw [uQ_dis z i (by omega)]; rfl
      | false => rw [Bool.or_false]; simp
    rw [vQ, e]
    omega
theorem vQ_bd {N w h d : Nat} {f : Nat → Bool} {q : Nat → Nat} (hd : dOk w h d) (i : Nat) : vQ N w h d f q i ≤ 1000 := by
  have := vQ_cnt (N := N) (f := f) (q := q) hd i
  have := (cnB_bd (uQ w h d f q i)).2
  omega
theorem vQ_lt {N w h d : Nat} {f : Nat → Bool} {q : Nat → Nat} (hd : dOk w h d) {i c : Nat} (hc : (pO N w h d (oQ w h d f q i) c).1 c = true) : vQ N w h d f q i + (pO N w h d (oQ w h d f q i) c).2 < 1000 := by
  have a := vQ_cnt (N := N) (f := f) (q := q) hd i
  have p := pO_cnt (N := N) (w := w) (h := h) (d := d) (O := oQ w h d f q i) (oQ_lt hd) c
  have sp := pO_sp (N := N) (w := w) (h := h) (d := d) (O := oQ w h d f q i) (oQ_lt hd) c
  have b := cnB_pos hc (oQ_lt hd c (sp.1 c hc))
  have e : cnB (uQ w h d f q (i + 1)) = cnB (uQ w h d f q i) + cnB (oQ w h d f q i) := by
    unfold cnB
    rw [← sumP_add]
    apply sumP_cong
    intro c _
    rw [uQ]
    cases z : oQ w h d f q i c with
    | true => rw [uQ_dis z i (by omega)]; rfl
    | false => rw [Bool.or_false]; simp
  have := (cnB_bd (uQ w h d f q (i + 1))).2
  omega
theorem vQ_at {N w h d : Nat} {f : Nat → Bool} {q : Nat → Nat} {v : Nat} (K : Nat) : v < vQ N w h d f q K → ∃ j : Nat, j < K ∧ vQ N w h d f q j ≤ v ∧ v < vQ N w h d f q (j + 1) := by
  induction K with
  | zero => intro hv; exact absurd hv (Nat.not_lt_zero v)
  | succ K ih =>
    intro hv
    by_cases z : v < vQ N w h d f q K
    · obtain ⟨j, a, b, c⟩ := ih z
      exact ⟨j, by omega, b, c⟩
    · exact ⟨K, by omega, by omega, hv⟩
/-- the numbers of a row of ways, begun with none -/
abbrev nM (N w h d : Nat) (f : Nat → Bool) (q : Nat → Nat) (i c e : Nat) : Int32 := pN N w h d (oQ w h d f q i) (nQ N w h d f q (fun _ => iI (-1)) i) (vQ N w h d f q i) c e
theorem nQ_no {N w h d : Nat} {f : Nat → Bool} {q : Nat → Nat} (hd : dOk w h d) {j e : Nat} (hj : oQ w h d f q j e = true) : ∀ i : Nat, i ≤ j → nQ N w h d f q (fun _ => iI (-1)) i e = iI (-1)
  | 0, _ => rfl
  | i + 1, h => by
    rw [nQ, pN_old (oQ_lt hd) 1000 e (Or.inr (oQ_dis (i := j) (j := i) (by omega) hj))]
    exact nQ_no hd hj i (by omega)
theorem nQ_rg {N w h d : Nat} {f : Nat → Bool} {q : Nat → Nat} (hd : dOk w h d) (e : Nat) : ∀ i : Nat, nQ N w h d f q (fun _ => iI (-1)) i e = iI (-1) ∨ ∃ u : Nat, u < vQ N w h d f q i ∧ nQ N w h d f q (fun _ => iI (-1)) i e = iI (u : Nat)
  | 0 => Or.inl rfl
  | i + 1 => by
    rw [nQ]
    have sp := pO_sp (N := N) (w := w) (h := h) (d := d) (O := oQ w h d f q i) (oQ_lt hd) 1000
    cases z : oQ w h d f q i e with
    | true =>
      obtain ⟨u, a, b, c⟩ := pN_new (N := N) (oQ_lt hd) (num := nQ N w h d f q (fun _ => iI (-1)) i) (v := vQ N w h d f q i) 1000 e z (sp.2.1 e (oQ_lt hd e z))
      exact Or.inr ⟨u, by rw [vQ]; omega, c⟩
    | false =>
      rw [pN_old (oQ_lt hd) 1000 e (Or.inr z)]
      rcases nQ_rg hd e i with y | ⟨u, a, b⟩
      · exact Or.inl y
      · exact Or.inr ⟨u, by rw [vQ]; omega, b⟩
theorem nM_rg {N w h d : Nat} {f : Nat → Bool} {q : Nat → Nat} (hd : dOk w h d) (i c e : Nat) : nM N w h d f q i c e = iI (-1) ∨ ∃ u : Nat, u < vQ N w h d f q i + (pO N w h d (oQ w h d f q i) c).2 ∧ nM N w h d f q i c e = iI (u : Nat) := by
  have sp := pO_sp (N := N) (w := w) (h := h) (d := d) (O := oQ w h d f q i) (oQ_lt hd) c
  cases z : oQ w h d f q i e with
  | true =>
    cases y : (pO N w h d (oQ w h d f q i) c).1 e with
    | true =>
      refine Or.inl ?_
      show pN N w h d (oQ w h d f q i) _ _ c e = _
      rw [pN_old (oQ_lt hd) c e (Or.inl y)]
      exact nQ_no hd z i (by omega)
    | false =>
      obtain ⟨u, a, b, e⟩ := pN_new (N := N) (oQ_lt hd) (num := nQ N w h d f q (fun _ => iI (-1)) i) (v := vQ N w h d f q i) c e z y
      exact Or.inr ⟨u, b, e⟩
  | false =>
    have k : nM N w h d f q i c e = nQ N w h d f q (fun _ => iI (-1)) i e := pN_old (oQ_lt hd) c e (Or.inr z)
    rw [k]
    rcases nQ_rg (N := N) (f := f) (q := q) hd e i with y | ⟨u, a, b⟩
    · exact Or.inl y
    · exact Or.inr ⟨u, by omega, b⟩
theorem nM_op {N w h d : Nat} {f : Nat → Bool} {q : Nat → Nat} (hd : dOk w h d) {i c e : Nat} (he : (pO N w h d (oQ w h d f q i) c).1 e = true) : nM N w h d f q i c e = iI (-1) := by
  have sp := pO_sp (N := N) (w := w) (h := h) (d := d) (O := oQ w h d f q i) (oQ_lt hd) c
  show pN N w h d (oQ w h d f q i) _ _ c e = _
  rw [pN_old (oQ_lt hd) c e (Or.inl he)]
  exact nQ_no hd (sp.1 e he) i (by omega)
theorem nM_cl {N w h d : Nat} {f : Nat → Bool} {q : Nat → Nat} (hd : dOk w h d) {i c e : Nat} (h1 : oQ w h d f q i e = true) (h2 : (pO N w h d (oQ w h d f q i) c).1 e = false) (hb : vQ N w h d f q i + (pO N w h d (oQ w h d f q i) c).2 ≤ 3000) : nM N w h d f q i c e ≠ iI (-1) := by
  obtain ⟨u, a, b, e⟩ := pN_new (N := N) (oQ_lt hd) (num := nQ N w h d f q (fun _ => iI (-1)) i) (v := vQ N w h d f q i) c e h1 h2
  show pN N w h d (oQ w h d f q i) _ _ c _ ≠ _
  rw [e]
  intro z
  rw [iI_eq (by omega) (by omega) (by omega) (by omega)] at z
  omega
