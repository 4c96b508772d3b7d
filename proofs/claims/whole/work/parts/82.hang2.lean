theorem h66_m {N ab w h d K i : Nat} {f : Nat → Bool} {q : Nat → Nat} (hN : 1100 < N) (hab : ab = 10 ∨ ab = 11) (hK : K ≤ 6) (hi : i < K) (hd : dOk w h d) {O : Nat → Bool} (hO : ∀ c : Nat, O c = true → mem w h d f c = true ∧ bel (wy w h d f c) q K 0 = (i : Int)) {num : Nat → Int32} (hn : ∀ c : Nat, mem w h d f c = true → O c = false → num c = iI (-1) → bel (wy w h d f c) q K 0 ≠ (i : Int)) {v : Nat} (hv : v < 1000) : ∀ (n p : Nat) (s : fS) (τ : xS), p ≤ s.2.2 → 1000 < p + n → FI O s → fM w h d f τ → qM ab K q τ → τ.1 18 = iI v → mR (mem w h d f) O num v s τ → τ.2 15 v = iI p → τ.2 16 v = iI (sumP (fun j => bI (tch w h d f (s.2.1 j) 6)) p) → ∃ τ' : xS, m_hangs_b66 ab N n (iI K) (iI i) (iI (s.2.2 : Nat)) (iI p) τ = some (0, τ') ∧ τ'.1 18 = iI (v + 1 : Nat) ∧ (∀ c : Nat, mem w h d f c = true → τ'.2 12 c = if (fld w h d n s p).1 c = true then iI (-1) else if O c = true then iI v else num c) ∧ τ'.2 15 v = iI ((fld w h d n s p).2.2 : Nat) ∧ τ'.2 16 v = iI (sumP (fun j => bI (tch w h d f ((fld w h d n s p).2.1 j) 6)) (fld w h d n s p).2.2) ∧ (∀ u : Nat, u ≠ v → τ'.2 15 u = τ.2 15 u ∧ τ'.2 16 u = τ.2 16 u) ∧ fr [18] [12, 13, 15, 16] τ τ' := by
  have hO' : ∀ c : Nat, O c = true → c < 1000 := fun c hc => bx_lt hd (mem_iff.mp (hO c hc).1).1
  intro n
  induction n with
  | zero => intro p s τ h1 h2 hf; have := FI_l hf; omega
  | succ n ih =>
    intro p s τ h1 h2 hf hm hq h18 hr h15 h16
    have l := FI_l hf
    rw [m_hangs_b66, fld]
    by_cases z : s.2.2 ≤ p
    · have ep : p = s.2.2 := by omega
      rw [if_pos (by rw [iI_le (by omega) (by omega) (by omega) (by omega)]; omega), if_pos z, put_at, h18, i_suc]
      exact ⟨_, rfl, rfl, hr.1, by rw [← ep]; exact h15, by rw [← ep]; exact h16, fun _ _ => ⟨rfl, rfl⟩, ⟨fun k hk => va_up_n _ _ (fun z => hk (by rw [z]; decide)), fun _ _ => rfl⟩⟩
    · have qp := hf.2.1 p (by omega)
      have mx := (hO _ qp.1).1
      have bq := (mem_iff.mp mx).1
      have e13 := hr.2 p (by omega)
      obtain ⟨x, hx⟩ : ∃ x : Nat, x = s.2.1 p := ⟨_, rfl⟩
      rw [← hx] at e13 bq ⊢
      have xl := bx_lt hd bq
      rw [if_neg (by rw [iI_le (by omega) (by omega) (by omega) (by omega)]; omega), if_neg z, ald_at (by omega) (by omega) (by omega), Int.toNat_natCast, e13, show (10 : Int32) = iI 10 from rfl, show (100 : Int32) = iI 100 from rfl]
      rw [gdz_at _ (by omega) (by omega) (by omega), gdz_at _ (by omega) (by omega) (by omega), gdz_at _ (by omega) (by omega) (by omega), gdz_at _ (by omega) (by omega) (by omega), ald_at (by omega) (by omega) (by omega), ald_at (by omega) (by omega) (by omega), Int.toNat_natCast, e13]
      sorry
