/-- what may differ: the int fields of S, the rows of T -/
def fr (S T : List Nat) (σ σ' : xS) : Prop := (∀ k : Nat, k ∉ S → σ'.1 k = σ.1 k) ∧ ∀ a : Nat, a ∉ T → σ'.2 a = σ.2 a
theorem fr_refl {S T : List Nat} {σ : xS} : fr S T σ σ := ⟨fun _ _ => rfl, fun _ _ => rfl⟩
theorem fr_trans {S T : List Nat} {σ σ1 σ' : xS} (h : fr S T σ σ1) (g : fr S T σ1 σ') : fr S T σ σ' := ⟨fun k hk => (g.1 k hk).trans (h.1 k hk), fun a ha => (g.2 a ha).trans (h.2 a ha)⟩
theorem fr_mono {S T S' T' : List Nat} {σ σ' : xS} (h : fr S T σ σ') (hS : ∀ k ∈ S, k ∈ S') (hT : ∀ k ∈ T, k ∈ T') : fr S' T' σ σ' := ⟨fun k hk => h.1 k (fun q => hk (hS k q)), fun a ha => h.2 a (fun q => ha (hT a q))⟩
section FR
variable {S T : List Nat} {σ σ' : xS} {r : Int32}
theorem fr_some {v : Int32} (hf : some (v, σ) = some (r, σ')) : fr S T σ σ' := by
  obtain ⟨-, rfl⟩ := Prod.mk.inj (Option.some.inj hf)
  exact fr_refl
theorem fr_if {c : Prop} {inst : Decidable c} {X Y : Option (Int32 × xS)} (hf : (if c then X else Y) = some (r, σ')) (h1 : X = some (r, σ') → fr S T σ σ') (h2 : Y = some (r, σ') → fr S T σ σ') : fr S T σ σ' := by
  by_cases h : c
  · rw [if_pos h] at hf; exact h1 hf
  · rw [if_neg h] at hf; exact h2 hf
theorem fr_put {k : Nat} {v : Int32} {X : xS → Option (Int32 × xS)} (hf : put σ k v X = some (r, σ')) (hk : k ∈ S) (h : ∀ σ1, X σ1 = some (r, σ') → fr S T σ1 σ') : fr S T σ σ' := by
  refine fr_trans (σ1 := (va_up σ.1 k v, σ.2)) ⟨fun j hj => ?_, fun _ _ => rfl⟩ (h _ hf)
  show va_up σ.1 k v j = σ.1 j
  rw [va_up, if_neg (fun e => hj (by rw [e]; exact hk))]
theorem fr_rows {a : Nat} {f : Nat → Int32} {X : xS → Option (Int32 × xS)} (hf : X (σ.1, va_up σ.2 a f) = some (r, σ')) (hk : a ∈ T) (h : ∀ σ1, X σ1 = some (r, σ') → fr S T σ1 σ') : fr S T σ σ' := by
  refine fr_trans (σ1 := (σ.1, va_up σ.2 a f)) ⟨fun _ _ => rfl, fun j hj => ?_⟩ (h _ hf)
  show va_up σ.2 a f j = σ.2 j
  rw [va_up, if_neg (fun e => hj (by rw [e]; exact hk))]
theorem fr_ast {a n : Nat} {i v : Int32} {X : xS → Option (Int32 × xS)} (hf : ast σ a n i v X = some (r, σ')) (hk : a ∈ T) (h : ∀ σ1, X σ1 = some (r, σ') → fr S T σ1 σ') : fr S T σ σ' := by
  unfold ast at hf
  by_cases h0 : xin i n = true
  · rw [if_pos h0] at hf; exact fr_rows hf hk h
  · rw [if_neg h0] at hf; cases hf
theorem fr_cpy {a b n : Nat} {X : xS → Option (Int32 × xS)} (hf : cpy σ a b n X = some (r, σ')) (hk : b ∈ T) (h : ∀ σ1, X σ1 = some (r, σ') → fr S T σ1 σ') : fr S T σ σ' := fr_rows hf hk h
theorem fr_ald {a n : Nat} {i : Int32} {X : Int32 → Option (Int32 × xS)} (hf : ald σ a n i X = some (r, σ')) (h : ∀ x, X x = some (r, σ') → fr S T σ σ') : fr S T σ σ' := by
  unfold ald at hf
  by_cases h0 : xin i n = true
  · rw [if_pos h0] at hf; exact h _ hf
  · rw [if_neg h0] at hf; cases hf
theorem fr_sch {w : Nat} {i : Int32} {X : Int32 → Option (Int32 × xS)} (hf : sch w i X = some (r, σ')) (h : ∀ x, X x = some (r, σ') → fr S T σ σ') : fr S T σ σ' := by
  unfold sch at hf
  by_cases h0 : xin i (xtl.getD w 0) = true
  · rw [if_pos h0] at hf; exact h _ hf
  · rw [if_neg h0] at hf; cases hf
theorem fr_bnd {e : Int32} {X : Int32 → Option (Int32 × xS)} (hf : bnd e X = some (r, σ')) (h : ∀ x, X x = some (r, σ') → fr S T σ σ') : fr S T σ σ' := h _ hf
theorem fr_gdz {y : Int32} {X : Option (Int32 × xS)} (hf : gdz y X = some (r, σ')) (h : X = some (r, σ') → fr S T σ σ') : fr S T σ σ' := by
  unfold gdz at hf
  by_cases h0 : y = 0
  · rw [if_pos h0] at hf; cases hf
  · rw [if_neg h0] at hf; exact h hf
theorem fr_gdb {v : Int32} {X : Option (Int32 × xS)} (hf : gdb v X = some (r, σ')) (h : X = some (r, σ') → fr S T σ σ') : fr S T σ σ' := by
  unfold gdb at hf
  by_cases h0 : v &&& 1 = v
  · rw [if_pos h0] at hf; exact h hf
  · rw [if_neg h0] at hf; cases hf
theorem fr_cal {Y : Option (Int32 × xS)} {X : Int32 → xS → Option (Int32 × xS)} (hf : cal Y X = some (r, σ')) (hY : ∀ r1 σ1, Y = some (r1, σ1) → fr S T σ σ1) (h : ∀ r1 σ1, X r1 σ1 = some (r, σ') → fr S T σ1 σ') : fr S T σ σ' := by
  cases hY' : Y with
  | none => rw [hY'] at hf; cases hf
  | some z =>
    obtain ⟨r1, σ1⟩ := z
    rw [hY'] at hf
    exact fr_trans (hY r1 σ1 hY') (h r1 σ1 hf)
end FR
theorem f_tape_hasRoomForTwenty {N : Nat} {r : Int32} {σ σ' : xS} (hf : tape_hasRoomForTwenty N σ = some (r, σ')) : fr [] [] σ σ' := by
  unfold tape_hasRoomForTwenty at hf
  refine fr_if hf (fun hf => ?_) (fun hf => ?_)
  · exact fr_some hf
  exact fr_some hf
theorem f_tape_addFour_b3 {N : Nat} {r : Int32} {σ' : xS} : ∀ (n : Nat) (l1 : Int32) (l2 : Int32) (σ : xS), tape_addFour_b3 N n l1 l2 σ = some (r, σ') → fr [0] [0] σ σ' := by
  intro n
  induction n with
  | zero =>
    intro l1 l2 σ hf
    rw [tape_addFour_b3] at hf
    cases hf
  | succ n ih =>
    intro l1 l2 σ hf
    rw [tape_addFour_b3] at hf
    refine fr_if hf (fun hf => ?_) (fun hf => ?_)
    · exact fr_some hf
    refine fr_if hf (fun hf => ?_) (fun hf => ?_)
    · exact fr_some hf
    refine fr_ast hf (by decide) (fun σ1 hf => ?_)
    refine fr_put hf (by decide) (fun σ2 hf => ?_)
    refine fr_bnd hf (fun l2_3 hf => ?_)
    exact ih _ _ _  hf
theorem f_tape_addFour {N : Nat} {l1 : Int32} {r : Int32} {σ σ' : xS} (hf : tape_addFour N l1 σ = some (r, σ')) : fr [0] [0] σ σ' := by
  unfold tape_addFour at hf
  exact f_tape_addFour_b3 _ _ _ _ hf
theorem f_tape_size {N : Nat} {r : Int32} {σ σ' : xS} (hf : tape_size N σ = some (r, σ')) : fr [] [] σ σ' := by
  unfold tape_size at hf
  exact fr_some hf
theorem f_cw_feed {N : Nat} {l1 : Int32} {l2 : Int32} {l3 : Int32} {l4 : Int32} {l5 : Int32} {r : Int32} {σ σ' : xS} (hf : cw_feed N l1 l2 l3 l4 l5 σ = some (r, σ')) : fr [0] [0] σ σ' := by
  unfold cw_feed at hf
  refine fr_cal hf (fun _ _ h => fr_mono (f_tape_hasRoomForTwenty h) (fun _ h => by cases h) (fun _ h => by cases h)) (fun v1 σ2 hf => ?_)
  refine fr_if hf (fun hf => ?_) (fun hf => ?_)
  · exact fr_some hf
  refine fr_cal hf (fun _ _ h => fr_mono (f_tape_addFour h) (by decide) (by decide)) (fun _ σ4 hf => ?_)
  refine fr_cal hf (fun _ _ h => fr_mono (f_tape_addFour h) (by decide) (by decide)) (fun _ σ6 hf => ?_)
  refine fr_cal hf (fun _ _ h => fr_mono (f_tape_addFour h) (by decide) (by decide)) (fun _ σ8 hf => ?_)
  refine fr_cal hf (fun _ _ h => fr_mono (f_tape_addFour h) (by decide) (by decide)) (fun _ σ10 hf => ?_)
  refine fr_cal hf (fun _ _ h => fr_mono (f_tape_addFour h) (by decide) (by decide)) (fun _ σ12 hf => ?_)
  refine fr_cal hf (fun _ _ h => fr_mono (f_tape_size h) (fun _ h => by cases h) (fun _ h => by cases h)) (fun v13 σ14 hf => ?_)
  exact fr_some hf
theorem f_tape_keepFirst {N : Nat} {l1 : Int32} {r : Int32} {σ σ' : xS} (hf : tape_keepFirst N l1 σ = some (r, σ')) : fr [0] [] σ σ' := by
  unfold tape_keepFirst at hf
  refine fr_if hf (fun hf => ?_) (fun hf => ?_)
  · exact fr_some hf
  refine fr_if hf (fun hf => ?_) (fun hf => ?_)
  · refine fr_put hf (by decide) (fun σ1 hf => ?_)
    exact fr_some hf
  exact fr_some hf
theorem f_cw_end {N : Nat} {l1 : Int32} {r : Int32} {σ σ' : xS} (hf : cw_end N l1 σ = some (r, σ')) : fr [0] [] σ σ' := by
  unfold cw_end at hf
  refine fr_cal hf (fun _ _ h => fr_mono (f_tape_keepFirst h) (by decide) (fun _ h => by cases h)) (fun v1 σ2 hf => ?_)
  refine fr_gdb hf (fun hf => ?_)
  exact fr_some hf
theorem f_cl_canBeSide {N : Nat} {l0 : Int32} {r : Int32} {σ σ' : xS} (hf : cl_canBeSide N l0 σ = some (r, σ')) : fr [] [] σ σ' := by
  unfold cl_canBeSide at hf
  refine fr_if hf (fun hf => ?_) (fun hf => ?_)
  · exact fr_some hf
  refine fr_if hf (fun hf => ?_) (fun hf => ?_)
  · exact fr_some hf
  exact fr_some hf
theorem f_ju_fill_b5 {ab : Nat} {nb : Nat} {N : Nat} {r : Int32} {σ' : xS} : ∀ (n : Nat) (l1 : Int32) (l2 : Int32) (l3 : Int32) (σ : xS), ju_fill_b5 ab nb N n l1 l2 l3 σ = some (r, σ') → fr [] [ab] σ σ' := by
  intro n
  induction n with
  | zero =>
    intro l1 l2 l3 σ hf
    rw [ju_fill_b5] at hf
    cases hf
  | succ n ih =>
    intro l1 l2 l3 σ hf
    rw [ju_fill_b5] at hf
    refine fr_if hf (fun hf => ?_) (fun hf => ?_)
    · exact fr_some hf
    refine fr_ast hf (by simp) (fun σ2 hf => ?_)
    refine fr_bnd hf (fun l2_3 hf => ?_)
    exact ih _ _ _ _  hf
theorem f_ju_fill {ab : Nat} {nb : Nat} {N : Nat} {l1 : Int32} {r : Int32} {σ σ' : xS} (hf : ju_fill ab nb N l1 σ = some (r, σ')) : fr [] [ab] σ σ' := by
  unfold ju_fill at hf
  refine fr_bnd hf (fun l3_1 hf => ?_)
  exact f_ju_fill_b5 _ _ _ _ _ hf
theorem f_draft_begin {N : Nat} {l1 : Int32} {l2 : Int32} {l3 : Int32} {r : Int32} {σ σ' : xS} (hf : draft_begin N l1 l2 l3 σ = some (r, σ')) : fr [7, 8, 9] [4] σ σ' := by
  unfold draft_begin at hf
  refine fr_put hf (by decide) (fun σ1 hf => ?_)
  refine fr_put hf (by decide) (fun σ2 hf => ?_)
  refine fr_put hf (by decide) (fun σ3 hf => ?_)
  refine fr_cal hf (fun _ _ h => fr_mono (f_ju_fill h) (fun _ h => by cases h) (by simp)) (fun _ σ5 hf => ?_)
  exact fr_some hf
theorem f_tape_byteAt {N : Nat} {l1 : Int32} {r : Int32} {σ σ' : xS} (hf : tape_byteAt N l1 σ = some (r, σ')) : fr [] [] σ σ' := by
  unfold tape_byteAt at hf
  refine fr_if hf (fun hf => ?_) (fun hf => ?_)
  · exact fr_some hf
  refine fr_if hf (fun hf => ?_) (fun hf => ?_)
  · exact fr_some hf
  refine fr_ald hf (fun v1 hf => ?_)
  exact fr_some hf
theorem f_rd_isBlank {N : Nat} {l0 : Int32} {r : Int32} {σ σ' : xS} (hf : rd_isBlank N l0 σ = some (r, σ')) : fr [] [] σ σ' := by
  unfold rd_isBlank at hf
  refine fr_if hf (fun hf => ?_) (fun hf => ?_)
  · exact fr_some hf
  refine fr_if hf (fun hf => ?_) (fun hf => ?_)
  · exact fr_some hf
  exact fr_some hf
theorem f_reader_skipBlanks_b0 {N : Nat} {r : Int32} {σ' : xS} : ∀ (n : Nat) (σ : xS), reader_skipBlanks_b0 N n σ = some (r, σ') → fr [1] [] σ σ' := by
  intro n
  induction n with
  | zero =>
    intro σ hf
    rw [reader_skipBlanks_b0] at hf
    cases hf
  | succ n ih =>
    intro σ hf
    rw [reader_skipBlanks_b0] at hf
    refine fr_cal hf (fun _ _ h => fr_mono (f_tape_size h) (fun _ h => by cases h) (fun _ h => by cases h)) (fun v1 σ2 hf => ?_)
    refine fr_if hf (fun hf => ?_) (fun hf => ?_)
    · exact fr_some hf
    refine fr_cal hf (fun _ _ h => fr_mono (f_tape_byteAt h) (fun _ h => by cases h) (fun _ h => by cases h)) (fun v3 σ4 hf => ?_)
    refine fr_cal hf (fun _ _ h => fr_mono (f_rd_isBlank h) (fun _ h => by cases h) (fun _ h => by cases h)) (fun v5 σ6 hf => ?_)
    refine fr_if hf (fun hf => ?_) (fun hf => ?_)
    · exact fr_some hf
    refine fr_put hf (by decide) (fun σ7 hf => ?_)
    exact ih _  hf
theorem f_reader_skipBlanks {N : Nat} {r : Int32} {σ σ' : xS} (hf : reader_skipBlanks N σ = some (r, σ')) : fr [1] [] σ σ' := by
  unfold reader_skipBlanks at hf
  exact f_reader_skipBlanks_b0 _ _ hf
theorem f_rd_isLetter {N : Nat} {l0 : Int32} {r : Int32} {σ σ' : xS} (hf : rd_isLetter N l0 σ = some (r, σ')) : fr [] [] σ σ' := by
  unfold rd_isLetter at hf
  refine fr_if hf (fun hf => ?_) (fun hf => ?_)
  · exact fr_some hf
  refine fr_if hf (fun hf => ?_) (fun hf => ?_)
  · exact fr_some hf
  exact fr_some hf
theorem f_reader_takeWord_b7 {w : Nat} {N : Nat} {r : Int32} {σ' : xS} : ∀ (n : Nat) (l2 : Int32) (l3 : Int32) (σ : xS), reader_takeWord_b7 w N n l2 l3 σ = some (r, σ') → fr [1] [] σ σ' := by
  intro n
  induction n with
  | zero =>
    intro l2 l3 σ hf
    rw [reader_takeWord_b7] at hf
    cases hf
  | succ n ih =>
    intro l2 l3 σ hf
    rw [reader_takeWord_b7] at hf
    refine fr_if hf (fun hf => ?_) (fun hf => ?_)
    · refine fr_cal hf (fun _ _ h => fr_mono (f_tape_byteAt h) (fun _ h => by cases h) (fun _ h => by cases h)) (fun v3 σ4 hf => ?_)
      refine fr_cal hf (fun _ _ h => fr_mono (f_rd_isLetter h) (fun _ h => by cases h) (fun _ h => by cases h)) (fun v5 σ6 hf => ?_)
      refine fr_if hf (fun hf => ?_) (fun hf => ?_)
      · refine fr_put hf (by decide) (fun σ7 hf => ?_)
        exact fr_some hf
      exact fr_some hf
    refine fr_cal hf (fun _ _ h => fr_mono (f_tape_byteAt h) (fun _ h => by cases h) (fun _ h => by cases h)) (fun v8 σ9 hf => ?_)
    refine fr_sch hf (fun v10 hf => ?_)
    refine fr_if hf (fun hf => ?_) (fun hf => ?_)
    · refine fr_bnd hf (fun l3_11 hf => ?_)
      exact ih _ _ _  hf
    exact fr_some hf
theorem f_reader_takeWord {w : Nat} {N : Nat} {r : Int32} {σ σ' : xS} (hf : reader_takeWord w N σ = some (r, σ')) : fr [1] [] σ σ' := by
  unfold reader_takeWord at hf
  refine fr_bnd hf (fun l2_2 hf => ?_)
  exact f_reader_takeWord_b7 _ _ _ _ hf
theorem f_reader_refuse {N : Nat} {l1 : Int32} {l2 : Int32} {r : Int32} {σ σ' : xS} (hf : reader_refuse N l1 l2 σ = some (r, σ')) : fr [2, 3] [] σ σ' := by
  unfold reader_refuse at hf
  refine fr_if hf (fun hf => ?_) (fun hf => ?_)
  · refine fr_put hf (by decide) (fun σ1 hf => ?_)
    refine fr_put hf (by decide) (fun σ2 hf => ?_)
    exact fr_some hf
  exact fr_some hf
theorem f_draft_canTurn {N : Nat} {r : Int32} {σ σ' : xS} (hf : draft_canTurn N σ = some (r, σ')) : fr [] [] σ σ' := by
  unfold draft_canTurn at hf
  refine fr_if hf (fun hf => ?_) (fun hf => ?_)
  · exact fr_some hf
  exact fr_some hf
theorem f_reader_readSemicolon {N : Nat} {r : Int32} {σ σ' : xS} (hf : reader_readSemicolon N σ = some (r, σ')) : fr [1, 2, 3] [] σ σ' := by
  unfold reader_readSemicolon at hf
  refine fr_cal hf (fun _ _ h => fr_mono (f_reader_skipBlanks h) (by decide) (fun _ h => by cases h)) (fun _ σ2 hf => ?_)
  refine fr_cal hf (fun _ _ h => fr_mono (f_tape_byteAt h) (fun _ h => by cases h) (fun _ h => by cases h)) (fun v3 σ4 hf => ?_)
  refine fr_if hf (fun hf => ?_) (fun hf => ?_)
  · refine fr_put hf (by decide) (fun σ7 hf => ?_)
    exact fr_some hf
  refine fr_cal hf (fun _ _ h => fr_mono (f_reader_refuse h) (by decide) (fun _ h => by cases h)) (fun _ σ6 hf => ?_)
  exact fr_some hf
theorem f_cl_indexOf {N : Nat} {l0 : Int32} {l1 : Int32} {l2 : Int32} {r : Int32} {σ σ' : xS} (hf : cl_indexOf N l0 l1 l2 σ = some (r, σ')) : fr [] [] σ σ' := by
  unfold cl_indexOf at hf
  exact fr_some hf
theorem f_cl_isSolid {a_solidCells : Nat} {N : Nat} {l1 : Int32} {r : Int32} {σ σ' : xS} (hf : cl_isSolid a_solidCells N l1 σ = some (r, σ')) : fr [] [] σ σ' := by
  unfold cl_isSolid at hf
  refine fr_if hf (fun hf => ?_) (fun hf => ?_)
  · exact fr_some hf
  refine fr_if hf (fun hf => ?_) (fun hf => ?_)
  · exact fr_some hf
  refine fr_ald hf (fun v1 hf => ?_)
  refine fr_if hf (fun hf => ?_) (fun hf => ?_)
  · exact fr_some hf
  exact fr_some hf
theorem f_draft_keepLayer_b18 {N : Nat} {K2 : Int32 → Int32 → xS → Option (Int32 × xS)} {r : Int32} {σ' : xS} (hK2 : ∀ (a0 : Int32) (a1 : Int32) (σ : xS), K2 a0 a1 σ = some (r, σ') → fr [] [5] σ σ') : ∀ (n : Nat) (l1 : Int32) (l2 : Int32) (l3 : Int32) (σ : xS), draft_keepLayer_b18 N K2 n l1 l2 l3 σ = some (r, σ') → fr [] [5] σ σ' := by
  intro n
  induction n with
  | zero =>
    intro l1 l2 l3 σ hf
    rw [draft_keepLayer_b18] at hf
    cases hf
  | succ n ih =>
    intro l1 l2 l3 σ hf
    rw [draft_keepLayer_b18] at hf
    refine fr_if hf (fun hf => ?_) (fun hf => ?_)
    · refine fr_bnd hf (fun l2_1 hf => ?_)
      exact hK2 _ _ _  hf
    refine fr_if hf (fun hf => ?_) (fun hf => ?_)
    · refine fr_bnd hf (fun l2_2 hf => ?_)
      exact hK2 _ _ _  hf
    refine fr_cal hf (fun _ _ h => fr_mono (f_cl_indexOf h) (fun _ h => by cases h) (fun _ h => by cases h)) (fun v3 σ4 hf => ?_)
    refine fr_cal hf (fun _ _ h => fr_mono (f_cl_isSolid h) (fun _ h => by cases h) (fun _ h => by cases h)) (fun v5 σ6 hf => ?_)
    refine fr_if hf (fun hf => ?_) (fun hf => ?_)
    · refine fr_ast hf (by decide) (fun σ7 hf => ?_)
      refine fr_bnd hf (fun l3_8 hf => ?_)
      exact ih _ _ _ _  hf
    refine fr_ast hf (by decide) (fun σ9 hf => ?_)
    refine fr_bnd hf (fun l3_10 hf => ?_)
    exact ih _ _ _ _  hf
theorem f_draft_keepLayer_b2 {N : Nat} {r : Int32} {σ' : xS} : ∀ (n : Nat) (l1 : Int32) (l2 : Int32) (σ : xS), draft_keepLayer_b2 N n l1 l2 σ = some (r, σ') → fr [] [5] σ σ' := by
  intro n
  induction n with
  | zero =>
    intro l1 l2 σ hf
    rw [draft_keepLayer_b2] at hf
    cases hf
  | succ n ih =>
    intro l1 l2 σ hf
    rw [draft_keepLayer_b2] at hf
    refine fr_if hf (fun hf => ?_) (fun hf => ?_)
    · exact fr_some hf
    refine fr_if hf (fun hf => ?_) (fun hf => ?_)
    · exact fr_some hf
    exact f_draft_keepLayer_b18 ih _ _ _ _ _ hf
theorem f_draft_keepLayer {N : Nat} {l1 : Int32} {r : Int32} {σ σ' : xS} (hf : draft_keepLayer N l1 σ = some (r, σ')) : fr [] [5] σ σ' := by
  unfold draft_keepLayer at hf
  exact f_draft_keepLayer_b2 _ _ _ _ hf
theorem f_cl_areWithin {i_wide : Nat} {i_high : Nat} {i_deep : Nat} {N : Nat} {l1 : Int32} {l2 : Int32} {l3 : Int32} {l4 : Int32} {r : Int32} {σ σ' : xS} (hf : cl_areWithin i_wide i_high i_deep N l1 l2 l3 l4 σ = some (r, σ')) : fr [] [] σ σ' := by
  unfold cl_areWithin at hf
  refine fr_if hf (fun hf => ?_) (fun hf => ?_)
  · exact fr_some hf
  refine fr_if hf (fun hf => ?_) (fun hf => ?_)
  · exact fr_some hf
  refine fr_if hf (fun hf => ?_) (fun hf => ?_)
  · exact fr_some hf
  refine fr_if hf (fun hf => ?_) (fun hf => ?_)
  · exact fr_some hf
  refine fr_if hf (fun hf => ?_) (fun hf => ?_)
  · exact fr_some hf
  refine fr_if hf (fun hf => ?_) (fun hf => ?_)
  · exact fr_some hf
  refine fr_if hf (fun hf => ?_) (fun hf => ?_)
  · exact fr_some hf
  exact fr_some hf
theorem f_draft_put {N : Nat} {l1 : Int32} {l2 : Int32} {l3 : Int32} {l4 : Int32} {r : Int32} {σ σ' : xS} (hf : draft_put N l1 l2 l3 l4 σ = some (r, σ')) : fr [] [4] σ σ' := by
  unfold draft_put at hf
  refine fr_cal hf (fun _ _ h => fr_mono (f_cl_areWithin h) (fun _ h => by cases h) (fun _ h => by cases h)) (fun v1 σ2 hf => ?_)
  refine fr_if hf (fun hf => ?_) (fun hf => ?_)
  · exact fr_some hf
  refine fr_cal hf (fun _ _ h => fr_mono (f_cl_indexOf h) (fun _ h => by cases h) (fun _ h => by cases h)) (fun v3 σ4 hf => ?_)
  refine fr_ast hf (by decide) (fun σ5 hf => ?_)
  exact fr_some hf
theorem f_draft_turnOnce_b40 {N : Nat} {K2 : Int32 → xS → Option (Int32 × xS)} {K24 : Int32 → Int32 → xS → Option (Int32 × xS)} {r : Int32} {σ' : xS} (hK2 : ∀ (a0 : Int32) (σ : xS), K2 a0 σ = some (r, σ') → fr [] [4, 5] σ σ') (hK24 : ∀ (a0 : Int32) (a1 : Int32) (σ : xS), K24 a0 a1 σ = some (r, σ') → fr [] [4, 5] σ σ') : ∀ (n : Nat) (l1 : Int32) (l2 : Int32) (l3 : Int32) (σ : xS), draft_turnOnce_b40 N K2 K24 n l1 l2 l3 σ = some (r, σ') → fr [] [4, 5] σ σ' := by
  intro n
  induction n with
  | zero =>
    intro l1 l2 l3 σ hf
    rw [draft_turnOnce_b40] at hf
    cases hf
  | succ n ih =>
    intro l1 l2 l3 σ hf
    rw [draft_turnOnce_b40] at hf
    refine fr_if hf (fun hf => ?_) (fun hf => ?_)
    · refine fr_bnd hf (fun l2_7 hf => ?_)
      exact hK24 _ _ _  hf
    refine fr_if hf (fun hf => ?_) (fun hf => ?_)
    · refine fr_bnd hf (fun l2_8 hf => ?_)
      exact hK24 _ _ _  hf
    refine fr_ald hf (fun v9 hf => ?_)
    refine fr_cal hf (fun _ _ h => fr_mono (f_draft_put h) (fun _ h => by cases h) (by decide)) (fun _ σ11 hf => ?_)
    refine fr_bnd hf (fun l3_12 hf => ?_)
    exact ih _ _ _ _  hf
theorem f_draft_turnOnce_b24 {N : Nat} {K2 : Int32 → xS → Option (Int32 × xS)} {r : Int32} {σ' : xS} (hK2 : ∀ (a0 : Int32) (σ : xS), K2 a0 σ = some (r, σ') → fr [] [4, 5] σ σ') : ∀ (n : Nat) (l1 : Int32) (l2 : Int32) (σ : xS), draft_turnOnce_b24 N K2 n l1 l2 σ = some (r, σ') → fr [] [4, 5] σ σ' := by
  intro n
  induction n with
  | zero =>
    intro l1 l2 σ hf
    rw [draft_turnOnce_b24] at hf
    cases hf
  | succ n ih =>
    intro l1 l2 σ hf
    rw [draft_turnOnce_b24] at hf
    refine fr_if hf (fun hf => ?_) (fun hf => ?_)
    · refine fr_bnd hf (fun l1_5 hf => ?_)
      exact hK2 _ _  hf
    refine fr_if hf (fun hf => ?_) (fun hf => ?_)
    · refine fr_bnd hf (fun l1_6 hf => ?_)
      exact hK2 _ _  hf
    exact f_draft_turnOnce_b40 hK2 ih _ _ _ _ _ hf
theorem f_draft_turnOnce_b2 {N : Nat} {r : Int32} {σ' : xS} : ∀ (n : Nat) (l1 : Int32) (σ : xS), draft_turnOnce_b2 N n l1 σ = some (r, σ') → fr [] [4, 5] σ σ' := by
  intro n
  induction n with
  | zero =>
    intro l1 σ hf
    rw [draft_turnOnce_b2] at hf
    cases hf
  | succ n ih =>
    intro l1 σ hf
    rw [draft_turnOnce_b2] at hf
    refine fr_if hf (fun hf => ?_) (fun hf => ?_)
    · exact fr_some hf
    refine fr_cal hf (fun _ _ h => fr_mono (f_draft_canTurn h) (fun _ h => by cases h) (fun _ h => by cases h)) (fun v1 σ2 hf => ?_)
    refine fr_if hf (fun hf => ?_) (fun hf => ?_)
    · exact fr_some hf
    refine fr_cal hf (fun _ _ h => fr_mono (f_draft_keepLayer h) (fun _ h => by cases h) (by decide)) (fun _ σ4 hf => ?_)
    exact f_draft_turnOnce_b24 ih _ _ _ _ hf
theorem f_draft_turnOnce {N : Nat} {r : Int32} {σ σ' : xS} (hf : draft_turnOnce N σ = some (r, σ')) : fr [] [4, 5] σ σ' := by
  unfold draft_turnOnce at hf
  exact f_draft_turnOnce_b2 _ _ _ hf
theorem f_reader_readTurn {N : Nat} {l2 : Int32} {r : Int32} {σ σ' : xS} (hf : reader_readTurn N l2 σ = some (r, σ')) : fr [1, 2, 3] [4, 5] σ σ' := by
  unfold reader_readTurn at hf
  refine fr_cal hf (fun _ _ h => fr_mono (f_draft_canTurn h) (fun _ h => by cases h) (fun _ h => by cases h)) (fun v1 σ2 hf => ?_)
  refine fr_if hf (fun hf => ?_) (fun hf => ?_)
  · refine fr_cal hf (fun _ _ h => fr_mono (f_reader_refuse h) (by decide) (fun _ h => by cases h)) (fun _ σ8 hf => ?_)
    refine fr_cal hf (fun _ _ h => fr_mono (f_reader_readSemicolon h) (by decide) (fun _ h => by cases h)) (fun _ σ10 hf => ?_)
    refine fr_if hf (fun hf => ?_) (fun hf => ?_)
    · refine fr_cal hf (fun _ _ h => fr_mono (f_draft_turnOnce h) (fun _ h => by cases h) (by decide)) (fun _ σ12 hf => ?_)
      exact fr_some hf
    exact fr_some hf
  refine fr_cal hf (fun _ _ h => fr_mono (f_reader_readSemicolon h) (by decide) (fun _ h => by cases h)) (fun _ σ4 hf => ?_)
  refine fr_if hf (fun hf => ?_) (fun hf => ?_)
  · refine fr_cal hf (fun _ _ h => fr_mono (f_draft_turnOnce h) (fun _ h => by cases h) (by decide)) (fun _ σ6 hf => ?_)
    exact fr_some hf
  exact fr_some hf
theorem f_reader_takeAxis {N : Nat} {r : Int32} {σ σ' : xS} (hf : reader_takeAxis N σ = some (r, σ')) : fr [1] [] σ σ' := by
  unfold reader_takeAxis at hf
  refine fr_cal hf (fun _ _ h => fr_mono (f_reader_takeWord h) (by decide) (fun _ h => by cases h)) (fun v1 σ2 hf => ?_)
  refine fr_if hf (fun hf => ?_) (fun hf => ?_)
  · refine fr_cal hf (fun _ _ h => fr_mono (f_reader_takeWord h) (by decide) (fun _ h => by cases h)) (fun v3 σ4 hf => ?_)
    refine fr_if hf (fun hf => ?_) (fun hf => ?_)
    · refine fr_cal hf (fun _ _ h => fr_mono (f_reader_takeWord h) (by decide) (fun _ h => by cases h)) (fun v5 σ6 hf => ?_)
      refine fr_if hf (fun hf => ?_) (fun hf => ?_)
      · exact fr_some hf
      exact fr_some hf
    exact fr_some hf
  exact fr_some hf
theorem f_draft_mirrorAcross_b82 {N : Nat} {K2 : Int32 → Int32 → xS → Option (Int32 × xS)} {K12 : Int32 → Int32 → Int32 → xS → Option (Int32 × xS)} {K23 : Int32 → Int32 → Int32 → Int32 → xS → Option (Int32 × xS)} {r : Int32} {σ' : xS} (hK2 : ∀ (a0 : Int32) (a1 : Int32) (σ : xS), K2 a0 a1 σ = some (r, σ') → fr [] [4] σ σ') (hK12 : ∀ (a0 : Int32) (a1 : Int32) (a2 : Int32) (σ : xS), K12 a0 a1 a2 σ = some (r, σ') → fr [] [4] σ σ') (hK23 : ∀ (a0 : Int32) (a1 : Int32) (a2 : Int32) (a3 : Int32) (σ : xS), K23 a0 a1 a2 a3 σ = some (r, σ') → fr [] [4] σ σ') : ∀ (l1 : Int32) (l2 : Int32) (l3 : Int32) (l4 : Int32) (s1 : Int32) (s2 : Int32) (σ : xS), draft_mirrorAcross_b82 N K2 K12 K23 l1 l2 l3 l4 s1 s2 σ = some (r, σ') → fr [] [4] σ σ' := by
  intro l1 l2 l3 l4 s1 s2 σ hf
  unfold draft_mirrorAcross_b82 at hf
  refine fr_if hf (fun hf => ?_) (fun hf => ?_)
  · refine fr_cal hf (fun _ _ h => fr_mono (f_draft_put h) (fun _ h => by cases h) (by decide)) (fun _ σ12 hf => ?_)
    refine fr_bnd hf (fun l4_13 hf => ?_)
    exact hK23 _ _ _ _ _  hf
  refine fr_cal hf (fun _ _ h => fr_mono (f_draft_put h) (fun _ h => by cases h) (by decide)) (fun _ σ9 hf => ?_)
  refine fr_bnd hf (fun l4_10 hf => ?_)
  exact hK23 _ _ _ _ _  hf
theorem f_draft_mirrorAcross_b65 {N : Nat} {K2 : Int32 → Int32 → xS → Option (Int32 × xS)} {K12 : Int32 → Int32 → Int32 → xS → Option (Int32 × xS)} {K23 : Int32 → Int32 → Int32 → Int32 → xS → Option (Int32 × xS)} {r : Int32} {σ' : xS} (hK2 : ∀ (a0 : Int32) (a1 : Int32) (σ : xS), K2 a0 a1 σ = some (r, σ') → fr [] [4] σ σ') (hK12 : ∀ (a0 : Int32) (a1 : Int32) (a2 : Int32) (σ : xS), K12 a0 a1 a2 σ = some (r, σ') → fr [] [4] σ σ') (hK23 : ∀ (a0 : Int32) (a1 : Int32) (a2 : Int32) (a3 : Int32) (σ : xS), K23 a0 a1 a2 a3 σ = some (r, σ') → fr [] [4] σ σ') : ∀ (l1 : Int32) (l2 : Int32) (l3 : Int32) (l4 : Int32) (s1 : Int32) (σ : xS), draft_mirrorAcross_b65 N K2 K12 K23 l1 l2 l3 l4 s1 σ = some (r, σ') → fr [] [4] σ σ' := by
  intro l1 l2 l3 l4 s1 σ hf
  unfold draft_mirrorAcross_b65 at hf
  refine fr_if hf (fun hf => ?_) (fun hf => ?_)
  · exact f_draft_mirrorAcross_b82 hK2 hK12 hK23 _ _ _ _ _ _ _ hf
  exact f_draft_mirrorAcross_b82 hK2 hK12 hK23 _ _ _ _ _ _ _ hf
theorem f_draft_mirrorAcross_b23 {N : Nat} {K2 : Int32 → Int32 → xS → Option (Int32 × xS)} {K12 : Int32 → Int32 → Int32 → xS → Option (Int32 × xS)} {r : Int32} {σ' : xS} (hK2 : ∀ (a0 : Int32) (a1 : Int32) (σ : xS), K2 a0 a1 σ = some (r, σ') → fr [] [4] σ σ') (hK12 : ∀ (a0 : Int32) (a1 : Int32) (a2 : Int32) (σ : xS), K12 a0 a1 a2 σ = some (r, σ') → fr [] [4] σ σ') : ∀ (n : Nat) (l1 : Int32) (l2 : Int32) (l3 : Int32) (l4 : Int32) (σ : xS), draft_mirrorAcross_b23 N K2 K12 n l1 l2 l3 l4 σ = some (r, σ') → fr [] [4] σ σ' := by
  intro n
  induction n with
  | zero =>
    intro l1 l2 l3 l4 σ hf
    rw [draft_mirrorAcross_b23] at hf
    cases hf
  | succ n ih =>
    intro l1 l2 l3 l4 σ hf
    rw [draft_mirrorAcross_b23] at hf
    refine fr_if hf (fun hf => ?_) (fun hf => ?_)
    · refine fr_bnd hf (fun l3_2 hf => ?_)
      exact hK12 _ _ _ _  hf
    refine fr_cal hf (fun _ _ h => fr_mono (f_cl_indexOf h) (fun _ h => by cases h) (fun _ h => by cases h)) (fun v3 σ4 hf => ?_)
    refine fr_cal hf (fun _ _ h => fr_mono (f_cl_isSolid h) (fun _ h => by cases h) (fun _ h => by cases h)) (fun v5 σ6 hf => ?_)
    refine fr_if hf (fun hf => ?_) (fun hf => ?_)
    · refine fr_bnd hf (fun l4_7 hf => ?_)
      exact ih _ _ _ _ _  hf
    refine fr_if hf (fun hf => ?_) (fun hf => ?_)
    · exact f_draft_mirrorAcross_b65 hK2 hK12 ih _ _ _ _ _ _ hf
    exact f_draft_mirrorAcross_b65 hK2 hK12 ih _ _ _ _ _ _ hf
theorem f_draft_mirrorAcross_b12 {N : Nat} {K2 : Int32 → Int32 → xS → Option (Int32 × xS)} {r : Int32} {σ' : xS} (hK2 : ∀ (a0 : Int32) (a1 : Int32) (σ : xS), K2 a0 a1 σ = some (r, σ') → fr [] [4] σ σ') : ∀ (n : Nat) (l1 : Int32) (l2 : Int32) (l3 : Int32) (σ : xS), draft_mirrorAcross_b12 N K2 n l1 l2 l3 σ = some (r, σ') → fr [] [4] σ σ' := by
  intro n
  induction n with
  | zero =>
    intro l1 l2 l3 σ hf
    rw [draft_mirrorAcross_b12] at hf
    cases hf
  | succ n ih =>
    intro l1 l2 l3 σ hf
    rw [draft_mirrorAcross_b12] at hf
    refine fr_if hf (fun hf => ?_) (fun hf => ?_)
    · refine fr_bnd hf (fun l2_1 hf => ?_)
      exact hK2 _ _ _  hf
    exact f_draft_mirrorAcross_b23 hK2 ih _ _ _ _ _ _ hf
theorem f_draft_mirrorAcross_b2 {N : Nat} {r : Int32} {σ' : xS} : ∀ (n : Nat) (l1 : Int32) (l2 : Int32) (σ : xS), draft_mirrorAcross_b2 N n l1 l2 σ = some (r, σ') → fr [] [4] σ σ' := by
  intro n
  induction n with
  | zero =>
    intro l1 l2 σ hf
    rw [draft_mirrorAcross_b2] at hf
    cases hf
  | succ n ih =>
    intro l1 l2 σ hf
    rw [draft_mirrorAcross_b2] at hf
    refine fr_if hf (fun hf => ?_) (fun hf => ?_)
    · exact fr_some hf
    exact f_draft_mirrorAcross_b12 ih _ _ _ _ _ hf
theorem f_draft_mirrorAcross {N : Nat} {l1 : Int32} {r : Int32} {σ σ' : xS} (hf : draft_mirrorAcross N l1 σ = some (r, σ')) : fr [] [4] σ σ' := by
  unfold draft_mirrorAcross at hf
  exact f_draft_mirrorAcross_b2 _ _ _ _ hf
theorem f_reader_readMirror {N : Nat} {r : Int32} {σ σ' : xS} (hf : reader_readMirror N σ = some (r, σ')) : fr [1, 2, 3] [4] σ σ' := by
  unfold reader_readMirror at hf
  refine fr_cal hf (fun _ _ h => fr_mono (f_reader_skipBlanks h) (by decide) (fun _ h => by cases h)) (fun _ σ2 hf => ?_)
  refine fr_bnd hf (fun l2_3 hf => ?_)
  refine fr_cal hf (fun _ _ h => fr_mono (f_reader_takeAxis h) (by decide) (fun _ h => by cases h)) (fun v4 σ5 hf => ?_)
  refine fr_if hf (fun hf => ?_) (fun hf => ?_)
  · refine fr_cal hf (fun _ _ h => fr_mono (f_reader_refuse h) (by decide) (fun _ h => by cases h)) (fun _ σ11 hf => ?_)
    refine fr_cal hf (fun _ _ h => fr_mono (f_reader_readSemicolon h) (by decide) (fun _ h => by cases h)) (fun _ σ13 hf => ?_)
    refine fr_if hf (fun hf => ?_) (fun hf => ?_)
    · refine fr_cal hf (fun _ _ h => fr_mono (f_draft_mirrorAcross h) (fun _ h => by cases h) (by decide)) (fun _ σ15 hf => ?_)
      exact fr_some hf
    exact fr_some hf
  refine fr_cal hf (fun _ _ h => fr_mono (f_reader_readSemicolon h) (by decide) (fun _ h => by cases h)) (fun _ σ7 hf => ?_)
  refine fr_if hf (fun hf => ?_) (fun hf => ?_)
  · refine fr_cal hf (fun _ _ h => fr_mono (f_draft_mirrorAcross h) (fun _ h => by cases h) (by decide)) (fun _ σ9 hf => ?_)
    exact fr_some hf
  exact fr_some hf
theorem f_draft_fillBlock_b84 {N : Nat} {K60 : Int32 → Int32 → Int32 → Int32 → Int32 → xS → Option (Int32 × xS)} {K72 : Int32 → Int32 → Int32 → Int32 → Int32 → Int32 → xS → Option (Int32 × xS)} {r : Int32} {σ' : xS} (hK60 : ∀ (a0 : Int32) (a1 : Int32) (a2 : Int32) (a3 : Int32) (a4 : Int32) (σ : xS), K60 a0 a1 a2 a3 a4 σ = some (r, σ') → fr [] [4] σ σ') (hK72 : ∀ (a0 : Int32) (a1 : Int32) (a2 : Int32) (a3 : Int32) (a4 : Int32) (a5 : Int32) (σ : xS), K72 a0 a1 a2 a3 a4 a5 σ = some (r, σ') → fr [] [4] σ σ') : ∀ (n : Nat) (l2 : Int32) (l3 : Int32) (l4 : Int32) (l5 : Int32) (l6 : Int32) (l7 : Int32) (l8 : Int32) (σ : xS), draft_fillBlock_b84 N K60 K72 n l2 l3 l4 l5 l6 l7 l8 σ = some (r, σ') → fr [] [4] σ σ' := by
  intro n
  induction n with
  | zero =>
    intro l2 l3 l4 l5 l6 l7 l8 σ hf
    rw [draft_fillBlock_b84] at hf
    cases hf
  | succ n ih =>
    intro l2 l3 l4 l5 l6 l7 l8 σ hf
    rw [draft_fillBlock_b84] at hf
    refine fr_if hf (fun hf => ?_) (fun hf => ?_)
    · refine fr_bnd hf (fun l7_14 hf => ?_)
      exact hK72 _ _ _ _ _ _ _  hf
    refine fr_cal hf (fun _ _ h => fr_mono (f_draft_put h) (fun _ h => by cases h) (by decide)) (fun _ σ16 hf => ?_)
    refine fr_bnd hf (fun l8_17 hf => ?_)
    exact ih _ _ _ _ _ _ _ _  hf
theorem f_draft_fillBlock_b72 {N : Nat} {K60 : Int32 → Int32 → Int32 → Int32 → Int32 → xS → Option (Int32 × xS)} {r : Int32} {σ' : xS} (hK60 : ∀ (a0 : Int32) (a1 : Int32) (a2 : Int32) (a3 : Int32) (a4 : Int32) (σ : xS), K60 a0 a1 a2 a3 a4 σ = some (r, σ') → fr [] [4] σ σ') : ∀ (n : Nat) (l2 : Int32) (l3 : Int32) (l4 : Int32) (l5 : Int32) (l6 : Int32) (l7 : Int32) (σ : xS), draft_fillBlock_b72 N K60 n l2 l3 l4 l5 l6 l7 σ = some (r, σ') → fr [] [4] σ σ' := by
  intro n
  induction n with
  | zero =>
    intro l2 l3 l4 l5 l6 l7 σ hf
    rw [draft_fillBlock_b72] at hf
    cases hf
  | succ n ih =>
    intro l2 l3 l4 l5 l6 l7 σ hf
    rw [draft_fillBlock_b72] at hf
    refine fr_if hf (fun hf => ?_) (fun hf => ?_)
    · refine fr_bnd hf (fun l6_12 hf => ?_)
      exact hK60 _ _ _ _ _ _  hf
    refine fr_ald hf (fun v13 hf => ?_)
    exact f_draft_fillBlock_b84 hK60 ih _ _ _ _ _ _ _ _ _ hf
theorem f_draft_fillBlock_b60 {N : Nat} {r : Int32} {σ' : xS} : ∀ (n : Nat) (l2 : Int32) (l3 : Int32) (l4 : Int32) (l5 : Int32) (l6 : Int32) (σ : xS), draft_fillBlock_b60 N n l2 l3 l4 l5 l6 σ = some (r, σ') → fr [] [4] σ σ' := by
  intro n
  induction n with
  | zero =>
    intro l2 l3 l4 l5 l6 σ hf
    rw [draft_fillBlock_b60] at hf
    cases hf
  | succ n ih =>
    intro l2 l3 l4 l5 l6 σ hf
    rw [draft_fillBlock_b60] at hf
    refine fr_if hf (fun hf => ?_) (fun hf => ?_)
    · exact fr_some hf
    refine fr_ald hf (fun v11 hf => ?_)
    exact f_draft_fillBlock_b72 ih _ _ _ _ _ _ _ _ hf
theorem f_draft_fillBlock {N : Nat} {l2 : Int32} {r : Int32} {σ σ' : xS} (hf : draft_fillBlock N l2 σ = some (r, σ')) : fr [] [4] σ σ' := by
  unfold draft_fillBlock at hf
  refine fr_if hf (fun hf => ?_) (fun hf => ?_)
  · refine fr_ald hf (fun v1 hf => ?_)
    refine fr_ald hf (fun v2 hf => ?_)
    refine fr_bnd hf (fun v3 hf => ?_)
    refine fr_ald hf (fun v4 hf => ?_)
    refine fr_ald hf (fun v5 hf => ?_)
    refine fr_bnd hf (fun v6 hf => ?_)
    refine fr_ald hf (fun v7 hf => ?_)
    refine fr_ald hf (fun v8 hf => ?_)
    refine fr_bnd hf (fun v9 hf => ?_)
    refine fr_ald hf (fun v10 hf => ?_)
    exact f_draft_fillBlock_b60 _ _ _ _ _ _ _ hf
  exact fr_some hf
theorem f_reader_readNumber_b37 {N : Nat} {r : Int32} {σ' : xS} : ∀ (l1 : Int32) (l3 : Int32) (s0 : Int32) (σ : xS), reader_readNumber_b37 N l1 l3 s0 σ = some (r, σ') → fr [1, 2, 3] [1] σ σ' := by
  intro l1 l3 s0 σ hf
  unfold reader_readNumber_b37 at hf
  refine fr_if hf (fun hf => ?_) (fun hf => ?_)
  · refine fr_cal hf (fun _ _ h => fr_mono (f_reader_refuse h) (by decide) (fun _ h => by cases h)) (fun _ σ8 hf => ?_)
    exact fr_some hf
  refine fr_if hf (fun hf => ?_) (fun hf => ?_)
  · refine fr_cal hf (fun _ _ h => fr_mono (f_reader_refuse h) (by decide) (fun _ h => by cases h)) (fun _ σ10 hf => ?_)
    exact fr_some hf
  refine fr_if hf (fun hf => ?_) (fun hf => ?_)
  · refine fr_if hf (fun hf => ?_) (fun hf => ?_)
    · refine fr_ast hf (by decide) (fun σ11 hf => ?_)
      refine fr_put hf (by decide) (fun σ12 hf => ?_)
      exact fr_some hf
    refine fr_if hf (fun hf => ?_) (fun hf => ?_)
    · refine fr_cal hf (fun _ _ h => fr_mono (f_reader_refuse h) (by decide) (fun _ h => by cases h)) (fun _ σ16 hf => ?_)
      exact fr_some hf
    refine fr_ast hf (by decide) (fun σ13 hf => ?_)
    refine fr_put hf (by decide) (fun σ14 hf => ?_)
    exact fr_some hf
  refine fr_cal hf (fun _ _ h => fr_mono (f_reader_refuse h) (by decide) (fun _ h => by cases h)) (fun _ σ18 hf => ?_)
  exact fr_some hf
theorem f_reader_readNumber {N : Nat} {l1 : Int32} {r : Int32} {σ σ' : xS} (hf : reader_readNumber N l1 σ = some (r, σ')) : fr [1, 2, 3] [1] σ σ' := by
  unfold reader_readNumber at hf
  refine fr_bnd hf (fun l2_1 hf => ?_)
  refine fr_cal hf (fun _ _ h => fr_mono (f_reader_skipBlanks h) (by decide) (fun _ h => by cases h)) (fun _ σ3 hf => ?_)
  refine fr_cal hf (fun _ _ h => fr_mono (f_tape_byteAt h) (fun _ h => by cases h) (fun _ h => by cases h)) (fun v4 σ5 hf => ?_)
  refine fr_bnd hf (fun l3_6 hf => ?_)
  refine fr_if hf (fun hf => ?_) (fun hf => ?_)
  · exact f_reader_readNumber_b37 _ _ _ _ hf
  exact f_reader_readNumber_b37 _ _ _ _ hf
theorem f_reader_readBlock_b2 {N : Nat} {r : Int32} {σ' : xS} : ∀ (n : Nat) (l2 : Int32) (l3 : Int32) (σ : xS), reader_readBlock_b2 N n l2 l3 σ = some (r, σ') → fr [1, 2, 3] [1, 4] σ σ' := by
  intro n
  induction n with
  | zero =>
    intro l2 l3 σ hf
    rw [reader_readBlock_b2] at hf
    cases hf
  | succ n ih =>
    intro l2 l3 σ hf
    rw [reader_readBlock_b2] at hf
    refine fr_if hf (fun hf => ?_) (fun hf => ?_)
    · refine fr_cal hf (fun _ _ h => fr_mono (f_reader_readSemicolon h) (by decide) (fun _ h => by cases h)) (fun _ σ2 hf => ?_)
      refine fr_if hf (fun hf => ?_) (fun hf => ?_)
      · refine fr_cal hf (fun _ _ h => fr_mono (f_draft_fillBlock h) (fun _ h => by cases h) (by decide)) (fun _ σ4 hf => ?_)
        exact fr_some hf
      exact fr_some hf
    refine fr_if hf (fun hf => ?_) (fun hf => ?_)
    · refine fr_cal hf (fun _ _ h => fr_mono (f_reader_readNumber h) (by decide) (by decide)) (fun _ σ10 hf => ?_)
      refine fr_bnd hf (fun l3_11 hf => ?_)
      exact ih _ _ _  hf
    refine fr_cal hf (fun _ _ h => fr_mono (f_reader_readSemicolon h) (by decide) (fun _ h => by cases h)) (fun _ σ6 hf => ?_)
    refine fr_if hf (fun hf => ?_) (fun hf => ?_)
    · refine fr_cal hf (fun _ _ h => fr_mono (f_draft_fillBlock h) (fun _ h => by cases h) (by decide)) (fun _ σ8 hf => ?_)
      exact fr_some hf
    exact fr_some hf
theorem f_reader_readBlock {N : Nat} {l2 : Int32} {r : Int32} {σ σ' : xS} (hf : reader_readBlock N l2 σ = some (r, σ')) : fr [1, 2, 3] [1, 4] σ σ' := by
  unfold reader_readBlock at hf
  exact f_reader_readBlock_b2 _ _ _ _ hf
theorem f_reader_readStatement {N : Nat} {r : Int32} {σ σ' : xS} (hf : reader_readStatement N σ = some (r, σ')) : fr [1, 2, 3] [1, 4, 5] σ σ' := by
  unfold reader_readStatement at hf
  refine fr_bnd hf (fun l2_1 hf => ?_)
  refine fr_cal hf (fun _ _ h => fr_mono (f_reader_takeWord h) (by decide) (fun _ h => by cases h)) (fun v2 σ3 hf => ?_)
  refine fr_if hf (fun hf => ?_) (fun hf => ?_)
  · refine fr_cal hf (fun _ _ h => fr_mono (f_reader_takeWord h) (by decide) (fun _ h => by cases h)) (fun v4 σ5 hf => ?_)
    refine fr_if hf (fun hf => ?_) (fun hf => ?_)
    · refine fr_cal hf (fun _ _ h => fr_mono (f_reader_takeWord h) (by decide) (fun _ h => by cases h)) (fun v6 σ7 hf => ?_)
      refine fr_if hf (fun hf => ?_) (fun hf => ?_)
      · refine fr_cal hf (fun _ _ h => fr_mono (f_reader_takeWord h) (by decide) (fun _ h => by cases h)) (fun v8 σ9 hf => ?_)
        refine fr_if hf (fun hf => ?_) (fun hf => ?_)
        · refine fr_cal hf (fun _ _ h => fr_mono (f_reader_refuse h) (by decide) (fun _ h => by cases h)) (fun _ σ11 hf => ?_)
          exact fr_some hf
        refine fr_cal hf (fun _ _ h => fr_mono (f_reader_readTurn h) (by decide) (by decide)) (fun _ σ13 hf => ?_)
        exact fr_some hf
      refine fr_cal hf (fun _ _ h => fr_mono (f_reader_readMirror h) (by decide) (by decide)) (fun _ σ15 hf => ?_)
      exact fr_some hf
    refine fr_cal hf (fun _ _ h => fr_mono (f_reader_readBlock h) (by decide) (by decide)) (fun _ σ17 hf => ?_)
    exact fr_some hf
  refine fr_cal hf (fun _ _ h => fr_mono (f_reader_readBlock h) (by decide) (by decide)) (fun _ σ19 hf => ?_)
  exact fr_some hf
theorem f_reader_readOnto_b21 {N : Nat} {r : Int32} {σ' : xS} : ∀ (n : Nat) (l2 : Int32) (σ : xS), reader_readOnto_b21 N n l2 σ = some (r, σ') → fr [1, 2, 3] [1, 4, 5] σ σ' := by
  intro n
  induction n with
  | zero =>
    intro l2 σ hf
    rw [reader_readOnto_b21] at hf
    cases hf
  | succ n ih =>
    intro l2 σ hf
    rw [reader_readOnto_b21] at hf
    refine fr_if hf (fun hf => ?_) (fun hf => ?_)
    · refine fr_if hf (fun hf => ?_) (fun hf => ?_)
      · exact fr_some hf
      exact fr_some hf
    refine fr_if hf (fun hf => ?_) (fun hf => ?_)
    · refine fr_cal hf (fun _ _ h => fr_mono (f_tape_size h) (fun _ h => by cases h) (fun _ h => by cases h)) (fun v6 σ7 hf => ?_)
      refine fr_if hf (fun hf => ?_) (fun hf => ?_)
      · refine fr_if hf (fun hf => ?_) (fun hf => ?_)
        · exact fr_some hf
        exact fr_some hf
      refine fr_cal hf (fun _ _ h => fr_mono (f_reader_readStatement h) (by decide) (by decide)) (fun _ σ9 hf => ?_)
      refine fr_cal hf (fun _ _ h => fr_mono (f_reader_skipBlanks h) (by decide) (fun _ h => by cases h)) (fun _ σ11 hf => ?_)
      refine fr_bnd hf (fun l2_12 hf => ?_)
      exact ih _ _  hf
    refine fr_if hf (fun hf => ?_) (fun hf => ?_)
    · exact fr_some hf
    exact fr_some hf
theorem f_reader_readOnto {N : Nat} {r : Int32} {σ σ' : xS} (hf : reader_readOnto N σ = some (r, σ')) : fr [1, 2, 3] [1, 4, 5] σ σ' := by
  unfold reader_readOnto at hf
  refine fr_put hf (by decide) (fun σ1 hf => ?_)
  refine fr_put hf (by decide) (fun σ2 hf => ?_)
  refine fr_put hf (by decide) (fun σ3 hf => ?_)
  refine fr_cal hf (fun _ _ h => fr_mono (f_reader_skipBlanks h) (by decide) (fun _ h => by cases h)) (fun _ σ5 hf => ?_)
  exact f_reader_readOnto_b21 _ _ _ hf
theorem f_cells_copyFrom {N : Nat} {r : Int32} {σ σ' : xS} (hf : cells_copyFrom N σ = some (r, σ')) : fr [4, 5, 6] [2] σ σ' := by
  unfold cells_copyFrom at hf
  refine fr_put hf (by decide) (fun σ1 hf => ?_)
  refine fr_put hf (by decide) (fun σ2 hf => ?_)
  refine fr_put hf (by decide) (fun σ3 hf => ?_)
  refine fr_cpy hf (by decide) (fun σ4 hf => ?_)
  exact fr_some hf
theorem f_mould_beside {N : Nat} {l1 : Int32} {l2 : Int32} {r : Int32} {σ σ' : xS} (hf : mould_beside N l1 l2 σ = some (r, σ')) : fr [] [] σ σ' := by
  unfold mould_beside at hf
  refine fr_if hf (fun hf => ?_) (fun hf => ?_)
  · refine fr_if hf (fun hf => ?_) (fun hf => ?_)
    · refine fr_gdz hf (fun hf => ?_)
      refine fr_if hf (fun hf => ?_) (fun hf => ?_)
      · exact fr_some hf
      exact fr_some hf
    refine fr_if hf (fun hf => ?_) (fun hf => ?_)
    · refine fr_gdz hf (fun hf => ?_)
      refine fr_if hf (fun hf => ?_) (fun hf => ?_)
      · exact fr_some hf
      exact fr_some hf
    refine fr_if hf (fun hf => ?_) (fun hf => ?_)
    · refine fr_gdz hf (fun hf => ?_)
      refine fr_gdz hf (fun hf => ?_)
      refine fr_if hf (fun hf => ?_) (fun hf => ?_)
      · exact fr_some hf
      exact fr_some hf
    refine fr_if hf (fun hf => ?_) (fun hf => ?_)
    · refine fr_gdz hf (fun hf => ?_)
      refine fr_gdz hf (fun hf => ?_)
      refine fr_if hf (fun hf => ?_) (fun hf => ?_)
      · exact fr_some hf
      exact fr_some hf
    refine fr_if hf (fun hf => ?_) (fun hf => ?_)
    · refine fr_gdz hf (fun hf => ?_)
      refine fr_if hf (fun hf => ?_) (fun hf => ?_)
      · exact fr_some hf
      exact fr_some hf
    refine fr_if hf (fun hf => ?_) (fun hf => ?_)
    · refine fr_gdz hf (fun hf => ?_)
      refine fr_if hf (fun hf => ?_) (fun hf => ?_)
      · exact fr_some hf
      exact fr_some hf
    exact fr_some hf
  exact fr_some hf
theorem f_mould_freeInwards_b5 {N : Nat} {r : Int32} {σ' : xS} : ∀ (n : Nat) (l2 : Int32) (l3 : Int32) (l4 : Int32) (σ : xS), mould_freeInwards_b5 N n l2 l3 l4 σ = some (r, σ') → fr [] [7] σ σ' := by
  intro n
  induction n with
  | zero =>
    intro l2 l3 l4 σ hf
    rw [mould_freeInwards_b5] at hf
    cases hf
  | succ n ih =>
    intro l2 l3 l4 σ hf
    rw [mould_freeInwards_b5] at hf
    refine fr_if hf (fun hf => ?_) (fun hf => ?_)
    · exact fr_some hf
    refine fr_if hf (fun hf => ?_) (fun hf => ?_)
    · exact fr_some hf
    refine fr_if hf (fun hf => ?_) (fun hf => ?_)
    · exact fr_some hf
    refine fr_cal hf (fun _ _ h => fr_mono (f_cl_isSolid h) (fun _ h => by cases h) (fun _ h => by cases h)) (fun v1 σ2 hf => ?_)
    refine fr_if hf (fun hf => ?_) (fun hf => ?_)
    · refine fr_ald hf (fun v3 hf => ?_)
      refine fr_ast hf (by decide) (fun σ4 hf => ?_)
      refine fr_cal hf (fun _ _ h => fr_mono (f_mould_beside h) (fun _ h => by cases h) (fun _ h => by cases h)) (fun v5 σ6 hf => ?_)
      refine fr_bnd hf (fun l4_7 hf => ?_)
      exact ih _ _ _ _  hf
    exact fr_some hf
theorem f_mould_freeInwards {N : Nat} {l1 : Int32} {l2 : Int32} {r : Int32} {σ σ' : xS} (hf : mould_freeInwards N l1 l2 σ = some (r, σ')) : fr [] [7] σ σ' := by
  unfold mould_freeInwards at hf
  exact f_mould_freeInwards_b5 _ _ _ _ _ hf
theorem f_mould_freeFromEdge_b2 {N : Nat} {r : Int32} {σ' : xS} : ∀ (n : Nat) (l1 : Int32) (l2 : Int32) (σ : xS), mould_freeFromEdge_b2 N n l1 l2 σ = some (r, σ') → fr [] [7] σ σ' := by
  intro n
  induction n with
  | zero =>
    intro l1 l2 σ hf
    rw [mould_freeFromEdge_b2] at hf
    cases hf
  | succ n ih =>
    intro l1 l2 σ hf
    rw [mould_freeFromEdge_b2] at hf
    refine fr_if hf (fun hf => ?_) (fun hf => ?_)
    · exact fr_some hf
    refine fr_cal hf (fun _ _ h => fr_mono (f_mould_beside h) (fun _ h => by cases h) (fun _ h => by cases h)) (fun v1 σ2 hf => ?_)
    refine fr_if hf (fun hf => ?_) (fun hf => ?_)
    · refine fr_cal hf (fun _ _ h => fr_mono (f_mould_freeInwards h) (fun _ h => by cases h) (by decide)) (fun _ σ5 hf => ?_)
      refine fr_bnd hf (fun l2_6 hf => ?_)
      exact ih _ _ _  hf
    refine fr_bnd hf (fun l2_3 hf => ?_)
    exact ih _ _ _  hf
theorem f_mould_freeFromEdge {N : Nat} {l1 : Int32} {r : Int32} {σ σ' : xS} (hf : mould_freeFromEdge N l1 σ = some (r, σ')) : fr [] [7] σ σ' := by
  unfold mould_freeFromEdge at hf
  exact f_mould_freeFromEdge_b2 _ _ _ _ hf
theorem f_mould_cellAt {N : Nat} {l1 : Int32} {l2 : Int32} {l3 : Int32} {r : Int32} {σ σ' : xS} (hf : mould_cellAt N l1 l2 l3 σ = some (r, σ')) : fr [] [] σ σ' := by
  unfold mould_cellAt at hf
  refine fr_cal hf (fun _ _ h => fr_mono (f_cl_areWithin h) (fun _ h => by cases h) (fun _ h => by cases h)) (fun v1 σ2 hf => ?_)
  refine fr_if hf (fun hf => ?_) (fun hf => ?_)
  · exact fr_some hf
  refine fr_cal hf (fun _ _ h => fr_mono (f_cl_indexOf h) (fun _ h => by cases h) (fun _ h => by cases h)) (fun v3 σ4 hf => ?_)
  refine fr_cal hf (fun _ _ h => fr_mono (f_cl_isSolid h) (fun _ h => by cases h) (fun _ h => by cases h)) (fun v5 σ6 hf => ?_)
  refine fr_if hf (fun hf => ?_) (fun hf => ?_)
  · exact fr_some hf
  exact fr_some hf
theorem f_mould_addMember {N : Nat} {l1 : Int32} {r : Int32} {σ σ' : xS} (hf : mould_addMember N l1 σ = some (r, σ')) : fr [10] [6] σ σ' := by
  unfold mould_addMember at hf
  refine fr_if hf (fun hf => ?_) (fun hf => ?_)
  · exact fr_some hf
  refine fr_if hf (fun hf => ?_) (fun hf => ?_)
  · exact fr_some hf
  refine fr_ast hf (by decide) (fun σ1 hf => ?_)
  refine fr_put hf (by decide) (fun σ2 hf => ?_)
  exact fr_some hf
theorem f_mould_makeAnew_b83 {N : Nat} {r : Int32} {σ' : xS} : ∀ (n : Nat) (l1 : Int32) (σ : xS), mould_makeAnew_b83 N n l1 σ = some (r, σ') → fr [10] [6, 7] σ σ' := by
  intro n
  induction n with
  | zero =>
    intro l1 σ hf
    rw [mould_makeAnew_b83] at hf
    cases hf
  | succ n ih =>
    intro l1 σ hf
    rw [mould_makeAnew_b83] at hf
    refine fr_if hf (fun hf => ?_) (fun hf => ?_)
    · exact fr_some hf
    refine fr_ald hf (fun v4 hf => ?_)
    refine fr_cal hf (fun _ _ h => fr_mono (f_mould_freeFromEdge h) (fun _ h => by cases h) (by decide)) (fun _ σ6 hf => ?_)
    refine fr_bnd hf (fun l1_7 hf => ?_)
    exact ih _ _  hf
theorem f_mould_makeAnew_b41 {N : Nat} {K15 : Int32 → xS → Option (Int32 × xS)} {K28 : Int32 → Int32 → xS → Option (Int32 × xS)} {r : Int32} {σ' : xS} (hK15 : ∀ (a0 : Int32) (σ : xS), K15 a0 σ = some (r, σ') → fr [10] [6, 7] σ σ') (hK28 : ∀ (a0 : Int32) (a1 : Int32) (σ : xS), K28 a0 a1 σ = some (r, σ') → fr [10] [6, 7] σ σ') : ∀ (n : Nat) (l1 : Int32) (l2 : Int32) (l3 : Int32) (σ : xS), mould_makeAnew_b41 N K15 K28 n l1 l2 l3 σ = some (r, σ') → fr [10] [6, 7] σ σ' := by
  intro n
  induction n with
  | zero =>
    intro l1 l2 l3 σ hf
    rw [mould_makeAnew_b41] at hf
    cases hf
  | succ n ih =>
    intro l1 l2 l3 σ hf
    rw [mould_makeAnew_b41] at hf
    refine fr_if hf (fun hf => ?_) (fun hf => ?_)
    · refine fr_bnd hf (fun l2_9 hf => ?_)
      exact hK28 _ _ _  hf
    refine fr_cal hf (fun _ _ h => fr_mono (f_mould_cellAt h) (fun _ h => by cases h) (fun _ h => by cases h)) (fun v10 σ11 hf => ?_)
    refine fr_cal hf (fun _ _ h => fr_mono (f_mould_addMember h) (by decide) (by decide)) (fun _ σ13 hf => ?_)
    refine fr_bnd hf (fun l3_14 hf => ?_)
    exact ih _ _ _ _  hf
theorem f_mould_makeAnew_b28 {N : Nat} {K15 : Int32 → xS → Option (Int32 × xS)} {r : Int32} {σ' : xS} (hK15 : ∀ (a0 : Int32) (σ : xS), K15 a0 σ = some (r, σ') → fr [10] [6, 7] σ σ') : ∀ (n : Nat) (l1 : Int32) (l2 : Int32) (σ : xS), mould_makeAnew_b28 N K15 n l1 l2 σ = some (r, σ') → fr [10] [6, 7] σ σ' := by
  intro n
  induction n with
  | zero =>
    intro l1 l2 σ hf
    rw [mould_makeAnew_b28] at hf
    cases hf
  | succ n ih =>
    intro l1 l2 σ hf
    rw [mould_makeAnew_b28] at hf
    refine fr_if hf (fun hf => ?_) (fun hf => ?_)
    · refine fr_bnd hf (fun l1_8 hf => ?_)
      exact hK15 _ _  hf
    exact f_mould_makeAnew_b41 hK15 ih _ _ _ _ _ hf
theorem f_mould_makeAnew_b15 {N : Nat} {r : Int32} {σ' : xS} : ∀ (n : Nat) (l1 : Int32) (σ : xS), mould_makeAnew_b15 N n l1 σ = some (r, σ') → fr [10] [6, 7] σ σ' := by
  intro n
  induction n with
  | zero =>
    intro l1 σ hf
    rw [mould_makeAnew_b15] at hf
    cases hf
  | succ n ih =>
    intro l1 σ hf
    rw [mould_makeAnew_b15] at hf
    refine fr_if hf (fun hf => ?_) (fun hf => ?_)
    · exact f_mould_makeAnew_b83 _ _ _ hf
    exact f_mould_makeAnew_b28 ih _ _ _ _ hf
theorem f_mould_makeAnew {N : Nat} {r : Int32} {σ σ' : xS} (hf : mould_makeAnew N σ = some (r, σ')) : fr [10] [6, 7] σ σ' := by
  unfold mould_makeAnew at hf
  refine fr_cal hf (fun _ _ h => fr_mono (f_ju_fill h) (fun _ h => by cases h) (by simp)) (fun _ σ2 hf => ?_)
  refine fr_put hf (by decide) (fun σ3 hf => ?_)
  exact f_mould_makeAnew_b15 _ _ _ hf
theorem f_pieces_clear {N : Nat} {r : Int32} {σ σ' : xS} (hf : pieces_clear N σ = some (r, σ')) : fr [11] [] σ σ' := by
  unfold pieces_clear at hf
  refine fr_put hf (by decide) (fun σ1 hf => ?_)
  exact fr_some hf
theorem f_drawing_forget {N : Nat} {r : Int32} {σ σ' : xS} (hf : drawing_forget N σ = some (r, σ')) : fr [11, 14] [] σ σ' := by
  unfold drawing_forget at hf
  refine fr_put hf (by decide) (fun σ1 hf => ?_)
  refine fr_cal hf (fun _ _ h => fr_mono (f_pieces_clear h) (by decide) (fun _ h => by cases h)) (fun _ σ3 hf => ?_)
  exact fr_some hf
theorem f_cells_countSolid_b4 {N : Nat} {r : Int32} {σ' : xS} : ∀ (n : Nat) (l1 : Int32) (l2 : Int32) (σ : xS), cells_countSolid_b4 N n l1 l2 σ = some (r, σ') → fr [] [] σ σ' := by
  intro n
  induction n with
  | zero =>
    intro l1 l2 σ hf
    rw [cells_countSolid_b4] at hf
    cases hf
  | succ n ih =>
    intro l1 l2 σ hf
    rw [cells_countSolid_b4] at hf
    refine fr_if hf (fun hf => ?_) (fun hf => ?_)
    · exact fr_some hf
    refine fr_ald hf (fun v1 hf => ?_)
    refine fr_bnd hf (fun l1_2 hf => ?_)
    refine fr_bnd hf (fun l2_3 hf => ?_)
    exact ih _ _ _  hf
theorem f_cells_countSolid {N : Nat} {r : Int32} {σ σ' : xS} (hf : cells_countSolid N σ = some (r, σ')) : fr [] [] σ σ' := by
  unfold cells_countSolid at hf
  exact f_cells_countSolid_b4 _ _ _ _ hf
theorem f_cw_form {N : Nat} {l1 : Int32} {l2 : Int32} {l3 : Int32} {r : Int32} {σ σ' : xS} (hf : cw_form N l1 l2 l3 σ = some (r, σ')) : fr [0, 1, 2, 3, 4, 5, 6, 7, 8, 9, 10, 11, 14] [1, 2, 4, 5, 6, 7] σ σ' := by
  unfold cw_form at hf
  refine fr_cal hf (fun _ _ h => fr_mono (f_cl_canBeSide h) (fun _ h => by cases h) (fun _ h => by cases h)) (fun v1 σ2 hf => ?_)
  refine fr_if hf (fun hf => ?_) (fun hf => ?_)
  · exact fr_some hf
  refine fr_cal hf (fun _ _ h => fr_mono (f_cl_canBeSide h) (fun _ h => by cases h) (fun _ h => by cases h)) (fun v3 σ4 hf => ?_)
  refine fr_if hf (fun hf => ?_) (fun hf => ?_)
  · exact fr_some hf
  refine fr_cal hf (fun _ _ h => fr_mono (f_cl_canBeSide h) (fun _ h => by cases h) (fun _ h => by cases h)) (fun v5 σ6 hf => ?_)
  refine fr_if hf (fun hf => ?_) (fun hf => ?_)
  · exact fr_some hf
  refine fr_cal hf (fun _ _ h => fr_mono (f_draft_begin h) (by decide) (by decide)) (fun _ σ8 hf => ?_)
  refine fr_cal hf (fun _ _ h => fr_mono (f_reader_readOnto h) (by decide) (by decide)) (fun v9 σ10 hf => ?_)
  refine fr_cal hf (fun _ _ h => fr_mono (f_tape_keepFirst h) (by decide) (fun _ h => by cases h)) (fun v11 σ12 hf => ?_)
  refine fr_if hf (fun hf => ?_) (fun hf => ?_)
  · exact fr_some hf
  refine fr_cal hf (fun _ _ h => fr_mono (f_cells_copyFrom h) (by decide) (by decide)) (fun _ σ14 hf => ?_)
  refine fr_cal hf (fun _ _ h => fr_mono (f_mould_makeAnew h) (by decide) (by decide)) (fun _ σ16 hf => ?_)
  refine fr_cal hf (fun _ _ h => fr_mono (f_drawing_forget h) (by decide) (fun _ h => by cases h)) (fun _ σ18 hf => ?_)
  refine fr_cal hf (fun _ _ h => fr_mono (f_cells_countSolid h) (fun _ h => by cases h) (fun _ h => by cases h)) (fun v19 σ20 hf => ?_)
  exact fr_some hf
theorem f_reader_faultKind {N : Nat} {r : Int32} {σ σ' : xS} (hf : reader_faultKind N σ = some (r, σ')) : fr [] [] σ σ' := by
  unfold reader_faultKind at hf
  exact fr_some hf
theorem f_reader_faultPlace {N : Nat} {r : Int32} {σ σ' : xS} (hf : reader_faultPlace N σ = some (r, σ')) : fr [] [] σ σ' := by
  unfold reader_faultPlace at hf
  exact fr_some hf
theorem f_cw_fault {N : Nat} {l1 : Int32} {r : Int32} {σ σ' : xS} (hf : cw_fault N l1 σ = some (r, σ')) : fr [] [] σ σ' := by
  unfold cw_fault at hf
  refine fr_if hf (fun hf => ?_) (fun hf => ?_)
  · refine fr_cal hf (fun _ _ h => fr_mono (f_reader_faultKind h) (fun _ h => by cases h) (fun _ h => by cases h)) (fun v1 σ2 hf => ?_)
    exact fr_some hf
  refine fr_if hf (fun hf => ?_) (fun hf => ?_)
  · refine fr_cal hf (fun _ _ h => fr_mono (f_reader_faultPlace h) (fun _ h => by cases h) (fun _ h => by cases h)) (fun v3 σ4 hf => ?_)
    exact fr_some hf
  exact fr_some hf
theorem f_cw_solid {N : Nat} {l1 : Int32} {l2 : Int32} {l3 : Int32} {r : Int32} {σ σ' : xS} (hf : cw_solid N l1 l2 l3 σ = some (r, σ')) : fr [] [] σ σ' := by
  unfold cw_solid at hf
  refine fr_cal hf (fun _ _ h => fr_mono (f_cl_areWithin h) (fun _ h => by cases h) (fun _ h => by cases h)) (fun v1 σ2 hf => ?_)
  refine fr_if hf (fun hf => ?_) (fun hf => ?_)
  · exact fr_some hf
  refine fr_cal hf (fun _ _ h => fr_mono (f_cl_indexOf h) (fun _ h => by cases h) (fun _ h => by cases h)) (fun v3 σ4 hf => ?_)
  refine fr_cal hf (fun _ _ h => fr_mono (f_cl_isSolid h) (fun _ h => by cases h) (fun _ h => by cases h)) (fun v5 σ6 hf => ?_)
  refine fr_if hf (fun hf => ?_) (fun hf => ?_)
  · exact fr_some hf
  exact fr_some hf
theorem f_mould_freeWays {N : Nat} {l1 : Int32} {r : Int32} {σ σ' : xS} (hf : mould_freeWays N l1 σ = some (r, σ')) : fr [] [] σ σ' := by
  unfold mould_freeWays at hf
  refine fr_if hf (fun hf => ?_) (fun hf => ?_)
  · exact fr_some hf
  refine fr_if hf (fun hf => ?_) (fun hf => ?_)
  · exact fr_some hf
  refine fr_ald hf (fun v1 hf => ?_)
  exact fr_some hf
theorem f_cw_free {N : Nat} {l1 : Int32} {l2 : Int32} {l3 : Int32} {r : Int32} {σ σ' : xS} (hf : cw_free N l1 l2 l3 σ = some (r, σ')) : fr [] [] σ σ' := by
  unfold cw_free at hf
  refine fr_cal hf (fun _ _ h => fr_mono (f_mould_cellAt h) (fun _ h => by cases h) (fun _ h => by cases h)) (fun v1 σ2 hf => ?_)
  refine fr_if hf (fun hf => ?_) (fun hf => ?_)
  · exact fr_some hf
  refine fr_cal hf (fun _ _ h => fr_mono (f_mould_freeWays h) (fun _ h => by cases h) (fun _ h => by cases h)) (fun v3 σ4 hf => ?_)
  exact fr_some hf
theorem f_cells_isThere {N : Nat} {r : Int32} {σ σ' : xS} (hf : cells_isThere N σ = some (r, σ')) : fr [] [] σ σ' := by
  unfold cells_isThere at hf
  refine fr_if hf (fun hf => ?_) (fun hf => ?_)
  · exact fr_some hf
  exact fr_some hf
theorem f_mould_countShut_b4 {N : Nat} {r : Int32} {σ' : xS} : ∀ (n : Nat) (l1 : Int32) (l2 : Int32) (σ : xS), mould_countShut_b4 N n l1 l2 σ = some (r, σ') → fr [] [] σ σ' := by
  intro n
  induction n with
  | zero =>
    intro l1 l2 σ hf
    rw [mould_countShut_b4] at hf
    cases hf
  | succ n ih =>
    intro l1 l2 σ hf
    rw [mould_countShut_b4] at hf
    refine fr_if hf (fun hf => ?_) (fun hf => ?_)
    · exact fr_some hf
    refine fr_ald hf (fun v1 hf => ?_)
    refine fr_cal hf (fun _ _ h => fr_mono (f_mould_freeWays h) (fun _ h => by cases h) (fun _ h => by cases h)) (fun v2 σ3 hf => ?_)
    refine fr_if hf (fun hf => ?_) (fun hf => ?_)
    · refine fr_bnd hf (fun l1_6 hf => ?_)
      refine fr_bnd hf (fun l2_7 hf => ?_)
      exact ih _ _ _  hf
    refine fr_bnd hf (fun l1_4 hf => ?_)
    refine fr_bnd hf (fun l2_5 hf => ?_)
    exact ih _ _ _  hf
theorem f_mould_countShut {N : Nat} {r : Int32} {σ σ' : xS} (hf : mould_countShut N σ = some (r, σ')) : fr [] [] σ σ' := by
  unfold mould_countShut at hf
  exact f_mould_countShut_b4 _ _ _ _ hf
theorem f_cw_shut {N : Nat} {r : Int32} {σ σ' : xS} (hf : cw_shut N σ = some (r, σ')) : fr [] [] σ σ' := by
  unfold cw_shut at hf
  refine fr_cal hf (fun _ _ h => fr_mono (f_cells_isThere h) (fun _ h => by cases h) (fun _ h => by cases h)) (fun v1 σ2 hf => ?_)
  refine fr_if hf (fun hf => ?_) (fun hf => ?_)
  · exact fr_some hf
  refine fr_cal hf (fun _ _ h => fr_mono (f_mould_countShut h) (fun _ h => by cases h) (fun _ h => by cases h)) (fun v3 σ4 hf => ?_)
  exact fr_some hf
theorem f_mould_size {N : Nat} {r : Int32} {σ σ' : xS} (hf : mould_size N σ = some (r, σ')) : fr [] [] σ σ' := by
  unfold mould_size at hf
  exact fr_some hf
theorem f_mould_member {N : Nat} {l1 : Int32} {r : Int32} {σ σ' : xS} (hf : mould_member N l1 σ = some (r, σ')) : fr [] [] σ σ' := by
  unfold mould_member at hf
  refine fr_if hf (fun hf => ?_) (fun hf => ?_)
  · exact fr_some hf
  refine fr_if hf (fun hf => ?_) (fun hf => ?_)
  · exact fr_some hf
  refine fr_ald hf (fun v1 hf => ?_)
  exact fr_some hf
theorem f_drawing_noteFreedoms_b10 {N : Nat} {r : Int32} {σ' : xS} : ∀ (n : Nat) (l1 : Int32) (σ : xS), drawing_noteFreedoms_b10 N n l1 σ = some (r, σ') → fr [] [15] σ σ' := by
  intro n
  induction n with
  | zero =>
    intro l1 σ hf
    rw [drawing_noteFreedoms_b10] at hf
    cases hf
  | succ n ih =>
    intro l1 σ hf
    rw [drawing_noteFreedoms_b10] at hf
    refine fr_cal hf (fun _ _ h => fr_mono (f_mould_size h) (fun _ h => by cases h) (fun _ h => by cases h)) (fun v3 σ4 hf => ?_)
    refine fr_if hf (fun hf => ?_) (fun hf => ?_)
    · exact fr_some hf
    refine fr_cal hf (fun _ _ h => fr_mono (f_mould_member h) (fun _ h => by cases h) (fun _ h => by cases h)) (fun v5 σ6 hf => ?_)
    refine fr_cal hf (fun _ _ h => fr_mono (f_mould_freeWays h) (fun _ h => by cases h) (fun _ h => by cases h)) (fun v7 σ8 hf => ?_)
    refine fr_ald hf (fun v9 hf => ?_)
    refine fr_ast hf (by decide) (fun σ10 hf => ?_)
    refine fr_bnd hf (fun l1_11 hf => ?_)
    exact ih _ _  hf
theorem f_drawing_noteFreedoms {N : Nat} {r : Int32} {σ σ' : xS} (hf : drawing_noteFreedoms N σ = some (r, σ')) : fr [] [15] σ σ' := by
  unfold drawing_noteFreedoms at hf
  refine fr_cal hf (fun _ _ h => fr_mono (f_ju_fill h) (fun _ h => by cases h) (by simp)) (fun _ σ2 hf => ?_)
  exact f_drawing_noteFreedoms_b10 _ _ _ hf
theorem f_ji_bitCount {N : Nat} {l0 : Int32} {r : Int32} {σ σ' : xS} (hf : ji_bitCount N l0 σ = some (r, σ')) : fr [] [] σ σ' := by
  unfold ji_bitCount at hf
  refine fr_bnd hf (fun l0_1 hf => ?_)
  refine fr_bnd hf (fun l0_2 hf => ?_)
  refine fr_bnd hf (fun l0_3 hf => ?_)
  refine fr_bnd hf (fun l0_4 hf => ?_)
  refine fr_bnd hf (fun l0_5 hf => ?_)
  exact fr_some hf
theorem f_drawing_frees_b2 {N : Nat} {r : Int32} {σ' : xS} : ∀ (n : Nat) (l1 : Int32) (l2 : Int32) (σ : xS), drawing_frees_b2 N n l1 l2 σ = some (r, σ') → fr [] [] σ σ' := by
  intro n
  induction n with
  | zero =>
    intro l1 l2 σ hf
    rw [drawing_frees_b2] at hf
    cases hf
  | succ n ih =>
    intro l1 l2 σ hf
    rw [drawing_frees_b2] at hf
    refine fr_if hf (fun hf => ?_) (fun hf => ?_)
    · exact fr_some hf
    refine fr_ald hf (fun v1 hf => ?_)
    refine fr_if hf (fun hf => ?_) (fun hf => ?_)
    · refine fr_bnd hf (fun l2_2 hf => ?_)
      exact ih _ _ _  hf
    refine fr_if hf (fun hf => ?_) (fun hf => ?_)
    · exact fr_some hf
    refine fr_bnd hf (fun l2_3 hf => ?_)
    exact ih _ _ _  hf
theorem f_drawing_frees {N : Nat} {l1 : Int32} {r : Int32} {σ σ' : xS} (hf : drawing_frees N l1 σ = some (r, σ')) : fr [] [] σ σ' := by
  unfold drawing_frees at hf
  exact f_drawing_frees_b2 _ _ _ _ hf
theorem f_drawing_fewestWays_b4 {N : Nat} {r : Int32} {σ' : xS} : ∀ (n : Nat) (l1 : Int32) (l2 : Int32) (σ : xS), drawing_fewestWays_b4 N n l1 l2 σ = some (r, σ') → fr [] [] σ σ' := by
  intro n
  induction n with
  | zero =>
    intro l1 l2 σ hf
    rw [drawing_fewestWays_b4] at hf
    cases hf
  | succ n ih =>
    intro l1 l2 σ hf
    rw [drawing_fewestWays_b4] at hf
    refine fr_if hf (fun hf => ?_) (fun hf => ?_)
    · exact fr_some hf
    refine fr_cal hf (fun _ _ h => fr_mono (f_ji_bitCount h) (fun _ h => by cases h) (fun _ h => by cases h)) (fun v1 σ2 hf => ?_)
    refine fr_if hf (fun hf => ?_) (fun hf => ?_)
    · refine fr_cal hf (fun _ _ h => fr_mono (f_drawing_frees h) (fun _ h => by cases h) (fun _ h => by cases h)) (fun v3 σ4 hf => ?_)
      refine fr_if hf (fun hf => ?_) (fun hf => ?_)
      · refine fr_bnd hf (fun l2_5 hf => ?_)
        exact ih _ _ _  hf
      refine fr_bnd hf (fun l2_6 hf => ?_)
      exact ih _ _ _  hf
    refine fr_if hf (fun hf => ?_) (fun hf => ?_)
    · refine fr_bnd hf (fun l2_7 hf => ?_)
      exact ih _ _ _  hf
    refine fr_cal hf (fun _ _ h => fr_mono (f_drawing_frees h) (fun _ h => by cases h) (fun _ h => by cases h)) (fun v8 σ9 hf => ?_)
    refine fr_if hf (fun hf => ?_) (fun hf => ?_)
    · refine fr_bnd hf (fun l2_10 hf => ?_)
      exact ih _ _ _  hf
    refine fr_bnd hf (fun l2_11 hf => ?_)
    exact ih _ _ _  hf
theorem f_drawing_fewestWays {N : Nat} {r : Int32} {σ σ' : xS} (hf : drawing_fewestWays N σ = some (r, σ')) : fr [] [] σ σ' := by
  unfold drawing_fewestWays at hf
  exact f_drawing_fewestWays_b4 _ _ _ _ hf
theorem f_parting_openCells_b2 {N : Nat} {r : Int32} {σ' : xS} : ∀ (n : Nat) (l1 : Int32) (l2 : Int32) (l3 : Int32) (σ : xS), parting_openCells_b2 N n l1 l2 l3 σ = some (r, σ') → fr [] [16] σ σ' := by
  intro n
  induction n with
  | zero =>
    intro l1 l2 l3 σ hf
    rw [parting_openCells_b2] at hf
    cases hf
  | succ n ih =>
    intro l1 l2 l3 σ hf
    rw [parting_openCells_b2] at hf
    refine fr_cal hf (fun _ _ h => fr_mono (f_mould_size h) (fun _ h => by cases h) (fun _ h => by cases h)) (fun v1 σ2 hf => ?_)
    refine fr_if hf (fun hf => ?_) (fun hf => ?_)
    · exact fr_some hf
    refine fr_cal hf (fun _ _ h => fr_mono (f_mould_member h) (fun _ h => by cases h) (fun _ h => by cases h)) (fun v3 σ4 hf => ?_)
    refine fr_cal hf (fun _ _ h => fr_mono (f_mould_freeWays h) (fun _ h => by cases h) (fun _ h => by cases h)) (fun v5 σ6 hf => ?_)
    refine fr_if hf (fun hf => ?_) (fun hf => ?_)
    · refine fr_if hf (fun hf => ?_) (fun hf => ?_)
      · refine fr_ast hf (by decide) (fun σ9 hf => ?_)
        refine fr_bnd hf (fun l3_10 hf => ?_)
        exact ih _ _ _ _  hf
      refine fr_bnd hf (fun l3_8 hf => ?_)
      exact ih _ _ _ _  hf
    refine fr_bnd hf (fun l3_7 hf => ?_)
    exact ih _ _ _ _  hf
theorem f_parting_openCells {N : Nat} {l1 : Int32} {l2 : Int32} {r : Int32} {σ σ' : xS} (hf : parting_openCells N l1 l2 σ = some (r, σ')) : fr [] [16] σ σ' := by
  unfold parting_openCells at hf
  exact f_parting_openCells_b2 _ _ _ _ _ hf
theorem f_parting_numberAt {N : Nat} {l1 : Int32} {r : Int32} {σ σ' : xS} (hf : parting_numberAt N l1 σ = some (r, σ')) : fr [] [] σ σ' := by
  unfold parting_numberAt at hf
  refine fr_if hf (fun hf => ?_) (fun hf => ?_)
  · exact fr_some hf
  refine fr_if hf (fun hf => ?_) (fun hf => ?_)
  · exact fr_some hf
  refine fr_ald hf (fun v1 hf => ?_)
  exact fr_some hf
theorem f_parting_reach {N : Nat} {l1 : Int32} {l2 : Int32} {l3 : Int32} {r : Int32} {σ σ' : xS} (hf : parting_reach N l1 l2 l3 σ = some (r, σ')) : fr [] [16, 17] σ σ' := by
  unfold parting_reach at hf
  refine fr_if hf (fun hf => ?_) (fun hf => ?_)
  · exact fr_some hf
  refine fr_if hf (fun hf => ?_) (fun hf => ?_)
  · exact fr_some hf
  refine fr_ald hf (fun v1 hf => ?_)
  refine fr_if hf (fun hf => ?_) (fun hf => ?_)
  · refine fr_if hf (fun hf => ?_) (fun hf => ?_)
    · refine fr_ast hf (by decide) (fun σ2 hf => ?_)
      refine fr_ast hf (by decide) (fun σ3 hf => ?_)
      exact fr_some hf
    exact fr_some hf
  exact fr_some hf
theorem f_parting_spread_b28 {N : Nat} {K11 : Int32 → Int32 → Int32 → xS → Option (Int32 × xS)} {r : Int32} {σ' : xS} (hK11 : ∀ (a0 : Int32) (a1 : Int32) (a2 : Int32) (σ : xS), K11 a0 a1 a2 σ = some (r, σ') → fr [] [16, 17] σ σ') : ∀ (n : Nat) (l2 : Int32) (l3 : Int32) (l4 : Int32) (l5 : Int32) (σ : xS), parting_spread_b28 N K11 n l2 l3 l4 l5 σ = some (r, σ') → fr [] [16, 17] σ σ' := by
  intro n
  induction n with
  | zero =>
    intro l2 l3 l4 l5 σ hf
    rw [parting_spread_b28] at hf
    cases hf
  | succ n ih =>
    intro l2 l3 l4 l5 σ hf
    rw [parting_spread_b28] at hf
    refine fr_if hf (fun hf => ?_) (fun hf => ?_)
    · refine fr_bnd hf (fun l4_3 hf => ?_)
      exact hK11 _ _ _ _  hf
    refine fr_ald hf (fun v4 hf => ?_)
    refine fr_cal hf (fun _ _ h => fr_mono (f_mould_beside h) (fun _ h => by cases h) (fun _ h => by cases h)) (fun v5 σ6 hf => ?_)
    refine fr_cal hf (fun _ _ h => fr_mono (f_parting_reach h) (fun _ h => by cases h) (by decide)) (fun v7 σ8 hf => ?_)
    refine fr_bnd hf (fun l5_9 hf => ?_)
    exact ih _ _ _ _ _  hf
theorem f_parting_spread_b11 {N : Nat} {r : Int32} {σ' : xS} : ∀ (n : Nat) (l2 : Int32) (l3 : Int32) (l4 : Int32) (σ : xS), parting_spread_b11 N n l2 l3 l4 σ = some (r, σ') → fr [] [16, 17] σ σ' := by
  intro n
  induction n with
  | zero =>
    intro l2 l3 l4 σ hf
    rw [parting_spread_b11] at hf
    cases hf
  | succ n ih =>
    intro l2 l3 l4 σ hf
    rw [parting_spread_b11] at hf
    refine fr_if hf (fun hf => ?_) (fun hf => ?_)
    · exact fr_some hf
    refine fr_if hf (fun hf => ?_) (fun hf => ?_)
    · exact fr_some hf
    exact f_parting_spread_b28 ih _ _ _ _ _ _ hf
theorem f_parting_spread {N : Nat} {l1 : Int32} {l2 : Int32} {r : Int32} {σ σ' : xS} (hf : parting_spread N l1 l2 σ = some (r, σ')) : fr [] [16, 17] σ σ' := by
  unfold parting_spread at hf
  refine fr_cal hf (fun _ _ h => fr_mono (f_parting_reach h) (fun _ h => by cases h) (by decide)) (fun v1 σ2 hf => ?_)
  exact f_parting_spread_b11 _ _ _ _ _ hf
theorem f_parting_part_b12 {N : Nat} {r : Int32} {σ' : xS} : ∀ (n : Nat) (l3 : Int32) (l4 : Int32) (l5 : Int32) (σ : xS), parting_part_b12 N n l3 l4 l5 σ = some (r, σ') → fr [] [16, 17] σ σ' := by
  intro n
  induction n with
  | zero =>
    intro l3 l4 l5 σ hf
    rw [parting_part_b12] at hf
    cases hf
  | succ n ih =>
    intro l3 l4 l5 σ hf
    rw [parting_part_b12] at hf
    refine fr_cal hf (fun _ _ h => fr_mono (f_mould_size h) (fun _ h => by cases h) (fun _ h => by cases h)) (fun v3 σ4 hf => ?_)
    refine fr_if hf (fun hf => ?_) (fun hf => ?_)
    · exact fr_some hf
    refine fr_cal hf (fun _ _ h => fr_mono (f_mould_member h) (fun _ h => by cases h) (fun _ h => by cases h)) (fun v5 σ6 hf => ?_)
    refine fr_cal hf (fun _ _ h => fr_mono (f_parting_numberAt h) (fun _ h => by cases h) (fun _ h => by cases h)) (fun v7 σ8 hf => ?_)
    refine fr_if hf (fun hf => ?_) (fun hf => ?_)
    · refine fr_cal hf (fun _ _ h => fr_mono (f_parting_spread h) (fun _ h => by cases h) (by decide)) (fun _ σ11 hf => ?_)
      refine fr_bnd hf (fun l4_12 hf => ?_)
      refine fr_bnd hf (fun l5_13 hf => ?_)
      exact ih _ _ _ _  hf
    refine fr_bnd hf (fun l5_9 hf => ?_)
    exact ih _ _ _ _  hf
theorem f_parting_part {N : Nat} {l1 : Int32} {l2 : Int32} {l3 : Int32} {r : Int32} {σ σ' : xS} (hf : parting_part N l1 l2 l3 σ = some (r, σ')) : fr [] [16, 17] σ σ' := by
  unfold parting_part at hf
  refine fr_cal hf (fun _ _ h => fr_mono (f_parting_openCells h) (fun _ h => by cases h) (by decide)) (fun _ σ2 hf => ?_)
  exact f_parting_part_b12 _ _ _ _ _ hf
theorem f_drawing_weighWays_b2 {N : Nat} {r : Int32} {σ' : xS} : ∀ (n : Nat) (l1 : Int32) (l2 : Int32) (σ : xS), drawing_weighWays_b2 N n l1 l2 σ = some (r, σ') → fr [] [13, 14, 16, 17] σ σ' := by
  intro n
  induction n with
  | zero =>
    intro l1 l2 σ hf
    rw [drawing_weighWays_b2] at hf
    cases hf
  | succ n ih =>
    intro l1 l2 σ hf
    rw [drawing_weighWays_b2] at hf
    refine fr_if hf (fun hf => ?_) (fun hf => ?_)
    · exact fr_some hf
    refine fr_bnd hf (fun l3_1 hf => ?_)
    refine fr_if hf (fun hf => ?_) (fun hf => ?_)
    · refine fr_bnd hf (fun l2_2 hf => ?_)
      exact ih _ _ _  hf
    refine fr_ald hf (fun v3 hf => ?_)
    refine fr_ald hf (fun v4 hf => ?_)
    refine fr_if hf (fun hf => ?_) (fun hf => ?_)
    · refine fr_bnd hf (fun l2_5 hf => ?_)
      exact ih _ _ _  hf
    refine fr_cal hf (fun _ _ h => fr_mono (f_parting_part h) (fun _ h => by cases h) (by decide)) (fun v6 σ7 hf => ?_)
    refine fr_ald hf (fun v8 hf => ?_)
    refine fr_bnd hf (fun l4_9 hf => ?_)
    refine fr_ald hf (fun v10 hf => ?_)
    refine fr_if hf (fun hf => ?_) (fun hf => ?_)
    · refine fr_bnd hf (fun l2_11 hf => ?_)
      exact ih _ _ _  hf
    refine fr_ast hf (by decide) (fun σ12 hf => ?_)
    refine fr_ast hf (by decide) (fun σ13 hf => ?_)
    refine fr_bnd hf (fun l2_14 hf => ?_)
    exact ih _ _ _  hf
theorem f_drawing_weighWays {N : Nat} {l1 : Int32} {r : Int32} {σ σ' : xS} (hf : drawing_weighWays N l1 σ = some (r, σ')) : fr [] [13, 14, 16, 17] σ σ' := by
  unfold drawing_weighWays at hf
  exact f_drawing_weighWays_b2 _ _ _ _ hf
theorem f_drawing_weighSets_b36 {N : Nat} {K3 : Int32 → Int32 → xS → Option (Int32 × xS)} {r : Int32} {σ' : xS} (hK3 : ∀ (a0 : Int32) (a1 : Int32) (σ : xS), K3 a0 a1 σ = some (r, σ') → fr [] [13, 14, 16, 17] σ σ') : ∀ (l1 : Int32) (l2 : Int32) (l3 : Int32) (s1 : Int32) (s2 : Int32) (σ : xS), drawing_weighSets_b36 N K3 l1 l2 l3 s1 s2 σ = some (r, σ') → fr [] [13, 14, 16, 17] σ σ' := by
  intro l1 l2 l3 s1 s2 σ hf
  unfold drawing_weighSets_b36 at hf
  refine fr_ast hf (by decide) (fun σ3 hf => ?_)
  refine fr_ast hf (by decide) (fun σ4 hf => ?_)
  refine fr_if hf (fun hf => ?_) (fun hf => ?_)
  · refine fr_bnd hf (fun l2_5 hf => ?_)
    exact hK3 _ _ _  hf
  refine fr_cal hf (fun _ _ h => fr_mono (f_drawing_weighWays h) (fun _ h => by cases h) (by decide)) (fun _ σ7 hf => ?_)
  refine fr_bnd hf (fun l2_8 hf => ?_)
  exact hK3 _ _ _  hf
theorem f_drawing_weighSets_b3 {N : Nat} {r : Int32} {σ' : xS} : ∀ (n : Nat) (l1 : Int32) (l2 : Int32) (σ : xS), drawing_weighSets_b3 N n l1 l2 σ = some (r, σ') → fr [] [13, 14, 16, 17] σ σ' := by
  intro n
  induction n with
  | zero =>
    intro l1 l2 σ hf
    rw [drawing_weighSets_b3] at hf
    cases hf
  | succ n ih =>
    intro l1 l2 σ hf
    rw [drawing_weighSets_b3] at hf
    refine fr_if hf (fun hf => ?_) (fun hf => ?_)
    · exact fr_some hf
    refine fr_cal hf (fun _ _ h => fr_mono (f_ji_bitCount h) (fun _ h => by cases h) (fun _ h => by cases h)) (fun v1 σ2 hf => ?_)
    refine fr_if hf (fun hf => ?_) (fun hf => ?_)
    · refine fr_cal hf (fun _ _ h => fr_mono (f_drawing_frees h) (fun _ h => by cases h) (fun _ h => by cases h)) (fun v9 σ10 hf => ?_)
      refine fr_if hf (fun hf => ?_) (fun hf => ?_)
      · exact f_drawing_weighSets_b36 ih _ _ _ _ _ _ hf
      exact f_drawing_weighSets_b36 ih _ _ _ _ _ _ hf
    exact f_drawing_weighSets_b36 ih _ _ _ _ _ _ hf
theorem f_drawing_weighSets {N : Nat} {l1 : Int32} {r : Int32} {σ σ' : xS} (hf : drawing_weighSets N l1 σ = some (r, σ')) : fr [] [13, 14, 16, 17] σ σ' := by
  unfold drawing_weighSets at hf
  exact f_drawing_weighSets_b3 _ _ _ _ hf
theorem f_pieces_count {N : Nat} {r : Int32} {σ σ' : xS} (hf : pieces_count N σ = some (r, σ')) : fr [] [] σ σ' := by
  unfold pieces_count at hf
  exact fr_some hf
theorem f_pieces_add_b2 {N : Nat} {r : Int32} {σ' : xS} : ∀ (n : Nat) (l1 : Int32) (l2 : Int32) (l3 : Int32) (σ : xS), pieces_add_b2 N n l1 l2 l3 σ = some (r, σ') → fr [11] [8, 9, 10, 11] σ σ' := by
  intro n
  induction n with
  | zero =>
    intro l1 l2 l3 σ hf
    rw [pieces_add_b2] at hf
    cases hf
  | succ n ih =>
    intro l1 l2 l3 σ hf
    rw [pieces_add_b2] at hf
    refine fr_if hf (fun hf => ?_) (fun hf => ?_)
    · exact fr_some hf
    refine fr_if hf (fun hf => ?_) (fun hf => ?_)
    · exact fr_some hf
    refine fr_ast hf (by decide) (fun σ1 hf => ?_)
    refine fr_ast hf (by decide) (fun σ2 hf => ?_)
    refine fr_ast hf (by decide) (fun σ3 hf => ?_)
    refine fr_ast hf (by decide) (fun σ4 hf => ?_)
    refine fr_put hf (by decide) (fun σ5 hf => ?_)
    refine fr_bnd hf (fun l3_6 hf => ?_)
    exact ih _ _ _ _  hf
theorem f_pieces_add {N : Nat} {l1 : Int32} {l2 : Int32} {r : Int32} {σ σ' : xS} (hf : pieces_add N l1 l2 σ = some (r, σ')) : fr [11] [8, 9, 10, 11] σ σ' := by
  unfold pieces_add at hf
  exact f_pieces_add_b2 _ _ _ _ _ hf
theorem f_drawing_keepBest_b4 {N : Nat} {r : Int32} {σ' : xS} : ∀ (n : Nat) (l1 : Int32) (l2 : Int32) (l3 : Int32) (σ : xS), drawing_keepBest_b4 N n l1 l2 l3 σ = some (r, σ') → fr [11, 14] [8, 9, 10, 11, 12, 16, 17] σ σ' := by
  intro n
  induction n with
  | zero =>
    intro l1 l2 l3 σ hf
    rw [drawing_keepBest_b4] at hf
    cases hf
  | succ n ih =>
    intro l1 l2 l3 σ hf
    rw [drawing_keepBest_b4] at hf
    refine fr_if hf (fun hf => ?_) (fun hf => ?_)
    · exact fr_some hf
    refine fr_if hf (fun hf => ?_) (fun hf => ?_)
    · exact fr_some hf
    refine fr_ald hf (fun v1 hf => ?_)
    refine fr_if hf (fun hf => ?_) (fun hf => ?_)
    · exact fr_some hf
    refine fr_ald hf (fun v2 hf => ?_)
    refine fr_ast hf (by decide) (fun σ3 hf => ?_)
    refine fr_put hf (by decide) (fun σ4 hf => ?_)
    refine fr_cal hf (fun _ _ h => fr_mono (f_pieces_count h) (fun _ h => by cases h) (fun _ h => by cases h)) (fun v5 σ6 hf => ?_)
    refine fr_cal hf (fun _ _ h => fr_mono (f_parting_part h) (fun _ h => by cases h) (by decide)) (fun v7 σ8 hf => ?_)
    refine fr_cal hf (fun _ _ h => fr_mono (f_pieces_add h) (by decide) (by decide)) (fun _ σ10 hf => ?_)
    refine fr_bnd hf (fun l2_11 hf => ?_)
    refine fr_bnd hf (fun l3_12 hf => ?_)
    exact ih _ _ _ _  hf
theorem f_drawing_keepBest {N : Nat} {l1 : Int32} {r : Int32} {σ σ' : xS} (hf : drawing_keepBest N l1 σ = some (r, σ')) : fr [11, 14] [8, 9, 10, 11, 12, 16, 17] σ σ' := by
  unfold drawing_keepBest at hf
  exact f_drawing_keepBest_b4 _ _ _ _ _ hf
theorem f_pieces_has {N : Nat} {l1 : Int32} {r : Int32} {σ σ' : xS} (hf : pieces_has N l1 σ = some (r, σ')) : fr [] [] σ σ' := by
  unfold pieces_has at hf
  refine fr_if hf (fun hf => ?_) (fun hf => ?_)
  · exact fr_some hf
  refine fr_if hf (fun hf => ?_) (fun hf => ?_)
  · exact fr_some hf
  exact fr_some hf
theorem f_mould_touchesSolid_b2 {N : Nat} {r : Int32} {σ' : xS} : ∀ (n : Nat) (l1 : Int32) (l2 : Int32) (σ : xS), mould_touchesSolid_b2 N n l1 l2 σ = some (r, σ') → fr [] [] σ σ' := by
  intro n
  induction n with
  | zero =>
    intro l1 l2 σ hf
    rw [mould_touchesSolid_b2] at hf
    cases hf
  | succ n ih =>
    intro l1 l2 σ hf
    rw [mould_touchesSolid_b2] at hf
    refine fr_if hf (fun hf => ?_) (fun hf => ?_)
    · exact fr_some hf
    refine fr_cal hf (fun _ _ h => fr_mono (f_mould_beside h) (fun _ h => by cases h) (fun _ h => by cases h)) (fun v1 σ2 hf => ?_)
    refine fr_cal hf (fun _ _ h => fr_mono (f_cl_isSolid h) (fun _ h => by cases h) (fun _ h => by cases h)) (fun v3 σ4 hf => ?_)
    refine fr_if hf (fun hf => ?_) (fun hf => ?_)
    · refine fr_bnd hf (fun l2_5 hf => ?_)
      exact ih _ _ _  hf
    exact fr_some hf
theorem f_mould_touchesSolid {N : Nat} {l1 : Int32} {r : Int32} {σ σ' : xS} (hf : mould_touchesSolid N l1 σ = some (r, σ')) : fr [] [] σ σ' := by
  unfold mould_touchesSolid at hf
  exact f_mould_touchesSolid_b2 _ _ _ _ hf
theorem f_pieces_gather_b2 {N : Nat} {r : Int32} {σ' : xS} : ∀ (n : Nat) (l3 : Int32) (σ : xS), pieces_gather_b2 N n l3 σ = some (r, σ') → fr [] [9, 10] σ σ' := by
  intro n
  induction n with
  | zero =>
    intro l3 σ hf
    rw [pieces_gather_b2] at hf
    cases hf
  | succ n ih =>
    intro l3 σ hf
    rw [pieces_gather_b2] at hf
    refine fr_cal hf (fun _ _ h => fr_mono (f_mould_size h) (fun _ h => by cases h) (fun _ h => by cases h)) (fun v1 σ2 hf => ?_)
    refine fr_if hf (fun hf => ?_) (fun hf => ?_)
    · exact fr_some hf
    refine fr_cal hf (fun _ _ h => fr_mono (f_mould_member h) (fun _ h => by cases h) (fun _ h => by cases h)) (fun v3 σ4 hf => ?_)
    refine fr_cal hf (fun _ _ h => fr_mono (f_parting_numberAt h) (fun _ h => by cases h) (fun _ h => by cases h)) (fun v5 σ6 hf => ?_)
    refine fr_cal hf (fun _ _ h => fr_mono (f_pieces_has h) (fun _ h => by cases h) (fun _ h => by cases h)) (fun v7 σ8 hf => ?_)
    refine fr_if hf (fun hf => ?_) (fun hf => ?_)
    · refine fr_bnd hf (fun l3_9 hf => ?_)
      exact ih _ _  hf
    refine fr_ald hf (fun v10 hf => ?_)
    refine fr_ast hf (by decide) (fun σ11 hf => ?_)
    refine fr_ald hf (fun v12 hf => ?_)
    refine fr_cal hf (fun _ _ h => fr_mono (f_mould_touchesSolid h) (fun _ h => by cases h) (fun _ h => by cases h)) (fun v13 σ14 hf => ?_)
    refine fr_if hf (fun hf => ?_) (fun hf => ?_)
    · refine fr_ast hf (by decide) (fun σ15 hf => ?_)
      refine fr_bnd hf (fun l3_16 hf => ?_)
      exact ih _ _  hf
    refine fr_ast hf (by decide) (fun σ17 hf => ?_)
    refine fr_bnd hf (fun l3_18 hf => ?_)
    exact ih _ _  hf
theorem f_pieces_gather {N : Nat} {r : Int32} {σ σ' : xS} (hf : pieces_gather N σ = some (r, σ')) : fr [] [9, 10] σ σ' := by
  unfold pieces_gather at hf
  exact f_pieces_gather_b2 _ _ _ hf
theorem f_pieces_takeBackPours {N : Nat} {r : Int32} {σ σ' : xS} (hf : pieces_takeBackPours N σ = some (r, σ')) : fr [] [11] σ σ' := by
  unfold pieces_takeBackPours at hf
  refine fr_cal hf (fun _ _ h => fr_mono (f_ju_fill h) (fun _ h => by cases h) (by simp)) (fun _ σ2 hf => ?_)
  exact fr_some hf
theorem f_drawing_find {N : Nat} {r : Int32} {σ σ' : xS} (hf : drawing_find N σ = some (r, σ')) : fr [11, 14] [8, 9, 10, 11, 12, 13, 14, 15, 16, 17] σ σ' := by
  unfold drawing_find at hf
  refine fr_if hf (fun hf => ?_) (fun hf => ?_)
  · refine fr_cal hf (fun _ _ h => fr_mono (f_drawing_noteFreedoms h) (fun _ h => by cases h) (by decide)) (fun _ σ2 hf => ?_)
    refine fr_cal hf (fun _ _ h => fr_mono (f_drawing_fewestWays h) (fun _ h => by cases h) (fun _ h => by cases h)) (fun v3 σ4 hf => ?_)
    refine fr_if hf (fun hf => ?_) (fun hf => ?_)
    · exact fr_some hf
    refine fr_cal hf (fun _ _ h => fr_mono (f_drawing_weighSets h) (fun _ h => by cases h) (by decide)) (fun _ σ6 hf => ?_)
    refine fr_cal hf (fun _ _ h => fr_mono (f_drawing_keepBest h) (by decide) (by decide)) (fun _ σ8 hf => ?_)
    refine fr_cal hf (fun _ _ h => fr_mono (f_pieces_gather h) (fun _ h => by cases h) (by decide)) (fun _ σ10 hf => ?_)
    exact fr_some hf
  refine fr_cal hf (fun _ _ h => fr_mono (f_pieces_takeBackPours h) (fun _ h => by cases h) (by decide)) (fun _ σ12 hf => ?_)
  exact fr_some hf
theorem f_cw_draw {N : Nat} {r : Int32} {σ σ' : xS} (hf : cw_draw N σ = some (r, σ')) : fr [11, 14] [8, 9, 10, 11, 12, 13, 14, 15, 16, 17] σ σ' := by
  unfold cw_draw at hf
  refine fr_cal hf (fun _ _ h => fr_mono (f_cells_isThere h) (fun _ h => by cases h) (fun _ h => by cases h)) (fun v1 σ2 hf => ?_)
  refine fr_if hf (fun hf => ?_) (fun hf => ?_)
  · exact fr_some hf
  refine fr_cal hf (fun _ _ h => fr_mono (f_drawing_find h) (by decide) (by decide)) (fun v3 σ4 hf => ?_)
  refine fr_if hf (fun hf => ?_) (fun hf => ?_)
  · exact fr_some hf
  refine fr_cal hf (fun _ _ h => fr_mono (f_pieces_count h) (fun _ h => by cases h) (fun _ h => by cases h)) (fun v5 σ6 hf => ?_)
  exact fr_some hf
theorem f_drawing_wayNumber {N : Nat} {l1 : Int32} {r : Int32} {σ σ' : xS} (hf : drawing_wayNumber N l1 σ = some (r, σ')) : fr [] [] σ σ' := by
  unfold drawing_wayNumber at hf
  refine fr_if hf (fun hf => ?_) (fun hf => ?_)
  · exact fr_some hf
  refine fr_if hf (fun hf => ?_) (fun hf => ?_)
  · exact fr_some hf
  refine fr_ald hf (fun v1 hf => ?_)
  exact fr_some hf
theorem f_cw_way {N : Nat} {l1 : Int32} {r : Int32} {σ σ' : xS} (hf : cw_way N l1 σ = some (r, σ')) : fr [] [] σ σ' := by
  unfold cw_way at hf
  refine fr_cal hf (fun _ _ h => fr_mono (f_drawing_wayNumber h) (fun _ h => by cases h) (fun _ h => by cases h)) (fun v1 σ2 hf => ?_)
  exact fr_some hf
theorem f_drawing_pieceOfCell {N : Nat} {l1 : Int32} {r : Int32} {σ σ' : xS} (hf : drawing_pieceOfCell N l1 σ = some (r, σ')) : fr [] [] σ σ' := by
  unfold drawing_pieceOfCell at hf
  refine fr_if hf (fun hf => ?_) (fun hf => ?_)
  · exact fr_some hf
  refine fr_cal hf (fun _ _ h => fr_mono (f_parting_numberAt h) (fun _ h => by cases h) (fun _ h => by cases h)) (fun v1 σ2 hf => ?_)
  exact fr_some hf
theorem f_cw_pieceAt {N : Nat} {l1 : Int32} {l2 : Int32} {l3 : Int32} {r : Int32} {σ σ' : xS} (hf : cw_pieceAt N l1 l2 l3 σ = some (r, σ')) : fr [] [] σ σ' := by
  unfold cw_pieceAt at hf
  refine fr_cal hf (fun _ _ h => fr_mono (f_mould_cellAt h) (fun _ h => by cases h) (fun _ h => by cases h)) (fun v1 σ2 hf => ?_)
  refine fr_if hf (fun hf => ?_) (fun hf => ?_)
  · exact fr_some hf
  refine fr_cal hf (fun _ _ h => fr_mono (f_drawing_pieceOfCell h) (fun _ h => by cases h) (fun _ h => by cases h)) (fun v3 σ4 hf => ?_)
  exact fr_some hf
theorem f_pieces_borneBy {N : Nat} {l1 : Int32} {r : Int32} {σ σ' : xS} (hf : pieces_borneBy N l1 σ = some (r, σ')) : fr [] [] σ σ' := by
  unfold pieces_borneBy at hf
  refine fr_ald hf (fun v1 hf => ?_)
  refine fr_bnd hf (fun v2 hf => ?_)
  exact fr_some hf
theorem f_pieces_tell {N : Nat} {l1 : Int32} {l2 : Int32} {r : Int32} {σ σ' : xS} (hf : pieces_tell N l1 l2 σ = some (r, σ')) : fr [] [] σ σ' := by
  unfold pieces_tell at hf
  refine fr_cal hf (fun _ _ h => fr_mono (f_pieces_has h) (fun _ h => by cases h) (fun _ h => by cases h)) (fun v1 σ2 hf => ?_)
  refine fr_if hf (fun hf => ?_) (fun hf => ?_)
  · exact fr_some hf
  refine fr_if hf (fun hf => ?_) (fun hf => ?_)
  · refine fr_ald hf (fun v3 hf => ?_)
    exact fr_some hf
  refine fr_if hf (fun hf => ?_) (fun hf => ?_)
  · refine fr_ald hf (fun v4 hf => ?_)
    exact fr_some hf
  refine fr_if hf (fun hf => ?_) (fun hf => ?_)
  · refine fr_ald hf (fun v5 hf => ?_)
    exact fr_some hf
  refine fr_if hf (fun hf => ?_) (fun hf => ?_)
  · refine fr_cal hf (fun _ _ h => fr_mono (f_pieces_borneBy h) (fun _ h => by cases h) (fun _ h => by cases h)) (fun v6 σ7 hf => ?_)
    exact fr_some hf
  refine fr_if hf (fun hf => ?_) (fun hf => ?_)
  · refine fr_ald hf (fun v8 hf => ?_)
    exact fr_some hf
  exact fr_some hf
theorem f_cw_piece {N : Nat} {l1 : Int32} {l2 : Int32} {r : Int32} {σ σ' : xS} (hf : cw_piece N l1 l2 σ = some (r, σ')) : fr [] [] σ σ' := by
  unfold cw_piece at hf
  refine fr_cal hf (fun _ _ h => fr_mono (f_pieces_tell h) (fun _ h => by cases h) (fun _ h => by cases h)) (fun v1 σ2 hf => ?_)
  exact fr_some hf
theorem f_pieces_setWear {N : Nat} {l1 : Int32} {l2 : Int32} {r : Int32} {σ σ' : xS} (hf : pieces_setWear N l1 l2 σ = some (r, σ')) : fr [12, 13] [] σ σ' := by
  unfold pieces_setWear at hf
  refine fr_if hf (fun hf => ?_) (fun hf => ?_)
  · exact fr_some hf
  refine fr_if hf (fun hf => ?_) (fun hf => ?_)
  · exact fr_some hf
  refine fr_if hf (fun hf => ?_) (fun hf => ?_)
  · exact fr_some hf
  refine fr_if hf (fun hf => ?_) (fun hf => ?_)
  · refine fr_put hf (by decide) (fun σ1 hf => ?_)
    refine fr_put hf (by decide) (fun σ2 hf => ?_)
    exact fr_some hf
  exact fr_some hf
theorem f_cw_wear {N : Nat} {l1 : Int32} {l2 : Int32} {r : Int32} {σ σ' : xS} (hf : cw_wear N l1 l2 σ = some (r, σ')) : fr [12, 13] [] σ σ' := by
  unfold cw_wear at hf
  refine fr_cal hf (fun _ _ h => fr_mono (f_pieces_setWear h) (by decide) (fun _ h => by cases h)) (fun v1 σ2 hf => ?_)
  refine fr_gdb hf (fun hf => ?_)
  exact fr_some hf
theorem f_pieces_canPour {N : Nat} {l1 : Int32} {r : Int32} {σ σ' : xS} (hf : pieces_canPour N l1 σ = some (r, σ')) : fr [] [] σ σ' := by
  unfold pieces_canPour at hf
  refine fr_if hf (fun hf => ?_) (fun hf => ?_)
  · exact fr_some hf
  refine fr_if hf (fun hf => ?_) (fun hf => ?_)
  · exact fr_some hf
  refine fr_if hf (fun hf => ?_) (fun hf => ?_)
  · exact fr_some hf
  exact fr_some hf
theorem f_pieces_leftOn {N : Nat} {l1 : Int32} {r : Int32} {σ σ' : xS} (hf : pieces_leftOn N l1 σ = some (r, σ')) : fr [] [] σ σ' := by
  unfold pieces_leftOn at hf
  refine fr_cal hf (fun _ _ h => fr_mono (f_pieces_borneBy h) (fun _ h => by cases h) (fun _ h => by cases h)) (fun v1 σ2 hf => ?_)
  refine fr_ald hf (fun v3 hf => ?_)
  refine fr_bnd hf (fun v4 hf => ?_)
  exact fr_some hf
theorem f_pieces_pourWhileBorne_b30 {N : Nat} {r : Int32} {σ' : xS} : ∀ (n : Nat) (l2 : Int32) (l3 : Int32) (σ : xS), pieces_pourWhileBorne_b30 N n l2 l3 σ = some (r, σ') → fr [] [11] σ σ' := by
  intro n
  induction n with
  | zero =>
    intro l2 l3 σ hf
    rw [pieces_pourWhileBorne_b30] at hf
    cases hf
  | succ n ih =>
    intro l2 l3 σ hf
    rw [pieces_pourWhileBorne_b30] at hf
    refine fr_if hf (fun hf => ?_) (fun hf => ?_)
    · exact fr_some hf
    refine fr_ald hf (fun v1 hf => ?_)
    refine fr_ast hf (by decide) (fun σ2 hf => ?_)
    refine fr_bnd hf (fun l3_3 hf => ?_)
    exact ih _ _ _  hf
theorem f_pieces_pourWhileBorne_b4 {N : Nat} {r : Int32} {σ' : xS} : ∀ (n : Nat) (l2 : Int32) (l3 : Int32) (σ : xS), pieces_pourWhileBorne_b4 N n l2 l3 σ = some (r, σ') → fr [] [11] σ σ' := by
  intro n
  induction n with
  | zero =>
    intro l2 l3 σ hf
    rw [pieces_pourWhileBorne_b4] at hf
    cases hf
  | succ n ih =>
    intro l2 l3 σ hf
    rw [pieces_pourWhileBorne_b4] at hf
    refine fr_if hf (fun hf => ?_) (fun hf => ?_)
    · exact f_pieces_pourWhileBorne_b30 _ _ _ _ hf
    refine fr_cal hf (fun _ _ h => fr_mono (f_pieces_leftOn h) (fun _ h => by cases h) (fun _ h => by cases h)) (fun v4 σ5 hf => ?_)
    refine fr_bnd hf (fun v6 hf => ?_)
    refine fr_bnd hf (fun l3_7 hf => ?_)
    exact ih _ _ _  hf
theorem f_pieces_pourWhileBorne {N : Nat} {l1 : Int32} {r : Int32} {σ σ' : xS} (hf : pieces_pourWhileBorne N l1 σ = some (r, σ')) : fr [] [11] σ σ' := by
  unfold pieces_pourWhileBorne at hf
  exact f_pieces_pourWhileBorne_b4 _ _ _ _ hf
theorem f_cw_pour {N : Nat} {l1 : Int32} {r : Int32} {σ σ' : xS} (hf : cw_pour N l1 σ = some (r, σ')) : fr [] [11] σ σ' := by
  unfold cw_pour at hf
  refine fr_cal hf (fun _ _ h => fr_mono (f_pieces_canPour h) (fun _ h => by cases h) (fun _ h => by cases h)) (fun v1 σ2 hf => ?_)
  refine fr_if hf (fun hf => ?_) (fun hf => ?_)
  · exact fr_some hf
  refine fr_cal hf (fun _ _ h => fr_mono (f_pieces_pourWhileBorne h) (fun _ h => by cases h) (by decide)) (fun v3 σ4 hf => ?_)
  exact fr_some hf
theorem f_pieces_mendOne {N : Nat} {l1 : Int32} {r : Int32} {σ σ' : xS} (hf : pieces_mendOne N l1 σ = some (r, σ')) : fr [] [11] σ σ' := by
  unfold pieces_mendOne at hf
  refine fr_cal hf (fun _ _ h => fr_mono (f_pieces_has h) (fun _ h => by cases h) (fun _ h => by cases h)) (fun v1 σ2 hf => ?_)
  refine fr_if hf (fun hf => ?_) (fun hf => ?_)
  · exact fr_some hf
  refine fr_ast hf (by decide) (fun σ3 hf => ?_)
  refine fr_ald hf (fun v4 hf => ?_)
  exact fr_some hf
theorem f_cw_mend {N : Nat} {l1 : Int32} {r : Int32} {σ σ' : xS} (hf : cw_mend N l1 σ = some (r, σ')) : fr [] [11] σ σ' := by
  unfold cw_mend at hf
  refine fr_cal hf (fun _ _ h => fr_mono (f_pieces_has h) (fun _ h => by cases h) (fun _ h => by cases h)) (fun v1 σ2 hf => ?_)
  refine fr_if hf (fun hf => ?_) (fun hf => ?_)
  · exact fr_some hf
  refine fr_cal hf (fun _ _ h => fr_mono (f_pieces_mendOne h) (fun _ h => by cases h) (by decide)) (fun v3 σ4 hf => ?_)
  exact fr_some hf
theorem f_pieces_pourAndMendOne {N : Nat} {l1 : Int32} {l2 : Int32} {r : Int32} {σ σ' : xS} (hf : pieces_pourAndMendOne N l1 l2 σ = some (r, σ')) : fr [] [11] σ σ' := by
  unfold pieces_pourAndMendOne at hf
  refine fr_cal hf (fun _ _ h => fr_mono (f_pieces_leftOn h) (fun _ h => by cases h) (fun _ h => by cases h)) (fun v1 σ2 hf => ?_)
  refine fr_if hf (fun hf => ?_) (fun hf => ?_)
  · refine fr_cal hf (fun _ _ h => fr_mono (f_pieces_borneBy h) (fun _ h => by cases h) (fun _ h => by cases h)) (fun v3 σ4 hf => ?_)
    refine fr_bnd hf (fun v5 hf => ?_)
    refine fr_bnd hf (fun l5_6 hf => ?_)
    refine fr_gdz hf (fun hf => ?_)
    refine fr_bnd hf (fun l6_7 hf => ?_)
    refine fr_ast hf (by decide) (fun σ8 hf => ?_)
    refine fr_ald hf (fun v9 hf => ?_)
    exact fr_some hf
  refine fr_ald hf (fun v10 hf => ?_)
  refine fr_ast hf (by decide) (fun σ11 hf => ?_)
  exact fr_some hf
theorem f_pieces_pourAndMend_b4 {N : Nat} {r : Int32} {σ' : xS} : ∀ (n : Nat) (l1 : Int32) (l2 : Int32) (l3 : Int32) (σ : xS), pieces_pourAndMend_b4 N n l1 l2 l3 σ = some (r, σ') → fr [] [11] σ σ' := by
  intro n
  induction n with
  | zero =>
    intro l1 l2 l3 σ hf
    rw [pieces_pourAndMend_b4] at hf
    cases hf
  | succ n ih =>
    intro l1 l2 l3 σ hf
    rw [pieces_pourAndMend_b4] at hf
    refine fr_if hf (fun hf => ?_) (fun hf => ?_)
    · exact fr_some hf
    refine fr_cal hf (fun _ _ h => fr_mono (f_pieces_pourAndMendOne h) (fun _ h => by cases h) (by decide)) (fun v1 σ2 hf => ?_)
    refine fr_bnd hf (fun l2_3 hf => ?_)
    refine fr_bnd hf (fun l3_4 hf => ?_)
    exact ih _ _ _ _  hf
theorem f_pieces_pourAndMend {N : Nat} {l1 : Int32} {r : Int32} {σ σ' : xS} (hf : pieces_pourAndMend N l1 σ = some (r, σ')) : fr [] [11] σ σ' := by
  unfold pieces_pourAndMend at hf
  exact f_pieces_pourAndMend_b4 _ _ _ _ _ hf
theorem f_cw_run {N : Nat} {l1 : Int32} {r : Int32} {σ σ' : xS} (hf : cw_run N l1 σ = some (r, σ')) : fr [] [11] σ σ' := by
  unfold cw_run at hf
  refine fr_cal hf (fun _ _ h => fr_mono (f_pieces_canPour h) (fun _ h => by cases h) (fun _ h => by cases h)) (fun v1 σ2 hf => ?_)
  refine fr_if hf (fun hf => ?_) (fun hf => ?_)
  · exact fr_some hf
  refine fr_cal hf (fun _ _ h => fr_mono (f_pieces_pourAndMend h) (fun _ h => by cases h) (by decide)) (fun v3 σ4 hf => ?_)
  exact fr_some hf
theorem f_orders_setDry {N : Nat} {l1 : Int32} {r : Int32} {σ σ' : xS} (hf : orders_setDry N l1 σ = some (r, σ')) : fr [15] [] σ σ' := by
  unfold orders_setDry at hf
  refine fr_if hf (fun hf => ?_) (fun hf => ?_)
  · exact fr_some hf
  refine fr_if hf (fun hf => ?_) (fun hf => ?_)
  · refine fr_bnd hf (fun l2_1 hf => ?_)
    refine fr_put hf (by decide) (fun σ2 hf => ?_)
    exact fr_some hf
  exact fr_some hf
theorem f_cw_dry {N : Nat} {l1 : Int32} {r : Int32} {σ σ' : xS} (hf : cw_dry N l1 σ = some (r, σ')) : fr [15] [] σ σ' := by
  unfold cw_dry at hf
  refine fr_cal hf (fun _ _ h => fr_mono (f_orders_setDry h) (by decide) (fun _ h => by cases h)) (fun v1 σ2 hf => ?_)
  exact fr_some hf
theorem f_orders_add_b43 {N : Nat} {r : Int32} {σ' : xS} : ∀ (n : Nat) (l1 : Int32) (l2 : Int32) (l3 : Int32) (l4 : Int32) (l5 : Int32) (σ : xS), orders_add_b43 N n l1 l2 l3 l4 l5 σ = some (r, σ') → fr [] [18, 19, 20] σ σ' := by
  intro n
  induction n with
  | zero =>
    intro l1 l2 l3 l4 l5 σ hf
    rw [orders_add_b43] at hf
    cases hf
  | succ n ih =>
    intro l1 l2 l3 l4 l5 σ hf
    rw [orders_add_b43] at hf
    refine fr_if hf (fun hf => ?_) (fun hf => ?_)
    · exact fr_some hf
    refine fr_if hf (fun hf => ?_) (fun hf => ?_)
    · exact fr_some hf
    refine fr_ald hf (fun v1 hf => ?_)
    refine fr_if hf (fun hf => ?_) (fun hf => ?_)
    · refine fr_ast hf (by decide) (fun σ3 hf => ?_)
      refine fr_ast hf (by decide) (fun σ4 hf => ?_)
      refine fr_ast hf (by decide) (fun σ5 hf => ?_)
      exact fr_some hf
    refine fr_bnd hf (fun l5_2 hf => ?_)
    exact ih _ _ _ _ _ _  hf
theorem f_orders_add {N : Nat} {l1 : Int32} {l2 : Int32} {l3 : Int32} {r : Int32} {σ σ' : xS} (hf : orders_add N l1 l2 l3 σ = some (r, σ')) : fr [] [18, 19, 20] σ σ' := by
  unfold orders_add at hf
  refine fr_if hf (fun hf => ?_) (fun hf => ?_)
  · exact f_orders_add_b43 _ _ _ _ _ _ _ hf
  refine fr_if hf (fun hf => ?_) (fun hf => ?_)
  · exact f_orders_add_b43 _ _ _ _ _ _ _ hf
  refine fr_if hf (fun hf => ?_) (fun hf => ?_)
  · exact f_orders_add_b43 _ _ _ _ _ _ _ hf
  refine fr_if hf (fun hf => ?_) (fun hf => ?_)
  · exact f_orders_add_b43 _ _ _ _ _ _ _ hf
  refine fr_if hf (fun hf => ?_) (fun hf => ?_)
  · exact f_orders_add_b43 _ _ _ _ _ _ _ hf
  refine fr_if hf (fun hf => ?_) (fun hf => ?_)
  · exact f_orders_add_b43 _ _ _ _ _ _ _ hf
  exact f_orders_add_b43 _ _ _ _ _ _ _ hf
theorem f_cw_order {N : Nat} {l1 : Int32} {l2 : Int32} {l3 : Int32} {r : Int32} {σ σ' : xS} (hf : cw_order N l1 l2 l3 σ = some (r, σ')) : fr [] [18, 19, 20] σ σ' := by
  unfold cw_order at hf
  refine fr_cal hf (fun _ _ h => fr_mono (f_orders_add h) (fun _ h => by cases h) (by decide)) (fun v1 σ2 hf => ?_)
  exact fr_some hf
theorem f_orders_remove {N : Nat} {l1 : Int32} {r : Int32} {σ σ' : xS} (hf : orders_remove N l1 σ = some (r, σ')) : fr [] [18] σ σ' := by
  unfold orders_remove at hf
  refine fr_if hf (fun hf => ?_) (fun hf => ?_)
  · exact fr_some hf
  refine fr_if hf (fun hf => ?_) (fun hf => ?_)
  · exact fr_some hf
  refine fr_ald hf (fun v1 hf => ?_)
  refine fr_if hf (fun hf => ?_) (fun hf => ?_)
  · exact fr_some hf
  refine fr_ast hf (by decide) (fun σ2 hf => ?_)
  exact fr_some hf
theorem f_cw_cancel {N : Nat} {l1 : Int32} {r : Int32} {σ σ' : xS} (hf : cw_cancel N l1 σ = some (r, σ')) : fr [] [18] σ σ' := by
  unfold cw_cancel at hf
  refine fr_cal hf (fun _ _ h => fr_mono (f_orders_remove h) (fun _ h => by cases h) (by decide)) (fun v1 σ2 hf => ?_)
  refine fr_gdb hf (fun hf => ?_)
  exact fr_some hf
theorem f_orders_allOrders_b4 {N : Nat} {r : Int32} {σ' : xS} : ∀ (n : Nat) (l1 : Int32) (l2 : Int32) (σ : xS), orders_allOrders_b4 N n l1 l2 σ = some (r, σ') → fr [] [] σ σ' := by
  intro n
  induction n with
  | zero =>
    intro l1 l2 σ hf
    rw [orders_allOrders_b4] at hf
    cases hf
  | succ n ih =>
    intro l1 l2 σ hf
    rw [orders_allOrders_b4] at hf
    refine fr_if hf (fun hf => ?_) (fun hf => ?_)
    · exact fr_some hf
    refine fr_ald hf (fun v1 hf => ?_)
    refine fr_if hf (fun hf => ?_) (fun hf => ?_)
    · refine fr_bnd hf (fun l1_2 hf => ?_)
      refine fr_bnd hf (fun l2_3 hf => ?_)
      exact ih _ _ _  hf
    refine fr_bnd hf (fun l1_4 hf => ?_)
    refine fr_bnd hf (fun l2_5 hf => ?_)
    exact ih _ _ _  hf
theorem f_orders_allOrders {N : Nat} {r : Int32} {σ σ' : xS} (hf : orders_allOrders N σ = some (r, σ')) : fr [] [] σ σ' := by
  unfold orders_allOrders at hf
  exact f_orders_allOrders_b4 _ _ _ _ hf
theorem f_orders_poursOf_b4 {N : Nat} {r : Int32} {σ' : xS} : ∀ (n : Nat) (l1 : Int32) (l2 : Int32) (l3 : Int32) (σ : xS), orders_poursOf_b4 N n l1 l2 l3 σ = some (r, σ') → fr [] [] σ σ' := by
  intro n
  induction n with
  | zero =>
    intro l1 l2 l3 σ hf
    rw [orders_poursOf_b4] at hf
    cases hf
  | succ n ih =>
    intro l1 l2 l3 σ hf
    rw [orders_poursOf_b4] at hf
    refine fr_if hf (fun hf => ?_) (fun hf => ?_)
    · exact fr_some hf
    refine fr_ald hf (fun v1 hf => ?_)
    refine fr_bnd hf (fun l2_2 hf => ?_)
    refine fr_bnd hf (fun l3_3 hf => ?_)
    exact ih _ _ _ _  hf
theorem f_orders_poursOf {N : Nat} {l1 : Int32} {r : Int32} {σ σ' : xS} (hf : orders_poursOf N l1 σ = some (r, σ')) : fr [] [] σ σ' := by
  unfold orders_poursOf at hf
  exact f_orders_poursOf_b4 _ _ _ _ _ hf
theorem f_orders_latenessOf {N : Nat} {l1 : Int32} {l2 : Int32} {r : Int32} {σ σ' : xS} (hf : orders_latenessOf N l1 l2 σ = some (r, σ')) : fr [] [] σ σ' := by
  unfold orders_latenessOf at hf
  refine fr_ald hf (fun v1 hf => ?_)
  refine fr_ald hf (fun v2 hf => ?_)
  refine fr_bnd hf (fun v3 hf => ?_)
  exact fr_some hf
theorem f_orders_keepRow_b12 {N : Nat} {r : Int32} {σ' : xS} : ∀ (n : Nat) (l2 : Int32) (l3 : Int32) (l4 : Int32) (σ : xS), orders_keepRow_b12 N n l2 l3 l4 σ = some (r, σ') → fr [16] [23, 24] σ σ' := by
  intro n
  induction n with
  | zero =>
    intro l2 l3 l4 σ hf
    rw [orders_keepRow_b12] at hf
    cases hf
  | succ n ih =>
    intro l2 l3 l4 σ hf
    rw [orders_keepRow_b12] at hf
    refine fr_if hf (fun hf => ?_) (fun hf => ?_)
    · exact fr_some hf
    refine fr_if hf (fun hf => ?_) (fun hf => ?_)
    · exact fr_some hf
    refine fr_ald hf (fun v2 hf => ?_)
    refine fr_ast hf (by decide) (fun σ3 hf => ?_)
    refine fr_cal hf (fun _ _ h => fr_mono (f_orders_latenessOf h) (fun _ h => by cases h) (fun _ h => by cases h)) (fun v4 σ5 hf => ?_)
    refine fr_ast hf (by decide) (fun σ6 hf => ?_)
    refine fr_put hf (by decide) (fun σ7 hf => ?_)
    refine fr_ald hf (fun v8 hf => ?_)
    refine fr_bnd hf (fun l3_9 hf => ?_)
    refine fr_bnd hf (fun l2_10 hf => ?_)
    refine fr_bnd hf (fun l4_11 hf => ?_)
    exact ih _ _ _ _  hf
theorem f_orders_keepRow {N : Nat} {l1 : Int32} {r : Int32} {σ σ' : xS} (hf : orders_keepRow N l1 σ = some (r, σ')) : fr [16] [23, 24] σ σ' := by
  unfold orders_keepRow at hf
  refine fr_put hf (by decide) (fun σ1 hf => ?_)
  exact f_orders_keepRow_b12 _ _ _ _ _ hf
theorem f_orders_weighSet_b10 {N : Nat} {r : Int32} {σ' : xS} : ∀ (n : Nat) (l1 : Int32) (l2 : Int32) (l3 : Int32) (σ : xS), orders_weighSet_b10 N n l1 l2 l3 σ = some (r, σ') → fr [] [21, 22] σ σ' := by
  intro n
  induction n with
  | zero =>
    intro l1 l2 l3 σ hf
    rw [orders_weighSet_b10] at hf
    cases hf
  | succ n ih =>
    intro l1 l2 l3 σ hf
    rw [orders_weighSet_b10] at hf
    refine fr_if hf (fun hf => ?_) (fun hf => ?_)
    · exact fr_some hf
    refine fr_bnd hf (fun l4_2 hf => ?_)
    refine fr_if hf (fun hf => ?_) (fun hf => ?_)
    · refine fr_bnd hf (fun l3_3 hf => ?_)
      exact ih _ _ _ _  hf
    refine fr_ald hf (fun v4 hf => ?_)
    refine fr_cal hf (fun _ _ h => fr_mono (f_orders_latenessOf h) (fun _ h => by cases h) (fun _ h => by cases h)) (fun v5 σ6 hf => ?_)
    refine fr_ald hf (fun v7 hf => ?_)
    refine fr_bnd hf (fun l5_8 hf => ?_)
    refine fr_ald hf (fun v9 hf => ?_)
    refine fr_if hf (fun hf => ?_) (fun hf => ?_)
    · refine fr_bnd hf (fun l3_10 hf => ?_)
      exact ih _ _ _ _  hf
    refine fr_ast hf (by decide) (fun σ11 hf => ?_)
    refine fr_ast hf (by decide) (fun σ12 hf => ?_)
    refine fr_bnd hf (fun l3_13 hf => ?_)
    exact ih _ _ _ _  hf
theorem f_orders_weighSet {N : Nat} {l1 : Int32} {l2 : Int32} {r : Int32} {σ σ' : xS} (hf : orders_weighSet N l1 l2 σ = some (r, σ')) : fr [] [21, 22] σ σ' := by
  unfold orders_weighSet at hf
  refine fr_ast hf (by decide) (fun σ1 hf => ?_)
  exact f_orders_weighSet_b10 _ _ _ _ _ hf
theorem f_orders_findRow_b26 {N : Nat} {r : Int32} {σ' : xS} : ∀ (n : Nat) (l1 : Int32) (l2 : Int32) (l3 : Int32) (σ : xS), orders_findRow_b26 N n l1 l2 l3 σ = some (r, σ') → fr [16] [21, 22, 23, 24] σ σ' := by
  intro n
  induction n with
  | zero =>
    intro l1 l2 l3 σ hf
    rw [orders_findRow_b26] at hf
    cases hf
  | succ n ih =>
    intro l1 l2 l3 σ hf
    rw [orders_findRow_b26] at hf
    refine fr_if hf (fun hf => ?_) (fun hf => ?_)
    · refine fr_cal hf (fun _ _ h => fr_mono (f_orders_keepRow h) (by decide) (by decide)) (fun _ σ7 hf => ?_)
      refine fr_ald hf (fun v8 hf => ?_)
      exact fr_some hf
    refine fr_if hf (fun hf => ?_) (fun hf => ?_)
    · refine fr_cal hf (fun _ _ h => fr_mono (f_orders_poursOf h) (fun _ h => by cases h) (fun _ h => by cases h)) (fun v10 σ11 hf => ?_)
      refine fr_cal hf (fun _ _ h => fr_mono (f_orders_weighSet h) (fun _ h => by cases h) (by decide)) (fun _ σ13 hf => ?_)
      refine fr_bnd hf (fun l3_14 hf => ?_)
      exact ih _ _ _ _  hf
    refine fr_bnd hf (fun l3_9 hf => ?_)
    exact ih _ _ _ _  hf
theorem f_orders_findRow {N : Nat} {r : Int32} {σ σ' : xS} (hf : orders_findRow N σ = some (r, σ')) : fr [16] [21, 22, 23, 24] σ σ' := by
  unfold orders_findRow at hf
  refine fr_cal hf (fun _ _ h => fr_mono (f_orders_allOrders h) (fun _ h => by cases h) (fun _ h => by cases h)) (fun v1 σ2 hf => ?_)
  refine fr_if hf (fun hf => ?_) (fun hf => ?_)
  · exact fr_some hf
  refine fr_cal hf (fun _ _ h => fr_mono (f_orders_poursOf h) (fun _ h => by cases h) (fun _ h => by cases h)) (fun v3 σ4 hf => ?_)
  refine fr_ast hf (by decide) (fun σ5 hf => ?_)
  exact f_orders_findRow_b26 _ _ _ _ _ hf
theorem f_cw_row {N : Nat} {r : Int32} {σ σ' : xS} (hf : cw_row N σ = some (r, σ')) : fr [16] [21, 22, 23, 24] σ σ' := by
  unfold cw_row at hf
  refine fr_cal hf (fun _ _ h => fr_mono (f_orders_findRow h) (by decide) (by decide)) (fun v1 σ2 hf => ?_)
  exact fr_some hf
theorem f_orders_rowNumber {N : Nat} {l1 : Int32} {r : Int32} {σ σ' : xS} (hf : orders_rowNumber N l1 σ = some (r, σ')) : fr [] [] σ σ' := by
  unfold orders_rowNumber at hf
  refine fr_if hf (fun hf => ?_) (fun hf => ?_)
  · exact fr_some hf
  refine fr_if hf (fun hf => ?_) (fun hf => ?_)
  · exact fr_some hf
  refine fr_ald hf (fun v1 hf => ?_)
  exact fr_some hf
theorem f_cw_next {N : Nat} {l1 : Int32} {r : Int32} {σ σ' : xS} (hf : cw_next N l1 σ = some (r, σ')) : fr [] [] σ σ' := by
  unfold cw_next at hf
  refine fr_cal hf (fun _ _ h => fr_mono (f_orders_rowNumber h) (fun _ h => by cases h) (fun _ h => by cases h)) (fun v1 σ2 hf => ?_)
  exact fr_some hf
theorem f_orders_rowLateness {N : Nat} {l1 : Int32} {r : Int32} {σ σ' : xS} (hf : orders_rowLateness N l1 σ = some (r, σ')) : fr [] [] σ σ' := by
  unfold orders_rowLateness at hf
  refine fr_if hf (fun hf => ?_) (fun hf => ?_)
  · exact fr_some hf
  refine fr_if hf (fun hf => ?_) (fun hf => ?_)
  · exact fr_some hf
  refine fr_ald hf (fun v1 hf => ?_)
  exact fr_some hf
theorem f_cw_late {N : Nat} {l1 : Int32} {r : Int32} {σ σ' : xS} (hf : cw_late N l1 σ = some (r, σ')) : fr [] [] σ σ' := by
  unfold cw_late at hf
  refine fr_cal hf (fun _ _ h => fr_mono (f_orders_rowLateness h) (fun _ h => by cases h) (fun _ h => by cases h)) (fun v1 σ2 hf => ?_)
  exact fr_some hf
theorem f_finds_set_b39 {N : Nat} {r : Int32} {σ' : xS} : ∀ (l1 : Int32) (l2 : Int32) (l3 : Int32) (σ : xS), finds_set_b39 N l1 l2 l3 σ = some (r, σ') → fr [] [25, 26] σ σ' := by
  intro l1 l2 l3 σ hf
  unfold finds_set_b39 at hf
  refine fr_ast hf (by decide) (fun σ1 hf => ?_)
  refine fr_if hf (fun hf => ?_) (fun hf => ?_)
  · refine fr_ast hf (by decide) (fun σ2 hf => ?_)
    exact fr_some hf
  refine fr_ast hf (by decide) (fun σ3 hf => ?_)
  exact fr_some hf
theorem f_finds_set {N : Nat} {l1 : Int32} {l2 : Int32} {l3 : Int32} {r : Int32} {σ σ' : xS} (hf : finds_set N l1 l2 l3 σ = some (r, σ')) : fr [] [25, 26] σ σ' := by
  unfold finds_set at hf
  refine fr_if hf (fun hf => ?_) (fun hf => ?_)
  · exact fr_some hf
  refine fr_if hf (fun hf => ?_) (fun hf => ?_)
  · exact fr_some hf
  refine fr_if hf (fun hf => ?_) (fun hf => ?_)
  · exact fr_some hf
  refine fr_if hf (fun hf => ?_) (fun hf => ?_)
  · refine fr_if hf (fun hf => ?_) (fun hf => ?_)
    · exact f_finds_set_b39 _ _ _ _ hf
    refine fr_if hf (fun hf => ?_) (fun hf => ?_)
    · exact fr_some hf
    refine fr_if hf (fun hf => ?_) (fun hf => ?_)
    · exact f_finds_set_b39 _ _ _ _ hf
    exact fr_some hf
  exact fr_some hf
theorem f_cw_cast {N : Nat} {l1 : Int32} {l2 : Int32} {l3 : Int32} {r : Int32} {σ σ' : xS} (hf : cw_cast N l1 l2 l3 σ = some (r, σ')) : fr [] [25, 26] σ σ' := by
  unfold cw_cast at hf
  refine fr_cal hf (fun _ _ h => fr_mono (f_finds_set h) (fun _ h => by cases h) (by decide)) (fun v1 σ2 hf => ?_)
  refine fr_gdb hf (fun hf => ?_)
  exact fr_some hf
theorem f_finds_setCopying {N : Nat} {l1 : Int32} {l2 : Int32} {l3 : Int32} {r : Int32} {σ σ' : xS} (hf : finds_setCopying N l1 l2 l3 σ = some (r, σ')) : fr [17, 18, 19] [] σ σ' := by
  unfold finds_setCopying at hf
  refine fr_if hf (fun hf => ?_) (fun hf => ?_)
  · exact fr_some hf
  refine fr_if hf (fun hf => ?_) (fun hf => ?_)
  · exact fr_some hf
  refine fr_if hf (fun hf => ?_) (fun hf => ?_)
  · exact fr_some hf
  refine fr_if hf (fun hf => ?_) (fun hf => ?_)
  · exact fr_some hf
  refine fr_if hf (fun hf => ?_) (fun hf => ?_)
  · exact fr_some hf
  refine fr_if hf (fun hf => ?_) (fun hf => ?_)
  · refine fr_put hf (by decide) (fun σ1 hf => ?_)
    refine fr_put hf (by decide) (fun σ2 hf => ?_)
    refine fr_put hf (by decide) (fun σ3 hf => ?_)
    exact fr_some hf
  exact fr_some hf
theorem f_cw_copies {N : Nat} {l1 : Int32} {l2 : Int32} {l3 : Int32} {r : Int32} {σ σ' : xS} (hf : cw_copies N l1 l2 l3 σ = some (r, σ')) : fr [17, 18, 19] [] σ σ' := by
  unfold cw_copies at hf
  refine fr_cal hf (fun _ _ h => fr_mono (f_finds_setCopying h) (by decide) (fun _ h => by cases h)) (fun v1 σ2 hf => ?_)
  refine fr_gdb hf (fun hf => ?_)
  exact fr_some hf
theorem f_finds_has {N : Nat} {l1 : Int32} {r : Int32} {σ σ' : xS} (hf : finds_has N l1 σ = some (r, σ')) : fr [] [] σ σ' := by
  unfold finds_has at hf
  refine fr_if hf (fun hf => ?_) (fun hf => ?_)
  · exact fr_some hf
  refine fr_if hf (fun hf => ?_) (fun hf => ?_)
  · exact fr_some hf
  refine fr_ald hf (fun v1 hf => ?_)
  refine fr_if hf (fun hf => ?_) (fun hf => ?_)
  · exact fr_some hf
  exact fr_some hf
theorem f_finds_canBeMother {N : Nat} {l1 : Int32} {l2 : Int32} {r : Int32} {σ σ' : xS} (hf : finds_canBeMother N l1 l2 σ = some (r, σ')) : fr [] [] σ σ' := by
  unfold finds_canBeMother at hf
  refine fr_cal hf (fun _ _ h => fr_mono (f_finds_has h) (fun _ h => by cases h) (fun _ h => by cases h)) (fun v1 σ2 hf => ?_)
  refine fr_if hf (fun hf => ?_) (fun hf => ?_)
  · exact fr_some hf
  refine fr_cal hf (fun _ _ h => fr_mono (f_finds_has h) (fun _ h => by cases h) (fun _ h => by cases h)) (fun v3 σ4 hf => ?_)
  refine fr_if hf (fun hf => ?_) (fun hf => ?_)
  · exact fr_some hf
  refine fr_ald hf (fun v5 hf => ?_)
  refine fr_ald hf (fun v6 hf => ?_)
  refine fr_if hf (fun hf => ?_) (fun hf => ?_)
  · exact fr_some hf
  refine fr_ald hf (fun v7 hf => ?_)
  refine fr_ald hf (fun v8 hf => ?_)
  refine fr_if hf (fun hf => ?_) (fun hf => ?_)
  · refine fr_ald hf (fun v9 hf => ?_)
    refine fr_ald hf (fun v10 hf => ?_)
    refine fr_if hf (fun hf => ?_) (fun hf => ?_)
    · exact fr_some hf
    exact fr_some hf
  exact fr_some hf
theorem f_finds_quarrelOf {N : Nat} {l1 : Int32} {l2 : Int32} {r : Int32} {σ σ' : xS} (hf : finds_quarrelOf N l1 l2 σ = some (r, σ')) : fr [] [] σ σ' := by
  unfold finds_quarrelOf at hf
  refine fr_cal hf (fun _ _ h => fr_mono (f_finds_has h) (fun _ h => by cases h) (fun _ h => by cases h)) (fun v1 σ2 hf => ?_)
  refine fr_if hf (fun hf => ?_) (fun hf => ?_)
  · exact fr_some hf
  refine fr_cal hf (fun _ _ h => fr_mono (f_finds_has h) (fun _ h => by cases h) (fun _ h => by cases h)) (fun v3 σ4 hf => ?_)
  refine fr_if hf (fun hf => ?_) (fun hf => ?_)
  · exact fr_some hf
  refine fr_ald hf (fun v5 hf => ?_)
  refine fr_ald hf (fun v6 hf => ?_)
  refine fr_gdz hf (fun hf => ?_)
  refine fr_bnd hf (fun v7 hf => ?_)
  refine fr_ald hf (fun v8 hf => ?_)
  refine fr_ald hf (fun v9 hf => ?_)
  refine fr_gdz hf (fun hf => ?_)
  refine fr_bnd hf (fun v10 hf => ?_)
  exact fr_some hf
theorem f_finds_motherOf_b12 {N : Nat} {r : Int32} {σ' : xS} : ∀ (n : Nat) (l1 : Int32) (l2 : Int32) (l3 : Int32) (l4 : Int32) (σ : xS), finds_motherOf_b12 N n l1 l2 l3 l4 σ = some (r, σ') → fr [] [] σ σ' := by
  intro n
  induction n with
  | zero =>
    intro l1 l2 l3 l4 σ hf
    rw [finds_motherOf_b12] at hf
    cases hf
  | succ n ih =>
    intro l1 l2 l3 l4 σ hf
    rw [finds_motherOf_b12] at hf
    refine fr_if hf (fun hf => ?_) (fun hf => ?_)
    · exact fr_some hf
    refine fr_cal hf (fun _ _ h => fr_mono (f_finds_canBeMother h) (fun _ h => by cases h) (fun _ h => by cases h)) (fun v2 σ3 hf => ?_)
    refine fr_if hf (fun hf => ?_) (fun hf => ?_)
    · refine fr_bnd hf (fun l4_4 hf => ?_)
      exact ih _ _ _ _ _  hf
    refine fr_cal hf (fun _ _ h => fr_mono (f_finds_quarrelOf h) (fun _ h => by cases h) (fun _ h => by cases h)) (fun v5 σ6 hf => ?_)
    refine fr_if hf (fun hf => ?_) (fun hf => ?_)
    · refine fr_bnd hf (fun l4_7 hf => ?_)
      exact ih _ _ _ _ _  hf
    refine fr_bnd hf (fun l4_8 hf => ?_)
    exact ih _ _ _ _ _  hf
theorem f_finds_motherOf {N : Nat} {l1 : Int32} {r : Int32} {σ σ' : xS} (hf : finds_motherOf N l1 σ = some (r, σ')) : fr [] [] σ σ' := by
  unfold finds_motherOf at hf
  refine fr_bnd hf (fun l3_1 hf => ?_)
  exact f_finds_motherOf_b12 _ _ _ _ _ _ hf
theorem f_cw_mother {N : Nat} {l1 : Int32} {r : Int32} {σ σ' : xS} (hf : cw_mother N l1 σ = some (r, σ')) : fr [] [] σ σ' := by
  unfold cw_mother at hf
  refine fr_cal hf (fun _ _ h => fr_mono (f_finds_has h) (fun _ h => by cases h) (fun _ h => by cases h)) (fun v1 σ2 hf => ?_)
  refine fr_if hf (fun hf => ?_) (fun hf => ?_)
  · exact fr_some hf
  refine fr_cal hf (fun _ _ h => fr_mono (f_finds_motherOf h) (fun _ h => by cases h) (fun _ h => by cases h)) (fun v3 σ4 hf => ?_)
  refine fr_if hf (fun hf => ?_) (fun hf => ?_)
  · exact fr_some hf
  exact fr_some hf
theorem f_finds_stepsFrom_b11 {N : Nat} {r : Int32} {σ' : xS} : ∀ (n : Nat) (l2 : Int32) (l3 : Int32) (l4 : Int32) (σ : xS), finds_stepsFrom_b11 N n l2 l3 l4 σ = some (r, σ') → fr [] [] σ σ' := by
  intro n
  induction n with
  | zero =>
    intro l2 l3 l4 σ hf
    rw [finds_stepsFrom_b11] at hf
    cases hf
  | succ n ih =>
    intro l2 l3 l4 σ hf
    rw [finds_stepsFrom_b11] at hf
    refine fr_if hf (fun hf => ?_) (fun hf => ?_)
    · exact fr_some hf
    refine fr_if hf (fun hf => ?_) (fun hf => ?_)
    · exact fr_some hf
    refine fr_bnd hf (fun l2_3 hf => ?_)
    refine fr_cal hf (fun _ _ h => fr_mono (f_finds_motherOf h) (fun _ h => by cases h) (fun _ h => by cases h)) (fun v4 σ5 hf => ?_)
    refine fr_bnd hf (fun l4_6 hf => ?_)
    exact ih _ _ _ _  hf
theorem f_finds_stepsFrom {N : Nat} {l1 : Int32} {r : Int32} {σ σ' : xS} (hf : finds_stepsFrom N l1 σ = some (r, σ')) : fr [] [] σ σ' := by
  unfold finds_stepsFrom at hf
  refine fr_cal hf (fun _ _ h => fr_mono (f_finds_motherOf h) (fun _ h => by cases h) (fun _ h => by cases h)) (fun v1 σ2 hf => ?_)
  exact f_finds_stepsFrom_b11 _ _ _ _ _ hf
theorem f_cw_steps {N : Nat} {l1 : Int32} {r : Int32} {σ σ' : xS} (hf : cw_steps N l1 σ = some (r, σ')) : fr [] [] σ σ' := by
  unfold cw_steps at hf
  refine fr_cal hf (fun _ _ h => fr_mono (f_finds_has h) (fun _ h => by cases h) (fun _ h => by cases h)) (fun v1 σ2 hf => ?_)
  refine fr_if hf (fun hf => ?_) (fun hf => ?_)
  · exact fr_some hf
  refine fr_cal hf (fun _ _ h => fr_mono (f_finds_stepsFrom h) (fun _ h => by cases h) (fun _ h => by cases h)) (fun v3 σ4 hf => ?_)
  exact fr_some hf
theorem f_finds_countMotherless_b4 {N : Nat} {r : Int32} {σ' : xS} : ∀ (n : Nat) (l1 : Int32) (l2 : Int32) (σ : xS), finds_countMotherless_b4 N n l1 l2 σ = some (r, σ') → fr [] [] σ σ' := by
  intro n
  induction n with
  | zero =>
    intro l1 l2 σ hf
    rw [finds_countMotherless_b4] at hf
    cases hf
  | succ n ih =>
    intro l1 l2 σ hf
    rw [finds_countMotherless_b4] at hf
    refine fr_if hf (fun hf => ?_) (fun hf => ?_)
    · exact fr_some hf
    refine fr_cal hf (fun _ _ h => fr_mono (f_finds_has h) (fun _ h => by cases h) (fun _ h => by cases h)) (fun v1 σ2 hf => ?_)
    refine fr_if hf (fun hf => ?_) (fun hf => ?_)
    · refine fr_bnd hf (fun l1_3 hf => ?_)
      refine fr_bnd hf (fun l2_4 hf => ?_)
      exact ih _ _ _  hf
    refine fr_cal hf (fun _ _ h => fr_mono (f_finds_motherOf h) (fun _ h => by cases h) (fun _ h => by cases h)) (fun v5 σ6 hf => ?_)
    refine fr_if hf (fun hf => ?_) (fun hf => ?_)
    · refine fr_bnd hf (fun l1_9 hf => ?_)
      refine fr_bnd hf (fun l2_10 hf => ?_)
      exact ih _ _ _  hf
    refine fr_bnd hf (fun l1_7 hf => ?_)
    refine fr_bnd hf (fun l2_8 hf => ?_)
    exact ih _ _ _  hf
theorem f_finds_countMotherless {N : Nat} {r : Int32} {σ σ' : xS} (hf : finds_countMotherless N σ = some (r, σ')) : fr [] [] σ σ' := by
  unfold finds_countMotherless at hf
  exact f_finds_countMotherless_b4 _ _ _ _ hf
theorem f_finds_sumQuarrels_b4 {N : Nat} {r : Int32} {σ' : xS} : ∀ (n : Nat) (l1 : Int32) (l2 : Int32) (σ : xS), finds_sumQuarrels_b4 N n l1 l2 σ = some (r, σ') → fr [] [] σ σ' := by
  intro n
  induction n with
  | zero =>
    intro l1 l2 σ hf
    rw [finds_sumQuarrels_b4] at hf
    cases hf
  | succ n ih =>
    intro l1 l2 σ hf
    rw [finds_sumQuarrels_b4] at hf
    refine fr_if hf (fun hf => ?_) (fun hf => ?_)
    · exact fr_some hf
    refine fr_cal hf (fun _ _ h => fr_mono (f_finds_motherOf h) (fun _ h => by cases h) (fun _ h => by cases h)) (fun v1 σ2 hf => ?_)
    refine fr_if hf (fun hf => ?_) (fun hf => ?_)
    · refine fr_bnd hf (fun l1_7 hf => ?_)
      refine fr_bnd hf (fun l2_8 hf => ?_)
      exact ih _ _ _  hf
    refine fr_cal hf (fun _ _ h => fr_mono (f_finds_quarrelOf h) (fun _ h => by cases h) (fun _ h => by cases h)) (fun v3 σ4 hf => ?_)
    refine fr_bnd hf (fun l1_5 hf => ?_)
    refine fr_bnd hf (fun l2_6 hf => ?_)
    exact ih _ _ _  hf
theorem f_finds_sumQuarrels {N : Nat} {r : Int32} {σ σ' : xS} (hf : finds_sumQuarrels N σ = some (r, σ')) : fr [] [] σ σ' := by
  unfold finds_sumQuarrels at hf
  exact f_finds_sumQuarrels_b4 _ _ _ _ hf
theorem f_cw_told {N : Nat} {l1 : Int32} {r : Int32} {σ σ' : xS} (hf : cw_told N l1 σ = some (r, σ')) : fr [] [] σ σ' := by
  unfold cw_told at hf
  refine fr_if hf (fun hf => ?_) (fun hf => ?_)
  · refine fr_cal hf (fun _ _ h => fr_mono (f_finds_countMotherless h) (fun _ h => by cases h) (fun _ h => by cases h)) (fun v1 σ2 hf => ?_)
    exact fr_some hf
  refine fr_if hf (fun hf => ?_) (fun hf => ?_)
  · refine fr_cal hf (fun _ _ h => fr_mono (f_finds_sumQuarrels h) (fun _ h => by cases h) (fun _ h => by cases h)) (fun v3 σ4 hf => ?_)
    exact fr_some hf
  exact fr_some hf
theorem f_m_feed_b71 {N : Nat} {K18 : Int32 → Int32 → Int32 → Int32 → Int32 → Int32 → xS → Option (Int32 × xS)} {r : Int32} {σ' : xS} (hK18 : ∀ (a0 : Int32) (a1 : Int32) (a2 : Int32) (a3 : Int32) (a4 : Int32) (a5 : Int32) (σ : xS), K18 a0 a1 a2 a3 a4 a5 σ = some (r, σ') → fr [0] [0] σ σ') : ∀ (l1 : Int32) (l2 : Int32) (l3 : Int32) (l4 : Int32) (l5 : Int32) (l6 : Int32) (s0 : Int32) (σ : xS), m_feed_b71 N K18 l1 l2 l3 l4 l5 l6 s0 σ = some (r, σ') → fr [0] [0] σ σ' := by
  intro l1 l2 l3 l4 l5 l6 s0 σ hf
  unfold m_feed_b71 at hf
  refine fr_gdz hf (fun hf => ?_)
  refine fr_ast hf (by decide) (fun σ1 hf => ?_)
  refine fr_put hf (by decide) (fun σ2 hf => ?_)
  refine fr_bnd hf (fun l6_3 hf => ?_)
  exact hK18 _ _ _ _ _ _ _  hf
theorem f_m_feed_b18 {N : Nat} {r : Int32} {σ' : xS} : ∀ (n : Nat) (l1 : Int32) (l2 : Int32) (l3 : Int32) (l4 : Int32) (l5 : Int32) (l6 : Int32) (σ : xS), m_feed_b18 N n l1 l2 l3 l4 l5 l6 σ = some (r, σ') → fr [0] [0] σ σ' := by
  intro n
  induction n with
  | zero =>
    intro l1 l2 l3 l4 l5 l6 σ hf
    rw [m_feed_b18] at hf
    cases hf
  | succ n ih =>
    intro l1 l2 l3 l4 l5 l6 σ hf
    rw [m_feed_b18] at hf
    refine fr_if hf (fun hf => ?_) (fun hf => ?_)
    · exact fr_some hf
    refine fr_if hf (fun hf => ?_) (fun hf => ?_)
    · refine fr_if hf (fun hf => ?_) (fun hf => ?_)
      · refine fr_if hf (fun hf => ?_) (fun hf => ?_)
        · refine fr_if hf (fun hf => ?_) (fun hf => ?_)
          · exact f_m_feed_b71 ih _ _ _ _ _ _ _ _ hf
          exact f_m_feed_b71 ih _ _ _ _ _ _ _ _ hf
        exact f_m_feed_b71 ih _ _ _ _ _ _ _ _ hf
      exact f_m_feed_b71 ih _ _ _ _ _ _ _ _ hf
    exact f_m_feed_b71 ih _ _ _ _ _ _ _ _ hf
theorem f_m_feed {N : Nat} {l1 : Int32} {l2 : Int32} {l3 : Int32} {l4 : Int32} {l5 : Int32} {r : Int32} {σ σ' : xS} (hf : m_feed N l1 l2 l3 l4 l5 σ = some (r, σ')) : fr [0] [0] σ σ' := by
  unfold m_feed at hf
  refine fr_if hf (fun hf => ?_) (fun hf => ?_)
  · exact f_m_feed_b18 _ _ _ _ _ _ _ _ hf
  exact fr_some hf
theorem f_m_end {N : Nat} {l1 : Int32} {r : Int32} {σ σ' : xS} (hf : m_end N l1 σ = some (r, σ')) : fr [0] [] σ σ' := by
  unfold m_end at hf
  refine fr_if hf (fun hf => ?_) (fun hf => ?_)
  · exact fr_some hf
  refine fr_if hf (fun hf => ?_) (fun hf => ?_)
  · refine fr_put hf (by decide) (fun σ1 hf => ?_)
    exact fr_some hf
  exact fr_some hf
theorem f_m_isIn {N : Nat} {l0 : Int32} {l1 : Int32} {l2 : Int32} {r : Int32} {σ σ' : xS} (hf : m_isIn N l0 l1 l2 σ = some (r, σ')) : fr [] [] σ σ' := by
  unfold m_isIn at hf
  refine fr_if hf (fun hf => ?_) (fun hf => ?_)
  · exact fr_some hf
  refine fr_if hf (fun hf => ?_) (fun hf => ?_)
  · exact fr_some hf
  exact fr_some hf
theorem f_m_next_b52 {N : Nat} {r : Int32} {σ' : xS} : ∀ (σ : xS), m_next_b52 N σ = some (r, σ') → fr [1, 3] [] σ σ' := by
  intro σ hf
  unfold m_next_b52 at hf
  refine fr_put hf (by decide) (fun σ1 hf => ?_)
  refine fr_if hf (fun hf => ?_) (fun hf => ?_)
  · exact fr_some hf
  refine fr_ald hf (fun v2 hf => ?_)
  exact fr_some hf
theorem f_m_next_b0 {N : Nat} {r : Int32} {σ' : xS} : ∀ (n : Nat) (σ : xS), m_next_b0 N n σ = some (r, σ') → fr [1, 3] [] σ σ' := by
  intro n
  induction n with
  | zero =>
    intro σ hf
    rw [m_next_b0] at hf
    cases hf
  | succ n ih =>
    intro σ hf
    rw [m_next_b0] at hf
    refine fr_if hf (fun hf => ?_) (fun hf => ?_)
    · exact f_m_next_b52 _ hf
    refine fr_ald hf (fun v3 hf => ?_)
    refine fr_if hf (fun hf => ?_) (fun hf => ?_)
    · refine fr_put hf (by decide) (fun σ4 hf => ?_)
      exact ih _  hf
    refine fr_ald hf (fun v5 hf => ?_)
    refine fr_if hf (fun hf => ?_) (fun hf => ?_)
    · refine fr_put hf (by decide) (fun σ6 hf => ?_)
      exact ih _  hf
    exact f_m_next_b52 _ hf
theorem f_m_next {N : Nat} {r : Int32} {σ σ' : xS} (hf : m_next N σ = some (r, σ')) : fr [1, 3] [] σ σ' := by
  unfold m_next at hf
  exact f_m_next_b0 _ _ hf
theorem f_m_isLetter {N : Nat} {l0 : Int32} {r : Int32} {σ σ' : xS} (hf : m_isLetter N l0 σ = some (r, σ')) : fr [] [] σ σ' := by
  unfold m_isLetter at hf
  refine fr_if hf (fun hf => ?_) (fun hf => ?_)
  · exact fr_some hf
  refine fr_if hf (fun hf => ?_) (fun hf => ?_)
  · exact fr_some hf
  exact fr_some hf
theorem f_m_isWord_b67 {ab : Nat} {nb : Nat} {N : Nat} {r : Int32} {σ' : xS} : ∀ (n : Nat) (l2 : Int32) (l3 : Int32) (σ : xS), m_isWord_b67 ab nb N n l2 l3 σ = some (r, σ') → fr [1, 3, 4] [] σ σ' := by
  intro n
  induction n with
  | zero =>
    intro l2 l3 σ hf
    rw [m_isWord_b67] at hf
    cases hf
  | succ n ih =>
    intro l2 l3 σ hf
    rw [m_isWord_b67] at hf
    refine fr_if hf (fun hf => ?_) (fun hf => ?_)
    · refine fr_put hf (by decide) (fun σ4 hf => ?_)
      refine fr_put hf (by decide) (fun σ5 hf => ?_)
      exact fr_some hf
    refine fr_ald hf (fun v6 hf => ?_)
    refine fr_ald hf (fun v7 hf => ?_)
    refine fr_if hf (fun hf => ?_) (fun hf => ?_)
    · refine fr_bnd hf (fun l3_8 hf => ?_)
      exact ih _ _ _  hf
    exact fr_some hf
theorem f_m_isWord_b26 {ab : Nat} {nb : Nat} {N : Nat} {r : Int32} {σ' : xS} : ∀ (n : Nat) (l2 : Int32) (σ : xS), m_isWord_b26 ab nb N n l2 σ = some (r, σ') → fr [1, 3, 4] [] σ σ' := by
  intro n
  induction n with
  | zero =>
    intro l2 σ hf
    rw [m_isWord_b26] at hf
    cases hf
  | succ n ih =>
    intro l2 σ hf
    rw [m_isWord_b26] at hf
    refine fr_if hf (fun hf => ?_) (fun hf => ?_)
    · refine fr_if hf (fun hf => ?_) (fun hf => ?_)
      · exact f_m_isWord_b67 _ _ _ _ hf
      exact fr_some hf
    refine fr_ald hf (fun v9 hf => ?_)
    refine fr_cal hf (fun _ _ h => fr_mono (f_m_isLetter h) (fun _ h => by cases h) (fun _ h => by cases h)) (fun v10 σ11 hf => ?_)
    refine fr_if hf (fun hf => ?_) (fun hf => ?_)
    · refine fr_if hf (fun hf => ?_) (fun hf => ?_)
      · exact f_m_isWord_b67 _ _ _ _ hf
      exact fr_some hf
    refine fr_bnd hf (fun l2_12 hf => ?_)
    exact ih _ _  hf
theorem f_m_isWord {ab : Nat} {nb : Nat} {N : Nat} {r : Int32} {σ σ' : xS} (hf : m_isWord ab nb N σ = some (r, σ')) : fr [1, 3, 4] [] σ σ' := by
  unfold m_isWord at hf
  refine fr_cal hf (fun _ _ h => fr_mono (f_m_next h) (by decide) (fun _ h => by cases h)) (fun v1 σ2 hf => ?_)
  refine fr_if hf (fun hf => ?_) (fun hf => ?_)
  · exact fr_some hf
  refine fr_if hf (fun hf => ?_) (fun hf => ?_)
  · exact fr_some hf
  refine fr_bnd hf (fun l2_3 hf => ?_)
  exact f_m_isWord_b26 _ _ _ hf
theorem f_m_fail {N : Nat} {l1 : Int32} {l2 : Int32} {r : Int32} {σ σ' : xS} (hf : m_fail N l1 l2 σ = some (r, σ')) : fr [5, 6] [] σ σ' := by
  unfold m_fail at hf
  refine fr_if hf (fun hf => ?_) (fun hf => ?_)
  · refine fr_put hf (by decide) (fun σ1 hf => ?_)
    refine fr_put hf (by decide) (fun σ2 hf => ?_)
    exact fr_some hf
  exact fr_some hf
theorem f_m_cell {N : Nat} {l0 : Int32} {l1 : Int32} {l2 : Int32} {r : Int32} {σ σ' : xS} (hf : m_cell N l0 l1 l2 σ = some (r, σ')) : fr [] [] σ σ' := by
  unfold m_cell at hf
  exact fr_some hf
theorem f_m_turns_b68 {N : Nat} {K47 : Int32 → xS → Option (Int32 × xS)} {K57 : Int32 → Int32 → xS → Option (Int32 × xS)} {r : Int32} {σ' : xS} (hK47 : ∀ (a0 : Int32) (σ : xS), K47 a0 σ = some (r, σ') → fr [5, 6] [5, 6] σ σ') (hK57 : ∀ (a0 : Int32) (a1 : Int32) (σ : xS), K57 a0 a1 σ = some (r, σ') → fr [5, 6] [5, 6] σ σ') : ∀ (n : Nat) (l2 : Int32) (l3 : Int32) (l4 : Int32) (σ : xS), m_turns_b68 N K47 K57 n l2 l3 l4 σ = some (r, σ') → fr [5, 6] [5, 6] σ σ' := by
  intro n
  induction n with
  | zero =>
    intro l2 l3 l4 σ hf
    rw [m_turns_b68] at hf
    cases hf
  | succ n ih =>
    intro l2 l3 l4 σ hf
    rw [m_turns_b68] at hf
    refine fr_if hf (fun hf => ?_) (fun hf => ?_)
    · refine fr_bnd hf (fun l3_2 hf => ?_)
      exact hK57 _ _ _  hf
    refine fr_cal hf (fun _ _ h => fr_mono (f_m_cell h) (fun _ h => by cases h) (fun _ h => by cases h)) (fun v3 σ4 hf => ?_)
    refine fr_cal hf (fun _ _ h => fr_mono (f_m_cell h) (fun _ h => by cases h) (fun _ h => by cases h)) (fun v5 σ6 hf => ?_)
    refine fr_ald hf (fun v7 hf => ?_)
    refine fr_ast hf (by decide) (fun σ8 hf => ?_)
    refine fr_bnd hf (fun l4_9 hf => ?_)
    exact ih _ _ _ _  hf
theorem f_m_turns_b57 {N : Nat} {K47 : Int32 → xS → Option (Int32 × xS)} {r : Int32} {σ' : xS} (hK47 : ∀ (a0 : Int32) (σ : xS), K47 a0 σ = some (r, σ') → fr [5, 6] [5, 6] σ σ') : ∀ (n : Nat) (l2 : Int32) (l3 : Int32) (σ : xS), m_turns_b57 N K47 n l2 l3 σ = some (r, σ') → fr [5, 6] [5, 6] σ σ' := by
  intro n
  induction n with
  | zero =>
    intro l2 l3 σ hf
    rw [m_turns_b57] at hf
    cases hf
  | succ n ih =>
    intro l2 l3 σ hf
    rw [m_turns_b57] at hf
    refine fr_if hf (fun hf => ?_) (fun hf => ?_)
    · refine fr_bnd hf (fun l2_1 hf => ?_)
      exact hK47 _ _  hf
    exact f_m_turns_b68 hK47 ih _ _ _ _ _ hf
theorem f_m_turns_b47 {N : Nat} {r : Int32} {σ' : xS} : ∀ (n : Nat) (l2 : Int32) (σ : xS), m_turns_b47 N n l2 σ = some (r, σ') → fr [5, 6] [5, 6] σ σ' := by
  intro n
  induction n with
  | zero =>
    intro l2 σ hf
    rw [m_turns_b47] at hf
    cases hf
  | succ n ih =>
    intro l2 σ hf
    rw [m_turns_b47] at hf
    refine fr_if hf (fun hf => ?_) (fun hf => ?_)
    · exact fr_some hf
    exact f_m_turns_b57 ih _ _ _ _ hf
theorem f_m_turns_b20 {N : Nat} {r : Int32} {σ' : xS} : ∀ (n : Nat) (l2 : Int32) (σ : xS), m_turns_b20 N n l2 σ = some (r, σ') → fr [5, 6] [5, 6] σ σ' := by
  intro n
  induction n with
  | zero =>
    intro l2 σ hf
    rw [m_turns_b20] at hf
    cases hf
  | succ n ih =>
    intro l2 σ hf
    rw [m_turns_b20] at hf
    refine fr_if hf (fun hf => ?_) (fun hf => ?_)
    · exact f_m_turns_b47 _ _ _ hf
    refine fr_ald hf (fun v10 hf => ?_)
    refine fr_ast hf (by decide) (fun σ11 hf => ?_)
    refine fr_bnd hf (fun l2_12 hf => ?_)
    exact ih _ _  hf
theorem f_m_turns {N : Nat} {l1 : Int32} {r : Int32} {σ σ' : xS} (hf : m_turns N l1 σ = some (r, σ')) : fr [5, 6] [5, 6] σ σ' := by
  unfold m_turns at hf
  refine fr_if hf (fun hf => ?_) (fun hf => ?_)
  · exact f_m_turns_b20 _ _ _ hf
  refine fr_cal hf (fun _ _ h => fr_mono (f_m_fail h) (by decide) (fun _ h => by cases h)) (fun _ σ14 hf => ?_)
  exact fr_some hf
theorem f_m_mirrors_b211 {N : Nat} {K121 : Int32 → Int32 → xS → Option (Int32 × xS)} {K131 : Int32 → Int32 → Int32 → xS → Option (Int32 × xS)} {K142 : Int32 → Int32 → Int32 → Int32 → xS → Option (Int32 × xS)} {r : Int32} {σ' : xS} (hK121 : ∀ (a0 : Int32) (a1 : Int32) (σ : xS), K121 a0 a1 σ = some (r, σ') → fr [1, 3, 4, 5, 6] [5, 6] σ σ') (hK131 : ∀ (a0 : Int32) (a1 : Int32) (a2 : Int32) (σ : xS), K131 a0 a1 a2 σ = some (r, σ') → fr [1, 3, 4, 5, 6] [5, 6] σ σ') (hK142 : ∀ (a0 : Int32) (a1 : Int32) (a2 : Int32) (a3 : Int32) (σ : xS), K142 a0 a1 a2 a3 σ = some (r, σ') → fr [1, 3, 4, 5, 6] [5, 6] σ σ') : ∀ (l1 : Int32) (l2 : Int32) (l3 : Int32) (l4 : Int32) (s1 : Int32) (s2 : Int32) (σ : xS), m_mirrors_b211 N K121 K131 K142 l1 l2 l3 l4 s1 s2 σ = some (r, σ') → fr [1, 3, 4, 5, 6] [5, 6] σ σ' := by
  intro l1 l2 l3 l4 s1 s2 σ hf
  unfold m_mirrors_b211 at hf
  refine fr_if hf (fun hf => ?_) (fun hf => ?_)
  · refine fr_cal hf (fun _ _ h => fr_mono (f_m_cell h) (fun _ h => by cases h) (fun _ h => by cases h)) (fun v16 σ17 hf => ?_)
    refine fr_ast hf (by decide) (fun σ18 hf => ?_)
    refine fr_bnd hf (fun l4_19 hf => ?_)
    exact hK142 _ _ _ _ _  hf
  refine fr_cal hf (fun _ _ h => fr_mono (f_m_cell h) (fun _ h => by cases h) (fun _ h => by cases h)) (fun v12 σ13 hf => ?_)
  refine fr_ast hf (by decide) (fun σ14 hf => ?_)
  refine fr_bnd hf (fun l4_15 hf => ?_)
  exact hK142 _ _ _ _ _  hf
theorem f_m_mirrors_b193 {N : Nat} {K121 : Int32 → Int32 → xS → Option (Int32 × xS)} {K131 : Int32 → Int32 → Int32 → xS → Option (Int32 × xS)} {K142 : Int32 → Int32 → Int32 → Int32 → xS → Option (Int32 × xS)} {r : Int32} {σ' : xS} (hK121 : ∀ (a0 : Int32) (a1 : Int32) (σ : xS), K121 a0 a1 σ = some (r, σ') → fr [1, 3, 4, 5, 6] [5, 6] σ σ') (hK131 : ∀ (a0 : Int32) (a1 : Int32) (a2 : Int32) (σ : xS), K131 a0 a1 a2 σ = some (r, σ') → fr [1, 3, 4, 5, 6] [5, 6] σ σ') (hK142 : ∀ (a0 : Int32) (a1 : Int32) (a2 : Int32) (a3 : Int32) (σ : xS), K142 a0 a1 a2 a3 σ = some (r, σ') → fr [1, 3, 4, 5, 6] [5, 6] σ σ') : ∀ (l1 : Int32) (l2 : Int32) (l3 : Int32) (l4 : Int32) (s1 : Int32) (σ : xS), m_mirrors_b193 N K121 K131 K142 l1 l2 l3 l4 s1 σ = some (r, σ') → fr [1, 3, 4, 5, 6] [5, 6] σ σ' := by
  intro l1 l2 l3 l4 s1 σ hf
  unfold m_mirrors_b193 at hf
  refine fr_if hf (fun hf => ?_) (fun hf => ?_)
  · exact f_m_mirrors_b211 hK121 hK131 hK142 _ _ _ _ _ _ _ hf
  exact f_m_mirrors_b211 hK121 hK131 hK142 _ _ _ _ _ _ _ hf
theorem f_m_mirrors_b142 {N : Nat} {K121 : Int32 → Int32 → xS → Option (Int32 × xS)} {K131 : Int32 → Int32 → Int32 → xS → Option (Int32 × xS)} {r : Int32} {σ' : xS} (hK121 : ∀ (a0 : Int32) (a1 : Int32) (σ : xS), K121 a0 a1 σ = some (r, σ') → fr [1, 3, 4, 5, 6] [5, 6] σ σ') (hK131 : ∀ (a0 : Int32) (a1 : Int32) (a2 : Int32) (σ : xS), K131 a0 a1 a2 σ = some (r, σ') → fr [1, 3, 4, 5, 6] [5, 6] σ σ') : ∀ (n : Nat) (l1 : Int32) (l2 : Int32) (l3 : Int32) (l4 : Int32) (σ : xS), m_mirrors_b142 N K121 K131 n l1 l2 l3 l4 σ = some (r, σ') → fr [1, 3, 4, 5, 6] [5, 6] σ σ' := by
  intro n
  induction n with
  | zero =>
    intro l1 l2 l3 l4 σ hf
    rw [m_mirrors_b142] at hf
    cases hf
  | succ n ih =>
    intro l1 l2 l3 l4 σ hf
    rw [m_mirrors_b142] at hf
    refine fr_if hf (fun hf => ?_) (fun hf => ?_)
    · refine fr_bnd hf (fun l3_8 hf => ?_)
      exact hK131 _ _ _ _  hf
    refine fr_cal hf (fun _ _ h => fr_mono (f_m_cell h) (fun _ h => by cases h) (fun _ h => by cases h)) (fun v9 σ10 hf => ?_)
    refine fr_ald hf (fun v11 hf => ?_)
    refine fr_if hf (fun hf => ?_) (fun hf => ?_)
    · refine fr_bnd hf (fun l4_20 hf => ?_)
      exact ih _ _ _ _ _  hf
    refine fr_if hf (fun hf => ?_) (fun hf => ?_)
    · exact f_m_mirrors_b193 hK121 hK131 ih _ _ _ _ _ _ hf
    exact f_m_mirrors_b193 hK121 hK131 ih _ _ _ _ _ _ hf
theorem f_m_mirrors_b131 {N : Nat} {K121 : Int32 → Int32 → xS → Option (Int32 × xS)} {r : Int32} {σ' : xS} (hK121 : ∀ (a0 : Int32) (a1 : Int32) (σ : xS), K121 a0 a1 σ = some (r, σ') → fr [1, 3, 4, 5, 6] [5, 6] σ σ') : ∀ (n : Nat) (l1 : Int32) (l2 : Int32) (l3 : Int32) (σ : xS), m_mirrors_b131 N K121 n l1 l2 l3 σ = some (r, σ') → fr [1, 3, 4, 5, 6] [5, 6] σ σ' := by
  intro n
  induction n with
  | zero =>
    intro l1 l2 l3 σ hf
    rw [m_mirrors_b131] at hf
    cases hf
  | succ n ih =>
    intro l1 l2 l3 σ hf
    rw [m_mirrors_b131] at hf
    refine fr_if hf (fun hf => ?_) (fun hf => ?_)
    · refine fr_bnd hf (fun l2_7 hf => ?_)
      exact hK121 _ _ _  hf
    exact f_m_mirrors_b142 hK121 ih _ _ _ _ _ _ hf
theorem f_m_mirrors_b121 {N : Nat} {r : Int32} {σ' : xS} : ∀ (n : Nat) (l1 : Int32) (l2 : Int32) (σ : xS), m_mirrors_b121 N n l1 l2 σ = some (r, σ') → fr [1, 3, 4, 5, 6] [5, 6] σ σ' := by
  intro n
  induction n with
  | zero =>
    intro l1 l2 σ hf
    rw [m_mirrors_b121] at hf
    cases hf
  | succ n ih =>
    intro l1 l2 σ hf
    rw [m_mirrors_b121] at hf
    refine fr_if hf (fun hf => ?_) (fun hf => ?_)
    · exact fr_some hf
    exact f_m_mirrors_b131 ih _ _ _ _ _ hf
theorem f_m_mirrors_b94 {N : Nat} {r : Int32} {σ' : xS} : ∀ (n : Nat) (l1 : Int32) (l2 : Int32) (σ : xS), m_mirrors_b94 N n l1 l2 σ = some (r, σ') → fr [1, 3, 4, 5, 6] [5, 6] σ σ' := by
  intro n
  induction n with
  | zero =>
    intro l1 l2 σ hf
    rw [m_mirrors_b94] at hf
    cases hf
  | succ n ih =>
    intro l1 l2 σ hf
    rw [m_mirrors_b94] at hf
    refine fr_if hf (fun hf => ?_) (fun hf => ?_)
    · exact f_m_mirrors_b121 _ _ _ _ hf
    refine fr_ald hf (fun v21 hf => ?_)
    refine fr_ast hf (by decide) (fun σ22 hf => ?_)
    refine fr_bnd hf (fun l2_23 hf => ?_)
    exact ih _ _ _  hf
theorem f_m_mirrors_b74 {N : Nat} {r : Int32} {σ' : xS} : ∀ (l1 : Int32) (σ : xS), m_mirrors_b74 N l1 σ = some (r, σ') → fr [1, 3, 4, 5, 6] [5, 6] σ σ' := by
  intro l1 σ hf
  unfold m_mirrors_b74 at hf
  refine fr_put hf (by decide) (fun σ5 hf => ?_)
  refine fr_put hf (by decide) (fun σ6 hf => ?_)
  exact f_m_mirrors_b94 _ _ _ _ hf
theorem f_m_mirrors_b23 {N : Nat} {r : Int32} {σ' : xS} : ∀ (l1 : Int32) (σ : xS), m_mirrors_b23 N l1 σ = some (r, σ') → fr [1, 3, 4, 5, 6] [5, 6] σ σ' := by
  intro l1 σ hf
  unfold m_mirrors_b23 at hf
  refine fr_if hf (fun hf => ?_) (fun hf => ?_)
  · refine fr_cal hf (fun _ _ h => fr_mono (f_m_fail h) (by decide) (fun _ h => by cases h)) (fun _ σ4 hf => ?_)
    exact fr_some hf
  refine fr_if hf (fun hf => ?_) (fun hf => ?_)
  · exact f_m_mirrors_b74 _ _ hf
  refine fr_ald hf (fun v24 hf => ?_)
  refine fr_cal hf (fun _ _ h => fr_mono (f_m_isLetter h) (fun _ h => by cases h) (fun _ h => by cases h)) (fun v25 σ26 hf => ?_)
  refine fr_if hf (fun hf => ?_) (fun hf => ?_)
  · exact f_m_mirrors_b74 _ _ hf
  refine fr_cal hf (fun _ _ h => fr_mono (f_m_fail h) (by decide) (fun _ h => by cases h)) (fun _ σ28 hf => ?_)
  exact fr_some hf
theorem f_m_mirrors {N : Nat} {r : Int32} {σ σ' : xS} (hf : m_mirrors N σ = some (r, σ')) : fr [1, 3, 4, 5, 6] [5, 6] σ σ' := by
  unfold m_mirrors at hf
  refine fr_cal hf (fun _ _ h => fr_mono (f_m_next h) (by decide) (fun _ h => by cases h)) (fun v1 σ2 hf => ?_)
  refine fr_if hf (fun hf => ?_) (fun hf => ?_)
  · exact f_m_mirrors_b23 _ _ hf
  refine fr_if hf (fun hf => ?_) (fun hf => ?_)
  · exact f_m_mirrors_b23 _ _ hf
  refine fr_if hf (fun hf => ?_) (fun hf => ?_)
  · exact f_m_mirrors_b23 _ _ hf
  refine fr_cal hf (fun _ _ h => fr_mono (f_m_fail h) (by decide) (fun _ h => by cases h)) (fun _ σ30 hf => ?_)
  exact fr_some hf
theorem f_m_isDigit {N : Nat} {l0 : Int32} {r : Int32} {σ σ' : xS} (hf : m_isDigit N l0 σ = some (r, σ')) : fr [] [] σ σ' := by
  unfold m_isDigit at hf
  refine fr_if hf (fun hf => ?_) (fun hf => ?_)
  · exact fr_some hf
  refine fr_if hf (fun hf => ?_) (fun hf => ?_)
  · exact fr_some hf
  exact fr_some hf
theorem f_m_number_b59 {N : Nat} {r : Int32} {σ' : xS} : ∀ (l2 : Int32) (σ : xS), m_number_b59 N l2 σ = some (r, σ') → fr [1, 3, 4, 5, 6] [] σ σ' := by
  intro l2 σ hf
  unfold m_number_b59 at hf
  refine fr_put hf (by decide) (fun σ9 hf => ?_)
  refine fr_if hf (fun hf => ?_) (fun hf => ?_)
  · refine fr_put hf (by decide) (fun σ10 hf => ?_)
    exact fr_some hf
  refine fr_ald hf (fun v11 hf => ?_)
  refine fr_cal hf (fun _ _ h => fr_mono (f_m_isDigit h) (fun _ h => by cases h) (fun _ h => by cases h)) (fun v12 σ13 hf => ?_)
  refine fr_if hf (fun hf => ?_) (fun hf => ?_)
  · refine fr_put hf (by decide) (fun σ14 hf => ?_)
    exact fr_some hf
  refine fr_cal hf (fun _ _ h => fr_mono (f_m_fail h) (by decide) (fun _ h => by cases h)) (fun _ σ16 hf => ?_)
  refine fr_put hf (by decide) (fun σ17 hf => ?_)
  exact fr_some hf
theorem f_m_number {N : Nat} {l1 : Int32} {r : Int32} {σ σ' : xS} (hf : m_number N l1 σ = some (r, σ')) : fr [1, 3, 4, 5, 6] [] σ σ' := by
  unfold m_number at hf
  refine fr_cal hf (fun _ _ h => fr_mono (f_m_next h) (by decide) (fun _ h => by cases h)) (fun v1 σ2 hf => ?_)
  refine fr_cal hf (fun _ _ h => fr_mono (f_m_isDigit h) (fun _ h => by cases h) (fun _ h => by cases h)) (fun v3 σ4 hf => ?_)
  refine fr_if hf (fun hf => ?_) (fun hf => ?_)
  · refine fr_cal hf (fun _ _ h => fr_mono (f_m_fail h) (by decide) (fun _ h => by cases h)) (fun _ σ6 hf => ?_)
    exact fr_some hf
  refine fr_if hf (fun hf => ?_) (fun hf => ?_)
  · refine fr_cal hf (fun _ _ h => fr_mono (f_m_fail h) (by decide) (fun _ h => by cases h)) (fun _ σ21 hf => ?_)
    exact fr_some hf
  refine fr_ald hf (fun v7 hf => ?_)
  refine fr_bnd hf (fun l2_8 hf => ?_)
  refine fr_if hf (fun hf => ?_) (fun hf => ?_)
  · exact f_m_number_b59 _ _ hf
  refine fr_cal hf (fun _ _ h => fr_mono (f_m_fail h) (by decide) (fun _ h => by cases h)) (fun _ σ19 hf => ?_)
  exact f_m_number_b59 _ _ hf
theorem f_m_boxes_b121 {N : Nat} {K56 : Int32 → Int32 → xS → Option (Int32 × xS)} {K88 : Int32 → Int32 → Int32 → xS → Option (Int32 × xS)} {r : Int32} {σ' : xS} (hK56 : ∀ (a0 : Int32) (a1 : Int32) (σ : xS), K56 a0 a1 σ = some (r, σ') → fr [1, 3, 4, 5, 6] [5, 7] σ σ') (hK88 : ∀ (a0 : Int32) (a1 : Int32) (a2 : Int32) (σ : xS), K88 a0 a1 a2 σ = some (r, σ') → fr [1, 3, 4, 5, 6] [5, 7] σ σ') : ∀ (n : Nat) (l1 : Int32) (l2 : Int32) (l3 : Int32) (l4 : Int32) (σ : xS), m_boxes_b121 N K56 K88 n l1 l2 l3 l4 σ = some (r, σ') → fr [1, 3, 4, 5, 6] [5, 7] σ σ' := by
  intro n
  induction n with
  | zero =>
    intro l1 l2 l3 l4 σ hf
    rw [m_boxes_b121] at hf
    cases hf
  | succ n ih =>
    intro l1 l2 l3 l4 σ hf
    rw [m_boxes_b121] at hf
    refine fr_ald hf (fun v10 hf => ?_)
    refine fr_ald hf (fun v11 hf => ?_)
    refine fr_if hf (fun hf => ?_) (fun hf => ?_)
    · refine fr_bnd hf (fun l3_12 hf => ?_)
      exact hK88 _ _ _ _  hf
    refine fr_if hf (fun hf => ?_) (fun hf => ?_)
    · refine fr_bnd hf (fun l3_13 hf => ?_)
      exact hK88 _ _ _ _  hf
    refine fr_cal hf (fun _ _ h => fr_mono (f_m_cell h) (fun _ h => by cases h) (fun _ h => by cases h)) (fun v14 σ15 hf => ?_)
    refine fr_ast hf (by decide) (fun σ16 hf => ?_)
    refine fr_bnd hf (fun l4_17 hf => ?_)
    exact ih _ _ _ _ _  hf
theorem f_m_boxes_b88 {N : Nat} {K56 : Int32 → Int32 → xS → Option (Int32 × xS)} {r : Int32} {σ' : xS} (hK56 : ∀ (a0 : Int32) (a1 : Int32) (σ : xS), K56 a0 a1 σ = some (r, σ') → fr [1, 3, 4, 5, 6] [5, 7] σ σ') : ∀ (n : Nat) (l1 : Int32) (l2 : Int32) (l3 : Int32) (σ : xS), m_boxes_b88 N K56 n l1 l2 l3 σ = some (r, σ') → fr [1, 3, 4, 5, 6] [5, 7] σ σ' := by
  intro n
  induction n with
  | zero =>
    intro l1 l2 l3 σ hf
    rw [m_boxes_b88] at hf
    cases hf
  | succ n ih =>
    intro l1 l2 l3 σ hf
    rw [m_boxes_b88] at hf
    refine fr_ald hf (fun v5 hf => ?_)
    refine fr_ald hf (fun v6 hf => ?_)
    refine fr_if hf (fun hf => ?_) (fun hf => ?_)
    · refine fr_bnd hf (fun l2_7 hf => ?_)
      exact hK56 _ _ _  hf
    refine fr_if hf (fun hf => ?_) (fun hf => ?_)
    · refine fr_bnd hf (fun l2_8 hf => ?_)
      exact hK56 _ _ _  hf
    refine fr_ald hf (fun v9 hf => ?_)
    exact f_m_boxes_b121 hK56 ih _ _ _ _ _ _ hf
theorem f_m_boxes_b56 {N : Nat} {r : Int32} {σ' : xS} : ∀ (n : Nat) (l1 : Int32) (l2 : Int32) (σ : xS), m_boxes_b56 N n l1 l2 σ = some (r, σ') → fr [1, 3, 4, 5, 6] [5, 7] σ σ' := by
  intro n
  induction n with
  | zero =>
    intro l1 l2 σ hf
    rw [m_boxes_b56] at hf
    cases hf
  | succ n ih =>
    intro l1 l2 σ hf
    rw [m_boxes_b56] at hf
    refine fr_ald hf (fun v2 hf => ?_)
    refine fr_ald hf (fun v3 hf => ?_)
    refine fr_if hf (fun hf => ?_) (fun hf => ?_)
    · exact fr_some hf
    refine fr_if hf (fun hf => ?_) (fun hf => ?_)
    · exact fr_some hf
    refine fr_ald hf (fun v4 hf => ?_)
    exact f_m_boxes_b88 ih _ _ _ _ _ hf
theorem f_m_boxes_b2 {N : Nat} {r : Int32} {σ' : xS} : ∀ (n : Nat) (l1 : Int32) (l2 : Int32) (σ : xS), m_boxes_b2 N n l1 l2 σ = some (r, σ') → fr [1, 3, 4, 5, 6] [5, 7] σ σ' := by
  intro n
  induction n with
  | zero =>
    intro l1 l2 σ hf
    rw [m_boxes_b2] at hf
    cases hf
  | succ n ih =>
    intro l1 l2 σ hf
    rw [m_boxes_b2] at hf
    refine fr_if hf (fun hf => ?_) (fun hf => ?_)
    · refine fr_if hf (fun hf => ?_) (fun hf => ?_)
      · refine fr_ald hf (fun v1 hf => ?_)
        exact f_m_boxes_b56 _ _ _ _ hf
      exact fr_some hf
    refine fr_if hf (fun hf => ?_) (fun hf => ?_)
    · refine fr_if hf (fun hf => ?_) (fun hf => ?_)
      · refine fr_cal hf (fun _ _ h => fr_mono (f_m_number h) (by decide) (fun _ h => by cases h)) (fun v19 σ20 hf => ?_)
        refine fr_ast hf (by decide) (fun σ21 hf => ?_)
        refine fr_bnd hf (fun l2_22 hf => ?_)
        exact ih _ _ _  hf
      refine fr_cal hf (fun _ _ h => fr_mono (f_m_number h) (by decide) (fun _ h => by cases h)) (fun v23 σ24 hf => ?_)
      refine fr_ast hf (by decide) (fun σ25 hf => ?_)
      refine fr_bnd hf (fun l2_26 hf => ?_)
      exact ih _ _ _  hf
    refine fr_if hf (fun hf => ?_) (fun hf => ?_)
    · refine fr_ald hf (fun v18 hf => ?_)
      exact f_m_boxes_b56 _ _ _ _ hf
    exact fr_some hf
theorem f_m_boxes {N : Nat} {l1 : Int32} {r : Int32} {σ σ' : xS} (hf : m_boxes N l1 σ = some (r, σ')) : fr [1, 3, 4, 5, 6] [5, 7] σ σ' := by
  unfold m_boxes at hf
  exact f_m_boxes_b2 _ _ _ _ hf
theorem f_m_reads_b104 {N : Nat} {K0 : xS → Option (Int32 × xS)} {r : Int32} {σ' : xS} (hK0 : ∀ (σ : xS), K0 σ = some (r, σ') → fr [1, 3, 4, 5, 6] [5, 6, 7] σ σ') : ∀ (σ : xS), m_reads_b104 N K0 σ = some (r, σ') → fr [1, 3, 4, 5, 6] [5, 6, 7] σ σ' := by
  intro σ hf
  unfold m_reads_b104 at hf
  refine fr_if hf (fun hf => ?_) (fun hf => ?_)
  · refine fr_cal hf (fun _ _ h => fr_mono (f_m_next h) (by decide) (fun _ h => by cases h)) (fun v15 σ16 hf => ?_)
    refine fr_if hf (fun hf => ?_) (fun hf => ?_)
    · refine fr_put hf (by decide) (fun σ17 hf => ?_)
      exact hK0 _  hf
    refine fr_cal hf (fun _ _ h => fr_mono (f_m_fail h) (by decide) (fun _ h => by cases h)) (fun _ σ19 hf => ?_)
    refine fr_put hf (by decide) (fun σ20 hf => ?_)
    exact hK0 _  hf
  refine fr_put hf (by decide) (fun σ14 hf => ?_)
  exact hK0 _  hf
theorem f_m_reads_b0 {N : Nat} {r : Int32} {σ' : xS} : ∀ (n : Nat) (σ : xS), m_reads_b0 N n σ = some (r, σ') → fr [1, 3, 4, 5, 6] [5, 6, 7] σ σ' := by
  intro n
  induction n with
  | zero =>
    intro σ hf
    rw [m_reads_b0] at hf
    cases hf
  | succ n ih =>
    intro σ hf
    rw [m_reads_b0] at hf
    refine fr_if hf (fun hf => ?_) (fun hf => ?_)
    · refine fr_cal hf (fun _ _ h => fr_mono (f_m_next h) (by decide) (fun _ h => by cases h)) (fun v1 σ2 hf => ?_)
      refine fr_if hf (fun hf => ?_) (fun hf => ?_)
      · exact fr_some hf
      refine fr_bnd hf (fun l1_3 hf => ?_)
      refine fr_cal hf (fun _ _ h => fr_mono (f_m_isWord h) (by decide) (fun _ h => by cases h)) (fun v4 σ5 hf => ?_)
      refine fr_if hf (fun hf => ?_) (fun hf => ?_)
      · refine fr_cal hf (fun _ _ h => fr_mono (f_m_isWord h) (by decide) (fun _ h => by cases h)) (fun v6 σ7 hf => ?_)
        refine fr_if hf (fun hf => ?_) (fun hf => ?_)
        · refine fr_cal hf (fun _ _ h => fr_mono (f_m_isWord h) (by decide) (fun _ h => by cases h)) (fun v8 σ9 hf => ?_)
          refine fr_if hf (fun hf => ?_) (fun hf => ?_)
          · refine fr_cal hf (fun _ _ h => fr_mono (f_m_isWord h) (by decide) (fun _ h => by cases h)) (fun v10 σ11 hf => ?_)
            refine fr_if hf (fun hf => ?_) (fun hf => ?_)
            · refine fr_cal hf (fun _ _ h => fr_mono (f_m_fail h) (by decide) (fun _ h => by cases h)) (fun _ σ13 hf => ?_)
              exact f_m_reads_b104 ih _ hf
            refine fr_cal hf (fun _ _ h => fr_mono (f_m_turns h) (by decide) (by decide)) (fun _ σ22 hf => ?_)
            exact f_m_reads_b104 ih _ hf
          refine fr_cal hf (fun _ _ h => fr_mono (f_m_mirrors h) (by decide) (by decide)) (fun _ σ24 hf => ?_)
          exact f_m_reads_b104 ih _ hf
        refine fr_cal hf (fun _ _ h => fr_mono (f_m_boxes h) (by decide) (by decide)) (fun _ σ26 hf => ?_)
        exact f_m_reads_b104 ih _ hf
      refine fr_cal hf (fun _ _ h => fr_mono (f_m_boxes h) (by decide) (by decide)) (fun _ σ28 hf => ?_)
      exact f_m_reads_b104 ih _ hf
    exact fr_some hf
theorem f_m_reads {N : Nat} {r : Int32} {σ σ' : xS} (hf : m_reads N σ = some (r, σ')) : fr [1, 3, 4, 5, 6] [5, 6, 7] σ σ' := by
  unfold m_reads at hf
  exact f_m_reads_b0 _ _ hf
theorem f_m_place {N : Nat} {l0 : Int32} {l1 : Int32} {l2 : Int32} {r : Int32} {σ σ' : xS} (hf : m_place N l0 l1 l2 σ = some (r, σ')) : fr [] [] σ σ' := by
  unfold m_place at hf
  exact fr_some hf
theorem f_m_isMould {N : Nat} {l1 : Int32} {l2 : Int32} {l3 : Int32} {r : Int32} {σ σ' : xS} (hf : m_isMould N l1 l2 l3 σ = some (r, σ')) : fr [] [] σ σ' := by
  unfold m_isMould at hf
  refine fr_if hf (fun hf => ?_) (fun hf => ?_)
  · exact fr_some hf
  refine fr_if hf (fun hf => ?_) (fun hf => ?_)
  · exact fr_some hf
  refine fr_if hf (fun hf => ?_) (fun hf => ?_)
  · exact fr_some hf
  refine fr_if hf (fun hf => ?_) (fun hf => ?_)
  · exact fr_some hf
  refine fr_if hf (fun hf => ?_) (fun hf => ?_)
  · exact fr_some hf
  refine fr_if hf (fun hf => ?_) (fun hf => ?_)
  · exact fr_some hf
  refine fr_if hf (fun hf => ?_) (fun hf => ?_)
  · exact fr_some hf
  exact fr_some hf
theorem f_m_stepX {N : Nat} {l0 : Int32} {r : Int32} {σ σ' : xS} (hf : m_stepX N l0 σ = some (r, σ')) : fr [] [] σ σ' := by
  unfold m_stepX at hf
  refine fr_if hf (fun hf => ?_) (fun hf => ?_)
  · exact fr_some hf
  refine fr_if hf (fun hf => ?_) (fun hf => ?_)
  · exact fr_some hf
  exact fr_some hf
theorem f_m_stepY {N : Nat} {l0 : Int32} {r : Int32} {σ σ' : xS} (hf : m_stepY N l0 σ = some (r, σ')) : fr [] [] σ σ' := by
  unfold m_stepY at hf
  refine fr_if hf (fun hf => ?_) (fun hf => ?_)
  · exact fr_some hf
  refine fr_if hf (fun hf => ?_) (fun hf => ?_)
  · exact fr_some hf
  exact fr_some hf
theorem f_m_stepZ {N : Nat} {l0 : Int32} {r : Int32} {σ σ' : xS} (hf : m_stepZ N l0 σ = some (r, σ')) : fr [] [] σ σ' := by
  unfold m_stepZ at hf
  refine fr_if hf (fun hf => ?_) (fun hf => ?_)
  · exact fr_some hf
  refine fr_if hf (fun hf => ?_) (fun hf => ?_)
  · exact fr_some hf
  exact fr_some hf
theorem f_m_waysOf_b65 {N : Nat} {K6 : Int32 → Int32 → Int32 → Int32 → Int32 → xS → Option (Int32 × xS)} {K25 : Int32 → Int32 → Int32 → Int32 → Int32 → Int32 → Int32 → Int32 → Int32 → xS → Option (Int32 × xS)} {r : Int32} {σ' : xS} (hK6 : ∀ (a0 : Int32) (a1 : Int32) (a2 : Int32) (a3 : Int32) (a4 : Int32) (σ : xS), K6 a0 a1 a2 a3 a4 σ = some (r, σ') → fr [] [] σ σ') (hK25 : ∀ (a0 : Int32) (a1 : Int32) (a2 : Int32) (a3 : Int32) (a4 : Int32) (a5 : Int32) (a6 : Int32) (a7 : Int32) (a8 : Int32) (σ : xS), K25 a0 a1 a2 a3 a4 a5 a6 a7 a8 σ = some (r, σ') → fr [] [] σ σ') : ∀ (l1 : Int32) (l2 : Int32) (l3 : Int32) (l4 : Int32) (l5 : Int32) (l7 : Int32) (l8 : Int32) (l9 : Int32) (s0 : Int32) (σ : xS), m_waysOf_b65 N K6 K25 l1 l2 l3 l4 l5 l7 l8 l9 s0 σ = some (r, σ') → fr [] [] σ σ' := by
  intro l1 l2 l3 l4 l5 l7 l8 l9 s0 σ hf
  unfold m_waysOf_b65 at hf
  refine fr_cal hf (fun _ _ h => fr_mono (f_m_stepX h) (fun _ h => by cases h) (fun _ h => by cases h)) (fun v6 σ7 hf => ?_)
  refine fr_bnd hf (fun l7_8 hf => ?_)
  refine fr_cal hf (fun _ _ h => fr_mono (f_m_stepY h) (fun _ h => by cases h) (fun _ h => by cases h)) (fun v9 σ10 hf => ?_)
  refine fr_bnd hf (fun l8_11 hf => ?_)
  refine fr_cal hf (fun _ _ h => fr_mono (f_m_stepZ h) (fun _ h => by cases h) (fun _ h => by cases h)) (fun v12 σ13 hf => ?_)
  refine fr_bnd hf (fun l9_14 hf => ?_)
  exact hK25 _ _ _ _ _ _ _ _ _ _  hf
theorem f_m_waysOf_b25 {N : Nat} {K6 : Int32 → Int32 → Int32 → Int32 → Int32 → xS → Option (Int32 × xS)} {r : Int32} {σ' : xS} (hK6 : ∀ (a0 : Int32) (a1 : Int32) (a2 : Int32) (a3 : Int32) (a4 : Int32) (σ : xS), K6 a0 a1 a2 a3 a4 σ = some (r, σ') → fr [] [] σ σ') : ∀ (n : Nat) (l1 : Int32) (l2 : Int32) (l3 : Int32) (l4 : Int32) (l5 : Int32) (l6 : Int32) (l7 : Int32) (l8 : Int32) (l9 : Int32) (σ : xS), m_waysOf_b25 N K6 n l1 l2 l3 l4 l5 l6 l7 l8 l9 σ = some (r, σ') → fr [] [] σ σ' := by
  intro n
  induction n with
  | zero =>
    intro l1 l2 l3 l4 l5 l6 l7 l8 l9 σ hf
    rw [m_waysOf_b25] at hf
    cases hf
  | succ n ih =>
    intro l1 l2 l3 l4 l5 l6 l7 l8 l9 σ hf
    rw [m_waysOf_b25] at hf
    refine fr_cal hf (fun _ _ h => fr_mono (f_m_isMould h) (fun _ h => by cases h) (fun _ h => by cases h)) (fun v1 σ2 hf => ?_)
    refine fr_if hf (fun hf => ?_) (fun hf => ?_)
    · refine fr_if hf (fun hf => ?_) (fun hf => ?_)
      · refine fr_bnd hf (fun l5_3 hf => ?_)
        exact hK6 _ _ _ _ _ _  hf
      refine fr_bnd hf (fun l4_4 hf => ?_)
      refine fr_bnd hf (fun l5_5 hf => ?_)
      exact hK6 _ _ _ _ _ _  hf
    refine fr_if hf (fun hf => ?_) (fun hf => ?_)
    · exact f_m_waysOf_b65 hK6 ih _ _ _ _ _ _ _ _ _ _ hf
    refine fr_cal hf (fun _ _ h => fr_mono (f_m_place h) (fun _ h => by cases h) (fun _ h => by cases h)) (fun v15 σ16 hf => ?_)
    refine fr_ald hf (fun v17 hf => ?_)
    refine fr_if hf (fun hf => ?_) (fun hf => ?_)
    · exact f_m_waysOf_b65 hK6 ih _ _ _ _ _ _ _ _ _ _ hf
    exact f_m_waysOf_b65 hK6 ih _ _ _ _ _ _ _ _ _ _ hf
theorem f_m_waysOf_b6 {N : Nat} {r : Int32} {σ' : xS} : ∀ (n : Nat) (l1 : Int32) (l2 : Int32) (l3 : Int32) (l4 : Int32) (l5 : Int32) (σ : xS), m_waysOf_b6 N n l1 l2 l3 l4 l5 σ = some (r, σ') → fr [] [] σ σ' := by
  intro n
  induction n with
  | zero =>
    intro l1 l2 l3 l4 l5 σ hf
    rw [m_waysOf_b6] at hf
    cases hf
  | succ n ih =>
    intro l1 l2 l3 l4 l5 σ hf
    rw [m_waysOf_b6] at hf
    refine fr_if hf (fun hf => ?_) (fun hf => ?_)
    · exact fr_some hf
    exact f_m_waysOf_b25 ih _ _ _ _ _ _ _ _ _ _ _ hf
theorem f_m_waysOf {N : Nat} {l1 : Int32} {l2 : Int32} {l3 : Int32} {r : Int32} {σ σ' : xS} (hf : m_waysOf N l1 l2 l3 σ = some (r, σ')) : fr [] [] σ σ' := by
  unfold m_waysOf at hf
  exact f_m_waysOf_b6 _ _ _ _ _ _ _ hf
theorem f_m_form_b302 {N : Nat} {K284 : Int32 → Int32 → Int32 → Int32 → Int32 → xS → Option (Int32 × xS)} {K293 : Int32 → Int32 → Int32 → Int32 → Int32 → Int32 → xS → Option (Int32 × xS)} {r : Int32} {σ' : xS} (hK284 : ∀ (a0 : Int32) (a1 : Int32) (a2 : Int32) (a3 : Int32) (a4 : Int32) (σ : xS), K284 a0 a1 a2 a3 a4 σ = some (r, σ') → fr [0, 1, 2, 3, 4, 5, 6, 7, 8, 9, 10, 11, 12, 13, 14, 15, 16] [5, 6, 7, 8, 9] σ σ') (hK293 : ∀ (a0 : Int32) (a1 : Int32) (a2 : Int32) (a3 : Int32) (a4 : Int32) (a5 : Int32) (σ : xS), K293 a0 a1 a2 a3 a4 a5 σ = some (r, σ') → fr [0, 1, 2, 3, 4, 5, 6, 7, 8, 9, 10, 11, 12, 13, 14, 15, 16] [5, 6, 7, 8, 9] σ σ') : ∀ (n : Nat) (l1 : Int32) (l2 : Int32) (l3 : Int32) (l4 : Int32) (l5 : Int32) (l6 : Int32) (l7 : Int32) (σ : xS), m_form_b302 N K284 K293 n l1 l2 l3 l4 l5 l6 l7 σ = some (r, σ') → fr [0, 1, 2, 3, 4, 5, 6, 7, 8, 9, 10, 11, 12, 13, 14, 15, 16] [5, 6, 7, 8, 9] σ σ' := by
  intro n
  induction n with
  | zero =>
    intro l1 l2 l3 l4 l5 l6 l7 σ hf
    rw [m_form_b302] at hf
    cases hf
  | succ n ih =>
    intro l1 l2 l3 l4 l5 l6 l7 σ hf
    rw [m_form_b302] at hf
    refine fr_if hf (fun hf => ?_) (fun hf => ?_)
    · refine fr_bnd hf (fun l6_26 hf => ?_)
      exact hK293 _ _ _ _ _ _ _  hf
    refine fr_cal hf (fun _ _ h => fr_mono (f_m_place h) (fun _ h => by cases h) (fun _ h => by cases h)) (fun v27 σ28 hf => ?_)
    refine fr_cal hf (fun _ _ h => fr_mono (f_m_place h) (fun _ h => by cases h) (fun _ h => by cases h)) (fun v29 σ30 hf => ?_)
    refine fr_ald hf (fun v31 hf => ?_)
    refine fr_if hf (fun hf => ?_) (fun hf => ?_)
    · refine fr_cal hf (fun _ _ h => fr_mono (f_m_waysOf h) (fun _ h => by cases h) (fun _ h => by cases h)) (fun v32 σ33 hf => ?_)
      refine fr_ast hf (by decide) (fun σ34 hf => ?_)
      refine fr_bnd hf (fun l7_35 hf => ?_)
      exact ih _ _ _ _ _ _ _ _  hf
    refine fr_ast hf (by decide) (fun σ36 hf => ?_)
    refine fr_bnd hf (fun l7_37 hf => ?_)
    exact ih _ _ _ _ _ _ _ _  hf
theorem f_m_form_b293 {N : Nat} {K284 : Int32 → Int32 → Int32 → Int32 → Int32 → xS → Option (Int32 × xS)} {r : Int32} {σ' : xS} (hK284 : ∀ (a0 : Int32) (a1 : Int32) (a2 : Int32) (a3 : Int32) (a4 : Int32) (σ : xS), K284 a0 a1 a2 a3 a4 σ = some (r, σ') → fr [0, 1, 2, 3, 4, 5, 6, 7, 8, 9, 10, 11, 12, 13, 14, 15, 16] [5, 6, 7, 8, 9] σ σ') : ∀ (n : Nat) (l1 : Int32) (l2 : Int32) (l3 : Int32) (l4 : Int32) (l5 : Int32) (l6 : Int32) (σ : xS), m_form_b293 N K284 n l1 l2 l3 l4 l5 l6 σ = some (r, σ') → fr [0, 1, 2, 3, 4, 5, 6, 7, 8, 9, 10, 11, 12, 13, 14, 15, 16] [5, 6, 7, 8, 9] σ σ' := by
  intro n
  induction n with
  | zero =>
    intro l1 l2 l3 l4 l5 l6 σ hf
    rw [m_form_b293] at hf
    cases hf
  | succ n ih =>
    intro l1 l2 l3 l4 l5 l6 σ hf
    rw [m_form_b293] at hf
    refine fr_if hf (fun hf => ?_) (fun hf => ?_)
    · refine fr_bnd hf (fun l5_25 hf => ?_)
      exact hK284 _ _ _ _ _ _  hf
    exact f_m_form_b302 hK284 ih _ _ _ _ _ _ _ _ _ hf
theorem f_m_form_b284 {N : Nat} {r : Int32} {σ' : xS} : ∀ (n : Nat) (l1 : Int32) (l2 : Int32) (l3 : Int32) (l4 : Int32) (l5 : Int32) (σ : xS), m_form_b284 N n l1 l2 l3 l4 l5 σ = some (r, σ') → fr [0, 1, 2, 3, 4, 5, 6, 7, 8, 9, 10, 11, 12, 13, 14, 15, 16] [5, 6, 7, 8, 9] σ σ' := by
  intro n
  induction n with
  | zero =>
    intro l1 l2 l3 l4 l5 σ hf
    rw [m_form_b284] at hf
    cases hf
  | succ n ih =>
    intro l1 l2 l3 l4 l5 σ hf
    rw [m_form_b284] at hf
    refine fr_if hf (fun hf => ?_) (fun hf => ?_)
    · exact fr_some hf
    exact f_m_form_b293 ih _ _ _ _ _ _ _ _ hf
theorem f_m_form_b209 {N : Nat} {K191 : Int32 → Int32 → Int32 → Int32 → Int32 → xS → Option (Int32 × xS)} {K200 : Int32 → Int32 → Int32 → Int32 → Int32 → Int32 → xS → Option (Int32 × xS)} {r : Int32} {σ' : xS} (hK191 : ∀ (a0 : Int32) (a1 : Int32) (a2 : Int32) (a3 : Int32) (a4 : Int32) (σ : xS), K191 a0 a1 a2 a3 a4 σ = some (r, σ') → fr [0, 1, 2, 3, 4, 5, 6, 7, 8, 9, 10, 11, 12, 13, 14, 15, 16] [5, 6, 7, 8, 9] σ σ') (hK200 : ∀ (a0 : Int32) (a1 : Int32) (a2 : Int32) (a3 : Int32) (a4 : Int32) (a5 : Int32) (σ : xS), K200 a0 a1 a2 a3 a4 a5 σ = some (r, σ') → fr [0, 1, 2, 3, 4, 5, 6, 7, 8, 9, 10, 11, 12, 13, 14, 15, 16] [5, 6, 7, 8, 9] σ σ') : ∀ (n : Nat) (l1 : Int32) (l2 : Int32) (l3 : Int32) (l4 : Int32) (l5 : Int32) (l6 : Int32) (l7 : Int32) (σ : xS), m_form_b209 N K191 K200 n l1 l2 l3 l4 l5 l6 l7 σ = some (r, σ') → fr [0, 1, 2, 3, 4, 5, 6, 7, 8, 9, 10, 11, 12, 13, 14, 15, 16] [5, 6, 7, 8, 9] σ σ' := by
  intro n
  induction n with
  | zero =>
    intro l1 l2 l3 l4 l5 l6 l7 σ hf
    rw [m_form_b209] at hf
    cases hf
  | succ n ih =>
    intro l1 l2 l3 l4 l5 l6 l7 σ hf
    rw [m_form_b209] at hf
    refine fr_if hf (fun hf => ?_) (fun hf => ?_)
    · refine fr_bnd hf (fun l6_39 hf => ?_)
      exact hK200 _ _ _ _ _ _ _  hf
    refine fr_cal hf (fun _ _ h => fr_mono (f_m_place h) (fun _ h => by cases h) (fun _ h => by cases h)) (fun v40 σ41 hf => ?_)
    refine fr_cal hf (fun _ _ h => fr_mono (f_m_cell h) (fun _ h => by cases h) (fun _ h => by cases h)) (fun v42 σ43 hf => ?_)
    refine fr_ald hf (fun v44 hf => ?_)
    refine fr_ast hf (by decide) (fun σ45 hf => ?_)
    refine fr_cal hf (fun _ _ h => fr_mono (f_m_cell h) (fun _ h => by cases h) (fun _ h => by cases h)) (fun v46 σ47 hf => ?_)
    refine fr_ald hf (fun v48 hf => ?_)
    refine fr_if hf (fun hf => ?_) (fun hf => ?_)
    · refine fr_bnd hf (fun l7_49 hf => ?_)
      exact ih _ _ _ _ _ _ _ _  hf
    refine fr_bnd hf (fun l4_50 hf => ?_)
    refine fr_bnd hf (fun l7_51 hf => ?_)
    exact ih _ _ _ _ _ _ _ _  hf
theorem f_m_form_b200 {N : Nat} {K191 : Int32 → Int32 → Int32 → Int32 → Int32 → xS → Option (Int32 × xS)} {r : Int32} {σ' : xS} (hK191 : ∀ (a0 : Int32) (a1 : Int32) (a2 : Int32) (a3 : Int32) (a4 : Int32) (σ : xS), K191 a0 a1 a2 a3 a4 σ = some (r, σ') → fr [0, 1, 2, 3, 4, 5, 6, 7, 8, 9, 10, 11, 12, 13, 14, 15, 16] [5, 6, 7, 8, 9] σ σ') : ∀ (n : Nat) (l1 : Int32) (l2 : Int32) (l3 : Int32) (l4 : Int32) (l5 : Int32) (l6 : Int32) (σ : xS), m_form_b200 N K191 n l1 l2 l3 l4 l5 l6 σ = some (r, σ') → fr [0, 1, 2, 3, 4, 5, 6, 7, 8, 9, 10, 11, 12, 13, 14, 15, 16] [5, 6, 7, 8, 9] σ σ' := by
  intro n
  induction n with
  | zero =>
    intro l1 l2 l3 l4 l5 l6 σ hf
    rw [m_form_b200] at hf
    cases hf
  | succ n ih =>
    intro l1 l2 l3 l4 l5 l6 σ hf
    rw [m_form_b200] at hf
    refine fr_if hf (fun hf => ?_) (fun hf => ?_)
    · refine fr_bnd hf (fun l5_38 hf => ?_)
      exact hK191 _ _ _ _ _ _  hf
    exact f_m_form_b209 hK191 ih _ _ _ _ _ _ _ _ _ hf
theorem f_m_form_b191 {N : Nat} {r : Int32} {σ' : xS} : ∀ (n : Nat) (l1 : Int32) (l2 : Int32) (l3 : Int32) (l4 : Int32) (l5 : Int32) (σ : xS), m_form_b191 N n l1 l2 l3 l4 l5 σ = some (r, σ') → fr [0, 1, 2, 3, 4, 5, 6, 7, 8, 9, 10, 11, 12, 13, 14, 15, 16] [5, 6, 7, 8, 9] σ σ' := by
  intro n
  induction n with
  | zero =>
    intro l1 l2 l3 l4 l5 σ hf
    rw [m_form_b191] at hf
    cases hf
  | succ n ih =>
    intro l1 l2 l3 l4 l5 σ hf
    rw [m_form_b191] at hf
    refine fr_if hf (fun hf => ?_) (fun hf => ?_)
    · exact f_m_form_b284 _ _ _ _ _ _ _ hf
    exact f_m_form_b200 ih _ _ _ _ _ _ _ _ hf
theorem f_m_form_b166 {N : Nat} {r : Int32} {σ' : xS} : ∀ (n : Nat) (l1 : Int32) (l2 : Int32) (l3 : Int32) (l4 : Int32) (l5 : Int32) (σ : xS), m_form_b166 N n l1 l2 l3 l4 l5 σ = some (r, σ') → fr [0, 1, 2, 3, 4, 5, 6, 7, 8, 9, 10, 11, 12, 13, 14, 15, 16] [5, 6, 7, 8, 9] σ σ' := by
  intro n
  induction n with
  | zero =>
    intro l1 l2 l3 l4 l5 σ hf
    rw [m_form_b166] at hf
    cases hf
  | succ n ih =>
    intro l1 l2 l3 l4 l5 σ hf
    rw [m_form_b166] at hf
    refine fr_if hf (fun hf => ?_) (fun hf => ?_)
    · exact f_m_form_b191 _ _ _ _ _ _ _ hf
    refine fr_ast hf (by decide) (fun σ52 hf => ?_)
    refine fr_bnd hf (fun l5_53 hf => ?_)
    exact ih _ _ _ _ _ _  hf
theorem f_m_form_b84 {N : Nat} {r : Int32} {σ' : xS} : ∀ (n : Nat) (l1 : Int32) (l2 : Int32) (l3 : Int32) (l4 : Int32) (σ : xS), m_form_b84 N n l1 l2 l3 l4 σ = some (r, σ') → fr [0, 1, 2, 3, 4, 5, 6, 7, 8, 9, 10, 11, 12, 13, 14, 15, 16] [5, 6, 7, 8, 9] σ σ' := by
  intro n
  induction n with
  | zero =>
    intro l1 l2 l3 l4 σ hf
    rw [m_form_b84] at hf
    cases hf
  | succ n ih =>
    intro l1 l2 l3 l4 σ hf
    rw [m_form_b84] at hf
    refine fr_if hf (fun hf => ?_) (fun hf => ?_)
    · refine fr_cal hf (fun _ _ h => fr_mono (f_m_reads h) (by decide) (by decide)) (fun _ σ17 hf => ?_)
      refine fr_put hf (by decide) (fun σ18 hf => ?_)
      refine fr_put hf (by decide) (fun σ19 hf => ?_)
      refine fr_if hf (fun hf => ?_) (fun hf => ?_)
      · refine fr_put hf (by decide) (fun σ20 hf => ?_)
        refine fr_put hf (by decide) (fun σ21 hf => ?_)
        refine fr_put hf (by decide) (fun σ22 hf => ?_)
        refine fr_put hf (by decide) (fun σ23 hf => ?_)
        refine fr_put hf (by decide) (fun σ24 hf => ?_)
        exact f_m_form_b166 _ _ _ _ _ _ _ hf
      exact fr_some hf
    refine fr_ast hf (by decide) (fun σ54 hf => ?_)
    refine fr_bnd hf (fun l4_55 hf => ?_)
    exact ih _ _ _ _ _  hf
theorem f_m_form {N : Nat} {l1 : Int32} {l2 : Int32} {l3 : Int32} {r : Int32} {σ σ' : xS} (hf : m_form N l1 l2 l3 σ = some (r, σ')) : fr [0, 1, 2, 3, 4, 5, 6, 7, 8, 9, 10, 11, 12, 13, 14, 15, 16] [5, 6, 7, 8, 9] σ σ' := by
  unfold m_form at hf
  refine fr_cal hf (fun _ _ h => fr_mono (f_m_isIn h) (fun _ h => by cases h) (fun _ h => by cases h)) (fun v1 σ2 hf => ?_)
  refine fr_if hf (fun hf => ?_) (fun hf => ?_)
  · exact fr_some hf
  refine fr_cal hf (fun _ _ h => fr_mono (f_m_isIn h) (fun _ h => by cases h) (fun _ h => by cases h)) (fun v3 σ4 hf => ?_)
  refine fr_if hf (fun hf => ?_) (fun hf => ?_)
  · exact fr_some hf
  refine fr_cal hf (fun _ _ h => fr_mono (f_m_isIn h) (fun _ h => by cases h) (fun _ h => by cases h)) (fun v5 σ6 hf => ?_)
  refine fr_if hf (fun hf => ?_) (fun hf => ?_)
  · exact fr_some hf
  refine fr_put hf (by decide) (fun σ7 hf => ?_)
  refine fr_put hf (by decide) (fun σ8 hf => ?_)
  refine fr_put hf (by decide) (fun σ9 hf => ?_)
  refine fr_put hf (by decide) (fun σ10 hf => ?_)
  refine fr_put hf (by decide) (fun σ11 hf => ?_)
  refine fr_put hf (by decide) (fun σ12 hf => ?_)
  refine fr_put hf (by decide) (fun σ13 hf => ?_)
  refine fr_put hf (by decide) (fun σ14 hf => ?_)
  refine fr_put hf (by decide) (fun σ15 hf => ?_)
  exact f_m_form_b84 _ _ _ _ _ _ hf
theorem f_m_fault {N : Nat} {l1 : Int32} {r : Int32} {σ σ' : xS} (hf : m_fault N l1 σ = some (r, σ')) : fr [] [] σ σ' := by
  unfold m_fault at hf
  refine fr_if hf (fun hf => ?_) (fun hf => ?_)
  · exact fr_some hf
  refine fr_if hf (fun hf => ?_) (fun hf => ?_)
  · exact fr_some hf
  exact fr_some hf
theorem f_m_solid {N : Nat} {l1 : Int32} {l2 : Int32} {l3 : Int32} {r : Int32} {σ σ' : xS} (hf : m_solid N l1 l2 l3 σ = some (r, σ')) : fr [] [] σ σ' := by
  unfold m_solid at hf
  refine fr_if hf (fun hf => ?_) (fun hf => ?_)
  · exact fr_some hf
  refine fr_if hf (fun hf => ?_) (fun hf => ?_)
  · exact fr_some hf
  refine fr_if hf (fun hf => ?_) (fun hf => ?_)
  · exact fr_some hf
  refine fr_if hf (fun hf => ?_) (fun hf => ?_)
  · exact fr_some hf
  refine fr_if hf (fun hf => ?_) (fun hf => ?_)
  · exact fr_some hf
  refine fr_if hf (fun hf => ?_) (fun hf => ?_)
  · exact fr_some hf
  refine fr_if hf (fun hf => ?_) (fun hf => ?_)
  · refine fr_cal hf (fun _ _ h => fr_mono (f_m_place h) (fun _ h => by cases h) (fun _ h => by cases h)) (fun v1 σ2 hf => ?_)
    refine fr_ald hf (fun v3 hf => ?_)
    refine fr_if hf (fun hf => ?_) (fun hf => ?_)
    · exact fr_some hf
    exact fr_some hf
  exact fr_some hf
theorem f_m_free {N : Nat} {l1 : Int32} {l2 : Int32} {l3 : Int32} {r : Int32} {σ σ' : xS} (hf : m_free N l1 l2 l3 σ = some (r, σ')) : fr [] [] σ σ' := by
  unfold m_free at hf
  refine fr_cal hf (fun _ _ h => fr_mono (f_m_isMould h) (fun _ h => by cases h) (fun _ h => by cases h)) (fun v1 σ2 hf => ?_)
  refine fr_if hf (fun hf => ?_) (fun hf => ?_)
  · exact fr_some hf
  refine fr_cal hf (fun _ _ h => fr_mono (f_m_place h) (fun _ h => by cases h) (fun _ h => by cases h)) (fun v3 σ4 hf => ?_)
  refine fr_ald hf (fun v5 hf => ?_)
  refine fr_if hf (fun hf => ?_) (fun hf => ?_)
  · refine fr_cal hf (fun _ _ h => fr_mono (f_m_place h) (fun _ h => by cases h) (fun _ h => by cases h)) (fun v6 σ7 hf => ?_)
    refine fr_ald hf (fun v8 hf => ?_)
    exact fr_some hf
  exact fr_some hf
theorem f_m_shut_b34 {N : Nat} {K13 : Int32 → Int32 → xS → Option (Int32 × xS)} {K23 : Int32 → Int32 → Int32 → xS → Option (Int32 × xS)} {r : Int32} {σ' : xS} (hK13 : ∀ (a0 : Int32) (a1 : Int32) (σ : xS), K13 a0 a1 σ = some (r, σ') → fr [] [] σ σ') (hK23 : ∀ (a0 : Int32) (a1 : Int32) (a2 : Int32) (σ : xS), K23 a0 a1 a2 σ = some (r, σ') → fr [] [] σ σ') : ∀ (n : Nat) (l1 : Int32) (l2 : Int32) (l3 : Int32) (l4 : Int32) (σ : xS), m_shut_b34 N K13 K23 n l1 l2 l3 l4 σ = some (r, σ') → fr [] [] σ σ' := by
  intro n
  induction n with
  | zero =>
    intro l1 l2 l3 l4 σ hf
    rw [m_shut_b34] at hf
    cases hf
  | succ n ih =>
    intro l1 l2 l3 l4 σ hf
    rw [m_shut_b34] at hf
    refine fr_if hf (fun hf => ?_) (fun hf => ?_)
    · refine fr_bnd hf (fun l3_2 hf => ?_)
      exact hK23 _ _ _ _  hf
    refine fr_cal hf (fun _ _ h => fr_mono (f_m_place h) (fun _ h => by cases h) (fun _ h => by cases h)) (fun v3 σ4 hf => ?_)
    refine fr_ald hf (fun v5 hf => ?_)
    refine fr_if hf (fun hf => ?_) (fun hf => ?_)
    · refine fr_cal hf (fun _ _ h => fr_mono (f_m_place h) (fun _ h => by cases h) (fun _ h => by cases h)) (fun v7 σ8 hf => ?_)
      refine fr_ald hf (fun v9 hf => ?_)
      refine fr_if hf (fun hf => ?_) (fun hf => ?_)
      · refine fr_bnd hf (fun l1_11 hf => ?_)
        refine fr_bnd hf (fun l4_12 hf => ?_)
        exact ih _ _ _ _ _  hf
      refine fr_bnd hf (fun l4_10 hf => ?_)
      exact ih _ _ _ _ _  hf
    refine fr_bnd hf (fun l4_6 hf => ?_)
    exact ih _ _ _ _ _  hf
theorem f_m_shut_b23 {N : Nat} {K13 : Int32 → Int32 → xS → Option (Int32 × xS)} {r : Int32} {σ' : xS} (hK13 : ∀ (a0 : Int32) (a1 : Int32) (σ : xS), K13 a0 a1 σ = some (r, σ') → fr [] [] σ σ') : ∀ (n : Nat) (l1 : Int32) (l2 : Int32) (l3 : Int32) (σ : xS), m_shut_b23 N K13 n l1 l2 l3 σ = some (r, σ') → fr [] [] σ σ' := by
  intro n
  induction n with
  | zero =>
    intro l1 l2 l3 σ hf
    rw [m_shut_b23] at hf
    cases hf
  | succ n ih =>
    intro l1 l2 l3 σ hf
    rw [m_shut_b23] at hf
    refine fr_if hf (fun hf => ?_) (fun hf => ?_)
    · refine fr_bnd hf (fun l2_1 hf => ?_)
      exact hK13 _ _ _  hf
    exact f_m_shut_b34 hK13 ih _ _ _ _ _ _ hf
theorem f_m_shut_b13 {N : Nat} {r : Int32} {σ' : xS} : ∀ (n : Nat) (l1 : Int32) (l2 : Int32) (σ : xS), m_shut_b13 N n l1 l2 σ = some (r, σ') → fr [] [] σ σ' := by
  intro n
  induction n with
  | zero =>
    intro l1 l2 σ hf
    rw [m_shut_b13] at hf
    cases hf
  | succ n ih =>
    intro l1 l2 σ hf
    rw [m_shut_b13] at hf
    refine fr_if hf (fun hf => ?_) (fun hf => ?_)
    · exact fr_some hf
    exact f_m_shut_b23 ih _ _ _ _ _ hf
theorem f_m_shut {N : Nat} {r : Int32} {σ σ' : xS} (hf : m_shut N σ = some (r, σ')) : fr [] [] σ σ' := by
  unfold m_shut at hf
  refine fr_if hf (fun hf => ?_) (fun hf => ?_)
  · exact fr_some hf
  exact f_m_shut_b13 _ _ _ _ hf
theorem f_m_ones_b4 {N : Nat} {r : Int32} {σ' : xS} : ∀ (n : Nat) (l0 : Int32) (l1 : Int32) (l2 : Int32) (σ : xS), m_ones_b4 N n l0 l1 l2 σ = some (r, σ') → fr [] [] σ σ' := by
  intro n
  induction n with
  | zero =>
    intro l0 l1 l2 σ hf
    rw [m_ones_b4] at hf
    cases hf
  | succ n ih =>
    intro l0 l1 l2 σ hf
    rw [m_ones_b4] at hf
    refine fr_if hf (fun hf => ?_) (fun hf => ?_)
    · exact fr_some hf
    refine fr_bnd hf (fun l1_1 hf => ?_)
    refine fr_bnd hf (fun l2_2 hf => ?_)
    exact ih _ _ _ _  hf
theorem f_m_ones {N : Nat} {l0 : Int32} {r : Int32} {σ σ' : xS} (hf : m_ones N l0 σ = some (r, σ')) : fr [] [] σ σ' := by
  unfold m_ones at hf
  exact f_m_ones_b4 _ _ _ _ _ hf
theorem f_m_covers_b23 {N : Nat} {K2 : Int32 → Int32 → xS → Option (Int32 × xS)} {K12 : Int32 → Int32 → Int32 → xS → Option (Int32 × xS)} {r : Int32} {σ' : xS} (hK2 : ∀ (a0 : Int32) (a1 : Int32) (σ : xS), K2 a0 a1 σ = some (r, σ') → fr [] [] σ σ') (hK12 : ∀ (a0 : Int32) (a1 : Int32) (a2 : Int32) (σ : xS), K12 a0 a1 a2 σ = some (r, σ') → fr [] [] σ σ') : ∀ (n : Nat) (l1 : Int32) (l2 : Int32) (l3 : Int32) (l4 : Int32) (σ : xS), m_covers_b23 N K2 K12 n l1 l2 l3 l4 σ = some (r, σ') → fr [] [] σ σ' := by
  intro n
  induction n with
  | zero =>
    intro l1 l2 l3 l4 σ hf
    rw [m_covers_b23] at hf
    cases hf
  | succ n ih =>
    intro l1 l2 l3 l4 σ hf
    rw [m_covers_b23] at hf
    refine fr_if hf (fun hf => ?_) (fun hf => ?_)
    · refine fr_bnd hf (fun l3_2 hf => ?_)
      exact hK12 _ _ _ _  hf
    refine fr_cal hf (fun _ _ h => fr_mono (f_m_place h) (fun _ h => by cases h) (fun _ h => by cases h)) (fun v3 σ4 hf => ?_)
    refine fr_ald hf (fun v5 hf => ?_)
    refine fr_if hf (fun hf => ?_) (fun hf => ?_)
    · refine fr_cal hf (fun _ _ h => fr_mono (f_m_place h) (fun _ h => by cases h) (fun _ h => by cases h)) (fun v7 σ8 hf => ?_)
      refine fr_ald hf (fun v9 hf => ?_)
      refine fr_if hf (fun hf => ?_) (fun hf => ?_)
      · exact fr_some hf
      refine fr_bnd hf (fun l4_10 hf => ?_)
      exact ih _ _ _ _ _  hf
    refine fr_bnd hf (fun l4_6 hf => ?_)
    exact ih _ _ _ _ _  hf
theorem f_m_covers_b12 {N : Nat} {K2 : Int32 → Int32 → xS → Option (Int32 × xS)} {r : Int32} {σ' : xS} (hK2 : ∀ (a0 : Int32) (a1 : Int32) (σ : xS), K2 a0 a1 σ = some (r, σ') → fr [] [] σ σ') : ∀ (n : Nat) (l1 : Int32) (l2 : Int32) (l3 : Int32) (σ : xS), m_covers_b12 N K2 n l1 l2 l3 σ = some (r, σ') → fr [] [] σ σ' := by
  intro n
  induction n with
  | zero =>
    intro l1 l2 l3 σ hf
    rw [m_covers_b12] at hf
    cases hf
  | succ n ih =>
    intro l1 l2 l3 σ hf
    rw [m_covers_b12] at hf
    refine fr_if hf (fun hf => ?_) (fun hf => ?_)
    · refine fr_bnd hf (fun l2_1 hf => ?_)
      exact hK2 _ _ _  hf
    exact f_m_covers_b23 hK2 ih _ _ _ _ _ _ hf
theorem f_m_covers_b2 {N : Nat} {r : Int32} {σ' : xS} : ∀ (n : Nat) (l1 : Int32) (l2 : Int32) (σ : xS), m_covers_b2 N n l1 l2 σ = some (r, σ') → fr [] [] σ σ' := by
  intro n
  induction n with
  | zero =>
    intro l1 l2 σ hf
    rw [m_covers_b2] at hf
    cases hf
  | succ n ih =>
    intro l1 l2 σ hf
    rw [m_covers_b2] at hf
    refine fr_if hf (fun hf => ?_) (fun hf => ?_)
    · exact fr_some hf
    exact f_m_covers_b12 ih _ _ _ _ _ hf
theorem f_m_covers {N : Nat} {l1 : Int32} {r : Int32} {σ σ' : xS} (hf : m_covers N l1 σ = some (r, σ')) : fr [] [] σ σ' := by
  unfold m_covers at hf
  exact f_m_covers_b2 _ _ _ _ hf
theorem f_m_fewest_b5 {N : Nat} {r : Int32} {σ' : xS} : ∀ (n : Nat) (l1 : Int32) (l2 : Int32) (σ : xS), m_fewest_b5 N n l1 l2 σ = some (r, σ') → fr [] [] σ σ' := by
  intro n
  induction n with
  | zero =>
    intro l1 l2 σ hf
    rw [m_fewest_b5] at hf
    cases hf
  | succ n ih =>
    intro l1 l2 σ hf
    rw [m_fewest_b5] at hf
    refine fr_if hf (fun hf => ?_) (fun hf => ?_)
    · exact fr_some hf
    refine fr_cal hf (fun _ _ h => fr_mono (f_m_ones h) (fun _ h => by cases h) (fun _ h => by cases h)) (fun v1 σ2 hf => ?_)
    refine fr_if hf (fun hf => ?_) (fun hf => ?_)
    · refine fr_bnd hf (fun l2_3 hf => ?_)
      exact ih _ _ _  hf
    refine fr_cal hf (fun _ _ h => fr_mono (f_m_covers h) (fun _ h => by cases h) (fun _ h => by cases h)) (fun v4 σ5 hf => ?_)
    refine fr_if hf (fun hf => ?_) (fun hf => ?_)
    · refine fr_bnd hf (fun l2_6 hf => ?_)
      exact ih _ _ _  hf
    refine fr_cal hf (fun _ _ h => fr_mono (f_m_ones h) (fun _ h => by cases h) (fun _ h => by cases h)) (fun v7 σ8 hf => ?_)
    refine fr_bnd hf (fun l2_9 hf => ?_)
    exact ih _ _ _  hf
theorem f_m_fewest {N : Nat} {r : Int32} {σ σ' : xS} (hf : m_fewest N σ = some (r, σ')) : fr [] [] σ σ' := by
  unfold m_fewest at hf
  exact f_m_fewest_b5 _ _ _ _ hf
theorem f_m_belongs_b3 {ab : Nat} {N : Nat} {r : Int32} {σ' : xS} : ∀ (n : Nat) (l1 : Int32) (l3 : Int32) (l4 : Int32) (σ : xS), m_belongs_b3 ab N n l1 l3 l4 σ = some (r, σ') → fr [] [] σ σ' := by
  intro n
  induction n with
  | zero =>
    intro l1 l3 l4 σ hf
    rw [m_belongs_b3] at hf
    cases hf
  | succ n ih =>
    intro l1 l3 l4 σ hf
    rw [m_belongs_b3] at hf
    refine fr_if hf (fun hf => ?_) (fun hf => ?_)
    · exact fr_some hf
    refine fr_ald hf (fun v1 hf => ?_)
    refine fr_ald hf (fun v2 hf => ?_)
    refine fr_if hf (fun hf => ?_) (fun hf => ?_)
    · exact fr_some hf
    refine fr_bnd hf (fun l4_3 hf => ?_)
    exact ih _ _ _ _  hf
theorem f_m_belongs {ab : Nat} {N : Nat} {l1 : Int32} {l3 : Int32} {r : Int32} {σ σ' : xS} (hf : m_belongs ab N l1 l3 σ = some (r, σ')) : fr [] [] σ σ' := by
  unfold m_belongs at hf
  exact f_m_belongs_b3 _ _ _ _ _ hf
theorem f_m_touches_b3 {N : Nat} {r : Int32} {σ' : xS} : ∀ (n : Nat) (l1 : Int32) (l2 : Int32) (l3 : Int32) (l4 : Int32) (σ : xS), m_touches_b3 N n l1 l2 l3 l4 σ = some (r, σ') → fr [] [] σ σ' := by
  intro n
  induction n with
  | zero =>
    intro l1 l2 l3 l4 σ hf
    rw [m_touches_b3] at hf
    cases hf
  | succ n ih =>
    intro l1 l2 l3 l4 σ hf
    rw [m_touches_b3] at hf
    refine fr_if hf (fun hf => ?_) (fun hf => ?_)
    · exact fr_some hf
    refine fr_cal hf (fun _ _ h => fr_mono (f_m_stepX h) (fun _ h => by cases h) (fun _ h => by cases h)) (fun v1 σ2 hf => ?_)
    refine fr_cal hf (fun _ _ h => fr_mono (f_m_stepY h) (fun _ h => by cases h) (fun _ h => by cases h)) (fun v3 σ4 hf => ?_)
    refine fr_cal hf (fun _ _ h => fr_mono (f_m_stepZ h) (fun _ h => by cases h) (fun _ h => by cases h)) (fun v5 σ6 hf => ?_)
    refine fr_cal hf (fun _ _ h => fr_mono (f_m_isMould h) (fun _ h => by cases h) (fun _ h => by cases h)) (fun v7 σ8 hf => ?_)
    refine fr_if hf (fun hf => ?_) (fun hf => ?_)
    · refine fr_bnd hf (fun l4_9 hf => ?_)
      exact ih _ _ _ _ _  hf
    refine fr_cal hf (fun _ _ h => fr_mono (f_m_stepX h) (fun _ h => by cases h) (fun _ h => by cases h)) (fun v10 σ11 hf => ?_)
    refine fr_cal hf (fun _ _ h => fr_mono (f_m_stepY h) (fun _ h => by cases h) (fun _ h => by cases h)) (fun v12 σ13 hf => ?_)
    refine fr_cal hf (fun _ _ h => fr_mono (f_m_stepZ h) (fun _ h => by cases h) (fun _ h => by cases h)) (fun v14 σ15 hf => ?_)
    refine fr_cal hf (fun _ _ h => fr_mono (f_m_place h) (fun _ h => by cases h) (fun _ h => by cases h)) (fun v16 σ17 hf => ?_)
    refine fr_ald hf (fun v18 hf => ?_)
    refine fr_if hf (fun hf => ?_) (fun hf => ?_)
    · refine fr_bnd hf (fun l4_19 hf => ?_)
      exact ih _ _ _ _ _  hf
    exact fr_some hf
theorem f_m_touches {N : Nat} {l1 : Int32} {l2 : Int32} {l3 : Int32} {r : Int32} {σ σ' : xS} (hf : m_touches N l1 l2 l3 σ = some (r, σ')) : fr [] [] σ σ' := by
  unfold m_touches at hf
  exact f_m_touches_b3 _ _ _ _ _ _ hf
theorem f_m_hangs_b160 {ab : Nat} {N : Nat} {K66 : Int32 → Int32 → Int32 → Int32 → xS → Option (Int32 × xS)} {r : Int32} {σ' : xS} (hK66 : ∀ (a0 : Int32) (a1 : Int32) (a2 : Int32) (a3 : Int32) (σ : xS), K66 a0 a1 a2 a3 σ = some (r, σ') → fr [18] [12, 13, 14, 15, 16, 17] σ σ') : ∀ (n : Nat) (l3 : Int32) (l4 : Int32) (l5 : Int32) (l6 : Int32) (l7 : Int32) (l8 : Int32) (l9 : Int32) (l10 : Int32) (σ : xS), m_hangs_b160 ab N K66 n l3 l4 l5 l6 l7 l8 l9 l10 σ = some (r, σ') → fr [18] [12, 13, 14, 15, 16, 17] σ σ' := by
  intro n
  induction n with
  | zero =>
    intro l3 l4 l5 l6 l7 l8 l9 l10 σ hf
    rw [m_hangs_b160] at hf
    cases hf
  | succ n ih =>
    intro l3 l4 l5 l6 l7 l8 l9 l10 σ hf
    rw [m_hangs_b160] at hf
    refine fr_if hf (fun hf => ?_) (fun hf => ?_)
    · refine fr_bnd hf (fun l6_19 hf => ?_)
      exact hK66 _ _ _ _ _  hf
    refine fr_cal hf (fun _ _ h => fr_mono (f_m_stepX h) (fun _ h => by cases h) (fun _ h => by cases h)) (fun v20 σ21 hf => ?_)
    refine fr_bnd hf (fun l11_22 hf => ?_)
    refine fr_cal hf (fun _ _ h => fr_mono (f_m_stepY h) (fun _ h => by cases h) (fun _ h => by cases h)) (fun v23 σ24 hf => ?_)
    refine fr_bnd hf (fun l12_25 hf => ?_)
    refine fr_cal hf (fun _ _ h => fr_mono (f_m_stepZ h) (fun _ h => by cases h) (fun _ h => by cases h)) (fun v26 σ27 hf => ?_)
    refine fr_bnd hf (fun l13_28 hf => ?_)
    refine fr_cal hf (fun _ _ h => fr_mono (f_m_isMould h) (fun _ h => by cases h) (fun _ h => by cases h)) (fun v29 σ30 hf => ?_)
    refine fr_if hf (fun hf => ?_) (fun hf => ?_)
    · refine fr_bnd hf (fun l10_44 hf => ?_)
      exact ih _ _ _ _ _ _ _ _ _  hf
    refine fr_cal hf (fun _ _ h => fr_mono (f_m_place h) (fun _ h => by cases h) (fun _ h => by cases h)) (fun v31 σ32 hf => ?_)
    refine fr_ald hf (fun v33 hf => ?_)
    refine fr_if hf (fun hf => ?_) (fun hf => ?_)
    · refine fr_ald hf (fun v35 hf => ?_)
      refine fr_if hf (fun hf => ?_) (fun hf => ?_)
      · refine fr_cal hf (fun _ _ h => fr_mono (f_m_belongs h) (fun _ h => by cases h) (fun _ h => by cases h)) (fun v37 σ38 hf => ?_)
        refine fr_if hf (fun hf => ?_) (fun hf => ?_)
        · refine fr_ast hf (by decide) (fun σ39 hf => ?_)
          refine fr_ast hf (by decide) (fun σ40 hf => ?_)
          refine fr_bnd hf (fun l5_41 hf => ?_)
          refine fr_bnd hf (fun l10_42 hf => ?_)
          exact ih _ _ _ _ _ _ _ _ _  hf
        refine fr_bnd hf (fun l10_43 hf => ?_)
        exact ih _ _ _ _ _ _ _ _ _  hf
      refine fr_bnd hf (fun l10_36 hf => ?_)
      exact ih _ _ _ _ _ _ _ _ _  hf
    refine fr_bnd hf (fun l10_34 hf => ?_)
    exact ih _ _ _ _ _ _ _ _ _  hf
theorem f_m_hangs_b66 {ab : Nat} {N : Nat} {r : Int32} {σ' : xS} : ∀ (n : Nat) (l3 : Int32) (l4 : Int32) (l5 : Int32) (l6 : Int32) (σ : xS), m_hangs_b66 ab N n l3 l4 l5 l6 σ = some (r, σ') → fr [18] [12, 13, 14, 15, 16, 17] σ σ' := by
  intro n
  induction n with
  | zero =>
    intro l3 l4 l5 l6 σ hf
    rw [m_hangs_b66] at hf
    cases hf
  | succ n ih =>
    intro l3 l4 l5 l6 σ hf
    rw [m_hangs_b66] at hf
    refine fr_if hf (fun hf => ?_) (fun hf => ?_)
    · refine fr_put hf (by decide) (fun σ8 hf => ?_)
      exact fr_some hf
    refine fr_ald hf (fun v9 hf => ?_)
    refine fr_gdz hf (fun hf => ?_)
    refine fr_bnd hf (fun l7_10 hf => ?_)
    refine fr_ald hf (fun v11 hf => ?_)
    refine fr_gdz hf (fun hf => ?_)
    refine fr_gdz hf (fun hf => ?_)
    refine fr_bnd hf (fun l8_12 hf => ?_)
    refine fr_ald hf (fun v13 hf => ?_)
    refine fr_gdz hf (fun hf => ?_)
    refine fr_bnd hf (fun l9_14 hf => ?_)
    refine fr_ald hf (fun v15 hf => ?_)
    refine fr_ast hf (by decide) (fun σ16 hf => ?_)
    refine fr_cal hf (fun _ _ h => fr_mono (f_m_touches h) (fun _ h => by cases h) (fun _ h => by cases h)) (fun v17 σ18 hf => ?_)
    refine fr_if hf (fun hf => ?_) (fun hf => ?_)
    · exact f_m_hangs_b160 ih _ _ _ _ _ _ _ _ _ _ hf
    refine fr_ald hf (fun v45 hf => ?_)
    refine fr_ast hf (by decide) (fun σ46 hf => ?_)
    exact f_m_hangs_b160 ih _ _ _ _ _ _ _ _ _ _ hf
theorem f_m_hangs {ab : Nat} {N : Nat} {l1 : Int32} {l3 : Int32} {l4 : Int32} {r : Int32} {σ σ' : xS} (hf : m_hangs ab N l1 l3 l4 σ = some (r, σ')) : fr [18] [12, 13, 14, 15, 16, 17] σ σ' := by
  unfold m_hangs at hf
  refine fr_ast hf (by decide) (fun σ1 hf => ?_)
  refine fr_ast hf (by decide) (fun σ2 hf => ?_)
  refine fr_ald hf (fun v3 hf => ?_)
  refine fr_ast hf (by decide) (fun σ4 hf => ?_)
  refine fr_ast hf (by decide) (fun σ5 hf => ?_)
  refine fr_ast hf (by decide) (fun σ6 hf => ?_)
  refine fr_ast hf (by decide) (fun σ7 hf => ?_)
  exact f_m_hangs_b66 _ _ _ _ _ _ hf
theorem f_m_parts_b61 {ab : Nat} {N : Nat} {K29 : Int32 → Int32 → xS → Option (Int32 × xS)} {K37 : Int32 → Int32 → Int32 → xS → Option (Int32 × xS)} {K49 : Int32 → Int32 → Int32 → Int32 → xS → Option (Int32 × xS)} {r : Int32} {σ' : xS} (hK29 : ∀ (a0 : Int32) (a1 : Int32) (σ : xS), K29 a0 a1 σ = some (r, σ') → fr [18] [12, 13, 14, 15, 16, 17] σ σ') (hK37 : ∀ (a0 : Int32) (a1 : Int32) (a2 : Int32) (σ : xS), K37 a0 a1 a2 σ = some (r, σ') → fr [18] [12, 13, 14, 15, 16, 17] σ σ') (hK49 : ∀ (a0 : Int32) (a1 : Int32) (a2 : Int32) (a3 : Int32) (σ : xS), K49 a0 a1 a2 a3 σ = some (r, σ') → fr [18] [12, 13, 14, 15, 16, 17] σ σ') : ∀ (n : Nat) (l2 : Int32) (l3 : Int32) (l4 : Int32) (l5 : Int32) (l6 : Int32) (σ : xS), m_parts_b61 ab N K29 K37 K49 n l2 l3 l4 l5 l6 σ = some (r, σ') → fr [18] [12, 13, 14, 15, 16, 17] σ σ' := by
  intro n
  induction n with
  | zero =>
    intro l2 l3 l4 l5 l6 σ hf
    rw [m_parts_b61] at hf
    cases hf
  | succ n ih =>
    intro l2 l3 l4 l5 l6 σ hf
    rw [m_parts_b61] at hf
    refine fr_if hf (fun hf => ?_) (fun hf => ?_)
    · refine fr_bnd hf (fun l5_4 hf => ?_)
      exact hK49 _ _ _ _ _  hf
    refine fr_cal hf (fun _ _ h => fr_mono (f_m_place h) (fun _ h => by cases h) (fun _ h => by cases h)) (fun v5 σ6 hf => ?_)
    refine fr_ald hf (fun v7 hf => ?_)
    refine fr_if hf (fun hf => ?_) (fun hf => ?_)
    · refine fr_ald hf (fun v9 hf => ?_)
      refine fr_if hf (fun hf => ?_) (fun hf => ?_)
      · refine fr_cal hf (fun _ _ h => fr_mono (f_m_belongs h) (fun _ h => by cases h) (fun _ h => by cases h)) (fun v11 σ12 hf => ?_)
        refine fr_if hf (fun hf => ?_) (fun hf => ?_)
        · refine fr_cal hf (fun _ _ h => fr_mono (f_m_hangs h) (by decide) (by decide)) (fun _ σ14 hf => ?_)
          refine fr_bnd hf (fun l6_15 hf => ?_)
          exact ih _ _ _ _ _ _  hf
        refine fr_bnd hf (fun l6_16 hf => ?_)
        exact ih _ _ _ _ _ _  hf
      refine fr_bnd hf (fun l6_10 hf => ?_)
      exact ih _ _ _ _ _ _  hf
    refine fr_bnd hf (fun l6_8 hf => ?_)
    exact ih _ _ _ _ _ _  hf
theorem f_m_parts_b49 {ab : Nat} {N : Nat} {K29 : Int32 → Int32 → xS → Option (Int32 × xS)} {K37 : Int32 → Int32 → Int32 → xS → Option (Int32 × xS)} {r : Int32} {σ' : xS} (hK29 : ∀ (a0 : Int32) (a1 : Int32) (σ : xS), K29 a0 a1 σ = some (r, σ') → fr [18] [12, 13, 14, 15, 16, 17] σ σ') (hK37 : ∀ (a0 : Int32) (a1 : Int32) (a2 : Int32) (σ : xS), K37 a0 a1 a2 σ = some (r, σ') → fr [18] [12, 13, 14, 15, 16, 17] σ σ') : ∀ (n : Nat) (l2 : Int32) (l3 : Int32) (l4 : Int32) (l5 : Int32) (σ : xS), m_parts_b49 ab N K29 K37 n l2 l3 l4 l5 σ = some (r, σ') → fr [18] [12, 13, 14, 15, 16, 17] σ σ' := by
  intro n
  induction n with
  | zero =>
    intro l2 l3 l4 l5 σ hf
    rw [m_parts_b49] at hf
    cases hf
  | succ n ih =>
    intro l2 l3 l4 l5 σ hf
    rw [m_parts_b49] at hf
    refine fr_if hf (fun hf => ?_) (fun hf => ?_)
    · refine fr_bnd hf (fun l4_3 hf => ?_)
      exact hK37 _ _ _ _  hf
    exact f_m_parts_b61 hK29 hK37 ih _ _ _ _ _ _ _ hf
theorem f_m_parts_b37 {ab : Nat} {N : Nat} {K29 : Int32 → Int32 → xS → Option (Int32 × xS)} {r : Int32} {σ' : xS} (hK29 : ∀ (a0 : Int32) (a1 : Int32) (σ : xS), K29 a0 a1 σ = some (r, σ') → fr [18] [12, 13, 14, 15, 16, 17] σ σ') : ∀ (n : Nat) (l2 : Int32) (l3 : Int32) (l4 : Int32) (σ : xS), m_parts_b37 ab N K29 n l2 l3 l4 σ = some (r, σ') → fr [18] [12, 13, 14, 15, 16, 17] σ σ' := by
  intro n
  induction n with
  | zero =>
    intro l2 l3 l4 σ hf
    rw [m_parts_b37] at hf
    cases hf
  | succ n ih =>
    intro l2 l3 l4 σ hf
    rw [m_parts_b37] at hf
    refine fr_if hf (fun hf => ?_) (fun hf => ?_)
    · refine fr_bnd hf (fun l3_2 hf => ?_)
      exact hK29 _ _ _  hf
    exact f_m_parts_b49 hK29 ih _ _ _ _ _ _ hf
theorem f_m_parts_b29 {ab : Nat} {N : Nat} {r : Int32} {σ' : xS} : ∀ (n : Nat) (l2 : Int32) (l3 : Int32) (σ : xS), m_parts_b29 ab N n l2 l3 σ = some (r, σ') → fr [18] [12, 13, 14, 15, 16, 17] σ σ' := by
  intro n
  induction n with
  | zero =>
    intro l2 l3 σ hf
    rw [m_parts_b29] at hf
    cases hf
  | succ n ih =>
    intro l2 l3 σ hf
    rw [m_parts_b29] at hf
    refine fr_if hf (fun hf => ?_) (fun hf => ?_)
    · exact fr_some hf
    exact f_m_parts_b37 ih _ _ _ _ _ hf
theorem f_m_parts_b2 {ab : Nat} {N : Nat} {r : Int32} {σ' : xS} : ∀ (n : Nat) (l2 : Int32) (l3 : Int32) (σ : xS), m_parts_b2 ab N n l2 l3 σ = some (r, σ') → fr [18] [12, 13, 14, 15, 16, 17] σ σ' := by
  intro n
  induction n with
  | zero =>
    intro l2 l3 σ hf
    rw [m_parts_b2] at hf
    cases hf
  | succ n ih =>
    intro l2 l3 σ hf
    rw [m_parts_b2] at hf
    refine fr_if hf (fun hf => ?_) (fun hf => ?_)
    · refine fr_put hf (by decide) (fun σ1 hf => ?_)
      exact f_m_parts_b29 _ _ _ _ hf
    refine fr_ast hf (by decide) (fun σ17 hf => ?_)
    refine fr_bnd hf (fun l3_18 hf => ?_)
    exact ih _ _ _  hf
theorem f_m_parts {ab : Nat} {N : Nat} {l2 : Int32} {r : Int32} {σ σ' : xS} (hf : m_parts ab N l2 σ = some (r, σ')) : fr [18] [12, 13, 14, 15, 16, 17] σ σ' := by
  unfold m_parts at hf
  exact f_m_parts_b2 _ _ _ _ hf
theorem f_m_draw_b158 {N : Nat} {K49 : Int32 → Int32 → Int32 → Int32 → xS → Option (Int32 × xS)} {r : Int32} {σ' : xS} (hK49 : ∀ (a0 : Int32) (a1 : Int32) (a2 : Int32) (a3 : Int32) (σ : xS), K49 a0 a1 a2 a3 σ = some (r, σ') → fr [16, 17, 18] [10, 11, 12, 13, 14, 15, 16, 17] σ σ') : ∀ (n : Nat) (l1 : Int32) (l2 : Int32) (l3 : Int32) (l4 : Int32) (l8 : Int32) (σ : xS), m_draw_b158 N K49 n l1 l2 l3 l4 l8 σ = some (r, σ') → fr [16, 17, 18] [10, 11, 12, 13, 14, 15, 16, 17] σ σ' := by
  intro n
  induction n with
  | zero =>
    intro l1 l2 l3 l4 l8 σ hf
    rw [m_draw_b158] at hf
    cases hf
  | succ n ih =>
    intro l1 l2 l3 l4 l8 σ hf
    rw [m_draw_b158] at hf
    refine fr_if hf (fun hf => ?_) (fun hf => ?_)
    · refine fr_bnd hf (fun l4_15 hf => ?_)
      exact hK49 _ _ _ _ _  hf
    refine fr_ald hf (fun v16 hf => ?_)
    refine fr_ast hf (by decide) (fun σ17 hf => ?_)
    refine fr_bnd hf (fun l8_18 hf => ?_)
    exact ih _ _ _ _ _ _  hf
theorem f_m_draw_b67 {N : Nat} {K49 : Int32 → Int32 → Int32 → Int32 → xS → Option (Int32 × xS)} {r : Int32} {σ' : xS} (hK49 : ∀ (a0 : Int32) (a1 : Int32) (a2 : Int32) (a3 : Int32) (σ : xS), K49 a0 a1 a2 a3 σ = some (r, σ') → fr [16, 17, 18] [10, 11, 12, 13, 14, 15, 16, 17] σ σ') : ∀ (n : Nat) (l1 : Int32) (l2 : Int32) (l3 : Int32) (l4 : Int32) (l5 : Int32) (l6 : Int32) (l7 : Int32) (σ : xS), m_draw_b67 N K49 n l1 l2 l3 l4 l5 l6 l7 σ = some (r, σ') → fr [16, 17, 18] [10, 11, 12, 13, 14, 15, 16, 17] σ σ' := by
  intro n
  induction n with
  | zero =>
    intro l1 l2 l3 l4 l5 l6 l7 σ hf
    rw [m_draw_b67] at hf
    cases hf
  | succ n ih =>
    intro l1 l2 l3 l4 l5 l6 l7 σ hf
    rw [m_draw_b67] at hf
    refine fr_if hf (fun hf => ?_) (fun hf => ?_)
    · refine fr_cal hf (fun _ _ h => fr_mono (f_m_ones h) (fun _ h => by cases h) (fun _ h => by cases h)) (fun v8 σ9 hf => ?_)
      refine fr_if hf (fun hf => ?_) (fun hf => ?_)
      · refine fr_bnd hf (fun l4_10 hf => ?_)
        exact hK49 _ _ _ _ _  hf
      refine fr_cal hf (fun _ _ h => fr_mono (f_m_covers h) (fun _ h => by cases h) (fun _ h => by cases h)) (fun v11 σ12 hf => ?_)
      refine fr_if hf (fun hf => ?_) (fun hf => ?_)
      · refine fr_bnd hf (fun l4_20 hf => ?_)
        exact hK49 _ _ _ _ _  hf
      refine fr_cal hf (fun _ _ h => fr_mono (f_m_parts h) (by decide) (by decide)) (fun v13 σ14 hf => ?_)
      refine fr_if hf (fun hf => ?_) (fun hf => ?_)
      · exact f_m_draw_b158 hK49 _ _ _ _ _ _ _ hf
      refine fr_bnd hf (fun l4_19 hf => ?_)
      exact hK49 _ _ _ _ _  hf
    refine fr_gdz hf (fun hf => ?_)
    refine fr_ast hf (by decide) (fun σ21 hf => ?_)
    refine fr_gdz hf (fun hf => ?_)
    refine fr_bnd hf (fun l5_22 hf => ?_)
    refine fr_ald hf (fun v23 hf => ?_)
    refine fr_bnd hf (fun l6_24 hf => ?_)
    refine fr_bnd hf (fun l7_25 hf => ?_)
    exact ih _ _ _ _ _ _ _ _  hf
theorem f_m_draw_b49 {N : Nat} {r : Int32} {σ' : xS} : ∀ (n : Nat) (l1 : Int32) (l2 : Int32) (l3 : Int32) (l4 : Int32) (σ : xS), m_draw_b49 N n l1 l2 l3 l4 σ = some (r, σ') → fr [16, 17, 18] [10, 11, 12, 13, 14, 15, 16, 17] σ σ' := by
  intro n
  induction n with
  | zero =>
    intro l1 l2 l3 l4 σ hf
    rw [m_draw_b49] at hf
    cases hf
  | succ n ih =>
    intro l1 l2 l3 l4 σ hf
    rw [m_draw_b49] at hf
    refine fr_if hf (fun hf => ?_) (fun hf => ?_)
    · refine fr_put hf (by decide) (fun σ3 hf => ?_)
      refine fr_put hf (by decide) (fun σ4 hf => ?_)
      refine fr_cal hf (fun _ _ h => fr_mono (f_m_parts h) (by decide) (by decide)) (fun v5 σ6 hf => ?_)
      exact fr_some hf
    refine fr_bnd hf (fun l7_7 hf => ?_)
    exact f_m_draw_b67 ih _ _ _ _ _ _ _ _ _ hf
theorem f_m_draw_b27 {N : Nat} {r : Int32} {σ' : xS} : ∀ (n : Nat) (l1 : Int32) (l2 : Int32) (l3 : Int32) (σ : xS), m_draw_b27 N n l1 l2 l3 σ = some (r, σ') → fr [16, 17, 18] [10, 11, 12, 13, 14, 15, 16, 17] σ σ' := by
  intro n
  induction n with
  | zero =>
    intro l1 l2 l3 σ hf
    rw [m_draw_b27] at hf
    cases hf
  | succ n ih =>
    intro l1 l2 l3 σ hf
    rw [m_draw_b27] at hf
    refine fr_if hf (fun hf => ?_) (fun hf => ?_)
    · exact f_m_draw_b49 _ _ _ _ _ _ hf
    refine fr_bnd hf (fun l2_26 hf => ?_)
    refine fr_bnd hf (fun l3_27 hf => ?_)
    exact ih _ _ _ _  hf
theorem f_m_draw {N : Nat} {r : Int32} {σ σ' : xS} (hf : m_draw N σ = some (r, σ')) : fr [16, 17, 18] [10, 11, 12, 13, 14, 15, 16, 17] σ σ' := by
  unfold m_draw at hf
  refine fr_if hf (fun hf => ?_) (fun hf => ?_)
  · exact fr_some hf
  refine fr_cal hf (fun _ _ h => fr_mono (f_m_fewest h) (fun _ h => by cases h) (fun _ h => by cases h)) (fun v1 σ2 hf => ?_)
  refine fr_if hf (fun hf => ?_) (fun hf => ?_)
  · exact fr_some hf
  exact f_m_draw_b27 _ _ _ _ _ hf
theorem f_m_way {N : Nat} {l1 : Int32} {r : Int32} {σ σ' : xS} (hf : m_way N l1 σ = some (r, σ')) : fr [] [] σ σ' := by
  unfold m_way at hf
  refine fr_if hf (fun hf => ?_) (fun hf => ?_)
  · exact fr_some hf
  refine fr_if hf (fun hf => ?_) (fun hf => ?_)
  · exact fr_some hf
  refine fr_if hf (fun hf => ?_) (fun hf => ?_)
  · exact fr_some hf
  refine fr_ald hf (fun v1 hf => ?_)
  exact fr_some hf
theorem f_m_pieceAt {N : Nat} {l1 : Int32} {l2 : Int32} {l3 : Int32} {r : Int32} {σ σ' : xS} (hf : m_pieceAt N l1 l2 l3 σ = some (r, σ')) : fr [] [] σ σ' := by
  unfold m_pieceAt at hf
  refine fr_if hf (fun hf => ?_) (fun hf => ?_)
  · exact fr_some hf
  refine fr_cal hf (fun _ _ h => fr_mono (f_m_isMould h) (fun _ h => by cases h) (fun _ h => by cases h)) (fun v1 σ2 hf => ?_)
  refine fr_if hf (fun hf => ?_) (fun hf => ?_)
  · exact fr_some hf
  refine fr_cal hf (fun _ _ h => fr_mono (f_m_place h) (fun _ h => by cases h) (fun _ h => by cases h)) (fun v3 σ4 hf => ?_)
  refine fr_ald hf (fun v5 hf => ?_)
  refine fr_if hf (fun hf => ?_) (fun hf => ?_)
  · refine fr_cal hf (fun _ _ h => fr_mono (f_m_place h) (fun _ h => by cases h) (fun _ h => by cases h)) (fun v6 σ7 hf => ?_)
    refine fr_ald hf (fun v8 hf => ?_)
    exact fr_some hf
  exact fr_some hf
theorem f_m_isPiece {N : Nat} {l1 : Int32} {r : Int32} {σ σ' : xS} (hf : m_isPiece N l1 σ = some (r, σ')) : fr [] [] σ σ' := by
  unfold m_isPiece at hf
  refine fr_if hf (fun hf => ?_) (fun hf => ?_)
  · exact fr_some hf
  refine fr_if hf (fun hf => ?_) (fun hf => ?_)
  · exact fr_some hf
  refine fr_if hf (fun hf => ?_) (fun hf => ?_)
  · exact fr_some hf
  exact fr_some hf
theorem f_m_bears {N : Nat} {l1 : Int32} {r : Int32} {σ σ' : xS} (hf : m_bears N l1 σ = some (r, σ')) : fr [] [] σ σ' := by
  unfold m_bears at hf
  refine fr_ald hf (fun v1 hf => ?_)
  refine fr_if hf (fun hf => ?_) (fun hf => ?_)
  · refine fr_ald hf (fun v2 hf => ?_)
    exact fr_some hf
  exact fr_some hf
theorem f_m_piece {N : Nat} {l1 : Int32} {l2 : Int32} {r : Int32} {σ σ' : xS} (hf : m_piece N l1 l2 σ = some (r, σ')) : fr [] [] σ σ' := by
  unfold m_piece at hf
  refine fr_cal hf (fun _ _ h => fr_mono (f_m_isPiece h) (fun _ h => by cases h) (fun _ h => by cases h)) (fun v1 σ2 hf => ?_)
  refine fr_if hf (fun hf => ?_) (fun hf => ?_)
  · exact fr_some hf
  refine fr_if hf (fun hf => ?_) (fun hf => ?_)
  · refine fr_ald hf (fun v3 hf => ?_)
    exact fr_some hf
  refine fr_if hf (fun hf => ?_) (fun hf => ?_)
  · refine fr_ald hf (fun v4 hf => ?_)
    exact fr_some hf
  refine fr_if hf (fun hf => ?_) (fun hf => ?_)
  · refine fr_ald hf (fun v5 hf => ?_)
    exact fr_some hf
  refine fr_if hf (fun hf => ?_) (fun hf => ?_)
  · refine fr_cal hf (fun _ _ h => fr_mono (f_m_bears h) (fun _ h => by cases h) (fun _ h => by cases h)) (fun v6 σ7 hf => ?_)
    exact fr_some hf
  refine fr_if hf (fun hf => ?_) (fun hf => ?_)
  · refine fr_ald hf (fun v8 hf => ?_)
    exact fr_some hf
  exact fr_some hf
theorem f_m_wear {N : Nat} {l1 : Int32} {l2 : Int32} {r : Int32} {σ σ' : xS} (hf : m_wear N l1 l2 σ = some (r, σ')) : fr [19, 20] [] σ σ' := by
  unfold m_wear at hf
  refine fr_cal hf (fun _ _ h => fr_mono (f_m_isIn h) (fun _ h => by cases h) (fun _ h => by cases h)) (fun v1 σ2 hf => ?_)
  refine fr_if hf (fun hf => ?_) (fun hf => ?_)
  · exact fr_some hf
  refine fr_cal hf (fun _ _ h => fr_mono (f_m_isIn h) (fun _ h => by cases h) (fun _ h => by cases h)) (fun v3 σ4 hf => ?_)
  refine fr_if hf (fun hf => ?_) (fun hf => ?_)
  · exact fr_some hf
  refine fr_put hf (by decide) (fun σ5 hf => ?_)
  refine fr_put hf (by decide) (fun σ6 hf => ?_)
  exact fr_some hf
theorem f_m_isBorne_b2 {N : Nat} {r : Int32} {σ' : xS} : ∀ (n : Nat) (l1 : Int32) (σ : xS), m_isBorne_b2 N n l1 σ = some (r, σ') → fr [] [] σ σ' := by
  intro n
  induction n with
  | zero =>
    intro l1 σ hf
    rw [m_isBorne_b2] at hf
    cases hf
  | succ n ih =>
    intro l1 σ hf
    rw [m_isBorne_b2] at hf
    refine fr_if hf (fun hf => ?_) (fun hf => ?_)
    · exact fr_some hf
    refine fr_ald hf (fun v1 hf => ?_)
    refine fr_cal hf (fun _ _ h => fr_mono (f_m_bears h) (fun _ h => by cases h) (fun _ h => by cases h)) (fun v2 σ3 hf => ?_)
    refine fr_if hf (fun hf => ?_) (fun hf => ?_)
    · refine fr_bnd hf (fun l1_4 hf => ?_)
      exact ih _ _  hf
    exact fr_some hf
theorem f_m_isBorne {N : Nat} {r : Int32} {σ σ' : xS} (hf : m_isBorne N σ = some (r, σ')) : fr [] [] σ σ' := by
  unfold m_isBorne at hf
  exact f_m_isBorne_b2 _ _ _ hf
theorem f_m_pours_b2 {N : Nat} {r : Int32} {σ' : xS} : ∀ (n : Nat) (l1 : Int32) (σ : xS), m_pours_b2 N n l1 σ = some (r, σ') → fr [] [17] σ σ' := by
  intro n
  induction n with
  | zero =>
    intro l1 σ hf
    rw [m_pours_b2] at hf
    cases hf
  | succ n ih =>
    intro l1 σ hf
    rw [m_pours_b2] at hf
    refine fr_if hf (fun hf => ?_) (fun hf => ?_)
    · exact fr_some hf
    refine fr_ald hf (fun v1 hf => ?_)
    refine fr_ast hf (by decide) (fun σ2 hf => ?_)
    refine fr_bnd hf (fun l1_3 hf => ?_)
    exact ih _ _  hf
theorem f_m_pours {N : Nat} {r : Int32} {σ σ' : xS} (hf : m_pours N σ = some (r, σ')) : fr [] [17] σ σ' := by
  unfold m_pours at hf
  exact f_m_pours_b2 _ _ _ hf
theorem f_m_pour_b22 {N : Nat} {r : Int32} {σ' : xS} : ∀ (n : Nat) (l1 : Int32) (l2 : Int32) (σ : xS), m_pour_b22 N n l1 l2 σ = some (r, σ') → fr [] [17] σ σ' := by
  intro n
  induction n with
  | zero =>
    intro l1 l2 σ hf
    rw [m_pour_b22] at hf
    cases hf
  | succ n ih =>
    intro l1 l2 σ hf
    rw [m_pour_b22] at hf
    refine fr_if hf (fun hf => ?_) (fun hf => ?_)
    · exact fr_some hf
    refine fr_cal hf (fun _ _ h => fr_mono (f_m_isBorne h) (fun _ h => by cases h) (fun _ h => by cases h)) (fun v3 σ4 hf => ?_)
    refine fr_if hf (fun hf => ?_) (fun hf => ?_)
    · exact fr_some hf
    refine fr_cal hf (fun _ _ h => fr_mono (f_m_pours h) (fun _ h => by cases h) (by decide)) (fun _ σ6 hf => ?_)
    refine fr_bnd hf (fun l2_7 hf => ?_)
    exact ih _ _ _  hf
theorem f_m_pour {N : Nat} {l1 : Int32} {r : Int32} {σ σ' : xS} (hf : m_pour N l1 σ = some (r, σ')) : fr [] [17] σ σ' := by
  unfold m_pour at hf
  refine fr_if hf (fun hf => ?_) (fun hf => ?_)
  · exact fr_some hf
  refine fr_cal hf (fun _ _ h => fr_mono (f_m_isIn h) (fun _ h => by cases h) (fun _ h => by cases h)) (fun v1 σ2 hf => ?_)
  refine fr_if hf (fun hf => ?_) (fun hf => ?_)
  · exact fr_some hf
  exact f_m_pour_b22 _ _ _ _ hf
theorem f_m_mend {N : Nat} {l1 : Int32} {r : Int32} {σ σ' : xS} (hf : m_mend N l1 σ = some (r, σ')) : fr [] [17] σ σ' := by
  unfold m_mend at hf
  refine fr_cal hf (fun _ _ h => fr_mono (f_m_isPiece h) (fun _ h => by cases h) (fun _ h => by cases h)) (fun v1 σ2 hf => ?_)
  refine fr_if hf (fun hf => ?_) (fun hf => ?_)
  · exact fr_some hf
  refine fr_ast hf (by decide) (fun σ3 hf => ?_)
  refine fr_ald hf (fun v4 hf => ?_)
  exact fr_some hf
theorem f_m_run_b32 {N : Nat} {K24 : Int32 → Int32 → Int32 → xS → Option (Int32 × xS)} {r : Int32} {σ' : xS} (hK24 : ∀ (a0 : Int32) (a1 : Int32) (a2 : Int32) (σ : xS), K24 a0 a1 a2 σ = some (r, σ') → fr [] [17] σ σ') : ∀ (n : Nat) (l1 : Int32) (l2 : Int32) (l3 : Int32) (l4 : Int32) (σ : xS), m_run_b32 N K24 n l1 l2 l3 l4 σ = some (r, σ') → fr [] [17] σ σ' := by
  intro n
  induction n with
  | zero =>
    intro l1 l2 l3 l4 σ hf
    rw [m_run_b32] at hf
    cases hf
  | succ n ih =>
    intro l1 l2 l3 l4 σ hf
    rw [m_run_b32] at hf
    refine fr_if hf (fun hf => ?_) (fun hf => ?_)
    · refine fr_cal hf (fun _ _ h => fr_mono (f_m_pours h) (fun _ h => by cases h) (by decide)) (fun _ σ4 hf => ?_)
      refine fr_bnd hf (fun l3_5 hf => ?_)
      exact hK24 _ _ _ _  hf
    refine fr_ald hf (fun v6 hf => ?_)
    refine fr_cal hf (fun _ _ h => fr_mono (f_m_bears h) (fun _ h => by cases h) (fun _ h => by cases h)) (fun v7 σ8 hf => ?_)
    refine fr_if hf (fun hf => ?_) (fun hf => ?_)
    · refine fr_bnd hf (fun l4_9 hf => ?_)
      exact ih _ _ _ _ _  hf
    refine fr_cal hf (fun _ _ h => fr_mono (f_m_mend h) (fun _ h => by cases h) (by decide)) (fun v10 σ11 hf => ?_)
    refine fr_bnd hf (fun l2_12 hf => ?_)
    refine fr_bnd hf (fun l4_13 hf => ?_)
    exact ih _ _ _ _ _  hf
theorem f_m_run_b24 {N : Nat} {r : Int32} {σ' : xS} : ∀ (n : Nat) (l1 : Int32) (l2 : Int32) (l3 : Int32) (σ : xS), m_run_b24 N n l1 l2 l3 σ = some (r, σ') → fr [] [17] σ σ' := by
  intro n
  induction n with
  | zero =>
    intro l1 l2 l3 σ hf
    rw [m_run_b24] at hf
    cases hf
  | succ n ih =>
    intro l1 l2 l3 σ hf
    rw [m_run_b24] at hf
    refine fr_if hf (fun hf => ?_) (fun hf => ?_)
    · exact fr_some hf
    exact f_m_run_b32 ih _ _ _ _ _ _ hf
theorem f_m_run {N : Nat} {l1 : Int32} {r : Int32} {σ σ' : xS} (hf : m_run N l1 σ = some (r, σ')) : fr [] [17] σ σ' := by
  unfold m_run at hf
  refine fr_if hf (fun hf => ?_) (fun hf => ?_)
  · exact fr_some hf
  refine fr_cal hf (fun _ _ h => fr_mono (f_m_isIn h) (fun _ h => by cases h) (fun _ h => by cases h)) (fun v1 σ2 hf => ?_)
  refine fr_if hf (fun hf => ?_) (fun hf => ?_)
  · exact fr_some hf
  exact f_m_run_b24 _ _ _ _ _ hf
theorem f_m_dry {N : Nat} {l1 : Int32} {r : Int32} {σ σ' : xS} (hf : m_dry N l1 σ = some (r, σ')) : fr [21] [] σ σ' := by
  unfold m_dry at hf
  refine fr_cal hf (fun _ _ h => fr_mono (f_m_isIn h) (fun _ h => by cases h) (fun _ h => by cases h)) (fun v1 σ2 hf => ?_)
  refine fr_if hf (fun hf => ?_) (fun hf => ?_)
  · exact fr_some hf
  refine fr_bnd hf (fun l2_3 hf => ?_)
  refine fr_put hf (by decide) (fun σ4 hf => ?_)
  exact fr_some hf
theorem f_m_order_b59 {N : Nat} {r : Int32} {σ' : xS} : ∀ (l1 : Int32) (l2 : Int32) (l3 : Int32) (l4 : Int32) (σ : xS), m_order_b59 N l1 l2 l3 l4 σ = some (r, σ') → fr [] [18, 19, 20, 21] σ σ' := by
  intro l1 l2 l3 l4 σ hf
  unfold m_order_b59 at hf
  refine fr_if hf (fun hf => ?_) (fun hf => ?_)
  · exact fr_some hf
  refine fr_ast hf (by decide) (fun σ7 hf => ?_)
  refine fr_ast hf (by decide) (fun σ8 hf => ?_)
  refine fr_ast hf (by decide) (fun σ9 hf => ?_)
  refine fr_ast hf (by decide) (fun σ10 hf => ?_)
  exact fr_some hf
theorem f_m_order_b36 {N : Nat} {r : Int32} {σ' : xS} : ∀ (n : Nat) (l1 : Int32) (l2 : Int32) (l3 : Int32) (l4 : Int32) (σ : xS), m_order_b36 N n l1 l2 l3 l4 σ = some (r, σ') → fr [] [18, 19, 20, 21] σ σ' := by
  intro n
  induction n with
  | zero =>
    intro l1 l2 l3 l4 σ hf
    rw [m_order_b36] at hf
    cases hf
  | succ n ih =>
    intro l1 l2 l3 l4 σ hf
    rw [m_order_b36] at hf
    refine fr_if hf (fun hf => ?_) (fun hf => ?_)
    · exact f_m_order_b59 _ _ _ _ _ hf
    refine fr_ald hf (fun v11 hf => ?_)
    refine fr_if hf (fun hf => ?_) (fun hf => ?_)
    · exact f_m_order_b59 _ _ _ _ _ hf
    refine fr_bnd hf (fun l4_12 hf => ?_)
    exact ih _ _ _ _ _  hf
theorem f_m_order {N : Nat} {l1 : Int32} {l2 : Int32} {l3 : Int32} {r : Int32} {σ σ' : xS} (hf : m_order N l1 l2 l3 σ = some (r, σ')) : fr [] [18, 19, 20, 21] σ σ' := by
  unfold m_order at hf
  refine fr_cal hf (fun _ _ h => fr_mono (f_m_isIn h) (fun _ h => by cases h) (fun _ h => by cases h)) (fun v1 σ2 hf => ?_)
  refine fr_if hf (fun hf => ?_) (fun hf => ?_)
  · exact fr_some hf
  refine fr_cal hf (fun _ _ h => fr_mono (f_m_isIn h) (fun _ h => by cases h) (fun _ h => by cases h)) (fun v3 σ4 hf => ?_)
  refine fr_if hf (fun hf => ?_) (fun hf => ?_)
  · exact fr_some hf
  refine fr_cal hf (fun _ _ h => fr_mono (f_m_isIn h) (fun _ h => by cases h) (fun _ h => by cases h)) (fun v5 σ6 hf => ?_)
  refine fr_if hf (fun hf => ?_) (fun hf => ?_)
  · exact fr_some hf
  exact f_m_order_b36 _ _ _ _ _ _ hf
theorem f_m_cancel {N : Nat} {l1 : Int32} {r : Int32} {σ σ' : xS} (hf : m_cancel N l1 σ = some (r, σ')) : fr [] [18] σ σ' := by
  unfold m_cancel at hf
  refine fr_if hf (fun hf => ?_) (fun hf => ?_)
  · exact fr_some hf
  refine fr_if hf (fun hf => ?_) (fun hf => ?_)
  · exact fr_some hf
  refine fr_ald hf (fun v1 hf => ?_)
  refine fr_if hf (fun hf => ?_) (fun hf => ?_)
  · exact fr_some hf
  refine fr_ast hf (by decide) (fun σ2 hf => ?_)
  exact fr_some hf
theorem f_m_poursOf_b4 {N : Nat} {r : Int32} {σ' : xS} : ∀ (n : Nat) (l1 : Int32) (l2 : Int32) (l3 : Int32) (σ : xS), m_poursOf_b4 N n l1 l2 l3 σ = some (r, σ') → fr [] [] σ σ' := by
  intro n
  induction n with
  | zero =>
    intro l1 l2 l3 σ hf
    rw [m_poursOf_b4] at hf
    cases hf
  | succ n ih =>
    intro l1 l2 l3 σ hf
    rw [m_poursOf_b4] at hf
    refine fr_if hf (fun hf => ?_) (fun hf => ?_)
    · exact fr_some hf
    refine fr_if hf (fun hf => ?_) (fun hf => ?_)
    · refine fr_ald hf (fun v2 hf => ?_)
      refine fr_bnd hf (fun l2_3 hf => ?_)
      refine fr_bnd hf (fun l3_4 hf => ?_)
      exact ih _ _ _ _  hf
    refine fr_bnd hf (fun l3_1 hf => ?_)
    exact ih _ _ _ _  hf
theorem f_m_poursOf {N : Nat} {l1 : Int32} {r : Int32} {σ σ' : xS} (hf : m_poursOf N l1 σ = some (r, σ')) : fr [] [] σ σ' := by
  unfold m_poursOf at hf
  exact f_m_poursOf_b4 _ _ _ _ _ hf
theorem f_m_lateOf {N : Nat} {l1 : Int32} {l2 : Int32} {r : Int32} {σ σ' : xS} (hf : m_lateOf N l1 l2 σ = some (r, σ')) : fr [] [] σ σ' := by
  unfold m_lateOf at hf
  refine fr_cal hf (fun _ _ h => fr_mono (f_m_poursOf h) (fun _ h => by cases h) (fun _ h => by cases h)) (fun v1 σ2 hf => ?_)
  refine fr_ald hf (fun v3 hf => ?_)
  refine fr_ald hf (fun v4 hf => ?_)
  refine fr_bnd hf (fun l3_5 hf => ?_)
  refine fr_if hf (fun hf => ?_) (fun hf => ?_)
  · exact fr_some hf
  exact fr_some hf
theorem f_m_row_b170 {N : Nat} {K163 : Int32 → Int32 → xS → Option (Int32 × xS)} {r : Int32} {σ' : xS} (hK163 : ∀ (a0 : Int32) (a1 : Int32) (σ : xS), K163 a0 a1 σ = some (r, σ') → fr [22] [22, 23, 24] σ σ') : ∀ (n : Nat) (l1 : Int32) (l2 : Int32) (l3 : Int32) (σ : xS), m_row_b170 N K163 n l1 l2 l3 σ = some (r, σ') → fr [22] [22, 23, 24] σ σ' := by
  intro n
  induction n with
  | zero =>
    intro l1 l2 l3 σ hf
    rw [m_row_b170] at hf
    cases hf
  | succ n ih =>
    intro l1 l2 l3 σ hf
    rw [m_row_b170] at hf
    refine fr_if hf (fun hf => ?_) (fun hf => ?_)
    · refine fr_bnd hf (fun l3_3 hf => ?_)
      exact ih _ _ _ _  hf
    refine fr_if hf (fun hf => ?_) (fun hf => ?_)
    · refine fr_bnd hf (fun l3_4 hf => ?_)
      exact ih _ _ _ _  hf
    refine fr_ald hf (fun v5 hf => ?_)
    refine fr_cal hf (fun _ _ h => fr_mono (f_m_lateOf h) (fun _ h => by cases h) (fun _ h => by cases h)) (fun v6 σ7 hf => ?_)
    refine fr_ald hf (fun v8 hf => ?_)
    refine fr_ald hf (fun v9 hf => ?_)
    refine fr_if hf (fun hf => ?_) (fun hf => ?_)
    · refine fr_ast hf (by decide) (fun σ10 hf => ?_)
      refine fr_cal hf (fun _ _ h => fr_mono (f_m_lateOf h) (fun _ h => by cases h) (fun _ h => by cases h)) (fun v11 σ12 hf => ?_)
      refine fr_ast hf (by decide) (fun σ13 hf => ?_)
      refine fr_put hf (by decide) (fun σ14 hf => ?_)
      refine fr_bnd hf (fun l2_15 hf => ?_)
      exact hK163 _ _ _  hf
    refine fr_bnd hf (fun l3_16 hf => ?_)
    exact ih _ _ _ _  hf
theorem f_m_row_b163 {N : Nat} {r : Int32} {σ' : xS} : ∀ (n : Nat) (l1 : Int32) (l2 : Int32) (σ : xS), m_row_b163 N n l1 l2 σ = some (r, σ') → fr [22] [22, 23, 24] σ σ' := by
  intro n
  induction n with
  | zero =>
    intro l1 l2 σ hf
    rw [m_row_b163] at hf
    cases hf
  | succ n ih =>
    intro l1 l2 σ hf
    rw [m_row_b163] at hf
    refine fr_if hf (fun hf => ?_) (fun hf => ?_)
    · refine fr_ald hf (fun v2 hf => ?_)
      exact fr_some hf
    exact f_m_row_b170 ih _ _ _ _ _ hf
theorem f_m_row_b70 {N : Nat} {K39 : Int32 → Int32 → xS → Option (Int32 × xS)} {r : Int32} {σ' : xS} (hK39 : ∀ (a0 : Int32) (a1 : Int32) (σ : xS), K39 a0 a1 σ = some (r, σ') → fr [22] [22, 23, 24] σ σ') : ∀ (n : Nat) (l1 : Int32) (l2 : Int32) (l3 : Int32) (l4 : Int32) (σ : xS), m_row_b70 N K39 n l1 l2 l3 l4 σ = some (r, σ') → fr [22] [22, 23, 24] σ σ' := by
  intro n
  induction n with
  | zero =>
    intro l1 l2 l3 l4 σ hf
    rw [m_row_b70] at hf
    cases hf
  | succ n ih =>
    intro l1 l2 l3 l4 σ hf
    rw [m_row_b70] at hf
    refine fr_if hf (fun hf => ?_) (fun hf => ?_)
    · refine fr_ast hf (by decide) (fun σ17 hf => ?_)
      refine fr_bnd hf (fun l2_18 hf => ?_)
      exact hK39 _ _ _  hf
    refine fr_if hf (fun hf => ?_) (fun hf => ?_)
    · refine fr_bnd hf (fun l4_19 hf => ?_)
      exact ih _ _ _ _ _  hf
    refine fr_if hf (fun hf => ?_) (fun hf => ?_)
    · refine fr_bnd hf (fun l4_27 hf => ?_)
      exact ih _ _ _ _ _  hf
    refine fr_ald hf (fun v20 hf => ?_)
    refine fr_cal hf (fun _ _ h => fr_mono (f_m_lateOf h) (fun _ h => by cases h) (fun _ h => by cases h)) (fun v21 σ22 hf => ?_)
    refine fr_ald hf (fun v23 hf => ?_)
    refine fr_bnd hf (fun l5_24 hf => ?_)
    refine fr_if hf (fun hf => ?_) (fun hf => ?_)
    · refine fr_bnd hf (fun l4_25 hf => ?_)
      exact ih _ _ _ _ _  hf
    refine fr_bnd hf (fun l4_26 hf => ?_)
    exact ih _ _ _ _ _  hf
theorem f_m_row_b39 {N : Nat} {r : Int32} {σ' : xS} : ∀ (n : Nat) (l1 : Int32) (l2 : Int32) (σ : xS), m_row_b39 N n l1 l2 σ = some (r, σ') → fr [22] [22, 23, 24] σ σ' := by
  intro n
  induction n with
  | zero =>
    intro l1 l2 σ hf
    rw [m_row_b39] at hf
    cases hf
  | succ n ih =>
    intro l1 l2 σ hf
    rw [m_row_b39] at hf
    refine fr_if hf (fun hf => ?_) (fun hf => ?_)
    · refine fr_put hf (by decide) (fun σ1 hf => ?_)
      exact f_m_row_b163 _ _ _ _ hf
    refine fr_if hf (fun hf => ?_) (fun hf => ?_)
    · refine fr_if hf (fun hf => ?_) (fun hf => ?_)
      · exact f_m_row_b70 ih _ _ _ _ _ _ hf
      exact f_m_row_b70 ih _ _ _ _ _ _ hf
    refine fr_bnd hf (fun l2_28 hf => ?_)
    exact ih _ _ _  hf
theorem f_m_row_b4 {N : Nat} {r : Int32} {σ' : xS} : ∀ (n : Nat) (l1 : Int32) (l2 : Int32) (σ : xS), m_row_b4 N n l1 l2 σ = some (r, σ') → fr [22] [22, 23, 24] σ σ' := by
  intro n
  induction n with
  | zero =>
    intro l1 l2 σ hf
    rw [m_row_b4] at hf
    cases hf
  | succ n ih =>
    intro l1 l2 σ hf
    rw [m_row_b4] at hf
    refine fr_if hf (fun hf => ?_) (fun hf => ?_)
    · refine fr_if hf (fun hf => ?_) (fun hf => ?_)
      · exact fr_some hf
      exact f_m_row_b39 _ _ _ _ hf
    refine fr_ald hf (fun v29 hf => ?_)
    refine fr_if hf (fun hf => ?_) (fun hf => ?_)
    · refine fr_bnd hf (fun l2_30 hf => ?_)
      exact ih _ _ _  hf
    refine fr_bnd hf (fun l1_31 hf => ?_)
    refine fr_bnd hf (fun l2_32 hf => ?_)
    exact ih _ _ _  hf
theorem f_m_row {N : Nat} {r : Int32} {σ σ' : xS} (hf : m_row N σ = some (r, σ')) : fr [22] [22, 23, 24] σ σ' := by
  unfold m_row at hf
  exact f_m_row_b4 _ _ _ _ hf
theorem f_m_next_ {N : Nat} {l1 : Int32} {r : Int32} {σ σ' : xS} (hf : m_next_ N l1 σ = some (r, σ')) : fr [] [] σ σ' := by
  unfold m_next_ at hf
  refine fr_if hf (fun hf => ?_) (fun hf => ?_)
  · exact fr_some hf
  refine fr_if hf (fun hf => ?_) (fun hf => ?_)
  · exact fr_some hf
  refine fr_ald hf (fun v1 hf => ?_)
  exact fr_some hf
theorem f_m_late {N : Nat} {l1 : Int32} {r : Int32} {σ σ' : xS} (hf : m_late N l1 σ = some (r, σ')) : fr [] [] σ σ' := by
  unfold m_late at hf
  refine fr_if hf (fun hf => ?_) (fun hf => ?_)
  · exact fr_some hf
  refine fr_if hf (fun hf => ?_) (fun hf => ?_)
  · exact fr_some hf
  refine fr_ald hf (fun v1 hf => ?_)
  exact fr_some hf
theorem f_m_cast {N : Nat} {l1 : Int32} {l2 : Int32} {l3 : Int32} {r : Int32} {σ σ' : xS} (hf : m_cast N l1 l2 l3 σ = some (r, σ')) : fr [] [25, 26] σ σ' := by
  unfold m_cast at hf
  refine fr_if hf (fun hf => ?_) (fun hf => ?_)
  · exact fr_some hf
  refine fr_if hf (fun hf => ?_) (fun hf => ?_)
  · exact fr_some hf
  refine fr_cal hf (fun _ _ h => fr_mono (f_m_isIn h) (fun _ h => by cases h) (fun _ h => by cases h)) (fun v1 σ2 hf => ?_)
  refine fr_if hf (fun hf => ?_) (fun hf => ?_)
  · exact fr_some hf
  refine fr_if hf (fun hf => ?_) (fun hf => ?_)
  · refine fr_ast hf (by decide) (fun σ3 hf => ?_)
    refine fr_ast hf (by decide) (fun σ4 hf => ?_)
    exact fr_some hf
  refine fr_cal hf (fun _ _ h => fr_mono (f_m_isIn h) (fun _ h => by cases h) (fun _ h => by cases h)) (fun v5 σ6 hf => ?_)
  refine fr_if hf (fun hf => ?_) (fun hf => ?_)
  · exact fr_some hf
  refine fr_ast hf (by decide) (fun σ7 hf => ?_)
  refine fr_ast hf (by decide) (fun σ8 hf => ?_)
  exact fr_some hf
theorem f_m_copies {N : Nat} {l1 : Int32} {l2 : Int32} {l3 : Int32} {r : Int32} {σ σ' : xS} (hf : m_copies N l1 l2 l3 σ = some (r, σ')) : fr [23, 24, 25] [] σ σ' := by
  unfold m_copies at hf
  refine fr_cal hf (fun _ _ h => fr_mono (f_m_isIn h) (fun _ h => by cases h) (fun _ h => by cases h)) (fun v1 σ2 hf => ?_)
  refine fr_if hf (fun hf => ?_) (fun hf => ?_)
  · exact fr_some hf
  refine fr_cal hf (fun _ _ h => fr_mono (f_m_isIn h) (fun _ h => by cases h) (fun _ h => by cases h)) (fun v3 σ4 hf => ?_)
  refine fr_if hf (fun hf => ?_) (fun hf => ?_)
  · exact fr_some hf
  refine fr_cal hf (fun _ _ h => fr_mono (f_m_isIn h) (fun _ h => by cases h) (fun _ h => by cases h)) (fun v5 σ6 hf => ?_)
  refine fr_if hf (fun hf => ?_) (fun hf => ?_)
  · exact fr_some hf
  refine fr_put hf (by decide) (fun σ7 hf => ?_)
  refine fr_put hf (by decide) (fun σ8 hf => ?_)
  refine fr_put hf (by decide) (fun σ9 hf => ?_)
  exact fr_some hf
theorem f_m_isCast {N : Nat} {l1 : Int32} {r : Int32} {σ σ' : xS} (hf : m_isCast N l1 σ = some (r, σ')) : fr [] [] σ σ' := by
  unfold m_isCast at hf
  refine fr_if hf (fun hf => ?_) (fun hf => ?_)
  · exact fr_some hf
  refine fr_if hf (fun hf => ?_) (fun hf => ?_)
  · exact fr_some hf
  refine fr_ald hf (fun v1 hf => ?_)
  refine fr_if hf (fun hf => ?_) (fun hf => ?_)
  · exact fr_some hf
  exact fr_some hf
theorem f_m_far {N : Nat} {l0 : Int32} {l1 : Int32} {r : Int32} {σ σ' : xS} (hf : m_far N l0 l1 σ = some (r, σ')) : fr [] [] σ σ' := by
  unfold m_far at hf
  refine fr_if hf (fun hf => ?_) (fun hf => ?_)
  · exact fr_some hf
  exact fr_some hf
theorem f_m_quarrel {N : Nat} {l1 : Int32} {l2 : Int32} {r : Int32} {σ σ' : xS} (hf : m_quarrel N l1 l2 σ = some (r, σ')) : fr [] [] σ σ' := by
  unfold m_quarrel at hf
  refine fr_ald hf (fun v1 hf => ?_)
  refine fr_ald hf (fun v2 hf => ?_)
  refine fr_gdz hf (fun hf => ?_)
  refine fr_cal hf (fun _ _ h => fr_mono (f_m_far h) (fun _ h => by cases h) (fun _ h => by cases h)) (fun v3 σ4 hf => ?_)
  refine fr_ald hf (fun v5 hf => ?_)
  refine fr_ald hf (fun v6 hf => ?_)
  refine fr_gdz hf (fun hf => ?_)
  refine fr_cal hf (fun _ _ h => fr_mono (f_m_far h) (fun _ h => by cases h) (fun _ h => by cases h)) (fun v7 σ8 hf => ?_)
  exact fr_some hf
theorem f_m_mother_b77 {N : Nat} {K15 : Int32 → Int32 → Int32 → xS → Option (Int32 × xS)} {r : Int32} {σ' : xS} (hK15 : ∀ (a0 : Int32) (a1 : Int32) (a2 : Int32) (σ : xS), K15 a0 a1 a2 σ = some (r, σ') → fr [] [] σ σ') : ∀ (l1 : Int32) (l2 : Int32) (l3 : Int32) (σ : xS), m_mother_b77 N K15 l1 l2 l3 σ = some (r, σ') → fr [] [] σ σ' := by
  intro l1 l2 l3 σ hf
  unfold m_mother_b77 at hf
  refine fr_cal hf (fun _ _ h => fr_mono (f_m_quarrel h) (fun _ h => by cases h) (fun _ h => by cases h)) (fun v11 σ12 hf => ?_)
  refine fr_if hf (fun hf => ?_) (fun hf => ?_)
  · refine fr_bnd hf (fun l3_13 hf => ?_)
    exact hK15 _ _ _ _  hf
  refine fr_if hf (fun hf => ?_) (fun hf => ?_)
  · refine fr_bnd hf (fun l3_14 hf => ?_)
    exact hK15 _ _ _ _  hf
  refine fr_cal hf (fun _ _ h => fr_mono (f_m_quarrel h) (fun _ h => by cases h) (fun _ h => by cases h)) (fun v15 σ16 hf => ?_)
  refine fr_cal hf (fun _ _ h => fr_mono (f_m_quarrel h) (fun _ h => by cases h) (fun _ h => by cases h)) (fun v17 σ18 hf => ?_)
  refine fr_if hf (fun hf => ?_) (fun hf => ?_)
  · refine fr_bnd hf (fun l3_19 hf => ?_)
    exact hK15 _ _ _ _  hf
  refine fr_bnd hf (fun l3_20 hf => ?_)
  exact hK15 _ _ _ _  hf
theorem f_m_mother_b15 {N : Nat} {r : Int32} {σ' : xS} : ∀ (n : Nat) (l1 : Int32) (l2 : Int32) (l3 : Int32) (σ : xS), m_mother_b15 N n l1 l2 l3 σ = some (r, σ') → fr [] [] σ σ' := by
  intro n
  induction n with
  | zero =>
    intro l1 l2 l3 σ hf
    rw [m_mother_b15] at hf
    cases hf
  | succ n ih =>
    intro l1 l2 l3 σ hf
    rw [m_mother_b15] at hf
    refine fr_if hf (fun hf => ?_) (fun hf => ?_)
    · exact fr_some hf
    refine fr_cal hf (fun _ _ h => fr_mono (f_m_isCast h) (fun _ h => by cases h) (fun _ h => by cases h)) (fun v3 σ4 hf => ?_)
    refine fr_if hf (fun hf => ?_) (fun hf => ?_)
    · refine fr_bnd hf (fun l3_5 hf => ?_)
      exact ih _ _ _ _  hf
    refine fr_ald hf (fun v6 hf => ?_)
    refine fr_ald hf (fun v7 hf => ?_)
    refine fr_if hf (fun hf => ?_) (fun hf => ?_)
    · refine fr_bnd hf (fun l3_8 hf => ?_)
      exact ih _ _ _ _  hf
    refine fr_ald hf (fun v9 hf => ?_)
    refine fr_ald hf (fun v10 hf => ?_)
    refine fr_if hf (fun hf => ?_) (fun hf => ?_)
    · refine fr_ald hf (fun v21 hf => ?_)
      refine fr_ald hf (fun v22 hf => ?_)
      refine fr_if hf (fun hf => ?_) (fun hf => ?_)
      · exact f_m_mother_b77 ih _ _ _ _ hf
      refine fr_bnd hf (fun l3_23 hf => ?_)
      exact ih _ _ _ _  hf
    exact f_m_mother_b77 ih _ _ _ _ hf
theorem f_m_mother {N : Nat} {l1 : Int32} {r : Int32} {σ σ' : xS} (hf : m_mother N l1 σ = some (r, σ')) : fr [] [] σ σ' := by
  unfold m_mother at hf
  refine fr_cal hf (fun _ _ h => fr_mono (f_m_isCast h) (fun _ h => by cases h) (fun _ h => by cases h)) (fun v1 σ2 hf => ?_)
  refine fr_if hf (fun hf => ?_) (fun hf => ?_)
  · exact fr_some hf
  exact f_m_mother_b15 _ _ _ _ _ hf
theorem f_m_steps_b18 {N : Nat} {r : Int32} {σ' : xS} : ∀ (n : Nat) (l2 : Int32) (l3 : Int32) (σ : xS), m_steps_b18 N n l2 l3 σ = some (r, σ') → fr [] [] σ σ' := by
  intro n
  induction n with
  | zero =>
    intro l2 l3 σ hf
    rw [m_steps_b18] at hf
    cases hf
  | succ n ih =>
    intro l2 l3 σ hf
    rw [m_steps_b18] at hf
    refine fr_if hf (fun hf => ?_) (fun hf => ?_)
    · exact fr_some hf
    refine fr_bnd hf (fun l2_5 hf => ?_)
    refine fr_cal hf (fun _ _ h => fr_mono (f_m_mother h) (fun _ h => by cases h) (fun _ h => by cases h)) (fun v6 σ7 hf => ?_)
    exact ih _ _ _  hf
theorem f_m_steps {N : Nat} {l1 : Int32} {r : Int32} {σ σ' : xS} (hf : m_steps N l1 σ = some (r, σ')) : fr [] [] σ σ' := by
  unfold m_steps at hf
  refine fr_cal hf (fun _ _ h => fr_mono (f_m_isCast h) (fun _ h => by cases h) (fun _ h => by cases h)) (fun v1 σ2 hf => ?_)
  refine fr_if hf (fun hf => ?_) (fun hf => ?_)
  · exact fr_some hf
  refine fr_cal hf (fun _ _ h => fr_mono (f_m_mother h) (fun _ h => by cases h) (fun _ h => by cases h)) (fun v3 σ4 hf => ?_)
  exact f_m_steps_b18 _ _ _ _ hf
theorem f_m_told_b51 {N : Nat} {K15 : Int32 → Int32 → Int32 → xS → Option (Int32 × xS)} {r : Int32} {σ' : xS} (hK15 : ∀ (a0 : Int32) (a1 : Int32) (a2 : Int32) (σ : xS), K15 a0 a1 a2 σ = some (r, σ') → fr [] [] σ σ') : ∀ (l1 : Int32) (l2 : Int32) (l3 : Int32) (l4 : Int32) (σ : xS), m_told_b51 N K15 l1 l2 l3 l4 σ = some (r, σ') → fr [] [] σ σ' := by
  intro l1 l2 l3 l4 σ hf
  unfold m_told_b51 at hf
  refine fr_if hf (fun hf => ?_) (fun hf => ?_)
  · refine fr_if hf (fun hf => ?_) (fun hf => ?_)
    · refine fr_bnd hf (fun l3_6 hf => ?_)
      exact hK15 _ _ _ _  hf
    refine fr_cal hf (fun _ _ h => fr_mono (f_m_quarrel h) (fun _ h => by cases h) (fun _ h => by cases h)) (fun v7 σ8 hf => ?_)
    refine fr_bnd hf (fun l2_9 hf => ?_)
    refine fr_bnd hf (fun l3_10 hf => ?_)
    exact hK15 _ _ _ _  hf
  refine fr_bnd hf (fun l3_5 hf => ?_)
  exact hK15 _ _ _ _  hf
theorem f_m_told_b15 {N : Nat} {r : Int32} {σ' : xS} : ∀ (n : Nat) (l1 : Int32) (l2 : Int32) (l3 : Int32) (σ : xS), m_told_b15 N n l1 l2 l3 σ = some (r, σ') → fr [] [] σ σ' := by
  intro n
  induction n with
  | zero =>
    intro l1 l2 l3 σ hf
    rw [m_told_b15] at hf
    cases hf
  | succ n ih =>
    intro l1 l2 l3 σ hf
    rw [m_told_b15] at hf
    refine fr_if hf (fun hf => ?_) (fun hf => ?_)
    · exact fr_some hf
    refine fr_cal hf (fun _ _ h => fr_mono (f_m_isCast h) (fun _ h => by cases h) (fun _ h => by cases h)) (fun v1 σ2 hf => ?_)
    refine fr_if hf (fun hf => ?_) (fun hf => ?_)
    · refine fr_bnd hf (fun l3_12 hf => ?_)
      exact ih _ _ _ _  hf
    refine fr_cal hf (fun _ _ h => fr_mono (f_m_mother h) (fun _ h => by cases h) (fun _ h => by cases h)) (fun v3 σ4 hf => ?_)
    refine fr_if hf (fun hf => ?_) (fun hf => ?_)
    · refine fr_if hf (fun hf => ?_) (fun hf => ?_)
      · exact f_m_told_b51 ih _ _ _ _ _ hf
      refine fr_bnd hf (fun l2_11 hf => ?_)
      exact f_m_told_b51 ih _ _ _ _ _ hf
    exact f_m_told_b51 ih _ _ _ _ _ hf
theorem f_m_told {N : Nat} {l1 : Int32} {r : Int32} {σ σ' : xS} (hf : m_told N l1 σ = some (r, σ')) : fr [] [] σ σ' := by
  unfold m_told at hf
  refine fr_if hf (fun hf => ?_) (fun hf => ?_)
  · exact f_m_told_b15 _ _ _ _ _ hf
  refine fr_if hf (fun hf => ?_) (fun hf => ?_)
  · exact f_m_told_b15 _ _ _ _ _ hf
  exact fr_some hf
