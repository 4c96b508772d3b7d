theorem xc_ok {C : xT} {G : xG} {own : String} {cc : ByteArray} {nL : Nat} {ret : Option FieldType} {rm : Room} (hC : xc C G own cc nL ret rm) : xOk G := hC.2.2.2.2.2.2.2.2.2.2
theorem i32_ne {v k : Int32} {z : Int} (h : ¬ v = k) (hk : k.toInt = z) : ¬ v.toInt = z := fun e => h (Int32.toInt_inj.mp (e.trans hk.symm))
def xmax (x y : Int32) : Int32 := if x < y then y else x
def xmin (x y : Int32) : Int32 := if y < x then y else x
def xabs (x : Int32) : Int32 := if 0 ≤ x then x else 0 - x
/-- n places of row a come over those of row b -/
def cpy {α : Type} (σ : xS) (a b n : Nat) (X : xS → Option α) : Option α := X (σ.1, va_up σ.2 b (va_cpy (σ.2 a) (σ.2 b) 0 0 n))
/-- the i-th sign of word w -/
def sch {α : Type} (w : Nat) (i : Int32) (X : Int32 → Option α) : Option α := if xin i (xtl.getD w 0) = true then X ((xtb.getD w []).getD i.toNatClampNeg 0) else none
section XSP
variable {C : xT} {E : xE} {own : String} {cc : ByteArray} {nL : Nat} {ret : Option FieldType} {rm : Room} {Q : State → Prop} {σ : xS} {pc pc' : Nat} {lv : List (Nat × Value)} {st : List Value} {α : Type} {res : α}
theorem xr_copy {X : xS → Option α} (hC : xc C (GX E) RX0 cc nL ret rm) (hd : decode cc pc = .ok (.invokestatic 32, 3)) (hn : pc + 3 = pc') (hroom : 1 ≤ rm.frames ∧ (st.map fun v => v.category).sum + (nativeFrameWords "java/lang/System" "arraycopy" 5 + 11) ≤ rm.locals) (hf : cpy σ 4 2 1000 X = some res) (k : ∀ σ' : xS, X σ' = some res → xw C (GX E) nL Q σ' pc' lv st) : xw C (GX E) nL Q σ pc lv (.int 1000 :: .int 0 :: .ref (E.2.2.1 13) :: .int 0 :: .ref (E.2.2.1 15) :: st) := by
  obtain ⟨p, l, e, R, s, m, args, below, meth, c⟩ := C
  obtain ⟨hx, hb, hml, hown, hts, hK, hZ, hlk, hr, hR, hG⟩ := hC
  dsimp only at hR
  subst hn; subst hR
  intro H locs ls h1 h2 h3
  refine va_copyi (q0 := 15) (q1 := 13) (t0 := 0) (t1 := 0) hx hb (hml.trans h3.1.symm) hown (hts _ (TB_of (i := 516) (by decide +kernel) rfl)) (hts _ (TB_of (i := 518) (by decide +kernel) rfl)) (hts _ (TB_of (i := 517) (by decide +kernel) rfl)) (hts _ (TB_of (i := 76) (by decide +kernel) rfl)) hK h1 (hG.1 σ) h2 rfl rfl rfl rfl rfl (by decide) (by decide) (by decide) (by decide) (by decide) (fun _ _ => rfl) hroom.1 hroom.2 hd (fun H1 locs1 g1 g2 g3 => ?_)
  have g1 : va_P (GX E).1 xCl ((GX E).2.2.1 (σ.1, va_up σ.2 2 (va_cpy (σ.2 4) (σ.2 2) 0 0 1000))) H1 := g1
  exact k _ hf H1 locs1 ls g1 g3 h3
theorem xr_ldcS (w : Nat) {idx : Nat} (hC : xc C (GX E) RX8 cc nL ret rm) (hd : decode cc pc = .ok (.ldc idx, 2)) (hn : pc + 2 = pc') (hw : w < 7) (hi : (xtx.getD w (0, "")).1 = idx) (k : xw C (GX E) nL Q σ pc' lv (.ref (E.2.2.2.2.1 w) :: st)) : xw C (GX E) nL Q σ pc lv st := by
  obtain ⟨p, l, e, R, s, m, args, below, meth, c⟩ := C
  obtain ⟨hx, hb, hml, hown, hts, hK, hZ, hlk, hr, hR, hG⟩ := hC
  subst hn; subst hi
  intro H locs ls h1 h2 h3
  exact va_ldcS hx hb hown (hZ.2.2.2.1 w hw) hd (k H locs ls h1 h2 h3)
end XSP
