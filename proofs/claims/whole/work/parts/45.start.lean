theorem yr_istore_n {C : xT} {D : va_G} {A : Nat → Prop} {t : y3} {own : String} {cc : ByteArray} {nL : Nat} {ret : Option FieldType} {rm : Room} {Q : State → Prop} {ce sl : Nat} {ws : va_W} {pc pc' : Nat} {lv lv' : List (Nat × Value)} {st : List Value} {f : Fin 4} {i : Nat} {x : Int32} (hC : yc C D A t own cc nL ret rm) (hd : decode cc pc = .ok (.istore_n f, 1)) (hn : pc + 1 = pc') (hi : (f : Nat) = i) (hb0 : i < nL) (ks : List Nat) (hl : lv_pick ((i, Value.int x) :: lv.filter (fun q => !(q.1 == i) && !(q.1 + 1 == i && q.2.category == 2))) ks = lv') (k : yw C D A nL Q ce sl ws pc' lv' st) : yw C D A nL Q ce sl ws pc lv (.int x :: st) := by
  obtain ⟨p, l, e, R, s, m, args, below, meth, c⟩ := C
  obtain ⟨hx, hb, hml, hown, hts, hK, hA, hlk, hr, hR⟩ := hC
  subst hn
  intro H locs ls h1 hD h2 h3
  exact lv_istore_n hx hb hd hi h3 hb0 rfl (fun ls h3 => k H locs ls h1 hD h2 (lv_sub h3 ks hl))
/-- the states of new objects -/
def x0 : xS := (fun k => ([0, 0, 0, -1, 0, 0, 0, 0, 0, 0, 0, 0, 20, 1, 0, 2, 0, 990, 950, 50] : List Int32).getD k 0, fun _ _ => 0)
def m0 : xS := (fun k => ([0, 0, 0, 0, 0, 0, 0, 0, -1, 0, 0, 0, 0, 0, 0, 0, 0, 0, 0, 20, 1, 2, 0, 990, 950, 50] : List Int32).getD k 0, fun a => match a with
  | 1 => (upd (upd (upd (fun _ => 0) 0 (98 : Int32)) 1 (111 : Int32)) 2 (120 : Int32))
  | 2 => (upd (upd (upd (upd (fun _ => 0) 0 (104 : Int32)) 1 (111 : Int32)) 2 (108 : Int32)) 3 (101 : Int32))
  | 3 => (upd (upd (upd (upd (upd (upd (fun _ => 0) 0 (109 : Int32)) 1 (105 : Int32)) 2 (114 : Int32)) 3 (114 : Int32)) 4 (111 : Int32)) 5 (114 : Int32))
  | 4 => (upd (upd (upd (upd (fun _ => 0) 0 (116 : Int32)) 1 (117 : Int32)) 2 (114 : Int32)) 3 (110 : Int32))
  | _ => fun _ => 0)
theorem va_Dm {A : Nat → Prop} {ws ws' : va_W} (h : ws.map Prod.fst = ws'.map Prod.fst) (hD : va_D A ws) : va_D A ws' := by
  have key : ∀ (k : Nat) (q : Nat × va_E), ws'[k]? = some q → ∃ q0 : Nat × va_E, ws[k]? = some q0 ∧ q0.1 = q.1 := by
    intro k q hk
    have h1 : (ws'.map Prod.fst)[k]? = some q.1 := by rw [List.getElem?_map, hk]; rfl
    rw [← h, List.getElem?_map] at h1
    cases hq : ws[k]? with
    | none => rw [hq] at h1; cases h1
    | some q0 => rw [hq] at h1; exact ⟨q0, rfl, Option.some.inj h1⟩
  refine ⟨fun i j x y hi hj e => ?_, fun k q hk => ?_⟩
  · obtain ⟨x0, g1, g2⟩ := key i x hi
    obtain ⟨y0, g3, g4⟩ := key j y hj
    exact hD.1 i j x0 y0 g1 g3 (g2.trans (e.trans g4.symm))
  · obtain ⟨q0, g1, g2⟩ := key k q hk
    rw [← g2]
    exact hD.2 k q0 g1
theorem va_Dat {ws : va_W} {A : Nat → Prop} (hD : va_D A ws) : va_D (fun q => q ∈ ws.map Prod.fst) ws := ⟨hD.1, fun k q hk => List.mem_map.mpr ⟨q, List.mem_of_getElem? hk, rfl⟩⟩
theorem GM_ok {E : mE} {σ0 : xS} (hD : va_D E.2.1 (wM E.2.2.1 E.2.2.2.1 E.2.2.2.2.1 E.2.2.2.2.2 σ0)) : xOk (GM E) := ⟨fun σ => va_Dm (ws := wM E.2.2.1 E.2.2.2.1 E.2.2.2.2.1 E.2.2.2.2.2 σ0) rfl hD, fun _ _ _ _ _ _ => trivial, fun _ _ _ _ _ => trivial⟩
theorem GX_ok {E : xE} {σ0 : xS} (hD : va_D E.2.1 (wX E.2.2.1 E.2.2.2.1 σ0)) : xOk (GX E) := by
  refine ⟨fun σ => va_Dm (ws := wX E.2.2.1 E.2.2.2.1 σ0) rfl hD, fun s U h hW hz hk => ?_, fun s U h hh hv => ?_⟩
  · obtain ⟨⟨n1, n2, n3⟩, z1, z2, z3, z4⟩ := h
    exact ⟨⟨va_Nw.warmF hW n1, va_Nw.warmF hW n2, va_Nw.warmF hW n3⟩, (z1.moved hW.alike).kept hk, (z2.moved hW.alike).kept hk, fun i hi => (z3 i hi).warm hW, (z4.moved hW.alike).kept hk⟩
  · obtain ⟨⟨n1, n2, n3⟩, z1, z2, z3, z4⟩ := h
    have ha : s.vm.Alike U.vm := by rw [hv]; exact Vm.Alike.refl s.vm
    refine ⟨⟨va_Nw.same rfl hv.symm n1, va_Nw.same rfl hv.symm n2, va_Nw.same rfl hv.symm n3⟩, ?_, ?_, fun i hi => (z3 i hi).same hv, ?_⟩
    · rw [hh]; exact z1.moved ha
    · rw [hh]; exact z2.moved ha
    · rw [hh]; exact z4.moved ha
set_option maxRecDepth 100000 in
set_option maxHeartbeats 4000000 in
theorem ls_str {s : State} {b : Nat} {A : Nat → Prop} (hgv : (Jvm.Cond.and given_1 narrow_1).before #[Value.ref b] s = true) (hA : ∀ a : Nat, a < s.heap.size → ¬ A a) : ∃ adK adV : Nat → Nat, vk_S 7 xtl xtb adK adV A s s.heap ∧ ∀ i : Nat, i < 7 → (Term.string RX8 (xtx.getD i (0, "")).1).eval #[Value.ref b] s none [] s = some (.ref (adK i)) := by
  have hs := flat_of_before _ hgv
  refine vk_Sof (tm := fun i => Term.string RX8 (xtx.getD i (0, "")).1) (args := #[Value.ref b]) (fun i hi => xtl_lt hi) (fun i hi => ?_) (fun i hi => ?_) (fun i hi => ?_) (fun i hi => ?_) (fun i hi j hj => ?_) (fun i j hi hj hij => ?_) hA
  · rcases (show i = 0 ∨ i = 1 ∨ i = 2 ∨ i = 3 ∨ i = 4 ∨ i = 5 ∨ i = 6 by omega) with rfl | rfl | rfl | rfl | rfl | rfl | rfl <;> exact hs _ (by decide +kernel)
  · rcases (show i = 0 ∨ i = 1 ∨ i = 2 ∨ i = 3 ∨ i = 4 ∨ i = 5 ∨ i = 6 by omega) with rfl | rfl | rfl | rfl | rfl | rfl | rfl <;> exact hs _ (by decide +kernel)
  · rcases (show i = 0 ∨ i = 1 ∨ i = 2 ∨ i = 3 ∨ i = 4 ∨ i = 5 ∨ i = 6 by omega) with rfl | rfl | rfl | rfl | rfl | rfl | rfl <;> exact hs _ (by decide +kernel)
  · rcases (show i = 0 ∨ i = 1 ∨ i = 2 ∨ i = 3 ∨ i = 4 ∨ i = 5 ∨ i = 6 by omega) with rfl | rfl | rfl | rfl | rfl | rfl | rfl <;> exact hs _ (by decide +kernel)
  · have hj6 : j < 6 := by
      rcases (show i = 0 ∨ i = 1 ∨ i = 2 ∨ i = 3 ∨ i = 4 ∨ i = 5 ∨ i = 6 by omega) with rfl | rfl | rfl | rfl | rfl | rfl | rfl <;> simp [xtl] at hj <;> omega
    rcases (show i = 0 ∨ i = 1 ∨ i = 2 ∨ i = 3 ∨ i = 4 ∨ i = 5 ∨ i = 6 by omega) with rfl | rfl | rfl | rfl | rfl | rfl | rfl <;> rcases (show j = 0 ∨ j = 1 ∨ j = 2 ∨ j = 3 ∨ j = 4 ∨ j = 5 by omega) with rfl | rfl | rfl | rfl | rfl | rfl <;> first | exact hs _ (by decide +kernel) | exact absurd hj (by decide)
  · rcases (show i = 0 ∨ i = 1 ∨ i = 2 ∨ i = 3 ∨ i = 4 ∨ i = 5 ∨ i = 6 by omega) with rfl | rfl | rfl | rfl | rfl | rfl | rfl <;> rcases (show j = 0 ∨ j = 1 ∨ j = 2 ∨ j = 3 ∨ j = 4 ∨ j = 5 ∨ j = 6 by omega) with rfl | rfl | rfl | rfl | rfl | rfl | rfl <;> first | exact absurd rfl hij | exact Or.inl (hs _ (by decide +kernel)) | exact Or.inr (hs _ (by decide +kernel))
theorem ls_arr {s : State} {args : Array Value} {ty : FieldType} (h : (Cond.arrayClass ty).before args s = true) (hp : ty = .int ∨ ty = .boolean ∨ ty = .char) : ∃ c : ClassId, ArrOfT s c ty ∧ va_RA s c ty := by
  obtain ⟨c, k, comp, h1, h2, h3⟩ := Cond.arrayClass_spec h
  refine ⟨c, fun n z => ⟨fun k h => (by cases h), k, h2, comp, h3⟩, ?_⟩
  rcases hp with rfl | rfl | rfl <;> exact h1
set_option maxRecDepth 100000 in
set_option maxHeartbeats 4000000 in
/-- from the end of the makers on: the two worlds, and the loop -/
theorem ls_go {C : xT} {b L : Nat} {xs : Nat → Int32} {Q : State → Prop} {N : Nat} {R : xS → xS → Prop} {D : va_G} {t : y3} (hL : L ≤ 3072) (hs : simOk N R) (h0 : R x0 m0) (hx : C.1.tables.exec = Jvm.exec) (hb : C.2.2.2.2.2.2.2.2.2.code = code) (hml : C.2.2.2.2.2.2.2.2.2.maxLocals = 4) (hown : C.2.2.2.2.1.vm.findClass RL = some C.2.2.2.2.2.1.cls) (hlt : ∀ w ∈ lw_tbl, w.before #[Value.ref b] C.2.2.2.2.1 = true) (ha : C.2.2.2.2.2.2.1 = #[Value.ref b]) (hX : va_X b L xs C.2.2.2.2.1 C.2.2.2.2.1.heap) (hbl : b < C.2.2.2.2.1.heap.size) (hR : C.2.2.2.1 = room_1) (hK : va_K D xCl (yT t) C.2.2.2.2.1) (hgv : (Jvm.Cond.and given_1 narrow_1).before #[Value.ref b] C.2.2.2.2.1 = true)
    (kend : ∀ (EX : xE) (EM : mE) (σX σM : xS) (x3 : Int32), zw C EX EM Q σX σM 926 [(0, .ref b), (1, .ref (EX.2.2.1 0)), (2, .ref (EM.2.2.1 0)), (3, .int x3)] []) (qx xq0 xq1 xq2 xq3 xq4 xq5 xq6 xq7 xq8 xq9 xq10 xq11 xq12 xq13 xq14 xq15 xq16 xq17 xq18 xq19 xq20 xq21 xq22 xq23 xq24 xq25 xq26 xq27 xq28 xq29 xq30 xq31 xq32 xq33 xq34 xq35 xq36 qm mq0 mq1 mq2 mq3 mq4 mq5 mq6 mq7 mq8 mq9 mq10 mq11 mq12 mq13 mq14 mq15 mq16 mq17 mq18 mq19 mq20 mq21 mq22 mq23 mq24 mq25 mq26 : Nat) :
    yw C D (fun q : Nat => C.2.2.2.2.1.heap.size ≤ q) 4 Q 66 23536 [(qx, .inr (9, [.ref xq0, .ref xq2, .ref xq4, .ref xq7, .ref xq10, .ref xq13, .ref xq18, .ref xq26, .ref xq34])), (xq0, .inr (7, [.ref xq1, .int 0])), (xq1, .inl (t.1, 400, .inl (fun _ => 0))), (xq2, .inr (8, [.ref xq0, .ref xq3, .int 0, .int (0 : Int32), .int (-1 : Int32)])), (xq3, .inl (t.1, 6, .inl (fun _ => 0))), (xq4, .inr (0, [.ref xq5, .ref xq6, .int 0, .int 0, .int 0])), (xq5, .inl (t.1, 1000, .inl (fun _ => 0))), (xq6, .inl (t.1, 64, .inl (fun _ => 0))), (xq7, .inr (0, [.ref xq8, .ref xq9, .int 0, .int 0, .int 0])), (xq8, .inl (t.1, 1000, .inl (fun _ => 0))), (xq9, .inl (t.1, 64, .inl (fun _ => 0))), (xq10, .inr (3, [.ref xq4, .ref xq11, .int 0, .ref xq12])), (xq11, .inl (t.1, 1000, .inl (fun _ => 0))), (xq12, .inl (t.1, 1000, .inl (fun _ => 0))), (xq13, .inr (6, [.ref xq14, .ref xq15, .ref xq16, .ref xq17, .int 0, .int (20 : Int32), .int (1 : Int32)])), (xq14, .inl (t.1, 1000, .inl (fun _ => 0))), (xq15, .inl (t.1, 1000, .inl (fun _ => 0))), (xq16, .inl (t.1, 1000, .inl (fun _ => 0))), (xq17, .inl (t.1, 1000, .inl (fun _ => 0))), (xq18, .inr (1, [.ref xq10, .ref xq13, .ref xq23, .ref xq19, .int 0, .ref xq20, .ref xq21, .ref xq22])), (xq19, .inl (t.1, 6, .inl (fun _ => 0))), (xq20, .inl (t.1, 64, .inl (fun _ => 0))), (xq21, .inl (t.1, 64, .inl (fun _ => 0))), (xq22, .inl (t.1, 64, .inl (fun _ => 0))), (xq23, .inr (5, [.ref xq10, .ref xq24, .ref xq25])), (xq24, .inl (t.1, 1000, .inl (fun _ => 0))), (xq25, .inl (t.1, 1000, .inl (fun _ => 0))), (xq26, .inr (4, [.ref xq27, .ref xq28, .ref xq29, .int (2 : Int32), .ref xq30, .ref xq31, .ref xq32, .ref xq33, .int 0])), (xq27, .inl (t.1, 10, .inl (fun _ => 0))), (xq28, .inl (t.1, 10, .inl (fun _ => 0))), (xq29, .inl (t.1, 10, .inl (fun _ => 0))), (xq30, .inl (t.1, 1024, .inl (fun _ => 0))), (xq31, .inl (t.1, 1024, .inl (fun _ => 0))), (xq32, .inl (t.1, 10, .inl (fun _ => 0))), (xq33, .inl (t.1, 10, .inl (fun _ => 0))), (xq34, .inr (2, [.ref xq35, .ref xq36, .int (990 : Int32), .int (950 : Int32), .int (50 : Int32)])), (xq35, .inl (t.1, 12, .inl (fun _ => 0))), (xq36, .inl (t.1, 12, .inl (fun _ => 0))), (qm, .inr (10, [.ref mq0, .int 0, .int 0, .int 0, .int 0, .int 0, .int 0, .int 0, .int 0, .int (-1 : Int32), .ref mq1, .ref mq2, .ref mq3, .ref mq4, .int 0, .int 0, .int 0, .ref mq5, .ref mq6, .ref mq7, .int 0, .int 0, .int 0, .int 0, .ref mq8, .ref mq9, .int 0, .int 0, .ref mq10, .ref mq11, .ref mq12, .ref mq13, .int 0, .ref mq14, .ref mq15, .ref mq16, .ref mq17, .int (20 : Int32), .int (1 : Int32), .int (2 : Int32), .ref mq18, .ref mq19, .ref mq20, .ref mq21, .ref mq22, .int 0, .ref mq23, .ref mq24, .ref mq25, .ref mq26, .int (990 : Int32), .int (950 : Int32), .int (50 : Int32)])), (mq0, .inl (t.1, 400, .inl (fun _ => 0))), (mq1, .inl (t.2.2, 3, .inl (upd (upd (upd (fun _ => 0) 0 (98 : Int32)) 1 (111 : Int32)) 2 (120 : Int32)))), (mq2, .inl (t.2.2, 4, .inl (upd (upd (upd (upd (fun _ => 0) 0 (104 : Int32)) 1 (111 : Int32)) 2 (108 : Int32)) 3 (101 : Int32)))), (mq3, .inl (t.2.2, 6, .inl (upd (upd (upd (upd (upd (upd (fun _ => 0) 0 (109 : Int32)) 1 (105 : Int32)) 2 (114 : Int32)) 3 (114 : Int32)) 4 (111 : Int32)) 5 (114 : Int32)))), (mq4, .inl (t.2.2, 4, .inl (upd (upd (upd (upd (fun _ => 0) 0 (116 : Int32)) 1 (117 : Int32)) 2 (114 : Int32)) 3 (110 : Int32)))), (mq5, .inl (t.2.1, 512, .inl (fun _ => 0))), (mq6, .inl (t.2.1, 512, .inl (fun _ => 0))), (mq7, .inl (t.1, 6, .inl (fun _ => 0))), (mq8, .inl (t.2.1, 1000, .inl (fun _ => 0))), (mq9, .inl (t.1, 1000, .inl (fun _ => 0))), (mq10, .inl (t.1, 6, .inl (fun _ => 0))), (mq11, .inl (t.1, 6, .inl (fun _ => 0))), (mq12, .inl (t.1, 1000, .inl (fun _ => 0))), (mq13, .inl (t.1, 1000, .inl (fun _ => 0))), (mq14, .inl (t.1, 1000, .inl (fun _ => 0))), (mq15, .inl (t.1, 1000, .inl (fun _ => 0))), (mq16, .inl (t.1, 1000, .inl (fun _ => 0))), (mq17, .inl (t.1, 1000, .inl (fun _ => 0))), (mq18, .inl (t.2.1, 10, .inl (fun _ => 0))), (mq19, .inl (t.1, 10, .inl (fun _ => 0))), (mq20, .inl (t.1, 10, .inl (fun _ => 0))), (mq21, .inl (t.1, 10, .inl (fun _ => 0))), (mq22, .inl (t.1, 1024, .inl (fun _ => 0))), (mq23, .inl (t.1, 10, .inl (fun _ => 0))), (mq24, .inl (t.1, 10, .inl (fun _ => 0))), (mq25, .inl (t.1, 12, .inl (fun _ => 0))), (mq26, .inl (t.1, 12, .inl (fun _ => 0)))] 18 [(0, .ref b), (1, .ref qx), (2, .ref qm), (3, .int 0)] [] := by
  intro H locs ls hP hD hS hl
  have pX := hP.sub (ws' := wX (fun k => ([qx, xq0, xq2, xq4, xq7, xq10, xq13, xq18, xq23, xq26, xq34, xq1, xq3, xq5, xq6, xq8, xq9, xq11, xq12, xq14, xq15, xq16, xq17, xq19, xq20, xq21, xq22, xq24, xq25, xq27, xq28, xq29, xq30, xq31, xq32, xq33, xq35, xq36] : List Nat).getD k 0) t.1 x0) [0, 1, 3, 5, 8, 11, 14, 19, 24, 27, 35, 2, 4, 6, 7, 9, 10, 12, 13, 15, 16, 17, 18, 20, 21, 22, 23, 25, 26, 28, 29, 30, 31, 32, 33, 34, 36, 37] rfl
  have dX := hD.sub (ws' := wX (fun k => ([qx, xq0, xq2, xq4, xq7, xq10, xq13, xq18, xq23, xq26, xq34, xq1, xq3, xq5, xq6, xq8, xq9, xq11, xq12, xq14, xq15, xq16, xq17, xq19, xq20, xq21, xq22, xq24, xq25, xq27, xq28, xq29, xq30, xq31, xq32, xq33, xq35, xq36] : List Nat).getD k 0) t.1 x0) [0, 1, 3, 5, 8, 11, 14, 19, 24, 27, 35, 2, 4, 6, 7, 9, 10, 12, 13, 15, 16, 17, 18, 20, 21, 22, 23, 25, 26, 28, 29, 30, 31, 32, 33, 34, 36, 37] (by decide) rfl
  have pM := hP.sub (ws' := wM (fun k => ([qm, mq0, mq1, mq2, mq3, mq4, mq5, mq6, mq7, mq8, mq9, mq10, mq11, mq12, mq13, mq14, mq15, mq16, mq17, mq18, mq19, mq20, mq21, mq22, mq23, mq24, mq25, mq26] : List Nat).getD k 0) t.1 t.2.1 t.2.2 m0) [38, 39, 40, 41, 42, 43, 44, 45, 46, 47, 48, 49, 50, 51, 52, 53, 54, 55, 56, 57, 58, 59, 60, 61, 62, 63, 64, 65] rfl
  have dM := hD.sub (ws' := wM (fun k => ([qm, mq0, mq1, mq2, mq3, mq4, mq5, mq6, mq7, mq8, mq9, mq10, mq11, mq12, mq13, mq14, mq15, mq16, mq17, mq18, mq19, mq20, mq21, mq22, mq23, mq24, mq25, mq26] : List Nat).getD k 0) t.1 t.2.1 t.2.2 m0) [38, 39, 40, 41, 42, 43, 44, 45, 46, 47, 48, 49, 50, 51, 52, 53, 54, 55, 56, 57, 58, 59, 60, 61, 62, 63, 64, 65] (by decide) rfl
  have dB := hD.sub (ws' := wX (fun k => ([qx, xq0, xq2, xq4, xq7, xq10, xq13, xq18, xq23, xq26, xq34, xq1, xq3, xq5, xq6, xq8, xq9, xq11, xq12, xq14, xq15, xq16, xq17, xq19, xq20, xq21, xq22, xq24, xq25, xq27, xq28, xq29, xq30, xq31, xq32, xq33, xq35, xq36] : List Nat).getD k 0) t.1 x0 ++ wM (fun k => ([qm, mq0, mq1, mq2, mq3, mq4, mq5, mq6, mq7, mq8, mq9, mq10, mq11, mq12, mq13, mq14, mq15, mq16, mq17, mq18, mq19, mq20, mq21, mq22, mq23, mq24, mq25, mq26] : List Nat).getD k 0) t.1 t.2.1 t.2.2 m0) [0, 1, 3, 5, 8, 11, 14, 19, 24, 27, 35, 2, 4, 6, 7, 9, 10, 12, 13, 15, 16, 17, 18, 20, 21, 22, 23, 25, 26, 28, 29, 30, 31, 32, 33, 34, 36, 37, 38, 39, 40, 41, 42, 43, 44, 45, 46, 47, 48, 49, 50, 51, 52, 53, 54, 55, 56, 57, 58, 59, 60, 61, 62, 63, 64, 65] (by decide) rfl
  have e1 : ([qx, xq0, xq2, xq4, xq7, xq10, xq13, xq18, xq23, xq26, xq34, xq1, xq3, xq5, xq6, xq8, xq9, xq11, xq12, xq14, xq15, xq16, xq17, xq19, xq20, xq21, xq22, xq24, xq25, xq27, xq28, xq29, xq30, xq31, xq32, xq33, xq35, xq36] : List Nat).getD 0 0 = qx := rfl
  have e2 : ([qm, mq0, mq1, mq2, mq3, mq4, mq5, mq6, mq7, mq8, mq9, mq10, mq11, mq12, mq13, mq14, mq15, mq16, mq17, mq18, mq19, mq20, mq21, mq22, mq23, mq24, mq25, mq26] : List Nat).getD 0 0 = qm := rfl
  revert e1 e2
  generalize hfx : (fun k => ([qx, xq0, xq2, xq4, xq7, xq10, xq13, xq18, xq23, xq26, xq34, xq1, xq3, xq5, xq6, xq8, xq9, xq11, xq12, xq14, xq15, xq16, xq17, xq19, xq20, xq21, xq22, xq24, xq25, xq27, xq28, xq29, xq30, xq31, xq32, xq33, xq35, xq36] : List Nat).getD k 0 : Nat → Nat) = fx at pX dX dB
  generalize hfm : (fun k => ([qm, mq0, mq1, mq2, mq3, mq4, mq5, mq6, mq7, mq8, mq9, mq10, mq11, mq12, mq13, mq14, mq15, mq16, mq17, mq18, mq19, mq20, mq21, mq22, mq23, mq24, mq25, mq26] : List Nat).getD k 0 : Nat → Nat) = fm at pM dM dB
  intro e1 e2
  have e1 : fx 0 = qx := by rw [← hfx]; exact e1
  have e2 : fm 0 = qm := by rw [← hfm]; exact e2
  subst e1; subst e2
  have apart : ∀ (k j : Nat) (p q : Nat × va_E), (wX fx t.1 x0)[k]? = some p → (wM fm t.1 t.2.1 t.2.2 m0)[j]? = some q → p.1 ≠ q.1 := by
    intro k j p q h1 h2 e
    have hk := (List.getElem?_eq_some_iff.mp h1).1
    have g := dB.1 k ((wX fx t.1 x0).length + j) p q (by rw [List.getElem?_append_left hk]; exact h1) (by rw [List.getElem?_append_right (by omega), Nat.add_sub_cancel_left]; exact h2) e
    omega
  have aX : ∀ q, q ∈ (wX fx t.1 x0).map Prod.fst → C.2.2.2.2.1.heap.size ≤ q := by
    intro q hq
    obtain ⟨z, hz, rfl⟩ := List.mem_map.mp hq
    obtain ⟨i, hi⟩ := List.getElem?_of_mem hz
    exact dX.2 i z hi
  have aM : ∀ q, q ∈ (wM fm t.1 t.2.1 t.2.2 m0).map Prod.fst → C.2.2.2.2.1.heap.size ≤ q := by
    intro q hq
    obtain ⟨z, hz, rfl⟩ := List.mem_map.mp hq
    obtain ⟨i, hi⟩ := List.getElem?_of_mem hz
    exact dM.2 i z hi
  have nX : ∀ a : Nat, a < C.2.2.2.2.1.heap.size → ¬ a ∈ (wX fx t.1 x0).map Prod.fst := fun a g1 g2 => absurd (aX a g2) (by omega)
  obtain ⟨adK, adV, hS7, hev⟩ := ls_str hgv nX
  have hflat := flat_of_before _ hgv
  have hTB : ∀ w ∈ TB, w.before C.2.2.2.2.2.2.1 C.2.2.2.2.1 = true := fun w h => by rw [ha]; exact hlt w (List.mem_filter.mp h).1
  have hz : ZX (fun q => q ∈ (wX fx t.1 x0).map Prod.fst) adK adV C.2.2.2.2.1 := by
    refine ⟨⟨va_Nw.of rfl (hlt _ (List.mem_of_getElem? (i := 130) (by decide +kernel))), va_Nw.of rfl (hlt _ (List.mem_of_getElem? (i := 132) (by decide +kernel))), va_Nw.of rfl (hlt _ (List.mem_of_getElem? (i := 134) (by decide +kernel)))⟩, va_Zof (args := #[Value.ref b]) (hlt _ (List.mem_of_getElem? (i := 397) (by decide +kernel))) (hlt _ (List.mem_of_getElem? (i := 71) (by decide +kernel))) (va_eqi (hflat _ (by decide +kernel))) nX, hS7, fun i hi => vk_R.of ?_ (hev i hi), va_Zqof (args := #[Value.ref b]) (hlt _ (List.mem_of_getElem? (i := 413) (by decide +kernel))) (hlt _ (List.mem_of_getElem? (i := 73) (by decide +kernel))) (hflat _ (by decide +kernel)) nX⟩
    refine hlt _ ?_
    rcases (show i = 0 ∨ i = 1 ∨ i = 2 ∨ i = 3 ∨ i = 4 ∨ i = 5 ∨ i = 6 by omega) with rfl | rfl | rfl | rfl | rfl | rfl | rfl
    · exact List.mem_of_getElem? (i := 383) (by decide +kernel)
    · exact List.mem_of_getElem? (i := 473) (by decide +kernel)
    · exact List.mem_of_getElem? (i := 474) (by decide +kernel)
    · exact List.mem_of_getElem? (i := 494) (by decide +kernel)
    · exact List.mem_of_getElem? (i := 483) (by decide +kernel)
    · exact List.mem_of_getElem? (i := 484) (by decide +kernel)
    · exact List.mem_of_getElem? (i := 485) (by decide +kernel)
  have hC : zc C (D, (fun q => q ∈ (wX fx t.1 x0).map Prod.fst), fx, t.1, adK, adV) (D, (fun q => q ∈ (wM fm t.1 t.2.1 t.2.2 m0).map Prod.fst), fm, t.1, t.2.1, t.2.2) b L xs :=
    ⟨hx, hb, hml, hown, hTB, hX, hbl, hR, GX_ok (σ0 := x0) (va_Dat dX), GM_ok (σ0 := m0) (va_Dat dM), hK.sub [0] rfl, hK, hz, rfl, aX, aM,
      fun σ k q hq h => by
        obtain ⟨z, hz, e⟩ := List.mem_map.mp h
        obtain ⟨j, hj⟩ := List.getElem?_of_mem hz
        have hm : ((wX fx t.1 x0).map Prod.fst)[k]? = some q.1 := by
          rw [show (wX fx t.1 x0).map Prod.fst = (wX fx t.1 σ).map Prod.fst from rfl, List.getElem?_map]
          rw [show (wX fx t.1 σ)[k]? = some q from hq]; rfl
        rw [List.getElem?_map] at hm
        cases hk : (wX fx t.1 x0)[k]? with
        | none => rw [hk] at hm; cases hm
        | some p => rw [hk] at hm; exact apart k j p z hk hj ((Option.some.inj hm).trans e.symm),
      fun σ k q hq h => by
        obtain ⟨z, hz, e⟩ := List.mem_map.mp h
        obtain ⟨j, hj⟩ := List.getElem?_of_mem hz
        have hm : ((wM fm t.1 t.2.1 t.2.2 m0).map Prod.fst)[k]? = some q.1 := by
          rw [show (wM fm t.1 t.2.1 t.2.2 m0).map Prod.fst = (wM fm t.1 t.2.1 t.2.2 σ).map Prod.fst from rfl, List.getElem?_map]
          rw [show (wM fm t.1 t.2.1 t.2.2 σ)[k]? = some q from hq]; rfl
        rw [List.getElem?_map] at hm
        cases hk : (wM fm t.1 t.2.1 t.2.2 m0)[k]? with
        | none => rw [hk] at hm; cases hm
        | some p => rw [hk] at hm; exact apart j k z p hj hk (e.trans (Option.some.inj hm).symm)⟩
  exact law_loop hL hC hs (kend _ _) (L + 1) 0 (by omega) (Nat.zero_le L) x0 m0 h0 0 rfl H locs ls pX pM hS hl
set_option maxRecDepth 100000 in
set_option maxHeartbeats 4000000 in
/-- the law from its entry, over a relation that every call keeps -/
theorem whole_from {p : Program} {e : Env} {s : State} {m : MethodId} {below : List Frame} {meth : Method} {c : Code} (l : Launch) {b L : Nat} {xs : Nat → Int32} (hL : L ≤ 3072) {N : Nat} {R : xS → xS → Prop} (hs : simOk N R) (h0 : R x0 m0) (hx : p.tables.exec = Jvm.exec) (hb : c.code = code) (hr : meth.sig.returnType = ret) (hml : c.maxLocals = 4) (hown : s.vm.findClass RL = some m.cls) (hlt : ∀ w ∈ lw_tbl, w.before #[Value.ref b] s = true) (hX : va_X b L xs s s.heap) (hbl : b < s.heap.size) (hlocks : meth.locks = false) (hgv : (Jvm.Cond.and given_1 narrow_1).before #[Value.ref b] s = true) {Q : State → Prop}
    (kret : ∀ (H : Heap) (ls : Array Slot), W p l e room_1 s m #[Value.ref b] below meth c H [] 66 23536 Q (F0 m 927 ls [.int 1])) : W p l e room_1 s m #[Value.ref b] below meth c s.heap [] 0 0 Q (entryFrame m ([Value.ref b] : List Value).toArray 4) := by
  have hts : ∀ w ∈ TB, w.before #[Value.ref b] s = true := fun w h => hlt w (List.mem_filter.mp h).1
  obtain ⟨c0, i0, k0⟩ := u_known (C := RX0) (T := TX0) (N := 5) (n := 5) hts inX0 (hts _ (TB_of (i := 123) (by decide +kernel) rfl))
  obtain ⟨c1, i1, k1⟩ := u_known (C := RX1) (T := TX1) (N := 8) (n := 8) hts inX1 (hts _ (TB_of (i := 195) (by decide +kernel) rfl))
  obtain ⟨c2, i2, k2⟩ := u_known (C := RX2) (T := TX2) (N := 5) (n := 5) hts inX2 (hts _ (TB_of (i := 276) (by decide +kernel) rfl))
  obtain ⟨c3, i3, k3⟩ := u_known (C := RX3) (T := TX3) (N := 4) (n := 4) hts inX3 (hts _ (TB_of (i := 148) (by decide +kernel) rfl))
  obtain ⟨c4, i4, k4⟩ := u_known (C := RX4) (T := TX4) (N := 9) (n := 9) hts inX4 (hts _ (TB_of (i := 242) (by decide +kernel) rfl))
  obtain ⟨c5, i5, k5⟩ := u_known (C := RX5) (T := TX5) (N := 3) (n := 3) hts inX5 (hts _ (TB_of (i := 201) (by decide +kernel) rfl))
  obtain ⟨c6, i6, k6⟩ := u_known (C := RX6) (T := TX6) (N := 7) (n := 7) hts inX6 (hts _ (TB_of (i := 167) (by decide +kernel) rfl))
  obtain ⟨c7, i7, k7⟩ := u_known (C := RX7) (T := TX7) (N := 2) (n := 2) hts inX7 (hts _ (TB_of (i := 87) (by decide +kernel) rfl))
  obtain ⟨c8, i8, k8⟩ := u_known (C := RX8) (T := TX8) (N := 5) (n := 5) hts inX8 (hts _ (TB_of (i := 101) (by decide +kernel) rfl))
  obtain ⟨c9, i9, k9⟩ := u_known (C := RX9) (T := TX9) (N := 9) (n := 9) hts inX9 (hts _ (TB_of (i := 79) (by decide +kernel) rfl))
  obtain ⟨c10, i10, k10⟩ := u_known (C := RX10) (T := TX10) (N := 53) (n := 53) hts inX10 (hts _ (TB_of (i := 914) (by decide +kernel) rfl))
  obtain ⟨dC, dI, hKc⟩ : ∃ (dC : Nat → ClassId) (dI : Nat → Nat → Nat), ∀ (k : Nat) (q : vw_C), xCl[k]? = some q → u_Kn s q.1 q.2.1 q.2.2 (dC k) (dI k) := by
    refine ⟨fun k => ([c0, c1, c2, c3, c4, c5, c6, c7, c8, c9, c10] : List ClassId).getD k 0, fun k => ([i0, i1, i2, i3, i4, i5, i6, i7, i8, i9, i10] : List (Nat → Nat)).getD k (fun _ => 0), ?_⟩
    intro k q hq
    match k, hq with
    | 0, hq => cases hq; exact k0
    | 1, hq => cases hq; exact k1
    | 2, hq => cases hq; exact k2
    | 3, hq => cases hq; exact k3
    | 4, hq => cases hq; exact k4
    | 5, hq => cases hq; exact k5
    | 6, hq => cases hq; exact k6
    | 7, hq => cases hq; exact k7
    | 8, hq => cases hq; exact k8
    | 9, hq => cases hq; exact k9
    | 10, hq => cases hq; exact k10
    | k + 11, hq => simp [xCl] at hq
  obtain ⟨cI, aI, rI⟩ := ls_arr (hts _ (TB_of (i := 99) (by decide +kernel) rfl)) (Or.inl rfl)
  obtain ⟨cZ, aZ, rZ⟩ := ls_arr (hts _ (TB_of (i := 1080) (by decide +kernel) rfl)) (Or.inr (Or.inl rfl))
  obtain ⟨cC, aC, rC⟩ := ls_arr (hts _ (TB_of (i := 1079) (by decide +kernel) rfl)) (Or.inr (Or.inr rfl))
  have hK : va_K (dC, dI) xCl (yT (cI, cZ, cC)) s := by
    refine ⟨hKc, fun k q h => ?_⟩
    match k, h with
    | 0, h => cases h; exact ⟨aI, rI⟩
    | 1, h => cases h; exact ⟨aZ, rZ⟩
    | 2, h => cases h; exact ⟨aC, rC⟩
    | k + 3, h => simp [yT] at h
  obtain ⟨D, hDe⟩ : ∃ D : va_G, D = (dC, dI) := ⟨_, rfl⟩
  rw [← hDe] at hK
  obtain ⟨t, hte⟩ : ∃ t : y3, t = (cI, cZ, cC) := ⟨_, rfl⟩
  rw [← hte] at hK
  have hzn : ZN s := ⟨va_Nw.of rfl (hlt _ (List.mem_of_getElem? (i := 88) (by decide +kernel))), va_Nw.of rfl (hlt _ (List.mem_of_getElem? (i := 124) (by decide +kernel))), va_Nw.of rfl (hlt _ (List.mem_of_getElem? (i := 168) (by decide +kernel))), va_Nw.of rfl (hlt _ (List.mem_of_getElem? (i := 243) (by decide +kernel))), va_Nw.of rfl (hlt _ (List.mem_of_getElem? (i := 277) (by decide +kernel)))⟩
  have hz1 : ∀ s U : State, ZN s → U.vm = s.vm → ZN U := fun s U h hv => ⟨va_Nw.same rfl hv.symm h.1, va_Nw.same rfl hv.symm h.2.1, va_Nw.same rfl hv.symm h.2.2.1, va_Nw.same rfl hv.symm h.2.2.2.1, va_Nw.same rfl hv.symm h.2.2.2.2⟩
  have hz2 : ∀ s U : State, ZN s → s.WarmedH U.vm → ZN U := fun s U h hW => ⟨va_Nw.warmM hW h.1, va_Nw.warmM hW h.2.1, va_Nw.warmM hW h.2.2.1, va_Nw.warmM hW h.2.2.2.1, va_Nw.warmM hW h.2.2.2.2⟩
  have key : ∀ C : xT, C = (p, l, e, room_1, s, m, #[Value.ref b], below, meth, c) → yw C D (fun q : Nat => C.2.2.2.2.1.heap.size ≤ q) 4 Q 0 0 [] 0 [(0, .ref b)] [] := by
    intro C eC
    have hC : yc C D (fun q : Nat => C.2.2.2.2.1.heap.size ≤ q) t RL code 4 ret room_1 := by rw [eC]; exact ⟨hx, hb, hml, hown, hts, hK, fun _ h => h, hlocks, hr, rfl⟩
    refine yr_new (pc' := 3) (fs := [.null, .null, .null, .null, .null, .null, .null, .null, .null]) (T := TX9) (N := 9) (Cn := RX9) (ci := 9) tyX9 hC dL_law_0 rfl rfl inX9 tyX9_ok (TB_of (i := 78) (by decide +kernel) rfl) (TB_of (i := 79) (by decide +kernel) rfl) (TB_of (i := 59) (by decide +kernel) rfl) (fun j hj => by rcases (show j = 0 ∨ j = 1 ∨ j = 2 ∨ j = 3 ∨ j = 4 ∨ j = 5 ∨ j = 6 ∨ j = 7 ∨ j = 8 by omega) with rfl | rfl | rfl | rfl | rfl | rfl | rfl | rfl | rfl <;> rfl) (by decide) (by decide) (fun qx => ?_)
    show yw C D _ 4 _ 1 9 [(qx, .inr (9, [.null, .null, .null, .null, .null, .null, .null, .null, .null]))] 3 [(0, .ref b)] [.ref qx]
    refine yr_dup (pc' := 4) hC dL_law_3 rfl rfl ?_
    refine yr_init (pc' := 7) (Z := ZN) (n := 0) (rmy := { frames := 3, cells := 37, slots := 12907, locals := 55 }) (mc := 37) (ms := 12907) [] [] hC dL_law_4 rfl ⟨rfl, by decide +kernel, by decide +kernel, by decide +kernel⟩ (TB_of (i := 82) (by decide +kernel) rfl) (Or.inl (TB_of (i := 80) (by decide +kernel) rfl)) (TB_of (i := 81) (by decide +kernel) rfl) (TB_of (i := 59) (by decide +kernel) rfl) (by rw [eC]; exact hzn) hz1 hz2 rfl rfl rfl rfl ⟨by decide, by decide⟩ (by decide) (by decide) rfl (Nat.le_of_ble_eq_true rfl) (fun sz => c_X9_init _ D t sz qx) (fun w1 hw1 => ?_)
    obtain ⟨xq0, xq1, xq2, xq3, xq4, xq5, xq6, xq7, xq8, xq9, xq10, xq11, xq12, xq13, xq14, xq15, xq16, xq17, xq18, xq19, xq20, xq21, xq22, xq23, xq24, xq25, xq26, xq27, xq28, xq29, xq30, xq31, xq32, xq33, xq34, xq35, xq36, rfl⟩ := hw1
    show yw C D _ 4 _ 38 12916 [(qx, .inr (9, [.ref xq0, .ref xq2, .ref xq4, .ref xq7, .ref xq10, .ref xq13, .ref xq18, .ref xq26, .ref xq34])), (xq0, .inr (7, [.ref xq1, .int 0])), (xq1, .inl (t.1, 400, .inl (fun _ => 0))), (xq2, .inr (8, [.ref xq0, .ref xq3, .int 0, .int (0 : Int32), .int (-1 : Int32)])), (xq3, .inl (t.1, 6, .inl (fun _ => 0))), (xq4, .inr (0, [.ref xq5, .ref xq6, .int 0, .int 0, .int 0])), (xq5, .inl (t.1, 1000, .inl (fun _ => 0))), (xq6, .inl (t.1, 64, .inl (fun _ => 0))), (xq7, .inr (0, [.ref xq8, .ref xq9, .int 0, .int 0, .int 0])), (xq8, .inl (t.1, 1000, .inl (fun _ => 0))), (xq9, .inl (t.1, 64, .inl (fun _ => 0))), (xq10, .inr (3, [.ref xq4, .ref xq11, .int 0, .ref xq12])), (xq11, .inl (t.1, 1000, .inl (fun _ => 0))), (xq12, .inl (t.1, 1000, .inl (fun _ => 0))), (xq13, .inr (6, [.ref xq14, .ref xq15, .ref xq16, .ref xq17, .int 0, .int (20 : Int32), .int (1 : Int32)])), (xq14, .inl (t.1, 1000, .inl (fun _ => 0))), (xq15, .inl (t.1, 1000, .inl (fun _ => 0))), (xq16, .inl (t.1, 1000, .inl (fun _ => 0))), (xq17, .inl (t.1, 1000, .inl (fun _ => 0))), (xq18, .inr (1, [.ref xq10, .ref xq13, .ref xq23, .ref xq19, .int 0, .ref xq20, .ref xq21, .ref xq22])), (xq19, .inl (t.1, 6, .inl (fun _ => 0))), (xq20, .inl (t.1, 64, .inl (fun _ => 0))), (xq21, .inl (t.1, 64, .inl (fun _ => 0))), (xq22, .inl (t.1, 64, .inl (fun _ => 0))), (xq23, .inr (5, [.ref xq10, .ref xq24, .ref xq25])), (xq24, .inl (t.1, 1000, .inl (fun _ => 0))), (xq25, .inl (t.1, 1000, .inl (fun _ => 0))), (xq26, .inr (4, [.ref xq27, .ref xq28, .ref xq29, .int (2 : Int32), .ref xq30, .ref xq31, .ref xq32, .ref xq33, .int 0])), (xq27, .inl (t.1, 10, .inl (fun _ => 0))), (xq28, .inl (t.1, 10, .inl (fun _ => 0))), (xq29, .inl (t.1, 10, .inl (fun _ => 0))), (xq30, .inl (t.1, 1024, .inl (fun _ => 0))), (xq31, .inl (t.1, 1024, .inl (fun _ => 0))), (xq32, .inl (t.1, 10, .inl (fun _ => 0))), (xq33, .inl (t.1, 10, .inl (fun _ => 0))), (xq34, .inr (2, [.ref xq35, .ref xq36, .int (990 : Int32), .int (950 : Int32), .int (50 : Int32)])), (xq35, .inl (t.1, 12, .inl (fun _ => 0))), (xq36, .inl (t.1, 12, .inl (fun _ => 0)))] 7 [(0, .ref b)] [.ref qx]
    refine yr_astore_n (pc' := 8) (lv' := [(0, .ref b), (1, .ref qx)]) hC dL_law_7 rfl rfl (by decide) [1, 0] rfl ?_
    refine yr_new (pc' := 11) (fs := [.null, .int 0, .int 0, .int 0, .int 0, .int 0, .int 0, .int 0, .int 0, .int 0, .null, .null, .null, .null, .int 0, .int 0, .int 0, .null, .null, .null, .int 0, .int 0, .int 0, .int 0, .null, .null, .int 0, .int 0, .null, .null, .null, .null, .int 0, .null, .null, .null, .null, .int 0, .int 0, .int 0, .null, .null, .null, .null, .null, .int 0, .null, .null, .null, .null, .int 0, .int 0, .int 0]) (T := TX10) (N := 53) (Cn := RX10) (ci := 10) tyX10 hC dL_law_8 rfl rfl inX10 tyX10_ok (TB_of (i := 913) (by decide +kernel) rfl) (TB_of (i := 914) (by decide +kernel) rfl) (TB_of (i := 69) (by decide +kernel) rfl) (fun j hj => by rcases (show j = 0 ∨ j = 1 ∨ j = 2 ∨ j = 3 ∨ j = 4 ∨ j = 5 ∨ j = 6 ∨ j = 7 ∨ j = 8 ∨ j = 9 ∨ j = 10 ∨ j = 11 ∨ j = 12 ∨ j = 13 ∨ j = 14 ∨ j = 15 ∨ j = 16 ∨ j = 17 ∨ j = 18 ∨ j = 19 ∨ j = 20 ∨ j = 21 ∨ j = 22 ∨ j = 23 ∨ j = 24 ∨ j = 25 ∨ j = 26 ∨ j = 27 ∨ j = 28 ∨ j = 29 ∨ j = 30 ∨ j = 31 ∨ j = 32 ∨ j = 33 ∨ j = 34 ∨ j = 35 ∨ j = 36 ∨ j = 37 ∨ j = 38 ∨ j = 39 ∨ j = 40 ∨ j = 41 ∨ j = 42 ∨ j = 43 ∨ j = 44 ∨ j = 45 ∨ j = 46 ∨ j = 47 ∨ j = 48 ∨ j = 49 ∨ j = 50 ∨ j = 51 ∨ j = 52 by omega) with rfl | rfl | rfl | rfl | rfl | rfl | rfl | rfl | rfl | rfl | rfl | rfl | rfl | rfl | rfl | rfl | rfl | rfl | rfl | rfl | rfl | rfl | rfl | rfl | rfl | rfl | rfl | rfl | rfl | rfl | rfl | rfl | rfl | rfl | rfl | rfl | rfl | rfl | rfl | rfl | rfl | rfl | rfl | rfl | rfl | rfl | rfl | rfl | rfl | rfl | rfl | rfl | rfl <;> rfl) (by decide) (by decide) (fun qm => ?_)
    show yw C D _ 4 _ 39 12969 [(qx, .inr (9, [.ref xq0, .ref xq2, .ref xq4, .ref xq7, .ref xq10, .ref xq13, .ref xq18, .ref xq26, .ref xq34])), (xq0, .inr (7, [.ref xq1, .int 0])), (xq1, .inl (t.1, 400, .inl (fun _ => 0))), (xq2, .inr (8, [.ref xq0, .ref xq3, .int 0, .int (0 : Int32), .int (-1 : Int32)])), (xq3, .inl (t.1, 6, .inl (fun _ => 0))), (xq4, .inr (0, [.ref xq5, .ref xq6, .int 0, .int 0, .int 0])), (xq5, .inl (t.1, 1000, .inl (fun _ => 0))), (xq6, .inl (t.1, 64, .inl (fun _ => 0))), (xq7, .inr (0, [.ref xq8, .ref xq9, .int 0, .int 0, .int 0])), (xq8, .inl (t.1, 1000, .inl (fun _ => 0))), (xq9, .inl (t.1, 64, .inl (fun _ => 0))), (xq10, .inr (3, [.ref xq4, .ref xq11, .int 0, .ref xq12])), (xq11, .inl (t.1, 1000, .inl (fun _ => 0))), (xq12, .inl (t.1, 1000, .inl (fun _ => 0))), (xq13, .inr (6, [.ref xq14, .ref xq15, .ref xq16, .ref xq17, .int 0, .int (20 : Int32), .int (1 : Int32)])), (xq14, .inl (t.1, 1000, .inl (fun _ => 0))), (xq15, .inl (t.1, 1000, .inl (fun _ => 0))), (xq16, .inl (t.1, 1000, .inl (fun _ => 0))), (xq17, .inl (t.1, 1000, .inl (fun _ => 0))), (xq18, .inr (1, [.ref xq10, .ref xq13, .ref xq23, .ref xq19, .int 0, .ref xq20, .ref xq21, .ref xq22])), (xq19, .inl (t.1, 6, .inl (fun _ => 0))), (xq20, .inl (t.1, 64, .inl (fun _ => 0))), (xq21, .inl (t.1, 64, .inl (fun _ => 0))), (xq22, .inl (t.1, 64, .inl (fun _ => 0))), (xq23, .inr (5, [.ref xq10, .ref xq24, .ref xq25])), (xq24, .inl (t.1, 1000, .inl (fun _ => 0))), (xq25, .inl (t.1, 1000, .inl (fun _ => 0))), (xq26, .inr (4, [.ref xq27, .ref xq28, .ref xq29, .int (2 : Int32), .ref xq30, .ref xq31, .ref xq32, .ref xq33, .int 0])), (xq27, .inl (t.1, 10, .inl (fun _ => 0))), (xq28, .inl (t.1, 10, .inl (fun _ => 0))), (xq29, .inl (t.1, 10, .inl (fun _ => 0))), (xq30, .inl (t.1, 1024, .inl (fun _ => 0))), (xq31, .inl (t.1, 1024, .inl (fun _ => 0))), (xq32, .inl (t.1, 10, .inl (fun _ => 0))), (xq33, .inl (t.1, 10, .inl (fun _ => 0))), (xq34, .inr (2, [.ref xq35, .ref xq36, .int (990 : Int32), .int (950 : Int32), .int (50 : Int32)])), (xq35, .inl (t.1, 12, .inl (fun _ => 0))), (xq36, .inl (t.1, 12, .inl (fun _ => 0))), (qm, .inr (10, [.null, .int 0, .int 0, .int 0, .int 0, .int 0, .int 0, .int 0, .int 0, .int 0, .null, .null, .null, .null, .int 0, .int 0, .int 0, .null, .null, .null, .int 0, .int 0, .int 0, .int 0, .null, .null, .int 0, .int 0, .null, .null, .null, .null, .int 0, .null, .null, .null, .null, .int 0, .int 0, .int 0, .null, .null, .null, .null, .null, .int 0, .null, .null, .null, .null, .int 0, .int 0, .int 0]))] 11 [(0, .ref b), (1, .ref qx)] [.ref qm]
    refine yr_dup (pc' := 12) hC dL_law_11 rfl rfl ?_
    refine yr_init (pc' := 15) (Z := fun _ => True) (n := 0) (rmy := { frames := 1, cells := 27, slots := 10567, locals := 12 }) (mc := 27) (ms := 10567) [(qx, .inr (9, [.ref xq0, .ref xq2, .ref xq4, .ref xq7, .ref xq10, .ref xq13, .ref xq18, .ref xq26, .ref xq34])), (xq0, .inr (7, [.ref xq1, .int 0])), (xq1, .inl (t.1, 400, .inl (fun _ => 0))), (xq2, .inr (8, [.ref xq0, .ref xq3, .int 0, .int (0 : Int32), .int (-1 : Int32)])), (xq3, .inl (t.1, 6, .inl (fun _ => 0))), (xq4, .inr (0, [.ref xq5, .ref xq6, .int 0, .int 0, .int 0])), (xq5, .inl (t.1, 1000, .inl (fun _ => 0))), (xq6, .inl (t.1, 64, .inl (fun _ => 0))), (xq7, .inr (0, [.ref xq8, .ref xq9, .int 0, .int 0, .int 0])), (xq8, .inl (t.1, 1000, .inl (fun _ => 0))), (xq9, .inl (t.1, 64, .inl (fun _ => 0))), (xq10, .inr (3, [.ref xq4, .ref xq11, .int 0, .ref xq12])), (xq11, .inl (t.1, 1000, .inl (fun _ => 0))), (xq12, .inl (t.1, 1000, .inl (fun _ => 0))), (xq13, .inr (6, [.ref xq14, .ref xq15, .ref xq16, .ref xq17, .int 0, .int (20 : Int32), .int (1 : Int32)])), (xq14, .inl (t.1, 1000, .inl (fun _ => 0))), (xq15, .inl (t.1, 1000, .inl (fun _ => 0))), (xq16, .inl (t.1, 1000, .inl (fun _ => 0))), (xq17, .inl (t.1, 1000, .inl (fun _ => 0))), (xq18, .inr (1, [.ref xq10, .ref xq13, .ref xq23, .ref xq19, .int 0, .ref xq20, .ref xq21, .ref xq22])), (xq19, .inl (t.1, 6, .inl (fun _ => 0))), (xq20, .inl (t.1, 64, .inl (fun _ => 0))), (xq21, .inl (t.1, 64, .inl (fun _ => 0))), (xq22, .inl (t.1, 64, .inl (fun _ => 0))), (xq23, .inr (5, [.ref xq10, .ref xq24, .ref xq25])), (xq24, .inl (t.1, 1000, .inl (fun _ => 0))), (xq25, .inl (t.1, 1000, .inl (fun _ => 0))), (xq26, .inr (4, [.ref xq27, .ref xq28, .ref xq29, .int (2 : Int32), .ref xq30, .ref xq31, .ref xq32, .ref xq33, .int 0])), (xq27, .inl (t.1, 10, .inl (fun _ => 0))), (xq28, .inl (t.1, 10, .inl (fun _ => 0))), (xq29, .inl (t.1, 10, .inl (fun _ => 0))), (xq30, .inl (t.1, 1024, .inl (fun _ => 0))), (xq31, .inl (t.1, 1024, .inl (fun _ => 0))), (xq32, .inl (t.1, 10, .inl (fun _ => 0))), (xq33, .inl (t.1, 10, .inl (fun _ => 0))), (xq34, .inr (2, [.ref xq35, .ref xq36, .int (990 : Int32), .int (950 : Int32), .int (50 : Int32)])), (xq35, .inl (t.1, 12, .inl (fun _ => 0))), (xq36, .inl (t.1, 12, .inl (fun _ => 0)))] [] hC dL_law_12 rfl ⟨rfl, by decide +kernel, by decide +kernel, by decide +kernel⟩ (TB_of (i := 917) (by decide +kernel) rfl) (Or.inl (TB_of (i := 915) (by decide +kernel) rfl)) (TB_of (i := 916) (by decide +kernel) rfl) (TB_of (i := 69) (by decide +kernel) rfl) trivial (fun _ _ _ _ => trivial) (fun _ _ _ _ => trivial) rfl rfl rfl rfl ⟨by decide, by decide⟩ (by decide) (by decide) rfl (Nat.le_of_ble_eq_true rfl) (fun sz => c_X10_init _ D t sz qm) (fun w1 hw1 => ?_)
    obtain ⟨mq0, mq1, mq2, mq3, mq4, mq5, mq6, mq7, mq8, mq9, mq10, mq11, mq12, mq13, mq14, mq15, mq16, mq17, mq18, mq19, mq20, mq21, mq22, mq23, mq24, mq25, mq26, rfl⟩ := hw1
    show yw C D _ 4 _ 66 23536 [(qx, .inr (9, [.ref xq0, .ref xq2, .ref xq4, .ref xq7, .ref xq10, .ref xq13, .ref xq18, .ref xq26, .ref xq34])), (xq0, .inr (7, [.ref xq1, .int 0])), (xq1, .inl (t.1, 400, .inl (fun _ => 0))), (xq2, .inr (8, [.ref xq0, .ref xq3, .int 0, .int (0 : Int32), .int (-1 : Int32)])), (xq3, .inl (t.1, 6, .inl (fun _ => 0))), (xq4, .inr (0, [.ref xq5, .ref xq6, .int 0, .int 0, .int 0])), (xq5, .inl (t.1, 1000, .inl (fun _ => 0))), (xq6, .inl (t.1, 64, .inl (fun _ => 0))), (xq7, .inr (0, [.ref xq8, .ref xq9, .int 0, .int 0, .int 0])), (xq8, .inl (t.1, 1000, .inl (fun _ => 0))), (xq9, .inl (t.1, 64, .inl (fun _ => 0))), (xq10, .inr (3, [.ref xq4, .ref xq11, .int 0, .ref xq12])), (xq11, .inl (t.1, 1000, .inl (fun _ => 0))), (xq12, .inl (t.1, 1000, .inl (fun _ => 0))), (xq13, .inr (6, [.ref xq14, .ref xq15, .ref xq16, .ref xq17, .int 0, .int (20 : Int32), .int (1 : Int32)])), (xq14, .inl (t.1, 1000, .inl (fun _ => 0))), (xq15, .inl (t.1, 1000, .inl (fun _ => 0))), (xq16, .inl (t.1, 1000, .inl (fun _ => 0))), (xq17, .inl (t.1, 1000, .inl (fun _ => 0))), (xq18, .inr (1, [.ref xq10, .ref xq13, .ref xq23, .ref xq19, .int 0, .ref xq20, .ref xq21, .ref xq22])), (xq19, .inl (t.1, 6, .inl (fun _ => 0))), (xq20, .inl (t.1, 64, .inl (fun _ => 0))), (xq21, .inl (t.1, 64, .inl (fun _ => 0))), (xq22, .inl (t.1, 64, .inl (fun _ => 0))), (xq23, .inr (5, [.ref xq10, .ref xq24, .ref xq25])), (xq24, .inl (t.1, 1000, .inl (fun _ => 0))), (xq25, .inl (t.1, 1000, .inl (fun _ => 0))), (xq26, .inr (4, [.ref xq27, .ref xq28, .ref xq29, .int (2 : Int32), .ref xq30, .ref xq31, .ref xq32, .ref xq33, .int 0])), (xq27, .inl (t.1, 10, .inl (fun _ => 0))), (xq28, .inl (t.1, 10, .inl (fun _ => 0))), (xq29, .inl (t.1, 10, .inl (fun _ => 0))), (xq30, .inl (t.1, 1024, .inl (fun _ => 0))), (xq31, .inl (t.1, 1024, .inl (fun _ => 0))), (xq32, .inl (t.1, 10, .inl (fun _ => 0))), (xq33, .inl (t.1, 10, .inl (fun _ => 0))), (xq34, .inr (2, [.ref xq35, .ref xq36, .int (990 : Int32), .int (950 : Int32), .int (50 : Int32)])), (xq35, .inl (t.1, 12, .inl (fun _ => 0))), (xq36, .inl (t.1, 12, .inl (fun _ => 0))), (qm, .inr (10, [.ref mq0, .int 0, .int 0, .int 0, .int 0, .int 0, .int 0, .int 0, .int 0, .int (-1 : Int32), .ref mq1, .ref mq2, .ref mq3, .ref mq4, .int 0, .int 0, .int 0, .ref mq5, .ref mq6, .ref mq7, .int 0, .int 0, .int 0, .int 0, .ref mq8, .ref mq9, .int 0, .int 0, .ref mq10, .ref mq11, .ref mq12, .ref mq13, .int 0, .ref mq14, .ref mq15, .ref mq16, .ref mq17, .int (20 : Int32), .int (1 : Int32), .int (2 : Int32), .ref mq18, .ref mq19, .ref mq20, .ref mq21, .ref mq22, .int 0, .ref mq23, .ref mq24, .ref mq25, .ref mq26, .int (990 : Int32), .int (950 : Int32), .int (50 : Int32)])), (mq0, .inl (t.1, 400, .inl (fun _ => 0))), (mq1, .inl (t.2.2, 3, .inl (upd (upd (upd (fun _ => 0) 0 (98 : Int32)) 1 (111 : Int32)) 2 (120 : Int32)))), (mq2, .inl (t.2.2, 4, .inl (upd (upd (upd (upd (fun _ => 0) 0 (104 : Int32)) 1 (111 : Int32)) 2 (108 : Int32)) 3 (101 : Int32)))), (mq3, .inl (t.2.2, 6, .inl (upd (upd (upd (upd (upd (upd (fun _ => 0) 0 (109 : Int32)) 1 (105 : Int32)) 2 (114 : Int32)) 3 (114 : Int32)) 4 (111 : Int32)) 5 (114 : Int32)))), (mq4, .inl (t.2.2, 4, .inl (upd (upd (upd (upd (fun _ => 0) 0 (116 : Int32)) 1 (117 : Int32)) 2 (114 : Int32)) 3 (110 : Int32)))), (mq5, .inl (t.2.1, 512, .inl (fun _ => 0))), (mq6, .inl (t.2.1, 512, .inl (fun _ => 0))), (mq7, .inl (t.1, 6, .inl (fun _ => 0))), (mq8, .inl (t.2.1, 1000, .inl (fun _ => 0))), (mq9, .inl (t.1, 1000, .inl (fun _ => 0))), (mq10, .inl (t.1, 6, .inl (fun _ => 0))), (mq11, .inl (t.1, 6, .inl (fun _ => 0))), (mq12, .inl (t.1, 1000, .inl (fun _ => 0))), (mq13, .inl (t.1, 1000, .inl (fun _ => 0))), (mq14, .inl (t.1, 1000, .inl (fun _ => 0))), (mq15, .inl (t.1, 1000, .inl (fun _ => 0))), (mq16, .inl (t.1, 1000, .inl (fun _ => 0))), (mq17, .inl (t.1, 1000, .inl (fun _ => 0))), (mq18, .inl (t.2.1, 10, .inl (fun _ => 0))), (mq19, .inl (t.1, 10, .inl (fun _ => 0))), (mq20, .inl (t.1, 10, .inl (fun _ => 0))), (mq21, .inl (t.1, 10, .inl (fun _ => 0))), (mq22, .inl (t.1, 1024, .inl (fun _ => 0))), (mq23, .inl (t.1, 10, .inl (fun _ => 0))), (mq24, .inl (t.1, 10, .inl (fun _ => 0))), (mq25, .inl (t.1, 12, .inl (fun _ => 0))), (mq26, .inl (t.1, 12, .inl (fun _ => 0)))] 15 [(0, .ref b), (1, .ref qx)] [.ref qm]
    refine yr_astore_n (pc' := 16) (lv' := [(0, .ref b), (1, .ref qx), (2, .ref qm)]) hC dL_law_15 rfl rfl (by decide) [1, 2, 0] rfl ?_
    refine yr_iconst (pc' := 17) 0 hC dL_law_16 rfl (by decide) ?_
    refine yr_istore_n (pc' := 18) (lv' := [(0, .ref b), (1, .ref qx), (2, .ref qm), (3, .int 0)]) hC dL_law_17 rfl rfl (by decide) [1, 2, 3, 0] rfl ?_
    have hlast : ∀ (EX : xE) (EM : mE) (σX σM : xS) (x3 : Int32), zw C EX EM Q σX σM 926 [(0, .ref b), (1, .ref (EX.2.2.1 0)), (2, .ref (EM.2.2.1 0)), (3, .int x3)] [] := by
      rw [eC]
      intro EX EM σX σM x3 H locs ls g1 g2 g3 g4
      refine lv_iconst (v := 1) hx hb dL_law_926 (by decide) ?_
      refine va_forget (fun q hq => g3.2.2 q hq) ?_
      exact kret H ls
    exact ls_go hL hs h0 (by rw [eC]; exact hx) (by rw [eC]; exact hb) (by rw [eC]; exact hml) (by rw [eC]; exact hown) (by rw [eC]; exact hlt) (by rw [eC]) (by rw [eC]; exact hX) (by rw [eC]; exact hbl) (by rw [eC]) (by rw [eC]; exact hK) (by rw [eC]; exact hgv) hlast qx xq0 xq1 xq2 xq3 xq4 xq5 xq6 xq7 xq8 xq9 xq10 xq11 xq12 xq13 xq14 xq15 xq16 xq17 xq18 xq19 xq20 xq21 xq22 xq23 xq24 xq25 xq26 xq27 xq28 xq29 xq30 xq31 xq32 xq33 xq34 xq35 xq36 qm mq0 mq1 mq2 mq3 mq4 mq5 mq6 mq7 mq8 mq9 mq10 mq11 mq12 mq13 mq14 mq15 mq16 mq17 mq18 mq19 mq20 mq21 mq22 mq23 mq24 mq25 mq26
  have hl := lv_entry ([.ref b]) (n := 4) (Nat.le_of_ble_eq_true rfl)
  rw [lg_entry_eq]
  exact key _ rfl s.heap [] _ (fun k q h => by simp at h) ⟨fun i j p q h => by simp at h, fun k q h => by simp at h⟩ va_S.rf hl
