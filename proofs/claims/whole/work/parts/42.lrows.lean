/-- the law's frame: two worlds side by side -/
def zw (C : xT) (EX : xE) (EM : mE) (Q : State → Prop) (σX σM : xS) (pc : Nat) (lv : List (Nat × Value)) (st : List Value) : Prop :=
  ∀ (H : Heap) (locs : List Loc) (ls : Array Slot), va_P EX.1 xCl ((GX EX).2.2.1 σX) H → va_P EX.1 xCl ((GM EM).2.2.1 σM) H → va_S (fun q : Nat => C.2.2.2.2.1.heap.size ≤ q) C.2.2.2.2.1.heap H locs → lv_has ls 4 lv → W C.1 C.2.1 C.2.2.1 C.2.2.2.1 C.2.2.2.2.1 C.2.2.2.2.2.1 C.2.2.2.2.2.2.1 C.2.2.2.2.2.2.2.1 C.2.2.2.2.2.2.2.2.1 C.2.2.2.2.2.2.2.2.2 H locs 66 23536 Q (F0 C.2.2.2.2.2.1 pc ls st)
def zc (C : xT) (EX : xE) (EM : mE) (b L : Nat) (xs : Nat → Int32) : Prop :=
  C.1.tables.exec = Jvm.exec ∧ C.2.2.2.2.2.2.2.2.2.code = code ∧ C.2.2.2.2.2.2.2.2.2.maxLocals = 4 ∧ C.2.2.2.2.1.vm.findClass RL = some C.2.2.2.2.2.1.cls ∧ (∀ w ∈ TB, w.before C.2.2.2.2.2.2.1 C.2.2.2.2.1 = true) ∧ va_X b L xs C.2.2.2.2.1 C.2.2.2.2.1.heap ∧ b < C.2.2.2.2.1.heap.size ∧ C.2.2.2.1 = room_1 ∧ xOk (GX EX) ∧ xOk (GM EM) ∧ va_K EX.1 xCl (GX EX).2.2.2.1 C.2.2.2.2.1 ∧ va_K EX.1 xCl (GM EM).2.2.2.1 C.2.2.2.2.1 ∧ (GX EX).2.2.2.2 C.2.2.2.2.1 ∧ EM.1 = EX.1 ∧ (∀ q, EX.2.1 q → C.2.2.2.2.1.heap.size ≤ q) ∧ (∀ q, EM.2.1 q → C.2.2.2.2.1.heap.size ≤ q) ∧ (∀ (σ : xS) (k : Nat) (q : Nat × va_E), ((GX EX).2.2.1 σ)[k]? = some q → ¬ EM.2.1 q.1) ∧ (∀ (σ : xS) (k : Nat) (q : Nat × va_E), ((GM EM).2.2.1 σ)[k]? = some q → ¬ EX.2.1 q.1)
section ZR
variable {C : xT} {EX : xE} {EM : mE} {b L : Nat} {xs : Nat → Int32} {Q : State → Prop} {σX σM : xS} {pc pc' : Nat} {lv lv' : List (Nat × Value)} {st stk : List Value}
theorem zr_iconst {n : Int} (v : Int32) (hC : zc C EX EM b L xs) (hd : decode code pc = .ok (.iconst n, 1)) (hn : pc + 1 = pc') (hv : Int32.ofInt n = v) (k : zw C EX EM Q σX σM pc' lv (.int v :: st)) : zw C EX EM Q σX σM pc lv st := by
  obtain ⟨p, l, e, R, s, m, args, below, meth, c⟩ := C
  obtain ⟨hx, hb, hml, hown, hts, hX, hbl, hR, gX, gM, kX, kM, zX, eD, aX, aM, dX, dM⟩ := hC
  subst hn
  intro H locs ls h1 hM h2 h3
  exact lv_iconst hx hb hd hv (k H locs ls h1 hM h2 h3)
theorem zr_bipush {n : Int} (v : Int32) (hC : zc C EX EM b L xs) (hd : decode code pc = .ok (.bipush n, 2)) (hn : pc + 2 = pc') (hv : (Int8.ofInt n).toInt32 = v) (k : zw C EX EM Q σX σM pc' lv (.int v :: st)) : zw C EX EM Q σX σM pc lv st := by
  obtain ⟨p, l, e, R, s, m, args, below, meth, c⟩ := C
  obtain ⟨hx, hb, hml, hown, hts, hX, hbl, hR, gX, gM, kX, kM, zX, eD, aX, aM, dX, dM⟩ := hC
  subst hn
  intro H locs ls h1 hM h2 h3
  exact lv_bipush hx hb hd hv (k H locs ls h1 hM h2 h3)
theorem zr_aload_n {f : Fin 4} (q : Nat) {i : Nat} {x : Nat} (hC : zc C EX EM b L xs) (hd : decode code pc = .ok (.aload_n f, 1)) (hn : pc + 1 = pc') (hi : (f : Nat) = i) (hl : lv[q]? = some (i, .ref x)) (k : zw C EX EM Q σX σM pc' lv (.ref x :: st)) : zw C EX EM Q σX σM pc lv st := by
  obtain ⟨p, l, e, R, s, m, args, below, meth, c⟩ := C
  obtain ⟨hx, hb, hml, hown, hts, hX, hbl, hR, gX, gM, kX, kM, zX, eD, aX, aM, dX, dM⟩ := hC
  subst hn
  intro H locs ls h1 hM h2 h3
  exact lv_aload_n hx hb hd hi (lv_at h3 q hl) (k H locs ls h1 hM h2 h3)
theorem zr_iload_n {f : Fin 4} (q : Nat) {i : Nat} {x : Int32} (hC : zc C EX EM b L xs) (hd : decode code pc = .ok (.iload_n f, 1)) (hn : pc + 1 = pc') (hi : (f : Nat) = i) (hl : lv[q]? = some (i, .int x)) (k : zw C EX EM Q σX σM pc' lv (.int x :: st)) : zw C EX EM Q σX σM pc lv st := by
  obtain ⟨p, l, e, R, s, m, args, below, meth, c⟩ := C
  obtain ⟨hx, hb, hml, hown, hts, hX, hbl, hR, gX, gM, kX, kM, zX, eD, aX, aM, dX, dM⟩ := hC
  subst hn
  intro H locs ls h1 hM h2 h3
  exact lv_iload_n hx hb hd hi (lv_at h3 q hl) (k H locs ls h1 hM h2 h3)
theorem zr_iadd {x y : Int32} (hC : zc C EX EM b L xs) (hd : decode code pc = .ok (.iadd, 1)) (hn : pc + 1 = pc')  (k : zw C EX EM Q σX σM pc' lv (.int (x + y) :: st)) : zw C EX EM Q σX σM pc lv (.int y :: .int x :: st) := by
  obtain ⟨p, l, e, R, s, m, args, below, meth, c⟩ := C
  obtain ⟨hx, hb, hml, hown, hts, hX, hbl, hR, gX, gM, kX, kM, zX, eD, aX, aM, dX, dM⟩ := hC
  subst hn
  intro H locs ls h1 hM h2 h3
  exact lv_iadd hx hb hd (k H locs ls h1 hM h2 h3)
theorem zr_isub {x y : Int32} (hC : zc C EX EM b L xs) (hd : decode code pc = .ok (.isub, 1)) (hn : pc + 1 = pc')  (k : zw C EX EM Q σX σM pc' lv (.int (x - y) :: st)) : zw C EX EM Q σX σM pc lv (.int y :: .int x :: st) := by
  obtain ⟨p, l, e, R, s, m, args, below, meth, c⟩ := C
  obtain ⟨hx, hb, hml, hown, hts, hX, hbl, hR, gX, gM, kX, kM, zX, eD, aX, aM, dX, dM⟩ := hC
  subst hn
  intro H locs ls h1 hM h2 h3
  exact lv_isub hx hb hd (k H locs ls h1 hM h2 h3)
theorem zr_iand {x y : Int32} (hC : zc C EX EM b L xs) (hd : decode code pc = .ok (.iand, 1)) (hn : pc + 1 = pc')  (k : zw C EX EM Q σX σM pc' lv (.int (x &&& y) :: st)) : zw C EX EM Q σX σM pc lv (.int y :: .int x :: st) := by
  obtain ⟨p, l, e, R, s, m, args, below, meth, c⟩ := C
  obtain ⟨hx, hb, hml, hown, hts, hX, hbl, hR, gX, gM, kX, kM, zX, eD, aX, aM, dX, dM⟩ := hC
  subst hn
  intro H locs ls h1 hM h2 h3
  exact lv_iand hx hb hd (k H locs ls h1 hM h2 h3)
theorem zr_sld {i : Int32} (hC : zc C EX EM b L xs) (hd : decode code pc = .ok (.iaload, 1)) (hn : pc + 1 = pc') (hi : vp_in i L) (k : zw C EX EM Q σX σM pc' lv (.int (xs i.toNatClampNeg) :: st)) : zw C EX EM Q σX σM pc lv (.int i :: .ref b :: st) := by
  obtain ⟨p, l, e, R, s, m, args, below, meth, c⟩ := C
  obtain ⟨hx, hb, hml, hown, hts, hX, hbl, hR, gX, gM, kX, kM, zX, eD, aX, aM, dX, dM⟩ := hC
  subst hn
  intro H locs ls h1 hM h2 h3
  exact va_sld hx hb hX hbl (Nat.not_le.mpr hbl) h2 hi hd (k H locs ls h1 hM h2 h3)
theorem zr_slen  (hC : zc C EX EM b L xs) (hd : decode code pc = .ok (.arraylength, 1)) (hn : pc + 1 = pc')  (k : zw C EX EM Q σX σM pc' lv (.int (Int32.ofNat L) :: st)) : zw C EX EM Q σX σM pc lv (.ref b :: st) := by
  obtain ⟨p, l, e, R, s, m, args, below, meth, c⟩ := C
  obtain ⟨hx, hb, hml, hown, hts, hX, hbl, hR, gX, gM, kX, kM, zX, eD, aX, aM, dX, dM⟩ := hC
  subst hn
  intro H locs ls h1 hM h2 h3
  exact va_slen hx hb hX hbl (Nat.not_le.mpr hbl) h2 hd (k H locs ls h1 hM h2 h3)
theorem zr_istore_n {f : Fin 4} {i : Nat} {x : Int32} (hC : zc C EX EM b L xs) (hd : decode code pc = .ok (.istore_n f, 1)) (hn : pc + 1 = pc') (hi : (f : Nat) = i) (hb0 : i < 4) (ks : List Nat) (hl : lv_pick ((i, Value.int x) :: lv.filter (fun q => !(q.1 == i) && !(q.1 + 1 == i && q.2.category == 2))) ks = lv') (k : zw C EX EM Q σX σM pc' lv' st) : zw C EX EM Q σX σM pc lv (.int x :: st) := by
  obtain ⟨p, l, e, R, s, m, args, below, meth, c⟩ := C
  obtain ⟨hx, hb, hml, hown, hts, hX, hbl, hR, gX, gM, kX, kM, zX, eD, aX, aM, dX, dM⟩ := hC
  subst hn
  intro H locs ls h1 hM h2 h3
  exact lv_istore_n hx hb hd hi h3 hb0 rfl (fun ls h3 => k H locs ls h1 hM h2 (lv_sub h3 ks hl))
theorem zr_iinc {i : Nat} {n : Int} {x : Int32} (v : Int32) (hC : zc C EX EM b L xs) (hd : decode code pc = .ok (.iinc i n, 3)) (hn : pc + 3 = pc') (hv : x + Int32.ofInt n = v) (q : Nat) (hq : lv[q]? = some (i, .int x)) (hb0 : i < 4) (ks : List Nat) (hl : lv_pick ((i, Value.int v) :: lv.filter (fun q => !(q.1 == i) && !(q.1 + 1 == i && q.2.category == 2))) ks = lv') (k : zw C EX EM Q σX σM pc' lv' st) : zw C EX EM Q σX σM pc lv st := by
  obtain ⟨p, l, e, R, s, m, args, below, meth, c⟩ := C
  obtain ⟨hx, hb, hml, hown, hts, hX, hbl, hR, gX, gM, kX, kM, zX, eD, aX, aM, dX, dM⟩ := hC
  subst hn
  intro H locs ls h1 hM h2 h3
  exact lv_iinc hx hb hd h3 hq hv hb0 rfl (fun ls h3 => k H locs ls h1 hM h2 (lv_sub h3 ks hl))
theorem zr_icmp_gt {x y : Int32} {off : Int} (tgt : Nat) (hC : zc C EX EM b L xs) (hd : decode code pc = .ok (.if_icmp .gt off, 3)) (hn : pc + 3 = pc') (ht : (pc : Int) + off = (tgt : Int)) (kt : y < x → zw C EX EM Q σX σM tgt lv st) (kf : ¬ y < x → zw C EX EM Q σX σM pc' lv st) : zw C EX EM Q σX σM pc lv (.int y :: .int x :: st) := by
  obtain ⟨p, l, e, R, s, m, args, below, meth, c⟩ := C
  obtain ⟨hx, hb, hml, hown, hts, hX, hbl, hR, gX, gM, kX, kM, zX, eD, aX, aM, dX, dM⟩ := hC
  subst hn
  intro H locs ls h1 hM h2 h3
  exact lv_icmp_gt hx hb hd ht (fun c => kt c H locs ls h1 hM h2 h3) (fun c => kf c H locs ls h1 hM h2 h3)
theorem zr_icmp_eq {x : Int32} {off : Int} (tgt : Nat) (hC : zc C EX EM b L xs) (hd : decode code pc = .ok (.if_icmp .eq off, 3)) (hn : pc + 3 = pc') (ht : (pc : Int) + off = (tgt : Int)) (kt : zw C EX EM Q σX σM tgt lv st) : zw C EX EM Q σX σM pc lv (.int x :: .int x :: st) := by
  obtain ⟨p, l, e, R, s, m, args, below, meth, c⟩ := C
  obtain ⟨hx, hb, hml, hown, hts, hX, hbl, hR, gX, gM, kX, kM, zX, eD, aX, aM, dX, dM⟩ := hC
  subst hn
  intro H locs ls h1 hM h2 h3
  exact lv_icmp_eq hx hb hd ht (fun c => kt H locs ls h1 hM h2 h3) (fun c => absurd rfl c)
theorem zr_goto {off : Int} (tgt : Nat) (hC : zc C EX EM b L xs) (hd : decode code pc = .ok (.goto off, 3)) (ht : (pc : Int) + off = (tgt : Int)) (k : zw C EX EM Q σX σM tgt lv st) : zw C EX EM Q σX σM pc lv st := by
  have hn : pc + 3 = pc + 3 := rfl
  obtain ⟨p, l, e, R, s, m, args, below, meth, c⟩ := C
  obtain ⟨hx, hb, hml, hown, hts, hX, hbl, hR, gX, gM, kX, kM, zX, eD, aX, aM, dX, dM⟩ := hC
  intro H locs ls h1 hM h2 h3
  exact lv_goto hx hb hd ht (k H locs ls h1 hM h2 h3)
theorem zr_tableOut {dflt lo hi : Int} {offs : Array Int} {len : Nat} {x : Int32} (tgt : Nat) (hC : zc C EX EM b L xs) (hd : decode code pc = .ok (.tableswitch dflt lo hi offs, len)) (h : x.toInt < lo ∨ hi < x.toInt) (ht : (pc : Int) + dflt = (tgt : Int)) (k : zw C EX EM Q σX σM tgt lv st) : zw C EX EM Q σX σM pc lv (.int x :: st) := by
  obtain ⟨p, l, e, R, s, m, args, below, meth, c⟩ := C
  obtain ⟨hx, hb, hml, hown, hts, hX, hbl, hR, gX, gM, kX, kM, zX, eD, aX, aM, dX, dM⟩ := hC
  intro H locs ls h1 hM h2 h3
  exact lv_tableOut hx hb hd h ht (k H locs ls h1 hM h2 h3)
theorem zr_tableIn {dflt lo hi : Int} {offs : Array Int} {len : Nat} {x : Int32} {off : Int} (tgt : Nat) (hC : zc C EX EM b L xs) (hd : decode code pc = .ok (.tableswitch dflt lo hi offs, len)) (g1 : ¬ x.toInt < lo) (g2 : ¬ hi < x.toInt) (ho : offs[(x.toInt - lo).toNat]? = some off) (ht : (pc : Int) + off = (tgt : Int)) (k : zw C EX EM Q σX σM tgt lv st) : zw C EX EM Q σX σM pc lv (.int x :: st) := by
  obtain ⟨p, l, e, R, s, m, args, below, meth, c⟩ := C
  obtain ⟨hx, hb, hml, hown, hts, hX, hbl, hR, gX, gM, kX, kM, zX, eD, aX, aM, dX, dM⟩ := hC
  intro H locs ls h1 hM h2 h3
  exact lv_tableIn hx hb hd g1 g2 ho ht (k H locs ls h1 hM h2 h3)
theorem zr_callX {idx : Nat} {y : MethodName} {bytes : ByteArray} {maxL n : Nat} {rety : Option FieldType} {rmy : Room} {r : Int32} {σ' : xS} (As : List Value) (hC : zc C EX EM b L xs) (hd : decode code pc = .ok (.invokevirtual idx, 3)) (hn : pc + 3 = pc') (hL : xLk RL idx RX9 y bytes maxL rety n) (hlen : As.length = n) (hrc : rmy.cells = 0) (hrs : rmy.slots = 0) (hroom : rmy.frames + 1 ≤ room_1.frames ∧ 8 + (maxL + 11) + rmy.locals ≤ room_1.locals) (hst : stk = As.reverse ++ .ref (EX.2.2.1 0) :: st) (hcat : (st.map fun v => v.category).sum ≤ 8)
    (hMt : xMet C.2.1 (GX EX) y bytes maxL rety rmy (.ref (EX.2.2.1 0) :: As) σX (some (.int r)) σ') (k : zw C EX EM Q σ' σM pc' lv (.int r :: st)) : zw C EX EM Q σX σM pc lv stk := by
  obtain ⟨hy, w1, w2, w3, w4, w5⟩ := hL
  obtain ⟨p, l, e, R, s, m, args, below, meth, c⟩ := C
  obtain ⟨hx, hb, hml, hown, hts, hX, hbl, hR, gX, gM, kX, kM, zX, eD, aX, aM, dX, dM⟩ := hC
  subst hn
  intro H locs ls h1 hM h2 h3
  dsimp only at hR
  subst hR; subst hst
  have hr := va_runV (As := As) (rest := st) (cc := code) (nL := 4) (H := H) (locs := locs) (cells := 66) (slots := 23536) (below := below) (meth := meth) (g := F0 m pc ls (As.reverse ++ .ref (EX.2.2.1 0) :: st)) (e := e) ⟨hx, hb, hml, hown, hts⟩ hMt ⟨callB_of n hts (TB_in w1) rfl hrc hrs (by rw [hy.1]; exact hts _ w5) (hts _ w2) hy.2 hroom, hts _ w3, hts _ w4⟩ ⟨x_blind gX, va_recv kX h1 (ci := 9) (q0 := 0) rfl rfl, fun U hU hW => ⟨rfl, by rw [hU]; exact h1, va_K.moved hW.alike kX, gX.2.1 s U zX hW (by rw [hU]; exact h2.1) (fun q g1 g2 => by rw [hU]; exact h2.2.1 q g1 (Nat.not_le.mpr g1))⟩⟩ rfl hlen h3.1 rfl (lv_room hcat) hd ⟨by decide, by decide⟩
  intro T hT XS
  obtain ⟨v, st₀, t, T', Lc, h0, X', hLc, e1, e2, ⟨hv, hp, hz, hk⟩, sg⟩ := hr T hT XS
  cases hv
  rw [h0] at hz hk
  obtain ⟨t2, a1, b1⟩ := k T'.heap (locs ++ Lc) ls (by rw [e1]; exact hp) (by rw [e1]; exact hM.kept (fun j q hq => hk q.1 ((hM j q hq).lt) (dM σM j q hq)))
    ⟨Nat.le_trans h2.1 (by rw [e1]; exact hz), fun q g1 g2 => by rw [e1, hk q (Nat.lt_of_lt_of_le g1 h2.1) (fun z => g2 (aX q z))]; exact h2.2.1 q g1 g2, fun q hq => by
      rcases List.mem_append.mp hq with h | h
      · exact h2.2.2 q h
      · exact aX _ (hLc q h)⟩ h3 T' rfl X'
  exact ⟨t2, sg t2 a1, b1⟩
theorem zr_callM {idx : Nat} {y : MethodName} {bytes : ByteArray} {maxL n : Nat} {rety : Option FieldType} {rmy : Room} {r : Int32} {σ' : xS} (As : List Value) (hC : zc C EX EM b L xs) (hd : decode code pc = .ok (.invokevirtual idx, 3)) (hn : pc + 3 = pc') (hL : xLk RL idx RX10 y bytes maxL rety n) (hlen : As.length = n) (hrc : rmy.cells = 0) (hrs : rmy.slots = 0) (hroom : rmy.frames + 1 ≤ room_1.frames ∧ 8 + (maxL + 11) + rmy.locals ≤ room_1.locals) (hst : stk = As.reverse ++ .ref (EM.2.2.1 0) :: st) (hcat : (st.map fun v => v.category).sum ≤ 8)
    (hMt : xMet C.2.1 (GM EM) y bytes maxL rety rmy (.ref (EM.2.2.1 0) :: As) σM (some (.int r)) σ') (k : zw C EX EM Q σX σ' pc' lv (.int r :: st)) : zw C EX EM Q σX σM pc lv stk := by
  obtain ⟨hy, w1, w2, w3, w4, w5⟩ := hL
  obtain ⟨p, l, e, R, s, m, args, below, meth, c⟩ := C
  obtain ⟨hx, hb, hml, hown, hts, hX, hbl, hR, gX, gM, kX, kM, zX, eD, aX, aM, dX, dM⟩ := hC
  subst hn
  intro H locs ls h1 hM h2 h3
  dsimp only at hR
  subst hR; subst hst
  have hr := va_runV (As := As) (rest := st) (cc := code) (nL := 4) (H := H) (locs := locs) (cells := 66) (slots := 23536) (below := below) (meth := meth) (g := F0 m pc ls (As.reverse ++ .ref (EM.2.2.1 0) :: st)) (e := e) ⟨hx, hb, hml, hown, hts⟩ hMt ⟨callB_of n hts (TB_in w1) rfl hrc hrs (by rw [hy.1]; exact hts _ w5) (hts _ w2) hy.2 hroom, hts _ w3, hts _ w4⟩ ⟨x_blind gM, va_recv kM hM (ci := 10) (q0 := 0) rfl rfl, fun U hU hW => ⟨rfl, by rw [hU]; show va_P EM.1 _ _ _; rw [eD]; exact hM, by show va_K EM.1 _ _ _; rw [eD]; exact va_K.moved hW.alike kM, trivial⟩⟩ rfl hlen h3.1 rfl (lv_room hcat) hd ⟨by decide, by decide⟩
  intro T hT XS
  obtain ⟨v, st₀, t, T', Lc, h0, X', hLc, e1, e2, ⟨hv, hp, hz, hk⟩, sg⟩ := hr T hT XS
  cases hv
  rw [h0] at hz hk
  have hp : va_P EM.1 xCl ((GM EM).2.2.1 σ') t.heap := hp
  rw [eD] at hp
  obtain ⟨t2, a1, b1⟩ := k T'.heap (locs ++ Lc) ls (by rw [e1]; exact h1.kept (fun j q hq => hk q.1 ((h1 j q hq).lt) (dX σX j q hq))) (by rw [e1]; exact hp)
    ⟨Nat.le_trans h2.1 (by rw [e1]; exact hz), fun q g1 g2 => by rw [e1, hk q (Nat.lt_of_lt_of_le g1 h2.1) (fun z => g2 (aM q z))]; exact h2.2.1 q g1 g2, fun q hq => by
      rcases List.mem_append.mp hq with h | h
      · exact h2.2.2 q h
      · exact aM _ (hLc q h)⟩ h3 T' rfl X'
  exact ⟨t2, sg t2 a1, b1⟩
end ZR
