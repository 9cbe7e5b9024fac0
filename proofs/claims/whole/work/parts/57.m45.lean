/-! the law's judgement: raw locals and stack, for its script lies below -/
def zLr (x : zX) (w : zWd) (n : Nat) (rf : zRef) (pc : Nat) (L : List (Nat × Value)) (st : List Value) (im : zMem) (lv : Int64) : Prop :=
  match x with
  | (p, l, e, R, s, m, args, below, meth, c, Q, n0, _) =>
    n ≤ 126 → ∀ (H : Heap) (locs : List Loc) (ls : Array Slot), va_P w.2.1 vwCl (zws w n rf im lv) H → va_S (fun q => w.1 ≤ q) s.heap H locs → lv_has ls c.maxLocals L →
      W p l e R s m args below meth c H locs (n - n0) (zsl n - zsl n0) Q (F0 m pc ls st)
/-- the script: N ints at the cell b, below the law's own -/
def zSc (x : zX) (w : zWd) (b N : Nat) (xs : Nat → Int32) : Prop :=
  match x with
  | (_, _, _, _, s, _, _, _, _, _, _, _, _) => va_X b N xs s s.heap ∧ b < s.heap.size ∧ b < w.1
section ZLR
variable {x : zX} {w : zWd} {n : Nat} {rf : zRef} {pc : Nat} {L L' : List (Nat × Value)} {st : List Value} {im : zMem} {lv : Int64} {Y : zY} {dd : Nat}
theorem zl_lift {pc' : Nat} {st' : List Value} (hO : zOK x w Y dd)
    (h : ∀ {p : Program} {l : Launch} {e : Env} {R : Room} {s : State} {m : MethodId} {args : Array Value} {below : List Frame} {meth : Method} {c : Code} {Q : State → Prop} {H : Heap} {locs : List Loc} {ls : Array Slot} {k1 k2 : Nat}, p.tables.exec = Jvm.exec → c.code = Y.2.1 → s.vm.findClass Y.1.cls = some m.cls → (∀ t ∈ zT, t.before args s = true) → (∀ (k : Nat) (q : Nat × Value), L[k]? = some q → ls[q.1]? = some (.val q.2)) →
      W p l e R s m args below meth c H locs k1 k2 Q (F0 m pc' ls st') → W p l e R s m args below meth c H locs k1 k2 Q (F0 m pc ls st))
    (kk : zLr x w n rf pc' L st' im lv) : zLr x w n rf pc L st im lv := by
  obtain ⟨p, l, e, R, s, m, args, below, meth, c, Q, n0, nm⟩ := x
  obtain ⟨hx, hb, hml, hown, hts, -⟩ := hO
  intro h126 H locs ls hP hS hl
  refine h hx hb hown hts (fun k q hq => ?_) (kk h126 H locs ls hP hS hl)
  exact lv_at hl k (i := q.1) (v := q.2) hq
theorem zl_iconst {a : Int} {v : Int32} (hO : zOK x w Y dd) (hd : decode Y.2.1 pc = .ok (.iconst a, 1)) (hv : Int32.ofInt a = v) (kk : zLr x w n rf (pc + 1) L (.int v :: st) im lv) : zLr x w n rf pc L st im lv :=
  zl_lift hO (fun hx hb _ _ _ k => lv_iconst hx hb hd hv k) kk
theorem zl_bipush {a : Int} {v : Int32} (hO : zOK x w Y dd) (hd : decode Y.2.1 pc = .ok (.bipush a, 2)) (hv : (Int8.ofInt a).toInt32 = v) (kk : zLr x w n rf (pc + 2) L (.int v :: st) im lv) : zLr x w n rf pc L st im lv :=
  zl_lift hO (fun hx hb _ _ _ k => lv_bipush hx hb hd hv k) kk
theorem zl_ldc2 {idx : Nat} {v : Int64} (hO : zOK x w Y dd) (hd : decode Y.2.1 pc = .ok (.ldc2_w idx, 3)) (hw : Cond.constantLong Y.1.cls idx v ∈ zT) (kk : zLr x w n rf (pc + 3) L (.long v :: st) im lv) : zLr x w n rf pc L st im lv :=
  zl_lift hO (fun hx hb ho ht _ k => lv_ldc2 hx hb ho (ht _ hw) hd k) kk
theorem zl_iload_n {a : Fin 4} {v : Int32} (hO : zOK x w Y dd) (hd : decode Y.2.1 pc = .ok (.iload_n a, 1)) (k : Nat) (hk : L[k]? = some ((a : Nat), .int v)) (kk : zLr x w n rf (pc + 1) L (.int v :: st) im lv) : zLr x w n rf pc L st im lv :=
  zl_lift hO (fun hx hb _ _ hl k0 => lv_iload_n hx hb hd rfl (hl k _ hk) k0) kk
theorem zl_aload_n {a : Fin 4} {q : Nat} (hO : zOK x w Y dd) (hd : decode Y.2.1 pc = .ok (.aload_n a, 1)) (k : Nat) (hk : L[k]? = some ((a : Nat), .ref q)) (kk : zLr x w n rf (pc + 1) L (.ref q :: st) im lv) : zLr x w n rf pc L st im lv :=
  zl_lift hO (fun hx hb _ _ hl k0 => lv_aload_n hx hb hd rfl (hl k _ hk) k0) kk
theorem zl_iadd {a b : Int32} (hO : zOK x w Y dd) (hd : decode Y.2.1 pc = .ok (.iadd, 1)) (kk : zLr x w n rf (pc + 1) L (.int (a + b) :: st) im lv) : zLr x w n rf pc L (.int b :: .int a :: st) im lv :=
  zl_lift hO (fun hx hb _ _ _ k => lv_iadd hx hb hd k) kk
theorem zl_isub {a b : Int32} (hO : zOK x w Y dd) (hd : decode Y.2.1 pc = .ok (.isub, 1)) (kk : zLr x w n rf (pc + 1) L (.int (a - b) :: st) im lv) : zLr x w n rf pc L (.int b :: .int a :: st) im lv :=
  zl_lift hO (fun hx hb _ _ _ k => lv_isub hx hb hd k) kk
theorem zl_iand {a b : Int32} (hO : zOK x w Y dd) (hd : decode Y.2.1 pc = .ok (.iand, 1)) (kk : zLr x w n rf (pc + 1) L (.int (a &&& b) :: st) im lv) : zLr x w n rf pc L (.int b :: .int a :: st) im lv :=
  zl_lift hO (fun hx hb _ _ _ k => lv_iand hx hb hd k) kk
theorem zl_land {a b : Int64} (hO : zOK x w Y dd) (hd : decode Y.2.1 pc = .ok (.land, 1)) (kk : zLr x w n rf (pc + 1) L (.long (a &&& b) :: st) im lv) : zLr x w n rf pc L (.long b :: .long a :: st) im lv :=
  zl_lift hO (fun hx hb _ _ _ k => lv_land hx hb hd k) kk
theorem zl_lor {a b : Int64} (hO : zOK x w Y dd) (hd : decode Y.2.1 pc = .ok (.lor, 1)) (kk : zLr x w n rf (pc + 1) L (.long (a ||| b) :: st) im lv) : zLr x w n rf pc L (.long b :: .long a :: st) im lv :=
  zl_lift hO (fun hx hb _ _ _ k => lv_lor hx hb hd k) kk
theorem zl_lshl {a : Int64} {b : Int32} (hO : zOK x w Y dd) (hd : decode Y.2.1 pc = .ok (.lshl, 1)) (kk : zLr x w n rf (pc + 1) L (.long (a <<< (b.toInt64 &&& 63)) :: st) im lv) : zLr x w n rf pc L (.int b :: .long a :: st) im lv :=
  zl_lift hO (fun hx hb _ _ _ k => lv_lshl hx hb hd rfl k) kk
theorem zl_i2l {a : Int32} (hO : zOK x w Y dd) (hd : decode Y.2.1 pc = .ok (.i2l, 1)) (kk : zLr x w n rf (pc + 1) L (.long a.toInt64 :: st) im lv) : zLr x w n rf pc L (.int a :: st) im lv :=
  zl_lift hO (fun hx hb _ _ _ k => lv_i2l hx hb hd rfl k) kk
theorem zl_dup {a : Value} (hO : zOK x w Y dd) (hd : decode Y.2.1 pc = .ok (.dup, 1)) (hc : a.category = 1) (kk : zLr x w n rf (pc + 1) L (a :: a :: st) im lv) : zLr x w n rf pc L (a :: st) im lv :=
  zl_lift hO (fun hx hb _ _ _ k => lv_dup hx hb hd hc k) kk
theorem zl_goto {off : Int} {tgt : Nat} (hO : zOK x w Y dd) (hd : decode Y.2.1 pc = .ok (.goto off, 3)) (ht : (pc : Int) + off = (tgt : Int)) (kk : zLr x w n rf tgt L st im lv) : zLr x w n rf pc L st im lv :=
  zl_lift hO (fun hx hb _ _ _ k => lv_goto hx hb hd ht k) kk
theorem zl_tableOut {dflt lo hi : Int} {offs : Array Int} {len : Nat} {a : Int32} {tgt : Nat} (hO : zOK x w Y dd) (hd : decode Y.2.1 pc = .ok (.tableswitch dflt lo hi offs, len)) (h : a.toInt < lo ∨ hi < a.toInt) (ht : (pc : Int) + dflt = (tgt : Int)) (kk : zLr x w n rf tgt L st im lv) : zLr x w n rf pc L (.int a :: st) im lv :=
  zl_lift hO (fun hx hb _ _ _ k => lv_tableOut hx hb hd h ht k) kk
theorem zl_tableIn {dflt lo hi : Int} {offs : Array Int} {len : Nat} {a : Int32} {off : Int} {tgt : Nat} (hO : zOK x w Y dd) (hd : decode Y.2.1 pc = .ok (.tableswitch dflt lo hi offs, len)) (h1 : ¬ a.toInt < lo) (h2 : ¬ hi < a.toInt) (ho : offs[(a.toInt - lo).toNat]? = some off) (ht : (pc : Int) + off = (tgt : Int)) (kk : zLr x w n rf tgt L st im lv) : zLr x w n rf pc L (.int a :: st) im lv :=
  zl_lift hO (fun hx hb _ _ _ k => lv_tableIn hx hb hd h1 h2 ho ht k) kk
theorem zl_icmp_eq {a b : Int32} {off : Int} {tgt : Nat} (hO : zOK x w Y dd) (hd : decode Y.2.1 pc = .ok (.if_icmp .eq off, 3)) (ht : (pc : Int) + off = (tgt : Int)) (kt : a = b → zLr x w n rf tgt L st im lv) (kf : ¬ a = b → zLr x w n rf (pc + 3) L st im lv) : zLr x w n rf pc L (.int b :: .int a :: st) im lv := by
  obtain ⟨p, l, e, R, s, m, args, below, meth, c, Q, n0, nm⟩ := x
  obtain ⟨hx, hb, hml, hown, hts, -⟩ := hO
  intro h126 H locs ls hP hS hl
  exact lv_icmp_eq hx hb hd ht (fun q => kt q h126 H locs ls hP hS hl) (fun q => kf q h126 H locs ls hP hS hl)
theorem zl_icmp_gt {a b : Int32} {off : Int} {tgt : Nat} (hO : zOK x w Y dd) (hd : decode Y.2.1 pc = .ok (.if_icmp .gt off, 3)) (ht : (pc : Int) + off = (tgt : Int)) (kt : b < a → zLr x w n rf tgt L st im lv) (kf : ¬ b < a → zLr x w n rf (pc + 3) L st im lv) : zLr x w n rf pc L (.int b :: .int a :: st) im lv := by
  obtain ⟨p, l, e, R, s, m, args, below, meth, c, Q, n0, nm⟩ := x
  obtain ⟨hx, hb, hml, hown, hts, -⟩ := hO
  intro h126 H locs ls hP hS hl
  exact lv_icmp_gt hx hb hd ht (fun q => kt q h126 H locs ls hP hS hl) (fun q => kf q h126 H locs ls hP hS hl)
theorem zl_sld {b N : Nat} {xs : Nat → Int32} {i : Int32} (hO : zOK x w Y dd) (hX : zSc x w b N xs) (hd : decode Y.2.1 pc = .ok (.iaload, 1)) (hin : vp_in i N) (kk : zLr x w n rf (pc + 1) L (.int (xs i.toNatClampNeg) :: st) im lv) : zLr x w n rf pc L (.int i :: .ref b :: st) im lv := by
  obtain ⟨p, l, e, R, s, m, args, below, meth, c, Q, n0, nm⟩ := x
  obtain ⟨hx, hb, hml, hown, hts, -⟩ := hO
  obtain ⟨h1, h2, h3⟩ := hX
  intro h126 H locs ls hP hS hl
  exact va_sld hx hb h1 h2 (fun q => absurd h3 (Nat.not_lt_of_le q)) hS hin hd (kk h126 H locs ls hP hS hl)
theorem zl_slen {b N : Nat} {xs : Nat → Int32} (hO : zOK x w Y dd) (hX : zSc x w b N xs) (hd : decode Y.2.1 pc = .ok (.arraylength, 1)) (kk : zLr x w n rf (pc + 1) L (.int (Int32.ofNat N) :: st) im lv) : zLr x w n rf pc L (.ref b :: st) im lv := by
  obtain ⟨p, l, e, R, s, m, args, below, meth, c, Q, n0, nm⟩ := x
  obtain ⟨hx, hb, hml, hown, hts, -⟩ := hO
  obtain ⟨h1, h2, h3⟩ := hX
  intro h126 H locs ls hP hS hl
  exact va_slen hx hb h1 h2 (fun q => absurd h3 (Nat.not_lt_of_le q)) hS hd (kk h126 H locs ls hP hS hl)
/-- what a store leaves -/
theorem zl_st {ls : Array Slot} {nL i : Nat} {v : Value} (hL : ∀ q ∈ L', q = (i, v) ∨ (q ∈ L ∧ ¬ q.1 = i ∧ (¬ q.1 + 1 = i ∨ q.2.category = 1))) (h : lv_has ls nL ((i, v) :: L.filter (fun q => !(q.1 == i) && !(q.1 + 1 == i && q.2.category == 2)))) : lv_has ls nL L' := by
  refine ⟨h.1, h.2.1, fun q hq => h.2.2 q ?_⟩
  rcases hL q hq with rfl | ⟨h1, h2, h3⟩
  · exact List.mem_cons_self
  · refine List.mem_cons_of_mem _ (List.mem_filter.mpr ⟨h1, ?_⟩)
    rcases h3 with hc | hc
    · simp [h2, hc]
    · simp [h2, hc]
theorem zl_iinc {a : Nat} {d : Int} {v v' : Int32} (hO : zOK x w Y dd) (hd : decode Y.2.1 pc = .ok (.iinc a d, 3)) (k : Nat) (hv : L[k]? = some (a, .int v)) (hv' : v + Int32.ofInt d = v') (hn : a < Y.2.2.1) (hL : ∀ q ∈ L', q = (a, Value.int v') ∨ (q ∈ L ∧ ¬ q.1 = a ∧ (¬ q.1 + 1 = a ∨ q.2.category = 1))) (kk : zLr x w n rf (pc + 3) L' st im lv) : zLr x w n rf pc L st im lv := by
  obtain ⟨p, l, e, R, s, m, args, below, meth, c, Q, n0, nm⟩ := x
  obtain ⟨hx, hb, hml, hown, hts, -⟩ := hO
  intro h126 H locs ls hP hS hl
  exact lv_iinc hx hb hd hl (k := k) (x := v) hv hv' (by rw [hml]; exact hn) rfl (fun ls' hl' => kk h126 H locs ls' hP hS (zl_st hL hl'))
theorem zl_istore_n {a : Fin 4} {v : Int32} (hO : zOK x w Y dd) (hd : decode Y.2.1 pc = .ok (.istore_n a, 1)) (hn : (a : Nat) < Y.2.2.1) (hL : ∀ q ∈ L', q = ((a : Nat), Value.int v) ∨ (q ∈ L ∧ ¬ q.1 = (a : Nat) ∧ (¬ q.1 + 1 = (a : Nat) ∨ q.2.category = 1))) (kk : zLr x w n rf (pc + 1) L' st im lv) : zLr x w n rf pc L (.int v :: st) im lv := by
  obtain ⟨p, l, e, R, s, m, args, below, meth, c, Q, n0, nm⟩ := x
  obtain ⟨hx, hb, hml, hown, hts, -⟩ := hO
  intro h126 H locs ls hP hS hl
  exact lv_istore_n hx hb hd rfl hl (by rw [hml]; exact hn) rfl (fun ls' hl' => kk h126 H locs ls' hP hS (zl_st hL hl'))
theorem zl_astore_n {a : Fin 4} {q0 : Nat} (hO : zOK x w Y dd) (hd : decode Y.2.1 pc = .ok (.astore_n a, 1)) (hn : (a : Nat) < Y.2.2.1) (hL : ∀ q ∈ L', q = ((a : Nat), Value.ref q0) ∨ (q ∈ L ∧ ¬ q.1 = (a : Nat) ∧ (¬ q.1 + 1 = (a : Nat) ∨ q.2.category = 1))) (kk : zLr x w n rf (pc + 1) L' st im lv) : zLr x w n rf pc L (.ref q0 :: st) im lv := by
  obtain ⟨p, l, e, R, s, m, args, below, meth, c, Q, n0, nm⟩ := x
  obtain ⟨hx, hb, hml, hown, hts, -⟩ := hO
  intro h126 H locs ls hP hS hl
  exact lv_astore_n hx hb hd rfl hl (by rw [hml]; exact hn) rfl (fun ls' hl' => kk h126 H locs ls' hP hS (zl_st hL hl'))
theorem zl_callC {post : zV → zRef → zMem → Int64 → Prop} {p : Program} {l : Launch} {e : Env} {R : Room} {s : State} {m : MethodId} {args : Array Value} {below : List Frame} {meth : Method} {c : Code} {Q : State → Prop} {n0 nm : Nat} {H : Heap} {locs : List Loc} {ls : Array Slot} {st0 : List Value} {ret : Option FieldType} {n2 : Nat} {a : Array Value}
    (hrun : va_Run p l e R s m args below meth c H locs (n - n0) (zsl n - zsl n0) (n2 - n) (zsl n2 - zsl n) (F0 m pc ls st0) st (zQc w ret n2 post a) (fun q => w.1 ≤ q)) (hS : va_S (fun q => w.1 ≤ q) s.heap H locs) (hl : lv_has ls c.maxLocals L) (h0 : n0 ≤ n) (h1 : n ≤ n2) (h126 : n2 ≤ 126)
    (kk : ∀ (v : zV) (rf' : zRef) (im' : zMem) (lv' : Int64), post v rf' im' lv' → zLr (p, l, e, R, s, m, args, below, meth, c, Q, n0, nm) w n2 rf' (pc + 3) L (if ret.isNone = true then st else zcv w.1 v :: st) im' lv') : W p l e R s m args below meth c H locs (n - n0) (zsl n - zsl n0) Q (F0 m pc ls st0) := by
  intro T hT X
  obtain ⟨v, st₀, t, T', Lc, e0, X', hL, e1, e2, ⟨⟨zv, rf', im', lv', hv, hp, hP'⟩, hz, hk⟩, hst⟩ := hrun T hT X
  cases hv
  rw [e0] at hz hk
  have hc1 : n - n0 + (n2 - n) = n2 - n0 := by omega
  have hm1 := zsl_mono h0
  have hm2 := zsl_mono h1
  have hc2 : zsl n - zsl n0 + (zsl n2 - zsl n) = zsl n2 - zsl n0 := by omega
  rw [hc1, hc2] at X'
  have hS' : va_S (fun q => w.1 ≤ q) s.heap T'.heap (locs ++ Lc) := ⟨Nat.le_trans hS.1 (by rw [e1]; exact hz), fun q g1 g2 => by rw [e1, hk q (Nat.lt_of_lt_of_le g1 hS.1) g2]; exact hS.2.1 q g1 g2, fun q hq => by
    rcases List.mem_append.mp hq with g | g
    · exact hS.2.2 q g
    · exact hL q g⟩
  obtain ⟨t2, a1, b1⟩ := kk zv rf' im' lv' hp h126 T'.heap (locs ++ Lc) ls (by rw [e1]; exact hP') hS' hl T' rfl X'
  refine ⟨t2, hst t2 ?_, b1⟩
  have hst2 : (if ret.isNone = true then st else zcv w.1 zv :: st) = (if ret.isNone = true then none else some (zcv w.1 zv)).toList ++ st := by
    by_cases hr : ret.isNone = true
    · rw [if_pos hr, if_pos hr]; rfl
    · rw [if_neg hr, if_neg hr]; rfl
  rw [hst2] at a1
  exact a1
theorem zl_callI {Y' : zY} {d idx k r i ci N : Nat} {as : List zV} {st0 : List Value} {P : Int32 → zMem → Int64 → Prop} (hO : zOK x w Y dd) (hNN : zN x 126 126) (hd : decode Y.2.1 pc = .ok (.invokevirtual idx, 3)) (hk : zLkV Y.1.cls idx Y' k) (hdd : d + 1 ≤ dd) (hz : zkd r = (0, ci, N)) (hi : zin 126 r i) (hC : (vwCl[ci]?).map (fun q => q.1) = some Y'.1.cls) (hlen : as.length = k) (hroom : (st.map fun v => v.category).sum ≤ 8) (hst : st0 = (as.map (zcv w.1)).reverse ++ .ref (w.1 + zad r i) :: st) (hret : Y'.2.2.2.isNone = false)
    (hM : zSpecI x.2.1 w d Y' (vR r i :: as) im lv P) (kk : ∀ (v : Int32) (im' : zMem) (lv' : Int64), P v im' lv' → zLr x w 126 zRF (pc + 3) L (.int v :: st) im' lv') : zLr x w 126 zRF pc L st0 im lv := by
  obtain ⟨p, l, e, R, s, m, args, below, meth, c, Q, n0, nm⟩ := x
  obtain ⟨hx, hb, hml, hown, hts, hU, hsz, hfr, hlo, hce, hsl, hnn⟩ := hO
  obtain ⟨g0, g1, g2⟩ := hNN
  subst hst
  intro h126 H locs ls hP hS hl
  refine W_size (fun hup => ?_)
  have hge := zH_ge hP (n0 := n0) (by have := hS.1; omega) g0
  have hsH : H.size = w.1 + 126 := by omega
  have hm1 := zsl_mono g0
  have hm2 := zsl_mono g1
  have hm3 := zsl_mono g2
  cases hcc : vwCl[ci]? with
  | none => rw [hcc] at hC; cases hC
  | some q =>
    rw [hcc] at hC
    have hC : q.1 = Y'.1.cls := Option.some.inj hC
    have hcb := zcallB (n := 126) (n2 := 126) (R := R) hts hk.1 (by omega : d + 1 ≤ R.frames) (by omega : 40 * (d + 1) ≤ R.locals)
    refine zl_callC (nm := nm) (va_runV (n := k) (As := as.map (zcv w.1)) (rest := st) (C := Y'.1.cls) (b := w.1 + zad r i) (nL := Y.2.2.1) (Ts := zT) ⟨hx, hb, hml, hown, hts⟩ hM ⟨hcb, hts _ hk.2.1, hts _ hk.2.2⟩
      ⟨zblind, by rw [← hC]; exact va_recv hU.1 hP hcc (q0 := zad r i) (by rw [zws_at hi, zE_obj hz]), fun U hUH hW => ⟨rfl, by rw [hUH]; exact hsH, by rw [hUH]; exact hP, zUp_moved hU hW⟩⟩ rfl (by simpa using hlen) (by rw [← hml]; exact hl.1) rfl (lv_room hroom) hd ⟨by omega, by omega⟩) hS hl g0 g1 (Nat.le_refl _) ?_
    rintro v rf' im' lv' ⟨rfl, a, rfl, hp⟩
    rw [if_neg (by rw [hret]; decide)]
    exact kk a im' lv' hp
end ZLR
