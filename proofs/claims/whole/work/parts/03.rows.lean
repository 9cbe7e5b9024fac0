/-! the judgement: the machine in a method, over the abstract memory -/
abbrev zX : Type := Program × Launch × Env × Room × State × MethodId × Array Value × List Frame × Method × Code × (State → Prop) × Nat × Nat
def zsz (r : Nat) : Nat := if (zkd r).1 = 0 then (zkd r).2.2 else (zkd r).2.1
def zsl : Nat → Nat
  | 0 => 0
  | n + 1 => zsl n + zsz (zkey n).1
theorem zsl_mono {a b : Nat} (h : a ≤ b) : zsl a ≤ zsl b := by
  induction h with
  | refl => exact Nat.le_refl _
  | step _ ih => exact Nat.le_trans ih (Nat.le_add_right _ _)
abbrev zlc (b : Nat) (L : List (Nat × zV)) : List (Nat × Value) := L.map (fun q => (q.1, zcv b q.2))
def zWg (x : zX) (w : zWd) (n : Nat) (rf : zRef) (pc : Nat) (L : List (Nat × zV)) (st : List zV) (im : zMem) (lv : Int64) : Prop :=
  match x with
  | (p, l, e, R, s, m, args, below, meth, c, Q, n0, _) =>
    n ≤ 126 → ∀ (H : Heap) (locs : List Loc) (ls : Array Slot), va_P w.2.1 vwCl (zws w n rf im lv) H → va_S (fun q => w.1 ≤ q) s.heap H locs → lv_has ls c.maxLocals (zlc w.1 L) →
      W p l e R s m args below meth c H locs (n - n0) (zsl n - zsl n0) Q (F0 m pc ls (st.map (zcv w.1)))
abbrev zW (x : zX) (w : zWd) (pc : Nat) (L : List (Nat × zV)) (st : List zV) (im : zMem) (lv : Int64) : Prop := zWg x w 126 zRF pc L st im lv
abbrev ztys (w : zWd) : List (ClassId × FieldType) := [(w.2.2.1, .int), (w.2.2.2.1, .object "RoomsOfAir$Sheet"), (w.2.2.2.2, .object "RoomsOfAir$Flight")]
def zNs : List Cond := [.methodLinkNest "RoomsOfAir$Fleet" 21 yX2_init "RoomsOfAir", .methodLinkNest "RoomsOfAir" 31 yX10_init "RoomsOfAir", .methodLinkNest "RoomsOfAir" 95 yX7_init "RoomsOfAir", .methodLinkNest "RoomsOfAir$Land" 46 yX11_cellOf "RoomsOfAir", .methodLinkNest "RoomsOfAir$Splitter" 59 yX11_cellOf "RoomsOfAir", .methodLinkNest "RoomsOfAir$Ledger" 43 yX11_cellOf "RoomsOfAir"]
def zUp (w : zWd) (U : State) : Prop := va_K w.2.1 vwCl (ztys w) U ∧ (∀ t ∈ zNs, va_Nw t U) ∧ va_AO "RoomsOfAir$Sheet" U ∧ va_AO "RoomsOfAir$Flight" U
/-- what a method's walk stands on: the machine, the code, the words, its room -/
def zOK (x : zX) (w : zWd) (Y : zY) (dd : Nat) : Prop :=
  match x with
  | (p, _, _, R, s, m, args, _, _, c, _, n0, nm) =>
    p.tables.exec = Jvm.exec ∧ c.code = Y.2.1 ∧ c.maxLocals = Y.2.2.1 ∧ s.vm.findClass Y.1.cls = some m.cls ∧ (∀ t ∈ zT, t.before args s = true) ∧ zUp w s ∧ s.heap.size = w.1 + n0 ∧ dd ≤ R.frames ∧ 40 * dd ≤ R.locals ∧ nm - n0 ≤ R.cells ∧ zsl nm - zsl n0 ≤ R.slots ∧ n0 ≤ nm
section ZROWS
variable {x : zX} {w : zWd} {n : Nat} {rf : zRef} {pc : Nat} {L L' : List (Nat × zV)} {st : List zV} {im : zMem} {lv : Int64} {Y : zY} {dd : Nat}
theorem zlift {pc' : Nat} {st' : List zV} (hO : zOK x w Y dd)
    (h : ∀ {p : Program} {l : Launch} {e : Env} {R : Room} {s : State} {m : MethodId} {args : Array Value} {below : List Frame} {meth : Method} {c : Code} {Q : State → Prop} {H : Heap} {locs : List Loc} {ls : Array Slot} {k1 k2 : Nat}, p.tables.exec = Jvm.exec → c.code = Y.2.1 → s.vm.findClass Y.1.cls = some m.cls → (∀ t ∈ zT, t.before args s = true) → (∀ (k : Nat) (q : Nat × zV), L[k]? = some q → ls[q.1]? = some (.val (zcv w.1 q.2))) →
      W p l e R s m args below meth c H locs k1 k2 Q (F0 m pc' ls (st'.map (zcv w.1))) → W p l e R s m args below meth c H locs k1 k2 Q (F0 m pc ls (st.map (zcv w.1))))
    (kk : zWg x w n rf pc' L st' im lv) : zWg x w n rf pc L st im lv := by
  obtain ⟨p, l, e, R, s, m, args, below, meth, c, Q, n0, nm⟩ := x
  obtain ⟨hx, hb, hml, hown, hts, -⟩ := hO
  intro h126 H locs ls hP hS hl
  refine h hx hb hown hts (fun k q hq => ?_) (kk h126 H locs ls hP hS hl)
  exact lv_at hl k (i := q.1) (v := zcv w.1 q.2) (by rw [List.getElem?_map, hq]; rfl)
theorem zi_iconst {a : Int} {v : Int32} (hO : zOK x w Y dd) (hd : decode Y.2.1 pc = .ok (.iconst a, 1)) (hv : Int32.ofInt a = v) (kk : zWg x w n rf (pc + 1) L (vI v :: st) im lv) : zWg x w n rf pc L st im lv :=
  zlift hO (fun hx hb _ _ _ k => lv_iconst hx hb hd hv k) kk
theorem zi_bipush {a : Int} {v : Int32} (hO : zOK x w Y dd) (hd : decode Y.2.1 pc = .ok (.bipush a, 2)) (hv : (Int8.ofInt a).toInt32 = v) (kk : zWg x w n rf (pc + 2) L (vI v :: st) im lv) : zWg x w n rf pc L st im lv :=
  zlift hO (fun hx hb _ _ _ k => lv_bipush hx hb hd hv k) kk
theorem zi_sipush {a : Int} {v : Int32} (hO : zOK x w Y dd) (hd : decode Y.2.1 pc = .ok (.sipush a, 3)) (hv : (Int16.ofInt a).toInt32 = v) (kk : zWg x w n rf (pc + 3) L (vI v :: st) im lv) : zWg x w n rf pc L st im lv :=
  zlift hO (fun hx hb _ _ _ k => lv_sipush hx hb hd hv k) kk
theorem zi_lconst {a : Fin 2} {v : Int64} (hO : zOK x w Y dd) (hd : decode Y.2.1 pc = .ok (.lconst a, 1)) (hv : Int64.ofNat (a : Nat) = v) (kk : zWg x w n rf (pc + 1) L (vL v :: st) im lv) : zWg x w n rf pc L st im lv :=
  zlift hO (fun hx hb _ _ _ k => lv_lconst hx hb hd hv k) kk
theorem zi_ldc {idx : Nat} {v : Int32} (hO : zOK x w Y dd) (hd : decode Y.2.1 pc = .ok (.ldc idx, 2)) (hw : Cond.constant Y.1.cls idx v ∈ zT) (kk : zWg x w n rf (pc + 2) L (vI v :: st) im lv) : zWg x w n rf pc L st im lv :=
  zlift hO (fun hx hb ho ht _ k => lv_ldc hx hb ho (ht _ hw) hd k) kk
theorem zi_ldcw {idx : Nat} {v : Int32} (hO : zOK x w Y dd) (hd : decode Y.2.1 pc = .ok (.ldc_w idx, 3)) (hw : Cond.constant Y.1.cls idx v ∈ zT) (kk : zWg x w n rf (pc + 3) L (vI v :: st) im lv) : zWg x w n rf pc L st im lv :=
  zlift hO (fun hx hb ho ht _ k => lv_ldcw hx hb ho (ht _ hw) hd k) kk
theorem zi_ldc2 {idx : Nat} {v : Int64} (hO : zOK x w Y dd) (hd : decode Y.2.1 pc = .ok (.ldc2_w idx, 3)) (hw : Cond.constantLong Y.1.cls idx v ∈ zT) (kk : zWg x w n rf (pc + 3) L (vL v :: st) im lv) : zWg x w n rf pc L st im lv :=
  zlift hO (fun hx hb ho ht _ k => lv_ldc2 hx hb ho (ht _ hw) hd k) kk
theorem zi_iload_n {a : Fin 4} {v : Int32} (hO : zOK x w Y dd) (hd : decode Y.2.1 pc = .ok (.iload_n a, 1)) (k : Nat) (hk : L[k]? = some ((a : Nat), vI v)) (kk : zWg x w n rf (pc + 1) L (vI v :: st) im lv) : zWg x w n rf pc L st im lv :=
  zlift hO (fun hx hb _ _ hl k0 => lv_iload_n hx hb hd rfl (hl k _ hk) k0) kk
theorem zi_iload {a : Nat} {v : Int32} (hO : zOK x w Y dd) (hd : decode Y.2.1 pc = .ok (.iload a, 2)) (k : Nat) (hk : L[k]? = some (a, vI v)) (kk : zWg x w n rf (pc + 2) L (vI v :: st) im lv) : zWg x w n rf pc L st im lv :=
  zlift hO (fun hx hb _ _ hl k0 => lv_iload hx hb hd (hl k _ hk) k0) kk
theorem zi_lload_n {a : Fin 4} {v : Int64} (hO : zOK x w Y dd) (hd : decode Y.2.1 pc = .ok (.lload_n a, 1)) (k : Nat) (hk : L[k]? = some ((a : Nat), vL v)) (kk : zWg x w n rf (pc + 1) L (vL v :: st) im lv) : zWg x w n rf pc L st im lv :=
  zlift hO (fun hx hb _ _ hl k0 => lv_lload_n hx hb hd rfl (hl k _ hk) k0) kk
theorem zi_lload {a : Nat} {v : Int64} (hO : zOK x w Y dd) (hd : decode Y.2.1 pc = .ok (.lload a, 2)) (k : Nat) (hk : L[k]? = some (a, vL v)) (kk : zWg x w n rf (pc + 2) L (vL v :: st) im lv) : zWg x w n rf pc L st im lv :=
  zlift hO (fun hx hb _ _ hl k0 => lv_lload hx hb hd (hl k _ hk) k0) kk
theorem zi_aload_n {a : Fin 4} {r i : Nat} (hO : zOK x w Y dd) (hd : decode Y.2.1 pc = .ok (.aload_n a, 1)) (k : Nat) (hk : L[k]? = some ((a : Nat), vR r i)) (kk : zWg x w n rf (pc + 1) L (vR r i :: st) im lv) : zWg x w n rf pc L st im lv :=
  zlift hO (fun hx hb _ _ hl k0 => lv_aload_n hx hb hd rfl (hl k _ hk) k0) kk
theorem zi_aload {a : Nat} {r i : Nat} (hO : zOK x w Y dd) (hd : decode Y.2.1 pc = .ok (.aload a, 2)) (k : Nat) (hk : L[k]? = some (a, vR r i)) (kk : zWg x w n rf (pc + 2) L (vR r i :: st) im lv) : zWg x w n rf pc L st im lv :=
  zlift hO (fun hx hb _ _ hl k0 => lv_aload hx hb hd (hl k _ hk) k0) kk
theorem zi_iadd {a b : Int32} (hO : zOK x w Y dd) (hd : decode Y.2.1 pc = .ok (.iadd, 1)) (kk : zWg x w n rf (pc + 1) L (vI (a + b) :: st) im lv) : zWg x w n rf pc L (vI b :: vI a :: st) im lv :=
  zlift hO (fun hx hb _ _ _ k => lv_iadd hx hb hd k) kk
theorem zi_isub {a b : Int32} (hO : zOK x w Y dd) (hd : decode Y.2.1 pc = .ok (.isub, 1)) (kk : zWg x w n rf (pc + 1) L (vI (a - b) :: st) im lv) : zWg x w n rf pc L (vI b :: vI a :: st) im lv :=
  zlift hO (fun hx hb _ _ _ k => lv_isub hx hb hd k) kk
theorem zi_imul {a b : Int32} (hO : zOK x w Y dd) (hd : decode Y.2.1 pc = .ok (.imul, 1)) (kk : zWg x w n rf (pc + 1) L (vI (a * b) :: st) im lv) : zWg x w n rf pc L (vI b :: vI a :: st) im lv :=
  zlift hO (fun hx hb _ _ _ k => lv_imul hx hb hd k) kk
theorem zi_iand {a b : Int32} (hO : zOK x w Y dd) (hd : decode Y.2.1 pc = .ok (.iand, 1)) (kk : zWg x w n rf (pc + 1) L (vI (a &&& b) :: st) im lv) : zWg x w n rf pc L (vI b :: vI a :: st) im lv :=
  zlift hO (fun hx hb _ _ _ k => lv_iand hx hb hd k) kk
theorem zi_ior {a b : Int32} (hO : zOK x w Y dd) (hd : decode Y.2.1 pc = .ok (.ior, 1)) (kk : zWg x w n rf (pc + 1) L (vI (a ||| b) :: st) im lv) : zWg x w n rf pc L (vI b :: vI a :: st) im lv :=
  zlift hO (fun hx hb _ _ _ k => lv_ior hx hb hd k) kk
theorem zi_ixor {a b : Int32} (hO : zOK x w Y dd) (hd : decode Y.2.1 pc = .ok (.ixor, 1)) (kk : zWg x w n rf (pc + 1) L (vI (a ^^^ b) :: st) im lv) : zWg x w n rf pc L (vI b :: vI a :: st) im lv :=
  zlift hO (fun hx hb _ _ _ k => lv_ixor hx hb hd k) kk
theorem zi_idiv {a b : Int32} (hO : zOK x w Y dd) (hd : decode Y.2.1 pc = .ok (.idiv, 1)) (hne : ¬ b = 0) (kk : zWg x w n rf (pc + 1) L (vI (a / b) :: st) im lv) : zWg x w n rf pc L (vI b :: vI a :: st) im lv :=
  zlift hO (fun hx hb _ _ _ k => lv_idiv hx hb hd hne k) kk
theorem zi_irem {a b : Int32} (hO : zOK x w Y dd) (hd : decode Y.2.1 pc = .ok (.irem, 1)) (hne : ¬ b = 0) (kk : zWg x w n rf (pc + 1) L (vI (a - a / b * b) :: st) im lv) : zWg x w n rf pc L (vI b :: vI a :: st) im lv :=
  zlift hO (fun hx hb _ _ _ k => lv_irem hx hb hd hne k) kk
theorem zi_ineg {a : Int32} (hO : zOK x w Y dd) (hd : decode Y.2.1 pc = .ok (.ineg, 1)) (kk : zWg x w n rf (pc + 1) L (vI (0 - a) :: st) im lv) : zWg x w n rf pc L (vI a :: st) im lv :=
  zlift hO (fun hx hb _ _ _ k => lv_ineg hx hb hd k) kk
theorem zi_ishl {a b : Int32} (hO : zOK x w Y dd) (hd : decode Y.2.1 pc = .ok (.ishl, 1)) (kk : zWg x w n rf (pc + 1) L (vI (a <<< (b &&& 31)) :: st) im lv) : zWg x w n rf pc L (vI b :: vI a :: st) im lv :=
  zlift hO (fun hx hb _ _ _ k => lv_ishl hx hb hd k) kk
theorem zi_ishr {a b : Int32} (hO : zOK x w Y dd) (hd : decode Y.2.1 pc = .ok (.ishr, 1)) (kk : zWg x w n rf (pc + 1) L (vI (a >>> (b &&& 31)) :: st) im lv) : zWg x w n rf pc L (vI b :: vI a :: st) im lv :=
  zlift hO (fun hx hb _ _ _ k => lv_ishr hx hb hd k) kk
theorem zi_iushr {a b : Int32} (hO : zOK x w Y dd) (hd : decode Y.2.1 pc = .ok (.iushr, 1)) (kk : zWg x w n rf (pc + 1) L (vI ((a.toUInt32 >>> (b.toUInt32 &&& Int32.toUInt32 31)).toInt32) :: st) im lv) : zWg x w n rf pc L (vI b :: vI a :: st) im lv :=
  zlift hO (fun hx hb _ _ _ k => lv_iushr hx hb hd rfl k) kk
theorem zi_ladd {a b : Int64} (hO : zOK x w Y dd) (hd : decode Y.2.1 pc = .ok (.ladd, 1)) (kk : zWg x w n rf (pc + 1) L (vL (a + b) :: st) im lv) : zWg x w n rf pc L (vL b :: vL a :: st) im lv :=
  zlift hO (fun hx hb _ _ _ k => lv_ladd hx hb hd k) kk
theorem zi_lsub {a b : Int64} (hO : zOK x w Y dd) (hd : decode Y.2.1 pc = .ok (.lsub, 1)) (kk : zWg x w n rf (pc + 1) L (vL (a - b) :: st) im lv) : zWg x w n rf pc L (vL b :: vL a :: st) im lv :=
  zlift hO (fun hx hb _ _ _ k => lv_lsub hx hb hd k) kk
theorem zi_lmul {a b : Int64} (hO : zOK x w Y dd) (hd : decode Y.2.1 pc = .ok (.lmul, 1)) (kk : zWg x w n rf (pc + 1) L (vL (a * b) :: st) im lv) : zWg x w n rf pc L (vL b :: vL a :: st) im lv :=
  zlift hO (fun hx hb _ _ _ k => lv_lmul hx hb hd k) kk
theorem zi_land {a b : Int64} (hO : zOK x w Y dd) (hd : decode Y.2.1 pc = .ok (.land, 1)) (kk : zWg x w n rf (pc + 1) L (vL (a &&& b) :: st) im lv) : zWg x w n rf pc L (vL b :: vL a :: st) im lv :=
  zlift hO (fun hx hb _ _ _ k => lv_land hx hb hd k) kk
theorem zi_lor {a b : Int64} (hO : zOK x w Y dd) (hd : decode Y.2.1 pc = .ok (.lor, 1)) (kk : zWg x w n rf (pc + 1) L (vL (a ||| b) :: st) im lv) : zWg x w n rf pc L (vL b :: vL a :: st) im lv :=
  zlift hO (fun hx hb _ _ _ k => lv_lor hx hb hd k) kk
theorem zi_lshl {a : Int64} {b : Int32} (hO : zOK x w Y dd) (hd : decode Y.2.1 pc = .ok (.lshl, 1)) (kk : zWg x w n rf (pc + 1) L (vL (a <<< (b.toInt64 &&& 63)) :: st) im lv) : zWg x w n rf pc L (vI b :: vL a :: st) im lv :=
  zlift hO (fun hx hb _ _ _ k => lv_lshl hx hb hd rfl k) kk
theorem zi_lshr {a : Int64} {b : Int32} (hO : zOK x w Y dd) (hd : decode Y.2.1 pc = .ok (.lshr, 1)) (kk : zWg x w n rf (pc + 1) L (vL (a >>> (b.toInt64 &&& 63)) :: st) im lv) : zWg x w n rf pc L (vI b :: vL a :: st) im lv :=
  zlift hO (fun hx hb _ _ _ k => lv_lshr hx hb hd rfl k) kk
theorem zi_i2l {a : Int32} (hO : zOK x w Y dd) (hd : decode Y.2.1 pc = .ok (.i2l, 1)) (kk : zWg x w n rf (pc + 1) L (vL a.toInt64 :: st) im lv) : zWg x w n rf pc L (vI a :: st) im lv :=
  zlift hO (fun hx hb _ _ _ k => lv_i2l hx hb hd rfl k) kk
theorem zi_l2i {a : Int64} (hO : zOK x w Y dd) (hd : decode Y.2.1 pc = .ok (.l2i, 1)) (kk : zWg x w n rf (pc + 1) L (vI a.toInt32 :: st) im lv) : zWg x w n rf pc L (vL a :: st) im lv :=
  zlift hO (fun hx hb _ _ _ k => lv_l2i hx hb hd rfl k) kk
theorem zi_i2b {a : Int32} (hO : zOK x w Y dd) (hd : decode Y.2.1 pc = .ok (.i2b, 1)) (kk : zWg x w n rf (pc + 1) L (vI a.toInt8.toInt32 :: st) im lv) : zWg x w n rf pc L (vI a :: st) im lv :=
  zlift hO (fun hx hb _ _ _ k => lv_i2b hx hb hd rfl k) kk
theorem zi_i2s {a : Int32} (hO : zOK x w Y dd) (hd : decode Y.2.1 pc = .ok (.i2s, 1)) (kk : zWg x w n rf (pc + 1) L (vI a.toInt16.toInt32 :: st) im lv) : zWg x w n rf pc L (vI a :: st) im lv :=
  zlift hO (fun hx hb _ _ _ k => lv_i2s hx hb hd rfl k) kk
theorem zi_lcmp {a b : Int64} (hO : zOK x w Y dd) (hd : decode Y.2.1 pc = .ok (.lcmp, 1)) (kk : zWg x w n rf (pc + 1) L (vI (lg_cmp a b) :: st) im lv) : zWg x w n rf pc L (vL b :: vL a :: st) im lv :=
  zlift hO (fun hx hb _ _ _ k => W.lcmp hx hb hd k) kk
theorem zi_dup {a : zV} (hO : zOK x w Y dd) (hd : decode Y.2.1 pc = .ok (.dup, 1)) (hc : zcat a = 1) (kk : zWg x w n rf (pc + 1) L (a :: a :: st) im lv) : zWg x w n rf pc L (a :: st) im lv :=
  zlift hO (fun hx hb _ _ _ k => lv_dup hx hb hd (by rw [zcv_cat]; exact hc) k) kk
theorem zi_dup2 {a b : zV} (hO : zOK x w Y dd) (hd : decode Y.2.1 pc = .ok (.dup2, 1)) (hc : zcat a = 1) (hc2 : zcat b = 1) (kk : zWg x w n rf (pc + 1) L (a :: b :: a :: b :: st) im lv) : zWg x w n rf pc L (a :: b :: st) im lv :=
  zlift hO (fun hx hb _ _ _ k => lv_dup2_11 hx hb hd (by rw [zcv_cat]; exact hc) (by rw [zcv_cat]; exact hc2) k) kk
theorem zi_null (hO : zOK x w Y dd) (hd : decode Y.2.1 pc = .ok (.aconst_null, 1)) (kk : zWg x w n rf (pc + 1) L (vN :: st) im lv) : zWg x w n rf pc L st im lv :=
  zlift hO (fun hx hb _ _ _ k => lv_null hx hb hd k) kk
theorem zi_goto {off : Int} {tgt : Nat} (hO : zOK x w Y dd) (hd : decode Y.2.1 pc = .ok (.goto off, 3)) (ht : (pc : Int) + off = (tgt : Int)) (kk : zWg x w n rf tgt L st im lv) : zWg x w n rf pc L st im lv :=
  zlift hO (fun hx hb _ _ _ k => lv_goto hx hb hd ht k) kk
theorem zi_ifnonnull {off : Int} {tgt r i : Nat} (hO : zOK x w Y dd) (hd : decode Y.2.1 pc = .ok (.ifnonnull off, 3)) (ht : (pc : Int) + off = (tgt : Int)) (kk : zWg x w n rf tgt L st im lv) : zWg x w n rf pc L (vR r i :: st) im lv :=
  zlift hO (fun hx hb _ _ _ k => lv_ifnonnull hx hb hd ht k) kk
theorem zi_ifnull {off : Int} {r i : Nat} (hO : zOK x w Y dd) (hd : decode Y.2.1 pc = .ok (.ifnull off, 3)) (kk : zWg x w n rf (pc + 3) L st im lv) : zWg x w n rf pc L (vR r i :: st) im lv :=
  zlift hO (fun hx hb _ _ _ k => lv_ifnull hx hb hd k) kk
theorem zi_weak (hs : ∀ q ∈ L', q ∈ L) (kk : zWg x w n rf pc L' st im lv) : zWg x w n rf pc L st im lv := by
  obtain ⟨p, l, e, R, s, m, args, below, meth, c, Q, n0, nm⟩ := x
  intro h126 H locs ls hP hS hl
  refine kk h126 H locs ls hP hS ⟨hl.1, hl.2.1, fun q hq => ?_⟩
  obtain ⟨q', hq', rfl⟩ := List.mem_map.mp hq
  exact hl.2.2 _ (List.mem_map.mpr ⟨q', hs q' hq', rfl⟩)
theorem zi_pick (ks : List Nat) (hs : ks.filterMap (fun k => L[k]?) = L') (kk : zWg x w n rf pc L' st im lv) : zWg x w n rf pc L st im lv := by
  refine zi_weak (fun q hq => ?_) kk
  rw [← hs] at hq
  obtain ⟨k, -, hk⟩ := List.mem_filterMap.mp hq
  exact List.mem_of_getElem? hk
end ZROWS
