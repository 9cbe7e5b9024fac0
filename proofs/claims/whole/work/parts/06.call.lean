/-! contracts, calls, returns -/
def zPc (w : zWd) (n : Nat) (rf : zRef) (as : List zV) (im : zMem) (lv : Int64) : Array Value → State → Prop := va_Pc (as.map (zcv w.1)) (fun U => U.heap.size = w.1 + n ∧ va_P w.2.1 vwCl (zws w n rf im lv) U.heap ∧ zUp w U)
def zQc (w : zWd) (ret : Option FieldType) (nm : Nat) (post : zV → zRef → zMem → Int64 → Prop) : Array Value → State → Outcome → State → Prop := fun _ st o t =>
  (∃ (v : zV) (rf' : zRef) (im' : zMem) (lv' : Int64), o = .returned (if ret.isNone = true then none else some (zcv w.1 v)) ∧ post v rf' im' lv' ∧ va_P w.2.1 vwCl (zws w nm rf' im' lv') t.heap) ∧ va_F (fun q => w.1 ≤ q) st t
def zroom (d n nm : Nat) : Room := { frames := d, cells := nm - n, slots := zsl nm - zsl n, locals := 40 * d }
def zSpecg (l : Launch) (w : zWd) (d : Nat) (Y : zY) (n : Nat) (rf : zRef) (nm : Nat) (as : List zV) (im : zMem) (lv : Int64) (post : zV → zRef → zMem → Int64 → Prop) : Prop :=
  Met l Y.1 (Cond.code Y.1 Y.2.1 Y.2.2.1 Y.2.2.2 :: zT) (zroom d n nm) (zPc w n rf as im lv) (zQc w Y.2.2.2 nm post) (nm - n) (zsl nm - zsl n) (fun q => w.1 ≤ q)
def zSpec (l : Launch) (w : zWd) (d : Nat) (Y : zY) (as : List zV) (im : zMem) (lv : Int64) (post : zV → zMem → Int64 → Prop) : Prop :=
  zSpecg l w d Y 126 zRF 126 as im lv (fun v rf' im' lv' => rf' = zRF ∧ post v im' lv')
def zRet (x : zX) (w : zWd) (Y : zY) (nm : Nat) (post : zV → zRef → zMem → Int64 → Prop) : Prop :=
  match x with
  | (_, _, _, _, s, _, args, below, meth, _, Q, n0, _) => Q = MQ below (zQc w Y.2.2.2 nm post) args s (nm - n0) (zsl nm - zsl n0) (fun q => w.1 ≤ q) ∧ meth.sig.returnType = Y.2.2.2 ∧ meth.locks = false ∧ meth.name = Y.1.name
def zN (x : zX) (n n2 : Nat) : Prop :=
  match x with
  | (_, _, _, _, _, _, _, _, _, _, _, n0, nm) => n0 ≤ n ∧ n ≤ n2 ∧ n2 ≤ nm
def zargs : Nat → List zV → List (Nat × zV)
  | _, [] => []
  | i, v :: vs => (i, v) :: zargs (if zcat v = 2 then i + 2 else i + 1) vs
theorem zargs_lv (b : Nat) : ∀ (as : List zV) (i : Nat), lv_args i (as.map (zcv b)) = zlc b (zargs i as)
  | [], i => rfl
  | v :: vs, i => by
    show (i, zcv b v) :: lv_args (if (zcv b v).category = 2 then i + 2 else i + 1) (vs.map (zcv b)) = _
    rw [zcv_cat, zargs_lv b vs]
    rfl
theorem zUp_moved {w : zWd} {s U : State} (h : zUp w s) (hW : s.WarmedH U.vm) : zUp w U := by
  obtain ⟨h1, h2, h3, h4⟩ := h
  refine ⟨va_K.moved hW.alike h1, fun t ht => ?_, va_AO.moved hW.alike h3, va_AO.moved hW.alike h4⟩
  have h5 := h2 t ht
  simp only [zNs, List.mem_cons, List.mem_nil_iff, or_false] at ht
  rcases ht with rfl | rfl | rfl | rfl | rfl | rfl <;> exact va_Nw.warmM hW h5
theorem zUp_same {w : zWd} {s U : State} (h : zUp w s) (hv : s.vm = U.vm) : zUp w U := by
  obtain ⟨h1, h2, h3, h4⟩ := h
  have ha : s.vm.Alike U.vm := by rw [hv]; exact Vm.Alike.refl _
  refine ⟨va_K.moved ha h1, fun t ht => ?_, va_AO.moved ha h3, va_AO.moved ha h4⟩
  have h5 := h2 t ht
  simp only [zNs, List.mem_cons, List.mem_nil_iff, or_false] at ht
  rcases ht with rfl | rfl | rfl | rfl | rfl | rfl <;> exact va_Nw.same rfl hv h5
theorem zblind {w : zWd} {n : Nat} {rf : zRef} {as : List zV} {im : zMem} {lv : Int64} : FrameBlind (zPc w n rf as im lv) := fun a U g mk q => by
  obtain ⟨q0, q1, q2, q3⟩ := q
  exact ⟨q0, q1, q2, zUp_same q3 rfl⟩
theorem zenter {l : Launch} {w : zWd} {d : Nat} {Y : zY} {n : Nat} {rf : zRef} {nm : Nat} {as : List zV} {im : zMem} {lv : Int64} {post : zV → zRef → zMem → Int64 → Prop} (hn : n ≤ nm) (h126 : n ≤ 126) (hpl : plainName Y.1.cls = true) (hlen : (lg_sl (as.map (zcv w.1))).length ≤ Y.2.2.1)
    (body : ∀ x, zOK x w Y d → zRet x w Y nm post → zN x n nm → zWg x w n rf 0 (zargs 0 as) [] im lv) : zSpecg l w d Y n rf nm as im lv post := by
  refine Met.ofW (cc := Y.2.1) (maxL := Y.2.2.1) (ret := Y.2.2.2) hpl rfl ?_
  intro p e s m args below meth c s₁ B hml hv
  obtain ⟨hv, hsz, hP, hU⟩ := hv
  subst hv
  have hts := atoms_spec (ws := Cond.code Y.1 Y.2.1 Y.2.2.1 Y.2.2.2 :: zT) B.pre
  have hl := lv_entry (as.map (zcv w.1)) (n := Y.2.2.1) hlen
  rw [lg_entry_eq]
  have key := body (p, l, e, zroom d n nm, s, m, (as.map (zcv w.1)).toArray, below, meth, c, MQ below (zQc w Y.2.2.2 nm post) (as.map (zcv w.1)).toArray s (nm - n) (zsl nm - zsl n) (fun q => w.1 ≤ q), n, nm)
    ⟨B.exec, B.bytes, hml, findClass_of_methodNamed B.named, fun t ht => hts t (List.mem_cons_of_mem _ ht), hU, hsz, Nat.le_refl _, Nat.le_refl _, Nat.le_refl _, Nat.le_refl _, hn⟩ ⟨rfl, B.returns, B.notSynchronized, (name_of_methodNamed B.named B.method).1⟩ ⟨Nat.le_refl _, hn, Nat.le_refl _⟩
    h126 s.heap [] _ hP va_S.rf (by rw [hml, ← zargs_lv]; exact hl)
  rw [Nat.sub_self, Nat.sub_self] at key
  exact key
section ZCALL
variable {x : zX} {w : zWd} {n : Nat} {rf : zRef} {pc : Nat} {L L' : List (Nat × zV)} {st : List zV} {im : zMem} {lv : Int64} {Y : zY} {dd : Nat} {post : zV → zRef → zMem → Int64 → Prop}
theorem zi_ireturn {v : Int32} (hO : zOK x w Y dd) (hR : zRet x w Y n post) (hr : Y.2.2.2 = some .int) (hd : decode Y.2.1 pc = .ok (.ireturn, 1)) (hq : post (vI v) rf im lv) : zWg x w n rf pc L [vI v] im lv := by
  obtain ⟨p, l, e, R, s, m, args, below, meth, c, Q, n0, nm⟩ := x
  obtain ⟨hx, hb, hml, hown, hts, -⟩ := hO
  obtain ⟨hQ, hret, hlocks, -⟩ := hR
  subst hQ
  intro h126 H locs ls hP hS hl
  rw [hr] at hret
  exact W.iret hx hb hret (fun t ht _ => ⟨⟨vI v, rf, im, lv, by rw [hr]; rfl, hq, by rw [ht]; exact hP⟩, hS.F ht⟩) (fun q hq => hS.2.2 q hq) hd hlocks
theorem zi_zreturn {v : Int32} (hO : zOK x w Y dd) (hR : zRet x w Y n post) (hr : Y.2.2.2 = some .boolean) (hv : v = 0 ∨ v = 1) (hd : decode Y.2.1 pc = .ok (.ireturn, 1)) (hq : post (vI v) rf im lv) : zWg x w n rf pc L [vI v] im lv := by
  obtain ⟨p, l, e, R, s, m, args, below, meth, c, Q, n0, nm⟩ := x
  obtain ⟨hx, hb, hml, hown, hts, -⟩ := hO
  obtain ⟨hQ, hret, hlocks, -⟩ := hR
  subst hQ
  intro h126 H locs ls hP hS hl
  rw [hr] at hret
  exact W.zret hx hb hret (by rcases hv with rfl | rfl <;> decide +kernel) (fun t ht _ => ⟨⟨vI v, rf, im, lv, by rw [hr]; rfl, hq, by rw [ht]; exact hP⟩, hS.F ht⟩) (fun q hq => hS.2.2 q hq) hd hlocks
theorem zi_lreturn {v : Int64} (hO : zOK x w Y dd) (hR : zRet x w Y n post) (hr : Y.2.2.2 = some .long) (hd : decode Y.2.1 pc = .ok (.lreturn, 1)) (hq : post (vL v) rf im lv) : zWg x w n rf pc L [vL v] im lv := by
  obtain ⟨p, l, e, R, s, m, args, below, meth, c, Q, n0, nm⟩ := x
  obtain ⟨hx, hb, hml, hown, hts, -⟩ := hO
  obtain ⟨hQ, hret, hlocks, -⟩ := hR
  subst hQ
  intro h126 H locs ls hP hS hl
  rw [hr] at hret
  exact W.lret hx hb hret (fun t ht _ => ⟨⟨vL v, rf, im, lv, by rw [hr]; rfl, hq, by rw [ht]; exact hP⟩, hS.F ht⟩) (fun q hq => hS.2.2 q hq) hd hlocks
theorem zi_vreturn (hO : zOK x w Y dd) (hR : zRet x w Y n post) (hr : Y.2.2.2 = none) (hd : decode Y.2.1 pc = .ok (.return_, 1)) (hq : post vN rf im lv) : zWg x w n rf pc L [] im lv := by
  obtain ⟨p, l, e, R, s, m, args, below, meth, c, Q, n0, nm⟩ := x
  obtain ⟨hx, hb, hml, hown, hts, -⟩ := hO
  obtain ⟨hQ, hret, hlocks, -⟩ := hR
  subst hQ
  intro h126 H locs ls hP hS hl
  rw [hr] at hret
  exact W.vret hx hb hret (fun t ht _ => ⟨⟨vN, rf, im, lv, by rw [hr]; rfl, hq, by rw [ht]; exact hP⟩, hS.F ht⟩) (fun q hq => hS.2.2 q hq) hd hlocks
theorem zi_areturn {k : Option (Nat × Nat)} {C : String} (hO : zOK x w Y dd) (hR : zRet x w Y n post) (hr : Y.2.2.2 = some (.object C)) (hd : decode Y.2.1 pc = .ok (.areturn, 1)) (hq : post (.inr (.inr k)) rf im lv) : zWg x w n rf pc L [.inr (.inr k)] im lv := by
  obtain ⟨p, l, e, R, s, m, args, below, meth, c, Q, n0, nm⟩ := x
  obtain ⟨hx, hb, hml, hown, hts, -⟩ := hO
  obtain ⟨hQ, hret, hlocks, -⟩ := hR
  subst hQ
  intro h126 H locs ls hP hS hl
  rw [hr] at hret
  exact W.aret hx hb hret (Or.inl ⟨C, rfl⟩) (by rcases k with _ | k; exact Or.inl rfl; exact Or.inr ⟨_, rfl⟩) (fun t ht _ => ⟨⟨.inr (.inr k), rf, im, lv, by rw [hr]; rfl, hq, by rw [ht]; exact hP⟩, hS.F ht⟩) (fun q hq => hS.2.2 q hq) hd hlocks
/-- the heap's size, out of the frame that the machine keeps -/
theorem W_size {p : Program} {l : Launch} {e : Env} {R : Room} {s : State} {m : MethodId} {args : Array Value} {below : List Frame} {meth : Method} {c : Code} {H : Heap} {locs : List Loc} {cells slots : Nat} {Q : State → Prop} {g : JFrame}
    (h : H.size ≤ s.heap.size + cells → W p l e R s m args below meth c H locs cells slots Q g) : W p l e R s m args below meth c H locs cells slots Q g := by
  intro T hT X
  have h2 : (T.setVm s.vm).heap.size ≤ s.heap.size + cells := X.same.2.2.1
  exact h (by rw [← hT]; exact h2) T hT X
theorem zH_ge {H : Heap} (hP : va_P w.2.1 vwCl (zws w n rf im lv) H) {n0 : Nat} (h0 : w.1 + n0 ≤ H.size) (hn : n0 ≤ n) : w.1 + n ≤ H.size := by
  by_cases h : n = n0
  · rw [h]; exact h0
  · have h2 : (zws w n rf im lv)[n - 1]? = some (w.1 + (n - 1), zE w rf im lv (zkey (n - 1)).1 (zkey (n - 1)).2) := by
      unfold zws
      rw [List.getElem?_map, List.getElem?_range (by omega)]
      rfl
    have h3 := (hP _ _ h2).lt
    dsimp only at h3
    omega
abbrev zres (ret : Option FieldType) (v : zV) (st : List zV) : List zV := if ret.isNone = true then st else v :: st
theorem zcallC {p : Program} {l : Launch} {e : Env} {R : Room} {s : State} {m : MethodId} {args : Array Value} {below : List Frame} {meth : Method} {c : Code} {Q : State → Prop} {n0 nm : Nat} {H : Heap} {locs : List Loc} {ls : Array Slot} {st0 : List Value} {ret : Option FieldType} {n2 : Nat} {a : Array Value}
    (hrun : va_Run p l e R s m args below meth c H locs (n - n0) (zsl n - zsl n0) (n2 - n) (zsl n2 - zsl n) (F0 m pc ls st0) (st.map (zcv w.1)) (zQc w ret n2 post a) (fun q => w.1 ≤ q)) (hS : va_S (fun q => w.1 ≤ q) s.heap H locs) (hl : lv_has ls c.maxLocals (zlc w.1 L)) (h0 : n0 ≤ n) (h1 : n ≤ n2) (h126 : n2 ≤ 126)
    (kk : ∀ (v : zV) (rf' : zRef) (im' : zMem) (lv' : Int64), post v rf' im' lv' → zWg (p, l, e, R, s, m, args, below, meth, c, Q, n0, nm) w n2 rf' (pc + 3) L (zres ret v st) im' lv') : W p l e R s m args below meth c H locs (n - n0) (zsl n - zsl n0) Q (F0 m pc ls st0) := by
  intro T hT X
  obtain ⟨v, st₀, t, T', Lc, e0, X', hL, e1, e2, ⟨⟨zv, rf', im', lv', hv, hp, hP'⟩, hz, hk⟩, hst⟩ := hrun T hT X
  cases hv
  rw [e0] at hz hk
  have hc1 : n - n0 + (n2 - n) = n2 - n0 := by omega
  have hm1 := zsl_mono h0
  have hm2 := zsl_mono h1
  have hc2 : zsl n - zsl n0 + (zsl n2 - zsl n) = zsl n2 - zsl n0 := by omega
  rw [hc1, hc2] at X'
  have hS' : va_S (fun q => w.1 ≤ q) s.heap T'.heap (locs ++ Lc) := ⟨Nat.le_trans hS.1 (by rw [e1]; exact hz), fun q g1 g2 => by rw [e1, hk q (Nat.lt_of_lt_of_le g1 hS.1) g2]; exact hS.2.1 q g1 g2, fun q hq => by
    rcases List.mem_append.mp hq with g | g
    · exact hS.2.2 q g
    · exact hL q g⟩
  obtain ⟨t2, a1, b1⟩ := kk zv rf' im' lv' hp h126 T'.heap (locs ++ Lc) ls (by rw [e1]; exact hP') hS' hl T' rfl X'
  refine ⟨t2, hst t2 ?_, b1⟩
  have hst2 : (zres ret zv st).map (zcv w.1) = (if ret.isNone = true then none else some (zcv w.1 zv)).toList ++ st.map (zcv w.1) := by
    unfold zres
    by_cases hr : ret.isNone = true
    · rw [if_pos hr, if_pos hr]; rfl
    · rw [if_neg hr, if_neg hr]; rfl
  rw [hst2] at a1
  exact a1
def zLk (own : String) (idx : Nat) (Y' : zY) (k : Nat) : Prop := Cond.methodLink own idx Y'.1 ∈ zT ∧ Cond.initialized Y'.1.cls ∈ zT ∧ Cond.code Y'.1 Y'.2.1 Y'.2.2.1 Y'.2.2.2 ∈ zT ∧ (Y'.1.cls ≠ "java/lang/invoke/MethodHandle" ∧ Y'.1.cls ≠ "java/lang/invoke/VarHandle" ∧ (parseMethodDescriptor Y'.1.desc).map (fun d => d.parameters.length) = some k) ∧ Y'.2.2.1 ≤ 21
def zLkV (own : String) (idx : Nat) (Y' : zY) (k : Nat) : Prop := zLk own idx Y' k ∧ Cond.instanceMethod Y'.1 ∈ zT ∧ Cond.selects Y'.1.cls Y'.1 Y'.1 ∈ zT
def zLkS (own : String) (idx : Nat) (Y' : zY) (k : Nat) : Prop := zLk own idx Y' k ∧ Cond.static Y'.1 ∈ zT
def zLkI (own : String) (idx : Nat) (Y' : zY) (k : Nat) : Prop := zLk own idx Y' k ∧ Cond.instanceMethod Y'.1 ∈ zT ∧ Y'.1.name = "<init>" ∧ Y'.2.2.2 = none
def zLkN (own : String) (idx : Nat) (Y' : zY) (k : Nat) : Prop := Cond.methodLinkNest own idx Y'.1 "RoomsOfAir" ∈ zNs ∧ Cond.initialized Y'.1.cls ∈ zT ∧ Cond.code Y'.1 Y'.2.1 Y'.2.2.1 Y'.2.2.2 ∈ zT ∧ (Y'.1.cls ≠ "java/lang/invoke/MethodHandle" ∧ Y'.1.cls ≠ "java/lang/invoke/VarHandle" ∧ (parseMethodDescriptor Y'.1.desc).map (fun d => d.parameters.length) = some k) ∧ Y'.2.2.1 ≤ 21
theorem zcallB {R : Room} {s : State} {args : Array Value} {Y' : zY} {d k own idx n2} (hts : ∀ t ∈ zT, t.before args s = true) (hk : zLk own idx Y' k) (h1 : d + 1 ≤ R.frames) (h2 : 40 * (d + 1) ≤ R.locals) : CallB R s args own idx Y'.1 Y'.2.1 Y'.2.2.1 Y'.2.2.2 (Cond.code Y'.1 Y'.2.1 Y'.2.2.1 Y'.2.2.2 :: zT) (zroom d n n2) (n2 - n) (zsl n2 - zsl n) k := by
  obtain ⟨k1, k2, k3, k4, k5⟩ := hk
  exact callB_of k hts (zT_good k3) rfl rfl rfl (hts _ k2) (hts _ k1) k4 ⟨h1, by show 8 + (_ + 11) + 40 * d ≤ _; omega⟩
theorem zcat_sum {b : Nat} : ∀ {st : List zV}, ((st.map (zcv b)).map fun v => v.category).sum = (st.map zcat).sum
  | [] => rfl
  | v :: st => by simp only [List.map_cons, List.sum_cons, zcv_cat, zcat_sum]
theorem zi_callV {Y' : zY} {d n2 idx k r i ci N : Nat} {as : List zV} {st0 : List zV} (hO : zOK x w Y dd) (hNN : zN x n n2) (h126 : n2 ≤ 126) (hd : decode Y.2.1 pc = .ok (.invokevirtual idx, 3)) (hk : zLkV Y.1.cls idx Y' k) (hdd : d + 1 ≤ dd) (hz : zkd r = (0, ci, N)) (hi : zin n r i) (hC : (vwCl[ci]?).map (fun q => q.1) = some Y'.1.cls) (hlen : as.length = k) (hroom : (st.map zcat).sum ≤ 8) (hst : st0 = as.reverse ++ vR r i :: st)
    (hM : zSpecg x.2.1 w d Y' n rf n2 (vR r i :: as) im lv post) (kk : ∀ (v : zV) (rf' : zRef) (im' : zMem) (lv' : Int64), post v rf' im' lv' → zWg x w n2 rf' (pc + 3) L (zres Y'.2.2.2 v st) im' lv') : zWg x w n rf pc L st0 im lv := by
  obtain ⟨p, l, e, R, s, m, args, below, meth, c, Q, n0, nm⟩ := x
  obtain ⟨hx, hb, hml, hown, hts, hU, hsz, hfr, hlo, hce, hsl, hnn⟩ := hO
  obtain ⟨g0, g1, g2⟩ := hNN
  subst hst
  intro _ H locs ls hP hS hl
  refine W_size (fun hup => ?_)
  have hge := zH_ge hP (n0 := n0) (by have := hS.1; omega) g0
  have hsH : H.size = w.1 + n := by omega
  have hm1 := zsl_mono g0
  have hm2 := zsl_mono g1
  have hm3 := zsl_mono g2
  cases hcc : vwCl[ci]? with
  | none => rw [hcc] at hC; cases hC
  | some q =>
    rw [hcc] at hC
    have hC : q.1 = Y'.1.cls := Option.some.inj hC
    have hcb := zcallB (n := n) (n2 := n2) (R := R) hts hk.1 (by omega : d + 1 ≤ R.frames) (by omega : 40 * (d + 1) ≤ R.locals)
    refine zcallC (va_runV (n := k) (As := as.map (zcv w.1)) (rest := st.map (zcv w.1)) (C := Y'.1.cls) (b := w.1 + zad r i) (nL := Y.2.2.1) (Ts := zT) ⟨hx, hb, hml, hown, hts⟩ hM ⟨hcb, hts _ hk.2.1, hts _ hk.2.2⟩
      ⟨zblind, by rw [← hC]; exact va_recv hU.1 hP hcc (q0 := zad r i) (by rw [zws_at hi, zE_obj hz]), fun U hUH hW => ⟨rfl, by rw [hUH]; exact hsH, by rw [hUH]; exact hP, zUp_moved hU hW⟩⟩ rfl (by simpa using hlen) (by rw [← hml]; exact hl.1) (by simp [zcv]) (lv_room (by rw [zcat_sum]; exact hroom)) hd ⟨by omega, by omega⟩) hS hl g0 g1 h126 kk
theorem zi_callS {Y' : zY} {d n2 idx k : Nat} {as : List zV} {st0 : List zV} (hO : zOK x w Y dd) (hNN : zN x n n2) (h126 : n2 ≤ 126) (hd : decode Y.2.1 pc = .ok (.invokestatic idx, 3)) (hk : zLkS Y.1.cls idx Y' k) (hdd : d + 1 ≤ dd) (hlen : as.length = k) (hroom : (st.map zcat).sum ≤ 8) (hst : st0 = as.reverse ++ st)
    (hM : zSpecg x.2.1 w d Y' n rf n2 as im lv post) (kk : ∀ (v : zV) (rf' : zRef) (im' : zMem) (lv' : Int64), post v rf' im' lv' → zWg x w n2 rf' (pc + 3) L (zres Y'.2.2.2 v st) im' lv') : zWg x w n rf pc L st0 im lv := by
  obtain ⟨p, l, e, R, s, m, args, below, meth, c, Q, n0, nm⟩ := x
  obtain ⟨hx, hb, hml, hown, hts, hU, hsz, hfr, hlo, hce, hsl, hnn⟩ := hO
  obtain ⟨g0, g1, g2⟩ := hNN
  subst hst
  intro _ H locs ls hP hS hl
  refine W_size (fun hup => ?_)
  have hge := zH_ge hP (n0 := n0) (by have := hS.1; omega) g0
  have hsH : H.size = w.1 + n := by omega
  have hm1 := zsl_mono g0
  have hm2 := zsl_mono g1
  have hm3 := zsl_mono g2
  have hcb := zcallB (n := n) (n2 := n2) (R := R) hts hk.1 (by omega : d + 1 ≤ R.frames) (by omega : 40 * (d + 1) ≤ R.locals)
  refine zcallC (va_runS (n := k) (As := as.map (zcv w.1)) (rest := st.map (zcv w.1)) (nL := Y.2.2.1) (Ts := zT) ⟨hx, hb, hml, hown, hts⟩ hM ⟨hcb, hts _ hk.2⟩
      ⟨zblind, fun U hUH hW => ⟨rfl, by rw [hUH]; exact hsH, by rw [hUH]; exact hP, zUp_moved hU hW⟩⟩ rfl (by simpa using hlen) (by rw [← hml]; exact hl.1) (by simp) (lv_room (by rw [zcat_sum]; exact hroom)) hd ⟨by omega, by omega⟩) hS hl g0 g1 h126 kk
theorem zi_callSN {Y' : zY} {d n2 idx k : Nat} {as : List zV} {st0 : List zV} (hO : zOK x w Y dd) (hNN : zN x n n2) (h126 : n2 ≤ 126) (hd : decode Y.2.1 pc = .ok (.invokestatic idx, 3)) (hk : zLkN Y.1.cls idx Y' k) (hks : Cond.static Y'.1 ∈ zT) (hdd : d + 1 ≤ dd) (hlen : as.length = k) (hroom : (st.map zcat).sum ≤ 8) (hst : st0 = as.reverse ++ st)
    (hM : zSpecg x.2.1 w d Y' n rf n2 as im lv post) (kk : ∀ (v : zV) (rf' : zRef) (im' : zMem) (lv' : Int64), post v rf' im' lv' → zWg x w n2 rf' (pc + 3) L (zres Y'.2.2.2 v st) im' lv') : zWg x w n rf pc L st0 im lv := by
  obtain ⟨p, l, e, R, s, m, args, below, meth, c, Q, n0, nm⟩ := x
  obtain ⟨hx, hb, hml, hown, hts, hU, hsz, hfr, hlo, hce, hsl, hnn⟩ := hO
  obtain ⟨g0, g1, g2⟩ := hNN
  subst hst
  intro _ H locs ls hP hS hl
  refine W_size (fun hup => ?_)
  have hge := zH_ge hP (n0 := n0) (by have := hS.1; omega) g0
  have hsH : H.size = w.1 + n := by omega
  have hm1 := zsl_mono g0
  have hm2 := zsl_mono g1
  have hm3 := zsl_mono g2
  obtain ⟨k1, k2, k3, k4, k5⟩ := hk
  have hcn := va_cnB (R := R) (rm := zroom d n n2) (mc := n2 - n) (ms := zsl n2 - zsl n) k hts (zT_good k3) rfl rfl rfl (hU.2.1 _ k1) (hts _ k2) k4 ⟨by show d + 1 ≤ _; omega, by show 8 + (_ + 11) + 40 * d ≤ _; omega⟩
  refine zcallC (va_runSN (n := k) (As := as.map (zcv w.1)) (rest := st.map (zcv w.1)) (nL := Y.2.2.1) (Ts := zT) ⟨hx, hb, hml, hown, hts⟩ hM ⟨hcn, hts _ hks, trivial⟩
      ⟨zblind, fun U hUH hW => ⟨rfl, by rw [hUH]; exact hsH, by rw [hUH]; exact hP, zUp_moved hU hW⟩⟩ rfl (by simpa using hlen) (by rw [← hml]; exact hl.1) (by simp) (lv_room (by rw [zcat_sum]; exact hroom)) hd ⟨by omega, by omega⟩) hS hl g0 g1 h126 kk
end ZCALL
