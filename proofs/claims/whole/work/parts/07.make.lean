/-! what the JDK gives, what is made -/
section ZJ
variable {x : zX} {w : zWd} {n : Nat} {rf : zRef} {pc : Nat} {L L' : List (Nat × zV)} {st : List zV} {im : zMem} {lv : Int64} {Y : zY} {dd : Nat} {post : zV → zRef → zMem → Int64 → Prop}
theorem zi_max {a b : Int32} {idx : Nat} (hO : zOK x w Y dd) (hN : zN x n n) (hdd : 1 ≤ dd) (hd : decode Y.2.1 pc = .ok (.invokestatic idx, 3)) (h1 : Cond.methodLink Y.1.cls idx Lib.Math.max.name ∈ zT) (h2 : Cond.static Lib.Math.max.name ∈ zT) (h3 : Cond.initialized "java/lang/Math" ∈ zT) (h4 : Cond.code Lib.Math.max.name Lib.Math.max.code 2 (some .int) ∈ zT) (hroom : (st.map zcat).sum ≤ 8)
    (kk : zWg x w n rf (pc + 3) L (vI (if a < b then b else a) :: st) im lv) : zWg x w n rf pc L (vI b :: vI a :: st) im lv := by
  obtain ⟨p, l, e, R, s, m, args, below, meth, c, Q, n0, nm⟩ := x
  obtain ⟨hx, hb, hml, hown, hts, hU, hsz, hfr, hlo, hce, hsl, hnn⟩ := hO
  obtain ⟨g0, g1, g2⟩ := hN
  intro h126 H locs ls hP hS hl
  have hm3 := zsl_mono g2
  exact va_mmax hx hb hl.1.symm hown (hts _ h1) (hts _ h2) (hts _ h3) (hts _ h4) (by omega) (by rw [zcat_sum]; omega) (by omega) (by omega) hd (kk h126 H locs ls hP hS hl)
theorem zi_min {a b : Int32} {idx : Nat} (hO : zOK x w Y dd) (hN : zN x n n) (hdd : 1 ≤ dd) (hd : decode Y.2.1 pc = .ok (.invokestatic idx, 3)) (h1 : Cond.methodLink Y.1.cls idx Lib.Math.min.name ∈ zT) (h2 : Cond.static Lib.Math.min.name ∈ zT) (h3 : Cond.initialized "java/lang/Math" ∈ zT) (h4 : Cond.code Lib.Math.min.name Lib.Math.min.code 2 (some .int) ∈ zT) (hroom : (st.map zcat).sum ≤ 8)
    (kk : zWg x w n rf (pc + 3) L (vI (if b < a then b else a) :: st) im lv) : zWg x w n rf pc L (vI b :: vI a :: st) im lv := by
  obtain ⟨p, l, e, R, s, m, args, below, meth, c, Q, n0, nm⟩ := x
  obtain ⟨hx, hb, hml, hown, hts, hU, hsz, hfr, hlo, hce, hsl, hnn⟩ := hO
  obtain ⟨g0, g1, g2⟩ := hN
  intro h126 H locs ls hP hS hl
  have hm3 := zsl_mono g2
  exact va_mmin hx hb hl.1.symm hown (hts _ h1) (hts _ h2) (hts _ h3) (hts _ h4) (by omega) (by rw [zcat_sum]; omega) (by omega) (by omega) hd (kk h126 H locs ls hP hS hl)
theorem zi_abs {a : Int32} {idx : Nat} (hO : zOK x w Y dd) (hN : zN x n n) (hdd : 1 ≤ dd) (hd : decode Y.2.1 pc = .ok (.invokestatic idx, 3)) (h1 : Cond.methodLink Y.1.cls idx Lib.Math.abs.name ∈ zT) (h2 : Cond.static Lib.Math.abs.name ∈ zT) (h3 : Cond.initialized "java/lang/Math" ∈ zT) (h4 : Cond.code Lib.Math.abs.name Lib.Math.abs.code 1 (some .int) ∈ zT) (hroom : (st.map zcat).sum ≤ 8)
    (kk : zWg x w n rf (pc + 3) L (vI (if 0 ≤ a then a else 0 - a) :: st) im lv) : zWg x w n rf pc L (vI a :: st) im lv := by
  obtain ⟨p, l, e, R, s, m, args, below, meth, c, Q, n0, nm⟩ := x
  obtain ⟨hx, hb, hml, hown, hts, hU, hsz, hfr, hlo, hce, hsl, hnn⟩ := hO
  obtain ⟨g0, g1, g2⟩ := hN
  intro h126 H locs ls hP hS hl
  have hm3 := zsl_mono g2
  exact va_mabs hx hb hl.1.symm hown (hts _ h1) (hts _ h2) (hts _ h3) (hts _ h4) (by omega) (by rw [zcat_sum]; omega) (by omega) (by omega) hd (kk h126 H locs ls hP hS hl)
theorem zi_copy {r i N z r' i' N' z' idx : Nat} {sp dp k : Int32} (hO : zOK x w Y dd) (hdd : 1 ≤ dd) (hd : decode Y.2.1 pc = .ok (.invokestatic idx, 3)) (h1 : Cond.methodLink Y.1.cls idx arraycopyName ∈ zT) (h2 : Cond.native arraycopyName ∈ zT) (h3 : Cond.static arraycopyName ∈ zT) (h4 : Cond.initialized "java/lang/System" ∈ zT)
    (hk : zkd r = (1, N, z)) (hi : zin n r i) (hk' : zkd r' = (1, N', z')) (hi' : zin n r' i') (g1 : ¬ sp < 0) (g2 : ¬ dp < 0) (g3 : ¬ k < 0) (g4 : sp.toNatClampNeg + k.toNatClampNeg ≤ N) (g5 : dp.toNatClampNeg + k.toNatClampNeg ≤ N') (hroom : (st.map zcat).sum ≤ 8)
    (kk : zWg x w n rf (pc + 3) L st (zset im r' i' (va_cpy (im r i) (im r' i') sp.toNatClampNeg dp.toNatClampNeg k.toNatClampNeg)) lv) : zWg x w n rf pc L (vI k :: vI dp :: vR r' i' :: vI sp :: vR r i :: st) im lv := by
  obtain ⟨p, l, e, R, s, m, args, below, meth, c, Q, n0, nm⟩ := x
  obtain ⟨hx, hb, hml, hown, hts, hU, hsz, hfr, hlo, hce, hsl, hnn⟩ := hO
  intro h126 H locs ls hP hS hl
  have hnw : nativeFrameWords "java/lang/System" "arraycopy" 5 + 11 ≤ 30 := by decide +kernel
  refine va_copyi (D := w.2.1) hx hb hl.1.symm hown (hts _ h1) (hts _ h2) (hts _ h3) (hts _ h4) hU.1 hP zD hS (zad r i) (zad r' i') 0 0 (by rw [zws_at hi, zE_arr hk]) (by rw [zws_at hi', zE_arr hk']) rfl rfl rfl g1 g2 g3 g4 g5 (fun _ _ => rfl) (by omega) (by rw [zcat_sum]; omega) hd (fun H1 locs1 hP1 hD1 hS1 => ?_)
  have h2 : (Sum.inl (w.2.2.1, N', .inl (va_cpy (im r i) (im r' i') sp.toNatClampNeg dp.toNatClampNeg k.toNatClampNeg)) : va_E) = zE w rf (zset im r' i' (va_cpy (im r i) (im r' i') sp.toNatClampNeg dp.toNatClampNeg k.toNatClampNeg)) lv r' i' := by rw [zE_arr hk', zset_eq]
  rw [h2, zws_set h126 hi'] at hP1
  exact kk h126 H1 locs1 ls hP1 hS1 hl
/-! making -/
theorem zws_succ : zws w (n + 1) rf im lv = zws w n rf im lv ++ [(w.1 + n, zE w rf im lv (zkey n).1 (zkey n).2)] := by
  unfold zws
  rw [List.range_succ, List.map_append]
  rfl
theorem zPush {H H1 : Heap} (hP : va_P w.2.1 vwCl (zws w n rf im lv) H) (hs : H.size = w.1 + n) (o1 : ∀ q, q < w.1 + n → H1[q]? = H[q]?) (hc : va_at w.2.1 vwCl (w.1 + n, zE w rf im lv (zkey n).1 (zkey n).2) H1) : va_P w.2.1 vwCl (zws w (n + 1) rf im lv) H1 := by
  rw [zws_succ]
  refine (hP.kept (fun k q hq => o1 q.1 ?_)).app (fun k q hq => ?_)
  · have := (hP k q hq).lt
    omega
  · have hz : k < 1 := (List.getElem?_eq_some_iff.mp hq).1
    rw [show k = 0 by omega] at hq
    cases hq
    exact hc
theorem zS_push {s : State} {H H1 : Heap} {locs : List Loc} (hS : va_S (fun q => w.1 ≤ q) s.heap H locs) (hs : H.size = w.1 + n) (z1 : H1.size = w.1 + n + 1) (o1 : ∀ q, q < w.1 + n → H1[q]? = H[q]?) : va_S (fun q => w.1 ≤ q) s.heap H1 locs :=
  ⟨by have := hS.1; omega, fun q h1 h2 => (o1 q (by have := hS.1; omega)).trans (hS.2.1 q h1 h2), hS.2.2⟩
theorem zi_new {idx ci r i N : Nat} {C : String} {T : u_T} (hO : zOK x w Y dd) (hNN : zN x n (n + 1)) (h127 : n + 1 ≤ 126) (hd : decode Y.2.1 pc = .ok (.new idx, 3)) (hcl : Cond.classLink Y.1.cls idx C ∈ zT) (hc : vwCl[ci]? = some (C, T, N)) (hky : zkey n = (r, i)) (hk : zkd r = (0, ci, N)) (h0 : im r i = fun _ => 0) (hr : rf r i = fun _ => none) (hlv : lv = 0) (hfk : ∀ j, j < N → defaultValue (zty ci j) = (if zfk ci j = 0 then .int 0 else if zfk ci j = 1 then .null else .long 0))
    (kk : zWg x w (n + 1) rf (pc + 3) L (vR r i :: st) im lv) : zWg x w n rf pc L st im lv := by
  obtain ⟨p, l, e, R, s, m, args, below, meth, c, Q, n0, nm⟩ := x
  obtain ⟨hx, hb, hml, hown, hts, hU, hsz, hfr, hlo, hce, hsl, hnn⟩ := hO
  obtain ⟨g0, g1, g2⟩ := hNN
  intro h126 H locs ls hP hS hl
  refine W_size (fun hup => ?_)
  have hge := zH_ge hP (n0 := n0) (by have := hS.1; omega) g0
  have hsH : H.size = w.1 + n := by omega
  have hm1 := zsl_mono g0
  have hm3 := zsl_mono g2
  have hzs : zsl (n + 1) = zsl n + N := by
    show zsl n + zsz (zkey n).1 = _
    rw [hky]
    unfold zsz
    rw [hk]
    rfl
  have hz := zcl hc
  have hKn := hU.1.1 ci _ hc
  have hsd : (w.1 + n) = w.1 + zad r i := by
    have := zkey_inj (by omega : n < 126) hky
    omega
  refine W.newcK hx hb hown (hts _ hcl) (hts _ hz.2.2.2.2.1) (hts _ hz.2.2.2.2.2) rfl hd (by omega) (by omega) hKn.2.1 hsH fun H1 kC hkC e1 z1 o1 => ?_
  have hat : va_at w.2.1 vwCl (w.1 + n, zE w rf im lv (zkey n).1 (zkey n).2) H1 := by
    rw [hky]
    dsimp only
    rw [zE_obj hk]
    refine ⟨_, hc, (u_born (zty ci) hts hz.2.1 hKn hkC e1 hz.2.2.2.1).to (fun j hj => ?_)⟩
    rw [hfk j hj]
    have hj2 : j < N := hj
    unfold vp_V
    rw [List.getD_eq_getElem?_getD, List.getElem?_map, List.getElem?_range hj2]
    simp only [Option.map_some, Option.getD_some]
    unfold zfv
    rw [h0, hr, hlv]
    rfl
  have h5 := kk h127 H1 locs ls (zPush hP hsH o1 hat) (zS_push hS hsH z1 o1) hl
  have e6 : n + 1 - n0 = n - n0 + 1 := by omega
  have e7 : zsl (n + 1) - zsl n0 = zsl n - zsl n0 + N := by omega
  rw [e6, e7] at h5
  simp only [List.map_cons, zcv, ← hsd] at h5
  exact h5
theorem zi_newarr {r i N z : Nat} {a : Int32} (hO : zOK x w Y dd) (hNN : zN x n (n + 1)) (h127 : n + 1 ≤ 126) (hd : decode Y.2.1 pc = .ok (.newarray .int, 2)) (hw : Cond.arrayClass .int ∈ zT) (hky : zkey n = (r, i)) (hk : zkd r = (1, N, z)) (h0 : im r i = fun _ => 0) (ha : ¬ a < 0) (haN : a.toNatClampNeg = N) (hN : N ≤ 4000)
    (kk : zWg x w (n + 1) rf (pc + 2) L (vR r i :: st) im lv) : zWg x w n rf pc L (vI a :: st) im lv := by
  obtain ⟨p, l, e, R, s, m, args, below, meth, c, Q, n0, nm⟩ := x
  obtain ⟨hx, hb, hml, hown, hts, hU, hsz, hfr, hlo, hce, hsl, hnn⟩ := hO
  obtain ⟨g0, g1, g2⟩ := hNN
  intro h126 H locs ls hP hS hl
  refine W_size (fun hup => ?_)
  have hge := zH_ge hP (n0 := n0) (by have := hS.1; omega) g0
  have hsH : H.size = w.1 + n := by omega
  have hm1 := zsl_mono g0
  have hm3 := zsl_mono g2
  have hzs : zsl (n + 1) = zsl n + N := by
    show zsl n + zsz (zkey n).1 = _
    rw [hky]
    unfold zsz
    rw [hk]
    rfl
  have hsd : (w.1 + n) = w.1 + zad r i := by
    have := zkey_inj (by omega : n < 126) hky
    omega
  refine va_newaK hx hb (atype := .int) (hts _ hw) rfl hd rfl ha haN (by show N * 4 ≤ _; omega) (by omega) (by omega) hsH fun H1 cA e1 z1 o1 hAr hNm => ?_
  have hcA : cA = w.2.2.1 := Option.some.inj (hNm.symm.trans (hU.1.2 0 _ rfl).2)
  have hat : va_at w.2.1 vwCl (w.1 + n, zE w rf im lv (zkey n).1 (zkey n).2) H1 := by
    rw [hky]
    dsimp only
    rw [zE_arr hk]
    show H1[w.1 + n]? = some (vp_cell _ _)
    rw [e1, hcA, h0]
    rfl
  have h5 := kk h127 H1 locs ls (zPush hP hsH o1 hat) (zS_push hS hsH z1 o1) hl
  have e6 : n + 1 - n0 = n - n0 + 1 := by omega
  have e7 : zsl (n + 1) - zsl n0 = zsl n - zsl n0 + N := by omega
  rw [e6, e7] at h5
  simp only [List.map_cons, zcv, ← hsd] at h5
  exact h5
end ZJ
