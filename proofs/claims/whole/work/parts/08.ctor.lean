section ZK
variable {x : zX} {w : zWd} {n : Nat} {rf : zRef} {pc : Nat} {L L' : List (Nat × zV)} {st : List zV} {im : zMem} {lv : Int64} {Y : zY} {dd : Nat} {post : zV → zRef → zMem → Int64 → Prop}
def zsetR (rf : zRef) (r i : Nat) (f : Nat → Option (Nat × Nat)) : zRef := fun r' => if r' = r then fun i' => if i' = i then f else rf r i' else rf r'
def zupR (f : Nat → Option (Nat × Nat)) (k : Nat) (v : Option (Nat × Nat)) : Nat → Option (Nat × Nat) := fun j => if j = k then v else f j
theorem zsetR_eq {r i : Nat} {f : Nat → Option (Nat × Nat)} : zsetR rf r i f r i = f := by simp [zsetR]
theorem zsetR_ne {r i r' i' : Nat} {f : Nat → Option (Nat × Nat)} (h : ¬ (r' = r ∧ i' = i)) : zsetR rf r i f r' i' = rf r' i' := by
  unfold zsetR
  by_cases h1 : r' = r
  · subst h1
    by_cases h2 : i' = i
    · exact absurd ⟨rfl, h2⟩ h
    · simp [h2]
  · simp [h1]
theorem zE_rf {rf' : zRef} {r i : Nat} (h : rf r i = rf' r i) : zE w rf im lv r i = zE w rf' im lv r i := by
  have hf : zfv w.1 rf im lv (zkd r).2.1 r i = zfv w.1 rf' im lv (zkd r).2.1 r i := by
    funext j
    unfold zfv
    rw [h]
  have hg : zrefs w.1 rf r i = zrefs w.1 rf' r i := by
    funext j
    unfold zrefs
    rw [h]
  unfold zE
  rw [hf, hg]
theorem zws_setR {r i : Nat} {f : Nat → Option (Nat × Nat)} (hn : n ≤ 126) (h : zin n r i) :
    (zws w n rf im lv).set (zad r i) (w.1 + zad r i, zE w (zsetR rf r i f) im lv r i) = zws w n (zsetR rf r i f) im lv := by
  apply List.ext_getElem?
  intro k
  by_cases hk : k = zad r i
  · subst hk
    rw [zws_at h, List.getElem?_set_self (by simp [zws]; exact h.2)]
  · rw [List.getElem?_set_ne (fun q => hk q.symm)]
    unfold zws
    rw [List.getElem?_map, List.getElem?_map]
    by_cases hl : k < n
    · rw [List.getElem?_range hl]
      simp only [Option.map_some]
      rw [zE_rf (rf' := zsetR rf r i f)]
      rw [zsetR_ne]
      intro q
      exact hk (zkey_inj (by omega) (Prod.ext q.1 q.2))
    · rw [List.getElem?_eq_none (by simp; omega)]
      rfl
def zisR : FieldType → Bool
  | .object _ => true
  | .array _ => true
  | _ => false
theorem zty1 : ∀ ci, ci < 13 → ∀ j, j < 42 → zfk ci j = 1 → zisR (zty ci j) = true := by decide +kernel
theorem zisR_n {ty : FieldType} {a : Nat} (h : zisR ty = true) : narrow ty (.ref a) = .ref a ∧ fits ty (.ref a) = true := by
  cases ty <;> first | exact ⟨rfl, rfl⟩ | cases h
theorem zfk_ref {ci k : Nat} {C : String} {T : u_T} {N : Nat} (hc : vwCl[ci]? = some (C, T, N)) (hk : k < N) (h0 : zfk ci k = 1) : zisR (zty ci k) = true := by
  have hci : ci < 13 := (List.getElem?_eq_some_iff.mp hc).1
  have h1 := zfkN ci hci
  rw [hc] at h1
  have h2 : N = (zFk.getD ci []).length := Option.some.inj h1.1
  exact zty1 ci hci k (by omega) h0
theorem zE_putR {r i ci N k r' i' : Nat} (hk : zkd r = (0, ci, N)) (h0 : zfk ci k = 1) : (Sum.inr (ci, ((List.range N).map (zfv w.1 rf im lv ci r i)).set k (zcv w.1 (vR r' i'))) : va_E) = zE w (zsetR rf r i (zupR (rf r i) k (some (r', i')))) im lv r i := by
  rw [zE_obj hk]
  congr 2
  apply List.ext_getElem?
  intro j
  by_cases hj : j = k
  · subst hj
    by_cases hN : j < N
    · rw [List.getElem?_set_self (by simpa using hN), List.getElem?_map, List.getElem?_range hN]
      simp [zfv, h0, zsetR_eq, zupR]
    · rw [List.getElem?_eq_none (by simp; omega), List.getElem?_eq_none (by simp; omega)]
  · rw [List.getElem?_set_ne (fun q => hj q.symm), List.getElem?_map, List.getElem?_map]
    by_cases hN : j < N
    · rw [List.getElem?_range hN]
      simp only [Option.map_some]
      congr 1
      unfold zfv
      rw [zsetR_eq]
      simp [zupR, hj]
    · rw [List.getElem?_eq_none (by simp; omega)]
      rfl
theorem zi_putR {idx ci k r i N r' i' nm' : Nat} (hO : zOK x w Y dd) (hR : zRet x w Y nm' post) (hin : Y.1.name = "<init>") (hd : decode Y.2.1 pc = .ok (.putfield idx, 3)) (hf : zFldW true Y.1.cls idx ci k) (hk : zkd r = (0, ci, N)) (h0 : zfk ci k = 1) (hi : zin n r i) (kk : zWg x w n (zsetR rf r i (zupR (rf r i) k (some (r', i')))) (pc + 3) L st im lv) : zWg x w n rf pc L (vR r' i' :: vR r i :: st) im lv := by
  obtain ⟨p, l, e, R, s, m, args, below, meth, c, Q, n0, nm⟩ := x
  obtain ⟨hx, hb, hml, hown, hts, ⟨hK, -⟩, -⟩ := hO
  obtain ⟨-, -, -, hmn⟩ := hR
  obtain ⟨C, T, N', hc, hkN, hlk, hfin, hdecl⟩ := hf
  have hN := zkN' (zcnt_lt hi.1) hk hc
  subst hN
  intro h126 H locs ls hP hS hl
  have hty := zisR_n (a := w.1 + zad r' i') (zfk_ref hc hkN h0)
  refine va_putF (D := w.2.1) (v := zcv w.1 (vR r' i')) (Ts := zT) hx hb hts (zcl hc).2.1 (zty ci) (zcl hc).2.2.2.1 (zcl hc).2.2.1 hown hK hP zD hS (zad r i) (by rw [zws_at hi, zE_obj hk]) hc k hkN (hts _ hlk) (fun _ h => h) hfin (hmn.trans hin) (hdecl rfl) ((zcl hc).2.2.2.1 k hkN) hty.1 hty.2 (by simpa using hkN) hd (fun H1 locs1 hP1 hD1 hS1 => ?_)
  rw [zE_putR hk h0, zws_setR h126 hi] at hP1
  exact kk h126 H1 locs1 ls hP1 hS1 hl
theorem zi_aast {r i N z t r' i' ci N2 : Nat} {a : Int32} (hO : zOK x w Y dd) (hd : decode Y.2.1 pc = .ok (.aastore, 1)) (hk : zkd r = (t + 2, N, z)) (hi : zin n r i) (ha : vp_in a N) (hk' : zkd r' = (0, ci, N2)) (hi' : zin n r' i') (hci : ci = if t = 0 then 7 else 2) (kk : zWg x w n (zsetR rf r i (zupR (rf r i) a.toNatClampNeg (some (r', i')))) (pc + 1) L st im lv) : zWg x w n rf pc L (vR r' i' :: vI a :: vR r i :: st) im lv := by
  obtain ⟨p, l, e, R, s, m, args, below, meth, c, Q, n0, nm⟩ := x
  obtain ⟨hx, hb, hml, hown, hts, ⟨hK, -⟩, -⟩ := hO
  intro h126 H locs ls hP hS hl
  have hup : va_up (zrefs w.1 rf r i) a.toNatClampNeg (some (w.1 + zad r' i')) = zrefs w.1 (zsetR rf r i (zupR (rf r i) a.toNatClampNeg (some (r', i')))) r i := by
    funext j
    unfold va_up zrefs
    rw [zsetR_eq]
    unfold zupR
    by_cases hj : j = a.toNatClampNeg
    · simp [hj]
    · simp [hj]
  have hE : ∀ H1, va_P w.2.1 vwCl ((zws w n rf im lv).set (zad r i) (w.1 + zad r i, .inl (if t = 0 then w.2.2.2.1 else w.2.2.2.2, N, .inr (.inr (.inr (.inr (va_up (zrefs w.1 rf r i) a.toNatClampNeg (some (w.1 + zad r' i'))))))))) H1 → va_P w.2.1 vwCl (zws w n (zsetR rf r i (zupR (rf r i) a.toNatClampNeg (some (r', i')))) im lv) H1 := by
    intro H1 h
    rw [hup, ← zE_ra (im := im) (lv := lv) hk, zws_setR h126 hi] at h
    exact h
  by_cases ht : t = 0
  · rw [if_pos ht] at hci
    subst hci
    exact va_astq (D := w.2.1) hx hb hK hP zD hS (zad r i) 1 (zad r' i') 7 (r := (RX7, TX7, 3)) (by rw [zws_at hi, zE_ra hk, if_pos ht]) rfl (by rw [zws_at hi', zE_obj hk']) rfl ha hd (fun H1 locs1 hP1 _ hS1 => kk h126 H1 locs1 ls (hE H1 (by rw [if_pos ht]; exact hP1)) hS1 hl)
  · rw [if_neg ht] at hci
    subst hci
    exact va_astq (D := w.2.1) hx hb hK hP zD hS (zad r i) 2 (zad r' i') 2 (r := (RX2, TX2, 10)) (by rw [zws_at hi, zE_ra hk, if_neg ht]) rfl (by rw [zws_at hi', zE_obj hk']) rfl ha hd (fun H1 locs1 hP1 _ hS1 => kk h126 H1 locs1 ls (hE H1 (by rw [if_neg ht]; exact hP1)) hS1 hl)
theorem zi_anew {idx r i N z t : Nat} {a : Int32} {C : String} (hO : zOK x w Y dd) (hNN : zN x n (n + 1)) (h127 : n + 1 ≤ 126) (hd : decode Y.2.1 pc = .ok (.anewarray idx, 3)) (hcl : Cond.classLink Y.1.cls idx C ∈ zT) (hC : (t = 0 ∧ C = "RoomsOfAir$Sheet") ∨ (t = 1 ∧ C = "RoomsOfAir$Flight")) (hky : zkey n = (r, i)) (hk : zkd r = (t + 2, N, z)) (hr : rf r i = fun _ => none) (ha : ¬ a < 0) (haN : a.toNatClampNeg = N) (hN : N ≤ 4000)
    (kk : zWg x w (n + 1) rf (pc + 3) L (vR r i :: st) im lv) : zWg x w n rf pc L (vI a :: st) im lv := by
  obtain ⟨p, l, e, R, s, m, args, below, meth, c, Q, n0, nm⟩ := x
  obtain ⟨hx, hb, hml, hown, hts, hU, hsz, hfr, hlo, hce, hsl, hnn⟩ := hO
  obtain ⟨g0, g1, g2⟩ := hNN
  intro h126 H locs ls hP hS hl
  refine W_size (fun hup => ?_)
  have hge := zH_ge hP (n0 := n0) (by have := hS.1; omega) g0
  have hsH : H.size = w.1 + n := by omega
  have hm1 := zsl_mono g0
  have hm3 := zsl_mono g2
  have hzs : zsl (n + 1) = zsl n + N := by
    show zsl n + zsz (zkey n).1 = _
    rw [hky]
    unfold zsz
    rw [hk]
    dsimp only
    rw [if_neg (by omega)]
  have hsd : (w.1 + n) = w.1 + zad r i := by
    have := zkey_inj (by omega : n < 126) hky
    omega
  have hov : va_AO C s := by
    rcases hC with ⟨-, rfl⟩ | ⟨-, rfl⟩
    · exact hU.2.2.1
    · exact hU.2.2.2
  refine W.anew hx hb hown (hts _ hcl) (va_AO.use hov) rfl hd rfl ha (by rw [haN]; omega) (by omega) (by rw [haN]; omega) fun cA kA comp f1 f2 f3 f4 => ?_
  have hcA : cA = if t = 0 then w.2.2.2.1 else w.2.2.2.2 := by
    rcases hC with ⟨rfl, rfl⟩ | ⟨rfl, rfl⟩
    · obtain ⟨_, _, _, _, _, h9⟩ := (hU.1.2 1 _ rfl).2
      exact Option.some.inj (f1.symm.trans h9)
    · obtain ⟨_, _, _, _, _, h9⟩ := (hU.1.2 2 _ rfl).2
      exact Option.some.inj (f1.symm.trans h9)
  generalize hH1 : H.push ({ cls := cA, slots := Array.replicate a.toNatClampNeg .null, vm := .none } : Cell) = H1
  have z1 : H1.size = w.1 + n + 1 := by rw [← hH1, Array.size_push, hsH]
  have e1 : H1[w.1 + n]? = some (arrV cA a.toNatClampNeg (fun _ => .null)) := by rw [← hH1, ← hsH, Array.getElem?_push_size, ← arrV_new]
  have o1 : ∀ q : Nat, q < w.1 + n → H1[q]? = H[q]? := fun q hq => by rw [← hH1, Array.getElem?_push, if_neg (by omega)]
  have hat : va_at w.2.1 vwCl (w.1 + n, zE w rf im lv (zkey n).1 (zkey n).2) H1 := by
    rw [hky]
    dsimp only
    rw [zE_ra hk]
    show H1[w.1 + n]? = some (vp_cell _ _)
    rw [e1, hcA, haN, vp_cell_q]
    unfold zrefs
    rw [hr]
    rfl
  have h5 := kk h127 H1 locs ls (zPush hP hsH o1 hat) (zS_push hS hsH z1 o1) hl
  have e6 : n + 1 - n0 = n - n0 + 1 := by omega
  have e7 : zsl (n + 1) - zsl n0 = zsl n - zsl n0 + N := by omega
  rw [e6, e7] at h5
  simp only [List.map_cons, zcv, ← hsd] at h5
  rw [hsH, haN]
  exact h5
theorem zi_objInit {idx r i : Nat} (hO : zOK x w Y dd) (hdd : 1 ≤ dd) (hd : decode Y.2.1 pc = .ok (.invokespecial idx, 3)) (h1 : Cond.methodLink Y.1.cls idx objectInit ∈ zT) (h2 : Cond.instanceMethod objectInit ∈ zT) (h3 : Cond.code objectInit ⟨#[0xb1]⟩ 1 none ∈ zT) (hroom : (st.map zcat).sum ≤ 8) (kk : zWg x w n rf (pc + 3) L st im lv) : zWg x w n rf pc L (vR r i :: st) im lv := by
  obtain ⟨p, l, e, R, s, m, args, below, meth, c, Q, n0, nm⟩ := x
  obtain ⟨hx, hb, hml, hown, hts, hU, hsz, hfr, hlo, hce, hsl, hnn⟩ := hO
  intro h126 H locs ls hP hS hl
  exact W.objInit hx hb hown (hts _ h1) (hts _ h2) (hts _ h3) rfl hl.1 rfl hd (by omega) (by have h9 := lv_room (m := m) (pc := pc) (ls := ls) (rest := st.map (zcv w.1)) (st := st.map (zcv w.1)) (by rw [zcat_sum]; exact hroom); show 2 * 0 + _ + 12 ≤ _; rw [zcat_sum]; omega) (kk h126 H locs ls hP hS hl)
theorem zi_callI {Y' : zY} {d n2 idx k r i : Nat} {as : List zV} {st0 : List zV} (hO : zOK x w Y dd) (hNN : zN x n n2) (h126 : n2 ≤ 126) (hd : decode Y.2.1 pc = .ok (.invokespecial idx, 3)) (hk : zLkI Y.1.cls idx Y' k) (hdd : d + 1 ≤ dd) (hlen : as.length = k) (hroom : (st.map zcat).sum ≤ 8) (hst : st0 = as.reverse ++ vR r i :: st)
    (hM : zSpecg x.2.1 w d Y' n rf n2 (vR r i :: as) im lv post) (kk : ∀ (v : zV) (rf' : zRef) (im' : zMem) (lv' : Int64), post v rf' im' lv' → zWg x w n2 rf' (pc + 3) L st im' lv') : zWg x w n rf pc L st0 im lv := by
  obtain ⟨p, l, e, R, s, m, args, below, meth, c, Q, n0, nm⟩ := x
  obtain ⟨hx, hb, hml, hown, hts, hU, hsz, hfr, hlo, hce, hsl, hnn⟩ := hO
  obtain ⟨g0, g1, g2⟩ := hNN
  subst hst
  intro _ H locs ls hP hS hl
  refine W_size (fun hup => ?_)
  have hge := zH_ge hP (n0 := n0) (by have := hS.1; omega) g0
  have hsH : H.size = w.1 + n := by omega
  have hm1 := zsl_mono g0
  have hm2 := zsl_mono g1
  have hm3 := zsl_mono g2
  obtain ⟨y', c', l', r'⟩ := Y'
  obtain ⟨hk0, hk1, hk2, hk3⟩ := hk
  dsimp only at hk3
  subst hk3
  have hcb := zcallB (n := n) (n2 := n2) (R := R) hts hk0 (by omega : d + 1 ≤ R.frames) (by omega : 40 * (d + 1) ≤ R.locals)
  refine zcallC (va_runI (n := k) (b := w.1 + zad r i) (As := as.map (zcv w.1)) (rest := st.map (zcv w.1)) (nL := Y.2.2.1) (Ts := zT) ⟨hx, hb, hml, hown, hts⟩ hM ⟨hcb, hk2, hts _ hk1⟩
      ⟨zblind, fun U hUH hW => ⟨rfl, by rw [hUH]; exact hsH, by rw [hUH]; exact hP, zUp_moved hU hW⟩⟩ rfl (by simpa using hlen) (by rw [← hml]; exact hl.1) (by simp [zcv]) (lv_room (by rw [zcat_sum]; exact hroom)) hd ⟨by omega, by omega⟩) hS hl g0 g1 h126 kk
theorem zi_callIN {Y' : zY} {d n2 idx k r i : Nat} {as : List zV} {st0 : List zV} (hO : zOK x w Y dd) (hNN : zN x n n2) (h126 : n2 ≤ 126) (hd : decode Y.2.1 pc = .ok (.invokespecial idx, 3)) (hk : zLkN Y.1.cls idx Y' k) (hki : Cond.instanceMethod Y'.1 ∈ zT) (hkn : Y'.1.name = "<init>") (hk3 : Y'.2.2.2 = none) (hdd : d + 1 ≤ dd) (hlen : as.length = k) (hroom : (st.map zcat).sum ≤ 8) (hst : st0 = as.reverse ++ vR r i :: st)
    (hM : zSpecg x.2.1 w d Y' n rf n2 (vR r i :: as) im lv post) (kk : ∀ (v : zV) (rf' : zRef) (im' : zMem) (lv' : Int64), post v rf' im' lv' → zWg x w n2 rf' (pc + 3) L st im' lv') : zWg x w n rf pc L st0 im lv := by
  obtain ⟨p, l, e, R, s, m, args, below, meth, c, Q, n0, nm⟩ := x
  obtain ⟨hx, hb, hml, hown, hts, hU, hsz, hfr, hlo, hce, hsl, hnn⟩ := hO
  obtain ⟨g0, g1, g2⟩ := hNN
  subst hst
  intro _ H locs ls hP hS hl
  refine W_size (fun hup => ?_)
  have hge := zH_ge hP (n0 := n0) (by have := hS.1; omega) g0
  have hsH : H.size = w.1 + n := by omega
  have hm1 := zsl_mono g0
  have hm2 := zsl_mono g1
  have hm3 := zsl_mono g2
  obtain ⟨y', c', l', r'⟩ := Y'
  dsimp only at hk3
  subst hk3
  obtain ⟨k1, k2, k3, k4, k5⟩ := hk
  have hcn := va_cnB (R := R) (rm := zroom d n n2) (mc := n2 - n) (ms := zsl n2 - zsl n) k hts (zT_good k3) rfl rfl rfl (hU.2.1 _ k1) (hts _ k2) k4 ⟨by show d + 1 ≤ _; omega, by show 8 + (l' + 11) + 40 * d ≤ R.locals; dsimp only at k5; omega⟩
  refine zcallC (va_runIN (n := k) (b := w.1 + zad r i) (As := as.map (zcv w.1)) (rest := st.map (zcv w.1)) (nL := Y.2.2.1) (Ts := zT) ⟨hx, hb, hml, hown, hts⟩ hM ⟨hcn, hkn, hts _ hki⟩
      ⟨zblind, fun U hUH hW => ⟨rfl, by rw [hUH]; exact hsH, by rw [hUH]; exact hP, zUp_moved hU hW⟩⟩ rfl (by simpa using hlen) (by rw [← hml]; exact hl.1) (by simp [zcv]) (lv_room (by rw [zcat_sum]; exact hroom)) hd ⟨by omega, by omega⟩) hS hl g0 g1 h126 kk
end ZK
