section ZMEM
variable {x : zX} {w : zWd} {n : Nat} {rf : zRef} {pc : Nat} {L L' : List (Nat × zV)} {st : List zV} {im : zMem} {lv : Int64} {Y : zY} {dd : Nat}
theorem zE_obj {r i ci N : Nat} (hk : zkd r = (0, ci, N)) : zE w rf im lv r i = .inr (ci, (List.range N).map (zfv w.1 rf im lv ci r i)) := by
  unfold zE
  rw [hk]
  rfl
theorem zE_arr {r i N z : Nat} (hk : zkd r = (1, N, z)) : zE w rf im lv r i = .inl (w.2.2.1, N, .inl (im r i)) := by
  unfold zE
  rw [hk]
  rfl
theorem zE_ra {r i N z t : Nat} (hk : zkd r = (t + 2, N, z)) : zE w rf im lv r i = .inl (if t = 0 then w.2.2.2.1 else w.2.2.2.2, N, .inr (.inr (.inr (.inr (zrefs w.1 rf r i))))) := by
  unfold zE
  rw [hk]
  by_cases ht : t = 0
  · subst ht; rfl
  · dsimp only
    rw [if_neg (by omega), if_neg (by omega), if_neg (by omega), if_neg ht]
theorem zD : va_D (fun q => w.1 ≤ q) (zws w n rf im lv) := by
  have key : ∀ (k : Nat) (q : Nat × va_E), (zws w n rf im lv)[k]? = some q → q.1 = w.1 + k := by
    intro k q h
    unfold zws at h
    rw [List.getElem?_map] at h
    by_cases hk : k < n
    · rw [List.getElem?_range hk] at h
      cases h
      rfl
    · rw [List.getElem?_eq_none (by simp; omega)] at h
      cases h
  refine ⟨fun i j p q hp hq h => ?_, fun k q h => ?_⟩
  · have := key i p hp
    have := key j q hq
    omega
  · have := key k q h
    show w.1 ≤ q.1
    omega
theorem zi_getI {idx ci k r i N : Nat} (hO : zOK x w Y dd) (hd : decode Y.2.1 pc = .ok (.getfield idx, 3)) (hf : zFld Y.1.cls idx ci k) (hk : zkd r = (0, ci, N)) (h0 : zfk ci k = 0) (hi : zin n r i) (kk : zWg x w n rf (pc + 3) L (vI (im r i k) :: st) im lv) : zWg x w n rf pc L (vR r i :: st) im lv := by
  obtain ⟨p, l, e, R, s, m, args, below, meth, c, Q, n0, nm⟩ := x
  obtain ⟨hx, hb, hml, hown, hts, ⟨hK, -⟩, -⟩ := hO
  obtain ⟨C, T, N', hc, hkN, hlk⟩ := hf
  have hN := zkN' (zcnt_lt hi.1) hk hc
  subst hN
  intro h126 H locs ls hP hS hl
  refine va_get (D := w.2.1) (v := .int (im r i k)) (Ts := zT) hx hb hts (zcl hc).2.1 hown hK hP (zad r i) (by rw [zws_at hi, zE_obj hk]) hc k hkN (hts _ hlk) (fun _ h => h) ?_ hd (kk h126 H locs ls hP hS hl)
  rw [List.getElem?_map, List.getElem?_range hkN]
  simp [zfv, h0]
theorem zi_getL {idx k i N : Nat} (hO : zOK x w Y dd) (hd : decode Y.2.1 pc = .ok (.getfield idx, 3)) (hf : zFld Y.1.cls idx 10 k) (hk : zkd 16 = (0, 10, N)) (h0 : zfk 10 k = 2) (hi : zin n 16 i) (kk : zWg x w n rf (pc + 3) L (vL lv :: st) im lv) : zWg x w n rf pc L (vR 16 i :: st) im lv := by
  obtain ⟨p, l, e, R, s, m, args, below, meth, c, Q, n0, nm⟩ := x
  obtain ⟨hx, hb, hml, hown, hts, ⟨hK, -⟩, -⟩ := hO
  obtain ⟨C, T, N', hc, hkN, hlk⟩ := hf
  have hN := zkN' (zcnt_lt hi.1) hk hc
  subst hN
  intro h126 H locs ls hP hS hl
  refine va_get (D := w.2.1) (v := .long lv) (Ts := zT) hx hb hts (zcl hc).2.1 hown hK hP (zad 16 i) (by rw [zws_at hi, zE_obj hk]) hc k hkN (hts _ hlk) (fun _ h => h) ?_ hd (kk h126 H locs ls hP hS hl)
  rw [List.getElem?_map, List.getElem?_range hkN]
  simp [zfv, h0]
theorem zi_getR {idx ci k r i N r' i' : Nat} (hO : zOK x w Y dd) (hd : decode Y.2.1 pc = .ok (.getfield idx, 3)) (hf : zFld Y.1.cls idx ci k) (hk : zkd r = (0, ci, N)) (h0 : zfk ci k = 1) (hi : zin n r i) (hr : rf r i k = some (r', i')) (kk : zWg x w n rf (pc + 3) L (vR r' i' :: st) im lv) : zWg x w n rf pc L (vR r i :: st) im lv := by
  obtain ⟨p, l, e, R, s, m, args, below, meth, c, Q, n0, nm⟩ := x
  obtain ⟨hx, hb, hml, hown, hts, ⟨hK, -⟩, -⟩ := hO
  obtain ⟨C, T, N', hc, hkN, hlk⟩ := hf
  have hN := zkN' (zcnt_lt hi.1) hk hc
  subst hN
  intro h126 H locs ls hP hS hl
  refine va_get (D := w.2.1) (v := zcv w.1 (vR r' i')) (Ts := zT) hx hb hts (zcl hc).2.1 hown hK hP (zad r i) (by rw [zws_at hi, zE_obj hk]) hc k hkN (hts _ hlk) (fun _ h => h) ?_ hd (kk h126 H locs ls hP hS hl)
  rw [List.getElem?_map, List.getElem?_range hkN]
  simp [zfv, h0, hr]
theorem zfk_int {ci k : Nat} {C : String} {T : u_T} {N : Nat} (hc : vwCl[ci]? = some (C, T, N)) (hk : k < N) (h0 : zfk ci k = 0) : parseFieldDescriptor (T k).2.2.1 = some .int := by
  have hci : ci < 13 := (List.getElem?_eq_some_iff.mp hc).1
  have h1 := zfkN ci hci
  rw [hc] at h1
  have h2 : N = (zFk.getD ci []).length := Option.some.inj h1.1
  rw [(zcl hc).2.2.2.1 k hk, zty0 ci hci k (by omega) h0 (by omega)]
theorem zfk_long {ci k : Nat} {C : String} {T : u_T} {N : Nat} (hc : vwCl[ci]? = some (C, T, N)) (hk : k < N) (h0 : zfk ci k = 2) : parseFieldDescriptor (T k).2.2.1 = some .long := by
  have hci : ci < 13 := (List.getElem?_eq_some_iff.mp hc).1
  have h1 := zfkN ci hci
  rw [hc] at h1
  have h2 : N = (zFk.getD ci []).length := Option.some.inj h1.1
  rw [(zcl hc).2.2.2.1 k hk, zty2 ci hci k (by omega) h0]
theorem zE_putI {r i ci N k : Nat} {v : Int32} (hk : zkd r = (0, ci, N)) (h0 : zfk ci k = 0) : (Sum.inr (ci, ((List.range N).map (zfv w.1 rf im lv ci r i)).set k (.int v)) : va_E) = zE w rf (zset im r i (upd (im r i) k v)) lv r i := by
  rw [zE_obj hk]
  congr 2
  apply List.ext_getElem?
  intro j
  by_cases hj : j = k
  · subst hj
    by_cases hN : j < N
    · rw [List.getElem?_set_self (by simpa using hN), List.getElem?_map, List.getElem?_range hN]
      simp [zfv, h0, zset_eq, upd]
    · rw [List.getElem?_eq_none (by simp; omega), List.getElem?_eq_none (by simp; omega)]
  · rw [List.getElem?_set_ne (fun q => hj q.symm), List.getElem?_map, List.getElem?_map]
    by_cases hN : j < N
    · rw [List.getElem?_range hN]
      simp only [Option.map_some]
      congr 1
      unfold zfv
      rw [zset_eq]
      simp [upd, hj]
    · rw [List.getElem?_eq_none (by simp; omega)]
      rfl
theorem zi_putI {idx ci k r i N : Nat} {v : Int32} (hO : zOK x w Y dd) (hd : decode Y.2.1 pc = .ok (.putfield idx, 3)) (hf : zFldW false Y.1.cls idx ci k) (hk : zkd r = (0, ci, N)) (h0 : zfk ci k = 0) (hi : zin n r i) (kk : zWg x w n rf (pc + 3) L st (zset im r i (upd (im r i) k v)) lv) : zWg x w n rf pc L (vI v :: vR r i :: st) im lv := by
  obtain ⟨p, l, e, R, s, m, args, below, meth, c, Q, n0, nm⟩ := x
  obtain ⟨hx, hb, hml, hown, hts, ⟨hK, -⟩, -⟩ := hO
  obtain ⟨C, T, N', hc, hkN, hlk, hfin, -⟩ := hf
  have hN := zkN' (zcnt_lt hi.1) hk hc
  subst hN
  intro h126 H locs ls hP hS hl
  refine va_put (D := w.2.1) (v := .int v) (Ts := zT) hx hb hts (zcl hc).2.1 (zty ci) (zcl hc).2.2.2.1 (zcl hc).2.2.1 hown hK hP zD hS (zad r i) (by rw [zws_at hi, zE_obj hk]) hc k hkN (hts _ hlk) (fun _ h => h) hfin (zfk_int hc hkN h0) (vp_nar_int v) rfl (by simpa using hkN) hd (fun H1 locs1 hP1 hD1 hS1 => ?_)
  rw [zE_putI hk h0, zws_set h126 hi] at hP1
  exact kk h126 H1 locs1 ls hP1 hS1 hl
theorem zE_putL {k : Nat} {v : Int64} (h0 : k = 5) : (Sum.inr (10, ((List.range 6).map (zfv w.1 rf im lv 10 16 0)).set k (.long v)) : va_E) = zE w rf im v 16 0 := by
  subst h0
  rw [zE_obj (N := 6) (ci := 10) rfl]
  rfl
theorem zi_putL {idx k : Nat} {v : Int64} (hO : zOK x w Y dd) (hd : decode Y.2.1 pc = .ok (.putfield idx, 3)) (hf : zFldW false Y.1.cls idx 10 k) (h0 : k = 5) (hi : zin n 16 0) (kk : zWg x w n rf (pc + 3) L st im v) : zWg x w n rf pc L (vL v :: vR 16 0 :: st) im lv := by
  obtain ⟨p, l, e, R, s, m, args, below, meth, c, Q, n0, nm⟩ := x
  obtain ⟨hx, hb, hml, hown, hts, ⟨hK, -⟩, -⟩ := hO
  obtain ⟨C, T, N', hc, hkN, hlk, hfin, -⟩ := hf
  have hk : zkd 16 = (0, 10, 6) := rfl
  have hN := zkN' (zcnt_lt hi.1) hk hc
  subst hN
  intro h126 H locs ls hP hS hl
  refine va_put (D := w.2.1) (v := .long v) (Ts := zT) hx hb hts (zcl hc).2.1 (zty 10) (zcl hc).2.2.2.1 (zcl hc).2.2.1 hown hK hP zD hS (zad 16 0) (by rw [zws_at hi, zE_obj hk]) hc k hkN (hts _ hlk) (fun _ h => h) hfin (zfk_long hc hkN (by subst h0; rfl)) rfl rfl (by simpa using hkN) hd (fun H1 locs1 hP1 hD1 hS1 => ?_)
  rw [zE_putL h0, zws_setL h126 hi] at hP1
  exact kk h126 H1 locs1 ls hP1 hS1 hl
theorem zi_iald {r i N z : Nat} {a : Int32} (hO : zOK x w Y dd) (hd : decode Y.2.1 pc = .ok (.iaload, 1)) (hk : zkd r = (1, N, z)) (hi : zin n r i) (ha : vp_in a N) (kk : zWg x w n rf (pc + 1) L (vI (im r i a.toNatClampNeg) :: st) im lv) : zWg x w n rf pc L (vI a :: vR r i :: st) im lv := by
  obtain ⟨p, l, e, R, s, m, args, below, meth, c, Q, n0, nm⟩ := x
  obtain ⟨hx, hb, hml, hown, hts, ⟨hK, -⟩, -⟩ := hO
  intro h126 H locs ls hP hS hl
  exact va_iald (D := w.2.1) hx hb hK hP (zad r i) 0 (by rw [zws_at hi, zE_arr hk]) rfl ha hd (kk h126 H locs ls hP hS hl)
theorem zi_iast {r i N z : Nat} {a v : Int32} (hO : zOK x w Y dd) (hd : decode Y.2.1 pc = .ok (.iastore, 1)) (hk : zkd r = (1, N, z)) (hi : zin n r i) (ha : vp_in a N) (kk : zWg x w n rf (pc + 1) L st (zset im r i (upd (im r i) a.toNatClampNeg v)) lv) : zWg x w n rf pc L (vI v :: vI a :: vR r i :: st) im lv := by
  obtain ⟨p, l, e, R, s, m, args, below, meth, c, Q, n0, nm⟩ := x
  obtain ⟨hx, hb, hml, hown, hts, ⟨hK, -⟩, -⟩ := hO
  intro h126 H locs ls hP hS hl
  refine va_iast (D := w.2.1) hx hb hK hP zD hS (zad r i) 0 (by rw [zws_at hi, zE_arr hk]) rfl ha hd (fun H1 locs1 hP1 hD1 hS1 => ?_)
  have h2 : (Sum.inl (w.2.2.1, N, .inl (upd (im r i) a.toNatClampNeg v)) : va_E) = zE w rf (zset im r i (upd (im r i) a.toNatClampNeg v)) lv r i := by rw [zE_arr hk, zset_eq]
  rw [h2, zws_set h126 hi] at hP1
  exact kk h126 H1 locs1 ls hP1 hS1 hl
theorem zi_alen {r i N z : Nat} {v : Int32} (hO : zOK x w Y dd) (hd : decode Y.2.1 pc = .ok (.arraylength, 1)) (hk : zkd r = (1, N, z)) (hi : zin n r i) (hv : Int32.ofNat N = v) (kk : zWg x w n rf (pc + 1) L (vI v :: st) im lv) : zWg x w n rf pc L (vR r i :: st) im lv := by
  obtain ⟨p, l, e, R, s, m, args, below, meth, c, Q, n0, nm⟩ := x
  obtain ⟨hx, hb, hml, hown, hts, ⟨hK, -⟩, -⟩ := hO
  intro h126 H locs ls hP hS hl
  exact va_alen (D := w.2.1) hx hb hK hP (zad r i) 0 (by rw [zws_at hi, zE_arr hk]) (ty := .int) rfl hv hd (kk h126 H locs ls hP hS hl)
theorem zi_aald {r i N z t r' i' : Nat} {a : Int32} (hO : zOK x w Y dd) (hd : decode Y.2.1 pc = .ok (.aaload, 1)) (hk : zkd r = (t + 2, N, z)) (hi : zin n r i) (ha : vp_in a N) (hr : rf r i a.toNatClampNeg = some (r', i')) (kk : zWg x w n rf (pc + 1) L (vR r' i' :: st) im lv) : zWg x w n rf pc L (vI a :: vR r i :: st) im lv := by
  obtain ⟨p, l, e, R, s, m, args, below, meth, c, Q, n0, nm⟩ := x
  obtain ⟨hx, hb, hml, hown, hts, ⟨hK, -⟩, -⟩ := hO
  intro h126 H locs ls hP hS hl
  have hv : va_rf (zrefs w.1 rf r i a.toNatClampNeg) = zcv w.1 (vR r' i') := by simp [zrefs, hr, va_rf, zcv]
  have h3 := kk h126 H locs ls hP hS hl
  simp only [List.map_cons] at h3 ⊢
  rw [← hv] at h3
  by_cases ht : t = 0
  · exact va_aldq (D := w.2.1) hx hb hK hP (zad r i) 1 (C := "RoomsOfAir$Sheet") (by rw [zws_at hi, zE_ra hk, if_pos ht]) rfl ha hd h3
  · exact va_aldq (D := w.2.1) hx hb hK hP (zad r i) 2 (C := "RoomsOfAir$Flight") (by rw [zws_at hi, zE_ra hk, if_neg ht]) rfl ha hd h3
end ZMEM
