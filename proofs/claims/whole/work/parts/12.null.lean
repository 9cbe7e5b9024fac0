section ZNULL
variable {x : zX} {w : zWd} {n : Nat} {rf : zRef} {pc : Nat} {L L' : List (Nat × zV)} {st : List zV} {im : zMem} {lv : Int64} {Y : zY} {dd : Nat}
theorem zi_aload_nN {a : Fin 4} (hO : zOK x w Y dd) (hd : decode Y.2.1 pc = .ok (.aload_n a, 1)) (k : Nat) (hk : L[k]? = some ((a : Nat), vN)) (kk : zWg x w n rf (pc + 1) L (vN :: st) im lv) : zWg x w n rf pc L st im lv :=
  zlift hO (fun hx hb _ _ hl k0 => lv_aload_nN hx hb hd rfl (hl k _ hk) k0) kk
theorem zi_aloadN {a : Nat} (hO : zOK x w Y dd) (hd : decode Y.2.1 pc = .ok (.aload a, 2)) (k : Nat) (hk : L[k]? = some (a, vN)) (kk : zWg x w n rf (pc + 2) L (vN :: st) im lv) : zWg x w n rf pc L st im lv :=
  zlift hO (fun hx hb _ _ hl k0 => lv_aloadN hx hb hd (hl k _ hk) k0) kk
theorem zi_ifnullN {off : Int} {tgt : Nat} (hO : zOK x w Y dd) (hd : decode Y.2.1 pc = .ok (.ifnull off, 3)) (ht : (pc : Int) + off = (tgt : Int)) (kk : zWg x w n rf tgt L st im lv) : zWg x w n rf pc L (vN :: st) im lv :=
  zlift hO (fun hx hb _ _ _ k => lv_ifnullN hx hb hd ht k) kk
theorem zi_ifnonnullN {off : Int} (hO : zOK x w Y dd) (hd : decode Y.2.1 pc = .ok (.ifnonnull off, 3)) (kk : zWg x w n rf (pc + 3) L st im lv) : zWg x w n rf pc L (vN :: st) im lv :=
  zlift hO (fun hx hb _ _ _ k => lv_ifnonnullN hx hb hd k) kk
theorem zi_astore_nN {a : Fin 4} (hO : zOK x w Y dd) (hd : decode Y.2.1 pc = .ok (.astore_n a, 1)) (hn : (a : Nat) < Y.2.2.1) (hk : zokL (a : Nat) L = true) (hL : zput L (a : Nat) vN = L') (kk : zWg x w n rf (pc + 1) L' st im lv) : zWg x w n rf pc L (vN :: st) im lv := by
  obtain ⟨p, l, e, R, s, m, args, below, meth, c, Q, n0, nm⟩ := x
  obtain ⟨hx, hb, hml, hown, hts, -⟩ := hO
  subst hL
  intro h126 H locs ls hP hS hl
  exact lv_astore_nN hx hb hd rfl hl (by rw [hml]; exact hn) rfl (fun ls' hl' => kk h126 H locs ls' hP hS (zstore1 hk hl'))
theorem zi_astoreN {a : Nat} (hO : zOK x w Y dd) (hd : decode Y.2.1 pc = .ok (.astore a, 2)) (hn : a < Y.2.2.1) (hk : zokL a L = true) (hL : zput L a vN = L') (kk : zWg x w n rf (pc + 2) L' st im lv) : zWg x w n rf pc L (vN :: st) im lv := by
  obtain ⟨p, l, e, R, s, m, args, below, meth, c, Q, n0, nm⟩ := x
  obtain ⟨hx, hb, hml, hown, hts, -⟩ := hO
  subst hL
  intro h126 H locs ls hP hS hl
  exact lv_astoreN hx hb hd hl (by rw [hml]; exact hn) rfl (fun ls' hl' => kk h126 H locs ls' hP hS (zstore1 hk hl'))
/-- an answer that is an object of the region rg, or none -/
def zSpecQ (l : Launch) (w : zWd) (d : Nat) (Y : zY) (rg : Nat) (as : List zV) (im : zMem) (lv : Int64) (P : Option Nat → zMem → Int64 → Prop) : Prop :=
  zSpecg l w d Y 126 zRF 126 as im lv (fun v rf' im' lv' => rf' = zRF ∧ ∃ a : Option Nat, v = .inr (.inr (a.map (fun i => (rg, i)))) ∧ P a im' lv')
def zRetQ (x : zX) (w : zWd) (Y : zY) (rg : Nat) (P : Option Nat → zMem → Int64 → Prop) : Prop := zRet x w Y 126 (fun v rf' im' lv' => rf' = zRF ∧ ∃ a : Option Nat, v = .inr (.inr (a.map (fun i => (rg, i)))) ∧ P a im' lv')
theorem ze_Q {l : Launch} {d rg : Nat} {as : List zV} {P : Option Nat → zMem → Int64 → Prop} (hpl : plainName Y.1.cls = true) (hlen : (lg_sl (as.map (zcv w.1))).length ≤ Y.2.2.1) (body : ∀ x, zOK x w Y d → zRetQ x w Y rg P → zN x 126 126 → zW x w 0 (zargs 0 as) [] im lv) : zSpecQ l w d Y rg as im lv P :=
  zenter (Nat.le_refl _) (Nat.le_refl _) hpl hlen body
theorem zr_QN {C : String} {rg : Nat} {P : Option Nat → zMem → Int64 → Prop} (hO : zOK x w Y dd) (hR : zRetQ x w Y rg P) (hr : Y.2.2.2 = some (.object C)) (hd : decode Y.2.1 pc = .ok (.areturn, 1)) (hq : P none im lv) : zW x w pc L [vN] im lv :=
  zi_areturn (k := none) hO hR hr hd ⟨rfl, none, rfl, hq⟩
theorem zr_Q {C : String} {rg i : Nat} {P : Option Nat → zMem → Int64 → Prop} (hO : zOK x w Y dd) (hR : zRetQ x w Y rg P) (hr : Y.2.2.2 = some (.object C)) (hd : decode Y.2.1 pc = .ok (.areturn, 1)) (hq : P (some i) im lv) : zW x w pc L [vR rg i] im lv :=
  zi_areturn (k := some (rg, i)) hO hR hr hd ⟨rfl, some i, rfl, hq⟩
theorem zc_VQ {Y' : zY} {d idx k r i ci N rg : Nat} {as st0 : List zV} {P : Option Nat → zMem → Int64 → Prop} (hO : zOK x w Y dd) (hNN : zN x 126 126) (hd : decode Y.2.1 pc = .ok (.invokevirtual idx, 3)) (hk : zLkV Y.1.cls idx Y' k) (hdd : d + 1 ≤ dd) (hz : zkd r = (0, ci, N)) (hi : zin 126 r i) (hC : (vwCl[ci]?).map (fun q => q.1) = some Y'.1.cls) (hlen : as.length = k) (hroom : (st.map zcat).sum ≤ 8) (hst : st0 = as.reverse ++ vR r i :: st) (hret : Y'.2.2.2.isNone = false)
    (hM : zSpecQ x.2.1 w d Y' rg (vR r i :: as) im lv P) (k0 : ∀ (im' : zMem) (lv' : Int64), P none im' lv' → zW x w (pc + 3) L (vN :: st) im' lv') (k1 : ∀ (j : Nat) (im' : zMem) (lv' : Int64), P (some j) im' lv' → zW x w (pc + 3) L (vR rg j :: st) im' lv') : zW x w pc L st0 im lv :=
  zi_callV hO hNN (Nat.le_refl _) hd hk hdd hz hi hC hlen hroom hst hM (fun v rf' im' lv' h => by
    obtain ⟨rfl, a, rfl, hp⟩ := h
    rw [zres, if_neg (by rw [hret]; decide)]
    cases a with
    | none => exact k0 im' lv' hp
    | some j => exact k1 j im' lv' hp)
theorem zvp {e : Int32} {N : Nat} (h : vp_in e N) : e.toNatClampNeg < N := by
  unfold vp_in at h
  omega
end ZNULL
