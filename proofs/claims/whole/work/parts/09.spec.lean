/-! contracts by what is answered; memory writes -/
def zwr (im : zMem) (r i k : Nat) (v : Int32) : zMem := zset im r i (upd (im r i) k v)
theorem zwr_app {im : zMem} {r i k : Nat} {v : Int32} {r' i' k' : Nat} : zwr im r i k v r' i' k' = if r' = r ∧ i' = i ∧ k' = k then v else im r' i' k' := by
  unfold zwr
  by_cases h : r' = r ∧ i' = i
  · obtain ⟨rfl, rfl⟩ := h
    rw [zset_eq]
    by_cases h2 : k' = k
    · simp [upd, h2]
    · simp [upd, h2]
  · rw [zset_ne h, if_neg (fun q => h ⟨q.1, q.2.1⟩)]
theorem zwr_eq {im : zMem} {r i k : Nat} {v : Int32} : zwr im r i k v r i k = v := by simp [zwr_app]
theorem zwr_r {im : zMem} {r i k r' : Nat} {v : Int32} (h : ¬ r' = r) : zwr im r i k v r' = im r' := by
  funext i' k'
  rw [zwr_app, if_neg (fun q => h q.1)]
theorem zwr_k {im : zMem} {r i k r' i' k' : Nat} {v : Int32} (h : ¬ k' = k) : zwr im r i k v r' i' k' = im r' i' k' := by
  rw [zwr_app, if_neg (fun q => h q.2.2)]
theorem zwr_id {im : zMem} {r i k : Nat} {v : Int32} (h : im r i k = v) : zwr im r i k v = im := by
  funext r' i' k'
  rw [zwr_app]
  split
  · rename_i q
    obtain ⟨rfl, rfl, rfl⟩ := q
    exact h.symm
  · rfl
def vB (p : Prop) [Decidable p] : Int32 := if p then 1 else 0
theorem vB_0 {p : Prop} [Decidable p] : vB p = 0 ↔ ¬ p := by
  unfold vB
  by_cases h : p
  · simp [h]
  · simp [h]
theorem vB_01 {p : Prop} [Decidable p] : vB p = 0 ∨ vB p = 1 := by
  unfold vB
  by_cases h : p
  · simp [h]
  · simp [h]
theorem vB_1 {p : Prop} [Decidable p] : vB p = 1 ↔ p := by
  unfold vB
  by_cases h : p
  · simp [h]
  · simp [h]
def zSpecI (l : Launch) (w : zWd) (d : Nat) (Y : zY) (as : List zV) (im : zMem) (lv : Int64) (P : Int32 → zMem → Int64 → Prop) : Prop :=
  zSpecg l w d Y 126 zRF 126 as im lv (fun v rf' im' lv' => rf' = zRF ∧ ∃ a, v = vI a ∧ P a im' lv')
def zSpecL (l : Launch) (w : zWd) (d : Nat) (Y : zY) (as : List zV) (im : zMem) (lv : Int64) (P : Int64 → zMem → Int64 → Prop) : Prop :=
  zSpecg l w d Y 126 zRF 126 as im lv (fun v rf' im' lv' => rf' = zRF ∧ ∃ a, v = vL a ∧ P a im' lv')
def zSpecV (l : Launch) (w : zWd) (d : Nat) (Y : zY) (as : List zV) (im : zMem) (lv : Int64) (P : zMem → Int64 → Prop) : Prop :=
  zSpecg l w d Y 126 zRF 126 as im lv (fun _ rf' im' lv' => rf' = zRF ∧ P im' lv')
def zSpecR (l : Launch) (w : zWd) (d : Nat) (Y : zY) (as : List zV) (im : zMem) (lv : Int64) (P : Option (Nat × Nat) → zMem → Int64 → Prop) : Prop :=
  zSpecg l w d Y 126 zRF 126 as im lv (fun v rf' im' lv' => rf' = zRF ∧ ∃ a, v = .inr (.inr a) ∧ P a im' lv')
def zRetI (x : zX) (w : zWd) (Y : zY) (P : Int32 → zMem → Int64 → Prop) : Prop := zRet x w Y 126 (fun v rf' im' lv' => rf' = zRF ∧ ∃ a, v = vI a ∧ P a im' lv')
def zRetL (x : zX) (w : zWd) (Y : zY) (P : Int64 → zMem → Int64 → Prop) : Prop := zRet x w Y 126 (fun v rf' im' lv' => rf' = zRF ∧ ∃ a, v = vL a ∧ P a im' lv')
def zRetV (x : zX) (w : zWd) (Y : zY) (P : zMem → Int64 → Prop) : Prop := zRet x w Y 126 (fun _ rf' im' lv' => rf' = zRF ∧ P im' lv')
def zRetR (x : zX) (w : zWd) (Y : zY) (P : Option (Nat × Nat) → zMem → Int64 → Prop) : Prop := zRet x w Y 126 (fun v rf' im' lv' => rf' = zRF ∧ ∃ a, v = .inr (.inr a) ∧ P a im' lv')
section ZC
variable {x : zX} {w : zWd} {pc : Nat} {L : List (Nat × zV)} {st : List zV} {im : zMem} {lv : Int64} {Y : zY} {dd : Nat}
theorem ze_I {l : Launch} {d : Nat} {as : List zV} {P : Int32 → zMem → Int64 → Prop} (hpl : plainName Y.1.cls = true) (hlen : (lg_sl (as.map (zcv w.1))).length ≤ Y.2.2.1) (body : ∀ x, zOK x w Y d → zRetI x w Y P → zN x 126 126 → zW x w 0 (zargs 0 as) [] im lv) : zSpecI l w d Y as im lv P :=
  zenter (Nat.le_refl _) (Nat.le_refl _) hpl hlen body
theorem ze_L {l : Launch} {d : Nat} {as : List zV} {P : Int64 → zMem → Int64 → Prop} (hpl : plainName Y.1.cls = true) (hlen : (lg_sl (as.map (zcv w.1))).length ≤ Y.2.2.1) (body : ∀ x, zOK x w Y d → zRetL x w Y P → zN x 126 126 → zW x w 0 (zargs 0 as) [] im lv) : zSpecL l w d Y as im lv P :=
  zenter (Nat.le_refl _) (Nat.le_refl _) hpl hlen body
theorem ze_V {l : Launch} {d : Nat} {as : List zV} {P : zMem → Int64 → Prop} (hpl : plainName Y.1.cls = true) (hlen : (lg_sl (as.map (zcv w.1))).length ≤ Y.2.2.1) (body : ∀ x, zOK x w Y d → zRetV x w Y P → zN x 126 126 → zW x w 0 (zargs 0 as) [] im lv) : zSpecV l w d Y as im lv P :=
  zenter (Nat.le_refl _) (Nat.le_refl _) hpl hlen body
theorem ze_R {l : Launch} {d : Nat} {as : List zV} {P : Option (Nat × Nat) → zMem → Int64 → Prop} (hpl : plainName Y.1.cls = true) (hlen : (lg_sl (as.map (zcv w.1))).length ≤ Y.2.2.1) (body : ∀ x, zOK x w Y d → zRetR x w Y P → zN x 126 126 → zW x w 0 (zargs 0 as) [] im lv) : zSpecR l w d Y as im lv P :=
  zenter (Nat.le_refl _) (Nat.le_refl _) hpl hlen body
theorem zr_I {v : Int32} {P : Int32 → zMem → Int64 → Prop} (hO : zOK x w Y dd) (hR : zRetI x w Y P) (hr : Y.2.2.2 = some .int) (hd : decode Y.2.1 pc = .ok (.ireturn, 1)) (hq : P v im lv) : zW x w pc L [vI v] im lv :=
  zi_ireturn hO hR hr hd ⟨rfl, v, rfl, hq⟩
theorem zr_Z {v : Int32} {P : Int32 → zMem → Int64 → Prop} (hO : zOK x w Y dd) (hR : zRetI x w Y P) (hr : Y.2.2.2 = some .boolean) (hv : v = 0 ∨ v = 1) (hd : decode Y.2.1 pc = .ok (.ireturn, 1)) (hq : P v im lv) : zW x w pc L [vI v] im lv :=
  zi_zreturn hO hR hr hv hd ⟨rfl, v, rfl, hq⟩
theorem zr_L {v : Int64} {P : Int64 → zMem → Int64 → Prop} (hO : zOK x w Y dd) (hR : zRetL x w Y P) (hr : Y.2.2.2 = some .long) (hd : decode Y.2.1 pc = .ok (.lreturn, 1)) (hq : P v im lv) : zW x w pc L [vL v] im lv :=
  zi_lreturn hO hR hr hd ⟨rfl, v, rfl, hq⟩
theorem zr_V {P : zMem → Int64 → Prop} (hO : zOK x w Y dd) (hR : zRetV x w Y P) (hr : Y.2.2.2 = none) (hd : decode Y.2.1 pc = .ok (.return_, 1)) (hq : P im lv) : zW x w pc L [] im lv :=
  zi_vreturn hO hR hr hd ⟨rfl, hq⟩
theorem zr_R {k : Option (Nat × Nat)} {C : String} {P : Option (Nat × Nat) → zMem → Int64 → Prop} (hO : zOK x w Y dd) (hR : zRetR x w Y P) (hr : Y.2.2.2 = some (.object C)) (hd : decode Y.2.1 pc = .ok (.areturn, 1)) (hq : P k im lv) : zW x w pc L [.inr (.inr k)] im lv :=
  zi_areturn hO hR hr hd ⟨rfl, k, rfl, hq⟩
/-! calls: V a method of an object, S static, N static of the nest; then what is answered -/
theorem zc_VI {Y' : zY} {d idx k r i ci N : Nat} {as st0 : List zV} {P : Int32 → zMem → Int64 → Prop} (hO : zOK x w Y dd) (hNN : zN x 126 126) (hd : decode Y.2.1 pc = .ok (.invokevirtual idx, 3)) (hk : zLkV Y.1.cls idx Y' k) (hdd : d + 1 ≤ dd) (hz : zkd r = (0, ci, N)) (hi : zin 126 r i) (hC : (vwCl[ci]?).map (fun q => q.1) = some Y'.1.cls) (hlen : as.length = k) (hroom : (st.map zcat).sum ≤ 8) (hst : st0 = as.reverse ++ vR r i :: st) (hret : Y'.2.2.2.isNone = false)
    (hM : zSpecI x.2.1 w d Y' (vR r i :: as) im lv P) (kk : ∀ (v : Int32) (im' : zMem) (lv' : Int64), P v im' lv' → zW x w (pc + 3) L (vI v :: st) im' lv') : zW x w pc L st0 im lv :=
  zi_callV hO hNN (Nat.le_refl _) hd hk hdd hz hi hC hlen hroom hst hM (fun v rf' im' lv' h => by
    obtain ⟨rfl, a, rfl, hp⟩ := h
    rw [zres, if_neg (by rw [hret]; decide)]
    exact kk a im' lv' hp)
theorem zc_VL {Y' : zY} {d idx k r i ci N : Nat} {as st0 : List zV} {P : Int64 → zMem → Int64 → Prop} (hO : zOK x w Y dd) (hNN : zN x 126 126) (hd : decode Y.2.1 pc = .ok (.invokevirtual idx, 3)) (hk : zLkV Y.1.cls idx Y' k) (hdd : d + 1 ≤ dd) (hz : zkd r = (0, ci, N)) (hi : zin 126 r i) (hC : (vwCl[ci]?).map (fun q => q.1) = some Y'.1.cls) (hlen : as.length = k) (hroom : (st.map zcat).sum ≤ 8) (hst : st0 = as.reverse ++ vR r i :: st) (hret : Y'.2.2.2.isNone = false)
    (hM : zSpecL x.2.1 w d Y' (vR r i :: as) im lv P) (kk : ∀ (v : Int64) (im' : zMem) (lv' : Int64), P v im' lv' → zW x w (pc + 3) L (vL v :: st) im' lv') : zW x w pc L st0 im lv :=
  zi_callV hO hNN (Nat.le_refl _) hd hk hdd hz hi hC hlen hroom hst hM (fun v rf' im' lv' h => by
    obtain ⟨rfl, a, rfl, hp⟩ := h
    rw [zres, if_neg (by rw [hret]; decide)]
    exact kk a im' lv' hp)
theorem zc_VR {Y' : zY} {d idx k r i ci N : Nat} {as st0 : List zV} {P : Option (Nat × Nat) → zMem → Int64 → Prop} (hO : zOK x w Y dd) (hNN : zN x 126 126) (hd : decode Y.2.1 pc = .ok (.invokevirtual idx, 3)) (hk : zLkV Y.1.cls idx Y' k) (hdd : d + 1 ≤ dd) (hz : zkd r = (0, ci, N)) (hi : zin 126 r i) (hC : (vwCl[ci]?).map (fun q => q.1) = some Y'.1.cls) (hlen : as.length = k) (hroom : (st.map zcat).sum ≤ 8) (hst : st0 = as.reverse ++ vR r i :: st) (hret : Y'.2.2.2.isNone = false)
    (hM : zSpecR x.2.1 w d Y' (vR r i :: as) im lv P) (kk : ∀ (v : Option (Nat × Nat)) (im' : zMem) (lv' : Int64), P v im' lv' → zW x w (pc + 3) L (.inr (.inr v) :: st) im' lv') : zW x w pc L st0 im lv :=
  zi_callV hO hNN (Nat.le_refl _) hd hk hdd hz hi hC hlen hroom hst hM (fun v rf' im' lv' h => by
    obtain ⟨rfl, a, rfl, hp⟩ := h
    rw [zres, if_neg (by rw [hret]; decide)]
    exact kk a im' lv' hp)
theorem zc_VV {Y' : zY} {d idx k r i ci N : Nat} {as st0 : List zV} {P : zMem → Int64 → Prop} (hO : zOK x w Y dd) (hNN : zN x 126 126) (hd : decode Y.2.1 pc = .ok (.invokevirtual idx, 3)) (hk : zLkV Y.1.cls idx Y' k) (hdd : d + 1 ≤ dd) (hz : zkd r = (0, ci, N)) (hi : zin 126 r i) (hC : (vwCl[ci]?).map (fun q => q.1) = some Y'.1.cls) (hlen : as.length = k) (hroom : (st.map zcat).sum ≤ 8) (hst : st0 = as.reverse ++ vR r i :: st) (hret : Y'.2.2.2.isNone = true)
    (hM : zSpecV x.2.1 w d Y' (vR r i :: as) im lv P) (kk : ∀ (im' : zMem) (lv' : Int64), P im' lv' → zW x w (pc + 3) L st im' lv') : zW x w pc L st0 im lv :=
  zi_callV hO hNN (Nat.le_refl _) hd hk hdd hz hi hC hlen hroom hst hM (fun v rf' im' lv' h => by
    obtain ⟨rfl, hp⟩ := h
    rw [zres, if_pos hret]
    exact kk im' lv' hp)
theorem zc_SI {Y' : zY} {d idx k : Nat} {as st0 : List zV} {P : Int32 → zMem → Int64 → Prop} (hO : zOK x w Y dd) (hNN : zN x 126 126) (hd : decode Y.2.1 pc = .ok (.invokestatic idx, 3)) (hk : zLkS Y.1.cls idx Y' k) (hdd : d + 1 ≤ dd) (hlen : as.length = k) (hroom : (st.map zcat).sum ≤ 8) (hst : st0 = as.reverse ++ st) (hret : Y'.2.2.2.isNone = false)
    (hM : zSpecI x.2.1 w d Y' as im lv P) (kk : ∀ (v : Int32) (im' : zMem) (lv' : Int64), P v im' lv' → zW x w (pc + 3) L (vI v :: st) im' lv') : zW x w pc L st0 im lv :=
  zi_callS hO hNN (Nat.le_refl _) hd hk hdd hlen hroom hst hM (fun v rf' im' lv' h => by
    obtain ⟨rfl, a, rfl, hp⟩ := h
    rw [zres, if_neg (by rw [hret]; decide)]
    exact kk a im' lv' hp)
theorem zc_SV {Y' : zY} {d idx k : Nat} {as st0 : List zV} {P : zMem → Int64 → Prop} (hO : zOK x w Y dd) (hNN : zN x 126 126) (hd : decode Y.2.1 pc = .ok (.invokestatic idx, 3)) (hk : zLkS Y.1.cls idx Y' k) (hdd : d + 1 ≤ dd) (hlen : as.length = k) (hroom : (st.map zcat).sum ≤ 8) (hst : st0 = as.reverse ++ st) (hret : Y'.2.2.2.isNone = true)
    (hM : zSpecV x.2.1 w d Y' as im lv P) (kk : ∀ (im' : zMem) (lv' : Int64), P im' lv' → zW x w (pc + 3) L st im' lv') : zW x w pc L st0 im lv :=
  zi_callS hO hNN (Nat.le_refl _) hd hk hdd hlen hroom hst hM (fun v rf' im' lv' h => by
    obtain ⟨rfl, hp⟩ := h
    rw [zres, if_pos hret]
    exact kk im' lv' hp)
theorem zc_NI {Y' : zY} {d idx k : Nat} {as st0 : List zV} {P : Int32 → zMem → Int64 → Prop} (hO : zOK x w Y dd) (hNN : zN x 126 126) (hd : decode Y.2.1 pc = .ok (.invokestatic idx, 3)) (hk : zLkN Y.1.cls idx Y' k) (hks : Cond.static Y'.1 ∈ zT) (hdd : d + 1 ≤ dd) (hlen : as.length = k) (hroom : (st.map zcat).sum ≤ 8) (hst : st0 = as.reverse ++ st) (hret : Y'.2.2.2.isNone = false)
    (hM : zSpecI x.2.1 w d Y' as im lv P) (kk : ∀ (v : Int32) (im' : zMem) (lv' : Int64), P v im' lv' → zW x w (pc + 3) L (vI v :: st) im' lv') : zW x w pc L st0 im lv :=
  zi_callSN hO hNN (Nat.le_refl _) hd hk hks hdd hlen hroom hst hM (fun v rf' im' lv' h => by
    obtain ⟨rfl, a, rfl, hp⟩ := h
    rw [zres, if_neg (by rw [hret]; decide)]
    exact kk a im' lv' hp)
end ZC
