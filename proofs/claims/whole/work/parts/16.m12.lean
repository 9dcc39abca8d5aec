
def sWalk (F : Nat → Nat → Int32) (nT now : Nat) (op px py : Nat → Nat) (low high wh k : Int32) : Int32 := if binI k 0 (wR low high wh nT - 1) = 0 then -1 else nI ((sW low high).getD (ob (sW low high).length (bidx F now op (sW low high) px py (ix wh / 100) (ix wh % 100) (ofac (sW low high).length)) (ix k)) 0)
def sWalked (F : Nat → Nat → Int32) (nT now : Nat) (op px py : Nat → Nat) (low high wh what : Int32) : Int32 := if binI what 0 1 = 0 then -1 else if wR low high wh nT = -1 then -1 else if what = 0 then wO F now op (sW low high) px py (ix wh / 100) (ix wh % 100) (bidx F now op (sW low high) px py (ix wh / 100) (ix wh % 100) (ofac (sW low high).length)) else nI (wN (sW low high) px py (ix wh / 100) (ix wh % 100) (bidx F now op (sW low high) px py (ix wh / 100) (ix wh % 100) (ofac (sW low high).length)))
theorem wR_ok {low high wh : Int32} {nT : Nat} (h : ¬ wR low high wh nT = -1) : wR low high wh nT = nI (sW low high).length := by
  unfold wR at h ⊢
  by_cases a : binI wh 0 9999 = 0
  · rw [if_pos a] at h; exact absurd rfl h
  · rw [if_neg a] at h ⊢
    exact (chI_ok h).1
theorem binI_neg (k : Int32) : binI k 0 (-1 - 1) = 0 := by
  rw [binI_0]
  rintro ⟨h1, h2⟩
  apply h2
  rw [Int32.lt_iff_toInt_lt] at h1 ⊢
  have e1 : ((-1 : Int32) - 1).toInt = -2 := by decide
  have e2 : (0 : Int32).toInt = 0 := by decide
  omega

set_option maxHeartbeats 4000000 in
set_option maxRecDepth 100000 in
theorem c_X7_walk (l : Launch) (G : XG) (A : Nat → Prop) (ρ : Nat → Option Nat) (ad : Nat → Nat) (b : XW) (I : Nat → Int32) (F : Nat → Nat → Int32) (hρ : mA ρ ad) (nT : Nat) (hn : I 3 = nI nT) (hT : nT ≤ 60) (now : Nat) (hw : I 0 = nI now) (hN : now ≤ 3650) (op : Nat → Nat) (hop : ∀ t, t < nT → F 9 t = nI (op t) ∧ op t ≤ 3) (hoy : ∀ t, t < nT → ∀ i, i < op t → ∃ oy, F 13 (3 * t + i) = nI oy ∧ oy ≤ now / 365) (px py : Nat → Nat) (hpx : ∀ t, t < nT → F 5 t = nI (px t) ∧ px t ≤ 99 ∧ F 6 t = nI (py t) ∧ py t ≤ 99) (low high wh k0 : Int32) : Met l yX7_walk wsX7_walk ({ frames := 3, cells := 6, slots := 72, locals := 87 }) (va_Pc [.ref (ad 0), .int low, .int high, .int wh, .int k0] (xP G A (mw G ρ ad b I F))) (va_Qi (fun (r : Int32) (u : (Nat → Int32) × (Nat → Nat → Int32)) => r = sWalk F nT now op px py low high wh k0 ∧ (∀ q, q ≠ 33 → q ≠ 34 → q ≠ 35 → q ≠ 36 → u.2 q = F q) ∧ (∀ q, q ≠ 37 → q ≠ 38 → u.1 q = I q)) (fun u t => xB G A (mw G ρ ad b u.1 u.2) t) A) 6 72 A := by
  refine Met.ofW (cc := cX7_walk) (maxL := 6) (ret := (some .int)) (by decide) rfl ?_
  intro p e s m args below meth c s₁ B hml hv
  obtain ⟨rfl, hK, hH, hTt⟩ := hv
  have hx := B.exec
  have hb := B.bytes
  have hr := B.returns
  have hts := atoms_spec (ws := wsX7_walk) B.pre
  have hown : s.vm.findClass RX7 = some m.cls := findClass_of_methodNamed B.named
  have hlocks := B.notSynchronized
  have hiX7 : ∀ w ∈ wsX70, w ∈ wsX7_walk := by decide +kernel
  have hf80 := hts (.fieldLink RX7 80 "ResinWoodsModel" "chosen" "[I") (by decide +kernel)
  have hf89 := hts (.fieldLink RX7 89 "ResinWoodsModel" "best" "[I") (by decide +kernel)
  have hl := lv_entry ([.ref (ad 0), .int low, .int high, .int wh, .int k0]) (n := 6) (Nat.le_of_ble_eq_true rfl)
  rw [lg_entry_eq]
  generalize (lg_sl ([.ref (ad 0), .int low, .int high, .int wh, .int k0]) ++ List.replicate (6 - (lg_sl ([.ref (ad 0), .int low, .int high, .int wh, .int k0])).length) Slot.unset).toArray = ls at hl ⊢
  have hl : lv_has ls 6 [(0, .ref (ad 0)), (1, .int low), (2, .int high), (3, .int wh), (4, .int k0)] := hl
  refine lv_aload_n hx hb dX7_walk_0 rfl (lv_at hl 0 rfl) ?_
  refine lv_iload_n hx hb dX7_walk_1 rfl (lv_at hl 1 rfl) ?_
  refine lv_iload_n hx hb dX7_walk_2 rfl (lv_at hl 2 rfl) ?_
  refine lv_iload_n hx hb dX7_walk_3 rfl (lv_at hl 3 rfl) ?_
  refine x_calli (va_runV (As := [.int low, .int high, .int wh]) (rest := []) ⟨hx, hb, hml, hown, hts⟩ (c_X7_walks l G A ρ ad b I F hρ nT hn hT now hw hN op hop hoy px py hpx low high wh) (cwV 3 hts gX7_walk_X7_walks rfl rfl rfl (by decide +kernel) ⟨Nat.le_of_ble_eq_true rfl, Nat.le_of_ble_eq_true rfl⟩) (x_preV hK hH hTt (mw_ob hρ) rfl [.int low, .int high, .int wh]) rfl rfl hl.1 rfl (lv_room (Nat.le_of_ble_eq_true rfl)) dX7_walk_4 ⟨Nat.le_of_ble_eq_true rfl, Nat.le_of_ble_eq_true rfl⟩) hH (fun r4 u H locs hp hH => ?_)
  obtain ⟨I4, F4⟩ := u
  obtain ⟨hr4, hfF, hfI, hwk⟩ := hp
  have hH : xH G A s.heap H locs (mw G ρ ad b I4 F4) := hH
  subst hr4
  refine lv_istore (lv' := [(5, .int (wR low high wh nT)), (0, .ref (ad 0)), (1, .int low), (2, .int high), (3, .int wh), (4, .int k0)]) hx hb dX7_walk_7 hl (by decide) rfl (fun ls hl => ?_)
  refine lv_iload hx hb dX7_walk_9 (lv_at hl 5 rfl) ?_
  refine lv_iconst (v := 0) hx hb dX7_walk_11 (by decide) ?_
  refine lv_iload hx hb dX7_walk_12 (lv_at hl 0 rfl) ?_
  refine lv_iconst (v := 1) hx hb dX7_walk_14 (by decide) ?_
  refine lv_isub hx hb dX7_walk_15 ?_
  refine x_calli (va_runS (As := [.int k0, .int 0, .int ((wR low high wh nT) - 1)]) (rest := []) ⟨hx, hb, hml, hown, hts⟩ (c_X7_in l G A (mw G ρ ad b I4 F4) k0 0 ((wR low high wh nT) - 1)) (va_cwS 3 hts gX7_walk_X7_in rfl rfl rfl (by decide +kernel) ⟨Nat.le_of_ble_eq_true rfl, Nat.le_of_ble_eq_true rfl⟩) (x_preS hK hH hTt [.int k0, .int 0, .int ((wR low high wh nT) - 1)]) rfl rfl hl.1 rfl (lv_room (Nat.le_of_ble_eq_true rfl)) dX7_walk_16 ⟨Nat.le_of_ble_eq_true rfl, Nat.le_of_ble_eq_true rfl⟩) hH (fun r16 u H locs hp hH => ?_)
  subst hp
  have hH : xH G A s.heap H locs (mw G ρ ad b I4 F4) := hH
  refine lv_if_eq (tgt := 37) hx hb dX7_walk_19 (by decide) (fun c19 => ?_) (fun c19 => ?_)
  · refine lv_iconst (v := (-1)) hx hb dX7_walk_37 (by decide) ?_
    refine W.widen (k := 6) (n := 72) (Nat.le_of_ble_eq_true rfl) (Nat.le_of_ble_eq_true rfl) ?_
    exact x_iret (v := (-1)) (I4, F4) hx hb hr hlocks hK hH (⟨by unfold sWalk; first | (rw [if_pos c19]; done) | (rw [if_neg c19, ix_n (show k1 < 2 ^ 31 by omega)]; exact hch _ hok), hfF, hfI⟩) dX7_walk_38
  · have hne : ¬ wR low high wh nT = -1 := fun z => c19 (by rw [z]; exact binI_neg k0)
    obtain ⟨hc2, hbx, hch, hb1, hb2, hb3⟩ := hwk hne
    obtain ⟨hS1, hS6, hSn⟩ := okS_iff.mp hc2
    obtain ⟨k1, hk1, rfl⟩ := inI_pred (n := (sW low high).length) (by rw [← wR_ok hne]; exact binI_1.mp c19) (by omega)
    have hok := (oka_at hS1 hS6 hbx hk1).1
    refine lv_aload_n hx hb dX7_walk_22 rfl (lv_at hl 1 rfl) ?_
    refine M_get hx hb hts hiX7 hown hK hρ hH 33 (by decide) hf80 (v := .ref (ad 33)) rfl dX7_walk_23 ?_
    refine lv_aload_n hx hb dX7_walk_26 rfl (lv_at hl 1 rfl) ?_
    refine M_get hx hb hts hiX7 hown hK hρ hH 36 (by decide) hf89 (v := .ref (ad 36)) rfl dX7_walk_27 ?_
    refine lv_iload hx hb dX7_walk_30 (lv_at hl 5 rfl) ?_
    refine M_iald hx hb hK hρ hH 36 6 (by decide) k1 rfl (by omega) dX7_walk_32 ?_
    refine lv_topi (fun w32 ew32 => ?_)
    rw [show F4 36 k1 = nI (ob (sW low high).length (bidx F now op (sW low high) px py (ix wh / 100) (ix wh % 100) (ofac (sW low high).length)) k1) from hb3 k1 hk1] at ew32
    subst ew32
    refine M_iald hx hb hK hρ hH 33 6 (by decide) (ob (sW low high).length (bidx F now op (sW low high) px py (ix wh / 100) (ix wh % 100) (ofac (sW low high).length)) k1) rfl (by omega) dX7_walk_33 ?_
    refine lv_goto (tgt := 38) hx hb dX7_walk_34 (by decide) ?_
    refine W.widen (k := 6) (n := 72) (Nat.le_of_ble_eq_true rfl) (Nat.le_of_ble_eq_true rfl) ?_
    exact x_iret (v := F4 33 (ob (sW low high).length (bidx F now op (sW low high) px py (ix wh / 100) (ix wh % 100) (ofac (sW low high).length)) k1)) (I4, F4) hx hb hr hlocks hK hH (⟨by unfold sWalk; first | (rw [if_pos c19]; done) | (rw [if_neg c19, ix_n (show k1 < 2 ^ 31 by omega)]; exact hch _ hok), hfF, hfI⟩) dX7_walk_38

set_option maxHeartbeats 4000000 in
set_option maxRecDepth 100000 in
theorem c_X7_walked (l : Launch) (G : XG) (A : Nat → Prop) (ρ : Nat → Option Nat) (ad : Nat → Nat) (b : XW) (I : Nat → Int32) (F : Nat → Nat → Int32) (hρ : mA ρ ad) (nT : Nat) (hn : I 3 = nI nT) (hT : nT ≤ 60) (now : Nat) (hw : I 0 = nI now) (hN : now ≤ 3650) (op : Nat → Nat) (hop : ∀ t, t < nT → F 9 t = nI (op t) ∧ op t ≤ 3) (hoy : ∀ t, t < nT → ∀ i, i < op t → ∃ oy, F 13 (3 * t + i) = nI oy ∧ oy ≤ now / 365) (px py : Nat → Nat) (hpx : ∀ t, t < nT → F 5 t = nI (px t) ∧ px t ≤ 99 ∧ F 6 t = nI (py t) ∧ py t ≤ 99) (low high wh what : Int32) : Met l yX7_walked wsX7_walked ({ frames := 3, cells := 6, slots := 72, locals := 87 }) (va_Pc [.ref (ad 0), .int low, .int high, .int wh, .int what] (xP G A (mw G ρ ad b I F))) (va_Qi (fun (r : Int32) (u : (Nat → Int32) × (Nat → Nat → Int32)) => r = sWalked F nT now op px py low high wh what ∧ (∀ q, q ≠ 33 → q ≠ 34 → q ≠ 35 → q ≠ 36 → u.2 q = F q) ∧ (∀ q, q ≠ 37 → q ≠ 38 → u.1 q = I q)) (fun u t => xB G A (mw G ρ ad b u.1 u.2) t) A) 6 72 A := by
  refine Met.ofW (cc := cX7_walked) (maxL := 5) (ret := (some .int)) (by decide) rfl ?_
  intro p e s m args below meth c s₁ B hml hv
  obtain ⟨rfl, hK, hH, hTt⟩ := hv
  have hx := B.exec
  have hb := B.bytes
  have hr := B.returns
  have hts := atoms_spec (ws := wsX7_walked) B.pre
  have hown : s.vm.findClass RX7 = some m.cls := findClass_of_methodNamed B.named
  have hlocks := B.notSynchronized
  have hiX7 : ∀ w ∈ wsX70, w ∈ wsX7_walked := by decide +kernel
  have hf189 := hts (.fieldLink RX7 189 "ResinWoodsModel" "bestOver" "I") (by decide +kernel)
  have hf200 := hts (.fieldLink RX7 200 "ResinWoodsModel" "bestSteps" "I") (by decide +kernel)
  have hl := lv_entry ([.ref (ad 0), .int low, .int high, .int wh, .int what]) (n := 5) (Nat.le_of_ble_eq_true rfl)
  rw [lg_entry_eq]
  generalize (lg_sl ([.ref (ad 0), .int low, .int high, .int wh, .int what]) ++ List.replicate (5 - (lg_sl ([.ref (ad 0), .int low, .int high, .int wh, .int what])).length) Slot.unset).toArray = ls at hl ⊢
  have hl : lv_has ls 5 [(0, .ref (ad 0)), (1, .int low), (2, .int high), (3, .int wh), (4, .int what)] := hl
  refine lv_iload hx hb dX7_walked_0 (lv_at hl 4 rfl) ?_
  refine lv_iconst (v := 0) hx hb dX7_walked_2 (by decide) ?_
  refine lv_iconst (v := 1) hx hb dX7_walked_3 (by decide) ?_
  refine x_calli (va_runS (As := [.int what, .int 0, .int 1]) (rest := []) ⟨hx, hb, hml, hown, hts⟩ (c_X7_in l G A (mw G ρ ad b I F) what 0 1) (va_cwS 3 hts gX7_walked_X7_in rfl rfl rfl (by decide +kernel) ⟨Nat.le_of_ble_eq_true rfl, Nat.le_of_ble_eq_true rfl⟩) (x_preS hK hH hTt [.int what, .int 0, .int 1]) rfl rfl hl.1 rfl (lv_room (Nat.le_of_ble_eq_true rfl)) dX7_walked_4 ⟨Nat.le_of_ble_eq_true rfl, Nat.le_of_ble_eq_true rfl⟩) hH (fun r4 u H locs hp hH => ?_)
  subst hp
  have hH : xH G A s.heap H locs (mw G ρ ad b I F) := hH
  refine lv_if_eq (tgt := 21) hx hb dX7_walked_7 (by decide) (fun c7 => ?_) (fun c7 => ?_)
  · refine lv_iconst (v := (-1)) hx hb dX7_walked_21 (by decide) ?_
    refine W.widen (k := 6) (n := 72) (Nat.le_of_ble_eq_true rfl) (Nat.le_of_ble_eq_true rfl) ?_
    exact x_iret (v := (-1)) (I, F) hx hb hr hlocks hK hH (⟨by unfold sWalked; first | (rw [if_pos c7]; done) | (rw [if_neg c7, if_pos c18]), by first | exact hfF | exact fun _ _ _ _ _ => rfl, by first | exact hfI | exact fun _ _ _ => rfl⟩) dX7_walked_22
  · refine lv_aload_n hx hb dX7_walked_10 rfl (lv_at hl 0 rfl) ?_
    refine lv_iload_n hx hb dX7_walked_11 rfl (lv_at hl 1 rfl) ?_
    refine lv_iload_n hx hb dX7_walked_12 rfl (lv_at hl 2 rfl) ?_
    refine lv_iload_n hx hb dX7_walked_13 rfl (lv_at hl 3 rfl) ?_
    refine x_calli (va_runV (As := [.int low, .int high, .int wh]) (rest := []) ⟨hx, hb, hml, hown, hts⟩ (c_X7_walks l G A ρ ad b I F hρ nT hn hT now hw hN op hop hoy px py hpx low high wh) (cwV 3 hts gX7_walked_X7_walks rfl rfl rfl (by decide +kernel) ⟨Nat.le_of_ble_eq_true rfl, Nat.le_of_ble_eq_true rfl⟩) (x_preV hK hH hTt (mw_ob hρ) rfl [.int low, .int high, .int wh]) rfl rfl hl.1 rfl (lv_room (Nat.le_of_ble_eq_true rfl)) dX7_walked_14 ⟨Nat.le_of_ble_eq_true rfl, Nat.le_of_ble_eq_true rfl⟩) hH (fun r14 u H locs hp hH => ?_)
    obtain ⟨I14, F14⟩ := u
    obtain ⟨hr14, hfF, hfI, hwk⟩ := hp
    have hH : xH G A s.heap H locs (mw G ρ ad b I14 F14) := hH
    subst hr14
    refine lv_iconst (v := (-1)) hx hb dX7_walked_17 (by decide) ?_
    refine lv_icmp_ne (tgt := 23) hx hb dX7_walked_18 (by decide) (fun c18 => ?_) (fun c18 => ?_)
    · refine lv_iload hx hb dX7_walked_23 (lv_at hl 4 rfl) ?_
      refine lv_if_ne (tgt := 35) hx hb dX7_walked_25 (by decide) (fun c25 => ?_) (fun c25 => ?_)
      · refine lv_aload_n hx hb dX7_walked_35 rfl (lv_at hl 0 rfl) ?_
        refine M_get hx hb hts hiX7 hown hK hρ hH 38 (by decide) hf200 (v := .int (I14 38)) rfl dX7_walked_36 ?_
        refine W.widen (k := 6) (n := 72) (Nat.le_of_ble_eq_true rfl) (Nat.le_of_ble_eq_true rfl) ?_
        exact x_iret (v := I14 38) (I14, F14) hx hb hr hlocks hK hH (⟨by obtain ⟨hc2, hbx, hch, hb1, hb2, hb3⟩ := hwk c18; unfold sWalked; rw [if_neg c7, if_neg c18]; first | (rw [if_pos c25]; exact hb1) | (rw [if_neg c25]; exact hb2), hfF, hfI⟩) dX7_walked_39
      · refine lv_aload_n hx hb dX7_walked_28 rfl (lv_at hl 0 rfl) ?_
        refine M_get hx hb hts hiX7 hown hK hρ hH 37 (by decide) hf189 (v := .int (I14 37)) rfl dX7_walked_29 ?_
        refine lv_goto (tgt := 39) hx hb dX7_walked_32 (by decide) ?_
        refine W.widen (k := 6) (n := 72) (Nat.le_of_ble_eq_true rfl) (Nat.le_of_ble_eq_true rfl) ?_
        exact x_iret (v := I14 37) (I14, F14) hx hb hr hlocks hK hH (⟨by obtain ⟨hc2, hbx, hch, hb1, hb2, hb3⟩ := hwk c18; unfold sWalked; rw [if_neg c7, if_neg c18]; first | (rw [if_pos c25]; exact hb1) | (rw [if_neg c25]; exact hb2), hfF, hfI⟩) dX7_walked_39
    · refine lv_iconst (v := (-1)) hx hb dX7_walked_21 (by decide) ?_
      refine W.widen (k := 6) (n := 72) (Nat.le_of_ble_eq_true rfl) (Nat.le_of_ble_eq_true rfl) ?_
      exact x_iret (v := (-1)) (I14, F14) hx hb hr hlocks hK hH (⟨by unfold sWalked; first | (rw [if_pos c7]; done) | (rw [if_neg c7, if_pos c18]), by first | exact hfF | exact fun _ _ _ _ _ => rfl, by first | exact hfI | exact fun _ _ _ => rfl⟩) dX7_walked_22
