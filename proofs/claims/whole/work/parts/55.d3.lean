
theorem grad_le {F : Nat → Nat → Int32} {b h : Nat} (hb : b < 200) (hg : ∀ q, q < 800 → ∃ x, F 18 q = nI x ∧ x ≤ 1000) (hh : hasS F b = nI h) (h0 : 0 < h) (hle : h ≤ 1000) : ∃ k, k ≤ 3 ∧ gradB F b = nI k := by
  obtain ⟨x0, e0, l0⟩ := hg (4 * b + 0) (by omega)
  obtain ⟨x1, e1, l1⟩ := hg (4 * b + 1) (by omega)
  obtain ⟨x2, e2, l2⟩ := hg (4 * b + 2) (by omega)
  obtain ⟨x3, e3, l3⟩ := hg (4 * b + 3) (by omega)
  have hs : hasS F b = nI (0 + x0 + x1 + x2 + x3) := by
    unfold hasS
    show (((0 + F 18 (4 * b + 0)) + F 18 (4 * b + 1)) + F 18 (4 * b + 2)) + F 18 (4 * b + 3) = _
    rw [e0, e1, e2, e3, show (0 : Int32) = nI 0 from rfl, nI_add, nI_add, nI_add, nI_add]
  have hx : h = 0 + x0 + x1 + x2 + x3 := (nI_eq (by omega) (by omega)).mp (hh.symm.trans hs)
  refine ⟨(0 + 0 * x0 + 1 * x1 + 2 * x2 + 3 * x3) / h, ?_, ?_⟩
  · rw [Nat.div_le_iff_le_mul_add_pred h0]
    omega
  · unfold gradB
    rw [hh]
    show ((((0 + nI 0 * F 18 (4 * b + 0)) + nI 1 * F 18 (4 * b + 1)) + nI 2 * F 18 (4 * b + 2)) + nI 3 * F 18 (4 * b + 3)) / nI h = _
    rw [e0, e1, e2, e3, pk_mul, pk_mul, pk_mul, pk_mul, show (0 : Int32) = nI 0 from rfl, nI_add, nI_add, nI_add, nI_add, pk_div (by omega) h0 (by omega)]
theorem ros_eq {k : Nat} (h : k ≤ 3) : rosV k = 70 - 5 * nI k := by
  have : k = 0 ∨ k = 1 ∨ k = 2 ∨ k = 3 := by omega
  rcases this with rfl | rfl | rfl | rfl <;> decide

set_option maxHeartbeats 4000000 in
set_option maxRecDepth 100000 in
theorem c_X6_due (l : Launch) (G : XG) (A : Nat → Prop) (w : XW) (a : Nat) (ad : YA) (E : YE) (cp L wd bw : Nat → Nat) (lb : Nat → Option Nat) (I : Nat → Int32) (F : Nat → Nat → Int32) (hc_a : w a = some (.inr (7, [.ref (ad 1 0 0), .ref (ad 2 0 0), .ref (ad 3 0 0), .ref (ad 5 0 0), .ref (ad 5 1 0), .ref (ad 7 0 0), .ref (ad 8 0 0), .int (I 0), .int (I 30), .int (I 29), .int (I 31), .int (I 32)]))) (now : Nat) (hR : Rep G w ad E cp L wd bw lb I F) (hV : Inv now L wd bw lb I F) (i0 : Int32) : Met l yX6_due wsX6_due ({ frames := 1, cells := 0, slots := 0, locals := 21 }) (va_Pc [.ref a, .int i0] (xP G A (w))) (va_Qi (fun (r : Int32) (u : XW) => r = sDue F i0 ∧ u = w) (fun u t => xB G A (u) t) A) 0 0 A := by
  refine Met.ofW (cc := cX6_due) (maxL := 3) (ret := (some .int)) (by decide) rfl ?_
  intro p e s m args below meth c s₁ B hml hv
  obtain ⟨rfl, hK, hH, hTt⟩ := hv
  have hx := B.exec
  have hb := B.bytes
  have hr := B.returns
  have hts := atoms_spec (ws := wsX6_due) B.pre
  have hown : s.vm.findClass RX6 = some m.cls := findClass_of_methodNamed B.named
  have hlocks := B.notSynchronized
  have hl := lv_entry ([.ref a, .int i0]) (n := 3) (Nat.le_of_ble_eq_true rfl)
  rw [lg_entry_eq]
  generalize (lg_sl ([.ref a, .int i0]) ++ List.replicate (3 - (lg_sl ([.ref a, .int i0])).length) Slot.unset).toArray = ls at hl ⊢
  have hl : lv_has ls 3 [(0, .ref a), (1, .int i0)] := hl
  have h60 : L 0 ≤ 60 := hV.1.2.2.2.1
  have hI3 : I 3 = nI (L 0) := hV.1.2.2.1
  have hI0 : I 0 = nI now := hV.1.1
  have hnow : now ≤ 3650 := hV.1.2.1
  obtain ⟨fa, hfa⟩ : ∃ z : Nat → Nat, z = fun j => ad 12 j 0 := ⟨_, rfl⟩
  obtain ⟨fba, hfba⟩ : ∃ z : Nat → Nat, z = fun j => ad 15 j 0 := ⟨_, rfl⟩
  obtain ⟨hs, hBV, hB1, hB2, hB3, hB4, hB5⟩ := hV.2.2.2.2
  have hI16 : I 16 = nI (L 1) := hBV.1
  have h200 : L 1 ≤ 200 := hBV.2.1
  obtain ⟨fwa, hfwa⟩ : ∃ z : Nat → Nat, z = fun j => ad 4 j 0 := ⟨_, rfl⟩
  refine lv_aload_n hx hb dX6_due_0 rfl (lv_at hl 0 rfl) ?_
  refine lv_iload_n hx hb dX6_due_1 rfl (lv_at hl 1 rfl) ?_
  refine x_callq (va_runV (As := [.int i0]) (rest := []) ⟨hx, hb, hml, hown, hts⟩ (c_X6_woodAt l G A _ a (ad 3 0 0) _ _ _ _ _ _ _ _ _ _ _ (six ad 4) hc_a hR.woods i0 fwa (fun j hj => by rw [hfwa]; exact if_pos hj)) (cwV 1 hts gX6_due_X6_woodAt rfl rfl rfl (by decide +kernel) ⟨Nat.le_of_ble_eq_true rfl, Nat.le_of_ble_eq_true rfl⟩) (x_preV hK hH hTt (hc_a) rfl [.int i0]) rfl rfl hl.1 rfl (lv_room (Nat.le_of_ble_eq_true rfl)) dX6_due_2 ⟨Nat.le_of_ble_eq_true rfl, Nat.le_of_ble_eq_true rfl⟩) hH (fun r2 u H locs hp hH => ?_)
  obtain ⟨hat, hu9⟩ := hp
  rw [hu9] at hH
  rcases atR_or hat with ⟨i, hi, rfl, rfl⟩ | ⟨hno, rfl⟩
  · obtain ⟨wc, hwc⟩ : ∃ z, z = fwa i := ⟨_, rfl⟩
    rw [← hwc]
    have hc_wc : w wc = some (.inr (6, [.int (nI i), .int (F 22 i), .int (F 23 i), .int (F 24 i), .int (F 25 i), va_rf ((lb i).map (fun b => ad 15 b 0))])) := by rw [hwc, hfwa]; exact hR.wood hi
    obtain ⟨⟨tk, htk, htk2⟩, hw22, rn, hrn, hrn2⟩ := hB5 i hi
    refine lv_astore_n (lv' := [(2, .ref wc), (0, .ref a), (1, .int (nI i))]) hx hb dX6_due_5 rfl hl (by decide) rfl (fun ls hl => ?_)
    refine lv_aload_n hx hb dX6_due_6 rfl (lv_at hl 0 rfl) ?_
    refine lv_ifnonnull (tgt := 14) hx hb dX6_due_7 (by decide) ?_
    refine lv_aload_n hx hb dX6_due_14 rfl (lv_at hl 0 rfl) ?_
    refine x_calli (va_runV (As := []) (rest := []) ⟨hx, hb, hml, hown, hts⟩ (c_X5_stillDue l G A _ wc _ _ _ _ _ _ hc_wc) (cwV 0 hts gX6_due_X5_stillDue rfl rfl rfl (by decide +kernel) ⟨Nat.le_of_ble_eq_true rfl, Nat.le_of_ble_eq_true rfl⟩) (x_preV hK hH hTt (hc_wc) rfl []) rfl rfl hl.1 rfl (lv_room (Nat.le_of_ble_eq_true rfl)) dX6_due_15 ⟨Nat.le_of_ble_eq_true rfl, Nat.le_of_ble_eq_true rfl⟩) hH (fun r15 u H locs hp hH => ?_)
    obtain ⟨rfl, hu9⟩ := hp
    rw [hu9] at hH
    exact x_iret (v := if F 22 i = 0 then 0 else F 24 i * F 23 i / 100 - F 25 i) w hx hb hr hlocks hK hH (⟨due_ok hi htk (by omega) hrn hrn2, rfl⟩) dX6_due_18
  · have hnw := hno
    refine lv_astore_nN (lv' := [(2, .null), (0, .ref a), (1, .int i0)]) hx hb dX6_due_5 rfl hl (by decide) rfl (fun ls hl => ?_)
    refine lv_aload_nN hx hb dX6_due_6 rfl (lv_at hl 0 rfl) ?_
    refine lv_ifnonnullN hx hb dX6_due_7 ?_
    refine lv_iconst (v := 0) hx hb dX6_due_10 (by decide) ?_
    refine lv_goto (tgt := 18) hx hb dX6_due_11 (by decide) ?_
    exact x_iret (v := 0) w hx hb hr hlocks hK hH (⟨by unfold sDue; rw [if_pos (bin6n hnw)], rfl⟩) dX6_due_18

set_option maxHeartbeats 4000000 in
set_option maxRecDepth 100000 in
theorem c_X6_let (l : Launch) (G : XG) (A : Nat → Prop) (w : XW) (a : Nat) (ad : YA) (E : YE) (cp L wd bw : Nat → Nat) (lb : Nat → Option Nat) (I : Nat → Int32) (F : Nat → Nat → Int32) (hc_a : w a = some (.inr (7, [.ref (ad 1 0 0), .ref (ad 2 0 0), .ref (ad 3 0 0), .ref (ad 5 0 0), .ref (ad 5 1 0), .ref (ad 7 0 0), .ref (ad 8 0 0), .int (I 0), .int (I 30), .int (I 29), .int (I 31), .int (I 32)]))) (now : Nat) (hR : Rep G w ad E cp L wd bw lb I F) (hV : Inv now L wd bw lb I F) (i0 q : Int32) : Met l yX6_let wsX6_let ({ frames := 1, cells := 0, slots := 0, locals := 21 }) (va_Pc [.ref a, .int i0, .int q] (xP G A (w))) (va_Qi (fun (r : Int32) (u : XW) => r = (sLet I F i0 q).1 ∧ Rep G u ad E cp L wd bw lb (sLet I F i0 q).2.1 (sLet I F i0 q).2.2 ∧ Kp w u ad L) (fun u t => xB G A (u) t) A) 0 0 A := by
  refine Met.ofW (cc := cX6_let) (maxL := 4) (ret := (some .boolean)) (by decide) rfl ?_
  intro p e s m args below meth c s₁ B hml hv
  obtain ⟨rfl, hK, hH, hTt⟩ := hv
  have hx := B.exec
  have hb := B.bytes
  have hr := B.returns
  have hts := atoms_spec (ws := wsX6_let) B.pre
  have hown : s.vm.findClass RX6 = some m.cls := findClass_of_methodNamed B.named
  have hlocks := B.notSynchronized
  have hl := lv_entry ([.ref a, .int i0, .int q]) (n := 4) (Nat.le_of_ble_eq_true rfl)
  rw [lg_entry_eq]
  generalize (lg_sl ([.ref a, .int i0, .int q]) ++ List.replicate (4 - (lg_sl ([.ref a, .int i0, .int q])).length) Slot.unset).toArray = ls at hl ⊢
  have hl : lv_has ls 4 [(0, .ref a), (1, .int i0), (2, .int q)] := hl
  have h60 : L 0 ≤ 60 := hV.1.2.2.2.1
  have hI3 : I 3 = nI (L 0) := hV.1.2.2.1
  have hI0 : I 0 = nI now := hV.1.1
  have hnow : now ≤ 3650 := hV.1.2.1
  obtain ⟨fa, hfa⟩ : ∃ z : Nat → Nat, z = fun j => ad 12 j 0 := ⟨_, rfl⟩
  obtain ⟨fba, hfba⟩ : ∃ z : Nat → Nat, z = fun j => ad 15 j 0 := ⟨_, rfl⟩
  obtain ⟨hs, hBV, hB1, hB2, hB3, hB4, hB5⟩ := hV.2.2.2.2
  have hI16 : I 16 = nI (L 1) := hBV.1
  have h200 : L 1 ≤ 200 := hBV.2.1
  obtain ⟨fwa, hfwa⟩ : ∃ z : Nat → Nat, z = fun j => ad 4 j 0 := ⟨_, rfl⟩
  refine lv_aload_n hx hb dX6_let_0 rfl (lv_at hl 0 rfl) ?_
  refine lv_iload_n hx hb dX6_let_1 rfl (lv_at hl 1 rfl) ?_
  refine x_callq (va_runV (As := [.int i0]) (rest := []) ⟨hx, hb, hml, hown, hts⟩ (c_X6_woodAt l G A _ a (ad 3 0 0) _ _ _ _ _ _ _ _ _ _ _ (six ad 4) hc_a hR.woods i0 fwa (fun j hj => by rw [hfwa]; exact if_pos hj)) (cwV 1 hts gX6_let_X6_woodAt rfl rfl rfl (by decide +kernel) ⟨Nat.le_of_ble_eq_true rfl, Nat.le_of_ble_eq_true rfl⟩) (x_preV hK hH hTt (hc_a) rfl [.int i0]) rfl rfl hl.1 rfl (lv_room (Nat.le_of_ble_eq_true rfl)) dX6_let_2 ⟨Nat.le_of_ble_eq_true rfl, Nat.le_of_ble_eq_true rfl⟩) hH (fun r2 u H locs hp hH => ?_)
  obtain ⟨hat, hu9⟩ := hp
  rw [hu9] at hH
  rcases atR_or hat with ⟨i, hi, rfl, rfl⟩ | ⟨hno, rfl⟩
  · obtain ⟨wc, hwc⟩ : ∃ z, z = fwa i := ⟨_, rfl⟩
    rw [← hwc]
    have hc_wc : w wc = some (.inr (6, [.int (nI i), .int (F 22 i), .int (F 23 i), .int (F 24 i), .int (F 25 i), va_rf ((lb i).map (fun b => ad 15 b 0))])) := by rw [hwc, hfwa]; exact hR.wood hi
    obtain ⟨⟨tk, htk, htk2⟩, hw22, rn, hrn, hrn2⟩ := hB5 i hi
    have ne_wc_a : wc ≠ a := fun e9 => by rw [e9, hc_a] at hc_wc; cases hc_wc
    have ne_a_wc : a ≠ wc := fun e9 => ne_wc_a e9.symm
    refine lv_astore_n (lv' := [(3, .ref wc), (0, .ref a), (1, .int (nI i)), (2, .int q)]) hx hb dX6_let_5 rfl hl (by decide) rfl (fun ls hl => ?_)
    refine lv_aload_n hx hb dX6_let_6 rfl (lv_at hl 0 rfl) ?_
    refine lv_ifnull hx hb dX6_let_7 ?_
    refine lv_iload_n hx hb dX6_let_10 rfl (lv_at hl 3 rfl) ?_
    refine lv_if_lt (tgt := 20) hx hb dX6_let_11 (by decide) (fun c11 => ?_) (fun c11 => ?_)
    · have hbq : binI q 0 100 = 0 := by unfold binI; rw [if_pos c11]
      refine lv_iconst (v := 0) hx hb dX6_let_20 (by decide) ?_
      exact x_zret (v := 0) w hx hb hr hlocks (by decide) hK hH (by have hsp : sLet I F (nI i) q = (0, I, F) := by { unfold sLet; rw [if_neg (bin6 hi), if_pos hbq] }; rw [hsp]; exact ⟨rfl, hR, fun _ _ => rfl⟩) dX6_let_21
    · refine lv_iload_n hx hb dX6_let_14 rfl (lv_at hl 3 rfl) ?_
      refine lv_bipush (v := 100) hx hb dX6_let_15 (by decide) ?_
      refine lv_icmp_le (tgt := 22) hx hb dX6_let_17 (by decide) (fun c17 => ?_) (fun c17 => ?_)
      · have hbq : ¬ binI q 0 100 = 0 := by unfold binI; rw [if_neg c11, if_neg (show ¬ (100 : Int32) < q from fun z => by rw [Int32.lt_iff_toInt_lt] at z; rw [Int32.le_iff_toInt_le] at c17; omega)]; decide
        refine lv_aload_n hx hb dX6_let_22 rfl (lv_at hl 0 rfl) ?_
        refine lv_iload_n hx hb dX6_let_23 rfl (lv_at hl 3 rfl) ?_
        refine x_callv (va_runV (As := [.int q]) (rest := []) ⟨hx, hb, hml, hown, hts⟩ (c_X5_letFor l G A _ wc _ _ _ _ _ _ hc_wc q) (cwV 1 hts gX6_let_X5_letFor rfl rfl rfl (by decide +kernel) ⟨Nat.le_of_ble_eq_true rfl, Nat.le_of_ble_eq_true rfl⟩) (x_preV hK hH hTt (hc_wc) rfl [.int q]) rfl rfl hl.1 rfl (lv_room (Nat.le_of_ble_eq_true rfl)) dX6_let_24 ⟨Nat.le_of_ble_eq_true rfl, Nat.le_of_ble_eq_true rfl⟩) hH (fun w24 H locs hp hH => ?_)
        obtain ⟨hc_wc1, hfm⟩ := hp
        refine lv_iconst (v := 1) hx hb dX6_let_27 (by decide) ?_
        exact x_zret (v := 1) w24 hx hb hr hlocks (by decide) hK hH (by have hsp : sLet I F (nI i) q = (1, I, setA (setA (setA (setA F 22 i 1) 23 i q) 24 i 0) 25 i 0) := by { unfold sLet; rw [if_neg (bin6 hi), if_neg hbq, ix_n (by omega)] }; rw [hsp]; exact ⟨rfl, rep_let hR hi (by have := hc_wc1; rw [hwc, hfwa] at this; exact this) (fun y hy => hfm y (by rw [hwc, hfwa]; exact hy)), fun y hy => hfm y (by rw [hwc, hfwa]; exact hy 4 i 0 ⟨hi, rfl⟩)⟩) dX6_let_28
      · have hbq : binI q 0 100 = 0 := by unfold binI; rw [if_neg c11, if_pos (show (100 : Int32) < q from by rw [Int32.lt_iff_toInt_lt]; rw [Int32.le_iff_toInt_le] at c17; omega)]
        refine lv_iconst (v := 0) hx hb dX6_let_20 (by decide) ?_
        exact x_zret (v := 0) w hx hb hr hlocks (by decide) hK hH (by have hsp : sLet I F (nI i) q = (0, I, F) := by { unfold sLet; rw [if_neg (bin6 hi), if_pos hbq] }; rw [hsp]; exact ⟨rfl, hR, fun _ _ => rfl⟩) dX6_let_21
  · have hnw := hno
    refine lv_astore_nN (lv' := [(3, .null), (0, .ref a), (1, .int i0), (2, .int q)]) hx hb dX6_let_5 rfl hl (by decide) rfl (fun ls hl => ?_)
    refine lv_aload_nN hx hb dX6_let_6 rfl (lv_at hl 0 rfl) ?_
    refine lv_ifnullN (tgt := 20) hx hb dX6_let_7 (by decide) ?_
    refine lv_iconst (v := 0) hx hb dX6_let_20 (by decide) ?_
    exact x_zret (v := 0) w hx hb hr hlocks (by decide) hK hH (by have hsp : sLet I F i0 q = (0, I, F) := if_pos (bin6n hnw); rw [hsp]; exact ⟨rfl, hR, fun _ _ => rfl⟩) dX6_let_21

set_option maxHeartbeats 4000000 in
set_option maxRecDepth 100000 in
theorem c_X6_still (l : Launch) (G : XG) (A : Nat → Prop) (w : XW) (a : Nat) (ad : YA) (E : YE) (cp L wd bw : Nat → Nat) (lb : Nat → Option Nat) (I : Nat → Int32) (F : Nat → Nat → Int32) (hc_a : w a = some (.inr (7, [.ref (ad 1 0 0), .ref (ad 2 0 0), .ref (ad 3 0 0), .ref (ad 5 0 0), .ref (ad 5 1 0), .ref (ad 7 0 0), .ref (ad 8 0 0), .int (I 0), .int (I 30), .int (I 29), .int (I 31), .int (I 32)]))) (now : Nat) (hR : Rep G w ad E cp L wd bw lb I F) (hV : Inv now L wd bw lb I F) (ha : a = ad 0 0 0) (b1 : Int32) : Met l yX6_still wsX6_still ({ frames := 4, cells := 0, slots := 0, locals := 85 }) (va_Pc [.ref a, .int b1] (xP G A (w))) (va_Qi (fun (r : Int32) (u : XW) => r = (sStill I F b1).1 ∧ Rep G u ad E cp L wd bw lb (sStill I F b1).2.1 (sStill I F b1).2.2 ∧ Kp w u ad L) (fun u t => xB G A (u) t) A) 0 0 A := by
  refine Met.ofW (cc := cX6_still) (maxL := 3) (ret := (some .int)) (by decide) rfl ?_
  intro p e s m args below meth c s₁ B hml hv
  obtain ⟨rfl, hK, hH, hTt⟩ := hv
  have hx := B.exec
  have hb := B.bytes
  have hr := B.returns
  have hts := atoms_spec (ws := wsX6_still) B.pre
  have hown : s.vm.findClass RX6 = some m.cls := findClass_of_methodNamed B.named
  have hlocks := B.notSynchronized
  have hiX0 : ∀ w ∈ wsX00, w ∈ wsX6_still := by decide +kernel
  have hiX6 : ∀ w ∈ wsX60, w ∈ wsX6_still := by decide +kernel
  have hf56 := hts (.fieldLink RX6 56 "ResinWoods" "spirit" "I") (by decide +kernel)
  have hf59 := hts (.fieldLink RX6 59 "ResinWoods" "rosin" "I") (by decide +kernel)
  have hf184 := hts (.fieldLink RX6 184 "ResinWoods$Barrel" "isStilled" "Z") (by decide +kernel)
  have hl := lv_entry ([.ref a, .int b1]) (n := 3) (Nat.le_of_ble_eq_true rfl)
  rw [lg_entry_eq]
  generalize (lg_sl ([.ref a, .int b1]) ++ List.replicate (3 - (lg_sl ([.ref a, .int b1])).length) Slot.unset).toArray = ls at hl ⊢
  have hl : lv_has ls 3 [(0, .ref a), (1, .int b1)] := hl
  have h60 : L 0 ≤ 60 := hV.1.2.2.2.1
  have hI3 : I 3 = nI (L 0) := hV.1.2.2.1
  have hI0 : I 0 = nI now := hV.1.1
  have hnow : now ≤ 3650 := hV.1.2.1
  obtain ⟨fa, hfa⟩ : ∃ z : Nat → Nat, z = fun j => ad 12 j 0 := ⟨_, rfl⟩
  obtain ⟨fba, hfba⟩ : ∃ z : Nat → Nat, z = fun j => ad 15 j 0 := ⟨_, rfl⟩
  obtain ⟨hs, hBV, hB1, hB2, hB3, hB4, hB5⟩ := hV.2.2.2.2
  have hI16 : I 16 = nI (L 1) := hBV.1
  have h200 : L 1 ≤ 200 := hBV.2.1
  obtain ⟨fwa, hfwa⟩ : ∃ z : Nat → Nat, z = fun j => ad 4 j 0 := ⟨_, rfl⟩
  refine lv_aload_n hx hb dX6_still_0 rfl (lv_at hl 0 rfl) ?_
  refine lv_iload_n hx hb dX6_still_1 rfl (lv_at hl 1 rfl) ?_
  refine x_callq (va_runV (As := [.int b1]) (rest := []) ⟨hx, hb, hml, hown, hts⟩ (c_X6_barrelAt l G A _ a (ad 5 1 0) _ _ _ _ _ _ (if L 1 = 0 then G.2 12 else ad 6 1 0) _ _ _ _ _ _ (L 1) (cp 1) (ldat ad L 1) hc_a (hR.lst (by omega)) b1 fba (fun h9 => hR.dat (by omega) h9) (fun j hj => by rw [hfba]; exact ldat_b ad L hj) (by have := hR.2.2 1 (by omega); omega) (hR.2.2 1 (by omega)).1 (fun j hj => ⟨_, by rw [hfba]; exact hR.brl hj⟩)) (cwV 1 hts gX6_still_X6_barrelAt rfl rfl rfl (by decide +kernel) ⟨Nat.le_of_ble_eq_true rfl, Nat.le_of_ble_eq_true rfl⟩) (x_preV hK hH hTt (hc_a) rfl [.int b1]) rfl rfl hl.1 rfl (lv_room (Nat.le_of_ble_eq_true rfl)) dX6_still_2 ⟨Nat.le_of_ble_eq_true rfl, Nat.le_of_ble_eq_true rfl⟩) hH (fun r2 u H locs hp hH => ?_)
  obtain ⟨hat, hu9⟩ := hp
  rw [hu9] at hH
  rcases atR_or hat with ⟨b0, hb9, rfl, rfl⟩ | ⟨hno, rfl⟩
  · obtain ⟨br, hbr⟩ : ∃ z, z = fba b0 := ⟨_, rfl⟩
    rw [← hbr]
    obtain ⟨bgc, hbgc⟩ : ∃ z, z = ad 16 b0 0 := ⟨_, rfl⟩
    obtain ⟨btc, hbtc⟩ : ∃ z, z = ad 17 b0 0 := ⟨_, rfl⟩
    obtain ⟨wdc, hwdc⟩ : ∃ z, z = ad 4 (bw b0) 0 := ⟨_, rfl⟩
    obtain ⟨hb17, hb6, hbh0, hb20, hb21⟩ := hB1 b0 hb9
    have hc_br : w br = some (.inr (1, [.ref wdc, .int (hasS F b0), .ref bgc, .ref btc, .int (F 20 b0), .int (F 21 b0)])) := by rw [hbr, hfba, hbgc, hbtc, hwdc]; exact hR.brl hb9
    have hc_bgc : w bgc = some (.inl (G.2 0, 4, .inl (bg4 F b0))) := by rw [hbgc]; exact hR.bgr hb9
    have hc_btc : w btc = some (.inl (G.2 0, 60, .inl (bt60 F b0))) := by rw [hbtc]; exact hR.btr hb9
    have hc_wdc : w wdc = some (.inr (6, [.int (nI (bw b0)), .int (F 22 (bw b0)), .int (F 23 (bw b0)), .int (F 24 (bw b0)), .int (F 25 (bw b0)), va_rf ((lb (bw b0)).map (fun b => ad 15 b 0))])) := by rw [hwdc]; exact hR.wood hb6
    have hbh : hasS F b0 = nI (hs b0) := (hBV.2.2.1 b0 (by omega)).1
    have hbhl : hs b0 ≤ 1000 := (hBV.2.2.1 b0 (by omega)).2
    have ne_br_a : br ≠ a := fun e9 => by rw [e9, hc_a] at hc_br; cases hc_br
    have ne_a_br : a ≠ br := fun e9 => ne_br_a e9.symm
    have ne_bgc_a : bgc ≠ a := fun e9 => by rw [e9, hc_a] at hc_bgc; cases hc_bgc
    have ne_a_bgc : a ≠ bgc := fun e9 => ne_bgc_a e9.symm
    have ne_bgc_br : bgc ≠ br := fun e9 => by rw [e9, hc_br] at hc_bgc; cases hc_bgc
    have ne_br_bgc : br ≠ bgc := fun e9 => ne_bgc_br e9.symm
    have ne_btc_a : btc ≠ a := fun e9 => by rw [e9, hc_a] at hc_btc; cases hc_btc
    have ne_a_btc : a ≠ btc := fun e9 => ne_btc_a e9.symm
    have ne_btc_br : btc ≠ br := fun e9 => by rw [e9, hc_br] at hc_btc; cases hc_btc
    have ne_br_btc : br ≠ btc := fun e9 => ne_btc_br e9.symm
    have ne_btc_bgc : btc ≠ bgc := fun e9 => by rw [e9, hc_bgc] at hc_btc; simp at hc_btc
    have ne_bgc_btc : bgc ≠ btc := fun e9 => ne_btc_bgc e9.symm
    have ne_wdc_a : wdc ≠ a := fun e9 => by rw [e9, hc_a] at hc_wdc; cases hc_wdc
    have ne_a_wdc : a ≠ wdc := fun e9 => ne_wdc_a e9.symm
    have ne_wdc_br : wdc ≠ br := fun e9 => by rw [e9, hc_br] at hc_wdc; cases hc_wdc
    have ne_br_wdc : br ≠ wdc := fun e9 => ne_wdc_br e9.symm
    have ne_wdc_bgc : wdc ≠ bgc := fun e9 => by rw [e9, hc_bgc] at hc_wdc; cases hc_wdc
    have ne_bgc_wdc : bgc ≠ wdc := fun e9 => ne_wdc_bgc e9.symm
    have ne_wdc_btc : wdc ≠ btc := fun e9 => by rw [e9, hc_btc] at hc_wdc; cases hc_wdc
    have ne_btc_wdc : btc ≠ wdc := fun e9 => ne_wdc_btc e9.symm
    refine lv_astore_n (lv' := [(2, .ref br), (0, .ref a), (1, .int (nI b0))]) hx hb dX6_still_5 rfl hl (by decide) rfl (fun ls hl => ?_)
    refine lv_aload_n hx hb dX6_still_6 rfl (lv_at hl 0 rfl) ?_
    refine lv_ifnull hx hb dX6_still_7 ?_
    refine lv_aload_n hx hb dX6_still_10 rfl (lv_at hl 0 rfl) ?_
    refine x_calli (va_runV (As := []) (rest := []) ⟨hx, hb, hml, hown, hts⟩ (c_X0_isGone l G A _ br _ _ _ _ _ _ hc_br) (cwV 0 hts gX6_still_X0_isGone rfl rfl rfl (by decide +kernel) ⟨Nat.le_of_ble_eq_true rfl, Nat.le_of_ble_eq_true rfl⟩) (x_preV hK hH hTt (hc_br) rfl []) rfl rfl hl.1 rfl (lv_room (Nat.le_of_ble_eq_true rfl)) dX6_still_11 ⟨Nat.le_of_ble_eq_true rfl, Nat.le_of_ble_eq_true rfl⟩) hH (fun r11 u H locs hp hH => ?_)
    obtain ⟨rfl, hu9⟩ := hp
    rw [hu9] at hH
    refine lv_if_eq (tgt := 19) hx hb dX6_still_14 (by decide) (fun c14 => ?_) (fun c14 => ?_)
    · obtain ⟨h20, h21⟩ : F 20 b0 = 0 ∧ F 21 b0 = 0 := by unfold goneB at c14; by_cases z1 : F 20 b0 = 0 <;> by_cases z2 : F 21 b0 = 0 <;> simp_all
      obtain ⟨gk, hgk3, hgk⟩ := grad_le (by omega) hB2 hbh hbh0 hbhl
      rw [← gradB_eq hbh hbh0 hbhl] at hgk
      refine lv_aload_n hx hb dX6_still_19 rfl (lv_at hl 0 rfl) ?_
      refine lv_iconst (v := 1) hx hb dX6_still_20 (by decide) ?_
      refine x_put (C := RX0) (T := TX0) (N := 6) (ty := .boolean) hx hb hts hiX0 tyX0 tyX0_ok nmX0 hown hK hH hc_br rfl 4 (by decide) hf184 (fun _ h => h) rfl (by decide +kernel) rfl rfl (Nat.le_of_ble_eq_true rfl) dX6_still_21 (fun H locs hH => ?_)
      have hH : xH G A s.heap H locs (va_up w br (some (.inr (1, [.ref wdc, .int (hasS F b0), .ref bgc, .ref btc, .int 1, .int (F 21 b0)])))) := hH
      obtain ⟨w21, ew21⟩ : ∃ z, z = va_up w br (some (.inr (1, [.ref wdc, .int (hasS F b0), .ref bgc, .ref btc, .int 1, .int (F 21 b0)]))) := ⟨_, rfl⟩
      rw [← ew21] at hH
      have hc_a : w21 a = some (.inr (7, [.ref (ad 1 0 0), .ref (ad 2 0 0), .ref (ad 3 0 0), .ref (ad 5 0 0), .ref (ad 5 1 0), .ref (ad 7 0 0), .ref (ad 8 0 0), .int (I 0), .int (I 30), .int (I 29), .int (I 31), .int (I 32)])) := by rw [ew21, show va_up w br _ a = w a from if_neg ne_a_br]; exact hc_a
      have hc_br : w21 br = some (.inr (1, [.ref wdc, .int (hasS F b0), .ref bgc, .ref btc, .int 1, .int (F 21 b0)])) := by rw [ew21]; exact if_pos rfl
      have hc_bgc : w21 bgc = some (.inl (G.2 0, 4, .inl (bg4 F b0))) := by rw [ew21, show va_up w br _ bgc = w bgc from if_neg ne_bgc_br]; exact hc_bgc
      have hc_btc : w21 btc = some (.inl (G.2 0, 60, .inl (bt60 F b0))) := by rw [ew21, show va_up w br _ btc = w btc from if_neg ne_btc_br]; exact hc_btc
      have hc_wdc : w21 wdc = some (.inr (6, [.int (nI (bw b0)), .int (F 22 (bw b0)), .int (F 23 (bw b0)), .int (F 24 (bw b0)), .int (F 25 (bw b0)), va_rf ((lb (bw b0)).map (fun b => ad 15 b 0))])) := by rw [ew21, show va_up w br _ wdc = w wdc from if_neg ne_wdc_br]; exact hc_wdc
      have hfr : ∀ x, x ≠ a → x ≠ br → x ≠ bgc → x ≠ btc → x ≠ wdc → w21 x = w x := fun x z_a z_br z_bgc z_btc z_wdc => by rw [ew21]; exact if_neg z_br
      refine lv_aload_n hx hb dX6_still_24 rfl (lv_at hl 1 rfl) ?_
      refine lv_dup hx hb dX6_still_25 rfl ?_
      refine x_get (C := RX6) (T := TX6) (N := 12) hx hb hts hiX6 hown hK hH hc_a rfl 10 (by decide) hf56 (fun _ h => h) (v := .int (I 31)) rfl dX6_still_26 ?_
      refine lv_aload_n hx hb dX6_still_29 rfl (lv_at hl 0 rfl) ?_
      refine x_calli (va_runV (As := []) (rest := [.int (I 31), .ref a]) ⟨hx, hb, hml, hown, hts⟩ (c_X0_spiritOf l G A _ br _ _ _ _ _ _ hc_br) (cwV 0 hts gX6_still_X0_spiritOf rfl rfl rfl (by decide +kernel) ⟨Nat.le_of_ble_eq_true rfl, Nat.le_of_ble_eq_true rfl⟩) (x_preV hK hH hTt (hc_br) rfl []) rfl rfl hl.1 rfl (lv_room (Nat.le_of_ble_eq_true rfl)) dX6_still_30 ⟨Nat.le_of_ble_eq_true rfl, Nat.le_of_ble_eq_true rfl⟩) hH (fun r30 u H locs hp hH => ?_)
      obtain ⟨rfl, hu9⟩ := hp
      rw [hu9] at hH
      refine lv_iadd hx hb dX6_still_33 ?_
      refine x_put (C := RX6) (T := TX6) (N := 12) (ty := .int) hx hb hts hiX6 tyX6 tyX6_ok nmX6 hown hK hH hc_a rfl 10 (by decide) hf56 (fun _ h => h) rfl (by decide +kernel) rfl rfl (Nat.le_of_ble_eq_true rfl) dX6_still_34 (fun H locs hH => ?_)
      have hH : xH G A s.heap H locs (va_up w21 a (some (.inr (7, [.ref (ad 1 0 0), .ref (ad 2 0 0), .ref (ad 3 0 0), .ref (ad 5 0 0), .ref (ad 5 1 0), .ref (ad 7 0 0), .ref (ad 8 0 0), .int (I 0), .int (I 30), .int (I 29), .int ((I 31) + (hasS F b0 / 5)), .int (I 32)])))) := hH
      obtain ⟨w34, ew34⟩ : ∃ z, z = va_up w21 a (some (.inr (7, [.ref (ad 1 0 0), .ref (ad 2 0 0), .ref (ad 3 0 0), .ref (ad 5 0 0), .ref (ad 5 1 0), .ref (ad 7 0 0), .ref (ad 8 0 0), .int (I 0), .int (I 30), .int (I 29), .int ((I 31) + (hasS F b0 / 5)), .int (I 32)]))) := ⟨_, rfl⟩
      rw [← ew34] at hH
      have hc_a : w34 a = some (.inr (7, [.ref (ad 1 0 0), .ref (ad 2 0 0), .ref (ad 3 0 0), .ref (ad 5 0 0), .ref (ad 5 1 0), .ref (ad 7 0 0), .ref (ad 8 0 0), .int (I 0), .int (I 30), .int (I 29), .int ((I 31) + (hasS F b0 / 5)), .int (I 32)])) := by rw [ew34]; exact if_pos rfl
      have hc_br : w34 br = some (.inr (1, [.ref wdc, .int (hasS F b0), .ref bgc, .ref btc, .int 1, .int (F 21 b0)])) := by rw [ew34, show va_up w21 a _ br = w21 br from if_neg ne_br_a]; exact hc_br
      have hc_bgc : w34 bgc = some (.inl (G.2 0, 4, .inl (bg4 F b0))) := by rw [ew34, show va_up w21 a _ bgc = w21 bgc from if_neg ne_bgc_a]; exact hc_bgc
      have hc_btc : w34 btc = some (.inl (G.2 0, 60, .inl (bt60 F b0))) := by rw [ew34, show va_up w21 a _ btc = w21 btc from if_neg ne_btc_a]; exact hc_btc
      have hc_wdc : w34 wdc = some (.inr (6, [.int (nI (bw b0)), .int (F 22 (bw b0)), .int (F 23 (bw b0)), .int (F 24 (bw b0)), .int (F 25 (bw b0)), va_rf ((lb (bw b0)).map (fun b => ad 15 b 0))])) := by rw [ew34, show va_up w21 a _ wdc = w21 wdc from if_neg ne_wdc_a]; exact hc_wdc
      have hfr : ∀ x, x ≠ a → x ≠ br → x ≠ bgc → x ≠ btc → x ≠ wdc → w34 x = w x := fun x z_a z_br z_bgc z_btc z_wdc => by rw [ew34]; exact (if_neg z_a).trans (hfr x z_a z_br z_bgc z_btc z_wdc)
      refine lv_aload_n hx hb dX6_still_37 rfl (lv_at hl 1 rfl) ?_
      refine lv_dup hx hb dX6_still_38 rfl ?_
      refine x_get (C := RX6) (T := TX6) (N := 12) hx hb hts hiX6 hown hK hH hc_a rfl 11 (by decide) hf59 (fun _ h => h) (v := .int (I 32)) rfl dX6_still_39 ?_
      refine lv_aload_n hx hb dX6_still_42 rfl (lv_at hl 0 rfl) ?_
      refine x_calli (va_runV (As := []) (rest := [.int (I 32), .ref a]) ⟨hx, hb, hml, hown, hts⟩ (c_X0_rosinOf l G A _ br bgc _ _ _ _ _ _ hc_br hc_bgc gk hgk hgk3) (cwV 0 hts gX6_still_X0_rosinOf rfl rfl rfl (by decide +kernel) ⟨Nat.le_of_ble_eq_true rfl, Nat.le_of_ble_eq_true rfl⟩) (x_preV hK hH hTt (hc_br) rfl []) rfl rfl hl.1 rfl (lv_room (Nat.le_of_ble_eq_true rfl)) dX6_still_43 ⟨Nat.le_of_ble_eq_true rfl, Nat.le_of_ble_eq_true rfl⟩) hH (fun r43 u H locs hp hH => ?_)
      obtain ⟨rfl, hu9⟩ := hp
      rw [hu9] at hH
      refine lv_iadd hx hb dX6_still_46 ?_
      refine x_put (C := RX6) (T := TX6) (N := 12) (ty := .int) hx hb hts hiX6 tyX6 tyX6_ok nmX6 hown hK hH hc_a rfl 11 (by decide) hf59 (fun _ h => h) rfl (by decide +kernel) rfl rfl (Nat.le_of_ble_eq_true rfl) dX6_still_47 (fun H locs hH => ?_)
      have hH : xH G A s.heap H locs (va_up w34 a (some (.inr (7, [.ref (ad 1 0 0), .ref (ad 2 0 0), .ref (ad 3 0 0), .ref (ad 5 0 0), .ref (ad 5 1 0), .ref (ad 7 0 0), .ref (ad 8 0 0), .int (I 0), .int (I 30), .int (I 29), .int ((I 31) + (hasS F b0 / 5)), .int ((I 32) + (hasS F b0 * rosV gk / 100))])))) := hH
      obtain ⟨w47, ew47⟩ : ∃ z, z = va_up w34 a (some (.inr (7, [.ref (ad 1 0 0), .ref (ad 2 0 0), .ref (ad 3 0 0), .ref (ad 5 0 0), .ref (ad 5 1 0), .ref (ad 7 0 0), .ref (ad 8 0 0), .int (I 0), .int (I 30), .int (I 29), .int ((I 31) + (hasS F b0 / 5)), .int ((I 32) + (hasS F b0 * rosV gk / 100))]))) := ⟨_, rfl⟩
      rw [← ew47] at hH
      have hc_a : w47 a = some (.inr (7, [.ref (ad 1 0 0), .ref (ad 2 0 0), .ref (ad 3 0 0), .ref (ad 5 0 0), .ref (ad 5 1 0), .ref (ad 7 0 0), .ref (ad 8 0 0), .int (I 0), .int (I 30), .int (I 29), .int ((I 31) + (hasS F b0 / 5)), .int ((I 32) + (hasS F b0 * rosV gk / 100))])) := by rw [ew47]; exact if_pos rfl
      have hc_br : w47 br = some (.inr (1, [.ref wdc, .int (hasS F b0), .ref bgc, .ref btc, .int 1, .int (F 21 b0)])) := by rw [ew47, show va_up w34 a _ br = w34 br from if_neg ne_br_a]; exact hc_br
      have hc_bgc : w47 bgc = some (.inl (G.2 0, 4, .inl (bg4 F b0))) := by rw [ew47, show va_up w34 a _ bgc = w34 bgc from if_neg ne_bgc_a]; exact hc_bgc
      have hc_btc : w47 btc = some (.inl (G.2 0, 60, .inl (bt60 F b0))) := by rw [ew47, show va_up w34 a _ btc = w34 btc from if_neg ne_btc_a]; exact hc_btc
      have hc_wdc : w47 wdc = some (.inr (6, [.int (nI (bw b0)), .int (F 22 (bw b0)), .int (F 23 (bw b0)), .int (F 24 (bw b0)), .int (F 25 (bw b0)), va_rf ((lb (bw b0)).map (fun b => ad 15 b 0))])) := by rw [ew47, show va_up w34 a _ wdc = w34 wdc from if_neg ne_wdc_a]; exact hc_wdc
      have hfr : ∀ x, x ≠ a → x ≠ br → x ≠ bgc → x ≠ btc → x ≠ wdc → w47 x = w x := fun x z_a z_br z_bgc z_btc z_wdc => by rw [ew47]; exact (if_neg z_a).trans (hfr x z_a z_br z_bgc z_btc z_wdc)
      refine lv_aload_n hx hb dX6_still_50 rfl (lv_at hl 0 rfl) ?_
      refine x_calli (va_runV (As := []) (rest := []) ⟨hx, hb, hml, hown, hts⟩ (c_X0_spiritOf l G A _ br _ _ _ _ _ _ hc_br) (cwV 0 hts gX6_still_X0_spiritOf rfl rfl rfl (by decide +kernel) ⟨Nat.le_of_ble_eq_true rfl, Nat.le_of_ble_eq_true rfl⟩) (x_preV hK hH hTt (hc_br) rfl []) rfl rfl hl.1 rfl (lv_room (Nat.le_of_ble_eq_true rfl)) dX6_still_51 ⟨Nat.le_of_ble_eq_true rfl, Nat.le_of_ble_eq_true rfl⟩) hH (fun r51 u H locs hp hH => ?_)
      obtain ⟨rfl, hu9⟩ := hp
      rw [hu9] at hH
      refine lv_sipush (v := 10000) hx hb dX6_still_54 (by decide) ?_
      refine lv_imul hx hb dX6_still_57 ?_
      refine lv_aload_n hx hb dX6_still_58 rfl (lv_at hl 0 rfl) ?_
      refine x_calli (va_runV (As := []) (rest := [.int ((hasS F b0 / 5) * 10000)]) ⟨hx, hb, hml, hown, hts⟩ (c_X0_rosinOf l G A _ br bgc _ _ _ _ _ _ hc_br hc_bgc gk hgk hgk3) (cwV 0 hts gX6_still_X0_rosinOf rfl rfl rfl (by decide +kernel) ⟨Nat.le_of_ble_eq_true rfl, Nat.le_of_ble_eq_true rfl⟩) (x_preV hK hH hTt (hc_br) rfl []) rfl rfl hl.1 rfl (lv_room (Nat.le_of_ble_eq_true rfl)) dX6_still_59 ⟨Nat.le_of_ble_eq_true rfl, Nat.le_of_ble_eq_true rfl⟩) hH (fun r59 u H locs hp hH => ?_)
      obtain ⟨rfl, hu9⟩ := hp
      rw [hu9] at hH
      refine lv_iadd hx hb dX6_still_62 ?_
      exact x_iret (v := ((hasS F b0 / 5) * 10000) + (hasS F b0 * rosV gk / 100)) w47 hx hb hr hlocks hK hH (by have hgq : gradB F b0 = nI gk := (gradB_eq hbh hbh0 hbhl).symm.trans hgk; have hsp : sStill I F (nI b0) = (hasS F b0 / 5 * 10000 + hasS F b0 * rosV gk / 100, va_up (va_up I 31 (I 31 + hasS F b0 / 5)) 32 (I 32 + hasS F b0 * rosV gk / 100), setA F 20 b0 1) := by { unfold sStill; rw [if_neg (binP hI16 hb9 (by omega)), ix_n (by omega), if_pos h20, if_pos h21, hgq, ros_eq hgk3, Int32.mul_comm 10000] }; rw [hsp]; exact ⟨rfl, rep_still hR hb9 (by have := hc_br; rw [hbr, hfba, hbgc, hbtc, hwdc] at this; exact this) (by have := hc_a; rw [ha] at this; exact this) (fun z z1 z2 => if z3 : z = bgc then by rw [z3, hc_bgc, hbgc]; exact (hR.bgr hb9).symm else if z4 : z = btc then by rw [z4, hc_btc, hbtc]; exact (hR.btr hb9).symm else if z5 : z = wdc then by rw [z5, hc_wdc, hwdc]; exact (hR.wood hb6).symm else hfr z (by rw [ha]; exact z1) (by rw [hbr, hfba]; exact z2) z3 z4 z5), fun z hz => hfr z (by rw [ha]; exact hz 0 0 0 ⟨rfl, rfl⟩) (by rw [hbr, hfba]; exact hz 15 b0 0 ⟨hb9, rfl⟩) (by rw [hbgc]; exact hz 16 b0 0 ⟨hb9, rfl⟩) (by rw [hbtc]; exact hz 17 b0 0 ⟨hb9, rfl⟩) (by rw [hwdc]; exact hz 4 _ 0 ⟨hb6, rfl⟩)⟩) dX6_still_63
    · refine lv_iconst (v := (-1)) hx hb dX6_still_17 (by decide) ?_
      exact x_iret (v := (-1)) w hx hb hr hlocks hK hH (by have hsp : sStill I F (nI b0) = (-1, I, F) := by { unfold sStill; rw [if_neg (binP hI16 hb9 (by omega)), ix_n (by omega)]; unfold goneB at c14; by_cases z1 : F 20 b0 = 0 <;> by_cases z2 : F 21 b0 = 0 <;> simp_all }; rw [hsp]; exact ⟨rfl, hR, fun _ _ => rfl⟩) dX6_still_18
  · have hnb := hno
    refine lv_astore_nN (lv' := [(2, .null), (0, .ref a), (1, .int b1)]) hx hb dX6_still_5 rfl hl (by decide) rfl (fun ls hl => ?_)
    refine lv_aload_nN hx hb dX6_still_6 rfl (lv_at hl 0 rfl) ?_
    refine lv_ifnullN (tgt := 17) hx hb dX6_still_7 (by decide) ?_
    refine lv_iconst (v := (-1)) hx hb dX6_still_17 (by decide) ?_
    exact x_iret (v := (-1)) w hx hb hr hlocks hK hH (by have hsp : sStill I F b1 = (-1, I, F) := if_pos (binN hI16 hnb (by omega)); rw [hsp]; exact ⟨rfl, hR, fun _ _ => rfl⟩) dX6_still_18

set_option maxHeartbeats 4000000 in
set_option maxRecDepth 100000 in
theorem c_X6_pay (l : Launch) (G : XG) (A : Nat → Prop) (w : XW) (a : Nat) (ad : YA) (E : YE) (cp L wd bw : Nat → Nat) (lb : Nat → Option Nat) (I : Nat → Int32) (F : Nat → Nat → Int32) (hc_a : w a = some (.inr (7, [.ref (ad 1 0 0), .ref (ad 2 0 0), .ref (ad 3 0 0), .ref (ad 5 0 0), .ref (ad 5 1 0), .ref (ad 7 0 0), .ref (ad 8 0 0), .int (I 0), .int (I 30), .int (I 29), .int (I 31), .int (I 32)]))) (now : Nat) (hR : Rep G w ad E cp L wd bw lb I F) (hV : Inv now L wd bw lb I F) (ha : a = ad 0 0 0) (b1 : Int32) : Met l yX6_pay wsX6_pay ({ frames := 4, cells := 0, slots := 0, locals := 85 }) (va_Pc [.ref a, .int b1] (xP G A (w))) (va_Qi (fun (r : Int32) (u : XW) => r = (sPay I F b1).1 ∧ Rep G u ad E cp L wd bw lb (sPay I F b1).2.1 (sPay I F b1).2.2 ∧ Kp w u ad L) (fun u t => xB G A (u) t) A) 0 0 A := by
  refine Met.ofW (cc := cX6_pay) (maxL := 3) (ret := (some .int)) (by decide) rfl ?_
  intro p e s m args below meth c s₁ B hml hv
  obtain ⟨rfl, hK, hH, hTt⟩ := hv
  have hx := B.exec
  have hb := B.bytes
  have hr := B.returns
  have hts := atoms_spec (ws := wsX6_pay) B.pre
  have hown : s.vm.findClass RX6 = some m.cls := findClass_of_methodNamed B.named
  have hlocks := B.notSynchronized
  have hiX0 : ∀ w ∈ wsX00, w ∈ wsX6_pay := by decide +kernel
  have hiX5 : ∀ w ∈ wsX50, w ∈ wsX6_pay := by decide +kernel
  have hf199 := hts (.fieldLink RX6 199 "ResinWoods$Barrel" "wood" "LResinWoods$Wood;") (by decide +kernel)
  have hf200 := hts (.fieldLink RX6 200 "ResinWoods$Wood" "isLet" "Z") (by decide +kernel)
  have hf204 := hts (.fieldLink RX6 204 "ResinWoods$Barrel" "isPaid" "Z") (by decide +kernel)
  have hf207 := hts (.fieldLink RX6 207 "ResinWoods$Wood" "paid" "I") (by decide +kernel)
  have hf210 := hts (.fieldLink RX6 210 "ResinWoods$Barrel" "has" "I") (by decide +kernel)
  have hl := lv_entry ([.ref a, .int b1]) (n := 3) (Nat.le_of_ble_eq_true rfl)
  rw [lg_entry_eq]
  generalize (lg_sl ([.ref a, .int b1]) ++ List.replicate (3 - (lg_sl ([.ref a, .int b1])).length) Slot.unset).toArray = ls at hl ⊢
  have hl : lv_has ls 3 [(0, .ref a), (1, .int b1)] := hl
  have h60 : L 0 ≤ 60 := hV.1.2.2.2.1
  have hI3 : I 3 = nI (L 0) := hV.1.2.2.1
  have hI0 : I 0 = nI now := hV.1.1
  have hnow : now ≤ 3650 := hV.1.2.1
  obtain ⟨fa, hfa⟩ : ∃ z : Nat → Nat, z = fun j => ad 12 j 0 := ⟨_, rfl⟩
  obtain ⟨fba, hfba⟩ : ∃ z : Nat → Nat, z = fun j => ad 15 j 0 := ⟨_, rfl⟩
  obtain ⟨hs, hBV, hB1, hB2, hB3, hB4, hB5⟩ := hV.2.2.2.2
  have hI16 : I 16 = nI (L 1) := hBV.1
  have h200 : L 1 ≤ 200 := hBV.2.1
  obtain ⟨fwa, hfwa⟩ : ∃ z : Nat → Nat, z = fun j => ad 4 j 0 := ⟨_, rfl⟩
  have hd0_a := hc_a
  refine lv_aload_n hx hb dX6_pay_0 rfl (lv_at hl 0 rfl) ?_
  refine lv_iload_n hx hb dX6_pay_1 rfl (lv_at hl 1 rfl) ?_
  refine x_callq (va_runV (As := [.int b1]) (rest := []) ⟨hx, hb, hml, hown, hts⟩ (c_X6_barrelAt l G A _ a (ad 5 1 0) _ _ _ _ _ _ (if L 1 = 0 then G.2 12 else ad 6 1 0) _ _ _ _ _ _ (L 1) (cp 1) (ldat ad L 1) hc_a (hR.lst (by omega)) b1 fba (fun h9 => hR.dat (by omega) h9) (fun j hj => by rw [hfba]; exact ldat_b ad L hj) (by have := hR.2.2 1 (by omega); omega) (hR.2.2 1 (by omega)).1 (fun j hj => ⟨_, by rw [hfba]; exact hR.brl hj⟩)) (cwV 1 hts gX6_pay_X6_barrelAt rfl rfl rfl (by decide +kernel) ⟨Nat.le_of_ble_eq_true rfl, Nat.le_of_ble_eq_true rfl⟩) (x_preV hK hH hTt (hc_a) rfl [.int b1]) rfl rfl hl.1 rfl (lv_room (Nat.le_of_ble_eq_true rfl)) dX6_pay_2 ⟨Nat.le_of_ble_eq_true rfl, Nat.le_of_ble_eq_true rfl⟩) hH (fun r2 u H locs hp hH => ?_)
  obtain ⟨hat, hu9⟩ := hp
  rw [hu9] at hH
  rcases atR_or hat with ⟨b0, hb9, rfl, rfl⟩ | ⟨hno, rfl⟩
  · obtain ⟨br, hbr⟩ : ∃ z, z = fba b0 := ⟨_, rfl⟩
    rw [← hbr]
    obtain ⟨bgc, hbgc⟩ : ∃ z, z = ad 16 b0 0 := ⟨_, rfl⟩
    obtain ⟨btc, hbtc⟩ : ∃ z, z = ad 17 b0 0 := ⟨_, rfl⟩
    obtain ⟨wdc, hwdc⟩ : ∃ z, z = ad 4 (bw b0) 0 := ⟨_, rfl⟩
    obtain ⟨hb17, hb6, hbh0, hb20, hb21⟩ := hB1 b0 hb9
    have hc_br : w br = some (.inr (1, [.ref wdc, .int (hasS F b0), .ref bgc, .ref btc, .int (F 20 b0), .int (F 21 b0)])) := by rw [hbr, hfba, hbgc, hbtc, hwdc]; exact hR.brl hb9
    have hc_bgc : w bgc = some (.inl (G.2 0, 4, .inl (bg4 F b0))) := by rw [hbgc]; exact hR.bgr hb9
    have hc_btc : w btc = some (.inl (G.2 0, 60, .inl (bt60 F b0))) := by rw [hbtc]; exact hR.btr hb9
    have hc_wdc : w wdc = some (.inr (6, [.int (nI (bw b0)), .int (F 22 (bw b0)), .int (F 23 (bw b0)), .int (F 24 (bw b0)), .int (F 25 (bw b0)), va_rf ((lb (bw b0)).map (fun b => ad 15 b 0))])) := by rw [hwdc]; exact hR.wood hb6
    have hbh : hasS F b0 = nI (hs b0) := (hBV.2.2.1 b0 (by omega)).1
    have hbhl : hs b0 ≤ 1000 := (hBV.2.2.1 b0 (by omega)).2
    have ne_br_a : br ≠ a := fun e9 => by rw [e9, hc_a] at hc_br; cases hc_br
    have ne_a_br : a ≠ br := fun e9 => ne_br_a e9.symm
    have ne_bgc_a : bgc ≠ a := fun e9 => by rw [e9, hc_a] at hc_bgc; cases hc_bgc
    have ne_a_bgc : a ≠ bgc := fun e9 => ne_bgc_a e9.symm
    have ne_bgc_br : bgc ≠ br := fun e9 => by rw [e9, hc_br] at hc_bgc; cases hc_bgc
    have ne_br_bgc : br ≠ bgc := fun e9 => ne_bgc_br e9.symm
    have ne_btc_a : btc ≠ a := fun e9 => by rw [e9, hc_a] at hc_btc; cases hc_btc
    have ne_a_btc : a ≠ btc := fun e9 => ne_btc_a e9.symm
    have ne_btc_br : btc ≠ br := fun e9 => by rw [e9, hc_br] at hc_btc; cases hc_btc
    have ne_br_btc : br ≠ btc := fun e9 => ne_btc_br e9.symm
    have ne_btc_bgc : btc ≠ bgc := fun e9 => by rw [e9, hc_bgc] at hc_btc; simp at hc_btc
    have ne_bgc_btc : bgc ≠ btc := fun e9 => ne_btc_bgc e9.symm
    have ne_wdc_a : wdc ≠ a := fun e9 => by rw [e9, hc_a] at hc_wdc; cases hc_wdc
    have ne_a_wdc : a ≠ wdc := fun e9 => ne_wdc_a e9.symm
    have ne_wdc_br : wdc ≠ br := fun e9 => by rw [e9, hc_br] at hc_wdc; cases hc_wdc
    have ne_br_wdc : br ≠ wdc := fun e9 => ne_wdc_br e9.symm
    have ne_wdc_bgc : wdc ≠ bgc := fun e9 => by rw [e9, hc_bgc] at hc_wdc; cases hc_wdc
    have ne_bgc_wdc : bgc ≠ wdc := fun e9 => ne_wdc_bgc e9.symm
    have ne_wdc_btc : wdc ≠ btc := fun e9 => by rw [e9, hc_btc] at hc_wdc; cases hc_wdc
    have ne_btc_wdc : btc ≠ wdc := fun e9 => ne_wdc_btc e9.symm
    refine lv_astore_n (lv' := [(2, .ref br), (0, .ref a), (1, .int (nI b0))]) hx hb dX6_pay_5 rfl hl (by decide) rfl (fun ls hl => ?_)
    refine lv_aload_n hx hb dX6_pay_6 rfl (lv_at hl 0 rfl) ?_
    refine lv_ifnull hx hb dX6_pay_7 ?_
    refine lv_aload_n hx hb dX6_pay_10 rfl (lv_at hl 0 rfl) ?_
    refine x_calli (va_runV (As := []) (rest := []) ⟨hx, hb, hml, hown, hts⟩ (c_X0_isGone l G A _ br _ _ _ _ _ _ hc_br) (cwV 0 hts gX6_pay_X0_isGone rfl rfl rfl (by decide +kernel) ⟨Nat.le_of_ble_eq_true rfl, Nat.le_of_ble_eq_true rfl⟩) (x_preV hK hH hTt (hc_br) rfl []) rfl rfl hl.1 rfl (lv_room (Nat.le_of_ble_eq_true rfl)) dX6_pay_11 ⟨Nat.le_of_ble_eq_true rfl, Nat.le_of_ble_eq_true rfl⟩) hH (fun r11 u H locs hp hH => ?_)
    obtain ⟨rfl, hu9⟩ := hp
    rw [hu9] at hH
    refine lv_if_ne (tgt := 27) hx hb dX6_pay_14 (by decide) (fun c14 => ?_) (fun c14 => ?_)
    · refine lv_ldc (v := (-2147483648)) hx hb hown (hts (.constant RX6 203 (-2147483648)) (by decide +kernel)) dX6_pay_27 ?_
      exact x_iret (v := (-2147483648)) w hx hb hr hlocks hK hH (by have hsp : sPay I F (nI b0) = (-2147483648, I, F) := by { unfold sPay; rw [if_neg (binP hI16 hb9 (by omega)), ix_n (by omega)]; unfold goneB at c14; by_cases z1 : F 20 b0 = 0 <;> by_cases z2 : F 21 b0 = 0 <;> simp_all }; rw [hsp]; exact ⟨rfl, hR, fun _ _ => rfl⟩) dX6_pay_29
    · obtain ⟨h20, h21⟩ : F 20 b0 = 0 ∧ F 21 b0 = 0 := by unfold goneB at c14; by_cases z1 : F 20 b0 = 0 <;> by_cases z2 : F 21 b0 = 0 <;> simp_all
      refine lv_aload_n hx hb dX6_pay_17 rfl (lv_at hl 0 rfl) ?_
      refine x_get (C := RX0) (T := TX0) (N := 6) hx hb hts hiX0 hown hK hH hc_br rfl 0 (by decide) hf199 (fun _ h => h) (v := .ref wdc) rfl dX6_pay_18 ?_
      refine x_get (C := RX5) (T := TX5) (N := 6) hx hb hts hiX5 hown hK hH hc_wdc rfl 1 (by decide) hf200 (fun _ h => h) (v := .int (F 22 (bw b0))) rfl dX6_pay_21 ?_
      refine lv_if_ne (tgt := 30) hx hb dX6_pay_24 (by decide) (fun c24 => ?_) (fun c24 => ?_)
      · refine lv_aload_n hx hb dX6_pay_30 rfl (lv_at hl 0 rfl) ?_
        refine lv_iconst (v := 1) hx hb dX6_pay_31 (by decide) ?_
        refine x_put (C := RX0) (T := TX0) (N := 6) (ty := .boolean) hx hb hts hiX0 tyX0 tyX0_ok nmX0 hown hK hH hc_br rfl 5 (by decide) hf204 (fun _ h => h) rfl (by decide +kernel) rfl rfl (Nat.le_of_ble_eq_true rfl) dX6_pay_32 (fun H locs hH => ?_)
        have hH : xH G A s.heap H locs (va_up w br (some (.inr (1, [.ref wdc, .int (hasS F b0), .ref bgc, .ref btc, .int (F 20 b0), .int 1])))) := hH
        obtain ⟨w32, ew32⟩ : ∃ z, z = va_up w br (some (.inr (1, [.ref wdc, .int (hasS F b0), .ref bgc, .ref btc, .int (F 20 b0), .int 1]))) := ⟨_, rfl⟩
        rw [← ew32] at hH
        have hc_a : w32 a = some (.inr (7, [.ref (ad 1 0 0), .ref (ad 2 0 0), .ref (ad 3 0 0), .ref (ad 5 0 0), .ref (ad 5 1 0), .ref (ad 7 0 0), .ref (ad 8 0 0), .int (I 0), .int (I 30), .int (I 29), .int (I 31), .int (I 32)])) := by rw [ew32, show va_up w br _ a = w a from if_neg ne_a_br]; exact hc_a
        have hc_br : w32 br = some (.inr (1, [.ref wdc, .int (hasS F b0), .ref bgc, .ref btc, .int (F 20 b0), .int 1])) := by rw [ew32]; exact if_pos rfl
        have hc_bgc : w32 bgc = some (.inl (G.2 0, 4, .inl (bg4 F b0))) := by rw [ew32, show va_up w br _ bgc = w bgc from if_neg ne_bgc_br]; exact hc_bgc
        have hc_btc : w32 btc = some (.inl (G.2 0, 60, .inl (bt60 F b0))) := by rw [ew32, show va_up w br _ btc = w btc from if_neg ne_btc_br]; exact hc_btc
        have hc_wdc : w32 wdc = some (.inr (6, [.int (nI (bw b0)), .int (F 22 (bw b0)), .int (F 23 (bw b0)), .int (F 24 (bw b0)), .int (F 25 (bw b0)), va_rf ((lb (bw b0)).map (fun b => ad 15 b 0))])) := by rw [ew32, show va_up w br _ wdc = w wdc from if_neg ne_wdc_br]; exact hc_wdc
        have hfr : ∀ x, x ≠ a → x ≠ br → x ≠ bgc → x ≠ btc → x ≠ wdc → w32 x = w x := fun x z_a z_br z_bgc z_btc z_wdc => by rw [ew32]; exact if_neg z_br
        refine lv_aload_n hx hb dX6_pay_35 rfl (lv_at hl 0 rfl) ?_
        refine x_get (C := RX0) (T := TX0) (N := 6) hx hb hts hiX0 hown hK hH hc_br rfl 0 (by decide) hf199 (fun _ h => h) (v := .ref wdc) rfl dX6_pay_36 ?_
        refine lv_dup hx hb dX6_pay_39 rfl ?_
        refine x_get (C := RX5) (T := TX5) (N := 6) hx hb hts hiX5 hown hK hH hc_wdc rfl 4 (by decide) hf207 (fun _ h => h) (v := .int (F 25 (bw b0))) rfl dX6_pay_40 ?_
        refine lv_aload_n hx hb dX6_pay_43 rfl (lv_at hl 0 rfl) ?_
        refine x_get (C := RX0) (T := TX0) (N := 6) hx hb hts hiX0 hown hK hH hc_br rfl 1 (by decide) hf210 (fun _ h => h) (v := .int (hasS F b0)) rfl dX6_pay_44 ?_
        refine lv_iadd hx hb dX6_pay_47 ?_
        refine x_put (C := RX5) (T := TX5) (N := 6) (ty := .int) hx hb hts hiX5 tyX5 tyX5_ok nmX5 hown hK hH hc_wdc rfl 4 (by decide) hf207 (fun _ h => h) rfl (by decide +kernel) rfl rfl (Nat.le_of_ble_eq_true rfl) dX6_pay_48 (fun H locs hH => ?_)
        have hH : xH G A s.heap H locs (va_up w32 wdc (some (.inr (6, [.int (nI (bw b0)), .int (F 22 (bw b0)), .int (F 23 (bw b0)), .int (F 24 (bw b0)), .int ((F 25 (bw b0)) + (hasS F b0)), va_rf ((lb (bw b0)).map (fun b => ad 15 b 0))])))) := hH
        obtain ⟨w48, ew48⟩ : ∃ z, z = va_up w32 wdc (some (.inr (6, [.int (nI (bw b0)), .int (F 22 (bw b0)), .int (F 23 (bw b0)), .int (F 24 (bw b0)), .int ((F 25 (bw b0)) + (hasS F b0)), va_rf ((lb (bw b0)).map (fun b => ad 15 b 0))]))) := ⟨_, rfl⟩
        rw [← ew48] at hH
        have hc_a : w48 a = some (.inr (7, [.ref (ad 1 0 0), .ref (ad 2 0 0), .ref (ad 3 0 0), .ref (ad 5 0 0), .ref (ad 5 1 0), .ref (ad 7 0 0), .ref (ad 8 0 0), .int (I 0), .int (I 30), .int (I 29), .int (I 31), .int (I 32)])) := by rw [ew48, show va_up w32 wdc _ a = w32 a from if_neg ne_a_wdc]; exact hc_a
        have hc_br : w48 br = some (.inr (1, [.ref wdc, .int (hasS F b0), .ref bgc, .ref btc, .int (F 20 b0), .int 1])) := by rw [ew48, show va_up w32 wdc _ br = w32 br from if_neg ne_br_wdc]; exact hc_br
        have hc_bgc : w48 bgc = some (.inl (G.2 0, 4, .inl (bg4 F b0))) := by rw [ew48, show va_up w32 wdc _ bgc = w32 bgc from if_neg ne_bgc_wdc]; exact hc_bgc
        have hc_btc : w48 btc = some (.inl (G.2 0, 60, .inl (bt60 F b0))) := by rw [ew48, show va_up w32 wdc _ btc = w32 btc from if_neg ne_btc_wdc]; exact hc_btc
        have hc_wdc : w48 wdc = some (.inr (6, [.int (nI (bw b0)), .int (F 22 (bw b0)), .int (F 23 (bw b0)), .int (F 24 (bw b0)), .int ((F 25 (bw b0)) + (hasS F b0)), va_rf ((lb (bw b0)).map (fun b => ad 15 b 0))])) := by rw [ew48]; exact if_pos rfl
        have hfr : ∀ x, x ≠ a → x ≠ br → x ≠ bgc → x ≠ btc → x ≠ wdc → w48 x = w x := fun x z_a z_br z_bgc z_btc z_wdc => by rw [ew48]; exact (if_neg z_wdc).trans (hfr x z_a z_br z_bgc z_btc z_wdc)
        refine lv_aload_n hx hb dX6_pay_51 rfl (lv_at hl 0 rfl) ?_
        refine x_get (C := RX0) (T := TX0) (N := 6) hx hb hts hiX0 hown hK hH hc_br rfl 0 (by decide) hf199 (fun _ h => h) (v := .ref wdc) rfl dX6_pay_52 ?_
        refine x_calli (va_runV (As := []) (rest := []) ⟨hx, hb, hml, hown, hts⟩ (c_X5_stillDue l G A _ wdc _ _ _ _ _ _ hc_wdc) (cwV 0 hts gX6_pay_X5_stillDue rfl rfl rfl (by decide +kernel) ⟨Nat.le_of_ble_eq_true rfl, Nat.le_of_ble_eq_true rfl⟩) (x_preV hK hH hTt (hc_wdc) rfl []) rfl rfl hl.1 rfl (lv_room (Nat.le_of_ble_eq_true rfl)) dX6_pay_55 ⟨Nat.le_of_ble_eq_true rfl, Nat.le_of_ble_eq_true rfl⟩) hH (fun r55 u H locs hp hH => ?_)
        obtain ⟨rfl, hu9⟩ := hp
        rw [hu9] at hH
        exact x_iret (v := if F 22 (bw b0) = 0 then 0 else F 24 (bw b0) * F 23 (bw b0) / 100 - (F 25 (bw b0) + hasS F b0)) w48 hx hb hr hlocks hK hH (by obtain ⟨⟨tk, htk, htk2⟩, hw22, rn, hrn, hrn2⟩ := hB5 _ hb6; have hsp : sPay I F (nI b0) = ((if F 22 (bw b0) = 0 then 0 else F 24 (bw b0) * F 23 (bw b0) / 100 - (F 25 (bw b0) + hasS F b0)), I, setA (setA F 21 b0 1) 25 (bw b0) (F 25 (bw b0) + hasS F b0)) := by { unfold sPay; rw [if_neg (binP hI16 hb9 (by omega)), ix_n (by omega), if_pos h20, if_pos h21, hb17, ix_n (by omega), if_neg c24, ← due_ok (tk := tk) (rn := rn) hb6 (by simp [setA_e, htk]) (by omega) (by simp [setA_e, hrn]) hrn2]; simp [setA_e] }; rw [hsp]; exact ⟨rfl, rep_pay hR hb9 hb6 (by have := hc_br; rw [hbr, hfba, hbgc, hbtc, hwdc] at this; exact this) (by have := hc_wdc; rw [hwdc] at this; exact this) (fun z z1 z2 => if z3 : z = bgc then by rw [z3, hc_bgc, hbgc]; exact (hR.bgr hb9).symm else if z4 : z = btc then by rw [z4, hc_btc, hbtc]; exact (hR.btr hb9).symm else if z5 : z = a then by rw [z5, hc_a]; exact hd0_a.symm else hfr z z5 (by rw [hbr, hfba]; exact z1) z3 z4 (by rw [hwdc]; exact z2)), fun z hz => hfr z (by rw [ha]; exact hz 0 0 0 ⟨rfl, rfl⟩) (by rw [hbr, hfba]; exact hz 15 b0 0 ⟨hb9, rfl⟩) (by rw [hbgc]; exact hz 16 b0 0 ⟨hb9, rfl⟩) (by rw [hbtc]; exact hz 17 b0 0 ⟨hb9, rfl⟩) (by rw [hwdc]; exact hz 4 _ 0 ⟨hb6, rfl⟩)⟩) dX6_pay_58
      · refine lv_ldc (v := (-2147483648)) hx hb hown (hts (.constant RX6 203 (-2147483648)) (by decide +kernel)) dX6_pay_27 ?_
        exact x_iret (v := (-2147483648)) w hx hb hr hlocks hK hH (by have hsp : sPay I F (nI b0) = (-2147483648, I, F) := by { unfold sPay; rw [if_neg (binP hI16 hb9 (by omega)), ix_n (by omega), if_pos h20, if_pos h21, hb17, ix_n (by omega), if_pos c24] }; rw [hsp]; exact ⟨rfl, hR, fun _ _ => rfl⟩) dX6_pay_29
  · have hnb := hno
    refine lv_astore_nN (lv' := [(2, .null), (0, .ref a), (1, .int b1)]) hx hb dX6_pay_5 rfl hl (by decide) rfl (fun ls hl => ?_)
    refine lv_aload_nN hx hb dX6_pay_6 rfl (lv_at hl 0 rfl) ?_
    refine lv_ifnullN (tgt := 27) hx hb dX6_pay_7 (by decide) ?_
    refine lv_ldc (v := (-2147483648)) hx hb hown (hts (.constant RX6 203 (-2147483648)) (by decide +kernel)) dX6_pay_27 ?_
    exact x_iret (v := (-2147483648)) w hx hb hr hlocks hK hH (by have hsp : sPay I F b1 = (-2147483648, I, F) := if_pos (binN hI16 hnb (by omega)); rw [hsp]; exact ⟨rfl, hR, fun _ _ => rfl⟩) dX6_pay_29
