
theorem dT_F (now : Nat) (u : MS) (t : Nat) {k : Nat} (h : k ≠ 14) (h2 : k ≠ 15) : ∀ i, (dT now u t i).2 k = u.2 k
  | 0 => rfl
  | i + 1 => (fdyF now (dT now u t i).1 (dT now u t i).2 (3 * t + i) h h2).trans (dT_F now u t h h2 i)
theorem dA_F (now : Nat) (L : Nat → Nat) (F0 : Nat → Nat → Int32) (u : MS) {k : Nat} (h : k ≠ 14) (h2 : k ≠ 15) : ∀ t, (dA now L F0 u t).2 k = u.2 k
  | 0 => rfl
  | t + 1 => by
    show (if _ then _ else _ : MS).2 k = _
    split
    · exact (dT_F now _ t h h2 _).trans (dA_F now L F0 u h h2 t)
    · exact dA_F now L F0 u h h2 t
theorem dA_y {now : Nat} {L : Nat → Nat} {F0 : Nat → Nat → Int32} {u : MS} {t : Nat} (h : F0 8 t = 0) : dA now L F0 u (t + 1) = dT now (dA now L F0 u t) t (L (2 + t)) := if_pos h
theorem dA_n {now : Nat} {L : Nat → Nat} {F0 : Nat → Nat → Int32} {u : MS} {t : Nat} (h : ¬ F0 8 t = 0) : dA now L F0 u (t + 1) = dA now L F0 u t := if_neg h

set_option maxHeartbeats 4000000 in
set_option maxRecDepth 100000 in
theorem c_X6_endDay (l : Launch) (G : XG) (A : Nat → Prop) (w : XW) (a : Nat) (ad : YA) (E : YE) (cp L wd bw : Nat → Nat) (lb : Nat → Option Nat) (I : Nat → Int32) (F : Nat → Nat → Int32) (hc_a : w a = some (.inr (7, [.ref (ad 1 0 0), .ref (ad 2 0 0), .ref (ad 3 0 0), .ref (ad 5 0 0), .ref (ad 5 1 0), .ref (ad 7 0 0), .ref (ad 8 0 0), .int (I 0), .int (I 30), .int (I 29), .int (I 31), .int (I 32)]))) (now : Nat) (hR : Rep G w ad E cp L wd bw lb I F) (hV : Inv now L wd bw lb I F) (ha : a = ad 0 0 0) (hnlt : now < 3650) : Met l yX6_endDay wsX6_endDay ({ frames := 3, cells := 0, slots := 0, locals := 69 }) (va_Pc [.ref a] (xP G A (w))) (va_Qv (fun (u : XW) => Rep G u ad E cp L wd bw lb (dA now L F (I, F) (L 0)).1 (dA now L F (I, F) (L 0)).2 ∧ Inv now L wd bw lb (dA now L F (I, F) (L 0)).1 (dA now L F (I, F) (L 0)).2 ∧ Kp w u ad L) (fun u t => xB G A (u) t) A) 0 0 A := by
  refine Met.ofW (cc := cX6_endDay) (maxL := 4) (ret := none) (by decide) rfl ?_
  intro p e s m args below meth c s₁ B hml hv
  obtain ⟨rfl, hK, hH, hTt⟩ := hv
  have hx := B.exec
  have hb := B.bytes
  have hr := B.returns
  have hts := atoms_spec (ws := wsX6_endDay) B.pre
  have hown : s.vm.findClass RX6 = some m.cls := findClass_of_methodNamed B.named
  have hlocks := B.notSynchronized
  have hiX4 : ∀ w ∈ wsX40, w ∈ wsX6_endDay := by decide +kernel
  have hiX6 : ∀ w ∈ wsX60, w ∈ wsX6_endDay := by decide +kernel
  have hf9 := hts (.fieldLink RX6 9 "ResinWoods" "warmths" "[B") (by decide +kernel)
  have hf13 := hts (.fieldLink RX6 13 "ResinWoods" "rains" "[B") (by decide +kernel)
  have hf25 := hts (.fieldLink RX6 25 "ResinWoods" "trees" "Ljava/util/List;") (by decide +kernel)
  have hf35 := hts (.fieldLink RX6 35 "ResinWoods" "tally" "LResinWoods$Tally;") (by decide +kernel)
  have hf46 := hts (.fieldLink RX6 46 "ResinWoods" "now" "I") (by decide +kernel)
  have hf102 := hts (.fieldLink RX6 102 "ResinWoods$Tree" "isBurnt" "Z") (by decide +kernel)
  have hf154 := hts (.fieldLink RX6 154 "ResinWoods$Tree" "faces" "Ljava/util/List;") (by decide +kernel)
  have hl := lv_entry ([.ref a]) (n := 4) (Nat.le_of_ble_eq_true rfl)
  rw [lg_entry_eq]
  generalize (lg_sl ([.ref a]) ++ List.replicate (4 - (lg_sl ([.ref a])).length) Slot.unset).toArray = ls at hl ⊢
  have hl : lv_has ls 4 [(0, .ref a)] := hl
  have h60 : L 0 ≤ 60 := hV.1.2.2.2.1
  have hI3 : I 3 = nI (L 0) := hV.1.2.2.1
  have hI0 : I 0 = nI now := hV.1.1
  have hnow : now ≤ 3650 := hV.1.2.1
  obtain ⟨fa, hfa⟩ : ∃ z : Nat → Nat, z = fun j => ad 12 j 0 := ⟨_, rfl⟩
  obtain ⟨fba, hfba⟩ : ∃ z : Nat → Nat, z = fun j => ad 15 j 0 := ⟨_, rfl⟩
  obtain ⟨hs, hBV, hB1, hB2, hB3, hB4, hB5⟩ := hV.2.2.2.2
  have hI16 : I 16 = nI (L 1) := hBV.1
  have h200 : L 1 ≤ 200 := hBV.2.1
  obtain ⟨fwa, hfwa⟩ : ∃ z : Nat → Nat, z = fun j => ad 4 j 0 := ⟨_, rfl⟩
  obtain ⟨wmc, hwmc⟩ : ∃ z, z = ad 1 0 0 := ⟨_, rfl⟩
  obtain ⟨rnc, hrnc⟩ : ∃ z, z = ad 2 0 0 := ⟨_, rfl⟩
  obtain ⟨wsc, hwsc⟩ : ∃ z, z = ad 3 0 0 := ⟨_, rfl⟩
  obtain ⟨tlc, htlc⟩ : ∃ z, z = ad 5 0 0 := ⟨_, rfl⟩
  obtain ⟨blc, hblc⟩ : ∃ z, z = ad 5 1 0 := ⟨_, rfl⟩
  obtain ⟨tac, htac⟩ : ∃ z, z = ad 7 0 0 := ⟨_, rfl⟩
  obtain ⟨plc, hplc⟩ : ∃ z, z = ad 8 0 0 := ⟨_, rfl⟩
  rw [← hwmc, ← hrnc, ← hwsc, ← htlc, ← hblc, ← htac, ← hplc] at hc_a
  obtain ⟨tdc, htdc⟩ : ∃ z, z = (if L 0 = 0 then G.2 12 else ad 6 0 0) := ⟨_, rfl⟩
  obtain ⟨bdc, hbdc⟩ : ∃ z, z = (if L 1 = 0 then G.2 12 else ad 6 1 0) := ⟨_, rfl⟩
  have hc_tlc : w tlc = some (.inr (0, [.int (E 5 0 0 0), .ref tdc, .int (nI (L 0))])) := by rw [htlc, htdc]; exact hR.lst (by omega)
  have hc_blc : w blc = some (.inr (0, [.int (E 5 1 0 0), .ref bdc, .int (nI (L 1))])) := by rw [hblc, hbdc]; exact hR.lst (by omega)
  have hc_tac : w tac = some (.inr (4, [.int (I 26), .int (I 27), .int (I 28)])) := by rw [htac]; exact hR.1 7 0 0 ⟨by decide, rfl⟩
  refine lv_iconst (v := 0) hx hb dX6_endDay_0 (by decide) ?_
  refine lv_istore_n (lv' := [(1, .int 0), (0, .ref a)]) hx hb dX6_endDay_1 rfl hl (by decide) rfl (fun ls hl => ?_)
  suffices loop2 : ∀ (k2 : Nat) (t : Nat) (wl : XW) (I1 : Nat → Int32) (F1 : Nat → Nat → Int32), (L 0 < t + k2) → (t ≤ L 0) → ((I1, F1) = dA now L F (I, F) t) → (Rep G wl ad E cp L wd bw lb I1 F1) → (Inv now L wd bw lb I1 F1) → (Kp w wl ad L) → ∀ (H : Heap) (locs : List Loc), xH G A s.heap H locs (wl) → ∀ (ls : Array Slot), lv_has ls 4 [(0, .ref a), (1, .int (nI t))] → W p l e (headSpec wsX6_endDay _).room s m _ below meth c H locs 0 0 (MQ below _ _ s 0 0 A) (F0 m 2 ls []) from
    loop2 (L 0 + 1) 0 w I F (by omega) (by omega) (rfl) (hR) (hV) (fun _ _ => rfl) _ _ hH ls (lv_sub hl [1, 0] rfl)
  intro k2
  induction k2 with
  | zero =>
    intro t wl I1 F1 hfuel ht9 hS hR1 hV1 hKp H locs hH ls hl
    exact absurd hfuel (by omega)
  | succ k2 ih2 =>
    intro t wl I1 F1 hfuel ht9 hS hR1 hV1 hKp H locs hH ls hl
    have hI01 : I1 0 = nI now := hV1.1.1
    have hc_a : wl a = some (.inr (7, [.ref wmc, .ref rnc, .ref wsc, .ref tlc, .ref blc, .ref tac, .ref plc, .int (nI now), .int (I1 30), .int (I1 29), .int (I1 31), .int (I1 32)])) := by rw [ha, hwmc, hrnc, hwsc, htlc, hblc, htac, hplc, ← hI01]; exact hR1.root
    have hc_tlc : wl tlc = some (.inr (0, [.int (E 5 0 0 0), .ref tdc, .int (nI (L 0))])) := by rw [htlc, htdc]; exact hR1.lst (by omega)
    have h8q : F1 8 t = F 8 t := by have h9 := congrArg (fun z : MS => z.2 8 t) hS; exact h9.trans (congrFun (dA_F now L F (I, F) (by decide) (by decide) t) t)
    refine lv_iload_n hx hb dX6_endDay_2 rfl (lv_at hl 1 rfl) ?_
    refine lv_aload_n hx hb dX6_endDay_3 rfl (lv_at hl 0 rfl) ?_
    refine x_get (C := RX6) (T := TX6) (N := 12) hx hb hts hiX6 hown hK hH hc_a rfl 3 (by decide) hf25 (fun _ h => h) (v := .ref tlc) rfl dX6_endDay_4 ?_
    refine x_callFi (va_runF (As := []) (rest := [.int (nI t)]) (hK.1 0 _ rfl).2 ⟨hx, hb, hml, hown, hts⟩ (c_Jx4a65c_size_8abf5 l G A _ tlc tdc (E 5 0 0 0) (nI (L 0)) hc_tlc) (va_cwF 0 hts gX6_endDay_Jx4a65c_size_8abf5_f76Jx4a65c rfl rfl rfl hTt.2.2.1 (by decide +kernel) ⟨Nat.le_of_ble_eq_true rfl, Nat.le_of_ble_eq_true rfl⟩) (x_preV hK hH hTt hc_tlc rfl []) rfl rfl hl.1 rfl (lv_room (Nat.le_of_ble_eq_true rfl)) dX6_endDay_7 ⟨Nat.le_of_ble_eq_true rfl, Nat.le_of_ble_eq_true rfl⟩) hH (fun r7 u H locs hp hH => ?_)
    obtain ⟨rfl, hu9⟩ := hp
    rw [hu9] at hH
    refine lv_icmp_ge (tgt := 105) hx hb dX6_endDay_12 (by decide) (fun c12 => ?_) (fun c12 => ?_)
    · have c12 : (L 0) ≤ t := (nI_leI (a := (L 0)) (b := t) (by omega) (by omega)).mp c12
      exact x_vret wl hx hb hr hlocks hK hH (by rw [show t = L 0 by omega] at hS; rw [← hS]; exact ⟨hR1, hV1, hKp⟩) dX6_endDay_105
    · have c12 : ¬ (L 0) ≤ t := fun zz => c12 ((nI_leI (a := (L 0)) (b := t) (by omega) (by omega)).mpr zz)
      refine lv_aload_n hx hb dX6_endDay_15 rfl (lv_at hl 0 rfl) ?_
      refine x_get (C := RX6) (T := TX6) (N := 12) hx hb hts hiX6 hown hK hH hc_a rfl 3 (by decide) hf25 (fun _ h => h) (v := .ref tlc) rfl dX6_endDay_16 ?_
      refine lv_iload_n hx hb dX6_endDay_19 rfl (lv_at hl 1 rfl) ?_
      have hc_tdc : wl tdc = some (.inl (G.2 4, cp 0, .inr (.inr (.inr (.inr (ldat ad L 0)))))) := by rw [htdc]; exact hR1.dat (by omega) (by omega)
      refine x_callFq (va_runF (As := [.int (nI t)]) (rest := []) (hK.1 0 _ rfl).2 ⟨hx, hb, hml, hown, hts⟩ (c_Jx4a65c_get_915e3 l G A _ tlc tdc (E 5 0 0 0) (L 0) (cp 0) (ldat ad L 0) hc_tlc hc_tdc t (fa t) (by omega) (by have := (hR.2.2 0 (by omega)).1; omega) (by have := hR.2.2 0 (by omega); omega) (by omega) (by rw [hfa]; exact ldat_t ad L (by omega))) (va_cwF 1 hts gX6_endDay_Jx4a65c_get_915e3_f157Jx4a65c rfl rfl rfl hTt.2.2.2.1 (by decide +kernel) ⟨Nat.le_of_ble_eq_true rfl, Nat.le_of_ble_eq_true rfl⟩) (x_preV hK hH hTt hc_tlc rfl [.int (nI t)]) rfl rfl hl.1 rfl (lv_room (Nat.le_of_ble_eq_true rfl)) dX6_endDay_20 ⟨Nat.le_of_ble_eq_true rfl, Nat.le_of_ble_eq_true rfl⟩) hH (fun r20 u H locs hp hH => ?_)
      obtain ⟨rfl, hu9⟩ := hp
      rw [hu9] at hH
      have ht : t < L 0 := by omega
      obtain ⟨flc, hflc⟩ : ∃ z, z = ad 5 (2 + t) 0 := ⟨_, rfl⟩
      obtain ⟨fdc, hfdc⟩ : ∃ z, z = (if L (2 + t) = 0 then G.2 12 else ad 6 (2 + t) 0) := ⟨_, rfl⟩
      obtain ⟨tr, htr⟩ : ∃ z, z = fa t := ⟨_, rfl⟩
      rw [← htr]
      have hc_tr : wl tr = some (.inr (5, [.int (nI t), .ref (ad 4 (wd t) 0), .int (F1 5 t * 100 + F1 6 t), .int (bearI (F1 7 t)), .ref flc, .int (F1 8 t), .int (F1 10 t)])) := by rw [htr, hfa, hflc]; exact hR1.tree ht
      have hT3 : L (2 + t) ≤ 3 := (hV1.2.1 t ht).2.2.2.2.2.2.2
      refine x_cast (ci := 5) hx hb hK hH hc_tr rfl hown (hts (.classLink RX6 82 "ResinWoods$Tree") (by decide +kernel)) dX6_endDay_25 ?_
      refine lv_astore_n (lv' := [(2, .ref tr), (0, .ref a), (1, .int (nI t))]) hx hb dX6_endDay_28 rfl hl (by decide) rfl (fun ls hl => ?_)
      refine lv_aload_n hx hb dX6_endDay_29 rfl (lv_at hl 0 rfl) ?_
      refine x_get (C := RX4) (T := TX4) (N := 7) hx hb hts hiX4 hown hK hH hc_tr rfl 5 (by decide) hf102 (fun _ h => h) (v := .int (F1 8 t)) rfl dX6_endDay_30 ?_
      refine lv_if_ne (tgt := 99) hx hb dX6_endDay_33 (by decide) (fun c33 => ?_) (fun c33 => ?_)
      · have h8F : ¬ F 8 t = 0 := fun z => c33 (h8q.trans z)
        refine lv_iinc (v := nI (t + 1)) (lv' := [(1, .int (nI (t + 1))), (2, .ref tr), (0, .ref a)]) hx hb dX6_endDay_99 hl (k := 2) rfl (by exact nI_add _ 1) (by decide) rfl (fun ls hl => ?_)
        refine lv_goto (tgt := 2) hx hb dX6_endDay_102 (by decide) ?_
        exact ih2 (t + 1) wl I1 F1 (by omega) (by omega) (by rw [dA_n h8F]; exact hS) (hR1) (hV1) (hKp) _ _ hH ls (lv_sub hl [2, 0] rfl)
      · have h8F : F 8 t = 0 := h8q.symm.trans c33
        refine lv_iconst (v := 0) hx hb dX6_endDay_36 (by decide) ?_
        refine lv_istore_n (lv' := [(3, .int 0), (2, .ref tr), (0, .ref a), (1, .int (nI t))]) hx hb dX6_endDay_37 rfl hl (by decide) rfl (fun ls hl => ?_)
        suffices loop38 : ∀ (k38 : Nat) (i : Nat) (wl2 : XW) (I2 : Nat → Int32) (F2 : Nat → Nat → Int32), (L (2 + t) < i + k38) → (i ≤ L (2 + t)) → ((I2, F2) = dT now (I1, F1) t i) → (Rep G wl2 ad E cp L wd bw lb I2 F2) → (Inv now L wd bw lb I2 F2) → (Kp w wl2 ad L) → ∀ (H : Heap) (locs : List Loc), xH G A s.heap H locs (wl2) → ∀ (ls : Array Slot), lv_has ls 4 [(0, .ref a), (1, .int (nI t)), (2, .ref tr), (3, .int (nI i))] → W p l e (headSpec wsX6_endDay _).room s m _ below meth c H locs 0 0 (MQ below _ _ s 0 0 A) (F0 m 38 ls []) from
          loop38 (L (2 + t) + 1) 0 wl I1 F1 (by omega) (by omega) (rfl) (hR1) (hV1) (hKp) _ _ hH ls (lv_sub hl [2, 3, 1, 0] rfl)
        intro k38
        induction k38 with
        | zero =>
          intro i wl2 I2 F2 hfuel hi9 hS2 hR2 hV2 hKp2 H locs hH ls hl
          exact absurd hfuel (by omega)
        | succ k38 ih38 =>
          intro i wl2 I2 F2 hfuel hi9 hS2 hR2 hV2 hKp2 H locs hH ls hl
          have hI02 : I2 0 = nI now := hV2.1.1
          have hc_a : wl2 a = some (.inr (7, [.ref wmc, .ref rnc, .ref wsc, .ref tlc, .ref blc, .ref tac, .ref plc, .int (nI now), .int (I2 30), .int (I2 29), .int (I2 31), .int (I2 32)])) := by rw [ha, hwmc, hrnc, hwsc, htlc, hblc, htac, hplc, ← hI02]; exact hR2.root
          have hc_tr : wl2 tr = some (.inr (5, [.int (nI t), .ref (ad 4 (wd t) 0), .int (F2 5 t * 100 + F2 6 t), .int (bearI (F2 7 t)), .ref flc, .int (F2 8 t), .int (F2 10 t)])) := by rw [htr, hfa, hflc]; exact hR2.tree ht
          have hc_flc : wl2 flc = some (.inr (0, [.int (E 5 (2 + t) 0 0), .ref fdc, .int (nI (L (2 + t)))])) := by rw [hflc, hfdc]; exact hR2.lst (by omega)
          have hc_wmc : wl2 wmc = some (.inl (G.2 2, 3650, .inl (F2 1))) := by rw [hwmc]; exact hR2.1 1 0 0 ⟨rfl, rfl⟩
          have hc_rnc : wl2 rnc = some (.inl (G.2 2, 3650, .inl (F2 2))) := by rw [hrnc]; exact hR2.1 2 0 0 ⟨rfl, rfl⟩
          have hc_tac : wl2 tac = some (.inr (4, [.int (I2 26), .int (I2 27), .int (I2 28)])) := by rw [htac]; exact hR2.1 7 0 0 ⟨by decide, rfl⟩
          have h8r : F2 8 t = F 8 t := by have h9 := congrArg (fun z : MS => z.2 8 t) hS2; exact (h9.trans (congrFun (dT_F now (I1, F1) t (by decide) (by decide) i) t)).trans h8q
          refine lv_iload_n hx hb dX6_endDay_38 rfl (lv_at hl 3 rfl) ?_
          refine lv_aload_n hx hb dX6_endDay_39 rfl (lv_at hl 2 rfl) ?_
          refine x_get (C := RX4) (T := TX4) (N := 7) hx hb hts hiX4 hown hK hH hc_tr rfl 4 (by decide) hf154 (fun _ h => h) (v := .ref flc) rfl dX6_endDay_40 ?_
          refine x_callFi (va_runF (As := []) (rest := [.int (nI i)]) (hK.1 0 _ rfl).2 ⟨hx, hb, hml, hown, hts⟩ (c_Jx4a65c_size_8abf5 l G A _ flc fdc (E 5 (2 + t) 0 0) (nI (L (2 + t))) hc_flc) (va_cwF 0 hts gX6_endDay_Jx4a65c_size_8abf5_f76Jx4a65c rfl rfl rfl hTt.2.2.1 (by decide +kernel) ⟨Nat.le_of_ble_eq_true rfl, Nat.le_of_ble_eq_true rfl⟩) (x_preV hK hH hTt hc_flc rfl []) rfl rfl hl.1 rfl (lv_room (Nat.le_of_ble_eq_true rfl)) dX6_endDay_43 ⟨Nat.le_of_ble_eq_true rfl, Nat.le_of_ble_eq_true rfl⟩) hH (fun r43 u H locs hp hH => ?_)
          obtain ⟨rfl, hu9⟩ := hp
          rw [hu9] at hH
          refine lv_icmp_ge (tgt := 99) hx hb dX6_endDay_48 (by decide) (fun c48 => ?_) (fun c48 => ?_)
          · have c48 : (L (2 + t)) ≤ i := (nI_leI (a := (L (2 + t))) (b := i) (by omega) (by omega)).mp c48
            refine lv_iinc (v := nI (t + 1)) (lv' := [(1, .int (nI (t + 1))), (0, .ref a), (2, .ref tr), (3, .int (nI i))]) hx hb dX6_endDay_99 hl (k := 1) rfl (by exact nI_add _ 1) (by decide) rfl (fun ls hl => ?_)
            refine lv_goto (tgt := 2) hx hb dX6_endDay_102 (by decide) ?_
            exact ih2 (t + 1) wl2 I2 F2 (by omega) (by omega) (by rw [dA_y h8F, ← hS, hS2, show i = L (2 + t) by omega]) (hR2) (hV2) (hKp2) _ _ hH ls (lv_sub hl [1, 0] rfl)
          · have c48 : ¬ (L (2 + t)) ≤ i := fun zz => c48 ((nI_leI (a := (L (2 + t))) (b := i) (by omega) (by omega)).mpr zz)
            refine lv_aload_n hx hb dX6_endDay_51 rfl (lv_at hl 2 rfl) ?_
            refine x_get (C := RX4) (T := TX4) (N := 7) hx hb hts hiX4 hown hK hH hc_tr rfl 4 (by decide) hf154 (fun _ h => h) (v := .ref flc) rfl dX6_endDay_52 ?_
            refine lv_iload_n hx hb dX6_endDay_55 rfl (lv_at hl 3 rfl) ?_
            have hc_fdc : wl2 fdc = some (.inl (G.2 4, cp (2 + t), .inr (.inr (.inr (.inr (ldat ad L (2 + t))))))) := by rw [hfdc]; exact hR2.dat (by omega) (by omega)
            obtain ⟨fb, hfb⟩ : ∃ z : Nat → Nat, z = fun j => ad 13 t j := ⟨_, rfl⟩
            refine x_callFq (va_runF (As := [.int (nI i)]) (rest := []) (hK.1 0 _ rfl).2 ⟨hx, hb, hml, hown, hts⟩ (c_Jx4a65c_get_915e3 l G A _ flc fdc (E 5 (2 + t) 0 0) (L (2 + t)) (cp (2 + t)) (ldat ad L (2 + t)) hc_flc hc_fdc i (fb i) (by omega) (by have := (hR.2.2 (2 + t) (by omega)).1; omega) (by have := hR.2.2 (2 + t) (by omega); omega) (by omega) (by rw [hfb]; exact ldat_f ad L (by omega))) (va_cwF 1 hts gX6_endDay_Jx4a65c_get_915e3_f157Jx4a65c rfl rfl rfl hTt.2.2.2.1 (by decide +kernel) ⟨Nat.le_of_ble_eq_true rfl, Nat.le_of_ble_eq_true rfl⟩) (x_preV hK hH hTt hc_flc rfl [.int (nI i)]) rfl rfl hl.1 rfl (lv_room (Nat.le_of_ble_eq_true rfl)) dX6_endDay_56 ⟨Nat.le_of_ble_eq_true rfl, Nat.le_of_ble_eq_true rfl⟩) hH (fun r56 u H locs hp hH => ?_)
            obtain ⟨rfl, hu9⟩ := hp
            rw [hu9] at hH
            have hi : i < L (2 + t) := by omega
            obtain ⟨fc, hfc⟩ : ∃ z, z = fb i := ⟨_, rfl⟩
            rw [← hfc]
            obtain ⟨gc, hgc⟩ : ∃ z, z = ad 14 t i := ⟨_, rfl⟩
            have hc_fc : wl2 fc = some (.inr (2, [.int (F2 11 (3 * t + i)), .int (F2 12 (3 * t + i)), .int (F2 13 (3 * t + i)), .int (cupS F2 (3 * t + i)), .int (F2 15 (3 * t + i)), .ref gc])) := by rw [hfc, hfb, hgc]; exact hR2.face h60 ht hi
            have hc_gc : wl2 gc = some (.inl (G.2 0, 4, .inl (gr4 F2 (3 * t + i)))) := by rw [hgc]; exact hR2.grd h60 ht hi
            obtain ⟨-, ⟨oy, hoy, hoy2⟩, -⟩ := hV2.2.2.2.1.2.1 t ht i hi
            obtain ⟨gr, hg4, hgr0⟩ := gradI_nat (by omega) hoy hoy2
            have hgr : gradC (F2 13 (3 * t + i)) (nI now) = nI gr := (grad_eq (by omega) hoy hoy2).trans hgr0
            refine x_cast (ci := 2) hx hb hK hH hc_fc rfl hown (hts (.classLink RX6 117 "ResinWoods$Face") (by decide +kernel)) dX6_endDay_61 ?_
            refine lv_aload_n hx hb dX6_endDay_64 rfl (lv_at hl 0 rfl) ?_
            refine x_get (C := RX6) (T := TX6) (N := 12) hx hb hts hiX6 hown hK hH hc_a rfl 7 (by decide) hf46 (fun _ h => h) (v := .int (nI now)) rfl dX6_endDay_65 ?_
            refine lv_aload_n hx hb dX6_endDay_68 rfl (lv_at hl 0 rfl) ?_
            refine x_get (C := RX6) (T := TX6) (N := 12) hx hb hts hiX6 hown hK hH hc_a rfl 0 (by decide) hf9 (fun _ h => h) (v := .ref wmc) rfl dX6_endDay_69 ?_
            refine lv_aload_n hx hb dX6_endDay_72 rfl (lv_at hl 0 rfl) ?_
            refine x_get (C := RX6) (T := TX6) (N := 12) hx hb hts hiX6 hown hK hH hc_a rfl 7 (by decide) hf46 (fun _ h => h) (v := .int (nI now)) rfl dX6_endDay_73 ?_
            refine Y_bald hx hb hK hH hc_wmc now rfl (by omega) (by decide) dX6_endDay_76 ?_
            refine lv_aload_n hx hb dX6_endDay_77 rfl (lv_at hl 0 rfl) ?_
            refine x_get (C := RX6) (T := TX6) (N := 12) hx hb hts hiX6 hown hK hH hc_a rfl 1 (by decide) hf13 (fun _ h => h) (v := .ref rnc) rfl dX6_endDay_78 ?_
            refine lv_aload_n hx hb dX6_endDay_81 rfl (lv_at hl 0 rfl) ?_
            refine x_get (C := RX6) (T := TX6) (N := 12) hx hb hts hiX6 hown hK hH hc_a rfl 7 (by decide) hf46 (fun _ h => h) (v := .int (nI now)) rfl dX6_endDay_82 ?_
            refine Y_bald hx hb hK hH hc_rnc now rfl (by omega) (by decide) dX6_endDay_85 ?_
            refine lv_aload_n hx hb dX6_endDay_86 rfl (lv_at hl 0 rfl) ?_
            refine x_get (C := RX6) (T := TX6) (N := 12) hx hb hts hiX6 hown hK hH hc_a rfl 5 (by decide) hf35 (fun _ h => h) (v := .ref tac) rfl dX6_endDay_87 ?_
            refine x_callv (va_runV (As := [.int (nI now), .int ((F2 1) now), .int ((F2 2) now), .ref tac]) (rest := []) ⟨hx, hb, hml, hown, hts⟩ (c_X1_endDay l G A _ fc gc tac _ _ _ _ _ _ _ _ _ hc_fc hc_gc hc_tac (nI now) ((F2 1) now) ((F2 2) now) gr hgr hg4) (cwV 4 hts gX6_endDay_X1_endDay rfl rfl rfl (by decide +kernel) ⟨Nat.le_of_ble_eq_true rfl, Nat.le_of_ble_eq_true rfl⟩) (x_preV hK hH hTt (hc_fc) rfl [.int (nI now), .int ((F2 1) now), .int ((F2 2) now), .ref tac]) rfl rfl hl.1 rfl (lv_room (Nat.le_of_ble_eq_true rfl)) dX6_endDay_90 ⟨Nat.le_of_ble_eq_true rfl, Nat.le_of_ble_eq_true rfl⟩) hH (fun w90 H locs hp hH => ?_)
            obtain ⟨hu_fc, hu_gc, hu_tc, hfm⟩ := hp
            have e2 : fc = ad 13 t i := by rw [hfc, hfb]
            rw [e2, hgc] at hu_fc
            rw [hgc] at hu_gc
            rw [htac] at hu_tc
            rw [e2, hgc, htac] at hfm
            have hrd := rep_day hR2 hV2 hnlt ht (h8r.trans h8F) hi hg4 hgr rfl hu_fc hu_gc hu_tc hfm
            have hkp : Kp wl2 w90 ad L := fun y hy => hfm y (hy 13 t i (Or.inl ⟨ht, hi⟩)) (hy 14 t i (Or.inl ⟨ht, hi⟩)) (hy 7 0 0 ⟨by decide, rfl⟩)
            refine lv_iinc (v := nI (i + 1)) (lv' := [(3, .int (nI (i + 1))), (0, .ref a), (1, .int (nI t)), (2, .ref tr)]) hx hb dX6_endDay_93 hl (k := 3) rfl (by exact nI_add _ 1) (by decide) rfl (fun ls hl => ?_)
            refine lv_goto (tgt := 38) hx hb dX6_endDay_96 (by decide) ?_
            exact ih38 (i + 1) w90 ((fdy now (I2, F2) (3 * t + i)).1) ((fdy now (I2, F2) (3 * t + i)).2) (by omega) (by omega) (by show _ = fdy now (dT now (I1, F1) t i) (3 * t + i); rw [← hS2]) (hrd.1) (hrd.2) (hKp2.trans hkp) _ _ hH ls (lv_sub hl [1, 2, 3, 0] rfl)
