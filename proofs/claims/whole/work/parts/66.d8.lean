
theorem rep_nolet {G : XG} {w u : XW} {ad : YA} {E : YE} {cp L wd bw : Nat → Nat} {lb : Nat → Option Nat} {I : Nat → Int32} {F : Nat → Nat → Int32} (hR : Rep G w ad E cp L wd bw lb I F) {i : Nat} (hi : i < 6) (hu1 : u (ad 4 i 0) = some (.inr (6, [.int (nI i), .int 0, .int (F 23 i), .int (F 24 i), .int (F 25 i), va_rf ((lb i).map (fun b => ad 15 b 0))]))) (hfr : ∀ y, y ≠ ad 4 i 0 → u y = w y) : Rep G u ad E cp L wd bw lb I (setA F 22 i 0) := by
  refine hR.step (fun k i' j => k = 4 ∧ i' = i) ?_ ?_
  · rintro k i' j hk ⟨rfl, rfl⟩
    have hj : j = 0 := hk.2
    subst hj
    rw [hu1]
    simp [cst, setA_e]
  · intro k i' j hk hx
    refine ⟨hfr _ (hR.ne hk (⟨hi, rfl⟩ : lvK L 4 i 0) (fun z => hx ⟨z.1, z.2.1⟩)), ?_⟩
    unfold agr
    split <;> simp_all [setA_e, setA_n, cupS, hasS, gr4_set, bg4_set, bt60_set, l_sum]
theorem burnS_n {I : Nat → Int32} {F : Nat → Nat → Int32} {w : Int32} {t : Nat} (h : ¬ (burnS I F w t).2.2 4 t = w) : burnS I F w (t + 1) = burnS I F w t := if_neg h
theorem burnS_b {I : Nat → Int32} {F : Nat → Nat → Int32} {w : Int32} {t : Nat} (h : (burnS I F w t).2.2 4 t = w) (h8 : ¬ (burnS I F w t).2.2 8 t = 0) : burnS I F w (t + 1) = burnS I F w t := (if_pos h).trans (if_neg h8)
theorem burnS_y {I : Nat → Int32} {F : Nat → Nat → Int32} {w : Int32} {t : Nat} (h : (burnS I F w t).2.2 4 t = w) (h8 : (burnS I F w t).2.2 8 t = 0) : burnS I F w (t + 1) = ((burnS I F w t).1 + 1, bT (burnS I F w t).2.1 (burnS I F w t).2.2 t) := (if_pos h).trans (if_pos h8)
theorem Kp.trans {w v u : XW} {ad : YA} {L : Nat → Nat} (h1 : Kp w v ad L) (h2 : Kp v u ad L) : Kp w u ad L := fun y hy => (h2 y hy).trans (h1 y hy)

set_option maxHeartbeats 4000000 in
set_option maxRecDepth 100000 in
theorem c_X6_burn (l : Launch) (G : XG) (A : Nat → Prop) (w : XW) (a : Nat) (ad : YA) (E : YE) (cp L wd bw : Nat → Nat) (lb : Nat → Option Nat) (I : Nat → Int32) (F : Nat → Nat → Int32) (hc_a : w a = some (.inr (7, [.ref (ad 1 0 0), .ref (ad 2 0 0), .ref (ad 3 0 0), .ref (ad 5 0 0), .ref (ad 5 1 0), .ref (ad 7 0 0), .ref (ad 8 0 0), .int (I 0), .int (I 30), .int (I 29), .int (I 31), .int (I 32)]))) (now : Nat) (hR : Rep G w ad E cp L wd bw lb I F) (hV : Inv now L wd bw lb I F) (ha : a = ad 0 0 0) (hE : ∀ j, E 9 4 0 j = 0) (wd0 : Int32) : Met l yX6_burn wsX6_burn ({ frames := 5, cells := 0, slots := 0, locals := 108 }) (va_Pc [.ref a, .int wd0] (xP G A (w))) (va_Qi (fun (r : Int32) (u : XW) => r = (sBurn I F (L 0) wd0).1 ∧ Nx G w u a (own ad L) (sBurn I F (L 0) wd0).2.1 (sBurn I F (L 0) wd0).2.2) (fun u t => xB G A (u) t) A) 0 0 A := by
  refine Met.ofW (cc := cX6_burn) (maxL := 6) (ret := (some .int)) (by decide) rfl ?_
  intro p e s m args below meth c s₁ B hml hv
  obtain ⟨rfl, hK, hH, hTt⟩ := hv
  have hx := B.exec
  have hb := B.bytes
  have hr := B.returns
  have hts := atoms_spec (ws := wsX6_burn) B.pre
  have hown : s.vm.findClass RX6 = some m.cls := findClass_of_methodNamed B.named
  have hlocks := B.notSynchronized
  have hiX4 : ∀ w ∈ wsX40, w ∈ wsX6_burn := by decide +kernel
  have hiX5 : ∀ w ∈ wsX50, w ∈ wsX6_burn := by decide +kernel
  have hiX6 : ∀ w ∈ wsX60, w ∈ wsX6_burn := by decide +kernel
  have hf25 := hts (.fieldLink RX6 25 "ResinWoods" "trees" "Ljava/util/List;") (by decide +kernel)
  have hf53 := hts (.fieldLink RX6 53 "ResinWoods" "burnt" "I") (by decide +kernel)
  have hf102 := hts (.fieldLink RX6 102 "ResinWoods$Tree" "isBurnt" "Z") (by decide +kernel)
  have hf146 := hts (.fieldLink RX6 146 "ResinWoods$Tree" "wood" "LResinWoods$Wood;") (by decide +kernel)
  have hf200 := hts (.fieldLink RX6 200 "ResinWoods$Wood" "isLet" "Z") (by decide +kernel)
  have hf213 := hts (.fieldLink RX6 213 "ResinWoods$Wood" "number" "I") (by decide +kernel)
  have hl := lv_entry ([.ref a, .int wd0]) (n := 6) (Nat.le_of_ble_eq_true rfl)
  rw [lg_entry_eq]
  generalize (lg_sl ([.ref a, .int wd0]) ++ List.replicate (6 - (lg_sl ([.ref a, .int wd0])).length) Slot.unset).toArray = ls at hl ⊢
  have hl : lv_has ls 6 [(0, .ref a), (1, .int wd0)] := hl
  have h60 : L 0 ≤ 60 := hV.1.2.2.2.1
  have hI3 : I 3 = nI (L 0) := hV.1.2.2.1
  have hI0 : I 0 = nI now := hV.1.1
  have hnow : now ≤ 3650 := hV.1.2.1
  obtain ⟨fa, hfa⟩ : ∃ z : Nat → Nat, z = fun j => ad 12 j 0 := ⟨_, rfl⟩
  obtain ⟨fba, hfba⟩ : ∃ z : Nat → Nat, z = fun j => ad 15 j 0 := ⟨_, rfl⟩
  obtain ⟨hs, hBV, hB1, hB2, hB3, hB4, hB5⟩ := hV.2.2.2.2
  have hI16 : I 16 = nI (L 1) := hBV.1
  have h200 : L 1 ≤ 200 := hBV.2.1
  obtain ⟨fwa, hfwa⟩ : ∃ z : Nat → Nat, z = fun j => ad 4 j 0 := ⟨_, rfl⟩
  obtain ⟨tlc, htlc⟩ : ∃ z, z = ad 5 0 0 := ⟨_, rfl⟩
  rw [← htlc] at hc_a
  obtain ⟨tdc, htdc⟩ : ∃ z, z = (if L 0 = 0 then G.2 12 else ad 6 0 0) := ⟨_, rfl⟩
  have hc_tlc : w tlc = some (.inr (0, [.int (E 5 0 0 0), .ref tdc, .int (nI (L 0))])) := by rw [htlc, htdc]; exact hR.lst (by omega)
  have ne_a_tlc : a ≠ tlc := fun e9 => by rw [e9, hc_tlc] at hc_a; cases hc_a
  have ne_tlc_a : tlc ≠ a := fun e9 => ne_a_tlc e9.symm
  have hd0_a := hc_a
  have hd0_tlc := hc_tlc
  have hH0 := hH
  refine lv_aload_n hx hb dX6_burn_0 rfl (lv_at hl 0 rfl) ?_
  refine lv_iload_n hx hb dX6_burn_1 rfl (lv_at hl 1 rfl) ?_
  refine x_callq (va_runV (As := [.int wd0]) (rest := []) ⟨hx, hb, hml, hown, hts⟩ (c_X6_woodAt l G A _ a (ad 3 0 0) _ _ _ _ _ _ _ _ _ _ _ (six ad 4) hc_a hR.woods wd0 fwa (fun j hj => by rw [hfwa]; exact if_pos hj)) (cwV 1 hts gX6_burn_X6_woodAt rfl rfl rfl (by decide +kernel) ⟨Nat.le_of_ble_eq_true rfl, Nat.le_of_ble_eq_true rfl⟩) (x_preV hK hH hTt (hc_a) rfl [.int wd0]) rfl rfl hl.1 rfl (lv_room (Nat.le_of_ble_eq_true rfl)) dX6_burn_2 ⟨Nat.le_of_ble_eq_true rfl, Nat.le_of_ble_eq_true rfl⟩) hH (fun r2 u H locs hp hH => ?_)
  obtain ⟨hat, hu9⟩ := hp
  rw [hu9] at hH
  rcases atR_or hat with ⟨i, hi, rfl, rfl⟩ | ⟨hno, rfl⟩
  · obtain ⟨wc, hwc⟩ : ∃ z, z = fwa i := ⟨_, rfl⟩
    rw [← hwc]
    have hc_wc : w wc = some (.inr (6, [.int (nI i), .int (F 22 i), .int (F 23 i), .int (F 24 i), .int (F 25 i), va_rf ((lb i).map (fun b => ad 15 b 0))])) := by rw [hwc, hfwa]; exact hR.wood hi
    obtain ⟨⟨tk, htk, htk2⟩, hw22, rn, hrn, hrn2⟩ := hB5 i hi
    have ne_wc_a : wc ≠ a := fun e9 => by rw [e9, hc_a] at hc_wc; cases hc_wc
    have ne_a_wc : a ≠ wc := fun e9 => ne_wc_a e9.symm
    have ne_wc_tlc : wc ≠ tlc := fun e9 => by rw [e9, hc_tlc] at hc_wc; cases hc_wc
    have ne_tlc_wc : tlc ≠ wc := fun e9 => ne_wc_tlc e9.symm
    refine lv_astore_n (lv' := [(2, .ref wc), (0, .ref a), (1, .int (nI i))]) hx hb dX6_burn_5 rfl hl (by decide) rfl (fun ls hl => ?_)
    refine lv_aload_n hx hb dX6_burn_6 rfl (lv_at hl 0 rfl) ?_
    refine lv_ifnonnull (tgt := 12) hx hb dX6_burn_7 (by decide) ?_
    refine lv_aload_n hx hb dX6_burn_12 rfl (lv_at hl 0 rfl) ?_
    refine lv_iconst (v := 0) hx hb dX6_burn_13 (by decide) ?_
    refine x_put (C := RX5) (T := TX5) (N := 6) (ty := .boolean) hx hb hts hiX5 tyX5 tyX5_ok nmX5 hown hK hH hc_wc rfl 1 (by decide) hf200 (fun _ h => h) rfl (by decide +kernel) rfl rfl (Nat.le_of_ble_eq_true rfl) dX6_burn_14 (fun H locs hH => ?_)
    have hH : xH G A s.heap H locs (va_up w wc (some (.inr (6, [.int (nI i), .int 0, .int (F 23 i), .int (F 24 i), .int (F 25 i), va_rf ((lb i).map (fun b => ad 15 b 0))])))) := hH
    obtain ⟨w14, ew14⟩ : ∃ z, z = va_up w wc (some (.inr (6, [.int (nI i), .int 0, .int (F 23 i), .int (F 24 i), .int (F 25 i), va_rf ((lb i).map (fun b => ad 15 b 0))]))) := ⟨_, rfl⟩
    rw [← ew14] at hH
    have hc_a : w14 a = some (.inr (7, [.ref (ad 1 0 0), .ref (ad 2 0 0), .ref (ad 3 0 0), .ref tlc, .ref (ad 5 1 0), .ref (ad 7 0 0), .ref (ad 8 0 0), .int (I 0), .int (I 30), .int (I 29), .int (I 31), .int (I 32)])) := by rw [ew14, show va_up w wc _ a = w a from if_neg ne_a_wc]; exact hc_a
    have hc_tlc : w14 tlc = some (.inr (0, [.int (E 5 0 0 0), .ref tdc, .int (nI (L 0))])) := by rw [ew14, show va_up w wc _ tlc = w tlc from if_neg ne_tlc_wc]; exact hc_tlc
    have hc_wc : w14 wc = some (.inr (6, [.int (nI i), .int 0, .int (F 23 i), .int (F 24 i), .int (F 25 i), va_rf ((lb i).map (fun b => ad 15 b 0))])) := by rw [ew14]; exact if_pos rfl
    have hfr : ∀ x, x ≠ a → x ≠ tlc → x ≠ wc → w14 x = w x := fun x z_a z_tlc z_wc => by rw [ew14]; exact if_neg z_wc
    refine lv_iconst (v := 0) hx hb dX6_burn_17 (by decide) ?_
    refine lv_istore_n (lv' := [(3, .int 0), (2, .ref wc), (0, .ref a), (1, .int (nI i))]) hx hb dX6_burn_18 rfl hl (by decide) rfl (fun ls hl => ?_)
    refine lv_iconst (v := 0) hx hb dX6_burn_19 (by decide) ?_
    refine lv_istore (lv' := [(4, .int 0), (3, .int 0), (2, .ref wc), (0, .ref a), (1, .int (nI i))]) hx hb dX6_burn_20 hl (by decide) rfl (fun ls hl => ?_)
    suffices loop22 : ∀ (k22 : Nat) (t : Nat) (ac : Int32) (wl : XW) (I1 : Nat → Int32) (F1 : Nat → Nat → Int32), (L 0 < t + k22) → (t ≤ L 0) → (ac = (burnS I F (nI i) t).1) → (I1 = (burnS I F (nI i) t).2.1) → (F1 = setA (burnS I F (nI i) t).2.2 22 i 0) → (Rep G wl ad E cp L wd bw lb I1 F1) → (Inv now L wd bw lb I1 F1) → (Kp w wl ad L) → ∀ (H : Heap) (locs : List Loc), xH G A s.heap H locs (wl) → ∀ (ls : Array Slot), lv_has ls 6 [(0, .ref a), (1, .int (nI i)), (2, .ref wc), (3, .int ac), (4, .int (nI t))] → W p l e (headSpec wsX6_burn _).room s m _ below meth c H locs 0 0 (MQ below _ _ s 0 0 A) (F0 m 22 ls []) from
      loop22 (L 0 + 1) 0 0 w14 I (setA F 22 i 0) (by omega) (by omega) (rfl) (rfl) (rfl) (rep_nolet hR hi (by have h9 := hc_wc; rw [hwc, hfwa] at h9; exact h9) (fun y hy => if z1 : y = a then (by rw [z1, hc_a]; exact hd0_a.symm) else if z2 : y = tlc then (by rw [z2, hc_tlc]; exact hd0_tlc.symm) else hfr y z1 z2 (by rw [hwc, hfwa]; exact hy))) (inv_nolet hV i) (fun y hy => hfr y (by rw [ha]; exact hy 0 0 0 ⟨rfl, rfl⟩) (by rw [htlc]; exact hy 5 0 0 ⟨by omega, rfl⟩) (by rw [hwc, hfwa]; exact hy 4 i 0 ⟨hi, rfl⟩)) _ _ hH ls (lv_sub hl [3, 4, 2, 1, 0] rfl)
    intro k22
    induction k22 with
    | zero =>
      intro t ac wl I1 F1 hfuel ht9 hS1 hS2 hS3 hR1 hV1 hKp H locs hH ls hl
      exact absurd hfuel (by omega)
    | succ k22 ih22 =>
      intro t ac wl I1 F1 hfuel ht9 hS1 hS2 hS3 hR1 hV1 hKp H locs hH ls hl
      have hc_a : wl a = some (.inr (7, [.ref (ad 1 0 0), .ref (ad 2 0 0), .ref (ad 3 0 0), .ref tlc, .ref (ad 5 1 0), .ref (ad 7 0 0), .ref (ad 8 0 0), .int (I1 0), .int (I1 30), .int (I1 29), .int (I1 31), .int (I1 32)])) := by rw [ha, htlc]; exact hR1.root
      have hc_tlc : wl tlc = some (.inr (0, [.int (E 5 0 0 0), .ref tdc, .int (nI (L 0))])) := by rw [htlc, htdc]; exact hR1.lst (by omega)
      refine lv_iload hx hb dX6_burn_22 (lv_at hl 4 rfl) ?_
      refine lv_aload_n hx hb dX6_burn_24 rfl (lv_at hl 0 rfl) ?_
      refine x_get (C := RX6) (T := TX6) (N := 12) hx hb hts hiX6 hown hK hH hc_a rfl 3 (by decide) hf25 (fun _ h => h) (v := .ref tlc) rfl dX6_burn_25 ?_
      refine x_callFi (va_runF (As := []) (rest := [.int (nI t)]) (hK.1 0 _ rfl).2 ⟨hx, hb, hml, hown, hts⟩ (c_Jx4a65c_size_8abf5 l G A _ tlc tdc (E 5 0 0 0) (nI (L 0)) hc_tlc) (va_cwF 0 hts gX6_burn_Jx4a65c_size_8abf5_f76Jx4a65c rfl rfl rfl hTt.2.2.1 (by decide +kernel) ⟨Nat.le_of_ble_eq_true rfl, Nat.le_of_ble_eq_true rfl⟩) (x_preV hK hH hTt hc_tlc rfl []) rfl rfl hl.1 rfl (lv_room (Nat.le_of_ble_eq_true rfl)) dX6_burn_28 ⟨Nat.le_of_ble_eq_true rfl, Nat.le_of_ble_eq_true rfl⟩) hH (fun r28 u H locs hp hH => ?_)
      obtain ⟨rfl, hu9⟩ := hp
      rw [hu9] at hH
      refine lv_icmp_ge (tgt := 95) hx hb dX6_burn_33 (by decide) (fun c33 => ?_) (fun c33 => ?_)
      · have c33 : (L 0) ≤ t := (nI_leI (a := (L 0)) (b := t) (by omega) (by omega)).mp c33
        refine lv_iload_n hx hb dX6_burn_95 rfl (lv_at hl 3 rfl) ?_
        exact x_iret (v := ac) wl hx hb hr hlocks hK hH (by rw [show sBurn I F (L 0) (nI i) = ((burnS I F (nI i) (L 0)).1, (burnS I F (nI i) (L 0)).2.1, setA (burnS I F (nI i) (L 0)).2.2 22 i 0) from by unfold sBurn; rw [if_neg (bin6 hi), ix_n (by omega)]]; rw [show t = L 0 by omega] at hS1 hS2 hS3; rw [← hS1, ← hS2, ← hS3]; exact ⟨rfl, Nx.same hR1 hV1 ha hE hKp⟩) dX6_burn_96
      · have c33 : ¬ (L 0) ≤ t := fun zz => c33 ((nI_leI (a := (L 0)) (b := t) (by omega) (by omega)).mpr zz)
        refine lv_aload_n hx hb dX6_burn_36 rfl (lv_at hl 0 rfl) ?_
        refine x_get (C := RX6) (T := TX6) (N := 12) hx hb hts hiX6 hown hK hH hc_a rfl 3 (by decide) hf25 (fun _ h => h) (v := .ref tlc) rfl dX6_burn_37 ?_
        refine lv_iload hx hb dX6_burn_40 (lv_at hl 4 rfl) ?_
        have hc_tdc : wl tdc = some (.inl (G.2 4, cp 0, .inr (.inr (.inr (.inr (ldat ad L 0)))))) := by rw [htdc]; exact hR1.dat (by omega) (by omega)
        refine x_callFq (va_runF (As := [.int (nI t)]) (rest := []) (hK.1 0 _ rfl).2 ⟨hx, hb, hml, hown, hts⟩ (c_Jx4a65c_get_915e3 l G A _ tlc tdc (E 5 0 0 0) (L 0) (cp 0) (ldat ad L 0) hc_tlc hc_tdc t (fa t) (by omega) (by have := (hR.2.2 0 (by omega)).1; omega) (by have := hR.2.2 0 (by omega); omega) (by omega) (by rw [hfa]; exact ldat_t ad L (by omega))) (va_cwF 1 hts gX6_burn_Jx4a65c_get_915e3_f157Jx4a65c rfl rfl rfl hTt.2.2.2.1 (by decide +kernel) ⟨Nat.le_of_ble_eq_true rfl, Nat.le_of_ble_eq_true rfl⟩) (x_preV hK hH hTt hc_tlc rfl [.int (nI t)]) rfl rfl hl.1 rfl (lv_room (Nat.le_of_ble_eq_true rfl)) dX6_burn_42 ⟨Nat.le_of_ble_eq_true rfl, Nat.le_of_ble_eq_true rfl⟩) hH (fun r42 u H locs hp hH => ?_)
        obtain ⟨rfl, hu9⟩ := hp
        rw [hu9] at hH
        have ht : t < L 0 := by omega
        obtain ⟨hT4, hT6, -, -, -, hT9, -, hT3⟩ := hV1.2.1 t ht
        obtain ⟨tr, htr⟩ : ∃ z, z = fa t := ⟨_, rfl⟩
        rw [← htr]
        obtain ⟨wtc, hwtc⟩ : ∃ z, z = ad 4 (wd t) 0 := ⟨_, rfl⟩
        have hc_tr : wl tr = some (.inr (5, [.int (nI t), .ref wtc, .int (F1 5 t * 100 + F1 6 t), .int (bearI (F1 7 t)), .ref (ad 5 (2 + t) 0), .int (F1 8 t), .int (F1 10 t)])) := by rw [htr, hfa, hwtc]; exact hR1.tree ht
        have hc_wtc : wl wtc = some (.inr (6, [.int (nI (wd t)), .int (F1 22 (wd t)), .int (F1 23 (wd t)), .int (F1 24 (wd t)), .int (F1 25 (wd t)), va_rf ((lb (wd t)).map (fun b => ad 15 b 0))])) := by rw [hwtc]; exact hR1.wood hT6
        have e4 : (burnS I F (nI i) t).2.2 4 t = nI (wd t) := by rw [← hT4, hS3, setA_n _ _ _ (by decide)]
        have e8 : (burnS I F (nI i) t).2.2 8 t = F1 8 t := by rw [hS3, setA_n _ _ _ (by decide)]
        refine x_cast (ci := 5) hx hb hK hH hc_tr rfl hown (hts (.classLink RX6 82 "ResinWoods$Tree") (by decide +kernel)) dX6_burn_47 ?_
        refine lv_astore (lv' := [(5, .ref tr), (0, .ref a), (1, .int (nI i)), (2, .ref wc), (3, .int ac), (4, .int (nI t))]) hx hb dX6_burn_50 hl (by decide) rfl (fun ls hl => ?_)
        refine lv_aload hx hb dX6_burn_52 (lv_at hl 0 rfl) ?_
        refine x_get (C := RX4) (T := TX4) (N := 7) hx hb hts hiX4 hown hK hH hc_tr rfl 1 (by decide) hf146 (fun _ h => h) (v := .ref wtc) rfl dX6_burn_54 ?_
        refine x_get (C := RX5) (T := TX5) (N := 6) hx hb hts hiX5 hown hK hH hc_wtc rfl 0 (by decide) hf213 (fun _ h => h) (v := .int (nI (wd t))) rfl dX6_burn_57 ?_
        refine lv_iload_n hx hb dX6_burn_60 rfl (lv_at hl 2 rfl) ?_
        refine lv_icmp_ne (tgt := 89) hx hb dX6_burn_61 (by decide) (fun c61 => ?_) (fun c61 => ?_)
        · have c61 : ¬ (wd t) = i := fun zz => c61 ((nI_eq (a := (wd t)) (b := i) (by omega) (by omega)).mpr zz)
          refine lv_iinc (v := nI (t + 1)) (lv' := [(4, .int (nI (t + 1))), (5, .ref tr), (0, .ref a), (1, .int (nI i)), (2, .ref wc), (3, .int ac)]) hx hb dX6_burn_89 hl (k := 5) rfl (by exact nI_add _ 1) (by decide) rfl (fun ls hl => ?_)
          refine lv_goto (tgt := 22) hx hb dX6_burn_92 (by decide) ?_
          exact ih22 (t + 1) ac wl I1 F1 (by omega) (by omega) (by rw [burnS_n (fun z => c61 ((nI_eq (by omega) (by omega)).mp (e4.symm.trans z)))]; exact hS1) (by rw [burnS_n (fun z => c61 ((nI_eq (by omega) (by omega)).mp (e4.symm.trans z)))]; exact hS2) (by rw [burnS_n (fun z => c61 ((nI_eq (by omega) (by omega)).mp (e4.symm.trans z)))]; exact hS3) (hR1) (hV1) (hKp) _ _ hH ls (lv_sub hl [2, 3, 4, 5, 0] rfl)
        · have c61 : (wd t) = i := (nI_eq (a := (wd t)) (b := i) (by omega) (by omega)).mp c61
          refine lv_aload hx hb dX6_burn_64 (lv_at hl 0 rfl) ?_
          refine x_get (C := RX4) (T := TX4) (N := 7) hx hb hts hiX4 hown hK hH hc_tr rfl 5 (by decide) hf102 (fun _ h => h) (v := .int (F1 8 t)) rfl dX6_burn_66 ?_
          refine lv_if_ne (tgt := 89) hx hb dX6_burn_69 (by decide) (fun c69 => ?_) (fun c69 => ?_)
          · refine lv_iinc (v := nI (t + 1)) (lv' := [(4, .int (nI (t + 1))), (5, .ref tr), (0, .ref a), (1, .int (nI i)), (2, .ref wc), (3, .int ac)]) hx hb dX6_burn_89 hl (k := 5) rfl (by exact nI_add _ 1) (by decide) rfl (fun ls hl => ?_)
            refine lv_goto (tgt := 22) hx hb dX6_burn_92 (by decide) ?_
            exact ih22 (t + 1) ac wl I1 F1 (by omega) (by omega) (by rw [burnS_b (e4.trans (congrArg nI c61)) (fun z => c69 (e8.symm.trans z))]; exact hS1) (by rw [burnS_b (e4.trans (congrArg nI c61)) (fun z => c69 (e8.symm.trans z))]; exact hS2) (by rw [burnS_b (e4.trans (congrArg nI c61)) (fun z => c69 (e8.symm.trans z))]; exact hS3) (hR1) (hV1) (hKp) _ _ hH ls (lv_sub hl [2, 3, 4, 5, 0] rfl)
          · have h8 : F1 8 t = 0 := c69
            refine lv_aload_n hx hb dX6_burn_72 rfl (lv_at hl 1 rfl) ?_
            refine lv_dup hx hb dX6_burn_73 rfl ?_
            refine x_get (C := RX6) (T := TX6) (N := 12) hx hb hts hiX6 hown hK hH hc_a rfl 9 (by decide) hf53 (fun _ h => h) (v := .int (I1 29)) rfl dX6_burn_74 ?_
            refine lv_aload hx hb dX6_burn_77 (lv_at hl 0 rfl) ?_
            refine x_calli (va_runV (As := []) (rest := [.int (I1 29), .ref a]) ⟨hx, hb, hml, hown, hts⟩ (c_X4_takeFire l G A _ tr (ad 5 (2 + t) 0) _ (if L (2 + t) = 0 then G.2 12 else ad 6 (2 + t) 0) _ _ _ _ _ _ (L (2 + t)) (cp (2 + t)) (ldat ad L (2 + t)) hc_tr (hR1.lst (by omega)) (fun j => ad 13 t j) (fun j => ad 14 t j) (fun j => F1 11 (3 * t + j)) (fun j => F1 12 (3 * t + j)) (fun j => F1 13 (3 * t + j)) (fun j => cupS F1 (3 * t + j)) (fun j => F1 15 (3 * t + j)) (fun j => gr4 F1 (3 * t + j)) (fun h9 => hR1.dat (by omega) h9) (fun j hj => ldat_f ad L hj) (by have := hR.2.2 (2 + t) (by omega); omega) (hR.2.2 (2 + t) (by omega)).1 (fun j hj => hR1.face h60 ht hj) (fun j hj => hR1.grd h60 ht hj) (fun j k hj hk e9 => (hR.2.1 13 t j 13 t k (Or.inl ⟨ht, hj⟩) (Or.inl ⟨ht, hk⟩) e9).2.2) (fun j k hj hk e9 => (hR.2.1 14 t j 14 t k (Or.inl ⟨ht, hj⟩) (Or.inl ⟨ht, hk⟩) e9).2.2)) (cwV 0 hts gX6_burn_X4_takeFire rfl rfl rfl (by decide +kernel) ⟨Nat.le_of_ble_eq_true rfl, Nat.le_of_ble_eq_true rfl⟩) (x_preV hK hH hTt (hc_tr) rfl []) rfl rfl hl.1 rfl (lv_room (Nat.le_of_ble_eq_true rfl)) dX6_burn_79 ⟨Nat.le_of_ble_eq_true rfl, Nat.le_of_ble_eq_true rfl⟩) hH (fun r79 w79 H locs hp hH => ?_)
            obtain ⟨hr9, hu_tr, hu_fs, hu_gs, hfm⟩ := hp
            subst hr9
            have hna : ∀ j, j < L (2 + t) → a ≠ ad 13 t j ∧ a ≠ ad 14 t j := fun j hj => ⟨fun e9 => (by have h9 := hR1.face h60 ht hj; rw [← e9, hc_a] at h9; cases h9), fun e9 => (by have h9 := hR1.grd h60 ht hj; rw [← e9, hc_a] at h9; cases h9)⟩
            have hnt : a ≠ tr := fun e9 => by rw [e9, hc_tr] at hc_a; cases hc_a
            have hc_a : w79 a = some (.inr (7, [.ref (ad 1 0 0), .ref (ad 2 0 0), .ref (ad 3 0 0), .ref tlc, .ref (ad 5 1 0), .ref (ad 7 0 0), .ref (ad 8 0 0), .int (I1 0), .int (I1 30), .int (I1 29), .int (I1 31), .int (I1 32)])) := (hfm a hnt hna).trans hc_a
            refine lv_iadd hx hb dX6_burn_82 ?_
            refine x_put (C := RX6) (T := TX6) (N := 12) (ty := .int) hx hb hts hiX6 tyX6 tyX6_ok nmX6 hown hK hH hc_a rfl 9 (by decide) hf53 (fun _ h => h) rfl (by decide +kernel) rfl rfl (Nat.le_of_ble_eq_true rfl) dX6_burn_83 (fun H locs hH => ?_)
            have hH : xH G A s.heap H locs (va_up w79 a (some (.inr (7, [.ref (ad 1 0 0), .ref (ad 2 0 0), .ref (ad 3 0 0), .ref tlc, .ref (ad 5 1 0), .ref (ad 7 0 0), .ref (ad 8 0 0), .int (I1 0), .int (I1 30), .int ((I1 29) + (l_sum (fun j => cupS F1 (3 * t + j)) (L (2 + t)))), .int (I1 31), .int (I1 32)])))) := hH
            obtain ⟨w83, ew83⟩ : ∃ z, z = va_up w79 a (some (.inr (7, [.ref (ad 1 0 0), .ref (ad 2 0 0), .ref (ad 3 0 0), .ref tlc, .ref (ad 5 1 0), .ref (ad 7 0 0), .ref (ad 8 0 0), .int (I1 0), .int (I1 30), .int ((I1 29) + (l_sum (fun j => cupS F1 (3 * t + j)) (L (2 + t)))), .int (I1 31), .int (I1 32)]))) := ⟨_, rfl⟩
            rw [← ew83] at hH
            have e1 : tr = ad 12 t 0 := by rw [htr, hfa]
            have hsum := cups_tree (F := F1) h60 hV1.2.1 hV1.2.2.1 ht
            have wne : ∀ y, y ≠ a → w83 y = w79 y := fun y hy => by rw [ew83]; exact if_neg hy
            have hrep := rep_burn (u := w83) (x := I1 29 + l_sum (fun j => cupS F1 (3 * t + j)) (L (2 + t))) hR1 h60 (fun q hq => (hV1.2.1 q hq).2.2.2.2.2.2.2) ht (by rw [← ha, ew83]; refine (if_pos rfl).trans ?_; rw [htlc]) (by rw [wne _ (by rw [← e1]; exact hnt.symm), ← hwtc, ← e1]; exact hu_tr) (fun j hj => (wne _ (hna j hj).1.symm).trans (hu_fs j hj)) (fun j hj => (wne _ (hna j hj).2.symm).trans (hu_gs j hj)) (fun y y1 y2 y3 => (wne y (by rw [ha]; exact y1)).trans (hfm y (by rw [e1]; exact y2) y3))
            have hstep := burnS_y (e4.trans (congrArg nI c61)) (e8.trans h8)
            have hFF : zeroC (setA F1 8 t 1) (12 * t) (12 * t + 12) = setA (burnS I F (nI i) (t + 1)).2.2 22 i 0 := by rw [hstep, hS3]; exact (bT_22 _ _ t i).symm
            have hII : va_up I1 29 (I1 29 + l_sum (fun j => cupS F1 (3 * t + j)) (L (2 + t))) = (burnS I F (nI i) (t + 1)).2.1 := by rw [hstep, hsum, hS2, hS3, setA_n _ _ _ (by decide)]; rfl
            have hinv := inv_burn (x := I1 29 + l_sum (fun j => cupS F1 (3 * t + j)) (L (2 + t))) hV1 ht
            have hkp : Kp wl w83 ad L := fun y hy => (wne y (by rw [ha]; exact hy 0 0 0 ⟨rfl, rfl⟩)).trans (hfm y (by rw [e1]; exact hy 12 t 0 ⟨ht, rfl⟩) (fun j hj => ⟨hy 13 t j (Or.inl ⟨ht, hj⟩), hy 14 t j (Or.inl ⟨ht, hj⟩)⟩))
            refine lv_iinc (v := ac + 1) (lv' := [(3, .int (ac + 1)), (5, .ref tr), (0, .ref a), (1, .int (nI i)), (2, .ref wc), (4, .int (nI t))]) hx hb dX6_burn_86 hl (k := 4) rfl (rfl) (by decide) rfl (fun ls hl => ?_)
            refine lv_iinc (v := nI (t + 1)) (lv' := [(4, .int (nI (t + 1))), (3, .int (ac + 1)), (5, .ref tr), (0, .ref a), (1, .int (nI i)), (2, .ref wc)]) hx hb dX6_burn_89 hl (k := 5) rfl (by exact nI_add _ 1) (by decide) rfl (fun ls hl => ?_)
            refine lv_goto (tgt := 22) hx hb dX6_burn_92 (by decide) ?_
            exact ih22 (t + 1) (ac + 1) w83 (va_up I1 29 (I1 29 + l_sum (fun j => cupS F1 (3 * t + j)) (L (2 + t)))) (zeroC (setA F1 8 t 1) (12 * t) (12 * t + 12)) (by omega) (by omega) (by rw [hstep, hS1]) (hII) (hFF) (hrep) (hinv) (hKp.trans hkp) _ _ hH ls (lv_sub hl [3, 4, 5, 1, 0] rfl)
  · have hnw := hno
    refine lv_astore_nN (lv' := [(2, .null), (0, .ref a), (1, .int wd0)]) hx hb dX6_burn_5 rfl hl (by decide) rfl (fun ls hl => ?_)
    refine lv_aload_nN hx hb dX6_burn_6 rfl (lv_at hl 0 rfl) ?_
    refine lv_ifnonnullN hx hb dX6_burn_7 ?_
    refine lv_iconst (v := (-1)) hx hb dX6_burn_10 (by decide) ?_
    exact x_iret (v := (-1)) w hx hb hr hlocks hK hH (by rw [show sBurn I F (L 0) wd0 = (-1, I, F) from if_pos (bin6n hnw)]; exact ⟨rfl, Nx.same hR hV ha hE (fun _ _ => rfl)⟩) dX6_burn_11
