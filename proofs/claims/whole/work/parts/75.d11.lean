
theorem brlsR {G : XG} {w : XW} {ad : YA} {E : YE} {cp L wd bw : Nat → Nat} {lb : Nat → Option Nat} {I : Nat → Int32} {F : Nat → Nat → Int32} (hR : Rep G w ad E cp L wd bw lb I F) {j y : Nat} (hy : ldat ad L 1 j = some y) : ∃ vs, w y = some (.inr (1, vs)) := by
  by_cases h : j < L 1
  · rw [ldat_b ad L h] at hy
    cases hy
    exact ⟨_, hR.brl h⟩
  · rw [show ldat ad L 1 j = none from if_neg h] at hy
    cases hy

set_option maxHeartbeats 4000000 in
set_option maxRecDepth 100000 in
theorem c_X6_pour (l : Launch) (G : XG) (A : Nat → Prop) (w : XW) (a : Nat) (ad : YA) (E : YE) (cp L wd bw : Nat → Nat) (lb : Nat → Option Nat) (I : Nat → Int32) (F : Nat → Nat → Int32) (hc_a : w a = some (.inr (7, [.ref (ad 1 0 0), .ref (ad 2 0 0), .ref (ad 3 0 0), .ref (ad 5 0 0), .ref (ad 5 1 0), .ref (ad 7 0 0), .ref (ad 8 0 0), .int (I 0), .int (I 30), .int (I 29), .int (I 31), .int (I 32)]))) (now : Nat) (hR : Rep G w ad E cp L wd bw lb I F) (hV : Inv now L wd bw lb I F) (ha : a = ad 0 0 0) (hE : ∀ j, E 9 4 0 j = 0) (tr t g am : Nat) (htr : tr = ad 12 t 0) (ht : t < L 0) (hg : g < 4) (ham : am ≤ 400) (hcap : am ≤ capF F (nI (wd t)) (L 1)) : Met l yX6_pour wsX6_pour ({ frames := 7, cells := 8, slots := 800, locals := 191 }) (va_Pc [.ref a, .ref tr, .int (nI g), .int (nI am)] (xP G A (w))) (va_Qv (fun (u : XW) => Prd G w u ad E L wd now t am F (fillS t g (am + 1) I F (nI am))) (fun u t => xB G A (u) t) A) 8 800 A := by
  refine Met.ofW (cc := cX6_pour) (maxL := 7) (ret := none) (by decide) rfl ?_
  intro p e s m args below meth c s₁ B hml hv
  obtain ⟨rfl, hK, hH, hTt⟩ := hv
  have hx := B.exec
  have hb := B.bytes
  have hr := B.returns
  have hts := atoms_spec (ws := wsX6_pour) B.pre
  have hown : s.vm.findClass RX6 = some m.cls := findClass_of_methodNamed B.named
  have hlocks := B.notSynchronized
  have hiX0 : ∀ w ∈ wsX00, w ∈ wsX6_pour := by decide +kernel
  have hiX4 : ∀ w ∈ wsX40, w ∈ wsX6_pour := by decide +kernel
  have hiX5 : ∀ w ∈ wsX50, w ∈ wsX6_pour := by decide +kernel
  have hiX6 : ∀ w ∈ wsX60, w ∈ wsX6_pour := by decide +kernel
  have hf29 := hts (.fieldLink RX6 29 "ResinWoods" "barrels" "Ljava/util/List;") (by decide +kernel)
  have hf146 := hts (.fieldLink RX6 146 "ResinWoods$Tree" "wood" "LResinWoods$Wood;") (by decide +kernel)
  have hf177 := hts (.fieldLink RX6 177 "ResinWoods$Tree" "number" "I") (by decide +kernel)
  have hf270 := hts (.fieldLink RX6 270 "ResinWoods$Wood" "latest" "LResinWoods$Barrel;") (by decide +kernel)
  have hl := lv_entry ([.ref a, .ref tr, .int (nI g), .int (nI am)]) (n := 7) (Nat.le_of_ble_eq_true rfl)
  rw [lg_entry_eq]
  generalize (lg_sl ([.ref a, .ref tr, .int (nI g), .int (nI am)]) ++ List.replicate (7 - (lg_sl ([.ref a, .ref tr, .int (nI g), .int (nI am)])).length) Slot.unset).toArray = ls at hl ⊢
  have hl : lv_has ls 7 [(0, .ref a), (1, .ref tr), (2, .int (nI g)), (3, .int (nI am))] := hl
  have h60 : L 0 ≤ 60 := hV.1.2.2.2.1
  have hI3 : I 3 = nI (L 0) := hV.1.2.2.1
  have hI0 : I 0 = nI now := hV.1.1
  have hnow : now ≤ 3650 := hV.1.2.1
  obtain ⟨fa, hfa⟩ : ∃ z : Nat → Nat, z = fun j => ad 12 j 0 := ⟨_, rfl⟩
  obtain ⟨fba, hfba⟩ : ∃ z : Nat → Nat, z = fun j => ad 15 j 0 := ⟨_, rfl⟩
  obtain ⟨hs, hBV, hB1, hB2, hB3, hB4, hB5⟩ := hV.2.2.2.2
  have hI16 : I 16 = nI (L 1) := hBV.1
  have h200 : L 1 ≤ 200 := hBV.2.1
  obtain ⟨fwa, hfwa⟩ : ∃ z : Nat → Nat, z = fun j => ad 4 j 0 := ⟨_, rfl⟩
  refine lv_iload_n hx hb dX6_pour_0 rfl (lv_at hl 3 rfl) ?_
  refine lv_istore (lv' := [(4, .int (nI am)), (0, .ref a), (1, .ref tr), (2, .int (nI g)), (3, .int (nI am))]) hx hb dX6_pour_1 hl (by decide) rfl (fun ls hl => ?_)
  refine lv_iconst (v := 0) hx hb dX6_pour_3 (by decide) ?_
  refine lv_istore (lv' := [(5, .int 0), (4, .int (nI am)), (0, .ref a), (1, .ref tr), (2, .int (nI g)), (3, .int (nI am))]) hx hb dX6_pour_4 hl (by decide) rfl (fun ls hl => ?_)
  suffices loop6 : ∀ (k6 : Nat) (left : Nat) (cnt : Nat) (fu : Nat) (wl : XW) (ad1 : YA) (E1 : YE) (cp1 : Nat → Nat) (L1 : Nat → Nat) (bw1 : Nat → Nat) (lb1 : Nat → Option Nat) (I1 : Nat → Int32) (F1 : Nat → Nat → Int32), (2 < cnt + k6) → (left ≤ am) → (left < fu) → (fillS t g (am + 1) I F (nI am) = fillS t g fu I1 F1 (nI left)) → (Rep G wl ad1 E1 cp1 L1 wd bw1 lb1 I1 F1) → (Inv now L1 wd bw1 lb1 I1 F1) → (GrB w wl ad ad1 E E1 L L1) → (capF F1 (nI (wd t)) (L1 1) + am = capF F (nI (wd t)) (L 1) + left) → (left = 0 ∨ cnt = 0 ∨ (cnt = 1 ∧ ∀ q, q < L1 1 → bw1 q = wd t → fullI F1 q = 1)) → (cnt ≤ 2) → ∀ (H : Heap) (locs : List Loc), xH G A s.heap H locs (wl) → ∀ (ls : Array Slot), lv_has ls 7 [(0, .ref a), (1, .ref tr), (2, .int (nI g)), (3, .int (nI am)), (4, .int (nI left)), (5, .int (nI cnt))] → W p l e (headSpec wsX6_pour _).room s m _ below meth c H locs (4 * cnt) (400 * cnt) (MQ below _ _ s 8 800 A) (F0 m 6 ls []) from
    loop6 3 am 0 (am + 1) w ad E cp L bw lb I F (by omega) (Nat.le_refl _) (by omega) (rfl) (hR) (hV) (GrB.refl) (rfl) (Or.inr (Or.inl rfl)) (by omega) _ _ hH ls (lv_sub hl [2, 3, 4, 5, 1, 0] rfl)
  intro k6
  induction k6 with
  | zero =>
    intro left cnt fu wl ad1 E1 cp1 L1 bw1 lb1 I1 F1 hfuel hl9 hfu hS hR1 hV1 hG hC hcnt hcn2 H locs hH ls hl
    exact absurd hfuel (by omega)
  | succ k6 ih6 =>
    intro left cnt fu wl ad1 E1 cp1 L1 bw1 lb1 I1 F1 hfuel hl9 hfu hS hR1 hV1 hG hC hcnt hcn2 H locs hH ls hl
    have hH0 := hH
    have h1o : ∀ i, i ≠ 1 → L1 i = L i := hG.2.2.1
    have ht1 : t < L1 0 := by rw [h1o 0 (by decide)]; exact ht
    have h601 : L1 0 ≤ 60 := hV1.1.2.2.2.1
    obtain ⟨hT4, hT6, -, -, -, hT9, -, hT3⟩ := hV1.2.1 t ht1
    obtain ⟨hs1, hBV1, hB11, hB21, hB31, hB41, hB51⟩ := hV1.2.2.2.2
    have hbf : ∀ q, q < L1 1 → F1 17 q = nI (bw1 q) ∧ bw1 q < 6 := fun q hq => ⟨(hB11 q hq).1, (hB11 q hq).2.1⟩
    have h2001 : L1 1 ≤ 200 := hBV1.2.1
    have hcap1 : left ≤ capF F1 (nI (wd t)) (L1 1) := by omega
    have e0 : ad1 0 0 0 = a := (hG.1 0 0 0 (by decide) (by decide) (by decide) (by decide)).trans ha.symm
    have e12 : ad1 12 t 0 = tr := (hG.1 12 t 0 (by decide) (by decide) (by decide) (by omega)).trans htr.symm
    obtain ⟨wtc, hwtc⟩ : ∃ z, z = ad1 4 (wd t) 0 := ⟨_, rfl⟩
    obtain ⟨blc, hblc⟩ : ∃ z, z = ad1 5 1 0 := ⟨_, rfl⟩
    obtain ⟨bdc, hbdc⟩ : ∃ z, z = (if L1 1 = 0 then G.2 12 else ad1 6 1 0) := ⟨_, rfl⟩
    have hc_a : wl a = some (.inr (7, [.ref (ad1 1 0 0), .ref (ad1 2 0 0), .ref (ad1 3 0 0), .ref (ad1 5 0 0), .ref blc, .ref (ad1 7 0 0), .ref (ad1 8 0 0), .int (I1 0), .int (I1 30), .int (I1 29), .int (I1 31), .int (I1 32)])) := by rw [← e0, hblc]; exact hR1.root
    have hc_blc : wl blc = some (.inr (0, [.int (E1 5 1 0 0), .ref bdc, .int (nI (L1 1))])) := by rw [hblc, hbdc]; exact hR1.lst (by omega)
    have hc_tr : wl tr = some (.inr (5, [.int (nI t), .ref wtc, .int (F1 5 t * 100 + F1 6 t), .int (bearI (F1 7 t)), .ref (ad1 5 (2 + t) 0), .int (F1 8 t), .int (F1 10 t)])) := by rw [← e12, hwtc]; exact hR1.tree ht1
    have hc_wtc : wl wtc = some (.inr (6, [.int (nI (wd t)), .int (F1 22 (wd t)), .int (F1 23 (wd t)), .int (F1 24 (wd t)), .int (F1 25 (wd t)), va_rf ((lb1 (wd t)).map (fun b => ad1 15 b 0))])) := by rw [hwtc]; exact hR1.wood hT6
    have ne_a_blc : a ≠ blc := fun e9 => by rw [e9, hc_blc] at hc_a; cases hc_a
    have ne_a_tr : a ≠ tr := fun e9 => by rw [e9, hc_tr] at hc_a; cases hc_a
    have ne_a_wtc : a ≠ wtc := fun e9 => by rw [e9, hc_wtc] at hc_a; cases hc_a
    have ne_blc_a : blc ≠ a := fun e9 => by rw [e9, hc_a] at hc_blc; cases hc_blc
    have ne_blc_tr : blc ≠ tr := fun e9 => by rw [e9, hc_tr] at hc_blc; cases hc_blc
    have ne_blc_wtc : blc ≠ wtc := fun e9 => by rw [e9, hc_wtc] at hc_blc; cases hc_blc
    have ne_tr_a : tr ≠ a := fun e9 => by rw [e9, hc_a] at hc_tr; cases hc_tr
    have ne_tr_blc : tr ≠ blc := fun e9 => by rw [e9, hc_blc] at hc_tr; cases hc_tr
    have ne_tr_wtc : tr ≠ wtc := fun e9 => by rw [e9, hc_wtc] at hc_tr; cases hc_tr
    have ne_wtc_a : wtc ≠ a := fun e9 => by rw [e9, hc_a] at hc_wtc; cases hc_wtc
    have ne_wtc_blc : wtc ≠ blc := fun e9 => by rw [e9, hc_blc] at hc_wtc; cases hc_wtc
    have ne_wtc_tr : wtc ≠ tr := fun e9 => by rw [e9, hc_tr] at hc_wtc; cases hc_wtc
    refine lv_iload hx hb dX6_pour_6 (lv_at hl 4 rfl) ?_
    refine lv_if_le (tgt := 90) hx hb dX6_pour_8 (by decide) (fun c8 => ?_) (fun c8 => ?_)
    · have c8 : left ≤ 0 := (nI_leI (a := left) (b := 0) (by omega) (by omega)).mp c8
      refine W.widen (k := 8) (n := 800) (by omega) (by omega) ?_
      exact x_vret wl hx hb hr hlocks hK hH (by rw [hS, show left = 0 by omega, fillS_0]; exact ⟨ad1, E1, cp1, L1, bw1, lb1, hR1, hV1, hG, by show capF F1 (nI (wd t)) (L1 1) + am = _; omega⟩) dX6_pour_90
    · have c8 : ¬ left ≤ 0 := fun zz => c8 ((nI_leI (a := left) (b := 0) (by omega) (by omega)).mpr zz)
      obtain ⟨fu2, rfl⟩ : ∃ z, fu = z + 1 := ⟨fu - 1, by omega⟩
      have hleft : 0 < left := by omega
      have hcn1 : cnt ≤ 1 := by rcases hcnt with h9 | h9 | ⟨h9, -⟩ <;> omega
      refine lv_iload hx hb dX6_pour_11 (lv_at hl 5 rfl) ?_
      refine lv_sipush (v := 200) hx hb dX6_pour_13 (by decide) ?_
      refine lv_icmp_gt (tgt := 90) hx hb dX6_pour_16 (by decide) (fun c16 => ?_) (fun c16 => ?_)
      · have c16 : 200 < cnt := (nI_ltI (a := 200) (b := cnt) (by omega) (by omega)).mp c16
        exact absurd c16 (by omega)
      · have c16 : ¬ 200 < cnt := fun zz => c16 ((nI_ltI (a := 200) (b := cnt) (by omega) (by omega)).mpr zz)
        refine lv_aload_n hx hb dX6_pour_19 rfl (lv_at hl 1 rfl) ?_
        refine x_get (C := RX4) (T := TX4) (N := 7) hx hb hts hiX4 hown hK hH hc_tr rfl 1 (by decide) hf146 (fun _ h => h) (v := .ref wtc) rfl dX6_pour_20 ?_
        rcases hlb : lb1 (wd t) with _ | b
        · have hno : ∀ q, q < L1 1 → bw1 q = wd t → fullI F1 q = 1 := noOpen (hB41 (wd t) hT6) (fun b9 hb9 => by rw [hlb] at hb9; cases hb9)
          have hc_wtc : wl wtc = some (.inr (6, [.int (nI (wd t)), .int (F1 22 (wd t)), .int (F1 23 (wd t)), .int (F1 24 (wd t)), .int (F1 25 (wd t)), .null])) := by rw [hlb] at hc_wtc; exact hc_wtc
          refine x_callq (va_runV (As := []) (rest := []) ⟨hx, hb, hml, hown, hts⟩ (c0_X5_openBarrel l G A _ wtc _ _ _ _ _ hc_wtc) (cwV 0 hts gX6_pour_X5_openBarrel rfl rfl rfl (by decide +kernel) ⟨Nat.le_of_ble_eq_true rfl, Nat.le_of_ble_eq_true rfl⟩) (x_preV hK hH hTt (hc_wtc) rfl []) rfl rfl hl.1 rfl (lv_room (Nat.le_of_ble_eq_true rfl)) dX6_pour_23 ⟨by show _ ≤ 8; omega, by show _ ≤ 800; omega⟩) hH (fun r23 u H locs hp hH => ?_)
          obtain ⟨hrq, hu9⟩ := hp
          rw [hu9] at hH
          subst hrq
          refine lv_astoreN (lv' := [(6, .null), (0, .ref a), (1, .ref tr), (2, .int (nI g)), (3, .int (nI am)), (4, .int (nI left)), (5, .int (nI cnt))]) hx hb dX6_pour_26 hl (by decide) rfl (fun ls hl => ?_)
          refine lv_aloadN hx hb dX6_pour_28 (lv_at hl 0 rfl) ?_
          refine lv_ifnonnullN hx hb dX6_pour_30 ?_
          have hfst := fst_new (L := L1) (bw := bw1) (wd := wd) hT4 hT6 hbf hno
          obtain ⟨c9, hc9⟩ : ∃ z, z = if 1000 - hsF F1 (L1 1) ≤ left then 1000 - hsF F1 (L1 1) else left := ⟨_, rfl⟩
          obtain ⟨k1, k2, k3, k4, k5, k6, k7⟩ := inv_fill (F1 := setA F1 17 (L1 1) (F1 4 t)) (F3 := setA (setA (setA F1 17 (L1 1) (F1 4 t)) 18 (4 * L1 1 + g) (F1 18 (4 * L1 1 + g) + nI c9)) 19 (60 * L1 1 + t) (F1 19 (60 * L1 1 + t) + nI c9)) (L' := va_up L1 1 (L1 1 + 1)) (bw' := va_up bw1 (L1 1) (wd t)) (lb' := va_up lb1 (wd t) (some (L1 1))) (I' := va_up I1 16 (nI (L1 1 + 1))) (nB' := L1 1 + 1) hV1 ht1 hg hleft hcap1 hfst (Or.inl ⟨rfl, rfl, rfl, up_k _ _ _, rfl, rfl, hno⟩) (fun k hk => up_n _ _ hk) (upN_at _ _ _) (fun k hk => upN_ne _ _ hk) hc9 rfl
          obtain ⟨hzz, h20n, h21n⟩ := hBV1.2.2.2 (L1 1) (Nat.le_refl _) k1
          have hz0 : hsF F1 (L1 1) = 0 := (hsF_eq hBV1 k1).trans hzz
          have hasz : hasS F1 (L1 1) = 0 := by rw [k5, hz0]; rfl
          have hcl : c9 = left := by rw [hc9, hz0, if_neg (by omega)]
          have hmin : minI (nI left) (1000 - 0) = nI c9 := by have h9 := minc (h := 0) (a := left) (by omega) (by omega); rw [if_neg (by omega)] at h9; rw [hcl]; exact h9
          obtain ⟨h18n, h19n⟩ := hB31 (L1 1) (Nat.le_refl _) k1
          have hd0_a := hc_a
          have hd0_blc := hc_blc
          have hd0_tr := hc_tr
          have hd0_wtc := hc_wtc
          refine x_new (C := RX0) (T := TX0) (N := 6) (ci := 1) (fs := [.null, .int 0, .null, .null, .int 0, .int 0]) hx hb hts hiX0 tyX0 tyX0_ok hown (hts (.classLink RX6 171 RX0) (by decide +kernel)) (hts (.instantiable RX0 6) (by decide +kernel)) (hts (.initialized RX0) (by decide +kernel)) hK hH rfl (by decide +kernel) (by show _ ≤ 8; omega) (by show _ ≤ 800; omega) dX6_pour_33 (fun q33 H hq33 hH => ?_)
          have ne_a_q33 : a ≠ q33 := fun e9 => by rw [e9, hq33] at hc_a; cases hc_a
          have ne_q33_a : q33 ≠ a := fun e9 => ne_a_q33 e9.symm
          have ne_blc_q33 : blc ≠ q33 := fun e9 => by rw [e9, hq33] at hc_blc; cases hc_blc
          have ne_q33_blc : q33 ≠ blc := fun e9 => ne_blc_q33 e9.symm
          have ne_tr_q33 : tr ≠ q33 := fun e9 => by rw [e9, hq33] at hc_tr; cases hc_tr
          have ne_q33_tr : q33 ≠ tr := fun e9 => ne_tr_q33 e9.symm
          have ne_wtc_q33 : wtc ≠ q33 := fun e9 => by rw [e9, hq33] at hc_wtc; cases hc_wtc
          have ne_q33_wtc : q33 ≠ wtc := fun e9 => ne_wtc_q33 e9.symm
          obtain ⟨w33, ew33⟩ : ∃ z, z = va_up wl q33 (some (.inr (1, [.null, .int 0, .null, .null, .int 0, .int 0]))) := ⟨_, rfl⟩
          have hH : xH G A s.heap H _ (va_up wl q33 (some (.inr (1, [.null, .int 0, .null, .null, .int 0, .int 0])))) := hH
          rw [← ew33] at hH
          have hc_q33 : w33 q33 = some (.inr (1, [.null, .int 0, .null, .null, .int 0, .int 0])) := by rw [ew33]; exact if_pos rfl
          have hc_a : w33 a = some (.inr (7, [.ref (ad1 1 0 0), .ref (ad1 2 0 0), .ref (ad1 3 0 0), .ref (ad1 5 0 0), .ref blc, .ref (ad1 7 0 0), .ref (ad1 8 0 0), .int (I1 0), .int (I1 30), .int (I1 29), .int (I1 31), .int (I1 32)])) := by rw [ew33]; exact (if_neg ne_a_q33).trans hc_a
          have hc_blc : w33 blc = some (.inr (0, [.int (E1 5 1 0 0), .ref bdc, .int (nI (L1 1))])) := by rw [ew33]; exact (if_neg ne_blc_q33).trans hc_blc
          have hc_tr : w33 tr = some (.inr (5, [.int (nI t), .ref wtc, .int (F1 5 t * 100 + F1 6 t), .int (bearI (F1 7 t)), .ref (ad1 5 (2 + t) 0), .int (F1 8 t), .int (F1 10 t)])) := by rw [ew33]; exact (if_neg ne_tr_q33).trans hc_tr
          have hc_wtc : w33 wtc = some (.inr (6, [.int (nI (wd t)), .int (F1 22 (wd t)), .int (F1 23 (wd t)), .int (F1 24 (wd t)), .int (F1 25 (wd t)), .null])) := by rw [ew33]; exact (if_neg ne_wtc_q33).trans hc_wtc
          have hn_q33 : wl q33 = none := hq33
          have hfr : ∀ x, x ≠ a → x ≠ blc → x ≠ tr → x ≠ wtc → x ≠ q33 → w33 x = wl x := fun x z_a z_blc z_tr z_wtc z_q33 => by rw [ew33]; exact if_neg z_q33
          refine lv_dup hx hb dX6_pour_36 rfl ?_
          refine lv_aload_n hx hb dX6_pour_37 rfl (lv_at hl 2 rfl) ?_
          refine x_get (C := RX4) (T := TX4) (N := 7) hx hb hts hiX4 hown hK hH hc_tr rfl 1 (by decide) hf146 (fun _ h => h) (v := .ref wtc) rfl dX6_pour_38 ?_
          refine x_callv (va_runI (As := [.ref wtc]) (rest := [.ref q33]) ⟨hx, hb, hml, hown, hts⟩ (c_X0_init l G A _ q33 hc_q33 wtc) (cwI 1 hts gX6_pour_X0_init rfl rfl rfl (hts (.initialized RX0) (by decide +kernel)) (hts (.methodLink RX6 267 yX0_init) (by decide +kernel)) (hts (.instanceMethod yX0_init) (by decide +kernel)) rfl (by decide +kernel) ⟨Nat.le_of_ble_eq_true rfl, Nat.le_of_ble_eq_true rfl⟩) (x_preS hK hH hTt [.ref q33, .ref wtc]) rfl rfl hl.1 rfl (lv_room (Nat.le_of_ble_eq_true rfl)) dX6_pour_41 ⟨by show _ ≤ 8; omega, by show _ ≤ 800; omega⟩) hH (fun w41 H locs hp hH => ?_)
          have hd_a := hc_a
          have hd_blc := hc_blc
          have hd_tr := hc_tr
          have hd_wtc := hc_wtc
          have hd_q33 := hc_q33
          obtain ⟨ga41, ta41, hga41, hta41, ne_ga41_ta41, hc_q33, hc_ga41, hc_ta41, hfm41⟩ := hp
          have ne_ta41_ga41 : ta41 ≠ ga41 := fun e9 => ne_ga41_ta41 e9.symm
          have ne_a_ga41 : a ≠ ga41 := fun e9 => by rw [e9, hga41] at hd_a; cases hd_a
          have ne_ga41_a : ga41 ≠ a := fun e9 => ne_a_ga41 e9.symm
          have ne_blc_ga41 : blc ≠ ga41 := fun e9 => by rw [e9, hga41] at hd_blc; cases hd_blc
          have ne_ga41_blc : ga41 ≠ blc := fun e9 => ne_blc_ga41 e9.symm
          have ne_tr_ga41 : tr ≠ ga41 := fun e9 => by rw [e9, hga41] at hd_tr; cases hd_tr
          have ne_ga41_tr : ga41 ≠ tr := fun e9 => ne_tr_ga41 e9.symm
          have ne_wtc_ga41 : wtc ≠ ga41 := fun e9 => by rw [e9, hga41] at hd_wtc; cases hd_wtc
          have ne_ga41_wtc : ga41 ≠ wtc := fun e9 => ne_wtc_ga41 e9.symm
          have ne_q33_ga41 : q33 ≠ ga41 := fun e9 => by rw [e9, hga41] at hd_q33; cases hd_q33
          have ne_ga41_q33 : ga41 ≠ q33 := fun e9 => ne_q33_ga41 e9.symm
          have ne_a_ta41 : a ≠ ta41 := fun e9 => by rw [e9, hta41] at hd_a; cases hd_a
          have ne_ta41_a : ta41 ≠ a := fun e9 => ne_a_ta41 e9.symm
          have ne_blc_ta41 : blc ≠ ta41 := fun e9 => by rw [e9, hta41] at hd_blc; cases hd_blc
          have ne_ta41_blc : ta41 ≠ blc := fun e9 => ne_blc_ta41 e9.symm
          have ne_tr_ta41 : tr ≠ ta41 := fun e9 => by rw [e9, hta41] at hd_tr; cases hd_tr
          have ne_ta41_tr : ta41 ≠ tr := fun e9 => ne_tr_ta41 e9.symm
          have ne_wtc_ta41 : wtc ≠ ta41 := fun e9 => by rw [e9, hta41] at hd_wtc; cases hd_wtc
          have ne_ta41_wtc : ta41 ≠ wtc := fun e9 => ne_wtc_ta41 e9.symm
          have ne_q33_ta41 : q33 ≠ ta41 := fun e9 => by rw [e9, hta41] at hd_q33; cases hd_q33
          have ne_ta41_q33 : ta41 ≠ q33 := fun e9 => ne_q33_ta41 e9.symm
          have hc_a : w41 a = some (.inr (7, [.ref (ad1 1 0 0), .ref (ad1 2 0 0), .ref (ad1 3 0 0), .ref (ad1 5 0 0), .ref blc, .ref (ad1 7 0 0), .ref (ad1 8 0 0), .int (I1 0), .int (I1 30), .int (I1 29), .int (I1 31), .int (I1 32)])) := (hfm41 a ne_a_q33 ne_a_ga41 ne_a_ta41).trans hc_a
          have hc_blc : w41 blc = some (.inr (0, [.int (E1 5 1 0 0), .ref bdc, .int (nI (L1 1))])) := (hfm41 blc ne_blc_q33 ne_blc_ga41 ne_blc_ta41).trans hc_blc
          have hc_tr : w41 tr = some (.inr (5, [.int (nI t), .ref wtc, .int (F1 5 t * 100 + F1 6 t), .int (bearI (F1 7 t)), .ref (ad1 5 (2 + t) 0), .int (F1 8 t), .int (F1 10 t)])) := (hfm41 tr ne_tr_q33 ne_tr_ga41 ne_tr_ta41).trans hc_tr
          have hc_wtc : w41 wtc = some (.inr (6, [.int (nI (wd t)), .int (F1 22 (wd t)), .int (F1 23 (wd t)), .int (F1 24 (wd t)), .int (F1 25 (wd t)), .null])) := (hfm41 wtc ne_wtc_q33 ne_wtc_ga41 ne_wtc_ta41).trans hc_wtc
          have hn_ga41 : wl ga41 = none := (hfr ga41 ne_ga41_a ne_ga41_blc ne_ga41_tr ne_ga41_wtc ne_ga41_q33).symm.trans hga41
          have hn_ta41 : wl ta41 = none := (hfr ta41 ne_ta41_a ne_ta41_blc ne_ta41_tr ne_ta41_wtc ne_ta41_q33).symm.trans hta41
          have hfr : ∀ x, x ≠ a → x ≠ blc → x ≠ tr → x ≠ wtc → x ≠ q33 → x ≠ ga41 → x ≠ ta41 → w41 x = wl x := fun x z_a z_blc z_tr z_wtc z_q33 z_ga41 z_ta41 => (hfm41 x z_q33 z_ga41 z_ta41).trans (hfr x z_a z_blc z_tr z_wtc z_q33)
          refine lv_astore (lv' := [(6, .ref q33), (0, .ref a), (1, .ref tr), (2, .int (nI g)), (3, .int (nI am)), (4, .int (nI left)), (5, .int (nI cnt))]) hx hb dX6_pour_44 hl (by decide) rfl (fun ls hl => ?_)
          refine lv_aload_n hx hb dX6_pour_46 rfl (lv_at hl 1 rfl) ?_
          refine x_get (C := RX6) (T := TX6) (N := 12) hx hb hts hiX6 hown hK hH hc_a rfl 4 (by decide) hf29 (fun _ h => h) (v := .ref blc) rfl dX6_pour_47 ?_
          refine lv_aload hx hb dX6_pour_50 (lv_at hl 0 rfl) ?_
          have hL0 := lstR hR1 (i := 1) (by omega)
          rw [← hbdc] at hL0
          have hL : lstD G w41 bdc (L1 1) (cp1 1) (ldat ad1 L1 1) := hL0.elim Or.inl (fun h9 => Or.inr (Eq.trans (hfr bdc (fun e9 => by rw [e9, hd0_a] at h9; cases h9) (fun e9 => by rw [e9, hd0_blc] at h9; cases h9) (fun e9 => by rw [e9, hd0_tr] at h9; cases h9) (fun e9 => by rw [e9, hd0_wtc] at h9; cases h9) (fun e9 => by rw [e9, hn_q33] at h9; cases h9) (fun e9 => by rw [e9, hn_ga41] at h9; cases h9) (fun e9 => by rw [e9, hn_ta41] at h9; cases h9)) h9))
          have hel : ∀ i y : Nat, ldat ad1 L1 1 i = some y → ∃ vs, w41 y = some (.inr (1, vs)) := fun i y hy => by
            obtain ⟨vs9, h9⟩ := brlsR hR1 hy
            exact ⟨vs9, Eq.trans (hfr y (fun e9 => by rw [e9, hd0_a] at h9; cases h9) (fun e9 => by rw [e9, hd0_blc] at h9; cases h9) (fun e9 => by rw [e9, hd0_tr] at h9; cases h9) (fun e9 => by rw [e9, hd0_wtc] at h9; cases h9) (fun e9 => by rw [e9, hn_q33] at h9; cases h9) (fun e9 => by rw [e9, hn_ga41] at h9; cases h9) (fun e9 => by rw [e9, hn_ta41] at h9; cases h9)) h9⟩
          refine x_callFi (va_runF (As := [.ref q33]) (rest := []) (hK.1 0 _ rfl).2 ⟨hx, hb, hml, hown, hts⟩ (c_add l G A _ blc bdc q33 1 _ (E1 5 1 0 0) (L1 1) (cp1 1) (ldat ad1 L1 1) hc_blc hL hc_q33 (by omega) (hR1.2.2 1 (by omega)).1 (hR1.2.2 1 (by omega)).2.2 (hR1.2.2 1 (by omega)).2.1 (fun j hj => if_neg (by omega)) _ rfl (fun U hU => hU.2.2.2.2.2.2.2.2.2.1) hel (by decide)) (va_cwF 1 hts gX6_pour_Jx4a65c_add_9ea2d_f91Jx4a65c rfl rfl rfl hTt.2.2.2.2.1 (by decide +kernel) ⟨Nat.le_of_ble_eq_true rfl, Nat.le_of_ble_eq_true rfl⟩) (x_preV hK hH hTt hc_blc rfl [.ref q33]) rfl rfl hl.1 rfl (lv_room (Nat.le_of_ble_eq_true rfl)) dX6_pour_52 ⟨by show _ ≤ 8; omega, by show _ ≤ 800; omega⟩) hH (fun r52 u H locs hp hH => ?_)
          obtain ⟨rfl, q, cq1, f, hq1, hc_bl1, hc_q1, hcp1, hcp2, hfn1, hfn2, hfn3, hfm52⟩ := hp
          obtain ⟨wv, rfl⟩ : ∃ z, z = u := ⟨_, rfl⟩
          have hH : xH G A s.heap H locs wv := hH
          have nq : ∀ y z, w41 y = some (.inr z) → q ≠ y := fun y z hy e9 => hq1.elim (fun h3 => by rw [e9, hy] at h3; cases h3) (fun ⟨h3, cap3, h4⟩ => by rw [← h3, e9, hy] at h4; cases h4)
          have nqi : ∀ y cl k f9, w41 y = some (.inl (cl, k, .inl f9)) → q ≠ y := fun y cl k f9 hy e9 => hq1.elim (fun h3 => by rw [e9, hy] at h3; cases h3) (fun ⟨h3, cap3, h4⟩ => by rw [← h3, e9, hy] at h4; cases h4)
          have hwq : wl q = none ∨ (q = bdc ∧ ∃ cap, wl bdc = some (.inl (G.2 4, cap, .inr (.inr (.inr (.inr (ldat ad1 L1 1))))))) := hq1.elim (fun h9 => Or.inl (Eq.trans (hfr q (fun e9 => by rw [e9, hc_a] at h9; cases h9) (fun e9 => by rw [e9, hc_blc] at h9; cases h9) (fun e9 => by rw [e9, hc_tr] at h9; cases h9) (fun e9 => by rw [e9, hc_wtc] at h9; cases h9) (fun e9 => by rw [e9, hc_q33] at h9; cases h9) (fun e9 => by rw [e9, hc_ga41] at h9; cases h9) (fun e9 => by rw [e9, hc_ta41] at h9; cases h9)).symm h9)) (fun ⟨h3, cap3, h4⟩ => Or.inr ⟨h3, cap3, Eq.trans (hfr bdc (fun e9 => by rw [e9, hc_a] at h4; simp at h4) (fun e9 => by rw [e9, hc_blc] at h4; simp at h4) (fun e9 => by rw [e9, hc_tr] at h4; simp at h4) (fun e9 => by rw [e9, hc_wtc] at h4; simp at h4) (fun e9 => by rw [e9, hc_q33] at h4; simp at h4) (fun e9 => by rw [e9, hc_ga41] at h4; simp at h4) (fun e9 => by rw [e9, hc_ta41] at h4; simp at h4)).symm h4⟩)
          have nq_a := nq _ _ hc_a
          have nq_tr := nq _ _ hc_tr
          have nq_wtc := nq _ _ hc_wtc
          have nq_q33 := nq _ _ hc_q33
          have nq_ga41 := nqi _ _ _ _ hc_ga41
          have nq_ta41 := nqi _ _ _ _ hc_ta41
          have hc_a : wv a = some (.inr (7, [.ref (ad1 1 0 0), .ref (ad1 2 0 0), .ref (ad1 3 0 0), .ref (ad1 5 0 0), .ref blc, .ref (ad1 7 0 0), .ref (ad1 8 0 0), .int (I1 0), .int (I1 30), .int (I1 29), .int (I1 31), .int (I1 32)])) := (hfm52 a ne_a_blc nq_a.symm).trans hc_a
          have hc_tr : wv tr = some (.inr (5, [.int (nI t), .ref wtc, .int (F1 5 t * 100 + F1 6 t), .int (bearI (F1 7 t)), .ref (ad1 5 (2 + t) 0), .int (F1 8 t), .int (F1 10 t)])) := (hfm52 tr ne_tr_blc nq_tr.symm).trans hc_tr
          have hc_wtc : wv wtc = some (.inr (6, [.int (nI (wd t)), .int (F1 22 (wd t)), .int (F1 23 (wd t)), .int (F1 24 (wd t)), .int (F1 25 (wd t)), .null])) := (hfm52 wtc ne_wtc_blc nq_wtc.symm).trans hc_wtc
          have hc_q33 : wv q33 = some (.inr (1, [.ref wtc, .int 0, .ref ga41, .ref ta41, .int 0, .int 0])) := (hfm52 q33 ne_q33_blc nq_q33.symm).trans hc_q33
          have hc_ga41 : wv ga41 = some (.inl (G.2 0, 4, .inl (fun _ => 0))) := (hfm52 ga41 ne_ga41_blc nq_ga41.symm).trans hc_ga41
          have hc_ta41 : wv ta41 = some (.inl (G.2 0, 60, .inl (fun _ => 0))) := (hfm52 ta41 ne_ta41_blc nq_ta41.symm).trans hc_ta41
          have hfr : ∀ x, x ≠ a → x ≠ blc → x ≠ tr → x ≠ wtc → x ≠ q33 → x ≠ ga41 → x ≠ ta41 → x ≠ q → wv x = wl x := fun x z_a z_blc z_tr z_wtc z_q33 z_ga41 z_ta41 z_q => (hfm52 x z_blc z_q).trans (hfr x z_a z_blc z_tr z_wtc z_q33 z_ga41 z_ta41)
          have hc_blc := hc_bl1
          refine lv_pop hx hb dX6_pour_57 rfl ?_
          refine lv_aload_n hx hb dX6_pour_58 rfl (lv_at hl 2 rfl) ?_
          refine x_get (C := RX4) (T := TX4) (N := 7) hx hb hts hiX4 hown hK hH hc_tr rfl 1 (by decide) hf146 (fun _ h => h) (v := .ref wtc) rfl dX6_pour_59 ?_
          refine lv_aload hx hb dX6_pour_62 (lv_at hl 0 rfl) ?_
          refine x_put (C := RX5) (T := TX5) (N := 6) (ty := .object "ResinWoods$Barrel") hx hb hts hiX5 tyX5 tyX5_ok nmX5 hown hK hH hc_wtc rfl 5 (by decide) hf270 (fun _ h => h) rfl (by decide +kernel) rfl rfl (Nat.le_of_ble_eq_true rfl) dX6_pour_64 (fun H locs hH => ?_)
          have hH : xH G A s.heap H locs (va_up wv wtc (some (.inr (6, [.int (nI (wd t)), .int (F1 22 (wd t)), .int (F1 23 (wd t)), .int (F1 24 (wd t)), .int (F1 25 (wd t)), .ref q33])))) := hH
          obtain ⟨w64, ew64⟩ : ∃ z, z = va_up wv wtc (some (.inr (6, [.int (nI (wd t)), .int (F1 22 (wd t)), .int (F1 23 (wd t)), .int (F1 24 (wd t)), .int (F1 25 (wd t)), .ref q33]))) := ⟨_, rfl⟩
          rw [← ew64] at hH
          have hc_a : w64 a = some (.inr (7, [.ref (ad1 1 0 0), .ref (ad1 2 0 0), .ref (ad1 3 0 0), .ref (ad1 5 0 0), .ref blc, .ref (ad1 7 0 0), .ref (ad1 8 0 0), .int (I1 0), .int (I1 30), .int (I1 29), .int (I1 31), .int (I1 32)])) := by rw [ew64, show va_up wv wtc _ a = wv a from if_neg ne_a_wtc]; exact hc_a
          have hc_blc : w64 blc = some (.inr (0, [.int (E1 5 1 0 0 + 1), .ref q, .int (nI (L1 1 + 1))])) := by rw [ew64, show va_up wv wtc _ blc = wv blc from if_neg ne_blc_wtc]; exact hc_blc
          have hc_tr : w64 tr = some (.inr (5, [.int (nI t), .ref wtc, .int (F1 5 t * 100 + F1 6 t), .int (bearI (F1 7 t)), .ref (ad1 5 (2 + t) 0), .int (F1 8 t), .int (F1 10 t)])) := by rw [ew64, show va_up wv wtc _ tr = wv tr from if_neg ne_tr_wtc]; exact hc_tr
          have hc_wtc : w64 wtc = some (.inr (6, [.int (nI (wd t)), .int (F1 22 (wd t)), .int (F1 23 (wd t)), .int (F1 24 (wd t)), .int (F1 25 (wd t)), .ref q33])) := by rw [ew64]; exact if_pos rfl
          have hc_q33 : w64 q33 = some (.inr (1, [.ref wtc, .int 0, .ref ga41, .ref ta41, .int 0, .int 0])) := by rw [ew64, show va_up wv wtc _ q33 = wv q33 from if_neg ne_q33_wtc]; exact hc_q33
          have hc_ga41 : w64 ga41 = some (.inl (G.2 0, 4, .inl (fun _ => 0))) := by rw [ew64, show va_up wv wtc _ ga41 = wv ga41 from if_neg ne_ga41_wtc]; exact hc_ga41
          have hc_ta41 : w64 ta41 = some (.inl (G.2 0, 60, .inl (fun _ => 0))) := by rw [ew64, show va_up wv wtc _ ta41 = wv ta41 from if_neg ne_ta41_wtc]; exact hc_ta41
          have hfr : ∀ x, x ≠ a → x ≠ blc → x ≠ tr → x ≠ wtc → x ≠ q33 → x ≠ ga41 → x ≠ ta41 → x ≠ q → w64 x = wl x := fun x z_a z_blc z_tr z_wtc z_q33 z_ga41 z_ta41 z_q => by rw [ew64]; exact (if_neg z_wtc).trans (hfr x z_a z_blc z_tr z_wtc z_q33 z_ga41 z_ta41 z_q)
          have hz12 := x_no12 hH0 hTt
          rw [hbdc] at hwq
          have nq_w64 : w64 q = some (.inl (G.2 4, cq1, .inr (.inr (.inr (.inr f))))) := by rw [ew64]; exact (if_neg nq_wtc).trans hc_q1
          have hfrn : ∀ z, z ≠ q33 → z ≠ ga41 → z ≠ ta41 → z ≠ ad1 5 1 0 → z ≠ q → z ≠ ad1 4 (wd t) 0 → w64 z = wl z := fun z z1 z2 z3 z4 z5 z6 => if z7 : z = a then (by rw [z7, hc_a]; exact hd0_a.symm) else if z8 : z = tr then (by rw [z8, hc_tr]; exact hd0_tr.symm) else hfr z z7 (by rw [hblc]; exact z4) z8 (by rw [hwtc]; exact z6) z1 z2 z3 z5
          have hRn := rep_newb (G := G) (w := wl) (u := w64) (bq := q33) (gq := ga41) (tq := ta41) (q := q) (c1 := cq1) (wn := wd t) (fn := f) hR1 (fun i9 b9 hi9 hb9 => by have h9 := hB41 i9 hi9; rw [hb9] at h9; exact h9.1) hz12 hT6 hasz h18n h19n h20n h21n hn_q33 hn_ga41 hn_ta41 ne_q33_ga41 ne_q33_ta41 ne_ga41_ta41 hwq nq_q33 nq_ga41 nq_ta41 hfn1 hfn2 hfn3 hcp1 hcp2 (by rw [hc_q33, hwtc]) hc_ga41 hc_ta41 (by rw [← hblc]; exact hc_blc) nq_w64 (by rw [← hwtc]; exact hc_wtc) hfrn
          have hGn := GrB.newb (G := G) (w := wl) (u := w64) (bq := q33) (gq := ga41) (tq := ta41) (q := q) (wn := wd t) (x := E1 5 1 0 0 + 1) hR1 hz12 hT6 hn_q33 hn_ga41 hn_ta41 hwq (by rw [hc_q33]; exact fun z => by cases z) (by rw [hc_ga41]; exact fun z => by cases z) (by rw [hc_ta41]; exact fun z => by cases z) (by rw [← hblc, hc_blc]; exact fun z => by cases z) (by rw [nq_w64]; exact fun z => by cases z) (by rw [← hwtc, hc_wtc]; exact fun z => by cases z) hfrn
          refine lv_iload hx hb dX6_pour_67 (lv_at hl 5 rfl) ?_
          refine lv_aload hx hb dX6_pour_69 (lv_at hl 0 rfl) ?_
          refine lv_aload_n hx hb dX6_pour_71 rfl (lv_at hl 2 rfl) ?_
          refine x_get (C := RX4) (T := TX4) (N := 7) hx hb hts hiX4 hown hK hH hc_tr rfl 0 (by decide) hf177 (fun _ h => h) (v := .int (nI t)) rfl dX6_pour_72 ?_
          refine lv_iload_n hx hb dX6_pour_75 rfl (lv_at hl 3 rfl) ?_
          refine lv_iload hx hb dX6_pour_76 (lv_at hl 5 rfl) ?_
          refine x_calli (va_runV (As := [.int (nI t), .int (nI g), .int (nI left)]) (rest := [.int (nI left)]) ⟨hx, hb, hml, hown, hts⟩ (c_X0_fill l G A _ q33 ga41 ta41 _ _ _ _ _ _ hc_q33 hc_ga41 hc_ta41 t g (nI left) (by omega) hg ne_ga41_ta41) (cwV 3 hts gX6_pour_X0_fill rfl rfl rfl (by decide +kernel) ⟨Nat.le_of_ble_eq_true rfl, Nat.le_of_ble_eq_true rfl⟩) (x_preV hK hH hTt (hc_q33) rfl [.int (nI t), .int (nI g), .int (nI left)]) rfl rfl hl.1 rfl (lv_room (Nat.le_of_ble_eq_true rfl)) dX6_pour_78 ⟨by show _ ≤ 8; omega, by show _ ≤ 800; omega⟩) hH (fun r78 w78 H locs hp hH => ?_)
          obtain ⟨hrf, hu_b, hu_g, hu_t, hfmF⟩ := hp
          rw [hmin] at hrf hu_b hu_g hu_t
          subst hrf
          have e17n : nI (wd t) = F1 4 t := hT4.symm
          rw [e17n] at hRn
          have hb15 := brA_15 ad1 (L1 1) q33 ga41 ta41 q
          have hb16 := brA_16 ad1 (L1 1) q33 ga41 ta41 q
          have hb17 := brA_17 ad1 (L1 1) q33 ga41 ta41 q
          have hb4 : brA ad1 (L1 1) q33 ga41 ta41 q 4 (va_up bw1 (L1 1) (wd t) (L1 1)) 0 = wtc := by rw [upN_at, brA_o _ _ _ _ _ _ (by omega) (by omega), hwtc]
          have hl1n : L1 1 < va_up L1 1 (L1 1 + 1) 1 := by rw [upN_at]; omega
          have n18 : ∀ z, setA F1 17 (L1 1) (F1 4 t) 18 z = F1 18 z := fun z => by rw [setA_n _ _ _ (by decide)]
          have n19 : ∀ z, setA F1 17 (L1 1) (F1 4 t) 19 z = F1 19 z := fun z => by rw [setA_n _ _ _ (by decide)]
          have hzg : bg4 (setA F1 17 (L1 1) (F1 4 t)) (L1 1) = fun _ => 0 := funext fun z => if hz : z < 4 then (by unfold bg4; rw [if_pos hz, n18, h18n z hz]) else (by unfold bg4; rw [if_neg hz])
          have hzt : bt60 (setA F1 17 (L1 1) (F1 4 t)) (L1 1) = fun _ => 0 := funext fun z => if hz : z < 60 then (by unfold bt60; rw [if_pos hz, n19, h19n z hz]) else (by unfold bt60; rw [if_neg hz])
          have hRf := rep_fill (u := w78) (b := L1 1) (c := nI c9) hRn hl1n hg (by omega : t < 60) (by rw [hb15, hb16, hb17, hb4, hasS_set _ _ _ _ (by decide), hasz, setA_n _ _ _ (by decide), setA_n _ _ _ (by decide), h20n, h21n]; exact hu_b) (by rw [hb16, hzg]; exact hu_g) (by rw [hb17, hzt]; exact hu_t) (fun y y1 y2 y3 => hfmF y (by rw [← hb15]; exact y1) (by rw [← hb16]; exact y2) (by rw [← hb17]; exact y3))
          rw [n18, n19] at hRf
          have hGf := hGn.trans (GrB.step (E := upE E1 5 1 0 0 (E1 5 1 0 0 + 1)) (fun y hy => hfmF y (by rw [← hb15]; exact hy 15 (L1 1) 0 ⟨hl1n, rfl⟩) (by rw [← hb16]; exact hy 16 (L1 1) 0 ⟨hl1n, rfl⟩) (by rw [← hb17]; exact hy 17 (L1 1) 0 ⟨hl1n, rfl⟩)) hRf.some)
          have hSf := hS.trans (fillS_new (c := c9) (h := 0) hBV1.1 h2001 hleft (by omega) hfst (hasz.trans (by rfl : (0 : Int32) = nI 0)) (by omega) (by rw [hcl, if_neg (by omega)]))
          refine N_isub hx hb left c9 rfl rfl (by omega) dX6_pour_81 ?_
          refine lv_istore (lv' := [(4, .int (nI (left - c9))), (6, .ref q33), (0, .ref a), (1, .ref tr), (2, .int (nI g)), (3, .int (nI am)), (5, .int (nI cnt))]) hx hb dX6_pour_82 hl (by decide) rfl (fun ls hl => ?_)
          refine lv_iinc (v := nI (cnt + 1)) (lv' := [(5, .int (nI (cnt + 1))), (4, .int (nI (left - c9))), (6, .ref q33), (0, .ref a), (1, .ref tr), (2, .int (nI g)), (3, .int (nI am))]) hx hb dX6_pour_84 hl (k := 6) rfl (by exact nI_add _ 1) (by decide) rfl (fun ls hl => ?_)
          refine lv_goto (tgt := 6) hx hb dX6_pour_87 (by decide) ?_
          refine W.widen (k := 4 * (cnt + 1)) (n := 400 * (cnt + 1)) (by omega) (by omega) ?_
          exact ih6 (left - c9) (cnt + 1) fu2 w78 (brA ad1 (L1 1) q33 ga41 ta41 q) (upE E1 5 1 0 0 (E1 5 1 0 0 + 1)) (va_up cp1 1 cq1) (va_up L1 1 (L1 1 + 1)) (va_up bw1 (L1 1) (wd t)) (va_up lb1 (wd t) (some (L1 1))) (va_up I1 16 (nI (L1 1 + 1))) (setA (setA (setA F1 17 (L1 1) (F1 4 t)) 18 (4 * L1 1 + g) (F1 18 (4 * L1 1 + g) + nI c9)) 19 (60 * L1 1 + t) (F1 19 (60 * L1 1 + t) + nI c9)) (by omega) (by omega) (by omega) (hSf) (hRf) (k6) (hG.trans hGf) (by rw [upN_at]; omega) (Or.inl (by omega)) (by omega) _ _ hH ls (lv_sub hl [3, 4, 5, 6, 1, 0] rfl)
        · have hok := hB41 (wd t) hT6
          rw [hlb] at hok
          obtain ⟨hbb1, hbb2, hbb3⟩ := hok
          obtain ⟨brc, hbrc⟩ : ∃ z, z = ad1 15 b 0 := ⟨_, rfl⟩
          obtain ⟨bgc, hbgc⟩ : ∃ z, z = ad1 16 b 0 := ⟨_, rfl⟩
          obtain ⟨btc, hbtc⟩ : ∃ z, z = ad1 17 b 0 := ⟨_, rfl⟩
          have hc_wtc : wl wtc = some (.inr (6, [.int (nI (wd t)), .int (F1 22 (wd t)), .int (F1 23 (wd t)), .int (F1 24 (wd t)), .int (F1 25 (wd t)), .ref brc])) := by rw [hlb] at hc_wtc; rw [hbrc]; exact hc_wtc
          have hc_brc : wl brc = some (.inr (1, [.ref (ad1 4 (bw1 b) 0), .int (hasS F1 b), .ref bgc, .ref btc, .int (F1 20 b), .int (F1 21 b)])) := by rw [hbrc, hbgc, hbtc]; exact hR1.brl hbb1
          have hc_bgc : wl bgc = some (.inl (G.2 0, 4, .inl (bg4 F1 b))) := by rw [hbgc]; exact hR1.bgr hbb1
          have hc_btc : wl btc = some (.inl (G.2 0, 60, .inl (bt60 F1 b))) := by rw [hbtc]; exact hR1.btr hbb1
          have ne_bgc_btc : bgc ≠ btc := fun e9 => by rw [e9, hc_btc] at hc_bgc; simp at hc_bgc
          have hfulleq : fullB (hasS F1 b) (F1 20 b) (F1 21 b) = fullI F1 b := fullB_eq (hBV1.2.2.1 b (by omega)).1 (hBV1.2.2.1 b (by omega)).2
          refine x_callq (va_runV (As := []) (rest := []) ⟨hx, hb, hml, hown, hts⟩ (c1_X5_openBarrel l G A _ wtc brc _ _ _ _ _ _ _ _ _ _ _ hc_wtc hc_brc) (cwV 0 hts gX6_pour_X5_openBarrel rfl rfl rfl (by decide +kernel) ⟨Nat.le_of_ble_eq_true rfl, Nat.le_of_ble_eq_true rfl⟩) (x_preV hK hH hTt (hc_wtc) rfl []) rfl rfl hl.1 rfl (lv_room (Nat.le_of_ble_eq_true rfl)) dX6_pour_23 ⟨by show _ ≤ 8; omega, by show _ ≤ 800; omega⟩) hH (fun r23 u H locs hp hH => ?_)
          obtain ⟨hrq, hu9⟩ := hp
          rw [hu9] at hH
          subst hrq
          by_cases hop : fullB (hasS F1 b) (F1 20 b) (F1 21 b) = 0
          · rw [if_pos hop]
            have hopI : fullI F1 b = 0 := hfulleq.symm.trans hop
            have hfst := fst_old (L := L1) (bw := bw1) (wd := wd) hT4 hT6 hbf hbb1 hbb2 hopI hbb3
            obtain ⟨c9, hc9⟩ : ∃ z, z = if 1000 - hsF F1 b ≤ left then 1000 - hsF F1 b else left := ⟨_, rfl⟩
            obtain ⟨k1, k2, k3, k4, k5, k6, k7⟩ := inv_fill (F1 := F1) (F3 := setA (setA F1 18 (4 * b + g) (F1 18 (4 * b + g) + nI c9)) 19 (60 * b + t) (F1 19 (60 * b + t) + nI c9)) (L' := L1) (bw' := bw1) (lb' := lb1) (I' := I1) (nB' := L1 1) hV1 ht1 hg hleft hcap1 hfst (Or.inr ⟨by omega, rfl, rfl, hBV1.1, rfl, rfl, hbb2⟩) (fun _ _ => rfl) rfl (fun _ _ => rfl) hc9 rfl
            have hmin : minI (nI left) (1000 - hasS F1 b) = nI c9 := by rw [k5, minc (by omega) (by omega), hc9]
            have hcnt0 : cnt = 0 := by
              rcases hcnt with h9 | h9 | ⟨h9, h8⟩
              · omega
              · exact h9
              · have h7 := h8 b hbb1 hbb2
                rw [hopI] at h7
                exact absurd h7 (by decide)
            refine lv_astore (lv' := [(6, .ref brc), (0, .ref a), (1, .ref tr), (2, .int (nI g)), (3, .int (nI am)), (4, .int (nI left)), (5, .int (nI cnt))]) hx hb dX6_pour_26 hl (by decide) rfl (fun ls hl => ?_)
            refine lv_aload hx hb dX6_pour_28 (lv_at hl 0 rfl) ?_
            refine lv_ifnonnull (tgt := 67) hx hb dX6_pour_30 (by decide) ?_
            refine lv_iload hx hb dX6_pour_67 (lv_at hl 5 rfl) ?_
            refine lv_aload hx hb dX6_pour_69 (lv_at hl 0 rfl) ?_
            refine lv_aload_n hx hb dX6_pour_71 rfl (lv_at hl 2 rfl) ?_
            refine x_get (C := RX4) (T := TX4) (N := 7) hx hb hts hiX4 hown hK hH hc_tr rfl 0 (by decide) hf177 (fun _ h => h) (v := .int (nI t)) rfl dX6_pour_72 ?_
            refine lv_iload_n hx hb dX6_pour_75 rfl (lv_at hl 3 rfl) ?_
            refine lv_iload hx hb dX6_pour_76 (lv_at hl 5 rfl) ?_
            refine x_calli (va_runV (As := [.int (nI t), .int (nI g), .int (nI left)]) (rest := [.int (nI left)]) ⟨hx, hb, hml, hown, hts⟩ (c_X0_fill l G A _ brc bgc btc _ _ _ _ _ _ hc_brc hc_bgc hc_btc t g (nI left) (by omega) hg ne_bgc_btc) (cwV 3 hts gX6_pour_X0_fill rfl rfl rfl (by decide +kernel) ⟨Nat.le_of_ble_eq_true rfl, Nat.le_of_ble_eq_true rfl⟩) (x_preV hK hH hTt (hc_brc) rfl [.int (nI t), .int (nI g), .int (nI left)]) rfl rfl hl.1 rfl (lv_room (Nat.le_of_ble_eq_true rfl)) dX6_pour_78 ⟨by show _ ≤ 8; omega, by show _ ≤ 800; omega⟩) hH (fun r78 w78 H locs hp hH => ?_)
            obtain ⟨hrf, hu_b, hu_g, hu_t, hfmF⟩ := hp
            rw [hmin] at hrf hu_b hu_g hu_t
            subst hrf
            have hRf := rep_fill (u := w78) (c := nI c9) hR1 hbb1 hg (by omega : t < 60) (by rw [← hbrc, ← hbgc, ← hbtc]; exact hu_b) (by rw [← hbgc]; exact hu_g) (by rw [← hbtc]; exact hu_t) (fun y y1 y2 y3 => hfmF y (by rw [hbrc]; exact y1) (by rw [hbgc]; exact y2) (by rw [hbtc]; exact y3))
            have hGf : GrB wl w78 ad1 ad1 E1 E1 L1 L1 := GrB.step (fun y hy => hfmF y (by rw [hbrc]; exact hy 15 b 0 ⟨hbb1, rfl⟩) (by rw [hbgc]; exact hy 16 b 0 ⟨hbb1, rfl⟩) (by rw [hbtc]; exact hy 17 b 0 ⟨hbb1, rfl⟩)) hRf.some
            have hSf := hS.trans (fillS_old hBV1.1 h2001 hleft (by omega) hfst (by omega) k5 (by omega) hc9)
            have hcf : left - c9 = 0 ∨ cnt + 1 = 0 ∨ (cnt + 1 = 1 ∧ ∀ q, q < L1 1 → bw1 q = wd t → fullI (setA (setA F1 18 (4 * b + g) (F1 18 (4 * b + g) + nI c9)) 19 (60 * b + t) (F1 19 (60 * b + t) + nI c9)) q = 1) := by
              by_cases hcl : c9 = left
              · exact Or.inl (by omega)
              · have he : hsF F1 b + c9 = 1000 := by rw [hc9] at hcl ⊢; split at hcl <;> split <;> omega
                have hfb : fullI (setA (setA F1 18 (4 * b + g) (F1 18 (4 * b + g) + nI c9)) 19 (60 * b + t) (F1 19 (60 * b + t) + nI c9)) b = 1 := hs_full (F := F1) (h := hsF F1 b) (c := c9) (by rw [hasS_set _ _ _ _ (by decide), hasS_add _ _ _ _ hg, k5, nI_add]) he
                obtain ⟨hs9, -, -, -, -, hq5, -⟩ := k6.2.2.2.2
                exact Or.inr (Or.inr ⟨by omega, noOpen (hq5 (wd t) hT6) (fun b9 hb9 => by rw [hlb] at hb9; cases hb9; rw [hfb]; decide)⟩)
            refine N_isub hx hb left c9 rfl rfl (by omega) dX6_pour_81 ?_
            refine lv_istore (lv' := [(4, .int (nI (left - c9))), (6, .ref brc), (0, .ref a), (1, .ref tr), (2, .int (nI g)), (3, .int (nI am)), (5, .int (nI cnt))]) hx hb dX6_pour_82 hl (by decide) rfl (fun ls hl => ?_)
            refine lv_iinc (v := nI (cnt + 1)) (lv' := [(5, .int (nI (cnt + 1))), (4, .int (nI (left - c9))), (6, .ref brc), (0, .ref a), (1, .ref tr), (2, .int (nI g)), (3, .int (nI am))]) hx hb dX6_pour_84 hl (k := 6) rfl (by exact nI_add _ 1) (by decide) rfl (fun ls hl => ?_)
            refine lv_goto (tgt := 6) hx hb dX6_pour_87 (by decide) ?_
            refine W.widen (k := 4 * (cnt + 1)) (n := 400 * (cnt + 1)) (by omega) (by omega) ?_
            exact ih6 (left - c9) (cnt + 1) fu2 w78 ad1 E1 cp1 L1 bw1 lb1 I1 (setA (setA F1 18 (4 * b + g) (F1 18 (4 * b + g) + nI c9)) 19 (60 * b + t) (F1 19 (60 * b + t) + nI c9)) (by omega) (by omega) (by omega) (hSf) (hRf) (k6) (hG.trans hGf) (by omega) (hcf) (by omega) _ _ hH ls (lv_sub hl [3, 4, 5, 6, 1, 0] rfl)
          · rw [if_neg hop]
            have hno : ∀ q, q < L1 1 → bw1 q = wd t → fullI F1 q = 1 := noOpen (hB41 (wd t) hT6) (fun b9 hb9 => by rw [hlb] at hb9; cases hb9; exact fun z => hop (hfulleq.trans z))
            refine lv_astoreN (lv' := [(6, .null), (0, .ref a), (1, .ref tr), (2, .int (nI g)), (3, .int (nI am)), (4, .int (nI left)), (5, .int (nI cnt))]) hx hb dX6_pour_26 hl (by decide) rfl (fun ls hl => ?_)
            refine lv_aloadN hx hb dX6_pour_28 (lv_at hl 0 rfl) ?_
            refine lv_ifnonnullN hx hb dX6_pour_30 ?_
            have hfst := fst_new (L := L1) (bw := bw1) (wd := wd) hT4 hT6 hbf hno
            obtain ⟨c9, hc9⟩ : ∃ z, z = if 1000 - hsF F1 (L1 1) ≤ left then 1000 - hsF F1 (L1 1) else left := ⟨_, rfl⟩
            obtain ⟨k1, k2, k3, k4, k5, k6, k7⟩ := inv_fill (F1 := setA F1 17 (L1 1) (F1 4 t)) (F3 := setA (setA (setA F1 17 (L1 1) (F1 4 t)) 18 (4 * L1 1 + g) (F1 18 (4 * L1 1 + g) + nI c9)) 19 (60 * L1 1 + t) (F1 19 (60 * L1 1 + t) + nI c9)) (L' := va_up L1 1 (L1 1 + 1)) (bw' := va_up bw1 (L1 1) (wd t)) (lb' := va_up lb1 (wd t) (some (L1 1))) (I' := va_up I1 16 (nI (L1 1 + 1))) (nB' := L1 1 + 1) hV1 ht1 hg hleft hcap1 hfst (Or.inl ⟨rfl, rfl, rfl, up_k _ _ _, rfl, rfl, hno⟩) (fun k hk => up_n _ _ hk) (upN_at _ _ _) (fun k hk => upN_ne _ _ hk) hc9 rfl
            obtain ⟨hzz, h20n, h21n⟩ := hBV1.2.2.2 (L1 1) (Nat.le_refl _) k1
            have hz0 : hsF F1 (L1 1) = 0 := (hsF_eq hBV1 k1).trans hzz
            have hasz : hasS F1 (L1 1) = 0 := by rw [k5, hz0]; rfl
            have hcl : c9 = left := by rw [hc9, hz0, if_neg (by omega)]
            have hmin : minI (nI left) (1000 - 0) = nI c9 := by have h9 := minc (h := 0) (a := left) (by omega) (by omega); rw [if_neg (by omega)] at h9; rw [hcl]; exact h9
            obtain ⟨h18n, h19n⟩ := hB31 (L1 1) (Nat.le_refl _) k1
            have hd0_a := hc_a
            have hd0_blc := hc_blc
            have hd0_tr := hc_tr
            have hd0_wtc := hc_wtc
            refine x_new (C := RX0) (T := TX0) (N := 6) (ci := 1) (fs := [.null, .int 0, .null, .null, .int 0, .int 0]) hx hb hts hiX0 tyX0 tyX0_ok hown (hts (.classLink RX6 171 RX0) (by decide +kernel)) (hts (.instantiable RX0 6) (by decide +kernel)) (hts (.initialized RX0) (by decide +kernel)) hK hH rfl (by decide +kernel) (by show _ ≤ 8; omega) (by show _ ≤ 800; omega) dX6_pour_33 (fun q33 H hq33 hH => ?_)
            have ne_a_q33 : a ≠ q33 := fun e9 => by rw [e9, hq33] at hc_a; cases hc_a
            have ne_q33_a : q33 ≠ a := fun e9 => ne_a_q33 e9.symm
            have ne_blc_q33 : blc ≠ q33 := fun e9 => by rw [e9, hq33] at hc_blc; cases hc_blc
            have ne_q33_blc : q33 ≠ blc := fun e9 => ne_blc_q33 e9.symm
            have ne_tr_q33 : tr ≠ q33 := fun e9 => by rw [e9, hq33] at hc_tr; cases hc_tr
            have ne_q33_tr : q33 ≠ tr := fun e9 => ne_tr_q33 e9.symm
            have ne_wtc_q33 : wtc ≠ q33 := fun e9 => by rw [e9, hq33] at hc_wtc; cases hc_wtc
            have ne_q33_wtc : q33 ≠ wtc := fun e9 => ne_wtc_q33 e9.symm
            obtain ⟨w33, ew33⟩ : ∃ z, z = va_up wl q33 (some (.inr (1, [.null, .int 0, .null, .null, .int 0, .int 0]))) := ⟨_, rfl⟩
            have hH : xH G A s.heap H _ (va_up wl q33 (some (.inr (1, [.null, .int 0, .null, .null, .int 0, .int 0])))) := hH
            rw [← ew33] at hH
            have hc_q33 : w33 q33 = some (.inr (1, [.null, .int 0, .null, .null, .int 0, .int 0])) := by rw [ew33]; exact if_pos rfl
            have hc_a : w33 a = some (.inr (7, [.ref (ad1 1 0 0), .ref (ad1 2 0 0), .ref (ad1 3 0 0), .ref (ad1 5 0 0), .ref blc, .ref (ad1 7 0 0), .ref (ad1 8 0 0), .int (I1 0), .int (I1 30), .int (I1 29), .int (I1 31), .int (I1 32)])) := by rw [ew33]; exact (if_neg ne_a_q33).trans hc_a
            have hc_blc : w33 blc = some (.inr (0, [.int (E1 5 1 0 0), .ref bdc, .int (nI (L1 1))])) := by rw [ew33]; exact (if_neg ne_blc_q33).trans hc_blc
            have hc_tr : w33 tr = some (.inr (5, [.int (nI t), .ref wtc, .int (F1 5 t * 100 + F1 6 t), .int (bearI (F1 7 t)), .ref (ad1 5 (2 + t) 0), .int (F1 8 t), .int (F1 10 t)])) := by rw [ew33]; exact (if_neg ne_tr_q33).trans hc_tr
            have hc_wtc : w33 wtc = some (.inr (6, [.int (nI (wd t)), .int (F1 22 (wd t)), .int (F1 23 (wd t)), .int (F1 24 (wd t)), .int (F1 25 (wd t)), .ref brc])) := by rw [ew33]; exact (if_neg ne_wtc_q33).trans hc_wtc
            have hn_q33 : wl q33 = none := hq33
            have hfr : ∀ x, x ≠ a → x ≠ blc → x ≠ tr → x ≠ wtc → x ≠ q33 → w33 x = wl x := fun x z_a z_blc z_tr z_wtc z_q33 => by rw [ew33]; exact if_neg z_q33
            refine lv_dup hx hb dX6_pour_36 rfl ?_
            refine lv_aload_n hx hb dX6_pour_37 rfl (lv_at hl 2 rfl) ?_
            refine x_get (C := RX4) (T := TX4) (N := 7) hx hb hts hiX4 hown hK hH hc_tr rfl 1 (by decide) hf146 (fun _ h => h) (v := .ref wtc) rfl dX6_pour_38 ?_
            refine x_callv (va_runI (As := [.ref wtc]) (rest := [.ref q33]) ⟨hx, hb, hml, hown, hts⟩ (c_X0_init l G A _ q33 hc_q33 wtc) (cwI 1 hts gX6_pour_X0_init rfl rfl rfl (hts (.initialized RX0) (by decide +kernel)) (hts (.methodLink RX6 267 yX0_init) (by decide +kernel)) (hts (.instanceMethod yX0_init) (by decide +kernel)) rfl (by decide +kernel) ⟨Nat.le_of_ble_eq_true rfl, Nat.le_of_ble_eq_true rfl⟩) (x_preS hK hH hTt [.ref q33, .ref wtc]) rfl rfl hl.1 rfl (lv_room (Nat.le_of_ble_eq_true rfl)) dX6_pour_41 ⟨by show _ ≤ 8; omega, by show _ ≤ 800; omega⟩) hH (fun w41 H locs hp hH => ?_)
            have hd_a := hc_a
            have hd_blc := hc_blc
            have hd_tr := hc_tr
            have hd_wtc := hc_wtc
            have hd_q33 := hc_q33
            obtain ⟨ga41, ta41, hga41, hta41, ne_ga41_ta41, hc_q33, hc_ga41, hc_ta41, hfm41⟩ := hp
            have ne_ta41_ga41 : ta41 ≠ ga41 := fun e9 => ne_ga41_ta41 e9.symm
            have ne_a_ga41 : a ≠ ga41 := fun e9 => by rw [e9, hga41] at hd_a; cases hd_a
            have ne_ga41_a : ga41 ≠ a := fun e9 => ne_a_ga41 e9.symm
            have ne_blc_ga41 : blc ≠ ga41 := fun e9 => by rw [e9, hga41] at hd_blc; cases hd_blc
            have ne_ga41_blc : ga41 ≠ blc := fun e9 => ne_blc_ga41 e9.symm
            have ne_tr_ga41 : tr ≠ ga41 := fun e9 => by rw [e9, hga41] at hd_tr; cases hd_tr
            have ne_ga41_tr : ga41 ≠ tr := fun e9 => ne_tr_ga41 e9.symm
            have ne_wtc_ga41 : wtc ≠ ga41 := fun e9 => by rw [e9, hga41] at hd_wtc; cases hd_wtc
            have ne_ga41_wtc : ga41 ≠ wtc := fun e9 => ne_wtc_ga41 e9.symm
            have ne_q33_ga41 : q33 ≠ ga41 := fun e9 => by rw [e9, hga41] at hd_q33; cases hd_q33
            have ne_ga41_q33 : ga41 ≠ q33 := fun e9 => ne_q33_ga41 e9.symm
            have ne_a_ta41 : a ≠ ta41 := fun e9 => by rw [e9, hta41] at hd_a; cases hd_a
            have ne_ta41_a : ta41 ≠ a := fun e9 => ne_a_ta41 e9.symm
            have ne_blc_ta41 : blc ≠ ta41 := fun e9 => by rw [e9, hta41] at hd_blc; cases hd_blc
            have ne_ta41_blc : ta41 ≠ blc := fun e9 => ne_blc_ta41 e9.symm
            have ne_tr_ta41 : tr ≠ ta41 := fun e9 => by rw [e9, hta41] at hd_tr; cases hd_tr
            have ne_ta41_tr : ta41 ≠ tr := fun e9 => ne_tr_ta41 e9.symm
            have ne_wtc_ta41 : wtc ≠ ta41 := fun e9 => by rw [e9, hta41] at hd_wtc; cases hd_wtc
            have ne_ta41_wtc : ta41 ≠ wtc := fun e9 => ne_wtc_ta41 e9.symm
            have ne_q33_ta41 : q33 ≠ ta41 := fun e9 => by rw [e9, hta41] at hd_q33; cases hd_q33
            have ne_ta41_q33 : ta41 ≠ q33 := fun e9 => ne_q33_ta41 e9.symm
            have hc_a : w41 a = some (.inr (7, [.ref (ad1 1 0 0), .ref (ad1 2 0 0), .ref (ad1 3 0 0), .ref (ad1 5 0 0), .ref blc, .ref (ad1 7 0 0), .ref (ad1 8 0 0), .int (I1 0), .int (I1 30), .int (I1 29), .int (I1 31), .int (I1 32)])) := (hfm41 a ne_a_q33 ne_a_ga41 ne_a_ta41).trans hc_a
            have hc_blc : w41 blc = some (.inr (0, [.int (E1 5 1 0 0), .ref bdc, .int (nI (L1 1))])) := (hfm41 blc ne_blc_q33 ne_blc_ga41 ne_blc_ta41).trans hc_blc
            have hc_tr : w41 tr = some (.inr (5, [.int (nI t), .ref wtc, .int (F1 5 t * 100 + F1 6 t), .int (bearI (F1 7 t)), .ref (ad1 5 (2 + t) 0), .int (F1 8 t), .int (F1 10 t)])) := (hfm41 tr ne_tr_q33 ne_tr_ga41 ne_tr_ta41).trans hc_tr
            have hc_wtc : w41 wtc = some (.inr (6, [.int (nI (wd t)), .int (F1 22 (wd t)), .int (F1 23 (wd t)), .int (F1 24 (wd t)), .int (F1 25 (wd t)), .ref brc])) := (hfm41 wtc ne_wtc_q33 ne_wtc_ga41 ne_wtc_ta41).trans hc_wtc
            have hn_ga41 : wl ga41 = none := (hfr ga41 ne_ga41_a ne_ga41_blc ne_ga41_tr ne_ga41_wtc ne_ga41_q33).symm.trans hga41
            have hn_ta41 : wl ta41 = none := (hfr ta41 ne_ta41_a ne_ta41_blc ne_ta41_tr ne_ta41_wtc ne_ta41_q33).symm.trans hta41
            have hfr : ∀ x, x ≠ a → x ≠ blc → x ≠ tr → x ≠ wtc → x ≠ q33 → x ≠ ga41 → x ≠ ta41 → w41 x = wl x := fun x z_a z_blc z_tr z_wtc z_q33 z_ga41 z_ta41 => (hfm41 x z_q33 z_ga41 z_ta41).trans (hfr x z_a z_blc z_tr z_wtc z_q33)
            refine lv_astore (lv' := [(6, .ref q33), (0, .ref a), (1, .ref tr), (2, .int (nI g)), (3, .int (nI am)), (4, .int (nI left)), (5, .int (nI cnt))]) hx hb dX6_pour_44 hl (by decide) rfl (fun ls hl => ?_)
            refine lv_aload_n hx hb dX6_pour_46 rfl (lv_at hl 1 rfl) ?_
            refine x_get (C := RX6) (T := TX6) (N := 12) hx hb hts hiX6 hown hK hH hc_a rfl 4 (by decide) hf29 (fun _ h => h) (v := .ref blc) rfl dX6_pour_47 ?_
            refine lv_aload hx hb dX6_pour_50 (lv_at hl 0 rfl) ?_
            have hL0 := lstR hR1 (i := 1) (by omega)
            rw [← hbdc] at hL0
            have hL : lstD G w41 bdc (L1 1) (cp1 1) (ldat ad1 L1 1) := hL0.elim Or.inl (fun h9 => Or.inr (Eq.trans (hfr bdc (fun e9 => by rw [e9, hd0_a] at h9; cases h9) (fun e9 => by rw [e9, hd0_blc] at h9; cases h9) (fun e9 => by rw [e9, hd0_tr] at h9; cases h9) (fun e9 => by rw [e9, hd0_wtc] at h9; cases h9) (fun e9 => by rw [e9, hn_q33] at h9; cases h9) (fun e9 => by rw [e9, hn_ga41] at h9; cases h9) (fun e9 => by rw [e9, hn_ta41] at h9; cases h9)) h9))
            have hel : ∀ i y : Nat, ldat ad1 L1 1 i = some y → ∃ vs, w41 y = some (.inr (1, vs)) := fun i y hy => by
              obtain ⟨vs9, h9⟩ := brlsR hR1 hy
              exact ⟨vs9, Eq.trans (hfr y (fun e9 => by rw [e9, hd0_a] at h9; cases h9) (fun e9 => by rw [e9, hd0_blc] at h9; cases h9) (fun e9 => by rw [e9, hd0_tr] at h9; cases h9) (fun e9 => by rw [e9, hd0_wtc] at h9; cases h9) (fun e9 => by rw [e9, hn_q33] at h9; cases h9) (fun e9 => by rw [e9, hn_ga41] at h9; cases h9) (fun e9 => by rw [e9, hn_ta41] at h9; cases h9)) h9⟩
            refine x_callFi (va_runF (As := [.ref q33]) (rest := []) (hK.1 0 _ rfl).2 ⟨hx, hb, hml, hown, hts⟩ (c_add l G A _ blc bdc q33 1 _ (E1 5 1 0 0) (L1 1) (cp1 1) (ldat ad1 L1 1) hc_blc hL hc_q33 (by omega) (hR1.2.2 1 (by omega)).1 (hR1.2.2 1 (by omega)).2.2 (hR1.2.2 1 (by omega)).2.1 (fun j hj => if_neg (by omega)) _ rfl (fun U hU => hU.2.2.2.2.2.2.2.2.2.1) hel (by decide)) (va_cwF 1 hts gX6_pour_Jx4a65c_add_9ea2d_f91Jx4a65c rfl rfl rfl hTt.2.2.2.2.1 (by decide +kernel) ⟨Nat.le_of_ble_eq_true rfl, Nat.le_of_ble_eq_true rfl⟩) (x_preV hK hH hTt hc_blc rfl [.ref q33]) rfl rfl hl.1 rfl (lv_room (Nat.le_of_ble_eq_true rfl)) dX6_pour_52 ⟨by show _ ≤ 8; omega, by show _ ≤ 800; omega⟩) hH (fun r52 u H locs hp hH => ?_)
            obtain ⟨rfl, q, cq1, f, hq1, hc_bl1, hc_q1, hcp1, hcp2, hfn1, hfn2, hfn3, hfm52⟩ := hp
            obtain ⟨wv, rfl⟩ : ∃ z, z = u := ⟨_, rfl⟩
            have hH : xH G A s.heap H locs wv := hH
            have nq : ∀ y z, w41 y = some (.inr z) → q ≠ y := fun y z hy e9 => hq1.elim (fun h3 => by rw [e9, hy] at h3; cases h3) (fun ⟨h3, cap3, h4⟩ => by rw [← h3, e9, hy] at h4; cases h4)
            have nqi : ∀ y cl k f9, w41 y = some (.inl (cl, k, .inl f9)) → q ≠ y := fun y cl k f9 hy e9 => hq1.elim (fun h3 => by rw [e9, hy] at h3; cases h3) (fun ⟨h3, cap3, h4⟩ => by rw [← h3, e9, hy] at h4; cases h4)
            have hwq : wl q = none ∨ (q = bdc ∧ ∃ cap, wl bdc = some (.inl (G.2 4, cap, .inr (.inr (.inr (.inr (ldat ad1 L1 1))))))) := hq1.elim (fun h9 => Or.inl (Eq.trans (hfr q (fun e9 => by rw [e9, hc_a] at h9; cases h9) (fun e9 => by rw [e9, hc_blc] at h9; cases h9) (fun e9 => by rw [e9, hc_tr] at h9; cases h9) (fun e9 => by rw [e9, hc_wtc] at h9; cases h9) (fun e9 => by rw [e9, hc_q33] at h9; cases h9) (fun e9 => by rw [e9, hc_ga41] at h9; cases h9) (fun e9 => by rw [e9, hc_ta41] at h9; cases h9)).symm h9)) (fun ⟨h3, cap3, h4⟩ => Or.inr ⟨h3, cap3, Eq.trans (hfr bdc (fun e9 => by rw [e9, hc_a] at h4; simp at h4) (fun e9 => by rw [e9, hc_blc] at h4; simp at h4) (fun e9 => by rw [e9, hc_tr] at h4; simp at h4) (fun e9 => by rw [e9, hc_wtc] at h4; simp at h4) (fun e9 => by rw [e9, hc_q33] at h4; simp at h4) (fun e9 => by rw [e9, hc_ga41] at h4; simp at h4) (fun e9 => by rw [e9, hc_ta41] at h4; simp at h4)).symm h4⟩)
            have nq_a := nq _ _ hc_a
            have nq_tr := nq _ _ hc_tr
            have nq_wtc := nq _ _ hc_wtc
            have nq_q33 := nq _ _ hc_q33
            have nq_ga41 := nqi _ _ _ _ hc_ga41
            have nq_ta41 := nqi _ _ _ _ hc_ta41
            have hc_a : wv a = some (.inr (7, [.ref (ad1 1 0 0), .ref (ad1 2 0 0), .ref (ad1 3 0 0), .ref (ad1 5 0 0), .ref blc, .ref (ad1 7 0 0), .ref (ad1 8 0 0), .int (I1 0), .int (I1 30), .int (I1 29), .int (I1 31), .int (I1 32)])) := (hfm52 a ne_a_blc nq_a.symm).trans hc_a
            have hc_tr : wv tr = some (.inr (5, [.int (nI t), .ref wtc, .int (F1 5 t * 100 + F1 6 t), .int (bearI (F1 7 t)), .ref (ad1 5 (2 + t) 0), .int (F1 8 t), .int (F1 10 t)])) := (hfm52 tr ne_tr_blc nq_tr.symm).trans hc_tr
            have hc_wtc : wv wtc = some (.inr (6, [.int (nI (wd t)), .int (F1 22 (wd t)), .int (F1 23 (wd t)), .int (F1 24 (wd t)), .int (F1 25 (wd t)), .ref brc])) := (hfm52 wtc ne_wtc_blc nq_wtc.symm).trans hc_wtc
            have hc_q33 : wv q33 = some (.inr (1, [.ref wtc, .int 0, .ref ga41, .ref ta41, .int 0, .int 0])) := (hfm52 q33 ne_q33_blc nq_q33.symm).trans hc_q33
            have hc_ga41 : wv ga41 = some (.inl (G.2 0, 4, .inl (fun _ => 0))) := (hfm52 ga41 ne_ga41_blc nq_ga41.symm).trans hc_ga41
            have hc_ta41 : wv ta41 = some (.inl (G.2 0, 60, .inl (fun _ => 0))) := (hfm52 ta41 ne_ta41_blc nq_ta41.symm).trans hc_ta41
            have hfr : ∀ x, x ≠ a → x ≠ blc → x ≠ tr → x ≠ wtc → x ≠ q33 → x ≠ ga41 → x ≠ ta41 → x ≠ q → wv x = wl x := fun x z_a z_blc z_tr z_wtc z_q33 z_ga41 z_ta41 z_q => (hfm52 x z_blc z_q).trans (hfr x z_a z_blc z_tr z_wtc z_q33 z_ga41 z_ta41)
            have hc_blc := hc_bl1
            refine lv_pop hx hb dX6_pour_57 rfl ?_
            refine lv_aload_n hx hb dX6_pour_58 rfl (lv_at hl 2 rfl) ?_
            refine x_get (C := RX4) (T := TX4) (N := 7) hx hb hts hiX4 hown hK hH hc_tr rfl 1 (by decide) hf146 (fun _ h => h) (v := .ref wtc) rfl dX6_pour_59 ?_
            refine lv_aload hx hb dX6_pour_62 (lv_at hl 0 rfl) ?_
            refine x_put (C := RX5) (T := TX5) (N := 6) (ty := .object "ResinWoods$Barrel") hx hb hts hiX5 tyX5 tyX5_ok nmX5 hown hK hH hc_wtc rfl 5 (by decide) hf270 (fun _ h => h) rfl (by decide +kernel) rfl rfl (Nat.le_of_ble_eq_true rfl) dX6_pour_64 (fun H locs hH => ?_)
            have hH : xH G A s.heap H locs (va_up wv wtc (some (.inr (6, [.int (nI (wd t)), .int (F1 22 (wd t)), .int (F1 23 (wd t)), .int (F1 24 (wd t)), .int (F1 25 (wd t)), .ref q33])))) := hH
            obtain ⟨w64, ew64⟩ : ∃ z, z = va_up wv wtc (some (.inr (6, [.int (nI (wd t)), .int (F1 22 (wd t)), .int (F1 23 (wd t)), .int (F1 24 (wd t)), .int (F1 25 (wd t)), .ref q33]))) := ⟨_, rfl⟩
            rw [← ew64] at hH
            have hc_a : w64 a = some (.inr (7, [.ref (ad1 1 0 0), .ref (ad1 2 0 0), .ref (ad1 3 0 0), .ref (ad1 5 0 0), .ref blc, .ref (ad1 7 0 0), .ref (ad1 8 0 0), .int (I1 0), .int (I1 30), .int (I1 29), .int (I1 31), .int (I1 32)])) := by rw [ew64, show va_up wv wtc _ a = wv a from if_neg ne_a_wtc]; exact hc_a
            have hc_blc : w64 blc = some (.inr (0, [.int (E1 5 1 0 0 + 1), .ref q, .int (nI (L1 1 + 1))])) := by rw [ew64, show va_up wv wtc _ blc = wv blc from if_neg ne_blc_wtc]; exact hc_blc
            have hc_tr : w64 tr = some (.inr (5, [.int (nI t), .ref wtc, .int (F1 5 t * 100 + F1 6 t), .int (bearI (F1 7 t)), .ref (ad1 5 (2 + t) 0), .int (F1 8 t), .int (F1 10 t)])) := by rw [ew64, show va_up wv wtc _ tr = wv tr from if_neg ne_tr_wtc]; exact hc_tr
            have hc_wtc : w64 wtc = some (.inr (6, [.int (nI (wd t)), .int (F1 22 (wd t)), .int (F1 23 (wd t)), .int (F1 24 (wd t)), .int (F1 25 (wd t)), .ref q33])) := by rw [ew64]; exact if_pos rfl
            have hc_q33 : w64 q33 = some (.inr (1, [.ref wtc, .int 0, .ref ga41, .ref ta41, .int 0, .int 0])) := by rw [ew64, show va_up wv wtc _ q33 = wv q33 from if_neg ne_q33_wtc]; exact hc_q33
            have hc_ga41 : w64 ga41 = some (.inl (G.2 0, 4, .inl (fun _ => 0))) := by rw [ew64, show va_up wv wtc _ ga41 = wv ga41 from if_neg ne_ga41_wtc]; exact hc_ga41
            have hc_ta41 : w64 ta41 = some (.inl (G.2 0, 60, .inl (fun _ => 0))) := by rw [ew64, show va_up wv wtc _ ta41 = wv ta41 from if_neg ne_ta41_wtc]; exact hc_ta41
            have hfr : ∀ x, x ≠ a → x ≠ blc → x ≠ tr → x ≠ wtc → x ≠ q33 → x ≠ ga41 → x ≠ ta41 → x ≠ q → w64 x = wl x := fun x z_a z_blc z_tr z_wtc z_q33 z_ga41 z_ta41 z_q => by rw [ew64]; exact (if_neg z_wtc).trans (hfr x z_a z_blc z_tr z_wtc z_q33 z_ga41 z_ta41 z_q)
            have hz12 := x_no12 hH0 hTt
            rw [hbdc] at hwq
            have nq_w64 : w64 q = some (.inl (G.2 4, cq1, .inr (.inr (.inr (.inr f))))) := by rw [ew64]; exact (if_neg nq_wtc).trans hc_q1
            have hfrn : ∀ z, z ≠ q33 → z ≠ ga41 → z ≠ ta41 → z ≠ ad1 5 1 0 → z ≠ q → z ≠ ad1 4 (wd t) 0 → w64 z = wl z := fun z z1 z2 z3 z4 z5 z6 => if z7 : z = a then (by rw [z7, hc_a]; exact hd0_a.symm) else if z8 : z = tr then (by rw [z8, hc_tr]; exact hd0_tr.symm) else hfr z z7 (by rw [hblc]; exact z4) z8 (by rw [hwtc]; exact z6) z1 z2 z3 z5
            have hRn := rep_newb (G := G) (w := wl) (u := w64) (bq := q33) (gq := ga41) (tq := ta41) (q := q) (c1 := cq1) (wn := wd t) (fn := f) hR1 (fun i9 b9 hi9 hb9 => by have h9 := hB41 i9 hi9; rw [hb9] at h9; exact h9.1) hz12 hT6 hasz h18n h19n h20n h21n hn_q33 hn_ga41 hn_ta41 ne_q33_ga41 ne_q33_ta41 ne_ga41_ta41 hwq nq_q33 nq_ga41 nq_ta41 hfn1 hfn2 hfn3 hcp1 hcp2 (by rw [hc_q33, hwtc]) hc_ga41 hc_ta41 (by rw [← hblc]; exact hc_blc) nq_w64 (by rw [← hwtc]; exact hc_wtc) hfrn
            have hGn := GrB.newb (G := G) (w := wl) (u := w64) (bq := q33) (gq := ga41) (tq := ta41) (q := q) (wn := wd t) (x := E1 5 1 0 0 + 1) hR1 hz12 hT6 hn_q33 hn_ga41 hn_ta41 hwq (by rw [hc_q33]; exact fun z => by cases z) (by rw [hc_ga41]; exact fun z => by cases z) (by rw [hc_ta41]; exact fun z => by cases z) (by rw [← hblc, hc_blc]; exact fun z => by cases z) (by rw [nq_w64]; exact fun z => by cases z) (by rw [← hwtc, hc_wtc]; exact fun z => by cases z) hfrn
            refine lv_iload hx hb dX6_pour_67 (lv_at hl 5 rfl) ?_
            refine lv_aload hx hb dX6_pour_69 (lv_at hl 0 rfl) ?_
            refine lv_aload_n hx hb dX6_pour_71 rfl (lv_at hl 2 rfl) ?_
            refine x_get (C := RX4) (T := TX4) (N := 7) hx hb hts hiX4 hown hK hH hc_tr rfl 0 (by decide) hf177 (fun _ h => h) (v := .int (nI t)) rfl dX6_pour_72 ?_
            refine lv_iload_n hx hb dX6_pour_75 rfl (lv_at hl 3 rfl) ?_
            refine lv_iload hx hb dX6_pour_76 (lv_at hl 5 rfl) ?_
            refine x_calli (va_runV (As := [.int (nI t), .int (nI g), .int (nI left)]) (rest := [.int (nI left)]) ⟨hx, hb, hml, hown, hts⟩ (c_X0_fill l G A _ q33 ga41 ta41 _ _ _ _ _ _ hc_q33 hc_ga41 hc_ta41 t g (nI left) (by omega) hg ne_ga41_ta41) (cwV 3 hts gX6_pour_X0_fill rfl rfl rfl (by decide +kernel) ⟨Nat.le_of_ble_eq_true rfl, Nat.le_of_ble_eq_true rfl⟩) (x_preV hK hH hTt (hc_q33) rfl [.int (nI t), .int (nI g), .int (nI left)]) rfl rfl hl.1 rfl (lv_room (Nat.le_of_ble_eq_true rfl)) dX6_pour_78 ⟨by show _ ≤ 8; omega, by show _ ≤ 800; omega⟩) hH (fun r78 w78 H locs hp hH => ?_)
            obtain ⟨hrf, hu_b, hu_g, hu_t, hfmF⟩ := hp
            rw [hmin] at hrf hu_b hu_g hu_t
            subst hrf
            have e17n : nI (wd t) = F1 4 t := hT4.symm
            rw [e17n] at hRn
            have hb15 := brA_15 ad1 (L1 1) q33 ga41 ta41 q
            have hb16 := brA_16 ad1 (L1 1) q33 ga41 ta41 q
            have hb17 := brA_17 ad1 (L1 1) q33 ga41 ta41 q
            have hb4 : brA ad1 (L1 1) q33 ga41 ta41 q 4 (va_up bw1 (L1 1) (wd t) (L1 1)) 0 = wtc := by rw [upN_at, brA_o _ _ _ _ _ _ (by omega) (by omega), hwtc]
            have hl1n : L1 1 < va_up L1 1 (L1 1 + 1) 1 := by rw [upN_at]; omega
            have n18 : ∀ z, setA F1 17 (L1 1) (F1 4 t) 18 z = F1 18 z := fun z => by rw [setA_n _ _ _ (by decide)]
            have n19 : ∀ z, setA F1 17 (L1 1) (F1 4 t) 19 z = F1 19 z := fun z => by rw [setA_n _ _ _ (by decide)]
            have hzg : bg4 (setA F1 17 (L1 1) (F1 4 t)) (L1 1) = fun _ => 0 := funext fun z => if hz : z < 4 then (by unfold bg4; rw [if_pos hz, n18, h18n z hz]) else (by unfold bg4; rw [if_neg hz])
            have hzt : bt60 (setA F1 17 (L1 1) (F1 4 t)) (L1 1) = fun _ => 0 := funext fun z => if hz : z < 60 then (by unfold bt60; rw [if_pos hz, n19, h19n z hz]) else (by unfold bt60; rw [if_neg hz])
            have hRf := rep_fill (u := w78) (b := L1 1) (c := nI c9) hRn hl1n hg (by omega : t < 60) (by rw [hb15, hb16, hb17, hb4, hasS_set _ _ _ _ (by decide), hasz, setA_n _ _ _ (by decide), setA_n _ _ _ (by decide), h20n, h21n]; exact hu_b) (by rw [hb16, hzg]; exact hu_g) (by rw [hb17, hzt]; exact hu_t) (fun y y1 y2 y3 => hfmF y (by rw [← hb15]; exact y1) (by rw [← hb16]; exact y2) (by rw [← hb17]; exact y3))
            rw [n18, n19] at hRf
            have hGf := hGn.trans (GrB.step (E := upE E1 5 1 0 0 (E1 5 1 0 0 + 1)) (fun y hy => hfmF y (by rw [← hb15]; exact hy 15 (L1 1) 0 ⟨hl1n, rfl⟩) (by rw [← hb16]; exact hy 16 (L1 1) 0 ⟨hl1n, rfl⟩) (by rw [← hb17]; exact hy 17 (L1 1) 0 ⟨hl1n, rfl⟩)) hRf.some)
            have hSf := hS.trans (fillS_new (c := c9) (h := 0) hBV1.1 h2001 hleft (by omega) hfst (hasz.trans (by rfl : (0 : Int32) = nI 0)) (by omega) (by rw [hcl, if_neg (by omega)]))
            refine N_isub hx hb left c9 rfl rfl (by omega) dX6_pour_81 ?_
            refine lv_istore (lv' := [(4, .int (nI (left - c9))), (6, .ref q33), (0, .ref a), (1, .ref tr), (2, .int (nI g)), (3, .int (nI am)), (5, .int (nI cnt))]) hx hb dX6_pour_82 hl (by decide) rfl (fun ls hl => ?_)
            refine lv_iinc (v := nI (cnt + 1)) (lv' := [(5, .int (nI (cnt + 1))), (4, .int (nI (left - c9))), (6, .ref q33), (0, .ref a), (1, .ref tr), (2, .int (nI g)), (3, .int (nI am))]) hx hb dX6_pour_84 hl (k := 6) rfl (by exact nI_add _ 1) (by decide) rfl (fun ls hl => ?_)
            refine lv_goto (tgt := 6) hx hb dX6_pour_87 (by decide) ?_
            refine W.widen (k := 4 * (cnt + 1)) (n := 400 * (cnt + 1)) (by omega) (by omega) ?_
            exact ih6 (left - c9) (cnt + 1) fu2 w78 (brA ad1 (L1 1) q33 ga41 ta41 q) (upE E1 5 1 0 0 (E1 5 1 0 0 + 1)) (va_up cp1 1 cq1) (va_up L1 1 (L1 1 + 1)) (va_up bw1 (L1 1) (wd t)) (va_up lb1 (wd t) (some (L1 1))) (va_up I1 16 (nI (L1 1 + 1))) (setA (setA (setA F1 17 (L1 1) (F1 4 t)) 18 (4 * L1 1 + g) (F1 18 (4 * L1 1 + g) + nI c9)) 19 (60 * L1 1 + t) (F1 19 (60 * L1 1 + t) + nI c9)) (by omega) (by omega) (by omega) (hSf) (hRf) (k6) (hG.trans hGf) (by rw [upN_at]; omega) (Or.inl (by omega)) (by omega) _ _ hH ls (lv_sub hl [3, 4, 5, 6, 1, 0] rfl)
