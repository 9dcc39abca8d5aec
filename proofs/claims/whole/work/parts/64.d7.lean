
theorem treesR {G : XG} {w : XW} {ad : YA} {E : YE} {cp L wd bw : Nat → Nat} {lb : Nat → Option Nat} {I : Nat → Int32} {F : Nat → Nat → Int32} (hR : Rep G w ad E cp L wd bw lb I F) {j y : Nat} (hy : ldat ad L 0 j = some y) : ∃ vs, w y = some (.inr (5, vs)) := by
  by_cases h : j < L 0
  · rw [ldat_t ad L h] at hy
    cases hy
    exact ⟨_, hR.tree h⟩
  · rw [show ldat ad L 0 j = none from if_neg h] at hy
    cases hy
theorem i32_split (a b : Int32) : a + (b - a) = b := by rw [Int32.add_comm, Int32.sub_add_cancel]

set_option maxHeartbeats 4000000 in
set_option maxRecDepth 100000 in
theorem c_X6_tree (l : Launch) (G : XG) (A : Nat → Prop) (w : XW) (a : Nat) (ad : YA) (E : YE) (cp L wd bw : Nat → Nat) (lb : Nat → Option Nat) (I : Nat → Int32) (F : Nat → Nat → Int32) (hc_a : w a = some (.inr (7, [.ref (ad 1 0 0), .ref (ad 2 0 0), .ref (ad 3 0 0), .ref (ad 5 0 0), .ref (ad 5 1 0), .ref (ad 7 0 0), .ref (ad 8 0 0), .int (I 0), .int (I 30), .int (I 29), .int (I 31), .int (I 32)]))) (now : Nat) (hR : Rep G w ad E cp L wd bw lb I F) (hV : Inv now L wd bw lb I F) (ha : a = ad 0 0 0) (hE : ∀ j, E 9 4 0 j = 0) (wd0 wh g : Int32) : Met l yX6_tree wsX6_tree ({ frames := 7, cells := 3, slots := 310, locals := 191 }) (va_Pc [.ref a, .int wd0, .int wh, .int g] (xP G A (w))) (va_Qi (fun (r : Int32) (u : XW) => r = (sTree I F (L 0) wd0 wh g).1 ∧ Nx G w u a (own ad L) (sTree I F (L 0) wd0 wh g).2.1 (sTree I F (L 0) wd0 wh g).2.2) (fun u t => xB G A (u) t) A) 3 310 A := by
  refine Met.ofW (cc := cX6_tree) (maxL := 5) (ret := (some .int)) (by decide) rfl ?_
  intro p e s m args below meth c s₁ B hml hv
  obtain ⟨rfl, hK, hH, hTt⟩ := hv
  have hx := B.exec
  have hb := B.bytes
  have hr := B.returns
  have hts := atoms_spec (ws := wsX6_tree) B.pre
  have hown : s.vm.findClass RX6 = some m.cls := findClass_of_methodNamed B.named
  have hlocks := B.notSynchronized
  have hiX4 : ∀ w ∈ wsX40, w ∈ wsX6_tree := by decide +kernel
  have hiX6 : ∀ w ∈ wsX60, w ∈ wsX6_tree := by decide +kernel
  have hf25 := hts (.fieldLink RX6 25 "ResinWoods" "trees" "Ljava/util/List;") (by decide +kernel)
  have hl := lv_entry ([.ref a, .int wd0, .int wh, .int g]) (n := 5) (Nat.le_of_ble_eq_true rfl)
  rw [lg_entry_eq]
  generalize (lg_sl ([.ref a, .int wd0, .int wh, .int g]) ++ List.replicate (5 - (lg_sl ([.ref a, .int wd0, .int wh, .int g])).length) Slot.unset).toArray = ls at hl ⊢
  have hl : lv_has ls 5 [(0, .ref a), (1, .int wd0), (2, .int wh), (3, .int g)] := hl
  have h60 : L 0 ≤ 60 := hV.1.2.2.2.1
  have hI3 : I 3 = nI (L 0) := hV.1.2.2.1
  have hI0 : I 0 = nI now := hV.1.1
  have hnow : now ≤ 3650 := hV.1.2.1
  obtain ⟨fa, hfa⟩ : ∃ z : Nat → Nat, z = fun j => ad 12 j 0 := ⟨_, rfl⟩
  obtain ⟨fba, hfba⟩ : ∃ z : Nat → Nat, z = fun j => ad 15 j 0 := ⟨_, rfl⟩
  obtain ⟨hs, hBV, hB1, hB2, hB3, hB4, hB5⟩ := hV.2.2.2.2
  have hI16 : I 16 = nI (L 1) := hBV.1
  have h200 : L 1 ≤ 200 := hBV.2.1
  obtain ⟨fwa, hfwa⟩ : ∃ z : Nat → Nat, z = fun j => ad 4 j 0 := ⟨_, rfl⟩
  obtain ⟨tlc, htlc⟩ : ∃ z, z = ad 5 0 0 := ⟨_, rfl⟩
  rw [← htlc] at hc_a
  obtain ⟨tdc, htdc⟩ : ∃ z, z = (if L 0 = 0 then G.2 12 else ad 6 0 0) := ⟨_, rfl⟩
  have hc_tlc : w tlc = some (.inr (0, [.int (E 5 0 0 0), .ref tdc, .int (nI (L 0))])) := by rw [htlc, htdc]; exact hR.lst (by omega)
  have ne_a_tlc : a ≠ tlc := fun e9 => by rw [e9, hc_tlc] at hc_a; cases hc_a
  have ne_tlc_a : tlc ≠ a := fun e9 => ne_a_tlc e9.symm
  have hd0_a := hc_a
  have hd0_tlc := hc_tlc
  have hH0 := hH
  refine lv_aload_n hx hb dX6_tree_0 rfl (lv_at hl 0 rfl) ?_
  refine lv_iload_n hx hb dX6_tree_1 rfl (lv_at hl 1 rfl) ?_
  refine x_callq (va_runV (As := [.int wd0]) (rest := []) ⟨hx, hb, hml, hown, hts⟩ (c_X6_woodAt l G A _ a (ad 3 0 0) _ _ _ _ _ _ _ _ _ _ _ (six ad 4) hc_a hR.woods wd0 fwa (fun j hj => by rw [hfwa]; exact if_pos hj)) (cwV 1 hts gX6_tree_X6_woodAt rfl rfl rfl (by decide +kernel) ⟨Nat.le_of_ble_eq_true rfl, Nat.le_of_ble_eq_true rfl⟩) (x_preV hK hH hTt (hc_a) rfl [.int wd0]) rfl rfl hl.1 rfl (lv_room (Nat.le_of_ble_eq_true rfl)) dX6_tree_2 ⟨Nat.le_of_ble_eq_true rfl, Nat.le_of_ble_eq_true rfl⟩) hH (fun r2 u H locs hp hH => ?_)
  obtain ⟨hat, hu9⟩ := hp
  rw [hu9] at hH
  rcases atR_or hat with ⟨i, hi, rfl, rfl⟩ | ⟨hno, rfl⟩
  · obtain ⟨wc, hwc⟩ : ∃ z, z = fwa i := ⟨_, rfl⟩
    rw [← hwc]
    have hc_wc : w wc = some (.inr (6, [.int (nI i), .int (F 22 i), .int (F 23 i), .int (F 24 i), .int (F 25 i), va_rf ((lb i).map (fun b => ad 15 b 0))])) := by rw [hwc, hfwa]; exact hR.wood hi
    obtain ⟨⟨tk, htk, htk2⟩, hw22, rn, hrn, hrn2⟩ := hB5 i hi
    have ne_wc_a : wc ≠ a := fun e9 => by rw [e9, hc_a] at hc_wc; cases hc_wc
    have ne_a_wc : a ≠ wc := fun e9 => ne_wc_a e9.symm
    have ne_wc_tlc : wc ≠ tlc := fun e9 => by rw [e9, hc_tlc] at hc_wc; cases hc_wc
    have ne_tlc_wc : tlc ≠ wc := fun e9 => ne_wc_tlc e9.symm
    refine lv_astore (lv' := [(4, .ref wc), (0, .ref a), (1, .int (nI i)), (2, .int wh), (3, .int g)]) hx hb dX6_tree_5 hl (by decide) rfl (fun ls hl => ?_)
    refine lv_aload hx hb dX6_tree_7 (lv_at hl 0 rfl) ?_
    refine lv_ifnull hx hb dX6_tree_9 ?_
    refine lv_iload_n hx hb dX6_tree_12 rfl (lv_at hl 3 rfl) ?_
    refine x_calli (va_runS (As := [.int wh]) (rest := []) ⟨hx, hb, hml, hown, hts⟩ (c_X6_isPlace l G A (w) wh) (va_cwS 1 hts gX6_tree_X6_isPlace rfl rfl rfl (by decide +kernel) ⟨Nat.le_of_ble_eq_true rfl, Nat.le_of_ble_eq_true rfl⟩) (x_preS hK hH hTt [.int wh]) rfl rfl hl.1 rfl (lv_room (Nat.le_of_ble_eq_true rfl)) dX6_tree_13 ⟨Nat.le_of_ble_eq_true rfl, Nat.le_of_ble_eq_true rfl⟩) hH (fun r13 u H locs hp hH => ?_)
    subst hp
    refine lv_if_eq (tgt := 40) hx hb dX6_tree_16 (by decide) (fun c16 => ?_) (fun c16 => ?_)
    · refine lv_iconst (v := (-1)) hx hb dX6_tree_40 (by decide) ?_
      refine W.widen (k := 3) (n := 310) (Nat.le_of_ble_eq_true rfl) (Nat.le_of_ble_eq_true rfl) ?_
      exact x_iret (v := (-1)) w hx hb hr hlocks hK hH (by rw [show sTree I F (L 0) (nI i) wh g = (-1, I, F) from by unfold sTree; rw [if_neg (bin6 hi), if_pos (by rw [← plc_eq]; exact c16)]]; exact ⟨rfl, Nx.same hR hV ha hE (fun _ _ => rfl)⟩) dX6_tree_41
    · refine lv_iload_n hx hb dX6_tree_19 rfl (lv_at hl 4 rfl) ?_
      refine x_calli (va_runS (As := [.int g]) (rest := []) ⟨hx, hb, hml, hown, hts⟩ (c_X6_isGirth l G A (w) g) (va_cwS 1 hts gX6_tree_X6_isGirth rfl rfl rfl (by decide +kernel) ⟨Nat.le_of_ble_eq_true rfl, Nat.le_of_ble_eq_true rfl⟩) (x_preS hK hH hTt [.int g]) rfl rfl hl.1 rfl (lv_room (Nat.le_of_ble_eq_true rfl)) dX6_tree_20 ⟨Nat.le_of_ble_eq_true rfl, Nat.le_of_ble_eq_true rfl⟩) hH (fun r20 u H locs hp hH => ?_)
      subst hp
      refine lv_if_eq (tgt := 40) hx hb dX6_tree_23 (by decide) (fun c23 => ?_) (fun c23 => ?_)
      · refine lv_iconst (v := (-1)) hx hb dX6_tree_40 (by decide) ?_
        refine W.widen (k := 3) (n := 310) (Nat.le_of_ble_eq_true rfl) (Nat.le_of_ble_eq_true rfl) ?_
        exact x_iret (v := (-1)) w hx hb hr hlocks hK hH (by rw [show sTree I F (L 0) (nI i) wh g = (-1, I, F) from by unfold sTree; rw [if_neg (bin6 hi), if_neg (show ¬ binI wh 0 9999 = 0 from by rw [← plc_eq]; exact c16), if_pos c23]]; exact ⟨rfl, Nx.same hR hV ha hE (fun _ _ => rfl)⟩) dX6_tree_41
      · refine lv_aload_n hx hb dX6_tree_26 rfl (lv_at hl 1 rfl) ?_
        refine x_get (C := RX6) (T := TX6) (N := 12) hx hb hts hiX6 hown hK hH hc_a rfl 3 (by decide) hf25 (fun _ h => h) (v := .ref tlc) rfl dX6_tree_27 ?_
        refine x_callFi (va_runF (As := []) (rest := []) (hK.1 0 _ rfl).2 ⟨hx, hb, hml, hown, hts⟩ (c_Jx4a65c_size_8abf5 l G A _ tlc tdc (E 5 0 0 0) (nI (L 0)) hc_tlc) (va_cwF 0 hts gX6_tree_Jx4a65c_size_8abf5_f76Jx4a65c rfl rfl rfl hTt.2.2.1 (by decide +kernel) ⟨Nat.le_of_ble_eq_true rfl, Nat.le_of_ble_eq_true rfl⟩) (x_preV hK hH hTt hc_tlc rfl []) rfl rfl hl.1 rfl (lv_room (Nat.le_of_ble_eq_true rfl)) dX6_tree_30 ⟨Nat.le_of_ble_eq_true rfl, Nat.le_of_ble_eq_true rfl⟩) hH (fun r30 u H locs hp hH => ?_)
        obtain ⟨rfl, hu9⟩ := hp
        rw [hu9] at hH
        refine lv_bipush (v := 60) hx hb dX6_tree_35 (by decide) ?_
        refine lv_icmp_lt (tgt := 42) hx hb dX6_tree_37 (by decide) (fun c37 => ?_) (fun c37 => ?_)
        · have c37 : (L 0) < 60 := (nI_ltI (a := (L 0)) (b := 60) (by omega) (by omega)).mp c37
          have hd0_wc := hc_wc
          have hpl : ¬ binI wh 0 9999 = 0 := by rw [← plc_eq]; exact c16
          obtain ⟨v, -, hv9, rfl⟩ := inI_nat (a := 0) (b := 9999) (binI_1.mp hpl) (by decide) (by decide)
          refine lv_aload_n hx hb dX6_tree_42 rfl (lv_at hl 1 rfl) ?_
          refine x_get (C := RX6) (T := TX6) (N := 12) hx hb hts hiX6 hown hK hH hc_a rfl 3 (by decide) hf25 (fun _ h => h) (v := .ref tlc) rfl dX6_tree_43 ?_
          refine x_new (C := RX4) (T := TX4) (N := 7) (ci := 5) (fs := [.int 0, .null, .int 0, .int 0, .null, .int 0, .int 0]) hx hb hts hiX4 tyX4 tyX4_ok hown (hts (.classLink RX6 82 RX4) (by decide +kernel)) (hts (.instantiable RX4 7) (by decide +kernel)) (hts (.initialized RX4) (by decide +kernel)) hK hH rfl (by decide +kernel) (Nat.le_of_ble_eq_true rfl) (Nat.le_of_ble_eq_true rfl) dX6_tree_46 (fun q46 H hq46 hH => ?_)
          have ne_a_q46 : a ≠ q46 := fun e9 => by rw [e9, hq46] at hc_a; cases hc_a
          have ne_q46_a : q46 ≠ a := fun e9 => ne_a_q46 e9.symm
          have ne_tlc_q46 : tlc ≠ q46 := fun e9 => by rw [e9, hq46] at hc_tlc; cases hc_tlc
          have ne_q46_tlc : q46 ≠ tlc := fun e9 => ne_tlc_q46 e9.symm
          have ne_wc_q46 : wc ≠ q46 := fun e9 => by rw [e9, hq46] at hc_wc; cases hc_wc
          have ne_q46_wc : q46 ≠ wc := fun e9 => ne_wc_q46 e9.symm
          obtain ⟨w46, ew46⟩ : ∃ z, z = va_up w q46 (some (.inr (5, [.int 0, .null, .int 0, .int 0, .null, .int 0, .int 0]))) := ⟨_, rfl⟩
          have hH : xH G A s.heap H _ (va_up w q46 (some (.inr (5, [.int 0, .null, .int 0, .int 0, .null, .int 0, .int 0])))) := hH
          rw [← ew46] at hH
          have hc_q46 : w46 q46 = some (.inr (5, [.int 0, .null, .int 0, .int 0, .null, .int 0, .int 0])) := by rw [ew46]; exact if_pos rfl
          have hc_a : w46 a = some (.inr (7, [.ref (ad 1 0 0), .ref (ad 2 0 0), .ref (ad 3 0 0), .ref tlc, .ref (ad 5 1 0), .ref (ad 7 0 0), .ref (ad 8 0 0), .int (I 0), .int (I 30), .int (I 29), .int (I 31), .int (I 32)])) := by rw [ew46]; exact (if_neg ne_a_q46).trans hc_a
          have hc_tlc : w46 tlc = some (.inr (0, [.int (E 5 0 0 0), .ref tdc, .int (nI (L 0))])) := by rw [ew46]; exact (if_neg ne_tlc_q46).trans hc_tlc
          have hc_wc : w46 wc = some (.inr (6, [.int (nI i), .int (F 22 i), .int (F 23 i), .int (F 24 i), .int (F 25 i), va_rf ((lb i).map (fun b => ad 15 b 0))])) := by rw [ew46]; exact (if_neg ne_wc_q46).trans hc_wc
          have hn_q46 : w q46 = none := hq46
          have hfr : ∀ x, x ≠ a → x ≠ tlc → x ≠ wc → x ≠ q46 → w46 x = w x := fun x z_a z_tlc z_wc z_q46 => by rw [ew46]; exact if_neg z_q46
          refine lv_dup hx hb dX6_tree_49 rfl ?_
          refine lv_aload_n hx hb dX6_tree_50 rfl (lv_at hl 1 rfl) ?_
          refine x_get (C := RX6) (T := TX6) (N := 12) hx hb hts hiX6 hown hK hH hc_a rfl 3 (by decide) hf25 (fun _ h => h) (v := .ref tlc) rfl dX6_tree_51 ?_
          refine x_callFi (va_runF (As := []) (rest := [.ref q46, .ref q46, .ref tlc]) (hK.1 0 _ rfl).2 ⟨hx, hb, hml, hown, hts⟩ (c_Jx4a65c_size_8abf5 l G A _ tlc tdc (E 5 0 0 0) (nI (L 0)) hc_tlc) (va_cwF 0 hts gX6_tree_Jx4a65c_size_8abf5_f76Jx4a65c rfl rfl rfl hTt.2.2.1 (by decide +kernel) ⟨Nat.le_of_ble_eq_true rfl, Nat.le_of_ble_eq_true rfl⟩) (x_preV hK hH hTt hc_tlc rfl []) rfl rfl hl.1 rfl (lv_room (Nat.le_of_ble_eq_true rfl)) dX6_tree_54 ⟨Nat.le_of_ble_eq_true rfl, Nat.le_of_ble_eq_true rfl⟩) hH (fun r54 u H locs hp hH => ?_)
          obtain ⟨rfl, hu9⟩ := hp
          rw [hu9] at hH
          refine lv_aload hx hb dX6_tree_59 (lv_at hl 0 rfl) ?_
          refine lv_iload_n hx hb dX6_tree_61 rfl (lv_at hl 3 rfl) ?_
          refine lv_iload_n hx hb dX6_tree_62 rfl (lv_at hl 4 rfl) ?_
          refine x_calli (va_runS (As := [.int g]) (rest := [.int (nI v), .ref wc, .int (nI (L 0)), .ref q46, .ref q46, .ref tlc]) ⟨hx, hb, hml, hown, hts⟩ (c_X6_facesBorneBy l G A (w46) g) (va_cwS 1 hts gX6_tree_X6_facesBorneBy rfl rfl rfl (by decide +kernel) ⟨Nat.le_of_ble_eq_true rfl, Nat.le_of_ble_eq_true rfl⟩) (x_preS hK hH hTt [.int g]) rfl rfl hl.1 rfl (lv_room (Nat.le_of_ble_eq_true rfl)) dX6_tree_63 ⟨Nat.le_of_ble_eq_true rfl, Nat.le_of_ble_eq_true rfl⟩) hH (fun r63 u H locs hp hH => ?_)
          subst hp
          refine x_callv (va_runI (As := [.int (nI (L 0)), .ref wc, .int (nI v), .int (bearI g)]) (rest := [.ref q46, .ref tlc]) ⟨hx, hb, hml, hown, hts⟩ (c_X4_init l G A _ q46 hc_q46 wc (nI (L 0)) (nI v) (bearI g)) (cwI 4 hts gX6_tree_X4_init rfl rfl rfl (hts (.initialized RX4) (by decide +kernel)) (hts (.methodLink RX6 88 yX4_init) (by decide +kernel)) (hts (.instanceMethod yX4_init) (by decide +kernel)) rfl (by decide +kernel) ⟨Nat.le_of_ble_eq_true rfl, Nat.le_of_ble_eq_true rfl⟩) (x_preS hK hH hTt [.ref q46, .int (nI (L 0)), .ref wc, .int (nI v), .int (bearI g)]) rfl rfl hl.1 rfl (lv_room (Nat.le_of_ble_eq_true rfl)) dX6_tree_66 ⟨Nat.le_of_ble_eq_true rfl, Nat.le_of_ble_eq_true rfl⟩) hH (fun w66 H locs hp hH => ?_)
          have hd_a := hc_a
          have hd_tlc := hc_tlc
          have hd_wc := hc_wc
          have hd_q46 := hc_q46
          obtain ⟨fl66, hfl66, hc_q46, hc_fl66, hfm66⟩ := hp
          have ne_a_fl66 : a ≠ fl66 := fun e9 => by rw [e9, hfl66] at hd_a; cases hd_a
          have ne_fl66_a : fl66 ≠ a := fun e9 => ne_a_fl66 e9.symm
          have ne_tlc_fl66 : tlc ≠ fl66 := fun e9 => by rw [e9, hfl66] at hd_tlc; cases hd_tlc
          have ne_fl66_tlc : fl66 ≠ tlc := fun e9 => ne_tlc_fl66 e9.symm
          have ne_wc_fl66 : wc ≠ fl66 := fun e9 => by rw [e9, hfl66] at hd_wc; cases hd_wc
          have ne_fl66_wc : fl66 ≠ wc := fun e9 => ne_wc_fl66 e9.symm
          have ne_q46_fl66 : q46 ≠ fl66 := fun e9 => by rw [e9, hfl66] at hd_q46; cases hd_q46
          have ne_fl66_q46 : fl66 ≠ q46 := fun e9 => ne_q46_fl66 e9.symm
          have hc_a : w66 a = some (.inr (7, [.ref (ad 1 0 0), .ref (ad 2 0 0), .ref (ad 3 0 0), .ref tlc, .ref (ad 5 1 0), .ref (ad 7 0 0), .ref (ad 8 0 0), .int (I 0), .int (I 30), .int (I 29), .int (I 31), .int (I 32)])) := (hfm66 a ne_a_q46 ne_a_fl66).trans hc_a
          have hc_tlc : w66 tlc = some (.inr (0, [.int (E 5 0 0 0), .ref tdc, .int (nI (L 0))])) := (hfm66 tlc ne_tlc_q46 ne_tlc_fl66).trans hc_tlc
          have hc_wc : w66 wc = some (.inr (6, [.int (nI i), .int (F 22 i), .int (F 23 i), .int (F 24 i), .int (F 25 i), va_rf ((lb i).map (fun b => ad 15 b 0))])) := (hfm66 wc ne_wc_q46 ne_wc_fl66).trans hc_wc
          have hn_fl66 : w fl66 = none := (hfr fl66 ne_fl66_a ne_fl66_tlc ne_fl66_wc ne_fl66_q46).symm.trans hfl66
          have hfr : ∀ x, x ≠ a → x ≠ tlc → x ≠ wc → x ≠ q46 → x ≠ fl66 → w66 x = w x := fun x z_a z_tlc z_wc z_q46 z_fl66 => (hfm66 x z_q46 z_fl66).trans (hfr x z_a z_tlc z_wc z_q46)
          have hL0 := lstR hR (i := 0) (by omega)
          rw [← htdc] at hL0
          have hL : lstD G w66 tdc (L 0) (cp 0) (ldat ad L 0) := hL0.elim Or.inl (fun h9 => Or.inr (Eq.trans (hfr tdc (fun e9 => by rw [e9, hd0_a] at h9; cases h9) (fun e9 => by rw [e9, hd0_tlc] at h9; cases h9) (fun e9 => by rw [e9, hd0_wc] at h9; cases h9) (fun e9 => by rw [e9, hn_q46] at h9; cases h9) (fun e9 => by rw [e9, hn_fl66] at h9; cases h9)) h9))
          have hel : ∀ i y : Nat, ldat ad L 0 i = some y → ∃ vs, w66 y = some (.inr (5, vs)) := fun i y hy => by
            obtain ⟨vs9, h9⟩ := treesR hR hy
            exact ⟨vs9, Eq.trans (hfr y (fun e9 => by rw [e9, hd0_a] at h9; cases h9) (fun e9 => by rw [e9, hd0_tlc] at h9; cases h9) (fun e9 => by rw [e9, hd0_wc] at h9; cases h9) (fun e9 => by rw [e9, hn_q46] at h9; cases h9) (fun e9 => by rw [e9, hn_fl66] at h9; cases h9)) h9⟩
          refine x_callFi (va_runF (As := [.ref q46]) (rest := []) (hK.1 0 _ rfl).2 ⟨hx, hb, hml, hown, hts⟩ (c_add l G A _ tlc tdc q46 5 _ (E 5 0 0 0) (L 0) (cp 0) (ldat ad L 0) hc_tlc hL hc_q46 (by omega) (hR.2.2 0 (by omega)).1 (hR.2.2 0 (by omega)).2.2 (hR.2.2 0 (by omega)).2.1 (fun j hj => if_neg (by omega)) _ rfl (fun U hU => hU.2.2.2.2.2.2.2.1) hel (by decide)) (va_cwF 1 hts gX6_tree_Jx4a65c_add_9ea2d_f91Jx4a65c rfl rfl rfl hTt.2.2.2.2.1 (by decide +kernel) ⟨Nat.le_of_ble_eq_true rfl, Nat.le_of_ble_eq_true rfl⟩) (x_preV hK hH hTt hc_tlc rfl [.ref q46]) rfl rfl hl.1 rfl (lv_room (Nat.le_of_ble_eq_true rfl)) dX6_tree_69 ⟨Nat.le_of_ble_eq_true rfl, Nat.le_of_ble_eq_true rfl⟩) hH (fun r69 u H locs hp hH => ?_)
          obtain ⟨rfl, q, cp1, f, hq1, hc_tl1, hc_q1, hcp1, hcp2, hfn1, hfn2, hfn3, hfm69⟩ := hp
          obtain ⟨wv, rfl⟩ : ∃ z, z = u := ⟨_, rfl⟩
          have hH : xH G A s.heap H locs wv := hH
          have nq : ∀ y z, w66 y = some (.inr z) → q ≠ y := fun y z hy e9 => hq1.elim (fun h3 => by rw [e9, hy] at h3; cases h3) (fun ⟨h3, cap3, h4⟩ => by rw [← h3, e9, hy] at h4; cases h4)
          have hu_a : wv a = some (.inr (7, [.ref (ad 1 0 0), .ref (ad 2 0 0), .ref (ad 3 0 0), .ref tlc, .ref (ad 5 1 0), .ref (ad 7 0 0), .ref (ad 8 0 0), .int (I 0), .int (I 30), .int (I 29), .int (I 31), .int (I 32)])) := (hfm69 a ne_a_tlc (nq _ _ hc_a).symm).trans hc_a
          have hwq : w q = none ∨ (q = tdc ∧ ∃ cap, w tdc = some (.inl (G.2 4, cap, .inr (.inr (.inr (.inr (ldat ad L 0))))))) := hq1.elim (fun h9 => Or.inl (Eq.trans (hfr q (fun e9 => by rw [e9, hc_a] at h9; cases h9) (fun e9 => by rw [e9, hc_tlc] at h9; cases h9) (fun e9 => by rw [e9, hc_wc] at h9; cases h9) (fun e9 => by rw [e9, hc_q46] at h9; cases h9) (fun e9 => by rw [e9, hc_fl66] at h9; cases h9)).symm h9)) (fun ⟨h3, cap3, h4⟩ => Or.inr ⟨h3, cap3, Eq.trans (hfr tdc (fun e9 => by rw [e9, hc_a] at h4; cases h4) (fun e9 => by rw [e9, hc_tlc] at h4; cases h4) (fun e9 => by rw [e9, hc_wc] at h4; cases h4) (fun e9 => by rw [e9, hc_q46] at h4; cases h4) (fun e9 => by rw [e9, hc_fl66] at h4; cases h4)).symm h4⟩)
          have hu_q46 := (hfm69 q46 ne_q46_tlc (nq _ _ hc_q46).symm).trans hc_q46
          have hu_fl := (hfm69 fl66 ne_fl66_tlc (nq _ _ hc_fl66).symm).trans hc_fl66
          have hnq1 := nq _ _ hc_q46
          have hnq2 := nq _ _ hc_fl66
          have hfru : ∀ z, z ≠ q46 → z ≠ fl66 → z ≠ tlc → z ≠ q → wv z = w z := fun z z1 z2 z3 z4 => (hfm69 z z3 z4).trans (if z5 : z = a then (by rw [z5, hc_a]; exact hd0_a.symm) else if z6 : z = wc then (by rw [z6, hc_wc]; exact hd0_wc.symm) else hfr z z5 z3 z6 z1 z2)
          have hc_a := hu_a
          have hc_tlc := hc_tl1
          refine lv_pop hx hb dX6_tree_74 rfl ?_
          refine lv_aload_n hx hb dX6_tree_75 rfl (lv_at hl 1 rfl) ?_
          refine x_get (C := RX6) (T := TX6) (N := 12) hx hb hts hiX6 hown hK hH hc_a rfl 3 (by decide) hf25 (fun _ h => h) (v := .ref tlc) rfl dX6_tree_76 ?_
          refine x_callFi (va_runF (As := []) (rest := []) (hK.1 0 _ rfl).2 ⟨hx, hb, hml, hown, hts⟩ (c_Jx4a65c_size_8abf5 l G A _ tlc q (E 5 0 0 0 + 1) (nI (L 0 + 1)) hc_tlc) (va_cwF 0 hts gX6_tree_Jx4a65c_size_8abf5_f76Jx4a65c rfl rfl rfl hTt.2.2.1 (by decide +kernel) ⟨Nat.le_of_ble_eq_true rfl, Nat.le_of_ble_eq_true rfl⟩) (x_preV hK hH hTt hc_tlc rfl []) rfl rfl hl.1 rfl (lv_room (Nat.le_of_ble_eq_true rfl)) dX6_tree_79 ⟨Nat.le_of_ble_eq_true rfl, Nat.le_of_ble_eq_true rfl⟩) hH (fun r79 u H locs hp hH => ?_)
          obtain ⟨rfl, hu9⟩ := hp
          rw [hu9] at hH
          have hz12 := x_no12 hH0 hTt
          have hxq : nI v / 100 = nI (v / 100) := pk_div (d := 100) (by omega) (by decide) (by decide)
          have hyq : nI v - nI v / 100 * 100 = nI (v % 100) := pk_rem (d := 100) (by omega) (by decide) (by decide)
          have hsp : sTree I F (L 0) (nI i) (nI v) g = (nI (L 0), va_up I 3 (nI (L 0 + 1)), setA (setA (setA (setA F 4 (L 0) (nI i)) 5 (L 0) (nI v / 100)) 6 (L 0) (nI v - nI v / 100 * 100)) 7 (L 0) g) := by unfold sTree; rw [if_neg (bin6 hi), if_neg hpl, if_neg c23, if_neg (show ¬ L 0 = 60 by omega)]
          rw [htdc] at hwq
          have hrep := rep_tree (G := G) (w := w) (u := wv) (ad := ad) (E := E) (cp := cp) (L := L) (wd := wd) (bw := bw) (lb := lb) (I := I) (F := F) (tq := q46) (fl := fl66) (q := q) (c1 := cp1) (wn := i) (fn := f) (wd0 := nI i) (x := nI v / 100) (y := nI v - nI v / 100 * 100) (g := g) hR (by omega) hV.2.2.1 hz12 hn_q46 hn_fl66 ne_q46_fl66 hwq hnq1 hnq2 hfn1 hfn2 hfn3 hcp1 hcp2 (by rw [hu_q46, i32_split, hwc, hfwa]) hu_fl (by rw [← htlc]; exact hc_tl1) hc_q1 (fun z z1 z2 z3 z4 => hfru z z1 z2 (by rw [htlc]; exact z3) z4)
          refine lv_iconst (v := 1) hx hb dX6_tree_84 (by decide) ?_
          refine N_isub hx hb (L 0 + 1) 1 rfl rfl (by omega) dX6_tree_85 ?_
          refine W.widen (k := 3) (n := 310) (Nat.le_of_ble_eq_true rfl) (Nat.le_of_ble_eq_true rfl) ?_
          exact x_iret (v := nI ((L 0 + 1) - 1)) wv hx hb hr hlocks hK hH (by rw [hsp]; exact ⟨by rw [Nat.add_sub_cancel], Nx.grow hrep (by rw [hyq, hxq]; exact inv_tree hV (by omega) hi (by omega) (by omega) (binI_1.mp c23)) (by rw [ha]; rfl) (fun j => by rw [upE_k _ _ _ _ _ (by decide), upE_k _ _ _ _ _ (by decide)]; exact hE j) (fun k i j hk => (tree_K hR hz12 hn_q46 hn_fl66 hwq k i j hk).imp id And.left) (fun y hy hn => hfru y (fun e9 => hn (by rw [e9]; exact hn_q46)) (fun e9 => hn (by rw [e9]; exact hn_fl66)) (fun e9 => hy ⟨5, 0, 0, ⟨by omega, rfl⟩, by rw [e9, htlc]⟩) (fun e9 => hwq.elim (fun h9 => hn (by rw [e9]; exact h9)) (fun ⟨h8, cap9, h9⟩ => (by by_cases h0 : L 0 = 0 <;> first | (rw [if_pos h0, hz12] at h9; cases h9; done) | (rw [if_neg h0] at h8; exact hy ⟨6, 0, 0, ⟨by omega, rfl, by omega⟩, by rw [e9, h8]⟩)))))⟩) dX6_tree_86
        · have c37 : ¬ (L 0) < 60 := fun zz => c37 ((nI_ltI (a := (L 0)) (b := 60) (by omega) (by omega)).mpr zz)
          refine lv_iconst (v := (-1)) hx hb dX6_tree_40 (by decide) ?_
          refine W.widen (k := 3) (n := 310) (Nat.le_of_ble_eq_true rfl) (Nat.le_of_ble_eq_true rfl) ?_
          exact x_iret (v := (-1)) w hx hb hr hlocks hK hH (by rw [show sTree I F (L 0) (nI i) wh g = (-1, I, F) from by unfold sTree; rw [if_neg (bin6 hi), if_neg (show ¬ binI wh 0 9999 = 0 from by rw [← plc_eq]; exact c16), if_neg c23, if_pos (show L 0 = 60 by omega)]]; exact ⟨rfl, Nx.same hR hV ha hE (fun _ _ => rfl)⟩) dX6_tree_41
  · have hnw := hno
    refine lv_astoreN (lv' := [(4, .null), (0, .ref a), (1, .int wd0), (2, .int wh), (3, .int g)]) hx hb dX6_tree_5 hl (by decide) rfl (fun ls hl => ?_)
    refine lv_aloadN hx hb dX6_tree_7 (lv_at hl 0 rfl) ?_
    refine lv_ifnullN (tgt := 40) hx hb dX6_tree_9 (by decide) ?_
    refine lv_iconst (v := (-1)) hx hb dX6_tree_40 (by decide) ?_
    refine W.widen (k := 3) (n := 310) (Nat.le_of_ble_eq_true rfl) (Nat.le_of_ble_eq_true rfl) ?_
    exact x_iret (v := (-1)) w hx hb hr hlocks hK hH (by rw [show sTree I F (L 0) wd0 wh g = (-1, I, F) from if_pos (bin6n hnw)]; exact ⟨rfl, Nx.same hR hV ha hE (fun _ _ => rfl)⟩) dX6_tree_41
