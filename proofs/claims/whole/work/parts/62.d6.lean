
theorem lstR {G : XG} {w : XW} {ad : YA} {E : YE} {cp L wd bw : Nat → Nat} {lb : Nat → Option Nat} {I : Nat → Int32} {F : Nat → Nat → Int32} (hR : Rep G w ad E cp L wd bw lb I F) {i : Nat} (hi : i < 2 + L 0) : lstD G w (if L i = 0 then G.2 12 else ad 6 i 0) (L i) (cp i) (ldat ad L i) := by
  by_cases h : L i = 0
  · exact Or.inl ⟨if_pos h, h⟩
  · exact Or.inr (hR.dat hi (by omega))
theorem facesR {G : XG} {w : XW} {ad : YA} {E : YE} {cp L wd bw : Nat → Nat} {lb : Nat → Option Nat} {I : Nat → Int32} {F : Nat → Nat → Int32} (hR : Rep G w ad E cp L wd bw lb I F) (h60 : L 0 ≤ 60) {t j y : Nat} (ht : t < L 0) (hy : ldat ad L (2 + t) j = some y) : ∃ vs, w y = some (.inr (2, vs)) := by
  by_cases h : j < L (2 + t)
  · rw [ldat_f ad L h] at hy
    cases hy
    exact ⟨_, hR.face h60 ht h⟩
  · rw [show ldat ad L (2 + t) j = none from if_neg h] at hy
    cases hy

set_option maxHeartbeats 4000000 in
set_option maxRecDepth 100000 in
theorem c_X6_cut (l : Launch) (G : XG) (A : Nat → Prop) (w : XW) (a : Nat) (ad : YA) (E : YE) (cp L wd bw : Nat → Nat) (lb : Nat → Option Nat) (I : Nat → Int32) (F : Nat → Nat → Int32) (hc_a : w a = some (.inr (7, [.ref (ad 1 0 0), .ref (ad 2 0 0), .ref (ad 3 0 0), .ref (ad 5 0 0), .ref (ad 5 1 0), .ref (ad 7 0 0), .ref (ad 8 0 0), .int (I 0), .int (I 30), .int (I 29), .int (I 31), .int (I 32)]))) (now : Nat) (hR : Rep G w ad E cp L wd bw lb I F) (hV : Inv now L wd bw lb I F) (ha : a = ad 0 0 0) (hE : ∀ j, E 9 4 0 j = 0) (t0 fc0 : Int32) : Met l yX6_cut wsX6_cut ({ frames := 8, cells := 3, slots := 310, locals := 213 }) (va_Pc [.ref a, .int t0, .int fc0] (xP G A (w))) (va_Qi (fun (r : Int32) (u : XW) => r = (sCut I F t0 fc0).1 ∧ Nx G w u a (own ad L) (sCut I F t0 fc0).2.1 (sCut I F t0 fc0).2.2) (fun u t => xB G A (u) t) A) 3 310 A := by
  refine Met.ofW (cc := cX6_cut) (maxL := 5) (ret := (some .int)) (by decide) rfl ?_
  intro p e s m args below meth c s₁ B hml hv
  obtain ⟨rfl, hK, hH, hTt⟩ := hv
  have hx := B.exec
  have hb := B.bytes
  have hr := B.returns
  have hts := atoms_spec (ws := wsX6_cut) B.pre
  have hown : s.vm.findClass RX6 = some m.cls := findClass_of_methodNamed B.named
  have hlocks := B.notSynchronized
  have hiX4 : ∀ w ∈ wsX40, w ∈ wsX6_cut := by decide +kernel
  have hiX6 : ∀ w ∈ wsX60, w ∈ wsX6_cut := by decide +kernel
  have hf46 := hts (.fieldLink RX6 46 "ResinWoods" "now" "I") (by decide +kernel)
  have hf102 := hts (.fieldLink RX6 102 "ResinWoods$Tree" "isBurnt" "Z") (by decide +kernel)
  have hl := lv_entry ([.ref a, .int t0, .int fc0]) (n := 5) (Nat.le_of_ble_eq_true rfl)
  rw [lg_entry_eq]
  generalize (lg_sl ([.ref a, .int t0, .int fc0]) ++ List.replicate (5 - (lg_sl ([.ref a, .int t0, .int fc0])).length) Slot.unset).toArray = ls at hl ⊢
  have hl : lv_has ls 5 [(0, .ref a), (1, .int t0), (2, .int fc0)] := hl
  have h60 : L 0 ≤ 60 := hV.1.2.2.2.1
  have hI3 : I 3 = nI (L 0) := hV.1.2.2.1
  have hI0 : I 0 = nI now := hV.1.1
  have hnow : now ≤ 3650 := hV.1.2.1
  obtain ⟨fa, hfa⟩ : ∃ z : Nat → Nat, z = fun j => ad 12 j 0 := ⟨_, rfl⟩
  obtain ⟨fba, hfba⟩ : ∃ z : Nat → Nat, z = fun j => ad 15 j 0 := ⟨_, rfl⟩
  obtain ⟨hs, hBV, hB1, hB2, hB3, hB4, hB5⟩ := hV.2.2.2.2
  have hI16 : I 16 = nI (L 1) := hBV.1
  have h200 : L 1 ≤ 200 := hBV.2.1
  obtain ⟨fwa, hfwa⟩ : ∃ z : Nat → Nat, z = fun j => ad 4 j 0 := ⟨_, rfl⟩
  refine lv_aload_n hx hb dX6_cut_0 rfl (lv_at hl 0 rfl) ?_
  refine lv_iload_n hx hb dX6_cut_1 rfl (lv_at hl 1 rfl) ?_
  refine x_callq (va_runV (As := [.int t0]) (rest := []) ⟨hx, hb, hml, hown, hts⟩ (c_X6_treeAt l G A _ a (ad 5 0 0) _ _ _ _ _ _ (if L 0 = 0 then G.2 12 else ad 6 0 0) _ _ _ _ _ _ (L 0) (cp 0) (ldat ad L 0) hc_a (hR.lst (by omega)) t0 fa (fun h9 => hR.dat (by omega) h9) (fun j hj => by rw [hfa]; exact ldat_t ad L hj) (by have := hR.2.2 0 (by omega); omega) (hR.2.2 0 (by omega)).1 (fun j hj => ⟨_, by rw [hfa]; exact hR.tree hj⟩)) (cwV 1 hts gX6_cut_X6_treeAt rfl rfl rfl (by decide +kernel) ⟨Nat.le_of_ble_eq_true rfl, Nat.le_of_ble_eq_true rfl⟩) (x_preV hK hH hTt (hc_a) rfl [.int t0]) rfl rfl hl.1 rfl (lv_room (Nat.le_of_ble_eq_true rfl)) dX6_cut_2 ⟨Nat.le_of_ble_eq_true rfl, Nat.le_of_ble_eq_true rfl⟩) hH (fun r2 u H locs hp hH => ?_)
  obtain ⟨hat, hu9⟩ := hp
  rw [hu9] at hH
  rcases atR_or hat with ⟨t, ht, rfl, rfl⟩ | ⟨hno, rfl⟩
  · obtain ⟨tr, htr⟩ : ∃ z, z = fa t := ⟨_, rfl⟩
    rw [← htr]
    have hc_tr : w tr = some (.inr (5, [.int (nI t), .ref (ad 4 (wd t) 0), .int (F 5 t * 100 + F 6 t), .int (bearI (F 7 t)), .ref (ad 5 (2 + t) 0), .int (F 8 t), .int (F 10 t)])) := by rw [htr, hfa]; exact hR.tree ht
    obtain ⟨hT4, hT6, ⟨tx, ty, hTx, htx, hTy, hty⟩, hT7, hT8, hT9, hTb, hT3⟩ := hV.2.1 t ht
    refine lv_astore_n (lv' := [(3, .ref tr), (0, .ref a), (1, .int (nI t)), (2, .int fc0)]) hx hb dX6_cut_5 rfl hl (by decide) rfl (fun ls hl => ?_)
    refine lv_aload_n hx hb dX6_cut_6 rfl (lv_at hl 0 rfl) ?_
    refine lv_ifnull hx hb dX6_cut_7 ?_
    refine lv_aload_n hx hb dX6_cut_10 rfl (lv_at hl 0 rfl) ?_
    refine x_get (C := RX4) (T := TX4) (N := 7) hx hb hts hiX4 hown hK hH hc_tr rfl 5 (by decide) hf102 (fun _ h => h) (v := .int (F 8 t)) rfl dX6_cut_11 ?_
    refine lv_if_ne (tgt := 31) hx hb dX6_cut_14 (by decide) (fun c14 => ?_) (fun c14 => ?_)
    · refine lv_iconst (v := (-1)) hx hb dX6_cut_31 (by decide) ?_
      refine W.widen (k := 3) (n := 310) (Nat.le_of_ble_eq_true rfl) (Nat.le_of_ble_eq_true rfl) ?_
      exact x_iret (v := (-1)) w hx hb hr hlocks hK hH (by rw [sCut_1 hI3 h60 ht c14]; exact ⟨rfl, Nx.same hR hV ha hE (fun _ _ => rfl)⟩) dX6_cut_32
    · have h8 : F 8 t = 0 := c14
      refine lv_aload_n hx hb dX6_cut_17 rfl (lv_at hl 0 rfl) ?_
      refine lv_aload_n hx hb dX6_cut_18 rfl (lv_at hl 1 rfl) ?_
      refine x_get (C := RX6) (T := TX6) (N := 12) hx hb hts hiX6 hown hK hH hc_a rfl 7 (by decide) hf46 (fun _ h => h) (v := .int (I 0)) rfl dX6_cut_19 ?_
      refine x_calli (va_runS (As := [.int (I 0)]) (rest := [.ref tr]) ⟨hx, hb, hml, hown, hts⟩ (c_X6_yearOf l G A (w) (I 0)) (va_cwS 1 hts gX6_cut_X6_yearOf rfl rfl rfl (by decide +kernel) ⟨Nat.le_of_ble_eq_true rfl, Nat.le_of_ble_eq_true rfl⟩) (x_preS hK hH hTt [.int (I 0)]) rfl rfl hl.1 rfl (lv_room (Nat.le_of_ble_eq_true rfl)) dX6_cut_22 ⟨Nat.le_of_ble_eq_true rfl, Nat.le_of_ble_eq_true rfl⟩) hH (fun r22 u H locs hp hH => ?_)
      subst hp
      have hrq : rstC (F 10 t) (I 0 / 365) = sRests I F (nI t) := by unfold sRests; rw [if_neg (binP hI3 ht (by omega)), ix_n (by omega), hI0, show (365 : Int32) = nI 365 from rfl, pk_div (by omega) (by decide) (by decide), rests_eq _ (by omega), ix_n (by omega)]
      refine x_calli (va_runV (As := [.int ((I 0) / 365)]) (rest := []) ⟨hx, hb, hml, hown, hts⟩ (c_X4_restsIn l G A _ tr _ _ _ _ _ _ _ hc_tr ((I 0) / 365)) (cwV 1 hts gX6_cut_X4_restsIn rfl rfl rfl (by decide +kernel) ⟨Nat.le_of_ble_eq_true rfl, Nat.le_of_ble_eq_true rfl⟩) (x_preV hK hH hTt (hc_tr) rfl [.int ((I 0) / 365)]) rfl rfl hl.1 rfl (lv_room (Nat.le_of_ble_eq_true rfl)) dX6_cut_25 ⟨Nat.le_of_ble_eq_true rfl, Nat.le_of_ble_eq_true rfl⟩) hH (fun r25 u H locs hp hH => ?_)
      obtain ⟨rfl, hu9⟩ := hp
      rw [hu9] at hH
      refine lv_if_eq (tgt := 33) hx hb dX6_cut_28 (by decide) (fun c28 => ?_) (fun c28 => ?_)
      · refine lv_aload_n hx hb dX6_cut_33 rfl (lv_at hl 0 rfl) ?_
        refine lv_iload_n hx hb dX6_cut_34 rfl (lv_at hl 3 rfl) ?_
        obtain ⟨fb, hfb⟩ : ∃ z : Nat → Nat, z = fun j => ad 13 t j := ⟨_, rfl⟩
        refine x_callq (va_runV (As := [.int fc0]) (rest := []) ⟨hx, hb, hml, hown, hts⟩ (c_X4_faceAt l G A _ tr (ad 5 (2 + t) 0) _ (if L (2 + t) = 0 then G.2 12 else ad 6 (2 + t) 0) _ _ _ _ _ _ (L (2 + t)) (cp (2 + t)) (ldat ad L (2 + t)) hc_tr (hR.lst (by omega)) fc0 fb (fun h9 => hR.dat (by omega) h9) (fun j hj => by rw [hfb]; exact ldat_f ad L hj) (by have := hR.2.2 (2 + t) (by omega); omega) (hR.2.2 (2 + t) (by omega)).1 (fun j hj => ⟨_, by rw [hfb]; exact hR.face h60 ht hj⟩)) (cwV 1 hts gX6_cut_X4_faceAt rfl rfl rfl (by decide +kernel) ⟨Nat.le_of_ble_eq_true rfl, Nat.le_of_ble_eq_true rfl⟩) (x_preV hK hH hTt (hc_tr) rfl [.int fc0]) rfl rfl hl.1 rfl (lv_room (Nat.le_of_ble_eq_true rfl)) dX6_cut_35 ⟨Nat.le_of_ble_eq_true rfl, Nat.le_of_ble_eq_true rfl⟩) hH (fun r35 u H locs hp hH => ?_)
        obtain ⟨hat, hu9⟩ := hp
        rw [hu9] at hH
        rcases atR_or hat with ⟨i, hi, rfl, rfl⟩ | ⟨hno, rfl⟩
        · obtain ⟨fc, hfc⟩ : ∃ z, z = fb i := ⟨_, rfl⟩
          rw [← hfc]
          obtain ⟨gc, hgc⟩ : ∃ z, z = ad 14 t i := ⟨_, rfl⟩
          have hc_fc : w fc = some (.inr (2, [.int (F 11 (3 * t + i)), .int (F 12 (3 * t + i)), .int (F 13 (3 * t + i)), .int (cupS F (3 * t + i)), .int (F 15 (3 * t + i)), .ref gc])) := by rw [hfc, hfb, hgc]; exact hR.face h60 ht hi
          have hc_gc : w gc = some (.inl (G.2 0, 4, .inl (gr4 F (3 * t + i)))) := by rw [hgc]; exact hR.grd h60 ht hi
          refine lv_astore (lv' := [(4, .ref fc), (3, .ref tr), (0, .ref a), (1, .int (nI t)), (2, .int (nI i))]) hx hb dX6_cut_38 hl (by decide) rfl (fun ls hl => ?_)
          refine lv_aload hx hb dX6_cut_40 (lv_at hl 0 rfl) ?_
          refine lv_ifnull hx hb dX6_cut_42 ?_
          obtain ⟨⟨la, hla, hla2⟩, ⟨oy, hoy, hoy2⟩, sk, hsk, hsk2⟩ := hV.2.2.2.1.2.1 t ht i hi
          refine lv_aload hx hb dX6_cut_45 (lv_at hl 0 rfl) ?_
          refine lv_aload_n hx hb dX6_cut_47 rfl (lv_at hl 2 rfl) ?_
          refine x_get (C := RX6) (T := TX6) (N := 12) hx hb hts hiX6 hown hK hH hc_a rfl 7 (by decide) hf46 (fun _ h => h) (v := .int (I 0)) rfl dX6_cut_48 ?_
          refine x_calli (va_runV (As := [.int (I 0)]) (rest := []) ⟨hx, hb, hml, hown, hts⟩ (c_X1_mayBeCutOn l G A _ fc _ _ _ _ _ _ hc_fc (I 0)) (cwV 1 hts gX6_cut_X1_mayBeCutOn rfl rfl rfl (by decide +kernel) ⟨Nat.le_of_ble_eq_true rfl, Nat.le_of_ble_eq_true rfl⟩) (x_preV hK hH hTt (hc_fc) rfl [.int (I 0)]) rfl rfl hl.1 rfl (lv_room (Nat.le_of_ble_eq_true rfl)) dX6_cut_51 ⟨Nat.le_of_ble_eq_true rfl, Nat.le_of_ble_eq_true rfl⟩) hH (fun r51 u H locs hp hH => ?_)
          obtain ⟨rfl, hu9⟩ := hp
          rw [hu9] at hH
          refine lv_if_eq (tgt := 70) hx hb dX6_cut_54 (by decide) (fun c54 => ?_) (fun c54 => ?_)
          · refine lv_iconst (v := (-1)) hx hb dX6_cut_70 (by decide) ?_
            refine W.widen (k := 3) (n := 310) (Nat.le_of_ble_eq_true rfl) (Nat.le_of_ble_eq_true rfl) ?_
            exact x_iret (v := (-1)) w hx hb hr hlocks hK hH (by rw [sCut_3 hI3 h60 ht h8 (by rw [← hrq]; exact c28) hT9 hT3 hi hT7 hTb]; by_cases z1 : I 0 - F 12 (3 * t + i) < 5 <;> by_cases z2 : F 11 (3 * t + i) = 40 <;> first | (rw [if_pos z1]; exact ⟨rfl, Nx.same hR hV ha hE (fun _ _ => rfl)⟩) | (rw [if_neg z1, if_pos z2]; exact ⟨rfl, Nx.same hR hV ha hE (fun _ _ => rfl)⟩) | (exfalso; have z3 : sk ≠ 40 := (fun z => z2 (by rw [hsk, z]; rfl)); rw [if_neg (show ¬ (40 : Int32) ≤ F 11 (3 * t + i) from by rw [hsk]; exact nI_ge (b := 40) (by omega) (by decide)), if_neg z1] at c54; exact absurd c54 (by decide))) dX6_cut_71
          · refine lv_aload_n hx hb dX6_cut_57 rfl (lv_at hl 1 rfl) ?_
            refine lv_aload hx hb dX6_cut_58 (lv_at hl 0 rfl) ?_
            refine lv_aload_n hx hb dX6_cut_60 rfl (lv_at hl 2 rfl) ?_
            refine x_get (C := RX6) (T := TX6) (N := 12) hx hb hts hiX6 hown hK hH hc_a rfl 7 (by decide) hf46 (fun _ h => h) (v := .int (I 0)) rfl dX6_cut_61 ?_
            refine x_calli (va_runV (As := [.ref fc, .int (I 0)]) (rest := []) ⟨hx, hb, hml, hown, hts⟩ (c_X4_streakOn l G A _ tr fc _ _ _ _ _ _ _ _ _ _ _ _ _ hc_tr hc_fc (I 0)) (cwV 2 hts gX6_cut_X4_streakOn rfl rfl rfl (by decide +kernel) ⟨Nat.le_of_ble_eq_true rfl, Nat.le_of_ble_eq_true rfl⟩) (x_preV hK hH hTt (hc_tr) rfl [.ref fc, .int (I 0)]) rfl rfl hl.1 rfl (lv_room (Nat.le_of_ble_eq_true rfl)) dX6_cut_64 ⟨Nat.le_of_ble_eq_true rfl, Nat.le_of_ble_eq_true rfl⟩) hH (fun r64 w64 H locs hp hH => ?_)
            obtain ⟨hr1064, hu_tr, hu_fc, hfm64⟩ := hp
            subst hr1064
            refine lv_goto (tgt := 71) hx hb dX6_cut_67 (by decide) ?_
            refine W.widen (k := 3) (n := 310) (Nat.le_of_ble_eq_true rfl) (Nat.le_of_ble_eq_true rfl) ?_
            exact x_iret (v := F 11 (3 * t + i) + 1) w64 hx hb hr hlocks hK hH (by have z1 : ¬ I 0 - F 12 (3 * t + i) < 5 := (fun z => by rw [if_pos z] at c54; split at c54 <;> exact c54 rfl); have z2 : ¬ F 11 (3 * t + i) = 40 := (fun z => by rw [z] at c54; exact c54 rfl); have z3 : sk ≠ 40 := (fun z => z2 (by rw [hsk, z]; rfl)); have hsk3 : sk < 40 := (by omega); rw [sCut_3 hI3 h60 ht h8 (by rw [← hrq]; exact c28) hT9 hT3 hi hT7 hTb, if_neg z1, if_neg z2]; have e1 : tr = ad 12 t 0 := (by rw [htr, hfa]); have e2 : fc = ad 13 t i := (by rw [hfc, hfb]); rw [e1] at hu_tr; rw [e2, hgc] at hu_fc; rw [e1, e2] at hfm64; exact ⟨rfl, Nx.same (rep_cut hR h60 (fun q hq => (hV.2.1 q hq).2.2.2.2.2.2.2) ht hi hu_tr hu_fc hfm64) (inv_cut hV ht hi hsk hsk3) ha hE (fun y hy => hfm64 y (hy 12 t 0 ⟨ht, rfl⟩) (hy 13 t i (Or.inl ⟨ht, hi⟩)))⟩) dX6_cut_71
        · have hnf := hno
          refine lv_astoreN (lv' := [(4, .null), (3, .ref tr), (0, .ref a), (1, .int (nI t)), (2, .int fc0)]) hx hb dX6_cut_38 hl (by decide) rfl (fun ls hl => ?_)
          refine lv_aloadN hx hb dX6_cut_40 (lv_at hl 0 rfl) ?_
          refine lv_ifnullN (tgt := 72) hx hb dX6_cut_42 (by decide) ?_
          refine lv_aload_n hx hb dX6_cut_72 rfl (lv_at hl 1 rfl) ?_
          refine lv_iload_n hx hb dX6_cut_73 rfl (lv_at hl 4 rfl) ?_
          refine x_calli (va_runV (As := [.int fc0]) (rest := []) ⟨hx, hb, hml, hown, hts⟩ (c_X4_mayOpen l G A _ tr (ad 5 (2 + t) 0) _ _ _ _ _ _ _ _ (L (2 + t)) hc_tr (hR.lst (by omega)) fc0) (cwV 1 hts gX6_cut_X4_mayOpen rfl rfl rfl (by decide +kernel) ⟨Nat.le_of_ble_eq_true rfl, Nat.le_of_ble_eq_true rfl⟩) (x_preV hK hH hTt (hc_tr) rfl [.int fc0]) rfl rfl hl.1 rfl (lv_room (Nat.le_of_ble_eq_true rfl)) dX6_cut_74 ⟨Nat.le_of_ble_eq_true rfl, Nat.le_of_ble_eq_true rfl⟩) hH (fun r74 u H locs hp hH => ?_)
          obtain ⟨rfl, hu9⟩ := hp
          rw [hu9] at hH
          refine lv_if_eq (tgt := 99) hx hb dX6_cut_77 (by decide) (fun c77 => ?_) (fun c77 => ?_)
          · refine lv_iconst (v := (-1)) hx hb dX6_cut_99 (by decide) ?_
            refine W.widen (k := 3) (n := 310) (Nat.le_of_ble_eq_true rfl) (Nat.le_of_ble_eq_true rfl) ?_
            exact x_iret (v := (-1)) w hx hb hr hlocks hK hH (by rw [sCut_4 hI3 h60 ht h8 (by rw [← hrq]; exact c28) hT9 hT3 hT7 hnf c77]; exact ⟨rfl, Nx.same hR hV ha hE (fun _ _ => rfl)⟩) dX6_cut_100
          · have hfo : fc0 = nI (L (2 + t)) := Classical.byContradiction (fun z => by rw [if_neg z] at c77; exact c77 rfl)
            subst hfo
            have hH0 := hH
            refine lv_aload_n hx hb dX6_cut_80 rfl (lv_at hl 1 rfl) ?_
            refine lv_aload_n hx hb dX6_cut_81 rfl (lv_at hl 1 rfl) ?_
            refine lv_aload_n hx hb dX6_cut_82 rfl (lv_at hl 2 rfl) ?_
            refine x_get (C := RX6) (T := TX6) (N := 12) hx hb hts hiX6 hown hK hH hc_a rfl 7 (by decide) hf46 (fun _ h => h) (v := .int (I 0)) rfl dX6_cut_83 ?_
            refine x_callq (va_runV (As := [.int (I 0)]) (rest := [.ref tr]) ⟨hx, hb, hml, hown, hts⟩ (c_X4_openFace l G A _ tr (ad 5 (2 + t) 0) _ (if L (2 + t) = 0 then G.2 12 else ad 6 (2 + t) 0) _ _ _ _ _ (E 5 (2 + t) 0 0) (L (2 + t)) (cp (2 + t)) (ldat ad L (2 + t)) hc_tr (hR.lst (by omega)) (I 0) (lstR hR (by omega)) (by omega) (hR.2.2 (2 + t) (by omega)).1 (hR.2.2 (2 + t) (by omega)).2.2 (hR.2.2 (2 + t) (by omega)).2.1 (fun j hj => if_neg (by omega)) (fun j y hy => facesR hR h60 ht hy)) (cwV 1 hts gX6_cut_X4_openFace rfl rfl rfl (by decide +kernel) ⟨Nat.le_of_ble_eq_true rfl, Nat.le_of_ble_eq_true rfl⟩) (x_preV hK hH hTt (hc_tr) rfl [.int (I 0)]) rfl rfl hl.1 rfl (lv_room (Nat.le_of_ble_eq_true rfl)) dX6_cut_86 ⟨Nat.le_of_ble_eq_true rfl, Nat.le_of_ble_eq_true rfl⟩) hH (fun r86 w86 H locs hp hH => ?_)
            obtain ⟨fq, gq, q, c1, fn, rfl, hq1, hq2, hq3, hq4, hq5, hq6, hu_fl, hu_q, hcp1, hcp2, hfn1, hfn2, hfn3, hu_fq, hu_gq, hfm86⟩ := hp
            have htq : tr ≠ q := fun e9 => hq4.elim (fun h9 => by rw [← e9, hc_tr] at h9; cases h9) (fun ⟨h8, cap9, h9⟩ => by rw [← h8, ← e9, hc_tr] at h9; cases h9)
            have htf : tr ≠ fq := fun e9 => by rw [← e9, hc_tr] at hq1; cases hq1
            have htg : tr ≠ gq := fun e9 => by rw [← e9, hc_tr] at hq2; cases hq2
            have htl : tr ≠ ad 5 (2 + t) 0 := fun e9 => by have h9 := hR.lst (i := 2 + t) (by omega); rw [← e9, hc_tr] at h9; cases h9
            have hc_tr : w86 tr = some (.inr (5, [.int (nI t), .ref (ad 4 (wd t) 0), .int (F 5 t * 100 + F 6 t), .int (bearI (F 7 t)), .ref (ad 5 (2 + t) 0), .int (F 8 t), .int (F 10 t)])) := (hfm86 tr htl htq htf htg).trans hc_tr
            have hc_a : w86 a = some (.inr (7, [.ref (ad 1 0 0), .ref (ad 2 0 0), .ref (ad 3 0 0), .ref (ad 5 0 0), .ref (ad 5 1 0), .ref (ad 7 0 0), .ref (ad 8 0 0), .int (I 0), .int (I 30), .int (I 29), .int (I 31), .int (I 32)])) := (hfm86 a (fun e9 => by have h9 := hR.lst (i := 2 + t) (by omega); rw [← e9, hc_a] at h9; cases h9) (fun e9 => hq4.elim (fun h9 => by rw [← e9, hc_a] at h9; cases h9) (fun ⟨h8, cap9, h9⟩ => by rw [← h8, ← e9, hc_a] at h9; cases h9)) (fun e9 => by rw [← e9, hc_a] at hq1; cases hq1) (fun e9 => by rw [← e9, hc_a] at hq2; cases hq2)).trans hc_a
            refine lv_aload_n hx hb dX6_cut_89 rfl (lv_at hl 2 rfl) ?_
            refine x_get (C := RX6) (T := TX6) (N := 12) hx hb hts hiX6 hown hK hH hc_a rfl 7 (by decide) hf46 (fun _ h => h) (v := .int (I 0)) rfl dX6_cut_90 ?_
            refine x_calli (va_runV (As := [.ref fq, .int (I 0)]) (rest := []) ⟨hx, hb, hml, hown, hts⟩ (c_X4_streakOn l G A _ tr fq _ _ _ _ _ _ _ _ _ _ _ _ _ hc_tr hu_fq (I 0)) (cwV 2 hts gX6_cut_X4_streakOn rfl rfl rfl (by decide +kernel) ⟨Nat.le_of_ble_eq_true rfl, Nat.le_of_ble_eq_true rfl⟩) (x_preV hK hH hTt (hc_tr) rfl [.ref fq, .int (I 0)]) rfl rfl hl.1 rfl (lv_room (Nat.le_of_ble_eq_true rfl)) dX6_cut_93 ⟨Nat.le_of_ble_eq_true rfl, Nat.le_of_ble_eq_true rfl⟩) hH (fun r93 w93 H locs hp hH => ?_)
            obtain ⟨hr1093, hu_tr, hu_fc, hfm93⟩ := hp
            subst hr1093
            have hz12 := x_no12 hH0 hTt
            have hbe : ¬ bearI (F 7 t) ≤ nI (L (2 + t)) := fun z => by rw [if_pos rfl, if_pos z] at c77; exact c77 rfl
            have hn3 : L (2 + t) < 3 := (bear_lt hT3 hbe).2
            have hz11 : F 11 (3 * t + L (2 + t)) = 0 := (hV.2.2.1.2 t (L (2 + t)) (by omega) hn3 (Or.inr (Nat.le_refl _))).1
            have hsp5 := sCut_5 (I := I) (F := F) hI3 h60 ht h8 (by rw [← hrq]; exact c28) hT9 hT3 hT7 hbe
            have e1 : tr = ad 12 t 0 := by rw [htr, hfa]
            have hrep := rep_open (G := G) (w := w) (u := w93) (ad := ad) (E := E) (cp := cp) (L := L) (wd := wd) (bw := bw) (lb := lb) (I := I) (F := F) (fq := fq) (gq := gq) (q := q) (c1 := c1) (fn := fn) (x := I 0) (y := F 10 t ||| 1 <<< (I 0 / 365 &&& 31)) (z9 := I 0 / 365) hR h60 (fun q hq => (hV.2.1 q hq).2.2.2.2.2.2.2) hV.2.2.1 hz12 ht hn3 hq1 hq2 hq3 hq4 hq5 hq6 hfn1 hfn2 hfn3 hcp1 hcp2 (by rw [← e1]; exact hu_tr) hu_fc ((hfm93 gq htg.symm hq3.symm).trans hu_gq) ((hfm93 _ htl.symm (fun e9 => by have h9 := hR.lst (i := 2 + t) (by omega); rw [e9, hq1] at h9; cases h9)).trans hu_fl) ((hfm93 q htq.symm hq5).trans hu_q) (fun z z1 z2 z3 z4 z5 => (hfm93 z (by rw [e1]; exact z1) z2).trans (hfm86 z z4 z5 z2 z3))
            have hqq : ∀ {y : Nat}, y = q → ¬ own ad L y → w y ≠ none → False := fun e9 hy hn => hq4.elim (fun h9 => hn (by rw [e9]; exact h9)) (fun ⟨h8, cap9, h9⟩ => by
              by_cases h0 : L (2 + t) = 0
              · rw [if_pos h0, hz12] at h9; cases h9
              · rw [if_neg h0] at h8; exact hy ⟨6, 2 + t, 0, ⟨by omega, rfl, by omega⟩, by rw [e9, h8]⟩)
            have hKK : ∀ k i j, lvK (va_up L (2 + t) (L (2 + t) + 1)) k i j → (lvK L k i j ∧ upA (upA (upA ad 13 t (L (2 + t)) fq) 14 t (L (2 + t)) gq) 6 (2 + t) 0 q k i j = ad k i j) ∨ w (upA (upA (upA ad 13 t (L (2 + t)) fq) 14 t (L (2 + t)) gq) 6 (2 + t) 0 q k i j) = none := fun k i j hk => by
              by_cases b1 : k = 13 ∧ i = t ∧ j = L (2 + t)
              · obtain ⟨rfl, rfl, rfl⟩ := b1
                exact Or.inr (by rw [upA_k _ _ _ _ _ _ (by decide), upA_k _ _ _ _ _ _ (by decide), upA_at]; exact hq1)
              · by_cases b2 : k = 14 ∧ i = t ∧ j = L (2 + t)
                · obtain ⟨rfl, rfl, rfl⟩ := b2
                  exact Or.inr (by rw [upA_k _ _ _ _ _ _ (by decide), upA_at]; exact hq2)
                · by_cases b3 : k = 6 ∧ i = 2 + t
                  · obtain ⟨rfl, rfl⟩ := b3
                    have hj : j = 0 := hk.2.1
                    subst hj
                    rw [upA_at]
                    rcases hq4 with h9 | ⟨h8, cap9, h9⟩
                    · exact Or.inr h9
                    · by_cases h0 : L (2 + t) = 0
                      · rw [if_pos h0, hz12] at h9; cases h9
                      · rw [if_neg h0] at h8; exact Or.inl ⟨⟨by omega, rfl, by omega⟩, h8⟩
                  · exact Or.inl ⟨live_open h60 ht hk b1 b2 b3, by unfold upA; rw [if_neg (fun z => b3 ⟨z.1, z.2.1⟩), if_neg b2, if_neg b1]⟩
            refine lv_goto (tgt := 100) hx hb dX6_cut_96 (by decide) ?_
            refine W.widen (k := 3) (n := 310) (Nat.le_of_ble_eq_true rfl) (Nat.le_of_ble_eq_true rfl) ?_
            exact x_iret (v := 0 + 1) w93 hx hb hr hlocks hK hH (by rw [hsp5]; exact ⟨by rw [hz11], Nx.grow hrep (inv_open hV ht hbe) (by rw [ha]; rfl) (fun j => by rw [upE_k _ _ _ _ _ (by decide)]; exact hE j) hKK (fun y hy hn => (hfm93 y (fun e9 => hy ⟨12, t, 0, ⟨ht, rfl⟩, by rw [e9, htr, hfa]⟩) (fun e9 => hn (by rw [e9]; exact hq1))).trans (hfm86 y (fun e9 => hy ⟨5, 2 + t, 0, ⟨by omega, rfl⟩, e9⟩) (fun e9 => hqq e9 hy hn) (fun e9 => hn (by rw [e9]; exact hq1)) (fun e9 => hn (by rw [e9]; exact hq2))))⟩) dX6_cut_100
      · refine lv_iconst (v := (-1)) hx hb dX6_cut_31 (by decide) ?_
        refine W.widen (k := 3) (n := 310) (Nat.le_of_ble_eq_true rfl) (Nat.le_of_ble_eq_true rfl) ?_
        exact x_iret (v := (-1)) w hx hb hr hlocks hK hH (by rw [sCut_2 hI3 h60 ht h8 (by rw [← hrq]; exact c28)]; exact ⟨rfl, Nx.same hR hV ha hE (fun _ _ => rfl)⟩) dX6_cut_32
  · have hnt := hno
    refine lv_astore_nN (lv' := [(3, .null), (0, .ref a), (1, .int t0), (2, .int fc0)]) hx hb dX6_cut_5 rfl hl (by decide) rfl (fun ls hl => ?_)
    refine lv_aload_nN hx hb dX6_cut_6 rfl (lv_at hl 0 rfl) ?_
    refine lv_ifnullN (tgt := 31) hx hb dX6_cut_7 (by decide) ?_
    refine lv_iconst (v := (-1)) hx hb dX6_cut_31 (by decide) ?_
    refine W.widen (k := 3) (n := 310) (Nat.le_of_ble_eq_true rfl) (Nat.le_of_ble_eq_true rfl) ?_
    exact x_iret (v := (-1)) w hx hb hr hlocks hK hH (by rw [sCut_0 hI3 h60 hnt]; exact ⟨rfl, Nx.same hR hV ha hE (fun _ _ => rfl)⟩) dX6_cut_32
