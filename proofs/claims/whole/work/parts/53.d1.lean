set_option maxHeartbeats 4000000 in
set_option maxRecDepth 100000 in
theorem c_X6_bears (l : Launch) (G : XG) (A : Nat → Prop) (w : XW) (a : Nat) (q : Int32) : Met l yX6_bears wsX6_bears ({ frames := 1, cells := 0, slots := 0, locals := 20 }) (va_Pc [.ref a, .int q] (xP G A (w))) (va_Qi (fun (r : Int32) (u : Unit) => r = (if binI q 20 400 = 0 then -1 else bearI q)) (fun u t => xB G A (w) t) A) 0 0 A := by
  refine Met.ofW (cc := cX6_bears) (maxL := 2) (ret := (some .int)) (by decide) rfl ?_
  intro p e s m args below meth c s₁ B hml hv
  obtain ⟨rfl, hK, hH, hTt⟩ := hv
  have hx := B.exec
  have hb := B.bytes
  have hr := B.returns
  have hts := atoms_spec (ws := wsX6_bears) B.pre
  have hown : s.vm.findClass RX6 = some m.cls := findClass_of_methodNamed B.named
  have hlocks := B.notSynchronized
  have hl := lv_entry ([.ref a, .int q]) (n := 2) (Nat.le_of_ble_eq_true rfl)
  rw [lg_entry_eq]
  generalize (lg_sl ([.ref a, .int q]) ++ List.replicate (2 - (lg_sl ([.ref a, .int q])).length) Slot.unset).toArray = ls at hl ⊢
  have hl : lv_has ls 2 [(0, .ref a), (1, .int q)] := hl
  refine lv_iload_n hx hb dX6_bears_0 rfl (lv_at hl 1 rfl) ?_
  refine x_calli (va_runS (As := [.int q]) (rest := []) ⟨hx, hb, hml, hown, hts⟩ (c_X6_isGirth l G A (w) q) (va_cwS 1 hts gX6_bears_X6_isGirth rfl rfl rfl (by decide +kernel) ⟨Nat.le_of_ble_eq_true rfl, Nat.le_of_ble_eq_true rfl⟩) (x_preS hK hH hTt [.int q]) rfl rfl hl.1 rfl (lv_room (Nat.le_of_ble_eq_true rfl)) dX6_bears_1 ⟨Nat.le_of_ble_eq_true rfl, Nat.le_of_ble_eq_true rfl⟩) hH (fun r1 u H locs hp hH => ?_)
  subst hp
  refine lv_if_eq (tgt := 14) hx hb dX6_bears_4 (by decide) (fun c4 => ?_) (fun c4 => ?_)
  · refine lv_iconst (v := (-1)) hx hb dX6_bears_14 (by decide) ?_
    exact x_iret (v := (-1)) () hx hb hr hlocks hK hH (by simp [c4]) dX6_bears_15
  · refine lv_iload_n hx hb dX6_bears_7 rfl (lv_at hl 1 rfl) ?_
    refine x_calli (va_runS (As := [.int q]) (rest := []) ⟨hx, hb, hml, hown, hts⟩ (c_X6_facesBorneBy l G A (w) q) (va_cwS 1 hts gX6_bears_X6_facesBorneBy rfl rfl rfl (by decide +kernel) ⟨Nat.le_of_ble_eq_true rfl, Nat.le_of_ble_eq_true rfl⟩) (x_preS hK hH hTt [.int q]) rfl rfl hl.1 rfl (lv_room (Nat.le_of_ble_eq_true rfl)) dX6_bears_8 ⟨Nat.le_of_ble_eq_true rfl, Nat.le_of_ble_eq_true rfl⟩) hH (fun r8 u H locs hp hH => ?_)
    subst hp
    refine lv_goto (tgt := 15) hx hb dX6_bears_11 (by decide) ?_
    exact x_iret (v := bearI q) () hx hb hr hlocks hK hH (by simp [c4]) dX6_bears_15

set_option maxHeartbeats 4000000 in
set_option maxRecDepth 100000 in
theorem c_X6_rests (l : Launch) (G : XG) (A : Nat → Prop) (w : XW) (a : Nat) (ad : YA) (E : YE) (cp L wd bw : Nat → Nat) (lb : Nat → Option Nat) (I : Nat → Int32) (F : Nat → Nat → Int32) (hc_a : w a = some (.inr (7, [.ref (ad 1 0 0), .ref (ad 2 0 0), .ref (ad 3 0 0), .ref (ad 5 0 0), .ref (ad 5 1 0), .ref (ad 7 0 0), .ref (ad 8 0 0), .int (I 0), .int (I 30), .int (I 29), .int (I 31), .int (I 32)]))) (now : Nat) (hR : Rep G w ad E cp L wd bw lb I F) (hV : Inv now L wd bw lb I F) (t0 : Int32) : Met l yX6_rests wsX6_rests ({ frames := 4, cells := 0, slots := 0, locals := 85 }) (va_Pc [.ref a, .int t0] (xP G A (w))) (va_Qi (fun (r : Int32) (u : XW) => r = sRests I F t0 ∧ u = w) (fun u t => xB G A (u) t) A) 0 0 A := by
  refine Met.ofW (cc := cX6_rests) (maxL := 3) (ret := (some .boolean)) (by decide) rfl ?_
  intro p e s m args below meth c s₁ B hml hv
  obtain ⟨rfl, hK, hH, hTt⟩ := hv
  have hx := B.exec
  have hb := B.bytes
  have hr := B.returns
  have hts := atoms_spec (ws := wsX6_rests) B.pre
  have hown : s.vm.findClass RX6 = some m.cls := findClass_of_methodNamed B.named
  have hlocks := B.notSynchronized
  have hiX6 : ∀ w ∈ wsX60, w ∈ wsX6_rests := by decide +kernel
  have hf46 := hts (.fieldLink RX6 46 "ResinWoods" "now" "I") (by decide +kernel)
  have hl := lv_entry ([.ref a, .int t0]) (n := 3) (Nat.le_of_ble_eq_true rfl)
  rw [lg_entry_eq]
  generalize (lg_sl ([.ref a, .int t0]) ++ List.replicate (3 - (lg_sl ([.ref a, .int t0])).length) Slot.unset).toArray = ls at hl ⊢
  have hl : lv_has ls 3 [(0, .ref a), (1, .int t0)] := hl
  have h60 : L 0 ≤ 60 := hV.1.2.2.2.1
  have hI3 : I 3 = nI (L 0) := hV.1.2.2.1
  have hI0 : I 0 = nI now := hV.1.1
  have hnow : now ≤ 3650 := hV.1.2.1
  obtain ⟨fa, hfa⟩ : ∃ z : Nat → Nat, z = fun j => ad 12 j 0 := ⟨_, rfl⟩
  obtain ⟨fba, hfba⟩ : ∃ z : Nat → Nat, z = fun j => ad 15 j 0 := ⟨_, rfl⟩
  obtain ⟨hs, hBV, hB1, hB2, hB3, hB4, hB5⟩ := hV.2.2.2.2
  have hI16 : I 16 = nI (L 1) := hBV.1
  have h200 : L 1 ≤ 200 := hBV.2.1
  refine lv_aload_n hx hb dX6_rests_0 rfl (lv_at hl 0 rfl) ?_
  refine lv_iload_n hx hb dX6_rests_1 rfl (lv_at hl 1 rfl) ?_
  refine x_callq (va_runV (As := [.int t0]) (rest := []) ⟨hx, hb, hml, hown, hts⟩ (c_X6_treeAt l G A _ a (ad 5 0 0) _ _ _ _ _ _ (if L 0 = 0 then G.2 12 else ad 6 0 0) _ _ _ _ _ _ (L 0) (cp 0) (ldat ad L 0) hc_a (hR.lst (by omega)) t0 fa (fun h9 => hR.dat (by omega) h9) (fun j hj => by rw [hfa]; exact ldat_t ad L hj) (by have := hR.2.2 0 (by omega); omega) (hR.2.2 0 (by omega)).1 (fun j hj => ⟨_, by rw [hfa]; exact hR.tree hj⟩)) (cwV 1 hts gX6_rests_X6_treeAt rfl rfl rfl (by decide +kernel) ⟨Nat.le_of_ble_eq_true rfl, Nat.le_of_ble_eq_true rfl⟩) (x_preV hK hH hTt (hc_a) rfl [.int t0]) rfl rfl hl.1 rfl (lv_room (Nat.le_of_ble_eq_true rfl)) dX6_rests_2 ⟨Nat.le_of_ble_eq_true rfl, Nat.le_of_ble_eq_true rfl⟩) hH (fun r2 u H locs hp hH => ?_)
  obtain ⟨hat, hu9⟩ := hp
  rw [hu9] at hH
  rcases atR_or hat with ⟨t, ht, rfl, rfl⟩ | ⟨hno, rfl⟩
  · obtain ⟨tr, htr⟩ : ∃ z, z = fa t := ⟨_, rfl⟩
    rw [← htr]
    have hc_tr : w tr = some (.inr (5, [.int (nI t), .ref (ad 4 (wd t) 0), .int (F 5 t * 100 + F 6 t), .int (bearI (F 7 t)), .ref (ad 5 (2 + t) 0), .int (F 8 t), .int (F 10 t)])) := by rw [htr, hfa]; exact hR.tree ht
    obtain ⟨hT4, hT6, ⟨tx, ty, hTx, htx, hTy, hty⟩, hT7, hT8, hT9, hTb, hT3⟩ := hV.2.1 t ht
    refine lv_astore_n (lv' := [(2, .ref tr), (0, .ref a), (1, .int (nI t))]) hx hb dX6_rests_5 rfl hl (by decide) rfl (fun ls hl => ?_)
    refine lv_aload_n hx hb dX6_rests_6 rfl (lv_at hl 0 rfl) ?_
    refine lv_ifnull hx hb dX6_rests_7 ?_
    refine lv_aload_n hx hb dX6_rests_10 rfl (lv_at hl 0 rfl) ?_
    refine lv_aload_n hx hb dX6_rests_11 rfl (lv_at hl 1 rfl) ?_
    refine x_get (C := RX6) (T := TX6) (N := 12) hx hb hts hiX6 hown hK hH hc_a rfl 7 (by decide) hf46 (fun _ h => h) (v := .int (I 0)) rfl dX6_rests_12 ?_
    refine x_calli (va_runS (As := [.int (I 0)]) (rest := [.ref tr]) ⟨hx, hb, hml, hown, hts⟩ (c_X6_yearOf l G A (w) (I 0)) (va_cwS 1 hts gX6_rests_X6_yearOf rfl rfl rfl (by decide +kernel) ⟨Nat.le_of_ble_eq_true rfl, Nat.le_of_ble_eq_true rfl⟩) (x_preS hK hH hTt [.int (I 0)]) rfl rfl hl.1 rfl (lv_room (Nat.le_of_ble_eq_true rfl)) dX6_rests_15 ⟨Nat.le_of_ble_eq_true rfl, Nat.le_of_ble_eq_true rfl⟩) hH (fun r15 u H locs hp hH => ?_)
    subst hp
    have hrq : rstC (F 10 t) (I 0 / 365) = sRests I F (nI t) := by unfold sRests; rw [if_neg (binP hI3 ht (by omega)), ix_n (by omega), hI0, show (365 : Int32) = nI 365 from rfl, pk_div (by omega) (by decide) (by decide), rests_eq _ (by omega), ix_n (by omega)]
    have hr01 : rstC (F 10 t) (I 0 / 365) = 0 ∨ rstC (F 10 t) (I 0 / 365) = 1 := by unfold rstC; split <;> (try split) <;> simp
    refine x_calli (va_runV (As := [.int ((I 0) / 365)]) (rest := []) ⟨hx, hb, hml, hown, hts⟩ (c_X4_restsIn l G A _ tr _ _ _ _ _ _ _ hc_tr ((I 0) / 365)) (cwV 1 hts gX6_rests_X4_restsIn rfl rfl rfl (by decide +kernel) ⟨Nat.le_of_ble_eq_true rfl, Nat.le_of_ble_eq_true rfl⟩) (x_preV hK hH hTt (hc_tr) rfl [.int ((I 0) / 365)]) rfl rfl hl.1 rfl (lv_room (Nat.le_of_ble_eq_true rfl)) dX6_rests_18 ⟨Nat.le_of_ble_eq_true rfl, Nat.le_of_ble_eq_true rfl⟩) hH (fun r18 u H locs hp hH => ?_)
    obtain ⟨rfl, hu9⟩ := hp
    rw [hu9] at hH
    refine lv_if_eq (tgt := 28) hx hb dX6_rests_21 (by decide) (fun c21 => ?_) (fun c21 => ?_)
    · refine lv_iconst (v := 0) hx hb dX6_rests_28 (by decide) ?_
      exact x_zret (v := 0) w hx hb hr hlocks (by decide) hK hH (⟨by first | (rw [← hrq, c21]; done) | (rw [← hrq]; exact (hr01.resolve_left c21).symm), rfl⟩) dX6_rests_29
    · refine lv_iconst (v := 1) hx hb dX6_rests_24 (by decide) ?_
      refine lv_goto (tgt := 29) hx hb dX6_rests_25 (by decide) ?_
      exact x_zret (v := 1) w hx hb hr hlocks (by decide) hK hH (⟨by first | (rw [← hrq, c21]; done) | (rw [← hrq]; exact (hr01.resolve_left c21).symm), rfl⟩) dX6_rests_29
  · have hnt := hno
    refine lv_astore_nN (lv' := [(2, .null), (0, .ref a), (1, .int t0)]) hx hb dX6_rests_5 rfl hl (by decide) rfl (fun ls hl => ?_)
    refine lv_aload_nN hx hb dX6_rests_6 rfl (lv_at hl 0 rfl) ?_
    refine lv_ifnullN (tgt := 28) hx hb dX6_rests_7 (by decide) ?_
    refine lv_iconst (v := 0) hx hb dX6_rests_28 (by decide) ?_
    exact x_zret (v := 0) w hx hb hr hlocks (by decide) hK hH (⟨by unfold sRests; rw [if_pos (binN hI3 hnt (by omega))], rfl⟩) dX6_rests_29

set_option maxHeartbeats 4000000 in
set_option maxRecDepth 100000 in
theorem c_X6_face (l : Launch) (G : XG) (A : Nat → Prop) (w : XW) (a : Nat) (ad : YA) (E : YE) (cp L wd bw : Nat → Nat) (lb : Nat → Option Nat) (I : Nat → Int32) (F : Nat → Nat → Int32) (hc_a : w a = some (.inr (7, [.ref (ad 1 0 0), .ref (ad 2 0 0), .ref (ad 3 0 0), .ref (ad 5 0 0), .ref (ad 5 1 0), .ref (ad 7 0 0), .ref (ad 8 0 0), .int (I 0), .int (I 30), .int (I 29), .int (I 31), .int (I 32)]))) (now : Nat) (hR : Rep G w ad E cp L wd bw lb I F) (hV : Inv now L wd bw lb I F) (t0 i0 what : Int32) : Met l yX6_face wsX6_face ({ frames := 4, cells := 0, slots := 0, locals := 85 }) (va_Pc [.ref a, .int t0, .int i0, .int what] (xP G A (w))) (va_Qi (fun (r : Int32) (u : XW) => r = sFace I F t0 i0 what ∧ u = w) (fun u t => xB G A (u) t) A) 0 0 A := by
  refine Met.ofW (cc := cX6_face) (maxL := 6) (ret := (some .int)) (by decide) rfl ?_
  intro p e s m args below meth c s₁ B hml hv
  obtain ⟨rfl, hK, hH, hTt⟩ := hv
  have hx := B.exec
  have hb := B.bytes
  have hr := B.returns
  have hts := atoms_spec (ws := wsX6_face) B.pre
  have hown : s.vm.findClass RX6 = some m.cls := findClass_of_methodNamed B.named
  have hlocks := B.notSynchronized
  have hl := lv_entry ([.ref a, .int t0, .int i0, .int what]) (n := 6) (Nat.le_of_ble_eq_true rfl)
  rw [lg_entry_eq]
  generalize (lg_sl ([.ref a, .int t0, .int i0, .int what]) ++ List.replicate (6 - (lg_sl ([.ref a, .int t0, .int i0, .int what])).length) Slot.unset).toArray = ls at hl ⊢
  have hl : lv_has ls 6 [(0, .ref a), (1, .int t0), (2, .int i0), (3, .int what)] := hl
  have h60 : L 0 ≤ 60 := hV.1.2.2.2.1
  have hI3 : I 3 = nI (L 0) := hV.1.2.2.1
  have hI0 : I 0 = nI now := hV.1.1
  have hnow : now ≤ 3650 := hV.1.2.1
  obtain ⟨fa, hfa⟩ : ∃ z : Nat → Nat, z = fun j => ad 12 j 0 := ⟨_, rfl⟩
  obtain ⟨fba, hfba⟩ : ∃ z : Nat → Nat, z = fun j => ad 15 j 0 := ⟨_, rfl⟩
  obtain ⟨hs, hBV, hB1, hB2, hB3, hB4, hB5⟩ := hV.2.2.2.2
  have hI16 : I 16 = nI (L 1) := hBV.1
  have h200 : L 1 ≤ 200 := hBV.2.1
  refine lv_aload_n hx hb dX6_face_0 rfl (lv_at hl 0 rfl) ?_
  refine lv_iload_n hx hb dX6_face_1 rfl (lv_at hl 1 rfl) ?_
  refine x_callq (va_runV (As := [.int t0]) (rest := []) ⟨hx, hb, hml, hown, hts⟩ (c_X6_treeAt l G A _ a (ad 5 0 0) _ _ _ _ _ _ (if L 0 = 0 then G.2 12 else ad 6 0 0) _ _ _ _ _ _ (L 0) (cp 0) (ldat ad L 0) hc_a (hR.lst (by omega)) t0 fa (fun h9 => hR.dat (by omega) h9) (fun j hj => by rw [hfa]; exact ldat_t ad L hj) (by have := hR.2.2 0 (by omega); omega) (hR.2.2 0 (by omega)).1 (fun j hj => ⟨_, by rw [hfa]; exact hR.tree hj⟩)) (cwV 1 hts gX6_face_X6_treeAt rfl rfl rfl (by decide +kernel) ⟨Nat.le_of_ble_eq_true rfl, Nat.le_of_ble_eq_true rfl⟩) (x_preV hK hH hTt (hc_a) rfl [.int t0]) rfl rfl hl.1 rfl (lv_room (Nat.le_of_ble_eq_true rfl)) dX6_face_2 ⟨Nat.le_of_ble_eq_true rfl, Nat.le_of_ble_eq_true rfl⟩) hH (fun r2 u H locs hp hH => ?_)
  obtain ⟨hat, hu9⟩ := hp
  rw [hu9] at hH
  rcases atR_or hat with ⟨t, ht, rfl, rfl⟩ | ⟨hno, rfl⟩
  · obtain ⟨tr, htr⟩ : ∃ z, z = fa t := ⟨_, rfl⟩
    rw [← htr]
    have hc_tr : w tr = some (.inr (5, [.int (nI t), .ref (ad 4 (wd t) 0), .int (F 5 t * 100 + F 6 t), .int (bearI (F 7 t)), .ref (ad 5 (2 + t) 0), .int (F 8 t), .int (F 10 t)])) := by rw [htr, hfa]; exact hR.tree ht
    obtain ⟨hT4, hT6, ⟨tx, ty, hTx, htx, hTy, hty⟩, hT7, hT8, hT9, hTb, hT3⟩ := hV.2.1 t ht
    refine lv_astore (lv' := [(4, .ref tr), (0, .ref a), (1, .int (nI t)), (2, .int i0), (3, .int what)]) hx hb dX6_face_5 hl (by decide) rfl (fun ls hl => ?_)
    refine lv_aload hx hb dX6_face_7 (lv_at hl 0 rfl) ?_
    refine lv_ifnonnull (tgt := 16) hx hb dX6_face_9 (by decide) ?_
    refine lv_aload hx hb dX6_face_16 (lv_at hl 0 rfl) ?_
    refine lv_iload_n hx hb dX6_face_18 rfl (lv_at hl 3 rfl) ?_
    obtain ⟨fb, hfb⟩ : ∃ z : Nat → Nat, z = fun j => ad 13 t j := ⟨_, rfl⟩
    refine x_callq (va_runV (As := [.int i0]) (rest := []) ⟨hx, hb, hml, hown, hts⟩ (c_X4_faceAt l G A _ tr (ad 5 (2 + t) 0) _ (if L (2 + t) = 0 then G.2 12 else ad 6 (2 + t) 0) _ _ _ _ _ _ (L (2 + t)) (cp (2 + t)) (ldat ad L (2 + t)) hc_tr (hR.lst (by omega)) i0 fb (fun h9 => hR.dat (by omega) h9) (fun j hj => by rw [hfb]; exact ldat_f ad L hj) (by have := hR.2.2 (2 + t) (by omega); omega) (hR.2.2 (2 + t) (by omega)).1 (fun j hj => ⟨_, by rw [hfb]; exact hR.face h60 ht hj⟩)) (cwV 1 hts gX6_face_X4_faceAt rfl rfl rfl (by decide +kernel) ⟨Nat.le_of_ble_eq_true rfl, Nat.le_of_ble_eq_true rfl⟩) (x_preV hK hH hTt (hc_tr) rfl [.int i0]) rfl rfl hl.1 rfl (lv_room (Nat.le_of_ble_eq_true rfl)) dX6_face_19 ⟨Nat.le_of_ble_eq_true rfl, Nat.le_of_ble_eq_true rfl⟩) hH (fun r19 u H locs hp hH => ?_)
    obtain ⟨hat, hu9⟩ := hp
    rw [hu9] at hH
    rcases atR_or hat with ⟨i, hi, rfl, rfl⟩ | ⟨hno, rfl⟩
    · obtain ⟨fc, hfc⟩ : ∃ z, z = fb i := ⟨_, rfl⟩
      rw [← hfc]
      obtain ⟨gc, hgc⟩ : ∃ z, z = ad 14 t i := ⟨_, rfl⟩
      have hc_fc : w fc = some (.inr (2, [.int (F 11 (3 * t + i)), .int (F 12 (3 * t + i)), .int (F 13 (3 * t + i)), .int (cupS F (3 * t + i)), .int (F 15 (3 * t + i)), .ref gc])) := by rw [hfc, hfb, hgc]; exact hR.face h60 ht hi
      have hc_gc : w gc = some (.inl (G.2 0, 4, .inl (gr4 F (3 * t + i)))) := by rw [hgc]; exact hR.grd h60 ht hi
      refine lv_astore (lv' := [(5, .ref fc), (4, .ref tr), (0, .ref a), (1, .int (nI t)), (2, .int (nI i)), (3, .int what)]) hx hb dX6_face_22 hl (by decide) rfl (fun ls hl => ?_)
      refine lv_aload hx hb dX6_face_24 (lv_at hl 0 rfl) ?_
      refine lv_ifnonnull (tgt := 33) hx hb dX6_face_26 (by decide) ?_
      refine lv_aload hx hb dX6_face_33 (lv_at hl 0 rfl) ?_
      refine lv_iload_n hx hb dX6_face_35 rfl (lv_at hl 5 rfl) ?_
      refine x_calli (va_runV (As := [.int what]) (rest := []) ⟨hx, hb, hml, hown, hts⟩ (c_X1_tell l G A _ fc gc _ _ _ _ _ _ hc_fc hc_gc what) (cwV 1 hts gX6_face_X1_tell rfl rfl rfl (by decide +kernel) ⟨Nat.le_of_ble_eq_true rfl, Nat.le_of_ble_eq_true rfl⟩) (x_preV hK hH hTt (hc_fc) rfl [.int what]) rfl rfl hl.1 rfl (lv_room (Nat.le_of_ble_eq_true rfl)) dX6_face_36 ⟨Nat.le_of_ble_eq_true rfl, Nat.le_of_ble_eq_true rfl⟩) hH (fun r36 u H locs hp hH => ?_)
      obtain ⟨rfl, hu9⟩ := hp
      rw [hu9] at hH
      exact x_iret (v := tellF (F 11 (3 * t + i)) (F 12 (3 * t + i)) (F 13 (3 * t + i)) (cupS F (3 * t + i)) (F 15 (3 * t + i)) (gr4 F (3 * t + i)) what) w hx hb hr hlocks hK hH (⟨face_eq hI3 h60 ht hT9 hT3 hi _, rfl⟩) dX6_face_39
    · have hnf := hno
      refine lv_astoreN (lv' := [(5, .null), (4, .ref tr), (0, .ref a), (1, .int (nI t)), (2, .int i0), (3, .int what)]) hx hb dX6_face_22 hl (by decide) rfl (fun ls hl => ?_)
      refine lv_aloadN hx hb dX6_face_24 (lv_at hl 0 rfl) ?_
      refine lv_ifnonnullN hx hb dX6_face_26 ?_
      refine lv_iconst (v := (-1)) hx hb dX6_face_29 (by decide) ?_
      refine lv_goto (tgt := 39) hx hb dX6_face_30 (by decide) ?_
      exact x_iret (v := (-1)) w hx hb hr hlocks hK hH (⟨(face_n2 hI3 h60 ht hT9 hT3 hnf _).symm, rfl⟩) dX6_face_39
  · have hnt := hno
    refine lv_astoreN (lv' := [(4, .null), (0, .ref a), (1, .int t0), (2, .int i0), (3, .int what)]) hx hb dX6_face_5 hl (by decide) rfl (fun ls hl => ?_)
    refine lv_aloadN hx hb dX6_face_7 (lv_at hl 0 rfl) ?_
    refine lv_ifnonnullN hx hb dX6_face_9 ?_
    refine lv_null hx hb dX6_face_12 ?_
    refine lv_goto (tgt := 22) hx hb dX6_face_13 (by decide) ?_
    refine lv_astoreN (lv' := [(5, .null), (4, .null), (0, .ref a), (1, .int t0), (2, .int i0), (3, .int what)]) hx hb dX6_face_22 hl (by decide) rfl (fun ls hl => ?_)
    refine lv_aloadN hx hb dX6_face_24 (lv_at hl 0 rfl) ?_
    refine lv_ifnonnullN hx hb dX6_face_26 ?_
    refine lv_iconst (v := (-1)) hx hb dX6_face_29 (by decide) ?_
    refine lv_goto (tgt := 39) hx hb dX6_face_30 (by decide) ?_
    exact x_iret (v := (-1)) w hx hb hr hlocks hK hH (⟨(face_n1 hI3 h60 hnt _ _).symm, rfl⟩) dX6_face_39

set_option maxHeartbeats 4000000 in
set_option maxRecDepth 100000 in
theorem c_X6_barrel (l : Launch) (G : XG) (A : Nat → Prop) (w : XW) (a : Nat) (ad : YA) (E : YE) (cp L wd bw : Nat → Nat) (lb : Nat → Option Nat) (I : Nat → Int32) (F : Nat → Nat → Int32) (hc_a : w a = some (.inr (7, [.ref (ad 1 0 0), .ref (ad 2 0 0), .ref (ad 3 0 0), .ref (ad 5 0 0), .ref (ad 5 1 0), .ref (ad 7 0 0), .ref (ad 8 0 0), .int (I 0), .int (I 30), .int (I 29), .int (I 31), .int (I 32)]))) (now : Nat) (hR : Rep G w ad E cp L wd bw lb I F) (hV : Inv now L wd bw lb I F) (b1 what : Int32) : Met l yX6_barrel wsX6_barrel ({ frames := 4, cells := 0, slots := 0, locals := 85 }) (va_Pc [.ref a, .int b1, .int what] (xP G A (w))) (va_Qi (fun (r : Int32) (u : XW) => r = sBarrel I F b1 what ∧ u = w) (fun u t => xB G A (u) t) A) 0 0 A := by
  refine Met.ofW (cc := cX6_barrel) (maxL := 4) (ret := (some .int)) (by decide) rfl ?_
  intro p e s m args below meth c s₁ B hml hv
  obtain ⟨rfl, hK, hH, hTt⟩ := hv
  have hx := B.exec
  have hb := B.bytes
  have hr := B.returns
  have hts := atoms_spec (ws := wsX6_barrel) B.pre
  have hown : s.vm.findClass RX6 = some m.cls := findClass_of_methodNamed B.named
  have hlocks := B.notSynchronized
  have hl := lv_entry ([.ref a, .int b1, .int what]) (n := 4) (Nat.le_of_ble_eq_true rfl)
  rw [lg_entry_eq]
  generalize (lg_sl ([.ref a, .int b1, .int what]) ++ List.replicate (4 - (lg_sl ([.ref a, .int b1, .int what])).length) Slot.unset).toArray = ls at hl ⊢
  have hl : lv_has ls 4 [(0, .ref a), (1, .int b1), (2, .int what)] := hl
  have h60 : L 0 ≤ 60 := hV.1.2.2.2.1
  have hI3 : I 3 = nI (L 0) := hV.1.2.2.1
  have hI0 : I 0 = nI now := hV.1.1
  have hnow : now ≤ 3650 := hV.1.2.1
  obtain ⟨fa, hfa⟩ : ∃ z : Nat → Nat, z = fun j => ad 12 j 0 := ⟨_, rfl⟩
  obtain ⟨fba, hfba⟩ : ∃ z : Nat → Nat, z = fun j => ad 15 j 0 := ⟨_, rfl⟩
  obtain ⟨hs, hBV, hB1, hB2, hB3, hB4, hB5⟩ := hV.2.2.2.2
  have hI16 : I 16 = nI (L 1) := hBV.1
  have h200 : L 1 ≤ 200 := hBV.2.1
  refine lv_aload_n hx hb dX6_barrel_0 rfl (lv_at hl 0 rfl) ?_
  refine lv_iload_n hx hb dX6_barrel_1 rfl (lv_at hl 1 rfl) ?_
  refine x_callq (va_runV (As := [.int b1]) (rest := []) ⟨hx, hb, hml, hown, hts⟩ (c_X6_barrelAt l G A _ a (ad 5 1 0) _ _ _ _ _ _ (if L 1 = 0 then G.2 12 else ad 6 1 0) _ _ _ _ _ _ (L 1) (cp 1) (ldat ad L 1) hc_a (hR.lst (by omega)) b1 fba (fun h9 => hR.dat (by omega) h9) (fun j hj => by rw [hfba]; exact ldat_b ad L hj) (by have := hR.2.2 1 (by omega); omega) (hR.2.2 1 (by omega)).1 (fun j hj => ⟨_, by rw [hfba]; exact hR.brl hj⟩)) (cwV 1 hts gX6_barrel_X6_barrelAt rfl rfl rfl (by decide +kernel) ⟨Nat.le_of_ble_eq_true rfl, Nat.le_of_ble_eq_true rfl⟩) (x_preV hK hH hTt (hc_a) rfl [.int b1]) rfl rfl hl.1 rfl (lv_room (Nat.le_of_ble_eq_true rfl)) dX6_barrel_2 ⟨Nat.le_of_ble_eq_true rfl, Nat.le_of_ble_eq_true rfl⟩) hH (fun r2 u H locs hp hH => ?_)
  obtain ⟨hat, hu9⟩ := hp
  rw [hu9] at hH
  rcases atR_or hat with ⟨b0, hb9, rfl, rfl⟩ | ⟨hno, rfl⟩
  · obtain ⟨br, hbr⟩ : ∃ z, z = fba b0 := ⟨_, rfl⟩
    rw [← hbr]
    obtain ⟨bgc, hbgc⟩ : ∃ z, z = ad 16 b0 0 := ⟨_, rfl⟩
    obtain ⟨btc, hbtc⟩ : ∃ z, z = ad 17 b0 0 := ⟨_, rfl⟩
    obtain ⟨wdc, hwdc⟩ : ∃ z, z = ad 4 (bw b0) 0 := ⟨_, rfl⟩
    obtain ⟨hb17, hb6, hbh0, hb20, hb21⟩ := hB1 b0 hb9
    have hc_br : w br = some (.inr (1, [.ref wdc, .int (hasS F b0), .ref bgc, .ref btc, .int (F 20 b0), .int (F 21 b0)])) := by rw [hbr, hfba, hbgc, hbtc, hwdc]; exact hR.brl hb9
    have hc_bgc : w bgc = some (.inl (G.2 0, 4, .inl (bg4 F b0))) := by rw [hbgc]; exact hR.bgr hb9
    have hc_btc : w btc = some (.inl (G.2 0, 60, .inl (bt60 F b0))) := by rw [hbtc]; exact hR.btr hb9
    have hc_wdc : w wdc = some (.inr (6, [.int (nI (bw b0)), .int (F 22 (bw b0)), .int (F 23 (bw b0)), .int (F 24 (bw b0)), .int (F 25 (bw b0)), va_rf ((lb (bw b0)).map (fun b => ad 15 b 0))])) := by rw [hwdc]; exact hR.wood hb6
    have hbh : hasS F b0 = nI (hs b0) := (hBV.2.2.1 b0 (by omega)).1
    have hbhl : hs b0 ≤ 1000 := (hBV.2.2.1 b0 (by omega)).2
    refine lv_astore_n (lv' := [(3, .ref br), (0, .ref a), (1, .int (nI b0)), (2, .int what)]) hx hb dX6_barrel_5 rfl hl (by decide) rfl (fun ls hl => ?_)
    refine lv_aload_n hx hb dX6_barrel_6 rfl (lv_at hl 0 rfl) ?_
    refine lv_ifnonnull (tgt := 14) hx hb dX6_barrel_7 (by decide) ?_
    refine lv_aload_n hx hb dX6_barrel_14 rfl (lv_at hl 0 rfl) ?_
    refine lv_iload_n hx hb dX6_barrel_15 rfl (lv_at hl 3 rfl) ?_
    refine x_calli (va_runV (As := [.int what]) (rest := []) ⟨hx, hb, hml, hown, hts⟩ (c_X0_tell l G A _ br bgc wdc _ _ _ _ _ _ _ _ _ _ _ hc_br hc_bgc hc_wdc what) (cwV 1 hts gX6_barrel_X0_tell rfl rfl rfl (by decide +kernel) ⟨Nat.le_of_ble_eq_true rfl, Nat.le_of_ble_eq_true rfl⟩) (x_preV hK hH hTt (hc_br) rfl [.int what]) rfl rfl hl.1 rfl (lv_room (Nat.le_of_ble_eq_true rfl)) dX6_barrel_16 ⟨Nat.le_of_ble_eq_true rfl, Nat.le_of_ble_eq_true rfl⟩) hH (fun r16 u H locs hp hH => ?_)
    obtain ⟨rfl, hu9⟩ := hp
    rw [hu9] at hH
    exact x_iret (v := tellB (nI (bw b0)) (hasS F b0) (F 20 b0) (F 21 b0) (bg4 F b0) what) w hx hb hr hlocks hK hH (⟨barrel_eq hI16 h200 hb9 hbh hbh0 hbhl hb17 _, rfl⟩) dX6_barrel_19
  · have hnb := hno
    refine lv_astore_nN (lv' := [(3, .null), (0, .ref a), (1, .int b1), (2, .int what)]) hx hb dX6_barrel_5 rfl hl (by decide) rfl (fun ls hl => ?_)
    refine lv_aload_nN hx hb dX6_barrel_6 rfl (lv_at hl 0 rfl) ?_
    refine lv_ifnonnullN hx hb dX6_barrel_7 ?_
    refine lv_iconst (v := (-1)) hx hb dX6_barrel_10 (by decide) ?_
    refine lv_goto (tgt := 19) hx hb dX6_barrel_11 (by decide) ?_
    exact x_iret (v := (-1)) w hx hb hr hlocks hK hH (⟨by unfold sBarrel; rw [if_pos (binN hI16 hnb (by omega))], rfl⟩) dX6_barrel_19

set_option maxHeartbeats 4000000 in
set_option maxRecDepth 100000 in
theorem c_X6_from (l : Launch) (G : XG) (A : Nat → Prop) (w : XW) (a : Nat) (ad : YA) (E : YE) (cp L wd bw : Nat → Nat) (lb : Nat → Option Nat) (I : Nat → Int32) (F : Nat → Nat → Int32) (hc_a : w a = some (.inr (7, [.ref (ad 1 0 0), .ref (ad 2 0 0), .ref (ad 3 0 0), .ref (ad 5 0 0), .ref (ad 5 1 0), .ref (ad 7 0 0), .ref (ad 8 0 0), .int (I 0), .int (I 30), .int (I 29), .int (I 31), .int (I 32)]))) (now : Nat) (hR : Rep G w ad E cp L wd bw lb I F) (hV : Inv now L wd bw lb I F) (b1 t0 : Int32) : Met l yX6_from wsX6_from ({ frames := 4, cells := 0, slots := 0, locals := 85 }) (va_Pc [.ref a, .int b1, .int t0] (xP G A (w))) (va_Qi (fun (r : Int32) (u : XW) => r = sFrom I F b1 t0 ∧ u = w) (fun u t => xB G A (u) t) A) 0 0 A := by
  refine Met.ofW (cc := cX6_from) (maxL := 5) (ret := (some .int)) (by decide) rfl ?_
  intro p e s m args below meth c s₁ B hml hv
  obtain ⟨rfl, hK, hH, hTt⟩ := hv
  have hx := B.exec
  have hb := B.bytes
  have hr := B.returns
  have hts := atoms_spec (ws := wsX6_from) B.pre
  have hown : s.vm.findClass RX6 = some m.cls := findClass_of_methodNamed B.named
  have hlocks := B.notSynchronized
  have hiX0 : ∀ w ∈ wsX00, w ∈ wsX6_from := by decide +kernel
  have hiX4 : ∀ w ∈ wsX40, w ∈ wsX6_from := by decide +kernel
  have hf173 := hts (.fieldLink RX6 173 "ResinWoods$Barrel" "ofTree" "[I") (by decide +kernel)
  have hf177 := hts (.fieldLink RX6 177 "ResinWoods$Tree" "number" "I") (by decide +kernel)
  have hl := lv_entry ([.ref a, .int b1, .int t0]) (n := 5) (Nat.le_of_ble_eq_true rfl)
  rw [lg_entry_eq]
  generalize (lg_sl ([.ref a, .int b1, .int t0]) ++ List.replicate (5 - (lg_sl ([.ref a, .int b1, .int t0])).length) Slot.unset).toArray = ls at hl ⊢
  have hl : lv_has ls 5 [(0, .ref a), (1, .int b1), (2, .int t0)] := hl
  have h60 : L 0 ≤ 60 := hV.1.2.2.2.1
  have hI3 : I 3 = nI (L 0) := hV.1.2.2.1
  have hI0 : I 0 = nI now := hV.1.1
  have hnow : now ≤ 3650 := hV.1.2.1
  obtain ⟨fa, hfa⟩ : ∃ z : Nat → Nat, z = fun j => ad 12 j 0 := ⟨_, rfl⟩
  obtain ⟨fba, hfba⟩ : ∃ z : Nat → Nat, z = fun j => ad 15 j 0 := ⟨_, rfl⟩
  obtain ⟨hs, hBV, hB1, hB2, hB3, hB4, hB5⟩ := hV.2.2.2.2
  have hI16 : I 16 = nI (L 1) := hBV.1
  have h200 : L 1 ≤ 200 := hBV.2.1
  refine lv_aload_n hx hb dX6_from_0 rfl (lv_at hl 0 rfl) ?_
  refine lv_iload_n hx hb dX6_from_1 rfl (lv_at hl 1 rfl) ?_
  refine x_callq (va_runV (As := [.int b1]) (rest := []) ⟨hx, hb, hml, hown, hts⟩ (c_X6_barrelAt l G A _ a (ad 5 1 0) _ _ _ _ _ _ (if L 1 = 0 then G.2 12 else ad 6 1 0) _ _ _ _ _ _ (L 1) (cp 1) (ldat ad L 1) hc_a (hR.lst (by omega)) b1 fba (fun h9 => hR.dat (by omega) h9) (fun j hj => by rw [hfba]; exact ldat_b ad L hj) (by have := hR.2.2 1 (by omega); omega) (hR.2.2 1 (by omega)).1 (fun j hj => ⟨_, by rw [hfba]; exact hR.brl hj⟩)) (cwV 1 hts gX6_from_X6_barrelAt rfl rfl rfl (by decide +kernel) ⟨Nat.le_of_ble_eq_true rfl, Nat.le_of_ble_eq_true rfl⟩) (x_preV hK hH hTt (hc_a) rfl [.int b1]) rfl rfl hl.1 rfl (lv_room (Nat.le_of_ble_eq_true rfl)) dX6_from_2 ⟨Nat.le_of_ble_eq_true rfl, Nat.le_of_ble_eq_true rfl⟩) hH (fun r2 u H locs hp hH => ?_)
  obtain ⟨hat, hu9⟩ := hp
  rw [hu9] at hH
  rcases atR_or hat with ⟨b0, hb9, rfl, rfl⟩ | ⟨hno, rfl⟩
  · obtain ⟨br, hbr⟩ : ∃ z, z = fba b0 := ⟨_, rfl⟩
    rw [← hbr]
    obtain ⟨bgc, hbgc⟩ : ∃ z, z = ad 16 b0 0 := ⟨_, rfl⟩
    obtain ⟨btc, hbtc⟩ : ∃ z, z = ad 17 b0 0 := ⟨_, rfl⟩
    obtain ⟨wdc, hwdc⟩ : ∃ z, z = ad 4 (bw b0) 0 := ⟨_, rfl⟩
    obtain ⟨hb17, hb6, hbh0, hb20, hb21⟩ := hB1 b0 hb9
    have hc_br : w br = some (.inr (1, [.ref wdc, .int (hasS F b0), .ref bgc, .ref btc, .int (F 20 b0), .int (F 21 b0)])) := by rw [hbr, hfba, hbgc, hbtc, hwdc]; exact hR.brl hb9
    have hc_bgc : w bgc = some (.inl (G.2 0, 4, .inl (bg4 F b0))) := by rw [hbgc]; exact hR.bgr hb9
    have hc_btc : w btc = some (.inl (G.2 0, 60, .inl (bt60 F b0))) := by rw [hbtc]; exact hR.btr hb9
    have hc_wdc : w wdc = some (.inr (6, [.int (nI (bw b0)), .int (F 22 (bw b0)), .int (F 23 (bw b0)), .int (F 24 (bw b0)), .int (F 25 (bw b0)), va_rf ((lb (bw b0)).map (fun b => ad 15 b 0))])) := by rw [hwdc]; exact hR.wood hb6
    have hbh : hasS F b0 = nI (hs b0) := (hBV.2.2.1 b0 (by omega)).1
    have hbhl : hs b0 ≤ 1000 := (hBV.2.2.1 b0 (by omega)).2
    refine lv_astore_n (lv' := [(3, .ref br), (0, .ref a), (1, .int (nI b0)), (2, .int t0)]) hx hb dX6_from_5 rfl hl (by decide) rfl (fun ls hl => ?_)
    refine lv_aload_n hx hb dX6_from_6 rfl (lv_at hl 1 rfl) ?_
    refine lv_iload_n hx hb dX6_from_7 rfl (lv_at hl 3 rfl) ?_
    refine x_callq (va_runV (As := [.int t0]) (rest := []) ⟨hx, hb, hml, hown, hts⟩ (c_X6_treeAt l G A _ a (ad 5 0 0) _ _ _ _ _ _ (if L 0 = 0 then G.2 12 else ad 6 0 0) _ _ _ _ _ _ (L 0) (cp 0) (ldat ad L 0) hc_a (hR.lst (by omega)) t0 fa (fun h9 => hR.dat (by omega) h9) (fun j hj => by rw [hfa]; exact ldat_t ad L hj) (by have := hR.2.2 0 (by omega); omega) (hR.2.2 0 (by omega)).1 (fun j hj => ⟨_, by rw [hfa]; exact hR.tree hj⟩)) (cwV 1 hts gX6_from_X6_treeAt rfl rfl rfl (by decide +kernel) ⟨Nat.le_of_ble_eq_true rfl, Nat.le_of_ble_eq_true rfl⟩) (x_preV hK hH hTt (hc_a) rfl [.int t0]) rfl rfl hl.1 rfl (lv_room (Nat.le_of_ble_eq_true rfl)) dX6_from_8 ⟨Nat.le_of_ble_eq_true rfl, Nat.le_of_ble_eq_true rfl⟩) hH (fun r8 u H locs hp hH => ?_)
    obtain ⟨hat, hu9⟩ := hp
    rw [hu9] at hH
    rcases atR_or hat with ⟨t, ht, rfl, rfl⟩ | ⟨hno, rfl⟩
    · obtain ⟨tr, htr⟩ : ∃ z, z = fa t := ⟨_, rfl⟩
      rw [← htr]
      have hc_tr : w tr = some (.inr (5, [.int (nI t), .ref (ad 4 (wd t) 0), .int (F 5 t * 100 + F 6 t), .int (bearI (F 7 t)), .ref (ad 5 (2 + t) 0), .int (F 8 t), .int (F 10 t)])) := by rw [htr, hfa]; exact hR.tree ht
      obtain ⟨hT4, hT6, ⟨tx, ty, hTx, htx, hTy, hty⟩, hT7, hT8, hT9, hTb, hT3⟩ := hV.2.1 t ht
      refine lv_astore (lv' := [(4, .ref tr), (3, .ref br), (0, .ref a), (1, .int (nI b0)), (2, .int (nI t))]) hx hb dX6_from_11 hl (by decide) rfl (fun ls hl => ?_)
      refine lv_aload_n hx hb dX6_from_13 rfl (lv_at hl 1 rfl) ?_
      refine lv_ifnull hx hb dX6_from_14 ?_
      refine lv_aload hx hb dX6_from_17 (lv_at hl 0 rfl) ?_
      refine lv_ifnonnull (tgt := 26) hx hb dX6_from_19 (by decide) ?_
      refine lv_aload_n hx hb dX6_from_26 rfl (lv_at hl 1 rfl) ?_
      refine x_get (C := RX0) (T := TX0) (N := 6) hx hb hts hiX0 hown hK hH hc_br rfl 3 (by decide) hf173 (fun _ h => h) (v := .ref btc) rfl dX6_from_27 ?_
      refine lv_aload hx hb dX6_from_30 (lv_at hl 0 rfl) ?_
      refine x_get (C := RX4) (T := TX4) (N := 7) hx hb hts hiX4 hown hK hH hc_tr rfl 0 (by decide) hf177 (fun _ h => h) (v := .int (nI t)) rfl dX6_from_32 ?_
      refine Y_iald hx hb hK hH hc_btc t rfl (by omega) (by decide) dX6_from_35 ?_
      exact x_iret (v := (bt60 F b0) t) w hx hb hr hlocks hK hH (⟨by unfold sFrom; rw [if_neg (binP hI16 hb9 (by omega)), if_neg (binP hI3 ht (by omega)), ix_n (by omega), ix_n (by omega), bt60_at _ _ (by omega)], rfl⟩) dX6_from_36
    · have hnt := hno
      refine lv_astoreN (lv' := [(4, .null), (3, .ref br), (0, .ref a), (1, .int (nI b0)), (2, .int t0)]) hx hb dX6_from_11 hl (by decide) rfl (fun ls hl => ?_)
      refine lv_aload_n hx hb dX6_from_13 rfl (lv_at hl 1 rfl) ?_
      refine lv_ifnull hx hb dX6_from_14 ?_
      refine lv_aloadN hx hb dX6_from_17 (lv_at hl 0 rfl) ?_
      refine lv_ifnonnullN hx hb dX6_from_19 ?_
      refine lv_iconst (v := (-1)) hx hb dX6_from_22 (by decide) ?_
      refine lv_goto (tgt := 36) hx hb dX6_from_23 (by decide) ?_
      exact x_iret (v := (-1)) w hx hb hr hlocks hK hH (⟨by unfold sFrom; rw [if_neg (binP hI16 hb9 (by omega)), if_pos (binN hI3 hnt (by omega))], rfl⟩) dX6_from_36
  · have hnb := hno
    refine lv_astore_nN (lv' := [(3, .null), (0, .ref a), (1, .int b1), (2, .int t0)]) hx hb dX6_from_5 rfl hl (by decide) rfl (fun ls hl => ?_)
    refine lv_aload_n hx hb dX6_from_6 rfl (lv_at hl 1 rfl) ?_
    refine lv_iload_n hx hb dX6_from_7 rfl (lv_at hl 3 rfl) ?_
    refine x_callq (va_runV (As := [.int t0]) (rest := []) ⟨hx, hb, hml, hown, hts⟩ (c_X6_treeAt l G A _ a (ad 5 0 0) _ _ _ _ _ _ (if L 0 = 0 then G.2 12 else ad 6 0 0) _ _ _ _ _ _ (L 0) (cp 0) (ldat ad L 0) hc_a (hR.lst (by omega)) t0 fa (fun h9 => hR.dat (by omega) h9) (fun j hj => by rw [hfa]; exact ldat_t ad L hj) (by have := hR.2.2 0 (by omega); omega) (hR.2.2 0 (by omega)).1 (fun j hj => ⟨_, by rw [hfa]; exact hR.tree hj⟩)) (cwV 1 hts gX6_from_X6_treeAt rfl rfl rfl (by decide +kernel) ⟨Nat.le_of_ble_eq_true rfl, Nat.le_of_ble_eq_true rfl⟩) (x_preV hK hH hTt (hc_a) rfl [.int t0]) rfl rfl hl.1 rfl (lv_room (Nat.le_of_ble_eq_true rfl)) dX6_from_8 ⟨Nat.le_of_ble_eq_true rfl, Nat.le_of_ble_eq_true rfl⟩) hH (fun r8 u H locs hp hH => ?_)
    obtain ⟨hat, hu9⟩ := hp
    rw [hu9] at hH
    rcases atR_or hat with ⟨t, ht, rfl, rfl⟩ | ⟨hno, rfl⟩
    · obtain ⟨tr, htr⟩ : ∃ z, z = fa t := ⟨_, rfl⟩
      rw [← htr]
      have hc_tr : w tr = some (.inr (5, [.int (nI t), .ref (ad 4 (wd t) 0), .int (F 5 t * 100 + F 6 t), .int (bearI (F 7 t)), .ref (ad 5 (2 + t) 0), .int (F 8 t), .int (F 10 t)])) := by rw [htr, hfa]; exact hR.tree ht
      obtain ⟨hT4, hT6, ⟨tx, ty, hTx, htx, hTy, hty⟩, hT7, hT8, hT9, hTb, hT3⟩ := hV.2.1 t ht
      refine lv_astore (lv' := [(4, .ref tr), (3, .null), (0, .ref a), (1, .int b1), (2, .int (nI t))]) hx hb dX6_from_11 hl (by decide) rfl (fun ls hl => ?_)
      refine lv_aload_nN hx hb dX6_from_13 rfl (lv_at hl 1 rfl) ?_
      refine lv_ifnullN (tgt := 22) hx hb dX6_from_14 (by decide) ?_
      refine lv_iconst (v := (-1)) hx hb dX6_from_22 (by decide) ?_
      refine lv_goto (tgt := 36) hx hb dX6_from_23 (by decide) ?_
      exact x_iret (v := (-1)) w hx hb hr hlocks hK hH (⟨by unfold sFrom; rw [if_pos (binN hI16 hnb (by omega))], rfl⟩) dX6_from_36
    · have hnt := hno
      refine lv_astoreN (lv' := [(4, .null), (3, .null), (0, .ref a), (1, .int b1), (2, .int t0)]) hx hb dX6_from_11 hl (by decide) rfl (fun ls hl => ?_)
      refine lv_aload_nN hx hb dX6_from_13 rfl (lv_at hl 1 rfl) ?_
      refine lv_ifnullN (tgt := 22) hx hb dX6_from_14 (by decide) ?_
      refine lv_iconst (v := (-1)) hx hb dX6_from_22 (by decide) ?_
      refine lv_goto (tgt := 36) hx hb dX6_from_23 (by decide) ?_
      exact x_iret (v := (-1)) w hx hb hr hlocks hK hH (⟨by unfold sFrom; rw [if_pos (binN hI16 hnb (by omega))], rfl⟩) dX6_from_36
