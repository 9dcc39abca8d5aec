set_option maxHeartbeats 4000000 in
set_option maxRecDepth 100000 in
theorem c0_X6_newBarrelsFor (l : Launch) (G : XG) (A : Nat → Prop) (w : XW) (a : Nat) (nr lt rn em pa : Int32) (hc_a : w a = some (.inr (6, [.int nr, .int lt, .int rn, .int em, .int pa, .null]))) (am : Int32) : Met l yX6_newBarrelsFor wsX6_newBarrelsFor ({ frames := 3, cells := 0, slots := 0, locals := 100 }) (va_Pc [.ref a, .int am] (xP G A (w))) (va_Qi (fun (r : Int32) (u : XW) => r = nbI am ∧ u = w) (fun u t => xB G A (u) t) A) 0 0 A := by
  refine Met.ofW (cc := cX6_newBarrelsFor) (maxL := 4) (ret := (some .int)) (by decide) rfl ?_
  intro p e s m args below meth c s₁ B hml hv
  obtain ⟨rfl, hK, hH, hTt⟩ := hv
  have hx := B.exec
  have hb := B.bytes
  have hr := B.returns
  have hts := atoms_spec (ws := wsX6_newBarrelsFor) B.pre
  have hown : s.vm.findClass RX6 = some m.cls := findClass_of_methodNamed B.named
  have hlocks := B.notSynchronized
  have hl := lv_entry ([.ref a, .int am]) (n := 4) (Nat.le_of_ble_eq_true rfl)
  rw [lg_entry_eq]
  generalize (lg_sl ([.ref a, .int am]) ++ List.replicate (4 - (lg_sl ([.ref a, .int am])).length) Slot.unset).toArray = ls at hl ⊢
  have hl : lv_has ls 4 [(0, .ref a), (1, .int am)] := hl
  refine lv_aload_n hx hb dX6_newBarrelsFor_0 rfl (lv_at hl 0 rfl) ?_
  refine x_callq (va_runV (As := []) (rest := []) ⟨hx, hb, hml, hown, hts⟩ (c0_X5_openBarrel l G A _ a _ _ _ _ _ hc_a) (cwV 0 hts gX6_newBarrelsFor_X5_openBarrel rfl rfl rfl (by decide +kernel) ⟨Nat.le_of_ble_eq_true rfl, Nat.le_of_ble_eq_true rfl⟩) (x_preV hK hH hTt (hc_a) rfl []) rfl rfl hl.1 rfl (lv_room (Nat.le_of_ble_eq_true rfl)) dX6_newBarrelsFor_1 ⟨Nat.le_of_ble_eq_true rfl, Nat.le_of_ble_eq_true rfl⟩) hH (fun r1 u H locs hp hH => ?_)
  obtain ⟨hrq, hu9⟩ := hp
  rw [hu9] at hH
  subst hrq
  refine lv_astore_nN (lv' := [(2, .null), (0, .ref a), (1, .int am)]) hx hb dX6_newBarrelsFor_4 rfl hl (by decide) rfl (fun ls hl => ?_)
  refine lv_aload_nN hx hb dX6_newBarrelsFor_5 rfl (lv_at hl 0 rfl) ?_
  refine lv_ifnonnullN hx hb dX6_newBarrelsFor_6 ?_
  refine lv_iload_n hx hb dX6_newBarrelsFor_9 rfl (lv_at hl 2 rfl) ?_
  refine lv_goto (tgt := 19) hx hb dX6_newBarrelsFor_10 (by decide) ?_
  refine lv_istore_n (lv' := [(3, .int am), (2, .null), (0, .ref a), (1, .int am)]) hx hb dX6_newBarrelsFor_19 rfl hl (by decide) rfl (fun ls hl => ?_)
  refine lv_iload_n hx hb dX6_newBarrelsFor_20 rfl (lv_at hl 0 rfl) ?_
  refine lv_if_gt (tgt := 28) hx hb dX6_newBarrelsFor_21 (by decide) (fun c21 => ?_) (fun c21 => ?_)
  · refine lv_iload_n hx hb dX6_newBarrelsFor_28 rfl (lv_at hl 0 rfl) ?_
    refine lv_sipush (v := 1000) hx hb dX6_newBarrelsFor_29 (by decide) ?_
    refine lv_iadd hx hb dX6_newBarrelsFor_32 ?_
    refine lv_iconst (v := 1) hx hb dX6_newBarrelsFor_33 (by decide) ?_
    refine lv_isub hx hb dX6_newBarrelsFor_34 ?_
    refine lv_sipush (v := 1000) hx hb dX6_newBarrelsFor_35 (by decide) ?_
    refine lv_idiv hx hb dX6_newBarrelsFor_38 (by decide) ?_
    exact x_iret (v := ((am + 1000) - 1) / 1000) w hx hb hr hlocks hK hH (⟨by unfold nbI; first | (rw [if_pos c21]; done) | (rw [if_neg c21]), rfl⟩) dX6_newBarrelsFor_39
  · refine lv_iconst (v := 0) hx hb dX6_newBarrelsFor_24 (by decide) ?_
    refine lv_goto (tgt := 39) hx hb dX6_newBarrelsFor_25 (by decide) ?_
    exact x_iret (v := 0) w hx hb hr hlocks hK hH (⟨by unfold nbI; first | (rw [if_pos c21]; done) | (rw [if_neg c21]), rfl⟩) dX6_newBarrelsFor_39

set_option maxHeartbeats 4000000 in
set_option maxRecDepth 100000 in
theorem c1_X6_newBarrelsFor (l : Launch) (G : XG) (A : Nat → Prop) (w : XW) (a q : Nat) (bw ga ta : Nat) (nr lt rn em pa has stl pd : Int32) (hc_a : w a = some (.inr (6, [.int nr, .int lt, .int rn, .int em, .int pa, .ref q]))) (hc_q : w q = some (.inr (1, [.ref bw, .int has, .ref ga, .ref ta, .int stl, .int pd]))) (am : Int32) : Met l yX6_newBarrelsFor wsX6_newBarrelsFor ({ frames := 3, cells := 0, slots := 0, locals := 100 }) (va_Pc [.ref a, .int am] (xP G A (w))) (va_Qi (fun (r : Int32) (u : XW) => r = nbI (if fullB has stl pd = 0 then am - (1000 - has) else am) ∧ u = w) (fun u t => xB G A (u) t) A) 0 0 A := by
  refine Met.ofW (cc := cX6_newBarrelsFor) (maxL := 4) (ret := (some .int)) (by decide) rfl ?_
  intro p e s m args below meth c s₁ B hml hv
  obtain ⟨rfl, hK, hH, hTt⟩ := hv
  have hx := B.exec
  have hb := B.bytes
  have hr := B.returns
  have hts := atoms_spec (ws := wsX6_newBarrelsFor) B.pre
  have hown : s.vm.findClass RX6 = some m.cls := findClass_of_methodNamed B.named
  have hlocks := B.notSynchronized
  have hl := lv_entry ([.ref a, .int am]) (n := 4) (Nat.le_of_ble_eq_true rfl)
  rw [lg_entry_eq]
  generalize (lg_sl ([.ref a, .int am]) ++ List.replicate (4 - (lg_sl ([.ref a, .int am])).length) Slot.unset).toArray = ls at hl ⊢
  have hl : lv_has ls 4 [(0, .ref a), (1, .int am)] := hl
  have ne_a_q : a ≠ q := fun e9 => by rw [e9, hc_q] at hc_a; cases hc_a
  have ne_q_a : q ≠ a := fun e9 => by rw [e9, hc_a] at hc_q; cases hc_q
  refine lv_aload_n hx hb dX6_newBarrelsFor_0 rfl (lv_at hl 0 rfl) ?_
  refine x_callq (va_runV (As := []) (rest := []) ⟨hx, hb, hml, hown, hts⟩ (c1_X5_openBarrel l G A _ a q _ _ _ _ _ _ _ _ _ _ _ hc_a hc_q) (cwV 0 hts gX6_newBarrelsFor_X5_openBarrel rfl rfl rfl (by decide +kernel) ⟨Nat.le_of_ble_eq_true rfl, Nat.le_of_ble_eq_true rfl⟩) (x_preV hK hH hTt (hc_a) rfl []) rfl rfl hl.1 rfl (lv_room (Nat.le_of_ble_eq_true rfl)) dX6_newBarrelsFor_1 ⟨Nat.le_of_ble_eq_true rfl, Nat.le_of_ble_eq_true rfl⟩) hH (fun r1 u H locs hp hH => ?_)
  obtain ⟨hrq, hu9⟩ := hp
  rw [hu9] at hH
  subst hrq
  by_cases hop : fullB has stl pd = 0
  · rw [show (if fullB has stl pd = 0 then some q else none) = some q from if_pos hop]
    refine lv_astore_n (lv' := [(2, .ref q), (0, .ref a), (1, .int am)]) hx hb dX6_newBarrelsFor_4 rfl hl (by decide) rfl (fun ls hl => ?_)
    refine lv_aload_n hx hb dX6_newBarrelsFor_5 rfl (lv_at hl 0 rfl) ?_
    refine lv_ifnonnull (tgt := 13) hx hb dX6_newBarrelsFor_6 (by decide) ?_
    refine lv_iload_n hx hb dX6_newBarrelsFor_13 rfl (lv_at hl 2 rfl) ?_
    refine lv_aload_n hx hb dX6_newBarrelsFor_14 rfl (lv_at hl 0 rfl) ?_
    refine x_calli (va_runV (As := []) (rest := [.int am]) ⟨hx, hb, hml, hown, hts⟩ (c_X0_room l G A _ q _ _ _ _ _ _ hc_q) (cwV 0 hts gX6_newBarrelsFor_X0_room rfl rfl rfl (by decide +kernel) ⟨Nat.le_of_ble_eq_true rfl, Nat.le_of_ble_eq_true rfl⟩) (x_preV hK hH hTt (hc_q) rfl []) rfl rfl hl.1 rfl (lv_room (Nat.le_of_ble_eq_true rfl)) dX6_newBarrelsFor_15 ⟨Nat.le_of_ble_eq_true rfl, Nat.le_of_ble_eq_true rfl⟩) hH (fun r15 u H locs hp hH => ?_)
    obtain ⟨rfl, hu9⟩ := hp
    rw [hu9] at hH
    refine lv_isub hx hb dX6_newBarrelsFor_18 ?_
    refine lv_istore_n (lv' := [(3, .int (am - (1000 - has))), (2, .ref q), (0, .ref a), (1, .int am)]) hx hb dX6_newBarrelsFor_19 rfl hl (by decide) rfl (fun ls hl => ?_)
    refine lv_iload_n hx hb dX6_newBarrelsFor_20 rfl (lv_at hl 0 rfl) ?_
    refine lv_if_gt (tgt := 28) hx hb dX6_newBarrelsFor_21 (by decide) (fun c21 => ?_) (fun c21 => ?_)
    · refine lv_iload_n hx hb dX6_newBarrelsFor_28 rfl (lv_at hl 0 rfl) ?_
      refine lv_sipush (v := 1000) hx hb dX6_newBarrelsFor_29 (by decide) ?_
      refine lv_iadd hx hb dX6_newBarrelsFor_32 ?_
      refine lv_iconst (v := 1) hx hb dX6_newBarrelsFor_33 (by decide) ?_
      refine lv_isub hx hb dX6_newBarrelsFor_34 ?_
      refine lv_sipush (v := 1000) hx hb dX6_newBarrelsFor_35 (by decide) ?_
      refine lv_idiv hx hb dX6_newBarrelsFor_38 (by decide) ?_
      exact x_iret (v := (((am - (1000 - has)) + 1000) - 1) / 1000) w hx hb hr hlocks hK hH (⟨by rw [if_pos hop]; unfold nbI; first | (rw [if_pos c21]; done) | (rw [if_neg c21]), rfl⟩) dX6_newBarrelsFor_39
    · refine lv_iconst (v := 0) hx hb dX6_newBarrelsFor_24 (by decide) ?_
      refine lv_goto (tgt := 39) hx hb dX6_newBarrelsFor_25 (by decide) ?_
      exact x_iret (v := 0) w hx hb hr hlocks hK hH (⟨by rw [if_pos hop]; unfold nbI; first | (rw [if_pos c21]; done) | (rw [if_neg c21]), rfl⟩) dX6_newBarrelsFor_39
  · rw [show (if fullB has stl pd = 0 then some q else none) = none from if_neg hop]
    refine lv_astore_nN (lv' := [(2, .null), (0, .ref a), (1, .int am)]) hx hb dX6_newBarrelsFor_4 rfl hl (by decide) rfl (fun ls hl => ?_)
    refine lv_aload_nN hx hb dX6_newBarrelsFor_5 rfl (lv_at hl 0 rfl) ?_
    refine lv_ifnonnullN hx hb dX6_newBarrelsFor_6 ?_
    refine lv_iload_n hx hb dX6_newBarrelsFor_9 rfl (lv_at hl 2 rfl) ?_
    refine lv_goto (tgt := 19) hx hb dX6_newBarrelsFor_10 (by decide) ?_
    refine lv_istore_n (lv' := [(3, .int am), (2, .null), (0, .ref a), (1, .int am)]) hx hb dX6_newBarrelsFor_19 rfl hl (by decide) rfl (fun ls hl => ?_)
    refine lv_iload_n hx hb dX6_newBarrelsFor_20 rfl (lv_at hl 0 rfl) ?_
    refine lv_if_gt (tgt := 28) hx hb dX6_newBarrelsFor_21 (by decide) (fun c21 => ?_) (fun c21 => ?_)
    · refine lv_iload_n hx hb dX6_newBarrelsFor_28 rfl (lv_at hl 0 rfl) ?_
      refine lv_sipush (v := 1000) hx hb dX6_newBarrelsFor_29 (by decide) ?_
      refine lv_iadd hx hb dX6_newBarrelsFor_32 ?_
      refine lv_iconst (v := 1) hx hb dX6_newBarrelsFor_33 (by decide) ?_
      refine lv_isub hx hb dX6_newBarrelsFor_34 ?_
      refine lv_sipush (v := 1000) hx hb dX6_newBarrelsFor_35 (by decide) ?_
      refine lv_idiv hx hb dX6_newBarrelsFor_38 (by decide) ?_
      exact x_iret (v := ((am + 1000) - 1) / 1000) w hx hb hr hlocks hK hH (⟨by rw [if_neg hop]; unfold nbI; first | (rw [if_pos c21]; done) | (rw [if_neg c21]), rfl⟩) dX6_newBarrelsFor_39
    · refine lv_iconst (v := 0) hx hb dX6_newBarrelsFor_24 (by decide) ?_
      refine lv_goto (tgt := 39) hx hb dX6_newBarrelsFor_25 (by decide) ?_
      exact x_iret (v := 0) w hx hb hr hlocks hK hH (⟨by rw [if_neg hop]; unfold nbI; first | (rw [if_pos c21]; done) | (rw [if_neg c21]), rfl⟩) dX6_newBarrelsFor_39


theorem c4_0 (cg : Nat → Nat) (f : Nat) : cg (4 * f + 0) + cg (4 * f + 1) + cg (4 * f + 2) + cg (4 * f + 3) = c4 cg f := by rw [c4_eq]; rfl


theorem fillS_k (t g : Nat) {k : Nat} (h1 : k ≠ 17) (h2 : k ≠ 18) (h3 : k ≠ 19) : ∀ (fu : Nat) (I : Nat → Int32) (F : Nat → Nat → Int32) (a : Int32), (fillS t g fu I F a).2 k = F k
  | 0, _, _, _ => rfl
  | fu + 1, I, F, a => by
    unfold fillS
    by_cases ha : 0 < a
    · rw [if_pos ha]
      by_cases hb : fstB F (F 4 t) (ix (I 16)) 0 = ix (I 16)
      · rw [if_pos hb, fillS_k t g h1 h2 h3 fu, setA_n _ _ _ h3, setA_n _ _ _ h2, setA_n _ _ _ h1]
      · rw [if_neg hb, fillS_k t g h1 h2 h3 fu, setA_n _ _ _ h3, setA_n _ _ _ h2]
    · rw [if_neg ha]
theorem pcS_k (t f : Nat) (u : MS) {k : Nat} (h1 : k ≠ 17) (h2 : k ≠ 18) (h3 : k ≠ 19) : ∀ g, (pcS t f u g).2 k = u.2 k
  | 0 => rfl
  | g + 1 => (fillS_k t g h1 h2 h3 _ _ _ _).trans (pcS_k t f u h1 h2 h3 g)
theorem eSt_24 (t : Nat) (u : MS) : ∀ i, (eSt t u i).2 24 = u.2 24
  | 0 => rfl
  | i + 1 => by
    show zeroC (pcS t (3 * t + i) (eSt t u i) 4).2 (4 * (3 * t + i)) (4 * (3 * t + i) + 4) 24 = _
    rw [zeroC_ne _ _ _ (by decide), pcS_k _ _ _ (by decide) (by decide) (by decide)]
    exact eSt_24 t u i

set_option maxHeartbeats 4000000 in
set_option maxRecDepth 100000 in
theorem c_X6_empty (l : Launch) (G : XG) (A : Nat → Prop) (w : XW) (a : Nat) (ad : YA) (E : YE) (cp L wd bw : Nat → Nat) (lb : Nat → Option Nat) (I : Nat → Int32) (F : Nat → Nat → Int32) (hc_a : w a = some (.inr (7, [.ref (ad 1 0 0), .ref (ad 2 0 0), .ref (ad 3 0 0), .ref (ad 5 0 0), .ref (ad 5 1 0), .ref (ad 7 0 0), .ref (ad 8 0 0), .int (I 0), .int (I 30), .int (I 29), .int (I 31), .int (I 32)]))) (now : Nat) (hR : Rep G w ad E cp L wd bw lb I F) (hV : Inv now L wd bw lb I F) (ha : a = ad 0 0 0) (hE : ∀ j, E 9 4 0 j = 0) (t0 : Int32) : Met l yX6_empty wsX6_empty ({ frames := 9, cells := 96, slots := 9600, locals := 240 }) (va_Pc [.ref a, .int t0] (xP G A (w))) (va_Qi (fun (r : Int32) (u : XW) => r = (sEmpty I F t0).1 ∧ Nx G w u a (own ad L) (sEmpty I F t0).2.1 (sEmpty I F t0).2.2) (fun u t => xB G A (u) t) A) 96 9600 A := by
  refine Met.ofW (cc := cX6_empty) (maxL := 5) (ret := (some .int)) (by decide) rfl ?_
  intro p e s m args below meth c s₁ B hml hv
  obtain ⟨rfl, hK, hH, hTt⟩ := hv
  have hx := B.exec
  have hb := B.bytes
  have hr := B.returns
  have hts := atoms_spec (ws := wsX6_empty) B.pre
  have hown : s.vm.findClass RX6 = some m.cls := findClass_of_methodNamed B.named
  have hlocks := B.notSynchronized
  have hiX4 : ∀ w ∈ wsX40, w ∈ wsX6_empty := by decide +kernel
  have hiX5 : ∀ w ∈ wsX50, w ∈ wsX6_empty := by decide +kernel
  have hiX6 : ∀ w ∈ wsX60, w ∈ wsX6_empty := by decide +kernel
  have hf29 := hts (.fieldLink RX6 29 "ResinWoods" "barrels" "Ljava/util/List;") (by decide +kernel)
  have hf50 := hts (.fieldLink RX6 50 "ResinWoods" "emptied" "I") (by decide +kernel)
  have hf146 := hts (.fieldLink RX6 146 "ResinWoods$Tree" "wood" "LResinWoods$Wood;") (by decide +kernel)
  have hf154 := hts (.fieldLink RX6 154 "ResinWoods$Tree" "faces" "Ljava/util/List;") (by decide +kernel)
  have hf165 := hts (.fieldLink RX6 165 "ResinWoods$Wood" "emptied" "I") (by decide +kernel)
  have hl := lv_entry ([.ref a, .int t0]) (n := 5) (Nat.le_of_ble_eq_true rfl)
  rw [lg_entry_eq]
  generalize (lg_sl ([.ref a, .int t0]) ++ List.replicate (5 - (lg_sl ([.ref a, .int t0])).length) Slot.unset).toArray = ls at hl ⊢
  have hl : lv_has ls 5 [(0, .ref a), (1, .int t0)] := hl
  have h60 : L 0 ≤ 60 := hV.1.2.2.2.1
  have hI3 : I 3 = nI (L 0) := hV.1.2.2.1
  have hI0 : I 0 = nI now := hV.1.1
  have hnow : now ≤ 3650 := hV.1.2.1
  obtain ⟨fa, hfa⟩ : ∃ z : Nat → Nat, z = fun j => ad 12 j 0 := ⟨_, rfl⟩
  obtain ⟨fba, hfba⟩ : ∃ z : Nat → Nat, z = fun j => ad 15 j 0 := ⟨_, rfl⟩
  obtain ⟨hs, hBV, hB1, hB2, hB3, hB4, hB5⟩ := hV.2.2.2.2
  have hI16 : I 16 = nI (L 1) := hBV.1
  have h200 : L 1 ≤ 200 := hBV.2.1
  obtain ⟨fwa, hfwa⟩ : ∃ z : Nat → Nat, z = fun j => ad 4 j 0 := ⟨_, rfl⟩
  obtain ⟨blc, hblc⟩ : ∃ z, z = ad 5 1 0 := ⟨_, rfl⟩
  rw [← hblc] at hc_a
  obtain ⟨bdc, hbdc⟩ : ∃ z, z = (if L 1 = 0 then G.2 12 else ad 6 1 0) := ⟨_, rfl⟩
  have hc_blc : w blc = some (.inr (0, [.int (E 5 1 0 0), .ref bdc, .int (nI (L 1))])) := by rw [hblc, hbdc]; exact hR.lst (by omega)
  obtain ⟨cg, hcg, hc4⟩ := hV.2.2.2.1.1
  have hd0_a : w a = some (.inr (7, [.ref (ad 1 0 0), .ref (ad 2 0 0), .ref (ad 3 0 0), .ref (ad 5 0 0), .ref (ad 5 1 0), .ref (ad 7 0 0), .ref (ad 8 0 0), .int (I 0), .int (I 30), .int (I 29), .int (I 31), .int (I 32)])) := by rw [hblc] at hc_a; exact hc_a
  refine lv_aload_n hx hb dX6_empty_0 rfl (lv_at hl 0 rfl) ?_
  refine lv_iload_n hx hb dX6_empty_1 rfl (lv_at hl 1 rfl) ?_
  refine x_callq (va_runV (As := [.int t0]) (rest := []) ⟨hx, hb, hml, hown, hts⟩ (c_X6_treeAt l G A _ a (ad 5 0 0) _ _ _ _ _ _ (if L 0 = 0 then G.2 12 else ad 6 0 0) _ _ _ _ _ _ (L 0) (cp 0) (ldat ad L 0) hc_a (hR.lst (by omega)) t0 fa (fun h9 => hR.dat (by omega) h9) (fun j hj => by rw [hfa]; exact ldat_t ad L hj) (by have := hR.2.2 0 (by omega); omega) (hR.2.2 0 (by omega)).1 (fun j hj => ⟨_, by rw [hfa]; exact hR.tree hj⟩)) (cwV 1 hts gX6_empty_X6_treeAt rfl rfl rfl (by decide +kernel) ⟨Nat.le_of_ble_eq_true rfl, Nat.le_of_ble_eq_true rfl⟩) (x_preV hK hH hTt (hc_a) rfl [.int t0]) rfl rfl hl.1 rfl (lv_room (Nat.le_of_ble_eq_true rfl)) dX6_empty_2 ⟨Nat.le_of_ble_eq_true rfl, Nat.le_of_ble_eq_true rfl⟩) hH (fun r2 u H locs hp hH => ?_)
  obtain ⟨hat, hu9⟩ := hp
  rw [hu9] at hH
  rcases atR_or hat with ⟨t, ht, rfl, rfl⟩ | ⟨hno, rfl⟩
  · obtain ⟨tr, htr⟩ : ∃ z, z = fa t := ⟨_, rfl⟩
    rw [← htr]
    have hc_tr : w tr = some (.inr (5, [.int (nI t), .ref (ad 4 (wd t) 0), .int (F 5 t * 100 + F 6 t), .int (bearI (F 7 t)), .ref (ad 5 (2 + t) 0), .int (F 8 t), .int (F 10 t)])) := by rw [htr, hfa]; exact hR.tree ht
    obtain ⟨hT4, hT6, ⟨tx, ty, hTx, htx, hTy, hty⟩, hT7, hT8, hT9, hTb, hT3⟩ := hV.2.1 t ht
    refine lv_astore_n (lv' := [(2, .ref tr), (0, .ref a), (1, .int (nI t))]) hx hb dX6_empty_5 rfl hl (by decide) rfl (fun ls hl => ?_)
    refine lv_aload_n hx hb dX6_empty_6 rfl (lv_at hl 0 rfl) ?_
    refine lv_ifnonnull (tgt := 12) hx hb dX6_empty_7 (by decide) ?_
    refine lv_aload_n hx hb dX6_empty_12 rfl (lv_at hl 0 rfl) ?_
    refine x_calli (va_runV (As := []) (rest := []) ⟨hx, hb, hml, hown, hts⟩ (c_X4_inCups l G A _ tr (ad 5 (2 + t) 0) _ (if L (2 + t) = 0 then G.2 12 else ad 6 (2 + t) 0) _ _ _ _ _ _ (L (2 + t)) (cp (2 + t)) (ldat ad L (2 + t)) hc_tr (hR.lst (by omega)) (fun j => ad 13 t j) (fun j => ad 14 t j) (fun j => F 11 (3 * t + j)) (fun j => F 12 (3 * t + j)) (fun j => F 13 (3 * t + j)) (fun j => cupS F (3 * t + j)) (fun j => F 15 (3 * t + j)) (fun h9 => hR.dat (by omega) h9) (fun j hj => ldat_f ad L hj) (by have := hR.2.2 (2 + t) (by omega); omega) (hR.2.2 (2 + t) (by omega)).1 (fun j hj => hR.face h60 (by omega) hj)) (cwV 0 hts gX6_empty_X4_inCups rfl rfl rfl (by decide +kernel) ⟨Nat.le_of_ble_eq_true rfl, Nat.le_of_ble_eq_true rfl⟩) (x_preV hK hH hTt (hc_tr) rfl []) rfl rfl hl.1 rfl (lv_room (Nat.le_of_ble_eq_true rfl)) dX6_empty_13 ⟨Nat.le_of_ble_eq_true rfl, Nat.le_of_ble_eq_true rfl⟩) hH (fun r13 u H locs hp hH => ?_)
    obtain ⟨rfl, hu9⟩ := hp
    rw [hu9] at hH
    obtain ⟨A9, hA9⟩ : ∃ z, z = nsum (fun j => c4 cg (3 * t + j)) (L (2 + t)) := ⟨_, rfl⟩
    have hAs : l_sum (fun j => cupS F (3 * t + j)) (L (2 + t)) = nI A9 := by rw [hA9]; exact lsum_nat _ (fun j hj => cupS_nat hcg (by omega))
    have hAl : A9 ≤ 1200 := by
      have k0 := hc4 (3 * t + 0) (by omega)
      have k1 := hc4 (3 * t + 1) (by omega)
      have k2 := hc4 (3 * t + 2) (by omega)
      have k3 := nsum_le (fun j => c4 cg (3 * t + j)) (L (2 + t)) (3 - L (2 + t))
      rw [show L (2 + t) + (3 - L (2 + t)) = 3 by omega] at k3
      have k4 : nsum (fun j => c4 cg (3 * t + j)) 3 = 0 + c4 cg (3 * t + 0) + c4 cg (3 * t + 1) + c4 cg (3 * t + 2) := rfl
      omega
    refine lv_topi (fun v16 ev16 => ?_)
    have hv16 : v16 = nI A9 := ev16.trans hAs
    subst hv16
    obtain ⟨RM, hRM⟩ : ∃ z, z = orN F hs (nI (wd t)) (L 1) := ⟨_, rfl⟩
    have hRl : RM ≤ 200000 := by have h9 := orN_le F hs (nI (wd t)) (L 1); omega
    have hbf : ∀ q, q < L 1 → F 17 q = nI (bw q) ∧ bw q < 6 := fun q hq => ⟨(hB1 q hq).1, (hB1 q hq).2.1⟩
    have hRq := orN_lb (F := F) (hs := hs) hT6 hbf (hB4 (wd t) hT6)
    rw [← hRM] at hRq
    obtain ⟨nb9, hnb9⟩ : ∃ z, z = if A9 ≤ RM then 0 else (A9 - RM + 999) / 1000 := ⟨_, rfl⟩
    have hnbl : nb9 ≤ 3 := by rw [hnb9]; split <;> omega
    have hsp := sEmp_1 (I := I) (F := F) (A := A9) (R := RM) hI3 h60 ht hI16 h200 (by unfold alS; rw [hT9, ix_n (by omega)]; exact hAs) hAl (by rw [hT4, hRM]; exact roomS_nat hBV.2.2.1 _ h200) hRl
    rw [← hnb9] at hsp
    refine lv_istore_n (lv' := [(3, .int (nI A9)), (2, .ref tr), (0, .ref a), (1, .int (nI t))]) hx hb dX6_empty_16 rfl hl (by decide) rfl (fun ls hl => ?_)
    refine lv_aload_n hx hb dX6_empty_17 rfl (lv_at hl 2 rfl) ?_
    refine x_get (C := RX6) (T := TX6) (N := 12) hx hb hts hiX6 hown hK hH hc_a rfl 4 (by decide) hf29 (fun _ h => h) (v := .ref blc) rfl dX6_empty_18 ?_
    refine x_callFi (va_runF (As := []) (rest := []) (hK.1 0 _ rfl).2 ⟨hx, hb, hml, hown, hts⟩ (c_Jx4a65c_size_8abf5 l G A _ blc bdc (E 5 1 0 0) (nI (L 1)) hc_blc) (va_cwF 0 hts gX6_empty_Jx4a65c_size_8abf5_f76Jx4a65c rfl rfl rfl hTt.2.2.1 (by decide +kernel) ⟨Nat.le_of_ble_eq_true rfl, Nat.le_of_ble_eq_true rfl⟩) (x_preV hK hH hTt hc_blc rfl []) rfl rfl hl.1 rfl (lv_room (Nat.le_of_ble_eq_true rfl)) dX6_empty_21 ⟨Nat.le_of_ble_eq_true rfl, Nat.le_of_ble_eq_true rfl⟩) hH (fun r21 u H locs hp hH => ?_)
    obtain ⟨rfl, hu9⟩ := hp
    rw [hu9] at hH
    refine lv_aload_n hx hb dX6_empty_26 rfl (lv_at hl 1 rfl) ?_
    refine x_get (C := RX4) (T := TX4) (N := 7) hx hb hts hiX4 hown hK hH hc_tr rfl 1 (by decide) hf146 (fun _ h => h) (v := .ref (ad 4 (wd t) 0)) rfl dX6_empty_27 ?_
    refine lv_iload_n hx hb dX6_empty_30 rfl (lv_at hl 0 rfl) ?_
    rcases hlb : lb (wd t) with _ | b
    · rw [hlb] at hRq
      refine x_calli (va_runS (As := [.ref (ad 4 (wd t) 0), .int (nI A9)]) (rest := [.int (nI (L 1))]) ⟨hx, hb, hml, hown, hts⟩ (c0_X6_newBarrelsFor l G A _ (ad 4 (wd t) 0) _ _ _ _ _ (by have h9 := hR.wood hT6; rw [hlb] at h9; exact h9) (nI A9)) (va_cwS 2 hts gX6_empty_X6_newBarrelsFor rfl rfl rfl (by decide +kernel) ⟨Nat.le_of_ble_eq_true rfl, Nat.le_of_ble_eq_true rfl⟩) (x_preS hK hH hTt [.ref (ad 4 (wd t) 0), .int (nI A9)]) rfl rfl hl.1 rfl (lv_room (Nat.le_of_ble_eq_true rfl)) dX6_empty_31 ⟨Nat.le_of_ble_eq_true rfl, Nat.le_of_ble_eq_true rfl⟩) hH (fun r31 u H locs hp hH => ?_)
      obtain ⟨hrq, hu9⟩ := hp
      rw [hu9] at hH
      have hrn : r31 = nI nb9 := by rw [hrq, hnb9, hRq]; have h9 := nbI_nat (A := A9) (R := 0) hAl (by omega); rw [show nI A9 - nI 0 = nI A9 from by rw [pk_sub (Nat.zero_le _), Nat.sub_zero]] at h9; exact h9
      subst hrn
      refine N_iadd hx hb (L 1) nb9 rfl rfl dX6_empty_34 ?_
      refine lv_sipush (v := 200) hx hb dX6_empty_35 (by decide) ?_
      refine lv_icmp_le (tgt := 43) hx hb dX6_empty_38 (by decide) (fun c38 => ?_) (fun c38 => ?_)
      · have c38 : ((L 1) + nb9) ≤ 200 := (nI_leI (a := ((L 1) + nb9)) (b := 200) (by omega) (by omega)).mp c38
        have hcapA : A9 ≤ capF F (nI (wd t)) (L 1) := by rw [capF_eq hBV]; unfold capN; rw [← hRM]; rw [hnb9] at c38; split at c38 <;> omega
        rw [if_pos c38] at hsp
        refine lv_iconst (v := 0) hx hb dX6_empty_43 (by decide) ?_
        refine lv_istore (lv' := [(4, .int 0), (3, .int (nI A9)), (2, .ref tr), (0, .ref a), (1, .int (nI t))]) hx hb dX6_empty_44 hl (by decide) rfl (fun ls hl => ?_)
        suffices loop46 : ∀ (k46 : Nat) (i : Nat) (wl : XW) (ad1 : YA) (E1 : YE) (cp1 : Nat → Nat) (L1 : Nat → Nat) (bw1 : Nat → Nat) (lb1 : Nat → Option Nat) (I1 : Nat → Int32) (F1 : Nat → Nat → Int32), (L (2 + t) < i + k46) → (i ≤ L (2 + t)) → ((I1, F1) = eSt t (I, F) i) → (Rep G wl ad1 E1 cp1 L1 wd bw1 lb1 I1 F1) → (Inv now L1 wd bw1 lb1 I1 F1) → (GrB w wl ad ad1 E E1 L L1) → (capF F1 (nI (wd t)) (L1 1) + nsum (fun j => c4 cg (3 * t + j)) i = capF F (nI (wd t)) (L 1)) → ∀ (H : Heap) (locs : List Loc), xH G A s.heap H locs (wl) → ∀ (ls : Array Slot), lv_has ls 5 [(0, .ref a), (1, .int (nI t)), (2, .ref tr), (3, .int (nI A9)), (4, .int (nI i))] → W p l e (headSpec wsX6_empty _).room s m _ below meth c H locs (32 * i) (3200 * i) (MQ below _ _ s 96 9600 A) (F0 m 46 ls []) from
          loop46 (L (2 + t) + 1) 0 w ad E cp L bw lb I F (by omega) (by omega) (rfl) (hR) (hV) (GrB.refl) (rfl) _ _ hH ls (lv_sub hl [3, 4, 2, 1, 0] rfl)
        intro k46
        induction k46 with
        | zero =>
          intro i wl ad1 E1 cp1 L1 bw1 lb1 I1 F1 hfuel hi9 hS hR1 hV1 hG hC H locs hH ls hl
          exact absurd hfuel (by omega)
        | succ k46 ih46 =>
          intro i wl ad1 E1 cp1 L1 bw1 lb1 I1 F1 hfuel hi9 hS hR1 hV1 hG hC H locs hH ls hl
          have h1o : ∀ i, i ≠ 1 → L1 i = L i := hG.2.2.1
          have ht1 : t < L1 0 := by rw [h1o 0 (by decide)]; exact ht
          have hLt : L1 (2 + t) = L (2 + t) := h1o (2 + t) (by omega)
          have h601 : L1 0 ≤ 60 := hV1.1.2.2.2.1
          have e0 : ad1 0 0 0 = a := (hG.1 0 0 0 (by decide) (by decide) (by decide) (by decide)).trans ha.symm
          have e12 : ad1 12 t 0 = tr := (hG.1 12 t 0 (by decide) (by decide) (by decide) (by omega)).trans (by rw [htr, hfa])
          obtain ⟨flc, hflc⟩ : ∃ z, z = ad1 5 (2 + t) 0 := ⟨_, rfl⟩
          obtain ⟨fdc, hfdc⟩ : ∃ z, z = (if L1 (2 + t) = 0 then G.2 12 else ad1 6 (2 + t) 0) := ⟨_, rfl⟩
          obtain ⟨wtc, hwtc⟩ : ∃ z, z = ad1 4 (wd t) 0 := ⟨_, rfl⟩
          have hE1 : ∀ j, E1 9 4 0 j = 0 := fun j => (hG.2.2.2.1 j).trans (hE j)
          have hc_a : wl a = some (.inr (7, [.ref (ad1 1 0 0), .ref (ad1 2 0 0), .ref (ad1 3 0 0), .ref (ad1 5 0 0), .ref (ad1 5 1 0), .ref (ad1 7 0 0), .ref (ad1 8 0 0), .int (I1 0), .int (I1 30), .int (I1 29), .int (I1 31), .int (I1 32)])) := by rw [← e0]; exact hR1.root
          have hc_tr : wl tr = some (.inr (5, [.int (nI t), .ref wtc, .int (F1 5 t * 100 + F1 6 t), .int (bearI (F1 7 t)), .ref flc, .int (F1 8 t), .int (F1 10 t)])) := by rw [← e12, hwtc, hflc]; exact hR1.tree ht1
          have hc_flc : wl flc = some (.inr (0, [.int (E1 5 (2 + t) 0 0), .ref fdc, .int (nI (L1 (2 + t)))])) := by rw [hflc, hfdc]; exact hR1.lst (by omega)
          have hc_wtc : wl wtc = some (.inr (6, [.int (nI (wd t)), .int (F1 22 (wd t)), .int (F1 23 (wd t)), .int (F1 24 (wd t)), .int (F1 25 (wd t)), va_rf ((lb1 (wd t)).map (fun b => ad1 15 b 0))])) := by rw [hwtc]; exact hR1.wood hT6
          have h14q : ∀ q, 4 * (3 * t + i) ≤ q → F1 14 q = F 14 q := fun q hq => by have h9 := congrArg (fun z : MS => z.2 14 q) hS; exact h9.trans (eSt_14 t (I, F) i q hq)
          refine lv_iload hx hb dX6_empty_46 (lv_at hl 4 rfl) ?_
          refine lv_aload_n hx hb dX6_empty_48 rfl (lv_at hl 2 rfl) ?_
          refine x_get (C := RX4) (T := TX4) (N := 7) hx hb hts hiX4 hown hK hH hc_tr rfl 4 (by decide) hf154 (fun _ h => h) (v := .ref flc) rfl dX6_empty_49 ?_
          refine x_callFi (va_runF (As := []) (rest := [.int (nI i)]) (hK.1 0 _ rfl).2 ⟨hx, hb, hml, hown, hts⟩ (c_Jx4a65c_size_8abf5 l G A _ flc fdc (E1 5 (2 + t) 0 0) (nI (L1 (2 + t))) hc_flc) (va_cwF 0 hts gX6_empty_Jx4a65c_size_8abf5_f76Jx4a65c rfl rfl rfl hTt.2.2.1 (by decide +kernel) ⟨Nat.le_of_ble_eq_true rfl, Nat.le_of_ble_eq_true rfl⟩) (x_preV hK hH hTt hc_flc rfl []) rfl rfl hl.1 rfl (lv_room (Nat.le_of_ble_eq_true rfl)) dX6_empty_52 ⟨by show _ ≤ 96; omega, by show _ ≤ 9600; omega⟩) hH (fun r52 u H locs hp hH => ?_)
          obtain ⟨rfl, hu9⟩ := hp
          rw [hu9] at hH
          refine lv_icmp_ge (tgt := 85) hx hb dX6_empty_57 (by decide) (fun c57 => ?_) (fun c57 => ?_)
          · have c57 : (L1 (2 + t)) ≤ i := (nI_leI (a := (L1 (2 + t))) (b := i) (by omega) (by omega)).mp c57
            refine lv_aload_n hx hb dX6_empty_85 rfl (lv_at hl 2 rfl) ?_
            refine x_get (C := RX4) (T := TX4) (N := 7) hx hb hts hiX4 hown hK hH hc_tr rfl 1 (by decide) hf146 (fun _ h => h) (v := .ref wtc) rfl dX6_empty_86 ?_
            refine lv_dup hx hb dX6_empty_89 rfl ?_
            refine x_get (C := RX5) (T := TX5) (N := 6) hx hb hts hiX5 hown hK hH hc_wtc rfl 3 (by decide) hf165 (fun _ h => h) (v := .int (F1 24 (wd t))) rfl dX6_empty_90 ?_
            refine lv_iload_n hx hb dX6_empty_93 rfl (lv_at hl 3 rfl) ?_
            refine lv_iadd hx hb dX6_empty_94 ?_
            have ne_a_wtc : a ≠ wtc := fun e9 => by rw [e9, hc_wtc] at hc_a; cases hc_a
            refine x_put (C := RX5) (T := TX5) (N := 6) (ty := .int) hx hb hts hiX5 tyX5 tyX5_ok nmX5 hown hK hH hc_wtc rfl 3 (by decide) hf165 (fun _ h => h) rfl (by decide +kernel) rfl rfl (Nat.le_of_ble_eq_true rfl) dX6_empty_95 (fun H locs hH => ?_)
            have hH : xH G A s.heap H locs (va_up wl wtc (some (.inr (6, [.int (nI (wd t)), .int (F1 22 (wd t)), .int (F1 23 (wd t)), .int ((F1 24 (wd t)) + (nI A9)), .int (F1 25 (wd t)), va_rf ((lb1 (wd t)).map (fun b => ad1 15 b 0))])))) := hH
            obtain ⟨w95, ew95⟩ : ∃ z, z = va_up wl wtc (some (.inr (6, [.int (nI (wd t)), .int (F1 22 (wd t)), .int (F1 23 (wd t)), .int ((F1 24 (wd t)) + (nI A9)), .int (F1 25 (wd t)), va_rf ((lb1 (wd t)).map (fun b => ad1 15 b 0))]))) := ⟨_, rfl⟩
            rw [← ew95] at hH
            have hc_a : w95 a = some (.inr (7, [.ref (ad1 1 0 0), .ref (ad1 2 0 0), .ref (ad1 3 0 0), .ref (ad1 5 0 0), .ref (ad1 5 1 0), .ref (ad1 7 0 0), .ref (ad1 8 0 0), .int (I1 0), .int (I1 30), .int (I1 29), .int (I1 31), .int (I1 32)])) := by rw [ew95]; exact (if_neg ne_a_wtc).trans hc_a
            refine lv_aload_n hx hb dX6_empty_98 rfl (lv_at hl 0 rfl) ?_
            refine lv_dup hx hb dX6_empty_99 rfl ?_
            refine x_get (C := RX6) (T := TX6) (N := 12) hx hb hts hiX6 hown hK hH hc_a rfl 8 (by decide) hf50 (fun _ h => h) (v := .int (I1 30)) rfl dX6_empty_100 ?_
            refine lv_iload_n hx hb dX6_empty_103 rfl (lv_at hl 3 rfl) ?_
            refine lv_iadd hx hb dX6_empty_104 ?_
            refine x_put (C := RX6) (T := TX6) (N := 12) (ty := .int) hx hb hts hiX6 tyX6 tyX6_ok nmX6 hown hK hH hc_a rfl 8 (by decide) hf50 (fun _ h => h) rfl (by decide +kernel) rfl rfl (Nat.le_of_ble_eq_true rfl) dX6_empty_105 (fun H locs hH => ?_)
            have hH : xH G A s.heap H locs (va_up w95 a (some (.inr (7, [.ref (ad1 1 0 0), .ref (ad1 2 0 0), .ref (ad1 3 0 0), .ref (ad1 5 0 0), .ref (ad1 5 1 0), .ref (ad1 7 0 0), .ref (ad1 8 0 0), .int (I1 0), .int ((I1 30) + (nI A9)), .int (I1 29), .int (I1 31), .int (I1 32)])))) := hH
            obtain ⟨w105, ew105⟩ : ∃ z, z = va_up w95 a (some (.inr (7, [.ref (ad1 1 0 0), .ref (ad1 2 0 0), .ref (ad1 3 0 0), .ref (ad1 5 0 0), .ref (ad1 5 1 0), .ref (ad1 7 0 0), .ref (ad1 8 0 0), .int (I1 0), .int ((I1 30) + (nI A9)), .int (I1 29), .int (I1 31), .int (I1 32)]))) := ⟨_, rfl⟩
            rw [← ew105] at hH
            have hiL : i = L (2 + t) := by omega
            rw [hiL] at hS hC
            rw [← hA9] at hC
            have wne : ∀ y, y ≠ ad1 0 0 0 → y ≠ ad1 4 (wd t) 0 → w105 y = wl y := fun y y1 y2 => by rw [ew105]; refine (if_neg (by rw [← e0]; exact y1)).trans ?_; rw [ew95]; exact if_neg (by rw [hwtc]; exact y2)
            have hrp := rep_emp (u := w105) (x := I1 30 + nI A9) (y := F1 24 (wd t) + nI A9) hR1 hT6 (by rw [← hwtc, ew105]; refine (if_neg (fun z => ne_a_wtc z.symm)).trans ?_; rw [ew95]; exact if_pos rfl) (by rw [e0, ew105]; exact if_pos rfl) wne
            obtain ⟨⟨tk, htk, htk2⟩, -, -⟩ := hB5 (wd t) hT6
            have f24 : F1 24 = F 24 := by have h9 := congrArg (fun z : MS => z.2 24) hS; exact h9.trans (eSt_24 t (I, F) (L (2 + t)))
            rw [← capF_eq hBV] at htk2
            have hinv := inv_emp (x := I1 30 + nI A9) (tk := tk) (A := A9) hV1 hT6 (by rw [f24]; exact htk) (by omega)
            have hal : alS F t = nI A9 := by unfold alS; rw [hT9, ix_n (by omega)]; exact hAs
            have hem : emOk I F t = (nI A9, va_up I1 30 (I1 30 + nI A9), setA F1 24 (wd t) (F1 24 (wd t) + nI A9)) := by unfold emOk; rw [hal, hT9, ix_n (by omega), ← emp_eq, ← hS, hT4, ix_n (by omega)]
            have hgx := hG.trans (GrB.step (E := E1) (fun y hy => wne y (hy 0 0 0 ⟨rfl, rfl⟩) (hy 4 (wd t) 0 ⟨hT6, rfl⟩)) hrp.some)
            refine lv_iload_n hx hb dX6_empty_108 rfl (lv_at hl 3 rfl) ?_
            refine W.widen (k := 96) (n := 9600) (by omega) (by omega) ?_
            exact x_iret (v := nI A9) w105 hx hb hr hlocks hK hH (by rw [hsp, hem]; exact ⟨rfl, Nx.grow hrp hinv e0.symm hE1 hgx.2.1 hgx.2.2.2.2.1⟩) dX6_empty_109
          · have c57 : ¬ (L1 (2 + t)) ≤ i := fun zz => c57 ((nI_leI (a := (L1 (2 + t))) (b := i) (by omega) (by omega)).mpr zz)
            refine lv_aload_n hx hb dX6_empty_60 rfl (lv_at hl 0 rfl) ?_
            refine lv_aload_n hx hb dX6_empty_61 rfl (lv_at hl 2 rfl) ?_
            refine lv_aload_n hx hb dX6_empty_62 rfl (lv_at hl 2 rfl) ?_
            refine x_get (C := RX4) (T := TX4) (N := 7) hx hb hts hiX4 hown hK hH hc_tr rfl 4 (by decide) hf154 (fun _ h => h) (v := .ref flc) rfl dX6_empty_63 ?_
            refine lv_iload hx hb dX6_empty_66 (lv_at hl 4 rfl) ?_
            have hc_fdc : wl fdc = some (.inl (G.2 4, cp1 (2 + t), .inr (.inr (.inr (.inr (ldat ad1 L1 (2 + t))))))) := by rw [hfdc]; exact hR1.dat (by omega) (by omega)
            obtain ⟨fb, hfb⟩ : ∃ z : Nat → Nat, z = fun j => ad1 13 t j := ⟨_, rfl⟩
            refine x_callFq (va_runF (As := [.int (nI i)]) (rest := [.ref tr, .ref a]) (hK.1 0 _ rfl).2 ⟨hx, hb, hml, hown, hts⟩ (c_Jx4a65c_get_915e3 l G A _ flc fdc (E1 5 (2 + t) 0 0) (L1 (2 + t)) (cp1 (2 + t)) (ldat ad1 L1 (2 + t)) hc_flc hc_fdc i (fb i) (by omega) (by have := (hR1.2.2 (2 + t) (by omega)).1; omega) (by have := hR1.2.2 (2 + t) (by omega); omega) (by omega) (by rw [hfb]; exact ldat_f ad1 L1 (by omega))) (va_cwF 1 hts gX6_empty_Jx4a65c_get_915e3_f157Jx4a65c rfl rfl rfl hTt.2.2.2.1 (by decide +kernel) ⟨Nat.le_of_ble_eq_true rfl, Nat.le_of_ble_eq_true rfl⟩) (x_preV hK hH hTt hc_flc rfl [.int (nI i)]) rfl rfl hl.1 rfl (lv_room (Nat.le_of_ble_eq_true rfl)) dX6_empty_68 ⟨by show _ ≤ 96; omega, by show _ ≤ 9600; omega⟩) hH (fun r68 u H locs hp hH => ?_)
            obtain ⟨rfl, hu9⟩ := hp
            rw [hu9] at hH
            have hi1 : i < L1 (2 + t) := by omega
            obtain ⟨fc, hfc⟩ : ∃ z, z = fb i := ⟨_, rfl⟩
            rw [← hfc]
            have hfc0 : fc = ad1 13 t i := by rw [hfc, hfb]
            have hc_fc := hR1.face h601 ht1 hi1
            rw [← hfc0] at hc_fc
            have hsn : nsum (fun j => c4 cg (3 * t + j)) (i + 1) = nsum (fun j => c4 cg (3 * t + j)) i + c4 cg (3 * t + i) := rfl
            have hsm : nsum (fun j => c4 cg (3 * t + j)) (i + 1) ≤ A9 := by have h9 := nsum_le (fun j => c4 cg (3 * t + j)) (i + 1) (L (2 + t) - (i + 1)); rw [show i + 1 + (L (2 + t) - (i + 1)) = L (2 + t) by omega, ← hA9] at h9; exact h9
            refine x_cast (ci := 2) hx hb hK hH hc_fc rfl hown (hts (.classLink RX6 117 "ResinWoods$Face") (by decide +kernel)) dX6_empty_73 ?_
            refine x_callv (va_runV (As := [.ref tr, .ref fc]) (rest := []) ⟨hx, hb, hml, hown, hts⟩ (c_X6_pourCup l G A _ a ad1 E1 cp1 L1 wd bw1 lb1 I1 F1 hc_a now hR1 hV1 e0.symm hE1 tr fc t i e12.symm hfc0 ht1 hi1 (fun g => cg (4 * (3 * t + i) + g)) (fun g hg => by rw [h14q _ (by omega)]; exact hcg _ (by omega)) (by show cg (4 * (3 * t + i) + 0) + cg (4 * (3 * t + i) + 1) + cg (4 * (3 * t + i) + 2) + cg (4 * (3 * t + i) + 3) ≤ 400; rw [c4_0]; exact hc4 _ (by omega)) (by show cg (4 * (3 * t + i) + 0) + cg (4 * (3 * t + i) + 1) + cg (4 * (3 * t + i) + 2) + cg (4 * (3 * t + i) + 3) ≤ _; rw [c4_0]; omega)) (cwV 2 hts gX6_empty_X6_pourCup rfl rfl rfl (by decide +kernel) ⟨Nat.le_of_ble_eq_true rfl, Nat.le_of_ble_eq_true rfl⟩) (x_preV hK hH hTt (hc_a) rfl [.ref tr, .ref fc]) rfl rfl hl.1 rfl (lv_room (Nat.le_of_ble_eq_true rfl)) dX6_empty_76 ⟨by show _ ≤ 96; omega, by show _ ≤ 9600; omega⟩) hH (fun w76 H locs hp hH => ?_)
            obtain ⟨ad2, E2, cp2, L2, bw2, lb2, hR2, hV2, hG2, hC2⟩ := hp
            have hC2 : capF (cupE t (3 * t + i) (I1, F1)).2 (nI (wd t)) (L2 1) + c4 cg (3 * t + i) = capF F1 (nI (wd t)) (L1 1) := by rw [← c4_0]; exact hC2
            refine lv_iinc (v := nI (i + 1)) (lv' := [(4, .int (nI (i + 1))), (0, .ref a), (1, .int (nI t)), (2, .ref tr), (3, .int (nI A9))]) hx hb dX6_empty_79 hl (k := 4) rfl (by exact nI_add _ 1) (by decide) rfl (fun ls hl => ?_)
            refine lv_goto (tgt := 46) hx hb dX6_empty_82 (by decide) ?_
            refine W.widen (k := 32 * (i + 1)) (n := 3200 * (i + 1)) (by omega) (by omega) ?_
            exact ih46 (i + 1) w76 ad2 E2 cp2 L2 bw2 lb2 ((cupE t (3 * t + i) (I1, F1)).1) ((cupE t (3 * t + i) (I1, F1)).2) (by omega) (by omega) (by show _ = cupE t (3 * t + i) (eSt t (I, F) i); rw [← hS]) (hR2) (hV2) (hG.trans hG2) (by omega) _ _ hH ls (lv_sub hl [1, 2, 3, 4, 0] rfl)
      · have c38 : ¬ ((L 1) + nb9) ≤ 200 := fun zz => c38 ((nI_leI (a := ((L 1) + nb9)) (b := 200) (by omega) (by omega)).mpr zz)
        refine lv_iconst (v := (-1)) hx hb dX6_empty_41 (by decide) ?_
        refine W.widen (k := 96) (n := 9600) (by omega) (by omega) ?_
        exact x_iret (v := (-1)) w hx hb hr hlocks hK hH (by rw [hsp, if_neg c38]; exact ⟨rfl, Nx.same hR hV ha hE (fun _ _ => rfl)⟩) dX6_empty_42
    · rw [hlb] at hRq
      have hok := hB4 (wd t) hT6
      rw [hlb] at hok
      have hb9 : b < L 1 := hok.1
      refine x_calli (va_runS (As := [.ref (ad 4 (wd t) 0), .int (nI A9)]) (rest := [.int (nI (L 1))]) ⟨hx, hb, hml, hown, hts⟩ (c1_X6_newBarrelsFor l G A _ (ad 4 (wd t) 0) (ad 15 b 0) _ _ _ _ _ _ _ _ _ _ _ (by have h9 := hR.wood hT6; rw [hlb] at h9; exact h9) (hR.brl hb9) (nI A9)) (va_cwS 2 hts gX6_empty_X6_newBarrelsFor rfl rfl rfl (by decide +kernel) ⟨Nat.le_of_ble_eq_true rfl, Nat.le_of_ble_eq_true rfl⟩) (x_preS hK hH hTt [.ref (ad 4 (wd t) 0), .int (nI A9)]) rfl rfl hl.1 rfl (lv_room (Nat.le_of_ble_eq_true rfl)) dX6_empty_31 ⟨Nat.le_of_ble_eq_true rfl, Nat.le_of_ble_eq_true rfl⟩) hH (fun r31 u H locs hp hH => ?_)
      obtain ⟨hrq, hu9⟩ := hp
      rw [hu9] at hH
      have hbh := hBV.2.2.1 b (by omega)
      have hrn : r31 = nI nb9 := by
        rw [hrq, hnb9, hRq, fullB_eq hbh.1 hbh.2]
        show _ = nI (if A9 ≤ (if fullI F b = 0 then 1000 - hs b else 0) then 0 else (A9 - (if fullI F b = 0 then 1000 - hs b else 0) + 999) / 1000)
        by_cases hf : fullI F b = 0
        · rw [if_pos hf, if_pos hf, hbh.1, show (1000 : Int32) - nI (hs b) = nI (1000 - hs b) from pk_sub (a := 1000) hbh.2]
          exact nbI_nat hAl (by omega)
        · rw [if_neg hf, if_neg hf]
          have h9 := nbI_nat (A := A9) (R := 0) hAl (by omega)
          rw [show nI A9 - nI 0 = nI A9 from by rw [pk_sub (Nat.zero_le _), Nat.sub_zero]] at h9
          exact h9
      subst hrn
      refine N_iadd hx hb (L 1) nb9 rfl rfl dX6_empty_34 ?_
      refine lv_sipush (v := 200) hx hb dX6_empty_35 (by decide) ?_
      refine lv_icmp_le (tgt := 43) hx hb dX6_empty_38 (by decide) (fun c38 => ?_) (fun c38 => ?_)
      · have c38 : ((L 1) + nb9) ≤ 200 := (nI_leI (a := ((L 1) + nb9)) (b := 200) (by omega) (by omega)).mp c38
        have hcapA : A9 ≤ capF F (nI (wd t)) (L 1) := by rw [capF_eq hBV]; unfold capN; rw [← hRM]; rw [hnb9] at c38; split at c38 <;> omega
        rw [if_pos c38] at hsp
        refine lv_iconst (v := 0) hx hb dX6_empty_43 (by decide) ?_
        refine lv_istore (lv' := [(4, .int 0), (3, .int (nI A9)), (2, .ref tr), (0, .ref a), (1, .int (nI t))]) hx hb dX6_empty_44 hl (by decide) rfl (fun ls hl => ?_)
        suffices loop46 : ∀ (k46 : Nat) (i : Nat) (wl : XW) (ad1 : YA) (E1 : YE) (cp1 : Nat → Nat) (L1 : Nat → Nat) (bw1 : Nat → Nat) (lb1 : Nat → Option Nat) (I1 : Nat → Int32) (F1 : Nat → Nat → Int32), (L (2 + t) < i + k46) → (i ≤ L (2 + t)) → ((I1, F1) = eSt t (I, F) i) → (Rep G wl ad1 E1 cp1 L1 wd bw1 lb1 I1 F1) → (Inv now L1 wd bw1 lb1 I1 F1) → (GrB w wl ad ad1 E E1 L L1) → (capF F1 (nI (wd t)) (L1 1) + nsum (fun j => c4 cg (3 * t + j)) i = capF F (nI (wd t)) (L 1)) → ∀ (H : Heap) (locs : List Loc), xH G A s.heap H locs (wl) → ∀ (ls : Array Slot), lv_has ls 5 [(0, .ref a), (1, .int (nI t)), (2, .ref tr), (3, .int (nI A9)), (4, .int (nI i))] → W p l e (headSpec wsX6_empty _).room s m _ below meth c H locs (32 * i) (3200 * i) (MQ below _ _ s 96 9600 A) (F0 m 46 ls []) from
          loop46 (L (2 + t) + 1) 0 w ad E cp L bw lb I F (by omega) (by omega) (rfl) (hR) (hV) (GrB.refl) (rfl) _ _ hH ls (lv_sub hl [3, 4, 2, 1, 0] rfl)
        intro k46
        induction k46 with
        | zero =>
          intro i wl ad1 E1 cp1 L1 bw1 lb1 I1 F1 hfuel hi9 hS hR1 hV1 hG hC H locs hH ls hl
          exact absurd hfuel (by omega)
        | succ k46 ih46 =>
          intro i wl ad1 E1 cp1 L1 bw1 lb1 I1 F1 hfuel hi9 hS hR1 hV1 hG hC H locs hH ls hl
          have h1o : ∀ i, i ≠ 1 → L1 i = L i := hG.2.2.1
          have ht1 : t < L1 0 := by rw [h1o 0 (by decide)]; exact ht
          have hLt : L1 (2 + t) = L (2 + t) := h1o (2 + t) (by omega)
          have h601 : L1 0 ≤ 60 := hV1.1.2.2.2.1
          have e0 : ad1 0 0 0 = a := (hG.1 0 0 0 (by decide) (by decide) (by decide) (by decide)).trans ha.symm
          have e12 : ad1 12 t 0 = tr := (hG.1 12 t 0 (by decide) (by decide) (by decide) (by omega)).trans (by rw [htr, hfa])
          obtain ⟨flc, hflc⟩ : ∃ z, z = ad1 5 (2 + t) 0 := ⟨_, rfl⟩
          obtain ⟨fdc, hfdc⟩ : ∃ z, z = (if L1 (2 + t) = 0 then G.2 12 else ad1 6 (2 + t) 0) := ⟨_, rfl⟩
          obtain ⟨wtc, hwtc⟩ : ∃ z, z = ad1 4 (wd t) 0 := ⟨_, rfl⟩
          have hE1 : ∀ j, E1 9 4 0 j = 0 := fun j => (hG.2.2.2.1 j).trans (hE j)
          have hc_a : wl a = some (.inr (7, [.ref (ad1 1 0 0), .ref (ad1 2 0 0), .ref (ad1 3 0 0), .ref (ad1 5 0 0), .ref (ad1 5 1 0), .ref (ad1 7 0 0), .ref (ad1 8 0 0), .int (I1 0), .int (I1 30), .int (I1 29), .int (I1 31), .int (I1 32)])) := by rw [← e0]; exact hR1.root
          have hc_tr : wl tr = some (.inr (5, [.int (nI t), .ref wtc, .int (F1 5 t * 100 + F1 6 t), .int (bearI (F1 7 t)), .ref flc, .int (F1 8 t), .int (F1 10 t)])) := by rw [← e12, hwtc, hflc]; exact hR1.tree ht1
          have hc_flc : wl flc = some (.inr (0, [.int (E1 5 (2 + t) 0 0), .ref fdc, .int (nI (L1 (2 + t)))])) := by rw [hflc, hfdc]; exact hR1.lst (by omega)
          have hc_wtc : wl wtc = some (.inr (6, [.int (nI (wd t)), .int (F1 22 (wd t)), .int (F1 23 (wd t)), .int (F1 24 (wd t)), .int (F1 25 (wd t)), va_rf ((lb1 (wd t)).map (fun b => ad1 15 b 0))])) := by rw [hwtc]; exact hR1.wood hT6
          have h14q : ∀ q, 4 * (3 * t + i) ≤ q → F1 14 q = F 14 q := fun q hq => by have h9 := congrArg (fun z : MS => z.2 14 q) hS; exact h9.trans (eSt_14 t (I, F) i q hq)
          refine lv_iload hx hb dX6_empty_46 (lv_at hl 4 rfl) ?_
          refine lv_aload_n hx hb dX6_empty_48 rfl (lv_at hl 2 rfl) ?_
          refine x_get (C := RX4) (T := TX4) (N := 7) hx hb hts hiX4 hown hK hH hc_tr rfl 4 (by decide) hf154 (fun _ h => h) (v := .ref flc) rfl dX6_empty_49 ?_
          refine x_callFi (va_runF (As := []) (rest := [.int (nI i)]) (hK.1 0 _ rfl).2 ⟨hx, hb, hml, hown, hts⟩ (c_Jx4a65c_size_8abf5 l G A _ flc fdc (E1 5 (2 + t) 0 0) (nI (L1 (2 + t))) hc_flc) (va_cwF 0 hts gX6_empty_Jx4a65c_size_8abf5_f76Jx4a65c rfl rfl rfl hTt.2.2.1 (by decide +kernel) ⟨Nat.le_of_ble_eq_true rfl, Nat.le_of_ble_eq_true rfl⟩) (x_preV hK hH hTt hc_flc rfl []) rfl rfl hl.1 rfl (lv_room (Nat.le_of_ble_eq_true rfl)) dX6_empty_52 ⟨by show _ ≤ 96; omega, by show _ ≤ 9600; omega⟩) hH (fun r52 u H locs hp hH => ?_)
          obtain ⟨rfl, hu9⟩ := hp
          rw [hu9] at hH
          refine lv_icmp_ge (tgt := 85) hx hb dX6_empty_57 (by decide) (fun c57 => ?_) (fun c57 => ?_)
          · have c57 : (L1 (2 + t)) ≤ i := (nI_leI (a := (L1 (2 + t))) (b := i) (by omega) (by omega)).mp c57
            refine lv_aload_n hx hb dX6_empty_85 rfl (lv_at hl 2 rfl) ?_
            refine x_get (C := RX4) (T := TX4) (N := 7) hx hb hts hiX4 hown hK hH hc_tr rfl 1 (by decide) hf146 (fun _ h => h) (v := .ref wtc) rfl dX6_empty_86 ?_
            refine lv_dup hx hb dX6_empty_89 rfl ?_
            refine x_get (C := RX5) (T := TX5) (N := 6) hx hb hts hiX5 hown hK hH hc_wtc rfl 3 (by decide) hf165 (fun _ h => h) (v := .int (F1 24 (wd t))) rfl dX6_empty_90 ?_
            refine lv_iload_n hx hb dX6_empty_93 rfl (lv_at hl 3 rfl) ?_
            refine lv_iadd hx hb dX6_empty_94 ?_
            have ne_a_wtc : a ≠ wtc := fun e9 => by rw [e9, hc_wtc] at hc_a; cases hc_a
            refine x_put (C := RX5) (T := TX5) (N := 6) (ty := .int) hx hb hts hiX5 tyX5 tyX5_ok nmX5 hown hK hH hc_wtc rfl 3 (by decide) hf165 (fun _ h => h) rfl (by decide +kernel) rfl rfl (Nat.le_of_ble_eq_true rfl) dX6_empty_95 (fun H locs hH => ?_)
            have hH : xH G A s.heap H locs (va_up wl wtc (some (.inr (6, [.int (nI (wd t)), .int (F1 22 (wd t)), .int (F1 23 (wd t)), .int ((F1 24 (wd t)) + (nI A9)), .int (F1 25 (wd t)), va_rf ((lb1 (wd t)).map (fun b => ad1 15 b 0))])))) := hH
            obtain ⟨w95, ew95⟩ : ∃ z, z = va_up wl wtc (some (.inr (6, [.int (nI (wd t)), .int (F1 22 (wd t)), .int (F1 23 (wd t)), .int ((F1 24 (wd t)) + (nI A9)), .int (F1 25 (wd t)), va_rf ((lb1 (wd t)).map (fun b => ad1 15 b 0))]))) := ⟨_, rfl⟩
            rw [← ew95] at hH
            have hc_a : w95 a = some (.inr (7, [.ref (ad1 1 0 0), .ref (ad1 2 0 0), .ref (ad1 3 0 0), .ref (ad1 5 0 0), .ref (ad1 5 1 0), .ref (ad1 7 0 0), .ref (ad1 8 0 0), .int (I1 0), .int (I1 30), .int (I1 29), .int (I1 31), .int (I1 32)])) := by rw [ew95]; exact (if_neg ne_a_wtc).trans hc_a
            refine lv_aload_n hx hb dX6_empty_98 rfl (lv_at hl 0 rfl) ?_
            refine lv_dup hx hb dX6_empty_99 rfl ?_
            refine x_get (C := RX6) (T := TX6) (N := 12) hx hb hts hiX6 hown hK hH hc_a rfl 8 (by decide) hf50 (fun _ h => h) (v := .int (I1 30)) rfl dX6_empty_100 ?_
            refine lv_iload_n hx hb dX6_empty_103 rfl (lv_at hl 3 rfl) ?_
            refine lv_iadd hx hb dX6_empty_104 ?_
            refine x_put (C := RX6) (T := TX6) (N := 12) (ty := .int) hx hb hts hiX6 tyX6 tyX6_ok nmX6 hown hK hH hc_a rfl 8 (by decide) hf50 (fun _ h => h) rfl (by decide +kernel) rfl rfl (Nat.le_of_ble_eq_true rfl) dX6_empty_105 (fun H locs hH => ?_)
            have hH : xH G A s.heap H locs (va_up w95 a (some (.inr (7, [.ref (ad1 1 0 0), .ref (ad1 2 0 0), .ref (ad1 3 0 0), .ref (ad1 5 0 0), .ref (ad1 5 1 0), .ref (ad1 7 0 0), .ref (ad1 8 0 0), .int (I1 0), .int ((I1 30) + (nI A9)), .int (I1 29), .int (I1 31), .int (I1 32)])))) := hH
            obtain ⟨w105, ew105⟩ : ∃ z, z = va_up w95 a (some (.inr (7, [.ref (ad1 1 0 0), .ref (ad1 2 0 0), .ref (ad1 3 0 0), .ref (ad1 5 0 0), .ref (ad1 5 1 0), .ref (ad1 7 0 0), .ref (ad1 8 0 0), .int (I1 0), .int ((I1 30) + (nI A9)), .int (I1 29), .int (I1 31), .int (I1 32)]))) := ⟨_, rfl⟩
            rw [← ew105] at hH
            have hiL : i = L (2 + t) := by omega
            rw [hiL] at hS hC
            rw [← hA9] at hC
            have wne : ∀ y, y ≠ ad1 0 0 0 → y ≠ ad1 4 (wd t) 0 → w105 y = wl y := fun y y1 y2 => by rw [ew105]; refine (if_neg (by rw [← e0]; exact y1)).trans ?_; rw [ew95]; exact if_neg (by rw [hwtc]; exact y2)
            have hrp := rep_emp (u := w105) (x := I1 30 + nI A9) (y := F1 24 (wd t) + nI A9) hR1 hT6 (by rw [← hwtc, ew105]; refine (if_neg (fun z => ne_a_wtc z.symm)).trans ?_; rw [ew95]; exact if_pos rfl) (by rw [e0, ew105]; exact if_pos rfl) wne
            obtain ⟨⟨tk, htk, htk2⟩, -, -⟩ := hB5 (wd t) hT6
            have f24 : F1 24 = F 24 := by have h9 := congrArg (fun z : MS => z.2 24) hS; exact h9.trans (eSt_24 t (I, F) (L (2 + t)))
            rw [← capF_eq hBV] at htk2
            have hinv := inv_emp (x := I1 30 + nI A9) (tk := tk) (A := A9) hV1 hT6 (by rw [f24]; exact htk) (by omega)
            have hal : alS F t = nI A9 := by unfold alS; rw [hT9, ix_n (by omega)]; exact hAs
            have hem : emOk I F t = (nI A9, va_up I1 30 (I1 30 + nI A9), setA F1 24 (wd t) (F1 24 (wd t) + nI A9)) := by unfold emOk; rw [hal, hT9, ix_n (by omega), ← emp_eq, ← hS, hT4, ix_n (by omega)]
            have hgx := hG.trans (GrB.step (E := E1) (fun y hy => wne y (hy 0 0 0 ⟨rfl, rfl⟩) (hy 4 (wd t) 0 ⟨hT6, rfl⟩)) hrp.some)
            refine lv_iload_n hx hb dX6_empty_108 rfl (lv_at hl 3 rfl) ?_
            refine W.widen (k := 96) (n := 9600) (by omega) (by omega) ?_
            exact x_iret (v := nI A9) w105 hx hb hr hlocks hK hH (by rw [hsp, hem]; exact ⟨rfl, Nx.grow hrp hinv e0.symm hE1 hgx.2.1 hgx.2.2.2.2.1⟩) dX6_empty_109
          · have c57 : ¬ (L1 (2 + t)) ≤ i := fun zz => c57 ((nI_leI (a := (L1 (2 + t))) (b := i) (by omega) (by omega)).mpr zz)
            refine lv_aload_n hx hb dX6_empty_60 rfl (lv_at hl 0 rfl) ?_
            refine lv_aload_n hx hb dX6_empty_61 rfl (lv_at hl 2 rfl) ?_
            refine lv_aload_n hx hb dX6_empty_62 rfl (lv_at hl 2 rfl) ?_
            refine x_get (C := RX4) (T := TX4) (N := 7) hx hb hts hiX4 hown hK hH hc_tr rfl 4 (by decide) hf154 (fun _ h => h) (v := .ref flc) rfl dX6_empty_63 ?_
            refine lv_iload hx hb dX6_empty_66 (lv_at hl 4 rfl) ?_
            have hc_fdc : wl fdc = some (.inl (G.2 4, cp1 (2 + t), .inr (.inr (.inr (.inr (ldat ad1 L1 (2 + t))))))) := by rw [hfdc]; exact hR1.dat (by omega) (by omega)
            obtain ⟨fb, hfb⟩ : ∃ z : Nat → Nat, z = fun j => ad1 13 t j := ⟨_, rfl⟩
            refine x_callFq (va_runF (As := [.int (nI i)]) (rest := [.ref tr, .ref a]) (hK.1 0 _ rfl).2 ⟨hx, hb, hml, hown, hts⟩ (c_Jx4a65c_get_915e3 l G A _ flc fdc (E1 5 (2 + t) 0 0) (L1 (2 + t)) (cp1 (2 + t)) (ldat ad1 L1 (2 + t)) hc_flc hc_fdc i (fb i) (by omega) (by have := (hR1.2.2 (2 + t) (by omega)).1; omega) (by have := hR1.2.2 (2 + t) (by omega); omega) (by omega) (by rw [hfb]; exact ldat_f ad1 L1 (by omega))) (va_cwF 1 hts gX6_empty_Jx4a65c_get_915e3_f157Jx4a65c rfl rfl rfl hTt.2.2.2.1 (by decide +kernel) ⟨Nat.le_of_ble_eq_true rfl, Nat.le_of_ble_eq_true rfl⟩) (x_preV hK hH hTt hc_flc rfl [.int (nI i)]) rfl rfl hl.1 rfl (lv_room (Nat.le_of_ble_eq_true rfl)) dX6_empty_68 ⟨by show _ ≤ 96; omega, by show _ ≤ 9600; omega⟩) hH (fun r68 u H locs hp hH => ?_)
            obtain ⟨rfl, hu9⟩ := hp
            rw [hu9] at hH
            have hi1 : i < L1 (2 + t) := by omega
            obtain ⟨fc, hfc⟩ : ∃ z, z = fb i := ⟨_, rfl⟩
            rw [← hfc]
            have hfc0 : fc = ad1 13 t i := by rw [hfc, hfb]
            have hc_fc := hR1.face h601 ht1 hi1
            rw [← hfc0] at hc_fc
            have hsn : nsum (fun j => c4 cg (3 * t + j)) (i + 1) = nsum (fun j => c4 cg (3 * t + j)) i + c4 cg (3 * t + i) := rfl
            have hsm : nsum (fun j => c4 cg (3 * t + j)) (i + 1) ≤ A9 := by have h9 := nsum_le (fun j => c4 cg (3 * t + j)) (i + 1) (L (2 + t) - (i + 1)); rw [show i + 1 + (L (2 + t) - (i + 1)) = L (2 + t) by omega, ← hA9] at h9; exact h9
            refine x_cast (ci := 2) hx hb hK hH hc_fc rfl hown (hts (.classLink RX6 117 "ResinWoods$Face") (by decide +kernel)) dX6_empty_73 ?_
            refine x_callv (va_runV (As := [.ref tr, .ref fc]) (rest := []) ⟨hx, hb, hml, hown, hts⟩ (c_X6_pourCup l G A _ a ad1 E1 cp1 L1 wd bw1 lb1 I1 F1 hc_a now hR1 hV1 e0.symm hE1 tr fc t i e12.symm hfc0 ht1 hi1 (fun g => cg (4 * (3 * t + i) + g)) (fun g hg => by rw [h14q _ (by omega)]; exact hcg _ (by omega)) (by show cg (4 * (3 * t + i) + 0) + cg (4 * (3 * t + i) + 1) + cg (4 * (3 * t + i) + 2) + cg (4 * (3 * t + i) + 3) ≤ 400; rw [c4_0]; exact hc4 _ (by omega)) (by show cg (4 * (3 * t + i) + 0) + cg (4 * (3 * t + i) + 1) + cg (4 * (3 * t + i) + 2) + cg (4 * (3 * t + i) + 3) ≤ _; rw [c4_0]; omega)) (cwV 2 hts gX6_empty_X6_pourCup rfl rfl rfl (by decide +kernel) ⟨Nat.le_of_ble_eq_true rfl, Nat.le_of_ble_eq_true rfl⟩) (x_preV hK hH hTt (hc_a) rfl [.ref tr, .ref fc]) rfl rfl hl.1 rfl (lv_room (Nat.le_of_ble_eq_true rfl)) dX6_empty_76 ⟨by show _ ≤ 96; omega, by show _ ≤ 9600; omega⟩) hH (fun w76 H locs hp hH => ?_)
            obtain ⟨ad2, E2, cp2, L2, bw2, lb2, hR2, hV2, hG2, hC2⟩ := hp
            have hC2 : capF (cupE t (3 * t + i) (I1, F1)).2 (nI (wd t)) (L2 1) + c4 cg (3 * t + i) = capF F1 (nI (wd t)) (L1 1) := by rw [← c4_0]; exact hC2
            refine lv_iinc (v := nI (i + 1)) (lv' := [(4, .int (nI (i + 1))), (0, .ref a), (1, .int (nI t)), (2, .ref tr), (3, .int (nI A9))]) hx hb dX6_empty_79 hl (k := 4) rfl (by exact nI_add _ 1) (by decide) rfl (fun ls hl => ?_)
            refine lv_goto (tgt := 46) hx hb dX6_empty_82 (by decide) ?_
            refine W.widen (k := 32 * (i + 1)) (n := 3200 * (i + 1)) (by omega) (by omega) ?_
            exact ih46 (i + 1) w76 ad2 E2 cp2 L2 bw2 lb2 ((cupE t (3 * t + i) (I1, F1)).1) ((cupE t (3 * t + i) (I1, F1)).2) (by omega) (by omega) (by show _ = cupE t (3 * t + i) (eSt t (I, F) i); rw [← hS]) (hR2) (hV2) (hG.trans hG2) (by omega) _ _ hH ls (lv_sub hl [1, 2, 3, 4, 0] rfl)
      · have c38 : ¬ ((L 1) + nb9) ≤ 200 := fun zz => c38 ((nI_leI (a := ((L 1) + nb9)) (b := 200) (by omega) (by omega)).mpr zz)
        refine lv_iconst (v := (-1)) hx hb dX6_empty_41 (by decide) ?_
        refine W.widen (k := 96) (n := 9600) (by omega) (by omega) ?_
        exact x_iret (v := (-1)) w hx hb hr hlocks hK hH (by rw [hsp, if_neg c38]; exact ⟨rfl, Nx.same hR hV ha hE (fun _ _ => rfl)⟩) dX6_empty_42
  · have hnt := hno
    refine lv_astore_nN (lv' := [(2, .null), (0, .ref a), (1, .int t0)]) hx hb dX6_empty_5 rfl hl (by decide) rfl (fun ls hl => ?_)
    refine lv_aload_nN hx hb dX6_empty_6 rfl (lv_at hl 0 rfl) ?_
    refine lv_ifnonnullN hx hb dX6_empty_7 ?_
    refine lv_iconst (v := (-1)) hx hb dX6_empty_10 (by decide) ?_
    refine W.widen (k := 96) (n := 9600) (by omega) (by omega) ?_
    exact x_iret (v := (-1)) w hx hb hr hlocks hK hH (by rw [sEmp_0 hI3 h60 hnt]; exact ⟨rfl, Nx.same hR hV ha hE (fun _ _ => rfl)⟩) dX6_empty_11
