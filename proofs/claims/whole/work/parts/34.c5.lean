
/-- a face's day: what runs, what the cup has, what ran over, its grades; then the rain -/
def edH (n has : Int32) : Int32 := if n ≤ 0 then has else has + minI n (400 - has)
def edO (n has ro : Int32) : Int32 := if n ≤ 0 then ro else ro + (n - minI n (400 - has))
def edF (n has : Int32) (gr : Nat) (f : Nat → Int32) : Nat → Int32 := if n ≤ 0 then f else upd f gr (f gr + minI n (400 - has))
def edR (n ran : Int32) : Int32 := if n ≤ 0 then ran else ran + n
def ewH (rain h : Int32) (f : Nat → Int32) : Int32 := if rain ≤ 0 then h else if h ≤ 0 then h else h - waS f rain
def ewF (rain h : Int32) (f : Nat → Int32) : Nat → Int32 := if rain ≤ 0 then f else if h ≤ 0 then f else wsf f rain 4
def ewW (rain h : Int32) (f : Nat → Int32) (wa : Int32) : Int32 := if rain ≤ 0 then wa else if h ≤ 0 then wa else wa + waS f rain

set_option maxHeartbeats 4000000 in
set_option maxRecDepth 100000 in
theorem c_X1_endDay (l : Launch) (G : XG) (A : Nat → Prop) (w : XW) (a ga tl : Nat) (st la oy has ro : Int32) (ran ov wa : Int32) (f : Nat → Int32) (hc_a : w a = some (.inr (2, [.int st, .int la, .int oy, .int has, .int ro, .ref ga]))) (hc_ga : w ga = some (.inl (G.2 0, 4, .inl f))) (hc_tl : w tl = some (.inr (4, [.int ran, .int ov, .int wa]))) (day warmth rain : Int32) (gr : Nat) (hgr : gradC oy day = nI gr) (hg4 : gr < 4) : Met l yX1_endDay wsX1_endDay ({ frames := 2, cells := 0, slots := 0, locals := 44 }) (va_Pc [.ref a, .int day, .int warmth, .int rain, .ref tl] (xP G A (w))) (va_Qv (fun (u : XW) => u a = some (.inr (2, [.int st, .int la, .int oy, .int (ewH rain (edH (warmth * strC (day - la)) has) (edF (warmth * strC (day - la)) has gr f)), .int (edO (warmth * strC (day - la)) has ro), .ref ga])) ∧ u ga = some (.inl (G.2 0, 4, .inl (ewF rain (edH (warmth * strC (day - la)) has) (edF (warmth * strC (day - la)) has gr f)))) ∧ u tl = some (.inr (4, [.int (edR (warmth * strC (day - la)) ran), .int (edO (warmth * strC (day - la)) has ov), .int (ewW rain (edH (warmth * strC (day - la)) has) (edF (warmth * strC (day - la)) has gr f) wa)])) ∧ ∀ y, y ≠ a → y ≠ ga → y ≠ tl → u y = w y) (fun u t => xB G A (u) t) A) 0 0 A := by
  refine Met.ofW (cc := cX1_endDay) (maxL := 6) (ret := none) (by decide) rfl ?_
  intro p e s m args below meth c s₁ B hml hv
  obtain ⟨rfl, hK, hH, hTt⟩ := hv
  have hx := B.exec
  have hb := B.bytes
  have hr := B.returns
  have hts := atoms_spec (ws := wsX1_endDay) B.pre
  have hown : s.vm.findClass RX1 = some m.cls := findClass_of_methodNamed B.named
  have hlocks := B.notSynchronized
  have hiX1 : ∀ w ∈ wsX10, w ∈ wsX1_endDay := by decide +kernel
  have hiX3 : ∀ w ∈ wsX30, w ∈ wsX1_endDay := by decide +kernel
  have hf21 := hts (.fieldLink RX1 21 "ResinWoods$Face" "has" "I") (by decide +kernel)
  have hf35 := hts (.fieldLink RX1 35 "ResinWoods$Tally" "ran" "I") (by decide +kernel)
  have hf40 := hts (.fieldLink RX1 40 "ResinWoods$Tally" "ranOver" "I") (by decide +kernel)
  have hf48 := hts (.fieldLink RX1 48 "ResinWoods$Tally" "washed" "I") (by decide +kernel)
  have hl := lv_entry ([.ref a, .int day, .int warmth, .int rain, .ref tl]) (n := 6) (Nat.le_of_ble_eq_true rfl)
  rw [lg_entry_eq]
  generalize (lg_sl ([.ref a, .int day, .int warmth, .int rain, .ref tl]) ++ List.replicate (6 - (lg_sl ([.ref a, .int day, .int warmth, .int rain, .ref tl])).length) Slot.unset).toArray = ls at hl ⊢
  have hl : lv_has ls 6 [(0, .ref a), (1, .int day), (2, .int warmth), (3, .int rain), (4, .ref tl)] := hl
  have ne_a_ga : a ≠ ga := fun e9 => by rw [e9, hc_ga] at hc_a; cases hc_a
  have ne_a_tl : a ≠ tl := fun e9 => by rw [e9, hc_tl] at hc_a; cases hc_a
  have ne_ga_a : ga ≠ a := fun e9 => by rw [e9, hc_a] at hc_ga; cases hc_ga
  have ne_ga_tl : ga ≠ tl := fun e9 => by rw [e9, hc_tl] at hc_ga; cases hc_ga
  have ne_tl_a : tl ≠ a := fun e9 => by rw [e9, hc_a] at hc_tl; cases hc_tl
  have ne_tl_ga : tl ≠ ga := fun e9 => by rw [e9, hc_ga] at hc_tl; cases hc_tl
  refine lv_iload_n hx hb dX1_endDay_0 rfl (lv_at hl 2 rfl) ?_
  refine lv_aload_n hx hb dX1_endDay_1 rfl (lv_at hl 0 rfl) ?_
  refine lv_iload_n hx hb dX1_endDay_2 rfl (lv_at hl 1 rfl) ?_
  refine x_calli (va_runV (As := [.int day]) (rest := [.int warmth]) ⟨hx, hb, hml, hown, hts⟩ (c_X1_strengthOn l G A _ a ga st la oy has ro hc_a day) (cwV 1 hts gX1_endDay_X1_strengthOn rfl rfl rfl (by decide +kernel) ⟨Nat.le_of_ble_eq_true rfl, Nat.le_of_ble_eq_true rfl⟩) (x_preV hK hH hTt (hc_a) rfl [.int day]) rfl rfl hl.1 rfl (lv_room (Nat.le_of_ble_eq_true rfl)) dX1_endDay_3 ⟨Nat.le_of_ble_eq_true rfl, Nat.le_of_ble_eq_true rfl⟩) hH (fun r3 u H locs hp hH => ?_)
  obtain ⟨rfl, hu9⟩ := hp
  rw [hu9] at hH
  refine lv_imul hx hb dX1_endDay_6 ?_
  refine lv_topi (fun v7 ev7 => ?_)
  refine lv_istore (lv' := [(5, .int v7), (0, .ref a), (1, .int day), (2, .int warmth), (3, .int rain), (4, .ref tl)]) hx hb dX1_endDay_7 hl (by decide) rfl (fun ls hl => ?_)
  refine lv_iload hx hb dX1_endDay_9 (lv_at hl 0 rfl) ?_
  refine lv_if_le (tgt := 47) hx hb dX1_endDay_11 (by decide) (fun c11 => ?_) (fun c11 => ?_)
  · refine lv_iload_n hx hb dX1_endDay_47 rfl (lv_at hl 4 rfl) ?_
    refine lv_if_le (tgt := 73) hx hb dX1_endDay_48 (by decide) (fun c48 => ?_) (fun c48 => ?_)
    · exact x_vret w hx hb hr hlocks hK hH (by have q1 : edH v7 has = _ := if_pos c11; have q2 : edO v7 has ro = _ := if_pos c11; have q3 : edF v7 has gr f = _ := if_pos c11; have q4 : edR v7 ran = _ := if_pos c11; have q5 : edO v7 has ov = _ := if_pos c11; rw [← ev7, q1, q2, q3, q4, q5]; unfold ewH ewF ewW; rw [if_pos c48, if_pos c48, if_pos c48]; exact ⟨hc_a, hc_ga, hc_tl, fun _ _ _ _ => rfl⟩) dX1_endDay_73
    · refine lv_aload_n hx hb dX1_endDay_51 rfl (lv_at hl 1 rfl) ?_
      refine x_get (C := RX1) (T := TX1) (N := 6) hx hb hts hiX1 hown hK hH hc_a rfl 3 (by decide) hf21 (fun _ h => h) (v := .int has) rfl dX1_endDay_52 ?_
      refine lv_if_le (tgt := 73) hx hb dX1_endDay_55 (by decide) (fun c55 => ?_) (fun c55 => ?_)
      · exact x_vret w hx hb hr hlocks hK hH (by have q1 : edH v7 has = _ := if_pos c11; have q2 : edO v7 has ro = _ := if_pos c11; have q3 : edF v7 has gr f = _ := if_pos c11; have q4 : edR v7 ran = _ := if_pos c11; have q5 : edO v7 has ov = _ := if_pos c11; rw [← ev7, q1, q2, q3, q4, q5]; unfold ewH ewF ewW; rw [if_neg c48, if_pos c55, if_neg c48, if_pos c55, if_neg c48, if_pos c55]; exact ⟨hc_a, hc_ga, hc_tl, fun _ _ _ _ => rfl⟩) dX1_endDay_73
      · refine lv_aload hx hb dX1_endDay_58 (lv_at hl 5 rfl) ?_
        refine lv_dup hx hb dX1_endDay_60 rfl ?_
        refine x_get (C := RX3) (T := TX3) (N := 3) hx hb hts hiX3 hown hK hH hc_tl rfl 2 (by decide) hf48 (fun _ h => h) (v := .int wa) rfl dX1_endDay_61 ?_
        refine lv_aload_n hx hb dX1_endDay_64 rfl (lv_at hl 1 rfl) ?_
        refine lv_iload_n hx hb dX1_endDay_65 rfl (lv_at hl 4 rfl) ?_
        refine x_calli (va_runV (As := [.int rain]) (rest := [.int wa, .ref tl]) ⟨hx, hb, hml, hown, hts⟩ (c_X1_washBy l G A _ a ga st la oy has ro f hc_a hc_ga rain) (cwV 1 hts gX1_endDay_X1_washBy rfl rfl rfl (by decide +kernel) ⟨Nat.le_of_ble_eq_true rfl, Nat.le_of_ble_eq_true rfl⟩) (x_preV hK hH hTt (hc_a) rfl [.int rain]) rfl rfl hl.1 rfl (lv_room (Nat.le_of_ble_eq_true rfl)) dX1_endDay_66 ⟨Nat.le_of_ble_eq_true rfl, Nat.le_of_ble_eq_true rfl⟩) hH (fun r66 w66 H locs hp hH => ?_)
        obtain ⟨hr1066, hc_a, hc_ga, hfm66⟩ := hp
        subst hr1066
        have hc_tl : w66 tl = some (.inr (4, [.int ran, .int ov, .int wa])) := by rw [hfm66 tl ne_tl_a ne_tl_ga]; exact hc_tl
        have hfr : ∀ x, x ≠ a → x ≠ ga → x ≠ tl → w66 x = w x := fun x z_a z_ga z_tl => by rw [hfm66 x z_a z_ga]
        refine lv_iadd hx hb dX1_endDay_69 ?_
        refine x_put (C := RX3) (T := TX3) (N := 3) (ty := .int) hx hb hts hiX3 tyX3 tyX3_ok nmX3 hown hK hH hc_tl rfl 2 (by decide) hf48 (fun _ h => h) rfl (by decide +kernel) rfl rfl (Nat.le_of_ble_eq_true rfl) dX1_endDay_70 (fun H locs hH => ?_)
        have hH : xH G A s.heap H locs (va_up w66 tl (some (.inr (4, [.int ran, .int ov, .int (wa + (waS f rain))])))) := hH
        obtain ⟨w70, ew70⟩ : ∃ z, z = va_up w66 tl (some (.inr (4, [.int ran, .int ov, .int (wa + (waS f rain))]))) := ⟨_, rfl⟩
        rw [← ew70] at hH
        have hc_a : w70 a = some (.inr (2, [.int st, .int la, .int oy, .int (has - waS f rain), .int ro, .ref ga])) := by rw [ew70, show va_up w66 tl _ a = w66 a from if_neg ne_a_tl]; exact hc_a
        have hc_ga : w70 ga = some (.inl (G.2 0, 4, .inl (wsf f rain 4))) := by rw [ew70, show va_up w66 tl _ ga = w66 ga from if_neg ne_ga_tl]; exact hc_ga
        have hc_tl : w70 tl = some (.inr (4, [.int ran, .int ov, .int (wa + (waS f rain))])) := by rw [ew70]; exact if_pos rfl
        have hfr : ∀ x, x ≠ a → x ≠ ga → x ≠ tl → w70 x = w x := fun x z_a z_ga z_tl => by rw [ew70]; exact (if_neg z_tl).trans (hfr x z_a z_ga z_tl)
        exact x_vret w70 hx hb hr hlocks hK hH (by have q1 : edH v7 has = _ := if_pos c11; have q2 : edO v7 has ro = _ := if_pos c11; have q3 : edF v7 has gr f = _ := if_pos c11; have q4 : edR v7 ran = _ := if_pos c11; have q5 : edO v7 has ov = _ := if_pos c11; rw [← ev7, q1, q2, q3, q4, q5]; unfold ewH ewF ewW; rw [if_neg c48, if_neg c55, if_neg c48, if_neg c55, if_neg c48, if_neg c55]; exact ⟨hc_a, hc_ga, hc_tl, hfr⟩) dX1_endDay_73
  · refine lv_aload hx hb dX1_endDay_14 (lv_at hl 5 rfl) ?_
    refine lv_dup hx hb dX1_endDay_16 rfl ?_
    refine x_get (C := RX3) (T := TX3) (N := 3) hx hb hts hiX3 hown hK hH hc_tl rfl 0 (by decide) hf35 (fun _ h => h) (v := .int ran) rfl dX1_endDay_17 ?_
    refine lv_iload hx hb dX1_endDay_20 (lv_at hl 0 rfl) ?_
    refine lv_iadd hx hb dX1_endDay_22 ?_
    refine x_put (C := RX3) (T := TX3) (N := 3) (ty := .int) hx hb hts hiX3 tyX3 tyX3_ok nmX3 hown hK hH hc_tl rfl 0 (by decide) hf35 (fun _ h => h) rfl (by decide +kernel) rfl rfl (Nat.le_of_ble_eq_true rfl) dX1_endDay_23 (fun H locs hH => ?_)
    have hH : xH G A s.heap H locs (va_up w tl (some (.inr (4, [.int (ran + v7), .int ov, .int wa])))) := hH
    obtain ⟨w23, ew23⟩ : ∃ z, z = va_up w tl (some (.inr (4, [.int (ran + v7), .int ov, .int wa]))) := ⟨_, rfl⟩
    rw [← ew23] at hH
    have hc_a : w23 a = some (.inr (2, [.int st, .int la, .int oy, .int has, .int ro, .ref ga])) := by rw [ew23, show va_up w tl _ a = w a from if_neg ne_a_tl]; exact hc_a
    have hc_ga : w23 ga = some (.inl (G.2 0, 4, .inl f)) := by rw [ew23, show va_up w tl _ ga = w ga from if_neg ne_ga_tl]; exact hc_ga
    have hc_tl : w23 tl = some (.inr (4, [.int (ran + v7), .int ov, .int wa])) := by rw [ew23]; exact if_pos rfl
    have hfr : ∀ x, x ≠ a → x ≠ ga → x ≠ tl → w23 x = w x := fun x z_a z_ga z_tl => by rw [ew23]; exact if_neg z_tl
    refine lv_aload hx hb dX1_endDay_26 (lv_at hl 5 rfl) ?_
    refine lv_dup hx hb dX1_endDay_28 rfl ?_
    refine x_get (C := RX3) (T := TX3) (N := 3) hx hb hts hiX3 hown hK hH hc_tl rfl 1 (by decide) hf40 (fun _ h => h) (v := .int ov) rfl dX1_endDay_29 ?_
    refine lv_aload_n hx hb dX1_endDay_32 rfl (lv_at hl 1 rfl) ?_
    refine lv_iload hx hb dX1_endDay_33 (lv_at hl 0 rfl) ?_
    refine lv_aload_n hx hb dX1_endDay_35 rfl (lv_at hl 1 rfl) ?_
    refine lv_iload_n hx hb dX1_endDay_36 rfl (lv_at hl 2 rfl) ?_
    refine x_calli (va_runV (As := [.int day]) (rest := [.int v7, .ref a, .int ov, .ref tl]) ⟨hx, hb, hml, hown, hts⟩ (c_X1_gradeOn l G A _ a ga st la oy has ro hc_a day) (cwV 1 hts gX1_endDay_X1_gradeOn rfl rfl rfl (by decide +kernel) ⟨Nat.le_of_ble_eq_true rfl, Nat.le_of_ble_eq_true rfl⟩) (x_preV hK hH hTt (hc_a) rfl [.int day]) rfl rfl hl.1 rfl (lv_room (Nat.le_of_ble_eq_true rfl)) dX1_endDay_37 ⟨Nat.le_of_ble_eq_true rfl, Nat.le_of_ble_eq_true rfl⟩) hH (fun r37 u H locs hp hH => ?_)
    obtain ⟨rfl, hu9⟩ := hp
    rw [hu9] at hH
    refine lv_topi (fun w37 ew37 => ?_)
    rw [hgr] at ew37
    subst ew37
    refine x_calli (va_runV (As := [.int v7, .int (nI gr)]) (rest := [.int ov, .ref tl]) ⟨hx, hb, hml, hown, hts⟩ (c_X1_catchInCup l G A _ a ga st la oy has ro f hc_a hc_ga v7 gr hg4) (cwV 2 hts gX1_endDay_X1_catchInCup rfl rfl rfl (by decide +kernel) ⟨Nat.le_of_ble_eq_true rfl, Nat.le_of_ble_eq_true rfl⟩) (x_preV hK hH hTt (hc_a) rfl [.int v7, .int (nI gr)]) rfl rfl hl.1 rfl (lv_room (Nat.le_of_ble_eq_true rfl)) dX1_endDay_40 ⟨Nat.le_of_ble_eq_true rfl, Nat.le_of_ble_eq_true rfl⟩) hH (fun r40 w40 H locs hp hH => ?_)
    obtain ⟨hr1040, hc_a, hc_ga, hfm40⟩ := hp
    subst hr1040
    have hc_tl : w40 tl = some (.inr (4, [.int (ran + v7), .int ov, .int wa])) := by rw [hfm40 tl ne_tl_a ne_tl_ga]; exact hc_tl
    have hfr : ∀ x, x ≠ a → x ≠ ga → x ≠ tl → w40 x = w x := fun x z_a z_ga z_tl => by rw [hfm40 x z_a z_ga]; exact hfr x z_a z_ga z_tl
    refine lv_iadd hx hb dX1_endDay_43 ?_
    refine x_put (C := RX3) (T := TX3) (N := 3) (ty := .int) hx hb hts hiX3 tyX3 tyX3_ok nmX3 hown hK hH hc_tl rfl 1 (by decide) hf40 (fun _ h => h) rfl (by decide +kernel) rfl rfl (Nat.le_of_ble_eq_true rfl) dX1_endDay_44 (fun H locs hH => ?_)
    have hH : xH G A s.heap H locs (va_up w40 tl (some (.inr (4, [.int (ran + v7), .int (ov + (v7 - minI v7 (400 - has))), .int wa])))) := hH
    obtain ⟨w44, ew44⟩ : ∃ z, z = va_up w40 tl (some (.inr (4, [.int (ran + v7), .int (ov + (v7 - minI v7 (400 - has))), .int wa]))) := ⟨_, rfl⟩
    rw [← ew44] at hH
    have hc_a : w44 a = some (.inr (2, [.int st, .int la, .int oy, .int (has + minI v7 (400 - has)), .int (ro + (v7 - minI v7 (400 - has))), .ref ga])) := by rw [ew44, show va_up w40 tl _ a = w40 a from if_neg ne_a_tl]; exact hc_a
    have hc_ga : w44 ga = some (.inl (G.2 0, 4, .inl (upd f gr (f gr + minI v7 (400 - has))))) := by rw [ew44, show va_up w40 tl _ ga = w40 ga from if_neg ne_ga_tl]; exact hc_ga
    have hc_tl : w44 tl = some (.inr (4, [.int (ran + v7), .int (ov + (v7 - minI v7 (400 - has))), .int wa])) := by rw [ew44]; exact if_pos rfl
    have hfr : ∀ x, x ≠ a → x ≠ ga → x ≠ tl → w44 x = w x := fun x z_a z_ga z_tl => by rw [ew44]; exact (if_neg z_tl).trans (hfr x z_a z_ga z_tl)
    refine lv_iload_n hx hb dX1_endDay_47 rfl (lv_at hl 4 rfl) ?_
    refine lv_if_le (tgt := 73) hx hb dX1_endDay_48 (by decide) (fun c48 => ?_) (fun c48 => ?_)
    · exact x_vret w44 hx hb hr hlocks hK hH (by have q1 : edH v7 has = _ := if_neg c11; have q2 : edO v7 has ro = _ := if_neg c11; have q3 : edF v7 has gr f = _ := if_neg c11; have q4 : edR v7 ran = _ := if_neg c11; have q5 : edO v7 has ov = _ := if_neg c11; rw [← ev7, q1, q2, q3, q4, q5]; unfold ewH ewF ewW; rw [if_pos c48, if_pos c48, if_pos c48]; exact ⟨hc_a, hc_ga, hc_tl, hfr⟩) dX1_endDay_73
    · refine lv_aload_n hx hb dX1_endDay_51 rfl (lv_at hl 1 rfl) ?_
      refine x_get (C := RX1) (T := TX1) (N := 6) hx hb hts hiX1 hown hK hH hc_a rfl 3 (by decide) hf21 (fun _ h => h) (v := .int (has + minI v7 (400 - has))) rfl dX1_endDay_52 ?_
      refine lv_if_le (tgt := 73) hx hb dX1_endDay_55 (by decide) (fun c55 => ?_) (fun c55 => ?_)
      · exact x_vret w44 hx hb hr hlocks hK hH (by have q1 : edH v7 has = _ := if_neg c11; have q2 : edO v7 has ro = _ := if_neg c11; have q3 : edF v7 has gr f = _ := if_neg c11; have q4 : edR v7 ran = _ := if_neg c11; have q5 : edO v7 has ov = _ := if_neg c11; rw [← ev7, q1, q2, q3, q4, q5]; unfold ewH ewF ewW; rw [if_neg c48, if_pos c55, if_neg c48, if_pos c55, if_neg c48, if_pos c55]; exact ⟨hc_a, hc_ga, hc_tl, hfr⟩) dX1_endDay_73
      · refine lv_aload hx hb dX1_endDay_58 (lv_at hl 5 rfl) ?_
        refine lv_dup hx hb dX1_endDay_60 rfl ?_
        refine x_get (C := RX3) (T := TX3) (N := 3) hx hb hts hiX3 hown hK hH hc_tl rfl 2 (by decide) hf48 (fun _ h => h) (v := .int wa) rfl dX1_endDay_61 ?_
        refine lv_aload_n hx hb dX1_endDay_64 rfl (lv_at hl 1 rfl) ?_
        refine lv_iload_n hx hb dX1_endDay_65 rfl (lv_at hl 4 rfl) ?_
        refine x_calli (va_runV (As := [.int rain]) (rest := [.int wa, .ref tl]) ⟨hx, hb, hml, hown, hts⟩ (c_X1_washBy l G A _ a ga st la oy (has + minI v7 (400 - has)) (ro + (v7 - minI v7 (400 - has))) (upd f gr (f gr + minI v7 (400 - has))) hc_a hc_ga rain) (cwV 1 hts gX1_endDay_X1_washBy rfl rfl rfl (by decide +kernel) ⟨Nat.le_of_ble_eq_true rfl, Nat.le_of_ble_eq_true rfl⟩) (x_preV hK hH hTt (hc_a) rfl [.int rain]) rfl rfl hl.1 rfl (lv_room (Nat.le_of_ble_eq_true rfl)) dX1_endDay_66 ⟨Nat.le_of_ble_eq_true rfl, Nat.le_of_ble_eq_true rfl⟩) hH (fun r66 w66 H locs hp hH => ?_)
        obtain ⟨hr1066, hc_a, hc_ga, hfm66⟩ := hp
        subst hr1066
        have hc_tl : w66 tl = some (.inr (4, [.int (ran + v7), .int (ov + (v7 - minI v7 (400 - has))), .int wa])) := by rw [hfm66 tl ne_tl_a ne_tl_ga]; exact hc_tl
        have hfr : ∀ x, x ≠ a → x ≠ ga → x ≠ tl → w66 x = w x := fun x z_a z_ga z_tl => by rw [hfm66 x z_a z_ga]; exact hfr x z_a z_ga z_tl
        refine lv_iadd hx hb dX1_endDay_69 ?_
        refine x_put (C := RX3) (T := TX3) (N := 3) (ty := .int) hx hb hts hiX3 tyX3 tyX3_ok nmX3 hown hK hH hc_tl rfl 2 (by decide) hf48 (fun _ h => h) rfl (by decide +kernel) rfl rfl (Nat.le_of_ble_eq_true rfl) dX1_endDay_70 (fun H locs hH => ?_)
        have hH : xH G A s.heap H locs (va_up w66 tl (some (.inr (4, [.int (ran + v7), .int (ov + (v7 - minI v7 (400 - has))), .int (wa + (waS (upd f gr (f gr + minI v7 (400 - has))) rain))])))) := hH
        obtain ⟨w70, ew70⟩ : ∃ z, z = va_up w66 tl (some (.inr (4, [.int (ran + v7), .int (ov + (v7 - minI v7 (400 - has))), .int (wa + (waS (upd f gr (f gr + minI v7 (400 - has))) rain))]))) := ⟨_, rfl⟩
        rw [← ew70] at hH
        have hc_a : w70 a = some (.inr (2, [.int st, .int la, .int oy, .int ((has + minI v7 (400 - has)) - waS (upd f gr (f gr + minI v7 (400 - has))) rain), .int (ro + (v7 - minI v7 (400 - has))), .ref ga])) := by rw [ew70, show va_up w66 tl _ a = w66 a from if_neg ne_a_tl]; exact hc_a
        have hc_ga : w70 ga = some (.inl (G.2 0, 4, .inl (wsf (upd f gr (f gr + minI v7 (400 - has))) rain 4))) := by rw [ew70, show va_up w66 tl _ ga = w66 ga from if_neg ne_ga_tl]; exact hc_ga
        have hc_tl : w70 tl = some (.inr (4, [.int (ran + v7), .int (ov + (v7 - minI v7 (400 - has))), .int (wa + (waS (upd f gr (f gr + minI v7 (400 - has))) rain))])) := by rw [ew70]; exact if_pos rfl
        have hfr : ∀ x, x ≠ a → x ≠ ga → x ≠ tl → w70 x = w x := fun x z_a z_ga z_tl => by rw [ew70]; exact (if_neg z_tl).trans (hfr x z_a z_ga z_tl)
        exact x_vret w70 hx hb hr hlocks hK hH (by have q1 : edH v7 has = _ := if_neg c11; have q2 : edO v7 has ro = _ := if_neg c11; have q3 : edF v7 has gr f = _ := if_neg c11; have q4 : edR v7 ran = _ := if_neg c11; have q5 : edO v7 has ov = _ := if_neg c11; rw [← ev7, q1, q2, q3, q4, q5]; unfold ewH ewF ewW; rw [if_neg c48, if_neg c55, if_neg c48, if_neg c55, if_neg c48, if_neg c55]; exact ⟨hc_a, hc_ga, hc_tl, hfr⟩) dX1_endDay_73
