set_option maxHeartbeats 4000000 in
set_option maxRecDepth 100000 in
theorem c_X4_streakOn (l : Launch) (G : XG) (A : Nat → Prop) (w : XW) (a o : Nat) (wd fl ga : Nat) (nr wh bo bu yc st la oy has ro : Int32) (hc_a : w a = some (.inr (5, [.int nr, .ref wd, .int wh, .int bo, .ref fl, .int bu, .int yc]))) (hc_o : w o = some (.inr (2, [.int st, .int la, .int oy, .int has, .int ro, .ref ga]))) (d : Int32) : Met l yX4_streakOn wsX4_streakOn ({ frames := 1, cells := 0, slots := 0, locals := 20 }) (va_Pc [.ref a, .ref o, .int d] (xP G A (w))) (va_Qi (fun (r : Int32) (u : XW) => r = st + 1 ∧ u a = some (.inr (5, [.int nr, .ref wd, .int wh, .int bo, .ref fl, .int bu, .int (yc ||| 1 <<< (d / 365 &&& 31))])) ∧ u o = some (.inr (2, [.int (st + 1), .int d, .int oy, .int has, .int ro, .ref ga])) ∧ ∀ y, y ≠ a → y ≠ o → u y = w y) (fun u t => xB G A (u) t) A) 0 0 A := by
  refine Met.ofW (cc := cX4_streakOn) (maxL := 3) (ret := (some .int)) (by decide) rfl ?_
  intro p e s m args below meth c s₁ B hml hv
  obtain ⟨rfl, hK, hH, hTt⟩ := hv
  have hx := B.exec
  have hb := B.bytes
  have hr := B.returns
  have hts := atoms_spec (ws := wsX4_streakOn) B.pre
  have hown : s.vm.findClass RX4 = some m.cls := findClass_of_methodNamed B.named
  have hlocks := B.notSynchronized
  have hiX1 : ∀ w ∈ wsX10, w ∈ wsX4_streakOn := by decide +kernel
  have hiX4 : ∀ w ∈ wsX40, w ∈ wsX4_streakOn := by decide +kernel
  have hf22 := hts (.fieldLink RX4 22 "ResinWoods$Tree" "yearsCut" "I") (by decide +kernel)
  have hf63 := hts (.fieldLink RX4 63 "ResinWoods$Face" "streaks" "I") (by decide +kernel)
  have hf66 := hts (.fieldLink RX4 66 "ResinWoods$Face" "latest" "I") (by decide +kernel)
  have hl := lv_entry ([.ref a, .ref o, .int d]) (n := 3) (Nat.le_of_ble_eq_true rfl)
  rw [lg_entry_eq]
  generalize (lg_sl ([.ref a, .ref o, .int d]) ++ List.replicate (3 - (lg_sl ([.ref a, .ref o, .int d])).length) Slot.unset).toArray = ls at hl ⊢
  have hl : lv_has ls 3 [(0, .ref a), (1, .ref o), (2, .int d)] := hl
  have ne_a_o : a ≠ o := fun e9 => by rw [e9, hc_o] at hc_a; cases hc_a
  have ne_o_a : o ≠ a := fun e9 => by rw [e9, hc_a] at hc_o; cases hc_o
  refine lv_aload_n hx hb dX4_streakOn_0 rfl (lv_at hl 1 rfl) ?_
  refine lv_dup hx hb dX4_streakOn_1 rfl ?_
  refine x_get (C := RX1) (T := TX1) (N := 6) hx hb hts hiX1 hown hK hH hc_o rfl 0 (by decide) hf63 (fun _ h => h) (v := .int st) rfl dX4_streakOn_2 ?_
  refine lv_iconst (v := 1) hx hb dX4_streakOn_5 (by decide) ?_
  refine lv_iadd hx hb dX4_streakOn_6 ?_
  refine x_put (C := RX1) (T := TX1) (N := 6) (ty := .int) hx hb hts hiX1 tyX1 tyX1_ok nmX1 hown hK hH hc_o rfl 0 (by decide) hf63 (fun _ h => h) rfl (by decide +kernel) rfl rfl (Nat.le_of_ble_eq_true rfl) dX4_streakOn_7 (fun H locs hH => ?_)
  have hH : xH G A s.heap H locs (va_up w o (some (.inr (2, [.int (st + 1), .int la, .int oy, .int has, .int ro, .ref ga])))) := hH
  obtain ⟨w7, ew7⟩ : ∃ z, z = va_up w o (some (.inr (2, [.int (st + 1), .int la, .int oy, .int has, .int ro, .ref ga]))) := ⟨_, rfl⟩
  rw [← ew7] at hH
  have hc_a : w7 a = some (.inr (5, [.int nr, .ref wd, .int wh, .int bo, .ref fl, .int bu, .int yc])) := by rw [ew7, show va_up w o _ a = w a from if_neg ne_a_o]; exact hc_a
  have hc_o : w7 o = some (.inr (2, [.int (st + 1), .int la, .int oy, .int has, .int ro, .ref ga])) := by rw [ew7]; exact if_pos rfl
  have hfr : ∀ x, x ≠ a → x ≠ o → w7 x = w x := fun x z_a z_o => by rw [ew7]; exact if_neg z_o
  refine lv_aload_n hx hb dX4_streakOn_10 rfl (lv_at hl 1 rfl) ?_
  refine lv_iload_n hx hb dX4_streakOn_11 rfl (lv_at hl 2 rfl) ?_
  refine x_put (C := RX1) (T := TX1) (N := 6) (ty := .int) hx hb hts hiX1 tyX1 tyX1_ok nmX1 hown hK hH hc_o rfl 1 (by decide) hf66 (fun _ h => h) rfl (by decide +kernel) rfl rfl (Nat.le_of_ble_eq_true rfl) dX4_streakOn_12 (fun H locs hH => ?_)
  have hH : xH G A s.heap H locs (va_up w7 o (some (.inr (2, [.int (st + 1), .int d, .int oy, .int has, .int ro, .ref ga])))) := hH
  obtain ⟨w12, ew12⟩ : ∃ z, z = va_up w7 o (some (.inr (2, [.int (st + 1), .int d, .int oy, .int has, .int ro, .ref ga]))) := ⟨_, rfl⟩
  rw [← ew12] at hH
  have hc_a : w12 a = some (.inr (5, [.int nr, .ref wd, .int wh, .int bo, .ref fl, .int bu, .int yc])) := by rw [ew12, show va_up w7 o _ a = w7 a from if_neg ne_a_o]; exact hc_a
  have hc_o : w12 o = some (.inr (2, [.int (st + 1), .int d, .int oy, .int has, .int ro, .ref ga])) := by rw [ew12]; exact if_pos rfl
  have hfr : ∀ x, x ≠ a → x ≠ o → w12 x = w x := fun x z_a z_o => by rw [ew12]; exact (if_neg z_o).trans (hfr x z_a z_o)
  refine lv_aload_n hx hb dX4_streakOn_15 rfl (lv_at hl 0 rfl) ?_
  refine lv_dup hx hb dX4_streakOn_16 rfl ?_
  refine x_get (C := RX4) (T := TX4) (N := 7) hx hb hts hiX4 hown hK hH hc_a rfl 6 (by decide) hf22 (fun _ h => h) (v := .int yc) rfl dX4_streakOn_17 ?_
  refine lv_iconst (v := 1) hx hb dX4_streakOn_20 (by decide) ?_
  refine lv_iload_n hx hb dX4_streakOn_21 rfl (lv_at hl 2 rfl) ?_
  refine x_calli (va_runSN (As := [.int d]) (rest := [.int 1, .int yc, .ref a]) ⟨hx, hb, hml, hown, hts⟩ (c_X6_yearOf l G A (w12) d) ⟨va_cnB (host := RX6) 1 hts ggX4_streakOn_X6_yearOf rfl rfl rfl hTt.2.1.2.2.2.2.2.2.2.2.2 (hts (.initialized RX6) (by decide +kernel)) (by decide +kernel) ⟨Nat.le_of_ble_eq_true rfl, Nat.le_of_ble_eq_true rfl⟩, hts (.static yX6_yearOf) (by decide +kernel), trivial⟩ (x_preS hK hH hTt [.int d]) rfl rfl hl.1 rfl (lv_room (Nat.le_of_ble_eq_true rfl)) dX4_streakOn_22 ⟨Nat.le_of_ble_eq_true rfl, Nat.le_of_ble_eq_true rfl⟩) hH (fun r22 u H locs hp hH => ?_)
  subst hp
  refine lv_ishl hx hb dX4_streakOn_25 ?_
  refine lv_ior hx hb dX4_streakOn_26 ?_
  refine x_put (C := RX4) (T := TX4) (N := 7) (ty := .int) hx hb hts hiX4 tyX4 tyX4_ok nmX4 hown hK hH hc_a rfl 6 (by decide) hf22 (fun _ h => h) rfl (by decide +kernel) rfl rfl (Nat.le_of_ble_eq_true rfl) dX4_streakOn_27 (fun H locs hH => ?_)
  have hH : xH G A s.heap H locs (va_up w12 a (some (.inr (5, [.int nr, .ref wd, .int wh, .int bo, .ref fl, .int bu, .int (yc ||| (1 <<< ((d / 365) &&& 31)))])))) := hH
  obtain ⟨w27, ew27⟩ : ∃ z, z = va_up w12 a (some (.inr (5, [.int nr, .ref wd, .int wh, .int bo, .ref fl, .int bu, .int (yc ||| (1 <<< ((d / 365) &&& 31)))]))) := ⟨_, rfl⟩
  rw [← ew27] at hH
  have hc_a : w27 a = some (.inr (5, [.int nr, .ref wd, .int wh, .int bo, .ref fl, .int bu, .int (yc ||| (1 <<< ((d / 365) &&& 31)))])) := by rw [ew27]; exact if_pos rfl
  have hc_o : w27 o = some (.inr (2, [.int (st + 1), .int d, .int oy, .int has, .int ro, .ref ga])) := by rw [ew27, show va_up w12 a _ o = w12 o from if_neg ne_o_a]; exact hc_o
  have hfr : ∀ x, x ≠ a → x ≠ o → w27 x = w x := fun x z_a z_o => by rw [ew27]; exact (if_neg z_a).trans (hfr x z_a z_o)
  refine lv_aload_n hx hb dX4_streakOn_30 rfl (lv_at hl 1 rfl) ?_
  refine x_get (C := RX1) (T := TX1) (N := 6) hx hb hts hiX1 hown hK hH hc_o rfl 0 (by decide) hf63 (fun _ h => h) (v := .int (st + 1)) rfl dX4_streakOn_31 ?_
  exact x_iret (v := st + 1) w27 hx hb hr hlocks hK hH (⟨rfl, hc_a, hc_o, hfr⟩) dX4_streakOn_34

set_option maxHeartbeats 4000000 in
set_option maxRecDepth 100000 in
theorem c0_X5_openBarrel (l : Launch) (G : XG) (A : Nat → Prop) (w : XW) (a : Nat) (nr lt rn em pa : Int32) (hc_a : w a = some (.inr (6, [.int nr, .int lt, .int rn, .int em, .int pa, .null])))  : Met l yX5_openBarrel wsX5_openBarrel ({ frames := 2, cells := 0, slots := 0, locals := 64 }) (va_Pc [.ref a] (xP G A (w))) (va_Qq (fun (r : Option Nat) (u : XW) => r = none ∧ u = w) (fun u t => xB G A (u) t) A) 0 0 A := by
  refine Met.ofW (cc := cX5_openBarrel) (maxL := 1) (ret := (some (.object "ResinWoods$Barrel"))) (by decide) rfl ?_
  intro p e s m args below meth c s₁ B hml hv
  obtain ⟨rfl, hK, hH, hTt⟩ := hv
  have hx := B.exec
  have hb := B.bytes
  have hr := B.returns
  have hts := atoms_spec (ws := wsX5_openBarrel) B.pre
  have hown : s.vm.findClass RX5 = some m.cls := findClass_of_methodNamed B.named
  have hlocks := B.notSynchronized
  have hiX5 : ∀ w ∈ wsX50, w ∈ wsX5_openBarrel := by decide +kernel
  have hf23 := hts (.fieldLink RX5 23 "ResinWoods$Wood" "latest" "LResinWoods$Barrel;") (by decide +kernel)
  have hl := lv_entry ([.ref a]) (n := 1) (Nat.le_of_ble_eq_true rfl)
  rw [lg_entry_eq]
  generalize (lg_sl ([.ref a]) ++ List.replicate (1 - (lg_sl ([.ref a])).length) Slot.unset).toArray = ls at hl ⊢
  have hl : lv_has ls 1 [(0, .ref a)] := hl
  refine lv_aload_n hx hb dX5_openBarrel_0 rfl (lv_at hl 0 rfl) ?_
  refine x_get (C := RX5) (T := TX5) (N := 6) hx hb hts hiX5 hown hK hH hc_a rfl 5 (by decide) hf23 (fun _ h => h) (v := .null) rfl dX5_openBarrel_1 ?_
  refine lv_ifnullN (tgt := 17) hx hb dX5_openBarrel_4 (by decide) ?_
  refine lv_null hx hb dX5_openBarrel_17 ?_
  refine lv_goto (tgt := 25) hx hb dX5_openBarrel_18 (by decide) ?_
  exact x_aret (r := none) w hx hb hr hlocks (Or.inl ⟨_, rfl⟩) hK hH (⟨rfl, rfl⟩) dX5_openBarrel_25

set_option maxHeartbeats 4000000 in
set_option maxRecDepth 100000 in
theorem c1_X5_openBarrel (l : Launch) (G : XG) (A : Nat → Prop) (w : XW) (a q : Nat) (bw ga ta : Nat) (nr lt rn em pa has stl pd : Int32) (hc_a : w a = some (.inr (6, [.int nr, .int lt, .int rn, .int em, .int pa, .ref q]))) (hc_q : w q = some (.inr (1, [.ref bw, .int has, .ref ga, .ref ta, .int stl, .int pd])))  : Met l yX5_openBarrel wsX5_openBarrel ({ frames := 2, cells := 0, slots := 0, locals := 64 }) (va_Pc [.ref a] (xP G A (w))) (va_Qq (fun (r : Option Nat) (u : XW) => r = (if fullB has stl pd = 0 then some q else none) ∧ u = w) (fun u t => xB G A (u) t) A) 0 0 A := by
  refine Met.ofW (cc := cX5_openBarrel) (maxL := 1) (ret := (some (.object "ResinWoods$Barrel"))) (by decide) rfl ?_
  intro p e s m args below meth c s₁ B hml hv
  obtain ⟨rfl, hK, hH, hTt⟩ := hv
  have hx := B.exec
  have hb := B.bytes
  have hr := B.returns
  have hts := atoms_spec (ws := wsX5_openBarrel) B.pre
  have hown : s.vm.findClass RX5 = some m.cls := findClass_of_methodNamed B.named
  have hlocks := B.notSynchronized
  have hiX5 : ∀ w ∈ wsX50, w ∈ wsX5_openBarrel := by decide +kernel
  have hf23 := hts (.fieldLink RX5 23 "ResinWoods$Wood" "latest" "LResinWoods$Barrel;") (by decide +kernel)
  have hl := lv_entry ([.ref a]) (n := 1) (Nat.le_of_ble_eq_true rfl)
  rw [lg_entry_eq]
  generalize (lg_sl ([.ref a]) ++ List.replicate (1 - (lg_sl ([.ref a])).length) Slot.unset).toArray = ls at hl ⊢
  have hl : lv_has ls 1 [(0, .ref a)] := hl
  have ne_a_q : a ≠ q := fun e9 => by rw [e9, hc_q] at hc_a; cases hc_a
  have ne_q_a : q ≠ a := fun e9 => by rw [e9, hc_a] at hc_q; cases hc_q
  refine lv_aload_n hx hb dX5_openBarrel_0 rfl (lv_at hl 0 rfl) ?_
  refine x_get (C := RX5) (T := TX5) (N := 6) hx hb hts hiX5 hown hK hH hc_a rfl 5 (by decide) hf23 (fun _ h => h) (v := .ref q) rfl dX5_openBarrel_1 ?_
  refine lv_ifnull hx hb dX5_openBarrel_4 ?_
  refine lv_aload_n hx hb dX5_openBarrel_7 rfl (lv_at hl 0 rfl) ?_
  refine x_get (C := RX5) (T := TX5) (N := 6) hx hb hts hiX5 hown hK hH hc_a rfl 5 (by decide) hf23 (fun _ h => h) (v := .ref q) rfl dX5_openBarrel_8 ?_
  refine x_calli (va_runV (As := []) (rest := []) ⟨hx, hb, hml, hown, hts⟩ (c_X0_isFull l G A _ q bw ga ta has stl pd hc_q) (cwV 0 hts gX5_openBarrel_X0_isFull rfl rfl rfl (by decide +kernel) ⟨Nat.le_of_ble_eq_true rfl, Nat.le_of_ble_eq_true rfl⟩) (x_preV hK hH hTt (hc_q) rfl []) rfl rfl hl.1 rfl (lv_room (Nat.le_of_ble_eq_true rfl)) dX5_openBarrel_11 ⟨Nat.le_of_ble_eq_true rfl, Nat.le_of_ble_eq_true rfl⟩) hH (fun r11 u H locs hp hH => ?_)
  obtain ⟨rfl, hu9⟩ := hp
  rw [hu9] at hH
  refine lv_if_eq (tgt := 21) hx hb dX5_openBarrel_14 (by decide) (fun c14 => ?_) (fun c14 => ?_)
  · refine lv_aload_n hx hb dX5_openBarrel_21 rfl (lv_at hl 0 rfl) ?_
    refine x_get (C := RX5) (T := TX5) (N := 6) hx hb hts hiX5 hown hK hH hc_a rfl 5 (by decide) hf23 (fun _ h => h) (v := .ref q) rfl dX5_openBarrel_22 ?_
    exact x_aret (r := some q) w hx hb hr hlocks (Or.inl ⟨_, rfl⟩) hK hH (⟨by first | (rw [if_pos c14]; done) | (rw [if_neg c14]), rfl⟩) dX5_openBarrel_25
  · refine lv_null hx hb dX5_openBarrel_17 ?_
    refine lv_goto (tgt := 25) hx hb dX5_openBarrel_18 (by decide) ?_
    exact x_aret (r := none) w hx hb hr hlocks (Or.inl ⟨_, rfl⟩) hK hH (⟨by first | (rw [if_pos c14]; done) | (rw [if_neg c14]), rfl⟩) dX5_openBarrel_25

def tellB (nr has stl pd : Int32) (f : Nat → Int32) (what : Int32) : Int32 := if what = 0 then has else if what = 1 then f 0 else if what = 2 then f 1 else if what = 3 then f 2 else if what = 4 then f 3 else if what = 5 then gradC4 has f else if what = 6 then nr else if what = 7 then (if fullB has stl pd = 0 then 0 else 1) else if what = 8 then (if stl = 0 then 0 else 1) else if what = 9 then (if pd = 0 then 0 else 1) else -1
set_option maxHeartbeats 4000000 in
set_option maxRecDepth 100000 in
theorem c_X0_tell (l : Launch) (G : XG) (A : Nat → Prop) (w : XW) (a ga wd : Nat) (ta : Nat) (has stl pd nr lt rn em pa : Int32) (lb : Value) (f : Nat → Int32) (hc_a : w a = some (.inr (1, [.ref wd, .int has, .ref ga, .ref ta, .int stl, .int pd]))) (hc_ga : w ga = some (.inl (G.2 0, 4, .inl f))) (hc_wd : w wd = some (.inr (6, [.int nr, .int lt, .int rn, .int em, .int pa, lb]))) (what : Int32) : Met l yX0_tell wsX0_tell ({ frames := 2, cells := 0, slots := 0, locals := 40 }) (va_Pc [.ref a, .int what] (xP G A (w))) (va_Qi (fun (r : Int32) (u : XW) => r = tellB nr has stl pd f what ∧ u = w) (fun u t => xB G A (u) t) A) 0 0 A := by
  refine Met.ofW (cc := cX0_tell) (maxL := 2) (ret := (some .int)) (by decide) rfl ?_
  intro p e s m args below meth c s₁ B hml hv
  obtain ⟨rfl, hK, hH, hTt⟩ := hv
  have hx := B.exec
  have hb := B.bytes
  have hr := B.returns
  have hts := atoms_spec (ws := wsX0_tell) B.pre
  have hown : s.vm.findClass RX0 = some m.cls := findClass_of_methodNamed B.named
  have hlocks := B.notSynchronized
  have hiX0 : ∀ w ∈ wsX00, w ∈ wsX0_tell := by decide +kernel
  have hiX5 : ∀ w ∈ wsX50, w ∈ wsX0_tell := by decide +kernel
  have hf9 := hts (.fieldLink RX0 9 "ResinWoods$Barrel" "has" "I") (by decide +kernel)
  have hf15 := hts (.fieldLink RX0 15 "ResinWoods$Barrel" "ofGrade" "[I") (by decide +kernel)
  have hf22 := hts (.fieldLink RX0 22 "ResinWoods$Barrel" "isStilled" "Z") (by decide +kernel)
  have hf26 := hts (.fieldLink RX0 26 "ResinWoods$Barrel" "isPaid" "Z") (by decide +kernel)
  have hf29 := hts (.fieldLink RX0 29 "ResinWoods$Barrel" "wood" "LResinWoods$Wood;") (by decide +kernel)
  have hf37 := hts (.fieldLink RX0 37 "ResinWoods$Wood" "number" "I") (by decide +kernel)
  have hl := lv_entry ([.ref a, .int what]) (n := 2) (Nat.le_of_ble_eq_true rfl)
  rw [lg_entry_eq]
  generalize (lg_sl ([.ref a, .int what]) ++ List.replicate (2 - (lg_sl ([.ref a, .int what])).length) Slot.unset).toArray = ls at hl ⊢
  have hl : lv_has ls 2 [(0, .ref a), (1, .int what)] := hl
  have ne_a_ga : a ≠ ga := fun e9 => by rw [e9, hc_ga] at hc_a; cases hc_a
  have ne_a_wd : a ≠ wd := fun e9 => by rw [e9, hc_wd] at hc_a; cases hc_a
  have ne_ga_a : ga ≠ a := fun e9 => by rw [e9, hc_a] at hc_ga; cases hc_ga
  have ne_ga_wd : ga ≠ wd := fun e9 => by rw [e9, hc_wd] at hc_ga; cases hc_ga
  have ne_wd_a : wd ≠ a := fun e9 => by rw [e9, hc_a] at hc_wd; cases hc_wd
  have ne_wd_ga : wd ≠ ga := fun e9 => by rw [e9, hc_ga] at hc_wd; cases hc_wd
  refine lv_iload_n hx hb dX0_tell_0 rfl (lv_at hl 1 rfl) ?_
  by_cases q0 : what = 0
  · subst q0
    refine lv_tableIn (tgt := 56) (off := 55) hx hb dX0_tell_1 (by decide) (by decide) (by decide) (by decide) ?_
    refine lv_aload_n hx hb dX0_tell_56 rfl (lv_at hl 0 rfl) ?_
    refine x_get (C := RX0) (T := TX0) (N := 6) hx hb hts hiX0 hown hK hH hc_a rfl 1 (by decide) hf9 (fun _ h => h) (v := .int has) rfl dX0_tell_57 ?_
    exact x_iret (v := has) w hx hb hr hlocks hK hH (⟨by unfold tellB; first | rfl | (simp [c87]; done) | (simp [c100]; done) | (simp [c113]; done) | (rw [if_neg q0, if_neg q1, if_neg q2, if_neg q3, if_neg q4, if_neg q5, if_neg q6, if_neg q7, if_neg q8, if_neg q9]), rfl⟩) dX0_tell_60
  by_cases q1 : what = 1
  · subst q1
    refine lv_tableIn (tgt := 61) (off := 60) hx hb dX0_tell_1 (by decide) (by decide) (by decide) (by decide) ?_
    refine lv_aload_n hx hb dX0_tell_61 rfl (lv_at hl 0 rfl) ?_
    refine x_get (C := RX0) (T := TX0) (N := 6) hx hb hts hiX0 hown hK hH hc_a rfl 2 (by decide) hf15 (fun _ h => h) (v := .ref ga) rfl dX0_tell_62 ?_
    refine lv_iload_n hx hb dX0_tell_65 rfl (lv_at hl 1 rfl) ?_
    refine lv_iconst (v := 1) hx hb dX0_tell_66 (by decide) ?_
    refine N_isub hx hb 1 1 rfl rfl (by omega) dX0_tell_67 ?_
    refine Y_iald hx hb hK hH hc_ga (1 - 1) rfl (by omega) (by decide) dX0_tell_68 ?_
    exact x_iret (v := f (1 - 1)) w hx hb hr hlocks hK hH (⟨by unfold tellB; first | rfl | (simp [c87]; done) | (simp [c100]; done) | (simp [c113]; done) | (rw [if_neg q0, if_neg q1, if_neg q2, if_neg q3, if_neg q4, if_neg q5, if_neg q6, if_neg q7, if_neg q8, if_neg q9]), rfl⟩) dX0_tell_69
  by_cases q2 : what = 2
  · subst q2
    refine lv_tableIn (tgt := 61) (off := 60) hx hb dX0_tell_1 (by decide) (by decide) (by decide) (by decide) ?_
    refine lv_aload_n hx hb dX0_tell_61 rfl (lv_at hl 0 rfl) ?_
    refine x_get (C := RX0) (T := TX0) (N := 6) hx hb hts hiX0 hown hK hH hc_a rfl 2 (by decide) hf15 (fun _ h => h) (v := .ref ga) rfl dX0_tell_62 ?_
    refine lv_iload_n hx hb dX0_tell_65 rfl (lv_at hl 1 rfl) ?_
    refine lv_iconst (v := 1) hx hb dX0_tell_66 (by decide) ?_
    refine N_isub hx hb 2 1 rfl rfl (by omega) dX0_tell_67 ?_
    refine Y_iald hx hb hK hH hc_ga (2 - 1) rfl (by omega) (by decide) dX0_tell_68 ?_
    exact x_iret (v := f (2 - 1)) w hx hb hr hlocks hK hH (⟨by unfold tellB; first | rfl | (simp [c87]; done) | (simp [c100]; done) | (simp [c113]; done) | (rw [if_neg q0, if_neg q1, if_neg q2, if_neg q3, if_neg q4, if_neg q5, if_neg q6, if_neg q7, if_neg q8, if_neg q9]), rfl⟩) dX0_tell_69
  by_cases q3 : what = 3
  · subst q3
    refine lv_tableIn (tgt := 61) (off := 60) hx hb dX0_tell_1 (by decide) (by decide) (by decide) (by decide) ?_
    refine lv_aload_n hx hb dX0_tell_61 rfl (lv_at hl 0 rfl) ?_
    refine x_get (C := RX0) (T := TX0) (N := 6) hx hb hts hiX0 hown hK hH hc_a rfl 2 (by decide) hf15 (fun _ h => h) (v := .ref ga) rfl dX0_tell_62 ?_
    refine lv_iload_n hx hb dX0_tell_65 rfl (lv_at hl 1 rfl) ?_
    refine lv_iconst (v := 1) hx hb dX0_tell_66 (by decide) ?_
    refine N_isub hx hb 3 1 rfl rfl (by omega) dX0_tell_67 ?_
    refine Y_iald hx hb hK hH hc_ga (3 - 1) rfl (by omega) (by decide) dX0_tell_68 ?_
    exact x_iret (v := f (3 - 1)) w hx hb hr hlocks hK hH (⟨by unfold tellB; first | rfl | (simp [c87]; done) | (simp [c100]; done) | (simp [c113]; done) | (rw [if_neg q0, if_neg q1, if_neg q2, if_neg q3, if_neg q4, if_neg q5, if_neg q6, if_neg q7, if_neg q8, if_neg q9]), rfl⟩) dX0_tell_69
  by_cases q4 : what = 4
  · subst q4
    refine lv_tableIn (tgt := 61) (off := 60) hx hb dX0_tell_1 (by decide) (by decide) (by decide) (by decide) ?_
    refine lv_aload_n hx hb dX0_tell_61 rfl (lv_at hl 0 rfl) ?_
    refine x_get (C := RX0) (T := TX0) (N := 6) hx hb hts hiX0 hown hK hH hc_a rfl 2 (by decide) hf15 (fun _ h => h) (v := .ref ga) rfl dX0_tell_62 ?_
    refine lv_iload_n hx hb dX0_tell_65 rfl (lv_at hl 1 rfl) ?_
    refine lv_iconst (v := 1) hx hb dX0_tell_66 (by decide) ?_
    refine N_isub hx hb 4 1 rfl rfl (by omega) dX0_tell_67 ?_
    refine Y_iald hx hb hK hH hc_ga (4 - 1) rfl (by omega) (by decide) dX0_tell_68 ?_
    exact x_iret (v := f (4 - 1)) w hx hb hr hlocks hK hH (⟨by unfold tellB; first | rfl | (simp [c87]; done) | (simp [c100]; done) | (simp [c113]; done) | (rw [if_neg q0, if_neg q1, if_neg q2, if_neg q3, if_neg q4, if_neg q5, if_neg q6, if_neg q7, if_neg q8, if_neg q9]), rfl⟩) dX0_tell_69
  by_cases q5 : what = 5
  · subst q5
    refine lv_tableIn (tgt := 70) (off := 69) hx hb dX0_tell_1 (by decide) (by decide) (by decide) (by decide) ?_
    refine lv_aload_n hx hb dX0_tell_70 rfl (lv_at hl 0 rfl) ?_
    refine x_calli (va_runV (As := []) (rest := []) ⟨hx, hb, hml, hown, hts⟩ (c_X0_gradeOf l G A _ a ga wd ta has stl pd f hc_a hc_ga) (cwV 0 hts gX0_tell_X0_gradeOf rfl rfl rfl (by decide +kernel) ⟨Nat.le_of_ble_eq_true rfl, Nat.le_of_ble_eq_true rfl⟩) (x_preV hK hH hTt (hc_a) rfl []) rfl rfl hl.1 rfl (lv_room (Nat.le_of_ble_eq_true rfl)) dX0_tell_71 ⟨Nat.le_of_ble_eq_true rfl, Nat.le_of_ble_eq_true rfl⟩) hH (fun r71 u H locs hp hH => ?_)
    obtain ⟨rfl, hu9⟩ := hp
    rw [hu9] at hH
    exact x_iret (v := gradC4 has f) w hx hb hr hlocks hK hH (⟨by unfold tellB; first | rfl | (simp [c87]; done) | (simp [c100]; done) | (simp [c113]; done) | (rw [if_neg q0, if_neg q1, if_neg q2, if_neg q3, if_neg q4, if_neg q5, if_neg q6, if_neg q7, if_neg q8, if_neg q9]), rfl⟩) dX0_tell_74
  by_cases q6 : what = 6
  · subst q6
    refine lv_tableIn (tgt := 75) (off := 74) hx hb dX0_tell_1 (by decide) (by decide) (by decide) (by decide) ?_
    refine lv_aload_n hx hb dX0_tell_75 rfl (lv_at hl 0 rfl) ?_
    refine x_get (C := RX0) (T := TX0) (N := 6) hx hb hts hiX0 hown hK hH hc_a rfl 0 (by decide) hf29 (fun _ h => h) (v := .ref wd) rfl dX0_tell_76 ?_
    refine x_get (C := RX5) (T := TX5) (N := 6) hx hb hts hiX5 hown hK hH hc_wd rfl 0 (by decide) hf37 (fun _ h => h) (v := .int nr) rfl dX0_tell_79 ?_
    exact x_iret (v := nr) w hx hb hr hlocks hK hH (⟨by unfold tellB; first | rfl | (simp [c87]; done) | (simp [c100]; done) | (simp [c113]; done) | (rw [if_neg q0, if_neg q1, if_neg q2, if_neg q3, if_neg q4, if_neg q5, if_neg q6, if_neg q7, if_neg q8, if_neg q9]), rfl⟩) dX0_tell_82
  by_cases q7 : what = 7
  · subst q7
    refine lv_tableIn (tgt := 83) (off := 82) hx hb dX0_tell_1 (by decide) (by decide) (by decide) (by decide) ?_
    refine lv_aload_n hx hb dX0_tell_83 rfl (lv_at hl 0 rfl) ?_
    refine x_calli (va_runV (As := []) (rest := []) ⟨hx, hb, hml, hown, hts⟩ (c_X0_isFull l G A _ a wd ga ta has stl pd hc_a) (cwV 0 hts gX0_tell_X0_isFull rfl rfl rfl (by decide +kernel) ⟨Nat.le_of_ble_eq_true rfl, Nat.le_of_ble_eq_true rfl⟩) (x_preV hK hH hTt (hc_a) rfl []) rfl rfl hl.1 rfl (lv_room (Nat.le_of_ble_eq_true rfl)) dX0_tell_84 ⟨Nat.le_of_ble_eq_true rfl, Nat.le_of_ble_eq_true rfl⟩) hH (fun r84 u H locs hp hH => ?_)
    obtain ⟨rfl, hu9⟩ := hp
    rw [hu9] at hH
    refine lv_if_eq (tgt := 94) hx hb dX0_tell_87 (by decide) (fun c87 => ?_) (fun c87 => ?_)
    · refine lv_iconst (v := 0) hx hb dX0_tell_94 (by decide) ?_
      exact x_iret (v := 0) w hx hb hr hlocks hK hH (⟨by unfold tellB; first | rfl | (simp [c87]; done) | (simp [c100]; done) | (simp [c113]; done) | (rw [if_neg q0, if_neg q1, if_neg q2, if_neg q3, if_neg q4, if_neg q5, if_neg q6, if_neg q7, if_neg q8, if_neg q9]), rfl⟩) dX0_tell_95
    · refine lv_iconst (v := 1) hx hb dX0_tell_90 (by decide) ?_
      refine lv_goto (tgt := 95) hx hb dX0_tell_91 (by decide) ?_
      exact x_iret (v := 1) w hx hb hr hlocks hK hH (⟨by unfold tellB; first | rfl | (simp [c87]; done) | (simp [c100]; done) | (simp [c113]; done) | (rw [if_neg q0, if_neg q1, if_neg q2, if_neg q3, if_neg q4, if_neg q5, if_neg q6, if_neg q7, if_neg q8, if_neg q9]), rfl⟩) dX0_tell_95
  by_cases q8 : what = 8
  · subst q8
    refine lv_tableIn (tgt := 96) (off := 95) hx hb dX0_tell_1 (by decide) (by decide) (by decide) (by decide) ?_
    refine lv_aload_n hx hb dX0_tell_96 rfl (lv_at hl 0 rfl) ?_
    refine x_get (C := RX0) (T := TX0) (N := 6) hx hb hts hiX0 hown hK hH hc_a rfl 4 (by decide) hf22 (fun _ h => h) (v := .int stl) rfl dX0_tell_97 ?_
    refine lv_if_eq (tgt := 107) hx hb dX0_tell_100 (by decide) (fun c100 => ?_) (fun c100 => ?_)
    · refine lv_iconst (v := 0) hx hb dX0_tell_107 (by decide) ?_
      exact x_iret (v := 0) w hx hb hr hlocks hK hH (⟨by unfold tellB; first | rfl | (simp [c87]; done) | (simp [c100]; done) | (simp [c113]; done) | (rw [if_neg q0, if_neg q1, if_neg q2, if_neg q3, if_neg q4, if_neg q5, if_neg q6, if_neg q7, if_neg q8, if_neg q9]), rfl⟩) dX0_tell_108
    · refine lv_iconst (v := 1) hx hb dX0_tell_103 (by decide) ?_
      refine lv_goto (tgt := 108) hx hb dX0_tell_104 (by decide) ?_
      exact x_iret (v := 1) w hx hb hr hlocks hK hH (⟨by unfold tellB; first | rfl | (simp [c87]; done) | (simp [c100]; done) | (simp [c113]; done) | (rw [if_neg q0, if_neg q1, if_neg q2, if_neg q3, if_neg q4, if_neg q5, if_neg q6, if_neg q7, if_neg q8, if_neg q9]), rfl⟩) dX0_tell_108
  by_cases q9 : what = 9
  · subst q9
    refine lv_tableIn (tgt := 109) (off := 108) hx hb dX0_tell_1 (by decide) (by decide) (by decide) (by decide) ?_
    refine lv_aload_n hx hb dX0_tell_109 rfl (lv_at hl 0 rfl) ?_
    refine x_get (C := RX0) (T := TX0) (N := 6) hx hb hts hiX0 hown hK hH hc_a rfl 5 (by decide) hf26 (fun _ h => h) (v := .int pd) rfl dX0_tell_110 ?_
    refine lv_if_eq (tgt := 120) hx hb dX0_tell_113 (by decide) (fun c113 => ?_) (fun c113 => ?_)
    · refine lv_iconst (v := 0) hx hb dX0_tell_120 (by decide) ?_
      exact x_iret (v := 0) w hx hb hr hlocks hK hH (⟨by unfold tellB; first | rfl | (simp [c87]; done) | (simp [c100]; done) | (simp [c113]; done) | (rw [if_neg q0, if_neg q1, if_neg q2, if_neg q3, if_neg q4, if_neg q5, if_neg q6, if_neg q7, if_neg q8, if_neg q9]), rfl⟩) dX0_tell_121
    · refine lv_iconst (v := 1) hx hb dX0_tell_116 (by decide) ?_
      refine lv_goto (tgt := 121) hx hb dX0_tell_117 (by decide) ?_
      exact x_iret (v := 1) w hx hb hr hlocks hK hH (⟨by unfold tellB; first | rfl | (simp [c87]; done) | (simp [c100]; done) | (simp [c113]; done) | (rw [if_neg q0, if_neg q1, if_neg q2, if_neg q3, if_neg q4, if_neg q5, if_neg q6, if_neg q7, if_neg q8, if_neg q9]), rfl⟩) dX0_tell_121
  refine lv_tableOut (tgt := 122) hx hb dX0_tell_1 (swOut 9 (fun k hk => by rcases (show k = 0 ∨ k = 1 ∨ k = 2 ∨ k = 3 ∨ k = 4 ∨ k = 5 ∨ k = 6 ∨ k = 7 ∨ k = 8 ∨ k = 9 by omega) with rfl | rfl | rfl | rfl | rfl | rfl | rfl | rfl | rfl | rfl <;> assumption)) (by decide) ?_
  refine lv_iconst (v := (-1)) hx hb dX0_tell_122 (by decide) ?_
  exact x_iret (v := (-1)) w hx hb hr hlocks hK hH (⟨by unfold tellB; first | rfl | (simp [c87]; done) | (simp [c100]; done) | (simp [c113]; done) | (rw [if_neg q0, if_neg q1, if_neg q2, if_neg q3, if_neg q4, if_neg q5, if_neg q6, if_neg q7, if_neg q8, if_neg q9]), rfl⟩) dX0_tell_123

set_option maxHeartbeats 4000000 in
set_option maxRecDepth 100000 in
theorem c_X1_standInFor (l : Launch) (G : XG) (A : Nat → Prop) (w : XW) (a ga o go : Nat) (st la oy has ro st2 la2 oy2 has2 ro2 : Int32) (f f2 : Nat → Int32) (hc_a : w a = some (.inr (2, [.int st, .int la, .int oy, .int has, .int ro, .ref ga]))) (hc_ga : w ga = some (.inl (G.2 0, 4, .inl f))) (hc_o : w o = some (.inr (2, [.int st2, .int la2, .int oy2, .int has2, .int ro2, .ref go]))) (hc_go : w go = some (.inl (G.2 0, 4, .inl f2))) (ne_a_o : a ≠ o) (ne_ga_go : ga ≠ go) : Met l yX1_standInFor wsX1_standInFor ({ frames := 0, cells := 0, slots := 0, locals := 0 }) (va_Pc [.ref a, .ref o] (xP G A (w))) (va_Qv (fun (u : XW) => u a = some (.inr (2, [.int st, .int la2, .int oy2, .int has2, .int 0, .ref ga])) ∧ u ga = some (.inl (G.2 0, 4, .inl (cpf f2 f 4))) ∧ ∀ y, y ≠ a → y ≠ ga → u y = w y) (fun u t => xB G A (u) t) A) 0 0 A := by
  refine Met.ofW (cc := cX1_standInFor) (maxL := 3) (ret := none) (by decide) rfl ?_
  intro p e s m args below meth c s₁ B hml hv
  obtain ⟨rfl, hK, hH, hTt⟩ := hv
  have hx := B.exec
  have hb := B.bytes
  have hr := B.returns
  have hts := atoms_spec (ws := wsX1_standInFor) B.pre
  have hown : s.vm.findClass RX1 = some m.cls := findClass_of_methodNamed B.named
  have hlocks := B.notSynchronized
  have hiX1 : ∀ w ∈ wsX10, w ∈ wsX1_standInFor := by decide +kernel
  have hf15 := hts (.fieldLink RX1 15 "ResinWoods$Face" "latest" "I") (by decide +kernel)
  have hf18 := hts (.fieldLink RX1 18 "ResinWoods$Face" "openedIn" "I") (by decide +kernel)
  have hf21 := hts (.fieldLink RX1 21 "ResinWoods$Face" "has" "I") (by decide +kernel)
  have hf24 := hts (.fieldLink RX1 24 "ResinWoods$Face" "ranOver" "I") (by decide +kernel)
  have hf27 := hts (.fieldLink RX1 27 "ResinWoods$Face" "ofGrade" "[I") (by decide +kernel)
  have hl := lv_entry ([.ref a, .ref o]) (n := 3) (Nat.le_of_ble_eq_true rfl)
  rw [lg_entry_eq]
  generalize (lg_sl ([.ref a, .ref o]) ++ List.replicate (3 - (lg_sl ([.ref a, .ref o])).length) Slot.unset).toArray = ls at hl ⊢
  have hl : lv_has ls 3 [(0, .ref a), (1, .ref o)] := hl
  have ne_a_ga : a ≠ ga := fun e9 => by rw [e9, hc_ga] at hc_a; cases hc_a
  have ne_a_go : a ≠ go := fun e9 => by rw [e9, hc_go] at hc_a; cases hc_a
  have ne_ga_a : ga ≠ a := fun e9 => by rw [e9, hc_a] at hc_ga; cases hc_ga
  have ne_ga_o : ga ≠ o := fun e9 => by rw [e9, hc_o] at hc_ga; cases hc_ga
  have ne_o_a : o ≠ a := fun e9 => ne_a_o e9.symm
  have ne_o_ga : o ≠ ga := fun e9 => by rw [e9, hc_ga] at hc_o; cases hc_o
  have ne_o_go : o ≠ go := fun e9 => by rw [e9, hc_go] at hc_o; cases hc_o
  have ne_go_a : go ≠ a := fun e9 => by rw [e9, hc_a] at hc_go; cases hc_go
  have ne_go_ga : go ≠ ga := fun e9 => ne_ga_go e9.symm
  have ne_go_o : go ≠ o := fun e9 => by rw [e9, hc_o] at hc_go; cases hc_go
  have hc_o0 := hc_o
  have hc_go0 := hc_go
  refine lv_aload_n hx hb dX1_standInFor_0 rfl (lv_at hl 0 rfl) ?_
  refine lv_aload_n hx hb dX1_standInFor_1 rfl (lv_at hl 1 rfl) ?_
  refine x_get (C := RX1) (T := TX1) (N := 6) hx hb hts hiX1 hown hK hH hc_o rfl 1 (by decide) hf15 (fun _ h => h) (v := .int la2) rfl dX1_standInFor_2 ?_
  refine x_put (C := RX1) (T := TX1) (N := 6) (ty := .int) hx hb hts hiX1 tyX1 tyX1_ok nmX1 hown hK hH hc_a rfl 1 (by decide) hf15 (fun _ h => h) rfl (by decide +kernel) rfl rfl (Nat.le_of_ble_eq_true rfl) dX1_standInFor_5 (fun H locs hH => ?_)
  have hH : xH G A s.heap H locs (va_up w a (some (.inr (2, [.int st, .int la2, .int oy, .int has, .int ro, .ref ga])))) := hH
  obtain ⟨w5, ew5⟩ : ∃ z, z = va_up w a (some (.inr (2, [.int st, .int la2, .int oy, .int has, .int ro, .ref ga]))) := ⟨_, rfl⟩
  rw [← ew5] at hH
  have hc_a : w5 a = some (.inr (2, [.int st, .int la2, .int oy, .int has, .int ro, .ref ga])) := by rw [ew5]; exact if_pos rfl
  have hc_ga : w5 ga = some (.inl (G.2 0, 4, .inl f)) := by rw [ew5, show va_up w a _ ga = w ga from if_neg ne_ga_a]; exact hc_ga
  have hc_o : w5 o = some (.inr (2, [.int st2, .int la2, .int oy2, .int has2, .int ro2, .ref go])) := by rw [ew5, show va_up w a _ o = w o from if_neg ne_o_a]; exact hc_o
  have hc_go : w5 go = some (.inl (G.2 0, 4, .inl f2)) := by rw [ew5, show va_up w a _ go = w go from if_neg ne_go_a]; exact hc_go
  have hfr : ∀ x, x ≠ a → x ≠ ga → x ≠ o → x ≠ go → w5 x = w x := fun x z_a z_ga z_o z_go => by rw [ew5]; exact if_neg z_a
  refine lv_aload_n hx hb dX1_standInFor_8 rfl (lv_at hl 0 rfl) ?_
  refine lv_aload_n hx hb dX1_standInFor_9 rfl (lv_at hl 1 rfl) ?_
  refine x_get (C := RX1) (T := TX1) (N := 6) hx hb hts hiX1 hown hK hH hc_o rfl 2 (by decide) hf18 (fun _ h => h) (v := .int oy2) rfl dX1_standInFor_10 ?_
  refine x_put (C := RX1) (T := TX1) (N := 6) (ty := .int) hx hb hts hiX1 tyX1 tyX1_ok nmX1 hown hK hH hc_a rfl 2 (by decide) hf18 (fun _ h => h) rfl (by decide +kernel) rfl rfl (Nat.le_of_ble_eq_true rfl) dX1_standInFor_13 (fun H locs hH => ?_)
  have hH : xH G A s.heap H locs (va_up w5 a (some (.inr (2, [.int st, .int la2, .int oy2, .int has, .int ro, .ref ga])))) := hH
  obtain ⟨w13, ew13⟩ : ∃ z, z = va_up w5 a (some (.inr (2, [.int st, .int la2, .int oy2, .int has, .int ro, .ref ga]))) := ⟨_, rfl⟩
  rw [← ew13] at hH
  have hc_a : w13 a = some (.inr (2, [.int st, .int la2, .int oy2, .int has, .int ro, .ref ga])) := by rw [ew13]; exact if_pos rfl
  have hc_ga : w13 ga = some (.inl (G.2 0, 4, .inl f)) := by rw [ew13, show va_up w5 a _ ga = w5 ga from if_neg ne_ga_a]; exact hc_ga
  have hc_o : w13 o = some (.inr (2, [.int st2, .int la2, .int oy2, .int has2, .int ro2, .ref go])) := by rw [ew13, show va_up w5 a _ o = w5 o from if_neg ne_o_a]; exact hc_o
  have hc_go : w13 go = some (.inl (G.2 0, 4, .inl f2)) := by rw [ew13, show va_up w5 a _ go = w5 go from if_neg ne_go_a]; exact hc_go
  have hfr : ∀ x, x ≠ a → x ≠ ga → x ≠ o → x ≠ go → w13 x = w x := fun x z_a z_ga z_o z_go => by rw [ew13]; exact (if_neg z_a).trans (hfr x z_a z_ga z_o z_go)
  refine lv_aload_n hx hb dX1_standInFor_16 rfl (lv_at hl 0 rfl) ?_
  refine lv_aload_n hx hb dX1_standInFor_17 rfl (lv_at hl 1 rfl) ?_
  refine x_get (C := RX1) (T := TX1) (N := 6) hx hb hts hiX1 hown hK hH hc_o rfl 3 (by decide) hf21 (fun _ h => h) (v := .int has2) rfl dX1_standInFor_18 ?_
  refine x_put (C := RX1) (T := TX1) (N := 6) (ty := .int) hx hb hts hiX1 tyX1 tyX1_ok nmX1 hown hK hH hc_a rfl 3 (by decide) hf21 (fun _ h => h) rfl (by decide +kernel) rfl rfl (Nat.le_of_ble_eq_true rfl) dX1_standInFor_21 (fun H locs hH => ?_)
  have hH : xH G A s.heap H locs (va_up w13 a (some (.inr (2, [.int st, .int la2, .int oy2, .int has2, .int ro, .ref ga])))) := hH
  obtain ⟨w21, ew21⟩ : ∃ z, z = va_up w13 a (some (.inr (2, [.int st, .int la2, .int oy2, .int has2, .int ro, .ref ga]))) := ⟨_, rfl⟩
  rw [← ew21] at hH
  have hc_a : w21 a = some (.inr (2, [.int st, .int la2, .int oy2, .int has2, .int ro, .ref ga])) := by rw [ew21]; exact if_pos rfl
  have hc_ga : w21 ga = some (.inl (G.2 0, 4, .inl f)) := by rw [ew21, show va_up w13 a _ ga = w13 ga from if_neg ne_ga_a]; exact hc_ga
  have hc_o : w21 o = some (.inr (2, [.int st2, .int la2, .int oy2, .int has2, .int ro2, .ref go])) := by rw [ew21, show va_up w13 a _ o = w13 o from if_neg ne_o_a]; exact hc_o
  have hc_go : w21 go = some (.inl (G.2 0, 4, .inl f2)) := by rw [ew21, show va_up w13 a _ go = w13 go from if_neg ne_go_a]; exact hc_go
  have hfr : ∀ x, x ≠ a → x ≠ ga → x ≠ o → x ≠ go → w21 x = w x := fun x z_a z_ga z_o z_go => by rw [ew21]; exact (if_neg z_a).trans (hfr x z_a z_ga z_o z_go)
  refine lv_aload_n hx hb dX1_standInFor_24 rfl (lv_at hl 0 rfl) ?_
  refine lv_iconst (v := 0) hx hb dX1_standInFor_25 (by decide) ?_
  refine x_put (C := RX1) (T := TX1) (N := 6) (ty := .int) hx hb hts hiX1 tyX1 tyX1_ok nmX1 hown hK hH hc_a rfl 4 (by decide) hf24 (fun _ h => h) rfl (by decide +kernel) rfl rfl (Nat.le_of_ble_eq_true rfl) dX1_standInFor_26 (fun H locs hH => ?_)
  have hH : xH G A s.heap H locs (va_up w21 a (some (.inr (2, [.int st, .int la2, .int oy2, .int has2, .int 0, .ref ga])))) := hH
  obtain ⟨w26, ew26⟩ : ∃ z, z = va_up w21 a (some (.inr (2, [.int st, .int la2, .int oy2, .int has2, .int 0, .ref ga]))) := ⟨_, rfl⟩
  rw [← ew26] at hH
  have hc_a : w26 a = some (.inr (2, [.int st, .int la2, .int oy2, .int has2, .int 0, .ref ga])) := by rw [ew26]; exact if_pos rfl
  have hc_ga : w26 ga = some (.inl (G.2 0, 4, .inl f)) := by rw [ew26, show va_up w21 a _ ga = w21 ga from if_neg ne_ga_a]; exact hc_ga
  have hc_o : w26 o = some (.inr (2, [.int st2, .int la2, .int oy2, .int has2, .int ro2, .ref go])) := by rw [ew26, show va_up w21 a _ o = w21 o from if_neg ne_o_a]; exact hc_o
  have hc_go : w26 go = some (.inl (G.2 0, 4, .inl f2)) := by rw [ew26, show va_up w21 a _ go = w21 go from if_neg ne_go_a]; exact hc_go
  have hfr : ∀ x, x ≠ a → x ≠ ga → x ≠ o → x ≠ go → w26 x = w x := fun x z_a z_ga z_o z_go => by rw [ew26]; exact (if_neg z_a).trans (hfr x z_a z_ga z_o z_go)
  refine lv_iconst (v := 0) hx hb dX1_standInFor_29 (by decide) ?_
  refine lv_istore_n (lv' := [(2, .int 0), (0, .ref a), (1, .ref o)]) hx hb dX1_standInFor_30 rfl hl (by decide) rfl (fun ls hl => ?_)
  suffices loop31 : ∀ (k31 : Nat) (i : Nat) (wl : XW) (f1 : Nat → Int32), (4 < i + k31) → (i ≤ 4) → (f1 = cpf f2 f i) → (wl a = some (.inr (2, [.int st, .int la2, .int oy2, .int has2, .int 0, .ref ga]))) → (wl ga = some (.inl (G.2 0, 4, .inl f1))) → (wl o = some (.inr (2, [.int st2, .int la2, .int oy2, .int has2, .int ro2, .ref go]))) → (wl go = some (.inl (G.2 0, 4, .inl f2))) → (∀ y, y ≠ a → y ≠ ga → y ≠ o → y ≠ go → wl y = w y) → ∀ (H : Heap) (locs : List Loc), xH G A s.heap H locs (wl) → ∀ (ls : Array Slot), lv_has ls 3 [(0, .ref a), (1, .ref o), (2, .int (nI i))] → W p l e (headSpec wsX1_standInFor _).room s m _ below meth c H locs 0 0 (MQ below _ _ s 0 0 A) (F0 m 31 ls []) from
    loop31 5 0 w26 f (by omega) (by omega) (by funext j; simp [cpf]) (hc_a) (hc_ga) (hc_o) (hc_go) (hfr) _ _ hH ls (lv_sub hl [1, 2, 0] rfl)
  intro k31
  induction k31 with
  | zero =>
    intro i wl f1 hfuel hi hf1 hc_a hc_ga hc_o hc_go hfr H locs hH ls hl
    exact absurd hfuel (by omega)
  | succ k31 ih31 =>
    intro i wl f1 hfuel hi hf1 hc_a hc_ga hc_o hc_go hfr H locs hH ls hl
    refine lv_iload_n hx hb dX1_standInFor_31 rfl (lv_at hl 2 rfl) ?_
    refine lv_iconst (v := 4) hx hb dX1_standInFor_32 (by decide) ?_
    refine lv_icmp_ge (tgt := 54) hx hb dX1_standInFor_33 (by decide) (fun c33 => ?_) (fun c33 => ?_)
    · have c33 : 4 ≤ i := (nI_leI (a := 4) (b := i) (by omega) (by omega)).mp c33
      exact x_vret wl hx hb hr hlocks hK hH (⟨hc_a, by rw [hc_ga, hf1, show i = 4 by omega], fun y z_a z_ga => if z8 : y = o then by rw [z8, hc_o]; exact hc_o0.symm else if z9 : y = go then by rw [z9, hc_go]; exact hc_go0.symm else hfr y z_a z_ga z8 z9⟩) dX1_standInFor_54
    · have c33 : ¬ 4 ≤ i := fun zz => c33 ((nI_leI (a := 4) (b := i) (by omega) (by omega)).mpr zz)
      refine lv_aload_n hx hb dX1_standInFor_36 rfl (lv_at hl 0 rfl) ?_
      refine x_get (C := RX1) (T := TX1) (N := 6) hx hb hts hiX1 hown hK hH hc_a rfl 5 (by decide) hf27 (fun _ h => h) (v := .ref ga) rfl dX1_standInFor_37 ?_
      refine lv_iload_n hx hb dX1_standInFor_40 rfl (lv_at hl 2 rfl) ?_
      refine lv_aload_n hx hb dX1_standInFor_41 rfl (lv_at hl 1 rfl) ?_
      refine x_get (C := RX1) (T := TX1) (N := 6) hx hb hts hiX1 hown hK hH hc_o rfl 5 (by decide) hf27 (fun _ h => h) (v := .ref go) rfl dX1_standInFor_42 ?_
      refine lv_iload_n hx hb dX1_standInFor_45 rfl (lv_at hl 2 rfl) ?_
      refine Y_iald hx hb hK hH hc_go i rfl (by omega) (by decide) dX1_standInFor_46 ?_
      refine Y_iast hx hb hK hH hc_ga i rfl (by omega) (by decide) dX1_standInFor_47 (fun H locs hH => ?_)
      have hH : xH G A s.heap H locs (va_up wl ga (some (.inl (G.2 0, 4, .inl (upd f1 i (f2 i)))))) := hH
      obtain ⟨w47, ew47⟩ : ∃ z, z = va_up wl ga (some (.inl (G.2 0, 4, .inl (upd f1 i (f2 i))))) := ⟨_, rfl⟩
      rw [← ew47] at hH
      have hc_a : w47 a = some (.inr (2, [.int st, .int la2, .int oy2, .int has2, .int 0, .ref ga])) := by rw [ew47, show va_up wl ga _ a = wl a from if_neg ne_a_ga]; exact hc_a
      have hc_ga : w47 ga = some (.inl (G.2 0, 4, .inl (upd f1 i (f2 i)))) := by rw [ew47]; exact if_pos rfl
      have hc_o : w47 o = some (.inr (2, [.int st2, .int la2, .int oy2, .int has2, .int ro2, .ref go])) := by rw [ew47, show va_up wl ga _ o = wl o from if_neg ne_o_ga]; exact hc_o
      have hc_go : w47 go = some (.inl (G.2 0, 4, .inl f2)) := by rw [ew47, show va_up wl ga _ go = wl go from if_neg ne_go_ga]; exact hc_go
      have hfr : ∀ x, x ≠ a → x ≠ ga → x ≠ o → x ≠ go → w47 x = w x := fun x z_a z_ga z_o z_go => by rw [ew47]; exact (if_neg z_ga).trans (hfr x z_a z_ga z_o z_go)
      refine lv_iinc (v := nI (i + 1)) (lv' := [(2, .int (nI (i + 1))), (0, .ref a), (1, .ref o)]) hx hb dX1_standInFor_48 hl (k := 2) rfl (by exact nI_add _ 1) (by decide) rfl (fun ls hl => ?_)
      refine lv_goto (tgt := 31) hx hb dX1_standInFor_51 (by decide) ?_
      exact ih31 (i + 1) w47 (upd f1 i (f2 i)) (by omega) (by omega) (by rw [hf1]; exact cpf_s f2 f i) (hc_a) (hc_ga) (hc_o) (hc_go) (hfr) _ _ hH ls (lv_sub hl [1, 2, 0] rfl)


theorem min_nat {a b : Nat} (ha : a < 2 ^ 31) (hb : b < 2 ^ 31) : minI (nI a) (nI b) = nI (if b < a then b else a) := mn_nat ha hb

set_option maxHeartbeats 4000000 in
set_option maxRecDepth 100000 in
theorem c_X2_spilledBy (l : Launch) (G : XG) (A : Nat → Prop) (w : XW) (a p3 q : Nat) (p1 p2 po pb p6 p7 p8 : Nat) (sz hbf bo bs : Int32) (rr : Nat → Option Nat) (sp : Nat → Int32) (hc_a : w a = some (.inr (3, [.int sz, .ref p1, .ref p2, .ref p3, .ref po, .ref pb, .ref p6, .ref p7, .ref p8, .int hbf, .int bo, .int bs]))) (hc_p3 : w p3 = some (.inl (G.2 5, 6, .inr (.inr (.inr (.inr rr)))))) (hc_q : w q = some (.inl (G.2 0, 20, .inl sp))) (sl n : Nat) (hsl : sl < 6) (hn : n < 2 ^ 31) (hrr : rr sl = some q) : Met l yX2_spilledBy wsX2_spilledBy ({ frames := 1, cells := 0, slots := 0, locals := 21 }) (va_Pc [.ref a, .int (nI sl), .int (nI n)] (xP G A (w))) (va_Qi (fun (r : Int32) (u : XW) => r = sp (if 19 < n / 60 then 19 else n / 60) ∧ u = w) (fun u t => xB G A (u) t) A) 0 0 A := by
  refine Met.ofW (cc := cX2_spilledBy) (maxL := 3) (ret := (some .int)) (by decide) rfl ?_
  intro p e s m args below meth c s₁ B hml hv
  obtain ⟨rfl, hK, hH, hTt⟩ := hv
  have hx := B.exec
  have hb := B.bytes
  have hr := B.returns
  have hts := atoms_spec (ws := wsX2_spilledBy) B.pre
  have hown : s.vm.findClass RX2 = some m.cls := findClass_of_methodNamed B.named
  have hlocks := B.notSynchronized
  have hiX2 : ∀ w ∈ wsX20, w ∈ wsX2_spilledBy := by decide +kernel
  have hf24 := hts (.fieldLink RX2 24 "ResinWoods$Planner" "spills" "[[I") (by decide +kernel)
  have hl := lv_entry ([.ref a, .int (nI sl), .int (nI n)]) (n := 3) (Nat.le_of_ble_eq_true rfl)
  rw [lg_entry_eq]
  generalize (lg_sl ([.ref a, .int (nI sl), .int (nI n)]) ++ List.replicate (3 - (lg_sl ([.ref a, .int (nI sl), .int (nI n)])).length) Slot.unset).toArray = ls at hl ⊢
  have hl : lv_has ls 3 [(0, .ref a), (1, .int (nI sl)), (2, .int (nI n))] := hl
  have ne_a_p3 : a ≠ p3 := fun e9 => by rw [e9, hc_p3] at hc_a; cases hc_a
  have ne_a_q : a ≠ q := fun e9 => by rw [e9, hc_q] at hc_a; cases hc_a
  have ne_p3_a : p3 ≠ a := fun e9 => by rw [e9, hc_a] at hc_p3; cases hc_p3
  have ne_p3_q : p3 ≠ q := fun e9 => by rw [e9, hc_q] at hc_p3; simp at hc_p3
  have ne_q_a : q ≠ a := fun e9 => by rw [e9, hc_a] at hc_q; cases hc_q
  have ne_q_p3 : q ≠ p3 := fun e9 => by rw [e9, hc_p3] at hc_q; simp at hc_q
  refine lv_aload_n hx hb dX2_spilledBy_0 rfl (lv_at hl 0 rfl) ?_
  refine x_get (C := RX2) (T := TX2) (N := 12) hx hb hts hiX2 hown hK hH hc_a rfl 3 (by decide) hf24 (fun _ h => h) (v := .ref p3) rfl dX2_spilledBy_1 ?_
  refine lv_iload_n hx hb dX2_spilledBy_4 rfl (lv_at hl 1 rfl) ?_
  refine x_aldA hx hb hK hH hc_p3 sl rfl (by omega) (by decide) (hrr) dX2_spilledBy_5 ?_
  refine lv_iload_n hx hb dX2_spilledBy_6 rfl (lv_at hl 2 rfl) ?_
  refine lv_bipush (v := 60) hx hb dX2_spilledBy_7 (by decide) ?_
  refine N_idiv hx hb n 60 rfl rfl (by omega) (by decide) (by decide) dX2_spilledBy_9 ?_
  refine lv_bipush (v := 19) hx hb dX2_spilledBy_10 (by decide) ?_
  refine va_mmin hx hb (by rw [hml]; exact hl.1.symm) hown (hts (.methodLink RX2 61 Lib.Math.min.name) (by decide +kernel)) (hts (.static Lib.Math.min.name) (by decide +kernel)) (hts (.initialized "java/lang/Math") (by decide +kernel)) (hts (.code Lib.Math.min.name Lib.Math.min.code 2 (some .int)) (by decide +kernel)) (Nat.le_of_ble_eq_true rfl) (Nat.le_of_ble_eq_true rfl) (Nat.le_of_ble_eq_true rfl) (Nat.le_of_ble_eq_true rfl) dX2_spilledBy_12 ?_
  refine lv_topi (fun v15 ev15 => ?_)
  have hv15 : v15 = nI (if 19 < n / 60 then 19 else n / 60) := ev15.trans (mn_nat (b := 19) (by omega) (by omega))
  have hlt15 : (if 19 < n / 60 then 19 else n / 60) < 20 := by split <;> omega
  refine Y_iald hx hb hK hH hc_q (if 19 < n / 60 then 19 else n / 60) hv15 hlt15 (by decide) dX2_spilledBy_15 ?_
  exact x_iret (v := sp (if 19 < n / 60 then 19 else n / 60)) w hx hb hr hlocks hK hH (⟨rfl, rfl⟩) dX2_spilledBy_16
