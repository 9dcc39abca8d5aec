
def plcI (v : Int32) : Int32 := if v < 0 then 0 else if 10000 ≤ v then 0 else 1
def absI (v : Int32) : Int32 := if 0 ≤ v then v else 0 - v
def stpI (a b : Int32) : Int32 := absI (a / 100 - b / 100) + absI (a - a / 100 * 100 - (b - b / 100 * 100))

set_option maxHeartbeats 4000000 in
set_option maxRecDepth 100000 in
theorem c_X6_isPlace (l : Launch) (G : XG) (A : Nat → Prop) (w : XW) (v : Int32) : Met l yX6_isPlace wsX6_isPlace ({ frames := 0, cells := 0, slots := 0, locals := 0 }) (va_Pc [.int v] (xP G A (w))) (va_Qi (fun (r : Int32) (u : Unit) => r = plcI v) (fun u t => xB G A (w) t) A) 0 0 A := by
  refine Met.ofW (cc := cX6_isPlace) (maxL := 1) (ret := (some .boolean)) (by decide) rfl ?_
  intro p e s m args below meth c s₁ B hml hv
  obtain ⟨rfl, hK, hH, hTt⟩ := hv
  have hx := B.exec
  have hb := B.bytes
  have hr := B.returns
  have hts := atoms_spec (ws := wsX6_isPlace) B.pre
  have hown : s.vm.findClass RX6 = some m.cls := findClass_of_methodNamed B.named
  have hlocks := B.notSynchronized
  have hl := lv_entry ([.int v]) (n := 1) (Nat.le_of_ble_eq_true rfl)
  rw [lg_entry_eq]
  generalize (lg_sl ([.int v]) ++ List.replicate (1 - (lg_sl ([.int v])).length) Slot.unset).toArray = ls at hl ⊢
  have hl : lv_has ls 1 [(0, .int v)] := hl
  refine lv_iload_n hx hb dX6_isPlace_0 rfl (lv_at hl 0 rfl) ?_
  refine lv_if_lt (tgt := 15) hx hb dX6_isPlace_1 (by decide) (fun c1 => ?_) (fun c1 => ?_)
  · refine lv_iconst (v := 0) hx hb dX6_isPlace_15 (by decide) ?_
    exact x_zret (v := 0) () hx hb hr hlocks (by decide) hK hH (by simp [plcI, *]) dX6_isPlace_16
  · refine lv_iload_n hx hb dX6_isPlace_4 rfl (lv_at hl 0 rfl) ?_
    refine lv_sipush (v := 10000) hx hb dX6_isPlace_5 (by decide) ?_
    refine lv_icmp_ge (tgt := 15) hx hb dX6_isPlace_8 (by decide) (fun c8 => ?_) (fun c8 => ?_)
    · refine lv_iconst (v := 0) hx hb dX6_isPlace_15 (by decide) ?_
      exact x_zret (v := 0) () hx hb hr hlocks (by decide) hK hH (by simp [plcI, *]) dX6_isPlace_16
    · refine lv_iconst (v := 1) hx hb dX6_isPlace_11 (by decide) ?_
      refine lv_goto (tgt := 16) hx hb dX6_isPlace_12 (by decide) ?_
      exact x_zret (v := 1) () hx hb hr hlocks (by decide) hK hH (by simp [plcI, *]) dX6_isPlace_16

set_option maxHeartbeats 4000000 in
set_option maxRecDepth 100000 in
theorem c_X6_isGirth (l : Launch) (G : XG) (A : Nat → Prop) (w : XW) (v : Int32) : Met l yX6_isGirth wsX6_isGirth ({ frames := 0, cells := 0, slots := 0, locals := 0 }) (va_Pc [.int v] (xP G A (w))) (va_Qi (fun (r : Int32) (u : Unit) => r = binI v 20 400) (fun u t => xB G A (w) t) A) 0 0 A := by
  refine Met.ofW (cc := cX6_isGirth) (maxL := 1) (ret := (some .boolean)) (by decide) rfl ?_
  intro p e s m args below meth c s₁ B hml hv
  obtain ⟨rfl, hK, hH, hTt⟩ := hv
  have hx := B.exec
  have hb := B.bytes
  have hr := B.returns
  have hts := atoms_spec (ws := wsX6_isGirth) B.pre
  have hown : s.vm.findClass RX6 = some m.cls := findClass_of_methodNamed B.named
  have hlocks := B.notSynchronized
  have hl := lv_entry ([.int v]) (n := 1) (Nat.le_of_ble_eq_true rfl)
  rw [lg_entry_eq]
  generalize (lg_sl ([.int v]) ++ List.replicate (1 - (lg_sl ([.int v])).length) Slot.unset).toArray = ls at hl ⊢
  have hl : lv_has ls 1 [(0, .int v)] := hl
  refine lv_iload_n hx hb dX6_isGirth_0 rfl (lv_at hl 0 rfl) ?_
  refine lv_bipush (v := 20) hx hb dX6_isGirth_1 (by decide) ?_
  refine lv_icmp_lt (tgt := 17) hx hb dX6_isGirth_3 (by decide) (fun c3 => ?_) (fun c3 => ?_)
  · refine lv_iconst (v := 0) hx hb dX6_isGirth_17 (by decide) ?_
    exact x_zret (v := 0) () hx hb hr hlocks (by decide) hK hH (by simp [binI, *]) dX6_isGirth_18
  · refine lv_iload_n hx hb dX6_isGirth_6 rfl (lv_at hl 0 rfl) ?_
    refine lv_sipush (v := 400) hx hb dX6_isGirth_7 (by decide) ?_
    refine lv_icmp_gt (tgt := 17) hx hb dX6_isGirth_10 (by decide) (fun c10 => ?_) (fun c10 => ?_)
    · refine lv_iconst (v := 0) hx hb dX6_isGirth_17 (by decide) ?_
      exact x_zret (v := 0) () hx hb hr hlocks (by decide) hK hH (by simp [binI, *]) dX6_isGirth_18
    · refine lv_iconst (v := 1) hx hb dX6_isGirth_13 (by decide) ?_
      refine lv_goto (tgt := 18) hx hb dX6_isGirth_14 (by decide) ?_
      exact x_zret (v := 1) () hx hb hr hlocks (by decide) hK hH (by simp [binI, *]) dX6_isGirth_18

set_option maxHeartbeats 4000000 in
set_option maxRecDepth 100000 in
theorem c_X6_isWeather (l : Launch) (G : XG) (A : Nat → Prop) (w : XW) (v : Int32) : Met l yX6_isWeather wsX6_isWeather ({ frames := 0, cells := 0, slots := 0, locals := 0 }) (va_Pc [.int v] (xP G A (w))) (va_Qi (fun (r : Int32) (u : Unit) => r = binI v 0 9) (fun u t => xB G A (w) t) A) 0 0 A := by
  refine Met.ofW (cc := cX6_isWeather) (maxL := 1) (ret := (some .boolean)) (by decide) rfl ?_
  intro p e s m args below meth c s₁ B hml hv
  obtain ⟨rfl, hK, hH, hTt⟩ := hv
  have hx := B.exec
  have hb := B.bytes
  have hr := B.returns
  have hts := atoms_spec (ws := wsX6_isWeather) B.pre
  have hown : s.vm.findClass RX6 = some m.cls := findClass_of_methodNamed B.named
  have hlocks := B.notSynchronized
  have hl := lv_entry ([.int v]) (n := 1) (Nat.le_of_ble_eq_true rfl)
  rw [lg_entry_eq]
  generalize (lg_sl ([.int v]) ++ List.replicate (1 - (lg_sl ([.int v])).length) Slot.unset).toArray = ls at hl ⊢
  have hl : lv_has ls 1 [(0, .int v)] := hl
  refine lv_iload_n hx hb dX6_isWeather_0 rfl (lv_at hl 0 rfl) ?_
  refine lv_if_lt (tgt := 14) hx hb dX6_isWeather_1 (by decide) (fun c1 => ?_) (fun c1 => ?_)
  · refine lv_iconst (v := 0) hx hb dX6_isWeather_14 (by decide) ?_
    exact x_zret (v := 0) () hx hb hr hlocks (by decide) hK hH (by simp [binI, *]) dX6_isWeather_15
  · refine lv_iload_n hx hb dX6_isWeather_4 rfl (lv_at hl 0 rfl) ?_
    refine lv_bipush (v := 9) hx hb dX6_isWeather_5 (by decide) ?_
    refine lv_icmp_gt (tgt := 14) hx hb dX6_isWeather_7 (by decide) (fun c7 => ?_) (fun c7 => ?_)
    · refine lv_iconst (v := 0) hx hb dX6_isWeather_14 (by decide) ?_
      exact x_zret (v := 0) () hx hb hr hlocks (by decide) hK hH (by simp [binI, *]) dX6_isWeather_15
    · refine lv_iconst (v := 1) hx hb dX6_isWeather_10 (by decide) ?_
      refine lv_goto (tgt := 15) hx hb dX6_isWeather_11 (by decide) ?_
      exact x_zret (v := 1) () hx hb hr hlocks (by decide) hK hH (by simp [binI, *]) dX6_isWeather_15

set_option maxHeartbeats 4000000 in
set_option maxRecDepth 100000 in
theorem c_X6_facesBorneBy (l : Launch) (G : XG) (A : Nat → Prop) (w : XW) (v : Int32) : Met l yX6_facesBorneBy wsX6_facesBorneBy ({ frames := 0, cells := 0, slots := 0, locals := 0 }) (va_Pc [.int v] (xP G A (w))) (va_Qi (fun (r : Int32) (u : Unit) => r = bearI v) (fun u t => xB G A (w) t) A) 0 0 A := by
  refine Met.ofW (cc := cX6_facesBorneBy) (maxL := 1) (ret := (some .int)) (by decide) rfl ?_
  intro p e s m args below meth c s₁ B hml hv
  obtain ⟨rfl, hK, hH, hTt⟩ := hv
  have hx := B.exec
  have hb := B.bytes
  have hr := B.returns
  have hts := atoms_spec (ws := wsX6_facesBorneBy) B.pre
  have hown : s.vm.findClass RX6 = some m.cls := findClass_of_methodNamed B.named
  have hlocks := B.notSynchronized
  have hl := lv_entry ([.int v]) (n := 1) (Nat.le_of_ble_eq_true rfl)
  rw [lg_entry_eq]
  generalize (lg_sl ([.int v]) ++ List.replicate (1 - (lg_sl ([.int v])).length) Slot.unset).toArray = ls at hl ⊢
  have hl : lv_has ls 1 [(0, .int v)] := hl
  refine lv_iload_n hx hb dX6_facesBorneBy_0 rfl (lv_at hl 0 rfl) ?_
  refine lv_bipush (v := 80) hx hb dX6_facesBorneBy_1 (by decide) ?_
  refine lv_icmp_ge (tgt := 8) hx hb dX6_facesBorneBy_3 (by decide) (fun c3 => ?_) (fun c3 => ?_)
  · refine lv_iload_n hx hb dX6_facesBorneBy_8 rfl (lv_at hl 0 rfl) ?_
    refine lv_sipush (v := 150) hx hb dX6_facesBorneBy_9 (by decide) ?_
    refine lv_icmp_ge (tgt := 17) hx hb dX6_facesBorneBy_12 (by decide) (fun c12 => ?_) (fun c12 => ?_)
    · refine lv_iload_n hx hb dX6_facesBorneBy_17 rfl (lv_at hl 0 rfl) ?_
      refine lv_sipush (v := 220) hx hb dX6_facesBorneBy_18 (by decide) ?_
      refine lv_icmp_ge (tgt := 28) hx hb dX6_facesBorneBy_21 (by decide) (fun c21 => ?_) (fun c21 => ?_)
      · refine lv_iconst (v := 3) hx hb dX6_facesBorneBy_28 (by decide) ?_
        exact x_iret (v := 3) () hx hb hr hlocks hK hH (by simp [bearI, *]) dX6_facesBorneBy_29
      · refine lv_iconst (v := 2) hx hb dX6_facesBorneBy_24 (by decide) ?_
        refine lv_goto (tgt := 29) hx hb dX6_facesBorneBy_25 (by decide) ?_
        exact x_iret (v := 2) () hx hb hr hlocks hK hH (by simp [bearI, *]) dX6_facesBorneBy_29
    · refine lv_iconst (v := 1) hx hb dX6_facesBorneBy_15 (by decide) ?_
      exact x_iret (v := 1) () hx hb hr hlocks hK hH (by simp [bearI, *]) dX6_facesBorneBy_16
  · refine lv_iconst (v := 0) hx hb dX6_facesBorneBy_6 (by decide) ?_
    exact x_iret (v := 0) () hx hb hr hlocks hK hH (by simp [bearI, *]) dX6_facesBorneBy_7

set_option maxHeartbeats 4000000 in
set_option maxRecDepth 100000 in
theorem c_X2_stepsBetween (l : Launch) (G : XG) (A : Nat → Prop) (w : XW) (q z : Int32) : Met l yX2_stepsBetween wsX2_stepsBetween ({ frames := 1, cells := 0, slots := 0, locals := 21 }) (va_Pc [.int q, .int z] (xP G A (w))) (va_Qi (fun (r : Int32) (u : Unit) => r = stpI q z) (fun u t => xB G A (w) t) A) 0 0 A := by
  refine Met.ofW (cc := cX2_stepsBetween) (maxL := 2) (ret := (some .int)) (by decide) rfl ?_
  intro p e s m args below meth c s₁ B hml hv
  obtain ⟨rfl, hK, hH, hTt⟩ := hv
  have hx := B.exec
  have hb := B.bytes
  have hr := B.returns
  have hts := atoms_spec (ws := wsX2_stepsBetween) B.pre
  have hown : s.vm.findClass RX2 = some m.cls := findClass_of_methodNamed B.named
  have hlocks := B.notSynchronized
  have hl := lv_entry ([.int q, .int z]) (n := 2) (Nat.le_of_ble_eq_true rfl)
  rw [lg_entry_eq]
  generalize (lg_sl ([.int q, .int z]) ++ List.replicate (2 - (lg_sl ([.int q, .int z])).length) Slot.unset).toArray = ls at hl ⊢
  have hl : lv_has ls 2 [(0, .int q), (1, .int z)] := hl
  refine lv_iload_n hx hb dX2_stepsBetween_0 rfl (lv_at hl 0 rfl) ?_
  refine lv_bipush (v := 100) hx hb dX2_stepsBetween_1 (by decide) ?_
  refine lv_idiv hx hb dX2_stepsBetween_3 (by decide) ?_
  refine lv_iload_n hx hb dX2_stepsBetween_4 rfl (lv_at hl 1 rfl) ?_
  refine lv_bipush (v := 100) hx hb dX2_stepsBetween_5 (by decide) ?_
  refine lv_idiv hx hb dX2_stepsBetween_7 (by decide) ?_
  refine lv_isub hx hb dX2_stepsBetween_8 ?_
  refine va_mabs hx hb (by rw [hml]; exact hl.1.symm) hown (hts (.methodLink RX2 93 Lib.Math.abs.name) (by decide +kernel)) (hts (.static Lib.Math.abs.name) (by decide +kernel)) (hts (.initialized "java/lang/Math") (by decide +kernel)) (hts (.code Lib.Math.abs.name Lib.Math.abs.code 1 (some .int)) (by decide +kernel)) (Nat.le_of_ble_eq_true rfl) (Nat.le_of_ble_eq_true rfl) (Nat.le_of_ble_eq_true rfl) (Nat.le_of_ble_eq_true rfl) dX2_stepsBetween_9 ?_
  refine lv_iload_n hx hb dX2_stepsBetween_12 rfl (lv_at hl 0 rfl) ?_
  refine lv_bipush (v := 100) hx hb dX2_stepsBetween_13 (by decide) ?_
  refine lv_irem hx hb dX2_stepsBetween_15 (by decide) ?_
  refine lv_iload_n hx hb dX2_stepsBetween_16 rfl (lv_at hl 1 rfl) ?_
  refine lv_bipush (v := 100) hx hb dX2_stepsBetween_17 (by decide) ?_
  refine lv_irem hx hb dX2_stepsBetween_19 (by decide) ?_
  refine lv_isub hx hb dX2_stepsBetween_20 ?_
  refine va_mabs hx hb (by rw [hml]; exact hl.1.symm) hown (hts (.methodLink RX2 93 Lib.Math.abs.name) (by decide +kernel)) (hts (.static Lib.Math.abs.name) (by decide +kernel)) (hts (.initialized "java/lang/Math") (by decide +kernel)) (hts (.code Lib.Math.abs.name Lib.Math.abs.code 1 (some .int)) (by decide +kernel)) (Nat.le_of_ble_eq_true rfl) (Nat.le_of_ble_eq_true rfl) (Nat.le_of_ble_eq_true rfl) (Nat.le_of_ble_eq_true rfl) dX2_stepsBetween_21 ?_
  refine lv_iadd hx hb dX2_stepsBetween_24 ?_
  exact x_iret (v := (if 0 ≤ (q / 100) - (z / 100) then (q / 100) - (z / 100) else 0 - ((q / 100) - (z / 100))) + (if 0 ≤ (q - q / 100 * 100) - (z - z / 100 * 100) then (q - q / 100 * 100) - (z - z / 100 * 100) else 0 - ((q - q / 100 * 100) - (z - z / 100 * 100)))) () hx hb hr hlocks hK hH (rfl) dX2_stepsBetween_25

set_option maxHeartbeats 4000000 in
set_option maxRecDepth 100000 in
theorem c_X2_begin (l : Launch) (G : XG) (A : Nat → Prop) (w : XW) (a : Nat) (p1 p2 p3 po pb p6 p7 p8 : Nat) (sz hbf bo bs : Int32) (hc_a : w a = some (.inr (3, [.int sz, .ref p1, .ref p2, .ref p3, .ref po, .ref pb, .ref p6, .ref p7, .ref p8, .int hbf, .int bo, .int bs])))  : Met l yX2_begin wsX2_begin ({ frames := 0, cells := 0, slots := 0, locals := 0 }) (va_Pc [.ref a] (xP G A (w))) (va_Qv (fun (u : XW) => u a = some (.inr (3, [.int 0, .ref p1, .ref p2, .ref p3, .ref po, .ref pb, .ref p6, .ref p7, .ref p8, .int 0, .int bo, .int bs])) ∧ ∀ y, y ≠ a → u y = w y) (fun u t => xB G A (u) t) A) 0 0 A := by
  refine Met.ofW (cc := cX2_begin) (maxL := 1) (ret := none) (by decide) rfl ?_
  intro p e s m args below meth c s₁ B hml hv
  obtain ⟨rfl, hK, hH, hTt⟩ := hv
  have hx := B.exec
  have hb := B.bytes
  have hr := B.returns
  have hts := atoms_spec (ws := wsX2_begin) B.pre
  have hown : s.vm.findClass RX2 = some m.cls := findClass_of_methodNamed B.named
  have hlocks := B.notSynchronized
  have hiX2 : ∀ w ∈ wsX20, w ∈ wsX2_begin := by decide +kernel
  have hf9 := hts (.fieldLink RX2 9 "ResinWoods$Planner" "size" "I") (by decide +kernel)
  have hf51 := hts (.fieldLink RX2 51 "ResinWoods$Planner" "hasBest" "Z") (by decide +kernel)
  have hl := lv_entry ([.ref a]) (n := 1) (Nat.le_of_ble_eq_true rfl)
  rw [lg_entry_eq]
  generalize (lg_sl ([.ref a]) ++ List.replicate (1 - (lg_sl ([.ref a])).length) Slot.unset).toArray = ls at hl ⊢
  have hl : lv_has ls 1 [(0, .ref a)] := hl
  refine lv_aload_n hx hb dX2_begin_0 rfl (lv_at hl 0 rfl) ?_
  refine lv_iconst (v := 0) hx hb dX2_begin_1 (by decide) ?_
  refine x_put (C := RX2) (T := TX2) (N := 12) (ty := .int) hx hb hts hiX2 tyX2 tyX2_ok nmX2 hown hK hH hc_a rfl 0 (by decide) hf9 (fun _ h => h) rfl (by decide +kernel) rfl rfl (Nat.le_of_ble_eq_true rfl) dX2_begin_2 (fun H locs hH => ?_)
  have hH : xH G A s.heap H locs (va_up w a (some (.inr (3, [.int 0, .ref p1, .ref p2, .ref p3, .ref po, .ref pb, .ref p6, .ref p7, .ref p8, .int hbf, .int bo, .int bs])))) := hH
  obtain ⟨w2, ew2⟩ : ∃ z, z = va_up w a (some (.inr (3, [.int 0, .ref p1, .ref p2, .ref p3, .ref po, .ref pb, .ref p6, .ref p7, .ref p8, .int hbf, .int bo, .int bs]))) := ⟨_, rfl⟩
  rw [← ew2] at hH
  have hc_a : w2 a = some (.inr (3, [.int 0, .ref p1, .ref p2, .ref p3, .ref po, .ref pb, .ref p6, .ref p7, .ref p8, .int hbf, .int bo, .int bs])) := by rw [ew2]; exact if_pos rfl
  have hfr : ∀ x, x ≠ a → w2 x = w x := fun x z_a => by rw [ew2]; exact if_neg z_a
  refine lv_aload_n hx hb dX2_begin_5 rfl (lv_at hl 0 rfl) ?_
  refine lv_iconst (v := 0) hx hb dX2_begin_6 (by decide) ?_
  refine x_put (C := RX2) (T := TX2) (N := 12) (ty := .boolean) hx hb hts hiX2 tyX2 tyX2_ok nmX2 hown hK hH hc_a rfl 9 (by decide) hf51 (fun _ h => h) rfl (by decide +kernel) rfl rfl (Nat.le_of_ble_eq_true rfl) dX2_begin_7 (fun H locs hH => ?_)
  have hH : xH G A s.heap H locs (va_up w2 a (some (.inr (3, [.int 0, .ref p1, .ref p2, .ref p3, .ref po, .ref pb, .ref p6, .ref p7, .ref p8, .int 0, .int bo, .int bs])))) := hH
  obtain ⟨w7, ew7⟩ : ∃ z, z = va_up w2 a (some (.inr (3, [.int 0, .ref p1, .ref p2, .ref p3, .ref po, .ref pb, .ref p6, .ref p7, .ref p8, .int 0, .int bo, .int bs]))) := ⟨_, rfl⟩
  rw [← ew7] at hH
  have hc_a : w7 a = some (.inr (3, [.int 0, .ref p1, .ref p2, .ref p3, .ref po, .ref pb, .ref p6, .ref p7, .ref p8, .int 0, .int bo, .int bs])) := by rw [ew7]; exact if_pos rfl
  have hfr : ∀ x, x ≠ a → w7 x = w x := fun x z_a => by rw [ew7]; exact (if_neg z_a).trans (hfr x z_a)
  exact x_vret w7 hx hb hr hlocks hK hH (⟨hc_a, hfr⟩) dX2_begin_10

set_option maxHeartbeats 4000000 in
set_option maxRecDepth 100000 in
theorem c_X2_beatsBest (l : Launch) (G : XG) (A : Nat → Prop) (w : XW) (a : Nat) (p1 p2 p3 po pb p6 p7 p8 : Nat) (sz hbf bo bs : Int32) (hc_a : w a = some (.inr (3, [.int sz, .ref p1, .ref p2, .ref p3, .ref po, .ref pb, .ref p6, .ref p7, .ref p8, .int hbf, .int bo, .int bs]))) (ov st : Int32) : Met l yX2_beatsBest wsX2_beatsBest ({ frames := 0, cells := 0, slots := 0, locals := 0 }) (va_Pc [.ref a, .int ov, .int st] (xP G A (w))) (va_Qi (fun (r : Int32) (u : XW) => r = (if ov < bo then 1 else if ov = bo then (if bs ≤ st then 0 else 1) else 0) ∧ u = w) (fun u t => xB G A (u) t) A) 0 0 A := by
  refine Met.ofW (cc := cX2_beatsBest) (maxL := 3) (ret := (some .boolean)) (by decide) rfl ?_
  intro p e s m args below meth c s₁ B hml hv
  obtain ⟨rfl, hK, hH, hTt⟩ := hv
  have hx := B.exec
  have hb := B.bytes
  have hr := B.returns
  have hts := atoms_spec (ws := wsX2_beatsBest) B.pre
  have hown : s.vm.findClass RX2 = some m.cls := findClass_of_methodNamed B.named
  have hlocks := B.notSynchronized
  have hiX2 : ∀ w ∈ wsX20, w ∈ wsX2_beatsBest := by decide +kernel
  have hf55 := hts (.fieldLink RX2 55 "ResinWoods$Planner" "bestOver" "I") (by decide +kernel)
  have hf58 := hts (.fieldLink RX2 58 "ResinWoods$Planner" "bestSteps" "I") (by decide +kernel)
  have hl := lv_entry ([.ref a, .int ov, .int st]) (n := 3) (Nat.le_of_ble_eq_true rfl)
  rw [lg_entry_eq]
  generalize (lg_sl ([.ref a, .int ov, .int st]) ++ List.replicate (3 - (lg_sl ([.ref a, .int ov, .int st])).length) Slot.unset).toArray = ls at hl ⊢
  have hl : lv_has ls 3 [(0, .ref a), (1, .int ov), (2, .int st)] := hl
  refine lv_iload_n hx hb dX2_beatsBest_0 rfl (lv_at hl 1 rfl) ?_
  refine lv_aload_n hx hb dX2_beatsBest_1 rfl (lv_at hl 0 rfl) ?_
  refine x_get (C := RX2) (T := TX2) (N := 12) hx hb hts hiX2 hown hK hH hc_a rfl 10 (by decide) hf55 (fun _ h => h) (v := .int bo) rfl dX2_beatsBest_2 ?_
  refine lv_icmp_lt (tgt := 24) hx hb dX2_beatsBest_5 (by decide) (fun c5 => ?_) (fun c5 => ?_)
  · refine lv_iconst (v := 1) hx hb dX2_beatsBest_24 (by decide) ?_
    refine lv_goto (tgt := 29) hx hb dX2_beatsBest_25 (by decide) ?_
    exact x_zret (v := 1) w hx hb hr hlocks (by decide) hK hH (⟨by first | (rw [if_pos c5]; done) | (rw [if_neg c5]; first | (rw [if_neg c13]; done) | (rw [if_pos c13]; first | (rw [if_pos c21]; done) | (rw [if_neg c21]))), rfl⟩) dX2_beatsBest_29
  · refine lv_iload_n hx hb dX2_beatsBest_8 rfl (lv_at hl 1 rfl) ?_
    refine lv_aload_n hx hb dX2_beatsBest_9 rfl (lv_at hl 0 rfl) ?_
    refine x_get (C := RX2) (T := TX2) (N := 12) hx hb hts hiX2 hown hK hH hc_a rfl 10 (by decide) hf55 (fun _ h => h) (v := .int bo) rfl dX2_beatsBest_10 ?_
    refine lv_icmp_ne (tgt := 28) hx hb dX2_beatsBest_13 (by decide) (fun c13 => ?_) (fun c13 => ?_)
    · refine lv_iconst (v := 0) hx hb dX2_beatsBest_28 (by decide) ?_
      exact x_zret (v := 0) w hx hb hr hlocks (by decide) hK hH (⟨by first | (rw [if_pos c5]; done) | (rw [if_neg c5]; first | (rw [if_neg c13]; done) | (rw [if_pos c13]; first | (rw [if_pos c21]; done) | (rw [if_neg c21]))), rfl⟩) dX2_beatsBest_29
    · refine lv_iload_n hx hb dX2_beatsBest_16 rfl (lv_at hl 2 rfl) ?_
      refine lv_aload_n hx hb dX2_beatsBest_17 rfl (lv_at hl 0 rfl) ?_
      refine x_get (C := RX2) (T := TX2) (N := 12) hx hb hts hiX2 hown hK hH hc_a rfl 11 (by decide) hf58 (fun _ h => h) (v := .int bs) rfl dX2_beatsBest_18 ?_
      refine lv_icmp_ge (tgt := 28) hx hb dX2_beatsBest_21 (by decide) (fun c21 => ?_) (fun c21 => ?_)
      · refine lv_iconst (v := 0) hx hb dX2_beatsBest_28 (by decide) ?_
        exact x_zret (v := 0) w hx hb hr hlocks (by decide) hK hH (⟨by first | (rw [if_pos c5]; done) | (rw [if_neg c5]; first | (rw [if_neg c13]; done) | (rw [if_pos c13]; first | (rw [if_pos c21]; done) | (rw [if_neg c21]))), rfl⟩) dX2_beatsBest_29
      · refine lv_iconst (v := 1) hx hb dX2_beatsBest_24 (by decide) ?_
        refine lv_goto (tgt := 29) hx hb dX2_beatsBest_25 (by decide) ?_
        exact x_zret (v := 1) w hx hb hr hlocks (by decide) hK hH (⟨by first | (rw [if_pos c5]; done) | (rw [if_neg c5]; first | (rw [if_neg c13]; done) | (rw [if_pos c13]; first | (rw [if_pos c21]; done) | (rw [if_neg c21]))), rfl⟩) dX2_beatsBest_29


def cpf (f g : Nat → Int32) (n : Nat) : Nat → Int32 := fun j => if j < n then f j else g j
theorem cpf_s (f g : Nat → Int32) (i : Nat) : upd (cpf f g i) i (f i) = cpf f g (i + 1) := by
  funext j
  unfold upd cpf
  by_cases h : j = i
  · subst h; simp
  · rw [if_neg h]; simp [show j < i + 1 ↔ j < i by omega]

set_option maxHeartbeats 4000000 in
set_option maxRecDepth 100000 in
theorem c_X2_keepBest (l : Launch) (G : XG) (A : Nat → Prop) (w : XW) (a po pb : Nat) (p1 p2 p3 p6 p7 p8 n : Nat) (hbf bo bs : Int32) (fo fb : Nat → Int32) (hc_a : w a = some (.inr (3, [.int (nI n), .ref p1, .ref p2, .ref p3, .ref po, .ref pb, .ref p6, .ref p7, .ref p8, .int hbf, .int bo, .int bs]))) (hc_po : w po = some (.inl (G.2 0, 6, .inl fo))) (hc_pb : w pb = some (.inl (G.2 0, 6, .inl fb))) (ov st : Int32) (hn : n ≤ 6) (ne_po_pb : po ≠ pb) : Met l yX2_keepBest wsX2_keepBest ({ frames := 0, cells := 0, slots := 0, locals := 0 }) (va_Pc [.ref a, .int ov, .int st] (xP G A (w))) (va_Qv (fun (u : XW) => u a = some (.inr (3, [.int (nI n), .ref p1, .ref p2, .ref p3, .ref po, .ref pb, .ref p6, .ref p7, .ref p8, .int 1, .int ov, .int st])) ∧ u po = some (.inl (G.2 0, 6, .inl fo)) ∧ u pb = some (.inl (G.2 0, 6, .inl (cpf fo fb n))) ∧ ∀ y, y ≠ a → y ≠ po → y ≠ pb → u y = w y) (fun u t => xB G A (u) t) A) 0 0 A := by
  refine Met.ofW (cc := cX2_keepBest) (maxL := 4) (ret := none) (by decide) rfl ?_
  intro p e s m args below meth c s₁ B hml hv
  obtain ⟨rfl, hK, hH, hTt⟩ := hv
  have hx := B.exec
  have hb := B.bytes
  have hr := B.returns
  have hts := atoms_spec (ws := wsX2_keepBest) B.pre
  have hown : s.vm.findClass RX2 = some m.cls := findClass_of_methodNamed B.named
  have hlocks := B.notSynchronized
  have hiX2 : ∀ w ∈ wsX20, w ∈ wsX2_keepBest := by decide +kernel
  have hf9 := hts (.fieldLink RX2 9 "ResinWoods$Planner" "size" "I") (by decide +kernel)
  have hf27 := hts (.fieldLink RX2 27 "ResinWoods$Planner" "order" "[I") (by decide +kernel)
  have hf30 := hts (.fieldLink RX2 30 "ResinWoods$Planner" "best" "[I") (by decide +kernel)
  have hf51 := hts (.fieldLink RX2 51 "ResinWoods$Planner" "hasBest" "Z") (by decide +kernel)
  have hf55 := hts (.fieldLink RX2 55 "ResinWoods$Planner" "bestOver" "I") (by decide +kernel)
  have hf58 := hts (.fieldLink RX2 58 "ResinWoods$Planner" "bestSteps" "I") (by decide +kernel)
  have hl := lv_entry ([.ref a, .int ov, .int st]) (n := 4) (Nat.le_of_ble_eq_true rfl)
  rw [lg_entry_eq]
  generalize (lg_sl ([.ref a, .int ov, .int st]) ++ List.replicate (4 - (lg_sl ([.ref a, .int ov, .int st])).length) Slot.unset).toArray = ls at hl ⊢
  have hl : lv_has ls 4 [(0, .ref a), (1, .int ov), (2, .int st)] := hl
  have ne_a_po : a ≠ po := fun e9 => by rw [e9, hc_po] at hc_a; cases hc_a
  have ne_a_pb : a ≠ pb := fun e9 => by rw [e9, hc_pb] at hc_a; cases hc_a
  have ne_po_a : po ≠ a := fun e9 => by rw [e9, hc_a] at hc_po; cases hc_po
  have ne_pb_a : pb ≠ a := fun e9 => by rw [e9, hc_a] at hc_pb; cases hc_pb
  have ne_pb_po : pb ≠ po := fun e9 => ne_po_pb e9.symm
  refine lv_aload_n hx hb dX2_keepBest_0 rfl (lv_at hl 0 rfl) ?_
  refine lv_iconst (v := 1) hx hb dX2_keepBest_1 (by decide) ?_
  refine x_put (C := RX2) (T := TX2) (N := 12) (ty := .boolean) hx hb hts hiX2 tyX2 tyX2_ok nmX2 hown hK hH hc_a rfl 9 (by decide) hf51 (fun _ h => h) rfl (by decide +kernel) rfl rfl (Nat.le_of_ble_eq_true rfl) dX2_keepBest_2 (fun H locs hH => ?_)
  have hH : xH G A s.heap H locs (va_up w a (some (.inr (3, [.int (nI n), .ref p1, .ref p2, .ref p3, .ref po, .ref pb, .ref p6, .ref p7, .ref p8, .int 1, .int bo, .int bs])))) := hH
  obtain ⟨w2, ew2⟩ : ∃ z, z = va_up w a (some (.inr (3, [.int (nI n), .ref p1, .ref p2, .ref p3, .ref po, .ref pb, .ref p6, .ref p7, .ref p8, .int 1, .int bo, .int bs]))) := ⟨_, rfl⟩
  rw [← ew2] at hH
  have hc_a : w2 a = some (.inr (3, [.int (nI n), .ref p1, .ref p2, .ref p3, .ref po, .ref pb, .ref p6, .ref p7, .ref p8, .int 1, .int bo, .int bs])) := by rw [ew2]; exact if_pos rfl
  have hc_po : w2 po = some (.inl (G.2 0, 6, .inl fo)) := by rw [ew2, show va_up w a _ po = w po from if_neg ne_po_a]; exact hc_po
  have hc_pb : w2 pb = some (.inl (G.2 0, 6, .inl fb)) := by rw [ew2, show va_up w a _ pb = w pb from if_neg ne_pb_a]; exact hc_pb
  have hfr : ∀ x, x ≠ a → x ≠ po → x ≠ pb → w2 x = w x := fun x z_a z_po z_pb => by rw [ew2]; exact if_neg z_a
  refine lv_aload_n hx hb dX2_keepBest_5 rfl (lv_at hl 0 rfl) ?_
  refine lv_iload_n hx hb dX2_keepBest_6 rfl (lv_at hl 1 rfl) ?_
  refine x_put (C := RX2) (T := TX2) (N := 12) (ty := .int) hx hb hts hiX2 tyX2 tyX2_ok nmX2 hown hK hH hc_a rfl 10 (by decide) hf55 (fun _ h => h) rfl (by decide +kernel) rfl rfl (Nat.le_of_ble_eq_true rfl) dX2_keepBest_7 (fun H locs hH => ?_)
  have hH : xH G A s.heap H locs (va_up w2 a (some (.inr (3, [.int (nI n), .ref p1, .ref p2, .ref p3, .ref po, .ref pb, .ref p6, .ref p7, .ref p8, .int 1, .int ov, .int bs])))) := hH
  obtain ⟨w7, ew7⟩ : ∃ z, z = va_up w2 a (some (.inr (3, [.int (nI n), .ref p1, .ref p2, .ref p3, .ref po, .ref pb, .ref p6, .ref p7, .ref p8, .int 1, .int ov, .int bs]))) := ⟨_, rfl⟩
  rw [← ew7] at hH
  have hc_a : w7 a = some (.inr (3, [.int (nI n), .ref p1, .ref p2, .ref p3, .ref po, .ref pb, .ref p6, .ref p7, .ref p8, .int 1, .int ov, .int bs])) := by rw [ew7]; exact if_pos rfl
  have hc_po : w7 po = some (.inl (G.2 0, 6, .inl fo)) := by rw [ew7, show va_up w2 a _ po = w2 po from if_neg ne_po_a]; exact hc_po
  have hc_pb : w7 pb = some (.inl (G.2 0, 6, .inl fb)) := by rw [ew7, show va_up w2 a _ pb = w2 pb from if_neg ne_pb_a]; exact hc_pb
  have hfr : ∀ x, x ≠ a → x ≠ po → x ≠ pb → w7 x = w x := fun x z_a z_po z_pb => by rw [ew7]; exact (if_neg z_a).trans (hfr x z_a z_po z_pb)
  refine lv_aload_n hx hb dX2_keepBest_10 rfl (lv_at hl 0 rfl) ?_
  refine lv_iload_n hx hb dX2_keepBest_11 rfl (lv_at hl 2 rfl) ?_
  refine x_put (C := RX2) (T := TX2) (N := 12) (ty := .int) hx hb hts hiX2 tyX2 tyX2_ok nmX2 hown hK hH hc_a rfl 11 (by decide) hf58 (fun _ h => h) rfl (by decide +kernel) rfl rfl (Nat.le_of_ble_eq_true rfl) dX2_keepBest_12 (fun H locs hH => ?_)
  have hH : xH G A s.heap H locs (va_up w7 a (some (.inr (3, [.int (nI n), .ref p1, .ref p2, .ref p3, .ref po, .ref pb, .ref p6, .ref p7, .ref p8, .int 1, .int ov, .int st])))) := hH
  obtain ⟨w12, ew12⟩ : ∃ z, z = va_up w7 a (some (.inr (3, [.int (nI n), .ref p1, .ref p2, .ref p3, .ref po, .ref pb, .ref p6, .ref p7, .ref p8, .int 1, .int ov, .int st]))) := ⟨_, rfl⟩
  rw [← ew12] at hH
  have hc_a : w12 a = some (.inr (3, [.int (nI n), .ref p1, .ref p2, .ref p3, .ref po, .ref pb, .ref p6, .ref p7, .ref p8, .int 1, .int ov, .int st])) := by rw [ew12]; exact if_pos rfl
  have hc_po : w12 po = some (.inl (G.2 0, 6, .inl fo)) := by rw [ew12, show va_up w7 a _ po = w7 po from if_neg ne_po_a]; exact hc_po
  have hc_pb : w12 pb = some (.inl (G.2 0, 6, .inl fb)) := by rw [ew12, show va_up w7 a _ pb = w7 pb from if_neg ne_pb_a]; exact hc_pb
  have hfr : ∀ x, x ≠ a → x ≠ po → x ≠ pb → w12 x = w x := fun x z_a z_po z_pb => by rw [ew12]; exact (if_neg z_a).trans (hfr x z_a z_po z_pb)
  refine lv_iconst (v := 0) hx hb dX2_keepBest_15 (by decide) ?_
  refine lv_istore_n (lv' := [(3, .int 0), (0, .ref a), (1, .int ov), (2, .int st)]) hx hb dX2_keepBest_16 rfl hl (by decide) rfl (fun ls hl => ?_)
  suffices loop17 : ∀ (k17 : Nat) (i : Nat) (wl : XW) (f1 : Nat → Int32), (n < i + k17) → (i ≤ n) → (f1 = cpf fo fb i) → (wl a = some (.inr (3, [.int (nI n), .ref p1, .ref p2, .ref p3, .ref po, .ref pb, .ref p6, .ref p7, .ref p8, .int 1, .int ov, .int st]))) → (wl po = some (.inl (G.2 0, 6, .inl fo))) → (wl pb = some (.inl (G.2 0, 6, .inl f1))) → (∀ y, y ≠ a → y ≠ po → y ≠ pb → wl y = w y) → ∀ (H : Heap) (locs : List Loc), xH G A s.heap H locs (wl) → ∀ (ls : Array Slot), lv_has ls 4 [(0, .ref a), (1, .int ov), (2, .int st), (3, .int (nI i))] → W p l e (headSpec wsX2_keepBest _).room s m _ below meth c H locs 0 0 (MQ below _ _ s 0 0 A) (F0 m 17 ls []) from
    loop17 (n + 1) 0 w12 fb (by omega) (by omega) (by funext j; simp [cpf]) (hc_a) (hc_po) (hc_pb) (hfr) _ _ hH ls (lv_sub hl [1, 2, 3, 0] rfl)
  intro k17
  induction k17 with
  | zero =>
    intro i wl f1 hfuel hi hf1 hc_a hc_po hc_pb hfr H locs hH ls hl
    exact absurd hfuel (by omega)
  | succ k17 ih17 =>
    intro i wl f1 hfuel hi hf1 hc_a hc_po hc_pb hfr H locs hH ls hl
    refine lv_iload_n hx hb dX2_keepBest_17 rfl (lv_at hl 3 rfl) ?_
    refine lv_aload_n hx hb dX2_keepBest_18 rfl (lv_at hl 0 rfl) ?_
    refine x_get (C := RX2) (T := TX2) (N := 12) hx hb hts hiX2 hown hK hH hc_a rfl 0 (by decide) hf9 (fun _ h => h) (v := .int (nI n)) rfl dX2_keepBest_19 ?_
    refine lv_icmp_ge (tgt := 43) hx hb dX2_keepBest_22 (by decide) (fun c22 => ?_) (fun c22 => ?_)
    · have c22 : n ≤ i := (nI_leI (a := n) (b := i) (by omega) (by omega)).mp c22
      exact x_vret wl hx hb hr hlocks hK hH (by have e8 : f1 = cpf fo fb n := (by rw [hf1, show i = n by omega]); subst e8; exact ⟨hc_a, hc_po, hc_pb, hfr⟩) dX2_keepBest_43
    · have c22 : ¬ n ≤ i := fun zz => c22 ((nI_leI (a := n) (b := i) (by omega) (by omega)).mpr zz)
      refine lv_aload_n hx hb dX2_keepBest_25 rfl (lv_at hl 0 rfl) ?_
      refine x_get (C := RX2) (T := TX2) (N := 12) hx hb hts hiX2 hown hK hH hc_a rfl 5 (by decide) hf30 (fun _ h => h) (v := .ref pb) rfl dX2_keepBest_26 ?_
      refine lv_iload_n hx hb dX2_keepBest_29 rfl (lv_at hl 3 rfl) ?_
      refine lv_aload_n hx hb dX2_keepBest_30 rfl (lv_at hl 0 rfl) ?_
      refine x_get (C := RX2) (T := TX2) (N := 12) hx hb hts hiX2 hown hK hH hc_a rfl 4 (by decide) hf27 (fun _ h => h) (v := .ref po) rfl dX2_keepBest_31 ?_
      refine lv_iload_n hx hb dX2_keepBest_34 rfl (lv_at hl 3 rfl) ?_
      refine Y_iald hx hb hK hH hc_po i rfl (by omega) (by decide) dX2_keepBest_35 ?_
      refine Y_iast hx hb hK hH hc_pb i rfl (by omega) (by decide) dX2_keepBest_36 (fun H locs hH => ?_)
      have hH : xH G A s.heap H locs (va_up wl pb (some (.inl (G.2 0, 6, .inl (upd f1 i (fo i)))))) := hH
      obtain ⟨w36, ew36⟩ : ∃ z, z = va_up wl pb (some (.inl (G.2 0, 6, .inl (upd f1 i (fo i))))) := ⟨_, rfl⟩
      rw [← ew36] at hH
      have hc_a : w36 a = some (.inr (3, [.int (nI n), .ref p1, .ref p2, .ref p3, .ref po, .ref pb, .ref p6, .ref p7, .ref p8, .int 1, .int ov, .int st])) := by rw [ew36, show va_up wl pb _ a = wl a from if_neg ne_a_pb]; exact hc_a
      have hc_po : w36 po = some (.inl (G.2 0, 6, .inl fo)) := by rw [ew36, show va_up wl pb _ po = wl po from if_neg ne_po_pb]; exact hc_po
      have hc_pb : w36 pb = some (.inl (G.2 0, 6, .inl (upd f1 i (fo i)))) := by rw [ew36]; exact if_pos rfl
      have hfr : ∀ x, x ≠ a → x ≠ po → x ≠ pb → w36 x = w x := fun x z_a z_po z_pb => by rw [ew36]; exact (if_neg z_pb).trans (hfr x z_a z_po z_pb)
      refine lv_iinc (v := nI (i + 1)) (lv' := [(3, .int (nI (i + 1))), (0, .ref a), (1, .int ov), (2, .int st)]) hx hb dX2_keepBest_37 hl (k := 3) rfl (by exact nI_add _ 1) (by decide) rfl (fun ls hl => ?_)
      refine lv_goto (tgt := 17) hx hb dX2_keepBest_40 (by decide) ?_
      exact ih17 (i + 1) w36 (upd f1 i (fo i)) (by omega) (by omega) (by rw [hf1]; exact cpf_s fo fb i) (hc_a) (hc_po) (hc_pb) (hfr) _ _ hH ls (lv_sub hl [1, 2, 3, 0] rfl)


theorem gradC4_3 {has : Int32} {f : Nat → Int32} {k : Nat} (h : gradC4 has f = nI k) (hk : k ≤ 3) : minI (gradC4 has f) 3 = nI k := by
  unfold minI
  rw [h, if_neg (show ¬ (3 : Int32) < nI k from fun z => absurd ((nI_ltI (a := 3) (by decide) (by omega)).mp z) (by omega))]

set_option maxHeartbeats 4000000 in
set_option maxRecDepth 100000 in
theorem c_X0_rosinOf (l : Launch) (G : XG) (A : Nat → Prop) (w : XW) (a ga : Nat) (wd ta : Nat) (has stl pd : Int32) (f : Nat → Int32) (hc_a : w a = some (.inr (1, [.ref wd, .int has, .ref ga, .ref ta, .int stl, .int pd]))) (hc_ga : w ga = some (.inl (G.2 0, 4, .inl f))) (k : Nat) (hk : gradC4 has f = nI k) (hk3 : k ≤ 3) : Met l yX0_rosinOf wsX0_rosinOf ({ frames := 1, cells := 0, slots := 0, locals := 22 }) (va_Pc [.ref a] (xP G A (w))) (va_Qi (fun (r : Int32) (u : XW) => r = has * rosV k / 100 ∧ u = w) (fun u t => xB G A (u) t) A) 0 0 A := by
  refine Met.ofW (cc := cX0_rosinOf) (maxL := 1) (ret := (some .int)) (by decide) rfl ?_
  intro p e s m args below meth c s₁ B hml hv
  obtain ⟨rfl, hK, hH, hTt⟩ := hv
  have hx := B.exec
  have hb := B.bytes
  have hr := B.returns
  have hts := atoms_spec (ws := wsX0_rosinOf) B.pre
  have hown : s.vm.findClass RX0 = some m.cls := findClass_of_methodNamed B.named
  have hlocks := B.notSynchronized
  have hiX0 : ∀ w ∈ wsX00, w ∈ wsX0_rosinOf := by decide +kernel
  have hf9 := hts (.fieldLink RX0 9 "ResinWoods$Barrel" "has" "I") (by decide +kernel)
  have hl := lv_entry ([.ref a]) (n := 1) (Nat.le_of_ble_eq_true rfl)
  rw [lg_entry_eq]
  generalize (lg_sl ([.ref a]) ++ List.replicate (1 - (lg_sl ([.ref a])).length) Slot.unset).toArray = ls at hl ⊢
  have hl : lv_has ls 1 [(0, .ref a)] := hl
  have ne_a_ga : a ≠ ga := fun e9 => by rw [e9, hc_ga] at hc_a; cases hc_a
  have ne_ga_a : ga ≠ a := fun e9 => by rw [e9, hc_a] at hc_ga; cases hc_ga
  refine lv_aload_n hx hb dX0_rosinOf_0 rfl (lv_at hl 0 rfl) ?_
  refine x_get (C := RX0) (T := TX0) (N := 6) hx hb hts hiX0 hown hK hH hc_a rfl 1 (by decide) hf9 (fun _ h => h) (v := .int has) rfl dX0_rosinOf_1 ?_
  refine va_getsN (C := "ResinWoods") (n := "ROSIN_PARTS") (d := "[I") (host := RX6) hx hb hTt.1.2.2.1 hH.2.1 hown (va_Nw.use rfl hTt.2.1.2.1) (fun _ h => h) dX0_rosinOf_4 ?_
  refine lv_aload_n hx hb dX0_rosinOf_7 rfl (lv_at hl 0 rfl) ?_
  refine x_calli (va_runV (As := []) (rest := [.ref (G.2 11), .int has]) ⟨hx, hb, hml, hown, hts⟩ (c_X0_gradeOf l G A _ a ga wd ta has stl pd f hc_a hc_ga) (cwV 0 hts gX0_rosinOf_X0_gradeOf rfl rfl rfl (by decide +kernel) ⟨Nat.le_of_ble_eq_true rfl, Nat.le_of_ble_eq_true rfl⟩) (x_preV hK hH hTt (hc_a) rfl []) rfl rfl hl.1 rfl (lv_room (Nat.le_of_ble_eq_true rfl)) dX0_rosinOf_8 ⟨Nat.le_of_ble_eq_true rfl, Nat.le_of_ble_eq_true rfl⟩) hH (fun r8 u H locs hp hH => ?_)
  obtain ⟨rfl, hu9⟩ := hp
  rw [hu9] at hH
  refine lv_iconst (v := 3) hx hb dX0_rosinOf_11 (by decide) ?_
  refine va_mmin hx hb (by rw [hml]; exact hl.1.symm) hown (hts (.methodLink RX0 52 Lib.Math.min.name) (by decide +kernel)) (hts (.static Lib.Math.min.name) (by decide +kernel)) (hts (.initialized "java/lang/Math") (by decide +kernel)) (hts (.code Lib.Math.min.name Lib.Math.min.code 2 (some .int)) (by decide +kernel)) (Nat.le_of_ble_eq_true rfl) (Nat.le_of_ble_eq_true rfl) (Nat.le_of_ble_eq_true rfl) (Nat.le_of_ble_eq_true rfl) dX0_rosinOf_12 ?_
  refine lv_topi (fun v15 ev15 => ?_)
  have hv15 : v15 = nI k := ev15.trans (gradC4_3 hk hk3)
  refine va_ti (v := .int (rosV k)) hx hb hTt.1.2.2.2.1 hH.2.1 (vI_in hv15 (by omega) (by decide)) (by rw [hv15, nI_clamp (by omega)]) dX0_rosinOf_15 ?_
  refine lv_imul hx hb dX0_rosinOf_16 ?_
  refine lv_bipush (v := 100) hx hb dX0_rosinOf_17 (by decide) ?_
  refine lv_idiv hx hb dX0_rosinOf_19 (by decide) ?_
  exact x_iret (v := (has * (rosV k)) / 100) w hx hb hr hlocks hK hH (⟨rfl, rfl⟩) dX0_rosinOf_20
