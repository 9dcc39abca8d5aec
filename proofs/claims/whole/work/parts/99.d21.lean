
theorem upd_w5 (i : Nat) : upd (w5 i 1) i 5 = w5 (i + 1) 1 := congrFun (w5_s i) 1
theorem w5_00 : (fun _ => 0 : Nat → Int32) = w5 0 1 := funext fun j => (if_neg fun z => absurd z.2 (Nat.not_lt_zero j)).symm
theorem wa_s (wa : Nat → Nat) (i q : Nat) : va_up (fun j => if j < i then some (wa j) else none) i (some q) = fun j => if j < i + 1 then some (va_up wa i q j) else none := by
  funext j
  show (if j = i then some q else if j < i then some (wa j) else none) = if j < i + 1 then some (if j = i then q else wa j) else none
  by_cases h : j = i
  · rw [if_pos h, if_pos (by omega), if_pos h]
  · by_cases h2 : j < i
    · rw [if_neg h, if_pos h2, if_pos (by omega), if_neg h]
    · rw [if_neg h, if_neg h2, if_neg (by omega)]

set_option maxHeartbeats 4000000 in
set_option maxRecDepth 100000 in
theorem c_X6_init (l : Launch) (G : XG) (A : Nat → Prop) (w : XW) (a : Nat)  (hc_a : w a = some (.inr (7, [.null, .null, .null, .null, .null, .null, .null, .int 0, .int 0, .int 0, .int 0, .int 0])))  : Met l yX6_init wsX6_init ({ frames := 4, cells := 28, slots := 7563, locals := 84 }) (va_Pc [.ref a] (xP G A (w))) (va_Qv (fun (u : XW) => ∃ O1 : Nat → Prop, CI G u a O1 (fun _ => 0) (w5 3650) ∧ (∀ y, O1 y → y = a ∨ w y = none) ∧ ∀ y, y ≠ a → w y ≠ none → u y = w y) (fun u t => xB G A (u) t) A) 28 7563 A := by
  refine Met.ofW (cc := cX6_init) (maxL := 2) (ret := none) (by decide) rfl ?_
  intro p e s m args below meth c s₁ B hml hv
  obtain ⟨rfl, hK, hH, hTt⟩ := hv
  have hx := B.exec
  have hb := B.bytes
  have hr := B.returns
  have hts := atoms_spec (ws := wsX6_init) B.pre
  have hown : s.vm.findClass RX6 = some m.cls := findClass_of_methodNamed B.named
  have hlocks := B.notSynchronized
  have hiJx4a65c : ∀ w ∈ wsJx4a65c0, w ∈ wsX6_init := by decide +kernel
  have hiX2 : ∀ w ∈ wsX20, w ∈ wsX6_init := by decide +kernel
  have hiX3 : ∀ w ∈ wsX30, w ∈ wsX6_init := by decide +kernel
  have hiX5 : ∀ w ∈ wsX50, w ∈ wsX6_init := by decide +kernel
  have hiX6 : ∀ w ∈ wsX60, w ∈ wsX6_init := by decide +kernel
  have hf9 := hts (.fieldLink RX6 9 "ResinWoods" "warmths" "[B") (by decide +kernel)
  have hf13 := hts (.fieldLink RX6 13 "ResinWoods" "rains" "[B") (by decide +kernel)
  have hf18 := hts (.fieldLink RX6 18 "ResinWoods" "woods" "[LResinWoods$Wood;") (by decide +kernel)
  have hf25 := hts (.fieldLink RX6 25 "ResinWoods" "trees" "Ljava/util/List;") (by decide +kernel)
  have hf29 := hts (.fieldLink RX6 29 "ResinWoods" "barrels" "Ljava/util/List;") (by decide +kernel)
  have hf35 := hts (.fieldLink RX6 35 "ResinWoods" "tally" "LResinWoods$Tally;") (by decide +kernel)
  have hf42 := hts (.fieldLink RX6 42 "ResinWoods" "planner" "LResinWoods$Planner;") (by decide +kernel)
  have hf46 := hts (.fieldLink RX6 46 "ResinWoods" "now" "I") (by decide +kernel)
  have hf50 := hts (.fieldLink RX6 50 "ResinWoods" "emptied" "I") (by decide +kernel)
  have hf53 := hts (.fieldLink RX6 53 "ResinWoods" "burnt" "I") (by decide +kernel)
  have hf56 := hts (.fieldLink RX6 56 "ResinWoods" "spirit" "I") (by decide +kernel)
  have hf59 := hts (.fieldLink RX6 59 "ResinWoods" "rosin" "I") (by decide +kernel)
  have hl := lv_entry ([.ref a]) (n := 2) (Nat.le_of_ble_eq_true rfl)
  rw [lg_entry_eq]
  generalize (lg_sl ([.ref a]) ++ List.replicate (2 - (lg_sl ([.ref a])).length) Slot.unset).toArray = ls at hl ⊢
  have hl : lv_has ls 2 [(0, .ref a)] := hl
  have hmn : meth.name = "<init>" := (name_of_methodNamed B.named B.method).1
  refine lv_aload_n hx hb dX6_init_0 rfl (lv_at hl 0 rfl) ?_
  refine W.objInit hx hb hown (hts (.methodLink RX6 3 objectInit) (by decide +kernel)) (hts (.instanceMethod objectInit) (by decide +kernel)) (hts (.code objectInit ⟨#[0xb1]⟩ 1 none) (by decide +kernel)) rfl (by rw [hml]; exact hl.1) rfl dX6_init_1 (Nat.le_of_ble_eq_true rfl) (Nat.le_of_ble_eq_true rfl) ?_
  refine W.eq (g2 := F0 m 4 ls []) rfl ?_
  refine lv_aload_n hx hb dX6_init_4 rfl (lv_at hl 0 rfl) ?_
  refine lv_sipush (v := 3650) hx hb dX6_init_5 (by decide) ?_
  refine Y_newB hx hb hK hH (hts (.arrayClass .byte) (by decide +kernel)) 3650 rfl (by decide) (Nat.le_of_ble_eq_true rfl) (Nat.le_of_ble_eq_true rfl) dX6_init_8 (fun q8 H hq8 hH => ?_)
  have ne_a_q8 : a ≠ q8 := fun e9 => by rw [e9, hq8] at hc_a; cases hc_a
  have ne_q8_a : q8 ≠ a := fun e9 => ne_a_q8 e9.symm
  obtain ⟨w8, ew8⟩ : ∃ z, z = va_up w q8 (some (.inl (G.2 2, 3650, .inl (fun _ => 0)))) := ⟨_, rfl⟩
  have hH : xH G A s.heap H _ (va_up w q8 (some (.inl (G.2 2, 3650, .inl (fun _ => 0))))) := hH
  rw [← ew8] at hH
  have hc_q8 : w8 q8 = some (.inl (G.2 2, 3650, .inl (fun _ => 0))) := by rw [ew8]; exact if_pos rfl
  have hc_a : w8 a = some (.inr (7, [.null, .null, .null, .null, .null, .null, .null, .int 0, .int 0, .int 0, .int 0, .int 0])) := by rw [ew8]; exact (if_neg ne_a_q8).trans hc_a
  have hn_q8 : w q8 = none := hq8
  have hfr : ∀ x, x ≠ a → x ≠ q8 → w8 x = w x := fun x z_a z_q8 => by rw [ew8]; exact if_neg z_q8
  refine x_putF (C := RX6) (T := TX6) (N := 12) (ty := .array .byte) hx hb hts hiX6 tyX6 tyX6_ok nmX6 hown hK hH hc_a rfl 0 (by decide) hf9 (fun _ h => h) rfl hmn rfl (by decide +kernel) rfl rfl (Nat.le_of_ble_eq_true rfl) dX6_init_10 (fun H locs hH => ?_)
  have hH : xH G A s.heap H locs (va_up w8 a (some (.inr (7, [.ref q8, .null, .null, .null, .null, .null, .null, .int 0, .int 0, .int 0, .int 0, .int 0])))) := hH
  obtain ⟨w10, ew10⟩ : ∃ z, z = va_up w8 a (some (.inr (7, [.ref q8, .null, .null, .null, .null, .null, .null, .int 0, .int 0, .int 0, .int 0, .int 0]))) := ⟨_, rfl⟩
  rw [← ew10] at hH
  have hc_a : w10 a = some (.inr (7, [.ref q8, .null, .null, .null, .null, .null, .null, .int 0, .int 0, .int 0, .int 0, .int 0])) := by rw [ew10]; exact if_pos rfl
  have hc_q8 : w10 q8 = some (.inl (G.2 2, 3650, .inl (fun _ => 0))) := by rw [ew10, show va_up w8 a _ q8 = w8 q8 from if_neg ne_q8_a]; exact hc_q8
  have hfr : ∀ x, x ≠ a → x ≠ q8 → w10 x = w x := fun x z_a z_q8 => by rw [ew10]; exact (if_neg z_a).trans (hfr x z_a z_q8)
  refine lv_aload_n hx hb dX6_init_13 rfl (lv_at hl 0 rfl) ?_
  refine lv_sipush (v := 3650) hx hb dX6_init_14 (by decide) ?_
  refine Y_newB hx hb hK hH (hts (.arrayClass .byte) (by decide +kernel)) 3650 rfl (by decide) (Nat.le_of_ble_eq_true rfl) (Nat.le_of_ble_eq_true rfl) dX6_init_17 (fun q17 H hq17 hH => ?_)
  have ne_a_q17 : a ≠ q17 := fun e9 => by rw [e9, hq17] at hc_a; cases hc_a
  have ne_q17_a : q17 ≠ a := fun e9 => ne_a_q17 e9.symm
  have ne_q8_q17 : q8 ≠ q17 := fun e9 => by rw [e9, hq17] at hc_q8; cases hc_q8
  have ne_q17_q8 : q17 ≠ q8 := fun e9 => ne_q8_q17 e9.symm
  obtain ⟨w17, ew17⟩ : ∃ z, z = va_up w10 q17 (some (.inl (G.2 2, 3650, .inl (fun _ => 0)))) := ⟨_, rfl⟩
  have hH : xH G A s.heap H _ (va_up w10 q17 (some (.inl (G.2 2, 3650, .inl (fun _ => 0))))) := hH
  rw [← ew17] at hH
  have hc_q17 : w17 q17 = some (.inl (G.2 2, 3650, .inl (fun _ => 0))) := by rw [ew17]; exact if_pos rfl
  have hc_a : w17 a = some (.inr (7, [.ref q8, .null, .null, .null, .null, .null, .null, .int 0, .int 0, .int 0, .int 0, .int 0])) := by rw [ew17]; exact (if_neg ne_a_q17).trans hc_a
  have hc_q8 : w17 q8 = some (.inl (G.2 2, 3650, .inl (fun _ => 0))) := by rw [ew17]; exact (if_neg ne_q8_q17).trans hc_q8
  have hn_q17 : w q17 = none := (hfr q17 ne_q17_a ne_q17_q8).symm.trans hq17
  have hfr : ∀ x, x ≠ a → x ≠ q8 → x ≠ q17 → w17 x = w x := fun x z_a z_q8 z_q17 => by rw [ew17]; exact (if_neg z_q17).trans (hfr x z_a z_q8)
  refine x_putF (C := RX6) (T := TX6) (N := 12) (ty := .array .byte) hx hb hts hiX6 tyX6 tyX6_ok nmX6 hown hK hH hc_a rfl 1 (by decide) hf13 (fun _ h => h) rfl hmn rfl (by decide +kernel) rfl rfl (Nat.le_of_ble_eq_true rfl) dX6_init_19 (fun H locs hH => ?_)
  have hH : xH G A s.heap H locs (va_up w17 a (some (.inr (7, [.ref q8, .ref q17, .null, .null, .null, .null, .null, .int 0, .int 0, .int 0, .int 0, .int 0])))) := hH
  obtain ⟨w19, ew19⟩ : ∃ z, z = va_up w17 a (some (.inr (7, [.ref q8, .ref q17, .null, .null, .null, .null, .null, .int 0, .int 0, .int 0, .int 0, .int 0]))) := ⟨_, rfl⟩
  rw [← ew19] at hH
  have hc_a : w19 a = some (.inr (7, [.ref q8, .ref q17, .null, .null, .null, .null, .null, .int 0, .int 0, .int 0, .int 0, .int 0])) := by rw [ew19]; exact if_pos rfl
  have hc_q8 : w19 q8 = some (.inl (G.2 2, 3650, .inl (fun _ => 0))) := by rw [ew19, show va_up w17 a _ q8 = w17 q8 from if_neg ne_q8_a]; exact hc_q8
  have hc_q17 : w19 q17 = some (.inl (G.2 2, 3650, .inl (fun _ => 0))) := by rw [ew19, show va_up w17 a _ q17 = w17 q17 from if_neg ne_q17_a]; exact hc_q17
  have hfr : ∀ x, x ≠ a → x ≠ q8 → x ≠ q17 → w19 x = w x := fun x z_a z_q8 z_q17 => by rw [ew19]; exact (if_neg z_a).trans (hfr x z_a z_q8 z_q17)
  refine lv_aload_n hx hb dX6_init_22 rfl (lv_at hl 0 rfl) ?_
  refine lv_bipush (v := 6) hx hb dX6_init_23 (by decide) ?_
  refine x_newq (z := 3) (C := RX5) hx hb rfl hown (hts (.classLink RX6 16 RX5) (by decide +kernel)) hTt.2.2.2.2.2.2.1 hK hH 6 rfl (by decide) (Nat.le_of_ble_eq_true rfl) (Nat.le_of_ble_eq_true rfl) dX6_init_25 (fun q25 H hq25 hH => ?_)
  have ne_a_q25 : a ≠ q25 := fun e9 => by rw [e9, hq25] at hc_a; cases hc_a
  have ne_q25_a : q25 ≠ a := fun e9 => ne_a_q25 e9.symm
  have ne_q8_q25 : q8 ≠ q25 := fun e9 => by rw [e9, hq25] at hc_q8; cases hc_q8
  have ne_q25_q8 : q25 ≠ q8 := fun e9 => ne_q8_q25 e9.symm
  have ne_q17_q25 : q17 ≠ q25 := fun e9 => by rw [e9, hq25] at hc_q17; cases hc_q17
  have ne_q25_q17 : q25 ≠ q17 := fun e9 => ne_q17_q25 e9.symm
  obtain ⟨w25, ew25⟩ : ∃ z, z = va_up w19 q25 (some (.inl (G.2 3, 6, .inr (.inr (.inr (.inr (fun _ => none))))))) := ⟨_, rfl⟩
  have hH : xH G A s.heap H _ (va_up w19 q25 (some (.inl (G.2 3, 6, .inr (.inr (.inr (.inr (fun _ => none)))))))) := hH
  rw [← ew25] at hH
  have hc_q25 : w25 q25 = some (.inl (G.2 3, 6, .inr (.inr (.inr (.inr (fun _ => none)))))) := by rw [ew25]; exact if_pos rfl
  have hc_a : w25 a = some (.inr (7, [.ref q8, .ref q17, .null, .null, .null, .null, .null, .int 0, .int 0, .int 0, .int 0, .int 0])) := by rw [ew25]; exact (if_neg ne_a_q25).trans hc_a
  have hc_q8 : w25 q8 = some (.inl (G.2 2, 3650, .inl (fun _ => 0))) := by rw [ew25]; exact (if_neg ne_q8_q25).trans hc_q8
  have hc_q17 : w25 q17 = some (.inl (G.2 2, 3650, .inl (fun _ => 0))) := by rw [ew25]; exact (if_neg ne_q17_q25).trans hc_q17
  have hn_q25 : w q25 = none := (hfr q25 ne_q25_a ne_q25_q8 ne_q25_q17).symm.trans hq25
  have hfr : ∀ x, x ≠ a → x ≠ q8 → x ≠ q17 → x ≠ q25 → w25 x = w x := fun x z_a z_q8 z_q17 z_q25 => by rw [ew25]; exact (if_neg z_q25).trans (hfr x z_a z_q8 z_q17)
  refine x_putF (C := RX6) (T := TX6) (N := 12) (ty := .array (.object "ResinWoods$Wood")) hx hb hts hiX6 tyX6 tyX6_ok nmX6 hown hK hH hc_a rfl 2 (by decide) hf18 (fun _ h => h) rfl hmn rfl (by decide +kernel) rfl rfl (Nat.le_of_ble_eq_true rfl) dX6_init_28 (fun H locs hH => ?_)
  have hH : xH G A s.heap H locs (va_up w25 a (some (.inr (7, [.ref q8, .ref q17, .ref q25, .null, .null, .null, .null, .int 0, .int 0, .int 0, .int 0, .int 0])))) := hH
  obtain ⟨w28, ew28⟩ : ∃ z, z = va_up w25 a (some (.inr (7, [.ref q8, .ref q17, .ref q25, .null, .null, .null, .null, .int 0, .int 0, .int 0, .int 0, .int 0]))) := ⟨_, rfl⟩
  rw [← ew28] at hH
  have hc_a : w28 a = some (.inr (7, [.ref q8, .ref q17, .ref q25, .null, .null, .null, .null, .int 0, .int 0, .int 0, .int 0, .int 0])) := by rw [ew28]; exact if_pos rfl
  have hc_q8 : w28 q8 = some (.inl (G.2 2, 3650, .inl (fun _ => 0))) := by rw [ew28, show va_up w25 a _ q8 = w25 q8 from if_neg ne_q8_a]; exact hc_q8
  have hc_q17 : w28 q17 = some (.inl (G.2 2, 3650, .inl (fun _ => 0))) := by rw [ew28, show va_up w25 a _ q17 = w25 q17 from if_neg ne_q17_a]; exact hc_q17
  have hc_q25 : w28 q25 = some (.inl (G.2 3, 6, .inr (.inr (.inr (.inr (fun _ => none)))))) := by rw [ew28, show va_up w25 a _ q25 = w25 q25 from if_neg ne_q25_a]; exact hc_q25
  have hfr : ∀ x, x ≠ a → x ≠ q8 → x ≠ q17 → x ≠ q25 → w28 x = w x := fun x z_a z_q8 z_q17 z_q25 => by rw [ew28]; exact (if_neg z_a).trans (hfr x z_a z_q8 z_q17 z_q25)
  refine lv_aload_n hx hb dX6_init_31 rfl (lv_at hl 0 rfl) ?_
  refine x_new (C := RJx4a65c) (T := TJx4a65c) (N := 3) (ci := 0) (fs := [.int 0, .null, .int 0]) hx hb hts hiJx4a65c tyJx4a65c tyJx4a65c_ok hown (hts (.classLink RX6 22 RJx4a65c) (by decide +kernel)) (hts (.instantiable RJx4a65c 3) (by decide +kernel)) (hts (.initialized RJx4a65c) (by decide +kernel)) hK hH rfl (by decide +kernel) (Nat.le_of_ble_eq_true rfl) (Nat.le_of_ble_eq_true rfl) dX6_init_32 (fun q32 H hq32 hH => ?_)
  have ne_a_q32 : a ≠ q32 := fun e9 => by rw [e9, hq32] at hc_a; cases hc_a
  have ne_q32_a : q32 ≠ a := fun e9 => ne_a_q32 e9.symm
  have ne_q8_q32 : q8 ≠ q32 := fun e9 => by rw [e9, hq32] at hc_q8; cases hc_q8
  have ne_q32_q8 : q32 ≠ q8 := fun e9 => ne_q8_q32 e9.symm
  have ne_q17_q32 : q17 ≠ q32 := fun e9 => by rw [e9, hq32] at hc_q17; cases hc_q17
  have ne_q32_q17 : q32 ≠ q17 := fun e9 => ne_q17_q32 e9.symm
  have ne_q25_q32 : q25 ≠ q32 := fun e9 => by rw [e9, hq32] at hc_q25; cases hc_q25
  have ne_q32_q25 : q32 ≠ q25 := fun e9 => ne_q25_q32 e9.symm
  obtain ⟨w32, ew32⟩ : ∃ z, z = va_up w28 q32 (some (.inr (0, [.int 0, .null, .int 0]))) := ⟨_, rfl⟩
  have hH : xH G A s.heap H _ (va_up w28 q32 (some (.inr (0, [.int 0, .null, .int 0])))) := hH
  rw [← ew32] at hH
  have hc_q32 : w32 q32 = some (.inr (0, [.int 0, .null, .int 0])) := by rw [ew32]; exact if_pos rfl
  have hc_a : w32 a = some (.inr (7, [.ref q8, .ref q17, .ref q25, .null, .null, .null, .null, .int 0, .int 0, .int 0, .int 0, .int 0])) := by rw [ew32]; exact (if_neg ne_a_q32).trans hc_a
  have hc_q8 : w32 q8 = some (.inl (G.2 2, 3650, .inl (fun _ => 0))) := by rw [ew32]; exact (if_neg ne_q8_q32).trans hc_q8
  have hc_q17 : w32 q17 = some (.inl (G.2 2, 3650, .inl (fun _ => 0))) := by rw [ew32]; exact (if_neg ne_q17_q32).trans hc_q17
  have hc_q25 : w32 q25 = some (.inl (G.2 3, 6, .inr (.inr (.inr (.inr (fun _ => none)))))) := by rw [ew32]; exact (if_neg ne_q25_q32).trans hc_q25
  have hn_q32 : w q32 = none := (hfr q32 ne_q32_a ne_q32_q8 ne_q32_q17 ne_q32_q25).symm.trans hq32
  have hfr : ∀ x, x ≠ a → x ≠ q8 → x ≠ q17 → x ≠ q25 → x ≠ q32 → w32 x = w x := fun x z_a z_q8 z_q17 z_q25 z_q32 => by rw [ew32]; exact (if_neg z_q32).trans (hfr x z_a z_q8 z_q17 z_q25)
  refine lv_dup hx hb dX6_init_35 rfl ?_
  refine x_callv (va_runI (As := []) (rest := [.ref q32, .ref a]) ⟨hx, hb, hml, hown, hts⟩ (c_Jx4a65c_init_da8c8 l G A _ q32 0 0 (.null) hc_q32) (cwI 0 hts gX6_init_Jx4a65c_init_da8c8 rfl rfl rfl (hts (.initialized RJx4a65c) (by decide +kernel)) (hts (.methodLink RX6 24 yJx4a65c_init_da8c8) (by decide +kernel)) (hts (.instanceMethod yJx4a65c_init_da8c8) (by decide +kernel)) rfl (by decide +kernel) ⟨Nat.le_of_ble_eq_true rfl, Nat.le_of_ble_eq_true rfl⟩) (x_preS hK hH hTt [.ref q32]) rfl rfl hl.1 rfl (lv_room (Nat.le_of_ble_eq_true rfl)) dX6_init_36 ⟨Nat.le_of_ble_eq_true rfl, Nat.le_of_ble_eq_true rfl⟩) hH (fun w36 H locs hp hH => ?_)
  obtain ⟨hc_q32, hfm36⟩ := hp
  have hc_a : w36 a = some (.inr (7, [.ref q8, .ref q17, .ref q25, .null, .null, .null, .null, .int 0, .int 0, .int 0, .int 0, .int 0])) := (hfm36 a ne_a_q32).trans hc_a
  have hc_q8 : w36 q8 = some (.inl (G.2 2, 3650, .inl (fun _ => 0))) := (hfm36 q8 ne_q8_q32).trans hc_q8
  have hc_q17 : w36 q17 = some (.inl (G.2 2, 3650, .inl (fun _ => 0))) := (hfm36 q17 ne_q17_q32).trans hc_q17
  have hc_q25 : w36 q25 = some (.inl (G.2 3, 6, .inr (.inr (.inr (.inr (fun _ => none)))))) := (hfm36 q25 ne_q25_q32).trans hc_q25
  have hfr : ∀ x, x ≠ a → x ≠ q8 → x ≠ q17 → x ≠ q25 → x ≠ q32 → w36 x = w x := fun x z_a z_q8 z_q17 z_q25 z_q32 => (hfm36 x z_q32).trans (hfr x z_a z_q8 z_q17 z_q25 z_q32)
  refine x_putF (C := RX6) (T := TX6) (N := 12) (ty := .object "java/util/List") hx hb hts hiX6 tyX6 tyX6_ok nmX6 hown hK hH hc_a rfl 3 (by decide) hf25 (fun _ h => h) rfl hmn rfl (by decide +kernel) rfl rfl (Nat.le_of_ble_eq_true rfl) dX6_init_39 (fun H locs hH => ?_)
  have hH : xH G A s.heap H locs (va_up w36 a (some (.inr (7, [.ref q8, .ref q17, .ref q25, .ref q32, .null, .null, .null, .int 0, .int 0, .int 0, .int 0, .int 0])))) := hH
  obtain ⟨w39, ew39⟩ : ∃ z, z = va_up w36 a (some (.inr (7, [.ref q8, .ref q17, .ref q25, .ref q32, .null, .null, .null, .int 0, .int 0, .int 0, .int 0, .int 0]))) := ⟨_, rfl⟩
  rw [← ew39] at hH
  have hc_a : w39 a = some (.inr (7, [.ref q8, .ref q17, .ref q25, .ref q32, .null, .null, .null, .int 0, .int 0, .int 0, .int 0, .int 0])) := by rw [ew39]; exact if_pos rfl
  have hc_q8 : w39 q8 = some (.inl (G.2 2, 3650, .inl (fun _ => 0))) := by rw [ew39, show va_up w36 a _ q8 = w36 q8 from if_neg ne_q8_a]; exact hc_q8
  have hc_q17 : w39 q17 = some (.inl (G.2 2, 3650, .inl (fun _ => 0))) := by rw [ew39, show va_up w36 a _ q17 = w36 q17 from if_neg ne_q17_a]; exact hc_q17
  have hc_q25 : w39 q25 = some (.inl (G.2 3, 6, .inr (.inr (.inr (.inr (fun _ => none)))))) := by rw [ew39, show va_up w36 a _ q25 = w36 q25 from if_neg ne_q25_a]; exact hc_q25
  have hc_q32 : w39 q32 = some (.inr (0, [.int 0, .ref (G.2 12), .int 0])) := by rw [ew39, show va_up w36 a _ q32 = w36 q32 from if_neg ne_q32_a]; exact hc_q32
  have hfr : ∀ x, x ≠ a → x ≠ q8 → x ≠ q17 → x ≠ q25 → x ≠ q32 → w39 x = w x := fun x z_a z_q8 z_q17 z_q25 z_q32 => by rw [ew39]; exact (if_neg z_a).trans (hfr x z_a z_q8 z_q17 z_q25 z_q32)
  refine lv_aload_n hx hb dX6_init_42 rfl (lv_at hl 0 rfl) ?_
  refine x_new (C := RJx4a65c) (T := TJx4a65c) (N := 3) (ci := 0) (fs := [.int 0, .null, .int 0]) hx hb hts hiJx4a65c tyJx4a65c tyJx4a65c_ok hown (hts (.classLink RX6 22 RJx4a65c) (by decide +kernel)) (hts (.instantiable RJx4a65c 3) (by decide +kernel)) (hts (.initialized RJx4a65c) (by decide +kernel)) hK hH rfl (by decide +kernel) (Nat.le_of_ble_eq_true rfl) (Nat.le_of_ble_eq_true rfl) dX6_init_43 (fun q43 H hq43 hH => ?_)
  have ne_a_q43 : a ≠ q43 := fun e9 => by rw [e9, hq43] at hc_a; cases hc_a
  have ne_q43_a : q43 ≠ a := fun e9 => ne_a_q43 e9.symm
  have ne_q8_q43 : q8 ≠ q43 := fun e9 => by rw [e9, hq43] at hc_q8; cases hc_q8
  have ne_q43_q8 : q43 ≠ q8 := fun e9 => ne_q8_q43 e9.symm
  have ne_q17_q43 : q17 ≠ q43 := fun e9 => by rw [e9, hq43] at hc_q17; cases hc_q17
  have ne_q43_q17 : q43 ≠ q17 := fun e9 => ne_q17_q43 e9.symm
  have ne_q25_q43 : q25 ≠ q43 := fun e9 => by rw [e9, hq43] at hc_q25; cases hc_q25
  have ne_q43_q25 : q43 ≠ q25 := fun e9 => ne_q25_q43 e9.symm
  have ne_q32_q43 : q32 ≠ q43 := fun e9 => by rw [e9, hq43] at hc_q32; cases hc_q32
  have ne_q43_q32 : q43 ≠ q32 := fun e9 => ne_q32_q43 e9.symm
  obtain ⟨w43, ew43⟩ : ∃ z, z = va_up w39 q43 (some (.inr (0, [.int 0, .null, .int 0]))) := ⟨_, rfl⟩
  have hH : xH G A s.heap H _ (va_up w39 q43 (some (.inr (0, [.int 0, .null, .int 0])))) := hH
  rw [← ew43] at hH
  have hc_q43 : w43 q43 = some (.inr (0, [.int 0, .null, .int 0])) := by rw [ew43]; exact if_pos rfl
  have hc_a : w43 a = some (.inr (7, [.ref q8, .ref q17, .ref q25, .ref q32, .null, .null, .null, .int 0, .int 0, .int 0, .int 0, .int 0])) := by rw [ew43]; exact (if_neg ne_a_q43).trans hc_a
  have hc_q8 : w43 q8 = some (.inl (G.2 2, 3650, .inl (fun _ => 0))) := by rw [ew43]; exact (if_neg ne_q8_q43).trans hc_q8
  have hc_q17 : w43 q17 = some (.inl (G.2 2, 3650, .inl (fun _ => 0))) := by rw [ew43]; exact (if_neg ne_q17_q43).trans hc_q17
  have hc_q25 : w43 q25 = some (.inl (G.2 3, 6, .inr (.inr (.inr (.inr (fun _ => none)))))) := by rw [ew43]; exact (if_neg ne_q25_q43).trans hc_q25
  have hc_q32 : w43 q32 = some (.inr (0, [.int 0, .ref (G.2 12), .int 0])) := by rw [ew43]; exact (if_neg ne_q32_q43).trans hc_q32
  have hn_q43 : w q43 = none := (hfr q43 ne_q43_a ne_q43_q8 ne_q43_q17 ne_q43_q25 ne_q43_q32).symm.trans hq43
  have hfr : ∀ x, x ≠ a → x ≠ q8 → x ≠ q17 → x ≠ q25 → x ≠ q32 → x ≠ q43 → w43 x = w x := fun x z_a z_q8 z_q17 z_q25 z_q32 z_q43 => by rw [ew43]; exact (if_neg z_q43).trans (hfr x z_a z_q8 z_q17 z_q25 z_q32)
  refine lv_dup hx hb dX6_init_46 rfl ?_
  refine x_callv (va_runI (As := []) (rest := [.ref q43, .ref a]) ⟨hx, hb, hml, hown, hts⟩ (c_Jx4a65c_init_da8c8 l G A _ q43 0 0 (.null) hc_q43) (cwI 0 hts gX6_init_Jx4a65c_init_da8c8 rfl rfl rfl (hts (.initialized RJx4a65c) (by decide +kernel)) (hts (.methodLink RX6 24 yJx4a65c_init_da8c8) (by decide +kernel)) (hts (.instanceMethod yJx4a65c_init_da8c8) (by decide +kernel)) rfl (by decide +kernel) ⟨Nat.le_of_ble_eq_true rfl, Nat.le_of_ble_eq_true rfl⟩) (x_preS hK hH hTt [.ref q43]) rfl rfl hl.1 rfl (lv_room (Nat.le_of_ble_eq_true rfl)) dX6_init_47 ⟨Nat.le_of_ble_eq_true rfl, Nat.le_of_ble_eq_true rfl⟩) hH (fun w47 H locs hp hH => ?_)
  obtain ⟨hc_q43, hfm47⟩ := hp
  have hc_a : w47 a = some (.inr (7, [.ref q8, .ref q17, .ref q25, .ref q32, .null, .null, .null, .int 0, .int 0, .int 0, .int 0, .int 0])) := (hfm47 a ne_a_q43).trans hc_a
  have hc_q8 : w47 q8 = some (.inl (G.2 2, 3650, .inl (fun _ => 0))) := (hfm47 q8 ne_q8_q43).trans hc_q8
  have hc_q17 : w47 q17 = some (.inl (G.2 2, 3650, .inl (fun _ => 0))) := (hfm47 q17 ne_q17_q43).trans hc_q17
  have hc_q25 : w47 q25 = some (.inl (G.2 3, 6, .inr (.inr (.inr (.inr (fun _ => none)))))) := (hfm47 q25 ne_q25_q43).trans hc_q25
  have hc_q32 : w47 q32 = some (.inr (0, [.int 0, .ref (G.2 12), .int 0])) := (hfm47 q32 ne_q32_q43).trans hc_q32
  have hfr : ∀ x, x ≠ a → x ≠ q8 → x ≠ q17 → x ≠ q25 → x ≠ q32 → x ≠ q43 → w47 x = w x := fun x z_a z_q8 z_q17 z_q25 z_q32 z_q43 => (hfm47 x z_q43).trans (hfr x z_a z_q8 z_q17 z_q25 z_q32 z_q43)
  refine x_putF (C := RX6) (T := TX6) (N := 12) (ty := .object "java/util/List") hx hb hts hiX6 tyX6 tyX6_ok nmX6 hown hK hH hc_a rfl 4 (by decide) hf29 (fun _ h => h) rfl hmn rfl (by decide +kernel) rfl rfl (Nat.le_of_ble_eq_true rfl) dX6_init_50 (fun H locs hH => ?_)
  have hH : xH G A s.heap H locs (va_up w47 a (some (.inr (7, [.ref q8, .ref q17, .ref q25, .ref q32, .ref q43, .null, .null, .int 0, .int 0, .int 0, .int 0, .int 0])))) := hH
  obtain ⟨w50, ew50⟩ : ∃ z, z = va_up w47 a (some (.inr (7, [.ref q8, .ref q17, .ref q25, .ref q32, .ref q43, .null, .null, .int 0, .int 0, .int 0, .int 0, .int 0]))) := ⟨_, rfl⟩
  rw [← ew50] at hH
  have hc_a : w50 a = some (.inr (7, [.ref q8, .ref q17, .ref q25, .ref q32, .ref q43, .null, .null, .int 0, .int 0, .int 0, .int 0, .int 0])) := by rw [ew50]; exact if_pos rfl
  have hc_q8 : w50 q8 = some (.inl (G.2 2, 3650, .inl (fun _ => 0))) := by rw [ew50, show va_up w47 a _ q8 = w47 q8 from if_neg ne_q8_a]; exact hc_q8
  have hc_q17 : w50 q17 = some (.inl (G.2 2, 3650, .inl (fun _ => 0))) := by rw [ew50, show va_up w47 a _ q17 = w47 q17 from if_neg ne_q17_a]; exact hc_q17
  have hc_q25 : w50 q25 = some (.inl (G.2 3, 6, .inr (.inr (.inr (.inr (fun _ => none)))))) := by rw [ew50, show va_up w47 a _ q25 = w47 q25 from if_neg ne_q25_a]; exact hc_q25
  have hc_q32 : w50 q32 = some (.inr (0, [.int 0, .ref (G.2 12), .int 0])) := by rw [ew50, show va_up w47 a _ q32 = w47 q32 from if_neg ne_q32_a]; exact hc_q32
  have hc_q43 : w50 q43 = some (.inr (0, [.int 0, .ref (G.2 12), .int 0])) := by rw [ew50, show va_up w47 a _ q43 = w47 q43 from if_neg ne_q43_a]; exact hc_q43
  have hfr : ∀ x, x ≠ a → x ≠ q8 → x ≠ q17 → x ≠ q25 → x ≠ q32 → x ≠ q43 → w50 x = w x := fun x z_a z_q8 z_q17 z_q25 z_q32 z_q43 => by rw [ew50]; exact (if_neg z_a).trans (hfr x z_a z_q8 z_q17 z_q25 z_q32 z_q43)
  refine lv_aload_n hx hb dX6_init_53 rfl (lv_at hl 0 rfl) ?_
  refine x_new (C := RX3) (T := TX3) (N := 3) (ci := 4) (fs := [.int 0, .int 0, .int 0]) hx hb hts hiX3 tyX3 tyX3_ok hown (hts (.classLink RX6 32 RX3) (by decide +kernel)) (hts (.instantiable RX3 3) (by decide +kernel)) (hts (.initialized RX3) (by decide +kernel)) hK hH rfl (by decide +kernel) (Nat.le_of_ble_eq_true rfl) (Nat.le_of_ble_eq_true rfl) dX6_init_54 (fun q54 H hq54 hH => ?_)
  have ne_a_q54 : a ≠ q54 := fun e9 => by rw [e9, hq54] at hc_a; cases hc_a
  have ne_q54_a : q54 ≠ a := fun e9 => ne_a_q54 e9.symm
  have ne_q8_q54 : q8 ≠ q54 := fun e9 => by rw [e9, hq54] at hc_q8; cases hc_q8
  have ne_q54_q8 : q54 ≠ q8 := fun e9 => ne_q8_q54 e9.symm
  have ne_q17_q54 : q17 ≠ q54 := fun e9 => by rw [e9, hq54] at hc_q17; cases hc_q17
  have ne_q54_q17 : q54 ≠ q17 := fun e9 => ne_q17_q54 e9.symm
  have ne_q25_q54 : q25 ≠ q54 := fun e9 => by rw [e9, hq54] at hc_q25; cases hc_q25
  have ne_q54_q25 : q54 ≠ q25 := fun e9 => ne_q25_q54 e9.symm
  have ne_q32_q54 : q32 ≠ q54 := fun e9 => by rw [e9, hq54] at hc_q32; cases hc_q32
  have ne_q54_q32 : q54 ≠ q32 := fun e9 => ne_q32_q54 e9.symm
  have ne_q43_q54 : q43 ≠ q54 := fun e9 => by rw [e9, hq54] at hc_q43; cases hc_q43
  have ne_q54_q43 : q54 ≠ q43 := fun e9 => ne_q43_q54 e9.symm
  obtain ⟨w54, ew54⟩ : ∃ z, z = va_up w50 q54 (some (.inr (4, [.int 0, .int 0, .int 0]))) := ⟨_, rfl⟩
  have hH : xH G A s.heap H _ (va_up w50 q54 (some (.inr (4, [.int 0, .int 0, .int 0])))) := hH
  rw [← ew54] at hH
  have hc_q54 : w54 q54 = some (.inr (4, [.int 0, .int 0, .int 0])) := by rw [ew54]; exact if_pos rfl
  have hc_a : w54 a = some (.inr (7, [.ref q8, .ref q17, .ref q25, .ref q32, .ref q43, .null, .null, .int 0, .int 0, .int 0, .int 0, .int 0])) := by rw [ew54]; exact (if_neg ne_a_q54).trans hc_a
  have hc_q8 : w54 q8 = some (.inl (G.2 2, 3650, .inl (fun _ => 0))) := by rw [ew54]; exact (if_neg ne_q8_q54).trans hc_q8
  have hc_q17 : w54 q17 = some (.inl (G.2 2, 3650, .inl (fun _ => 0))) := by rw [ew54]; exact (if_neg ne_q17_q54).trans hc_q17
  have hc_q25 : w54 q25 = some (.inl (G.2 3, 6, .inr (.inr (.inr (.inr (fun _ => none)))))) := by rw [ew54]; exact (if_neg ne_q25_q54).trans hc_q25
  have hc_q32 : w54 q32 = some (.inr (0, [.int 0, .ref (G.2 12), .int 0])) := by rw [ew54]; exact (if_neg ne_q32_q54).trans hc_q32
  have hc_q43 : w54 q43 = some (.inr (0, [.int 0, .ref (G.2 12), .int 0])) := by rw [ew54]; exact (if_neg ne_q43_q54).trans hc_q43
  have hn_q54 : w q54 = none := (hfr q54 ne_q54_a ne_q54_q8 ne_q54_q17 ne_q54_q25 ne_q54_q32 ne_q54_q43).symm.trans hq54
  have hfr : ∀ x, x ≠ a → x ≠ q8 → x ≠ q17 → x ≠ q25 → x ≠ q32 → x ≠ q43 → x ≠ q54 → w54 x = w x := fun x z_a z_q8 z_q17 z_q25 z_q32 z_q43 z_q54 => by rw [ew54]; exact (if_neg z_q54).trans (hfr x z_a z_q8 z_q17 z_q25 z_q32 z_q43)
  refine lv_dup hx hb dX6_init_57 rfl ?_
  refine x_callv (va_runIN (As := []) (rest := [.ref q54, .ref a]) ⟨hx, hb, hml, hown, hts⟩ (c_X3_init l G A _ q54 hc_q54) ⟨va_cnB (host := RX6) 0 hts ggX6_init_X3_init rfl rfl rfl hTt.2.1.2.2.2.1 (hts (.initialized RX3) (by decide +kernel)) (by decide +kernel) ⟨Nat.le_of_ble_eq_true rfl, Nat.le_of_ble_eq_true rfl⟩, rfl, hts (.instanceMethod yX3_init) (by decide +kernel)⟩ (x_preS hK hH hTt [.ref q54]) rfl rfl hl.1 rfl (lv_room (Nat.le_of_ble_eq_true rfl)) dX6_init_58 ⟨Nat.le_of_ble_eq_true rfl, Nat.le_of_ble_eq_true rfl⟩) hH (fun w58 H locs hp hH => ?_)
  obtain ⟨hc_q54, hfm58⟩ := hp
  have hc_a : w58 a = some (.inr (7, [.ref q8, .ref q17, .ref q25, .ref q32, .ref q43, .null, .null, .int 0, .int 0, .int 0, .int 0, .int 0])) := (hfm58 a ne_a_q54).trans hc_a
  have hc_q8 : w58 q8 = some (.inl (G.2 2, 3650, .inl (fun _ => 0))) := (hfm58 q8 ne_q8_q54).trans hc_q8
  have hc_q17 : w58 q17 = some (.inl (G.2 2, 3650, .inl (fun _ => 0))) := (hfm58 q17 ne_q17_q54).trans hc_q17
  have hc_q25 : w58 q25 = some (.inl (G.2 3, 6, .inr (.inr (.inr (.inr (fun _ => none)))))) := (hfm58 q25 ne_q25_q54).trans hc_q25
  have hc_q32 : w58 q32 = some (.inr (0, [.int 0, .ref (G.2 12), .int 0])) := (hfm58 q32 ne_q32_q54).trans hc_q32
  have hc_q43 : w58 q43 = some (.inr (0, [.int 0, .ref (G.2 12), .int 0])) := (hfm58 q43 ne_q43_q54).trans hc_q43
  have hfr : ∀ x, x ≠ a → x ≠ q8 → x ≠ q17 → x ≠ q25 → x ≠ q32 → x ≠ q43 → x ≠ q54 → w58 x = w x := fun x z_a z_q8 z_q17 z_q25 z_q32 z_q43 z_q54 => (hfm58 x z_q54).trans (hfr x z_a z_q8 z_q17 z_q25 z_q32 z_q43 z_q54)
  refine x_putF (C := RX6) (T := TX6) (N := 12) (ty := .object "ResinWoods$Tally") hx hb hts hiX6 tyX6 tyX6_ok nmX6 hown hK hH hc_a rfl 5 (by decide) hf35 (fun _ h => h) rfl hmn rfl (by decide +kernel) rfl rfl (Nat.le_of_ble_eq_true rfl) dX6_init_61 (fun H locs hH => ?_)
  have hH : xH G A s.heap H locs (va_up w58 a (some (.inr (7, [.ref q8, .ref q17, .ref q25, .ref q32, .ref q43, .ref q54, .null, .int 0, .int 0, .int 0, .int 0, .int 0])))) := hH
  obtain ⟨w61, ew61⟩ : ∃ z, z = va_up w58 a (some (.inr (7, [.ref q8, .ref q17, .ref q25, .ref q32, .ref q43, .ref q54, .null, .int 0, .int 0, .int 0, .int 0, .int 0]))) := ⟨_, rfl⟩
  rw [← ew61] at hH
  have hc_a : w61 a = some (.inr (7, [.ref q8, .ref q17, .ref q25, .ref q32, .ref q43, .ref q54, .null, .int 0, .int 0, .int 0, .int 0, .int 0])) := by rw [ew61]; exact if_pos rfl
  have hc_q8 : w61 q8 = some (.inl (G.2 2, 3650, .inl (fun _ => 0))) := by rw [ew61, show va_up w58 a _ q8 = w58 q8 from if_neg ne_q8_a]; exact hc_q8
  have hc_q17 : w61 q17 = some (.inl (G.2 2, 3650, .inl (fun _ => 0))) := by rw [ew61, show va_up w58 a _ q17 = w58 q17 from if_neg ne_q17_a]; exact hc_q17
  have hc_q25 : w61 q25 = some (.inl (G.2 3, 6, .inr (.inr (.inr (.inr (fun _ => none)))))) := by rw [ew61, show va_up w58 a _ q25 = w58 q25 from if_neg ne_q25_a]; exact hc_q25
  have hc_q32 : w61 q32 = some (.inr (0, [.int 0, .ref (G.2 12), .int 0])) := by rw [ew61, show va_up w58 a _ q32 = w58 q32 from if_neg ne_q32_a]; exact hc_q32
  have hc_q43 : w61 q43 = some (.inr (0, [.int 0, .ref (G.2 12), .int 0])) := by rw [ew61, show va_up w58 a _ q43 = w58 q43 from if_neg ne_q43_a]; exact hc_q43
  have hc_q54 : w61 q54 = some (.inr (4, [.int 0, .int 0, .int 0])) := by rw [ew61, show va_up w58 a _ q54 = w58 q54 from if_neg ne_q54_a]; exact hc_q54
  have hfr : ∀ x, x ≠ a → x ≠ q8 → x ≠ q17 → x ≠ q25 → x ≠ q32 → x ≠ q43 → x ≠ q54 → w61 x = w x := fun x z_a z_q8 z_q17 z_q25 z_q32 z_q43 z_q54 => by rw [ew61]; exact (if_neg z_a).trans (hfr x z_a z_q8 z_q17 z_q25 z_q32 z_q43 z_q54)
  refine lv_aload_n hx hb dX6_init_64 rfl (lv_at hl 0 rfl) ?_
  refine x_new (C := RX2) (T := TX2) (N := 12) (ci := 3) (fs := [.int 0, .null, .null, .null, .null, .null, .null, .null, .null, .int 0, .int 0, .int 0]) hx hb hts hiX2 tyX2 tyX2_ok hown (hts (.classLink RX6 39 RX2) (by decide +kernel)) (hts (.instantiable RX2 12) (by decide +kernel)) (hts (.initialized RX2) (by decide +kernel)) hK hH rfl (by decide +kernel) (Nat.le_of_ble_eq_true rfl) (Nat.le_of_ble_eq_true rfl) dX6_init_65 (fun q65 H hq65 hH => ?_)
  have ne_a_q65 : a ≠ q65 := fun e9 => by rw [e9, hq65] at hc_a; cases hc_a
  have ne_q65_a : q65 ≠ a := fun e9 => ne_a_q65 e9.symm
  have ne_q8_q65 : q8 ≠ q65 := fun e9 => by rw [e9, hq65] at hc_q8; cases hc_q8
  have ne_q65_q8 : q65 ≠ q8 := fun e9 => ne_q8_q65 e9.symm
  have ne_q17_q65 : q17 ≠ q65 := fun e9 => by rw [e9, hq65] at hc_q17; cases hc_q17
  have ne_q65_q17 : q65 ≠ q17 := fun e9 => ne_q17_q65 e9.symm
  have ne_q25_q65 : q25 ≠ q65 := fun e9 => by rw [e9, hq65] at hc_q25; cases hc_q25
  have ne_q65_q25 : q65 ≠ q25 := fun e9 => ne_q25_q65 e9.symm
  have ne_q32_q65 : q32 ≠ q65 := fun e9 => by rw [e9, hq65] at hc_q32; cases hc_q32
  have ne_q65_q32 : q65 ≠ q32 := fun e9 => ne_q32_q65 e9.symm
  have ne_q43_q65 : q43 ≠ q65 := fun e9 => by rw [e9, hq65] at hc_q43; cases hc_q43
  have ne_q65_q43 : q65 ≠ q43 := fun e9 => ne_q43_q65 e9.symm
  have ne_q54_q65 : q54 ≠ q65 := fun e9 => by rw [e9, hq65] at hc_q54; cases hc_q54
  have ne_q65_q54 : q65 ≠ q54 := fun e9 => ne_q54_q65 e9.symm
  obtain ⟨w65, ew65⟩ : ∃ z, z = va_up w61 q65 (some (.inr (3, [.int 0, .null, .null, .null, .null, .null, .null, .null, .null, .int 0, .int 0, .int 0]))) := ⟨_, rfl⟩
  have hH : xH G A s.heap H _ (va_up w61 q65 (some (.inr (3, [.int 0, .null, .null, .null, .null, .null, .null, .null, .null, .int 0, .int 0, .int 0])))) := hH
  rw [← ew65] at hH
  have hc_q65 : w65 q65 = some (.inr (3, [.int 0, .null, .null, .null, .null, .null, .null, .null, .null, .int 0, .int 0, .int 0])) := by rw [ew65]; exact if_pos rfl
  have hc_a : w65 a = some (.inr (7, [.ref q8, .ref q17, .ref q25, .ref q32, .ref q43, .ref q54, .null, .int 0, .int 0, .int 0, .int 0, .int 0])) := by rw [ew65]; exact (if_neg ne_a_q65).trans hc_a
  have hc_q8 : w65 q8 = some (.inl (G.2 2, 3650, .inl (fun _ => 0))) := by rw [ew65]; exact (if_neg ne_q8_q65).trans hc_q8
  have hc_q17 : w65 q17 = some (.inl (G.2 2, 3650, .inl (fun _ => 0))) := by rw [ew65]; exact (if_neg ne_q17_q65).trans hc_q17
  have hc_q25 : w65 q25 = some (.inl (G.2 3, 6, .inr (.inr (.inr (.inr (fun _ => none)))))) := by rw [ew65]; exact (if_neg ne_q25_q65).trans hc_q25
  have hc_q32 : w65 q32 = some (.inr (0, [.int 0, .ref (G.2 12), .int 0])) := by rw [ew65]; exact (if_neg ne_q32_q65).trans hc_q32
  have hc_q43 : w65 q43 = some (.inr (0, [.int 0, .ref (G.2 12), .int 0])) := by rw [ew65]; exact (if_neg ne_q43_q65).trans hc_q43
  have hc_q54 : w65 q54 = some (.inr (4, [.int 0, .int 0, .int 0])) := by rw [ew65]; exact (if_neg ne_q54_q65).trans hc_q54
  have hn_q65 : w q65 = none := (hfr q65 ne_q65_a ne_q65_q8 ne_q65_q17 ne_q65_q25 ne_q65_q32 ne_q65_q43 ne_q65_q54).symm.trans hq65
  have hfr : ∀ x, x ≠ a → x ≠ q8 → x ≠ q17 → x ≠ q25 → x ≠ q32 → x ≠ q43 → x ≠ q54 → x ≠ q65 → w65 x = w x := fun x z_a z_q8 z_q17 z_q25 z_q32 z_q43 z_q54 z_q65 => by rw [ew65]; exact (if_neg z_q65).trans (hfr x z_a z_q8 z_q17 z_q25 z_q32 z_q43 z_q54)
  refine lv_dup hx hb dX6_init_68 rfl ?_
  refine x_callv (va_runIN (As := []) (rest := [.ref q65, .ref a]) ⟨hx, hb, hml, hown, hts⟩ (c_X2_init l G A _ q65 hc_q65) ⟨va_cnB (host := RX6) 0 hts ggX6_init_X2_init rfl rfl rfl hTt.2.1.2.2.2.2.1 (hts (.initialized RX2) (by decide +kernel)) (by decide +kernel) ⟨Nat.le_of_ble_eq_true rfl, Nat.le_of_ble_eq_true rfl⟩, rfl, hts (.instanceMethod yX2_init) (by decide +kernel)⟩ (x_preS hK hH hTt [.ref q65]) rfl rfl hl.1 rfl (lv_room (Nat.le_of_ble_eq_true rfl)) dX6_init_69 ⟨Nat.le_of_ble_eq_true rfl, Nat.le_of_ble_eq_true rfl⟩) hH (fun w69 H locs hp hH => ?_)
  have hB1 : ∀ y, y ≠ a → y ≠ q8 → y ≠ q17 → y ≠ q25 → y ≠ q32 → y ≠ q43 → y ≠ q54 → y ≠ q65 → w65 y = w y := fun y y_a y_q8 y_q17 y_q25 y_q32 y_q43 y_q54 y_q65 => hfr y y_a y_q8 y_q17 y_q25 y_q32 y_q43 y_q54 y_q65
  have hp_a := hc_a
  have hp_q8 := hc_q8
  have hp_q17 := hc_q17
  have hp_q25 := hc_q25
  have hp_q32 := hc_q32
  have hp_q43 := hc_q43
  have hp_q54 := hc_q54
  have hp_q65 := hc_q65
  obtain ⟨q12, q20, q30, q40, q48, q56, q62, ga66, q73, hnd, hnn, h65, g12, g20, g40, g48, g56, g30, ggr, g62, gga, g73, hf69⟩ := hp
  have nm_a : a ∉ [q12, q20, q30, q30 + 1 + 0, q30 + 1 + 1, q30 + 1 + 2, q30 + 1 + 3, q30 + 1 + 4, q30 + 1 + 5, q40, q48, q56, q62, ga66, q73] := fun h9 => by have h8 := hnn _ h9; rw [hc_a] at h8; cases h8
  have nm_q8 : q8 ∉ [q12, q20, q30, q30 + 1 + 0, q30 + 1 + 1, q30 + 1 + 2, q30 + 1 + 3, q30 + 1 + 4, q30 + 1 + 5, q40, q48, q56, q62, ga66, q73] := fun h9 => by have h8 := hnn _ h9; rw [hc_q8] at h8; cases h8
  have nm_q17 : q17 ∉ [q12, q20, q30, q30 + 1 + 0, q30 + 1 + 1, q30 + 1 + 2, q30 + 1 + 3, q30 + 1 + 4, q30 + 1 + 5, q40, q48, q56, q62, ga66, q73] := fun h9 => by have h8 := hnn _ h9; rw [hc_q17] at h8; cases h8
  have nm_q25 : q25 ∉ [q12, q20, q30, q30 + 1 + 0, q30 + 1 + 1, q30 + 1 + 2, q30 + 1 + 3, q30 + 1 + 4, q30 + 1 + 5, q40, q48, q56, q62, ga66, q73] := fun h9 => by have h8 := hnn _ h9; rw [hc_q25] at h8; cases h8
  have nm_q32 : q32 ∉ [q12, q20, q30, q30 + 1 + 0, q30 + 1 + 1, q30 + 1 + 2, q30 + 1 + 3, q30 + 1 + 4, q30 + 1 + 5, q40, q48, q56, q62, ga66, q73] := fun h9 => by have h8 := hnn _ h9; rw [hc_q32] at h8; cases h8
  have nm_q43 : q43 ∉ [q12, q20, q30, q30 + 1 + 0, q30 + 1 + 1, q30 + 1 + 2, q30 + 1 + 3, q30 + 1 + 4, q30 + 1 + 5, q40, q48, q56, q62, ga66, q73] := fun h9 => by have h8 := hnn _ h9; rw [hc_q43] at h8; cases h8
  have nm_q54 : q54 ∉ [q12, q20, q30, q30 + 1 + 0, q30 + 1 + 1, q30 + 1 + 2, q30 + 1 + 3, q30 + 1 + 4, q30 + 1 + 5, q40, q48, q56, q62, ga66, q73] := fun h9 => by have h8 := hnn _ h9; rw [hc_q54] at h8; cases h8
  have nm_q65 : q65 ∉ [q12, q20, q30, q30 + 1 + 0, q30 + 1 + 1, q30 + 1 + 2, q30 + 1 + 3, q30 + 1 + 4, q30 + 1 + 5, q40, q48, q56, q62, ga66, q73] := fun h9 => by have h8 := hnn _ h9; rw [hc_q65] at h8; cases h8
  have hc_a : w69 a = some (.inr (7, [.ref q8, .ref q17, .ref q25, .ref q32, .ref q43, .ref q54, .null, .int 0, .int 0, .int 0, .int 0, .int 0])) := (hf69 a ne_a_q65 nm_a).trans hc_a
  have hc_q8 : w69 q8 = some (.inl (G.2 2, 3650, .inl (fun _ => 0))) := (hf69 q8 ne_q8_q65 nm_q8).trans hc_q8
  have hc_q17 : w69 q17 = some (.inl (G.2 2, 3650, .inl (fun _ => 0))) := (hf69 q17 ne_q17_q65 nm_q17).trans hc_q17
  have hc_q25 : w69 q25 = some (.inl (G.2 3, 6, .inr (.inr (.inr (.inr (fun _ => none)))))) := (hf69 q25 ne_q25_q65 nm_q25).trans hc_q25
  have hc_q32 : w69 q32 = some (.inr (0, [.int 0, .ref (G.2 12), .int 0])) := (hf69 q32 ne_q32_q65 nm_q32).trans hc_q32
  have hc_q43 : w69 q43 = some (.inr (0, [.int 0, .ref (G.2 12), .int 0])) := (hf69 q43 ne_q43_q65 nm_q43).trans hc_q43
  have hc_q54 : w69 q54 = some (.inr (4, [.int 0, .int 0, .int 0])) := (hf69 q54 ne_q54_q65 nm_q54).trans hc_q54
  have hF69 : ∀ y, y ≠ a → w y ≠ none → w69 y = w y := fun y ya hy => by
    have y_q8 : y ≠ q8 := fun e9 => hy (by rw [e9]; exact hn_q8)
    have y_q17 : y ≠ q17 := fun e9 => hy (by rw [e9]; exact hn_q17)
    have y_q25 : y ≠ q25 := fun e9 => hy (by rw [e9]; exact hn_q25)
    have y_q32 : y ≠ q32 := fun e9 => hy (by rw [e9]; exact hn_q32)
    have y_q43 : y ≠ q43 := fun e9 => hy (by rw [e9]; exact hn_q43)
    have y_q54 : y ≠ q54 := fun e9 => hy (by rw [e9]; exact hn_q54)
    have y_q65 : y ≠ q65 := fun e9 => hy (by rw [e9]; exact hn_q65)
    have h8 := hfr y ya y_q8 y_q17 y_q25 y_q32 y_q43 y_q54 y_q65
    exact (hf69 y y_q65 (fun h9 => hy (h8.symm.trans (hnn y h9)))).trans h8
  have hk_q17 := hc_q17
  have hk_q32 := hc_q32
  have hk_q43 := hc_q43
  have hk_q54 := hc_q54
  have hfr : ∀ x, x ≠ a → x ≠ q8 → x ≠ q25 → w69 x = w69 x := fun _ _ _ _ => rfl
  have hB0 : ∀ y, y ∈ [q12, q20, q30, q30 + 1 + 0, q30 + 1 + 1, q30 + 1 + 2, q30 + 1 + 3, q30 + 1 + 4, q30 + 1 + 5, q40, q48, q56, q62, ga66, q73] → w y = none := fun y h9 => (hB1 y (fun e9 => by have h8 := hnn y h9; rw [e9, hp_a] at h8; cases h8) (fun e9 => by have h8 := hnn y h9; rw [e9, hp_q8] at h8; cases h8) (fun e9 => by have h8 := hnn y h9; rw [e9, hp_q17] at h8; cases h8) (fun e9 => by have h8 := hnn y h9; rw [e9, hp_q25] at h8; cases h8) (fun e9 => by have h8 := hnn y h9; rw [e9, hp_q32] at h8; cases h8) (fun e9 => by have h8 := hnn y h9; rw [e9, hp_q43] at h8; cases h8) (fun e9 => by have h8 := hnn y h9; rw [e9, hp_q54] at h8; cases h8) (fun e9 => by have h8 := hnn y h9; rw [e9, hp_q65] at h8; cases h8)).symm.trans (hnn y h9)
  have hA0 : ∀ y, y ∈ [a, q8, q17, q25, q32, q43, q54, q65] → y = a ∨ w y = none := List.forall_mem_cons.mpr ⟨Or.inl rfl, List.forall_mem_cons.mpr ⟨Or.inr hn_q8, List.forall_mem_cons.mpr ⟨Or.inr hn_q17, List.forall_mem_cons.mpr ⟨Or.inr hn_q25, List.forall_mem_cons.mpr ⟨Or.inr hn_q32, List.forall_mem_cons.mpr ⟨Or.inr hn_q43, List.forall_mem_cons.mpr ⟨Or.inr hn_q54, List.forall_mem_cons.mpr ⟨Or.inr hn_q65, fun _ h => absurd h List.not_mem_nil⟩⟩⟩⟩⟩⟩⟩⟩
  have ha69 := hc_a
  have h869 := hc_q8
  have h2569 := hc_q25
  refine x_putF (C := RX6) (T := TX6) (N := 12) (ty := .object "ResinWoods$Planner") hx hb hts hiX6 tyX6 tyX6_ok nmX6 hown hK hH hc_a rfl 6 (by decide) hf42 (fun _ h => h) rfl hmn rfl (by decide +kernel) rfl rfl (Nat.le_of_ble_eq_true rfl) dX6_init_72 (fun H locs hH => ?_)
  have hH : xH G A s.heap H locs (va_up w69 a (some (.inr (7, [.ref q8, .ref q17, .ref q25, .ref q32, .ref q43, .ref q54, .ref q65, .int 0, .int 0, .int 0, .int 0, .int 0])))) := hH
  obtain ⟨w72, ew72⟩ : ∃ z, z = va_up w69 a (some (.inr (7, [.ref q8, .ref q17, .ref q25, .ref q32, .ref q43, .ref q54, .ref q65, .int 0, .int 0, .int 0, .int 0, .int 0]))) := ⟨_, rfl⟩
  rw [← ew72] at hH
  have hc_a : w72 a = some (.inr (7, [.ref q8, .ref q17, .ref q25, .ref q32, .ref q43, .ref q54, .ref q65, .int 0, .int 0, .int 0, .int 0, .int 0])) := by rw [ew72]; exact if_pos rfl
  have hc_q8 : w72 q8 = some (.inl (G.2 2, 3650, .inl (fun _ => 0))) := by rw [ew72, show va_up w69 a _ q8 = w69 q8 from if_neg ne_q8_a]; exact hc_q8
  have hc_q25 : w72 q25 = some (.inl (G.2 3, 6, .inr (.inr (.inr (.inr (fun _ => none)))))) := by rw [ew72, show va_up w69 a _ q25 = w69 q25 from if_neg ne_q25_a]; exact hc_q25
  have hfr : ∀ x, x ≠ a → x ≠ q8 → x ≠ q25 → w72 x = w69 x := fun x z_a z_q8 z_q25 => by rw [ew72]; exact if_neg z_a
  refine lv_aload_n hx hb dX6_init_75 rfl (lv_at hl 0 rfl) ?_
  refine lv_iconst (v := 0) hx hb dX6_init_76 (by decide) ?_
  refine x_put (C := RX6) (T := TX6) (N := 12) (ty := .int) hx hb hts hiX6 tyX6 tyX6_ok nmX6 hown hK hH hc_a rfl 7 (by decide) hf46 (fun _ h => h) rfl (by decide +kernel) rfl rfl (Nat.le_of_ble_eq_true rfl) dX6_init_77 (fun H locs hH => ?_)
  have hH : xH G A s.heap H locs (va_up w72 a (some (.inr (7, [.ref q8, .ref q17, .ref q25, .ref q32, .ref q43, .ref q54, .ref q65, .int 0, .int 0, .int 0, .int 0, .int 0])))) := hH
  obtain ⟨w77, ew77⟩ : ∃ z, z = va_up w72 a (some (.inr (7, [.ref q8, .ref q17, .ref q25, .ref q32, .ref q43, .ref q54, .ref q65, .int 0, .int 0, .int 0, .int 0, .int 0]))) := ⟨_, rfl⟩
  rw [← ew77] at hH
  have hc_a : w77 a = some (.inr (7, [.ref q8, .ref q17, .ref q25, .ref q32, .ref q43, .ref q54, .ref q65, .int 0, .int 0, .int 0, .int 0, .int 0])) := by rw [ew77]; exact if_pos rfl
  have hc_q8 : w77 q8 = some (.inl (G.2 2, 3650, .inl (fun _ => 0))) := by rw [ew77, show va_up w72 a _ q8 = w72 q8 from if_neg ne_q8_a]; exact hc_q8
  have hc_q25 : w77 q25 = some (.inl (G.2 3, 6, .inr (.inr (.inr (.inr (fun _ => none)))))) := by rw [ew77, show va_up w72 a _ q25 = w72 q25 from if_neg ne_q25_a]; exact hc_q25
  have hfr : ∀ x, x ≠ a → x ≠ q8 → x ≠ q25 → w77 x = w69 x := fun x z_a z_q8 z_q25 => by rw [ew77]; exact (if_neg z_a).trans (hfr x z_a z_q8 z_q25)
  refine lv_aload_n hx hb dX6_init_80 rfl (lv_at hl 0 rfl) ?_
  refine lv_iconst (v := 0) hx hb dX6_init_81 (by decide) ?_
  refine x_put (C := RX6) (T := TX6) (N := 12) (ty := .int) hx hb hts hiX6 tyX6 tyX6_ok nmX6 hown hK hH hc_a rfl 8 (by decide) hf50 (fun _ h => h) rfl (by decide +kernel) rfl rfl (Nat.le_of_ble_eq_true rfl) dX6_init_82 (fun H locs hH => ?_)
  have hH : xH G A s.heap H locs (va_up w77 a (some (.inr (7, [.ref q8, .ref q17, .ref q25, .ref q32, .ref q43, .ref q54, .ref q65, .int 0, .int 0, .int 0, .int 0, .int 0])))) := hH
  obtain ⟨w82, ew82⟩ : ∃ z, z = va_up w77 a (some (.inr (7, [.ref q8, .ref q17, .ref q25, .ref q32, .ref q43, .ref q54, .ref q65, .int 0, .int 0, .int 0, .int 0, .int 0]))) := ⟨_, rfl⟩
  rw [← ew82] at hH
  have hc_a : w82 a = some (.inr (7, [.ref q8, .ref q17, .ref q25, .ref q32, .ref q43, .ref q54, .ref q65, .int 0, .int 0, .int 0, .int 0, .int 0])) := by rw [ew82]; exact if_pos rfl
  have hc_q8 : w82 q8 = some (.inl (G.2 2, 3650, .inl (fun _ => 0))) := by rw [ew82, show va_up w77 a _ q8 = w77 q8 from if_neg ne_q8_a]; exact hc_q8
  have hc_q25 : w82 q25 = some (.inl (G.2 3, 6, .inr (.inr (.inr (.inr (fun _ => none)))))) := by rw [ew82, show va_up w77 a _ q25 = w77 q25 from if_neg ne_q25_a]; exact hc_q25
  have hfr : ∀ x, x ≠ a → x ≠ q8 → x ≠ q25 → w82 x = w69 x := fun x z_a z_q8 z_q25 => by rw [ew82]; exact (if_neg z_a).trans (hfr x z_a z_q8 z_q25)
  refine lv_aload_n hx hb dX6_init_85 rfl (lv_at hl 0 rfl) ?_
  refine lv_iconst (v := 0) hx hb dX6_init_86 (by decide) ?_
  refine x_put (C := RX6) (T := TX6) (N := 12) (ty := .int) hx hb hts hiX6 tyX6 tyX6_ok nmX6 hown hK hH hc_a rfl 9 (by decide) hf53 (fun _ h => h) rfl (by decide +kernel) rfl rfl (Nat.le_of_ble_eq_true rfl) dX6_init_87 (fun H locs hH => ?_)
  have hH : xH G A s.heap H locs (va_up w82 a (some (.inr (7, [.ref q8, .ref q17, .ref q25, .ref q32, .ref q43, .ref q54, .ref q65, .int 0, .int 0, .int 0, .int 0, .int 0])))) := hH
  obtain ⟨w87, ew87⟩ : ∃ z, z = va_up w82 a (some (.inr (7, [.ref q8, .ref q17, .ref q25, .ref q32, .ref q43, .ref q54, .ref q65, .int 0, .int 0, .int 0, .int 0, .int 0]))) := ⟨_, rfl⟩
  rw [← ew87] at hH
  have hc_a : w87 a = some (.inr (7, [.ref q8, .ref q17, .ref q25, .ref q32, .ref q43, .ref q54, .ref q65, .int 0, .int 0, .int 0, .int 0, .int 0])) := by rw [ew87]; exact if_pos rfl
  have hc_q8 : w87 q8 = some (.inl (G.2 2, 3650, .inl (fun _ => 0))) := by rw [ew87, show va_up w82 a _ q8 = w82 q8 from if_neg ne_q8_a]; exact hc_q8
  have hc_q25 : w87 q25 = some (.inl (G.2 3, 6, .inr (.inr (.inr (.inr (fun _ => none)))))) := by rw [ew87, show va_up w82 a _ q25 = w82 q25 from if_neg ne_q25_a]; exact hc_q25
  have hfr : ∀ x, x ≠ a → x ≠ q8 → x ≠ q25 → w87 x = w69 x := fun x z_a z_q8 z_q25 => by rw [ew87]; exact (if_neg z_a).trans (hfr x z_a z_q8 z_q25)
  refine lv_aload_n hx hb dX6_init_90 rfl (lv_at hl 0 rfl) ?_
  refine lv_iconst (v := 0) hx hb dX6_init_91 (by decide) ?_
  refine x_put (C := RX6) (T := TX6) (N := 12) (ty := .int) hx hb hts hiX6 tyX6 tyX6_ok nmX6 hown hK hH hc_a rfl 10 (by decide) hf56 (fun _ h => h) rfl (by decide +kernel) rfl rfl (Nat.le_of_ble_eq_true rfl) dX6_init_92 (fun H locs hH => ?_)
  have hH : xH G A s.heap H locs (va_up w87 a (some (.inr (7, [.ref q8, .ref q17, .ref q25, .ref q32, .ref q43, .ref q54, .ref q65, .int 0, .int 0, .int 0, .int 0, .int 0])))) := hH
  obtain ⟨w92, ew92⟩ : ∃ z, z = va_up w87 a (some (.inr (7, [.ref q8, .ref q17, .ref q25, .ref q32, .ref q43, .ref q54, .ref q65, .int 0, .int 0, .int 0, .int 0, .int 0]))) := ⟨_, rfl⟩
  rw [← ew92] at hH
  have hc_a : w92 a = some (.inr (7, [.ref q8, .ref q17, .ref q25, .ref q32, .ref q43, .ref q54, .ref q65, .int 0, .int 0, .int 0, .int 0, .int 0])) := by rw [ew92]; exact if_pos rfl
  have hc_q8 : w92 q8 = some (.inl (G.2 2, 3650, .inl (fun _ => 0))) := by rw [ew92, show va_up w87 a _ q8 = w87 q8 from if_neg ne_q8_a]; exact hc_q8
  have hc_q25 : w92 q25 = some (.inl (G.2 3, 6, .inr (.inr (.inr (.inr (fun _ => none)))))) := by rw [ew92, show va_up w87 a _ q25 = w87 q25 from if_neg ne_q25_a]; exact hc_q25
  have hfr : ∀ x, x ≠ a → x ≠ q8 → x ≠ q25 → w92 x = w69 x := fun x z_a z_q8 z_q25 => by rw [ew92]; exact (if_neg z_a).trans (hfr x z_a z_q8 z_q25)
  refine lv_aload_n hx hb dX6_init_95 rfl (lv_at hl 0 rfl) ?_
  refine lv_iconst (v := 0) hx hb dX6_init_96 (by decide) ?_
  refine x_put (C := RX6) (T := TX6) (N := 12) (ty := .int) hx hb hts hiX6 tyX6 tyX6_ok nmX6 hown hK hH hc_a rfl 11 (by decide) hf59 (fun _ h => h) rfl (by decide +kernel) rfl rfl (Nat.le_of_ble_eq_true rfl) dX6_init_97 (fun H locs hH => ?_)
  have hH : xH G A s.heap H locs (va_up w92 a (some (.inr (7, [.ref q8, .ref q17, .ref q25, .ref q32, .ref q43, .ref q54, .ref q65, .int 0, .int 0, .int 0, .int 0, .int 0])))) := hH
  obtain ⟨w97, ew97⟩ : ∃ z, z = va_up w92 a (some (.inr (7, [.ref q8, .ref q17, .ref q25, .ref q32, .ref q43, .ref q54, .ref q65, .int 0, .int 0, .int 0, .int 0, .int 0]))) := ⟨_, rfl⟩
  rw [← ew97] at hH
  have hc_a : w97 a = some (.inr (7, [.ref q8, .ref q17, .ref q25, .ref q32, .ref q43, .ref q54, .ref q65, .int 0, .int 0, .int 0, .int 0, .int 0])) := by rw [ew97]; exact if_pos rfl
  have hc_q8 : w97 q8 = some (.inl (G.2 2, 3650, .inl (fun _ => 0))) := by rw [ew97, show va_up w92 a _ q8 = w92 q8 from if_neg ne_q8_a]; exact hc_q8
  have hc_q25 : w97 q25 = some (.inl (G.2 3, 6, .inr (.inr (.inr (.inr (fun _ => none)))))) := by rw [ew97, show va_up w92 a _ q25 = w92 q25 from if_neg ne_q25_a]; exact hc_q25
  have hfr : ∀ x, x ≠ a → x ≠ q8 → x ≠ q25 → w97 x = w69 x := fun x z_a z_q8 z_q25 => by rw [ew97]; exact (if_neg z_a).trans (hfr x z_a z_q8 z_q25)
  refine lv_iconst (v := 0) hx hb dX6_init_100 (by decide) ?_
  refine lv_istore_n (lv' := [(1, .int 0), (0, .ref a)]) hx hb dX6_init_101 rfl hl (by decide) rfl (fun ls hl => ?_)
  suffices loop102 : ∀ (k102 : Nat) (i : Nat) (wl : XW) (f1 : Nat → Int32), (3650 < i + k102) → (i ≤ 3650) → (f1 = w5 i 1) → (wl a = some (.inr (7, [.ref q8, .ref q17, .ref q25, .ref q32, .ref q43, .ref q54, .ref q65, .int 0, .int 0, .int 0, .int 0, .int 0]))) → (wl q8 = some (.inl (G.2 2, 3650, .inl f1))) → (wl q25 = some (.inl (G.2 3, 6, .inr (.inr (.inr (.inr (fun _ => none))))))) → (∀ y, y ≠ a → y ≠ q8 → y ≠ q25 → wl y = w69 y) → ∀ (H : Heap) (locs : List Loc), xH G A s.heap H locs (wl) → ∀ (ls : Array Slot), lv_has ls 2 [(0, .ref a), (1, .int (nI i))] → W p l e (headSpec wsX6_init _).room s m _ below meth c H locs 22 7527 (MQ below _ _ s 28 7563 A) (F0 m 102 ls []) from
    loop102 3651 0 w97 (fun _ => 0) (by omega) (by omega) (w5_00) (hc_a) (hc_q8) (hc_q25) (hfr) _ _ hH ls (lv_sub hl [1, 0] rfl)
  intro k102
  induction k102 with
  | zero =>
    intro i wl f1 hfuel hi9 hf1 hc_a hc_q8 hc_q25 hfr H locs hH ls hl
    exact absurd hfuel (by omega)
  | succ k102 ih102 =>
    intro i wl f1 hfuel hi9 hf1 hc_a hc_q8 hc_q25 hfr H locs hH ls hl
    refine lv_iload_n hx hb dX6_init_102 rfl (lv_at hl 1 rfl) ?_
    refine lv_sipush (v := 3650) hx hb dX6_init_103 (by decide) ?_
    refine lv_icmp_ge (tgt := 122) hx hb dX6_init_106 (by decide) (fun c106 => ?_) (fun c106 => ?_)
    · have c106 : 3650 ≤ i := (nI_leI (a := 3650) (b := i) (by omega) (by omega)).mp c106
      have hi7 : i = 3650 := by omega
      have hc_q8 : wl q8 = some (.inl (G.2 2, 3650, .inl (w5 3650 1))) := by rw [show w5 3650 1 = f1 by rw [hf1, hi7]]; exact hc_q8
      refine lv_iconst (v := 0) hx hb dX6_init_122 (by decide) ?_
      refine lv_istore_n (lv' := [(1, .int 0), (0, .ref a)]) hx hb dX6_init_123 rfl hl (by decide) rfl (fun ls hl => ?_)
      suffices loop124 : ∀ (k124 : Nat) (i2 : Nat) (wm : XW) (fq : Nat → Option Nat) (wa : Nat → Nat), (6 < i2 + k124) → (i2 ≤ 6) → (fq = fun j => if j < i2 then some (wa j) else none) → (∀ j, j < i2 → w69 (wa j) = none ∧ wm (wa j) = some (.inr (6, [.int (nI j), .int 0, .int 0, .int 0, .int 0, .null]))) → (∀ j j2, j < i2 → j2 < i2 → wa j = wa j2 → j = j2) → (wm a = some (.inr (7, [.ref q8, .ref q17, .ref q25, .ref q32, .ref q43, .ref q54, .ref q65, .int 0, .int 0, .int 0, .int 0, .int 0]))) → (wm q8 = some (.inl (G.2 2, 3650, .inl (w5 3650 1)))) → (wm q25 = some (.inl (G.2 3, 6, .inr (.inr (.inr (.inr fq)))))) → (∀ y, y ≠ a → y ≠ q8 → y ≠ q25 → (∀ j, j < i2 → y ≠ wa j) → wm y = w69 y) → ∀ (H : Heap) (locs : List Loc), xH G A s.heap H locs (wm) → ∀ (ls : Array Slot), lv_has ls 2 [(0, .ref a), (1, .int (nI i2))] → W p l e (headSpec wsX6_init _).room s m _ below meth c H locs (22 + i2) (7527 + 6 * i2) (MQ below _ _ s 28 7563 A) (F0 m 124 ls []) from
        loop124 7 0 wl (fun _ => none) (fun _ => 0) (by omega) (by omega) (funext fun j => (if_neg (Nat.not_lt_zero j)).symm) (fun j hj => absurd hj (Nat.not_lt_zero j)) (fun j _ hj => absurd hj (Nat.not_lt_zero j)) (hc_a) (hc_q8) (hc_q25) (fun y y1 y2 y3 _ => hfr y y1 y2 y3) _ _ hH ls (lv_sub hl [1, 0] rfl)
      intro k124
      induction k124 with
      | zero =>
        intro i2 wm fq wa hfuel hi8 hfq hwa hwi hc_a hc_q8 hc_q25 hfW H locs hH ls hl
        exact absurd hfuel (by omega)
      | succ k124 ih124 =>
        intro i2 wm fq wa hfuel hi8 hfq hwa hwi hc_a hc_q8 hc_q25 hfW H locs hH ls hl
        have hfr : ∀ x, x ≠ a → x ≠ q8 → x ≠ q25 → wm x = wm x := fun _ _ _ _ => rfl
        refine lv_iload_n hx hb dX6_init_124 rfl (lv_at hl 1 rfl) ?_
        refine lv_bipush (v := 6) hx hb dX6_init_125 (by decide) ?_
        refine lv_icmp_ge (tgt := 150) hx hb dX6_init_127 (by decide) (fun c127 => ?_) (fun c127 => ?_)
        · have c127 : 6 ≤ i2 := (nI_leI (a := 6) (b := i2) (by omega) (by omega)).mp c127
          have hi6 : i2 = 6 := by omega
          rw [hi6] at hwa hwi hfW hfq
          rw [hfq] at hc_q25
          have hst : ∀ y v, w69 y = some v → y ≠ a → y ≠ q8 → y ≠ q25 → wm y = some v := fun y v hy y1 y2 y3 => (hfW y y1 y2 y3 (fun j hj e9 => by have h8 := (hwa j hj).1; rw [← e9, hy] at h8; cases h8)).trans hy
          have hn9 : ∀ y z, z ∈ [q12, q20, q30, q30 + 1 + 0, q30 + 1 + 1, q30 + 1 + 2, q30 + 1 + 3, q30 + 1 + 4, q30 + 1 + 5, q40, q48, q56, q62, ga66, q73] → y ∉ [q12, q20, q30, q30 + 1 + 0, q30 + 1 + 1, q30 + 1 + 2, q30 + 1 + 3, q30 + 1 + 4, q30 + 1 + 5, q40, q48, q56, q62, ga66, q73] → z ≠ y := fun y z h1 h2 e9 => h2 (e9 ▸ h1)
          have hsp : ∀ y v, y ∈ [q12, q20, q30, q30 + 1 + 0, q30 + 1 + 1, q30 + 1 + 2, q30 + 1 + 3, q30 + 1 + 4, q30 + 1 + 5, q40, q48, q56, q62, ga66, q73] → w69 y = some v → wm y = some v := fun y v h1 hy => hst y v hy (hn9 _ _ h1 nm_a) (hn9 _ _ h1 nm_q8) (hn9 _ _ h1 nm_q25)
          have hz_q17 := hst _ _ hk_q17 ne_q17_a ne_q17_q8 ne_q17_q25
          have hz_q32 := hst _ _ hk_q32 ne_q32_a ne_q32_q8 ne_q32_q25
          have hz_q43 := hst _ _ hk_q43 ne_q43_a ne_q43_q8 ne_q43_q25
          have hz_q54 := hst _ _ hk_q54 ne_q54_a ne_q54_q8 ne_q54_q25
          have hz_q65 := hst _ _ h65 ne_q65_a ne_q65_q8 ne_q65_q25
          have hz_q12 := hsp _ _ (by simp) g12
          have hz_q20 := hsp _ _ (by simp) g20
          have hz_q40 := hsp _ _ (by simp) g40
          have hz_q48 := hsp _ _ (by simp) g48
          have hz_q56 := hsp _ _ (by simp) g56
          have hz_q30 := hsp _ _ (by simp) g30
          have hz_q62 := hsp _ _ (by simp) g62
          have hz_q73 := hsp _ _ (by simp) g73
          have hz_ga66 := hsp _ _ (by simp) gga
          have hz_g : ∀ k, k < 6 → wm (q30 + 1 + k) = some (.inl (G.2 0, 20, .inl (fun _ => 0))) := fun k hk => hsp _ _ (by have h9 : k = 0 ∨ k = 1 ∨ k = 2 ∨ k = 3 ∨ k = 4 ∨ k = 5 := (by omega); rcases h9 with rfl | rfl | rfl | rfl | rfl | rfl <;> simp) (ggr k hk)
          have nd8 : [a, q8, q17, q25, q32, q43, q54, q65].Nodup := (List.nodup_cons.mpr ⟨(nmc ne_a_q8 (nmc ne_a_q17 (nmc ne_a_q25 (nmc ne_a_q32 (nmc ne_a_q43 (nmc ne_a_q54 (nmc ne_a_q65 List.not_mem_nil))))))), (List.nodup_cons.mpr ⟨(nmc ne_q8_q17 (nmc ne_q8_q25 (nmc ne_q8_q32 (nmc ne_q8_q43 (nmc ne_q8_q54 (nmc ne_q8_q65 List.not_mem_nil)))))), (List.nodup_cons.mpr ⟨(nmc ne_q17_q25 (nmc ne_q17_q32 (nmc ne_q17_q43 (nmc ne_q17_q54 (nmc ne_q17_q65 List.not_mem_nil))))), (List.nodup_cons.mpr ⟨(nmc ne_q25_q32 (nmc ne_q25_q43 (nmc ne_q25_q54 (nmc ne_q25_q65 List.not_mem_nil)))), (List.nodup_cons.mpr ⟨(nmc ne_q32_q43 (nmc ne_q32_q54 (nmc ne_q32_q65 List.not_mem_nil))), (List.nodup_cons.mpr ⟨(nmc ne_q43_q54 (nmc ne_q43_q65 List.not_mem_nil)), (List.nodup_cons.mpr ⟨(nmc ne_q54_q65 List.not_mem_nil), (List.nodup_cons.mpr ⟨List.not_mem_nil, List.nodup_nil⟩)⟩)⟩)⟩)⟩)⟩)⟩)⟩)
          have ndw : [wa 0, wa 1, wa 2, wa 3, wa 4, wa 5].Nodup := by
            have hh : ∀ j j2, j < 6 → j2 < 6 → j ≠ j2 → wa j ≠ wa j2 := fun j j2 h1 h2 h3 e9 => h3 (hwi j j2 h1 h2 e9)
            exact (List.nodup_cons.mpr ⟨(nmc (hh 0 1 (by decide) (by decide) (by decide)) (nmc (hh 0 2 (by decide) (by decide) (by decide)) (nmc (hh 0 3 (by decide) (by decide) (by decide)) (nmc (hh 0 4 (by decide) (by decide) (by decide)) (nmc (hh 0 5 (by decide) (by decide) (by decide)) List.not_mem_nil))))), (List.nodup_cons.mpr ⟨(nmc (hh 1 2 (by decide) (by decide) (by decide)) (nmc (hh 1 3 (by decide) (by decide) (by decide)) (nmc (hh 1 4 (by decide) (by decide) (by decide)) (nmc (hh 1 5 (by decide) (by decide) (by decide)) List.not_mem_nil)))), (List.nodup_cons.mpr ⟨(nmc (hh 2 3 (by decide) (by decide) (by decide)) (nmc (hh 2 4 (by decide) (by decide) (by decide)) (nmc (hh 2 5 (by decide) (by decide) (by decide)) List.not_mem_nil))), (List.nodup_cons.mpr ⟨(nmc (hh 3 4 (by decide) (by decide) (by decide)) (nmc (hh 3 5 (by decide) (by decide) (by decide)) List.not_mem_nil)), (List.nodup_cons.mpr ⟨(nmc (hh 4 5 (by decide) (by decide) (by decide)) List.not_mem_nil), (List.nodup_cons.mpr ⟨List.not_mem_nil, List.nodup_nil⟩)⟩)⟩)⟩)⟩)⟩)
          have mA : ∀ y, y ∈ [a, q8, q17, q25, q32, q43, q54, q65] → y ∉ [q12, q20, q30, q30 + 1 + 0, q30 + 1 + 1, q30 + 1 + 2, q30 + 1 + 3, q30 + 1 + 4, q30 + 1 + 5, q40, q48, q56, q62, ga66, q73] ∧ w69 y ≠ none := List.forall_mem_cons.mpr ⟨⟨nm_a, fun z => by rw [ha69] at z; cases z⟩, List.forall_mem_cons.mpr ⟨⟨nm_q8, fun z => by rw [h869] at z; cases z⟩, List.forall_mem_cons.mpr ⟨⟨nm_q17, fun z => by rw [hk_q17] at z; cases z⟩, List.forall_mem_cons.mpr ⟨⟨nm_q25, fun z => by rw [h2569] at z; cases z⟩, List.forall_mem_cons.mpr ⟨⟨nm_q32, fun z => by rw [hk_q32] at z; cases z⟩, List.forall_mem_cons.mpr ⟨⟨nm_q43, fun z => by rw [hk_q43] at z; cases z⟩, List.forall_mem_cons.mpr ⟨⟨nm_q54, fun z => by rw [hk_q54] at z; cases z⟩, List.forall_mem_cons.mpr ⟨⟨nm_q65, fun z => by rw [h65] at z; cases z⟩, fun _ h => absurd h List.not_mem_nil⟩⟩⟩⟩⟩⟩⟩⟩
          have mB : ∀ y, y ∈ [q12, q20, q30, q30 + 1 + 0, q30 + 1 + 1, q30 + 1 + 2, q30 + 1 + 3, q30 + 1 + 4, q30 + 1 + 5, q40, q48, q56, q62, ga66, q73] → w69 y ≠ none := List.forall_mem_cons.mpr ⟨(fun z => by rw [g12] at z; cases z), List.forall_mem_cons.mpr ⟨(fun z => by rw [g20] at z; cases z), List.forall_mem_cons.mpr ⟨(fun z => by rw [g30] at z; cases z), List.forall_mem_cons.mpr ⟨(fun z => by rw [ggr 0 (by decide)] at z; cases z), List.forall_mem_cons.mpr ⟨(fun z => by rw [ggr 1 (by decide)] at z; cases z), List.forall_mem_cons.mpr ⟨(fun z => by rw [ggr 2 (by decide)] at z; cases z), List.forall_mem_cons.mpr ⟨(fun z => by rw [ggr 3 (by decide)] at z; cases z), List.forall_mem_cons.mpr ⟨(fun z => by rw [ggr 4 (by decide)] at z; cases z), List.forall_mem_cons.mpr ⟨(fun z => by rw [ggr 5 (by decide)] at z; cases z), List.forall_mem_cons.mpr ⟨(fun z => by rw [g40] at z; cases z), List.forall_mem_cons.mpr ⟨(fun z => by rw [g48] at z; cases z), List.forall_mem_cons.mpr ⟨(fun z => by rw [g56] at z; cases z), List.forall_mem_cons.mpr ⟨(fun z => by rw [g62] at z; cases z), List.forall_mem_cons.mpr ⟨(fun z => by rw [gga] at z; cases z), List.forall_mem_cons.mpr ⟨(fun z => by rw [g73] at z; cases z), fun _ h => absurd h List.not_mem_nil⟩⟩⟩⟩⟩⟩⟩⟩⟩⟩⟩⟩⟩⟩⟩
          have mC : ∀ y, y ∈ [wa 0, wa 1, wa 2, wa 3, wa 4, wa 5] → w69 y = none := List.forall_mem_cons.mpr ⟨(hwa 0 (by decide)).1, List.forall_mem_cons.mpr ⟨(hwa 1 (by decide)).1, List.forall_mem_cons.mpr ⟨(hwa 2 (by decide)).1, List.forall_mem_cons.mpr ⟨(hwa 3 (by decide)).1, List.forall_mem_cons.mpr ⟨(hwa 4 (by decide)).1, List.forall_mem_cons.mpr ⟨(hwa 5 (by decide)).1, fun _ h => absurd h List.not_mem_nil⟩⟩⟩⟩⟩⟩
          have nda : ([a, q8, q17, q25, q32, q43, q54, q65] ++ ([q12, q20, q30, q30 + 1 + 0, q30 + 1 + 1, q30 + 1 + 2, q30 + 1 + 3, q30 + 1 + 4, q30 + 1 + 5, q40, q48, q56, q62, ga66, q73] ++ [wa 0, wa 1, wa 2, wa 3, wa 4, wa 5])).Nodup := List.nodup_append.mpr ⟨nd8, List.nodup_append.mpr ⟨hnd, ndw, fun y hy z hz e9 => mB y hy (by rw [e9]; exact mC z hz)⟩, fun y hy z hz e9 => (List.mem_append.mp hz).elim (fun h9 => (mA y hy).1 (by rw [e9]; exact h9)) (fun h9 => (mA y hy).2 (by rw [e9]; exact mC z h9))⟩
          have hnw : ∀ y, y ∈ ([a, q8, q17, q25, q32, q43, q54, q65] ++ ([q12, q20, q30, q30 + 1 + 0, q30 + 1 + 1, q30 + 1 + 2, q30 + 1 + 3, q30 + 1 + 4, q30 + 1 + 5, q40, q48, q56, q62, ga66, q73] ++ [wa 0, wa 1, wa 2, wa 3, wa 4, wa 5])) → y = a ∨ w y = none := fun y hy => (List.mem_append.mp hy).elim (fun h9 => hA0 y h9) (fun h9 => (List.mem_append.mp h9).elim (fun h8 => Or.inr (hB0 y h8)) (fun h8 => by
            have h7 := mC y h8
            by_cases ya : y = a
            · exact Or.inl ya
            · refine Or.inr (Classical.byContradiction fun h6 => h6 ?_)
              rw [← hF69 y ya h6]; exact h7))
          have nda2 : [a, q8, q17, q25, q32, q43, q54, q65, q12, q20, q30, q30 + 1 + 0, q30 + 1 + 1, q30 + 1 + 2, q30 + 1 + 3, q30 + 1 + 4, q30 + 1 + 5, q40, q48, q56, q62, ga66, q73, wa 0, wa 1, wa 2, wa 3, wa 4, wa 5].Nodup := nda
          have hnw2 : ∀ y, y ∈ [a, q8, q17, q25, q32, q43, q54, q65, q12, q20, q30, q30 + 1 + 0, q30 + 1 + 1, q30 + 1 + 2, q30 + 1 + 3, q30 + 1 + 4, q30 + 1 + 5, q40, q48, q56, q62, ga66, q73, wa 0, wa 1, wa 2, wa 3, wa 4, wa 5] → y = a ∨ w y = none := hnw
          have hci := ci_new (G := G) (u := wm) nda2 hc_a hc_q8 hz_q17 hc_q25 hz_q32 hz_q43 hz_q54 hz_q65 hz_q12 hz_q20 hz_q40 hz_q48 hz_q56 hz_q30 hz_q62 hz_ga66 hz_q73 (fun i9 h9 => (hwa i9 h9).2) hz_g
          refine W.widen (k := 28) (n := 7563) (by omega) (by omega) ?_
          exact x_vret wm hx hb hr hlocks hK hH (⟨_, hci, hnw2, fun y ya hy => (hfW y ya (fun e9 => hy (by rw [e9]; exact hn_q8)) (fun e9 => hy (by rw [e9]; exact hn_q25)) (fun j hj e9 => hy (by rw [← hF69 y ya hy, e9]; exact (hwa j hj).1))).trans (hF69 y ya hy)⟩) dX6_init_150
        · have c127 : ¬ 6 ≤ i2 := fun zz => c127 ((nI_leI (a := 6) (b := i2) (by omega) (by omega)).mpr zz)
          refine lv_aload_n hx hb dX6_init_130 rfl (lv_at hl 0 rfl) ?_
          refine x_get (C := RX6) (T := TX6) (N := 12) hx hb hts hiX6 hown hK hH hc_a rfl 2 (by decide) hf18 (fun _ h => h) (v := .ref q25) rfl dX6_init_131 ?_
          refine lv_iload_n hx hb dX6_init_134 rfl (lv_at hl 1 rfl) ?_
          refine x_new (C := RX5) (T := TX5) (N := 6) (ci := 6) (fs := [.int 0, .int 0, .int 0, .int 0, .int 0, .null]) hx hb hts hiX5 tyX5 tyX5_ok hown (hts (.classLink RX6 16 RX5) (by decide +kernel)) (hts (.instantiable RX5 6) (by decide +kernel)) (hts (.initialized RX5) (by decide +kernel)) hK hH rfl (by decide +kernel) (by show _ ≤ 28; omega) (by show _ ≤ 7563; omega) dX6_init_135 (fun q135 H hq135 hH => ?_)
          have ne_a_q135 : a ≠ q135 := fun e9 => by rw [e9, hq135] at hc_a; cases hc_a
          have ne_q135_a : q135 ≠ a := fun e9 => ne_a_q135 e9.symm
          have ne_q8_q135 : q8 ≠ q135 := fun e9 => by rw [e9, hq135] at hc_q8; cases hc_q8
          have ne_q135_q8 : q135 ≠ q8 := fun e9 => ne_q8_q135 e9.symm
          have ne_q25_q135 : q25 ≠ q135 := fun e9 => by rw [e9, hq135] at hc_q25; cases hc_q25
          have ne_q135_q25 : q135 ≠ q25 := fun e9 => ne_q25_q135 e9.symm
          obtain ⟨w135, ew135⟩ : ∃ z, z = va_up wm q135 (some (.inr (6, [.int 0, .int 0, .int 0, .int 0, .int 0, .null]))) := ⟨_, rfl⟩
          have hH : xH G A s.heap H _ (va_up wm q135 (some (.inr (6, [.int 0, .int 0, .int 0, .int 0, .int 0, .null])))) := hH
          rw [← ew135] at hH
          have hc_q135 : w135 q135 = some (.inr (6, [.int 0, .int 0, .int 0, .int 0, .int 0, .null])) := by rw [ew135]; exact if_pos rfl
          have hc_a : w135 a = some (.inr (7, [.ref q8, .ref q17, .ref q25, .ref q32, .ref q43, .ref q54, .ref q65, .int 0, .int 0, .int 0, .int 0, .int 0])) := by rw [ew135]; exact (if_neg ne_a_q135).trans hc_a
          have hc_q8 : w135 q8 = some (.inl (G.2 2, 3650, .inl (w5 3650 1))) := by rw [ew135]; exact (if_neg ne_q8_q135).trans hc_q8
          have hc_q25 : w135 q25 = some (.inl (G.2 3, 6, .inr (.inr (.inr (.inr fq))))) := by rw [ew135]; exact (if_neg ne_q25_q135).trans hc_q25
          have hn_q135 : wm q135 = none := hq135
          have hfr : ∀ x, x ≠ a → x ≠ q8 → x ≠ q25 → x ≠ q135 → w135 x = wm x := fun x z_a z_q8 z_q25 z_q135 => by rw [ew135]; exact if_neg z_q135
          refine lv_dup hx hb dX6_init_138 rfl ?_
          refine lv_iload_n hx hb dX6_init_139 rfl (lv_at hl 1 rfl) ?_
          refine x_callv (va_runI (As := [.int (nI i2)]) (rest := [.ref q135, .int (nI i2), .ref q25]) ⟨hx, hb, hml, hown, hts⟩ (c_X5_init l G A _ q135 hc_q135 (nI i2)) (cwI 1 hts gX6_init_X5_init rfl rfl rfl (hts (.initialized RX5) (by decide +kernel)) (hts (.methodLink RX6 62 yX5_init) (by decide +kernel)) (hts (.instanceMethod yX5_init) (by decide +kernel)) rfl (by decide +kernel) ⟨Nat.le_of_ble_eq_true rfl, Nat.le_of_ble_eq_true rfl⟩) (x_preS hK hH hTt [.ref q135, .int (nI i2)]) rfl rfl hl.1 rfl (lv_room (Nat.le_of_ble_eq_true rfl)) dX6_init_140 ⟨by show _ ≤ 28; omega, by show _ ≤ 7563; omega⟩) hH (fun w140 H locs hp hH => ?_)
          obtain ⟨hc_q135, hfm140⟩ := hp
          have hc_a : w140 a = some (.inr (7, [.ref q8, .ref q17, .ref q25, .ref q32, .ref q43, .ref q54, .ref q65, .int 0, .int 0, .int 0, .int 0, .int 0])) := (hfm140 a ne_a_q135).trans hc_a
          have hc_q8 : w140 q8 = some (.inl (G.2 2, 3650, .inl (w5 3650 1))) := (hfm140 q8 ne_q8_q135).trans hc_q8
          have hc_q25 : w140 q25 = some (.inl (G.2 3, 6, .inr (.inr (.inr (.inr fq))))) := (hfm140 q25 ne_q25_q135).trans hc_q25
          have hfr : ∀ x, x ≠ a → x ≠ q8 → x ≠ q25 → x ≠ q135 → w140 x = wm x := fun x z_a z_q8 z_q25 z_q135 => (hfm140 x z_q135).trans (hfr x z_a z_q8 z_q25 z_q135)
          refine x_astW (z := 3) (ci := 6) hx hb rfl hK hH hc_q25 hc_q135 rfl i2 rfl (by omega) (by decide) dX6_init_143 (fun H locs hH => ?_)
          have hH : xH G A s.heap H locs (va_up w140 q25 (some (.inl (G.2 3, 6, .inr (.inr (.inr (.inr (va_up fq i2 (some q135))))))))) := hH
          obtain ⟨w143, ew143⟩ : ∃ z, z = va_up w140 q25 (some (.inl (G.2 3, 6, .inr (.inr (.inr (.inr (va_up fq i2 (some q135)))))))) := ⟨_, rfl⟩
          rw [← ew143] at hH
          have hc_a : w143 a = some (.inr (7, [.ref q8, .ref q17, .ref q25, .ref q32, .ref q43, .ref q54, .ref q65, .int 0, .int 0, .int 0, .int 0, .int 0])) := by rw [ew143, show va_up w140 q25 _ a = w140 a from if_neg ne_a_q25]; exact hc_a
          have hc_q8 : w143 q8 = some (.inl (G.2 2, 3650, .inl (w5 3650 1))) := by rw [ew143, show va_up w140 q25 _ q8 = w140 q8 from if_neg ne_q8_q25]; exact hc_q8
          have hc_q25 : w143 q25 = some (.inl (G.2 3, 6, .inr (.inr (.inr (.inr (va_up fq i2 (some q135))))))) := by rw [ew143]; exact if_pos rfl
          have hc_q135 : w143 q135 = some (.inr (6, [.int (nI i2), .int 0, .int 0, .int 0, .int 0, .null])) := by rw [ew143, show va_up w140 q25 _ q135 = w140 q135 from if_neg ne_q135_q25]; exact hc_q135
          have hfr : ∀ x, x ≠ a → x ≠ q8 → x ≠ q25 → x ≠ q135 → w143 x = wm x := fun x z_a z_q8 z_q25 z_q135 => by rw [ew143]; exact (if_neg z_q25).trans (hfr x z_a z_q8 z_q25 z_q135)
          refine lv_iinc (v := nI (i2 + 1)) (lv' := [(1, .int (nI (i2 + 1))), (0, .ref a)]) hx hb dX6_init_144 hl (k := 1) rfl (by exact nI_add _ 1) (by decide) rfl (fun ls hl => ?_)
          refine lv_goto (tgt := 124) hx hb dX6_init_147 (by decide) ?_
          have hq9 : ∀ j, j < i2 → wa j ≠ q135 := fun j hj e9 => by have h8 := (hwa j hj).2; rw [e9, hn_q135] at h8; cases h8
          have n135 : w69 q135 = none := (hfW q135 ne_q135_a ne_q135_q8 ne_q135_q25 (fun j hj e9 => hq9 j hj e9.symm)).symm.trans hn_q135
          have wj : ∀ j, j < i2 → wa j ≠ a ∧ wa j ≠ q8 ∧ wa j ≠ q25 := fun j hj => by
            have h8 := (hwa j hj).1
            exact ⟨(fun e9 => by rw [e9, ha69] at h8; cases h8), (fun e9 => by rw [e9, h869] at h8; cases h8), (fun e9 => by rw [e9, h2569] at h8; cases h8)⟩
          have hwa2 : ∀ j, j < i2 + 1 → w69 (va_up wa i2 q135 j) = none ∧ w143 (va_up wa i2 q135 j) = some (.inr (6, [.int (nI j), .int 0, .int 0, .int 0, .int 0, .null])) := fun j hj => by
            by_cases h9 : j = i2
            · rw [show va_up wa i2 q135 j = q135 from if_pos h9, h9]; exact ⟨n135, hc_q135⟩
            · have h8 := hwa j (by omega)
              have h7 := wj j (by omega)
              rw [show va_up wa i2 q135 j = wa j from if_neg h9]; exact ⟨h8.1, (hfr (wa j) h7.1 h7.2.1 h7.2.2 (hq9 j (by omega))).trans h8.2⟩
          have hwi2 : ∀ j j2, j < i2 + 1 → j2 < i2 + 1 → va_up wa i2 q135 j = va_up wa i2 q135 j2 → j = j2 := fun j j2 hj hj2 e9 => by
            by_cases h9 : j = i2
            · by_cases h8 : j2 = i2
              · omega
              · rw [show va_up wa i2 q135 j = q135 from if_pos h9, show va_up wa i2 q135 j2 = wa j2 from if_neg h8] at e9
                exact absurd e9.symm (hq9 j2 (by omega))
            · by_cases h8 : j2 = i2
              · rw [show va_up wa i2 q135 j = wa j from if_neg h9, show va_up wa i2 q135 j2 = q135 from if_pos h8] at e9
                exact absurd e9 (hq9 j (by omega))
              · rw [show va_up wa i2 q135 j = wa j from if_neg h9, show va_up wa i2 q135 j2 = wa j2 from if_neg h8] at e9
                exact hwi j j2 (by omega) (by omega) e9
          have hfW2 : ∀ y, y ≠ a → y ≠ q8 → y ≠ q25 → (∀ j, j < i2 + 1 → y ≠ va_up wa i2 q135 j) → w143 y = w69 y := fun y y1 y2 y3 y4 => (hfr y y1 y2 y3 (by have h8 := y4 i2 (by omega); rw [show va_up wa i2 q135 i2 = q135 from if_pos rfl] at h8; exact h8)).trans (hfW y y1 y2 y3 (fun j hj => by have h8 := y4 j (by omega); rw [show va_up wa i2 q135 j = wa j from if_neg (by omega)] at h8; exact h8))
          refine W.widen (k := 22 + (i2 + 1)) (n := 7527 + 6 * (i2 + 1)) (by omega) (by omega) ?_
          exact ih124 (i2 + 1) w143 (va_up fq i2 (some q135)) (va_up wa i2 q135) (by omega) (by omega) (by rw [hfq]; exact wa_s wa i2 q135) (hwa2) (hwi2) (hc_a) (hc_q8) (hc_q25) (hfW2) _ _ hH ls (lv_sub hl [1, 0] rfl)
    · have c106 : ¬ 3650 ≤ i := fun zz => c106 ((nI_leI (a := 3650) (b := i) (by omega) (by omega)).mpr zz)
      refine lv_aload_n hx hb dX6_init_109 rfl (lv_at hl 0 rfl) ?_
      refine x_get (C := RX6) (T := TX6) (N := 12) hx hb hts hiX6 hown hK hH hc_a rfl 0 (by decide) hf9 (fun _ h => h) (v := .ref q8) rfl dX6_init_110 ?_
      refine lv_iload_n hx hb dX6_init_113 rfl (lv_at hl 1 rfl) ?_
      refine lv_iconst (v := 5) hx hb dX6_init_114 (by decide) ?_
      refine Y_bast hx hb hK hH hc_q8 i rfl (by omega) (by decide) (by decide) dX6_init_115 (fun H locs hH => ?_)
      have hH : xH G A s.heap H locs (va_up wl q8 (some (.inl (G.2 2, 3650, .inl (upd f1 i 5))))) := hH
      obtain ⟨w115, ew115⟩ : ∃ z, z = va_up wl q8 (some (.inl (G.2 2, 3650, .inl (upd f1 i 5)))) := ⟨_, rfl⟩
      rw [← ew115] at hH
      have hc_a : w115 a = some (.inr (7, [.ref q8, .ref q17, .ref q25, .ref q32, .ref q43, .ref q54, .ref q65, .int 0, .int 0, .int 0, .int 0, .int 0])) := by rw [ew115, show va_up wl q8 _ a = wl a from if_neg ne_a_q8]; exact hc_a
      have hc_q8 : w115 q8 = some (.inl (G.2 2, 3650, .inl (upd f1 i 5))) := by rw [ew115]; exact if_pos rfl
      have hc_q25 : w115 q25 = some (.inl (G.2 3, 6, .inr (.inr (.inr (.inr (fun _ => none)))))) := by rw [ew115, show va_up wl q8 _ q25 = wl q25 from if_neg ne_q25_q8]; exact hc_q25
      have hfr : ∀ x, x ≠ a → x ≠ q8 → x ≠ q25 → w115 x = w69 x := fun x z_a z_q8 z_q25 => by rw [ew115]; exact (if_neg z_q8).trans (hfr x z_a z_q8 z_q25)
      refine lv_iinc (v := nI (i + 1)) (lv' := [(1, .int (nI (i + 1))), (0, .ref a)]) hx hb dX6_init_116 hl (k := 1) rfl (by exact nI_add _ 1) (by decide) rfl (fun ls hl => ?_)
      refine lv_goto (tgt := 102) hx hb dX6_init_119 (by decide) ?_
      exact ih102 (i + 1) w115 (upd f1 i 5) (by omega) (by omega) (by rw [hf1]; exact upd_w5 i) (hc_a) (hc_q8) (hc_q25) (hfr) _ _ hH ls (lv_sub hl [1, 0] rfl)
