set_option maxHeartbeats 4000000 in
set_option maxRecDepth 100000 in
theorem c_X1_init (l : Launch) (G : XG) (A : Nat → Prop) (w : XW) (a : Nat)  (hc_a : w a = some (.inr (2, [.int 0, .int 0, .int 0, .int 0, .int 0, .null])))  : Met l yX1_init wsX1_init ({ frames := 1, cells := 1, slots := 4, locals := 24 }) (va_Pc [.ref a] (xP G A (w))) (va_Qv (fun (u : XW) => ∃ ga, w ga = none ∧ u a = some (.inr (2, [.int 0, .int 0, .int 0, .int 0, .int 0, .ref ga])) ∧ u ga = some (.inl (G.2 0, 4, .inl (fun _ => 0))) ∧ ∀ y, y ≠ a → y ≠ ga → u y = w y) (fun u t => xB G A (u) t) A) 1 4 A := by
  refine Met.ofW (cc := cX1_init) (maxL := 1) (ret := none) (by decide) rfl ?_
  intro p e s m args below meth c s₁ B hml hv
  obtain ⟨rfl, hK, hH, hTt⟩ := hv
  have hx := B.exec
  have hb := B.bytes
  have hr := B.returns
  have hts := atoms_spec (ws := wsX1_init) B.pre
  have hown : s.vm.findClass RX1 = some m.cls := findClass_of_methodNamed B.named
  have hlocks := B.notSynchronized
  have hiX1 : ∀ w ∈ wsX10, w ∈ wsX1_init := by decide +kernel
  have hf9 := hts (.fieldLink RX1 9 "ResinWoods$Face" "streaks" "I") (by decide +kernel)
  have hf15 := hts (.fieldLink RX1 15 "ResinWoods$Face" "latest" "I") (by decide +kernel)
  have hf18 := hts (.fieldLink RX1 18 "ResinWoods$Face" "openedIn" "I") (by decide +kernel)
  have hf21 := hts (.fieldLink RX1 21 "ResinWoods$Face" "has" "I") (by decide +kernel)
  have hf24 := hts (.fieldLink RX1 24 "ResinWoods$Face" "ranOver" "I") (by decide +kernel)
  have hf27 := hts (.fieldLink RX1 27 "ResinWoods$Face" "ofGrade" "[I") (by decide +kernel)
  have hl := lv_entry ([.ref a]) (n := 1) (Nat.le_of_ble_eq_true rfl)
  rw [lg_entry_eq]
  generalize (lg_sl ([.ref a]) ++ List.replicate (1 - (lg_sl ([.ref a])).length) Slot.unset).toArray = ls at hl ⊢
  have hl : lv_has ls 1 [(0, .ref a)] := hl
  have hmn : meth.name = "<init>" := (name_of_methodNamed B.named B.method).1
  refine lv_aload_n hx hb dX1_init_0 rfl (lv_at hl 0 rfl) ?_
  refine W.objInit hx hb hown (hts (.methodLink RX1 3 objectInit) (by decide +kernel)) (hts (.instanceMethod objectInit) (by decide +kernel)) (hts (.code objectInit ⟨#[0xb1]⟩ 1 none) (by decide +kernel)) rfl (by rw [hml]; exact hl.1) rfl dX1_init_1 (Nat.le_of_ble_eq_true rfl) (Nat.le_of_ble_eq_true rfl) ?_
  refine W.eq (g2 := F0 m 4 ls []) rfl ?_
  refine lv_aload_n hx hb dX1_init_4 rfl (lv_at hl 0 rfl) ?_
  refine lv_iconst (v := 0) hx hb dX1_init_5 (by decide) ?_
  refine x_put (C := RX1) (T := TX1) (N := 6) (ty := .int) hx hb hts hiX1 tyX1 tyX1_ok nmX1 hown hK hH hc_a rfl 0 (by decide) hf9 (fun _ h => h) rfl (by decide +kernel) rfl rfl (Nat.le_of_ble_eq_true rfl) dX1_init_6 (fun H locs hH => ?_)
  have hH : xH G A s.heap H locs (va_up w a (some (.inr (2, [.int 0, .int 0, .int 0, .int 0, .int 0, .null])))) := hH
  obtain ⟨w6, ew6⟩ : ∃ z, z = va_up w a (some (.inr (2, [.int 0, .int 0, .int 0, .int 0, .int 0, .null]))) := ⟨_, rfl⟩
  rw [← ew6] at hH
  have hc_a : w6 a = some (.inr (2, [.int 0, .int 0, .int 0, .int 0, .int 0, .null])) := by rw [ew6]; exact if_pos rfl
  have hfr : ∀ x, x ≠ a → w6 x = w x := fun x z_a => by rw [ew6]; exact if_neg z_a
  refine lv_aload_n hx hb dX1_init_9 rfl (lv_at hl 0 rfl) ?_
  refine lv_iconst (v := 0) hx hb dX1_init_10 (by decide) ?_
  refine x_put (C := RX1) (T := TX1) (N := 6) (ty := .int) hx hb hts hiX1 tyX1 tyX1_ok nmX1 hown hK hH hc_a rfl 1 (by decide) hf15 (fun _ h => h) rfl (by decide +kernel) rfl rfl (Nat.le_of_ble_eq_true rfl) dX1_init_11 (fun H locs hH => ?_)
  have hH : xH G A s.heap H locs (va_up w6 a (some (.inr (2, [.int 0, .int 0, .int 0, .int 0, .int 0, .null])))) := hH
  obtain ⟨w11, ew11⟩ : ∃ z, z = va_up w6 a (some (.inr (2, [.int 0, .int 0, .int 0, .int 0, .int 0, .null]))) := ⟨_, rfl⟩
  rw [← ew11] at hH
  have hc_a : w11 a = some (.inr (2, [.int 0, .int 0, .int 0, .int 0, .int 0, .null])) := by rw [ew11]; exact if_pos rfl
  have hfr : ∀ x, x ≠ a → w11 x = w x := fun x z_a => by rw [ew11]; exact (if_neg z_a).trans (hfr x z_a)
  refine lv_aload_n hx hb dX1_init_14 rfl (lv_at hl 0 rfl) ?_
  refine lv_iconst (v := 0) hx hb dX1_init_15 (by decide) ?_
  refine x_put (C := RX1) (T := TX1) (N := 6) (ty := .int) hx hb hts hiX1 tyX1 tyX1_ok nmX1 hown hK hH hc_a rfl 2 (by decide) hf18 (fun _ h => h) rfl (by decide +kernel) rfl rfl (Nat.le_of_ble_eq_true rfl) dX1_init_16 (fun H locs hH => ?_)
  have hH : xH G A s.heap H locs (va_up w11 a (some (.inr (2, [.int 0, .int 0, .int 0, .int 0, .int 0, .null])))) := hH
  obtain ⟨w16, ew16⟩ : ∃ z, z = va_up w11 a (some (.inr (2, [.int 0, .int 0, .int 0, .int 0, .int 0, .null]))) := ⟨_, rfl⟩
  rw [← ew16] at hH
  have hc_a : w16 a = some (.inr (2, [.int 0, .int 0, .int 0, .int 0, .int 0, .null])) := by rw [ew16]; exact if_pos rfl
  have hfr : ∀ x, x ≠ a → w16 x = w x := fun x z_a => by rw [ew16]; exact (if_neg z_a).trans (hfr x z_a)
  refine lv_aload_n hx hb dX1_init_19 rfl (lv_at hl 0 rfl) ?_
  refine lv_iconst (v := 0) hx hb dX1_init_20 (by decide) ?_
  refine x_put (C := RX1) (T := TX1) (N := 6) (ty := .int) hx hb hts hiX1 tyX1 tyX1_ok nmX1 hown hK hH hc_a rfl 3 (by decide) hf21 (fun _ h => h) rfl (by decide +kernel) rfl rfl (Nat.le_of_ble_eq_true rfl) dX1_init_21 (fun H locs hH => ?_)
  have hH : xH G A s.heap H locs (va_up w16 a (some (.inr (2, [.int 0, .int 0, .int 0, .int 0, .int 0, .null])))) := hH
  obtain ⟨w21, ew21⟩ : ∃ z, z = va_up w16 a (some (.inr (2, [.int 0, .int 0, .int 0, .int 0, .int 0, .null]))) := ⟨_, rfl⟩
  rw [← ew21] at hH
  have hc_a : w21 a = some (.inr (2, [.int 0, .int 0, .int 0, .int 0, .int 0, .null])) := by rw [ew21]; exact if_pos rfl
  have hfr : ∀ x, x ≠ a → w21 x = w x := fun x z_a => by rw [ew21]; exact (if_neg z_a).trans (hfr x z_a)
  refine lv_aload_n hx hb dX1_init_24 rfl (lv_at hl 0 rfl) ?_
  refine lv_iconst (v := 0) hx hb dX1_init_25 (by decide) ?_
  refine x_put (C := RX1) (T := TX1) (N := 6) (ty := .int) hx hb hts hiX1 tyX1 tyX1_ok nmX1 hown hK hH hc_a rfl 4 (by decide) hf24 (fun _ h => h) rfl (by decide +kernel) rfl rfl (Nat.le_of_ble_eq_true rfl) dX1_init_26 (fun H locs hH => ?_)
  have hH : xH G A s.heap H locs (va_up w21 a (some (.inr (2, [.int 0, .int 0, .int 0, .int 0, .int 0, .null])))) := hH
  obtain ⟨w26, ew26⟩ : ∃ z, z = va_up w21 a (some (.inr (2, [.int 0, .int 0, .int 0, .int 0, .int 0, .null]))) := ⟨_, rfl⟩
  rw [← ew26] at hH
  have hc_a : w26 a = some (.inr (2, [.int 0, .int 0, .int 0, .int 0, .int 0, .null])) := by rw [ew26]; exact if_pos rfl
  have hfr : ∀ x, x ≠ a → w26 x = w x := fun x z_a => by rw [ew26]; exact (if_neg z_a).trans (hfr x z_a)
  refine lv_aload_n hx hb dX1_init_29 rfl (lv_at hl 0 rfl) ?_
  refine lv_iconst (v := 4) hx hb dX1_init_30 (by decide) ?_
  refine x_newa hx hb (hts (.arrayClass .int) (by decide +kernel)) rfl 0 (cA := G.2 0) rfl (fun C h => by cases h) hK hH (N' := 4) (a0 := (4, .inl (fun _ => 0))) (fun cA => rfl) (by decide) (by decide) (by decide) (Nat.le_of_ble_eq_true rfl) (Nat.le_of_ble_eq_true rfl) dX1_init_31 (fun q31 H hq31 hH => ?_)
  have ne_a_q31 : a ≠ q31 := fun e9 => by rw [e9, hq31] at hc_a; cases hc_a
  have ne_q31_a : q31 ≠ a := fun e9 => ne_a_q31 e9.symm
  obtain ⟨w31, ew31⟩ : ∃ z, z = va_up w26 q31 (some (.inl (G.2 0, 4, .inl (fun _ => 0)))) := ⟨_, rfl⟩
  have hH : xH G A s.heap H _ (va_up w26 q31 (some (.inl (G.2 0, 4, .inl (fun _ => 0))))) := hH
  rw [← ew31] at hH
  have hc_q31 : w31 q31 = some (.inl (G.2 0, 4, .inl (fun _ => 0))) := by rw [ew31]; exact if_pos rfl
  have hc_a : w31 a = some (.inr (2, [.int 0, .int 0, .int 0, .int 0, .int 0, .null])) := by rw [ew31]; exact (if_neg ne_a_q31).trans hc_a
  have hn_q31 : w q31 = none := (hfr q31 ne_q31_a).symm.trans hq31
  have hfr : ∀ x, x ≠ a → x ≠ q31 → w31 x = w x := fun x z_a z_q31 => by rw [ew31]; exact (if_neg z_q31).trans (hfr x z_a)
  refine x_putF (C := RX1) (T := TX1) (N := 6) (ty := .array .int) hx hb hts hiX1 tyX1 tyX1_ok nmX1 hown hK hH hc_a rfl 5 (by decide) hf27 (fun _ h => h) rfl hmn rfl (by decide +kernel) rfl rfl (Nat.le_of_ble_eq_true rfl) dX1_init_33 (fun H locs hH => ?_)
  have hH : xH G A s.heap H locs (va_up w31 a (some (.inr (2, [.int 0, .int 0, .int 0, .int 0, .int 0, .ref q31])))) := hH
  obtain ⟨w33, ew33⟩ : ∃ z, z = va_up w31 a (some (.inr (2, [.int 0, .int 0, .int 0, .int 0, .int 0, .ref q31]))) := ⟨_, rfl⟩
  rw [← ew33] at hH
  have hc_a : w33 a = some (.inr (2, [.int 0, .int 0, .int 0, .int 0, .int 0, .ref q31])) := by rw [ew33]; exact if_pos rfl
  have hc_q31 : w33 q31 = some (.inl (G.2 0, 4, .inl (fun _ => 0))) := by rw [ew33, show va_up w31 a _ q31 = w31 q31 from if_neg ne_q31_a]; exact hc_q31
  have hfr : ∀ x, x ≠ a → x ≠ q31 → w33 x = w x := fun x z_a z_q31 => by rw [ew33]; exact (if_neg z_a).trans (hfr x z_a z_q31)
  refine W.widen (k := 1) (n := 4) (Nat.le_of_ble_eq_true rfl) (Nat.le_of_ble_eq_true rfl) ?_
  exact x_vret w33 hx hb hr hlocks hK hH (⟨q31, hn_q31, hc_a, hc_q31, hfr⟩) dX1_init_36
