
theorem xg_old {G : XG} {w : XW} {q y : Nat} (h : ∀ i, i < 7 → y ≠ q + i) : xgrid G w q y = w y := by
  have h0 : y ≠ q := h 0 (by decide)
  have h1 := h 1 (by decide)
  have h2 := h 2 (by decide)
  have h3 := h 3 (by decide)
  have h4 := h 4 (by decide)
  have h5 := h 5 (by decide)
  have h6 := h 6 (by decide)
  unfold xgrid
  rw [upW_ne _ _ h6, upW_ne _ _ h5, upW_ne _ _ h4, upW_ne _ _ h3, upW_ne _ _ h2, upW_ne _ _ h1, upW_ne _ _ h0]
theorem xg_0 {G : XG} {w : XW} {q : Nat} : xgrid G w q q = some (.inl (G.2 5, 6, .inr (.inr (.inr (.inr (fun i => if i < 6 then some (q + 1 + i) else none)))))) := by
  unfold xgrid
  rw [upW_ne _ _ (by omega), upW_ne _ _ (by omega), upW_ne _ _ (by omega), upW_ne _ _ (by omega), upW_ne _ _ (by omega), upW_ne _ _ (by omega), upW_at]
theorem xg_r {G : XG} {w : XW} {q k : Nat} (hk : k < 6) : xgrid G w q (q + 1 + k) = some (.inl (G.2 0, 20, .inl (fun _ => 0))) := by
  have : k = 0 ∨ k = 1 ∨ k = 2 ∨ k = 3 ∨ k = 4 ∨ k = 5 := by omega
  unfold xgrid
  rcases this with rfl | rfl | rfl | rfl | rfl | rfl
  · rw [upW_ne _ _ (by omega), upW_ne _ _ (by omega), upW_ne _ _ (by omega), upW_ne _ _ (by omega), upW_ne _ _ (by omega)]; exact upW_at _ _ _
  · rw [upW_ne _ _ (by omega), upW_ne _ _ (by omega), upW_ne _ _ (by omega), upW_ne _ _ (by omega)]; exact upW_at _ _ _
  · rw [upW_ne _ _ (by omega), upW_ne _ _ (by omega), upW_ne _ _ (by omega)]; exact upW_at _ _ _
  · rw [upW_ne _ _ (by omega), upW_ne _ _ (by omega)]; exact upW_at _ _ _
  · rw [upW_ne _ _ (by omega)]; exact upW_at _ _ _
  · exact upW_at _ _ _


theorem nmc {x y : Nat} {l : List Nat} (h : x ≠ y) (h2 : x ∉ l) : x ∉ y :: l := fun z => (List.mem_cons.mp z).elim h h2
def PlN (G : XG) (w u : XW) (a : Nat) : Prop := ∃ q12 q20 q30 q40 q48 q56 q62 ga66 q73 : Nat, [q12, q20, q30, q30 + 1 + 0, q30 + 1 + 1, q30 + 1 + 2, q30 + 1 + 3, q30 + 1 + 4, q30 + 1 + 5, q40, q48, q56, q62, ga66, q73].Nodup ∧ (∀ y, y ∈ [q12, q20, q30, q30 + 1 + 0, q30 + 1 + 1, q30 + 1 + 2, q30 + 1 + 3, q30 + 1 + 4, q30 + 1 + 5, q40, q48, q56, q62, ga66, q73] → w y = none) ∧ u a = some (.inr (3, [.int 0, .ref q12, .ref q20, .ref q30, .ref q40, .ref q48, .ref q56, .ref q62, .ref q73, .int 0, .int 0, .int 0])) ∧ u q12 = some (.inl (G.2 0, 6, .inl (fun _ => 0))) ∧ u q20 = some (.inl (G.2 0, 6, .inl (fun _ => 0))) ∧ u q40 = some (.inl (G.2 0, 6, .inl (fun _ => 0))) ∧ u q48 = some (.inl (G.2 0, 6, .inl (fun _ => 0))) ∧ u q56 = some (.inl (G.2 1, 6, .inl (fun _ => 0))) ∧ u q30 = some (.inl (G.2 5, 6, .inr (.inr (.inr (.inr (fun i => if i < 6 then some (q30 + 1 + i) else none)))))) ∧ (∀ k, k < 6 → u (q30 + 1 + k) = some (.inl (G.2 0, 20, .inl (fun _ => 0)))) ∧ u q62 = some (.inr (2, [.int 0, .int 0, .int 0, .int 0, .int 0, .ref ga66])) ∧ u ga66 = some (.inl (G.2 0, 4, .inl (fun _ => 0))) ∧ u q73 = some (.inr (4, [.int 0, .int 0, .int 0])) ∧ ∀ y, y ≠ a → y ∉ [q12, q20, q30, q30 + 1 + 0, q30 + 1 + 1, q30 + 1 + 2, q30 + 1 + 3, q30 + 1 + 4, q30 + 1 + 5, q40, q48, q56, q62, ga66, q73] → u y = w y

set_option maxHeartbeats 4000000 in
set_option maxRecDepth 100000 in
theorem c_X2_init (l : Launch) (G : XG) (A : Nat → Prop) (w : XW) (a : Nat)  (hc_a : w a = some (.inr (3, [.int 0, .null, .null, .null, .null, .null, .null, .null, .null, .int 0, .int 0, .int 0])))  : Met l yX2_init wsX2_init ({ frames := 2, cells := 15, slots := 200, locals := 44 }) (va_Pc [.ref a] (xP G A (w))) (va_Qv (fun (u : XW) => PlN G w u a) (fun u t => xB G A (u) t) A) 15 200 A := by
  refine Met.ofW (cc := cX2_init) (maxL := 1) (ret := none) (by decide) rfl ?_
  intro p e s m args below meth c s₁ B hml hv
  obtain ⟨rfl, hK, hH, hTt⟩ := hv
  have hx := B.exec
  have hb := B.bytes
  have hr := B.returns
  have hts := atoms_spec (ws := wsX2_init) B.pre
  have hown : s.vm.findClass RX2 = some m.cls := findClass_of_methodNamed B.named
  have hlocks := B.notSynchronized
  have hiX1 : ∀ w ∈ wsX10, w ∈ wsX2_init := by decide +kernel
  have hiX2 : ∀ w ∈ wsX20, w ∈ wsX2_init := by decide +kernel
  have hiX3 : ∀ w ∈ wsX30, w ∈ wsX2_init := by decide +kernel
  have hf9 := hts (.fieldLink RX2 9 "ResinWoods$Planner" "size" "I") (by decide +kernel)
  have hf15 := hts (.fieldLink RX2 15 "ResinWoods$Planner" "numbers" "[I") (by decide +kernel)
  have hf19 := hts (.fieldLink RX2 19 "ResinWoods$Planner" "places" "[I") (by decide +kernel)
  have hf24 := hts (.fieldLink RX2 24 "ResinWoods$Planner" "spills" "[[I") (by decide +kernel)
  have hf27 := hts (.fieldLink RX2 27 "ResinWoods$Planner" "order" "[I") (by decide +kernel)
  have hf30 := hts (.fieldLink RX2 30 "ResinWoods$Planner" "best" "[I") (by decide +kernel)
  have hf33 := hts (.fieldLink RX2 33 "ResinWoods$Planner" "isVisited" "[Z") (by decide +kernel)
  have hf40 := hts (.fieldLink RX2 40 "ResinWoods$Planner" "cup" "LResinWoods$Face;") (by decide +kernel)
  have hf47 := hts (.fieldLink RX2 47 "ResinWoods$Planner" "unread" "LResinWoods$Tally;") (by decide +kernel)
  have hf51 := hts (.fieldLink RX2 51 "ResinWoods$Planner" "hasBest" "Z") (by decide +kernel)
  have hf55 := hts (.fieldLink RX2 55 "ResinWoods$Planner" "bestOver" "I") (by decide +kernel)
  have hf58 := hts (.fieldLink RX2 58 "ResinWoods$Planner" "bestSteps" "I") (by decide +kernel)
  have hl := lv_entry ([.ref a]) (n := 1) (Nat.le_of_ble_eq_true rfl)
  rw [lg_entry_eq]
  generalize (lg_sl ([.ref a]) ++ List.replicate (1 - (lg_sl ([.ref a])).length) Slot.unset).toArray = ls at hl ⊢
  have hl : lv_has ls 1 [(0, .ref a)] := hl
  have hmn : meth.name = "<init>" := (name_of_methodNamed B.named B.method).1
  refine lv_aload_n hx hb dX2_init_0 rfl (lv_at hl 0 rfl) ?_
  refine W.objInit hx hb hown (hts (.methodLink RX2 3 objectInit) (by decide +kernel)) (hts (.instanceMethod objectInit) (by decide +kernel)) (hts (.code objectInit ⟨#[0xb1]⟩ 1 none) (by decide +kernel)) rfl (by rw [hml]; exact hl.1) rfl dX2_init_1 (Nat.le_of_ble_eq_true rfl) (Nat.le_of_ble_eq_true rfl) ?_
  refine W.eq (g2 := F0 m 4 ls []) rfl ?_
  refine lv_aload_n hx hb dX2_init_4 rfl (lv_at hl 0 rfl) ?_
  refine lv_iconst (v := 0) hx hb dX2_init_5 (by decide) ?_
  refine x_put (C := RX2) (T := TX2) (N := 12) (ty := .int) hx hb hts hiX2 tyX2 tyX2_ok nmX2 hown hK hH hc_a rfl 0 (by decide) hf9 (fun _ h => h) rfl (by decide +kernel) rfl rfl (Nat.le_of_ble_eq_true rfl) dX2_init_6 (fun H locs hH => ?_)
  have hH : xH G A s.heap H locs (va_up w a (some (.inr (3, [.int 0, .null, .null, .null, .null, .null, .null, .null, .null, .int 0, .int 0, .int 0])))) := hH
  obtain ⟨w6, ew6⟩ : ∃ z, z = va_up w a (some (.inr (3, [.int 0, .null, .null, .null, .null, .null, .null, .null, .null, .int 0, .int 0, .int 0]))) := ⟨_, rfl⟩
  rw [← ew6] at hH
  have hc_a : w6 a = some (.inr (3, [.int 0, .null, .null, .null, .null, .null, .null, .null, .null, .int 0, .int 0, .int 0])) := by rw [ew6]; exact if_pos rfl
  have hfr : ∀ x, x ≠ a → w6 x = w x := fun x z_a => by rw [ew6]; exact if_neg z_a
  refine lv_aload_n hx hb dX2_init_9 rfl (lv_at hl 0 rfl) ?_
  refine lv_bipush (v := 6) hx hb dX2_init_10 (by decide) ?_
  refine Y_newI hx hb hK hH (hts (.arrayClass .int) (by decide +kernel)) 6 rfl (by decide) (Nat.le_of_ble_eq_true rfl) (Nat.le_of_ble_eq_true rfl) dX2_init_12 (fun q12 H hq12 hH => ?_)
  have ne_a_q12 : a ≠ q12 := fun e9 => by rw [e9, hq12] at hc_a; cases hc_a
  have ne_q12_a : q12 ≠ a := fun e9 => ne_a_q12 e9.symm
  obtain ⟨w12, ew12⟩ : ∃ z, z = va_up w6 q12 (some (.inl (G.2 0, 6, .inl (fun _ => 0)))) := ⟨_, rfl⟩
  have hH : xH G A s.heap H _ (va_up w6 q12 (some (.inl (G.2 0, 6, .inl (fun _ => 0))))) := hH
  rw [← ew12] at hH
  have hc_q12 : w12 q12 = some (.inl (G.2 0, 6, .inl (fun _ => 0))) := by rw [ew12]; exact if_pos rfl
  have hc_a : w12 a = some (.inr (3, [.int 0, .null, .null, .null, .null, .null, .null, .null, .null, .int 0, .int 0, .int 0])) := by rw [ew12]; exact (if_neg ne_a_q12).trans hc_a
  have hn_q12 : w q12 = none := (hfr q12 ne_q12_a).symm.trans hq12
  have hfr : ∀ x, x ≠ a → x ≠ q12 → w12 x = w x := fun x z_a z_q12 => by rw [ew12]; exact (if_neg z_q12).trans (hfr x z_a)
  refine x_putF (C := RX2) (T := TX2) (N := 12) (ty := .array .int) hx hb hts hiX2 tyX2 tyX2_ok nmX2 hown hK hH hc_a rfl 1 (by decide) hf15 (fun _ h => h) rfl hmn rfl (by decide +kernel) rfl rfl (Nat.le_of_ble_eq_true rfl) dX2_init_14 (fun H locs hH => ?_)
  have hH : xH G A s.heap H locs (va_up w12 a (some (.inr (3, [.int 0, .ref q12, .null, .null, .null, .null, .null, .null, .null, .int 0, .int 0, .int 0])))) := hH
  obtain ⟨w14, ew14⟩ : ∃ z, z = va_up w12 a (some (.inr (3, [.int 0, .ref q12, .null, .null, .null, .null, .null, .null, .null, .int 0, .int 0, .int 0]))) := ⟨_, rfl⟩
  rw [← ew14] at hH
  have hc_a : w14 a = some (.inr (3, [.int 0, .ref q12, .null, .null, .null, .null, .null, .null, .null, .int 0, .int 0, .int 0])) := by rw [ew14]; exact if_pos rfl
  have hc_q12 : w14 q12 = some (.inl (G.2 0, 6, .inl (fun _ => 0))) := by rw [ew14, show va_up w12 a _ q12 = w12 q12 from if_neg ne_q12_a]; exact hc_q12
  have hfr : ∀ x, x ≠ a → x ≠ q12 → w14 x = w x := fun x z_a z_q12 => by rw [ew14]; exact (if_neg z_a).trans (hfr x z_a z_q12)
  refine lv_aload_n hx hb dX2_init_17 rfl (lv_at hl 0 rfl) ?_
  refine lv_bipush (v := 6) hx hb dX2_init_18 (by decide) ?_
  refine Y_newI hx hb hK hH (hts (.arrayClass .int) (by decide +kernel)) 6 rfl (by decide) (Nat.le_of_ble_eq_true rfl) (Nat.le_of_ble_eq_true rfl) dX2_init_20 (fun q20 H hq20 hH => ?_)
  have ne_a_q20 : a ≠ q20 := fun e9 => by rw [e9, hq20] at hc_a; cases hc_a
  have ne_q20_a : q20 ≠ a := fun e9 => ne_a_q20 e9.symm
  have ne_q12_q20 : q12 ≠ q20 := fun e9 => by rw [e9, hq20] at hc_q12; cases hc_q12
  have ne_q20_q12 : q20 ≠ q12 := fun e9 => ne_q12_q20 e9.symm
  obtain ⟨w20, ew20⟩ : ∃ z, z = va_up w14 q20 (some (.inl (G.2 0, 6, .inl (fun _ => 0)))) := ⟨_, rfl⟩
  have hH : xH G A s.heap H _ (va_up w14 q20 (some (.inl (G.2 0, 6, .inl (fun _ => 0))))) := hH
  rw [← ew20] at hH
  have hc_q20 : w20 q20 = some (.inl (G.2 0, 6, .inl (fun _ => 0))) := by rw [ew20]; exact if_pos rfl
  have hc_a : w20 a = some (.inr (3, [.int 0, .ref q12, .null, .null, .null, .null, .null, .null, .null, .int 0, .int 0, .int 0])) := by rw [ew20]; exact (if_neg ne_a_q20).trans hc_a
  have hc_q12 : w20 q12 = some (.inl (G.2 0, 6, .inl (fun _ => 0))) := by rw [ew20]; exact (if_neg ne_q12_q20).trans hc_q12
  have hn_q20 : w q20 = none := (hfr q20 ne_q20_a ne_q20_q12).symm.trans hq20
  have hfr : ∀ x, x ≠ a → x ≠ q12 → x ≠ q20 → w20 x = w x := fun x z_a z_q12 z_q20 => by rw [ew20]; exact (if_neg z_q20).trans (hfr x z_a z_q12)
  refine x_putF (C := RX2) (T := TX2) (N := 12) (ty := .array .int) hx hb hts hiX2 tyX2 tyX2_ok nmX2 hown hK hH hc_a rfl 2 (by decide) hf19 (fun _ h => h) rfl hmn rfl (by decide +kernel) rfl rfl (Nat.le_of_ble_eq_true rfl) dX2_init_22 (fun H locs hH => ?_)
  have hH : xH G A s.heap H locs (va_up w20 a (some (.inr (3, [.int 0, .ref q12, .ref q20, .null, .null, .null, .null, .null, .null, .int 0, .int 0, .int 0])))) := hH
  obtain ⟨w22, ew22⟩ : ∃ z, z = va_up w20 a (some (.inr (3, [.int 0, .ref q12, .ref q20, .null, .null, .null, .null, .null, .null, .int 0, .int 0, .int 0]))) := ⟨_, rfl⟩
  rw [← ew22] at hH
  have hc_a : w22 a = some (.inr (3, [.int 0, .ref q12, .ref q20, .null, .null, .null, .null, .null, .null, .int 0, .int 0, .int 0])) := by rw [ew22]; exact if_pos rfl
  have hc_q12 : w22 q12 = some (.inl (G.2 0, 6, .inl (fun _ => 0))) := by rw [ew22, show va_up w20 a _ q12 = w20 q12 from if_neg ne_q12_a]; exact hc_q12
  have hc_q20 : w22 q20 = some (.inl (G.2 0, 6, .inl (fun _ => 0))) := by rw [ew22, show va_up w20 a _ q20 = w20 q20 from if_neg ne_q20_a]; exact hc_q20
  have hfr : ∀ x, x ≠ a → x ≠ q12 → x ≠ q20 → w22 x = w x := fun x z_a z_q12 z_q20 => by rw [ew22]; exact (if_neg z_a).trans (hfr x z_a z_q12 z_q20)
  refine lv_aload_n hx hb dX2_init_25 rfl (lv_at hl 0 rfl) ?_
  refine lv_bipush (v := 6) hx hb dX2_init_26 (by decide) ?_
  refine lv_bipush (v := 20) hx hb dX2_init_28 (by decide) ?_
  refine x_mna hx hb hown (hts (.classLink RX2 22 "[[I") (by decide +kernel)) hTt.2.2.2.2.2.2.2.2.2.2.2.2 (hts (.arrayClass .int) (by decide +kernel)) hK hH (Nat.le_of_ble_eq_true rfl) (Nat.le_of_ble_eq_true rfl) dX2_init_30 (fun q30 H hg hH => ?_)
  obtain ⟨g0, hg0⟩ : ∃ z, z = q30 + 1 + 0 := ⟨_, rfl⟩
  obtain ⟨g1, hg1⟩ : ∃ z, z = q30 + 1 + 1 := ⟨_, rfl⟩
  obtain ⟨g2, hg2⟩ : ∃ z, z = q30 + 1 + 2 := ⟨_, rfl⟩
  obtain ⟨g3, hg3⟩ : ∃ z, z = q30 + 1 + 3 := ⟨_, rfl⟩
  obtain ⟨g4, hg4⟩ : ∃ z, z = q30 + 1 + 4 := ⟨_, rfl⟩
  obtain ⟨g5, hg5⟩ : ∃ z, z = q30 + 1 + 5 := ⟨_, rfl⟩
  have hgn : ∀ y z, w22 y = some z → ∀ i, i < 7 → y ≠ q30 + i := fun y z hy i hi e9 => by rw [e9, hg i hi] at hy; cases hy
  have hgn_a := hgn _ _ hc_a
  have ne_a_q30 : a ≠ q30 := hgn_a 0 (by decide)
  have ne_q30_a : q30 ≠ a := fun e9 => ne_a_q30 e9.symm
  have ne_a_g0 : a ≠ g0 := by rw [hg0, Nat.add_assoc]; exact hgn_a (1 + 0) (by decide)
  have ne_g0_a : g0 ≠ a := fun e9 => ne_a_g0 e9.symm
  have ne_a_g1 : a ≠ g1 := by rw [hg1, Nat.add_assoc]; exact hgn_a (1 + 1) (by decide)
  have ne_g1_a : g1 ≠ a := fun e9 => ne_a_g1 e9.symm
  have ne_a_g2 : a ≠ g2 := by rw [hg2, Nat.add_assoc]; exact hgn_a (1 + 2) (by decide)
  have ne_g2_a : g2 ≠ a := fun e9 => ne_a_g2 e9.symm
  have ne_a_g3 : a ≠ g3 := by rw [hg3, Nat.add_assoc]; exact hgn_a (1 + 3) (by decide)
  have ne_g3_a : g3 ≠ a := fun e9 => ne_a_g3 e9.symm
  have ne_a_g4 : a ≠ g4 := by rw [hg4, Nat.add_assoc]; exact hgn_a (1 + 4) (by decide)
  have ne_g4_a : g4 ≠ a := fun e9 => ne_a_g4 e9.symm
  have ne_a_g5 : a ≠ g5 := by rw [hg5, Nat.add_assoc]; exact hgn_a (1 + 5) (by decide)
  have ne_g5_a : g5 ≠ a := fun e9 => ne_a_g5 e9.symm
  have hgn_q12 := hgn _ _ hc_q12
  have ne_q12_q30 : q12 ≠ q30 := hgn_q12 0 (by decide)
  have ne_q30_q12 : q30 ≠ q12 := fun e9 => ne_q12_q30 e9.symm
  have ne_q12_g0 : q12 ≠ g0 := by rw [hg0, Nat.add_assoc]; exact hgn_q12 (1 + 0) (by decide)
  have ne_g0_q12 : g0 ≠ q12 := fun e9 => ne_q12_g0 e9.symm
  have ne_q12_g1 : q12 ≠ g1 := by rw [hg1, Nat.add_assoc]; exact hgn_q12 (1 + 1) (by decide)
  have ne_g1_q12 : g1 ≠ q12 := fun e9 => ne_q12_g1 e9.symm
  have ne_q12_g2 : q12 ≠ g2 := by rw [hg2, Nat.add_assoc]; exact hgn_q12 (1 + 2) (by decide)
  have ne_g2_q12 : g2 ≠ q12 := fun e9 => ne_q12_g2 e9.symm
  have ne_q12_g3 : q12 ≠ g3 := by rw [hg3, Nat.add_assoc]; exact hgn_q12 (1 + 3) (by decide)
  have ne_g3_q12 : g3 ≠ q12 := fun e9 => ne_q12_g3 e9.symm
  have ne_q12_g4 : q12 ≠ g4 := by rw [hg4, Nat.add_assoc]; exact hgn_q12 (1 + 4) (by decide)
  have ne_g4_q12 : g4 ≠ q12 := fun e9 => ne_q12_g4 e9.symm
  have ne_q12_g5 : q12 ≠ g5 := by rw [hg5, Nat.add_assoc]; exact hgn_q12 (1 + 5) (by decide)
  have ne_g5_q12 : g5 ≠ q12 := fun e9 => ne_q12_g5 e9.symm
  have hgn_q20 := hgn _ _ hc_q20
  have ne_q20_q30 : q20 ≠ q30 := hgn_q20 0 (by decide)
  have ne_q30_q20 : q30 ≠ q20 := fun e9 => ne_q20_q30 e9.symm
  have ne_q20_g0 : q20 ≠ g0 := by rw [hg0, Nat.add_assoc]; exact hgn_q20 (1 + 0) (by decide)
  have ne_g0_q20 : g0 ≠ q20 := fun e9 => ne_q20_g0 e9.symm
  have ne_q20_g1 : q20 ≠ g1 := by rw [hg1, Nat.add_assoc]; exact hgn_q20 (1 + 1) (by decide)
  have ne_g1_q20 : g1 ≠ q20 := fun e9 => ne_q20_g1 e9.symm
  have ne_q20_g2 : q20 ≠ g2 := by rw [hg2, Nat.add_assoc]; exact hgn_q20 (1 + 2) (by decide)
  have ne_g2_q20 : g2 ≠ q20 := fun e9 => ne_q20_g2 e9.symm
  have ne_q20_g3 : q20 ≠ g3 := by rw [hg3, Nat.add_assoc]; exact hgn_q20 (1 + 3) (by decide)
  have ne_g3_q20 : g3 ≠ q20 := fun e9 => ne_q20_g3 e9.symm
  have ne_q20_g4 : q20 ≠ g4 := by rw [hg4, Nat.add_assoc]; exact hgn_q20 (1 + 4) (by decide)
  have ne_g4_q20 : g4 ≠ q20 := fun e9 => ne_q20_g4 e9.symm
  have ne_q20_g5 : q20 ≠ g5 := by rw [hg5, Nat.add_assoc]; exact hgn_q20 (1 + 5) (by decide)
  have ne_g5_q20 : g5 ≠ q20 := fun e9 => ne_q20_g5 e9.symm
  have ne_q30_g0 : q30 ≠ g0 := by omega
  have ne_g0_q30 : g0 ≠ q30 := by omega
  have ne_g0_g1 : g0 ≠ g1 := by omega
  have ne_g0_g2 : g0 ≠ g2 := by omega
  have ne_g0_g3 : g0 ≠ g3 := by omega
  have ne_g0_g4 : g0 ≠ g4 := by omega
  have ne_g0_g5 : g0 ≠ g5 := by omega
  have ne_q30_g1 : q30 ≠ g1 := by omega
  have ne_g1_q30 : g1 ≠ q30 := by omega
  have ne_g1_g0 : g1 ≠ g0 := by omega
  have ne_g1_g2 : g1 ≠ g2 := by omega
  have ne_g1_g3 : g1 ≠ g3 := by omega
  have ne_g1_g4 : g1 ≠ g4 := by omega
  have ne_g1_g5 : g1 ≠ g5 := by omega
  have ne_q30_g2 : q30 ≠ g2 := by omega
  have ne_g2_q30 : g2 ≠ q30 := by omega
  have ne_g2_g0 : g2 ≠ g0 := by omega
  have ne_g2_g1 : g2 ≠ g1 := by omega
  have ne_g2_g3 : g2 ≠ g3 := by omega
  have ne_g2_g4 : g2 ≠ g4 := by omega
  have ne_g2_g5 : g2 ≠ g5 := by omega
  have ne_q30_g3 : q30 ≠ g3 := by omega
  have ne_g3_q30 : g3 ≠ q30 := by omega
  have ne_g3_g0 : g3 ≠ g0 := by omega
  have ne_g3_g1 : g3 ≠ g1 := by omega
  have ne_g3_g2 : g3 ≠ g2 := by omega
  have ne_g3_g4 : g3 ≠ g4 := by omega
  have ne_g3_g5 : g3 ≠ g5 := by omega
  have ne_q30_g4 : q30 ≠ g4 := by omega
  have ne_g4_q30 : g4 ≠ q30 := by omega
  have ne_g4_g0 : g4 ≠ g0 := by omega
  have ne_g4_g1 : g4 ≠ g1 := by omega
  have ne_g4_g2 : g4 ≠ g2 := by omega
  have ne_g4_g3 : g4 ≠ g3 := by omega
  have ne_g4_g5 : g4 ≠ g5 := by omega
  have ne_q30_g5 : q30 ≠ g5 := by omega
  have ne_g5_q30 : g5 ≠ q30 := by omega
  have ne_g5_g0 : g5 ≠ g0 := by omega
  have ne_g5_g1 : g5 ≠ g1 := by omega
  have ne_g5_g2 : g5 ≠ g2 := by omega
  have ne_g5_g3 : g5 ≠ g3 := by omega
  have ne_g5_g4 : g5 ≠ g4 := by omega
  obtain ⟨w30, ew30⟩ : ∃ z, z = xgrid G w22 q30 := ⟨_, rfl⟩
  rw [← ew30] at hH
  have hc_a : w30 a = some (.inr (3, [.int 0, .ref q12, .ref q20, .null, .null, .null, .null, .null, .null, .int 0, .int 0, .int 0])) := by rw [ew30, xg_old hgn_a]; exact hc_a
  have hc_q12 : w30 q12 = some (.inl (G.2 0, 6, .inl (fun _ => 0))) := by rw [ew30, xg_old hgn_q12]; exact hc_q12
  have hc_q20 : w30 q20 = some (.inl (G.2 0, 6, .inl (fun _ => 0))) := by rw [ew30, xg_old hgn_q20]; exact hc_q20
  have hc_q30 : w30 q30 = some (.inl (G.2 5, 6, .inr (.inr (.inr (.inr (fun i => if i < 6 then some (q30 + 1 + i) else none)))))) := by rw [ew30]; exact xg_0
  have hc_g0 : w30 g0 = some (.inl (G.2 0, 20, .inl (fun _ => 0))) := by rw [ew30, hg0]; exact xg_r (by decide)
  have hc_g1 : w30 g1 = some (.inl (G.2 0, 20, .inl (fun _ => 0))) := by rw [ew30, hg1]; exact xg_r (by decide)
  have hc_g2 : w30 g2 = some (.inl (G.2 0, 20, .inl (fun _ => 0))) := by rw [ew30, hg2]; exact xg_r (by decide)
  have hc_g3 : w30 g3 = some (.inl (G.2 0, 20, .inl (fun _ => 0))) := by rw [ew30, hg3]; exact xg_r (by decide)
  have hc_g4 : w30 g4 = some (.inl (G.2 0, 20, .inl (fun _ => 0))) := by rw [ew30, hg4]; exact xg_r (by decide)
  have hc_g5 : w30 g5 = some (.inl (G.2 0, 20, .inl (fun _ => 0))) := by rw [ew30, hg5]; exact xg_r (by decide)
  have hn_q30 : w q30 = none := (hfr q30 ne_q30_a ne_q30_q12 ne_q30_q20).symm.trans (hg 0 (by decide))
  have hn_g0 : w g0 = none := (hfr g0 ne_g0_a ne_g0_q12 ne_g0_q20).symm.trans (by rw [hg0, Nat.add_assoc]; exact hg (1 + 0) (by decide))
  have hn_g1 : w g1 = none := (hfr g1 ne_g1_a ne_g1_q12 ne_g1_q20).symm.trans (by rw [hg1, Nat.add_assoc]; exact hg (1 + 1) (by decide))
  have hn_g2 : w g2 = none := (hfr g2 ne_g2_a ne_g2_q12 ne_g2_q20).symm.trans (by rw [hg2, Nat.add_assoc]; exact hg (1 + 2) (by decide))
  have hn_g3 : w g3 = none := (hfr g3 ne_g3_a ne_g3_q12 ne_g3_q20).symm.trans (by rw [hg3, Nat.add_assoc]; exact hg (1 + 3) (by decide))
  have hn_g4 : w g4 = none := (hfr g4 ne_g4_a ne_g4_q12 ne_g4_q20).symm.trans (by rw [hg4, Nat.add_assoc]; exact hg (1 + 4) (by decide))
  have hn_g5 : w g5 = none := (hfr g5 ne_g5_a ne_g5_q12 ne_g5_q20).symm.trans (by rw [hg5, Nat.add_assoc]; exact hg (1 + 5) (by decide))
  have hfr : ∀ x, x ≠ a → x ≠ q12 → x ≠ q20 → x ≠ q30 → x ≠ g0 → x ≠ g1 → x ≠ g2 → x ≠ g3 → x ≠ g4 → x ≠ g5 → w30 x = w x := fun x z_a z_q12 z_q20 z_q30 z_g0 z_g1 z_g2 z_g3 z_g4 z_g5 => by rw [ew30]; exact (xg_old (fun i hi e9 => by omega)).trans (hfr x z_a z_q12 z_q20)
  refine x_putF (C := RX2) (T := TX2) (N := 12) (ty := .array (.array .int)) hx hb hts hiX2 tyX2 tyX2_ok nmX2 hown hK hH hc_a rfl 3 (by decide) hf24 (fun _ h => h) rfl hmn rfl (by decide +kernel) rfl rfl (Nat.le_of_ble_eq_true rfl) dX2_init_34 (fun H locs hH => ?_)
  have hH : xH G A s.heap H locs (va_up w30 a (some (.inr (3, [.int 0, .ref q12, .ref q20, .ref q30, .null, .null, .null, .null, .null, .int 0, .int 0, .int 0])))) := hH
  obtain ⟨w34, ew34⟩ : ∃ z, z = va_up w30 a (some (.inr (3, [.int 0, .ref q12, .ref q20, .ref q30, .null, .null, .null, .null, .null, .int 0, .int 0, .int 0]))) := ⟨_, rfl⟩
  rw [← ew34] at hH
  have hc_a : w34 a = some (.inr (3, [.int 0, .ref q12, .ref q20, .ref q30, .null, .null, .null, .null, .null, .int 0, .int 0, .int 0])) := by rw [ew34]; exact if_pos rfl
  have hc_q12 : w34 q12 = some (.inl (G.2 0, 6, .inl (fun _ => 0))) := by rw [ew34, show va_up w30 a _ q12 = w30 q12 from if_neg ne_q12_a]; exact hc_q12
  have hc_q20 : w34 q20 = some (.inl (G.2 0, 6, .inl (fun _ => 0))) := by rw [ew34, show va_up w30 a _ q20 = w30 q20 from if_neg ne_q20_a]; exact hc_q20
  have hc_q30 : w34 q30 = some (.inl (G.2 5, 6, .inr (.inr (.inr (.inr (fun i => if i < 6 then some (q30 + 1 + i) else none)))))) := by rw [ew34, show va_up w30 a _ q30 = w30 q30 from if_neg ne_q30_a]; exact hc_q30
  have hc_g0 : w34 g0 = some (.inl (G.2 0, 20, .inl (fun _ => 0))) := by rw [ew34, show va_up w30 a _ g0 = w30 g0 from if_neg ne_g0_a]; exact hc_g0
  have hc_g1 : w34 g1 = some (.inl (G.2 0, 20, .inl (fun _ => 0))) := by rw [ew34, show va_up w30 a _ g1 = w30 g1 from if_neg ne_g1_a]; exact hc_g1
  have hc_g2 : w34 g2 = some (.inl (G.2 0, 20, .inl (fun _ => 0))) := by rw [ew34, show va_up w30 a _ g2 = w30 g2 from if_neg ne_g2_a]; exact hc_g2
  have hc_g3 : w34 g3 = some (.inl (G.2 0, 20, .inl (fun _ => 0))) := by rw [ew34, show va_up w30 a _ g3 = w30 g3 from if_neg ne_g3_a]; exact hc_g3
  have hc_g4 : w34 g4 = some (.inl (G.2 0, 20, .inl (fun _ => 0))) := by rw [ew34, show va_up w30 a _ g4 = w30 g4 from if_neg ne_g4_a]; exact hc_g4
  have hc_g5 : w34 g5 = some (.inl (G.2 0, 20, .inl (fun _ => 0))) := by rw [ew34, show va_up w30 a _ g5 = w30 g5 from if_neg ne_g5_a]; exact hc_g5
  have hfr : ∀ x, x ≠ a → x ≠ q12 → x ≠ q20 → x ≠ q30 → x ≠ g0 → x ≠ g1 → x ≠ g2 → x ≠ g3 → x ≠ g4 → x ≠ g5 → w34 x = w x := fun x z_a z_q12 z_q20 z_q30 z_g0 z_g1 z_g2 z_g3 z_g4 z_g5 => by rw [ew34]; exact (if_neg z_a).trans (hfr x z_a z_q12 z_q20 z_q30 z_g0 z_g1 z_g2 z_g3 z_g4 z_g5)
  refine lv_aload_n hx hb dX2_init_37 rfl (lv_at hl 0 rfl) ?_
  refine lv_bipush (v := 6) hx hb dX2_init_38 (by decide) ?_
  refine Y_newI hx hb hK hH (hts (.arrayClass .int) (by decide +kernel)) 6 rfl (by decide) (Nat.le_of_ble_eq_true rfl) (Nat.le_of_ble_eq_true rfl) dX2_init_40 (fun q40 H hq40 hH => ?_)
  have ne_a_q40 : a ≠ q40 := fun e9 => by rw [e9, hq40] at hc_a; cases hc_a
  have ne_q40_a : q40 ≠ a := fun e9 => ne_a_q40 e9.symm
  have ne_q12_q40 : q12 ≠ q40 := fun e9 => by rw [e9, hq40] at hc_q12; cases hc_q12
  have ne_q40_q12 : q40 ≠ q12 := fun e9 => ne_q12_q40 e9.symm
  have ne_q20_q40 : q20 ≠ q40 := fun e9 => by rw [e9, hq40] at hc_q20; cases hc_q20
  have ne_q40_q20 : q40 ≠ q20 := fun e9 => ne_q20_q40 e9.symm
  have ne_q30_q40 : q30 ≠ q40 := fun e9 => by rw [e9, hq40] at hc_q30; cases hc_q30
  have ne_q40_q30 : q40 ≠ q30 := fun e9 => ne_q30_q40 e9.symm
  have ne_g0_q40 : g0 ≠ q40 := fun e9 => by rw [e9, hq40] at hc_g0; cases hc_g0
  have ne_q40_g0 : q40 ≠ g0 := fun e9 => ne_g0_q40 e9.symm
  have ne_g1_q40 : g1 ≠ q40 := fun e9 => by rw [e9, hq40] at hc_g1; cases hc_g1
  have ne_q40_g1 : q40 ≠ g1 := fun e9 => ne_g1_q40 e9.symm
  have ne_g2_q40 : g2 ≠ q40 := fun e9 => by rw [e9, hq40] at hc_g2; cases hc_g2
  have ne_q40_g2 : q40 ≠ g2 := fun e9 => ne_g2_q40 e9.symm
  have ne_g3_q40 : g3 ≠ q40 := fun e9 => by rw [e9, hq40] at hc_g3; cases hc_g3
  have ne_q40_g3 : q40 ≠ g3 := fun e9 => ne_g3_q40 e9.symm
  have ne_g4_q40 : g4 ≠ q40 := fun e9 => by rw [e9, hq40] at hc_g4; cases hc_g4
  have ne_q40_g4 : q40 ≠ g4 := fun e9 => ne_g4_q40 e9.symm
  have ne_g5_q40 : g5 ≠ q40 := fun e9 => by rw [e9, hq40] at hc_g5; cases hc_g5
  have ne_q40_g5 : q40 ≠ g5 := fun e9 => ne_g5_q40 e9.symm
  obtain ⟨w40, ew40⟩ : ∃ z, z = va_up w34 q40 (some (.inl (G.2 0, 6, .inl (fun _ => 0)))) := ⟨_, rfl⟩
  have hH : xH G A s.heap H _ (va_up w34 q40 (some (.inl (G.2 0, 6, .inl (fun _ => 0))))) := hH
  rw [← ew40] at hH
  have hc_q40 : w40 q40 = some (.inl (G.2 0, 6, .inl (fun _ => 0))) := by rw [ew40]; exact if_pos rfl
  have hc_a : w40 a = some (.inr (3, [.int 0, .ref q12, .ref q20, .ref q30, .null, .null, .null, .null, .null, .int 0, .int 0, .int 0])) := by rw [ew40]; exact (if_neg ne_a_q40).trans hc_a
  have hc_q12 : w40 q12 = some (.inl (G.2 0, 6, .inl (fun _ => 0))) := by rw [ew40]; exact (if_neg ne_q12_q40).trans hc_q12
  have hc_q20 : w40 q20 = some (.inl (G.2 0, 6, .inl (fun _ => 0))) := by rw [ew40]; exact (if_neg ne_q20_q40).trans hc_q20
  have hc_q30 : w40 q30 = some (.inl (G.2 5, 6, .inr (.inr (.inr (.inr (fun i => if i < 6 then some (q30 + 1 + i) else none)))))) := by rw [ew40]; exact (if_neg ne_q30_q40).trans hc_q30
  have hc_g0 : w40 g0 = some (.inl (G.2 0, 20, .inl (fun _ => 0))) := by rw [ew40]; exact (if_neg ne_g0_q40).trans hc_g0
  have hc_g1 : w40 g1 = some (.inl (G.2 0, 20, .inl (fun _ => 0))) := by rw [ew40]; exact (if_neg ne_g1_q40).trans hc_g1
  have hc_g2 : w40 g2 = some (.inl (G.2 0, 20, .inl (fun _ => 0))) := by rw [ew40]; exact (if_neg ne_g2_q40).trans hc_g2
  have hc_g3 : w40 g3 = some (.inl (G.2 0, 20, .inl (fun _ => 0))) := by rw [ew40]; exact (if_neg ne_g3_q40).trans hc_g3
  have hc_g4 : w40 g4 = some (.inl (G.2 0, 20, .inl (fun _ => 0))) := by rw [ew40]; exact (if_neg ne_g4_q40).trans hc_g4
  have hc_g5 : w40 g5 = some (.inl (G.2 0, 20, .inl (fun _ => 0))) := by rw [ew40]; exact (if_neg ne_g5_q40).trans hc_g5
  have hn_q40 : w q40 = none := (hfr q40 ne_q40_a ne_q40_q12 ne_q40_q20 ne_q40_q30 ne_q40_g0 ne_q40_g1 ne_q40_g2 ne_q40_g3 ne_q40_g4 ne_q40_g5).symm.trans hq40
  have hfr : ∀ x, x ≠ a → x ≠ q12 → x ≠ q20 → x ≠ q30 → x ≠ g0 → x ≠ g1 → x ≠ g2 → x ≠ g3 → x ≠ g4 → x ≠ g5 → x ≠ q40 → w40 x = w x := fun x z_a z_q12 z_q20 z_q30 z_g0 z_g1 z_g2 z_g3 z_g4 z_g5 z_q40 => by rw [ew40]; exact (if_neg z_q40).trans (hfr x z_a z_q12 z_q20 z_q30 z_g0 z_g1 z_g2 z_g3 z_g4 z_g5)
  refine x_putF (C := RX2) (T := TX2) (N := 12) (ty := .array .int) hx hb hts hiX2 tyX2 tyX2_ok nmX2 hown hK hH hc_a rfl 4 (by decide) hf27 (fun _ h => h) rfl hmn rfl (by decide +kernel) rfl rfl (Nat.le_of_ble_eq_true rfl) dX2_init_42 (fun H locs hH => ?_)
  have hH : xH G A s.heap H locs (va_up w40 a (some (.inr (3, [.int 0, .ref q12, .ref q20, .ref q30, .ref q40, .null, .null, .null, .null, .int 0, .int 0, .int 0])))) := hH
  obtain ⟨w42, ew42⟩ : ∃ z, z = va_up w40 a (some (.inr (3, [.int 0, .ref q12, .ref q20, .ref q30, .ref q40, .null, .null, .null, .null, .int 0, .int 0, .int 0]))) := ⟨_, rfl⟩
  rw [← ew42] at hH
  have hc_a : w42 a = some (.inr (3, [.int 0, .ref q12, .ref q20, .ref q30, .ref q40, .null, .null, .null, .null, .int 0, .int 0, .int 0])) := by rw [ew42]; exact if_pos rfl
  have hc_q12 : w42 q12 = some (.inl (G.2 0, 6, .inl (fun _ => 0))) := by rw [ew42, show va_up w40 a _ q12 = w40 q12 from if_neg ne_q12_a]; exact hc_q12
  have hc_q20 : w42 q20 = some (.inl (G.2 0, 6, .inl (fun _ => 0))) := by rw [ew42, show va_up w40 a _ q20 = w40 q20 from if_neg ne_q20_a]; exact hc_q20
  have hc_q30 : w42 q30 = some (.inl (G.2 5, 6, .inr (.inr (.inr (.inr (fun i => if i < 6 then some (q30 + 1 + i) else none)))))) := by rw [ew42, show va_up w40 a _ q30 = w40 q30 from if_neg ne_q30_a]; exact hc_q30
  have hc_g0 : w42 g0 = some (.inl (G.2 0, 20, .inl (fun _ => 0))) := by rw [ew42, show va_up w40 a _ g0 = w40 g0 from if_neg ne_g0_a]; exact hc_g0
  have hc_g1 : w42 g1 = some (.inl (G.2 0, 20, .inl (fun _ => 0))) := by rw [ew42, show va_up w40 a _ g1 = w40 g1 from if_neg ne_g1_a]; exact hc_g1
  have hc_g2 : w42 g2 = some (.inl (G.2 0, 20, .inl (fun _ => 0))) := by rw [ew42, show va_up w40 a _ g2 = w40 g2 from if_neg ne_g2_a]; exact hc_g2
  have hc_g3 : w42 g3 = some (.inl (G.2 0, 20, .inl (fun _ => 0))) := by rw [ew42, show va_up w40 a _ g3 = w40 g3 from if_neg ne_g3_a]; exact hc_g3
  have hc_g4 : w42 g4 = some (.inl (G.2 0, 20, .inl (fun _ => 0))) := by rw [ew42, show va_up w40 a _ g4 = w40 g4 from if_neg ne_g4_a]; exact hc_g4
  have hc_g5 : w42 g5 = some (.inl (G.2 0, 20, .inl (fun _ => 0))) := by rw [ew42, show va_up w40 a _ g5 = w40 g5 from if_neg ne_g5_a]; exact hc_g5
  have hc_q40 : w42 q40 = some (.inl (G.2 0, 6, .inl (fun _ => 0))) := by rw [ew42, show va_up w40 a _ q40 = w40 q40 from if_neg ne_q40_a]; exact hc_q40
  have hfr : ∀ x, x ≠ a → x ≠ q12 → x ≠ q20 → x ≠ q30 → x ≠ g0 → x ≠ g1 → x ≠ g2 → x ≠ g3 → x ≠ g4 → x ≠ g5 → x ≠ q40 → w42 x = w x := fun x z_a z_q12 z_q20 z_q30 z_g0 z_g1 z_g2 z_g3 z_g4 z_g5 z_q40 => by rw [ew42]; exact (if_neg z_a).trans (hfr x z_a z_q12 z_q20 z_q30 z_g0 z_g1 z_g2 z_g3 z_g4 z_g5 z_q40)
  refine lv_aload_n hx hb dX2_init_45 rfl (lv_at hl 0 rfl) ?_
  refine lv_bipush (v := 6) hx hb dX2_init_46 (by decide) ?_
  refine Y_newI hx hb hK hH (hts (.arrayClass .int) (by decide +kernel)) 6 rfl (by decide) (Nat.le_of_ble_eq_true rfl) (Nat.le_of_ble_eq_true rfl) dX2_init_48 (fun q48 H hq48 hH => ?_)
  have ne_a_q48 : a ≠ q48 := fun e9 => by rw [e9, hq48] at hc_a; cases hc_a
  have ne_q48_a : q48 ≠ a := fun e9 => ne_a_q48 e9.symm
  have ne_q12_q48 : q12 ≠ q48 := fun e9 => by rw [e9, hq48] at hc_q12; cases hc_q12
  have ne_q48_q12 : q48 ≠ q12 := fun e9 => ne_q12_q48 e9.symm
  have ne_q20_q48 : q20 ≠ q48 := fun e9 => by rw [e9, hq48] at hc_q20; cases hc_q20
  have ne_q48_q20 : q48 ≠ q20 := fun e9 => ne_q20_q48 e9.symm
  have ne_q30_q48 : q30 ≠ q48 := fun e9 => by rw [e9, hq48] at hc_q30; cases hc_q30
  have ne_q48_q30 : q48 ≠ q30 := fun e9 => ne_q30_q48 e9.symm
  have ne_g0_q48 : g0 ≠ q48 := fun e9 => by rw [e9, hq48] at hc_g0; cases hc_g0
  have ne_q48_g0 : q48 ≠ g0 := fun e9 => ne_g0_q48 e9.symm
  have ne_g1_q48 : g1 ≠ q48 := fun e9 => by rw [e9, hq48] at hc_g1; cases hc_g1
  have ne_q48_g1 : q48 ≠ g1 := fun e9 => ne_g1_q48 e9.symm
  have ne_g2_q48 : g2 ≠ q48 := fun e9 => by rw [e9, hq48] at hc_g2; cases hc_g2
  have ne_q48_g2 : q48 ≠ g2 := fun e9 => ne_g2_q48 e9.symm
  have ne_g3_q48 : g3 ≠ q48 := fun e9 => by rw [e9, hq48] at hc_g3; cases hc_g3
  have ne_q48_g3 : q48 ≠ g3 := fun e9 => ne_g3_q48 e9.symm
  have ne_g4_q48 : g4 ≠ q48 := fun e9 => by rw [e9, hq48] at hc_g4; cases hc_g4
  have ne_q48_g4 : q48 ≠ g4 := fun e9 => ne_g4_q48 e9.symm
  have ne_g5_q48 : g5 ≠ q48 := fun e9 => by rw [e9, hq48] at hc_g5; cases hc_g5
  have ne_q48_g5 : q48 ≠ g5 := fun e9 => ne_g5_q48 e9.symm
  have ne_q40_q48 : q40 ≠ q48 := fun e9 => by rw [e9, hq48] at hc_q40; cases hc_q40
  have ne_q48_q40 : q48 ≠ q40 := fun e9 => ne_q40_q48 e9.symm
  obtain ⟨w48, ew48⟩ : ∃ z, z = va_up w42 q48 (some (.inl (G.2 0, 6, .inl (fun _ => 0)))) := ⟨_, rfl⟩
  have hH : xH G A s.heap H _ (va_up w42 q48 (some (.inl (G.2 0, 6, .inl (fun _ => 0))))) := hH
  rw [← ew48] at hH
  have hc_q48 : w48 q48 = some (.inl (G.2 0, 6, .inl (fun _ => 0))) := by rw [ew48]; exact if_pos rfl
  have hc_a : w48 a = some (.inr (3, [.int 0, .ref q12, .ref q20, .ref q30, .ref q40, .null, .null, .null, .null, .int 0, .int 0, .int 0])) := by rw [ew48]; exact (if_neg ne_a_q48).trans hc_a
  have hc_q12 : w48 q12 = some (.inl (G.2 0, 6, .inl (fun _ => 0))) := by rw [ew48]; exact (if_neg ne_q12_q48).trans hc_q12
  have hc_q20 : w48 q20 = some (.inl (G.2 0, 6, .inl (fun _ => 0))) := by rw [ew48]; exact (if_neg ne_q20_q48).trans hc_q20
  have hc_q30 : w48 q30 = some (.inl (G.2 5, 6, .inr (.inr (.inr (.inr (fun i => if i < 6 then some (q30 + 1 + i) else none)))))) := by rw [ew48]; exact (if_neg ne_q30_q48).trans hc_q30
  have hc_g0 : w48 g0 = some (.inl (G.2 0, 20, .inl (fun _ => 0))) := by rw [ew48]; exact (if_neg ne_g0_q48).trans hc_g0
  have hc_g1 : w48 g1 = some (.inl (G.2 0, 20, .inl (fun _ => 0))) := by rw [ew48]; exact (if_neg ne_g1_q48).trans hc_g1
  have hc_g2 : w48 g2 = some (.inl (G.2 0, 20, .inl (fun _ => 0))) := by rw [ew48]; exact (if_neg ne_g2_q48).trans hc_g2
  have hc_g3 : w48 g3 = some (.inl (G.2 0, 20, .inl (fun _ => 0))) := by rw [ew48]; exact (if_neg ne_g3_q48).trans hc_g3
  have hc_g4 : w48 g4 = some (.inl (G.2 0, 20, .inl (fun _ => 0))) := by rw [ew48]; exact (if_neg ne_g4_q48).trans hc_g4
  have hc_g5 : w48 g5 = some (.inl (G.2 0, 20, .inl (fun _ => 0))) := by rw [ew48]; exact (if_neg ne_g5_q48).trans hc_g5
  have hc_q40 : w48 q40 = some (.inl (G.2 0, 6, .inl (fun _ => 0))) := by rw [ew48]; exact (if_neg ne_q40_q48).trans hc_q40
  have hn_q48 : w q48 = none := (hfr q48 ne_q48_a ne_q48_q12 ne_q48_q20 ne_q48_q30 ne_q48_g0 ne_q48_g1 ne_q48_g2 ne_q48_g3 ne_q48_g4 ne_q48_g5 ne_q48_q40).symm.trans hq48
  have hfr : ∀ x, x ≠ a → x ≠ q12 → x ≠ q20 → x ≠ q30 → x ≠ g0 → x ≠ g1 → x ≠ g2 → x ≠ g3 → x ≠ g4 → x ≠ g5 → x ≠ q40 → x ≠ q48 → w48 x = w x := fun x z_a z_q12 z_q20 z_q30 z_g0 z_g1 z_g2 z_g3 z_g4 z_g5 z_q40 z_q48 => by rw [ew48]; exact (if_neg z_q48).trans (hfr x z_a z_q12 z_q20 z_q30 z_g0 z_g1 z_g2 z_g3 z_g4 z_g5 z_q40)
  refine x_putF (C := RX2) (T := TX2) (N := 12) (ty := .array .int) hx hb hts hiX2 tyX2 tyX2_ok nmX2 hown hK hH hc_a rfl 5 (by decide) hf30 (fun _ h => h) rfl hmn rfl (by decide +kernel) rfl rfl (Nat.le_of_ble_eq_true rfl) dX2_init_50 (fun H locs hH => ?_)
  have hH : xH G A s.heap H locs (va_up w48 a (some (.inr (3, [.int 0, .ref q12, .ref q20, .ref q30, .ref q40, .ref q48, .null, .null, .null, .int 0, .int 0, .int 0])))) := hH
  obtain ⟨w50, ew50⟩ : ∃ z, z = va_up w48 a (some (.inr (3, [.int 0, .ref q12, .ref q20, .ref q30, .ref q40, .ref q48, .null, .null, .null, .int 0, .int 0, .int 0]))) := ⟨_, rfl⟩
  rw [← ew50] at hH
  have hc_a : w50 a = some (.inr (3, [.int 0, .ref q12, .ref q20, .ref q30, .ref q40, .ref q48, .null, .null, .null, .int 0, .int 0, .int 0])) := by rw [ew50]; exact if_pos rfl
  have hc_q12 : w50 q12 = some (.inl (G.2 0, 6, .inl (fun _ => 0))) := by rw [ew50, show va_up w48 a _ q12 = w48 q12 from if_neg ne_q12_a]; exact hc_q12
  have hc_q20 : w50 q20 = some (.inl (G.2 0, 6, .inl (fun _ => 0))) := by rw [ew50, show va_up w48 a _ q20 = w48 q20 from if_neg ne_q20_a]; exact hc_q20
  have hc_q30 : w50 q30 = some (.inl (G.2 5, 6, .inr (.inr (.inr (.inr (fun i => if i < 6 then some (q30 + 1 + i) else none)))))) := by rw [ew50, show va_up w48 a _ q30 = w48 q30 from if_neg ne_q30_a]; exact hc_q30
  have hc_g0 : w50 g0 = some (.inl (G.2 0, 20, .inl (fun _ => 0))) := by rw [ew50, show va_up w48 a _ g0 = w48 g0 from if_neg ne_g0_a]; exact hc_g0
  have hc_g1 : w50 g1 = some (.inl (G.2 0, 20, .inl (fun _ => 0))) := by rw [ew50, show va_up w48 a _ g1 = w48 g1 from if_neg ne_g1_a]; exact hc_g1
  have hc_g2 : w50 g2 = some (.inl (G.2 0, 20, .inl (fun _ => 0))) := by rw [ew50, show va_up w48 a _ g2 = w48 g2 from if_neg ne_g2_a]; exact hc_g2
  have hc_g3 : w50 g3 = some (.inl (G.2 0, 20, .inl (fun _ => 0))) := by rw [ew50, show va_up w48 a _ g3 = w48 g3 from if_neg ne_g3_a]; exact hc_g3
  have hc_g4 : w50 g4 = some (.inl (G.2 0, 20, .inl (fun _ => 0))) := by rw [ew50, show va_up w48 a _ g4 = w48 g4 from if_neg ne_g4_a]; exact hc_g4
  have hc_g5 : w50 g5 = some (.inl (G.2 0, 20, .inl (fun _ => 0))) := by rw [ew50, show va_up w48 a _ g5 = w48 g5 from if_neg ne_g5_a]; exact hc_g5
  have hc_q40 : w50 q40 = some (.inl (G.2 0, 6, .inl (fun _ => 0))) := by rw [ew50, show va_up w48 a _ q40 = w48 q40 from if_neg ne_q40_a]; exact hc_q40
  have hc_q48 : w50 q48 = some (.inl (G.2 0, 6, .inl (fun _ => 0))) := by rw [ew50, show va_up w48 a _ q48 = w48 q48 from if_neg ne_q48_a]; exact hc_q48
  have hfr : ∀ x, x ≠ a → x ≠ q12 → x ≠ q20 → x ≠ q30 → x ≠ g0 → x ≠ g1 → x ≠ g2 → x ≠ g3 → x ≠ g4 → x ≠ g5 → x ≠ q40 → x ≠ q48 → w50 x = w x := fun x z_a z_q12 z_q20 z_q30 z_g0 z_g1 z_g2 z_g3 z_g4 z_g5 z_q40 z_q48 => by rw [ew50]; exact (if_neg z_a).trans (hfr x z_a z_q12 z_q20 z_q30 z_g0 z_g1 z_g2 z_g3 z_g4 z_g5 z_q40 z_q48)
  refine lv_aload_n hx hb dX2_init_53 rfl (lv_at hl 0 rfl) ?_
  refine lv_bipush (v := 6) hx hb dX2_init_54 (by decide) ?_
  refine Y_newZ hx hb hK hH (hts (.arrayClass .boolean) (by decide +kernel)) 6 rfl (by decide) (Nat.le_of_ble_eq_true rfl) (Nat.le_of_ble_eq_true rfl) dX2_init_56 (fun q56 H hq56 hH => ?_)
  have ne_a_q56 : a ≠ q56 := fun e9 => by rw [e9, hq56] at hc_a; cases hc_a
  have ne_q56_a : q56 ≠ a := fun e9 => ne_a_q56 e9.symm
  have ne_q12_q56 : q12 ≠ q56 := fun e9 => by rw [e9, hq56] at hc_q12; cases hc_q12
  have ne_q56_q12 : q56 ≠ q12 := fun e9 => ne_q12_q56 e9.symm
  have ne_q20_q56 : q20 ≠ q56 := fun e9 => by rw [e9, hq56] at hc_q20; cases hc_q20
  have ne_q56_q20 : q56 ≠ q20 := fun e9 => ne_q20_q56 e9.symm
  have ne_q30_q56 : q30 ≠ q56 := fun e9 => by rw [e9, hq56] at hc_q30; cases hc_q30
  have ne_q56_q30 : q56 ≠ q30 := fun e9 => ne_q30_q56 e9.symm
  have ne_g0_q56 : g0 ≠ q56 := fun e9 => by rw [e9, hq56] at hc_g0; cases hc_g0
  have ne_q56_g0 : q56 ≠ g0 := fun e9 => ne_g0_q56 e9.symm
  have ne_g1_q56 : g1 ≠ q56 := fun e9 => by rw [e9, hq56] at hc_g1; cases hc_g1
  have ne_q56_g1 : q56 ≠ g1 := fun e9 => ne_g1_q56 e9.symm
  have ne_g2_q56 : g2 ≠ q56 := fun e9 => by rw [e9, hq56] at hc_g2; cases hc_g2
  have ne_q56_g2 : q56 ≠ g2 := fun e9 => ne_g2_q56 e9.symm
  have ne_g3_q56 : g3 ≠ q56 := fun e9 => by rw [e9, hq56] at hc_g3; cases hc_g3
  have ne_q56_g3 : q56 ≠ g3 := fun e9 => ne_g3_q56 e9.symm
  have ne_g4_q56 : g4 ≠ q56 := fun e9 => by rw [e9, hq56] at hc_g4; cases hc_g4
  have ne_q56_g4 : q56 ≠ g4 := fun e9 => ne_g4_q56 e9.symm
  have ne_g5_q56 : g5 ≠ q56 := fun e9 => by rw [e9, hq56] at hc_g5; cases hc_g5
  have ne_q56_g5 : q56 ≠ g5 := fun e9 => ne_g5_q56 e9.symm
  have ne_q40_q56 : q40 ≠ q56 := fun e9 => by rw [e9, hq56] at hc_q40; cases hc_q40
  have ne_q56_q40 : q56 ≠ q40 := fun e9 => ne_q40_q56 e9.symm
  have ne_q48_q56 : q48 ≠ q56 := fun e9 => by rw [e9, hq56] at hc_q48; cases hc_q48
  have ne_q56_q48 : q56 ≠ q48 := fun e9 => ne_q48_q56 e9.symm
  obtain ⟨w56, ew56⟩ : ∃ z, z = va_up w50 q56 (some (.inl (G.2 1, 6, .inl (fun _ => 0)))) := ⟨_, rfl⟩
  have hH : xH G A s.heap H _ (va_up w50 q56 (some (.inl (G.2 1, 6, .inl (fun _ => 0))))) := hH
  rw [← ew56] at hH
  have hc_q56 : w56 q56 = some (.inl (G.2 1, 6, .inl (fun _ => 0))) := by rw [ew56]; exact if_pos rfl
  have hc_a : w56 a = some (.inr (3, [.int 0, .ref q12, .ref q20, .ref q30, .ref q40, .ref q48, .null, .null, .null, .int 0, .int 0, .int 0])) := by rw [ew56]; exact (if_neg ne_a_q56).trans hc_a
  have hc_q12 : w56 q12 = some (.inl (G.2 0, 6, .inl (fun _ => 0))) := by rw [ew56]; exact (if_neg ne_q12_q56).trans hc_q12
  have hc_q20 : w56 q20 = some (.inl (G.2 0, 6, .inl (fun _ => 0))) := by rw [ew56]; exact (if_neg ne_q20_q56).trans hc_q20
  have hc_q30 : w56 q30 = some (.inl (G.2 5, 6, .inr (.inr (.inr (.inr (fun i => if i < 6 then some (q30 + 1 + i) else none)))))) := by rw [ew56]; exact (if_neg ne_q30_q56).trans hc_q30
  have hc_g0 : w56 g0 = some (.inl (G.2 0, 20, .inl (fun _ => 0))) := by rw [ew56]; exact (if_neg ne_g0_q56).trans hc_g0
  have hc_g1 : w56 g1 = some (.inl (G.2 0, 20, .inl (fun _ => 0))) := by rw [ew56]; exact (if_neg ne_g1_q56).trans hc_g1
  have hc_g2 : w56 g2 = some (.inl (G.2 0, 20, .inl (fun _ => 0))) := by rw [ew56]; exact (if_neg ne_g2_q56).trans hc_g2
  have hc_g3 : w56 g3 = some (.inl (G.2 0, 20, .inl (fun _ => 0))) := by rw [ew56]; exact (if_neg ne_g3_q56).trans hc_g3
  have hc_g4 : w56 g4 = some (.inl (G.2 0, 20, .inl (fun _ => 0))) := by rw [ew56]; exact (if_neg ne_g4_q56).trans hc_g4
  have hc_g5 : w56 g5 = some (.inl (G.2 0, 20, .inl (fun _ => 0))) := by rw [ew56]; exact (if_neg ne_g5_q56).trans hc_g5
  have hc_q40 : w56 q40 = some (.inl (G.2 0, 6, .inl (fun _ => 0))) := by rw [ew56]; exact (if_neg ne_q40_q56).trans hc_q40
  have hc_q48 : w56 q48 = some (.inl (G.2 0, 6, .inl (fun _ => 0))) := by rw [ew56]; exact (if_neg ne_q48_q56).trans hc_q48
  have hn_q56 : w q56 = none := (hfr q56 ne_q56_a ne_q56_q12 ne_q56_q20 ne_q56_q30 ne_q56_g0 ne_q56_g1 ne_q56_g2 ne_q56_g3 ne_q56_g4 ne_q56_g5 ne_q56_q40 ne_q56_q48).symm.trans hq56
  have hfr : ∀ x, x ≠ a → x ≠ q12 → x ≠ q20 → x ≠ q30 → x ≠ g0 → x ≠ g1 → x ≠ g2 → x ≠ g3 → x ≠ g4 → x ≠ g5 → x ≠ q40 → x ≠ q48 → x ≠ q56 → w56 x = w x := fun x z_a z_q12 z_q20 z_q30 z_g0 z_g1 z_g2 z_g3 z_g4 z_g5 z_q40 z_q48 z_q56 => by rw [ew56]; exact (if_neg z_q56).trans (hfr x z_a z_q12 z_q20 z_q30 z_g0 z_g1 z_g2 z_g3 z_g4 z_g5 z_q40 z_q48)
  refine x_putF (C := RX2) (T := TX2) (N := 12) (ty := .array .boolean) hx hb hts hiX2 tyX2 tyX2_ok nmX2 hown hK hH hc_a rfl 6 (by decide) hf33 (fun _ h => h) rfl hmn rfl (by decide +kernel) rfl rfl (Nat.le_of_ble_eq_true rfl) dX2_init_58 (fun H locs hH => ?_)
  have hH : xH G A s.heap H locs (va_up w56 a (some (.inr (3, [.int 0, .ref q12, .ref q20, .ref q30, .ref q40, .ref q48, .ref q56, .null, .null, .int 0, .int 0, .int 0])))) := hH
  obtain ⟨w58, ew58⟩ : ∃ z, z = va_up w56 a (some (.inr (3, [.int 0, .ref q12, .ref q20, .ref q30, .ref q40, .ref q48, .ref q56, .null, .null, .int 0, .int 0, .int 0]))) := ⟨_, rfl⟩
  rw [← ew58] at hH
  have hc_a : w58 a = some (.inr (3, [.int 0, .ref q12, .ref q20, .ref q30, .ref q40, .ref q48, .ref q56, .null, .null, .int 0, .int 0, .int 0])) := by rw [ew58]; exact if_pos rfl
  have hc_q12 : w58 q12 = some (.inl (G.2 0, 6, .inl (fun _ => 0))) := by rw [ew58, show va_up w56 a _ q12 = w56 q12 from if_neg ne_q12_a]; exact hc_q12
  have hc_q20 : w58 q20 = some (.inl (G.2 0, 6, .inl (fun _ => 0))) := by rw [ew58, show va_up w56 a _ q20 = w56 q20 from if_neg ne_q20_a]; exact hc_q20
  have hc_q30 : w58 q30 = some (.inl (G.2 5, 6, .inr (.inr (.inr (.inr (fun i => if i < 6 then some (q30 + 1 + i) else none)))))) := by rw [ew58, show va_up w56 a _ q30 = w56 q30 from if_neg ne_q30_a]; exact hc_q30
  have hc_g0 : w58 g0 = some (.inl (G.2 0, 20, .inl (fun _ => 0))) := by rw [ew58, show va_up w56 a _ g0 = w56 g0 from if_neg ne_g0_a]; exact hc_g0
  have hc_g1 : w58 g1 = some (.inl (G.2 0, 20, .inl (fun _ => 0))) := by rw [ew58, show va_up w56 a _ g1 = w56 g1 from if_neg ne_g1_a]; exact hc_g1
  have hc_g2 : w58 g2 = some (.inl (G.2 0, 20, .inl (fun _ => 0))) := by rw [ew58, show va_up w56 a _ g2 = w56 g2 from if_neg ne_g2_a]; exact hc_g2
  have hc_g3 : w58 g3 = some (.inl (G.2 0, 20, .inl (fun _ => 0))) := by rw [ew58, show va_up w56 a _ g3 = w56 g3 from if_neg ne_g3_a]; exact hc_g3
  have hc_g4 : w58 g4 = some (.inl (G.2 0, 20, .inl (fun _ => 0))) := by rw [ew58, show va_up w56 a _ g4 = w56 g4 from if_neg ne_g4_a]; exact hc_g4
  have hc_g5 : w58 g5 = some (.inl (G.2 0, 20, .inl (fun _ => 0))) := by rw [ew58, show va_up w56 a _ g5 = w56 g5 from if_neg ne_g5_a]; exact hc_g5
  have hc_q40 : w58 q40 = some (.inl (G.2 0, 6, .inl (fun _ => 0))) := by rw [ew58, show va_up w56 a _ q40 = w56 q40 from if_neg ne_q40_a]; exact hc_q40
  have hc_q48 : w58 q48 = some (.inl (G.2 0, 6, .inl (fun _ => 0))) := by rw [ew58, show va_up w56 a _ q48 = w56 q48 from if_neg ne_q48_a]; exact hc_q48
  have hc_q56 : w58 q56 = some (.inl (G.2 1, 6, .inl (fun _ => 0))) := by rw [ew58, show va_up w56 a _ q56 = w56 q56 from if_neg ne_q56_a]; exact hc_q56
  have hfr : ∀ x, x ≠ a → x ≠ q12 → x ≠ q20 → x ≠ q30 → x ≠ g0 → x ≠ g1 → x ≠ g2 → x ≠ g3 → x ≠ g4 → x ≠ g5 → x ≠ q40 → x ≠ q48 → x ≠ q56 → w58 x = w x := fun x z_a z_q12 z_q20 z_q30 z_g0 z_g1 z_g2 z_g3 z_g4 z_g5 z_q40 z_q48 z_q56 => by rw [ew58]; exact (if_neg z_a).trans (hfr x z_a z_q12 z_q20 z_q30 z_g0 z_g1 z_g2 z_g3 z_g4 z_g5 z_q40 z_q48 z_q56)
  refine lv_aload_n hx hb dX2_init_61 rfl (lv_at hl 0 rfl) ?_
  refine x_new (C := RX1) (T := TX1) (N := 6) (ci := 2) (fs := [.int 0, .int 0, .int 0, .int 0, .int 0, .null]) hx hb hts hiX1 tyX1 tyX1_ok hown (hts (.classLink RX2 37 RX1) (by decide +kernel)) (hts (.instantiable RX1 6) (by decide +kernel)) (hts (.initialized RX1) (by decide +kernel)) hK hH rfl (by decide +kernel) (Nat.le_of_ble_eq_true rfl) (Nat.le_of_ble_eq_true rfl) dX2_init_62 (fun q62 H hq62 hH => ?_)
  have ne_a_q62 : a ≠ q62 := fun e9 => by rw [e9, hq62] at hc_a; cases hc_a
  have ne_q62_a : q62 ≠ a := fun e9 => ne_a_q62 e9.symm
  have ne_q12_q62 : q12 ≠ q62 := fun e9 => by rw [e9, hq62] at hc_q12; cases hc_q12
  have ne_q62_q12 : q62 ≠ q12 := fun e9 => ne_q12_q62 e9.symm
  have ne_q20_q62 : q20 ≠ q62 := fun e9 => by rw [e9, hq62] at hc_q20; cases hc_q20
  have ne_q62_q20 : q62 ≠ q20 := fun e9 => ne_q20_q62 e9.symm
  have ne_q30_q62 : q30 ≠ q62 := fun e9 => by rw [e9, hq62] at hc_q30; cases hc_q30
  have ne_q62_q30 : q62 ≠ q30 := fun e9 => ne_q30_q62 e9.symm
  have ne_g0_q62 : g0 ≠ q62 := fun e9 => by rw [e9, hq62] at hc_g0; cases hc_g0
  have ne_q62_g0 : q62 ≠ g0 := fun e9 => ne_g0_q62 e9.symm
  have ne_g1_q62 : g1 ≠ q62 := fun e9 => by rw [e9, hq62] at hc_g1; cases hc_g1
  have ne_q62_g1 : q62 ≠ g1 := fun e9 => ne_g1_q62 e9.symm
  have ne_g2_q62 : g2 ≠ q62 := fun e9 => by rw [e9, hq62] at hc_g2; cases hc_g2
  have ne_q62_g2 : q62 ≠ g2 := fun e9 => ne_g2_q62 e9.symm
  have ne_g3_q62 : g3 ≠ q62 := fun e9 => by rw [e9, hq62] at hc_g3; cases hc_g3
  have ne_q62_g3 : q62 ≠ g3 := fun e9 => ne_g3_q62 e9.symm
  have ne_g4_q62 : g4 ≠ q62 := fun e9 => by rw [e9, hq62] at hc_g4; cases hc_g4
  have ne_q62_g4 : q62 ≠ g4 := fun e9 => ne_g4_q62 e9.symm
  have ne_g5_q62 : g5 ≠ q62 := fun e9 => by rw [e9, hq62] at hc_g5; cases hc_g5
  have ne_q62_g5 : q62 ≠ g5 := fun e9 => ne_g5_q62 e9.symm
  have ne_q40_q62 : q40 ≠ q62 := fun e9 => by rw [e9, hq62] at hc_q40; cases hc_q40
  have ne_q62_q40 : q62 ≠ q40 := fun e9 => ne_q40_q62 e9.symm
  have ne_q48_q62 : q48 ≠ q62 := fun e9 => by rw [e9, hq62] at hc_q48; cases hc_q48
  have ne_q62_q48 : q62 ≠ q48 := fun e9 => ne_q48_q62 e9.symm
  have ne_q56_q62 : q56 ≠ q62 := fun e9 => by rw [e9, hq62] at hc_q56; cases hc_q56
  have ne_q62_q56 : q62 ≠ q56 := fun e9 => ne_q56_q62 e9.symm
  obtain ⟨w62, ew62⟩ : ∃ z, z = va_up w58 q62 (some (.inr (2, [.int 0, .int 0, .int 0, .int 0, .int 0, .null]))) := ⟨_, rfl⟩
  have hH : xH G A s.heap H _ (va_up w58 q62 (some (.inr (2, [.int 0, .int 0, .int 0, .int 0, .int 0, .null])))) := hH
  rw [← ew62] at hH
  have hc_q62 : w62 q62 = some (.inr (2, [.int 0, .int 0, .int 0, .int 0, .int 0, .null])) := by rw [ew62]; exact if_pos rfl
  have hc_a : w62 a = some (.inr (3, [.int 0, .ref q12, .ref q20, .ref q30, .ref q40, .ref q48, .ref q56, .null, .null, .int 0, .int 0, .int 0])) := by rw [ew62]; exact (if_neg ne_a_q62).trans hc_a
  have hc_q12 : w62 q12 = some (.inl (G.2 0, 6, .inl (fun _ => 0))) := by rw [ew62]; exact (if_neg ne_q12_q62).trans hc_q12
  have hc_q20 : w62 q20 = some (.inl (G.2 0, 6, .inl (fun _ => 0))) := by rw [ew62]; exact (if_neg ne_q20_q62).trans hc_q20
  have hc_q30 : w62 q30 = some (.inl (G.2 5, 6, .inr (.inr (.inr (.inr (fun i => if i < 6 then some (q30 + 1 + i) else none)))))) := by rw [ew62]; exact (if_neg ne_q30_q62).trans hc_q30
  have hc_g0 : w62 g0 = some (.inl (G.2 0, 20, .inl (fun _ => 0))) := by rw [ew62]; exact (if_neg ne_g0_q62).trans hc_g0
  have hc_g1 : w62 g1 = some (.inl (G.2 0, 20, .inl (fun _ => 0))) := by rw [ew62]; exact (if_neg ne_g1_q62).trans hc_g1
  have hc_g2 : w62 g2 = some (.inl (G.2 0, 20, .inl (fun _ => 0))) := by rw [ew62]; exact (if_neg ne_g2_q62).trans hc_g2
  have hc_g3 : w62 g3 = some (.inl (G.2 0, 20, .inl (fun _ => 0))) := by rw [ew62]; exact (if_neg ne_g3_q62).trans hc_g3
  have hc_g4 : w62 g4 = some (.inl (G.2 0, 20, .inl (fun _ => 0))) := by rw [ew62]; exact (if_neg ne_g4_q62).trans hc_g4
  have hc_g5 : w62 g5 = some (.inl (G.2 0, 20, .inl (fun _ => 0))) := by rw [ew62]; exact (if_neg ne_g5_q62).trans hc_g5
  have hc_q40 : w62 q40 = some (.inl (G.2 0, 6, .inl (fun _ => 0))) := by rw [ew62]; exact (if_neg ne_q40_q62).trans hc_q40
  have hc_q48 : w62 q48 = some (.inl (G.2 0, 6, .inl (fun _ => 0))) := by rw [ew62]; exact (if_neg ne_q48_q62).trans hc_q48
  have hc_q56 : w62 q56 = some (.inl (G.2 1, 6, .inl (fun _ => 0))) := by rw [ew62]; exact (if_neg ne_q56_q62).trans hc_q56
  have hn_q62 : w q62 = none := (hfr q62 ne_q62_a ne_q62_q12 ne_q62_q20 ne_q62_q30 ne_q62_g0 ne_q62_g1 ne_q62_g2 ne_q62_g3 ne_q62_g4 ne_q62_g5 ne_q62_q40 ne_q62_q48 ne_q62_q56).symm.trans hq62
  have hfr : ∀ x, x ≠ a → x ≠ q12 → x ≠ q20 → x ≠ q30 → x ≠ g0 → x ≠ g1 → x ≠ g2 → x ≠ g3 → x ≠ g4 → x ≠ g5 → x ≠ q40 → x ≠ q48 → x ≠ q56 → x ≠ q62 → w62 x = w x := fun x z_a z_q12 z_q20 z_q30 z_g0 z_g1 z_g2 z_g3 z_g4 z_g5 z_q40 z_q48 z_q56 z_q62 => by rw [ew62]; exact (if_neg z_q62).trans (hfr x z_a z_q12 z_q20 z_q30 z_g0 z_g1 z_g2 z_g3 z_g4 z_g5 z_q40 z_q48 z_q56)
  refine lv_dup hx hb dX2_init_65 rfl ?_
  refine x_callv (va_runIN (As := []) (rest := [.ref q62, .ref a]) ⟨hx, hb, hml, hown, hts⟩ (c_X1_init l G A _ q62 hc_q62) ⟨va_cnB (host := RX6) 0 hts ggX2_init_X1_init rfl rfl rfl hTt.2.1.2.2.2.2.2.2.1 (hts (.initialized RX1) (by decide +kernel)) (by decide +kernel) ⟨Nat.le_of_ble_eq_true rfl, Nat.le_of_ble_eq_true rfl⟩, rfl, hts (.instanceMethod yX1_init) (by decide +kernel)⟩ (x_preS hK hH hTt [.ref q62]) rfl rfl hl.1 rfl (lv_room (Nat.le_of_ble_eq_true rfl)) dX2_init_66 ⟨Nat.le_of_ble_eq_true rfl, Nat.le_of_ble_eq_true rfl⟩) hH (fun w66 H locs hp hH => ?_)
  have hd_a := hc_a
  have hd_q12 := hc_q12
  have hd_q20 := hc_q20
  have hd_q30 := hc_q30
  have hd_g0 := hc_g0
  have hd_g1 := hc_g1
  have hd_g2 := hc_g2
  have hd_g3 := hc_g3
  have hd_g4 := hc_g4
  have hd_g5 := hc_g5
  have hd_q40 := hc_q40
  have hd_q48 := hc_q48
  have hd_q56 := hc_q56
  have hd_q62 := hc_q62
  obtain ⟨ga66, hga66, hc_q62, hc_ga66, hfm66⟩ := hp
  have ne_a_ga66 : a ≠ ga66 := fun e9 => by rw [e9, hga66] at hd_a; cases hd_a
  have ne_ga66_a : ga66 ≠ a := fun e9 => ne_a_ga66 e9.symm
  have ne_q12_ga66 : q12 ≠ ga66 := fun e9 => by rw [e9, hga66] at hd_q12; cases hd_q12
  have ne_ga66_q12 : ga66 ≠ q12 := fun e9 => ne_q12_ga66 e9.symm
  have ne_q20_ga66 : q20 ≠ ga66 := fun e9 => by rw [e9, hga66] at hd_q20; cases hd_q20
  have ne_ga66_q20 : ga66 ≠ q20 := fun e9 => ne_q20_ga66 e9.symm
  have ne_q30_ga66 : q30 ≠ ga66 := fun e9 => by rw [e9, hga66] at hd_q30; cases hd_q30
  have ne_ga66_q30 : ga66 ≠ q30 := fun e9 => ne_q30_ga66 e9.symm
  have ne_g0_ga66 : g0 ≠ ga66 := fun e9 => by rw [e9, hga66] at hd_g0; cases hd_g0
  have ne_ga66_g0 : ga66 ≠ g0 := fun e9 => ne_g0_ga66 e9.symm
  have ne_g1_ga66 : g1 ≠ ga66 := fun e9 => by rw [e9, hga66] at hd_g1; cases hd_g1
  have ne_ga66_g1 : ga66 ≠ g1 := fun e9 => ne_g1_ga66 e9.symm
  have ne_g2_ga66 : g2 ≠ ga66 := fun e9 => by rw [e9, hga66] at hd_g2; cases hd_g2
  have ne_ga66_g2 : ga66 ≠ g2 := fun e9 => ne_g2_ga66 e9.symm
  have ne_g3_ga66 : g3 ≠ ga66 := fun e9 => by rw [e9, hga66] at hd_g3; cases hd_g3
  have ne_ga66_g3 : ga66 ≠ g3 := fun e9 => ne_g3_ga66 e9.symm
  have ne_g4_ga66 : g4 ≠ ga66 := fun e9 => by rw [e9, hga66] at hd_g4; cases hd_g4
  have ne_ga66_g4 : ga66 ≠ g4 := fun e9 => ne_g4_ga66 e9.symm
  have ne_g5_ga66 : g5 ≠ ga66 := fun e9 => by rw [e9, hga66] at hd_g5; cases hd_g5
  have ne_ga66_g5 : ga66 ≠ g5 := fun e9 => ne_g5_ga66 e9.symm
  have ne_q40_ga66 : q40 ≠ ga66 := fun e9 => by rw [e9, hga66] at hd_q40; cases hd_q40
  have ne_ga66_q40 : ga66 ≠ q40 := fun e9 => ne_q40_ga66 e9.symm
  have ne_q48_ga66 : q48 ≠ ga66 := fun e9 => by rw [e9, hga66] at hd_q48; cases hd_q48
  have ne_ga66_q48 : ga66 ≠ q48 := fun e9 => ne_q48_ga66 e9.symm
  have ne_q56_ga66 : q56 ≠ ga66 := fun e9 => by rw [e9, hga66] at hd_q56; cases hd_q56
  have ne_ga66_q56 : ga66 ≠ q56 := fun e9 => ne_q56_ga66 e9.symm
  have ne_q62_ga66 : q62 ≠ ga66 := fun e9 => by rw [e9, hga66] at hd_q62; cases hd_q62
  have ne_ga66_q62 : ga66 ≠ q62 := fun e9 => ne_q62_ga66 e9.symm
  have hc_a : w66 a = some (.inr (3, [.int 0, .ref q12, .ref q20, .ref q30, .ref q40, .ref q48, .ref q56, .null, .null, .int 0, .int 0, .int 0])) := (hfm66 a ne_a_q62 ne_a_ga66).trans hc_a
  have hc_q12 : w66 q12 = some (.inl (G.2 0, 6, .inl (fun _ => 0))) := (hfm66 q12 ne_q12_q62 ne_q12_ga66).trans hc_q12
  have hc_q20 : w66 q20 = some (.inl (G.2 0, 6, .inl (fun _ => 0))) := (hfm66 q20 ne_q20_q62 ne_q20_ga66).trans hc_q20
  have hc_q30 : w66 q30 = some (.inl (G.2 5, 6, .inr (.inr (.inr (.inr (fun i => if i < 6 then some (q30 + 1 + i) else none)))))) := (hfm66 q30 ne_q30_q62 ne_q30_ga66).trans hc_q30
  have hc_g0 : w66 g0 = some (.inl (G.2 0, 20, .inl (fun _ => 0))) := (hfm66 g0 ne_g0_q62 ne_g0_ga66).trans hc_g0
  have hc_g1 : w66 g1 = some (.inl (G.2 0, 20, .inl (fun _ => 0))) := (hfm66 g1 ne_g1_q62 ne_g1_ga66).trans hc_g1
  have hc_g2 : w66 g2 = some (.inl (G.2 0, 20, .inl (fun _ => 0))) := (hfm66 g2 ne_g2_q62 ne_g2_ga66).trans hc_g2
  have hc_g3 : w66 g3 = some (.inl (G.2 0, 20, .inl (fun _ => 0))) := (hfm66 g3 ne_g3_q62 ne_g3_ga66).trans hc_g3
  have hc_g4 : w66 g4 = some (.inl (G.2 0, 20, .inl (fun _ => 0))) := (hfm66 g4 ne_g4_q62 ne_g4_ga66).trans hc_g4
  have hc_g5 : w66 g5 = some (.inl (G.2 0, 20, .inl (fun _ => 0))) := (hfm66 g5 ne_g5_q62 ne_g5_ga66).trans hc_g5
  have hc_q40 : w66 q40 = some (.inl (G.2 0, 6, .inl (fun _ => 0))) := (hfm66 q40 ne_q40_q62 ne_q40_ga66).trans hc_q40
  have hc_q48 : w66 q48 = some (.inl (G.2 0, 6, .inl (fun _ => 0))) := (hfm66 q48 ne_q48_q62 ne_q48_ga66).trans hc_q48
  have hc_q56 : w66 q56 = some (.inl (G.2 1, 6, .inl (fun _ => 0))) := (hfm66 q56 ne_q56_q62 ne_q56_ga66).trans hc_q56
  have hn_ga66 : w ga66 = none := (hfr ga66 ne_ga66_a ne_ga66_q12 ne_ga66_q20 ne_ga66_q30 ne_ga66_g0 ne_ga66_g1 ne_ga66_g2 ne_ga66_g3 ne_ga66_g4 ne_ga66_g5 ne_ga66_q40 ne_ga66_q48 ne_ga66_q56 ne_ga66_q62).symm.trans hga66
  have hfr : ∀ x, x ≠ a → x ≠ q12 → x ≠ q20 → x ≠ q30 → x ≠ g0 → x ≠ g1 → x ≠ g2 → x ≠ g3 → x ≠ g4 → x ≠ g5 → x ≠ q40 → x ≠ q48 → x ≠ q56 → x ≠ q62 → x ≠ ga66 → w66 x = w x := fun x z_a z_q12 z_q20 z_q30 z_g0 z_g1 z_g2 z_g3 z_g4 z_g5 z_q40 z_q48 z_q56 z_q62 z_ga66 => (hfm66 x z_q62 z_ga66).trans (hfr x z_a z_q12 z_q20 z_q30 z_g0 z_g1 z_g2 z_g3 z_g4 z_g5 z_q40 z_q48 z_q56 z_q62)
  refine x_putF (C := RX2) (T := TX2) (N := 12) (ty := .object "ResinWoods$Face") hx hb hts hiX2 tyX2 tyX2_ok nmX2 hown hK hH hc_a rfl 7 (by decide) hf40 (fun _ h => h) rfl hmn rfl (by decide +kernel) rfl rfl (Nat.le_of_ble_eq_true rfl) dX2_init_69 (fun H locs hH => ?_)
  have hH : xH G A s.heap H locs (va_up w66 a (some (.inr (3, [.int 0, .ref q12, .ref q20, .ref q30, .ref q40, .ref q48, .ref q56, .ref q62, .null, .int 0, .int 0, .int 0])))) := hH
  obtain ⟨w69, ew69⟩ : ∃ z, z = va_up w66 a (some (.inr (3, [.int 0, .ref q12, .ref q20, .ref q30, .ref q40, .ref q48, .ref q56, .ref q62, .null, .int 0, .int 0, .int 0]))) := ⟨_, rfl⟩
  rw [← ew69] at hH
  have hc_a : w69 a = some (.inr (3, [.int 0, .ref q12, .ref q20, .ref q30, .ref q40, .ref q48, .ref q56, .ref q62, .null, .int 0, .int 0, .int 0])) := by rw [ew69]; exact if_pos rfl
  have hc_q12 : w69 q12 = some (.inl (G.2 0, 6, .inl (fun _ => 0))) := by rw [ew69, show va_up w66 a _ q12 = w66 q12 from if_neg ne_q12_a]; exact hc_q12
  have hc_q20 : w69 q20 = some (.inl (G.2 0, 6, .inl (fun _ => 0))) := by rw [ew69, show va_up w66 a _ q20 = w66 q20 from if_neg ne_q20_a]; exact hc_q20
  have hc_q30 : w69 q30 = some (.inl (G.2 5, 6, .inr (.inr (.inr (.inr (fun i => if i < 6 then some (q30 + 1 + i) else none)))))) := by rw [ew69, show va_up w66 a _ q30 = w66 q30 from if_neg ne_q30_a]; exact hc_q30
  have hc_g0 : w69 g0 = some (.inl (G.2 0, 20, .inl (fun _ => 0))) := by rw [ew69, show va_up w66 a _ g0 = w66 g0 from if_neg ne_g0_a]; exact hc_g0
  have hc_g1 : w69 g1 = some (.inl (G.2 0, 20, .inl (fun _ => 0))) := by rw [ew69, show va_up w66 a _ g1 = w66 g1 from if_neg ne_g1_a]; exact hc_g1
  have hc_g2 : w69 g2 = some (.inl (G.2 0, 20, .inl (fun _ => 0))) := by rw [ew69, show va_up w66 a _ g2 = w66 g2 from if_neg ne_g2_a]; exact hc_g2
  have hc_g3 : w69 g3 = some (.inl (G.2 0, 20, .inl (fun _ => 0))) := by rw [ew69, show va_up w66 a _ g3 = w66 g3 from if_neg ne_g3_a]; exact hc_g3
  have hc_g4 : w69 g4 = some (.inl (G.2 0, 20, .inl (fun _ => 0))) := by rw [ew69, show va_up w66 a _ g4 = w66 g4 from if_neg ne_g4_a]; exact hc_g4
  have hc_g5 : w69 g5 = some (.inl (G.2 0, 20, .inl (fun _ => 0))) := by rw [ew69, show va_up w66 a _ g5 = w66 g5 from if_neg ne_g5_a]; exact hc_g5
  have hc_q40 : w69 q40 = some (.inl (G.2 0, 6, .inl (fun _ => 0))) := by rw [ew69, show va_up w66 a _ q40 = w66 q40 from if_neg ne_q40_a]; exact hc_q40
  have hc_q48 : w69 q48 = some (.inl (G.2 0, 6, .inl (fun _ => 0))) := by rw [ew69, show va_up w66 a _ q48 = w66 q48 from if_neg ne_q48_a]; exact hc_q48
  have hc_q56 : w69 q56 = some (.inl (G.2 1, 6, .inl (fun _ => 0))) := by rw [ew69, show va_up w66 a _ q56 = w66 q56 from if_neg ne_q56_a]; exact hc_q56
  have hc_q62 : w69 q62 = some (.inr (2, [.int 0, .int 0, .int 0, .int 0, .int 0, .ref ga66])) := by rw [ew69, show va_up w66 a _ q62 = w66 q62 from if_neg ne_q62_a]; exact hc_q62
  have hc_ga66 : w69 ga66 = some (.inl (G.2 0, 4, .inl (fun _ => 0))) := by rw [ew69, show va_up w66 a _ ga66 = w66 ga66 from if_neg ne_ga66_a]; exact hc_ga66
  have hfr : ∀ x, x ≠ a → x ≠ q12 → x ≠ q20 → x ≠ q30 → x ≠ g0 → x ≠ g1 → x ≠ g2 → x ≠ g3 → x ≠ g4 → x ≠ g5 → x ≠ q40 → x ≠ q48 → x ≠ q56 → x ≠ q62 → x ≠ ga66 → w69 x = w x := fun x z_a z_q12 z_q20 z_q30 z_g0 z_g1 z_g2 z_g3 z_g4 z_g5 z_q40 z_q48 z_q56 z_q62 z_ga66 => by rw [ew69]; exact (if_neg z_a).trans (hfr x z_a z_q12 z_q20 z_q30 z_g0 z_g1 z_g2 z_g3 z_g4 z_g5 z_q40 z_q48 z_q56 z_q62 z_ga66)
  refine lv_aload_n hx hb dX2_init_72 rfl (lv_at hl 0 rfl) ?_
  refine x_new (C := RX3) (T := TX3) (N := 3) (ci := 4) (fs := [.int 0, .int 0, .int 0]) hx hb hts hiX3 tyX3 tyX3_ok hown (hts (.classLink RX2 44 RX3) (by decide +kernel)) (hts (.instantiable RX3 3) (by decide +kernel)) (hts (.initialized RX3) (by decide +kernel)) hK hH rfl (by decide +kernel) (Nat.le_of_ble_eq_true rfl) (Nat.le_of_ble_eq_true rfl) dX2_init_73 (fun q73 H hq73 hH => ?_)
  have ne_a_q73 : a ≠ q73 := fun e9 => by rw [e9, hq73] at hc_a; cases hc_a
  have ne_q73_a : q73 ≠ a := fun e9 => ne_a_q73 e9.symm
  have ne_q12_q73 : q12 ≠ q73 := fun e9 => by rw [e9, hq73] at hc_q12; cases hc_q12
  have ne_q73_q12 : q73 ≠ q12 := fun e9 => ne_q12_q73 e9.symm
  have ne_q20_q73 : q20 ≠ q73 := fun e9 => by rw [e9, hq73] at hc_q20; cases hc_q20
  have ne_q73_q20 : q73 ≠ q20 := fun e9 => ne_q20_q73 e9.symm
  have ne_q30_q73 : q30 ≠ q73 := fun e9 => by rw [e9, hq73] at hc_q30; cases hc_q30
  have ne_q73_q30 : q73 ≠ q30 := fun e9 => ne_q30_q73 e9.symm
  have ne_g0_q73 : g0 ≠ q73 := fun e9 => by rw [e9, hq73] at hc_g0; cases hc_g0
  have ne_q73_g0 : q73 ≠ g0 := fun e9 => ne_g0_q73 e9.symm
  have ne_g1_q73 : g1 ≠ q73 := fun e9 => by rw [e9, hq73] at hc_g1; cases hc_g1
  have ne_q73_g1 : q73 ≠ g1 := fun e9 => ne_g1_q73 e9.symm
  have ne_g2_q73 : g2 ≠ q73 := fun e9 => by rw [e9, hq73] at hc_g2; cases hc_g2
  have ne_q73_g2 : q73 ≠ g2 := fun e9 => ne_g2_q73 e9.symm
  have ne_g3_q73 : g3 ≠ q73 := fun e9 => by rw [e9, hq73] at hc_g3; cases hc_g3
  have ne_q73_g3 : q73 ≠ g3 := fun e9 => ne_g3_q73 e9.symm
  have ne_g4_q73 : g4 ≠ q73 := fun e9 => by rw [e9, hq73] at hc_g4; cases hc_g4
  have ne_q73_g4 : q73 ≠ g4 := fun e9 => ne_g4_q73 e9.symm
  have ne_g5_q73 : g5 ≠ q73 := fun e9 => by rw [e9, hq73] at hc_g5; cases hc_g5
  have ne_q73_g5 : q73 ≠ g5 := fun e9 => ne_g5_q73 e9.symm
  have ne_q40_q73 : q40 ≠ q73 := fun e9 => by rw [e9, hq73] at hc_q40; cases hc_q40
  have ne_q73_q40 : q73 ≠ q40 := fun e9 => ne_q40_q73 e9.symm
  have ne_q48_q73 : q48 ≠ q73 := fun e9 => by rw [e9, hq73] at hc_q48; cases hc_q48
  have ne_q73_q48 : q73 ≠ q48 := fun e9 => ne_q48_q73 e9.symm
  have ne_q56_q73 : q56 ≠ q73 := fun e9 => by rw [e9, hq73] at hc_q56; cases hc_q56
  have ne_q73_q56 : q73 ≠ q56 := fun e9 => ne_q56_q73 e9.symm
  have ne_q62_q73 : q62 ≠ q73 := fun e9 => by rw [e9, hq73] at hc_q62; cases hc_q62
  have ne_q73_q62 : q73 ≠ q62 := fun e9 => ne_q62_q73 e9.symm
  have ne_ga66_q73 : ga66 ≠ q73 := fun e9 => by rw [e9, hq73] at hc_ga66; cases hc_ga66
  have ne_q73_ga66 : q73 ≠ ga66 := fun e9 => ne_ga66_q73 e9.symm
  obtain ⟨w73, ew73⟩ : ∃ z, z = va_up w69 q73 (some (.inr (4, [.int 0, .int 0, .int 0]))) := ⟨_, rfl⟩
  have hH : xH G A s.heap H _ (va_up w69 q73 (some (.inr (4, [.int 0, .int 0, .int 0])))) := hH
  rw [← ew73] at hH
  have hc_q73 : w73 q73 = some (.inr (4, [.int 0, .int 0, .int 0])) := by rw [ew73]; exact if_pos rfl
  have hc_a : w73 a = some (.inr (3, [.int 0, .ref q12, .ref q20, .ref q30, .ref q40, .ref q48, .ref q56, .ref q62, .null, .int 0, .int 0, .int 0])) := by rw [ew73]; exact (if_neg ne_a_q73).trans hc_a
  have hc_q12 : w73 q12 = some (.inl (G.2 0, 6, .inl (fun _ => 0))) := by rw [ew73]; exact (if_neg ne_q12_q73).trans hc_q12
  have hc_q20 : w73 q20 = some (.inl (G.2 0, 6, .inl (fun _ => 0))) := by rw [ew73]; exact (if_neg ne_q20_q73).trans hc_q20
  have hc_q30 : w73 q30 = some (.inl (G.2 5, 6, .inr (.inr (.inr (.inr (fun i => if i < 6 then some (q30 + 1 + i) else none)))))) := by rw [ew73]; exact (if_neg ne_q30_q73).trans hc_q30
  have hc_g0 : w73 g0 = some (.inl (G.2 0, 20, .inl (fun _ => 0))) := by rw [ew73]; exact (if_neg ne_g0_q73).trans hc_g0
  have hc_g1 : w73 g1 = some (.inl (G.2 0, 20, .inl (fun _ => 0))) := by rw [ew73]; exact (if_neg ne_g1_q73).trans hc_g1
  have hc_g2 : w73 g2 = some (.inl (G.2 0, 20, .inl (fun _ => 0))) := by rw [ew73]; exact (if_neg ne_g2_q73).trans hc_g2
  have hc_g3 : w73 g3 = some (.inl (G.2 0, 20, .inl (fun _ => 0))) := by rw [ew73]; exact (if_neg ne_g3_q73).trans hc_g3
  have hc_g4 : w73 g4 = some (.inl (G.2 0, 20, .inl (fun _ => 0))) := by rw [ew73]; exact (if_neg ne_g4_q73).trans hc_g4
  have hc_g5 : w73 g5 = some (.inl (G.2 0, 20, .inl (fun _ => 0))) := by rw [ew73]; exact (if_neg ne_g5_q73).trans hc_g5
  have hc_q40 : w73 q40 = some (.inl (G.2 0, 6, .inl (fun _ => 0))) := by rw [ew73]; exact (if_neg ne_q40_q73).trans hc_q40
  have hc_q48 : w73 q48 = some (.inl (G.2 0, 6, .inl (fun _ => 0))) := by rw [ew73]; exact (if_neg ne_q48_q73).trans hc_q48
  have hc_q56 : w73 q56 = some (.inl (G.2 1, 6, .inl (fun _ => 0))) := by rw [ew73]; exact (if_neg ne_q56_q73).trans hc_q56
  have hc_q62 : w73 q62 = some (.inr (2, [.int 0, .int 0, .int 0, .int 0, .int 0, .ref ga66])) := by rw [ew73]; exact (if_neg ne_q62_q73).trans hc_q62
  have hc_ga66 : w73 ga66 = some (.inl (G.2 0, 4, .inl (fun _ => 0))) := by rw [ew73]; exact (if_neg ne_ga66_q73).trans hc_ga66
  have hn_q73 : w q73 = none := (hfr q73 ne_q73_a ne_q73_q12 ne_q73_q20 ne_q73_q30 ne_q73_g0 ne_q73_g1 ne_q73_g2 ne_q73_g3 ne_q73_g4 ne_q73_g5 ne_q73_q40 ne_q73_q48 ne_q73_q56 ne_q73_q62 ne_q73_ga66).symm.trans hq73
  have hfr : ∀ x, x ≠ a → x ≠ q12 → x ≠ q20 → x ≠ q30 → x ≠ g0 → x ≠ g1 → x ≠ g2 → x ≠ g3 → x ≠ g4 → x ≠ g5 → x ≠ q40 → x ≠ q48 → x ≠ q56 → x ≠ q62 → x ≠ ga66 → x ≠ q73 → w73 x = w x := fun x z_a z_q12 z_q20 z_q30 z_g0 z_g1 z_g2 z_g3 z_g4 z_g5 z_q40 z_q48 z_q56 z_q62 z_ga66 z_q73 => by rw [ew73]; exact (if_neg z_q73).trans (hfr x z_a z_q12 z_q20 z_q30 z_g0 z_g1 z_g2 z_g3 z_g4 z_g5 z_q40 z_q48 z_q56 z_q62 z_ga66)
  refine lv_dup hx hb dX2_init_76 rfl ?_
  refine x_callv (va_runIN (As := []) (rest := [.ref q73, .ref a]) ⟨hx, hb, hml, hown, hts⟩ (c_X3_init l G A _ q73 hc_q73) ⟨va_cnB (host := RX6) 0 hts ggX2_init_X3_init rfl rfl rfl hTt.2.1.2.2.2.2.2.2.2.1 (hts (.initialized RX3) (by decide +kernel)) (by decide +kernel) ⟨Nat.le_of_ble_eq_true rfl, Nat.le_of_ble_eq_true rfl⟩, rfl, hts (.instanceMethod yX3_init) (by decide +kernel)⟩ (x_preS hK hH hTt [.ref q73]) rfl rfl hl.1 rfl (lv_room (Nat.le_of_ble_eq_true rfl)) dX2_init_77 ⟨Nat.le_of_ble_eq_true rfl, Nat.le_of_ble_eq_true rfl⟩) hH (fun w77 H locs hp hH => ?_)
  obtain ⟨hc_q73, hfm77⟩ := hp
  have hc_a : w77 a = some (.inr (3, [.int 0, .ref q12, .ref q20, .ref q30, .ref q40, .ref q48, .ref q56, .ref q62, .null, .int 0, .int 0, .int 0])) := (hfm77 a ne_a_q73).trans hc_a
  have hc_q12 : w77 q12 = some (.inl (G.2 0, 6, .inl (fun _ => 0))) := (hfm77 q12 ne_q12_q73).trans hc_q12
  have hc_q20 : w77 q20 = some (.inl (G.2 0, 6, .inl (fun _ => 0))) := (hfm77 q20 ne_q20_q73).trans hc_q20
  have hc_q30 : w77 q30 = some (.inl (G.2 5, 6, .inr (.inr (.inr (.inr (fun i => if i < 6 then some (q30 + 1 + i) else none)))))) := (hfm77 q30 ne_q30_q73).trans hc_q30
  have hc_g0 : w77 g0 = some (.inl (G.2 0, 20, .inl (fun _ => 0))) := (hfm77 g0 ne_g0_q73).trans hc_g0
  have hc_g1 : w77 g1 = some (.inl (G.2 0, 20, .inl (fun _ => 0))) := (hfm77 g1 ne_g1_q73).trans hc_g1
  have hc_g2 : w77 g2 = some (.inl (G.2 0, 20, .inl (fun _ => 0))) := (hfm77 g2 ne_g2_q73).trans hc_g2
  have hc_g3 : w77 g3 = some (.inl (G.2 0, 20, .inl (fun _ => 0))) := (hfm77 g3 ne_g3_q73).trans hc_g3
  have hc_g4 : w77 g4 = some (.inl (G.2 0, 20, .inl (fun _ => 0))) := (hfm77 g4 ne_g4_q73).trans hc_g4
  have hc_g5 : w77 g5 = some (.inl (G.2 0, 20, .inl (fun _ => 0))) := (hfm77 g5 ne_g5_q73).trans hc_g5
  have hc_q40 : w77 q40 = some (.inl (G.2 0, 6, .inl (fun _ => 0))) := (hfm77 q40 ne_q40_q73).trans hc_q40
  have hc_q48 : w77 q48 = some (.inl (G.2 0, 6, .inl (fun _ => 0))) := (hfm77 q48 ne_q48_q73).trans hc_q48
  have hc_q56 : w77 q56 = some (.inl (G.2 1, 6, .inl (fun _ => 0))) := (hfm77 q56 ne_q56_q73).trans hc_q56
  have hc_q62 : w77 q62 = some (.inr (2, [.int 0, .int 0, .int 0, .int 0, .int 0, .ref ga66])) := (hfm77 q62 ne_q62_q73).trans hc_q62
  have hc_ga66 : w77 ga66 = some (.inl (G.2 0, 4, .inl (fun _ => 0))) := (hfm77 ga66 ne_ga66_q73).trans hc_ga66
  have hfr : ∀ x, x ≠ a → x ≠ q12 → x ≠ q20 → x ≠ q30 → x ≠ g0 → x ≠ g1 → x ≠ g2 → x ≠ g3 → x ≠ g4 → x ≠ g5 → x ≠ q40 → x ≠ q48 → x ≠ q56 → x ≠ q62 → x ≠ ga66 → x ≠ q73 → w77 x = w x := fun x z_a z_q12 z_q20 z_q30 z_g0 z_g1 z_g2 z_g3 z_g4 z_g5 z_q40 z_q48 z_q56 z_q62 z_ga66 z_q73 => (hfm77 x z_q73).trans (hfr x z_a z_q12 z_q20 z_q30 z_g0 z_g1 z_g2 z_g3 z_g4 z_g5 z_q40 z_q48 z_q56 z_q62 z_ga66 z_q73)
  refine x_putF (C := RX2) (T := TX2) (N := 12) (ty := .object "ResinWoods$Tally") hx hb hts hiX2 tyX2 tyX2_ok nmX2 hown hK hH hc_a rfl 8 (by decide) hf47 (fun _ h => h) rfl hmn rfl (by decide +kernel) rfl rfl (Nat.le_of_ble_eq_true rfl) dX2_init_80 (fun H locs hH => ?_)
  have hH : xH G A s.heap H locs (va_up w77 a (some (.inr (3, [.int 0, .ref q12, .ref q20, .ref q30, .ref q40, .ref q48, .ref q56, .ref q62, .ref q73, .int 0, .int 0, .int 0])))) := hH
  obtain ⟨w80, ew80⟩ : ∃ z, z = va_up w77 a (some (.inr (3, [.int 0, .ref q12, .ref q20, .ref q30, .ref q40, .ref q48, .ref q56, .ref q62, .ref q73, .int 0, .int 0, .int 0]))) := ⟨_, rfl⟩
  rw [← ew80] at hH
  have hc_a : w80 a = some (.inr (3, [.int 0, .ref q12, .ref q20, .ref q30, .ref q40, .ref q48, .ref q56, .ref q62, .ref q73, .int 0, .int 0, .int 0])) := by rw [ew80]; exact if_pos rfl
  have hc_q12 : w80 q12 = some (.inl (G.2 0, 6, .inl (fun _ => 0))) := by rw [ew80, show va_up w77 a _ q12 = w77 q12 from if_neg ne_q12_a]; exact hc_q12
  have hc_q20 : w80 q20 = some (.inl (G.2 0, 6, .inl (fun _ => 0))) := by rw [ew80, show va_up w77 a _ q20 = w77 q20 from if_neg ne_q20_a]; exact hc_q20
  have hc_q30 : w80 q30 = some (.inl (G.2 5, 6, .inr (.inr (.inr (.inr (fun i => if i < 6 then some (q30 + 1 + i) else none)))))) := by rw [ew80, show va_up w77 a _ q30 = w77 q30 from if_neg ne_q30_a]; exact hc_q30
  have hc_g0 : w80 g0 = some (.inl (G.2 0, 20, .inl (fun _ => 0))) := by rw [ew80, show va_up w77 a _ g0 = w77 g0 from if_neg ne_g0_a]; exact hc_g0
  have hc_g1 : w80 g1 = some (.inl (G.2 0, 20, .inl (fun _ => 0))) := by rw [ew80, show va_up w77 a _ g1 = w77 g1 from if_neg ne_g1_a]; exact hc_g1
  have hc_g2 : w80 g2 = some (.inl (G.2 0, 20, .inl (fun _ => 0))) := by rw [ew80, show va_up w77 a _ g2 = w77 g2 from if_neg ne_g2_a]; exact hc_g2
  have hc_g3 : w80 g3 = some (.inl (G.2 0, 20, .inl (fun _ => 0))) := by rw [ew80, show va_up w77 a _ g3 = w77 g3 from if_neg ne_g3_a]; exact hc_g3
  have hc_g4 : w80 g4 = some (.inl (G.2 0, 20, .inl (fun _ => 0))) := by rw [ew80, show va_up w77 a _ g4 = w77 g4 from if_neg ne_g4_a]; exact hc_g4
  have hc_g5 : w80 g5 = some (.inl (G.2 0, 20, .inl (fun _ => 0))) := by rw [ew80, show va_up w77 a _ g5 = w77 g5 from if_neg ne_g5_a]; exact hc_g5
  have hc_q40 : w80 q40 = some (.inl (G.2 0, 6, .inl (fun _ => 0))) := by rw [ew80, show va_up w77 a _ q40 = w77 q40 from if_neg ne_q40_a]; exact hc_q40
  have hc_q48 : w80 q48 = some (.inl (G.2 0, 6, .inl (fun _ => 0))) := by rw [ew80, show va_up w77 a _ q48 = w77 q48 from if_neg ne_q48_a]; exact hc_q48
  have hc_q56 : w80 q56 = some (.inl (G.2 1, 6, .inl (fun _ => 0))) := by rw [ew80, show va_up w77 a _ q56 = w77 q56 from if_neg ne_q56_a]; exact hc_q56
  have hc_q62 : w80 q62 = some (.inr (2, [.int 0, .int 0, .int 0, .int 0, .int 0, .ref ga66])) := by rw [ew80, show va_up w77 a _ q62 = w77 q62 from if_neg ne_q62_a]; exact hc_q62
  have hc_ga66 : w80 ga66 = some (.inl (G.2 0, 4, .inl (fun _ => 0))) := by rw [ew80, show va_up w77 a _ ga66 = w77 ga66 from if_neg ne_ga66_a]; exact hc_ga66
  have hc_q73 : w80 q73 = some (.inr (4, [.int 0, .int 0, .int 0])) := by rw [ew80, show va_up w77 a _ q73 = w77 q73 from if_neg ne_q73_a]; exact hc_q73
  have hfr : ∀ x, x ≠ a → x ≠ q12 → x ≠ q20 → x ≠ q30 → x ≠ g0 → x ≠ g1 → x ≠ g2 → x ≠ g3 → x ≠ g4 → x ≠ g5 → x ≠ q40 → x ≠ q48 → x ≠ q56 → x ≠ q62 → x ≠ ga66 → x ≠ q73 → w80 x = w x := fun x z_a z_q12 z_q20 z_q30 z_g0 z_g1 z_g2 z_g3 z_g4 z_g5 z_q40 z_q48 z_q56 z_q62 z_ga66 z_q73 => by rw [ew80]; exact (if_neg z_a).trans (hfr x z_a z_q12 z_q20 z_q30 z_g0 z_g1 z_g2 z_g3 z_g4 z_g5 z_q40 z_q48 z_q56 z_q62 z_ga66 z_q73)
  refine lv_aload_n hx hb dX2_init_83 rfl (lv_at hl 0 rfl) ?_
  refine lv_iconst (v := 0) hx hb dX2_init_84 (by decide) ?_
  refine x_put (C := RX2) (T := TX2) (N := 12) (ty := .boolean) hx hb hts hiX2 tyX2 tyX2_ok nmX2 hown hK hH hc_a rfl 9 (by decide) hf51 (fun _ h => h) rfl (by decide +kernel) rfl rfl (Nat.le_of_ble_eq_true rfl) dX2_init_85 (fun H locs hH => ?_)
  have hH : xH G A s.heap H locs (va_up w80 a (some (.inr (3, [.int 0, .ref q12, .ref q20, .ref q30, .ref q40, .ref q48, .ref q56, .ref q62, .ref q73, .int 0, .int 0, .int 0])))) := hH
  obtain ⟨w85, ew85⟩ : ∃ z, z = va_up w80 a (some (.inr (3, [.int 0, .ref q12, .ref q20, .ref q30, .ref q40, .ref q48, .ref q56, .ref q62, .ref q73, .int 0, .int 0, .int 0]))) := ⟨_, rfl⟩
  rw [← ew85] at hH
  have hc_a : w85 a = some (.inr (3, [.int 0, .ref q12, .ref q20, .ref q30, .ref q40, .ref q48, .ref q56, .ref q62, .ref q73, .int 0, .int 0, .int 0])) := by rw [ew85]; exact if_pos rfl
  have hc_q12 : w85 q12 = some (.inl (G.2 0, 6, .inl (fun _ => 0))) := by rw [ew85, show va_up w80 a _ q12 = w80 q12 from if_neg ne_q12_a]; exact hc_q12
  have hc_q20 : w85 q20 = some (.inl (G.2 0, 6, .inl (fun _ => 0))) := by rw [ew85, show va_up w80 a _ q20 = w80 q20 from if_neg ne_q20_a]; exact hc_q20
  have hc_q30 : w85 q30 = some (.inl (G.2 5, 6, .inr (.inr (.inr (.inr (fun i => if i < 6 then some (q30 + 1 + i) else none)))))) := by rw [ew85, show va_up w80 a _ q30 = w80 q30 from if_neg ne_q30_a]; exact hc_q30
  have hc_g0 : w85 g0 = some (.inl (G.2 0, 20, .inl (fun _ => 0))) := by rw [ew85, show va_up w80 a _ g0 = w80 g0 from if_neg ne_g0_a]; exact hc_g0
  have hc_g1 : w85 g1 = some (.inl (G.2 0, 20, .inl (fun _ => 0))) := by rw [ew85, show va_up w80 a _ g1 = w80 g1 from if_neg ne_g1_a]; exact hc_g1
  have hc_g2 : w85 g2 = some (.inl (G.2 0, 20, .inl (fun _ => 0))) := by rw [ew85, show va_up w80 a _ g2 = w80 g2 from if_neg ne_g2_a]; exact hc_g2
  have hc_g3 : w85 g3 = some (.inl (G.2 0, 20, .inl (fun _ => 0))) := by rw [ew85, show va_up w80 a _ g3 = w80 g3 from if_neg ne_g3_a]; exact hc_g3
  have hc_g4 : w85 g4 = some (.inl (G.2 0, 20, .inl (fun _ => 0))) := by rw [ew85, show va_up w80 a _ g4 = w80 g4 from if_neg ne_g4_a]; exact hc_g4
  have hc_g5 : w85 g5 = some (.inl (G.2 0, 20, .inl (fun _ => 0))) := by rw [ew85, show va_up w80 a _ g5 = w80 g5 from if_neg ne_g5_a]; exact hc_g5
  have hc_q40 : w85 q40 = some (.inl (G.2 0, 6, .inl (fun _ => 0))) := by rw [ew85, show va_up w80 a _ q40 = w80 q40 from if_neg ne_q40_a]; exact hc_q40
  have hc_q48 : w85 q48 = some (.inl (G.2 0, 6, .inl (fun _ => 0))) := by rw [ew85, show va_up w80 a _ q48 = w80 q48 from if_neg ne_q48_a]; exact hc_q48
  have hc_q56 : w85 q56 = some (.inl (G.2 1, 6, .inl (fun _ => 0))) := by rw [ew85, show va_up w80 a _ q56 = w80 q56 from if_neg ne_q56_a]; exact hc_q56
  have hc_q62 : w85 q62 = some (.inr (2, [.int 0, .int 0, .int 0, .int 0, .int 0, .ref ga66])) := by rw [ew85, show va_up w80 a _ q62 = w80 q62 from if_neg ne_q62_a]; exact hc_q62
  have hc_ga66 : w85 ga66 = some (.inl (G.2 0, 4, .inl (fun _ => 0))) := by rw [ew85, show va_up w80 a _ ga66 = w80 ga66 from if_neg ne_ga66_a]; exact hc_ga66
  have hc_q73 : w85 q73 = some (.inr (4, [.int 0, .int 0, .int 0])) := by rw [ew85, show va_up w80 a _ q73 = w80 q73 from if_neg ne_q73_a]; exact hc_q73
  have hfr : ∀ x, x ≠ a → x ≠ q12 → x ≠ q20 → x ≠ q30 → x ≠ g0 → x ≠ g1 → x ≠ g2 → x ≠ g3 → x ≠ g4 → x ≠ g5 → x ≠ q40 → x ≠ q48 → x ≠ q56 → x ≠ q62 → x ≠ ga66 → x ≠ q73 → w85 x = w x := fun x z_a z_q12 z_q20 z_q30 z_g0 z_g1 z_g2 z_g3 z_g4 z_g5 z_q40 z_q48 z_q56 z_q62 z_ga66 z_q73 => by rw [ew85]; exact (if_neg z_a).trans (hfr x z_a z_q12 z_q20 z_q30 z_g0 z_g1 z_g2 z_g3 z_g4 z_g5 z_q40 z_q48 z_q56 z_q62 z_ga66 z_q73)
  refine lv_aload_n hx hb dX2_init_88 rfl (lv_at hl 0 rfl) ?_
  refine lv_iconst (v := 0) hx hb dX2_init_89 (by decide) ?_
  refine x_put (C := RX2) (T := TX2) (N := 12) (ty := .int) hx hb hts hiX2 tyX2 tyX2_ok nmX2 hown hK hH hc_a rfl 10 (by decide) hf55 (fun _ h => h) rfl (by decide +kernel) rfl rfl (Nat.le_of_ble_eq_true rfl) dX2_init_90 (fun H locs hH => ?_)
  have hH : xH G A s.heap H locs (va_up w85 a (some (.inr (3, [.int 0, .ref q12, .ref q20, .ref q30, .ref q40, .ref q48, .ref q56, .ref q62, .ref q73, .int 0, .int 0, .int 0])))) := hH
  obtain ⟨w90, ew90⟩ : ∃ z, z = va_up w85 a (some (.inr (3, [.int 0, .ref q12, .ref q20, .ref q30, .ref q40, .ref q48, .ref q56, .ref q62, .ref q73, .int 0, .int 0, .int 0]))) := ⟨_, rfl⟩
  rw [← ew90] at hH
  have hc_a : w90 a = some (.inr (3, [.int 0, .ref q12, .ref q20, .ref q30, .ref q40, .ref q48, .ref q56, .ref q62, .ref q73, .int 0, .int 0, .int 0])) := by rw [ew90]; exact if_pos rfl
  have hc_q12 : w90 q12 = some (.inl (G.2 0, 6, .inl (fun _ => 0))) := by rw [ew90, show va_up w85 a _ q12 = w85 q12 from if_neg ne_q12_a]; exact hc_q12
  have hc_q20 : w90 q20 = some (.inl (G.2 0, 6, .inl (fun _ => 0))) := by rw [ew90, show va_up w85 a _ q20 = w85 q20 from if_neg ne_q20_a]; exact hc_q20
  have hc_q30 : w90 q30 = some (.inl (G.2 5, 6, .inr (.inr (.inr (.inr (fun i => if i < 6 then some (q30 + 1 + i) else none)))))) := by rw [ew90, show va_up w85 a _ q30 = w85 q30 from if_neg ne_q30_a]; exact hc_q30
  have hc_g0 : w90 g0 = some (.inl (G.2 0, 20, .inl (fun _ => 0))) := by rw [ew90, show va_up w85 a _ g0 = w85 g0 from if_neg ne_g0_a]; exact hc_g0
  have hc_g1 : w90 g1 = some (.inl (G.2 0, 20, .inl (fun _ => 0))) := by rw [ew90, show va_up w85 a _ g1 = w85 g1 from if_neg ne_g1_a]; exact hc_g1
  have hc_g2 : w90 g2 = some (.inl (G.2 0, 20, .inl (fun _ => 0))) := by rw [ew90, show va_up w85 a _ g2 = w85 g2 from if_neg ne_g2_a]; exact hc_g2
  have hc_g3 : w90 g3 = some (.inl (G.2 0, 20, .inl (fun _ => 0))) := by rw [ew90, show va_up w85 a _ g3 = w85 g3 from if_neg ne_g3_a]; exact hc_g3
  have hc_g4 : w90 g4 = some (.inl (G.2 0, 20, .inl (fun _ => 0))) := by rw [ew90, show va_up w85 a _ g4 = w85 g4 from if_neg ne_g4_a]; exact hc_g4
  have hc_g5 : w90 g5 = some (.inl (G.2 0, 20, .inl (fun _ => 0))) := by rw [ew90, show va_up w85 a _ g5 = w85 g5 from if_neg ne_g5_a]; exact hc_g5
  have hc_q40 : w90 q40 = some (.inl (G.2 0, 6, .inl (fun _ => 0))) := by rw [ew90, show va_up w85 a _ q40 = w85 q40 from if_neg ne_q40_a]; exact hc_q40
  have hc_q48 : w90 q48 = some (.inl (G.2 0, 6, .inl (fun _ => 0))) := by rw [ew90, show va_up w85 a _ q48 = w85 q48 from if_neg ne_q48_a]; exact hc_q48
  have hc_q56 : w90 q56 = some (.inl (G.2 1, 6, .inl (fun _ => 0))) := by rw [ew90, show va_up w85 a _ q56 = w85 q56 from if_neg ne_q56_a]; exact hc_q56
  have hc_q62 : w90 q62 = some (.inr (2, [.int 0, .int 0, .int 0, .int 0, .int 0, .ref ga66])) := by rw [ew90, show va_up w85 a _ q62 = w85 q62 from if_neg ne_q62_a]; exact hc_q62
  have hc_ga66 : w90 ga66 = some (.inl (G.2 0, 4, .inl (fun _ => 0))) := by rw [ew90, show va_up w85 a _ ga66 = w85 ga66 from if_neg ne_ga66_a]; exact hc_ga66
  have hc_q73 : w90 q73 = some (.inr (4, [.int 0, .int 0, .int 0])) := by rw [ew90, show va_up w85 a _ q73 = w85 q73 from if_neg ne_q73_a]; exact hc_q73
  have hfr : ∀ x, x ≠ a → x ≠ q12 → x ≠ q20 → x ≠ q30 → x ≠ g0 → x ≠ g1 → x ≠ g2 → x ≠ g3 → x ≠ g4 → x ≠ g5 → x ≠ q40 → x ≠ q48 → x ≠ q56 → x ≠ q62 → x ≠ ga66 → x ≠ q73 → w90 x = w x := fun x z_a z_q12 z_q20 z_q30 z_g0 z_g1 z_g2 z_g3 z_g4 z_g5 z_q40 z_q48 z_q56 z_q62 z_ga66 z_q73 => by rw [ew90]; exact (if_neg z_a).trans (hfr x z_a z_q12 z_q20 z_q30 z_g0 z_g1 z_g2 z_g3 z_g4 z_g5 z_q40 z_q48 z_q56 z_q62 z_ga66 z_q73)
  refine lv_aload_n hx hb dX2_init_93 rfl (lv_at hl 0 rfl) ?_
  refine lv_iconst (v := 0) hx hb dX2_init_94 (by decide) ?_
  refine x_put (C := RX2) (T := TX2) (N := 12) (ty := .int) hx hb hts hiX2 tyX2 tyX2_ok nmX2 hown hK hH hc_a rfl 11 (by decide) hf58 (fun _ h => h) rfl (by decide +kernel) rfl rfl (Nat.le_of_ble_eq_true rfl) dX2_init_95 (fun H locs hH => ?_)
  have hH : xH G A s.heap H locs (va_up w90 a (some (.inr (3, [.int 0, .ref q12, .ref q20, .ref q30, .ref q40, .ref q48, .ref q56, .ref q62, .ref q73, .int 0, .int 0, .int 0])))) := hH
  obtain ⟨w95, ew95⟩ : ∃ z, z = va_up w90 a (some (.inr (3, [.int 0, .ref q12, .ref q20, .ref q30, .ref q40, .ref q48, .ref q56, .ref q62, .ref q73, .int 0, .int 0, .int 0]))) := ⟨_, rfl⟩
  rw [← ew95] at hH
  have hc_a : w95 a = some (.inr (3, [.int 0, .ref q12, .ref q20, .ref q30, .ref q40, .ref q48, .ref q56, .ref q62, .ref q73, .int 0, .int 0, .int 0])) := by rw [ew95]; exact if_pos rfl
  have hc_q12 : w95 q12 = some (.inl (G.2 0, 6, .inl (fun _ => 0))) := by rw [ew95, show va_up w90 a _ q12 = w90 q12 from if_neg ne_q12_a]; exact hc_q12
  have hc_q20 : w95 q20 = some (.inl (G.2 0, 6, .inl (fun _ => 0))) := by rw [ew95, show va_up w90 a _ q20 = w90 q20 from if_neg ne_q20_a]; exact hc_q20
  have hc_q30 : w95 q30 = some (.inl (G.2 5, 6, .inr (.inr (.inr (.inr (fun i => if i < 6 then some (q30 + 1 + i) else none)))))) := by rw [ew95, show va_up w90 a _ q30 = w90 q30 from if_neg ne_q30_a]; exact hc_q30
  have hc_g0 : w95 g0 = some (.inl (G.2 0, 20, .inl (fun _ => 0))) := by rw [ew95, show va_up w90 a _ g0 = w90 g0 from if_neg ne_g0_a]; exact hc_g0
  have hc_g1 : w95 g1 = some (.inl (G.2 0, 20, .inl (fun _ => 0))) := by rw [ew95, show va_up w90 a _ g1 = w90 g1 from if_neg ne_g1_a]; exact hc_g1
  have hc_g2 : w95 g2 = some (.inl (G.2 0, 20, .inl (fun _ => 0))) := by rw [ew95, show va_up w90 a _ g2 = w90 g2 from if_neg ne_g2_a]; exact hc_g2
  have hc_g3 : w95 g3 = some (.inl (G.2 0, 20, .inl (fun _ => 0))) := by rw [ew95, show va_up w90 a _ g3 = w90 g3 from if_neg ne_g3_a]; exact hc_g3
  have hc_g4 : w95 g4 = some (.inl (G.2 0, 20, .inl (fun _ => 0))) := by rw [ew95, show va_up w90 a _ g4 = w90 g4 from if_neg ne_g4_a]; exact hc_g4
  have hc_g5 : w95 g5 = some (.inl (G.2 0, 20, .inl (fun _ => 0))) := by rw [ew95, show va_up w90 a _ g5 = w90 g5 from if_neg ne_g5_a]; exact hc_g5
  have hc_q40 : w95 q40 = some (.inl (G.2 0, 6, .inl (fun _ => 0))) := by rw [ew95, show va_up w90 a _ q40 = w90 q40 from if_neg ne_q40_a]; exact hc_q40
  have hc_q48 : w95 q48 = some (.inl (G.2 0, 6, .inl (fun _ => 0))) := by rw [ew95, show va_up w90 a _ q48 = w90 q48 from if_neg ne_q48_a]; exact hc_q48
  have hc_q56 : w95 q56 = some (.inl (G.2 1, 6, .inl (fun _ => 0))) := by rw [ew95, show va_up w90 a _ q56 = w90 q56 from if_neg ne_q56_a]; exact hc_q56
  have hc_q62 : w95 q62 = some (.inr (2, [.int 0, .int 0, .int 0, .int 0, .int 0, .ref ga66])) := by rw [ew95, show va_up w90 a _ q62 = w90 q62 from if_neg ne_q62_a]; exact hc_q62
  have hc_ga66 : w95 ga66 = some (.inl (G.2 0, 4, .inl (fun _ => 0))) := by rw [ew95, show va_up w90 a _ ga66 = w90 ga66 from if_neg ne_ga66_a]; exact hc_ga66
  have hc_q73 : w95 q73 = some (.inr (4, [.int 0, .int 0, .int 0])) := by rw [ew95, show va_up w90 a _ q73 = w90 q73 from if_neg ne_q73_a]; exact hc_q73
  have hfr : ∀ x, x ≠ a → x ≠ q12 → x ≠ q20 → x ≠ q30 → x ≠ g0 → x ≠ g1 → x ≠ g2 → x ≠ g3 → x ≠ g4 → x ≠ g5 → x ≠ q40 → x ≠ q48 → x ≠ q56 → x ≠ q62 → x ≠ ga66 → x ≠ q73 → w95 x = w x := fun x z_a z_q12 z_q20 z_q30 z_g0 z_g1 z_g2 z_g3 z_g4 z_g5 z_q40 z_q48 z_q56 z_q62 z_ga66 z_q73 => by rw [ew95]; exact (if_neg z_a).trans (hfr x z_a z_q12 z_q20 z_q30 z_g0 z_g1 z_g2 z_g3 z_g4 z_g5 z_q40 z_q48 z_q56 z_q62 z_ga66 z_q73)
  refine W.widen (k := 15) (n := 200) (Nat.le_of_ble_eq_true rfl) (Nat.le_of_ble_eq_true rfl) ?_
  exact x_vret w95 hx hb hr hlocks hK hH (⟨q12, q20, q30, q40, q48, q56, q62, ga66, q73, (by rw [← hg5, ← hg4, ← hg3, ← hg2, ← hg1, ← hg0]; exact (List.nodup_cons.mpr ⟨(nmc ne_q12_q20 (nmc ne_q12_q30 (nmc ne_q12_g0 (nmc ne_q12_g1 (nmc ne_q12_g2 (nmc ne_q12_g3 (nmc ne_q12_g4 (nmc ne_q12_g5 (nmc ne_q12_q40 (nmc ne_q12_q48 (nmc ne_q12_q56 (nmc ne_q12_q62 (nmc ne_q12_ga66 (nmc ne_q12_q73 List.not_mem_nil)))))))))))))), (List.nodup_cons.mpr ⟨(nmc ne_q20_q30 (nmc ne_q20_g0 (nmc ne_q20_g1 (nmc ne_q20_g2 (nmc ne_q20_g3 (nmc ne_q20_g4 (nmc ne_q20_g5 (nmc ne_q20_q40 (nmc ne_q20_q48 (nmc ne_q20_q56 (nmc ne_q20_q62 (nmc ne_q20_ga66 (nmc ne_q20_q73 List.not_mem_nil))))))))))))), (List.nodup_cons.mpr ⟨(nmc ne_q30_g0 (nmc ne_q30_g1 (nmc ne_q30_g2 (nmc ne_q30_g3 (nmc ne_q30_g4 (nmc ne_q30_g5 (nmc ne_q30_q40 (nmc ne_q30_q48 (nmc ne_q30_q56 (nmc ne_q30_q62 (nmc ne_q30_ga66 (nmc ne_q30_q73 List.not_mem_nil)))))))))))), (List.nodup_cons.mpr ⟨(nmc ne_g0_g1 (nmc ne_g0_g2 (nmc ne_g0_g3 (nmc ne_g0_g4 (nmc ne_g0_g5 (nmc ne_g0_q40 (nmc ne_g0_q48 (nmc ne_g0_q56 (nmc ne_g0_q62 (nmc ne_g0_ga66 (nmc ne_g0_q73 List.not_mem_nil))))))))))), (List.nodup_cons.mpr ⟨(nmc ne_g1_g2 (nmc ne_g1_g3 (nmc ne_g1_g4 (nmc ne_g1_g5 (nmc ne_g1_q40 (nmc ne_g1_q48 (nmc ne_g1_q56 (nmc ne_g1_q62 (nmc ne_g1_ga66 (nmc ne_g1_q73 List.not_mem_nil)))))))))), (List.nodup_cons.mpr ⟨(nmc ne_g2_g3 (nmc ne_g2_g4 (nmc ne_g2_g5 (nmc ne_g2_q40 (nmc ne_g2_q48 (nmc ne_g2_q56 (nmc ne_g2_q62 (nmc ne_g2_ga66 (nmc ne_g2_q73 List.not_mem_nil))))))))), (List.nodup_cons.mpr ⟨(nmc ne_g3_g4 (nmc ne_g3_g5 (nmc ne_g3_q40 (nmc ne_g3_q48 (nmc ne_g3_q56 (nmc ne_g3_q62 (nmc ne_g3_ga66 (nmc ne_g3_q73 List.not_mem_nil)))))))), (List.nodup_cons.mpr ⟨(nmc ne_g4_g5 (nmc ne_g4_q40 (nmc ne_g4_q48 (nmc ne_g4_q56 (nmc ne_g4_q62 (nmc ne_g4_ga66 (nmc ne_g4_q73 List.not_mem_nil))))))), (List.nodup_cons.mpr ⟨(nmc ne_g5_q40 (nmc ne_g5_q48 (nmc ne_g5_q56 (nmc ne_g5_q62 (nmc ne_g5_ga66 (nmc ne_g5_q73 List.not_mem_nil)))))), (List.nodup_cons.mpr ⟨(nmc ne_q40_q48 (nmc ne_q40_q56 (nmc ne_q40_q62 (nmc ne_q40_ga66 (nmc ne_q40_q73 List.not_mem_nil))))), (List.nodup_cons.mpr ⟨(nmc ne_q48_q56 (nmc ne_q48_q62 (nmc ne_q48_ga66 (nmc ne_q48_q73 List.not_mem_nil)))), (List.nodup_cons.mpr ⟨(nmc ne_q56_q62 (nmc ne_q56_ga66 (nmc ne_q56_q73 List.not_mem_nil))), (List.nodup_cons.mpr ⟨(nmc ne_q62_ga66 (nmc ne_q62_q73 List.not_mem_nil)), (List.nodup_cons.mpr ⟨(nmc ne_ga66_q73 List.not_mem_nil), (List.nodup_cons.mpr ⟨List.not_mem_nil, List.nodup_nil⟩)⟩)⟩)⟩)⟩)⟩)⟩)⟩)⟩)⟩)⟩)⟩)⟩)⟩)⟩)), (by rw [← hg5, ← hg4, ← hg3, ← hg2, ← hg1, ← hg0]; exact (List.forall_mem_cons.mpr ⟨hn_q12, (List.forall_mem_cons.mpr ⟨hn_q20, (List.forall_mem_cons.mpr ⟨hn_q30, (List.forall_mem_cons.mpr ⟨hn_g0, (List.forall_mem_cons.mpr ⟨hn_g1, (List.forall_mem_cons.mpr ⟨hn_g2, (List.forall_mem_cons.mpr ⟨hn_g3, (List.forall_mem_cons.mpr ⟨hn_g4, (List.forall_mem_cons.mpr ⟨hn_g5, (List.forall_mem_cons.mpr ⟨hn_q40, (List.forall_mem_cons.mpr ⟨hn_q48, (List.forall_mem_cons.mpr ⟨hn_q56, (List.forall_mem_cons.mpr ⟨hn_q62, (List.forall_mem_cons.mpr ⟨hn_ga66, (List.forall_mem_cons.mpr ⟨hn_q73, (fun _ h => absurd h List.not_mem_nil)⟩)⟩)⟩)⟩)⟩)⟩)⟩)⟩)⟩)⟩)⟩)⟩)⟩)⟩)⟩)), hc_a, hc_q12, hc_q20, hc_q40, hc_q48, hc_q56, hc_q30, (fun k hk => by have h9 : k = 0 ∨ k = 1 ∨ k = 2 ∨ k = 3 ∨ k = 4 ∨ k = 5 := (by omega); rcases h9 with rfl | rfl | rfl | rfl | rfl | rfl; (rw [← hg0]; exact hc_g0); (rw [← hg1]; exact hc_g1); (rw [← hg2]; exact hc_g2); (rw [← hg3]; exact hc_g3); (rw [← hg4]; exact hc_g4); (rw [← hg5]; exact hc_g5)), hc_q62, hc_ga66, hc_q73, (by rw [← hg5, ← hg4, ← hg3, ← hg2, ← hg1, ← hg0]; exact fun y h0 hy => hfr y h0 (fun e9 => hy (by rw [e9]; simp)) (fun e9 => hy (by rw [e9]; simp)) (fun e9 => hy (by rw [e9]; simp)) (fun e9 => hy (by rw [e9]; simp)) (fun e9 => hy (by rw [e9]; simp)) (fun e9 => hy (by rw [e9]; simp)) (fun e9 => hy (by rw [e9]; simp)) (fun e9 => hy (by rw [e9]; simp)) (fun e9 => hy (by rw [e9]; simp)) (fun e9 => hy (by rw [e9]; simp)) (fun e9 => hy (by rw [e9]; simp)) (fun e9 => hy (by rw [e9]; simp)) (fun e9 => hy (by rw [e9]; simp)) (fun e9 => hy (by rw [e9]; simp)) (fun e9 => hy (by rw [e9]; simp)))⟩) dX2_init_98
