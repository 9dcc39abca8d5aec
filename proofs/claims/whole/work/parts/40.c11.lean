
section YN
variable {p : Program} {l : Launch} {e : Env} {R : Room} {s : State} {m : MethodId} {args : Array Value} {below : List Frame} {meth : Method} {c : Code} {H : Heap} {locs : List Loc} {cells slots : Nat} {Q : State → Prop}
variable {cc : ByteArray} {pc : Nat} {ls : Array Slot} {rest : List Value} {G : XG} {A : Nat → Prop} {a : Nat} {w : XW} {H0 : Heap}
theorem Y_newI (hexec : p.tables.exec = Jvm.exec) (hb : c.code = cc) (hK : xK G s) (hH : xH G A H0 H locs w) (harr : (Cond.arrayClass .int).before args s = true) {v : Int32} (n : Nat) (hv : v = nI n) (hn : n ≤ 12000) (hcells : cells + 1 ≤ R.cells) (hslots : slots + n ≤ R.slots) (hdg : decode cc pc = .ok (.newarray .int, 2))
    (kk : ∀ (q : Nat) (H1 : Heap), w q = none → xH G A H0 H1 locs (va_up w q (some (.inl (G.2 0, n, .inl (fun _ => 0))))) → W p l e R s m args below meth c H1 locs (cells + 1) (slots + n) Q (F0 m (pc + 2) ls (.ref q :: rest))) : W p l e R s m args below meth c H locs cells slots Q (F0 m pc ls (.int v :: rest)) :=
  x_newa (atype := .int) (ty := .int) hexec hb harr rfl 0 (cA := G.2 0) rfl (fun C h => by cases h) hK hH (N' := n) (a0 := (n, .inl (fun _ => 0))) (fun cA => rfl) (by rw [hv]; exact nI_pos (by omega)) (by rw [hv]; exact nI_clamp (by omega)) (by show n * 4 ≤ _; omega) hcells hslots hdg kk
theorem Y_newZ (hexec : p.tables.exec = Jvm.exec) (hb : c.code = cc) (hK : xK G s) (hH : xH G A H0 H locs w) (harr : (Cond.arrayClass .boolean).before args s = true) {v : Int32} (n : Nat) (hv : v = nI n) (hn : n ≤ 12000) (hcells : cells + 1 ≤ R.cells) (hslots : slots + n ≤ R.slots) (hdg : decode cc pc = .ok (.newarray .boolean, 2))
    (kk : ∀ (q : Nat) (H1 : Heap), w q = none → xH G A H0 H1 locs (va_up w q (some (.inl (G.2 1, n, .inl (fun _ => 0))))) → W p l e R s m args below meth c H1 locs (cells + 1) (slots + n) Q (F0 m (pc + 2) ls (.ref q :: rest))) : W p l e R s m args below meth c H locs cells slots Q (F0 m pc ls (.int v :: rest)) :=
  x_newa (atype := .boolean) (ty := .boolean) hexec hb harr rfl 1 (cA := G.2 1) rfl (fun C h => by cases h) hK hH (N' := n) (a0 := (n, .inl (fun _ => 0))) (fun cA => rfl) (by rw [hv]; exact nI_pos (by omega)) (by rw [hv]; exact nI_clamp (by omega)) (by show n * 1 ≤ _; omega) hcells hslots hdg kk
theorem Y_newB (hexec : p.tables.exec = Jvm.exec) (hb : c.code = cc) (hK : xK G s) (hH : xH G A H0 H locs w) (harr : (Cond.arrayClass .byte).before args s = true) {v : Int32} (n : Nat) (hv : v = nI n) (hn : n ≤ 12000) (hcells : cells + 1 ≤ R.cells) (hslots : slots + n ≤ R.slots) (hdg : decode cc pc = .ok (.newarray .byte, 2))
    (kk : ∀ (q : Nat) (H1 : Heap), w q = none → xH G A H0 H1 locs (va_up w q (some (.inl (G.2 2, n, .inl (fun _ => 0))))) → W p l e R s m args below meth c H1 locs (cells + 1) (slots + n) Q (F0 m (pc + 2) ls (.ref q :: rest))) : W p l e R s m args below meth c H locs cells slots Q (F0 m pc ls (.int v :: rest)) :=
  x_newa (atype := .byte) (ty := .byte) hexec hb harr rfl 2 (cA := G.2 2) rfl (fun C h => by cases h) hK hH (N' := n) (a0 := (n, .inl (fun _ => 0))) (fun cA => rfl) (by rw [hv]; exact nI_pos (by omega)) (by rw [hv]; exact nI_clamp (by omega)) (by show n * 1 ≤ _; omega) hcells hslots hdg kk
end YN

set_option maxHeartbeats 4000000 in
set_option maxRecDepth 100000 in
theorem c_Jxa1e45_init_da8c8 (l : Launch) (G : XG) (A : Nat → Prop) (w : XW) (a : Nat) : Met l yJxa1e45_init_da8c8 wsJxa1e45_init_da8c8 ({ frames := 1, cells := 0, slots := 0, locals := 24 }) (va_Pc [.ref a] (xP G A (w))) (va_Qv (fun (u : Unit) => True) (fun u t => xB G A (w) t) A) 0 0 A := by
  refine Met.ofW (cc := cJxa1e45_init_da8c8) (maxL := 1) (ret := none) (by decide) rfl ?_
  intro p e s m args below meth c s₁ B hml hv
  obtain ⟨rfl, hK, hH, hTt⟩ := hv
  have hx := B.exec
  have hb := B.bytes
  have hr := B.returns
  have hts := atoms_spec (ws := wsJxa1e45_init_da8c8) B.pre
  have hown : s.vm.findClass RJxa1e45 = some m.cls := findClass_of_methodNamed B.named
  have hlocks := B.notSynchronized
  have hl := lv_entry ([.ref a]) (n := 1) (Nat.le_of_ble_eq_true rfl)
  rw [lg_entry_eq]
  generalize (lg_sl ([.ref a]) ++ List.replicate (1 - (lg_sl ([.ref a])).length) Slot.unset).toArray = ls at hl ⊢
  have hl : lv_has ls 1 [(0, .ref a)] := hl
  refine lv_aload_n hx hb dJxa1e45_init_da8c8_0 rfl (lv_at hl 0 rfl) ?_
  refine W.objInit hx hb hown (hts (.methodLink RJxa1e45 1 objectInit) (by decide +kernel)) (hts (.instanceMethod objectInit) (by decide +kernel)) (hts (.code objectInit ⟨#[0xb1]⟩ 1 none) (by decide +kernel)) rfl (by rw [hml]; exact hl.1) rfl dJxa1e45_init_da8c8_1 (Nat.le_of_ble_eq_true rfl) (Nat.le_of_ble_eq_true rfl) ?_
  refine W.eq (g2 := F0 m 4 ls []) rfl ?_
  exact x_vret () hx hb hr hlocks hK hH (trivial) dJxa1e45_init_da8c8_4

set_option maxHeartbeats 4000000 in
set_option maxRecDepth 100000 in
theorem c_Jxc12de_init_da8c8 (l : Launch) (G : XG) (A : Nat → Prop) (w : XW) (a : Nat) (mc sz : Int32) (ed : Value) (hc_a : w a = some (.inr (0, [.int mc, ed, .int sz])))  : Met l yJxc12de_init_da8c8 wsJxc12de_init_da8c8 ({ frames := 2, cells := 0, slots := 0, locals := 44 }) (va_Pc [.ref a] (xP G A (w))) (va_Qv (fun (u : XW) => u a = some (.inr (0, [.int 0, ed, .int sz])) ∧ ∀ y, y ≠ a → u y = w y) (fun u t => xB G A (u) t) A) 0 0 A := by
  refine Met.ofW (cc := cJxc12de_init_da8c8) (maxL := 1) (ret := none) (by decide) rfl ?_
  intro p e s m args below meth c s₁ B hml hv
  obtain ⟨rfl, hK, hH, hTt⟩ := hv
  have hx := B.exec
  have hb := B.bytes
  have hr := B.returns
  have hts := atoms_spec (ws := wsJxc12de_init_da8c8) B.pre
  have hown : s.vm.findClass RJxc12de = some m.cls := findClass_of_methodNamed B.named
  have hlocks := B.notSynchronized
  have hiJx4a65c : ∀ w ∈ wsJx4a65c0, w ∈ wsJxc12de_init_da8c8 := by decide +kernel
  have hf7 := hts (.fieldLink RJxc12de 7 "java/util/AbstractList" "modCount" "I") (by decide +kernel)
  have hl := lv_entry ([.ref a]) (n := 1) (Nat.le_of_ble_eq_true rfl)
  rw [lg_entry_eq]
  generalize (lg_sl ([.ref a]) ++ List.replicate (1 - (lg_sl ([.ref a])).length) Slot.unset).toArray = ls at hl ⊢
  have hl : lv_has ls 1 [(0, .ref a)] := hl
  refine lv_aload_n hx hb dJxc12de_init_da8c8_0 rfl (lv_at hl 0 rfl) ?_
  refine x_callv (va_runI (As := []) (rest := []) ⟨hx, hb, hml, hown, hts⟩ (c_Jxa1e45_init_da8c8 l G A (w) a) (cwI 0 hts gJxc12de_init_da8c8_Jxa1e45_init_da8c8 rfl rfl rfl (hts (.initialized RJxa1e45) (by decide +kernel)) (hts (.methodLink RJxc12de 1 yJxa1e45_init_da8c8) (by decide +kernel)) (hts (.instanceMethod yJxa1e45_init_da8c8) (by decide +kernel)) rfl (by decide +kernel) ⟨Nat.le_of_ble_eq_true rfl, Nat.le_of_ble_eq_true rfl⟩) (x_preS hK hH hTt [.ref a]) rfl rfl hl.1 rfl (lv_room (Nat.le_of_ble_eq_true rfl)) dJxc12de_init_da8c8_1 ⟨Nat.le_of_ble_eq_true rfl, Nat.le_of_ble_eq_true rfl⟩) hH (fun u H locs hp hH => ?_)
  refine lv_aload_n hx hb dJxc12de_init_da8c8_4 rfl (lv_at hl 0 rfl) ?_
  refine lv_iconst (v := 0) hx hb dJxc12de_init_da8c8_5 (by decide) ?_
  refine x_put (C := RJx4a65c) (T := TJx4a65c) (N := 3) (ty := .int) hx hb hts hiJx4a65c tyJx4a65c tyJx4a65c_ok nmJx4a65c hown hK hH hc_a rfl 0 (by decide) hf7 (fun _ h => h) rfl (by decide +kernel) rfl rfl (Nat.le_of_ble_eq_true rfl) dJxc12de_init_da8c8_6 (fun H locs hH => ?_)
  have hH : xH G A s.heap H locs (va_up w a (some (.inr (0, [.int 0, ed, .int sz])))) := hH
  obtain ⟨w6, ew6⟩ : ∃ z, z = va_up w a (some (.inr (0, [.int 0, ed, .int sz]))) := ⟨_, rfl⟩
  rw [← ew6] at hH
  have hc_a : w6 a = some (.inr (0, [.int 0, ed, .int sz])) := by rw [ew6]; exact if_pos rfl
  have hfr : ∀ x, x ≠ a → w6 x = w x := fun x z_a => by rw [ew6]; exact if_neg z_a
  exact x_vret w6 hx hb hr hlocks hK hH (⟨hc_a, hfr⟩) dJxc12de_init_da8c8_9

set_option maxHeartbeats 4000000 in
set_option maxRecDepth 100000 in
theorem c_Jx4a65c_init_da8c8 (l : Launch) (G : XG) (A : Nat → Prop) (w : XW) (a : Nat) (mc sz : Int32) (ed : Value) (hc_a : w a = some (.inr (0, [.int mc, ed, .int sz])))  : Met l yJx4a65c_init_da8c8 wsJx4a65c_init_da8c8 ({ frames := 3, cells := 0, slots := 0, locals := 64 }) (va_Pc [.ref a] (xP G A (w))) (va_Qv (fun (u : XW) => u a = some (.inr (0, [.int 0, .ref (G.2 12), .int sz])) ∧ ∀ y, y ≠ a → u y = w y) (fun u t => xB G A (u) t) A) 0 0 A := by
  refine Met.ofW (cc := cJx4a65c_init_da8c8) (maxL := 1) (ret := none) (by decide) rfl ?_
  intro p e s m args below meth c s₁ B hml hv
  obtain ⟨rfl, hK, hH, hTt⟩ := hv
  have hx := B.exec
  have hb := B.bytes
  have hr := B.returns
  have hts := atoms_spec (ws := wsJx4a65c_init_da8c8) B.pre
  have hown : s.vm.findClass RJx4a65c = some m.cls := findClass_of_methodNamed B.named
  have hlocks := B.notSynchronized
  have hiJx4a65c : ∀ w ∈ wsJx4a65c0, w ∈ wsJx4a65c_init_da8c8 := by decide +kernel
  have hf9 := hts (.fieldLink RJx4a65c 9 "java/util/ArrayList" "elementData" "[Ljava/lang/Object;") (by decide +kernel)
  have hl := lv_entry ([.ref a]) (n := 1) (Nat.le_of_ble_eq_true rfl)
  rw [lg_entry_eq]
  generalize (lg_sl ([.ref a]) ++ List.replicate (1 - (lg_sl ([.ref a])).length) Slot.unset).toArray = ls at hl ⊢
  have hl : lv_has ls 1 [(0, .ref a)] := hl
  refine lv_aload_n hx hb dJx4a65c_init_da8c8_0 rfl (lv_at hl 0 rfl) ?_
  refine x_callv (va_runI (As := []) (rest := []) ⟨hx, hb, hml, hown, hts⟩ (c_Jxc12de_init_da8c8 l G A _ a mc sz ed hc_a) (cwI 0 hts gJx4a65c_init_da8c8_Jxc12de_init_da8c8 rfl rfl rfl (hts (.initialized RJxc12de) (by decide +kernel)) (hts (.methodLink RJx4a65c 1 yJxc12de_init_da8c8) (by decide +kernel)) (hts (.instanceMethod yJxc12de_init_da8c8) (by decide +kernel)) rfl (by decide +kernel) ⟨Nat.le_of_ble_eq_true rfl, Nat.le_of_ble_eq_true rfl⟩) (x_preS hK hH hTt [.ref a]) rfl rfl hl.1 rfl (lv_room (Nat.le_of_ble_eq_true rfl)) dJx4a65c_init_da8c8_1 ⟨Nat.le_of_ble_eq_true rfl, Nat.le_of_ble_eq_true rfl⟩) hH (fun w1 H locs hp hH => ?_)
  obtain ⟨hc_a, hfm1⟩ := hp
  have hfr : ∀ x, x ≠ a → w1 x = w x := fun x z_a => (hfm1 x z_a)
  refine lv_aload_n hx hb dJx4a65c_init_da8c8_4 rfl (lv_at hl 0 rfl) ?_
  refine va_gets (C := "java/util/ArrayList") (n := "DEFAULTCAPACITY_EMPTY_ELEMENTDATA") (d := "[Ljava/lang/Object;") hx hb hTt.1.2.2.2.2.1 hH.2.1 hown (hts (.fieldLink RJx4a65c 39 "java/util/ArrayList" "DEFAULTCAPACITY_EMPTY_ELEMENTDATA" "[Ljava/lang/Object;") (by decide +kernel)) (fun _ h => h) dJx4a65c_init_da8c8_5 ?_
  refine x_put (C := RJx4a65c) (T := TJx4a65c) (N := 3) (ty := .array (.object "java/lang/Object")) hx hb hts hiJx4a65c tyJx4a65c tyJx4a65c_ok nmJx4a65c hown hK hH hc_a rfl 1 (by decide) hf9 (fun _ h => h) rfl (by decide +kernel) rfl rfl (Nat.le_of_ble_eq_true rfl) dJx4a65c_init_da8c8_8 (fun H locs hH => ?_)
  have hH : xH G A s.heap H locs (va_up w1 a (some (.inr (0, [.int 0, .ref (G.2 12), .int sz])))) := hH
  obtain ⟨w8, ew8⟩ : ∃ z, z = va_up w1 a (some (.inr (0, [.int 0, .ref (G.2 12), .int sz]))) := ⟨_, rfl⟩
  rw [← ew8] at hH
  have hc_a : w8 a = some (.inr (0, [.int 0, .ref (G.2 12), .int sz])) := by rw [ew8]; exact if_pos rfl
  have hfr : ∀ x, x ≠ a → w8 x = w x := fun x z_a => by rw [ew8]; exact (if_neg z_a).trans (hfr x z_a)
  exact x_vret w8 hx hb hr hlocks hK hH (⟨hc_a, hfr⟩) dJx4a65c_init_da8c8_11

set_option maxHeartbeats 4000000 in
set_option maxRecDepth 100000 in
theorem c_X1_init (l : Launch) (G : XG) (A : Nat → Prop) (w : XW) (a : Nat)  (hc_a : w a = some (.inr (2, [.int 0, .int 0, .int 0, .int 0, .int 0, .null])))  : Met l yX1_init wsX1_init ({ frames := 1, cells := 1, slots := 4, locals := 24 }) (va_Pc [.ref a] (xP G A (w))) (va_Qv (fun (u : XW) => ∃ ga, w ga = none ∧ u a = some (.inr (2, [.int 0, .int 0, .int 0, .int 0, .int 0, .ref ga])) ∧ u ga = some (.inl (G.2 0, 4, .inl (fun _ => 0))) ∧ ∀ y, y ≠ a → y ≠ ga → u y = w y) (fun u t => xB G A (u) t) A) 1 4 A := by
  refine Met.ofW (cc := cX1_init) (maxL := 1) (ret := none) (by decide) rfl ?_
  intro p e s m args below meth c s₁ B hml hv
  obtain ⟨rfl, hK, hH, hTt⟩ := hv
  have hx := B.exec
  have hb := B.bytes
  have hr := B.returns
  have hts := atoms_spec (ws := wsX1_init) B.pre
  have hown : s.vm.findClass RX1 = some m.cls := findClass_of_methodNamed B.named
  have hlocks := B.notSynchronized
  have hiX1 : ∀ w ∈ wsX10, w ∈ wsX1_init := by decide +kernel
  have hf9 := hts (.fieldLink RX1 9 "ResinWoods$Face" "streaks" "I") (by decide +kernel)
  have hf15 := hts (.fieldLink RX1 15 "ResinWoods$Face" "latest" "I") (by decide +kernel)
  have hf18 := hts (.fieldLink RX1 18 "ResinWoods$Face" "openedIn" "I") (by decide +kernel)
  have hf21 := hts (.fieldLink RX1 21 "ResinWoods$Face" "has" "I") (by decide +kernel)
  have hf24 := hts (.fieldLink RX1 24 "ResinWoods$Face" "ranOver" "I") (by decide +kernel)
  have hf27 := hts (.fieldLink RX1 27 "ResinWoods$Face" "ofGrade" "[I") (by decide +kernel)
  have hl := lv_entry ([.ref a]) (n := 1) (Nat.le_of_ble_eq_true rfl)
  rw [lg_entry_eq]
  generalize (lg_sl ([.ref a]) ++ List.replicate (1 - (lg_sl ([.ref a])).length) Slot.unset).toArray = ls at hl ⊢
  have hl : lv_has ls 1 [(0, .ref a)] := hl
  have hmn : meth.name = "<init>" := (name_of_methodNamed B.named B.method).1
  refine lv_aload_n hx hb dX1_init_0 rfl (lv_at hl 0 rfl) ?_
  refine W.objInit hx hb hown (hts (.methodLink RX1 3 objectInit) (by decide +kernel)) (hts (.instanceMethod objectInit) (by decide +kernel)) (hts (.code objectInit ⟨#[0xb1]⟩ 1 none) (by decide +kernel)) rfl (by rw [hml]; exact hl.1) rfl dX1_init_1 (Nat.le_of_ble_eq_true rfl) (Nat.le_of_ble_eq_true rfl) ?_
  refine W.eq (g2 := F0 m 4 ls []) rfl ?_
  refine lv_aload_n hx hb dX1_init_4 rfl (lv_at hl 0 rfl) ?_
  refine lv_iconst (v := 0) hx hb dX1_init_5 (by decide) ?_
  refine x_put (C := RX1) (T := TX1) (N := 6) (ty := .int) hx hb hts hiX1 tyX1 tyX1_ok nmX1 hown hK hH hc_a rfl 0 (by decide) hf9 (fun _ h => h) rfl (by decide +kernel) rfl rfl (Nat.le_of_ble_eq_true rfl) dX1_init_6 (fun H locs hH => ?_)
  have hH : xH G A s.heap H locs (va_up w a (some (.inr (2, [.int 0, .int 0, .int 0, .int 0, .int 0, .null])))) := hH
  obtain ⟨w6, ew6⟩ : ∃ z, z = va_up w a (some (.inr (2, [.int 0, .int 0, .int 0, .int 0, .int 0, .null]))) := ⟨_, rfl⟩
  rw [← ew6] at hH
  have hc_a : w6 a = some (.inr (2, [.int 0, .int 0, .int 0, .int 0, .int 0, .null])) := by rw [ew6]; exact if_pos rfl
  have hfr : ∀ x, x ≠ a → w6 x = w x := fun x z_a => by rw [ew6]; exact if_neg z_a
  refine lv_aload_n hx hb dX1_init_9 rfl (lv_at hl 0 rfl) ?_
  refine lv_iconst (v := 0) hx hb dX1_init_10 (by decide) ?_
  refine x_put (C := RX1) (T := TX1) (N := 6) (ty := .int) hx hb hts hiX1 tyX1 tyX1_ok nmX1 hown hK hH hc_a rfl 1 (by decide) hf15 (fun _ h => h) rfl (by decide +kernel) rfl rfl (Nat.le_of_ble_eq_true rfl) dX1_init_11 (fun H locs hH => ?_)
  have hH : xH G A s.heap H locs (va_up w6 a (some (.inr (2, [.int 0, .int 0, .int 0, .int 0, .int 0, .null])))) := hH
  obtain ⟨w11, ew11⟩ : ∃ z, z = va_up w6 a (some (.inr (2, [.int 0, .int 0, .int 0, .int 0, .int 0, .null]))) := ⟨_, rfl⟩
  rw [← ew11] at hH
  have hc_a : w11 a = some (.inr (2, [.int 0, .int 0, .int 0, .int 0, .int 0, .null])) := by rw [ew11]; exact if_pos rfl
  have hfr : ∀ x, x ≠ a → w11 x = w x := fun x z_a => by rw [ew11]; exact (if_neg z_a).trans (hfr x z_a)
  refine lv_aload_n hx hb dX1_init_14 rfl (lv_at hl 0 rfl) ?_
  refine lv_iconst (v := 0) hx hb dX1_init_15 (by decide) ?_
  refine x_put (C := RX1) (T := TX1) (N := 6) (ty := .int) hx hb hts hiX1 tyX1 tyX1_ok nmX1 hown hK hH hc_a rfl 2 (by decide) hf18 (fun _ h => h) rfl (by decide +kernel) rfl rfl (Nat.le_of_ble_eq_true rfl) dX1_init_16 (fun H locs hH => ?_)
  have hH : xH G A s.heap H locs (va_up w11 a (some (.inr (2, [.int 0, .int 0, .int 0, .int 0, .int 0, .null])))) := hH
  obtain ⟨w16, ew16⟩ : ∃ z, z = va_up w11 a (some (.inr (2, [.int 0, .int 0, .int 0, .int 0, .int 0, .null]))) := ⟨_, rfl⟩
  rw [← ew16] at hH
  have hc_a : w16 a = some (.inr (2, [.int 0, .int 0, .int 0, .int 0, .int 0, .null])) := by rw [ew16]; exact if_pos rfl
  have hfr : ∀ x, x ≠ a → w16 x = w x := fun x z_a => by rw [ew16]; exact (if_neg z_a).trans (hfr x z_a)
  refine lv_aload_n hx hb dX1_init_19 rfl (lv_at hl 0 rfl) ?_
  refine lv_iconst (v := 0) hx hb dX1_init_20 (by decide) ?_
  refine x_put (C := RX1) (T := TX1) (N := 6) (ty := .int) hx hb hts hiX1 tyX1 tyX1_ok nmX1 hown hK hH hc_a rfl 3 (by decide) hf21 (fun _ h => h) rfl (by decide +kernel) rfl rfl (Nat.le_of_ble_eq_true rfl) dX1_init_21 (fun H locs hH => ?_)
  have hH : xH G A s.heap H locs (va_up w16 a (some (.inr (2, [.int 0, .int 0, .int 0, .int 0, .int 0, .null])))) := hH
  obtain ⟨w21, ew21⟩ : ∃ z, z = va_up w16 a (some (.inr (2, [.int 0, .int 0, .int 0, .int 0, .int 0, .null]))) := ⟨_, rfl⟩
  rw [← ew21] at hH
  have hc_a : w21 a = some (.inr (2, [.int 0, .int 0, .int 0, .int 0, .int 0, .null])) := by rw [ew21]; exact if_pos rfl
  have hfr : ∀ x, x ≠ a → w21 x = w x := fun x z_a => by rw [ew21]; exact (if_neg z_a).trans (hfr x z_a)
  refine lv_aload_n hx hb dX1_init_24 rfl (lv_at hl 0 rfl) ?_
  refine lv_iconst (v := 0) hx hb dX1_init_25 (by decide) ?_
  refine x_put (C := RX1) (T := TX1) (N := 6) (ty := .int) hx hb hts hiX1 tyX1 tyX1_ok nmX1 hown hK hH hc_a rfl 4 (by decide) hf24 (fun _ h => h) rfl (by decide +kernel) rfl rfl (Nat.le_of_ble_eq_true rfl) dX1_init_26 (fun H locs hH => ?_)
  have hH : xH G A s.heap H locs (va_up w21 a (some (.inr (2, [.int 0, .int 0, .int 0, .int 0, .int 0, .null])))) := hH
  obtain ⟨w26, ew26⟩ : ∃ z, z = va_up w21 a (some (.inr (2, [.int 0, .int 0, .int 0, .int 0, .int 0, .null]))) := ⟨_, rfl⟩
  rw [← ew26] at hH
  have hc_a : w26 a = some (.inr (2, [.int 0, .int 0, .int 0, .int 0, .int 0, .null])) := by rw [ew26]; exact if_pos rfl
  have hfr : ∀ x, x ≠ a → w26 x = w x := fun x z_a => by rw [ew26]; exact (if_neg z_a).trans (hfr x z_a)
  refine lv_aload_n hx hb dX1_init_29 rfl (lv_at hl 0 rfl) ?_
  refine lv_iconst (v := 4) hx hb dX1_init_30 (by decide) ?_
  refine Y_newI hx hb hK hH (hts (.arrayClass .int) (by decide +kernel)) 4 rfl (by decide) (Nat.le_of_ble_eq_true rfl) (Nat.le_of_ble_eq_true rfl) dX1_init_31 (fun q31 H hq31 hH => ?_)
  have ne_a_q31 : a ≠ q31 := fun e9 => by rw [e9, hq31] at hc_a; cases hc_a
  have ne_q31_a : q31 ≠ a := fun e9 => ne_a_q31 e9.symm
  obtain ⟨w31, ew31⟩ : ∃ z, z = va_up w26 q31 (some (.inl (G.2 0, 4, .inl (fun _ => 0)))) := ⟨_, rfl⟩
  have hH : xH G A s.heap H _ (va_up w26 q31 (some (.inl (G.2 0, 4, .inl (fun _ => 0))))) := hH
  rw [← ew31] at hH
  have hc_q31 : w31 q31 = some (.inl (G.2 0, 4, .inl (fun _ => 0))) := by rw [ew31]; exact if_pos rfl
  have hc_a : w31 a = some (.inr (2, [.int 0, .int 0, .int 0, .int 0, .int 0, .null])) := by rw [ew31]; exact (if_neg ne_a_q31).trans hc_a
  have hn_q31 : w q31 = none := (hfr q31 ne_q31_a).symm.trans hq31
  have hfr : ∀ x, x ≠ a → x ≠ q31 → w31 x = w x := fun x z_a z_q31 => by rw [ew31]; exact (if_neg z_q31).trans (hfr x z_a)
  refine x_putF (C := RX1) (T := TX1) (N := 6) (ty := .array .int) hx hb hts hiX1 tyX1 tyX1_ok nmX1 hown hK hH hc_a rfl 5 (by decide) hf27 (fun _ h => h) rfl hmn rfl (by decide +kernel) rfl rfl (Nat.le_of_ble_eq_true rfl) dX1_init_33 (fun H locs hH => ?_)
  have hH : xH G A s.heap H locs (va_up w31 a (some (.inr (2, [.int 0, .int 0, .int 0, .int 0, .int 0, .ref q31])))) := hH
  obtain ⟨w33, ew33⟩ : ∃ z, z = va_up w31 a (some (.inr (2, [.int 0, .int 0, .int 0, .int 0, .int 0, .ref q31]))) := ⟨_, rfl⟩
  rw [← ew33] at hH
  have hc_a : w33 a = some (.inr (2, [.int 0, .int 0, .int 0, .int 0, .int 0, .ref q31])) := by rw [ew33]; exact if_pos rfl
  have hc_q31 : w33 q31 = some (.inl (G.2 0, 4, .inl (fun _ => 0))) := by rw [ew33, show va_up w31 a _ q31 = w31 q31 from if_neg ne_q31_a]; exact hc_q31
  have hfr : ∀ x, x ≠ a → x ≠ q31 → w33 x = w x := fun x z_a z_q31 => by rw [ew33]; exact (if_neg z_a).trans (hfr x z_a z_q31)
  refine W.widen (k := 1) (n := 4) (Nat.le_of_ble_eq_true rfl) (Nat.le_of_ble_eq_true rfl) ?_
  exact x_vret w33 hx hb hr hlocks hK hH (⟨q31, hn_q31, hc_a, hc_q31, hfr⟩) dX1_init_36

set_option maxHeartbeats 4000000 in
set_option maxRecDepth 100000 in
theorem c_X3_init (l : Launch) (G : XG) (A : Nat → Prop) (w : XW) (a : Nat)  (hc_a : w a = some (.inr (4, [.int 0, .int 0, .int 0])))  : Met l yX3_init wsX3_init ({ frames := 1, cells := 0, slots := 0, locals := 24 }) (va_Pc [.ref a] (xP G A (w))) (va_Qv (fun (u : XW) => u a = some (.inr (4, [.int 0, .int 0, .int 0])) ∧ ∀ y, y ≠ a → u y = w y) (fun u t => xB G A (u) t) A) 0 0 A := by
  refine Met.ofW (cc := cX3_init) (maxL := 1) (ret := none) (by decide) rfl ?_
  intro p e s m args below meth c s₁ B hml hv
  obtain ⟨rfl, hK, hH, hTt⟩ := hv
  have hx := B.exec
  have hb := B.bytes
  have hr := B.returns
  have hts := atoms_spec (ws := wsX3_init) B.pre
  have hown : s.vm.findClass RX3 = some m.cls := findClass_of_methodNamed B.named
  have hlocks := B.notSynchronized
  have hiX3 : ∀ w ∈ wsX30, w ∈ wsX3_init := by decide +kernel
  have hf7 := hts (.fieldLink RX3 7 "ResinWoods$Tally" "ran" "I") (by decide +kernel)
  have hf13 := hts (.fieldLink RX3 13 "ResinWoods$Tally" "ranOver" "I") (by decide +kernel)
  have hf16 := hts (.fieldLink RX3 16 "ResinWoods$Tally" "washed" "I") (by decide +kernel)
  have hl := lv_entry ([.ref a]) (n := 1) (Nat.le_of_ble_eq_true rfl)
  rw [lg_entry_eq]
  generalize (lg_sl ([.ref a]) ++ List.replicate (1 - (lg_sl ([.ref a])).length) Slot.unset).toArray = ls at hl ⊢
  have hl : lv_has ls 1 [(0, .ref a)] := hl
  refine lv_aload_n hx hb dX3_init_0 rfl (lv_at hl 0 rfl) ?_
  refine W.objInit hx hb hown (hts (.methodLink RX3 1 objectInit) (by decide +kernel)) (hts (.instanceMethod objectInit) (by decide +kernel)) (hts (.code objectInit ⟨#[0xb1]⟩ 1 none) (by decide +kernel)) rfl (by rw [hml]; exact hl.1) rfl dX3_init_1 (Nat.le_of_ble_eq_true rfl) (Nat.le_of_ble_eq_true rfl) ?_
  refine W.eq (g2 := F0 m 4 ls []) rfl ?_
  refine lv_aload_n hx hb dX3_init_4 rfl (lv_at hl 0 rfl) ?_
  refine lv_iconst (v := 0) hx hb dX3_init_5 (by decide) ?_
  refine x_put (C := RX3) (T := TX3) (N := 3) (ty := .int) hx hb hts hiX3 tyX3 tyX3_ok nmX3 hown hK hH hc_a rfl 0 (by decide) hf7 (fun _ h => h) rfl (by decide +kernel) rfl rfl (Nat.le_of_ble_eq_true rfl) dX3_init_6 (fun H locs hH => ?_)
  have hH : xH G A s.heap H locs (va_up w a (some (.inr (4, [.int 0, .int 0, .int 0])))) := hH
  obtain ⟨w6, ew6⟩ : ∃ z, z = va_up w a (some (.inr (4, [.int 0, .int 0, .int 0]))) := ⟨_, rfl⟩
  rw [← ew6] at hH
  have hc_a : w6 a = some (.inr (4, [.int 0, .int 0, .int 0])) := by rw [ew6]; exact if_pos rfl
  have hfr : ∀ x, x ≠ a → w6 x = w x := fun x z_a => by rw [ew6]; exact if_neg z_a
  refine lv_aload_n hx hb dX3_init_9 rfl (lv_at hl 0 rfl) ?_
  refine lv_iconst (v := 0) hx hb dX3_init_10 (by decide) ?_
  refine x_put (C := RX3) (T := TX3) (N := 3) (ty := .int) hx hb hts hiX3 tyX3 tyX3_ok nmX3 hown hK hH hc_a rfl 1 (by decide) hf13 (fun _ h => h) rfl (by decide +kernel) rfl rfl (Nat.le_of_ble_eq_true rfl) dX3_init_11 (fun H locs hH => ?_)
  have hH : xH G A s.heap H locs (va_up w6 a (some (.inr (4, [.int 0, .int 0, .int 0])))) := hH
  obtain ⟨w11, ew11⟩ : ∃ z, z = va_up w6 a (some (.inr (4, [.int 0, .int 0, .int 0]))) := ⟨_, rfl⟩
  rw [← ew11] at hH
  have hc_a : w11 a = some (.inr (4, [.int 0, .int 0, .int 0])) := by rw [ew11]; exact if_pos rfl
  have hfr : ∀ x, x ≠ a → w11 x = w x := fun x z_a => by rw [ew11]; exact (if_neg z_a).trans (hfr x z_a)
  refine lv_aload_n hx hb dX3_init_14 rfl (lv_at hl 0 rfl) ?_
  refine lv_iconst (v := 0) hx hb dX3_init_15 (by decide) ?_
  refine x_put (C := RX3) (T := TX3) (N := 3) (ty := .int) hx hb hts hiX3 tyX3 tyX3_ok nmX3 hown hK hH hc_a rfl 2 (by decide) hf16 (fun _ h => h) rfl (by decide +kernel) rfl rfl (Nat.le_of_ble_eq_true rfl) dX3_init_16 (fun H locs hH => ?_)
  have hH : xH G A s.heap H locs (va_up w11 a (some (.inr (4, [.int 0, .int 0, .int 0])))) := hH
  obtain ⟨w16, ew16⟩ : ∃ z, z = va_up w11 a (some (.inr (4, [.int 0, .int 0, .int 0]))) := ⟨_, rfl⟩
  rw [← ew16] at hH
  have hc_a : w16 a = some (.inr (4, [.int 0, .int 0, .int 0])) := by rw [ew16]; exact if_pos rfl
  have hfr : ∀ x, x ≠ a → w16 x = w x := fun x z_a => by rw [ew16]; exact (if_neg z_a).trans (hfr x z_a)
  exact x_vret w16 hx hb hr hlocks hK hH (⟨hc_a, hfr⟩) dX3_init_19

set_option maxHeartbeats 4000000 in
set_option maxRecDepth 100000 in
theorem c_X5_init (l : Launch) (G : XG) (A : Nat → Prop) (w : XW) (a : Nat)  (hc_a : w a = some (.inr (6, [.int 0, .int 0, .int 0, .int 0, .int 0, .null]))) (nr : Int32) : Met l yX5_init wsX5_init ({ frames := 1, cells := 0, slots := 0, locals := 24 }) (va_Pc [.ref a, .int nr] (xP G A (w))) (va_Qv (fun (u : XW) => u a = some (.inr (6, [.int nr, .int 0, .int 0, .int 0, .int 0, .null])) ∧ ∀ y, y ≠ a → u y = w y) (fun u t => xB G A (u) t) A) 0 0 A := by
  refine Met.ofW (cc := cX5_init) (maxL := 2) (ret := none) (by decide) rfl ?_
  intro p e s m args below meth c s₁ B hml hv
  obtain ⟨rfl, hK, hH, hTt⟩ := hv
  have hx := B.exec
  have hb := B.bytes
  have hr := B.returns
  have hts := atoms_spec (ws := wsX5_init) B.pre
  have hown : s.vm.findClass RX5 = some m.cls := findClass_of_methodNamed B.named
  have hlocks := B.notSynchronized
  have hiX5 : ∀ w ∈ wsX50, w ∈ wsX5_init := by decide +kernel
  have hf7 := hts (.fieldLink RX5 7 "ResinWoods$Wood" "isLet" "Z") (by decide +kernel)
  have hf13 := hts (.fieldLink RX5 13 "ResinWoods$Wood" "rent" "I") (by decide +kernel)
  have hf17 := hts (.fieldLink RX5 17 "ResinWoods$Wood" "emptied" "I") (by decide +kernel)
  have hf20 := hts (.fieldLink RX5 20 "ResinWoods$Wood" "paid" "I") (by decide +kernel)
  have hf23 := hts (.fieldLink RX5 23 "ResinWoods$Wood" "latest" "LResinWoods$Barrel;") (by decide +kernel)
  have hf27 := hts (.fieldLink RX5 27 "ResinWoods$Wood" "number" "I") (by decide +kernel)
  have hl := lv_entry ([.ref a, .int nr]) (n := 2) (Nat.le_of_ble_eq_true rfl)
  rw [lg_entry_eq]
  generalize (lg_sl ([.ref a, .int nr]) ++ List.replicate (2 - (lg_sl ([.ref a, .int nr])).length) Slot.unset).toArray = ls at hl ⊢
  have hl : lv_has ls 2 [(0, .ref a), (1, .int nr)] := hl
  have hmn : meth.name = "<init>" := (name_of_methodNamed B.named B.method).1
  refine lv_aload_n hx hb dX5_init_0 rfl (lv_at hl 0 rfl) ?_
  refine W.objInit hx hb hown (hts (.methodLink RX5 1 objectInit) (by decide +kernel)) (hts (.instanceMethod objectInit) (by decide +kernel)) (hts (.code objectInit ⟨#[0xb1]⟩ 1 none) (by decide +kernel)) rfl (by rw [hml]; exact hl.1) rfl dX5_init_1 (Nat.le_of_ble_eq_true rfl) (Nat.le_of_ble_eq_true rfl) ?_
  refine W.eq (g2 := F0 m 4 ls []) rfl ?_
  refine lv_aload_n hx hb dX5_init_4 rfl (lv_at hl 0 rfl) ?_
  refine lv_iconst (v := 0) hx hb dX5_init_5 (by decide) ?_
  refine x_put (C := RX5) (T := TX5) (N := 6) (ty := .boolean) hx hb hts hiX5 tyX5 tyX5_ok nmX5 hown hK hH hc_a rfl 1 (by decide) hf7 (fun _ h => h) rfl (by decide +kernel) rfl rfl (Nat.le_of_ble_eq_true rfl) dX5_init_6 (fun H locs hH => ?_)
  have hH : xH G A s.heap H locs (va_up w a (some (.inr (6, [.int 0, .int 0, .int 0, .int 0, .int 0, .null])))) := hH
  obtain ⟨w6, ew6⟩ : ∃ z, z = va_up w a (some (.inr (6, [.int 0, .int 0, .int 0, .int 0, .int 0, .null]))) := ⟨_, rfl⟩
  rw [← ew6] at hH
  have hc_a : w6 a = some (.inr (6, [.int 0, .int 0, .int 0, .int 0, .int 0, .null])) := by rw [ew6]; exact if_pos rfl
  have hfr : ∀ x, x ≠ a → w6 x = w x := fun x z_a => by rw [ew6]; exact if_neg z_a
  refine lv_aload_n hx hb dX5_init_9 rfl (lv_at hl 0 rfl) ?_
  refine lv_iconst (v := 0) hx hb dX5_init_10 (by decide) ?_
  refine x_put (C := RX5) (T := TX5) (N := 6) (ty := .int) hx hb hts hiX5 tyX5 tyX5_ok nmX5 hown hK hH hc_a rfl 2 (by decide) hf13 (fun _ h => h) rfl (by decide +kernel) rfl rfl (Nat.le_of_ble_eq_true rfl) dX5_init_11 (fun H locs hH => ?_)
  have hH : xH G A s.heap H locs (va_up w6 a (some (.inr (6, [.int 0, .int 0, .int 0, .int 0, .int 0, .null])))) := hH
  obtain ⟨w11, ew11⟩ : ∃ z, z = va_up w6 a (some (.inr (6, [.int 0, .int 0, .int 0, .int 0, .int 0, .null]))) := ⟨_, rfl⟩
  rw [← ew11] at hH
  have hc_a : w11 a = some (.inr (6, [.int 0, .int 0, .int 0, .int 0, .int 0, .null])) := by rw [ew11]; exact if_pos rfl
  have hfr : ∀ x, x ≠ a → w11 x = w x := fun x z_a => by rw [ew11]; exact (if_neg z_a).trans (hfr x z_a)
  refine lv_aload_n hx hb dX5_init_14 rfl (lv_at hl 0 rfl) ?_
  refine lv_iconst (v := 0) hx hb dX5_init_15 (by decide) ?_
  refine x_put (C := RX5) (T := TX5) (N := 6) (ty := .int) hx hb hts hiX5 tyX5 tyX5_ok nmX5 hown hK hH hc_a rfl 3 (by decide) hf17 (fun _ h => h) rfl (by decide +kernel) rfl rfl (Nat.le_of_ble_eq_true rfl) dX5_init_16 (fun H locs hH => ?_)
  have hH : xH G A s.heap H locs (va_up w11 a (some (.inr (6, [.int 0, .int 0, .int 0, .int 0, .int 0, .null])))) := hH
  obtain ⟨w16, ew16⟩ : ∃ z, z = va_up w11 a (some (.inr (6, [.int 0, .int 0, .int 0, .int 0, .int 0, .null]))) := ⟨_, rfl⟩
  rw [← ew16] at hH
  have hc_a : w16 a = some (.inr (6, [.int 0, .int 0, .int 0, .int 0, .int 0, .null])) := by rw [ew16]; exact if_pos rfl
  have hfr : ∀ x, x ≠ a → w16 x = w x := fun x z_a => by rw [ew16]; exact (if_neg z_a).trans (hfr x z_a)
  refine lv_aload_n hx hb dX5_init_19 rfl (lv_at hl 0 rfl) ?_
  refine lv_iconst (v := 0) hx hb dX5_init_20 (by decide) ?_
  refine x_put (C := RX5) (T := TX5) (N := 6) (ty := .int) hx hb hts hiX5 tyX5 tyX5_ok nmX5 hown hK hH hc_a rfl 4 (by decide) hf20 (fun _ h => h) rfl (by decide +kernel) rfl rfl (Nat.le_of_ble_eq_true rfl) dX5_init_21 (fun H locs hH => ?_)
  have hH : xH G A s.heap H locs (va_up w16 a (some (.inr (6, [.int 0, .int 0, .int 0, .int 0, .int 0, .null])))) := hH
  obtain ⟨w21, ew21⟩ : ∃ z, z = va_up w16 a (some (.inr (6, [.int 0, .int 0, .int 0, .int 0, .int 0, .null]))) := ⟨_, rfl⟩
  rw [← ew21] at hH
  have hc_a : w21 a = some (.inr (6, [.int 0, .int 0, .int 0, .int 0, .int 0, .null])) := by rw [ew21]; exact if_pos rfl
  have hfr : ∀ x, x ≠ a → w21 x = w x := fun x z_a => by rw [ew21]; exact (if_neg z_a).trans (hfr x z_a)
  refine lv_aload_n hx hb dX5_init_24 rfl (lv_at hl 0 rfl) ?_
  refine lv_null hx hb dX5_init_25 ?_
  refine x_put (C := RX5) (T := TX5) (N := 6) (ty := .object "ResinWoods$Barrel") hx hb hts hiX5 tyX5 tyX5_ok nmX5 hown hK hH hc_a rfl 5 (by decide) hf23 (fun _ h => h) rfl (by decide +kernel) rfl rfl (Nat.le_of_ble_eq_true rfl) dX5_init_26 (fun H locs hH => ?_)
  have hH : xH G A s.heap H locs (va_up w21 a (some (.inr (6, [.int 0, .int 0, .int 0, .int 0, .int 0, .null])))) := hH
  obtain ⟨w26, ew26⟩ : ∃ z, z = va_up w21 a (some (.inr (6, [.int 0, .int 0, .int 0, .int 0, .int 0, .null]))) := ⟨_, rfl⟩
  rw [← ew26] at hH
  have hc_a : w26 a = some (.inr (6, [.int 0, .int 0, .int 0, .int 0, .int 0, .null])) := by rw [ew26]; exact if_pos rfl
  have hfr : ∀ x, x ≠ a → w26 x = w x := fun x z_a => by rw [ew26]; exact (if_neg z_a).trans (hfr x z_a)
  refine lv_aload_n hx hb dX5_init_29 rfl (lv_at hl 0 rfl) ?_
  refine lv_iload_n hx hb dX5_init_30 rfl (lv_at hl 1 rfl) ?_
  refine x_putF (C := RX5) (T := TX5) (N := 6) (ty := .int) hx hb hts hiX5 tyX5 tyX5_ok nmX5 hown hK hH hc_a rfl 0 (by decide) hf27 (fun _ h => h) rfl hmn rfl (by decide +kernel) rfl rfl (Nat.le_of_ble_eq_true rfl) dX5_init_31 (fun H locs hH => ?_)
  have hH : xH G A s.heap H locs (va_up w26 a (some (.inr (6, [.int nr, .int 0, .int 0, .int 0, .int 0, .null])))) := hH
  obtain ⟨w31, ew31⟩ : ∃ z, z = va_up w26 a (some (.inr (6, [.int nr, .int 0, .int 0, .int 0, .int 0, .null]))) := ⟨_, rfl⟩
  rw [← ew31] at hH
  have hc_a : w31 a = some (.inr (6, [.int nr, .int 0, .int 0, .int 0, .int 0, .null])) := by rw [ew31]; exact if_pos rfl
  have hfr : ∀ x, x ≠ a → w31 x = w x := fun x z_a => by rw [ew31]; exact (if_neg z_a).trans (hfr x z_a)
  exact x_vret w31 hx hb hr hlocks hK hH (⟨hc_a, hfr⟩) dX5_init_34

set_option maxHeartbeats 4000000 in
set_option maxRecDepth 100000 in
theorem c_X0_init (l : Launch) (G : XG) (A : Nat → Prop) (w : XW) (a : Nat)  (hc_a : w a = some (.inr (1, [.null, .int 0, .null, .null, .int 0, .int 0]))) (wd : Nat) : Met l yX0_init wsX0_init ({ frames := 1, cells := 2, slots := 64, locals := 24 }) (va_Pc [.ref a, .ref wd] (xP G A (w))) (va_Qv (fun (u : XW) => ∃ ga ta, w ga = none ∧ w ta = none ∧ ga ≠ ta ∧ u a = some (.inr (1, [.ref wd, .int 0, .ref ga, .ref ta, .int 0, .int 0])) ∧ u ga = some (.inl (G.2 0, 4, .inl (fun _ => 0))) ∧ u ta = some (.inl (G.2 0, 60, .inl (fun _ => 0))) ∧ ∀ y, y ≠ a → y ≠ ga → y ≠ ta → u y = w y) (fun u t => xB G A (u) t) A) 2 64 A := by
  refine Met.ofW (cc := cX0_init) (maxL := 2) (ret := none) (by decide) rfl ?_
  intro p e s m args below meth c s₁ B hml hv
  obtain ⟨rfl, hK, hH, hTt⟩ := hv
  have hx := B.exec
  have hb := B.bytes
  have hr := B.returns
  have hts := atoms_spec (ws := wsX0_init) B.pre
  have hown : s.vm.findClass RX0 = some m.cls := findClass_of_methodNamed B.named
  have hlocks := B.notSynchronized
  have hiX0 : ∀ w ∈ wsX00, w ∈ wsX0_init := by decide +kernel
  have hf9 := hts (.fieldLink RX0 9 "ResinWoods$Barrel" "has" "I") (by decide +kernel)
  have hf15 := hts (.fieldLink RX0 15 "ResinWoods$Barrel" "ofGrade" "[I") (by decide +kernel)
  have hf19 := hts (.fieldLink RX0 19 "ResinWoods$Barrel" "ofTree" "[I") (by decide +kernel)
  have hf22 := hts (.fieldLink RX0 22 "ResinWoods$Barrel" "isStilled" "Z") (by decide +kernel)
  have hf26 := hts (.fieldLink RX0 26 "ResinWoods$Barrel" "isPaid" "Z") (by decide +kernel)
  have hf29 := hts (.fieldLink RX0 29 "ResinWoods$Barrel" "wood" "LResinWoods$Wood;") (by decide +kernel)
  have hl := lv_entry ([.ref a, .ref wd]) (n := 2) (Nat.le_of_ble_eq_true rfl)
  rw [lg_entry_eq]
  generalize (lg_sl ([.ref a, .ref wd]) ++ List.replicate (2 - (lg_sl ([.ref a, .ref wd])).length) Slot.unset).toArray = ls at hl ⊢
  have hl : lv_has ls 2 [(0, .ref a), (1, .ref wd)] := hl
  have hmn : meth.name = "<init>" := (name_of_methodNamed B.named B.method).1
  refine lv_aload_n hx hb dX0_init_0 rfl (lv_at hl 0 rfl) ?_
  refine W.objInit hx hb hown (hts (.methodLink RX0 3 objectInit) (by decide +kernel)) (hts (.instanceMethod objectInit) (by decide +kernel)) (hts (.code objectInit ⟨#[0xb1]⟩ 1 none) (by decide +kernel)) rfl (by rw [hml]; exact hl.1) rfl dX0_init_1 (Nat.le_of_ble_eq_true rfl) (Nat.le_of_ble_eq_true rfl) ?_
  refine W.eq (g2 := F0 m 4 ls []) rfl ?_
  refine lv_aload_n hx hb dX0_init_4 rfl (lv_at hl 0 rfl) ?_
  refine lv_iconst (v := 0) hx hb dX0_init_5 (by decide) ?_
  refine x_put (C := RX0) (T := TX0) (N := 6) (ty := .int) hx hb hts hiX0 tyX0 tyX0_ok nmX0 hown hK hH hc_a rfl 1 (by decide) hf9 (fun _ h => h) rfl (by decide +kernel) rfl rfl (Nat.le_of_ble_eq_true rfl) dX0_init_6 (fun H locs hH => ?_)
  have hH : xH G A s.heap H locs (va_up w a (some (.inr (1, [.null, .int 0, .null, .null, .int 0, .int 0])))) := hH
  obtain ⟨w6, ew6⟩ : ∃ z, z = va_up w a (some (.inr (1, [.null, .int 0, .null, .null, .int 0, .int 0]))) := ⟨_, rfl⟩
  rw [← ew6] at hH
  have hc_a : w6 a = some (.inr (1, [.null, .int 0, .null, .null, .int 0, .int 0])) := by rw [ew6]; exact if_pos rfl
  have hfr : ∀ x, x ≠ a → w6 x = w x := fun x z_a => by rw [ew6]; exact if_neg z_a
  refine lv_aload_n hx hb dX0_init_9 rfl (lv_at hl 0 rfl) ?_
  refine lv_iconst (v := 4) hx hb dX0_init_10 (by decide) ?_
  refine Y_newI hx hb hK hH (hts (.arrayClass .int) (by decide +kernel)) 4 rfl (by decide) (Nat.le_of_ble_eq_true rfl) (Nat.le_of_ble_eq_true rfl) dX0_init_11 (fun q11 H hq11 hH => ?_)
  have ne_a_q11 : a ≠ q11 := fun e9 => by rw [e9, hq11] at hc_a; cases hc_a
  have ne_q11_a : q11 ≠ a := fun e9 => ne_a_q11 e9.symm
  obtain ⟨w11, ew11⟩ : ∃ z, z = va_up w6 q11 (some (.inl (G.2 0, 4, .inl (fun _ => 0)))) := ⟨_, rfl⟩
  have hH : xH G A s.heap H _ (va_up w6 q11 (some (.inl (G.2 0, 4, .inl (fun _ => 0))))) := hH
  rw [← ew11] at hH
  have hc_q11 : w11 q11 = some (.inl (G.2 0, 4, .inl (fun _ => 0))) := by rw [ew11]; exact if_pos rfl
  have hc_a : w11 a = some (.inr (1, [.null, .int 0, .null, .null, .int 0, .int 0])) := by rw [ew11]; exact (if_neg ne_a_q11).trans hc_a
  have hn_q11 : w q11 = none := (hfr q11 ne_q11_a).symm.trans hq11
  have hfr : ∀ x, x ≠ a → x ≠ q11 → w11 x = w x := fun x z_a z_q11 => by rw [ew11]; exact (if_neg z_q11).trans (hfr x z_a)
  refine x_putF (C := RX0) (T := TX0) (N := 6) (ty := .array .int) hx hb hts hiX0 tyX0 tyX0_ok nmX0 hown hK hH hc_a rfl 2 (by decide) hf15 (fun _ h => h) rfl hmn rfl (by decide +kernel) rfl rfl (Nat.le_of_ble_eq_true rfl) dX0_init_13 (fun H locs hH => ?_)
  have hH : xH G A s.heap H locs (va_up w11 a (some (.inr (1, [.null, .int 0, .ref q11, .null, .int 0, .int 0])))) := hH
  obtain ⟨w13, ew13⟩ : ∃ z, z = va_up w11 a (some (.inr (1, [.null, .int 0, .ref q11, .null, .int 0, .int 0]))) := ⟨_, rfl⟩
  rw [← ew13] at hH
  have hc_a : w13 a = some (.inr (1, [.null, .int 0, .ref q11, .null, .int 0, .int 0])) := by rw [ew13]; exact if_pos rfl
  have hc_q11 : w13 q11 = some (.inl (G.2 0, 4, .inl (fun _ => 0))) := by rw [ew13, show va_up w11 a _ q11 = w11 q11 from if_neg ne_q11_a]; exact hc_q11
  have hfr : ∀ x, x ≠ a → x ≠ q11 → w13 x = w x := fun x z_a z_q11 => by rw [ew13]; exact (if_neg z_a).trans (hfr x z_a z_q11)
  refine lv_aload_n hx hb dX0_init_16 rfl (lv_at hl 0 rfl) ?_
  refine lv_bipush (v := 60) hx hb dX0_init_17 (by decide) ?_
  refine Y_newI hx hb hK hH (hts (.arrayClass .int) (by decide +kernel)) 60 rfl (by decide) (Nat.le_of_ble_eq_true rfl) (Nat.le_of_ble_eq_true rfl) dX0_init_19 (fun q19 H hq19 hH => ?_)
  have ne_a_q19 : a ≠ q19 := fun e9 => by rw [e9, hq19] at hc_a; cases hc_a
  have ne_q19_a : q19 ≠ a := fun e9 => ne_a_q19 e9.symm
  have ne_q11_q19 : q11 ≠ q19 := fun e9 => by rw [e9, hq19] at hc_q11; cases hc_q11
  have ne_q19_q11 : q19 ≠ q11 := fun e9 => ne_q11_q19 e9.symm
  obtain ⟨w19, ew19⟩ : ∃ z, z = va_up w13 q19 (some (.inl (G.2 0, 60, .inl (fun _ => 0)))) := ⟨_, rfl⟩
  have hH : xH G A s.heap H _ (va_up w13 q19 (some (.inl (G.2 0, 60, .inl (fun _ => 0))))) := hH
  rw [← ew19] at hH
  have hc_q19 : w19 q19 = some (.inl (G.2 0, 60, .inl (fun _ => 0))) := by rw [ew19]; exact if_pos rfl
  have hc_a : w19 a = some (.inr (1, [.null, .int 0, .ref q11, .null, .int 0, .int 0])) := by rw [ew19]; exact (if_neg ne_a_q19).trans hc_a
  have hc_q11 : w19 q11 = some (.inl (G.2 0, 4, .inl (fun _ => 0))) := by rw [ew19]; exact (if_neg ne_q11_q19).trans hc_q11
  have hn_q19 : w q19 = none := (hfr q19 ne_q19_a ne_q19_q11).symm.trans hq19
  have hfr : ∀ x, x ≠ a → x ≠ q11 → x ≠ q19 → w19 x = w x := fun x z_a z_q11 z_q19 => by rw [ew19]; exact (if_neg z_q19).trans (hfr x z_a z_q11)
  refine x_putF (C := RX0) (T := TX0) (N := 6) (ty := .array .int) hx hb hts hiX0 tyX0 tyX0_ok nmX0 hown hK hH hc_a rfl 3 (by decide) hf19 (fun _ h => h) rfl hmn rfl (by decide +kernel) rfl rfl (Nat.le_of_ble_eq_true rfl) dX0_init_21 (fun H locs hH => ?_)
  have hH : xH G A s.heap H locs (va_up w19 a (some (.inr (1, [.null, .int 0, .ref q11, .ref q19, .int 0, .int 0])))) := hH
  obtain ⟨w21, ew21⟩ : ∃ z, z = va_up w19 a (some (.inr (1, [.null, .int 0, .ref q11, .ref q19, .int 0, .int 0]))) := ⟨_, rfl⟩
  rw [← ew21] at hH
  have hc_a : w21 a = some (.inr (1, [.null, .int 0, .ref q11, .ref q19, .int 0, .int 0])) := by rw [ew21]; exact if_pos rfl
  have hc_q11 : w21 q11 = some (.inl (G.2 0, 4, .inl (fun _ => 0))) := by rw [ew21, show va_up w19 a _ q11 = w19 q11 from if_neg ne_q11_a]; exact hc_q11
  have hc_q19 : w21 q19 = some (.inl (G.2 0, 60, .inl (fun _ => 0))) := by rw [ew21, show va_up w19 a _ q19 = w19 q19 from if_neg ne_q19_a]; exact hc_q19
  have hfr : ∀ x, x ≠ a → x ≠ q11 → x ≠ q19 → w21 x = w x := fun x z_a z_q11 z_q19 => by rw [ew21]; exact (if_neg z_a).trans (hfr x z_a z_q11 z_q19)
  refine lv_aload_n hx hb dX0_init_24 rfl (lv_at hl 0 rfl) ?_
  refine lv_iconst (v := 0) hx hb dX0_init_25 (by decide) ?_
  refine x_put (C := RX0) (T := TX0) (N := 6) (ty := .boolean) hx hb hts hiX0 tyX0 tyX0_ok nmX0 hown hK hH hc_a rfl 4 (by decide) hf22 (fun _ h => h) rfl (by decide +kernel) rfl rfl (Nat.le_of_ble_eq_true rfl) dX0_init_26 (fun H locs hH => ?_)
  have hH : xH G A s.heap H locs (va_up w21 a (some (.inr (1, [.null, .int 0, .ref q11, .ref q19, .int 0, .int 0])))) := hH
  obtain ⟨w26, ew26⟩ : ∃ z, z = va_up w21 a (some (.inr (1, [.null, .int 0, .ref q11, .ref q19, .int 0, .int 0]))) := ⟨_, rfl⟩
  rw [← ew26] at hH
  have hc_a : w26 a = some (.inr (1, [.null, .int 0, .ref q11, .ref q19, .int 0, .int 0])) := by rw [ew26]; exact if_pos rfl
  have hc_q11 : w26 q11 = some (.inl (G.2 0, 4, .inl (fun _ => 0))) := by rw [ew26, show va_up w21 a _ q11 = w21 q11 from if_neg ne_q11_a]; exact hc_q11
  have hc_q19 : w26 q19 = some (.inl (G.2 0, 60, .inl (fun _ => 0))) := by rw [ew26, show va_up w21 a _ q19 = w21 q19 from if_neg ne_q19_a]; exact hc_q19
  have hfr : ∀ x, x ≠ a → x ≠ q11 → x ≠ q19 → w26 x = w x := fun x z_a z_q11 z_q19 => by rw [ew26]; exact (if_neg z_a).trans (hfr x z_a z_q11 z_q19)
  refine lv_aload_n hx hb dX0_init_29 rfl (lv_at hl 0 rfl) ?_
  refine lv_iconst (v := 0) hx hb dX0_init_30 (by decide) ?_
  refine x_put (C := RX0) (T := TX0) (N := 6) (ty := .boolean) hx hb hts hiX0 tyX0 tyX0_ok nmX0 hown hK hH hc_a rfl 5 (by decide) hf26 (fun _ h => h) rfl (by decide +kernel) rfl rfl (Nat.le_of_ble_eq_true rfl) dX0_init_31 (fun H locs hH => ?_)
  have hH : xH G A s.heap H locs (va_up w26 a (some (.inr (1, [.null, .int 0, .ref q11, .ref q19, .int 0, .int 0])))) := hH
  obtain ⟨w31, ew31⟩ : ∃ z, z = va_up w26 a (some (.inr (1, [.null, .int 0, .ref q11, .ref q19, .int 0, .int 0]))) := ⟨_, rfl⟩
  rw [← ew31] at hH
  have hc_a : w31 a = some (.inr (1, [.null, .int 0, .ref q11, .ref q19, .int 0, .int 0])) := by rw [ew31]; exact if_pos rfl
  have hc_q11 : w31 q11 = some (.inl (G.2 0, 4, .inl (fun _ => 0))) := by rw [ew31, show va_up w26 a _ q11 = w26 q11 from if_neg ne_q11_a]; exact hc_q11
  have hc_q19 : w31 q19 = some (.inl (G.2 0, 60, .inl (fun _ => 0))) := by rw [ew31, show va_up w26 a _ q19 = w26 q19 from if_neg ne_q19_a]; exact hc_q19
  have hfr : ∀ x, x ≠ a → x ≠ q11 → x ≠ q19 → w31 x = w x := fun x z_a z_q11 z_q19 => by rw [ew31]; exact (if_neg z_a).trans (hfr x z_a z_q11 z_q19)
  refine lv_aload_n hx hb dX0_init_34 rfl (lv_at hl 0 rfl) ?_
  refine lv_aload_n hx hb dX0_init_35 rfl (lv_at hl 1 rfl) ?_
  refine x_putF (C := RX0) (T := TX0) (N := 6) (ty := .object "ResinWoods$Wood") hx hb hts hiX0 tyX0 tyX0_ok nmX0 hown hK hH hc_a rfl 0 (by decide) hf29 (fun _ h => h) rfl hmn rfl (by decide +kernel) rfl rfl (Nat.le_of_ble_eq_true rfl) dX0_init_36 (fun H locs hH => ?_)
  have hH : xH G A s.heap H locs (va_up w31 a (some (.inr (1, [.ref wd, .int 0, .ref q11, .ref q19, .int 0, .int 0])))) := hH
  obtain ⟨w36, ew36⟩ : ∃ z, z = va_up w31 a (some (.inr (1, [.ref wd, .int 0, .ref q11, .ref q19, .int 0, .int 0]))) := ⟨_, rfl⟩
  rw [← ew36] at hH
  have hc_a : w36 a = some (.inr (1, [.ref wd, .int 0, .ref q11, .ref q19, .int 0, .int 0])) := by rw [ew36]; exact if_pos rfl
  have hc_q11 : w36 q11 = some (.inl (G.2 0, 4, .inl (fun _ => 0))) := by rw [ew36, show va_up w31 a _ q11 = w31 q11 from if_neg ne_q11_a]; exact hc_q11
  have hc_q19 : w36 q19 = some (.inl (G.2 0, 60, .inl (fun _ => 0))) := by rw [ew36, show va_up w31 a _ q19 = w31 q19 from if_neg ne_q19_a]; exact hc_q19
  have hfr : ∀ x, x ≠ a → x ≠ q11 → x ≠ q19 → w36 x = w x := fun x z_a z_q11 z_q19 => by rw [ew36]; exact (if_neg z_a).trans (hfr x z_a z_q11 z_q19)
  refine W.widen (k := 2) (n := 64) (Nat.le_of_ble_eq_true rfl) (Nat.le_of_ble_eq_true rfl) ?_
  exact x_vret w36 hx hb hr hlocks hK hH (⟨q11, q19, hn_q11, hn_q19, ne_q11_q19, hc_a, hc_q11, hc_q19, hfr⟩) dX0_init_39

set_option maxHeartbeats 4000000 in
set_option maxRecDepth 100000 in
theorem c_X4_init (l : Launch) (G : XG) (A : Nat → Prop) (w : XW) (a : Nat)  (hc_a : w a = some (.inr (5, [.int 0, .null, .int 0, .int 0, .null, .int 0, .int 0]))) (wd : Nat) (nr wh bo : Int32) : Met l yX4_init wsX4_init ({ frames := 4, cells := 1, slots := 3, locals := 84 }) (va_Pc [.ref a, .int nr, .ref wd, .int wh, .int bo] (xP G A (w))) (va_Qv (fun (u : XW) => ∃ fl, w fl = none ∧ u a = some (.inr (5, [.int nr, .ref wd, .int wh, .int bo, .ref fl, .int 0, .int 0])) ∧ u fl = some (.inr (0, [.int 0, .ref (G.2 12), .int 0])) ∧ ∀ y, y ≠ a → y ≠ fl → u y = w y) (fun u t => xB G A (u) t) A) 1 3 A := by
  refine Met.ofW (cc := cX4_init) (maxL := 5) (ret := none) (by decide) rfl ?_
  intro p e s m args below meth c s₁ B hml hv
  obtain ⟨rfl, hK, hH, hTt⟩ := hv
  have hx := B.exec
  have hb := B.bytes
  have hr := B.returns
  have hts := atoms_spec (ws := wsX4_init) B.pre
  have hown : s.vm.findClass RX4 = some m.cls := findClass_of_methodNamed B.named
  have hlocks := B.notSynchronized
  have hiJx4a65c : ∀ w ∈ wsJx4a65c0, w ∈ wsX4_init := by decide +kernel
  have hiX4 : ∀ w ∈ wsX40, w ∈ wsX4_init := by decide +kernel
  have hf12 := hts (.fieldLink RX4 12 "ResinWoods$Tree" "faces" "Ljava/util/List;") (by decide +kernel)
  have hf18 := hts (.fieldLink RX4 18 "ResinWoods$Tree" "isBurnt" "Z") (by decide +kernel)
  have hf22 := hts (.fieldLink RX4 22 "ResinWoods$Tree" "yearsCut" "I") (by decide +kernel)
  have hf26 := hts (.fieldLink RX4 26 "ResinWoods$Tree" "number" "I") (by decide +kernel)
  have hf29 := hts (.fieldLink RX4 29 "ResinWoods$Tree" "wood" "LResinWoods$Wood;") (by decide +kernel)
  have hf33 := hts (.fieldLink RX4 33 "ResinWoods$Tree" "where" "I") (by decide +kernel)
  have hf36 := hts (.fieldLink RX4 36 "ResinWoods$Tree" "borne" "I") (by decide +kernel)
  have hl := lv_entry ([.ref a, .int nr, .ref wd, .int wh, .int bo]) (n := 5) (Nat.le_of_ble_eq_true rfl)
  rw [lg_entry_eq]
  generalize (lg_sl ([.ref a, .int nr, .ref wd, .int wh, .int bo]) ++ List.replicate (5 - (lg_sl ([.ref a, .int nr, .ref wd, .int wh, .int bo])).length) Slot.unset).toArray = ls at hl ⊢
  have hl : lv_has ls 5 [(0, .ref a), (1, .int nr), (2, .ref wd), (3, .int wh), (4, .int bo)] := hl
  have hmn : meth.name = "<init>" := (name_of_methodNamed B.named B.method).1
  refine lv_aload_n hx hb dX4_init_0 rfl (lv_at hl 0 rfl) ?_
  refine W.objInit hx hb hown (hts (.methodLink RX4 3 objectInit) (by decide +kernel)) (hts (.instanceMethod objectInit) (by decide +kernel)) (hts (.code objectInit ⟨#[0xb1]⟩ 1 none) (by decide +kernel)) rfl (by rw [hml]; exact hl.1) rfl dX4_init_1 (Nat.le_of_ble_eq_true rfl) (Nat.le_of_ble_eq_true rfl) ?_
  refine W.eq (g2 := F0 m 4 ls []) rfl ?_
  refine lv_aload_n hx hb dX4_init_4 rfl (lv_at hl 0 rfl) ?_
  refine x_new (C := RJx4a65c) (T := TJx4a65c) (N := 3) (ci := 0) (fs := [.int 0, .null, .int 0]) hx hb hts hiJx4a65c tyJx4a65c tyJx4a65c_ok hown (hts (.classLink RX4 9 RJx4a65c) (by decide +kernel)) (hts (.instantiable RJx4a65c 3) (by decide +kernel)) (hts (.initialized RJx4a65c) (by decide +kernel)) hK hH rfl (by decide +kernel) (Nat.le_of_ble_eq_true rfl) (Nat.le_of_ble_eq_true rfl) dX4_init_5 (fun q5 H hq5 hH => ?_)
  have ne_a_q5 : a ≠ q5 := fun e9 => by rw [e9, hq5] at hc_a; cases hc_a
  have ne_q5_a : q5 ≠ a := fun e9 => ne_a_q5 e9.symm
  obtain ⟨w5, ew5⟩ : ∃ z, z = va_up w q5 (some (.inr (0, [.int 0, .null, .int 0]))) := ⟨_, rfl⟩
  have hH : xH G A s.heap H _ (va_up w q5 (some (.inr (0, [.int 0, .null, .int 0])))) := hH
  rw [← ew5] at hH
  have hc_q5 : w5 q5 = some (.inr (0, [.int 0, .null, .int 0])) := by rw [ew5]; exact if_pos rfl
  have hc_a : w5 a = some (.inr (5, [.int 0, .null, .int 0, .int 0, .null, .int 0, .int 0])) := by rw [ew5]; exact (if_neg ne_a_q5).trans hc_a
  have hn_q5 : w q5 = none := hq5
  have hfr : ∀ x, x ≠ a → x ≠ q5 → w5 x = w x := fun x z_a z_q5 => by rw [ew5]; exact if_neg z_q5
  refine lv_dup hx hb dX4_init_8 rfl ?_
  refine x_callv (va_runI (As := []) (rest := [.ref q5, .ref a]) ⟨hx, hb, hml, hown, hts⟩ (c_Jx4a65c_init_da8c8 l G A _ q5 0 0 (.null) hc_q5) (cwI 0 hts gX4_init_Jx4a65c_init_da8c8 rfl rfl rfl (hts (.initialized RJx4a65c) (by decide +kernel)) (hts (.methodLink RX4 11 yJx4a65c_init_da8c8) (by decide +kernel)) (hts (.instanceMethod yJx4a65c_init_da8c8) (by decide +kernel)) rfl (by decide +kernel) ⟨Nat.le_of_ble_eq_true rfl, Nat.le_of_ble_eq_true rfl⟩) (x_preS hK hH hTt [.ref q5]) rfl rfl hl.1 rfl (lv_room (Nat.le_of_ble_eq_true rfl)) dX4_init_9 ⟨Nat.le_of_ble_eq_true rfl, Nat.le_of_ble_eq_true rfl⟩) hH (fun w9 H locs hp hH => ?_)
  obtain ⟨hc_q5, hfm9⟩ := hp
  have hc_a : w9 a = some (.inr (5, [.int 0, .null, .int 0, .int 0, .null, .int 0, .int 0])) := (hfm9 a ne_a_q5).trans hc_a
  have hfr : ∀ x, x ≠ a → x ≠ q5 → w9 x = w x := fun x z_a z_q5 => (hfm9 x z_q5).trans (hfr x z_a z_q5)
  refine x_putF (C := RX4) (T := TX4) (N := 7) (ty := .object "java/util/List") hx hb hts hiX4 tyX4 tyX4_ok nmX4 hown hK hH hc_a rfl 4 (by decide) hf12 (fun _ h => h) rfl hmn rfl (by decide +kernel) rfl rfl (Nat.le_of_ble_eq_true rfl) dX4_init_12 (fun H locs hH => ?_)
  have hH : xH G A s.heap H locs (va_up w9 a (some (.inr (5, [.int 0, .null, .int 0, .int 0, .ref q5, .int 0, .int 0])))) := hH
  obtain ⟨w12, ew12⟩ : ∃ z, z = va_up w9 a (some (.inr (5, [.int 0, .null, .int 0, .int 0, .ref q5, .int 0, .int 0]))) := ⟨_, rfl⟩
  rw [← ew12] at hH
  have hc_a : w12 a = some (.inr (5, [.int 0, .null, .int 0, .int 0, .ref q5, .int 0, .int 0])) := by rw [ew12]; exact if_pos rfl
  have hc_q5 : w12 q5 = some (.inr (0, [.int 0, .ref (G.2 12), .int 0])) := by rw [ew12, show va_up w9 a _ q5 = w9 q5 from if_neg ne_q5_a]; exact hc_q5
  have hfr : ∀ x, x ≠ a → x ≠ q5 → w12 x = w x := fun x z_a z_q5 => by rw [ew12]; exact (if_neg z_a).trans (hfr x z_a z_q5)
  refine lv_aload_n hx hb dX4_init_15 rfl (lv_at hl 0 rfl) ?_
  refine lv_iconst (v := 0) hx hb dX4_init_16 (by decide) ?_
  refine x_put (C := RX4) (T := TX4) (N := 7) (ty := .boolean) hx hb hts hiX4 tyX4 tyX4_ok nmX4 hown hK hH hc_a rfl 5 (by decide) hf18 (fun _ h => h) rfl (by decide +kernel) rfl rfl (Nat.le_of_ble_eq_true rfl) dX4_init_17 (fun H locs hH => ?_)
  have hH : xH G A s.heap H locs (va_up w12 a (some (.inr (5, [.int 0, .null, .int 0, .int 0, .ref q5, .int 0, .int 0])))) := hH
  obtain ⟨w17, ew17⟩ : ∃ z, z = va_up w12 a (some (.inr (5, [.int 0, .null, .int 0, .int 0, .ref q5, .int 0, .int 0]))) := ⟨_, rfl⟩
  rw [← ew17] at hH
  have hc_a : w17 a = some (.inr (5, [.int 0, .null, .int 0, .int 0, .ref q5, .int 0, .int 0])) := by rw [ew17]; exact if_pos rfl
  have hc_q5 : w17 q5 = some (.inr (0, [.int 0, .ref (G.2 12), .int 0])) := by rw [ew17, show va_up w12 a _ q5 = w12 q5 from if_neg ne_q5_a]; exact hc_q5
  have hfr : ∀ x, x ≠ a → x ≠ q5 → w17 x = w x := fun x z_a z_q5 => by rw [ew17]; exact (if_neg z_a).trans (hfr x z_a z_q5)
  refine lv_aload_n hx hb dX4_init_20 rfl (lv_at hl 0 rfl) ?_
  refine lv_iconst (v := 0) hx hb dX4_init_21 (by decide) ?_
  refine x_put (C := RX4) (T := TX4) (N := 7) (ty := .int) hx hb hts hiX4 tyX4 tyX4_ok nmX4 hown hK hH hc_a rfl 6 (by decide) hf22 (fun _ h => h) rfl (by decide +kernel) rfl rfl (Nat.le_of_ble_eq_true rfl) dX4_init_22 (fun H locs hH => ?_)
  have hH : xH G A s.heap H locs (va_up w17 a (some (.inr (5, [.int 0, .null, .int 0, .int 0, .ref q5, .int 0, .int 0])))) := hH
  obtain ⟨w22, ew22⟩ : ∃ z, z = va_up w17 a (some (.inr (5, [.int 0, .null, .int 0, .int 0, .ref q5, .int 0, .int 0]))) := ⟨_, rfl⟩
  rw [← ew22] at hH
  have hc_a : w22 a = some (.inr (5, [.int 0, .null, .int 0, .int 0, .ref q5, .int 0, .int 0])) := by rw [ew22]; exact if_pos rfl
  have hc_q5 : w22 q5 = some (.inr (0, [.int 0, .ref (G.2 12), .int 0])) := by rw [ew22, show va_up w17 a _ q5 = w17 q5 from if_neg ne_q5_a]; exact hc_q5
  have hfr : ∀ x, x ≠ a → x ≠ q5 → w22 x = w x := fun x z_a z_q5 => by rw [ew22]; exact (if_neg z_a).trans (hfr x z_a z_q5)
  refine lv_aload_n hx hb dX4_init_25 rfl (lv_at hl 0 rfl) ?_
  refine lv_iload_n hx hb dX4_init_26 rfl (lv_at hl 1 rfl) ?_
  refine x_putF (C := RX4) (T := TX4) (N := 7) (ty := .int) hx hb hts hiX4 tyX4 tyX4_ok nmX4 hown hK hH hc_a rfl 0 (by decide) hf26 (fun _ h => h) rfl hmn rfl (by decide +kernel) rfl rfl (Nat.le_of_ble_eq_true rfl) dX4_init_27 (fun H locs hH => ?_)
  have hH : xH G A s.heap H locs (va_up w22 a (some (.inr (5, [.int nr, .null, .int 0, .int 0, .ref q5, .int 0, .int 0])))) := hH
  obtain ⟨w27, ew27⟩ : ∃ z, z = va_up w22 a (some (.inr (5, [.int nr, .null, .int 0, .int 0, .ref q5, .int 0, .int 0]))) := ⟨_, rfl⟩
  rw [← ew27] at hH
  have hc_a : w27 a = some (.inr (5, [.int nr, .null, .int 0, .int 0, .ref q5, .int 0, .int 0])) := by rw [ew27]; exact if_pos rfl
  have hc_q5 : w27 q5 = some (.inr (0, [.int 0, .ref (G.2 12), .int 0])) := by rw [ew27, show va_up w22 a _ q5 = w22 q5 from if_neg ne_q5_a]; exact hc_q5
  have hfr : ∀ x, x ≠ a → x ≠ q5 → w27 x = w x := fun x z_a z_q5 => by rw [ew27]; exact (if_neg z_a).trans (hfr x z_a z_q5)
  refine lv_aload_n hx hb dX4_init_30 rfl (lv_at hl 0 rfl) ?_
  refine lv_aload_n hx hb dX4_init_31 rfl (lv_at hl 2 rfl) ?_
  refine x_putF (C := RX4) (T := TX4) (N := 7) (ty := .object "ResinWoods$Wood") hx hb hts hiX4 tyX4 tyX4_ok nmX4 hown hK hH hc_a rfl 1 (by decide) hf29 (fun _ h => h) rfl hmn rfl (by decide +kernel) rfl rfl (Nat.le_of_ble_eq_true rfl) dX4_init_32 (fun H locs hH => ?_)
  have hH : xH G A s.heap H locs (va_up w27 a (some (.inr (5, [.int nr, .ref wd, .int 0, .int 0, .ref q5, .int 0, .int 0])))) := hH
  obtain ⟨w32, ew32⟩ : ∃ z, z = va_up w27 a (some (.inr (5, [.int nr, .ref wd, .int 0, .int 0, .ref q5, .int 0, .int 0]))) := ⟨_, rfl⟩
  rw [← ew32] at hH
  have hc_a : w32 a = some (.inr (5, [.int nr, .ref wd, .int 0, .int 0, .ref q5, .int 0, .int 0])) := by rw [ew32]; exact if_pos rfl
  have hc_q5 : w32 q5 = some (.inr (0, [.int 0, .ref (G.2 12), .int 0])) := by rw [ew32, show va_up w27 a _ q5 = w27 q5 from if_neg ne_q5_a]; exact hc_q5
  have hfr : ∀ x, x ≠ a → x ≠ q5 → w32 x = w x := fun x z_a z_q5 => by rw [ew32]; exact (if_neg z_a).trans (hfr x z_a z_q5)
  refine lv_aload_n hx hb dX4_init_35 rfl (lv_at hl 0 rfl) ?_
  refine lv_iload_n hx hb dX4_init_36 rfl (lv_at hl 3 rfl) ?_
  refine x_putF (C := RX4) (T := TX4) (N := 7) (ty := .int) hx hb hts hiX4 tyX4 tyX4_ok nmX4 hown hK hH hc_a rfl 2 (by decide) hf33 (fun _ h => h) rfl hmn rfl (by decide +kernel) rfl rfl (Nat.le_of_ble_eq_true rfl) dX4_init_37 (fun H locs hH => ?_)
  have hH : xH G A s.heap H locs (va_up w32 a (some (.inr (5, [.int nr, .ref wd, .int wh, .int 0, .ref q5, .int 0, .int 0])))) := hH
  obtain ⟨w37, ew37⟩ : ∃ z, z = va_up w32 a (some (.inr (5, [.int nr, .ref wd, .int wh, .int 0, .ref q5, .int 0, .int 0]))) := ⟨_, rfl⟩
  rw [← ew37] at hH
  have hc_a : w37 a = some (.inr (5, [.int nr, .ref wd, .int wh, .int 0, .ref q5, .int 0, .int 0])) := by rw [ew37]; exact if_pos rfl
  have hc_q5 : w37 q5 = some (.inr (0, [.int 0, .ref (G.2 12), .int 0])) := by rw [ew37, show va_up w32 a _ q5 = w32 q5 from if_neg ne_q5_a]; exact hc_q5
  have hfr : ∀ x, x ≠ a → x ≠ q5 → w37 x = w x := fun x z_a z_q5 => by rw [ew37]; exact (if_neg z_a).trans (hfr x z_a z_q5)
  refine lv_aload_n hx hb dX4_init_40 rfl (lv_at hl 0 rfl) ?_
  refine lv_iload hx hb dX4_init_41 (lv_at hl 4 rfl) ?_
  refine x_putF (C := RX4) (T := TX4) (N := 7) (ty := .int) hx hb hts hiX4 tyX4 tyX4_ok nmX4 hown hK hH hc_a rfl 3 (by decide) hf36 (fun _ h => h) rfl hmn rfl (by decide +kernel) rfl rfl (Nat.le_of_ble_eq_true rfl) dX4_init_43 (fun H locs hH => ?_)
  have hH : xH G A s.heap H locs (va_up w37 a (some (.inr (5, [.int nr, .ref wd, .int wh, .int bo, .ref q5, .int 0, .int 0])))) := hH
  obtain ⟨w43, ew43⟩ : ∃ z, z = va_up w37 a (some (.inr (5, [.int nr, .ref wd, .int wh, .int bo, .ref q5, .int 0, .int 0]))) := ⟨_, rfl⟩
  rw [← ew43] at hH
  have hc_a : w43 a = some (.inr (5, [.int nr, .ref wd, .int wh, .int bo, .ref q5, .int 0, .int 0])) := by rw [ew43]; exact if_pos rfl
  have hc_q5 : w43 q5 = some (.inr (0, [.int 0, .ref (G.2 12), .int 0])) := by rw [ew43, show va_up w37 a _ q5 = w37 q5 from if_neg ne_q5_a]; exact hc_q5
  have hfr : ∀ x, x ≠ a → x ≠ q5 → w43 x = w x := fun x z_a z_q5 => by rw [ew43]; exact (if_neg z_a).trans (hfr x z_a z_q5)
  refine W.widen (k := 1) (n := 3) (Nat.le_of_ble_eq_true rfl) (Nat.le_of_ble_eq_true rfl) ?_
  exact x_vret w43 hx hb hr hlocks hK hH (⟨q5, hn_q5, hc_a, hc_q5, hfr⟩) dX4_init_46
