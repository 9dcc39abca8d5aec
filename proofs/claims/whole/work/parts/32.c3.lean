
/-! REFERENCES: rows of references, answers that are cells, calls through an interface -/
section QR
variable {p : Program} {l : Launch} {e : Env} {R : Room} {s : State} {m : MethodId} {args : Array Value} {below : List Frame} {meth : Method} {c : Code} {H : Heap} {locs : List Loc} {cells slots : Nat} {Q : State → Prop}
variable {cc : ByteArray} {pc : Nat} {ls : Array Slot} {rest : List Value} {G : XG} {A : Nat → Prop} {a : Nat} {w : XW} {H0 : Heap}
theorem x_aldr (hexec : p.tables.exec = Jvm.exec) (hb : c.code = cc) {z : Nat} {C : String} (hK : xK G s) (hH : xH G A H0 H locs w) (hz : (xt G)[z]? = some (G.2 z, .object C)) {n : Nat} {f : Nat → Option Nat} (ha : w a = some (.inl (G.2 z, n, .inr (.inr (.inr (.inr f)))))) {i : Int32} (j : Nat) (hi : i = nI j) (hj : j < n) (hn : n < 2 ^ 31) {q : Nat} (hq : f j = some q) (hdg : decode cc pc = .ok (.aaload, 1))
    (kk : W p l e R s m args below meth c H locs cells slots Q (F0 m (pc + 1) ls (.ref q :: rest))) : W p l e R s m args below meth c H locs cells slots Q (F0 m pc ls (.int i :: .ref a :: rest)) := by
  obtain ⟨hA, hS, ws, hP, hD, hm⟩ := hH
  obtain ⟨q0, hq0⟩ := (hm _ _).mpr ha
  refine va_aldq hexec hb hK hP q0 z hq0 hz (vI_in hi hj hn) hdg ?_
  rw [hi, nI_clamp (by omega), hq]
  exact kk
theorem x_aret {S : Type} {post : Option Nat → S → Prop} {f : S → XW} {r : Option Nat} {rt : FieldType} (u : S) (hexec : p.tables.exec = Jvm.exec) (hb : c.code = cc) (hr : meth.sig.returnType = some rt) (hlocks : meth.locks = false) (hrt : (∃ n, rt = .object n) ∨ ∃ t, rt = .array t) (hK : xK G s) (hH : xH G A s.heap H locs (f u)) (hp : post r u) (hdg : decode cc pc = .ok (.areturn, 1)) :
    W p l e R s m args below meth c H locs cells slots (MQ below (va_Qq post (fun u t => xB G A (f u) t) A) args s cells slots A) (F0 m pc ls [va_rf r]) :=
  W.aret hexec hb hr hrt (by cases r with | none => exact Or.inl rfl | some q => exact Or.inr ⟨q, rfl⟩) (fun t ht hW => ⟨⟨r, u, rfl, hp, va_K.moved hW.alike hK, by rw [ht]; exact hH.2.2⟩, hH.2.1.F ht⟩) hH.2.1.2.2 hdg
theorem x_callq {st0 : List Value} {av : Array Value} {mc ms : Nat} {S : Type} {post : Option Nat → S → Prop} {f : S → XW} (hr : va_Run p l e R s m args below meth c H locs cells slots mc ms (F0 m pc ls st0) rest (va_Qq post (fun u t => xB G A (f u) t) A av) A) (hH : xH G A H0 H locs w)
    (kk : ∀ (r : Option Nat) (u : S) (H1 : Heap) (locs1 : List Loc), post r u → xH G A H0 H1 locs1 (f u) → W p l e R s m args below meth c H1 locs1 (cells + mc) (slots + ms) Q (F0 m (pc + 3) ls (va_rf r :: rest))) : W p l e R s m args below meth c H locs cells slots Q (F0 m pc ls st0) :=
  va_callq hr hH.2.1 (fun _ _ h => h) (fun _ h => h) (fun r u t H1 locs1 ht _ hp hB _ _ hS => kk r u H1 locs1 hp ⟨hH.1, hS, ht ▸ hB.2⟩)
theorem x_callFi {st0 : List Value} {av : Array Value} {mc ms : Nat} {S : Type} {post : Int32 → S → Prop} {f : S → XW} (hr : va_Run5 p l e R s m args below meth c H locs cells slots mc ms (F0 m pc ls st0) rest (va_Qi post (fun u t => xB G A (f u) t) A av) A) (hH : xH G A H0 H locs w)
    (kk : ∀ (r : Int32) (u : S) (H1 : Heap) (locs1 : List Loc), post r u → xH G A H0 H1 locs1 (f u) → W p l e R s m args below meth c H1 locs1 (cells + mc) (slots + ms) Q (F0 m (pc + 5) ls (.int r :: rest))) : W p l e R s m args below meth c H locs cells slots Q (F0 m pc ls st0) :=
  va_callFi hr hH.2.1 (fun _ _ h => h) (fun _ h => h) (fun r u t H1 locs1 ht _ hp hB _ _ hS => kk r u H1 locs1 hp ⟨hH.1, hS, ht ▸ hB.2⟩)
theorem x_callFq {st0 : List Value} {av : Array Value} {mc ms : Nat} {S : Type} {post : Option Nat → S → Prop} {f : S → XW} (hr : va_Run5 p l e R s m args below meth c H locs cells slots mc ms (F0 m pc ls st0) rest (va_Qq post (fun u t => xB G A (f u) t) A av) A) (hH : xH G A H0 H locs w)
    (kk : ∀ (r : Option Nat) (u : S) (H1 : Heap) (locs1 : List Loc), post r u → xH G A H0 H1 locs1 (f u) → W p l e R s m args below meth c H1 locs1 (cells + mc) (slots + ms) Q (F0 m (pc + 5) ls (va_rf r :: rest))) : W p l e R s m args below meth c H locs cells slots Q (F0 m pc ls st0) :=
  va_callFq hr hH.2.1 (fun _ _ h => h) (fun _ h => h) (fun r u t H1 locs1 ht _ hp hB _ _ hS => kk r u H1 locs1 hp ⟨hH.1, hS, ht ▸ hB.2⟩)
end QR

set_option maxHeartbeats 4000000 in
set_option maxRecDepth 100000 in
theorem c_Jx4a65c_size_8abf5 (l : Launch) (G : XG) (A : Nat → Prop) (w : XW) (a : Nat) (ed : Nat) (mc sz : Int32) (hc_a : w a = some (.inr (0, [.int mc, .ref ed, .int sz])))  : Met l yJx4a65c_size_8abf5 wsJx4a65c_size_8abf5 ({ frames := 0, cells := 0, slots := 0, locals := 0 }) (va_Pc [.ref a] (xP G A (w))) (va_Qi (fun (r : Int32) (u : XW) => r = sz ∧ u = w) (fun u t => xB G A (u) t) A) 0 0 A := by
  refine Met.ofW (cc := cJx4a65c_size_8abf5) (maxL := 1) (ret := (some .int)) (by decide) rfl ?_
  intro p e s m args below meth c s₁ B hml hv
  obtain ⟨rfl, hK, hH, hTt⟩ := hv
  have hx := B.exec
  have hb := B.bytes
  have hr := B.returns
  have hts := atoms_spec (ws := wsJx4a65c_size_8abf5) B.pre
  have hown : s.vm.findClass RJx4a65c = some m.cls := findClass_of_methodNamed B.named
  have hlocks := B.notSynchronized
  have hiJx4a65c : ∀ w ∈ wsJx4a65c0, w ∈ wsJx4a65c_size_8abf5 := by decide +kernel
  have hf48 := hts (.fieldLink RJx4a65c 48 "java/util/ArrayList" "size" "I") (by decide +kernel)
  have hl := lv_entry ([.ref a]) (n := 1) (Nat.le_of_ble_eq_true rfl)
  rw [lg_entry_eq]
  generalize (lg_sl ([.ref a]) ++ List.replicate (1 - (lg_sl ([.ref a])).length) Slot.unset).toArray = ls at hl ⊢
  have hl : lv_has ls 1 [(0, .ref a)] := hl
  refine lv_aload_n hx hb dJx4a65c_size_8abf5_0 rfl (lv_at hl 0 rfl) ?_
  refine x_get (C := RJx4a65c) (T := TJx4a65c) (N := 3) hx hb hts hiJx4a65c hown hK hH hc_a rfl 2 (by decide) hf48 (fun _ h => h) (v := .int sz) rfl dJx4a65c_size_8abf5_1 ?_
  exact x_iret (v := sz) w hx hb hr hlocks hK hH (⟨rfl, rfl⟩) dJx4a65c_size_8abf5_4

set_option maxHeartbeats 4000000 in
set_option maxRecDepth 100000 in
theorem c_J3_checkIndex_8e157 (l : Launch) (G : XG) (A : Nat → Prop) (w : XW) (i n : Nat) (hin : i < n) (hn : n < 2 ^ 31) : Met l yJ3_checkIndex_8e157 wsJ3_checkIndex_8e157 ({ frames := 0, cells := 0, slots := 0, locals := 0 }) (va_Pc [.int (nI i), .int (nI n), .null] (xP G A (w))) (va_Qi (fun (r : Int32) (u : Unit) => r = nI i) (fun u t => xB G A (w) t) A) 0 0 A := by
  refine Met.ofW (cc := cJ3_checkIndex_8e157) (maxL := 3) (ret := (some .int)) (by decide) rfl ?_
  intro p e s m args below meth c s₁ B hml hv
  obtain ⟨rfl, hK, hH, hTt⟩ := hv
  have hx := B.exec
  have hb := B.bytes
  have hr := B.returns
  have hts := atoms_spec (ws := wsJ3_checkIndex_8e157) B.pre
  have hown : s.vm.findClass RJ3 = some m.cls := findClass_of_methodNamed B.named
  have hlocks := B.notSynchronized
  have hl := lv_entry ([.int (nI i), .int (nI n), .null]) (n := 3) (Nat.le_of_ble_eq_true rfl)
  rw [lg_entry_eq]
  generalize (lg_sl ([.int (nI i), .int (nI n), .null]) ++ List.replicate (3 - (lg_sl ([.int (nI i), .int (nI n), .null])).length) Slot.unset).toArray = ls at hl ⊢
  have hl : lv_has ls 3 [(0, .int (nI i)), (1, .int (nI n)), (2, .null)] := hl
  refine lv_iload_n hx hb dJ3_checkIndex_8e157_0 rfl (lv_at hl 0 rfl) ?_
  refine lv_if_lt (tgt := 9) hx hb dJ3_checkIndex_8e157_1 (by decide) (fun c1 => ?_) (fun c1 => ?_)
  · exact absurd c1 (nI_pos (by omega))
  · refine lv_iload_n hx hb dJ3_checkIndex_8e157_4 rfl (lv_at hl 0 rfl) ?_
    refine lv_iload_n hx hb dJ3_checkIndex_8e157_5 rfl (lv_at hl 1 rfl) ?_
    refine lv_icmp_lt (tgt := 16) hx hb dJ3_checkIndex_8e157_6 (by decide) (fun c6 => ?_) (fun c6 => ?_)
    · have c6 : i < n := (nI_ltI (a := i) (b := n) (by omega) (by omega)).mp c6
      refine lv_iload_n hx hb dJ3_checkIndex_8e157_16 rfl (lv_at hl 0 rfl) ?_
      exact x_iret (v := nI i) () hx hb hr hlocks hK hH (rfl) dJ3_checkIndex_8e157_17
    · have c6 : ¬ i < n := fun zz => c6 ((nI_ltI (a := i) (b := n) (by omega) (by omega)).mpr zz)
      exact absurd c6 (by omega)

set_option maxHeartbeats 4000000 in
set_option maxRecDepth 100000 in
theorem c_J15_checkIndex_7cf53 (l : Launch) (G : XG) (A : Nat → Prop) (w : XW) (i n : Nat) (hin : i < n) (hn : n < 2 ^ 31) : Met l yJ15_checkIndex_7cf53 wsJ15_checkIndex_7cf53 ({ frames := 1, cells := 0, slots := 0, locals := 22 }) (va_Pc [.int (nI i), .int (nI n)] (xP G A (w))) (va_Qi (fun (r : Int32) (u : Unit) => r = nI i) (fun u t => xB G A (w) t) A) 0 0 A := by
  refine Met.ofW (cc := cJ15_checkIndex_7cf53) (maxL := 2) (ret := (some .int)) (by decide) rfl ?_
  intro p e s m args below meth c s₁ B hml hv
  obtain ⟨rfl, hK, hH, hTt⟩ := hv
  have hx := B.exec
  have hb := B.bytes
  have hr := B.returns
  have hts := atoms_spec (ws := wsJ15_checkIndex_7cf53) B.pre
  have hown : s.vm.findClass RJ15 = some m.cls := findClass_of_methodNamed B.named
  have hlocks := B.notSynchronized
  have hl := lv_entry ([.int (nI i), .int (nI n)]) (n := 2) (Nat.le_of_ble_eq_true rfl)
  rw [lg_entry_eq]
  generalize (lg_sl ([.int (nI i), .int (nI n)]) ++ List.replicate (2 - (lg_sl ([.int (nI i), .int (nI n)])).length) Slot.unset).toArray = ls at hl ⊢
  have hl : lv_has ls 2 [(0, .int (nI i)), (1, .int (nI n))] := hl
  refine lv_iload_n hx hb dJ15_checkIndex_7cf53_0 rfl (lv_at hl 0 rfl) ?_
  refine lv_iload_n hx hb dJ15_checkIndex_7cf53_1 rfl (lv_at hl 1 rfl) ?_
  refine lv_null hx hb dJ15_checkIndex_7cf53_2 ?_
  refine x_calli (va_runS (As := [.int (nI i), .int (nI n), .null]) (rest := []) ⟨hx, hb, hml, hown, hts⟩ (c_J3_checkIndex_8e157 l G A (w) i n (by omega) (by omega)) (va_cwS 3 hts gJ15_checkIndex_7cf53_J3_checkIndex_8e157 rfl rfl rfl (by decide +kernel) ⟨Nat.le_of_ble_eq_true rfl, Nat.le_of_ble_eq_true rfl⟩) (x_preS hK hH hTt [.int (nI i), .int (nI n), .null]) rfl rfl hl.1 rfl (lv_room (Nat.le_of_ble_eq_true rfl)) dJ15_checkIndex_7cf53_3 ⟨Nat.le_of_ble_eq_true rfl, Nat.le_of_ble_eq_true rfl⟩) hH (fun r3 u H locs hp hH => ?_)
  subst hp
  exact x_iret (v := nI i) () hx hb hr hlocks hK hH (rfl) dJ15_checkIndex_7cf53_6

set_option maxHeartbeats 4000000 in
set_option maxRecDepth 100000 in
theorem c_Jx4a65c_elementData_915e3 (l : Launch) (G : XG) (A : Nat → Prop) (w : XW) (a ed : Nat) (mc sz : Int32) (cap : Nat) (fn : Nat → Option Nat) (hc_a : w a = some (.inr (0, [.int mc, .ref ed, .int sz]))) (hc_ed : w ed = some (.inl (G.2 4, cap, .inr (.inr (.inr (.inr fn)))))) (i q : Nat) (hi : i < cap) (hcap : cap < 2 ^ 31) (hq : fn i = some q) : Met l yJx4a65c_elementData_915e3 wsJx4a65c_elementData_915e3 ({ frames := 0, cells := 0, slots := 0, locals := 0 }) (va_Pc [.ref a, .int (nI i)] (xP G A (w))) (va_Qq (fun (r : Option Nat) (u : XW) => r = some q ∧ u = w) (fun u t => xB G A (u) t) A) 0 0 A := by
  refine Met.ofW (cc := cJx4a65c_elementData_915e3) (maxL := 2) (ret := (some (.object "java/lang/Object"))) (by decide) rfl ?_
  intro p e s m args below meth c s₁ B hml hv
  obtain ⟨rfl, hK, hH, hTt⟩ := hv
  have hx := B.exec
  have hb := B.bytes
  have hr := B.returns
  have hts := atoms_spec (ws := wsJx4a65c_elementData_915e3) B.pre
  have hown : s.vm.findClass RJx4a65c = some m.cls := findClass_of_methodNamed B.named
  have hlocks := B.notSynchronized
  have hiJx4a65c : ∀ w ∈ wsJx4a65c0, w ∈ wsJx4a65c_elementData_915e3 := by decide +kernel
  have hf9 := hts (.fieldLink RJx4a65c 9 "java/util/ArrayList" "elementData" "[Ljava/lang/Object;") (by decide +kernel)
  have hl := lv_entry ([.ref a, .int (nI i)]) (n := 2) (Nat.le_of_ble_eq_true rfl)
  rw [lg_entry_eq]
  generalize (lg_sl ([.ref a, .int (nI i)]) ++ List.replicate (2 - (lg_sl ([.ref a, .int (nI i)])).length) Slot.unset).toArray = ls at hl ⊢
  have hl : lv_has ls 2 [(0, .ref a), (1, .int (nI i))] := hl
  have ne_a_ed : a ≠ ed := fun e9 => by rw [e9, hc_ed] at hc_a; cases hc_a
  have ne_ed_a : ed ≠ a := fun e9 => by rw [e9, hc_a] at hc_ed; cases hc_ed
  refine lv_aload_n hx hb dJx4a65c_elementData_915e3_0 rfl (lv_at hl 0 rfl) ?_
  refine x_get (C := RJx4a65c) (T := TJx4a65c) (N := 3) hx hb hts hiJx4a65c hown hK hH hc_a rfl 1 (by decide) hf9 (fun _ h => h) (v := .ref ed) rfl dJx4a65c_elementData_915e3_1 ?_
  refine lv_iload_n hx hb dJx4a65c_elementData_915e3_4 rfl (lv_at hl 1 rfl) ?_
  refine x_aldr (z := 4) hx hb hK hH rfl hc_ed i rfl (by omega) hcap (hq) dJx4a65c_elementData_915e3_5 ?_
  exact x_aret (r := some q) w hx hb hr hlocks (Or.inl ⟨_, rfl⟩) hK hH (⟨rfl, rfl⟩) dJx4a65c_elementData_915e3_6

set_option maxHeartbeats 4000000 in
set_option maxRecDepth 100000 in
theorem c_Jx4a65c_get_915e3 (l : Launch) (G : XG) (A : Nat → Prop) (w : XW) (a ed : Nat) (mc : Int32) (n cap : Nat) (fn : Nat → Option Nat) (hc_a : w a = some (.inr (0, [.int mc, .ref ed, .int (nI n)]))) (hc_ed : w ed = some (.inl (G.2 4, cap, .inr (.inr (.inr (.inr fn)))))) (i q : Nat) (hin : i < n) (hi : i < cap) (hcap : cap < 2 ^ 31) (hn : n < 2 ^ 31) (hq : fn i = some q) : Met l yJx4a65c_get_915e3 wsJx4a65c_get_915e3 ({ frames := 2, cells := 0, slots := 0, locals := 43 }) (va_Pc [.ref a, .int (nI i)] (xP G A (w))) (va_Qq (fun (r : Option Nat) (u : XW) => r = some q ∧ u = w) (fun u t => xB G A (u) t) A) 0 0 A := by
  refine Met.ofW (cc := cJx4a65c_get_915e3) (maxL := 2) (ret := (some (.object "java/lang/Object"))) (by decide) rfl ?_
  intro p e s m args below meth c s₁ B hml hv
  obtain ⟨rfl, hK, hH, hTt⟩ := hv
  have hx := B.exec
  have hb := B.bytes
  have hr := B.returns
  have hts := atoms_spec (ws := wsJx4a65c_get_915e3) B.pre
  have hown : s.vm.findClass RJx4a65c = some m.cls := findClass_of_methodNamed B.named
  have hlocks := B.notSynchronized
  have hiJx4a65c : ∀ w ∈ wsJx4a65c0, w ∈ wsJx4a65c_get_915e3 := by decide +kernel
  have hf48 := hts (.fieldLink RJx4a65c 48 "java/util/ArrayList" "size" "I") (by decide +kernel)
  have hl := lv_entry ([.ref a, .int (nI i)]) (n := 2) (Nat.le_of_ble_eq_true rfl)
  rw [lg_entry_eq]
  generalize (lg_sl ([.ref a, .int (nI i)]) ++ List.replicate (2 - (lg_sl ([.ref a, .int (nI i)])).length) Slot.unset).toArray = ls at hl ⊢
  have hl : lv_has ls 2 [(0, .ref a), (1, .int (nI i))] := hl
  have ne_a_ed : a ≠ ed := fun e9 => by rw [e9, hc_ed] at hc_a; cases hc_a
  have ne_ed_a : ed ≠ a := fun e9 => by rw [e9, hc_a] at hc_ed; cases hc_ed
  refine lv_iload_n hx hb dJx4a65c_get_915e3_0 rfl (lv_at hl 1 rfl) ?_
  refine lv_aload_n hx hb dJx4a65c_get_915e3_1 rfl (lv_at hl 0 rfl) ?_
  refine x_get (C := RJx4a65c) (T := TJx4a65c) (N := 3) hx hb hts hiJx4a65c hown hK hH hc_a rfl 2 (by decide) hf48 (fun _ h => h) (v := .int (nI n)) rfl dJx4a65c_get_915e3_2 ?_
  refine x_calli (va_runS (As := [.int (nI i), .int (nI n)]) (rest := []) ⟨hx, hb, hml, hown, hts⟩ (c_J15_checkIndex_7cf53 l G A (w) i n (by omega) (by omega)) (va_cwS 2 hts gJx4a65c_get_915e3_J15_checkIndex_7cf53 rfl rfl rfl (by decide +kernel) ⟨Nat.le_of_ble_eq_true rfl, Nat.le_of_ble_eq_true rfl⟩) (x_preS hK hH hTt [.int (nI i), .int (nI n)]) rfl rfl hl.1 rfl (lv_room (Nat.le_of_ble_eq_true rfl)) dJx4a65c_get_915e3_5 ⟨Nat.le_of_ble_eq_true rfl, Nat.le_of_ble_eq_true rfl⟩) hH (fun r5 u H locs hp hH => ?_)
  subst hp
  refine lv_pop hx hb dJx4a65c_get_915e3_8 rfl ?_
  refine lv_aload_n hx hb dJx4a65c_get_915e3_9 rfl (lv_at hl 0 rfl) ?_
  refine lv_iload_n hx hb dJx4a65c_get_915e3_10 rfl (lv_at hl 1 rfl) ?_
  refine x_callq (va_runV (As := [.int (nI i)]) (rest := []) ⟨hx, hb, hml, hown, hts⟩ (c_Jx4a65c_elementData_915e3 l G A _ a ed mc (nI n) cap fn hc_a hc_ed i q hi hcap hq) (cwV 1 hts gJx4a65c_get_915e3_Jx4a65c_elementData_915e3 rfl rfl rfl (by decide +kernel) ⟨Nat.le_of_ble_eq_true rfl, Nat.le_of_ble_eq_true rfl⟩) (x_preV hK hH hTt (hc_a) rfl [.int (nI i)]) rfl rfl hl.1 rfl (lv_room (Nat.le_of_ble_eq_true rfl)) dJx4a65c_get_915e3_11 ⟨Nat.le_of_ble_eq_true rfl, Nat.le_of_ble_eq_true rfl⟩) hH (fun r11 u H locs hp hH => ?_)
  obtain ⟨rfl, hu9⟩ := hp
  rw [hu9] at hH
  exact x_aret (r := some q) w hx hb hr hlocks (Or.inl ⟨_, rfl⟩) hK hH (⟨rfl, rfl⟩) dJx4a65c_get_915e3_14

set_option maxHeartbeats 4000000 in
set_option maxRecDepth 100000 in
theorem c_X4_mayOpen (l : Launch) (G : XG) (A : Nat → Prop) (w : XW) (a fl : Nat) (wd ed : Nat) (nr wh bo bu yc mc : Int32) (n : Nat) (hc_a : w a = some (.inr (5, [.int nr, .ref wd, .int wh, .int bo, .ref fl, .int bu, .int yc]))) (hc_fl : w fl = some (.inr (0, [.int mc, .ref ed, .int (nI n)]))) (i : Int32) : Met l yX4_mayOpen wsX4_mayOpen ({ frames := 1, cells := 0, slots := 0, locals := 20 }) (va_Pc [.ref a, .int i] (xP G A (w))) (va_Qi (fun (r : Int32) (u : XW) => r = (if i = nI n then (if bo ≤ i then 0 else 1) else 0) ∧ u = w) (fun u t => xB G A (u) t) A) 0 0 A := by
  refine Met.ofW (cc := cX4_mayOpen) (maxL := 2) (ret := (some .boolean)) (by decide) rfl ?_
  intro p e s m args below meth c s₁ B hml hv
  obtain ⟨rfl, hK, hH, hTt⟩ := hv
  have hx := B.exec
  have hb := B.bytes
  have hr := B.returns
  have hts := atoms_spec (ws := wsX4_mayOpen) B.pre
  have hown : s.vm.findClass RX4 = some m.cls := findClass_of_methodNamed B.named
  have hlocks := B.notSynchronized
  have hiX4 : ∀ w ∈ wsX40, w ∈ wsX4_mayOpen := by decide +kernel
  have hf12 := hts (.fieldLink RX4 12 "ResinWoods$Tree" "faces" "Ljava/util/List;") (by decide +kernel)
  have hf36 := hts (.fieldLink RX4 36 "ResinWoods$Tree" "borne" "I") (by decide +kernel)
  have hl := lv_entry ([.ref a, .int i]) (n := 2) (Nat.le_of_ble_eq_true rfl)
  rw [lg_entry_eq]
  generalize (lg_sl ([.ref a, .int i]) ++ List.replicate (2 - (lg_sl ([.ref a, .int i])).length) Slot.unset).toArray = ls at hl ⊢
  have hl : lv_has ls 2 [(0, .ref a), (1, .int i)] := hl
  have ne_a_fl : a ≠ fl := fun e9 => by rw [e9, hc_fl] at hc_a; cases hc_a
  have ne_fl_a : fl ≠ a := fun e9 => by rw [e9, hc_a] at hc_fl; cases hc_fl
  refine lv_iload_n hx hb dX4_mayOpen_0 rfl (lv_at hl 1 rfl) ?_
  refine lv_aload_n hx hb dX4_mayOpen_1 rfl (lv_at hl 0 rfl) ?_
  refine x_get (C := RX4) (T := TX4) (N := 7) hx hb hts hiX4 hown hK hH hc_a rfl 4 (by decide) hf12 (fun _ h => h) (v := .ref fl) rfl dX4_mayOpen_2 ?_
  refine x_callFi (va_runF (As := []) (rest := [.int i]) (hK.1 0 _ rfl).2 ⟨hx, hb, hml, hown, hts⟩ (c_Jx4a65c_size_8abf5 l G A _ fl ed mc (nI n) hc_fl) (va_cwF 0 hts gX4_mayOpen_Jx4a65c_size_8abf5_f39Jx4a65c rfl rfl rfl hTt.2.2.1 (by decide +kernel) ⟨Nat.le_of_ble_eq_true rfl, Nat.le_of_ble_eq_true rfl⟩) (x_preV hK hH hTt hc_fl rfl []) rfl rfl hl.1 rfl (lv_room (Nat.le_of_ble_eq_true rfl)) dX4_mayOpen_5 ⟨Nat.le_of_ble_eq_true rfl, Nat.le_of_ble_eq_true rfl⟩) hH (fun r5 u H locs hp hH => ?_)
  obtain ⟨rfl, hu9⟩ := hp
  rw [hu9] at hH
  refine lv_icmp_ne (tgt := 25) hx hb dX4_mayOpen_10 (by decide) (fun c10 => ?_) (fun c10 => ?_)
  · refine lv_iconst (v := 0) hx hb dX4_mayOpen_25 (by decide) ?_
    exact x_zret (v := 0) w hx hb hr hlocks (by decide) hK hH (⟨by first | (rw [if_neg c10]; done) | (rw [if_pos c10]; first | (rw [if_pos c18]; done) | (rw [if_neg c18])), rfl⟩) dX4_mayOpen_26
  · refine lv_iload_n hx hb dX4_mayOpen_13 rfl (lv_at hl 1 rfl) ?_
    refine lv_aload_n hx hb dX4_mayOpen_14 rfl (lv_at hl 0 rfl) ?_
    refine x_get (C := RX4) (T := TX4) (N := 7) hx hb hts hiX4 hown hK hH hc_a rfl 3 (by decide) hf36 (fun _ h => h) (v := .int bo) rfl dX4_mayOpen_15 ?_
    refine lv_icmp_ge (tgt := 25) hx hb dX4_mayOpen_18 (by decide) (fun c18 => ?_) (fun c18 => ?_)
    · refine lv_iconst (v := 0) hx hb dX4_mayOpen_25 (by decide) ?_
      exact x_zret (v := 0) w hx hb hr hlocks (by decide) hK hH (⟨by first | (rw [if_neg c10]; done) | (rw [if_pos c10]; first | (rw [if_pos c18]; done) | (rw [if_neg c18])), rfl⟩) dX4_mayOpen_26
    · refine lv_iconst (v := 1) hx hb dX4_mayOpen_21 (by decide) ?_
      refine lv_goto (tgt := 26) hx hb dX4_mayOpen_22 (by decide) ?_
      exact x_zret (v := 1) w hx hb hr hlocks (by decide) hK hH (⟨by first | (rw [if_neg c10]; done) | (rw [if_pos c10]; first | (rw [if_pos c18]; done) | (rw [if_neg c18])), rfl⟩) dX4_mayOpen_26
