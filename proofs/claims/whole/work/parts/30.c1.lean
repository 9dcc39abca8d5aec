
/-! THE CLASS'S LEAVES, cell by cell -/
section YR
variable {p : Program} {l : Launch} {e : Env} {R : Room} {s : State} {m : MethodId} {args : Array Value} {below : List Frame} {meth : Method} {c : Code} {H : Heap} {locs : List Loc} {cells slots : Nat} {Q : State → Prop}
variable {cc : ByteArray} {pc : Nat} {ls : Array Slot} {rest : List Value} {G : XG} {A : Nat → Prop} {a : Nat} {w : XW} {H0 : Heap}
theorem Y_iald (hexec : p.tables.exec = Jvm.exec) (hb : c.code = cc) (hK : xK G s) (hH : xH G A H0 H locs w) {n : Nat} {f : Nat → Int32} (ha : w a = some (.inl (G.2 0, n, .inl f))) {i : Int32} (j : Nat) (hi : i = nI j) (hj : j < n) (hn : n < 2 ^ 31) (hdg : decode cc pc = .ok (.iaload, 1))
    (kk : W p l e R s m args below meth c H locs cells slots Q (F0 m (pc + 1) ls (.int (f j) :: rest))) : W p l e R s m args below meth c H locs cells slots Q (F0 m pc ls (.int i :: .ref a :: rest)) := by
  refine x_iald hexec hb hK hH ha (vI_in hi hj hn) hdg ?_
  rw [hi, nI_clamp (by omega)]
  exact kk
theorem Y_iast (hexec : p.tables.exec = Jvm.exec) (hb : c.code = cc) (hK : xK G s) (hH : xH G A H0 H locs w) {n : Nat} {f : Nat → Int32} (ha : w a = some (.inl (G.2 0, n, .inl f))) {i x : Int32} (j : Nat) (hi : i = nI j) (hj : j < n) (hn : n < 2 ^ 31) (hdg : decode cc pc = .ok (.iastore, 1))
    (kk : ∀ (H1 : Heap) (locs1 : List Loc), xH G A H0 H1 locs1 (va_up w a (some (.inl (G.2 0, n, .inl (upd f j x))))) → W p l e R s m args below meth c H1 locs1 cells slots Q (F0 m (pc + 1) ls rest)) : W p l e R s m args below meth c H locs cells slots Q (F0 m pc ls (.int x :: .int i :: .ref a :: rest)) := by
  refine x_iast hexec hb hK hH ha (vI_in hi hj hn) hdg (fun H1 locs1 h => kk H1 locs1 ?_)
  rw [hi, nI_clamp (by omega)] at h
  exact h
end YR
def strC (s : Int32) : Int32 := if s < 0 then 0 else if s < 10 then strV (ix s) else 0
def minI (x y : Int32) : Int32 := if y < x then y else x
def maxI (x y : Int32) : Int32 := if x < y then y else x
def gradC (oy d : Int32) : Int32 := maxI 0 (minI (d / 365 - oy) 3)

set_option maxHeartbeats 4000000 in
set_option maxRecDepth 100000 in
theorem c_X6_yearOf (l : Launch) (G : XG) (A : Nat → Prop) (w : XW) (d : Int32) : Met l yX6_yearOf wsX6_yearOf ({ frames := 0, cells := 0, slots := 0, locals := 0 }) (va_Pc [.int d] (xP G A (w))) (va_Qi (fun (r : Int32) (u : Unit) => r = d / 365) (fun u t => xB G A (w) t) A) 0 0 A := by
  refine Met.ofW (cc := cX6_yearOf) (maxL := 1) (ret := (some .int)) (by decide) rfl ?_
  intro p e s m args below meth c s₁ B hml hv
  obtain ⟨rfl, hK, hH, hTt⟩ := hv
  have hx := B.exec
  have hb := B.bytes
  have hr := B.returns
  have hts := atoms_spec (ws := wsX6_yearOf) B.pre
  have hown : s.vm.findClass RX6 = some m.cls := findClass_of_methodNamed B.named
  have hlocks := B.notSynchronized
  have hl := lv_entry ([.int d]) (n := 1) (Nat.le_of_ble_eq_true rfl)
  rw [lg_entry_eq]
  generalize (lg_sl ([.int d]) ++ List.replicate (1 - (lg_sl ([.int d])).length) Slot.unset).toArray = ls at hl ⊢
  have hl : lv_has ls 1 [(0, .int d)] := hl
  refine lv_iload_n hx hb dX6_yearOf_0 rfl (lv_at hl 0 rfl) ?_
  refine lv_sipush (v := 365) hx hb dX6_yearOf_1 (by decide) ?_
  refine lv_idiv hx hb dX6_yearOf_4 (by decide) ?_
  exact x_iret (v := d / 365) () hx hb hr hlocks hK hH (rfl) dX6_yearOf_5

set_option maxHeartbeats 4000000 in
set_option maxRecDepth 100000 in
theorem c_X1_mayBeCutOn (l : Launch) (G : XG) (A : Nat → Prop) (w : XW) (a : Nat) (ga : Nat) (st la oy has ro : Int32) (hc_a : w a = some (.inr (2, [.int st, .int la, .int oy, .int has, .int ro, .ref ga]))) (d : Int32) : Met l yX1_mayBeCutOn wsX1_mayBeCutOn ({ frames := 0, cells := 0, slots := 0, locals := 0 }) (va_Pc [.ref a, .int d] (xP G A (w))) (va_Qi (fun (r : Int32) (u : XW) => r = (if 40 ≤ st then 0 else if d - la < 5 then 0 else 1) ∧ u = w) (fun u t => xB G A (u) t) A) 0 0 A := by
  refine Met.ofW (cc := cX1_mayBeCutOn) (maxL := 2) (ret := (some .boolean)) (by decide) rfl ?_
  intro p e s m args below meth c s₁ B hml hv
  obtain ⟨rfl, hK, hH, hTt⟩ := hv
  have hx := B.exec
  have hb := B.bytes
  have hr := B.returns
  have hts := atoms_spec (ws := wsX1_mayBeCutOn) B.pre
  have hown : s.vm.findClass RX1 = some m.cls := findClass_of_methodNamed B.named
  have hlocks := B.notSynchronized
  have hiX1 : ∀ w ∈ wsX10, w ∈ wsX1_mayBeCutOn := by decide +kernel
  have hf9 := hts (.fieldLink RX1 9 "ResinWoods$Face" "streaks" "I") (by decide +kernel)
  have hf15 := hts (.fieldLink RX1 15 "ResinWoods$Face" "latest" "I") (by decide +kernel)
  have hl := lv_entry ([.ref a, .int d]) (n := 2) (Nat.le_of_ble_eq_true rfl)
  rw [lg_entry_eq]
  generalize (lg_sl ([.ref a, .int d]) ++ List.replicate (2 - (lg_sl ([.ref a, .int d])).length) Slot.unset).toArray = ls at hl ⊢
  have hl : lv_has ls 2 [(0, .ref a), (1, .int d)] := hl
  refine lv_aload_n hx hb dX1_mayBeCutOn_0 rfl (lv_at hl 0 rfl) ?_
  refine x_get (C := RX1) (T := TX1) (N := 6) hx hb hts hiX1 hown hK hH hc_a rfl 0 (by decide) hf9 (fun _ h => h) (v := .int st) rfl dX1_mayBeCutOn_1 ?_
  refine lv_bipush (v := 40) hx hb dX1_mayBeCutOn_4 (by decide) ?_
  refine lv_icmp_ge (tgt := 23) hx hb dX1_mayBeCutOn_6 (by decide) (fun c6 => ?_) (fun c6 => ?_)
  · refine lv_iconst (v := 0) hx hb dX1_mayBeCutOn_23 (by decide) ?_
    exact x_zret (v := 0) w hx hb hr hlocks (by decide) hK hH (⟨by simp [*], rfl⟩) dX1_mayBeCutOn_24
  · refine lv_iload_n hx hb dX1_mayBeCutOn_9 rfl (lv_at hl 1 rfl) ?_
    refine lv_aload_n hx hb dX1_mayBeCutOn_10 rfl (lv_at hl 0 rfl) ?_
    refine x_get (C := RX1) (T := TX1) (N := 6) hx hb hts hiX1 hown hK hH hc_a rfl 1 (by decide) hf15 (fun _ h => h) (v := .int la) rfl dX1_mayBeCutOn_11 ?_
    refine lv_isub hx hb dX1_mayBeCutOn_14 ?_
    refine lv_iconst (v := 5) hx hb dX1_mayBeCutOn_15 (by decide) ?_
    refine lv_icmp_lt (tgt := 23) hx hb dX1_mayBeCutOn_16 (by decide) (fun c16 => ?_) (fun c16 => ?_)
    · refine lv_iconst (v := 0) hx hb dX1_mayBeCutOn_23 (by decide) ?_
      exact x_zret (v := 0) w hx hb hr hlocks (by decide) hK hH (⟨by simp [*], rfl⟩) dX1_mayBeCutOn_24
    · refine lv_iconst (v := 1) hx hb dX1_mayBeCutOn_19 (by decide) ?_
      refine lv_goto (tgt := 24) hx hb dX1_mayBeCutOn_20 (by decide) ?_
      exact x_zret (v := 1) w hx hb hr hlocks (by decide) hK hH (⟨by simp [*], rfl⟩) dX1_mayBeCutOn_24

set_option maxHeartbeats 4000000 in
set_option maxRecDepth 100000 in
theorem c_X1_strengthOn (l : Launch) (G : XG) (A : Nat → Prop) (w : XW) (a : Nat) (ga : Nat) (st la oy has ro : Int32) (hc_a : w a = some (.inr (2, [.int st, .int la, .int oy, .int has, .int ro, .ref ga]))) (d : Int32) : Met l yX1_strengthOn wsX1_strengthOn ({ frames := 0, cells := 0, slots := 0, locals := 0 }) (va_Pc [.ref a, .int d] (xP G A (w))) (va_Qi (fun (r : Int32) (u : XW) => r = strC (d - la) ∧ u = w) (fun u t => xB G A (u) t) A) 0 0 A := by
  refine Met.ofW (cc := cX1_strengthOn) (maxL := 3) (ret := (some .int)) (by decide) rfl ?_
  intro p e s m args below meth c s₁ B hml hv
  obtain ⟨rfl, hK, hH, hTt⟩ := hv
  have hx := B.exec
  have hb := B.bytes
  have hr := B.returns
  have hts := atoms_spec (ws := wsX1_strengthOn) B.pre
  have hown : s.vm.findClass RX1 = some m.cls := findClass_of_methodNamed B.named
  have hlocks := B.notSynchronized
  have hiX1 : ∀ w ∈ wsX10, w ∈ wsX1_strengthOn := by decide +kernel
  have hf15 := hts (.fieldLink RX1 15 "ResinWoods$Face" "latest" "I") (by decide +kernel)
  have hl := lv_entry ([.ref a, .int d]) (n := 3) (Nat.le_of_ble_eq_true rfl)
  rw [lg_entry_eq]
  generalize (lg_sl ([.ref a, .int d]) ++ List.replicate (3 - (lg_sl ([.ref a, .int d])).length) Slot.unset).toArray = ls at hl ⊢
  have hl : lv_has ls 3 [(0, .ref a), (1, .int d)] := hl
  refine lv_iload_n hx hb dX1_strengthOn_0 rfl (lv_at hl 1 rfl) ?_
  refine lv_aload_n hx hb dX1_strengthOn_1 rfl (lv_at hl 0 rfl) ?_
  refine x_get (C := RX1) (T := TX1) (N := 6) hx hb hts hiX1 hown hK hH hc_a rfl 1 (by decide) hf15 (fun _ h => h) (v := .int la) rfl dX1_strengthOn_2 ?_
  refine lv_isub hx hb dX1_strengthOn_5 ?_
  refine lv_topi (fun v6 ev6 => ?_)
  refine lv_istore_n (lv' := [(2, .int v6), (0, .ref a), (1, .int d)]) hx hb dX1_strengthOn_6 rfl hl (by decide) rfl (fun ls hl => ?_)
  refine lv_iload_n hx hb dX1_strengthOn_7 rfl (lv_at hl 0 rfl) ?_
  refine lv_if_lt (tgt := 19) hx hb dX1_strengthOn_8 (by decide) (fun c8 => ?_) (fun c8 => ?_)
  · refine lv_iconst (v := 0) hx hb dX1_strengthOn_19 (by decide) ?_
    refine lv_goto (tgt := 28) hx hb dX1_strengthOn_20 (by decide) ?_
    exact x_iret (v := 0) w hx hb hr hlocks hK hH (⟨by first | (rw [ev6] at c8; unfold strC; rw [if_pos c8]; done) | (rw [ev6] at c8 c16; unfold strC; rw [if_neg c8]; first | (rw [if_neg c16]; done) | (rw [if_pos c16, ← ev6, hj2, ix_n hj1])), rfl⟩) dX1_strengthOn_28
  · obtain ⟨j, hj1, hj2⟩ := nI_of c8
    refine lv_iload_n hx hb dX1_strengthOn_11 rfl (lv_at hl 0 rfl) ?_
    refine va_getsN (C := "ResinWoods") (n := "STRENGTH") (d := "[I") (host := RX6) hx hb hTt.1.1 hH.2.1 hown (va_Nw.use rfl hTt.2.1.1) (fun _ h => h) dX1_strengthOn_12 ?_
    refine va_tlen (v := 10) hx hb hTt.1.2.1 hH.2.1 rfl dX1_strengthOn_15 ?_
    refine lv_icmp_lt (tgt := 23) hx hb dX1_strengthOn_16 (by decide) (fun c16 => ?_) (fun c16 => ?_)
    · have hj3 : j < 10 := by rw [hj2] at c16; exact (nI_ltI (b := 10) hj1 (by decide)).mp c16
      refine va_getsN (C := "ResinWoods") (n := "STRENGTH") (d := "[I") (host := RX6) hx hb hTt.1.1 hH.2.1 hown (va_Nw.use rfl hTt.2.1.1) (fun _ h => h) dX1_strengthOn_23 ?_
      refine lv_iload_n hx hb dX1_strengthOn_26 rfl (lv_at hl 0 rfl) ?_
      refine va_ti (v := .int (strV j)) hx hb hTt.1.2.1 hH.2.1 (vI_in hj2 hj3 (by decide)) (by rw [hj2, nI_clamp (by omega)]) dX1_strengthOn_27 ?_
      exact x_iret (v := strV j) w hx hb hr hlocks hK hH (⟨by first | (rw [ev6] at c8; unfold strC; rw [if_pos c8]; done) | (rw [ev6] at c8 c16; unfold strC; rw [if_neg c8]; first | (rw [if_neg c16]; done) | (rw [if_pos c16, ← ev6, hj2, ix_n hj1])), rfl⟩) dX1_strengthOn_28
    · refine lv_iconst (v := 0) hx hb dX1_strengthOn_19 (by decide) ?_
      refine lv_goto (tgt := 28) hx hb dX1_strengthOn_20 (by decide) ?_
      exact x_iret (v := 0) w hx hb hr hlocks hK hH (⟨by first | (rw [ev6] at c8; unfold strC; rw [if_pos c8]; done) | (rw [ev6] at c8 c16; unfold strC; rw [if_neg c8]; first | (rw [if_neg c16]; done) | (rw [if_pos c16, ← ev6, hj2, ix_n hj1])), rfl⟩) dX1_strengthOn_28

set_option maxHeartbeats 4000000 in
set_option maxRecDepth 100000 in
theorem c_X1_gradeOn (l : Launch) (G : XG) (A : Nat → Prop) (w : XW) (a : Nat) (ga : Nat) (st la oy has ro : Int32) (hc_a : w a = some (.inr (2, [.int st, .int la, .int oy, .int has, .int ro, .ref ga]))) (d : Int32) : Met l yX1_gradeOn wsX1_gradeOn ({ frames := 1, cells := 0, slots := 0, locals := 21 }) (va_Pc [.ref a, .int d] (xP G A (w))) (va_Qi (fun (r : Int32) (u : XW) => r = gradC oy d ∧ u = w) (fun u t => xB G A (u) t) A) 0 0 A := by
  refine Met.ofW (cc := cX1_gradeOn) (maxL := 2) (ret := (some .int)) (by decide) rfl ?_
  intro p e s m args below meth c s₁ B hml hv
  obtain ⟨rfl, hK, hH, hTt⟩ := hv
  have hx := B.exec
  have hb := B.bytes
  have hr := B.returns
  have hts := atoms_spec (ws := wsX1_gradeOn) B.pre
  have hown : s.vm.findClass RX1 = some m.cls := findClass_of_methodNamed B.named
  have hlocks := B.notSynchronized
  have hiX1 : ∀ w ∈ wsX10, w ∈ wsX1_gradeOn := by decide +kernel
  have hf18 := hts (.fieldLink RX1 18 "ResinWoods$Face" "openedIn" "I") (by decide +kernel)
  have hl := lv_entry ([.ref a, .int d]) (n := 2) (Nat.le_of_ble_eq_true rfl)
  rw [lg_entry_eq]
  generalize (lg_sl ([.ref a, .int d]) ++ List.replicate (2 - (lg_sl ([.ref a, .int d])).length) Slot.unset).toArray = ls at hl ⊢
  have hl : lv_has ls 2 [(0, .ref a), (1, .int d)] := hl
  refine lv_iconst (v := 0) hx hb dX1_gradeOn_0 (by decide) ?_
  refine lv_iload_n hx hb dX1_gradeOn_1 rfl (lv_at hl 1 rfl) ?_
  refine x_calli (va_runSN (As := [.int d]) (rest := [.int 0]) ⟨hx, hb, hml, hown, hts⟩ (c_X6_yearOf l G A (w) d) ⟨va_cnB (host := RX6) 1 hts ggX1_gradeOn_X6_yearOf rfl rfl rfl hTt.2.1.2.2.2.2.2.1 (hts (.initialized RX6) (by decide +kernel)) (by decide +kernel) ⟨Nat.le_of_ble_eq_true rfl, Nat.le_of_ble_eq_true rfl⟩, hts (.static yX6_yearOf) (by decide +kernel), trivial⟩ (x_preS hK hH hTt [.int d]) rfl rfl hl.1 rfl (lv_room (Nat.le_of_ble_eq_true rfl)) dX1_gradeOn_2 ⟨Nat.le_of_ble_eq_true rfl, Nat.le_of_ble_eq_true rfl⟩) hH (fun r2 u H locs hp hH => ?_)
  subst hp
  refine lv_aload_n hx hb dX1_gradeOn_5 rfl (lv_at hl 0 rfl) ?_
  refine x_get (C := RX1) (T := TX1) (N := 6) hx hb hts hiX1 hown hK hH hc_a rfl 2 (by decide) hf18 (fun _ h => h) (v := .int oy) rfl dX1_gradeOn_6 ?_
  refine lv_isub hx hb dX1_gradeOn_9 ?_
  refine lv_iconst (v := 3) hx hb dX1_gradeOn_10 (by decide) ?_
  refine va_mmin hx hb (by rw [hml]; exact hl.1.symm) hown (hts (.methodLink RX1 60 Lib.Math.min.name) (by decide +kernel)) (hts (.static Lib.Math.min.name) (by decide +kernel)) (hts (.initialized "java/lang/Math") (by decide +kernel)) (hts (.code Lib.Math.min.name Lib.Math.min.code 2 (some .int)) (by decide +kernel)) (Nat.le_of_ble_eq_true rfl) (Nat.le_of_ble_eq_true rfl) (Nat.le_of_ble_eq_true rfl) (Nat.le_of_ble_eq_true rfl) dX1_gradeOn_11 ?_
  refine va_mmax hx hb (by rw [hml]; exact hl.1.symm) hown (hts (.methodLink RX1 65 Lib.Math.max.name) (by decide +kernel)) (hts (.static Lib.Math.max.name) (by decide +kernel)) (hts (.initialized "java/lang/Math") (by decide +kernel)) (hts (.code Lib.Math.max.name Lib.Math.max.code 2 (some .int)) (by decide +kernel)) (Nat.le_of_ble_eq_true rfl) (Nat.le_of_ble_eq_true rfl) (Nat.le_of_ble_eq_true rfl) (Nat.le_of_ble_eq_true rfl) dX1_gradeOn_14 ?_
  exact x_iret (v := if 0 < if 3 < (d / 365) - oy then 3 else (d / 365) - oy then if 3 < (d / 365) - oy then 3 else (d / 365) - oy else 0) w hx hb hr hlocks hK hH (⟨rfl, rfl⟩) dX1_gradeOn_17

set_option maxHeartbeats 4000000 in
set_option maxRecDepth 100000 in
theorem c_X1_catchInCup (l : Launch) (G : XG) (A : Nat → Prop) (w : XW) (a ga : Nat) (st la oy has ro : Int32) (f : Nat → Int32) (hc_a : w a = some (.inr (2, [.int st, .int la, .int oy, .int has, .int ro, .ref ga]))) (hc_ga : w ga = some (.inl (G.2 0, 4, .inl f))) (flow : Int32) (g : Nat) (hg : g < 4) : Met l yX1_catchInCup wsX1_catchInCup ({ frames := 1, cells := 0, slots := 0, locals := 21 }) (va_Pc [.ref a, .int flow, .int (nI g)] (xP G A (w))) (va_Qi (fun (r : Int32) (u : XW) => r = flow - (minI flow (400 - has)) ∧ u a = some (.inr (2, [.int st, .int la, .int oy, .int (has + (minI flow (400 - has))), .int (ro + (flow - (minI flow (400 - has)))), .ref ga])) ∧ u ga = some (.inl (G.2 0, 4, .inl (upd f g (f g + (minI flow (400 - has)))))) ∧ ∀ y, y ≠ a → y ≠ ga → u y = w y) (fun u t => xB G A (u) t) A) 0 0 A := by
  refine Met.ofW (cc := cX1_catchInCup) (maxL := 4) (ret := (some .int)) (by decide) rfl ?_
  intro p e s m args below meth c s₁ B hml hv
  obtain ⟨rfl, hK, hH, hTt⟩ := hv
  have hx := B.exec
  have hb := B.bytes
  have hr := B.returns
  have hts := atoms_spec (ws := wsX1_catchInCup) B.pre
  have hown : s.vm.findClass RX1 = some m.cls := findClass_of_methodNamed B.named
  have hlocks := B.notSynchronized
  have hiX1 : ∀ w ∈ wsX10, w ∈ wsX1_catchInCup := by decide +kernel
  have hf21 := hts (.fieldLink RX1 21 "ResinWoods$Face" "has" "I") (by decide +kernel)
  have hf24 := hts (.fieldLink RX1 24 "ResinWoods$Face" "ranOver" "I") (by decide +kernel)
  have hf27 := hts (.fieldLink RX1 27 "ResinWoods$Face" "ofGrade" "[I") (by decide +kernel)
  have hl := lv_entry ([.ref a, .int flow, .int (nI g)]) (n := 4) (Nat.le_of_ble_eq_true rfl)
  rw [lg_entry_eq]
  generalize (lg_sl ([.ref a, .int flow, .int (nI g)]) ++ List.replicate (4 - (lg_sl ([.ref a, .int flow, .int (nI g)])).length) Slot.unset).toArray = ls at hl ⊢
  have hl : lv_has ls 4 [(0, .ref a), (1, .int flow), (2, .int (nI g))] := hl
  have ne_a_ga : a ≠ ga := fun e9 => by rw [e9, hc_ga] at hc_a; cases hc_a
  have ne_ga_a : ga ≠ a := fun e9 => by rw [e9, hc_a] at hc_ga; cases hc_ga
  refine lv_iload_n hx hb dX1_catchInCup_0 rfl (lv_at hl 1 rfl) ?_
  refine lv_sipush (v := 400) hx hb dX1_catchInCup_1 (by decide) ?_
  refine lv_aload_n hx hb dX1_catchInCup_4 rfl (lv_at hl 0 rfl) ?_
  refine x_get (C := RX1) (T := TX1) (N := 6) hx hb hts hiX1 hown hK hH hc_a rfl 3 (by decide) hf21 (fun _ h => h) (v := .int has) rfl dX1_catchInCup_5 ?_
  refine lv_isub hx hb dX1_catchInCup_8 ?_
  refine va_mmin hx hb (by rw [hml]; exact hl.1.symm) hown (hts (.methodLink RX1 60 Lib.Math.min.name) (by decide +kernel)) (hts (.static Lib.Math.min.name) (by decide +kernel)) (hts (.initialized "java/lang/Math") (by decide +kernel)) (hts (.code Lib.Math.min.name Lib.Math.min.code 2 (some .int)) (by decide +kernel)) (Nat.le_of_ble_eq_true rfl) (Nat.le_of_ble_eq_true rfl) (Nat.le_of_ble_eq_true rfl) (Nat.le_of_ble_eq_true rfl) dX1_catchInCup_9 ?_
  refine lv_topi (fun v12 ev12 => ?_)
  refine lv_istore_n (lv' := [(3, .int v12), (0, .ref a), (1, .int flow), (2, .int (nI g))]) hx hb dX1_catchInCup_12 rfl hl (by decide) rfl (fun ls hl => ?_)
  refine lv_aload_n hx hb dX1_catchInCup_13 rfl (lv_at hl 1 rfl) ?_
  refine x_get (C := RX1) (T := TX1) (N := 6) hx hb hts hiX1 hown hK hH hc_a rfl 5 (by decide) hf27 (fun _ h => h) (v := .ref ga) rfl dX1_catchInCup_14 ?_
  refine lv_iload_n hx hb dX1_catchInCup_17 rfl (lv_at hl 3 rfl) ?_
  refine lv_dup2_11 hx hb dX1_catchInCup_18 rfl rfl ?_
  refine Y_iald hx hb hK hH hc_ga g rfl (by omega) (by decide) dX1_catchInCup_19 ?_
  refine lv_iload_n hx hb dX1_catchInCup_20 rfl (lv_at hl 0 rfl) ?_
  refine lv_iadd hx hb dX1_catchInCup_21 ?_
  refine Y_iast hx hb hK hH hc_ga g rfl (by omega) (by decide) dX1_catchInCup_22 (fun H locs hH => ?_)
  have hH : xH G A s.heap H locs (va_up w ga (some (.inl (G.2 0, 4, .inl (upd f g ((f g) + v12)))))) := hH
  obtain ⟨w22, ew22⟩ : ∃ z, z = va_up w ga (some (.inl (G.2 0, 4, .inl (upd f g ((f g) + v12))))) := ⟨_, rfl⟩
  rw [← ew22] at hH
  have hc_a : w22 a = some (.inr (2, [.int st, .int la, .int oy, .int has, .int ro, .ref ga])) := by rw [ew22, show va_up w ga _ a = w a from if_neg ne_a_ga]; exact hc_a
  have hc_ga : w22 ga = some (.inl (G.2 0, 4, .inl (upd f g ((f g) + v12)))) := by rw [ew22]; exact if_pos rfl
  have hfr : ∀ x, x ≠ a → x ≠ ga → w22 x = w x := fun x z_a z_ga => by rw [ew22]; exact if_neg z_ga
  refine lv_aload_n hx hb dX1_catchInCup_23 rfl (lv_at hl 1 rfl) ?_
  refine lv_dup hx hb dX1_catchInCup_24 rfl ?_
  refine x_get (C := RX1) (T := TX1) (N := 6) hx hb hts hiX1 hown hK hH hc_a rfl 3 (by decide) hf21 (fun _ h => h) (v := .int has) rfl dX1_catchInCup_25 ?_
  refine lv_iload_n hx hb dX1_catchInCup_28 rfl (lv_at hl 0 rfl) ?_
  refine lv_iadd hx hb dX1_catchInCup_29 ?_
  refine x_put (C := RX1) (T := TX1) (N := 6) (ty := .int) hx hb hts hiX1 tyX1 tyX1_ok nmX1 hown hK hH hc_a rfl 3 (by decide) hf21 (fun _ h => h) rfl (by decide +kernel) rfl rfl (Nat.le_of_ble_eq_true rfl) dX1_catchInCup_30 (fun H locs hH => ?_)
  have hH : xH G A s.heap H locs (va_up w22 a (some (.inr (2, [.int st, .int la, .int oy, .int (has + v12), .int ro, .ref ga])))) := hH
  obtain ⟨w30, ew30⟩ : ∃ z, z = va_up w22 a (some (.inr (2, [.int st, .int la, .int oy, .int (has + v12), .int ro, .ref ga]))) := ⟨_, rfl⟩
  rw [← ew30] at hH
  have hc_a : w30 a = some (.inr (2, [.int st, .int la, .int oy, .int (has + v12), .int ro, .ref ga])) := by rw [ew30]; exact if_pos rfl
  have hc_ga : w30 ga = some (.inl (G.2 0, 4, .inl (upd f g ((f g) + v12)))) := by rw [ew30, show va_up w22 a _ ga = w22 ga from if_neg ne_ga_a]; exact hc_ga
  have hfr : ∀ x, x ≠ a → x ≠ ga → w30 x = w x := fun x z_a z_ga => by rw [ew30]; exact (if_neg z_a).trans (hfr x z_a z_ga)
  refine lv_aload_n hx hb dX1_catchInCup_33 rfl (lv_at hl 1 rfl) ?_
  refine lv_dup hx hb dX1_catchInCup_34 rfl ?_
  refine x_get (C := RX1) (T := TX1) (N := 6) hx hb hts hiX1 hown hK hH hc_a rfl 4 (by decide) hf24 (fun _ h => h) (v := .int ro) rfl dX1_catchInCup_35 ?_
  refine lv_iload_n hx hb dX1_catchInCup_38 rfl (lv_at hl 2 rfl) ?_
  refine lv_iload_n hx hb dX1_catchInCup_39 rfl (lv_at hl 0 rfl) ?_
  refine lv_isub hx hb dX1_catchInCup_40 ?_
  refine lv_iadd hx hb dX1_catchInCup_41 ?_
  refine x_put (C := RX1) (T := TX1) (N := 6) (ty := .int) hx hb hts hiX1 tyX1 tyX1_ok nmX1 hown hK hH hc_a rfl 4 (by decide) hf24 (fun _ h => h) rfl (by decide +kernel) rfl rfl (Nat.le_of_ble_eq_true rfl) dX1_catchInCup_42 (fun H locs hH => ?_)
  have hH : xH G A s.heap H locs (va_up w30 a (some (.inr (2, [.int st, .int la, .int oy, .int (has + v12), .int (ro + (flow - v12)), .ref ga])))) := hH
  obtain ⟨w42, ew42⟩ : ∃ z, z = va_up w30 a (some (.inr (2, [.int st, .int la, .int oy, .int (has + v12), .int (ro + (flow - v12)), .ref ga]))) := ⟨_, rfl⟩
  rw [← ew42] at hH
  have hc_a : w42 a = some (.inr (2, [.int st, .int la, .int oy, .int (has + v12), .int (ro + (flow - v12)), .ref ga])) := by rw [ew42]; exact if_pos rfl
  have hc_ga : w42 ga = some (.inl (G.2 0, 4, .inl (upd f g ((f g) + v12)))) := by rw [ew42, show va_up w30 a _ ga = w30 ga from if_neg ne_ga_a]; exact hc_ga
  have hfr : ∀ x, x ≠ a → x ≠ ga → w42 x = w x := fun x z_a z_ga => by rw [ew42]; exact (if_neg z_a).trans (hfr x z_a z_ga)
  refine lv_iload_n hx hb dX1_catchInCup_45 rfl (lv_at hl 2 rfl) ?_
  refine lv_iload_n hx hb dX1_catchInCup_46 rfl (lv_at hl 0 rfl) ?_
  refine lv_isub hx hb dX1_catchInCup_47 ?_
  exact x_iret (v := flow - v12) w42 hx hb hr hlocks hK hH (by have e9 : v12 = (minI flow (400 - has)) := ev12; subst e9; exact ⟨rfl, hc_a, hc_ga, hfr⟩) dX1_catchInCup_48
