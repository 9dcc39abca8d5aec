
section CR
variable {p : Program} {l : Launch} {e : Env} {R : Room} {s : State} {m : MethodId} {args : Array Value} {below : List Frame} {meth : Method} {c : Code} {H : Heap} {locs : List Loc} {cells slots : Nat} {Q : State → Prop}
variable {cc : ByteArray} {pc : Nat} {ls : Array Slot} {rest : List Value} {G : XG} {A : Nat → Prop} {a : Nat} {w : XW} {H0 : Heap}
theorem x_cast (hexec : p.tables.exec = Jvm.exec) (hb : c.code = cc) (hK : xK G s) (hH : xH G A H0 H locs w) {own C : String} {T : u_T} {N ci index : Nat} {fs : List Value} (he : w a = some (.inr (ci, fs))) (hc : vwCl[ci]? = some (C, T, N)) (hown : s.vm.findClass own = some m.cls) (hlink : (Cond.classLink own index C).before args s = true) (hdg : decode cc pc = .ok (.checkcast index, 3))
    (kk : W p l e R s m args below meth c H locs cells slots Q (F0 m (pc + 3) ls (.ref a :: rest))) : W p l e R s m args below meth c H locs cells slots Q (F0 m pc ls (.ref a :: rest)) := by
  obtain ⟨hA, hS, ws, hP, hD, hm⟩ := hH
  obtain ⟨q0, hq⟩ := (hm _ _).mpr he
  exact va_castS hexec hb hown hlink (hK.1 ci _ hc).2 (va_recv hK hP hc hq) hdg kk
end CR
/-- what an At-method answers: the j-th, or none -/
def atR (i : Int32) (n : Nat) (fa : Nat → Nat) (r : Option Nat) : Prop := (∀ j, j < n → i = nI j → r = some (fa j)) ∧ ((∀ j, j < n → ¬ i = nI j) → r = none)
theorem atR_neg {i : Int32} {n : Nat} {fa : Nat → Nat} (h : i < 0) (hn : n < 2 ^ 31) : atR i n fa none := ⟨fun j hj e => by rw [e] at h; exact absurd h (nI_pos (by omega)), fun _ => rfl⟩
theorem atR_big {i : Int32} {n : Nat} {fa : Nat → Nat} (h : ¬ i < nI n) (hn : n < 2 ^ 31) : atR i n fa none := ⟨fun j hj e => by rw [e] at h; exact absurd (nI_lt hj hn) h, fun _ => rfl⟩
theorem atR_in {j n : Nat} {fa : Nat → Nat} (h : j < n) (hn : n < 2 ^ 31) : atR (nI j) n fa (some (fa j)) := ⟨fun k hk e => by rw [(nI_eq (by omega) (by omega)).mp e], fun z => absurd rfl (z j h)⟩

set_option maxHeartbeats 4000000 in
set_option maxRecDepth 100000 in
theorem c_X4_faceAt (l : Launch) (G : XG) (A : Nat → Prop) (w : XW) (a fl : Nat) (wd ed : Nat) (nr wh bo bu yc mc : Int32) (n cap : Nat) (fn : Nat → Option Nat) (hc_a : w a = some (.inr (5, [.int nr, .ref wd, .int wh, .int bo, .ref fl, .int bu, .int yc]))) (hc_fl : w fl = some (.inr (0, [.int mc, .ref ed, .int (nI n)]))) (i : Int32) (fa : Nat → Nat) (hEd : 0 < n → w ed = some (.inl (G.2 4, cap, .inr (.inr (.inr (.inr fn)))))) (hfn : ∀ j, j < n → fn j = some (fa j)) (hcap : cap < 2 ^ 31) (hnc : n ≤ cap) (hfam : ∀ j, j < n → ∃ fs, w (fa j) = some (.inr (2, fs))) : Met l yX4_faceAt wsX4_faceAt ({ frames := 3, cells := 0, slots := 0, locals := 64 }) (va_Pc [.ref a, .int i] (xP G A (w))) (va_Qq (fun (r : Option Nat) (u : XW) => atR i n fa r ∧ u = w) (fun u t => xB G A (u) t) A) 0 0 A := by
  refine Met.ofW (cc := cX4_faceAt) (maxL := 2) (ret := (some (.object "ResinWoods$Face"))) (by decide) rfl ?_
  intro p e s m args below meth c s₁ B hml hv
  obtain ⟨rfl, hK, hH, hTt⟩ := hv
  have hx := B.exec
  have hb := B.bytes
  have hr := B.returns
  have hts := atoms_spec (ws := wsX4_faceAt) B.pre
  have hown : s.vm.findClass RX4 = some m.cls := findClass_of_methodNamed B.named
  have hlocks := B.notSynchronized
  have hiX4 : ∀ w ∈ wsX40, w ∈ wsX4_faceAt := by decide +kernel
  have hf12 := hts (.fieldLink RX4 12 "ResinWoods$Tree" "faces" "Ljava/util/List;") (by decide +kernel)
  have hl := lv_entry ([.ref a, .int i]) (n := 2) (Nat.le_of_ble_eq_true rfl)
  rw [lg_entry_eq]
  generalize (lg_sl ([.ref a, .int i]) ++ List.replicate (2 - (lg_sl ([.ref a, .int i])).length) Slot.unset).toArray = ls at hl ⊢
  have hl : lv_has ls 2 [(0, .ref a), (1, .int i)] := hl
  have ne_a_fl : a ≠ fl := fun e9 => by rw [e9, hc_fl] at hc_a; cases hc_a
  have ne_fl_a : fl ≠ a := fun e9 => by rw [e9, hc_a] at hc_fl; cases hc_fl
  have hn9 : n < 2 ^ 31 := by omega
  refine lv_iload_n hx hb dX4_faceAt_0 rfl (lv_at hl 1 rfl) ?_
  refine lv_if_lt (tgt := 17) hx hb dX4_faceAt_1 (by decide) (fun c1 => ?_) (fun c1 => ?_)
  · refine lv_null hx hb dX4_faceAt_17 ?_
    refine lv_goto (tgt := 34) hx hb dX4_faceAt_18 (by decide) ?_
    exact x_aret (r := none) w hx hb hr hlocks (Or.inl ⟨_, rfl⟩) hK hH (⟨by first | exact atR_in hj1 hn9 | exact atR_neg c1 hn9 | exact atR_big c14 hn9, rfl⟩) dX4_faceAt_34
  · refine lv_iload_n hx hb dX4_faceAt_4 rfl (lv_at hl 1 rfl) ?_
    refine lv_aload_n hx hb dX4_faceAt_5 rfl (lv_at hl 0 rfl) ?_
    refine x_get (C := RX4) (T := TX4) (N := 7) hx hb hts hiX4 hown hK hH hc_a rfl 4 (by decide) hf12 (fun _ h => h) (v := .ref fl) rfl dX4_faceAt_6 ?_
    refine x_callFi (va_runF (As := []) (rest := [.int i]) (hK.1 0 _ rfl).2 ⟨hx, hb, hml, hown, hts⟩ (c_Jx4a65c_size_8abf5 l G A _ fl ed mc (nI n) hc_fl) (va_cwF 0 hts gX4_faceAt_Jx4a65c_size_8abf5_f39Jx4a65c rfl rfl rfl hTt.2.2.1 (by decide +kernel) ⟨Nat.le_of_ble_eq_true rfl, Nat.le_of_ble_eq_true rfl⟩) (x_preV hK hH hTt hc_fl rfl []) rfl rfl hl.1 rfl (lv_room (Nat.le_of_ble_eq_true rfl)) dX4_faceAt_9 ⟨Nat.le_of_ble_eq_true rfl, Nat.le_of_ble_eq_true rfl⟩) hH (fun r9 u H locs hp hH => ?_)
    obtain ⟨rfl, hu9⟩ := hp
    rw [hu9] at hH
    refine lv_icmp_lt (tgt := 21) hx hb dX4_faceAt_14 (by decide) (fun c14 => ?_) (fun c14 => ?_)
    · obtain ⟨j1, hj0, rfl⟩ := nI_of c1
      have hj1 : j1 < n := (nI_ltI hj0 (by omega)).mp c14
      refine lv_aload_n hx hb dX4_faceAt_21 rfl (lv_at hl 0 rfl) ?_
      refine x_get (C := RX4) (T := TX4) (N := 7) hx hb hts hiX4 hown hK hH hc_a rfl 4 (by decide) hf12 (fun _ h => h) (v := .ref fl) rfl dX4_faceAt_22 ?_
      refine lv_iload_n hx hb dX4_faceAt_25 rfl (lv_at hl 1 rfl) ?_
      have hc_ed := hEd (by omega)
      refine x_callFq (va_runF (As := [.int (nI j1)]) (rest := []) (hK.1 0 _ rfl).2 ⟨hx, hb, hml, hown, hts⟩ (c_Jx4a65c_get_915e3 l G A _ fl ed mc n cap fn hc_fl hc_ed j1 (fa j1) hj1 (by omega) hcap hn9 (hfn j1 hj1)) (va_cwF 1 hts gX4_faceAt_Jx4a65c_get_915e3_f45Jx4a65c rfl rfl rfl hTt.2.2.2.1 (by decide +kernel) ⟨Nat.le_of_ble_eq_true rfl, Nat.le_of_ble_eq_true rfl⟩) (x_preV hK hH hTt hc_fl rfl [.int (nI j1)]) rfl rfl hl.1 rfl (lv_room (Nat.le_of_ble_eq_true rfl)) dX4_faceAt_26 ⟨Nat.le_of_ble_eq_true rfl, Nat.le_of_ble_eq_true rfl⟩) hH (fun r26 u H locs hp hH => ?_)
      obtain ⟨rfl, hu9⟩ := hp
      rw [hu9] at hH
      obtain ⟨fs9, hfs9⟩ := hfam j1 hj1
      refine x_cast (ci := 2) hx hb hK hH hfs9 rfl hown (hts (.classLink RX4 49 RX1) (by decide +kernel)) dX4_faceAt_31 ?_
      exact x_aret (r := some (fa j1)) w hx hb hr hlocks (Or.inl ⟨_, rfl⟩) hK hH (⟨by first | exact atR_in hj1 hn9 | exact atR_neg c1 hn9 | exact atR_big c14 hn9, rfl⟩) dX4_faceAt_34
    · refine lv_null hx hb dX4_faceAt_17 ?_
      refine lv_goto (tgt := 34) hx hb dX4_faceAt_18 (by decide) ?_
      exact x_aret (r := none) w hx hb hr hlocks (Or.inl ⟨_, rfl⟩) hK hH (⟨by first | exact atR_in hj1 hn9 | exact atR_neg c1 hn9 | exact atR_big c14 hn9, rfl⟩) dX4_faceAt_34

set_option maxHeartbeats 4000000 in
set_option maxRecDepth 100000 in
theorem c_X6_treeAt (l : Launch) (G : XG) (A : Nat → Prop) (w : XW) (a fl : Nat) (a1 a2 a3 bl tl pl ed : Nat) (now em bu sp rs mc : Int32) (n cap : Nat) (fn : Nat → Option Nat) (hc_a : w a = some (.inr (7, [.ref a1, .ref a2, .ref a3, .ref fl, .ref bl, .ref tl, .ref pl, .int now, .int em, .int bu, .int sp, .int rs]))) (hc_fl : w fl = some (.inr (0, [.int mc, .ref ed, .int (nI n)]))) (i : Int32) (fa : Nat → Nat) (hEd : 0 < n → w ed = some (.inl (G.2 4, cap, .inr (.inr (.inr (.inr fn)))))) (hfn : ∀ j, j < n → fn j = some (fa j)) (hcap : cap < 2 ^ 31) (hnc : n ≤ cap) (hfam : ∀ j, j < n → ∃ fs, w (fa j) = some (.inr (5, fs))) : Met l yX6_treeAt wsX6_treeAt ({ frames := 3, cells := 0, slots := 0, locals := 64 }) (va_Pc [.ref a, .int i] (xP G A (w))) (va_Qq (fun (r : Option Nat) (u : XW) => atR i n fa r ∧ u = w) (fun u t => xB G A (u) t) A) 0 0 A := by
  refine Met.ofW (cc := cX6_treeAt) (maxL := 2) (ret := (some (.object "ResinWoods$Tree"))) (by decide) rfl ?_
  intro p e s m args below meth c s₁ B hml hv
  obtain ⟨rfl, hK, hH, hTt⟩ := hv
  have hx := B.exec
  have hb := B.bytes
  have hr := B.returns
  have hts := atoms_spec (ws := wsX6_treeAt) B.pre
  have hown : s.vm.findClass RX6 = some m.cls := findClass_of_methodNamed B.named
  have hlocks := B.notSynchronized
  have hiX6 : ∀ w ∈ wsX60, w ∈ wsX6_treeAt := by decide +kernel
  have hf25 := hts (.fieldLink RX6 25 "ResinWoods" "trees" "Ljava/util/List;") (by decide +kernel)
  have hl := lv_entry ([.ref a, .int i]) (n := 2) (Nat.le_of_ble_eq_true rfl)
  rw [lg_entry_eq]
  generalize (lg_sl ([.ref a, .int i]) ++ List.replicate (2 - (lg_sl ([.ref a, .int i])).length) Slot.unset).toArray = ls at hl ⊢
  have hl : lv_has ls 2 [(0, .ref a), (1, .int i)] := hl
  have ne_a_fl : a ≠ fl := fun e9 => by rw [e9, hc_fl] at hc_a; cases hc_a
  have ne_fl_a : fl ≠ a := fun e9 => by rw [e9, hc_a] at hc_fl; cases hc_fl
  have hn9 : n < 2 ^ 31 := by omega
  refine lv_iload_n hx hb dX6_treeAt_0 rfl (lv_at hl 1 rfl) ?_
  refine lv_if_lt (tgt := 17) hx hb dX6_treeAt_1 (by decide) (fun c1 => ?_) (fun c1 => ?_)
  · refine lv_null hx hb dX6_treeAt_17 ?_
    refine lv_goto (tgt := 34) hx hb dX6_treeAt_18 (by decide) ?_
    exact x_aret (r := none) w hx hb hr hlocks (Or.inl ⟨_, rfl⟩) hK hH (⟨by first | exact atR_in hj1 hn9 | exact atR_neg c1 hn9 | exact atR_big c14 hn9, rfl⟩) dX6_treeAt_34
  · refine lv_iload_n hx hb dX6_treeAt_4 rfl (lv_at hl 1 rfl) ?_
    refine lv_aload_n hx hb dX6_treeAt_5 rfl (lv_at hl 0 rfl) ?_
    refine x_get (C := RX6) (T := TX6) (N := 12) hx hb hts hiX6 hown hK hH hc_a rfl 3 (by decide) hf25 (fun _ h => h) (v := .ref fl) rfl dX6_treeAt_6 ?_
    refine x_callFi (va_runF (As := []) (rest := [.int i]) (hK.1 0 _ rfl).2 ⟨hx, hb, hml, hown, hts⟩ (c_Jx4a65c_size_8abf5 l G A _ fl ed mc (nI n) hc_fl) (va_cwF 0 hts gX6_treeAt_Jx4a65c_size_8abf5_f76Jx4a65c rfl rfl rfl hTt.2.2.1 (by decide +kernel) ⟨Nat.le_of_ble_eq_true rfl, Nat.le_of_ble_eq_true rfl⟩) (x_preV hK hH hTt hc_fl rfl []) rfl rfl hl.1 rfl (lv_room (Nat.le_of_ble_eq_true rfl)) dX6_treeAt_9 ⟨Nat.le_of_ble_eq_true rfl, Nat.le_of_ble_eq_true rfl⟩) hH (fun r9 u H locs hp hH => ?_)
    obtain ⟨rfl, hu9⟩ := hp
    rw [hu9] at hH
    refine lv_icmp_lt (tgt := 21) hx hb dX6_treeAt_14 (by decide) (fun c14 => ?_) (fun c14 => ?_)
    · obtain ⟨j1, hj0, rfl⟩ := nI_of c1
      have hj1 : j1 < n := (nI_ltI hj0 (by omega)).mp c14
      refine lv_aload_n hx hb dX6_treeAt_21 rfl (lv_at hl 0 rfl) ?_
      refine x_get (C := RX6) (T := TX6) (N := 12) hx hb hts hiX6 hown hK hH hc_a rfl 3 (by decide) hf25 (fun _ h => h) (v := .ref fl) rfl dX6_treeAt_22 ?_
      refine lv_iload_n hx hb dX6_treeAt_25 rfl (lv_at hl 1 rfl) ?_
      have hc_ed := hEd (by omega)
      refine x_callFq (va_runF (As := [.int (nI j1)]) (rest := []) (hK.1 0 _ rfl).2 ⟨hx, hb, hml, hown, hts⟩ (c_Jx4a65c_get_915e3 l G A _ fl ed mc n cap fn hc_fl hc_ed j1 (fa j1) hj1 (by omega) hcap hn9 (hfn j1 hj1)) (va_cwF 1 hts gX6_treeAt_Jx4a65c_get_915e3_f157Jx4a65c rfl rfl rfl hTt.2.2.2.1 (by decide +kernel) ⟨Nat.le_of_ble_eq_true rfl, Nat.le_of_ble_eq_true rfl⟩) (x_preV hK hH hTt hc_fl rfl [.int (nI j1)]) rfl rfl hl.1 rfl (lv_room (Nat.le_of_ble_eq_true rfl)) dX6_treeAt_26 ⟨Nat.le_of_ble_eq_true rfl, Nat.le_of_ble_eq_true rfl⟩) hH (fun r26 u H locs hp hH => ?_)
      obtain ⟨rfl, hu9⟩ := hp
      rw [hu9] at hH
      obtain ⟨fs9, hfs9⟩ := hfam j1 hj1
      refine x_cast (ci := 5) hx hb hK hH hfs9 rfl hown (hts (.classLink RX6 82 "ResinWoods$Tree") (by decide +kernel)) dX6_treeAt_31 ?_
      exact x_aret (r := some (fa j1)) w hx hb hr hlocks (Or.inl ⟨_, rfl⟩) hK hH (⟨by first | exact atR_in hj1 hn9 | exact atR_neg c1 hn9 | exact atR_big c14 hn9, rfl⟩) dX6_treeAt_34
    · refine lv_null hx hb dX6_treeAt_17 ?_
      refine lv_goto (tgt := 34) hx hb dX6_treeAt_18 (by decide) ?_
      exact x_aret (r := none) w hx hb hr hlocks (Or.inl ⟨_, rfl⟩) hK hH (⟨by first | exact atR_in hj1 hn9 | exact atR_neg c1 hn9 | exact atR_big c14 hn9, rfl⟩) dX6_treeAt_34

set_option maxHeartbeats 4000000 in
set_option maxRecDepth 100000 in
theorem c_X6_barrelAt (l : Launch) (G : XG) (A : Nat → Prop) (w : XW) (a fl : Nat) (a1 a2 a3 tr tl pl ed : Nat) (now em bu sp rs mc : Int32) (n cap : Nat) (fn : Nat → Option Nat) (hc_a : w a = some (.inr (7, [.ref a1, .ref a2, .ref a3, .ref tr, .ref fl, .ref tl, .ref pl, .int now, .int em, .int bu, .int sp, .int rs]))) (hc_fl : w fl = some (.inr (0, [.int mc, .ref ed, .int (nI n)]))) (i : Int32) (fa : Nat → Nat) (hEd : 0 < n → w ed = some (.inl (G.2 4, cap, .inr (.inr (.inr (.inr fn)))))) (hfn : ∀ j, j < n → fn j = some (fa j)) (hcap : cap < 2 ^ 31) (hnc : n ≤ cap) (hfam : ∀ j, j < n → ∃ fs, w (fa j) = some (.inr (1, fs))) : Met l yX6_barrelAt wsX6_barrelAt ({ frames := 3, cells := 0, slots := 0, locals := 64 }) (va_Pc [.ref a, .int i] (xP G A (w))) (va_Qq (fun (r : Option Nat) (u : XW) => atR i n fa r ∧ u = w) (fun u t => xB G A (u) t) A) 0 0 A := by
  refine Met.ofW (cc := cX6_barrelAt) (maxL := 2) (ret := (some (.object "ResinWoods$Barrel"))) (by decide) rfl ?_
  intro p e s m args below meth c s₁ B hml hv
  obtain ⟨rfl, hK, hH, hTt⟩ := hv
  have hx := B.exec
  have hb := B.bytes
  have hr := B.returns
  have hts := atoms_spec (ws := wsX6_barrelAt) B.pre
  have hown : s.vm.findClass RX6 = some m.cls := findClass_of_methodNamed B.named
  have hlocks := B.notSynchronized
  have hiX6 : ∀ w ∈ wsX60, w ∈ wsX6_barrelAt := by decide +kernel
  have hf29 := hts (.fieldLink RX6 29 "ResinWoods" "barrels" "Ljava/util/List;") (by decide +kernel)
  have hl := lv_entry ([.ref a, .int i]) (n := 2) (Nat.le_of_ble_eq_true rfl)
  rw [lg_entry_eq]
  generalize (lg_sl ([.ref a, .int i]) ++ List.replicate (2 - (lg_sl ([.ref a, .int i])).length) Slot.unset).toArray = ls at hl ⊢
  have hl : lv_has ls 2 [(0, .ref a), (1, .int i)] := hl
  have ne_a_fl : a ≠ fl := fun e9 => by rw [e9, hc_fl] at hc_a; cases hc_a
  have ne_fl_a : fl ≠ a := fun e9 => by rw [e9, hc_a] at hc_fl; cases hc_fl
  have hn9 : n < 2 ^ 31 := by omega
  refine lv_iload_n hx hb dX6_barrelAt_0 rfl (lv_at hl 1 rfl) ?_
  refine lv_if_lt (tgt := 17) hx hb dX6_barrelAt_1 (by decide) (fun c1 => ?_) (fun c1 => ?_)
  · refine lv_null hx hb dX6_barrelAt_17 ?_
    refine lv_goto (tgt := 34) hx hb dX6_barrelAt_18 (by decide) ?_
    exact x_aret (r := none) w hx hb hr hlocks (Or.inl ⟨_, rfl⟩) hK hH (⟨by first | exact atR_in hj1 hn9 | exact atR_neg c1 hn9 | exact atR_big c14 hn9, rfl⟩) dX6_barrelAt_34
  · refine lv_iload_n hx hb dX6_barrelAt_4 rfl (lv_at hl 1 rfl) ?_
    refine lv_aload_n hx hb dX6_barrelAt_5 rfl (lv_at hl 0 rfl) ?_
    refine x_get (C := RX6) (T := TX6) (N := 12) hx hb hts hiX6 hown hK hH hc_a rfl 4 (by decide) hf29 (fun _ h => h) (v := .ref fl) rfl dX6_barrelAt_6 ?_
    refine x_callFi (va_runF (As := []) (rest := [.int i]) (hK.1 0 _ rfl).2 ⟨hx, hb, hml, hown, hts⟩ (c_Jx4a65c_size_8abf5 l G A _ fl ed mc (nI n) hc_fl) (va_cwF 0 hts gX6_barrelAt_Jx4a65c_size_8abf5_f76Jx4a65c rfl rfl rfl hTt.2.2.1 (by decide +kernel) ⟨Nat.le_of_ble_eq_true rfl, Nat.le_of_ble_eq_true rfl⟩) (x_preV hK hH hTt hc_fl rfl []) rfl rfl hl.1 rfl (lv_room (Nat.le_of_ble_eq_true rfl)) dX6_barrelAt_9 ⟨Nat.le_of_ble_eq_true rfl, Nat.le_of_ble_eq_true rfl⟩) hH (fun r9 u H locs hp hH => ?_)
    obtain ⟨rfl, hu9⟩ := hp
    rw [hu9] at hH
    refine lv_icmp_lt (tgt := 21) hx hb dX6_barrelAt_14 (by decide) (fun c14 => ?_) (fun c14 => ?_)
    · obtain ⟨j1, hj0, rfl⟩ := nI_of c1
      have hj1 : j1 < n := (nI_ltI hj0 (by omega)).mp c14
      refine lv_aload_n hx hb dX6_barrelAt_21 rfl (lv_at hl 0 rfl) ?_
      refine x_get (C := RX6) (T := TX6) (N := 12) hx hb hts hiX6 hown hK hH hc_a rfl 4 (by decide) hf29 (fun _ h => h) (v := .ref fl) rfl dX6_barrelAt_22 ?_
      refine lv_iload_n hx hb dX6_barrelAt_25 rfl (lv_at hl 1 rfl) ?_
      have hc_ed := hEd (by omega)
      refine x_callFq (va_runF (As := [.int (nI j1)]) (rest := []) (hK.1 0 _ rfl).2 ⟨hx, hb, hml, hown, hts⟩ (c_Jx4a65c_get_915e3 l G A _ fl ed mc n cap fn hc_fl hc_ed j1 (fa j1) hj1 (by omega) hcap hn9 (hfn j1 hj1)) (va_cwF 1 hts gX6_barrelAt_Jx4a65c_get_915e3_f157Jx4a65c rfl rfl rfl hTt.2.2.2.1 (by decide +kernel) ⟨Nat.le_of_ble_eq_true rfl, Nat.le_of_ble_eq_true rfl⟩) (x_preV hK hH hTt hc_fl rfl [.int (nI j1)]) rfl rfl hl.1 rfl (lv_room (Nat.le_of_ble_eq_true rfl)) dX6_barrelAt_26 ⟨Nat.le_of_ble_eq_true rfl, Nat.le_of_ble_eq_true rfl⟩) hH (fun r26 u H locs hp hH => ?_)
      obtain ⟨rfl, hu9⟩ := hp
      rw [hu9] at hH
      obtain ⟨fs9, hfs9⟩ := hfam j1 hj1
      refine x_cast (ci := 1) hx hb hK hH hfs9 rfl hown (hts (.classLink RX6 171 "ResinWoods$Barrel") (by decide +kernel)) dX6_barrelAt_31 ?_
      exact x_aret (r := some (fa j1)) w hx hb hr hlocks (Or.inl ⟨_, rfl⟩) hK hH (⟨by first | exact atR_in hj1 hn9 | exact atR_neg c1 hn9 | exact atR_big c14 hn9, rfl⟩) dX6_barrelAt_34
    · refine lv_null hx hb dX6_barrelAt_17 ?_
      refine lv_goto (tgt := 34) hx hb dX6_barrelAt_18 (by decide) ?_
      exact x_aret (r := none) w hx hb hr hlocks (Or.inl ⟨_, rfl⟩) hK hH (⟨by first | exact atR_in hj1 hn9 | exact atR_neg c1 hn9 | exact atR_big c14 hn9, rfl⟩) dX6_barrelAt_34

set_option maxHeartbeats 4000000 in
set_option maxRecDepth 100000 in
theorem c_X4_inCups (l : Launch) (G : XG) (A : Nat → Prop) (w : XW) (a fl : Nat) (wd ed : Nat) (nr wh bo bu yc mc : Int32) (n cap : Nat) (fn : Nat → Option Nat) (hc_a : w a = some (.inr (5, [.int nr, .ref wd, .int wh, .int bo, .ref fl, .int bu, .int yc]))) (hc_fl : w fl = some (.inr (0, [.int mc, .ref ed, .int (nI n)]))) (fa og : Nat → Nat) (o0 o1 o2 hs o4 : Nat → Int32) (hEd : 0 < n → w ed = some (.inl (G.2 4, cap, .inr (.inr (.inr (.inr fn)))))) (hfn : ∀ j, j < n → fn j = some (fa j)) (hcap : cap < 2 ^ 31) (hnc : n ≤ cap) (hfam : ∀ j, j < n → w (fa j) = some (.inr (2, [.int (o0 j), .int (o1 j), .int (o2 j), .int (hs j), .int (o4 j), .ref (og j)]))) : Met l yX4_inCups wsX4_inCups ({ frames := 3, cells := 0, slots := 0, locals := 64 }) (va_Pc [.ref a] (xP G A (w))) (va_Qi (fun (r : Int32) (u : XW) => r = l_sum hs n ∧ u = w) (fun u t => xB G A (u) t) A) 0 0 A := by
  refine Met.ofW (cc := cX4_inCups) (maxL := 3) (ret := (some .int)) (by decide) rfl ?_
  intro p e s m args below meth c s₁ B hml hv
  obtain ⟨rfl, hK, hH, hTt⟩ := hv
  have hx := B.exec
  have hb := B.bytes
  have hr := B.returns
  have hts := atoms_spec (ws := wsX4_inCups) B.pre
  have hown : s.vm.findClass RX4 = some m.cls := findClass_of_methodNamed B.named
  have hlocks := B.notSynchronized
  have hiX1 : ∀ w ∈ wsX10, w ∈ wsX4_inCups := by decide +kernel
  have hiX4 : ∀ w ∈ wsX40, w ∈ wsX4_inCups := by decide +kernel
  have hf12 := hts (.fieldLink RX4 12 "ResinWoods$Tree" "faces" "Ljava/util/List;") (by decide +kernel)
  have hf69 := hts (.fieldLink RX4 69 "ResinWoods$Face" "has" "I") (by decide +kernel)
  have hl := lv_entry ([.ref a]) (n := 3) (Nat.le_of_ble_eq_true rfl)
  rw [lg_entry_eq]
  generalize (lg_sl ([.ref a]) ++ List.replicate (3 - (lg_sl ([.ref a])).length) Slot.unset).toArray = ls at hl ⊢
  have hl : lv_has ls 3 [(0, .ref a)] := hl
  have ne_a_fl : a ≠ fl := fun e9 => by rw [e9, hc_fl] at hc_a; cases hc_a
  have ne_fl_a : fl ≠ a := fun e9 => by rw [e9, hc_a] at hc_fl; cases hc_fl
  refine lv_iconst (v := 0) hx hb dX4_inCups_0 (by decide) ?_
  refine lv_istore_n (lv' := [(1, .int 0), (0, .ref a)]) hx hb dX4_inCups_1 rfl hl (by decide) rfl (fun ls hl => ?_)
  refine lv_iconst (v := 0) hx hb dX4_inCups_2 (by decide) ?_
  refine lv_istore_n (lv' := [(2, .int 0), (1, .int 0), (0, .ref a)]) hx hb dX4_inCups_3 rfl hl (by decide) rfl (fun ls hl => ?_)
  suffices loop4 : ∀ (k4 : Nat) (j : Nat) (ac : Int32), (n < j + k4) → (j ≤ n) → (ac = l_sum hs j) → ∀ (H : Heap) (locs : List Loc), xH G A s.heap H locs (w) → ∀ (ls : Array Slot), lv_has ls 3 [(0, .ref a), (1, .int ac), (2, .int (nI j))] → W p l e (headSpec wsX4_inCups _).room s m _ below meth c H locs 0 0 (MQ below _ _ s 0 0 A) (F0 m 4 ls []) from
    loop4 (n + 1) 0 0 (by omega) (by omega) (rfl) _ _ hH ls (lv_sub hl [2, 1, 0] rfl)
  intro k4
  induction k4 with
  | zero =>
    intro j ac hfuel hj hac H locs hH ls hl
    exact absurd hfuel (by omega)
  | succ k4 ih4 =>
    intro j ac hfuel hj hac H locs hH ls hl
    refine lv_iload_n hx hb dX4_inCups_4 rfl (lv_at hl 2 rfl) ?_
    refine lv_aload_n hx hb dX4_inCups_5 rfl (lv_at hl 0 rfl) ?_
    refine x_get (C := RX4) (T := TX4) (N := 7) hx hb hts hiX4 hown hK hH hc_a rfl 4 (by decide) hf12 (fun _ h => h) (v := .ref fl) rfl dX4_inCups_6 ?_
    refine x_callFi (va_runF (As := []) (rest := [.int (nI j)]) (hK.1 0 _ rfl).2 ⟨hx, hb, hml, hown, hts⟩ (c_Jx4a65c_size_8abf5 l G A _ fl ed mc (nI n) hc_fl) (va_cwF 0 hts gX4_inCups_Jx4a65c_size_8abf5_f39Jx4a65c rfl rfl rfl hTt.2.2.1 (by decide +kernel) ⟨Nat.le_of_ble_eq_true rfl, Nat.le_of_ble_eq_true rfl⟩) (x_preV hK hH hTt hc_fl rfl []) rfl rfl hl.1 rfl (lv_room (Nat.le_of_ble_eq_true rfl)) dX4_inCups_9 ⟨Nat.le_of_ble_eq_true rfl, Nat.le_of_ble_eq_true rfl⟩) hH (fun r9 u H locs hp hH => ?_)
    obtain ⟨rfl, hu9⟩ := hp
    rw [hu9] at hH
    refine lv_icmp_ge (tgt := 42) hx hb dX4_inCups_14 (by decide) (fun c14 => ?_) (fun c14 => ?_)
    · have c14 : n ≤ j := (nI_leI (a := n) (b := j) (by omega) (by omega)).mp c14
      refine lv_iload_n hx hb dX4_inCups_42 rfl (lv_at hl 1 rfl) ?_
      exact x_iret (v := ac) w hx hb hr hlocks hK hH (⟨by rw [hac, show j = n by omega], rfl⟩) dX4_inCups_43
    · have c14 : ¬ n ≤ j := fun zz => c14 ((nI_leI (a := n) (b := j) (by omega) (by omega)).mpr zz)
      refine lv_iload_n hx hb dX4_inCups_17 rfl (lv_at hl 1 rfl) ?_
      refine lv_aload_n hx hb dX4_inCups_18 rfl (lv_at hl 0 rfl) ?_
      refine x_get (C := RX4) (T := TX4) (N := 7) hx hb hts hiX4 hown hK hH hc_a rfl 4 (by decide) hf12 (fun _ h => h) (v := .ref fl) rfl dX4_inCups_19 ?_
      refine lv_iload_n hx hb dX4_inCups_22 rfl (lv_at hl 2 rfl) ?_
      have hc_ed := hEd (by omega)
      refine x_callFq (va_runF (As := [.int (nI j)]) (rest := [.int ac]) (hK.1 0 _ rfl).2 ⟨hx, hb, hml, hown, hts⟩ (c_Jx4a65c_get_915e3 l G A _ fl ed mc n cap fn hc_fl hc_ed j (fa j) (by omega) (by omega) hcap (by omega) (hfn j (by omega))) (va_cwF 1 hts gX4_inCups_Jx4a65c_get_915e3_f45Jx4a65c rfl rfl rfl hTt.2.2.2.1 (by decide +kernel) ⟨Nat.le_of_ble_eq_true rfl, Nat.le_of_ble_eq_true rfl⟩) (x_preV hK hH hTt hc_fl rfl [.int (nI j)]) rfl rfl hl.1 rfl (lv_room (Nat.le_of_ble_eq_true rfl)) dX4_inCups_23 ⟨Nat.le_of_ble_eq_true rfl, Nat.le_of_ble_eq_true rfl⟩) hH (fun r23 u H locs hp hH => ?_)
      obtain ⟨rfl, hu9⟩ := hp
      rw [hu9] at hH
      obtain ⟨fq, hfq⟩ : ∃ z, z = fa j := ⟨_, rfl⟩
      have hc_fq := hfam j (by omega)
      rw [← hfq] at hc_fq ⊢
      refine x_cast (ci := 2) hx hb hK hH hc_fq rfl hown (hts (.classLink RX4 49 RX1) (by decide +kernel)) dX4_inCups_28 ?_
      refine x_get (C := RX1) (T := TX1) (N := 6) hx hb hts hiX1 hown hK hH hc_fq rfl 3 (by decide) hf69 (fun _ h => h) (v := .int (hs j)) rfl dX4_inCups_31 ?_
      refine lv_iadd hx hb dX4_inCups_34 ?_
      refine lv_istore_n (lv' := [(1, .int (ac + (hs j))), (0, .ref a), (2, .int (nI j))]) hx hb dX4_inCups_35 rfl hl (by decide) rfl (fun ls hl => ?_)
      refine lv_iinc (v := nI (j + 1)) (lv' := [(2, .int (nI (j + 1))), (1, .int (ac + (hs j))), (0, .ref a)]) hx hb dX4_inCups_36 hl (k := 2) rfl (by exact nI_add _ 1) (by decide) rfl (fun ls hl => ?_)
      refine lv_goto (tgt := 4) hx hb dX4_inCups_39 (by decide) ?_
      exact ih4 (j + 1) (ac + (hs j)) (by omega) (by omega) (by rw [hac]; rfl) _ _ hH ls (lv_sub hl [2, 1, 0] rfl)
