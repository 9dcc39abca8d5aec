
section YB
variable {p : Program} {l : Launch} {e : Env} {R : Room} {s : State} {m : MethodId} {args : Array Value} {below : List Frame} {meth : Method} {c : Code} {H : Heap} {locs : List Loc} {cells slots : Nat} {Q : State → Prop}
variable {cc : ByteArray} {pc : Nat} {ls : Array Slot} {rest : List Value} {G : XG} {A : Nat → Prop} {a : Nat} {w : XW} {H0 : Heap}
theorem Y_zald (hexec : p.tables.exec = Jvm.exec) (hb : c.code = cc) (hK : xK G s) (hH : xH G A H0 H locs w) {n : Nat} {f : Nat → Int32} (ha : w a = some (.inl (G.2 1, n, .inl f))) {i : Int32} (j : Nat) (hi : i = nI j) (hj : j < n) (hn : n < 2 ^ 31) (hdg : decode cc pc = .ok (.baload, 1))
    (kk : W p l e R s m args below meth c H locs cells slots Q (F0 m (pc + 1) ls (.int (f j) :: rest))) : W p l e R s m args below meth c H locs cells slots Q (F0 m pc ls (.int i :: .ref a :: rest)) := by
  refine x_zald hexec hb hK hH ha (vI_in hi hj hn) hdg ?_
  rw [hi, nI_clamp (by omega)]
  exact kk
theorem Y_zast (hexec : p.tables.exec = Jvm.exec) (hb : c.code = cc) (hK : xK G s) (hH : xH G A H0 H locs w) {n : Nat} {f : Nat → Int32} (ha : w a = some (.inl (G.2 1, n, .inl f))) {i x : Int32} (j : Nat) (hi : i = nI j) (hj : j < n) (hn : n < 2 ^ 31) (hx : vp_nar .boolean x = x) (hdg : decode cc pc = .ok (.bastore, 1))
    (kk : ∀ (H1 : Heap) (locs1 : List Loc), xH G A H0 H1 locs1 (va_up w a (some (.inl (G.2 1, n, .inl (upd f j x))))) → W p l e R s m args below meth c H1 locs1 cells slots Q (F0 m (pc + 1) ls rest)) : W p l e R s m args below meth c H locs cells slots Q (F0 m pc ls (.int x :: .int i :: .ref a :: rest)) := by
  refine x_zast hexec hb hK hH ha (vI_in hi hj hn) hdg (fun H1 locs1 h => kk H1 locs1 ?_)
  rw [hi, nI_clamp (by omega), hx] at h
  exact h
theorem Y_bald (hexec : p.tables.exec = Jvm.exec) (hb : c.code = cc) (hK : xK G s) (hH : xH G A H0 H locs w) {n : Nat} {f : Nat → Int32} (ha : w a = some (.inl (G.2 2, n, .inl f))) {i : Int32} (j : Nat) (hi : i = nI j) (hj : j < n) (hn : n < 2 ^ 31) (hdg : decode cc pc = .ok (.baload, 1))
    (kk : W p l e R s m args below meth c H locs cells slots Q (F0 m (pc + 1) ls (.int (f j) :: rest))) : W p l e R s m args below meth c H locs cells slots Q (F0 m pc ls (.int i :: .ref a :: rest)) := by
  refine x_bald hexec hb hK hH ha (vI_in hi hj hn) hdg ?_
  rw [hi, nI_clamp (by omega)]
  exact kk
theorem Y_bast (hexec : p.tables.exec = Jvm.exec) (hb : c.code = cc) (hK : xK G s) (hH : xH G A H0 H locs w) {n : Nat} {f : Nat → Int32} (ha : w a = some (.inl (G.2 2, n, .inl f))) {i x : Int32} (j : Nat) (hi : i = nI j) (hj : j < n) (hn : n < 2 ^ 31) (hx : vp_nar .byte x = x) (hdg : decode cc pc = .ok (.bastore, 1))
    (kk : ∀ (H1 : Heap) (locs1 : List Loc), xH G A H0 H1 locs1 (va_up w a (some (.inl (G.2 2, n, .inl (upd f j x))))) → W p l e R s m args below meth c H1 locs1 cells slots Q (F0 m (pc + 1) ls rest)) : W p l e R s m args below meth c H locs cells slots Q (F0 m pc ls (.int x :: .int i :: .ref a :: rest)) := by
  refine x_bast hexec hb hK hH ha (vI_in hi hj hn) hdg (fun H1 locs1 h => kk H1 locs1 ?_)
  rw [hi, nI_clamp (by omega), hx] at h
  exact h
end YB
theorem i2b9 : ∀ v, v < 10 → (nI v).toInt8.toInt32 = nI v := by decide +kernel
theorem nar9 : ∀ v, v < 10 → vp_nar .byte (nI v) = nI v := by decide +kernel
theorem ls_tail {f : Nat → Int32} {a : Nat} : ∀ b, a ≤ b → (∀ j, a ≤ j → j < b → f j = 0) → l_sum f b = l_sum f a
  | 0, h, _ => by rw [show a = 0 by omega]
  | b + 1, h, hz => by
    by_cases e : a = b + 1
    · rw [e]
    · show l_sum f b + f b = _
      rw [ls_tail b (by omega) (fun j h1 h2 => hz j h1 (by omega)), hz b (by omega) (by omega)]
      simp
theorem ls_cg {f g : Nat → Int32} : ∀ n, (∀ j, j < n → f j = g j) → l_sum f n = l_sum g n
  | 0, _ => rfl
  | n + 1, h => by
    show l_sum f n + f n = l_sum g n + g n
    rw [ls_cg n (fun j hj => h j (by omega)), h n (by omega)]
theorem ls_3 (f : Nat → Int32) : ∀ n, l_sum f (3 * n) = l_sum (fun t => l_sum (fun j => f (3 * t + j)) 3) n
  | 0 => rfl
  | n + 1 => by
    show l_sum f (3 * n + 2 + 1) = l_sum (fun t => l_sum (fun j => f (3 * t + j)) 3) n + l_sum (fun j => f (3 * n + j)) 3
    rw [← ls_3 f n]
    show ((l_sum f (3 * n) + f (3 * n)) + f (3 * n + 1)) + f (3 * n + 2) = l_sum f (3 * n) + (((0 + f (3 * n + 0)) + f (3 * n + 1)) + f (3 * n + 2))
    simp [Int32.add_assoc]
theorem cupS_0 {F : Nat → Nat → Int32} {f : Nat} (h : ∀ g, g < 4 → F 14 (4 * f + g) = 0) : cupS F f = 0 := by
  unfold cupS
  rw [ls_tail (a := 0) 4 (by omega) (fun j _ hj => h j hj)]
  rfl
theorem cups_all {F : Nat → Nat → Int32} {L wd : Nat → Nat} (h60 : L 0 ≤ 60) (hT : IvT L wd F) (hZ : IvZ L F) : l_sum (cupS F) 180 = l_sum (fun t => l_sum (fun j => cupS F (3 * t + j)) (L (2 + t))) (L 0) := by
  show l_sum (cupS F) (3 * 60) = _
  rw [ls_3, ls_tail (a := L 0) 60 h60 (fun t h1 h2 => ?_)]
  · refine ls_cg _ (fun t ht => ?_)
    have h3 : L (2 + t) ≤ 3 := (hT t ht).2.2.2.2.2.2.2
    exact ls_tail 3 h3 (fun j h1 h2 => cupS_0 (hZ.2 t j (by omega) h2 (Or.inr h1)).2.2)
  · show l_sum (fun j => cupS F (3 * t + j)) 3 = 0
    rw [ls_tail (a := 0) 3 (by omega) (fun j _ h3 => cupS_0 (hZ.2 t j h2 h3 (Or.inl h1)).2.2)]
    rfl

set_option maxHeartbeats 4000000 in
set_option maxRecDepth 100000 in
theorem c_X6_inAllCups (l : Launch) (G : XG) (A : Nat → Prop) (w : XW) (a : Nat) (ad : YA) (E : YE) (cp L wd bw : Nat → Nat) (lb : Nat → Option Nat) (I : Nat → Int32) (F : Nat → Nat → Int32) (hc_a : w a = some (.inr (7, [.ref (ad 1 0 0), .ref (ad 2 0 0), .ref (ad 3 0 0), .ref (ad 5 0 0), .ref (ad 5 1 0), .ref (ad 7 0 0), .ref (ad 8 0 0), .int (I 0), .int (I 30), .int (I 29), .int (I 31), .int (I 32)]))) (now : Nat) (hR : Rep G w ad E cp L wd bw lb I F) (hV : Inv now L wd bw lb I F)  : Met l yX6_inAllCups wsX6_inAllCups ({ frames := 4, cells := 0, slots := 0, locals := 86 }) (va_Pc [.ref a] (xP G A (w))) (va_Qi (fun (r : Int32) (u : XW) => r = l_sum (fun t => l_sum (fun j => cupS F (3 * t + j)) (L (2 + t))) (L 0) ∧ u = w) (fun u t => xB G A (u) t) A) 0 0 A := by
  refine Met.ofW (cc := cX6_inAllCups) (maxL := 3) (ret := (some .int)) (by decide) rfl ?_
  intro p e s m args below meth c s₁ B hml hv
  obtain ⟨rfl, hK, hH, hTt⟩ := hv
  have hx := B.exec
  have hb := B.bytes
  have hr := B.returns
  have hts := atoms_spec (ws := wsX6_inAllCups) B.pre
  have hown : s.vm.findClass RX6 = some m.cls := findClass_of_methodNamed B.named
  have hlocks := B.notSynchronized
  have hiX6 : ∀ w ∈ wsX60, w ∈ wsX6_inAllCups := by decide +kernel
  have hf25 := hts (.fieldLink RX6 25 "ResinWoods" "trees" "Ljava/util/List;") (by decide +kernel)
  have hl := lv_entry ([.ref a]) (n := 3) (Nat.le_of_ble_eq_true rfl)
  rw [lg_entry_eq]
  generalize (lg_sl ([.ref a]) ++ List.replicate (3 - (lg_sl ([.ref a])).length) Slot.unset).toArray = ls at hl ⊢
  have hl : lv_has ls 3 [(0, .ref a)] := hl
  have h60 : L 0 ≤ 60 := hV.1.2.2.2.1
  have hI3 : I 3 = nI (L 0) := hV.1.2.2.1
  have hI0 : I 0 = nI now := hV.1.1
  have hnow : now ≤ 3650 := hV.1.2.1
  obtain ⟨fa, hfa⟩ : ∃ z : Nat → Nat, z = fun j => ad 12 j 0 := ⟨_, rfl⟩
  obtain ⟨fba, hfba⟩ : ∃ z : Nat → Nat, z = fun j => ad 15 j 0 := ⟨_, rfl⟩
  obtain ⟨hs, hBV, hB1, hB2, hB3, hB4, hB5⟩ := hV.2.2.2.2
  have hI16 : I 16 = nI (L 1) := hBV.1
  have h200 : L 1 ≤ 200 := hBV.2.1
  obtain ⟨fwa, hfwa⟩ : ∃ z : Nat → Nat, z = fun j => ad 4 j 0 := ⟨_, rfl⟩
  obtain ⟨wmc, hwmc⟩ : ∃ z, z = ad 1 0 0 := ⟨_, rfl⟩
  obtain ⟨rnc, hrnc⟩ : ∃ z, z = ad 2 0 0 := ⟨_, rfl⟩
  obtain ⟨wsc, hwsc⟩ : ∃ z, z = ad 3 0 0 := ⟨_, rfl⟩
  obtain ⟨tlc, htlc⟩ : ∃ z, z = ad 5 0 0 := ⟨_, rfl⟩
  obtain ⟨blc, hblc⟩ : ∃ z, z = ad 5 1 0 := ⟨_, rfl⟩
  obtain ⟨tac, htac⟩ : ∃ z, z = ad 7 0 0 := ⟨_, rfl⟩
  obtain ⟨plc, hplc⟩ : ∃ z, z = ad 8 0 0 := ⟨_, rfl⟩
  rw [← hwmc, ← hrnc, ← hwsc, ← htlc, ← hblc, ← htac, ← hplc] at hc_a
  obtain ⟨tdc, htdc⟩ : ∃ z, z = (if L 0 = 0 then G.2 12 else ad 6 0 0) := ⟨_, rfl⟩
  obtain ⟨bdc, hbdc⟩ : ∃ z, z = (if L 1 = 0 then G.2 12 else ad 6 1 0) := ⟨_, rfl⟩
  have hc_tlc : w tlc = some (.inr (0, [.int (E 5 0 0 0), .ref tdc, .int (nI (L 0))])) := by rw [htlc, htdc]; exact hR.lst (by omega)
  have hc_blc : w blc = some (.inr (0, [.int (E 5 1 0 0), .ref bdc, .int (nI (L 1))])) := by rw [hblc, hbdc]; exact hR.lst (by omega)
  have hc_tac : w tac = some (.inr (4, [.int (I 26), .int (I 27), .int (I 28)])) := by rw [htac]; exact hR.1 7 0 0 ⟨by decide, rfl⟩
  refine lv_iconst (v := 0) hx hb dX6_inAllCups_0 (by decide) ?_
  refine lv_istore_n (lv' := [(1, .int 0), (0, .ref a)]) hx hb dX6_inAllCups_1 rfl hl (by decide) rfl (fun ls hl => ?_)
  refine lv_iconst (v := 0) hx hb dX6_inAllCups_2 (by decide) ?_
  refine lv_istore_n (lv' := [(2, .int 0), (1, .int 0), (0, .ref a)]) hx hb dX6_inAllCups_3 rfl hl (by decide) rfl (fun ls hl => ?_)
  suffices loop4 : ∀ (k4 : Nat) (i : Nat) (ac : Int32), (L 0 < i + k4) → (i ≤ L 0) → (ac = l_sum (fun t => l_sum (fun j => cupS F (3 * t + j)) (L (2 + t))) i) → ∀ (H : Heap) (locs : List Loc), xH G A s.heap H locs (w) → ∀ (ls : Array Slot), lv_has ls 3 [(0, .ref a), (1, .int ac), (2, .int (nI i))] → W p l e (headSpec wsX6_inAllCups _).room s m _ below meth c H locs 0 0 (MQ below _ _ s 0 0 A) (F0 m 4 ls []) from
    loop4 (L 0 + 1) 0 0 (by omega) (by omega) (rfl) _ _ hH ls (lv_sub hl [2, 1, 0] rfl)
  intro k4
  induction k4 with
  | zero =>
    intro i ac hfuel hi hac H locs hH ls hl
    exact absurd hfuel (by omega)
  | succ k4 ih4 =>
    intro i ac hfuel hi hac H locs hH ls hl
    refine lv_iload_n hx hb dX6_inAllCups_4 rfl (lv_at hl 2 rfl) ?_
    refine lv_aload_n hx hb dX6_inAllCups_5 rfl (lv_at hl 0 rfl) ?_
    refine x_get (C := RX6) (T := TX6) (N := 12) hx hb hts hiX6 hown hK hH hc_a rfl 3 (by decide) hf25 (fun _ h => h) (v := .ref tlc) rfl dX6_inAllCups_6 ?_
    refine x_callFi (va_runF (As := []) (rest := [.int (nI i)]) (hK.1 0 _ rfl).2 ⟨hx, hb, hml, hown, hts⟩ (c_Jx4a65c_size_8abf5 l G A _ tlc tdc (E 5 0 0 0) (nI (L 0)) hc_tlc) (va_cwF 0 hts gX6_inAllCups_Jx4a65c_size_8abf5_f76Jx4a65c rfl rfl rfl hTt.2.2.1 (by decide +kernel) ⟨Nat.le_of_ble_eq_true rfl, Nat.le_of_ble_eq_true rfl⟩) (x_preV hK hH hTt hc_tlc rfl []) rfl rfl hl.1 rfl (lv_room (Nat.le_of_ble_eq_true rfl)) dX6_inAllCups_9 ⟨Nat.le_of_ble_eq_true rfl, Nat.le_of_ble_eq_true rfl⟩) hH (fun r9 u H locs hp hH => ?_)
    obtain ⟨rfl, hu9⟩ := hp
    rw [hu9] at hH
    refine lv_icmp_ge (tgt := 42) hx hb dX6_inAllCups_14 (by decide) (fun c14 => ?_) (fun c14 => ?_)
    · have c14 : (L 0) ≤ i := (nI_leI (a := (L 0)) (b := i) (by omega) (by omega)).mp c14
      refine lv_iload_n hx hb dX6_inAllCups_42 rfl (lv_at hl 1 rfl) ?_
      exact x_iret (v := ac) w hx hb hr hlocks hK hH (⟨by rw [hac, show i = L 0 by omega], rfl⟩) dX6_inAllCups_43
    · have c14 : ¬ (L 0) ≤ i := fun zz => c14 ((nI_leI (a := (L 0)) (b := i) (by omega) (by omega)).mpr zz)
      refine lv_iload_n hx hb dX6_inAllCups_17 rfl (lv_at hl 1 rfl) ?_
      refine lv_aload_n hx hb dX6_inAllCups_18 rfl (lv_at hl 0 rfl) ?_
      refine x_get (C := RX6) (T := TX6) (N := 12) hx hb hts hiX6 hown hK hH hc_a rfl 3 (by decide) hf25 (fun _ h => h) (v := .ref tlc) rfl dX6_inAllCups_19 ?_
      refine lv_iload_n hx hb dX6_inAllCups_22 rfl (lv_at hl 2 rfl) ?_
      have hc_tdc : w tdc = some (.inl (G.2 4, cp 0, .inr (.inr (.inr (.inr (ldat ad L 0)))))) := by rw [htdc]; exact hR.dat (by omega) (by omega)
      refine x_callFq (va_runF (As := [.int (nI i)]) (rest := [.int ac]) (hK.1 0 _ rfl).2 ⟨hx, hb, hml, hown, hts⟩ (c_Jx4a65c_get_915e3 l G A _ tlc tdc (E 5 0 0 0) (L 0) (cp 0) (ldat ad L 0) hc_tlc hc_tdc i (fa i) (by omega) (by have := (hR.2.2 0 (by omega)).1; omega) (by have := hR.2.2 0 (by omega); omega) (by omega) (by rw [hfa]; exact ldat_t ad L (by omega))) (va_cwF 1 hts gX6_inAllCups_Jx4a65c_get_915e3_f157Jx4a65c rfl rfl rfl hTt.2.2.2.1 (by decide +kernel) ⟨Nat.le_of_ble_eq_true rfl, Nat.le_of_ble_eq_true rfl⟩) (x_preV hK hH hTt hc_tlc rfl [.int (nI i)]) rfl rfl hl.1 rfl (lv_room (Nat.le_of_ble_eq_true rfl)) dX6_inAllCups_23 ⟨Nat.le_of_ble_eq_true rfl, Nat.le_of_ble_eq_true rfl⟩) hH (fun r23 u H locs hp hH => ?_)
      obtain ⟨rfl, hu9⟩ := hp
      rw [hu9] at hH
      obtain ⟨tr, htr⟩ : ∃ z, z = fa i := ⟨_, rfl⟩
      rw [← htr]
      have hc_tr : w tr = some (.inr (5, [.int (nI i), .ref (ad 4 (wd i) 0), .int (F 5 i * 100 + F 6 i), .int (bearI (F 7 i)), .ref (ad 5 (2 + i) 0), .int (F 8 i), .int (F 10 i)])) := by rw [htr, hfa]; exact hR.tree (by omega)
      refine x_cast (ci := 5) hx hb hK hH hc_tr rfl hown (hts (.classLink RX6 82 "ResinWoods$Tree") (by decide +kernel)) dX6_inAllCups_28 ?_
      refine x_calli (va_runV (As := []) (rest := [.int ac]) ⟨hx, hb, hml, hown, hts⟩ (c_X4_inCups l G A _ tr (ad 5 (2 + i) 0) _ (if L (2 + i) = 0 then G.2 12 else ad 6 (2 + i) 0) _ _ _ _ _ _ (L (2 + i)) (cp (2 + i)) (ldat ad L (2 + i)) hc_tr (hR.lst (by omega)) (fun j => ad 13 i j) (fun j => ad 14 i j) (fun j => F 11 (3 * i + j)) (fun j => F 12 (3 * i + j)) (fun j => F 13 (3 * i + j)) (fun j => cupS F (3 * i + j)) (fun j => F 15 (3 * i + j)) (fun h9 => hR.dat (by omega) h9) (fun j hj => ldat_f ad L hj) (by have := hR.2.2 (2 + i) (by omega); omega) (hR.2.2 (2 + i) (by omega)).1 (fun j hj => hR.face h60 (by omega) hj)) (cwV 0 hts gX6_inAllCups_X4_inCups rfl rfl rfl (by decide +kernel) ⟨Nat.le_of_ble_eq_true rfl, Nat.le_of_ble_eq_true rfl⟩) (x_preV hK hH hTt (hc_tr) rfl []) rfl rfl hl.1 rfl (lv_room (Nat.le_of_ble_eq_true rfl)) dX6_inAllCups_31 ⟨Nat.le_of_ble_eq_true rfl, Nat.le_of_ble_eq_true rfl⟩) hH (fun r31 u H locs hp hH => ?_)
      obtain ⟨rfl, hu9⟩ := hp
      rw [hu9] at hH
      refine lv_iadd hx hb dX6_inAllCups_34 ?_
      refine lv_topi (fun v35 ev35 => ?_)
      refine lv_istore_n (lv' := [(1, .int v35), (0, .ref a), (2, .int (nI i))]) hx hb dX6_inAllCups_35 rfl hl (by decide) rfl (fun ls hl => ?_)
      refine lv_iinc (v := nI (i + 1)) (lv' := [(2, .int (nI (i + 1))), (1, .int v35), (0, .ref a)]) hx hb dX6_inAllCups_36 hl (k := 2) rfl (by exact nI_add _ 1) (by decide) rfl (fun ls hl => ?_)
      refine lv_goto (tgt := 4) hx hb dX6_inAllCups_39 (by decide) ?_
      exact ih4 (i + 1) v35 (by omega) (by omega) (by rw [ev35, hac]; rfl) _ _ hH ls (lv_sub hl [2, 1, 0] rfl)

set_option maxHeartbeats 4000000 in
set_option maxRecDepth 100000 in
theorem c_X6_count (l : Launch) (G : XG) (A : Nat → Prop) (w : XW) (a : Nat) (ad : YA) (E : YE) (cp L wd bw : Nat → Nat) (lb : Nat → Option Nat) (I : Nat → Int32) (F : Nat → Nat → Int32) (hc_a : w a = some (.inr (7, [.ref (ad 1 0 0), .ref (ad 2 0 0), .ref (ad 3 0 0), .ref (ad 5 0 0), .ref (ad 5 1 0), .ref (ad 7 0 0), .ref (ad 8 0 0), .int (I 0), .int (I 30), .int (I 29), .int (I 31), .int (I 32)]))) (now : Nat) (hR : Rep G w ad E cp L wd bw lb I F) (hV : Inv now L wd bw lb I F) (what : Int32) : Met l yX6_count wsX6_count ({ frames := 5, cells := 0, slots := 0, locals := 108 }) (va_Pc [.ref a, .int what] (xP G A (w))) (va_Qi (fun (r : Int32) (u : XW) => r = sCount I F what ∧ u = w) (fun u t => xB G A (u) t) A) 0 0 A := by
  refine Met.ofW (cc := cX6_count) (maxL := 2) (ret := (some .int)) (by decide) rfl ?_
  intro p e s m args below meth c s₁ B hml hv
  obtain ⟨rfl, hK, hH, hTt⟩ := hv
  have hx := B.exec
  have hb := B.bytes
  have hr := B.returns
  have hts := atoms_spec (ws := wsX6_count) B.pre
  have hown : s.vm.findClass RX6 = some m.cls := findClass_of_methodNamed B.named
  have hlocks := B.notSynchronized
  have hiX3 : ∀ w ∈ wsX30, w ∈ wsX6_count := by decide +kernel
  have hiX6 : ∀ w ∈ wsX60, w ∈ wsX6_count := by decide +kernel
  have hf25 := hts (.fieldLink RX6 25 "ResinWoods" "trees" "Ljava/util/List;") (by decide +kernel)
  have hf29 := hts (.fieldLink RX6 29 "ResinWoods" "barrels" "Ljava/util/List;") (by decide +kernel)
  have hf35 := hts (.fieldLink RX6 35 "ResinWoods" "tally" "LResinWoods$Tally;") (by decide +kernel)
  have hf46 := hts (.fieldLink RX6 46 "ResinWoods" "now" "I") (by decide +kernel)
  have hf50 := hts (.fieldLink RX6 50 "ResinWoods" "emptied" "I") (by decide +kernel)
  have hf53 := hts (.fieldLink RX6 53 "ResinWoods" "burnt" "I") (by decide +kernel)
  have hf56 := hts (.fieldLink RX6 56 "ResinWoods" "spirit" "I") (by decide +kernel)
  have hf59 := hts (.fieldLink RX6 59 "ResinWoods" "rosin" "I") (by decide +kernel)
  have hf235 := hts (.fieldLink RX6 235 "ResinWoods$Tally" "ran" "I") (by decide +kernel)
  have hf238 := hts (.fieldLink RX6 238 "ResinWoods$Tally" "ranOver" "I") (by decide +kernel)
  have hf241 := hts (.fieldLink RX6 241 "ResinWoods$Tally" "washed" "I") (by decide +kernel)
  have hl := lv_entry ([.ref a, .int what]) (n := 2) (Nat.le_of_ble_eq_true rfl)
  rw [lg_entry_eq]
  generalize (lg_sl ([.ref a, .int what]) ++ List.replicate (2 - (lg_sl ([.ref a, .int what])).length) Slot.unset).toArray = ls at hl ⊢
  have hl : lv_has ls 2 [(0, .ref a), (1, .int what)] := hl
  have hd0_a := hc_a
  have h60 : L 0 ≤ 60 := hV.1.2.2.2.1
  have hI3 : I 3 = nI (L 0) := hV.1.2.2.1
  have hI0 : I 0 = nI now := hV.1.1
  have hnow : now ≤ 3650 := hV.1.2.1
  obtain ⟨fa, hfa⟩ : ∃ z : Nat → Nat, z = fun j => ad 12 j 0 := ⟨_, rfl⟩
  obtain ⟨fba, hfba⟩ : ∃ z : Nat → Nat, z = fun j => ad 15 j 0 := ⟨_, rfl⟩
  obtain ⟨hs, hBV, hB1, hB2, hB3, hB4, hB5⟩ := hV.2.2.2.2
  have hI16 : I 16 = nI (L 1) := hBV.1
  have h200 : L 1 ≤ 200 := hBV.2.1
  obtain ⟨fwa, hfwa⟩ : ∃ z : Nat → Nat, z = fun j => ad 4 j 0 := ⟨_, rfl⟩
  obtain ⟨wmc, hwmc⟩ : ∃ z, z = ad 1 0 0 := ⟨_, rfl⟩
  obtain ⟨rnc, hrnc⟩ : ∃ z, z = ad 2 0 0 := ⟨_, rfl⟩
  obtain ⟨wsc, hwsc⟩ : ∃ z, z = ad 3 0 0 := ⟨_, rfl⟩
  obtain ⟨tlc, htlc⟩ : ∃ z, z = ad 5 0 0 := ⟨_, rfl⟩
  obtain ⟨blc, hblc⟩ : ∃ z, z = ad 5 1 0 := ⟨_, rfl⟩
  obtain ⟨tac, htac⟩ : ∃ z, z = ad 7 0 0 := ⟨_, rfl⟩
  obtain ⟨plc, hplc⟩ : ∃ z, z = ad 8 0 0 := ⟨_, rfl⟩
  rw [← hwmc, ← hrnc, ← hwsc, ← htlc, ← hblc, ← htac, ← hplc] at hc_a
  obtain ⟨tdc, htdc⟩ : ∃ z, z = (if L 0 = 0 then G.2 12 else ad 6 0 0) := ⟨_, rfl⟩
  obtain ⟨bdc, hbdc⟩ : ∃ z, z = (if L 1 = 0 then G.2 12 else ad 6 1 0) := ⟨_, rfl⟩
  have hc_tlc : w tlc = some (.inr (0, [.int (E 5 0 0 0), .ref tdc, .int (nI (L 0))])) := by rw [htlc, htdc]; exact hR.lst (by omega)
  have hc_blc : w blc = some (.inr (0, [.int (E 5 1 0 0), .ref bdc, .int (nI (L 1))])) := by rw [hblc, hbdc]; exact hR.lst (by omega)
  have hc_tac : w tac = some (.inr (4, [.int (I 26), .int (I 27), .int (I 28)])) := by rw [htac]; exact hR.1 7 0 0 ⟨by decide, rfl⟩
  refine lv_iload_n hx hb dX6_count_0 rfl (lv_at hl 1 rfl) ?_
  by_cases q0 : what = 0
  · subst q0
    refine lv_tableIn (tgt := 60) (off := 59) hx hb dX6_count_1 (by decide) (by decide) (by decide) (by decide) ?_
    refine lv_aload_n hx hb dX6_count_60 rfl (lv_at hl 0 rfl) ?_
    refine x_get (C := RX6) (T := TX6) (N := 12) hx hb hts hiX6 hown hK hH hc_a rfl 7 (by decide) hf46 (fun _ h => h) (v := .int (I 0)) rfl dX6_count_61 ?_
    exact x_iret (v := I 0) w hx hb hr hlocks hK hH (⟨by unfold sCount; first | rfl | exact hI3.symm | exact hI16.symm | (rw [cups_all h60 hV.2.1 hV.2.2.1]; rfl) | (rw [if_neg q0, if_neg q1, if_neg q2, if_neg q3, if_neg q4, if_neg q5, if_neg q6, if_neg q7, if_neg q8, if_neg q9, if_neg q10]), rfl⟩) dX6_count_64
  by_cases q1 : what = 1
  · subst q1
    refine lv_tableIn (tgt := 65) (off := 64) hx hb dX6_count_1 (by decide) (by decide) (by decide) (by decide) ?_
    refine lv_aload_n hx hb dX6_count_65 rfl (lv_at hl 0 rfl) ?_
    refine x_get (C := RX6) (T := TX6) (N := 12) hx hb hts hiX6 hown hK hH hc_a rfl 3 (by decide) hf25 (fun _ h => h) (v := .ref tlc) rfl dX6_count_66 ?_
    refine x_callFi (va_runF (As := []) (rest := []) (hK.1 0 _ rfl).2 ⟨hx, hb, hml, hown, hts⟩ (c_Jx4a65c_size_8abf5 l G A _ tlc tdc (E 5 0 0 0) (nI (L 0)) hc_tlc) (va_cwF 0 hts gX6_count_Jx4a65c_size_8abf5_f76Jx4a65c rfl rfl rfl hTt.2.2.1 (by decide +kernel) ⟨Nat.le_of_ble_eq_true rfl, Nat.le_of_ble_eq_true rfl⟩) (x_preV hK hH hTt hc_tlc rfl []) rfl rfl hl.1 rfl (lv_room (Nat.le_of_ble_eq_true rfl)) dX6_count_69 ⟨Nat.le_of_ble_eq_true rfl, Nat.le_of_ble_eq_true rfl⟩) hH (fun r69 u H locs hp hH => ?_)
    obtain ⟨rfl, hu9⟩ := hp
    rw [hu9] at hH
    exact x_iret (v := nI (L 0)) w hx hb hr hlocks hK hH (⟨by unfold sCount; first | rfl | exact hI3.symm | exact hI16.symm | (rw [cups_all h60 hV.2.1 hV.2.2.1]; rfl) | (rw [if_neg q0, if_neg q1, if_neg q2, if_neg q3, if_neg q4, if_neg q5, if_neg q6, if_neg q7, if_neg q8, if_neg q9, if_neg q10]), rfl⟩) dX6_count_74
  by_cases q2 : what = 2
  · subst q2
    refine lv_tableIn (tgt := 75) (off := 74) hx hb dX6_count_1 (by decide) (by decide) (by decide) (by decide) ?_
    refine lv_aload_n hx hb dX6_count_75 rfl (lv_at hl 0 rfl) ?_
    refine x_get (C := RX6) (T := TX6) (N := 12) hx hb hts hiX6 hown hK hH hc_a rfl 4 (by decide) hf29 (fun _ h => h) (v := .ref blc) rfl dX6_count_76 ?_
    refine x_callFi (va_runF (As := []) (rest := []) (hK.1 0 _ rfl).2 ⟨hx, hb, hml, hown, hts⟩ (c_Jx4a65c_size_8abf5 l G A _ blc bdc (E 5 1 0 0) (nI (L 1)) hc_blc) (va_cwF 0 hts gX6_count_Jx4a65c_size_8abf5_f76Jx4a65c rfl rfl rfl hTt.2.2.1 (by decide +kernel) ⟨Nat.le_of_ble_eq_true rfl, Nat.le_of_ble_eq_true rfl⟩) (x_preV hK hH hTt hc_blc rfl []) rfl rfl hl.1 rfl (lv_room (Nat.le_of_ble_eq_true rfl)) dX6_count_79 ⟨Nat.le_of_ble_eq_true rfl, Nat.le_of_ble_eq_true rfl⟩) hH (fun r79 u H locs hp hH => ?_)
    obtain ⟨rfl, hu9⟩ := hp
    rw [hu9] at hH
    exact x_iret (v := nI (L 1)) w hx hb hr hlocks hK hH (⟨by unfold sCount; first | rfl | exact hI3.symm | exact hI16.symm | (rw [cups_all h60 hV.2.1 hV.2.2.1]; rfl) | (rw [if_neg q0, if_neg q1, if_neg q2, if_neg q3, if_neg q4, if_neg q5, if_neg q6, if_neg q7, if_neg q8, if_neg q9, if_neg q10]), rfl⟩) dX6_count_84
  by_cases q3 : what = 3
  · subst q3
    refine lv_tableIn (tgt := 85) (off := 84) hx hb dX6_count_1 (by decide) (by decide) (by decide) (by decide) ?_
    refine lv_aload_n hx hb dX6_count_85 rfl (lv_at hl 0 rfl) ?_
    refine x_get (C := RX6) (T := TX6) (N := 12) hx hb hts hiX6 hown hK hH hc_a rfl 5 (by decide) hf35 (fun _ h => h) (v := .ref tac) rfl dX6_count_86 ?_
    refine x_get (C := RX3) (T := TX3) (N := 3) hx hb hts hiX3 hown hK hH hc_tac rfl 0 (by decide) hf235 (fun _ h => h) (v := .int (I 26)) rfl dX6_count_89 ?_
    exact x_iret (v := I 26) w hx hb hr hlocks hK hH (⟨by unfold sCount; first | rfl | exact hI3.symm | exact hI16.symm | (rw [cups_all h60 hV.2.1 hV.2.2.1]; rfl) | (rw [if_neg q0, if_neg q1, if_neg q2, if_neg q3, if_neg q4, if_neg q5, if_neg q6, if_neg q7, if_neg q8, if_neg q9, if_neg q10]), rfl⟩) dX6_count_92
  by_cases q4 : what = 4
  · subst q4
    refine lv_tableIn (tgt := 93) (off := 92) hx hb dX6_count_1 (by decide) (by decide) (by decide) (by decide) ?_
    refine lv_aload_n hx hb dX6_count_93 rfl (lv_at hl 0 rfl) ?_
    refine x_get (C := RX6) (T := TX6) (N := 12) hx hb hts hiX6 hown hK hH hc_a rfl 5 (by decide) hf35 (fun _ h => h) (v := .ref tac) rfl dX6_count_94 ?_
    refine x_get (C := RX3) (T := TX3) (N := 3) hx hb hts hiX3 hown hK hH hc_tac rfl 1 (by decide) hf238 (fun _ h => h) (v := .int (I 27)) rfl dX6_count_97 ?_
    exact x_iret (v := I 27) w hx hb hr hlocks hK hH (⟨by unfold sCount; first | rfl | exact hI3.symm | exact hI16.symm | (rw [cups_all h60 hV.2.1 hV.2.2.1]; rfl) | (rw [if_neg q0, if_neg q1, if_neg q2, if_neg q3, if_neg q4, if_neg q5, if_neg q6, if_neg q7, if_neg q8, if_neg q9, if_neg q10]), rfl⟩) dX6_count_100
  by_cases q5 : what = 5
  · subst q5
    refine lv_tableIn (tgt := 101) (off := 100) hx hb dX6_count_1 (by decide) (by decide) (by decide) (by decide) ?_
    refine lv_aload_n hx hb dX6_count_101 rfl (lv_at hl 0 rfl) ?_
    refine x_get (C := RX6) (T := TX6) (N := 12) hx hb hts hiX6 hown hK hH hc_a rfl 5 (by decide) hf35 (fun _ h => h) (v := .ref tac) rfl dX6_count_102 ?_
    refine x_get (C := RX3) (T := TX3) (N := 3) hx hb hts hiX3 hown hK hH hc_tac rfl 2 (by decide) hf241 (fun _ h => h) (v := .int (I 28)) rfl dX6_count_105 ?_
    exact x_iret (v := I 28) w hx hb hr hlocks hK hH (⟨by unfold sCount; first | rfl | exact hI3.symm | exact hI16.symm | (rw [cups_all h60 hV.2.1 hV.2.2.1]; rfl) | (rw [if_neg q0, if_neg q1, if_neg q2, if_neg q3, if_neg q4, if_neg q5, if_neg q6, if_neg q7, if_neg q8, if_neg q9, if_neg q10]), rfl⟩) dX6_count_108
  by_cases q6 : what = 6
  · subst q6
    refine lv_tableIn (tgt := 109) (off := 108) hx hb dX6_count_1 (by decide) (by decide) (by decide) (by decide) ?_
    refine lv_aload_n hx hb dX6_count_109 rfl (lv_at hl 0 rfl) ?_
    refine x_get (C := RX6) (T := TX6) (N := 12) hx hb hts hiX6 hown hK hH hc_a rfl 9 (by decide) hf53 (fun _ h => h) (v := .int (I 29)) rfl dX6_count_110 ?_
    exact x_iret (v := I 29) w hx hb hr hlocks hK hH (⟨by unfold sCount; first | rfl | exact hI3.symm | exact hI16.symm | (rw [cups_all h60 hV.2.1 hV.2.2.1]; rfl) | (rw [if_neg q0, if_neg q1, if_neg q2, if_neg q3, if_neg q4, if_neg q5, if_neg q6, if_neg q7, if_neg q8, if_neg q9, if_neg q10]), rfl⟩) dX6_count_113
  by_cases q7 : what = 7
  · subst q7
    refine lv_tableIn (tgt := 114) (off := 113) hx hb dX6_count_1 (by decide) (by decide) (by decide) (by decide) ?_
    refine lv_aload_n hx hb dX6_count_114 rfl (lv_at hl 0 rfl) ?_
    refine x_calli (va_runV (As := []) (rest := []) ⟨hx, hb, hml, hown, hts⟩ (c_X6_inAllCups l G A _ a ad E cp L wd bw lb I F hd0_a now hR hV) (cwV 0 hts gX6_count_X6_inAllCups rfl rfl rfl (by decide +kernel) ⟨Nat.le_of_ble_eq_true rfl, Nat.le_of_ble_eq_true rfl⟩) (x_preV hK hH hTt (hc_a) rfl []) rfl rfl hl.1 rfl (lv_room (Nat.le_of_ble_eq_true rfl)) dX6_count_115 ⟨Nat.le_of_ble_eq_true rfl, Nat.le_of_ble_eq_true rfl⟩) hH (fun r115 u H locs hp hH => ?_)
    obtain ⟨rfl, hu9⟩ := hp
    rw [hu9] at hH
    exact x_iret (v := l_sum (fun t => l_sum (fun j => cupS F (3 * t + j)) (L (2 + t))) (L 0)) w hx hb hr hlocks hK hH (⟨by unfold sCount; first | rfl | exact hI3.symm | exact hI16.symm | (rw [cups_all h60 hV.2.1 hV.2.2.1]; rfl) | (rw [if_neg q0, if_neg q1, if_neg q2, if_neg q3, if_neg q4, if_neg q5, if_neg q6, if_neg q7, if_neg q8, if_neg q9, if_neg q10]), rfl⟩) dX6_count_118
  by_cases q8 : what = 8
  · subst q8
    refine lv_tableIn (tgt := 119) (off := 118) hx hb dX6_count_1 (by decide) (by decide) (by decide) (by decide) ?_
    refine lv_aload_n hx hb dX6_count_119 rfl (lv_at hl 0 rfl) ?_
    refine x_get (C := RX6) (T := TX6) (N := 12) hx hb hts hiX6 hown hK hH hc_a rfl 8 (by decide) hf50 (fun _ h => h) (v := .int (I 30)) rfl dX6_count_120 ?_
    exact x_iret (v := I 30) w hx hb hr hlocks hK hH (⟨by unfold sCount; first | rfl | exact hI3.symm | exact hI16.symm | (rw [cups_all h60 hV.2.1 hV.2.2.1]; rfl) | (rw [if_neg q0, if_neg q1, if_neg q2, if_neg q3, if_neg q4, if_neg q5, if_neg q6, if_neg q7, if_neg q8, if_neg q9, if_neg q10]), rfl⟩) dX6_count_123
  by_cases q9 : what = 9
  · subst q9
    refine lv_tableIn (tgt := 124) (off := 123) hx hb dX6_count_1 (by decide) (by decide) (by decide) (by decide) ?_
    refine lv_aload_n hx hb dX6_count_124 rfl (lv_at hl 0 rfl) ?_
    refine x_get (C := RX6) (T := TX6) (N := 12) hx hb hts hiX6 hown hK hH hc_a rfl 10 (by decide) hf56 (fun _ h => h) (v := .int (I 31)) rfl dX6_count_125 ?_
    exact x_iret (v := I 31) w hx hb hr hlocks hK hH (⟨by unfold sCount; first | rfl | exact hI3.symm | exact hI16.symm | (rw [cups_all h60 hV.2.1 hV.2.2.1]; rfl) | (rw [if_neg q0, if_neg q1, if_neg q2, if_neg q3, if_neg q4, if_neg q5, if_neg q6, if_neg q7, if_neg q8, if_neg q9, if_neg q10]), rfl⟩) dX6_count_128
  by_cases q10 : what = 10
  · subst q10
    refine lv_tableIn (tgt := 129) (off := 128) hx hb dX6_count_1 (by decide) (by decide) (by decide) (by decide) ?_
    refine lv_aload_n hx hb dX6_count_129 rfl (lv_at hl 0 rfl) ?_
    refine x_get (C := RX6) (T := TX6) (N := 12) hx hb hts hiX6 hown hK hH hc_a rfl 11 (by decide) hf59 (fun _ h => h) (v := .int (I 32)) rfl dX6_count_130 ?_
    exact x_iret (v := I 32) w hx hb hr hlocks hK hH (⟨by unfold sCount; first | rfl | exact hI3.symm | exact hI16.symm | (rw [cups_all h60 hV.2.1 hV.2.2.1]; rfl) | (rw [if_neg q0, if_neg q1, if_neg q2, if_neg q3, if_neg q4, if_neg q5, if_neg q6, if_neg q7, if_neg q8, if_neg q9, if_neg q10]), rfl⟩) dX6_count_133
  refine lv_tableOut (tgt := 134) hx hb dX6_count_1 (swOut 10 (fun k hk => by rcases (show k = 0 ∨ k = 1 ∨ k = 2 ∨ k = 3 ∨ k = 4 ∨ k = 5 ∨ k = 6 ∨ k = 7 ∨ k = 8 ∨ k = 9 ∨ k = 10 by omega) with rfl | rfl | rfl | rfl | rfl | rfl | rfl | rfl | rfl | rfl | rfl <;> assumption)) (by decide) ?_
  refine lv_iconst (v := (-1)) hx hb dX6_count_134 (by decide) ?_
  exact x_iret (v := (-1)) w hx hb hr hlocks hK hH (⟨by unfold sCount; first | rfl | exact hI3.symm | exact hI16.symm | (rw [cups_all h60 hV.2.1 hV.2.2.1]; rfl) | (rw [if_neg q0, if_neg q1, if_neg q2, if_neg q3, if_neg q4, if_neg q5, if_neg q6, if_neg q7, if_neg q8, if_neg q9, if_neg q10]), rfl⟩) dX6_count_135
