
theorem rep_next {G : XG} {w u : XW} {ad : YA} {E : YE} {cp L wd bw : Nat → Nat} {lb : Nat → Option Nat} {I : Nat → Int32} {F : Nat → Nat → Int32} (hR : Rep G w ad E cp L wd bw lb I F) {x : Int32} (hu : u (ad 0 0 0) = some (.inr (7, [.ref (ad 1 0 0), .ref (ad 2 0 0), .ref (ad 3 0 0), .ref (ad 5 0 0), .ref (ad 5 1 0), .ref (ad 7 0 0), .ref (ad 8 0 0), .int x, .int (I 30), .int (I 29), .int (I 31), .int (I 32)]))) (hfr : ∀ y, y ≠ ad 0 0 0 → u y = w y) : Rep G u ad E cp L wd bw lb (va_up I 0 x) F := by
  refine hR.step (fun k i' j => k = 0) ?_ ?_
  · rintro k i' j hk rfl
    obtain ⟨rfl, rfl⟩ := hk
    rw [hu]
    simp [cst, va_up]
  · intro k i' j hk hx
    refine ⟨hfr _ (hR.ne hk (⟨rfl, rfl⟩ : lvK L 0 0 0) (fun z => hx z.1)), ?_⟩
    unfold agr
    split <;> simp_all [va_up]
theorem inv_next {now : Nat} {L wd bw : Nat → Nat} {lb : Nat → Option Nat} {I : Nat → Int32} {F : Nat → Nat → Int32} (h : Inv now L wd bw lb I F) (hn : now < 3650) : Inv (now + 1) L wd bw lb (va_up I 0 (nI (now + 1))) F := by
  obtain ⟨⟨a1, a2, a3, a4, a5⟩, hT, hZ, ⟨g1, g2, g3⟩, hB⟩ := h
  refine ⟨⟨up_k _ _ _, by omega, by rw [up_n _ _ (by decide)]; exact a3, a4, a5⟩, hT, hZ, ⟨g1, fun t ht i hi => ?_, g3⟩, IvB_c rfl (up_n _ _ (by decide)) rfl rfl rfl rfl rfl rfl rfl rfl hB⟩
  obtain ⟨⟨la, b1, b2⟩, ⟨oy, c1, c2⟩, d⟩ := g2 t ht i hi
  exact ⟨⟨la, b1, by omega⟩, ⟨oy, c1, by omega⟩, d⟩
theorem day_dA {now : Nat} {L wd bw : Nat → Nat} {lb : Nat → Option Nat} {I : Nat → Int32} {F : Nat → Nat → Int32} (h : Inv now L wd bw lb I F) : dayS (L 0) now (I, F) = (va_up (dA now L F (I, F) (L 0)).1 0 (nI (now + 1)), (dA now L F (I, F) (L 0)).2) := by
  obtain ⟨⟨a1, a2, a3, a4, a5⟩, hT, hZ, ⟨g1, g2, g3⟩, hB⟩ := h
  have e := dA_eq now L I F (L 0) (fun t ht => ⟨(hT t ht).2.2.2.2.2.1, (hT t ht).2.2.2.2.2.2.2, fun j hj => by
    obtain ⟨-, ⟨oy, c1, c2⟩, -⟩ := g2 t ht j hj
    obtain ⟨gr, k1, k2⟩ := gradI_nat a2 c1 c2
    exact ⟨gr, k1, by rw [k2, ix_n (by omega)]⟩, g3 t ht⟩)
  rw [e]
  rfl
theorem goS_s {nT k now : Nat} {u : MS} {I1 : Nat → Int32} {F1 : Nat → Nat → Int32} (h : (I1, F1) = goS nT u k) (h0 : I1 0 = nI now) (hn : now < 3650) : goS nT u (k + 1) = dayS nT now (I1, F1) := by
  show (if ix ((goS nT u k).1 0) < 3650 then dayS nT (ix ((goS nT u k).1 0)) (goS nT u k) else goS nT u k) = _
  rw [← h]
  show (if ix (I1 0) < 3650 then dayS nT (ix (I1 0)) (I1, F1) else (I1, F1)) = _
  rw [h0, ix_n (by omega), if_pos hn]

set_option maxHeartbeats 4000000 in
set_option maxRecDepth 100000 in
theorem c_X6_go (l : Launch) (G : XG) (A : Nat → Prop) (w : XW) (a : Nat) (ad : YA) (E : YE) (cp L wd bw : Nat → Nat) (lb : Nat → Option Nat) (I : Nat → Int32) (F : Nat → Nat → Int32) (hc_a : w a = some (.inr (7, [.ref (ad 1 0 0), .ref (ad 2 0 0), .ref (ad 3 0 0), .ref (ad 5 0 0), .ref (ad 5 1 0), .ref (ad 7 0 0), .ref (ad 8 0 0), .int (I 0), .int (I 30), .int (I 29), .int (I 31), .int (I 32)]))) (now : Nat) (hR : Rep G w ad E cp L wd bw lb I F) (hV : Inv now L wd bw lb I F) (ha : a = ad 0 0 0) (hE : ∀ j, E 9 4 0 j = 0) (n0 : Int32) : Met l yX6_go wsX6_go ({ frames := 4, cells := 0, slots := 0, locals := 92 }) (va_Pc [.ref a, .int n0] (xP G A (w))) (va_Qi (fun (r : Int32) (u : XW) => r = (sGo I F (L 0) n0).1 ∧ Nx G w u a (own ad L) (sGo I F (L 0) n0).2.1 (sGo I F (L 0) n0).2.2) (fun u t => xB G A (u) t) A) 0 0 A := by
  refine Met.ofW (cc := cX6_go) (maxL := 3) (ret := (some .int)) (by decide) rfl ?_
  intro p e s m args below meth c s₁ B hml hv
  obtain ⟨rfl, hK, hH, hTt⟩ := hv
  have hx := B.exec
  have hb := B.bytes
  have hr := B.returns
  have hts := atoms_spec (ws := wsX6_go) B.pre
  have hown : s.vm.findClass RX6 = some m.cls := findClass_of_methodNamed B.named
  have hlocks := B.notSynchronized
  have hiX6 : ∀ w ∈ wsX60, w ∈ wsX6_go := by decide +kernel
  have hf46 := hts (.fieldLink RX6 46 "ResinWoods" "now" "I") (by decide +kernel)
  have hl := lv_entry ([.ref a, .int n0]) (n := 3) (Nat.le_of_ble_eq_true rfl)
  rw [lg_entry_eq]
  generalize (lg_sl ([.ref a, .int n0]) ++ List.replicate (3 - (lg_sl ([.ref a, .int n0])).length) Slot.unset).toArray = ls at hl ⊢
  have hl : lv_has ls 3 [(0, .ref a), (1, .int n0)] := hl
  have h60 : L 0 ≤ 60 := hV.1.2.2.2.1
  have hI3 : I 3 = nI (L 0) := hV.1.2.2.1
  have hI0 : I 0 = nI now := hV.1.1
  have hnow : now ≤ 3650 := hV.1.2.1
  obtain ⟨fa, hfa⟩ : ∃ z : Nat → Nat, z = fun j => ad 12 j 0 := ⟨_, rfl⟩
  obtain ⟨fba, hfba⟩ : ∃ z : Nat → Nat, z = fun j => ad 15 j 0 := ⟨_, rfl⟩
  obtain ⟨hs, hBV, hB1, hB2, hB3, hB4, hB5⟩ := hV.2.2.2.2
  have hI16 : I 16 = nI (L 1) := hBV.1
  have h200 : L 1 ≤ 200 := hBV.2.1
  obtain ⟨fwa, hfwa⟩ : ∃ z : Nat → Nat, z = fun j => ad 4 j 0 := ⟨_, rfl⟩
  refine lv_iload_n hx hb dX6_go_0 rfl (lv_at hl 1 rfl) ?_
  refine lv_if_lt (tgt := 11) hx hb dX6_go_1 (by decide) (fun c1 => ?_) (fun c1 => ?_)
  · have hbq : binI n0 0 400 = 0 := by unfold binI; rw [if_pos c1]
    refine lv_iconst (v := (-1)) hx hb dX6_go_11 (by decide) ?_
    exact x_iret (v := (-1)) w hx hb hr hlocks hK hH (by rw [show sGo I F (L 0) n0 = (-1, I, F) from if_pos hbq]; exact ⟨rfl, Nx.same hR hV ha hE (fun _ _ => rfl)⟩) dX6_go_12
  · refine lv_iload_n hx hb dX6_go_4 rfl (lv_at hl 1 rfl) ?_
    refine lv_sipush (v := 400) hx hb dX6_go_5 (by decide) ?_
    refine lv_icmp_le (tgt := 13) hx hb dX6_go_8 (by decide) (fun c8 => ?_) (fun c8 => ?_)
    · have hbq : ¬ binI n0 0 400 = 0 := by unfold binI; rw [if_neg c1, if_neg (show ¬ (400 : Int32) < n0 from fun z => by rw [Int32.lt_iff_toInt_lt] at z; rw [Int32.le_iff_toInt_le] at c8; omega)]; decide
      obtain ⟨n, -, hn4, rfl⟩ := inI_nat (a := 0) (b := 400) (binI_1.mp hbq) (by decide) (by decide)
      refine lv_aload_n hx hb dX6_go_13 rfl (lv_at hl 0 rfl) ?_
      refine x_get (C := RX6) (T := TX6) (N := 12) hx hb hts hiX6 hown hK hH hc_a rfl 7 (by decide) hf46 (fun _ h => h) (v := .int (I 0)) rfl dX6_go_14 ?_
      refine lv_iload_n hx hb dX6_go_17 rfl (lv_at hl 1 rfl) ?_
      refine lv_iadd hx hb dX6_go_18 ?_
      refine lv_sipush (v := 3650) hx hb dX6_go_19 (by decide) ?_
      refine va_mmin hx hb (by rw [hml]; exact hl.1.symm) hown (hts (.methodLink RX6 131 Lib.Math.min.name) (by decide +kernel)) (hts (.static Lib.Math.min.name) (by decide +kernel)) (hts (.initialized "java/lang/Math") (by decide +kernel)) (hts (.code Lib.Math.min.name Lib.Math.min.code 2 (some .int)) (by decide +kernel)) (Nat.le_of_ble_eq_true rfl) (Nat.le_of_ble_eq_true rfl) (Nat.le_of_ble_eq_true rfl) (Nat.le_of_ble_eq_true rfl) dX6_go_22 ?_
      refine lv_topi (fun v25 ev25 => ?_)
      have hla : ∃ la, v25 = nI la ∧ la ≤ 3650 ∧ now ≤ la ∧ (la = now + n ∨ (la = 3650 ∧ 3650 < now + n)) := by
        rw [hI0] at ev25
        refine ⟨if 3650 < now + n then 3650 else now + n, ?_, ?_, ?_, ?_⟩
        · rw [ev25, nI_add]
          exact mn_nat (b := 3650) (by omega) (by decide)
        · split <;> omega
        · split <;> omega
        · split <;> omega
      obtain ⟨la, rfl, hla1, hla2, hla3⟩ := hla
      refine lv_istore_n (lv' := [(2, .int (nI la)), (0, .ref a), (1, .int (nI n))]) hx hb dX6_go_25 rfl hl (by decide) rfl (fun ls hl => ?_)
      suffices loop26 : ∀ (k26 : Nat) (k : Nat) (wl : XW) (I1 : Nat → Int32) (F1 : Nat → Nat → Int32), (la < now + k + k26) → (now + k ≤ la) → ((I1, F1) = goS (L 0) (I, F) k) → (Rep G wl ad E cp L wd bw lb I1 F1) → (Inv (now + k) L wd bw lb I1 F1) → (Kp w wl ad L) → ∀ (H : Heap) (locs : List Loc), xH G A s.heap H locs (wl) → ∀ (ls : Array Slot), lv_has ls 3 [(0, .ref a), (1, .int (nI n)), (2, .int (nI la))] → W p l e (headSpec wsX6_go _).room s m _ below meth c H locs 0 0 (MQ below _ _ s 0 0 A) (F0 m 26 ls []) from
        loop26 (la + 1) 0 w I F (by omega) (by omega) (rfl) (hR) (hV) (fun _ _ => rfl) _ _ hH ls (lv_sub hl [1, 2, 0] rfl)
      intro k26
      induction k26 with
      | zero =>
        intro k wl I1 F1 hfuel hk9 hS hR1 hV1 hKp H locs hH ls hl
        exact absurd hfuel (by omega)
      | succ k26 ih26 =>
        intro k wl I1 F1 hfuel hk9 hS hR1 hV1 hKp H locs hH ls hl
        have hI01 : I1 0 = nI (now + k) := hV1.1.1
        have hc_a : wl a = some (.inr (7, [.ref (ad 1 0 0), .ref (ad 2 0 0), .ref (ad 3 0 0), .ref (ad 5 0 0), .ref (ad 5 1 0), .ref (ad 7 0 0), .ref (ad 8 0 0), .int (nI (now + k)), .int (I1 30), .int (I1 29), .int (I1 31), .int (I1 32)])) := by rw [ha, ← hI01]; exact hR1.root
        refine lv_aload_n hx hb dX6_go_26 rfl (lv_at hl 0 rfl) ?_
        refine x_get (C := RX6) (T := TX6) (N := 12) hx hb hts hiX6 hown hK hH hc_a rfl 7 (by decide) hf46 (fun _ h => h) (v := .int (nI (now + k))) rfl dX6_go_27 ?_
        refine lv_iload_n hx hb dX6_go_30 rfl (lv_at hl 2 rfl) ?_
        refine lv_icmp_ge (tgt := 51) hx hb dX6_go_31 (by decide) (fun c31 => ?_) (fun c31 => ?_)
        · have c31 : la ≤ (now + k) := (nI_leI (a := la) (b := (now + k)) (by omega) (by omega)).mp c31
          refine lv_aload_n hx hb dX6_go_51 rfl (lv_at hl 0 rfl) ?_
          refine x_get (C := RX6) (T := TX6) (N := 12) hx hb hts hiX6 hown hK hH hc_a rfl 7 (by decide) hf46 (fun _ h => h) (v := .int (nI (now + k))) rfl dX6_go_52 ?_
          exact x_iret (v := nI (now + k)) wl hx hb hr hlocks hK hH (by have hfin : goS (L 0) (I, F) n = (I1, F1) := (by rcases hla3 with h9 | ⟨h8, h9⟩ <;> first | (rw [show n = k by omega]; exact hS.symm) | (have h7 := goS_stop (nT := L 0) (u := (I, F)) (k := k) (by rw [← hS]; show ¬ ix (I1 0) < 3650; rw [hI01, ix_n (by omega)]; omega) (n - k); rw [show k + (n - k) = n by omega] at h7; rw [h7]; exact hS.symm)); rw [show sGo I F (L 0) (nI n) = ((goS (L 0) (I, F) n).1 0, goS (L 0) (I, F) n) from (by unfold sGo; rw [if_neg hbq, ix_n (by omega)]), hfin]; exact ⟨hI01.symm, Nx.same hR1 hV1 ha hE hKp⟩) dX6_go_55
        · have c31 : ¬ la ≤ (now + k) := fun zz => c31 ((nI_leI (a := la) (b := (now + k)) (by omega) (by omega)).mpr zz)
          refine lv_aload_n hx hb dX6_go_34 rfl (lv_at hl 0 rfl) ?_
          refine x_callv (va_runV (As := []) (rest := []) ⟨hx, hb, hml, hown, hts⟩ (c_X6_endDay l G A _ a ad E cp L wd bw lb I1 F1 (by rw [ha]; exact hR1.root) (now + k) hR1 hV1 ha (by omega)) (cwV 0 hts gX6_go_X6_endDay rfl rfl rfl (by decide +kernel) ⟨Nat.le_of_ble_eq_true rfl, Nat.le_of_ble_eq_true rfl⟩) (x_preV hK hH hTt (hc_a) rfl []) rfl rfl hl.1 rfl (lv_room (Nat.le_of_ble_eq_true rfl)) dX6_go_35 ⟨Nat.le_of_ble_eq_true rfl, Nat.le_of_ble_eq_true rfl⟩) hH (fun w35 H locs hp hH => ?_)
          obtain ⟨hR2, hV2, hKp2⟩ := hp
          have hI2 : (dA (now + k) L F1 (I1, F1) (L 0)).1 0 = nI (now + k) := hV2.1.1
          have hc_a : w35 a = some (.inr (7, [.ref (ad 1 0 0), .ref (ad 2 0 0), .ref (ad 3 0 0), .ref (ad 5 0 0), .ref (ad 5 1 0), .ref (ad 7 0 0), .ref (ad 8 0 0), .int (nI (now + k)), .int (((dA (now + k) L F1 (I1, F1) (L 0)).1) 30), .int (((dA (now + k) L F1 (I1, F1) (L 0)).1) 29), .int (((dA (now + k) L F1 (I1, F1) (L 0)).1) 31), .int (((dA (now + k) L F1 (I1, F1) (L 0)).1) 32)])) := by rw [ha, ← hI2]; exact hR2.root
          refine lv_aload_n hx hb dX6_go_38 rfl (lv_at hl 0 rfl) ?_
          refine lv_dup hx hb dX6_go_39 rfl ?_
          refine x_get (C := RX6) (T := TX6) (N := 12) hx hb hts hiX6 hown hK hH hc_a rfl 7 (by decide) hf46 (fun _ h => h) (v := .int (nI (now + k))) rfl dX6_go_40 ?_
          refine lv_iconst (v := 1) hx hb dX6_go_43 (by decide) ?_
          refine N_iadd hx hb (now + k) 1 rfl rfl dX6_go_44 ?_
          refine x_put (C := RX6) (T := TX6) (N := 12) (ty := .int) hx hb hts hiX6 tyX6 tyX6_ok nmX6 hown hK hH hc_a rfl 7 (by decide) hf46 (fun _ h => h) rfl (by decide +kernel) rfl rfl (Nat.le_of_ble_eq_true rfl) dX6_go_45 (fun H locs hH => ?_)
          have hH : xH G A s.heap H locs (va_up w35 a (some (.inr (7, [.ref (ad 1 0 0), .ref (ad 2 0 0), .ref (ad 3 0 0), .ref (ad 5 0 0), .ref (ad 5 1 0), .ref (ad 7 0 0), .ref (ad 8 0 0), .int (nI ((now + k) + 1)), .int (((dA (now + k) L F1 (I1, F1) (L 0)).1) 30), .int (((dA (now + k) L F1 (I1, F1) (L 0)).1) 29), .int (((dA (now + k) L F1 (I1, F1) (L 0)).1) 31), .int (((dA (now + k) L F1 (I1, F1) (L 0)).1) 32)])))) := hH
          obtain ⟨w45, ew45⟩ : ∃ z, z = va_up w35 a (some (.inr (7, [.ref (ad 1 0 0), .ref (ad 2 0 0), .ref (ad 3 0 0), .ref (ad 5 0 0), .ref (ad 5 1 0), .ref (ad 7 0 0), .ref (ad 8 0 0), .int (nI ((now + k) + 1)), .int (((dA (now + k) L F1 (I1, F1) (L 0)).1) 30), .int (((dA (now + k) L F1 (I1, F1) (L 0)).1) 29), .int (((dA (now + k) L F1 (I1, F1) (L 0)).1) 31), .int (((dA (now + k) L F1 (I1, F1) (L 0)).1) 32)]))) := ⟨_, rfl⟩
          rw [← ew45] at hH
          have wne : ∀ y, y ≠ a → w45 y = w35 y := fun y hy => by rw [ew45]; exact if_neg hy
          have hrn := rep_next (u := w45) (x := nI (now + k + 1)) hR2 (by rw [← ha, ew45]; exact if_pos rfl) (fun y hy => wne y (by rw [ha]; exact hy))
          have hst := (goS_s hS hI01 (by omega)).trans (day_dA hV1)
          refine lv_goto (tgt := 26) hx hb dX6_go_48 (by decide) ?_
          exact ih26 (k + 1) w45 (va_up (dA (now + k) L F1 (I1, F1) (L 0)).1 0 (nI (now + k + 1))) ((dA (now + k) L F1 (I1, F1) (L 0)).2) (by omega) (by omega) (hst.symm) (hrn) (show Inv (now + k + 1) L wd bw lb _ _ from inv_next (now := now + k) hV2 (by omega)) (hKp.trans (hKp2.trans (fun y hy => wne y (by rw [ha]; exact hy 0 0 0 ⟨rfl, rfl⟩)))) _ _ hH ls (lv_sub hl [0, 1, 2] rfl)
    · have hbq : binI n0 0 400 = 0 := by unfold binI; rw [if_neg c1, if_pos (show (400 : Int32) < n0 from by rw [Int32.lt_iff_toInt_lt]; rw [Int32.le_iff_toInt_le] at c8; omega)]
      refine lv_iconst (v := (-1)) hx hb dX6_go_11 (by decide) ?_
      exact x_iret (v := (-1)) w hx hb hr hlocks hK hH (by rw [show sGo I F (L 0) n0 = (-1, I, F) from if_pos hbq]; exact ⟨rfl, Nx.same hR hV ha hE (fun _ _ => rfl)⟩) dX6_go_12
