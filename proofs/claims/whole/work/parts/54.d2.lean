
/-- cells that aren't the object's stand -/
def Kp (w u : XW) (ad : YA) (L : Nat → Nat) : Prop := ∀ y, (∀ k i j, lvK L k i j → y ≠ ad k i j) → u y = w y
theorem gr4_set (F : Nat → Nat → Int32) {k : Nat} (j : Nat) (x : Int32) (f : Nat) (h : 14 ≠ k) : gr4 (setA F k j x) f = gr4 F f := by
  funext g
  unfold gr4
  rw [setA_n _ _ _ h]
theorem bg4_set (F : Nat → Nat → Int32) {k : Nat} (j : Nat) (x : Int32) (f : Nat) (h : 18 ≠ k) : bg4 (setA F k j x) f = bg4 F f := by
  funext g
  unfold bg4
  rw [setA_n _ _ _ h]
theorem bt60_set (F : Nat → Nat → Int32) {k : Nat} (j : Nat) (x : Int32) (f : Nat) (h : 19 ≠ k) : bt60 (setA F k j x) f = bt60 F f := by
  funext g
  unfold bt60
  rw [setA_n _ _ _ h]
theorem rep_let {G : XG} {w u : XW} {ad : YA} {E : YE} {cp L wd bw : Nat → Nat} {lb : Nat → Option Nat} {I : Nat → Int32} {F : Nat → Nat → Int32} (hR : Rep G w ad E cp L wd bw lb I F) {i : Nat} (hi : i < 6) {q : Int32} (hu1 : u (ad 4 i 0) = some (.inr (6, [.int (nI i), .int 1, .int q, .int 0, .int 0, va_rf ((lb i).map (fun b => ad 15 b 0))]))) (hfr : ∀ y, y ≠ ad 4 i 0 → u y = w y) : Rep G u ad E cp L wd bw lb I (setA (setA (setA (setA F 22 i 1) 23 i q) 24 i 0) 25 i 0) := by
  refine hR.step (fun k i' j => k = 4 ∧ i' = i) ?_ ?_
  · rintro k i' j hk ⟨rfl, rfl⟩
    have hj : j = 0 := hk.2
    subst hj
    rw [hu1]
    simp [cst, setA_e]
  · intro k i' j hk hx
    refine ⟨hfr _ (hR.ne hk (⟨hi, rfl⟩ : lvK L 4 i 0) (fun z => hx ⟨z.1, z.2.1⟩)), ?_⟩
    unfold agr
    split <;> simp_all [setA_e, setA_n, cupS, hasS, gr4_set, bg4_set, bt60_set, l_sum]
theorem rep_still {G : XG} {w u : XW} {ad : YA} {E : YE} {cp L wd bw : Nat → Nat} {lb : Nat → Option Nat} {I : Nat → Int32} {F : Nat → Nat → Int32} (hR : Rep G w ad E cp L wd bw lb I F) {b : Nat} (hb : b < L 1) {x y : Int32} (hu1 : u (ad 15 b 0) = some (.inr (1, [.ref (ad 4 (bw b) 0), .int (hasS F b), .ref (ad 16 b 0), .ref (ad 17 b 0), .int 1, .int (F 21 b)]))) (hu2 : u (ad 0 0 0) = some (.inr (7, [.ref (ad 1 0 0), .ref (ad 2 0 0), .ref (ad 3 0 0), .ref (ad 5 0 0), .ref (ad 5 1 0), .ref (ad 7 0 0), .ref (ad 8 0 0), .int (I 0), .int (I 30), .int (I 29), .int x, .int y]))) (hfr : ∀ z, z ≠ ad 0 0 0 → z ≠ ad 15 b 0 → u z = w z) : Rep G u ad E cp L wd bw lb (va_up (va_up I 31 x) 32 y) (setA F 20 b 1) := by
  refine hR.step (fun k i' j => (k = 15 ∧ i' = b) ∨ k = 0) ?_ ?_
  · rintro k i' j hk (⟨rfl, rfl⟩ | rfl)
    · have hj : j = 0 := hk.2
      subst hj
      rw [hu1]
      simp [cst, setA_e, hasS_set]
    · obtain ⟨rfl, rfl⟩ := hk
      rw [hu2]
      simp [cst, va_up]
  · intro k i' j hk hx
    refine ⟨hfr _ (hR.ne hk (⟨rfl, rfl⟩ : lvK L 0 0 0) (fun z => hx (Or.inr z.1))) (hR.ne hk (⟨hb, rfl⟩ : lvK L 15 b 0) (fun z => hx (Or.inl ⟨z.1, z.2.1⟩))), ?_⟩
    unfold agr
    split <;> simp_all [setA_e, setA_n, cupS, hasS, gr4_set, bg4_set, bt60_set, l_sum, va_up]
theorem rep_pay {G : XG} {w u : XW} {ad : YA} {E : YE} {cp L wd bw : Nat → Nat} {lb : Nat → Option Nat} {I : Nat → Int32} {F : Nat → Nat → Int32} (hR : Rep G w ad E cp L wd bw lb I F) {b : Nat} (hb : b < L 1) (hw : bw b < 6) {x : Int32} (hu1 : u (ad 15 b 0) = some (.inr (1, [.ref (ad 4 (bw b) 0), .int (hasS F b), .ref (ad 16 b 0), .ref (ad 17 b 0), .int (F 20 b), .int 1]))) (hu2 : u (ad 4 (bw b) 0) = some (.inr (6, [.int (nI (bw b)), .int (F 22 (bw b)), .int (F 23 (bw b)), .int (F 24 (bw b)), .int x, va_rf ((lb (bw b)).map (fun b => ad 15 b 0))]))) (hfr : ∀ z, z ≠ ad 15 b 0 → z ≠ ad 4 (bw b) 0 → u z = w z) : Rep G u ad E cp L wd bw lb I (setA (setA F 21 b 1) 25 (bw b) x) := by
  refine hR.step (fun k i' j => (k = 15 ∧ i' = b) ∨ (k = 4 ∧ i' = bw b)) ?_ ?_
  · rintro k i' j hk (⟨rfl, rfl⟩ | ⟨rfl, rfl⟩)
    · have hj : j = 0 := hk.2
      subst hj
      rw [hu1]
      simp [cst, setA_e, hasS_set]
    · have hj : j = 0 := hk.2
      subst hj
      rw [hu2]
      simp [cst, setA_e]
  · intro k i' j hk hx
    refine ⟨hfr _ (hR.ne hk (⟨hb, rfl⟩ : lvK L 15 b 0) (fun z => hx (Or.inl ⟨z.1, z.2.1⟩))) (hR.ne hk (⟨hw, rfl⟩ : lvK L 4 (bw b) 0) (fun z => hx (Or.inr ⟨z.1, z.2.1⟩))), ?_⟩
    unfold agr
    split <;> simp_all [setA_e, setA_n, cupS, hasS, gr4_set, bg4_set, bt60_set, l_sum]
theorem due_ok {F : Nat → Nat → Int32} {i tk rn : Nat} (hi : i < 6) (h1 : F 24 i = nI tk) (h2 : tk ≤ 200000) (h3 : F 23 i = nI rn) (h4 : rn ≤ 100) : (if F 22 i = 0 then 0 else F 24 i * F 23 i / 100 - F 25 i) = sDue F (nI i) := by
  unfold sDue
  rw [if_neg (bin6 hi), ix_n (by omega)]
  by_cases h : F 22 i = 0
  · rw [if_pos h, if_pos h]
  · rw [if_neg h, if_neg h, h1, h3, due_eq h2 h4]

set_option maxHeartbeats 4000000 in
set_option maxRecDepth 100000 in
theorem c_X6_woodAt (l : Launch) (G : XG) (A : Nat → Prop) (w : XW) (a a3 : Nat) (a1 a2 trl brl tl pl : Nat) (now em bu sp rs : Int32) (fn : Nat → Option Nat) (hc_a : w a = some (.inr (7, [.ref a1, .ref a2, .ref a3, .ref trl, .ref brl, .ref tl, .ref pl, .int now, .int em, .int bu, .int sp, .int rs]))) (hc_a3 : w a3 = some (.inl (G.2 3, 6, .inr (.inr (.inr (.inr fn)))))) (i : Int32) (fa : Nat → Nat) (hfn : ∀ j, j < 6 → fn j = some (fa j)) : Met l yX6_woodAt wsX6_woodAt ({ frames := 0, cells := 0, slots := 0, locals := 0 }) (va_Pc [.ref a, .int i] (xP G A (w))) (va_Qq (fun (r : Option Nat) (u : XW) => atR i 6 fa r ∧ u = w) (fun u t => xB G A (u) t) A) 0 0 A := by
  refine Met.ofW (cc := cX6_woodAt) (maxL := 2) (ret := (some (.object "ResinWoods$Wood"))) (by decide) rfl ?_
  intro p e s m args below meth c s₁ B hml hv
  obtain ⟨rfl, hK, hH, hTt⟩ := hv
  have hx := B.exec
  have hb := B.bytes
  have hr := B.returns
  have hts := atoms_spec (ws := wsX6_woodAt) B.pre
  have hown : s.vm.findClass RX6 = some m.cls := findClass_of_methodNamed B.named
  have hlocks := B.notSynchronized
  have hiX6 : ∀ w ∈ wsX60, w ∈ wsX6_woodAt := by decide +kernel
  have hf18 := hts (.fieldLink RX6 18 "ResinWoods" "woods" "[LResinWoods$Wood;") (by decide +kernel)
  have hl := lv_entry ([.ref a, .int i]) (n := 2) (Nat.le_of_ble_eq_true rfl)
  rw [lg_entry_eq]
  generalize (lg_sl ([.ref a, .int i]) ++ List.replicate (2 - (lg_sl ([.ref a, .int i])).length) Slot.unset).toArray = ls at hl ⊢
  have hl : lv_has ls 2 [(0, .ref a), (1, .int i)] := hl
  have ne_a_a3 : a ≠ a3 := fun e9 => by rw [e9, hc_a3] at hc_a; cases hc_a
  have ne_a3_a : a3 ≠ a := fun e9 => by rw [e9, hc_a] at hc_a3; cases hc_a3
  refine lv_iload_n hx hb dX6_woodAt_0 rfl (lv_at hl 1 rfl) ?_
  refine lv_if_lt (tgt := 10) hx hb dX6_woodAt_1 (by decide) (fun c1 => ?_) (fun c1 => ?_)
  · refine lv_null hx hb dX6_woodAt_10 ?_
    refine lv_goto (tgt := 20) hx hb dX6_woodAt_11 (by decide) ?_
    exact x_aret (r := none) w hx hb hr hlocks (Or.inl ⟨_, rfl⟩) hK hH (⟨by first | exact atR_in hj1 (by decide) | exact atR_neg c1 (by decide) | exact atR_big (n := 6) c7 (by decide), rfl⟩) dX6_woodAt_20
  · refine lv_iload_n hx hb dX6_woodAt_4 rfl (lv_at hl 1 rfl) ?_
    refine lv_bipush (v := 6) hx hb dX6_woodAt_5 (by decide) ?_
    refine lv_icmp_lt (tgt := 14) hx hb dX6_woodAt_7 (by decide) (fun c7 => ?_) (fun c7 => ?_)
    · obtain ⟨j1, hj0, rfl⟩ := nI_of c1
      have hj1 : j1 < 6 := (nI_ltI (b := 6) hj0 (by decide)).mp c7
      refine lv_aload_n hx hb dX6_woodAt_14 rfl (lv_at hl 0 rfl) ?_
      refine x_get (C := RX6) (T := TX6) (N := 12) hx hb hts hiX6 hown hK hH hc_a rfl 2 (by decide) hf18 (fun _ h => h) (v := .ref a3) rfl dX6_woodAt_15 ?_
      refine lv_iload_n hx hb dX6_woodAt_18 rfl (lv_at hl 1 rfl) ?_
      refine x_aldr (z := 3) hx hb hK hH rfl hc_a3 j1 rfl (by omega) (by decide) (hfn j1 hj1) dX6_woodAt_19 ?_
      exact x_aret (r := some (fa j1)) w hx hb hr hlocks (Or.inl ⟨_, rfl⟩) hK hH (⟨by first | exact atR_in hj1 (by decide) | exact atR_neg c1 (by decide) | exact atR_big (n := 6) c7 (by decide), rfl⟩) dX6_woodAt_20
    · refine lv_null hx hb dX6_woodAt_10 ?_
      refine lv_goto (tgt := 20) hx hb dX6_woodAt_11 (by decide) ?_
      exact x_aret (r := none) w hx hb hr hlocks (Or.inl ⟨_, rfl⟩) hK hH (⟨by first | exact atR_in hj1 (by decide) | exact atR_neg c1 (by decide) | exact atR_big (n := 6) c7 (by decide), rfl⟩) dX6_woodAt_20
