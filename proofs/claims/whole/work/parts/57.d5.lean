
theorem wfill_ne (F : Nat → Nat → Int32) (a d : Nat) (w r : Int32) {k : Nat} (h1 : k ≠ 1) (h2 : k ≠ 2) : wfill F a d w r k = F k := by
  funext j
  unfold wfill
  rw [if_neg (fun z => h1 z.1), if_neg (fun z => h2 z.1)]
theorem wfill_1 (F : Nat → Nat → Int32) {a d : Nat} (w r : Int32) (h : a ≤ d) : upd (wfill F a d w r 1) d w = wfill F a (d + 1) w r 1 := by
  rw [← wfill_s F w r h, setA_n _ _ _ (by decide), setA_k]
theorem wfill_2 (F : Nat → Nat → Int32) {a d : Nat} (w r : Int32) (h : a ≤ d) : upd (wfill F a d w r 2) d r = wfill F a (d + 1) w r 2 := by
  rw [← wfill_s F w r h, setA_k, setA_n _ _ _ (by decide)]
theorem gr4_c {F F' : Nat → Nat → Int32} (h : F' 14 = F 14) (f : Nat) : gr4 F' f = gr4 F f := by unfold gr4; rw [h]
theorem cupS_c {F F' : Nat → Nat → Int32} (h : F' 14 = F 14) (f : Nat) : cupS F' f = cupS F f := by unfold cupS; rw [h]
theorem hasS_c {F F' : Nat → Nat → Int32} (h : F' 18 = F 18) (f : Nat) : hasS F' f = hasS F f := by unfold hasS; rw [h]
theorem bg4_c {F F' : Nat → Nat → Int32} (h : F' 18 = F 18) (f : Nat) : bg4 F' f = bg4 F f := by unfold bg4; rw [h]
theorem bt60_c {F F' : Nat → Nat → Int32} (h : F' 19 = F 19) (f : Nat) : bt60 F' f = bt60 F f := by unfold bt60; rw [h]
theorem rep_weather {G : XG} {w u : XW} {ad : YA} {E : YE} {cp L wd bw : Nat → Nat} {lb : Nat → Option Nat} {I : Nat → Int32} {F : Nat → Nat → Int32} (hR : Rep G w ad E cp L wd bw lb I F) {a d : Nat} {x y : Int32} (hu1 : u (ad 1 0 0) = some (.inl (G.2 2, 3650, .inl (wfill F a d x y 1)))) (hu2 : u (ad 2 0 0) = some (.inl (G.2 2, 3650, .inl (wfill F a d x y 2)))) (hfr : ∀ z, z ≠ ad 1 0 0 → z ≠ ad 2 0 0 → u z = w z) : Rep G u ad E cp L wd bw lb I (wfill F a d x y) := by
  refine hR.step (fun k i' j => k = 1 ∨ k = 2) ?_ ?_
  · rintro k i' j hk (rfl | rfl)
    · obtain ⟨rfl, rfl⟩ := hk
      rw [hu1]
      rfl
    · obtain ⟨rfl, rfl⟩ := hk
      rw [hu2]
      rfl
  · intro k i' j hk hx
    refine ⟨hfr _ (hR.ne hk (⟨rfl, rfl⟩ : lvK L 1 0 0) (fun z => hx (Or.inl z.1))) (hR.ne hk (⟨rfl, rfl⟩ : lvK L 2 0 0) (fun z => hx (Or.inr z.1))), ?_⟩
    have h14 := wfill_ne F a d x y (k := 14) (by decide) (by decide)
    have h18 := wfill_ne F a d x y (k := 18) (by decide) (by decide)
    have h19 := wfill_ne F a d x y (k := 19) (by decide) (by decide)
    unfold agr
    split <;> simp_all [wfill_ne, cupS_c, hasS_c, gr4_c, bg4_c, bt60_c]
theorem sW_bad {I : Nat → Int32} {F : Nat → Nat → Int32} {fr to w r : Int32} (h : binI fr (I 0) 3649 = 0 ∨ binI to fr 3649 = 0 ∨ binI w 0 9 = 0 ∨ binI r 0 9 = 0) : sWeather I F fr to w r = (0, I, F) := by
  unfold sWeather
  by_cases h1 : binI fr (I 0) 3649 = 0
  · rw [if_pos h1]
  · by_cases h2 : binI to fr 3649 = 0
    · rw [if_neg h1, if_pos h2]
    · by_cases h3 : binI w 0 9 = 0
      · rw [if_neg h1, if_neg h2, if_pos h3]
      · by_cases h4 : binI r 0 9 = 0
        · rw [if_neg h1, if_neg h2, if_neg h3, if_pos h4]
        · rcases h with h | h | h | h <;> contradiction

set_option maxHeartbeats 4000000 in
set_option maxRecDepth 100000 in
theorem c_X6_weather (l : Launch) (G : XG) (A : Nat → Prop) (w : XW) (a : Nat) (ad : YA) (E : YE) (cp L wd bw : Nat → Nat) (lb : Nat → Option Nat) (I : Nat → Int32) (F : Nat → Nat → Int32) (hc_a : w a = some (.inr (7, [.ref (ad 1 0 0), .ref (ad 2 0 0), .ref (ad 3 0 0), .ref (ad 5 0 0), .ref (ad 5 1 0), .ref (ad 7 0 0), .ref (ad 8 0 0), .int (I 0), .int (I 30), .int (I 29), .int (I 31), .int (I 32)]))) (now : Nat) (hR : Rep G w ad E cp L wd bw lb I F) (hV : Inv now L wd bw lb I F) (fr to x0 y0 : Int32) : Met l yX6_weather wsX6_weather ({ frames := 1, cells := 0, slots := 0, locals := 20 }) (va_Pc [.ref a, .int fr, .int to, .int x0, .int y0] (xP G A (w))) (va_Qi (fun (r : Int32) (u : XW) => r = (sWeather I F fr to x0 y0).1 ∧ Rep G u ad E cp L wd bw lb (sWeather I F fr to x0 y0).2.1 (sWeather I F fr to x0 y0).2.2 ∧ Kp w u ad L) (fun u t => xB G A (u) t) A) 0 0 A := by
  refine Met.ofW (cc := cX6_weather) (maxL := 6) (ret := (some .boolean)) (by decide) rfl ?_
  intro p e s m args below meth c s₁ B hml hv
  obtain ⟨rfl, hK, hH, hTt⟩ := hv
  have hx := B.exec
  have hb := B.bytes
  have hr := B.returns
  have hts := atoms_spec (ws := wsX6_weather) B.pre
  have hown : s.vm.findClass RX6 = some m.cls := findClass_of_methodNamed B.named
  have hlocks := B.notSynchronized
  have hiX6 : ∀ w ∈ wsX60, w ∈ wsX6_weather := by decide +kernel
  have hf9 := hts (.fieldLink RX6 9 "ResinWoods" "warmths" "[B") (by decide +kernel)
  have hf13 := hts (.fieldLink RX6 13 "ResinWoods" "rains" "[B") (by decide +kernel)
  have hf46 := hts (.fieldLink RX6 46 "ResinWoods" "now" "I") (by decide +kernel)
  have hl := lv_entry ([.ref a, .int fr, .int to, .int x0, .int y0]) (n := 6) (Nat.le_of_ble_eq_true rfl)
  rw [lg_entry_eq]
  generalize (lg_sl ([.ref a, .int fr, .int to, .int x0, .int y0]) ++ List.replicate (6 - (lg_sl ([.ref a, .int fr, .int to, .int x0, .int y0])).length) Slot.unset).toArray = ls at hl ⊢
  have hl : lv_has ls 6 [(0, .ref a), (1, .int fr), (2, .int to), (3, .int x0), (4, .int y0)] := hl
  have h60 : L 0 ≤ 60 := hV.1.2.2.2.1
  have hI3 : I 3 = nI (L 0) := hV.1.2.2.1
  have hI0 : I 0 = nI now := hV.1.1
  have hnow : now ≤ 3650 := hV.1.2.1
  obtain ⟨fa, hfa⟩ : ∃ z : Nat → Nat, z = fun j => ad 12 j 0 := ⟨_, rfl⟩
  obtain ⟨fba, hfba⟩ : ∃ z : Nat → Nat, z = fun j => ad 15 j 0 := ⟨_, rfl⟩
  obtain ⟨hs, hBV, hB1, hB2, hB3, hB4, hB5⟩ := hV.2.2.2.2
  have hI16 : I 16 = nI (L 1) := hBV.1
  have h200 : L 1 ≤ 200 := hBV.2.1
  obtain ⟨fwa, hfwa⟩ : ∃ z : Nat → Nat, z = fun j => ad 4 j 0 := ⟨_, rfl⟩
  obtain ⟨wmc, hwmc⟩ : ∃ z, z = ad 1 0 0 := ⟨_, rfl⟩
  obtain ⟨rnc, hrnc⟩ : ∃ z, z = ad 2 0 0 := ⟨_, rfl⟩
  rw [← hwmc, ← hrnc] at hc_a
  have hc_wmc : w wmc = some (.inl (G.2 2, 3650, .inl (F 1))) := by rw [hwmc]; exact hR.1 1 0 0 ⟨rfl, rfl⟩
  have hc_rnc : w rnc = some (.inl (G.2 2, 3650, .inl (F 2))) := by rw [hrnc]; exact hR.1 2 0 0 ⟨rfl, rfl⟩
  have ne_wmc_rnc : wmc ≠ rnc := by rw [hwmc, hrnc]; exact hR.ne (⟨rfl, rfl⟩ : lvK L 1 0 0) (⟨rfl, rfl⟩ : lvK L 2 0 0) (by decide)
  have ne_rnc_wmc : rnc ≠ wmc := fun e9 => ne_wmc_rnc e9.symm
  have ne_a_wmc : a ≠ wmc := fun e9 => by rw [e9, hc_wmc] at hc_a; cases hc_a
  have ne_a_rnc : a ≠ rnc := fun e9 => by rw [e9, hc_rnc] at hc_a; cases hc_a
  have ne_wmc_a : wmc ≠ a := fun e9 => ne_a_wmc e9.symm
  have ne_rnc_a : rnc ≠ a := fun e9 => ne_a_rnc e9.symm
  have hd0_a := hc_a
  refine lv_iload_n hx hb dX6_weather_0 rfl (lv_at hl 3 rfl) ?_
  refine x_calli (va_runS (As := [.int x0]) (rest := []) ⟨hx, hb, hml, hown, hts⟩ (c_X6_isWeather l G A (w) x0) (va_cwS 1 hts gX6_weather_X6_isWeather rfl rfl rfl (by decide +kernel) ⟨Nat.le_of_ble_eq_true rfl, Nat.le_of_ble_eq_true rfl⟩) (x_preS hK hH hTt [.int x0]) rfl rfl hl.1 rfl (lv_room (Nat.le_of_ble_eq_true rfl)) dX6_weather_1 ⟨Nat.le_of_ble_eq_true rfl, Nat.le_of_ble_eq_true rfl⟩) hH (fun r1 u H locs hp hH => ?_)
  subst hp
  refine lv_if_eq (tgt := 15) hx hb dX6_weather_4 (by decide) (fun c4 => ?_) (fun c4 => ?_)
  · have hbad := sW_bad (I := I) (F := F) (fr := fr) (to := to) (w := x0) (r := y0) (Or.inr (Or.inr (Or.inl c4)))
    refine lv_iconst (v := 0) hx hb dX6_weather_15 (by decide) ?_
    exact x_zret (v := 0) w hx hb hr hlocks (by decide) hK hH (by rw [hbad]; exact ⟨rfl, hR, fun _ _ => rfl⟩) dX6_weather_16
  · refine lv_iload hx hb dX6_weather_7 (lv_at hl 4 rfl) ?_
    refine x_calli (va_runS (As := [.int y0]) (rest := []) ⟨hx, hb, hml, hown, hts⟩ (c_X6_isWeather l G A (w) y0) (va_cwS 1 hts gX6_weather_X6_isWeather rfl rfl rfl (by decide +kernel) ⟨Nat.le_of_ble_eq_true rfl, Nat.le_of_ble_eq_true rfl⟩) (x_preS hK hH hTt [.int y0]) rfl rfl hl.1 rfl (lv_room (Nat.le_of_ble_eq_true rfl)) dX6_weather_9 ⟨Nat.le_of_ble_eq_true rfl, Nat.le_of_ble_eq_true rfl⟩) hH (fun r9 u H locs hp hH => ?_)
    subst hp
    refine lv_if_ne (tgt := 17) hx hb dX6_weather_12 (by decide) (fun c12 => ?_) (fun c12 => ?_)
    · refine lv_iload_n hx hb dX6_weather_17 rfl (lv_at hl 1 rfl) ?_
      refine lv_aload_n hx hb dX6_weather_18 rfl (lv_at hl 0 rfl) ?_
      refine x_get (C := RX6) (T := TX6) (N := 12) hx hb hts hiX6 hown hK hH hc_a rfl 7 (by decide) hf46 (fun _ h => h) (v := .int (I 0)) rfl dX6_weather_19 ?_
      refine lv_icmp_lt (tgt := 37) hx hb dX6_weather_22 (by decide) (fun c22 => ?_) (fun c22 => ?_)
      · have hbad := sW_bad (I := I) (F := F) (fr := fr) (to := to) (w := x0) (r := y0) (Or.inl (by unfold binI; rw [if_pos c22]))
        refine lv_iconst (v := 0) hx hb dX6_weather_37 (by decide) ?_
        exact x_zret (v := 0) w hx hb hr hlocks (by decide) hK hH (by rw [hbad]; exact ⟨rfl, hR, fun _ _ => rfl⟩) dX6_weather_38
      · refine lv_iload_n hx hb dX6_weather_25 rfl (lv_at hl 2 rfl) ?_
        refine lv_iload_n hx hb dX6_weather_26 rfl (lv_at hl 1 rfl) ?_
        refine lv_icmp_lt (tgt := 37) hx hb dX6_weather_27 (by decide) (fun c27 => ?_) (fun c27 => ?_)
        · have hbad := sW_bad (I := I) (F := F) (fr := fr) (to := to) (w := x0) (r := y0) (Or.inr (Or.inl (by unfold binI; rw [if_pos c27])))
          refine lv_iconst (v := 0) hx hb dX6_weather_37 (by decide) ?_
          exact x_zret (v := 0) w hx hb hr hlocks (by decide) hK hH (by rw [hbad]; exact ⟨rfl, hR, fun _ _ => rfl⟩) dX6_weather_38
        · refine lv_iload_n hx hb dX6_weather_30 rfl (lv_at hl 2 rfl) ?_
          refine lv_sipush (v := 3650) hx hb dX6_weather_31 (by decide) ?_
          refine lv_icmp_lt (tgt := 39) hx hb dX6_weather_34 (by decide) (fun c34 => ?_) (fun c34 => ?_)
          · have h4 : ¬ binI x0 0 9 = 0 := c4
            have h12 : ¬ binI y0 0 9 = 0 := c12
            obtain ⟨vx, -, hvx, rfl⟩ := inI_nat (a := 0) (b := 9) (binI_1.mp h4) (by decide) (by decide)
            obtain ⟨vy, -, hvy, rfl⟩ := inI_nat (a := 0) (b := 9) (binI_1.mp h12) (by decide) (by decide)
            have hfr0 : ¬ fr < 0 := fun z => c22 (by rw [hI0, Int32.lt_iff_toInt_lt, nI_toInt (by omega)]; rw [Int32.lt_iff_toInt_lt, Int32.toInt_zero] at z; omega)
            obtain ⟨f0, hf0, rfl⟩ := nI_of hfr0
            have hto0 : ¬ to < 0 := fun z => c27 (by rw [Int32.lt_iff_toInt_lt, nI_toInt (by omega)]; rw [Int32.lt_iff_toInt_lt, Int32.toInt_zero] at z; omega)
            obtain ⟨t0, ht0, rfl⟩ := nI_of hto0
            have ht1 : t0 < 3650 := (nI_ltI (b := 3650) ht0 (by decide)).mp c34
            have hft : f0 ≤ t0 := by rw [nI_ltI ht0 hf0] at c27; omega
            have hnf : now ≤ f0 := by rw [hI0, nI_ltI hf0 (by omega)] at c22; omega
            have hok : sWeather I F (nI f0) (nI t0) (nI vx) (nI vy) = (1, I, wfill F f0 (t0 + 1) (nI vx) (nI vy)) := by unfold sWeather; rw [if_neg (show ¬ binI (nI f0) (I 0) 3649 = 0 from binI_1.mpr (by rw [hI0]; exact inI_of (b := 3649) hnf (by omega) (by decide))), if_neg (show ¬ binI (nI t0) (nI f0) 3649 = 0 from binI_1.mpr (inI_of (b := 3649) hft (by omega) (by decide))), if_neg h4, if_neg h12, ix_n (by omega), ix_n (by omega)]
            refine lv_iload_n hx hb dX6_weather_39 rfl (lv_at hl 1 rfl) ?_
            refine lv_istore (lv' := [(5, .int (nI f0)), (0, .ref a), (1, .int (nI f0)), (2, .int (nI t0)), (3, .int (nI vx)), (4, .int (nI vy))]) hx hb dX6_weather_40 hl (by decide) rfl (fun ls hl => ?_)
            suffices loop42 : ∀ (k42 : Nat) (d : Nat) (wl : XW) (f1 : Nat → Int32) (f2 : Nat → Int32), (t0 + 1 < d + k42) → (f0 ≤ d) → (d ≤ t0 + 1) → (f1 = wfill F f0 d (nI vx) (nI vy) 1) → (f2 = wfill F f0 d (nI vx) (nI vy) 2) → (wl a = some (.inr (7, [.ref wmc, .ref rnc, .ref (ad 3 0 0), .ref (ad 5 0 0), .ref (ad 5 1 0), .ref (ad 7 0 0), .ref (ad 8 0 0), .int (I 0), .int (I 30), .int (I 29), .int (I 31), .int (I 32)]))) → (wl wmc = some (.inl (G.2 2, 3650, .inl f1))) → (wl rnc = some (.inl (G.2 2, 3650, .inl f2))) → (∀ y, y ≠ a → y ≠ wmc → y ≠ rnc → wl y = w y) → ∀ (H : Heap) (locs : List Loc), xH G A s.heap H locs (wl) → ∀ (ls : Array Slot), lv_has ls 6 [(0, .ref a), (1, .int (nI f0)), (2, .int (nI t0)), (3, .int (nI vx)), (4, .int (nI vy)), (5, .int (nI d))] → W p l e (headSpec wsX6_weather _).room s m _ below meth c H locs 0 0 (MQ below _ _ s 0 0 A) (F0 m 42 ls []) from
              loop42 (t0 + 2) f0 w (F 1) (F 2) (by omega) (by omega) (by omega) (by rw [wfill_0]) (by rw [wfill_0]) (hc_a) (hc_wmc) (hc_rnc) (fun _ _ _ _ => rfl) _ _ hH ls (lv_sub hl [1, 2, 3, 4, 5, 0] rfl)
            intro k42
            induction k42 with
            | zero =>
              intro d wl f1 f2 hfuel hd1 hd2 hf1 hf2 hc_a hc_wmc hc_rnc hfr H locs hH ls hl
              exact absurd hfuel (by omega)
            | succ k42 ih42 =>
              intro d wl f1 f2 hfuel hd1 hd2 hf1 hf2 hc_a hc_wmc hc_rnc hfr H locs hH ls hl
              refine lv_iload hx hb dX6_weather_42 (lv_at hl 5 rfl) ?_
              refine lv_iload_n hx hb dX6_weather_44 rfl (lv_at hl 2 rfl) ?_
              refine lv_icmp_gt (tgt := 73) hx hb dX6_weather_45 (by decide) (fun c45 => ?_) (fun c45 => ?_)
              · have c45 : t0 < d := (nI_ltI (a := t0) (b := d) (by omega) (by omega)).mp c45
                refine lv_iconst (v := 1) hx hb dX6_weather_73 (by decide) ?_
                exact x_zret (v := 1) wl hx hb hr hlocks (by decide) hK hH (by rw [hok]; have he : d = t0 + 1 := (by omega); rw [he] at hf1 hf2; rw [hf1] at hc_wmc; rw [hf2] at hc_rnc; exact ⟨rfl, rep_weather hR (by rw [hwmc] at hc_wmc; exact hc_wmc) (by rw [hrnc] at hc_rnc; exact hc_rnc) (fun z z1 z2 => if z3 : z = a then by rw [z3, hc_a]; exact hd0_a.symm else hfr z z3 (by rw [hwmc]; exact z1) (by rw [hrnc]; exact z2)), fun z hz => if z3 : z = a then by rw [z3, hc_a]; exact hd0_a.symm else hfr z z3 (by rw [hwmc]; exact hz 1 0 0 ⟨rfl, rfl⟩) (by rw [hrnc]; exact hz 2 0 0 ⟨rfl, rfl⟩)⟩) dX6_weather_74
              · have c45 : ¬ t0 < d := fun zz => c45 ((nI_ltI (a := t0) (b := d) (by omega) (by omega)).mpr zz)
                refine lv_aload_n hx hb dX6_weather_48 rfl (lv_at hl 0 rfl) ?_
                refine x_get (C := RX6) (T := TX6) (N := 12) hx hb hts hiX6 hown hK hH hc_a rfl 0 (by decide) hf9 (fun _ h => h) (v := .ref wmc) rfl dX6_weather_49 ?_
                refine lv_iload hx hb dX6_weather_52 (lv_at hl 5 rfl) ?_
                refine lv_iload_n hx hb dX6_weather_54 rfl (lv_at hl 3 rfl) ?_
                refine lv_i2b (v := nI vx) hx hb dX6_weather_55 (i2b9 vx (by omega)) ?_
                refine Y_bast hx hb hK hH hc_wmc d rfl (by omega) (by decide) (nar9 vx (by omega)) dX6_weather_56 (fun H locs hH => ?_)
                have hH : xH G A s.heap H locs (va_up wl wmc (some (.inl (G.2 2, 3650, .inl (upd f1 d (nI vx)))))) := hH
                obtain ⟨w56, ew56⟩ : ∃ z, z = va_up wl wmc (some (.inl (G.2 2, 3650, .inl (upd f1 d (nI vx))))) := ⟨_, rfl⟩
                rw [← ew56] at hH
                have hc_a : w56 a = some (.inr (7, [.ref wmc, .ref rnc, .ref (ad 3 0 0), .ref (ad 5 0 0), .ref (ad 5 1 0), .ref (ad 7 0 0), .ref (ad 8 0 0), .int (I 0), .int (I 30), .int (I 29), .int (I 31), .int (I 32)])) := by rw [ew56, show va_up wl wmc _ a = wl a from if_neg ne_a_wmc]; exact hc_a
                have hc_wmc : w56 wmc = some (.inl (G.2 2, 3650, .inl (upd f1 d (nI vx)))) := by rw [ew56]; exact if_pos rfl
                have hc_rnc : w56 rnc = some (.inl (G.2 2, 3650, .inl f2)) := by rw [ew56, show va_up wl wmc _ rnc = wl rnc from if_neg ne_rnc_wmc]; exact hc_rnc
                have hfr : ∀ x, x ≠ a → x ≠ wmc → x ≠ rnc → w56 x = w x := fun x z_a z_wmc z_rnc => by rw [ew56]; exact (if_neg z_wmc).trans (hfr x z_a z_wmc z_rnc)
                refine lv_aload_n hx hb dX6_weather_57 rfl (lv_at hl 0 rfl) ?_
                refine x_get (C := RX6) (T := TX6) (N := 12) hx hb hts hiX6 hown hK hH hc_a rfl 1 (by decide) hf13 (fun _ h => h) (v := .ref rnc) rfl dX6_weather_58 ?_
                refine lv_iload hx hb dX6_weather_61 (lv_at hl 5 rfl) ?_
                refine lv_iload hx hb dX6_weather_63 (lv_at hl 4 rfl) ?_
                refine lv_i2b (v := nI vy) hx hb dX6_weather_65 (i2b9 vy (by omega)) ?_
                refine Y_bast hx hb hK hH hc_rnc d rfl (by omega) (by decide) (nar9 vy (by omega)) dX6_weather_66 (fun H locs hH => ?_)
                have hH : xH G A s.heap H locs (va_up w56 rnc (some (.inl (G.2 2, 3650, .inl (upd f2 d (nI vy)))))) := hH
                obtain ⟨w66, ew66⟩ : ∃ z, z = va_up w56 rnc (some (.inl (G.2 2, 3650, .inl (upd f2 d (nI vy))))) := ⟨_, rfl⟩
                rw [← ew66] at hH
                have hc_a : w66 a = some (.inr (7, [.ref wmc, .ref rnc, .ref (ad 3 0 0), .ref (ad 5 0 0), .ref (ad 5 1 0), .ref (ad 7 0 0), .ref (ad 8 0 0), .int (I 0), .int (I 30), .int (I 29), .int (I 31), .int (I 32)])) := by rw [ew66, show va_up w56 rnc _ a = w56 a from if_neg ne_a_rnc]; exact hc_a
                have hc_wmc : w66 wmc = some (.inl (G.2 2, 3650, .inl (upd f1 d (nI vx)))) := by rw [ew66, show va_up w56 rnc _ wmc = w56 wmc from if_neg ne_wmc_rnc]; exact hc_wmc
                have hc_rnc : w66 rnc = some (.inl (G.2 2, 3650, .inl (upd f2 d (nI vy)))) := by rw [ew66]; exact if_pos rfl
                have hfr : ∀ x, x ≠ a → x ≠ wmc → x ≠ rnc → w66 x = w x := fun x z_a z_wmc z_rnc => by rw [ew66]; exact (if_neg z_rnc).trans (hfr x z_a z_wmc z_rnc)
                refine lv_iinc (v := nI (d + 1)) (lv' := [(5, .int (nI (d + 1))), (0, .ref a), (1, .int (nI f0)), (2, .int (nI t0)), (3, .int (nI vx)), (4, .int (nI vy))]) hx hb dX6_weather_67 hl (k := 5) rfl (by exact nI_add _ 1) (by decide) rfl (fun ls hl => ?_)
                refine lv_goto (tgt := 42) hx hb dX6_weather_70 (by decide) ?_
                exact ih42 (d + 1) w66 (upd f1 d (nI vx)) (upd f2 d (nI vy)) (by omega) (by omega) (by omega) (by rw [hf1]; exact wfill_1 F _ _ hd1) (by rw [hf2]; exact wfill_2 F _ _ hd1) (hc_a) (hc_wmc) (hc_rnc) (hfr) _ _ hH ls (lv_sub hl [1, 2, 3, 4, 5, 0] rfl)
          · have hbad := sW_bad (I := I) (F := F) (fr := fr) (to := to) (w := x0) (r := y0) (Or.inr (Or.inl (by unfold binI; rw [if_neg c27, if_pos (by rw [Int32.lt_iff_toInt_lt] at c34 ⊢; have e1 : (3649 : Int32).toInt = 3649 := rfl; have e2 : (3650 : Int32).toInt = 3650 := rfl; omega)])))
            refine lv_iconst (v := 0) hx hb dX6_weather_37 (by decide) ?_
            exact x_zret (v := 0) w hx hb hr hlocks (by decide) hK hH (by rw [hbad]; exact ⟨rfl, hR, fun _ _ => rfl⟩) dX6_weather_38
    · have hbad := sW_bad (I := I) (F := F) (fr := fr) (to := to) (w := x0) (r := y0) (Or.inr (Or.inr (Or.inr c12)))
      refine lv_iconst (v := 0) hx hb dX6_weather_15 (by decide) ?_
      exact x_zret (v := 0) w hx hb hr hlocks (by decide) hK hH (by rw [hbad]; exact ⟨rfl, hR, fun _ _ => rfl⟩) dX6_weather_16
