
theorem pc32_le (n : Nat) : pc32 n ≤ 32 := by
  have h1 := pc8_le (n % 256)
  have h2 := pc8_le (n / 256 % 256)
  have h3 := pc8_le (n / 65536 % 256)
  have h4 := pc8_le (n / 16777216 % 256)
  unfold pc32
  omega
theorem okS_n {S : List Nat} {nT : Nat} (h : ¬ (1 ≤ S.length ∧ S.length ≤ 6 ∧ ∀ x ∈ S, x < nT)) : ¬ okS S nT = true := fun z => h (okS_iff.mp z)
theorem pw_cnt {lo hi nT : Nat} (hlo : lo < 2 ^ 32) (hhi : hi < 2 ^ 32) (h : ¬ (1 ≤ pc32 lo + pc32 hi ∧ pc32 lo + pc32 hi ≤ 6)) : chI (nI lo) (nI hi) nT = -1 := by
  by_cases h1 : lo < 2 ^ 30
  · by_cases h2 : hi < 2 ^ 30
    · rw [chI_30 h1 h2, if_neg (okS_n (by rw [slT_pc h1 h2]; exact fun z => h ⟨z.1, z.2.1⟩))]
    · exact chI_hi (by omega) hhi _
  · exact chI_lo (by omega) hlo _
theorem pw_none {lo hi nT t : Nat} (h1 : lo < 2 ^ 30) (h2 : hi < 2 ^ 30) (ht : t < 60) (hs : sel lo hi t = true) (hn : ¬ t < nT) : chI (nI lo) (nI hi) nT = -1 := by
  have h : ¬ okS (slT lo hi 60) nT = true := okS_n (fun z => hn (z.2.2 t (List.mem_filter.mpr ⟨List.mem_range.mpr ht, hs⟩)))
  rw [chI_30 h1 h2, if_neg h]
theorem pw_0 {E : YE} {F : Nat → Nat → Int32} {now lo hi : Nat} {L : Nat → Nat} (hE : ∀ j, E 9 4 0 j = 0) : PwS (upK E 8 0 (l4 0 0 (E 8 0 0 2) (E 8 0 0 3))) F now L (slT lo hi 0) :=
  ⟨rfl, rfl, fun j => by rw [upK_k _ _ (by decide)]; exact hE j, fun x hx => (by cases hx), fun j hj => absurd hj (Nat.not_lt_zero _), fun j hj => absurd hj (Nat.not_lt_zero _), fun j hj => absurd hj (Nat.not_lt_zero _)⟩
def PwE (E : YE) (F : Nat → Nat → Int32) (now : Nat) (L : Nat → Nat) (S : List Nat) (p0 : Nat) : Prop := E 8 0 0 0 = nI S.length ∧ (∀ j, j < S.length → E 9 0 0 j = nI (S.getD j 0)) ∧ bsE E S.length (vev (wpl F S) (wsv F now L S) p0) (some (orl S.length (bidx F now (fun t => L (2 + t)) S (fun t => ix (F 5 t)) (fun t => ix (F 6 t)) (p0 / 100) (p0 % 100) (ofac S.length))))
def PwP (G : XG) (w u : XW) (ad : YA) (cp L wd bw : Nat → Nat) (lb : Nat → Option Nat) (I : Nat → Int32) (F : Nat → Nat → Int32) (now : Nat) (low high wh r : Int32) : Prop := ∃ E' : YE, Rep G u ad E' cp L wd bw lb I F ∧ (∀ j, E' 9 4 0 j = 0) ∧ Kp w u ad L ∧ (wR low high wh (L 0) = -1 → r = 0) ∧ (¬ wR low high wh (L 0) = -1 → r = 1 ∧ PwE E' F now L (sW low high) (ix wh))
theorem sel_and {x : Nat} : x &&& 1 = x % 2 := Nat.and_one_is_mod x

set_option maxHeartbeats 4000000 in
set_option maxRecDepth 100000 in
theorem c_X6_planWalk (l : Launch) (G : XG) (A : Nat → Prop) (w : XW) (a : Nat) (ad : YA) (E : YE) (cp L wd bw : Nat → Nat) (lb : Nat → Option Nat) (I : Nat → Int32) (F : Nat → Nat → Int32) (hc_a : w a = some (.inr (7, [.ref (ad 1 0 0), .ref (ad 2 0 0), .ref (ad 3 0 0), .ref (ad 5 0 0), .ref (ad 5 1 0), .ref (ad 7 0 0), .ref (ad 8 0 0), .int (I 0), .int (I 30), .int (I 29), .int (I 31), .int (I 32)]))) (now : Nat) (hR : Rep G w ad E cp L wd bw lb I F) (hV : Inv now L wd bw lb I F) (ha : a = ad 0 0 0) (hE : ∀ j, E 9 4 0 j = 0) (lo hi : Nat) (wh : Int32) (hlo : lo < 2 ^ 32) (hhi : hi < 2 ^ 32) : Met l yX6_planWalk wsX6_planWalk ({ frames := 8, cells := 0, slots := 0, locals := 205 }) (va_Pc [.ref a, .int (nI lo), .int (nI hi), .int wh] (xP G A (w))) (va_Qi (fun (r : Int32) (u : XW) => PwP G w u ad cp L wd bw lb I F now (nI lo) (nI hi) wh r) (fun u t => xB G A (u) t) A) 0 0 A := by
  refine Met.ofW (cc := cX6_planWalk) (maxL := 8) (ret := (some .boolean)) (by decide) rfl ?_
  intro p e s m args below meth c s₁ B hml hv
  obtain ⟨rfl, hK, hH, hTt⟩ := hv
  have hx := B.exec
  have hb := B.bytes
  have hr := B.returns
  have hts := atoms_spec (ws := wsX6_planWalk) B.pre
  have hown : s.vm.findClass RX6 = some m.cls := findClass_of_methodNamed B.named
  have hlocks := B.notSynchronized
  have hiX6 : ∀ w ∈ wsX60, w ∈ wsX6_planWalk := by decide +kernel
  have hf42 := hts (.fieldLink RX6 42 "ResinWoods" "planner" "LResinWoods$Planner;") (by decide +kernel)
  have hl := lv_entry ([.ref a, .int (nI lo), .int (nI hi), .int wh]) (n := 8) (Nat.le_of_ble_eq_true rfl)
  rw [lg_entry_eq]
  generalize (lg_sl ([.ref a, .int (nI lo), .int (nI hi), .int wh]) ++ List.replicate (8 - (lg_sl ([.ref a, .int (nI lo), .int (nI hi), .int wh])).length) Slot.unset).toArray = ls at hl ⊢
  have hl : lv_has ls 8 [(0, .ref a), (1, .int (nI lo)), (2, .int (nI hi)), (3, .int wh)] := hl
  have h60 : L 0 ≤ 60 := hV.1.2.2.2.1
  have hI3 : I 3 = nI (L 0) := hV.1.2.2.1
  have hI0 : I 0 = nI now := hV.1.1
  have hnow : now ≤ 3650 := hV.1.2.1
  obtain ⟨fa, hfa⟩ : ∃ z : Nat → Nat, z = fun j => ad 12 j 0 := ⟨_, rfl⟩
  obtain ⟨fba, hfba⟩ : ∃ z : Nat → Nat, z = fun j => ad 15 j 0 := ⟨_, rfl⟩
  obtain ⟨hs, hBV, hB1, hB2, hB3, hB4, hB5⟩ := hV.2.2.2.2
  have hI16 : I 16 = nI (L 1) := hBV.1
  have h200 : L 1 ≤ 200 := hBV.2.1
  obtain ⟨fwa, hfwa⟩ : ∃ z : Nat → Nat, z = fun j => ad 4 j 0 := ⟨_, rfl⟩
  obtain ⟨wmc, hwmc⟩ : ∃ z, z = ad 1 0 0 := ⟨_, rfl⟩
  obtain ⟨rnc, hrnc⟩ : ∃ z, z = ad 2 0 0 := ⟨_, rfl⟩
  obtain ⟨wsc, hwsc⟩ : ∃ z, z = ad 3 0 0 := ⟨_, rfl⟩
  obtain ⟨tlc, htlc⟩ : ∃ z, z = ad 5 0 0 := ⟨_, rfl⟩
  obtain ⟨blc, hblc⟩ : ∃ z, z = ad 5 1 0 := ⟨_, rfl⟩
  obtain ⟨tac, htac⟩ : ∃ z, z = ad 7 0 0 := ⟨_, rfl⟩
  obtain ⟨plc, hplc⟩ : ∃ z, z = ad 8 0 0 := ⟨_, rfl⟩
  rw [← hwmc, ← hrnc, ← hwsc, ← htlc, ← hblc, ← htac, ← hplc] at hc_a
  obtain ⟨tdc, htdc⟩ : ∃ z, z = (if L 0 = 0 then G.2 12 else ad 6 0 0) := ⟨_, rfl⟩
  obtain ⟨bdc, hbdc⟩ : ∃ z, z = (if L 1 = 0 then G.2 12 else ad 6 1 0) := ⟨_, rfl⟩
  have hc_tlc : w tlc = some (.inr (0, [.int (E 5 0 0 0), .ref tdc, .int (nI (L 0))])) := by rw [htlc, htdc]; exact hR.lst (by omega)
  have hc_blc : w blc = some (.inr (0, [.int (E 5 1 0 0), .ref bdc, .int (nI (L 1))])) := by rw [hblc, hbdc]; exact hR.lst (by omega)
  have hc_tac : w tac = some (.inr (4, [.int (I 26), .int (I 27), .int (I 28)])) := by rw [htac]; exact hR.1 7 0 0 ⟨by decide, rfl⟩
  have hp1 := pc32_le lo
  have hp2 := pc32_le hi
  have hc_plc : w plc = some (.inr (3, [.int (E 8 0 0 0), .ref (ad 9 0 0), .ref (ad 9 1 0), .ref (ad 10 0 0), .ref (ad 9 2 0), .ref (ad 9 3 0), .ref (ad 9 4 0), .ref (ad 13 60 0), .ref (ad 7 1 0), .int (E 8 0 0 1), .int (E 8 0 0 2), .int (E 8 0 0 3)])) := by rw [hplc]; exact hR.1 8 0 0 ⟨rfl, rfl⟩
  refine lv_iload_n hx hb dX6_planWalk_0 rfl (lv_at hl 1 rfl) ?_
  refine x_calli (va_runS (As := [.int (nI lo)]) (rest := []) ⟨hx, hb, hml, hown, hts⟩ (c_J6_bitCount_0f7a4 l G A _ lo (by omega)) (va_cwS 1 hts gX6_planWalk_J6_bitCount_0f7a4 rfl rfl rfl (by decide +kernel) ⟨Nat.le_of_ble_eq_true rfl, Nat.le_of_ble_eq_true rfl⟩) (x_preS hK hH hTt [.int (nI lo)]) rfl rfl hl.1 rfl (lv_room (Nat.le_of_ble_eq_true rfl)) dX6_planWalk_1 ⟨Nat.le_of_ble_eq_true rfl, Nat.le_of_ble_eq_true rfl⟩) hH (fun r1 u H locs hp hH => ?_)
  have hbc1 : r1 = nI (pc32 lo) := by rw [hp, bcN_eq (by omega)]
  subst hbc1
  refine lv_iload_n hx hb dX6_planWalk_4 rfl (lv_at hl 2 rfl) ?_
  refine x_calli (va_runS (As := [.int (nI hi)]) (rest := [.int (nI (pc32 lo))]) ⟨hx, hb, hml, hown, hts⟩ (c_J6_bitCount_0f7a4 l G A _ hi (by omega)) (va_cwS 1 hts gX6_planWalk_J6_bitCount_0f7a4 rfl rfl rfl (by decide +kernel) ⟨Nat.le_of_ble_eq_true rfl, Nat.le_of_ble_eq_true rfl⟩) (x_preS hK hH hTt [.int (nI hi)]) rfl rfl hl.1 rfl (lv_room (Nat.le_of_ble_eq_true rfl)) dX6_planWalk_5 ⟨Nat.le_of_ble_eq_true rfl, Nat.le_of_ble_eq_true rfl⟩) hH (fun r5 u H locs hp hH => ?_)
  have hbc5 : r5 = nI (pc32 hi) := by rw [hp, bcN_eq (by omega)]
  subst hbc5
  refine N_iadd hx hb (pc32 lo) (pc32 hi) rfl rfl dX6_planWalk_8 ?_
  refine lv_istore (lv' := [(4, .int (nI ((pc32 lo) + (pc32 hi)))), (0, .ref a), (1, .int (nI lo)), (2, .int (nI hi)), (3, .int wh)]) hx hb dX6_planWalk_9 hl (by decide) rfl (fun ls hl => ?_)
  refine lv_iload hx hb dX6_planWalk_11 (lv_at hl 0 rfl) ?_
  refine lv_iconst (v := 1) hx hb dX6_planWalk_13 (by decide) ?_
  refine lv_icmp_lt (tgt := 31) hx hb dX6_planWalk_14 (by decide) (fun c14 => ?_) (fun c14 => ?_)
  · have c14 : ((pc32 lo) + (pc32 hi)) < 1 := (nI_ltI (a := ((pc32 lo) + (pc32 hi))) (b := 1) (by omega) (by omega)).mp c14
    refine lv_iconst (v := 0) hx hb dX6_planWalk_31 (by decide) ?_
    exact x_zret (v := 0) w hx hb hr hlocks (by decide) hK hH (⟨E, hR, hE, fun _ _ => rfl, fun _ => rfl, fun z => absurd (wR_c (pw_cnt hlo hhi (by omega))) z⟩) dX6_planWalk_32
  · have c14 : ¬ ((pc32 lo) + (pc32 hi)) < 1 := fun zz => c14 ((nI_ltI (a := ((pc32 lo) + (pc32 hi))) (b := 1) (by omega) (by omega)).mpr zz)
    refine lv_iload hx hb dX6_planWalk_17 (lv_at hl 0 rfl) ?_
    refine lv_bipush (v := 6) hx hb dX6_planWalk_19 (by decide) ?_
    refine lv_icmp_gt (tgt := 31) hx hb dX6_planWalk_21 (by decide) (fun c21 => ?_) (fun c21 => ?_)
    · have c21 : 6 < ((pc32 lo) + (pc32 hi)) := (nI_ltI (a := 6) (b := ((pc32 lo) + (pc32 hi))) (by omega) (by omega)).mp c21
      refine lv_iconst (v := 0) hx hb dX6_planWalk_31 (by decide) ?_
      exact x_zret (v := 0) w hx hb hr hlocks (by decide) hK hH (⟨E, hR, hE, fun _ _ => rfl, fun _ => rfl, fun z => absurd (wR_c (pw_cnt hlo hhi (by omega))) z⟩) dX6_planWalk_32
    · have c21 : ¬ 6 < ((pc32 lo) + (pc32 hi)) := fun zz => c21 ((nI_ltI (a := 6) (b := ((pc32 lo) + (pc32 hi))) (by omega) (by omega)).mpr zz)
      refine lv_iload_n hx hb dX6_planWalk_24 rfl (lv_at hl 4 rfl) ?_
      refine x_calli (va_runS (As := [.int wh]) (rest := []) ⟨hx, hb, hml, hown, hts⟩ (c_X6_isPlace l G A _ wh) (va_cwS 1 hts gX6_planWalk_X6_isPlace rfl rfl rfl (by decide +kernel) ⟨Nat.le_of_ble_eq_true rfl, Nat.le_of_ble_eq_true rfl⟩) (x_preS hK hH hTt [.int wh]) rfl rfl hl.1 rfl (lv_room (Nat.le_of_ble_eq_true rfl)) dX6_planWalk_25 ⟨Nat.le_of_ble_eq_true rfl, Nat.le_of_ble_eq_true rfl⟩) hH (fun r25 u H locs hp hH => ?_)
      have hip := hp
      refine lv_if_ne (tgt := 33) hx hb dX6_planWalk_28 (by decide) (fun c28 => ?_) (fun c28 => ?_)
      · have hpw : ¬ plcI wh = 0 := fun z => c28 (hip.trans z)
        obtain ⟨whn, -, hw9, hwe⟩ : ∃ j, 0 ≤ j ∧ j ≤ 9999 ∧ wh = nI j := inI_nat (a := 0) (b := 9999) (by have h9 := hpw; rw [plc_eq] at h9; exact binI_1.mp h9) (by decide) (by decide)
        refine lv_iload_n hx hb dX6_planWalk_33 rfl (lv_at hl 2 rfl) ?_
        refine lv_bipush (v := 30) hx hb dX6_planWalk_34 (by decide) ?_
        refine lv_iushr (v := nI (lo / 1073741824)) hx hb dX6_planWalk_36 (ush_nat (k := 30) (by omega) (by decide)) ?_
        refine lv_if_ne (tgt := 47) hx hb dX6_planWalk_37 (by decide) (fun c37 => ?_) (fun c37 => ?_)
        · have c37 : ¬ (lo / 1073741824) = 0 := fun zz => c37 ((nI_eq (a := (lo / 1073741824)) (b := 0) (by omega) (by omega)).mpr zz)
          refine lv_iconst (v := 0) hx hb dX6_planWalk_47 (by decide) ?_
          exact x_zret (v := 0) w hx hb hr hlocks (by decide) hK hH (⟨E, hR, hE, fun _ _ => rfl, fun _ => rfl, fun z => absurd (wR_c (chI_lo (by omega) hlo _)) z⟩) dX6_planWalk_48
        · have c37 : (lo / 1073741824) = 0 := (nI_eq (a := (lo / 1073741824)) (b := 0) (by omega) (by omega)).mp c37
          refine lv_iload_n hx hb dX6_planWalk_40 rfl (lv_at hl 3 rfl) ?_
          refine lv_bipush (v := 30) hx hb dX6_planWalk_41 (by decide) ?_
          refine lv_iushr (v := nI (hi / 1073741824)) hx hb dX6_planWalk_43 (ush_nat (k := 30) (by omega) (by decide)) ?_
          refine lv_if_eq (tgt := 49) hx hb dX6_planWalk_44 (by decide) (fun c44 => ?_) (fun c44 => ?_)
          · have c44 : (hi / 1073741824) = 0 := (nI_eq (a := (hi / 1073741824)) (b := 0) (by omega) (by omega)).mp c44
            refine lv_aload_n hx hb dX6_planWalk_49 rfl (lv_at hl 1 rfl) ?_
            refine x_get (C := RX6) (T := TX6) (N := 12) hx hb hts hiX6 hown hK hH hc_a rfl 6 (by decide) hf42 (fun _ h => h) (v := .ref plc) rfl dX6_planWalk_50 ?_
            refine x_callv (va_runV (As := []) (rest := []) ⟨hx, hb, hml, hown, hts⟩ (c_X2_begin l G A _ plc _ _ _ _ _ _ _ _ _ _ _ _ hc_plc) (cwV 0 hts gX6_planWalk_X2_begin rfl rfl rfl (by decide +kernel) ⟨Nat.le_of_ble_eq_true rfl, Nat.le_of_ble_eq_true rfl⟩) (x_preV hK hH hTt (hc_plc) rfl []) rfl rfl hl.1 rfl (lv_room (Nat.le_of_ble_eq_true rfl)) dX6_planWalk_53 ⟨Nat.le_of_ble_eq_true rfl, Nat.le_of_ble_eq_true rfl⟩) hH (fun w53 H locs hp hH => ?_)
            obtain ⟨hu_p, hfm⟩ := hp
            rw [hplc] at hu_p hfm
            have hR0 := rep_pln hR h60 hu_p hfm
            have hl1 : lo < 2 ^ 30 := by omega
            have hl2 : hi < 2 ^ 30 := by omega
            have hlen := slT_pc hl1 hl2
            have hK0 : Kp w w53 ad L := fun y hy => hfm y (hy 8 0 0 ⟨rfl, rfl⟩)
            refine lv_iconst (v := 0) hx hb dX6_planWalk_56 (by decide) ?_
            refine lv_istore (lv' := [(5, .int 0), (4, .int (nI ((pc32 lo) + (pc32 hi)))), (0, .ref a), (1, .int (nI lo)), (2, .int (nI hi)), (3, .int wh)]) hx hb dX6_planWalk_57 hl (by decide) rfl (fun ls hl => ?_)
            suffices loop59 : ∀ (k59 : Nat) (t : Nat) (wl : XW) (E1 : YE), (60 < t + k59) → (t ≤ 60) → (Rep G wl ad E1 cp L wd bw lb I F) → (Kp w wl ad L) → (PwS E1 F now L (slT lo hi t)) → ∀ (H : Heap) (locs : List Loc), xH G A s.heap H locs (wl) → ∀ (ls : Array Slot), lv_has ls 8 [(0, .ref a), (1, .int (nI lo)), (2, .int (nI hi)), (3, .int wh), (5, .int (nI t))] → W p l e (headSpec wsX6_planWalk _).room s m _ below meth c H locs 0 0 (MQ below _ _ s 0 0 A) (F0 m 59 ls []) from
              loop59 61 0 w53 (upK E 8 0 (l4 0 0 (E 8 0 0 2) (E 8 0 0 3))) (by omega) (by omega) (hR0) (hK0) (pw_0 hE) _ _ hH ls (lv_sub hl [2, 3, 4, 5, 0] rfl)
            intro k59
            induction k59 with
            | zero =>
              intro t wl E1 hfuel ht9 hR1 hKp hS1 H locs hH ls hl
              exact absurd hfuel (by omega)
            | succ k59 ih59 =>
              intro t wl E1 hfuel ht9 hR1 hKp hS1 H locs hH ls hl
              have hc_a : wl a = some (.inr (7, [.ref wmc, .ref rnc, .ref wsc, .ref tlc, .ref blc, .ref tac, .ref plc, .int (nI now), .int (I 30), .int (I 29), .int (I 31), .int (I 32)])) := by rw [ha, hwmc, hrnc, hwsc, htlc, hblc, htac, hplc, ← hI0]; exact hR1.root
              have hc_plc : wl plc = some (.inr (3, [.int (nI ((slT lo hi t).length)), .ref (ad 9 0 0), .ref (ad 9 1 0), .ref (ad 10 0 0), .ref (ad 9 2 0), .ref (ad 9 3 0), .ref (ad 9 4 0), .ref (ad 13 60 0), .ref (ad 7 1 0), .int (E1 8 0 0 1), .int (E1 8 0 0 2), .int (E1 8 0 0 3)])) := by rw [hplc, ← hS1.1]; exact hR1.1 8 0 0 ⟨rfl, rfl⟩
              refine lv_iload hx hb dX6_planWalk_59 (lv_at hl 4 rfl) ?_
              refine lv_bipush (v := 60) hx hb dX6_planWalk_61 (by decide) ?_
              refine lv_icmp_ge (tgt := 132) hx hb dX6_planWalk_63 (by decide) (fun c63 => ?_) (fun c63 => ?_)
              · have c63 : 60 ≤ t := (nI_leI (a := 60) (b := t) (by omega) (by omega)).mp c63
                refine lv_aload_n hx hb dX6_planWalk_132 rfl (lv_at hl 0 rfl) ?_
                refine x_get (C := RX6) (T := TX6) (N := 12) hx hb hts hiX6 hown hK hH hc_a rfl 6 (by decide) hf42 (fun _ h => h) (v := .ref plc) rfl dX6_planWalk_133 ?_
                refine lv_iconst (v := 0) hx hb dX6_planWalk_136 (by decide) ?_
                refine lv_iload_n hx hb dX6_planWalk_137 rfl (lv_at hl 3 rfl) ?_
                refine lv_topi (fun v138 ev138 => ?_)
                have hv138 : v138 = nI whn := ev138.trans hwe
                subst hv138
                have ht60 : t = 60 := by omega
                rw [ht60] at hS1 hc_plc
                have hPl := pw_pls hV hS1 whn
                have hSm := hS1.2.2.2.1
                have hN : (slT lo hi 60).length = 1 ∨ (slT lo hi 60).length = 2 ∨ (slT lo hi 60).length = 3 ∨ (slT lo hi 60).length = 4 ∨ (slT lo hi 60).length = 5 ∨ (slT lo hi 60).length = 6 := by omega
                have hfo := pw_fold hV hSm (by omega) (by omega) hw9
                refine lv_iconst (v := 0) hx hb dX6_planWalk_138 (by decide) ?_
                refine lv_iconst (v := 0) hx hb dX6_planWalk_139 (by decide) ?_
                rcases hN with h9 | h9 | h9 | h9 | h9 | h9
                · have hlv : lvs (slT lo hi 60).length 1 [] = lvs (slT lo hi 60).length (slT lo hi 60).length [] := congrArg (fun z => lvs (slT lo hi 60).length z []) h9.symm
                  refine x_callv (va_runSN (As := [.ref plc, .int 0, .int (nI whn), .int 0, .int 0]) (rest := []) ⟨hx, hb, hml, hown, hts⟩ (c1_X2_visit l G A _ plc ad E1 cp L wd bw lb I F (slT lo hi 60).length hc_plc hR1 h60 hplc 0 whn 0 0 whn (wpl F (slT lo hi 60)) (wsv F now L (slT lo hi 60)) [] none (by omega) (wpl_b hV hSm) (wsv_b hV hSm) hw9 hPl rfl (by omega) rfl) ⟨va_cnB (host := RX6) 5 hts ggX6_planWalk_X2_visit rfl rfl rfl hTt.2.1.2.2.1 (hts (.initialized RX2) (by decide +kernel)) (by decide +kernel) ⟨Nat.le_of_ble_eq_true rfl, Nat.le_of_ble_eq_true rfl⟩, hts (.static yX2_visit) (by decide +kernel), trivial⟩ (x_preS hK hH hTt [.ref plc, .int 0, .int (nI whn), .int 0, .int 0]) rfl rfl hl.1 rfl (lv_room (Nat.le_of_ble_eq_true rfl)) dX6_planWalk_140 ⟨Nat.le_of_ble_eq_true rfl, Nat.le_of_ble_eq_true rfl⟩) hH (fun u H locs hp hH => ?_)
                  obtain ⟨w140, rfl⟩ : ∃ z, z = u := ⟨_, rfl⟩
                  have hH : xH G A s.heap H locs w140 := hH
                  obtain ⟨E4, hR4, hS4, h904, hK4⟩ := hp
                  rw [hlv, hfo] at hS4
                  refine lv_iconst (v := 1) hx hb dX6_planWalk_143 (by decide) ?_
                  exact x_zret (v := 1) w140 hx hb hr hlocks (by decide) hK hH (⟨E4, hR4, fun j => hS4.2.2.2.2.1 j, hKp.trans hK4, fun z => absurd z (by rw [wR_y hpw, chI_30 hl1 hl2, if_pos (okS_iff.mpr ⟨by omega, by omega, hSm⟩)]; exact nI_m1 (by omega)), fun _ => ⟨rfl, (by unfold sW; rw [ix_n (by omega), ix_n (by omega), hwe, ix_n (by omega)]; exact ⟨hS4.1, fun j hj => by rw [h904]; exact hS1.2.2.2.2.1 j hj, hS4.2.2.2.2.2.2⟩)⟩⟩) dX6_planWalk_144
                · have hlv : lvs (slT lo hi 60).length 2 [] = lvs (slT lo hi 60).length (slT lo hi 60).length [] := congrArg (fun z => lvs (slT lo hi 60).length z []) h9.symm
                  refine x_callv (va_runSN (As := [.ref plc, .int 0, .int (nI whn), .int 0, .int 0]) (rest := []) ⟨hx, hb, hml, hown, hts⟩ (c2_X2_visit l G A _ plc ad E1 cp L wd bw lb I F (slT lo hi 60).length hc_plc hR1 h60 hplc 0 whn 0 0 whn (wpl F (slT lo hi 60)) (wsv F now L (slT lo hi 60)) [] none (by omega) (wpl_b hV hSm) (wsv_b hV hSm) hw9 hPl rfl (by omega) rfl) ⟨va_cnB (host := RX6) 5 hts ggX6_planWalk_X2_visit rfl rfl rfl hTt.2.1.2.2.1 (hts (.initialized RX2) (by decide +kernel)) (by decide +kernel) ⟨Nat.le_of_ble_eq_true rfl, Nat.le_of_ble_eq_true rfl⟩, hts (.static yX2_visit) (by decide +kernel), trivial⟩ (x_preS hK hH hTt [.ref plc, .int 0, .int (nI whn), .int 0, .int 0]) rfl rfl hl.1 rfl (lv_room (Nat.le_of_ble_eq_true rfl)) dX6_planWalk_140 ⟨Nat.le_of_ble_eq_true rfl, Nat.le_of_ble_eq_true rfl⟩) hH (fun u H locs hp hH => ?_)
                  obtain ⟨w140, rfl⟩ : ∃ z, z = u := ⟨_, rfl⟩
                  have hH : xH G A s.heap H locs w140 := hH
                  obtain ⟨E4, hR4, hS4, h904, hK4⟩ := hp
                  rw [hlv, hfo] at hS4
                  refine lv_iconst (v := 1) hx hb dX6_planWalk_143 (by decide) ?_
                  exact x_zret (v := 1) w140 hx hb hr hlocks (by decide) hK hH (⟨E4, hR4, fun j => hS4.2.2.2.2.1 j, hKp.trans hK4, fun z => absurd z (by rw [wR_y hpw, chI_30 hl1 hl2, if_pos (okS_iff.mpr ⟨by omega, by omega, hSm⟩)]; exact nI_m1 (by omega)), fun _ => ⟨rfl, (by unfold sW; rw [ix_n (by omega), ix_n (by omega), hwe, ix_n (by omega)]; exact ⟨hS4.1, fun j hj => by rw [h904]; exact hS1.2.2.2.2.1 j hj, hS4.2.2.2.2.2.2⟩)⟩⟩) dX6_planWalk_144
                · have hlv : lvs (slT lo hi 60).length 3 [] = lvs (slT lo hi 60).length (slT lo hi 60).length [] := congrArg (fun z => lvs (slT lo hi 60).length z []) h9.symm
                  refine x_callv (va_runSN (As := [.ref plc, .int 0, .int (nI whn), .int 0, .int 0]) (rest := []) ⟨hx, hb, hml, hown, hts⟩ (c3_X2_visit l G A _ plc ad E1 cp L wd bw lb I F (slT lo hi 60).length hc_plc hR1 h60 hplc 0 whn 0 0 whn (wpl F (slT lo hi 60)) (wsv F now L (slT lo hi 60)) [] none (by omega) (wpl_b hV hSm) (wsv_b hV hSm) hw9 hPl rfl (by omega) rfl) ⟨va_cnB (host := RX6) 5 hts ggX6_planWalk_X2_visit rfl rfl rfl hTt.2.1.2.2.1 (hts (.initialized RX2) (by decide +kernel)) (by decide +kernel) ⟨Nat.le_of_ble_eq_true rfl, Nat.le_of_ble_eq_true rfl⟩, hts (.static yX2_visit) (by decide +kernel), trivial⟩ (x_preS hK hH hTt [.ref plc, .int 0, .int (nI whn), .int 0, .int 0]) rfl rfl hl.1 rfl (lv_room (Nat.le_of_ble_eq_true rfl)) dX6_planWalk_140 ⟨Nat.le_of_ble_eq_true rfl, Nat.le_of_ble_eq_true rfl⟩) hH (fun u H locs hp hH => ?_)
                  obtain ⟨w140, rfl⟩ : ∃ z, z = u := ⟨_, rfl⟩
                  have hH : xH G A s.heap H locs w140 := hH
                  obtain ⟨E4, hR4, hS4, h904, hK4⟩ := hp
                  rw [hlv, hfo] at hS4
                  refine lv_iconst (v := 1) hx hb dX6_planWalk_143 (by decide) ?_
                  exact x_zret (v := 1) w140 hx hb hr hlocks (by decide) hK hH (⟨E4, hR4, fun j => hS4.2.2.2.2.1 j, hKp.trans hK4, fun z => absurd z (by rw [wR_y hpw, chI_30 hl1 hl2, if_pos (okS_iff.mpr ⟨by omega, by omega, hSm⟩)]; exact nI_m1 (by omega)), fun _ => ⟨rfl, (by unfold sW; rw [ix_n (by omega), ix_n (by omega), hwe, ix_n (by omega)]; exact ⟨hS4.1, fun j hj => by rw [h904]; exact hS1.2.2.2.2.1 j hj, hS4.2.2.2.2.2.2⟩)⟩⟩) dX6_planWalk_144
                · have hlv : lvs (slT lo hi 60).length 4 [] = lvs (slT lo hi 60).length (slT lo hi 60).length [] := congrArg (fun z => lvs (slT lo hi 60).length z []) h9.symm
                  refine x_callv (va_runSN (As := [.ref plc, .int 0, .int (nI whn), .int 0, .int 0]) (rest := []) ⟨hx, hb, hml, hown, hts⟩ (c4_X2_visit l G A _ plc ad E1 cp L wd bw lb I F (slT lo hi 60).length hc_plc hR1 h60 hplc 0 whn 0 0 whn (wpl F (slT lo hi 60)) (wsv F now L (slT lo hi 60)) [] none (by omega) (wpl_b hV hSm) (wsv_b hV hSm) hw9 hPl rfl (by omega) rfl) ⟨va_cnB (host := RX6) 5 hts ggX6_planWalk_X2_visit rfl rfl rfl hTt.2.1.2.2.1 (hts (.initialized RX2) (by decide +kernel)) (by decide +kernel) ⟨Nat.le_of_ble_eq_true rfl, Nat.le_of_ble_eq_true rfl⟩, hts (.static yX2_visit) (by decide +kernel), trivial⟩ (x_preS hK hH hTt [.ref plc, .int 0, .int (nI whn), .int 0, .int 0]) rfl rfl hl.1 rfl (lv_room (Nat.le_of_ble_eq_true rfl)) dX6_planWalk_140 ⟨Nat.le_of_ble_eq_true rfl, Nat.le_of_ble_eq_true rfl⟩) hH (fun u H locs hp hH => ?_)
                  obtain ⟨w140, rfl⟩ : ∃ z, z = u := ⟨_, rfl⟩
                  have hH : xH G A s.heap H locs w140 := hH
                  obtain ⟨E4, hR4, hS4, h904, hK4⟩ := hp
                  rw [hlv, hfo] at hS4
                  refine lv_iconst (v := 1) hx hb dX6_planWalk_143 (by decide) ?_
                  exact x_zret (v := 1) w140 hx hb hr hlocks (by decide) hK hH (⟨E4, hR4, fun j => hS4.2.2.2.2.1 j, hKp.trans hK4, fun z => absurd z (by rw [wR_y hpw, chI_30 hl1 hl2, if_pos (okS_iff.mpr ⟨by omega, by omega, hSm⟩)]; exact nI_m1 (by omega)), fun _ => ⟨rfl, (by unfold sW; rw [ix_n (by omega), ix_n (by omega), hwe, ix_n (by omega)]; exact ⟨hS4.1, fun j hj => by rw [h904]; exact hS1.2.2.2.2.1 j hj, hS4.2.2.2.2.2.2⟩)⟩⟩) dX6_planWalk_144
                · have hlv : lvs (slT lo hi 60).length 5 [] = lvs (slT lo hi 60).length (slT lo hi 60).length [] := congrArg (fun z => lvs (slT lo hi 60).length z []) h9.symm
                  refine x_callv (va_runSN (As := [.ref plc, .int 0, .int (nI whn), .int 0, .int 0]) (rest := []) ⟨hx, hb, hml, hown, hts⟩ (c5_X2_visit l G A _ plc ad E1 cp L wd bw lb I F (slT lo hi 60).length hc_plc hR1 h60 hplc 0 whn 0 0 whn (wpl F (slT lo hi 60)) (wsv F now L (slT lo hi 60)) [] none (by omega) (wpl_b hV hSm) (wsv_b hV hSm) hw9 hPl rfl (by omega) rfl) ⟨va_cnB (host := RX6) 5 hts ggX6_planWalk_X2_visit rfl rfl rfl hTt.2.1.2.2.1 (hts (.initialized RX2) (by decide +kernel)) (by decide +kernel) ⟨Nat.le_of_ble_eq_true rfl, Nat.le_of_ble_eq_true rfl⟩, hts (.static yX2_visit) (by decide +kernel), trivial⟩ (x_preS hK hH hTt [.ref plc, .int 0, .int (nI whn), .int 0, .int 0]) rfl rfl hl.1 rfl (lv_room (Nat.le_of_ble_eq_true rfl)) dX6_planWalk_140 ⟨Nat.le_of_ble_eq_true rfl, Nat.le_of_ble_eq_true rfl⟩) hH (fun u H locs hp hH => ?_)
                  obtain ⟨w140, rfl⟩ : ∃ z, z = u := ⟨_, rfl⟩
                  have hH : xH G A s.heap H locs w140 := hH
                  obtain ⟨E4, hR4, hS4, h904, hK4⟩ := hp
                  rw [hlv, hfo] at hS4
                  refine lv_iconst (v := 1) hx hb dX6_planWalk_143 (by decide) ?_
                  exact x_zret (v := 1) w140 hx hb hr hlocks (by decide) hK hH (⟨E4, hR4, fun j => hS4.2.2.2.2.1 j, hKp.trans hK4, fun z => absurd z (by rw [wR_y hpw, chI_30 hl1 hl2, if_pos (okS_iff.mpr ⟨by omega, by omega, hSm⟩)]; exact nI_m1 (by omega)), fun _ => ⟨rfl, (by unfold sW; rw [ix_n (by omega), ix_n (by omega), hwe, ix_n (by omega)]; exact ⟨hS4.1, fun j hj => by rw [h904]; exact hS1.2.2.2.2.1 j hj, hS4.2.2.2.2.2.2⟩)⟩⟩) dX6_planWalk_144
                · have hlv : lvs (slT lo hi 60).length 6 [] = lvs (slT lo hi 60).length (slT lo hi 60).length [] := congrArg (fun z => lvs (slT lo hi 60).length z []) h9.symm
                  refine x_callv (va_runSN (As := [.ref plc, .int 0, .int (nI whn), .int 0, .int 0]) (rest := []) ⟨hx, hb, hml, hown, hts⟩ (c6_X2_visit l G A _ plc ad E1 cp L wd bw lb I F (slT lo hi 60).length hc_plc hR1 h60 hplc 0 whn 0 0 whn (wpl F (slT lo hi 60)) (wsv F now L (slT lo hi 60)) [] none (by omega) (wpl_b hV hSm) (wsv_b hV hSm) hw9 hPl rfl (by omega) rfl) ⟨va_cnB (host := RX6) 5 hts ggX6_planWalk_X2_visit rfl rfl rfl hTt.2.1.2.2.1 (hts (.initialized RX2) (by decide +kernel)) (by decide +kernel) ⟨Nat.le_of_ble_eq_true rfl, Nat.le_of_ble_eq_true rfl⟩, hts (.static yX2_visit) (by decide +kernel), trivial⟩ (x_preS hK hH hTt [.ref plc, .int 0, .int (nI whn), .int 0, .int 0]) rfl rfl hl.1 rfl (lv_room (Nat.le_of_ble_eq_true rfl)) dX6_planWalk_140 ⟨Nat.le_of_ble_eq_true rfl, Nat.le_of_ble_eq_true rfl⟩) hH (fun u H locs hp hH => ?_)
                  obtain ⟨w140, rfl⟩ : ∃ z, z = u := ⟨_, rfl⟩
                  have hH : xH G A s.heap H locs w140 := hH
                  obtain ⟨E4, hR4, hS4, h904, hK4⟩ := hp
                  rw [hlv, hfo] at hS4
                  refine lv_iconst (v := 1) hx hb dX6_planWalk_143 (by decide) ?_
                  exact x_zret (v := 1) w140 hx hb hr hlocks (by decide) hK hH (⟨E4, hR4, fun j => hS4.2.2.2.2.1 j, hKp.trans hK4, fun z => absurd z (by rw [wR_y hpw, chI_30 hl1 hl2, if_pos (okS_iff.mpr ⟨by omega, by omega, hSm⟩)]; exact nI_m1 (by omega)), fun _ => ⟨rfl, (by unfold sW; rw [ix_n (by omega), ix_n (by omega), hwe, ix_n (by omega)]; exact ⟨hS4.1, fun j hj => by rw [h904]; exact hS1.2.2.2.2.1 j hj, hS4.2.2.2.2.2.2⟩)⟩⟩) dX6_planWalk_144
              · have c63 : ¬ 60 ≤ t := fun zz => c63 ((nI_leI (a := 60) (b := t) (by omega) (by omega)).mpr zz)
                refine lv_iload hx hb dX6_planWalk_66 (lv_at hl 4 rfl) ?_
                refine lv_bipush (v := 30) hx hb dX6_planWalk_68 (by decide) ?_
                refine lv_icmp_ge (tgt := 80) hx hb dX6_planWalk_70 (by decide) (fun c70 => ?_) (fun c70 => ?_)
                · have c70 : 30 ≤ t := (nI_leI (a := 30) (b := t) (by omega) (by omega)).mp c70
                  have c70 : ¬ t < 30 := by omega
                  refine lv_iload_n hx hb dX6_planWalk_80 rfl (lv_at hl 2 rfl) ?_
                  refine lv_iload hx hb dX6_planWalk_81 (lv_at hl 4 rfl) ?_
                  refine lv_bipush (v := 30) hx hb dX6_planWalk_83 (by decide) ?_
                  refine N_isub hx hb t 30 rfl rfl (by omega) dX6_planWalk_85 ?_
                  refine lv_iushr (v := nI (hi / 2 ^ (t - 30))) hx hb dX6_planWalk_86 (ush_nat (k := t - 30) (by omega) (by omega)) ?_
                  refine lv_istore (lv' := [(6, .int (nI (hi / 2 ^ (t - 30)))), (0, .ref a), (1, .int (nI lo)), (2, .int (nI hi)), (3, .int wh), (5, .int (nI t))]) hx hb dX6_planWalk_87 hl (by decide) rfl (fun ls hl => ?_)
                  refine lv_iload hx hb dX6_planWalk_89 (lv_at hl 0 rfl) ?_
                  refine lv_iconst (v := 1) hx hb dX6_planWalk_91 (by decide) ?_
                  refine N_iand hx hb (hi / 2 ^ (t - 30)) 1 rfl rfl dX6_planWalk_92 ?_
                  have hA93 : ((hi / 2 ^ (t - 30)) &&& 1) < 2 := by rw [sel_and]; exact Nat.mod_lt _ (by decide)
                  refine lv_if_eq (tgt := 126) hx hb dX6_planWalk_93 (by decide) (fun c93 => ?_) (fun c93 => ?_)
                  · have c93 : ((hi / 2 ^ (t - 30)) &&& 1) = 0 := (nI_eq (a := ((hi / 2 ^ (t - 30)) &&& 1)) (b := 0) (by omega) (by omega)).mp c93
                    rw [sel_and] at c93
                    have hsel : ¬ sel lo hi t = true := by unfold sel; rw [if_neg c70]; simp; omega
                    have hsm : slT lo hi (t + 1) = slT lo hi t := slT_n hsel
                    refine lv_iinc (v := nI (t + 1)) (lv' := [(5, .int (nI (t + 1))), (6, .int (nI (hi / 2 ^ (t - 30)))), (0, .ref a), (1, .int (nI lo)), (2, .int (nI hi)), (3, .int wh)]) hx hb dX6_planWalk_126 hl (k := 5) rfl (by exact nI_add _ 1) (by decide) rfl (fun ls hl => ?_)
                    refine lv_goto (tgt := 59) hx hb dX6_planWalk_129 (by decide) ?_
                    exact ih59 (t + 1) wl E1 (by omega) (by omega) (hR1) (hKp) (by rw [hsm]; exact hS1) _ _ hH ls (lv_sub hl [2, 3, 4, 5, 0] rfl)
                  · have c93 : ¬ ((hi / 2 ^ (t - 30)) &&& 1) = 0 := fun zz => c93 ((nI_eq (a := ((hi / 2 ^ (t - 30)) &&& 1)) (b := 0) (by omega) (by omega)).mpr zz)
                    rw [sel_and] at c93
                    have hsel : sel lo hi t = true := by unfold sel; rw [if_neg c70]; simp; omega
                    refine lv_aload_n hx hb dX6_planWalk_96 rfl (lv_at hl 1 rfl) ?_
                    refine lv_iload hx hb dX6_planWalk_97 (lv_at hl 5 rfl) ?_
                    refine x_callq (va_runV (As := [.int (nI t)]) (rest := []) ⟨hx, hb, hml, hown, hts⟩ (c_X6_treeAt l G A _ a tlc _ _ _ _ _ _ (if L 0 = 0 then G.2 12 else ad 6 0 0) _ _ _ _ _ _ (L 0) (cp 0) (ldat ad L 0) hc_a (by rw [htlc]; exact hR1.lst (by omega)) (nI t) fa (fun h9 => hR1.dat (by omega) h9) (fun j hj => by rw [hfa]; exact ldat_t ad L hj) (by have := hR1.2.2 0 (by omega); omega) (hR1.2.2 0 (by omega)).1 (fun j hj => ⟨_, by rw [hfa]; exact hR1.tree hj⟩)) (cwV 1 hts gX6_planWalk_X6_treeAt rfl rfl rfl (by decide +kernel) ⟨Nat.le_of_ble_eq_true rfl, Nat.le_of_ble_eq_true rfl⟩) (x_preV hK hH hTt (hc_a) rfl [.int (nI t)]) rfl rfl hl.1 rfl (lv_room (Nat.le_of_ble_eq_true rfl)) dX6_planWalk_99 ⟨Nat.le_of_ble_eq_true rfl, Nat.le_of_ble_eq_true rfl⟩) hH (fun r99 u H locs hp hH => ?_)
                    obtain ⟨hat, hu9⟩ := hp
                    rw [hu9] at hH
                    by_cases htt : t < L 0
                    · have hrt : r99 = some (fa t) := hat.1 t htt rfl
                      subst hrt
                      obtain ⟨tr, htr0⟩ : ∃ z, z = fa t := ⟨_, rfl⟩
                      rw [← htr0]
                      have htr : tr = ad 12 t 0 := by rw [htr0, hfa]
                      have hc_tr : wl tr = some (.inr (5, [.int (nI t), .ref (ad 4 (wd t) 0), .int (F 5 t * 100 + F 6 t), .int (bearI (F 7 t)), .ref (ad 5 (2 + t) 0), .int (F 8 t), .int (F 10 t)])) := by rw [htr]; exact hR1.tree htt
                      have hsm : slT lo hi (t + 1) = slT lo hi t ++ [t] := slT_y hsel
                      have hNL : (slT lo hi t).length < 6 := by have h9 := slT_m lo hi (t := t + 1) (60 - (t + 1)); rw [show t + 1 + (60 - (t + 1)) = 60 by omega, hsm, List.length_append] at h9; simp at h9; omega
                      refine lv_astore (lv' := [(7, .ref tr), (6, .int (nI (hi / 2 ^ (t - 30)))), (0, .ref a), (1, .int (nI lo)), (2, .int (nI hi)), (3, .int wh), (5, .int (nI t))]) hx hb dX6_planWalk_102 hl (by decide) rfl (fun ls hl => ?_)
                      refine lv_aload hx hb dX6_planWalk_104 (lv_at hl 0 rfl) ?_
                      refine lv_ifnonnull (tgt := 111) hx hb dX6_planWalk_106 (by decide) ?_
                      refine lv_aload_n hx hb dX6_planWalk_111 rfl (lv_at hl 2 rfl) ?_
                      refine lv_aload hx hb dX6_planWalk_112 (lv_at hl 0 rfl) ?_
                      refine lv_aload_n hx hb dX6_planWalk_114 rfl (lv_at hl 2 rfl) ?_
                      refine x_get (C := RX6) (T := TX6) (N := 12) hx hb hts hiX6 hown hK hH hc_a rfl 6 (by decide) hf42 (fun _ h => h) (v := .ref plc) rfl dX6_planWalk_115 ?_
                      refine lv_aload hx hb dX6_planWalk_118 (lv_at hl 0 rfl) ?_
                      refine x_calli (va_runV (As := [.ref tr]) (rest := [.ref tr, .ref a]) ⟨hx, hb, hml, hown, hts⟩ (c_X2_join l G A _ plc (ad 9 0 0) (ad 9 1 0) (ad 10 0 0) (ad 11 (slT lo hi t).length 0) tr _ _ _ _ _ _ _ (slT lo hi t).length _ _ _ _ _ _ _ _ _ _ _ (six ad 11) hc_plc (hR1.1 9 0 0 ⟨by decide, rfl⟩) (hR1.1 9 1 0 ⟨by decide, rfl⟩) (hR1.1 10 0 0 ⟨rfl, rfl⟩) (hR1.1 11 _ 0 ⟨hNL, rfl⟩) hc_tr hNL (if_pos hNL) (hR1.ne (k := 9) (i := 0) (j := 0) (k' := 9) (i' := 1) (j' := 0) ⟨by decide, rfl⟩ ⟨by decide, rfl⟩ (by decide))) (cwV 1 hts gX6_planWalk_X2_join rfl rfl rfl (by decide +kernel) ⟨Nat.le_of_ble_eq_true rfl, Nat.le_of_ble_eq_true rfl⟩) (x_preV hK hH hTt (hc_plc) rfl [.ref tr]) rfl rfl hl.1 rfl (lv_room (Nat.le_of_ble_eq_true rfl)) dX6_planWalk_120 ⟨Nat.le_of_ble_eq_true rfl, Nat.le_of_ble_eq_true rfl⟩) hH (fun r120 w120 H locs hp hH => ?_)
                      obtain ⟨hrj, hu_p, hu_1, hu_2, hu_q, hfm⟩ := hp
                      subst hrj
                      rw [hplc] at hu_p hfm
                      have hRj := rep_join hR1 h60 hNL hu_p hu_1 hu_2 hu_q hfm
                      have hKj : Kp w w120 ad L := hKp.trans (fun y hy => hfm y (hy 8 0 0 ⟨rfl, rfl⟩) (hy 9 0 0 ⟨by decide, rfl⟩) (hy 9 1 0 ⟨by decide, rfl⟩) (hy 11 _ 0 ⟨hNL, rfl⟩))
                      have hc_a : w120 a = some (.inr (7, [.ref wmc, .ref rnc, .ref wsc, .ref tlc, .ref blc, .ref tac, .ref plc, .int (nI now), .int (I 30), .int (I 29), .int (I 31), .int (I 32)])) := by rw [ha, hwmc, hrnc, hwsc, htlc, hblc, htac, hplc, ← hI0]; exact hRj.root
                      refine x_callv (va_runV (As := [.ref tr, .int (nI ((slT lo hi t).length))]) (rest := []) ⟨hx, hb, hml, hown, hts⟩ (c_X6_foreseeTree l G A _ a ad _ cp L wd bw lb I F (by rw [ha]; exact hRj.root) now hRj hV ha tr t (slT lo hi t).length htr htt hNL) (cwV 2 hts gX6_planWalk_X6_foreseeTree rfl rfl rfl (by decide +kernel) ⟨Nat.le_of_ble_eq_true rfl, Nat.le_of_ble_eq_true rfl⟩) (x_preV hK hH hTt (hc_a) rfl [.ref tr, .int (nI ((slT lo hi t).length))]) rfl rfl hl.1 rfl (lv_room (Nat.le_of_ble_eq_true rfl)) dX6_planWalk_123 ⟨Nat.le_of_ble_eq_true rfl, Nat.le_of_ble_eq_true rfl⟩) hH (fun w123 H locs hp hH => ?_)
                      obtain ⟨E3, hR3, hs3, hr3, hK3⟩ := hp
                      have hS3 : PwS E3 F now L (slT lo hi (t + 1)) := by rw [hsm]; exact hS1.step htt hs3 hr3
                      refine lv_iinc (v := nI (t + 1)) (lv' := [(5, .int (nI (t + 1))), (7, .ref tr), (6, .int (nI (hi / 2 ^ (t - 30)))), (0, .ref a), (1, .int (nI lo)), (2, .int (nI hi)), (3, .int wh)]) hx hb dX6_planWalk_126 hl (k := 6) rfl (by exact nI_add _ 1) (by decide) rfl (fun ls hl => ?_)
                      refine lv_goto (tgt := 59) hx hb dX6_planWalk_129 (by decide) ?_
                      exact ih59 (t + 1) w123 E3 (by omega) (by omega) (hR3) (hKj.trans hK3) (hS3) _ _ hH ls (lv_sub hl [3, 4, 5, 6, 0] rfl)
                    · have hrt : r99 = none := hat.2 (fun j hj e9 => htt (by rw [(nI_eq (by omega) (by omega)).mp e9]; exact hj))
                      subst hrt
                      refine lv_astoreN (lv' := [(7, .null), (6, .int (nI (hi / 2 ^ (t - 30)))), (0, .ref a), (1, .int (nI lo)), (2, .int (nI hi)), (3, .int wh), (5, .int (nI t))]) hx hb dX6_planWalk_102 hl (by decide) rfl (fun ls hl => ?_)
                      refine lv_aloadN hx hb dX6_planWalk_104 (lv_at hl 0 rfl) ?_
                      refine lv_ifnonnullN hx hb dX6_planWalk_106 ?_
                      refine lv_iconst (v := 0) hx hb dX6_planWalk_109 (by decide) ?_
                      exact x_zret (v := 0) wl hx hb hr hlocks (by decide) hK hH (⟨E1, hR1, hS1.2.2.1, hKp, fun _ => rfl, fun z => absurd (wR_c (pw_none hl1 hl2 (by omega) hsel htt)) z⟩) dX6_planWalk_110
                · have c70 : ¬ 30 ≤ t := fun zz => c70 ((nI_leI (a := 30) (b := t) (by omega) (by omega)).mpr zz)
                  have c70 : t < 30 := by omega
                  refine lv_iload_n hx hb dX6_planWalk_73 rfl (lv_at hl 1 rfl) ?_
                  refine lv_iload hx hb dX6_planWalk_74 (lv_at hl 4 rfl) ?_
                  refine lv_iushr (v := nI (lo / 2 ^ t)) hx hb dX6_planWalk_76 (ush_nat (k := t) (by omega) (by omega)) ?_
                  refine lv_goto (tgt := 87) hx hb dX6_planWalk_77 (by decide) ?_
                  refine lv_istore (lv' := [(6, .int (nI (lo / 2 ^ t))), (0, .ref a), (1, .int (nI lo)), (2, .int (nI hi)), (3, .int wh), (5, .int (nI t))]) hx hb dX6_planWalk_87 hl (by decide) rfl (fun ls hl => ?_)
                  refine lv_iload hx hb dX6_planWalk_89 (lv_at hl 0 rfl) ?_
                  refine lv_iconst (v := 1) hx hb dX6_planWalk_91 (by decide) ?_
                  refine N_iand hx hb (lo / 2 ^ t) 1 rfl rfl dX6_planWalk_92 ?_
                  have hA93 : ((lo / 2 ^ t) &&& 1) < 2 := by rw [sel_and]; exact Nat.mod_lt _ (by decide)
                  refine lv_if_eq (tgt := 126) hx hb dX6_planWalk_93 (by decide) (fun c93 => ?_) (fun c93 => ?_)
                  · have c93 : ((lo / 2 ^ t) &&& 1) = 0 := (nI_eq (a := ((lo / 2 ^ t) &&& 1)) (b := 0) (by omega) (by omega)).mp c93
                    rw [sel_and] at c93
                    have hsel : ¬ sel lo hi t = true := by unfold sel; rw [if_pos c70]; simp; omega
                    have hsm : slT lo hi (t + 1) = slT lo hi t := slT_n hsel
                    refine lv_iinc (v := nI (t + 1)) (lv' := [(5, .int (nI (t + 1))), (6, .int (nI (lo / 2 ^ t))), (0, .ref a), (1, .int (nI lo)), (2, .int (nI hi)), (3, .int wh)]) hx hb dX6_planWalk_126 hl (k := 5) rfl (by exact nI_add _ 1) (by decide) rfl (fun ls hl => ?_)
                    refine lv_goto (tgt := 59) hx hb dX6_planWalk_129 (by decide) ?_
                    exact ih59 (t + 1) wl E1 (by omega) (by omega) (hR1) (hKp) (by rw [hsm]; exact hS1) _ _ hH ls (lv_sub hl [2, 3, 4, 5, 0] rfl)
                  · have c93 : ¬ ((lo / 2 ^ t) &&& 1) = 0 := fun zz => c93 ((nI_eq (a := ((lo / 2 ^ t) &&& 1)) (b := 0) (by omega) (by omega)).mpr zz)
                    rw [sel_and] at c93
                    have hsel : sel lo hi t = true := by unfold sel; rw [if_pos c70]; simp; omega
                    refine lv_aload_n hx hb dX6_planWalk_96 rfl (lv_at hl 1 rfl) ?_
                    refine lv_iload hx hb dX6_planWalk_97 (lv_at hl 5 rfl) ?_
                    refine x_callq (va_runV (As := [.int (nI t)]) (rest := []) ⟨hx, hb, hml, hown, hts⟩ (c_X6_treeAt l G A _ a tlc _ _ _ _ _ _ (if L 0 = 0 then G.2 12 else ad 6 0 0) _ _ _ _ _ _ (L 0) (cp 0) (ldat ad L 0) hc_a (by rw [htlc]; exact hR1.lst (by omega)) (nI t) fa (fun h9 => hR1.dat (by omega) h9) (fun j hj => by rw [hfa]; exact ldat_t ad L hj) (by have := hR1.2.2 0 (by omega); omega) (hR1.2.2 0 (by omega)).1 (fun j hj => ⟨_, by rw [hfa]; exact hR1.tree hj⟩)) (cwV 1 hts gX6_planWalk_X6_treeAt rfl rfl rfl (by decide +kernel) ⟨Nat.le_of_ble_eq_true rfl, Nat.le_of_ble_eq_true rfl⟩) (x_preV hK hH hTt (hc_a) rfl [.int (nI t)]) rfl rfl hl.1 rfl (lv_room (Nat.le_of_ble_eq_true rfl)) dX6_planWalk_99 ⟨Nat.le_of_ble_eq_true rfl, Nat.le_of_ble_eq_true rfl⟩) hH (fun r99 u H locs hp hH => ?_)
                    obtain ⟨hat, hu9⟩ := hp
                    rw [hu9] at hH
                    by_cases htt : t < L 0
                    · have hrt : r99 = some (fa t) := hat.1 t htt rfl
                      subst hrt
                      obtain ⟨tr, htr0⟩ : ∃ z, z = fa t := ⟨_, rfl⟩
                      rw [← htr0]
                      have htr : tr = ad 12 t 0 := by rw [htr0, hfa]
                      have hc_tr : wl tr = some (.inr (5, [.int (nI t), .ref (ad 4 (wd t) 0), .int (F 5 t * 100 + F 6 t), .int (bearI (F 7 t)), .ref (ad 5 (2 + t) 0), .int (F 8 t), .int (F 10 t)])) := by rw [htr]; exact hR1.tree htt
                      have hsm : slT lo hi (t + 1) = slT lo hi t ++ [t] := slT_y hsel
                      have hNL : (slT lo hi t).length < 6 := by have h9 := slT_m lo hi (t := t + 1) (60 - (t + 1)); rw [show t + 1 + (60 - (t + 1)) = 60 by omega, hsm, List.length_append] at h9; simp at h9; omega
                      refine lv_astore (lv' := [(7, .ref tr), (6, .int (nI (lo / 2 ^ t))), (0, .ref a), (1, .int (nI lo)), (2, .int (nI hi)), (3, .int wh), (5, .int (nI t))]) hx hb dX6_planWalk_102 hl (by decide) rfl (fun ls hl => ?_)
                      refine lv_aload hx hb dX6_planWalk_104 (lv_at hl 0 rfl) ?_
                      refine lv_ifnonnull (tgt := 111) hx hb dX6_planWalk_106 (by decide) ?_
                      refine lv_aload_n hx hb dX6_planWalk_111 rfl (lv_at hl 2 rfl) ?_
                      refine lv_aload hx hb dX6_planWalk_112 (lv_at hl 0 rfl) ?_
                      refine lv_aload_n hx hb dX6_planWalk_114 rfl (lv_at hl 2 rfl) ?_
                      refine x_get (C := RX6) (T := TX6) (N := 12) hx hb hts hiX6 hown hK hH hc_a rfl 6 (by decide) hf42 (fun _ h => h) (v := .ref plc) rfl dX6_planWalk_115 ?_
                      refine lv_aload hx hb dX6_planWalk_118 (lv_at hl 0 rfl) ?_
                      refine x_calli (va_runV (As := [.ref tr]) (rest := [.ref tr, .ref a]) ⟨hx, hb, hml, hown, hts⟩ (c_X2_join l G A _ plc (ad 9 0 0) (ad 9 1 0) (ad 10 0 0) (ad 11 (slT lo hi t).length 0) tr _ _ _ _ _ _ _ (slT lo hi t).length _ _ _ _ _ _ _ _ _ _ _ (six ad 11) hc_plc (hR1.1 9 0 0 ⟨by decide, rfl⟩) (hR1.1 9 1 0 ⟨by decide, rfl⟩) (hR1.1 10 0 0 ⟨rfl, rfl⟩) (hR1.1 11 _ 0 ⟨hNL, rfl⟩) hc_tr hNL (if_pos hNL) (hR1.ne (k := 9) (i := 0) (j := 0) (k' := 9) (i' := 1) (j' := 0) ⟨by decide, rfl⟩ ⟨by decide, rfl⟩ (by decide))) (cwV 1 hts gX6_planWalk_X2_join rfl rfl rfl (by decide +kernel) ⟨Nat.le_of_ble_eq_true rfl, Nat.le_of_ble_eq_true rfl⟩) (x_preV hK hH hTt (hc_plc) rfl [.ref tr]) rfl rfl hl.1 rfl (lv_room (Nat.le_of_ble_eq_true rfl)) dX6_planWalk_120 ⟨Nat.le_of_ble_eq_true rfl, Nat.le_of_ble_eq_true rfl⟩) hH (fun r120 w120 H locs hp hH => ?_)
                      obtain ⟨hrj, hu_p, hu_1, hu_2, hu_q, hfm⟩ := hp
                      subst hrj
                      rw [hplc] at hu_p hfm
                      have hRj := rep_join hR1 h60 hNL hu_p hu_1 hu_2 hu_q hfm
                      have hKj : Kp w w120 ad L := hKp.trans (fun y hy => hfm y (hy 8 0 0 ⟨rfl, rfl⟩) (hy 9 0 0 ⟨by decide, rfl⟩) (hy 9 1 0 ⟨by decide, rfl⟩) (hy 11 _ 0 ⟨hNL, rfl⟩))
                      have hc_a : w120 a = some (.inr (7, [.ref wmc, .ref rnc, .ref wsc, .ref tlc, .ref blc, .ref tac, .ref plc, .int (nI now), .int (I 30), .int (I 29), .int (I 31), .int (I 32)])) := by rw [ha, hwmc, hrnc, hwsc, htlc, hblc, htac, hplc, ← hI0]; exact hRj.root
                      refine x_callv (va_runV (As := [.ref tr, .int (nI ((slT lo hi t).length))]) (rest := []) ⟨hx, hb, hml, hown, hts⟩ (c_X6_foreseeTree l G A _ a ad _ cp L wd bw lb I F (by rw [ha]; exact hRj.root) now hRj hV ha tr t (slT lo hi t).length htr htt hNL) (cwV 2 hts gX6_planWalk_X6_foreseeTree rfl rfl rfl (by decide +kernel) ⟨Nat.le_of_ble_eq_true rfl, Nat.le_of_ble_eq_true rfl⟩) (x_preV hK hH hTt (hc_a) rfl [.ref tr, .int (nI ((slT lo hi t).length))]) rfl rfl hl.1 rfl (lv_room (Nat.le_of_ble_eq_true rfl)) dX6_planWalk_123 ⟨Nat.le_of_ble_eq_true rfl, Nat.le_of_ble_eq_true rfl⟩) hH (fun w123 H locs hp hH => ?_)
                      obtain ⟨E3, hR3, hs3, hr3, hK3⟩ := hp
                      have hS3 : PwS E3 F now L (slT lo hi (t + 1)) := by rw [hsm]; exact hS1.step htt hs3 hr3
                      refine lv_iinc (v := nI (t + 1)) (lv' := [(5, .int (nI (t + 1))), (7, .ref tr), (6, .int (nI (lo / 2 ^ t))), (0, .ref a), (1, .int (nI lo)), (2, .int (nI hi)), (3, .int wh)]) hx hb dX6_planWalk_126 hl (k := 6) rfl (by exact nI_add _ 1) (by decide) rfl (fun ls hl => ?_)
                      refine lv_goto (tgt := 59) hx hb dX6_planWalk_129 (by decide) ?_
                      exact ih59 (t + 1) w123 E3 (by omega) (by omega) (hR3) (hKj.trans hK3) (hS3) _ _ hH ls (lv_sub hl [3, 4, 5, 6, 0] rfl)
                    · have hrt : r99 = none := hat.2 (fun j hj e9 => htt (by rw [(nI_eq (by omega) (by omega)).mp e9]; exact hj))
                      subst hrt
                      refine lv_astoreN (lv' := [(7, .null), (6, .int (nI (lo / 2 ^ t))), (0, .ref a), (1, .int (nI lo)), (2, .int (nI hi)), (3, .int wh), (5, .int (nI t))]) hx hb dX6_planWalk_102 hl (by decide) rfl (fun ls hl => ?_)
                      refine lv_aloadN hx hb dX6_planWalk_104 (lv_at hl 0 rfl) ?_
                      refine lv_ifnonnullN hx hb dX6_planWalk_106 ?_
                      refine lv_iconst (v := 0) hx hb dX6_planWalk_109 (by decide) ?_
                      exact x_zret (v := 0) wl hx hb hr hlocks (by decide) hK hH (⟨E1, hR1, hS1.2.2.1, hKp, fun _ => rfl, fun z => absurd (wR_c (pw_none hl1 hl2 (by omega) hsel htt)) z⟩) dX6_planWalk_110
          · have c44 : ¬ (hi / 1073741824) = 0 := fun zz => c44 ((nI_eq (a := (hi / 1073741824)) (b := 0) (by omega) (by omega)).mpr zz)
            refine lv_iconst (v := 0) hx hb dX6_planWalk_47 (by decide) ?_
            exact x_zret (v := 0) w hx hb hr hlocks (by decide) hK hH (⟨E, hR, hE, fun _ _ => rfl, fun _ => rfl, fun z => absurd (wR_c (chI_hi (by omega) hhi _)) z⟩) dX6_planWalk_48
      · refine lv_iconst (v := 0) hx hb dX6_planWalk_31 (by decide) ?_
        exact x_zret (v := 0) w hx hb hr hlocks (by decide) hK hH (⟨E, hR, hE, fun _ _ => rfl, fun _ => rfl, fun z => absurd (wR_p (hip.symm.trans c28)) z⟩) dX6_planWalk_32
