set_option maxHeartbeats 4000000 in
set_option maxRecDepth 100000 in
theorem c_X6_walked (l : Launch) (G : XG) (A : Nat → Prop) (w : XW) (a : Nat) (ad : YA) (E : YE) (cp L wd bw : Nat → Nat) (lb : Nat → Option Nat) (I : Nat → Int32) (F : Nat → Nat → Int32) (hc_a : w a = some (.inr (7, [.ref (ad 1 0 0), .ref (ad 2 0 0), .ref (ad 3 0 0), .ref (ad 5 0 0), .ref (ad 5 1 0), .ref (ad 7 0 0), .ref (ad 8 0 0), .int (I 0), .int (I 30), .int (I 29), .int (I 31), .int (I 32)]))) (now : Nat) (hR : Rep G w ad E cp L wd bw lb I F) (hV : Inv now L wd bw lb I F) (ha : a = ad 0 0 0) (hE : ∀ j, E 9 4 0 j = 0) (lo hi : Nat) (wh what : Int32) (hlo : lo < 2 ^ 32) (hhi : hi < 2 ^ 32) : Met l yX6_walked wsX6_walked ({ frames := 9, cells := 0, slots := 0, locals := 232 }) (va_Pc [.ref a, .int (nI lo), .int (nI hi), .int wh, .int what] (xP G A (w))) (va_Qi (fun (r : Int32) (u : XW) => r = sWalked F (L 0) now (fun t => L (2 + t)) (fun t => ix (F 5 t)) (fun t => ix (F 6 t)) (nI lo) (nI hi) wh what ∧ Nx G w u a (own ad L) I F) (fun u t => xB G A (u) t) A) 0 0 A := by
  refine Met.ofW (cc := cX6_walked) (maxL := 5) (ret := (some .int)) (by decide) rfl ?_
  intro p e s m args below meth c s₁ B hml hv
  obtain ⟨rfl, hK, hH, hTt⟩ := hv
  have hx := B.exec
  have hb := B.bytes
  have hr := B.returns
  have hts := atoms_spec (ws := wsX6_walked) B.pre
  have hown : s.vm.findClass RX6 = some m.cls := findClass_of_methodNamed B.named
  have hlocks := B.notSynchronized
  have hiX2 : ∀ w ∈ wsX20, w ∈ wsX6_walked := by decide +kernel
  have hiX6 : ∀ w ∈ wsX60, w ∈ wsX6_walked := by decide +kernel
  have hf42 := hts (.fieldLink RX6 42 "ResinWoods" "planner" "LResinWoods$Planner;") (by decide +kernel)
  have hf229 := hts (.fieldLink RX6 229 "ResinWoods$Planner" "bestOver" "I") (by decide +kernel)
  have hf232 := hts (.fieldLink RX6 232 "ResinWoods$Planner" "bestSteps" "I") (by decide +kernel)
  have hl := lv_entry ([.ref a, .int (nI lo), .int (nI hi), .int wh, .int what]) (n := 5) (Nat.le_of_ble_eq_true rfl)
  rw [lg_entry_eq]
  generalize (lg_sl ([.ref a, .int (nI lo), .int (nI hi), .int wh, .int what]) ++ List.replicate (5 - (lg_sl ([.ref a, .int (nI lo), .int (nI hi), .int wh, .int what])).length) Slot.unset).toArray = ls at hl ⊢
  have hl : lv_has ls 5 [(0, .ref a), (1, .int (nI lo)), (2, .int (nI hi)), (3, .int wh), (4, .int what)] := hl
  have h60 : L 0 ≤ 60 := hV.1.2.2.2.1
  have hI3 : I 3 = nI (L 0) := hV.1.2.2.1
  have hI0 : I 0 = nI now := hV.1.1
  have hnow : now ≤ 3650 := hV.1.2.1
  obtain ⟨fa, hfa⟩ : ∃ z : Nat → Nat, z = fun j => ad 12 j 0 := ⟨_, rfl⟩
  obtain ⟨fba, hfba⟩ : ∃ z : Nat → Nat, z = fun j => ad 15 j 0 := ⟨_, rfl⟩
  obtain ⟨hs, hBV, hB1, hB2, hB3, hB4, hB5⟩ := hV.2.2.2.2
  have hI16 : I 16 = nI (L 1) := hBV.1
  have h200 : L 1 ≤ 200 := hBV.2.1
  obtain ⟨fwa, hfwa⟩ : ∃ z : Nat → Nat, z = fun j => ad 4 j 0 := ⟨_, rfl⟩
  obtain ⟨plc, hplc⟩ : ∃ z, z = ad 8 0 0 := ⟨_, rfl⟩
  obtain ⟨nbr, hnbr⟩ : ∃ z, z = ad 9 0 0 := ⟨_, rfl⟩
  obtain ⟨bsr, hbsr⟩ : ∃ z, z = ad 9 3 0 := ⟨_, rfl⟩
  refine lv_iload hx hb dX6_walked_0 (lv_at hl 4 rfl) ?_
  refine lv_if_lt (tgt := 21) hx hb dX6_walked_2 (by decide) (fun c2 => ?_) (fun c2 => ?_)
  · refine lv_iconst (v := (-1)) hx hb dX6_walked_21 (by decide) ?_
    exact x_iret (v := (-1)) w hx hb hr hlocks hK hH (⟨by unfold sWalked; rw [if_pos (binI_0.mpr (fun z => z.1 c2))], Nx.same hR hV ha hE (fun _ _ => rfl)⟩) dX6_walked_22
  · refine lv_iload hx hb dX6_walked_5 (lv_at hl 4 rfl) ?_
    refine lv_iconst (v := 1) hx hb dX6_walked_7 (by decide) ?_
    refine lv_icmp_gt (tgt := 21) hx hb dX6_walked_8 (by decide) (fun c8 => ?_) (fun c8 => ?_)
    · refine lv_iconst (v := (-1)) hx hb dX6_walked_21 (by decide) ?_
      exact x_iret (v := (-1)) w hx hb hr hlocks hK hH (⟨by unfold sWalked; rw [if_pos (binI_0.mpr (fun z => z.2 c8))], Nx.same hR hV ha hE (fun _ _ => rfl)⟩) dX6_walked_22
    · refine lv_aload_n hx hb dX6_walked_11 rfl (lv_at hl 0 rfl) ?_
      refine lv_iload_n hx hb dX6_walked_12 rfl (lv_at hl 1 rfl) ?_
      refine lv_iload_n hx hb dX6_walked_13 rfl (lv_at hl 2 rfl) ?_
      refine lv_iload_n hx hb dX6_walked_14 rfl (lv_at hl 3 rfl) ?_
      refine x_calli (va_runV (As := [.int (nI lo), .int (nI hi), .int wh]) (rest := []) ⟨hx, hb, hml, hown, hts⟩ (c_X6_planWalk l G A _ a ad E cp L wd bw lb I F hc_a now hR hV ha hE lo hi wh hlo hhi) (cwV 3 hts gX6_walked_X6_planWalk rfl rfl rfl (by decide +kernel) ⟨Nat.le_of_ble_eq_true rfl, Nat.le_of_ble_eq_true rfl⟩) (x_preV hK hH hTt (hc_a) rfl [.int (nI lo), .int (nI hi), .int wh]) rfl rfl hl.1 rfl (lv_room (Nat.le_of_ble_eq_true rfl)) dX6_walked_15 ⟨Nat.le_of_ble_eq_true rfl, Nat.le_of_ble_eq_true rfl⟩) hH (fun r15 w15 H locs hp hH => ?_)
      obtain ⟨E1, hR1, h94, hK1, hr0, hr1⟩ := hp
      have hc_a : w15 a = some (.inr (7, [.ref (ad 1 0 0), .ref (ad 2 0 0), .ref (ad 3 0 0), .ref (ad 5 0 0), .ref (ad 5 1 0), .ref (ad 7 0 0), .ref plc, .int (I 0), .int (I 30), .int (I 29), .int (I 31), .int (I 32)])) := by rw [ha, hplc]; exact hR1.root
      refine lv_if_ne (tgt := 23) hx hb dX6_walked_18 (by decide) (fun c18 => ?_) (fun c18 => ?_)
      · have hw : ¬ wR (nI lo) (nI hi) wh (L 0) = -1 := fun z => c18 (hr0 z)
        obtain ⟨-, hq1, hq2, hq3⟩ := hr1 hw
        have hwn := wR_ok hw
        obtain ⟨ho1, ho6, hom⟩ := okS_iff.mp (chI_ok (fun z => hw (wR_c z))).2
        obtain ⟨hb1, hb2, hb3, -, -, hb6⟩ := hq3
        have hbl : (bidx F now (fun t => L (2 + t)) (sW (nI lo) (nI hi)) (fun t => ix (F 5 t)) (fun t => ix (F 6 t)) (ix wh / 100) (ix wh % 100) (ofac (sW (nI lo) (nI hi)).length)) < ofac (sW (nI lo) (nI hi)).length := bidx_lt _ (ofac_b _ (by omega)).1
        have hc_plc : w15 plc = some (.inr (3, [.int (nI ((sW (nI lo) (nI hi)).length)), .ref nbr, .ref (ad 9 1 0), .ref (ad 10 0 0), .ref (ad 9 2 0), .ref bsr, .ref (ad 9 4 0), .ref (ad 13 60 0), .ref (ad 7 1 0), .int (E1 8 0 0 1), .int (E1 8 0 0 2), .int (E1 8 0 0 3)])) := by rw [hplc, hnbr, hbsr, ← hq1]; exact hR1.1 8 0 0 ⟨rfl, rfl⟩
        have hc_nbr : w15 nbr = some (.inl (G.2 0, 6, .inl (E1 9 0 0))) := by rw [hnbr]; exact hR1.1 9 0 0 ⟨by decide, rfl⟩
        have hc_bsr : w15 bsr = some (.inl (G.2 0, 6, .inl (E1 9 3 0))) := by rw [hbsr]; exact hR1.1 9 3 0 ⟨by decide, rfl⟩
        have hbw : ¬ binI what 0 1 = 0 := binI_1.mpr ⟨c2, c8⟩
        have hwp : ix wh ≤ 9999 := by
          have hpw : ¬ plcI wh = 0 := fun z => hw (wR_p z)
          rw [plc_eq] at hpw
          obtain ⟨j, -, hj, hje⟩ := inI_nat (a := 0) (b := 9999) (binI_1.mp hpw) (by decide) (by decide)
          rw [hje, ix_n (by omega)]
          exact hj
        obtain ⟨hz1, hz2, -⟩ := pw_best hV hom ho1 ho6 hwp _ hbl
        refine lv_iload hx hb dX6_walked_23 (lv_at hl 4 rfl) ?_
        refine lv_if_ne (tgt := 38) hx hb dX6_walked_25 (by decide) (fun c25 => ?_) (fun c25 => ?_)
        · refine lv_aload_n hx hb dX6_walked_38 rfl (lv_at hl 0 rfl) ?_
          refine x_get (C := RX6) (T := TX6) (N := 12) hx hb hts hiX6 hown hK hH hc_a rfl 6 (by decide) hf42 (fun _ h => h) (v := .ref plc) rfl dX6_walked_39 ?_
          refine x_get (C := RX2) (T := TX2) (N := 12) hx hb hts hiX2 hown hK hH hc_plc rfl 11 (by decide) hf232 (fun _ h => h) (v := .int (E1 8 0 0 3)) rfl dX6_walked_42 ?_
          exact x_iret (v := E1 8 0 0 3) w15 hx hb hr hlocks hK hH (⟨by unfold sWalked; rw [if_neg hbw, if_neg hw, if_neg c25, hb3, hz2], Nx.same hR1 hV ha h94 hK1⟩) dX6_walked_45
        · refine lv_aload_n hx hb dX6_walked_28 rfl (lv_at hl 0 rfl) ?_
          refine x_get (C := RX6) (T := TX6) (N := 12) hx hb hts hiX6 hown hK hH hc_a rfl 6 (by decide) hf42 (fun _ h => h) (v := .ref plc) rfl dX6_walked_29 ?_
          refine x_get (C := RX2) (T := TX2) (N := 12) hx hb hts hiX2 hown hK hH hc_plc rfl 10 (by decide) hf229 (fun _ h => h) (v := .int (E1 8 0 0 2)) rfl dX6_walked_32 ?_
          refine lv_goto (tgt := 45) hx hb dX6_walked_35 (by decide) ?_
          exact x_iret (v := E1 8 0 0 2) w15 hx hb hr hlocks hK hH (⟨by unfold sWalked; rw [if_neg hbw, if_neg hw, if_pos c25, hb2]; exact hz1.symm, Nx.same hR1 hV ha h94 hK1⟩) dX6_walked_45
      · have hbw : ¬ binI what 0 1 = 0 := binI_1.mpr ⟨c2, c8⟩
        have hw : wR (nI lo) (nI hi) wh (L 0) = -1 := Decidable.byContradiction fun z => by rw [(hr1 z).1] at c18; exact absurd c18 (by decide)
        refine lv_iconst (v := (-1)) hx hb dX6_walked_21 (by decide) ?_
        exact x_iret (v := (-1)) w15 hx hb hr hlocks hK hH (⟨by unfold sWalked; rw [if_neg hbw, if_pos hw], Nx.same hR1 hV ha h94 hK1⟩) dX6_walked_22
