set_option maxHeartbeats 4000000 in
set_option maxRecDepth 100000 in
theorem c_X6_pourCup (l : Launch) (G : XG) (A : Nat → Prop) (w : XW) (a : Nat) (ad : YA) (E : YE) (cp L wd bw : Nat → Nat) (lb : Nat → Option Nat) (I : Nat → Int32) (F : Nat → Nat → Int32) (hc_a : w a = some (.inr (7, [.ref (ad 1 0 0), .ref (ad 2 0 0), .ref (ad 3 0 0), .ref (ad 5 0 0), .ref (ad 5 1 0), .ref (ad 7 0 0), .ref (ad 8 0 0), .int (I 0), .int (I 30), .int (I 29), .int (I 31), .int (I 32)]))) (now : Nat) (hR : Rep G w ad E cp L wd bw lb I F) (hV : Inv now L wd bw lb I F) (ha : a = ad 0 0 0) (hE : ∀ j, E 9 4 0 j = 0) (tr fc t i : Nat) (htr : tr = ad 12 t 0) (hfc0 : fc = ad 13 t i) (ht : t < L 0) (hi : i < L (2 + t)) (cg : Nat → Nat) (hcg : ∀ g, g < 4 → F 14 (4 * (3 * t + i) + g) = nI (cg g)) (hc4 : cg 0 + cg 1 + cg 2 + cg 3 ≤ 400) (hcap : cg 0 + cg 1 + cg 2 + cg 3 ≤ capF F (nI (wd t)) (L 1)) : Met l yX6_pourCup wsX6_pourCup ({ frames := 8, cells := 32, slots := 3200, locals := 217 }) (va_Pc [.ref a, .ref tr, .ref fc] (xP G A (w))) (va_Qv (fun (u : XW) => Prd G w u ad E L wd now t (cg 0 + cg 1 + cg 2 + cg 3) F (cupE t (3 * t + i) (I, F))) (fun u t => xB G A (u) t) A) 32 3200 A := by
  refine Met.ofW (cc := cX6_pourCup) (maxL := 4) (ret := none) (by decide) rfl ?_
  intro p e s m args below meth c s₁ B hml hv
  obtain ⟨rfl, hK, hH, hTt⟩ := hv
  have hx := B.exec
  have hb := B.bytes
  have hr := B.returns
  have hts := atoms_spec (ws := wsX6_pourCup) B.pre
  have hown : s.vm.findClass RX6 = some m.cls := findClass_of_methodNamed B.named
  have hlocks := B.notSynchronized
  have hiX1 : ∀ w ∈ wsX10, w ∈ wsX6_pourCup := by decide +kernel
  have hf257 := hts (.fieldLink RX6 257 "ResinWoods$Face" "ofGrade" "[I") (by decide +kernel)
  have hl := lv_entry ([.ref a, .ref tr, .ref fc]) (n := 4) (Nat.le_of_ble_eq_true rfl)
  rw [lg_entry_eq]
  generalize (lg_sl ([.ref a, .ref tr, .ref fc]) ++ List.replicate (4 - (lg_sl ([.ref a, .ref tr, .ref fc])).length) Slot.unset).toArray = ls at hl ⊢
  have hl : lv_has ls 4 [(0, .ref a), (1, .ref tr), (2, .ref fc)] := hl
  have h60 : L 0 ≤ 60 := hV.1.2.2.2.1
  have hI3 : I 3 = nI (L 0) := hV.1.2.2.1
  have hI0 : I 0 = nI now := hV.1.1
  have hnow : now ≤ 3650 := hV.1.2.1
  obtain ⟨fa, hfa⟩ : ∃ z : Nat → Nat, z = fun j => ad 12 j 0 := ⟨_, rfl⟩
  obtain ⟨fba, hfba⟩ : ∃ z : Nat → Nat, z = fun j => ad 15 j 0 := ⟨_, rfl⟩
  obtain ⟨hs, hBV, hB1, hB2, hB3, hB4, hB5⟩ := hV.2.2.2.2
  have hI16 : I 16 = nI (L 1) := hBV.1
  have h200 : L 1 ≤ 200 := hBV.2.1
  obtain ⟨fwa, hfwa⟩ : ∃ z : Nat → Nat, z = fun j => ad 4 j 0 := ⟨_, rfl⟩
  refine lv_iconst (v := 0) hx hb dX6_pourCup_0 (by decide) ?_
  refine lv_istore_n (lv' := [(3, .int 0), (0, .ref a), (1, .ref tr), (2, .ref fc)]) hx hb dX6_pourCup_1 rfl hl (by decide) rfl (fun ls hl => ?_)
  suffices loop2 : ∀ (k2 : Nat) (g : Nat) (wl : XW) (ad1 : YA) (E1 : YE) (cp1 : Nat → Nat) (L1 : Nat → Nat) (bw1 : Nat → Nat) (lb1 : Nat → Option Nat) (I1 : Nat → Int32) (F1 : Nat → Nat → Int32), (4 < g + k2) → (g ≤ 4) → ((I1, F1) = pcS t (3 * t + i) (I, F) g) → (Rep G wl ad1 E1 cp1 L1 wd bw1 lb1 I1 F1) → (Inv now L1 wd bw1 lb1 I1 F1) → (GrB w wl ad ad1 E E1 L L1) → (capF F1 (nI (wd t)) (L1 1) + nsum cg g = capF F (nI (wd t)) (L 1)) → ∀ (H : Heap) (locs : List Loc), xH G A s.heap H locs (wl) → ∀ (ls : Array Slot), lv_has ls 4 [(0, .ref a), (1, .ref tr), (2, .ref fc), (3, .int (nI g))] → W p l e (headSpec wsX6_pourCup _).room s m _ below meth c H locs (8 * g) (800 * g) (MQ below _ _ s 32 3200 A) (F0 m 2 ls []) from
    loop2 5 0 w ad E cp L bw lb I F (by omega) (by omega) (rfl) (hR) (hV) (GrB.refl) (rfl) _ _ hH ls (lv_sub hl [1, 2, 3, 0] rfl)
  intro k2
  induction k2 with
  | zero =>
    intro g wl ad1 E1 cp1 L1 bw1 lb1 I1 F1 hfuel hg9 hS hR1 hV1 hG hC H locs hH ls hl
    exact absurd hfuel (by omega)
  | succ k2 ih2 =>
    intro g wl ad1 E1 cp1 L1 bw1 lb1 I1 F1 hfuel hg9 hS hR1 hV1 hG hC H locs hH ls hl
    have h1o : ∀ i, i ≠ 1 → L1 i = L i := hG.2.2.1
    have ht1 : t < L1 0 := by rw [h1o 0 (by decide)]; exact ht
    have hi1 : i < L1 (2 + t) := by rw [h1o (2 + t) (by omega)]; exact hi
    have h601 : L1 0 ≤ 60 := hV1.1.2.2.2.1
    have e0 : ad1 0 0 0 = a := (hG.1 0 0 0 (by decide) (by decide) (by decide) (by decide)).trans ha.symm
    have e12 : ad1 12 t 0 = tr := (hG.1 12 t 0 (by decide) (by decide) (by decide) (by omega)).trans htr.symm
    have e13 : ad1 13 t i = fc := (hG.1 13 t i (by decide) (by decide) (by decide) (by omega)).trans hfc0.symm
    obtain ⟨gc, hgc⟩ : ∃ z, z = ad1 14 t i := ⟨_, rfl⟩
    have hE1 : ∀ j, E1 9 4 0 j = 0 := fun j => (hG.2.2.2.1 j).trans (hE j)
    have hc_a : wl a = some (.inr (7, [.ref (ad1 1 0 0), .ref (ad1 2 0 0), .ref (ad1 3 0 0), .ref (ad1 5 0 0), .ref (ad1 5 1 0), .ref (ad1 7 0 0), .ref (ad1 8 0 0), .int (I1 0), .int (I1 30), .int (I1 29), .int (I1 31), .int (I1 32)])) := by rw [← e0]; exact hR1.root
    have hc_fc : wl fc = some (.inr (2, [.int (F1 11 (3 * t + i)), .int (F1 12 (3 * t + i)), .int (F1 13 (3 * t + i)), .int (cupS F1 (3 * t + i)), .int (F1 15 (3 * t + i)), .ref gc])) := by rw [← e13, hgc]; exact hR1.face h601 ht1 hi1
    have hc_gc : wl gc = some (.inl (G.2 0, 4, .inl (gr4 F1 (3 * t + i)))) := by rw [hgc]; exact hR1.grd h601 ht1 hi1
    have h14q : F1 14 = F 14 := by have h9 := congrArg (fun z : MS => z.2 14) hS; exact h9.trans (pcS_14 t (3 * t + i) (I, F) g)
    refine lv_iload_n hx hb dX6_pourCup_2 rfl (lv_at hl 3 rfl) ?_
    refine lv_iconst (v := 4) hx hb dX6_pourCup_3 (by decide) ?_
    refine lv_icmp_ge (tgt := 25) hx hb dX6_pourCup_4 (by decide) (fun c4 => ?_) (fun c4 => ?_)
    · have c4 : 4 ≤ g := (nI_leI (a := 4) (b := g) (by omega) (by omega)).mp c4
      refine lv_aload_n hx hb dX6_pourCup_25 rfl (lv_at hl 2 rfl) ?_
      refine x_callv (va_runV (As := []) (rest := []) ⟨hx, hb, hml, hown, hts⟩ (c_X1_clearCup l G A _ fc gc _ _ _ _ _ _ hc_fc hc_gc) (cwV 0 hts gX6_pourCup_X1_clearCup rfl rfl rfl (by decide +kernel) ⟨Nat.le_of_ble_eq_true rfl, Nat.le_of_ble_eq_true rfl⟩) (x_preV hK hH hTt (hc_fc) rfl []) rfl rfl hl.1 rfl (lv_room (Nat.le_of_ble_eq_true rfl)) dX6_pourCup_26 ⟨by show _ ≤ 32; omega, by show _ ≤ 3200; omega⟩) hH (fun w26 H locs hp hH => ?_)
      obtain ⟨hu_fc, hu_gc, hfm⟩ := hp
      rw [← e13, hgc] at hu_fc
      rw [hgc] at hu_gc
      rw [← e13, hgc] at hfm
      have hcl := rep_clear hR1 hV1 ht1 hi1 hu_fc hu_gc hfm
      refine W.widen (k := 32) (n := 3200) (by omega) (by omega) ?_
      exact x_vret w26 hx hb hr hlocks hK hH (by have hS4 : pcS t (3 * t + i) (I, F) 4 = (I1, F1) := (by rw [hS, show g = 4 by omega]); have h8 : nsum cg g = 0 + cg 0 + cg 1 + cg 2 + cg 3 := (by rw [show g = 4 by omega]; rfl); unfold cupE; rw [hS4]; exact ⟨ad1, E1, cp1, L1, bw1, lb1, hcl.1, hcl.2, hG.trans (GrB.step (fun y hy => hfm y (hy 13 t i (Or.inl ⟨ht1, hi1⟩)) (hy 14 t i (Or.inl ⟨ht1, hi1⟩))) hcl.1.some), by rw [capF_c (zeroC_ne _ _ _ (by decide)) (zeroC_ne _ _ _ (by decide)) (zeroC_ne _ _ _ (by decide)) (zeroC_ne _ _ _ (by decide))]; show capF F1 (nI (wd t)) (L1 1) + _ = _; omega⟩) dX6_pourCup_29
    · have c4 : ¬ 4 ≤ g := fun zz => c4 ((nI_leI (a := 4) (b := g) (by omega) (by omega)).mpr zz)
      refine lv_aload_n hx hb dX6_pourCup_7 rfl (lv_at hl 0 rfl) ?_
      refine lv_aload_n hx hb dX6_pourCup_8 rfl (lv_at hl 1 rfl) ?_
      refine lv_iload_n hx hb dX6_pourCup_9 rfl (lv_at hl 3 rfl) ?_
      refine lv_aload_n hx hb dX6_pourCup_10 rfl (lv_at hl 2 rfl) ?_
      refine x_get (C := RX1) (T := TX1) (N := 6) hx hb hts hiX1 hown hK hH hc_fc rfl 5 (by decide) hf257 (fun _ h => h) (v := .ref gc) rfl dX6_pourCup_11 ?_
      refine lv_iload_n hx hb dX6_pourCup_14 rfl (lv_at hl 3 rfl) ?_
      refine Y_iald hx hb hK hH hc_gc g rfl (by omega) (by decide) dX6_pourCup_15 ?_
      refine lv_topi (fun v16 ev16 => ?_)
      have hv16 : v16 = nI (cg g) := by rw [ev16, gr4_at _ _ (by omega), h14q, hcg g (by omega)]
      subst hv16
      have hsm : nsum cg (g + 1) ≤ cg 0 + cg 1 + cg 2 + cg 3 := by have h9 := nsum_le cg (g + 1) (3 - g); rw [show g + 1 + (3 - g) = 4 by omega] at h9; have h8 : nsum cg 4 = 0 + cg 0 + cg 1 + cg 2 + cg 3 := rfl; omega
      have hsn : nsum cg (g + 1) = nsum cg g + cg g := rfl
      refine x_callv (va_runV (As := [.ref tr, .int (nI g), .int (nI (cg g))]) (rest := []) ⟨hx, hb, hml, hown, hts⟩ (c_X6_pour l G A _ a ad1 E1 cp1 L1 wd bw1 lb1 I1 F1 hc_a now hR1 hV1 e0.symm hE1 tr t g (cg g) e12.symm ht1 (by omega) (by omega) (by omega)) (cwV 3 hts gX6_pourCup_X6_pour rfl rfl rfl (by decide +kernel) ⟨Nat.le_of_ble_eq_true rfl, Nat.le_of_ble_eq_true rfl⟩) (x_preV hK hH hTt (hc_a) rfl [.ref tr, .int (nI g), .int (nI (cg g))]) rfl rfl hl.1 rfl (lv_room (Nat.le_of_ble_eq_true rfl)) dX6_pourCup_16 ⟨by show _ ≤ 32; omega, by show _ ≤ 3200; omega⟩) hH (fun w16 H locs hp hH => ?_)
      obtain ⟨ad2, E2, cp2, L2, bw2, lb2, hR2, hV2, hG2, hC2⟩ := hp
      refine lv_iinc (v := nI (g + 1)) (lv' := [(3, .int (nI (g + 1))), (0, .ref a), (1, .ref tr), (2, .ref fc)]) hx hb dX6_pourCup_19 hl (k := 3) rfl (by exact nI_add _ 1) (by decide) rfl (fun ls hl => ?_)
      refine lv_goto (tgt := 2) hx hb dX6_pourCup_22 (by decide) ?_
      refine W.widen (k := 8 * (g + 1)) (n := 800 * (g + 1)) (by omega) (by omega) ?_
      exact ih2 (g + 1) w16 ad2 E2 cp2 L2 bw2 lb2 ((fillS t g (cg g + 1) I1 F1 (nI (cg g))).1) ((fillS t g (cg g + 1) I1 F1 (nI (cg g))).2) (by omega) (by omega) (by show _ = fillS t g (ix ((I, F).2 14 (4 * (3 * t + i) + g)) + 1) (pcS t (3 * t + i) (I, F) g).1 (pcS t (3 * t + i) (I, F) g).2 ((I, F).2 14 (4 * (3 * t + i) + g)); rw [← hS]; show _ = fillS t g (ix (F 14 (4 * (3 * t + i) + g)) + 1) I1 F1 (F 14 (4 * (3 * t + i) + g)); rw [hcg g (by omega), ix_n (by omega)]) (hR2) (hV2) (hG.trans hG2) (by omega) _ _ hH ls (lv_sub hl [1, 2, 3, 0] rfl)
