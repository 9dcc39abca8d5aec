
theorem sp_step {f0 f z : Nat → Int32} {e : Nat} (he : e < 20) (h : ∀ j, j < 20 → f j = if j < e then f0 j + z j else f0 j) {v : Int32} (hv : v = z e) : ∀ j, j < 20 → upd f e (f e + v) j = if j < e + 1 then f0 j + z j else f0 j := fun j hj => by
  unfold upd
  by_cases hje : j = e
  · subst hje
    rw [if_pos rfl, if_pos (by omega), h j hj, if_neg (by omega), hv]
  · rw [if_neg hje, h j hj]
    by_cases h2 : j < e
    · rw [if_pos h2, if_pos (by omega)]
    · rw [if_neg h2, if_neg (by omega)]
theorem sp_ov {F : Nat → Nat → Int32} {t now i : Nat} {f f1 f2 : Nat → Int32} (h : ∀ j, j < 20 → f1 j = f j + ovS F t now i j) (h2 : ∀ j, j < 20 → f2 j = if j < 20 then f1 j + (fsim F t (3 * t + i) now j).2 else f1 j) : ∀ j, j < 20 → f2 j = f j + ovS F t now (i + 1) j := fun j hj => by
  rw [h2 j hj, if_pos hj, h j hj, Int32.add_assoc]
  rfl
theorem ov_burnt {now : Nat} {L wd bw : Nat → Nat} {lb : Nat → Option Nat} {I : Nat → Int32} {F : Nat → Nat → Int32} (hV : Inv now L wd bw lb I F) {t : Nat} (ht : t < L 0) (h8 : ¬ F 8 t = 0) (j : Nat) : ∀ o, o ≤ L (2 + t) → ovS F t now o j = 0
  | 0, _ => rfl
  | o + 1, ho => by
    have ih := ov_burnt hV ht h8 j o (by omega)
    obtain ⟨hA, hT, hZ, ⟨g1, g2, g3⟩, hB⟩ := hV
    obtain ⟨-, ⟨oy, hoy, hoy2⟩, -⟩ := g2 t ht o (by omega)
    have hn : now ≤ 3650 := hA.2.1
    have h3 : L (2 + t) ≤ 3 := (hT t ht).2.2.2.2.2.2.2
    have hb := (sim_burnt (F := F) (t := t) (f := 3 * t + o) (now := now) h8 (fun g hg => by rw [show 4 * (3 * t + o) + g = 12 * t + (4 * o + g) by omega]; exact g3 t ht h8 _ (by omega)) (fun d hd => by
      obtain ⟨gr, hg4, hgr⟩ := gradI_nat (F := F) (f := 3 * t + o) (now := now + d) (by omega) hoy (by omega)
      rw [hgr, ix_n (by omega)]
      exact hg4) j).2
    show ovS F t now o j + (fsim F t (3 * t + o) now j).2 = 0
    rw [ih, hb]
    rfl
theorem l5_1 (a b c d e : Int32) : l5 a b c d e 1 = b := rfl
theorem l5_2 (a b c d e : Int32) : l5 a b c d e 2 = c := rfl
theorem l5_3 (a b c d e : Int32) : l5 a b c d e 3 = d := rfl
theorem l5_4 (a b c d e : Int32) : l5 a b c d e 4 = e := rfl
theorem up3_13 {E E3 : YE} {f g h : Nat → Int32} (he : E3 = upK (upK (upK E 13 60 f) 14 60 g) 7 1 h) : E3 13 60 0 = f := by rw [he, upK_k _ _ (by decide), upK_k _ _ (by decide), upK_at]
theorem up3_14 {E E3 : YE} {f g h : Nat → Int32} (he : E3 = upK (upK (upK E 13 60 f) 14 60 g) 7 1 h) : E3 14 60 0 = g := by rw [he, upK_k _ _ (by decide), upK_at]
theorem up3_11 {E E3 : YE} {f g h : Nat → Int32} (he : E3 = upK (upK (upK E 13 60 f) 14 60 g) 7 1 h) (i : Nat) : E3 11 i 0 = E 11 i 0 := by rw [he, upK_k _ _ (by decide), upK_k _ _ (by decide), upK_k _ _ (by decide)]
def FsT (G : XG) (w u : XW) (ad : YA) (E : YE) (cp L wd bw : Nat → Nat) (lb : Nat → Option Nat) (I : Nat → Int32) (F : Nat → Nat → Int32) (t now sl : Nat) : Prop := ∃ E' : YE, Rep G u ad E' cp L wd bw lb I F ∧ smE sl E E' ∧ (∀ j, j < 20 → E' 11 sl 0 j = E 11 sl 0 j + ovS F t now (L (2 + t)) j) ∧ Kp w u ad L

set_option maxHeartbeats 4000000 in
set_option maxRecDepth 100000 in
theorem c_X6_foreseeTree (l : Launch) (G : XG) (A : Nat → Prop) (w : XW) (a : Nat) (ad : YA) (E : YE) (cp L wd bw : Nat → Nat) (lb : Nat → Option Nat) (I : Nat → Int32) (F : Nat → Nat → Int32) (hc_a : w a = some (.inr (7, [.ref (ad 1 0 0), .ref (ad 2 0 0), .ref (ad 3 0 0), .ref (ad 5 0 0), .ref (ad 5 1 0), .ref (ad 7 0 0), .ref (ad 8 0 0), .int (I 0), .int (I 30), .int (I 29), .int (I 31), .int (I 32)]))) (now : Nat) (hR : Rep G w ad E cp L wd bw lb I F) (hV : Inv now L wd bw lb I F) (ha : a = ad 0 0 0) (tr t sl : Nat) (htr : tr = ad 12 t 0) (ht : t < L 0) (hsl : sl < 6) : Met l yX6_foreseeTree wsX6_foreseeTree ({ frames := 3, cells := 0, slots := 0, locals := 69 }) (va_Pc [.ref a, .ref tr, .int (nI sl)] (xP G A (w))) (va_Qv (fun (u : XW) => FsT G w u ad E cp L wd bw lb I F t now sl) (fun u t => xB G A (u) t) A) 0 0 A := by
  refine Met.ofW (cc := cX6_foreseeTree) (maxL := 6) (ret := none) (by decide) rfl ?_
  intro p e s m args below meth c s₁ B hml hv
  obtain ⟨rfl, hK, hH, hTt⟩ := hv
  have hx := B.exec
  have hb := B.bytes
  have hr := B.returns
  have hts := atoms_spec (ws := wsX6_foreseeTree) B.pre
  have hown : s.vm.findClass RX6 = some m.cls := findClass_of_methodNamed B.named
  have hlocks := B.notSynchronized
  have hiX1 : ∀ w ∈ wsX10, w ∈ wsX6_foreseeTree := by decide +kernel
  have hiX2 : ∀ w ∈ wsX20, w ∈ wsX6_foreseeTree := by decide +kernel
  have hiX4 : ∀ w ∈ wsX40, w ∈ wsX6_foreseeTree := by decide +kernel
  have hiX6 : ∀ w ∈ wsX60, w ∈ wsX6_foreseeTree := by decide +kernel
  have hf9 := hts (.fieldLink RX6 9 "ResinWoods" "warmths" "[B") (by decide +kernel)
  have hf13 := hts (.fieldLink RX6 13 "ResinWoods" "rains" "[B") (by decide +kernel)
  have hf42 := hts (.fieldLink RX6 42 "ResinWoods" "planner" "LResinWoods$Planner;") (by decide +kernel)
  have hf46 := hts (.fieldLink RX6 46 "ResinWoods" "now" "I") (by decide +kernel)
  have hf102 := hts (.fieldLink RX6 102 "ResinWoods$Tree" "isBurnt" "Z") (by decide +kernel)
  have hf154 := hts (.fieldLink RX6 154 "ResinWoods$Tree" "faces" "Ljava/util/List;") (by decide +kernel)
  have hf298 := hts (.fieldLink RX6 298 "ResinWoods$Planner" "cup" "LResinWoods$Face;") (by decide +kernel)
  have hf306 := hts (.fieldLink RX6 306 "ResinWoods$Planner" "unread" "LResinWoods$Tally;") (by decide +kernel)
  have hf309 := hts (.fieldLink RX6 309 "ResinWoods$Planner" "spills" "[[I") (by decide +kernel)
  have hf313 := hts (.fieldLink RX6 313 "ResinWoods$Face" "ranOver" "I") (by decide +kernel)
  have hl := lv_entry ([.ref a, .ref tr, .int (nI sl)]) (n := 6) (Nat.le_of_ble_eq_true rfl)
  rw [lg_entry_eq]
  generalize (lg_sl ([.ref a, .ref tr, .int (nI sl)]) ++ List.replicate (6 - (lg_sl ([.ref a, .ref tr, .int (nI sl)])).length) Slot.unset).toArray = ls at hl ⊢
  have hl : lv_has ls 6 [(0, .ref a), (1, .ref tr), (2, .int (nI sl))] := hl
  have h60 : L 0 ≤ 60 := hV.1.2.2.2.1
  have hI3 : I 3 = nI (L 0) := hV.1.2.2.1
  have hI0 : I 0 = nI now := hV.1.1
  have hnow : now ≤ 3650 := hV.1.2.1
  obtain ⟨fa, hfa⟩ : ∃ z : Nat → Nat, z = fun j => ad 12 j 0 := ⟨_, rfl⟩
  obtain ⟨fba, hfba⟩ : ∃ z : Nat → Nat, z = fun j => ad 15 j 0 := ⟨_, rfl⟩
  obtain ⟨hs, hBV, hB1, hB2, hB3, hB4, hB5⟩ := hV.2.2.2.2
  have hI16 : I 16 = nI (L 1) := hBV.1
  have h200 : L 1 ≤ 200 := hBV.2.1
  obtain ⟨fwa, hfwa⟩ : ∃ z : Nat → Nat, z = fun j => ad 4 j 0 := ⟨_, rfl⟩
  obtain ⟨wmc, hwmc⟩ : ∃ z, z = ad 1 0 0 := ⟨_, rfl⟩
  obtain ⟨rnc, hrnc⟩ : ∃ z, z = ad 2 0 0 := ⟨_, rfl⟩
  obtain ⟨wsc, hwsc⟩ : ∃ z, z = ad 3 0 0 := ⟨_, rfl⟩
  obtain ⟨tlc, htlc⟩ : ∃ z, z = ad 5 0 0 := ⟨_, rfl⟩
  obtain ⟨blc, hblc⟩ : ∃ z, z = ad 5 1 0 := ⟨_, rfl⟩
  obtain ⟨tac, htac⟩ : ∃ z, z = ad 7 0 0 := ⟨_, rfl⟩
  obtain ⟨plc, hplc⟩ : ∃ z, z = ad 8 0 0 := ⟨_, rfl⟩
  rw [← hwmc, ← hrnc, ← hwsc, ← htlc, ← hblc, ← htac, ← hplc] at hc_a
  obtain ⟨tdc, htdc⟩ : ∃ z, z = (if L 0 = 0 then G.2 12 else ad 6 0 0) := ⟨_, rfl⟩
  obtain ⟨bdc, hbdc⟩ : ∃ z, z = (if L 1 = 0 then G.2 12 else ad 6 1 0) := ⟨_, rfl⟩
  have hc_tlc : w tlc = some (.inr (0, [.int (E 5 0 0 0), .ref tdc, .int (nI (L 0))])) := by rw [htlc, htdc]; exact hR.lst (by omega)
  have hc_blc : w blc = some (.inr (0, [.int (E 5 1 0 0), .ref bdc, .int (nI (L 1))])) := by rw [hblc, hbdc]; exact hR.lst (by omega)
  have hc_tac : w tac = some (.inr (4, [.int (I 26), .int (I 27), .int (I 28)])) := by rw [htac]; exact hR.1 7 0 0 ⟨by decide, rfl⟩
  obtain ⟨cup, hcup⟩ : ∃ z, z = ad 13 60 0 := ⟨_, rfl⟩
  obtain ⟨cgc, hcgc⟩ : ∃ z, z = ad 14 60 0 := ⟨_, rfl⟩
  obtain ⟨unr, hunr⟩ : ∃ z, z = ad 7 1 0 := ⟨_, rfl⟩
  obtain ⟨spc, hspc⟩ : ∃ z, z = ad 10 0 0 := ⟨_, rfl⟩
  obtain ⟨srw, hsrw⟩ : ∃ z, z = ad 11 sl 0 := ⟨_, rfl⟩
  obtain ⟨flc, hflc⟩ : ∃ z, z = ad 5 (2 + t) 0 := ⟨_, rfl⟩
  obtain ⟨fdc, hfdc⟩ : ∃ z, z = (if L (2 + t) = 0 then G.2 12 else ad 6 (2 + t) 0) := ⟨_, rfl⟩
  have hT3 : L (2 + t) ≤ 3 := (hV.2.1 t ht).2.2.2.2.2.2.2
  obtain ⟨cg, hcg, hc4⟩ := hV.2.2.2.1.1
  have k13 : lvK L 13 60 0 := Or.inr ⟨rfl, rfl⟩
  have k14 : lvK L 14 60 0 := Or.inr ⟨rfl, rfl⟩
  have k7 : lvK L 7 1 0 := ⟨by decide, rfl⟩
  have k11 : lvK L 11 sl 0 := ⟨hsl, rfl⟩
  have hc_tr : w tr = some (.inr (5, [.int (nI t), .ref (ad 4 (wd t) 0), .int (F 5 t * 100 + F 6 t), .int (bearI (F 7 t)), .ref flc, .int (F 8 t), .int (F 10 t)])) := by rw [htr, hflc]; exact hR.tree ht
  refine lv_aload_n hx hb dX6_foreseeTree_0 rfl (lv_at hl 1 rfl) ?_
  refine x_get (C := RX4) (T := TX4) (N := 7) hx hb hts hiX4 hown hK hH hc_tr rfl 5 (by decide) hf102 (fun _ h => h) (v := .int (F 8 t)) rfl dX6_foreseeTree_1 ?_
  refine lv_if_eq (tgt := 8) hx hb dX6_foreseeTree_4 (by decide) (fun c4 => ?_) (fun c4 => ?_)
  · refine lv_iconst (v := 0) hx hb dX6_foreseeTree_8 (by decide) ?_
    refine lv_istore_n (lv' := [(3, .int 0), (0, .ref a), (1, .ref tr), (2, .int (nI sl))]) hx hb dX6_foreseeTree_9 rfl hl (by decide) rfl (fun ls hl => ?_)
    suffices loop10 : ∀ (k10 : Nat) (i : Nat) (wl : XW) (E1 : YE), (L (2 + t) < i + k10) → (i ≤ L (2 + t)) → (Rep G wl ad E1 cp L wd bw lb I F) → (Kp w wl ad L) → (smE sl E E1) → (∀ j, j < 20 → E1 11 sl 0 j = E 11 sl 0 j + ovS F t now i j) → ∀ (H : Heap) (locs : List Loc), xH G A s.heap H locs (wl) → ∀ (ls : Array Slot), lv_has ls 6 [(0, .ref a), (1, .ref tr), (2, .int (nI sl)), (3, .int (nI i))] → W p l e (headSpec wsX6_foreseeTree _).room s m _ below meth c H locs 0 0 (MQ below _ _ s 0 0 A) (F0 m 10 ls []) from
      loop10 (L (2 + t) + 1) 0 w E (by omega) (by omega) (hR) (fun _ _ => rfl) (smE.refl) (fun j _ => (Int32.add_zero _).symm) _ _ hH ls (lv_sub hl [1, 2, 3, 0] rfl)
    intro k10
    induction k10 with
    | zero =>
      intro i wl E1 hfuel hi9 hR1 hKp hsm hsp H locs hH ls hl
      exact absurd hfuel (by omega)
    | succ k10 ih10 =>
      intro i wl E1 hfuel hi9 hR1 hKp hsm hsp H locs hH ls hl
      have hc_a : wl a = some (.inr (7, [.ref wmc, .ref rnc, .ref wsc, .ref tlc, .ref blc, .ref tac, .ref plc, .int (nI now), .int (I 30), .int (I 29), .int (I 31), .int (I 32)])) := by rw [ha, hwmc, hrnc, hwsc, htlc, hblc, htac, hplc, ← hI0]; exact hR1.root
      have hc_tr : wl tr = some (.inr (5, [.int (nI t), .ref (ad 4 (wd t) 0), .int (F 5 t * 100 + F 6 t), .int (bearI (F 7 t)), .ref flc, .int (F 8 t), .int (F 10 t)])) := by rw [htr, hflc]; exact hR1.tree ht
      have hc_flc : wl flc = some (.inr (0, [.int (E1 5 (2 + t) 0 0), .ref fdc, .int (nI (L (2 + t)))])) := by rw [hflc, hfdc]; exact hR1.lst (by omega)
      have hc_plc : wl plc = some (.inr (3, [.int (E1 8 0 0 0), .ref (ad 9 0 0), .ref (ad 9 1 0), .ref spc, .ref (ad 9 2 0), .ref (ad 9 3 0), .ref (ad 9 4 0), .ref cup, .ref unr, .int (E1 8 0 0 1), .int (E1 8 0 0 2), .int (E1 8 0 0 3)])) := by rw [hplc, hspc, hcup, hunr]; exact hR1.1 8 0 0 ⟨rfl, rfl⟩
      have hc_cup : wl cup = some (.inr (2, [.int (E1 13 60 0 0), .int (E1 13 60 0 1), .int (E1 13 60 0 2), .int (E1 13 60 0 3), .int (E1 13 60 0 4), .ref cgc])) := by rw [hcup, hcgc]; exact hR1.1 13 60 0 k13
      have hc_cgc : wl cgc = some (.inl (G.2 0, 4, .inl (E1 14 60 0))) := by rw [hcgc]; exact hR1.1 14 60 0 k14
      refine lv_iload_n hx hb dX6_foreseeTree_10 rfl (lv_at hl 3 rfl) ?_
      refine lv_aload_n hx hb dX6_foreseeTree_11 rfl (lv_at hl 1 rfl) ?_
      refine x_get (C := RX4) (T := TX4) (N := 7) hx hb hts hiX4 hown hK hH hc_tr rfl 4 (by decide) hf154 (fun _ h => h) (v := .ref flc) rfl dX6_foreseeTree_12 ?_
      refine x_callFi (va_runF (As := []) (rest := [.int (nI i)]) (hK.1 0 _ rfl).2 ⟨hx, hb, hml, hown, hts⟩ (c_Jx4a65c_size_8abf5 l G A _ flc fdc (E1 5 (2 + t) 0 0) (nI (L (2 + t))) hc_flc) (va_cwF 0 hts gX6_foreseeTree_Jx4a65c_size_8abf5_f76Jx4a65c rfl rfl rfl hTt.2.2.1 (by decide +kernel) ⟨Nat.le_of_ble_eq_true rfl, Nat.le_of_ble_eq_true rfl⟩) (x_preV hK hH hTt hc_flc rfl []) rfl rfl hl.1 rfl (lv_room (Nat.le_of_ble_eq_true rfl)) dX6_foreseeTree_15 ⟨Nat.le_of_ble_eq_true rfl, Nat.le_of_ble_eq_true rfl⟩) hH (fun r15 u H locs hp hH => ?_)
      obtain ⟨rfl, hu9⟩ := hp
      rw [hu9] at hH
      refine lv_icmp_ge (tgt := 145) hx hb dX6_foreseeTree_20 (by decide) (fun c20 => ?_) (fun c20 => ?_)
      · have c20 : (L (2 + t)) ≤ i := (nI_leI (a := (L (2 + t))) (b := i) (by omega) (by omega)).mp c20
        exact x_vret wl hx hb hr hlocks hK hH (⟨E1, hR1, hsm, by rw [show L (2 + t) = i by omega]; exact hsp, hKp⟩) dX6_foreseeTree_145
      · have c20 : ¬ (L (2 + t)) ≤ i := fun zz => c20 ((nI_leI (a := (L (2 + t))) (b := i) (by omega) (by omega)).mpr zz)
        refine lv_aload_n hx hb dX6_foreseeTree_23 rfl (lv_at hl 0 rfl) ?_
        refine x_get (C := RX6) (T := TX6) (N := 12) hx hb hts hiX6 hown hK hH hc_a rfl 6 (by decide) hf42 (fun _ h => h) (v := .ref plc) rfl dX6_foreseeTree_24 ?_
        refine x_get (C := RX2) (T := TX2) (N := 12) hx hb hts hiX2 hown hK hH hc_plc rfl 7 (by decide) hf298 (fun _ h => h) (v := .ref cup) rfl dX6_foreseeTree_27 ?_
        refine lv_aload_n hx hb dX6_foreseeTree_30 rfl (lv_at hl 1 rfl) ?_
        refine x_get (C := RX4) (T := TX4) (N := 7) hx hb hts hiX4 hown hK hH hc_tr rfl 4 (by decide) hf154 (fun _ h => h) (v := .ref flc) rfl dX6_foreseeTree_31 ?_
        refine lv_iload_n hx hb dX6_foreseeTree_34 rfl (lv_at hl 3 rfl) ?_
        have hc_fdc : wl fdc = some (.inl (G.2 4, cp (2 + t), .inr (.inr (.inr (.inr (ldat ad L (2 + t))))))) := by rw [hfdc]; exact hR1.dat (by omega) (by omega)
        obtain ⟨fb, hfb⟩ : ∃ z : Nat → Nat, z = fun j => ad 13 t j := ⟨_, rfl⟩
        refine x_callFq (va_runF (As := [.int (nI i)]) (rest := [.ref cup]) (hK.1 0 _ rfl).2 ⟨hx, hb, hml, hown, hts⟩ (c_Jx4a65c_get_915e3 l G A _ flc fdc (E1 5 (2 + t) 0 0) (L (2 + t)) (cp (2 + t)) (ldat ad L (2 + t)) hc_flc hc_fdc i (fb i) (by omega) (by have := (hR.2.2 (2 + t) (by omega)).1; omega) (by have := hR.2.2 (2 + t) (by omega); omega) (by omega) (by rw [hfb]; exact ldat_f ad L (by omega))) (va_cwF 1 hts gX6_foreseeTree_Jx4a65c_get_915e3_f157Jx4a65c rfl rfl rfl hTt.2.2.2.1 (by decide +kernel) ⟨Nat.le_of_ble_eq_true rfl, Nat.le_of_ble_eq_true rfl⟩) (x_preV hK hH hTt hc_flc rfl [.int (nI i)]) rfl rfl hl.1 rfl (lv_room (Nat.le_of_ble_eq_true rfl)) dX6_foreseeTree_35 ⟨Nat.le_of_ble_eq_true rfl, Nat.le_of_ble_eq_true rfl⟩) hH (fun r35 u H locs hp hH => ?_)
        obtain ⟨rfl, hu9⟩ := hp
        rw [hu9] at hH
        have hi : i < L (2 + t) := by omega
        obtain ⟨fc, hfc⟩ : ∃ z, z = fb i := ⟨_, rfl⟩
        rw [← hfc]
        obtain ⟨gc, hgc⟩ : ∃ z, z = ad 14 t i := ⟨_, rfl⟩
        have hfc0 : fc = ad 13 t i := by rw [hfc, hfb]
        have hc_fc : wl fc = some (.inr (2, [.int (F 11 (3 * t + i)), .int (F 12 (3 * t + i)), .int (F 13 (3 * t + i)), .int (cupS F (3 * t + i)), .int (F 15 (3 * t + i)), .ref gc])) := by rw [hfc0, hgc]; exact hR1.face h60 ht hi
        have hc_gc : wl gc = some (.inl (G.2 0, 4, .inl (gr4 F (3 * t + i)))) := by rw [hgc]; exact hR1.grd h60 ht hi
        refine x_cast (ci := 2) hx hb hK hH hc_fc rfl hown (hts (.classLink RX6 117 "ResinWoods$Face") (by decide +kernel)) dX6_foreseeTree_40 ?_
        refine x_callv (va_runV (As := [.ref fc]) (rest := []) ⟨hx, hb, hml, hown, hts⟩ (c_X1_standInFor l G A _ cup cgc fc gc _ _ _ _ _ _ _ _ _ _ _ _ hc_cup hc_cgc hc_fc hc_gc (by rw [hcup, hfc0]; exact hR1.ne k13 (Or.inl ⟨ht, hi⟩) (by omega)) (by rw [hcgc, hgc]; exact hR1.ne k14 (Or.inl ⟨ht, hi⟩) (by omega))) (cwV 1 hts gX6_foreseeTree_X1_standInFor rfl rfl rfl (by decide +kernel) ⟨Nat.le_of_ble_eq_true rfl, Nat.le_of_ble_eq_true rfl⟩) (x_preV hK hH hTt (hc_cup) rfl [.ref fc]) rfl rfl hl.1 rfl (lv_room (Nat.le_of_ble_eq_true rfl)) dX6_foreseeTree_43 ⟨Nat.le_of_ble_eq_true rfl, Nat.le_of_ble_eq_true rfl⟩) hH (fun w43 H locs hp hH => ?_)
        obtain ⟨hu_cup, hu_cgc, hfm⟩ := hp
        rw [hcup, hcgc] at hu_cup
        rw [hcgc] at hu_cgc
        rw [hcup, hcgc] at hfm
        have hRs := rep_cup2 hR1 h60 hu_cup hu_cgc hfm
        have hKs : Kp w w43 ad L := hKp.trans (fun y hy => hfm y (hy 13 60 0 k13) (hy 14 60 0 k14))
        refine lv_iconst (v := 1) hx hb dX6_foreseeTree_46 (by decide) ?_
        refine lv_istore (lv' := [(4, .int 1), (0, .ref a), (1, .ref tr), (2, .int (nI sl)), (3, .int (nI i))]) hx hb dX6_foreseeTree_47 hl (by decide) rfl (fun ls hl => ?_)
        suffices loop49 : ∀ (k49 : Nat) (e9 : Nat) (wl2 : XW) (E2 : YE), (20 < e9 + k49) → (1 ≤ e9) → (e9 ≤ 20) → (Rep G wl2 ad E2 cp L wd bw lb I F) → (Kp w wl2 ad L) → (smE sl E E2) → (E2 13 60 0 1 = F 12 (3 * t + i)) → (E2 13 60 0 2 = F 13 (3 * t + i)) → (simOk F t (3 * t + i) now (e9 - 1) (E2 14 60 0) (E2 13 60 0 3) (E2 13 60 0 4)) → (∀ j, j < 20 → E2 11 sl 0 j = if j < e9 then E1 11 sl 0 j + (fsim F t (3 * t + i) now j).2 else E1 11 sl 0 j) → ∀ (H : Heap) (locs : List Loc), xH G A s.heap H locs (wl2) → ∀ (ls : Array Slot), lv_has ls 6 [(0, .ref a), (1, .ref tr), (2, .int (nI sl)), (3, .int (nI i)), (4, .int (nI e9))] → W p l e (headSpec wsX6_foreseeTree _).room s m _ below meth c H locs 0 0 (MQ below _ _ s 0 0 A) (F0 m 49 ls []) from
          loop49 21 1 w43 (upK (upK E1 13 60 (l5 (E1 13 60 0 0) (F 12 (3 * t + i)) (F 13 (3 * t + i)) (cupS F (3 * t + i)) 0)) 14 60 (cpf (gr4 F (3 * t + i)) (E1 14 60 0) 4)) (by omega) (by omega) (by omega) (hRs) (hKs) ((hsm.trans (smE.up (by omega))).trans (smE.up (by omega))) (rfl) (rfl) (sim_0 (by omega) hcg hc4 (fun g hg => if_pos hg)) (fun j hj => by show E1 11 sl 0 j = _; by_cases h9 : j < 1; (rw [if_pos h9, show j = 0 by omega]; exact (Int32.add_zero _).symm); rw [if_neg h9]) _ _ hH ls (lv_sub hl [1, 2, 3, 4, 0] rfl)
        intro k49
        induction k49 with
        | zero =>
          intro e9 wl2 E2 hfuel he1 he9 hR2 hKp2 hsm2 h1e h2e hsim hsp2 H locs hH ls hl
          exact absurd hfuel (by omega)
        | succ k49 ih49 =>
          intro e9 wl2 E2 hfuel he1 he9 hR2 hKp2 hsm2 h1e h2e hsim hsp2 H locs hH ls hl
          obtain ⟨d, hd⟩ : ∃ d, e9 = d + 1 := ⟨e9 - 1, by omega⟩
          rw [show e9 - 1 = d by omega] at hsim
          have hc_a : wl2 a = some (.inr (7, [.ref wmc, .ref rnc, .ref wsc, .ref tlc, .ref blc, .ref tac, .ref plc, .int (nI now), .int (I 30), .int (I 29), .int (I 31), .int (I 32)])) := by rw [ha, hwmc, hrnc, hwsc, htlc, hblc, htac, hplc, ← hI0]; exact hR2.root
          have hc_plc : wl2 plc = some (.inr (3, [.int (E2 8 0 0 0), .ref (ad 9 0 0), .ref (ad 9 1 0), .ref spc, .ref (ad 9 2 0), .ref (ad 9 3 0), .ref (ad 9 4 0), .ref cup, .ref unr, .int (E2 8 0 0 1), .int (E2 8 0 0 2), .int (E2 8 0 0 3)])) := by rw [hplc, hspc, hcup, hunr]; exact hR2.1 8 0 0 ⟨rfl, rfl⟩
          have hc_cup : wl2 cup = some (.inr (2, [.int (E2 13 60 0 0), .int (E2 13 60 0 1), .int (E2 13 60 0 2), .int (E2 13 60 0 3), .int (E2 13 60 0 4), .ref cgc])) := by rw [hcup, hcgc]; exact hR2.1 13 60 0 k13
          have hc_cgc : wl2 cgc = some (.inl (G.2 0, 4, .inl (E2 14 60 0))) := by rw [hcgc]; exact hR2.1 14 60 0 k14
          have hc_unr : wl2 unr = some (.inr (4, [.int (E2 7 1 0 0), .int (E2 7 1 0 1), .int (E2 7 1 0 2)])) := by rw [hunr]; exact hR2.1 7 1 0 k7
          have hc_spc : wl2 spc = some (.inl (G.2 5, 6, .inr (.inr (.inr (.inr (six ad 11)))))) := by rw [hspc]; exact hR2.1 10 0 0 ⟨rfl, rfl⟩
          have hc_srw : wl2 srw = some (.inl (G.2 0, 20, .inl (E2 11 sl 0))) := by rw [hsrw]; exact hR2.1 11 sl 0 k11
          have hc_wmc : wl2 wmc = some (.inl (G.2 2, 3650, .inl (F 1))) := by rw [hwmc]; exact hR2.1 1 0 0 ⟨rfl, rfl⟩
          have hc_rnc : wl2 rnc = some (.inl (G.2 2, 3650, .inl (F 2))) := by rw [hrnc]; exact hR2.1 2 0 0 ⟨rfl, rfl⟩
          refine lv_iload hx hb dX6_foreseeTree_49 (lv_at hl 4 rfl) ?_
          refine lv_bipush (v := 19) hx hb dX6_foreseeTree_51 (by decide) ?_
          refine lv_icmp_gt (tgt := 139) hx hb dX6_foreseeTree_53 (by decide) (fun c53 => ?_) (fun c53 => ?_)
          · have c53 : 19 < e9 := (nI_ltI (a := 19) (b := e9) (by omega) (by omega)).mp c53
            refine lv_iinc (v := nI (i + 1)) (lv' := [(3, .int (nI (i + 1))), (0, .ref a), (1, .ref tr), (2, .int (nI sl)), (4, .int (nI e9))]) hx hb dX6_foreseeTree_139 hl (k := 3) rfl (by exact nI_add _ 1) (by decide) rfl (fun ls hl => ?_)
            refine lv_goto (tgt := 10) hx hb dX6_foreseeTree_142 (by decide) ?_
            exact ih10 (i + 1) wl2 E2 (by omega) (by omega) (hR2) (hKp2) (hsm2) (sp_ov hsp (by rw [show e9 = 20 by omega] at hsp2; exact hsp2)) _ _ hH ls (lv_sub hl [1, 2, 3, 0] rfl)
          · have c53 : ¬ 19 < e9 := fun zz => c53 ((nI_ltI (a := 19) (b := e9) (by omega) (by omega)).mpr zz)
            refine lv_aload_n hx hb dX6_foreseeTree_56 rfl (lv_at hl 0 rfl) ?_
            refine x_get (C := RX6) (T := TX6) (N := 12) hx hb hts hiX6 hown hK hH hc_a rfl 7 (by decide) hf46 (fun _ h => h) (v := .int (nI now)) rfl dX6_foreseeTree_57 ?_
            refine lv_iload hx hb dX6_foreseeTree_60 (lv_at hl 4 rfl) ?_
            refine N_iadd hx hb now e9 rfl rfl dX6_foreseeTree_62 ?_
            refine lv_iconst (v := 1) hx hb dX6_foreseeTree_63 (by decide) ?_
            refine N_isub hx hb (now + e9) 1 rfl rfl (by omega) dX6_foreseeTree_64 ?_
            rw [show now + e9 - 1 = now + d by omega]
            refine lv_istore (lv' := [(5, .int (nI (now + d))), (0, .ref a), (1, .ref tr), (2, .int (nI sl)), (3, .int (nI i)), (4, .int (nI e9))]) hx hb dX6_foreseeTree_65 hl (by decide) rfl (fun ls hl => ?_)
            refine lv_iload hx hb dX6_foreseeTree_67 (lv_at hl 0 rfl) ?_
            refine lv_sipush (v := 3650) hx hb dX6_foreseeTree_69 (by decide) ?_
            refine lv_icmp_ge (tgt := 108) hx hb dX6_foreseeTree_72 (by decide) (fun c72 => ?_) (fun c72 => ?_)
            · have c72 : 3650 ≤ (now + d) := (nI_leI (a := 3650) (b := (now + d)) (by omega) (by omega)).mp c72
              have hsim4 := sim_stay hsim (by omega)
              refine lv_aload_n hx hb dX6_foreseeTree_108 rfl (lv_at hl 1 rfl) ?_
              refine x_get (C := RX6) (T := TX6) (N := 12) hx hb hts hiX6 hown hK hH hc_a rfl 6 (by decide) hf42 (fun _ h => h) (v := .ref plc) rfl dX6_foreseeTree_109 ?_
              refine x_get (C := RX2) (T := TX2) (N := 12) hx hb hts hiX2 hown hK hH hc_plc rfl 3 (by decide) hf309 (fun _ h => h) (v := .ref spc) rfl dX6_foreseeTree_112 ?_
              refine lv_iload_n hx hb dX6_foreseeTree_115 rfl (lv_at hl 3 rfl) ?_
              refine x_aldA hx hb hK hH hc_spc sl rfl (by omega) (by decide) (q := srw) (by rw [hsrw]; exact if_pos hsl) dX6_foreseeTree_116 ?_
              refine lv_iload hx hb dX6_foreseeTree_117 (lv_at hl 5 rfl) ?_
              refine lv_dup2_11 hx hb dX6_foreseeTree_119 rfl rfl ?_
              refine Y_iald hx hb hK hH hc_srw e9 rfl (by omega) (by decide) dX6_foreseeTree_120 ?_
              refine lv_aload_n hx hb dX6_foreseeTree_121 rfl (lv_at hl 1 rfl) ?_
              refine x_get (C := RX6) (T := TX6) (N := 12) hx hb hts hiX6 hown hK hH hc_a rfl 6 (by decide) hf42 (fun _ h => h) (v := .ref plc) rfl dX6_foreseeTree_122 ?_
              refine x_get (C := RX2) (T := TX2) (N := 12) hx hb hts hiX2 hown hK hH hc_plc rfl 7 (by decide) hf298 (fun _ h => h) (v := .ref cup) rfl dX6_foreseeTree_125 ?_
              refine x_get (C := RX1) (T := TX1) (N := 6) hx hb hts hiX1 hown hK hH hc_cup rfl 4 (by decide) hf313 (fun _ h => h) (v := .int (E2 13 60 0 4)) rfl dX6_foreseeTree_128 ?_
              refine lv_iadd hx hb dX6_foreseeTree_131 ?_
              refine Y_iast hx hb hK hH hc_srw e9 rfl (by omega) (by decide) dX6_foreseeTree_132 (fun H locs hH => ?_)
              have hH : xH G A s.heap H locs (va_up wl2 srw (some (.inl (G.2 0, 20, .inl (upd (E2 11 sl 0) e9 (E2 11 sl 0 e9 + E2 13 60 0 4)))))) := hH
              obtain ⟨w132, ew132⟩ : ∃ z, z = va_up wl2 srw (some (.inl (G.2 0, 20, .inl (upd (E2 11 sl 0) e9 (E2 11 sl 0 e9 + E2 13 60 0 4))))) := ⟨_, rfl⟩
              rw [← ew132] at hH
              have hf132 : ∀ y, y ≠ ad 11 sl 0 → w132 y = wl2 y := fun y hy => by rw [ew132, hsrw]; exact upW_ne _ _ hy
              have hR4 := rep_spill hR2 h60 hsl (by rw [ew132, hsrw]; exact upW_at _ _ _) hf132
              have hK4 : Kp w w132 ad L := hKp2.trans (fun y hy => hf132 y (hy 11 sl 0 k11))
              refine lv_iinc (v := nI (e9 + 1)) (lv' := [(4, .int (nI (e9 + 1))), (5, .int (nI (now + d))), (0, .ref a), (1, .ref tr), (2, .int (nI sl)), (3, .int (nI i))]) hx hb dX6_foreseeTree_133 hl (k := 5) rfl (by exact nI_add _ 1) (by decide) rfl (fun ls hl => ?_)
              refine lv_goto (tgt := 49) hx hb dX6_foreseeTree_136 (by decide) ?_
              exact ih49 (e9 + 1) w132 (upK E2 11 sl (upd (E2 11 sl 0) e9 (E2 11 sl 0 e9 + E2 13 60 0 4))) (by omega) (by omega) (by omega) (hR4) (hK4) (hsm2.trans (smE.up (by omega))) (h1e) (h2e) (by rw [show e9 + 1 - 1 = d + 1 by omega]; exact hsim4) (by rw [upK_at]; exact sp_step (by omega) hsp2 (by rw [hsim4.2.2.2, hd])) _ _ hH ls (lv_sub hl [2, 3, 4, 5, 0] rfl)
            · have c72 : ¬ 3650 ≤ (now + d) := fun zz => c72 ((nI_leI (a := 3650) (b := (now + d)) (by omega) (by omega)).mpr zz)
              refine lv_aload_n hx hb dX6_foreseeTree_75 rfl (lv_at hl 1 rfl) ?_
              refine x_get (C := RX6) (T := TX6) (N := 12) hx hb hts hiX6 hown hK hH hc_a rfl 6 (by decide) hf42 (fun _ h => h) (v := .ref plc) rfl dX6_foreseeTree_76 ?_
              refine x_get (C := RX2) (T := TX2) (N := 12) hx hb hts hiX2 hown hK hH hc_plc rfl 7 (by decide) hf298 (fun _ h => h) (v := .ref cup) rfl dX6_foreseeTree_79 ?_
              refine lv_iload hx hb dX6_foreseeTree_82 (lv_at hl 0 rfl) ?_
              refine lv_aload_n hx hb dX6_foreseeTree_84 rfl (lv_at hl 1 rfl) ?_
              refine x_get (C := RX6) (T := TX6) (N := 12) hx hb hts hiX6 hown hK hH hc_a rfl 0 (by decide) hf9 (fun _ h => h) (v := .ref wmc) rfl dX6_foreseeTree_85 ?_
              refine lv_iload hx hb dX6_foreseeTree_88 (lv_at hl 0 rfl) ?_
              refine Y_bald hx hb hK hH hc_wmc (now + d) rfl (by omega) (by decide) dX6_foreseeTree_90 ?_
              refine lv_aload_n hx hb dX6_foreseeTree_91 rfl (lv_at hl 1 rfl) ?_
              refine x_get (C := RX6) (T := TX6) (N := 12) hx hb hts hiX6 hown hK hH hc_a rfl 1 (by decide) hf13 (fun _ h => h) (v := .ref rnc) rfl dX6_foreseeTree_92 ?_
              refine lv_iload hx hb dX6_foreseeTree_95 (lv_at hl 0 rfl) ?_
              refine Y_bald hx hb hK hH hc_rnc (now + d) rfl (by omega) (by decide) dX6_foreseeTree_97 ?_
              refine lv_aload_n hx hb dX6_foreseeTree_98 rfl (lv_at hl 1 rfl) ?_
              refine x_get (C := RX6) (T := TX6) (N := 12) hx hb hts hiX6 hown hK hH hc_a rfl 6 (by decide) hf42 (fun _ h => h) (v := .ref plc) rfl dX6_foreseeTree_99 ?_
              refine x_get (C := RX2) (T := TX2) (N := 12) hx hb hts hiX2 hown hK hH hc_plc rfl 8 (by decide) hf306 (fun _ h => h) (v := .ref unr) rfl dX6_foreseeTree_102 ?_
              have hdl : now + d < 3650 := by omega
              have hi : i < L (2 + t) := by omega
              obtain ⟨-, ⟨oy, hoy, hoy2⟩, -⟩ := hV.2.2.2.1.2.1 t ht i hi
              obtain ⟨gr, hg4, hgr0⟩ := gradI_nat (F := F) (f := 3 * t + i) (now := now + d) (by omega) hoy (by omega)
              have hgF : gradC (F 13 (3 * t + i)) (nI (now + d)) = nI gr := (grad_eq (by omega) hoy (by omega)).trans hgr0
              have hgr : gradC (E2 13 60 0 2) (nI (now + d)) = nI gr := by rw [h2e]; exact hgF
              refine x_callv (va_runV (As := [.int (nI (now + d)), .int ((F 1) (now + d)), .int ((F 2) (now + d)), .ref unr]) (rest := []) ⟨hx, hb, hml, hown, hts⟩ (c_X1_endDay l G A _ cup cgc unr _ _ _ _ _ _ _ _ _ hc_cup hc_cgc hc_unr (nI (now + d)) ((F 1) (now + d)) ((F 2) (now + d)) gr hgr hg4) (cwV 4 hts gX6_foreseeTree_X1_endDay rfl rfl rfl (by decide +kernel) ⟨Nat.le_of_ble_eq_true rfl, Nat.le_of_ble_eq_true rfl⟩) (x_preV hK hH hTt (hc_cup) rfl [.int (nI (now + d)), .int ((F 1) (now + d)), .int ((F 2) (now + d)), .ref unr]) rfl rfl hl.1 rfl (lv_room (Nat.le_of_ble_eq_true rfl)) dX6_foreseeTree_105 ⟨Nat.le_of_ble_eq_true rfl, Nat.le_of_ble_eq_true rfl⟩) hH (fun w105 H locs hp hH => ?_)
              obtain ⟨hu_cup, hu_cgc, hu_unr, hfm⟩ := hp
              rw [hcup, hcgc] at hu_cup
              rw [hcgc] at hu_cgc
              rw [hunr] at hu_unr
              rw [hcup, hcgc, hunr] at hfm
              have hR3 := rep_cup3 hR2 h60 hu_cup hu_cgc hu_unr hfm
              have hsim3 := sim_day hV ht c4 hi hdl hsim hg4 hgF (n := (F 1 (now + d) * strC (nI (now + d) - E2 13 60 0 1))) (by rw [h1e])
              obtain ⟨E3, hE3⟩ : ∃ z, z = (upK (upK (upK E2 13 60 (l5 (E2 13 60 0 0) (E2 13 60 0 1) (E2 13 60 0 2) (ewH (F 2 (now + d)) (edH (F 1 (now + d) * strC (nI (now + d) - E2 13 60 0 1)) (E2 13 60 0 3)) (edF (F 1 (now + d) * strC (nI (now + d) - E2 13 60 0 1)) (E2 13 60 0 3) gr (E2 14 60 0))) (edO (F 1 (now + d) * strC (nI (now + d) - E2 13 60 0 1)) (E2 13 60 0 3) (E2 13 60 0 4)))) 14 60 (ewF (F 2 (now + d)) (edH (F 1 (now + d) * strC (nI (now + d) - E2 13 60 0 1)) (E2 13 60 0 3)) (edF (F 1 (now + d) * strC (nI (now + d) - E2 13 60 0 1)) (E2 13 60 0 3) gr (E2 14 60 0)))) 7 1 (l3 (edR (F 1 (now + d) * strC (nI (now + d) - E2 13 60 0 1)) (E2 7 1 0 0)) (edO (F 1 (now + d) * strC (nI (now + d) - E2 13 60 0 1)) (E2 13 60 0 3) (E2 7 1 0 1)) (ewW (F 2 (now + d)) (edH (F 1 (now + d) * strC (nI (now + d) - E2 13 60 0 1)) (E2 13 60 0 3)) (edF (F 1 (now + d) * strC (nI (now + d) - E2 13 60 0 1)) (E2 13 60 0 3) gr (E2 14 60 0)) (E2 7 1 0 2)))) := ⟨_, rfl⟩
              rw [← hE3] at hR3
              have hsm3 : smE sl E E3 := by rw [hE3]; exact ((hsm2.trans (smE.up (by omega))).trans (smE.up (by omega))).trans (smE.up (by omega))
              have e13 := up3_13 hE3
              have e14 := up3_14 hE3
              have e11 := up3_11 hE3 sl
              have h1e3 : E3 13 60 0 1 = F 12 (3 * t + i) := by rw [e13, l5_1]; exact h1e
              have h2e3 : E3 13 60 0 2 = F 13 (3 * t + i) := by rw [e13, l5_2]; exact h2e
              have hsim4 : simOk F t (3 * t + i) now (d + 1) (E3 14 60 0) (E3 13 60 0 3) (E3 13 60 0 4) := by rw [e14, e13, l5_3, l5_4]; exact hsim3
              have hsp3 : ∀ j, j < 20 → E3 11 sl 0 j = if j < e9 then E1 11 sl 0 j + (fsim F t (3 * t + i) now j).2 else E1 11 sl 0 j := by rw [e11]; exact hsp2
              have hK3 : Kp w w105 ad L := hKp2.trans (fun y hy => hfm y (hy 13 60 0 k13) (hy 14 60 0 k14) (hy 7 1 0 k7))
              have hc_a : w105 a = some (.inr (7, [.ref wmc, .ref rnc, .ref wsc, .ref tlc, .ref blc, .ref tac, .ref plc, .int (nI now), .int (I 30), .int (I 29), .int (I 31), .int (I 32)])) := by rw [ha, hwmc, hrnc, hwsc, htlc, hblc, htac, hplc, ← hI0]; exact hR3.root
              have hc_plc : w105 plc = some (.inr (3, [.int (E3 8 0 0 0), .ref (ad 9 0 0), .ref (ad 9 1 0), .ref spc, .ref (ad 9 2 0), .ref (ad 9 3 0), .ref (ad 9 4 0), .ref cup, .ref unr, .int (E3 8 0 0 1), .int (E3 8 0 0 2), .int (E3 8 0 0 3)])) := by rw [hplc, hspc, hcup, hunr]; exact hR3.1 8 0 0 ⟨rfl, rfl⟩
              have hc_cup : w105 cup = some (.inr (2, [.int (E3 13 60 0 0), .int (E3 13 60 0 1), .int (E3 13 60 0 2), .int (E3 13 60 0 3), .int (E3 13 60 0 4), .ref cgc])) := by rw [hcup, hcgc]; exact hR3.1 13 60 0 k13
              have hc_spc : w105 spc = some (.inl (G.2 5, 6, .inr (.inr (.inr (.inr (six ad 11)))))) := by rw [hspc]; exact hR3.1 10 0 0 ⟨rfl, rfl⟩
              have hc_srw : w105 srw = some (.inl (G.2 0, 20, .inl (E3 11 sl 0))) := by rw [hsrw]; exact hR3.1 11 sl 0 k11
              refine lv_aload_n hx hb dX6_foreseeTree_108 rfl (lv_at hl 1 rfl) ?_
              refine x_get (C := RX6) (T := TX6) (N := 12) hx hb hts hiX6 hown hK hH hc_a rfl 6 (by decide) hf42 (fun _ h => h) (v := .ref plc) rfl dX6_foreseeTree_109 ?_
              refine x_get (C := RX2) (T := TX2) (N := 12) hx hb hts hiX2 hown hK hH hc_plc rfl 3 (by decide) hf309 (fun _ h => h) (v := .ref spc) rfl dX6_foreseeTree_112 ?_
              refine lv_iload_n hx hb dX6_foreseeTree_115 rfl (lv_at hl 3 rfl) ?_
              refine x_aldA hx hb hK hH hc_spc sl rfl (by omega) (by decide) (q := srw) (by rw [hsrw]; exact if_pos hsl) dX6_foreseeTree_116 ?_
              refine lv_iload hx hb dX6_foreseeTree_117 (lv_at hl 5 rfl) ?_
              refine lv_dup2_11 hx hb dX6_foreseeTree_119 rfl rfl ?_
              refine Y_iald hx hb hK hH hc_srw e9 rfl (by omega) (by decide) dX6_foreseeTree_120 ?_
              refine lv_aload_n hx hb dX6_foreseeTree_121 rfl (lv_at hl 1 rfl) ?_
              refine x_get (C := RX6) (T := TX6) (N := 12) hx hb hts hiX6 hown hK hH hc_a rfl 6 (by decide) hf42 (fun _ h => h) (v := .ref plc) rfl dX6_foreseeTree_122 ?_
              refine x_get (C := RX2) (T := TX2) (N := 12) hx hb hts hiX2 hown hK hH hc_plc rfl 7 (by decide) hf298 (fun _ h => h) (v := .ref cup) rfl dX6_foreseeTree_125 ?_
              refine x_get (C := RX1) (T := TX1) (N := 6) hx hb hts hiX1 hown hK hH hc_cup rfl 4 (by decide) hf313 (fun _ h => h) (v := .int (E3 13 60 0 4)) rfl dX6_foreseeTree_128 ?_
              refine lv_iadd hx hb dX6_foreseeTree_131 ?_
              refine Y_iast hx hb hK hH hc_srw e9 rfl (by omega) (by decide) dX6_foreseeTree_132 (fun H locs hH => ?_)
              have hH : xH G A s.heap H locs (va_up w105 srw (some (.inl (G.2 0, 20, .inl (upd (E3 11 sl 0) e9 (E3 11 sl 0 e9 + E3 13 60 0 4)))))) := hH
              obtain ⟨w132, ew132⟩ : ∃ z, z = va_up w105 srw (some (.inl (G.2 0, 20, .inl (upd (E3 11 sl 0) e9 (E3 11 sl 0 e9 + E3 13 60 0 4))))) := ⟨_, rfl⟩
              rw [← ew132] at hH
              have hf132 : ∀ y, y ≠ ad 11 sl 0 → w132 y = w105 y := fun y hy => by rw [ew132, hsrw]; exact upW_ne _ _ hy
              have hR4 := rep_spill hR3 h60 hsl (by rw [ew132, hsrw]; exact upW_at _ _ _) hf132
              have hK4 : Kp w w132 ad L := hK3.trans (fun y hy => hf132 y (hy 11 sl 0 k11))
              refine lv_iinc (v := nI (e9 + 1)) (lv' := [(4, .int (nI (e9 + 1))), (5, .int (nI (now + d))), (0, .ref a), (1, .ref tr), (2, .int (nI sl)), (3, .int (nI i))]) hx hb dX6_foreseeTree_133 hl (k := 5) rfl (by exact nI_add _ 1) (by decide) rfl (fun ls hl => ?_)
              refine lv_goto (tgt := 49) hx hb dX6_foreseeTree_136 (by decide) ?_
              exact ih49 (e9 + 1) w132 (upK E3 11 sl (upd (E3 11 sl 0) e9 (E3 11 sl 0 e9 + E3 13 60 0 4))) (by omega) (by omega) (by omega) (hR4) (hK4) (hsm3.trans (smE.up (by omega))) (h1e3) (h2e3) (by rw [show e9 + 1 - 1 = d + 1 by omega]; exact hsim4) (by rw [upK_at]; exact sp_step (by omega) hsp3 (by rw [hsim4.2.2.2, hd])) _ _ hH ls (lv_sub hl [2, 3, 4, 5, 0] rfl)
  · exact x_vret w hx hb hr hlocks hK hH (⟨E, hR, smE.refl, fun j _ => by rw [ov_burnt hV ht c4 j _ (Nat.le_refl _)]; exact (Int32.add_zero _).symm, fun _ _ => rfl⟩) dX6_foreseeTree_7
