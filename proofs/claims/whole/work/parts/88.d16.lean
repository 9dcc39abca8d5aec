
section VK
variable {G : XG} {w u : XW} {ad : YA} {E : YE} {cp L wd bw : Nat → Nat} {lb : Nat → Option Nat} {I : Nat → Int32} {F : Nat → Nat → Int32}
theorem rep_row (h : Rep G w ad E cp L wd bw lb I F) (h60 : L 0 ≤ 60) {i : Nat} (hi : i < 5) {f : Nat → Int32} (h1 : u (ad 9 i 0) = some (.inl (G.2 (if i = 4 then 1 else 0), 6, .inl f))) (hf : ∀ y, y ≠ ad 9 i 0 → u y = w y) : Rep G u ad (upK E 9 i f) cp L wd bw lb I F :=
  rep_cell h h60 (k := 9) (i := i) ⟨hi, rfl⟩ (by unfold eK; omega) (h1.trans (by show some (Sum.inl (G.2 (if i = 4 then 1 else 0), 6, Sum.inl f)) = some (Sum.inl (G.2 (if i = 4 then 1 else 0), 6, Sum.inl (upK E 9 i f 9 i 0))); rw [upK_at])) hf
theorem rep_keep (h : Rep G w ad E cp L wd bw lb I F) (h60 : L 0 ≤ 60) {x0 x1 x2 x3 : Int32} {f : Nat → Int32} (h1 : u (ad 8 0 0) = some (.inr (3, [.int x0, .ref (ad 9 0 0), .ref (ad 9 1 0), .ref (ad 10 0 0), .ref (ad 9 2 0), .ref (ad 9 3 0), .ref (ad 9 4 0), .ref (ad 13 60 0), .ref (ad 7 1 0), .int x1, .int x2, .int x3]))) (h2 : u (ad 9 3 0) = some (.inl (G.2 0, 6, .inl f))) (hf : ∀ y, y ≠ ad 8 0 0 → y ≠ ad 9 3 0 → u y = w y) : Rep G u ad (upK (upK E 8 0 (l4 x0 x1 x2 x3)) 9 3 f) cp L wd bw lb I F := by
  have k1 : lvK L 8 0 0 := ⟨rfl, rfl⟩
  have k2 : lvK L 9 3 0 := ⟨by decide, rfl⟩
  have r1 : Rep G (va_up w (ad 8 0 0) (u (ad 8 0 0))) ad (upK E 8 0 (l4 x0 x1 x2 x3)) cp L wd bw lb I F := rep_cell h h60 k1 (by unfold eK; omega) ((upW_at _ _ _).trans h1) (fun y hy => upW_ne _ _ hy)
  refine rep_row r1 h60 (i := 3) (by decide) (h2.trans rfl) (fun y hy => ?_)
  by_cases e1 : y = ad 8 0 0
  · rw [e1]; exact (upW_at _ _ _).symm
  · rw [upW_ne _ _ e1]; exact hf y e1 hy
end VK
theorem PlS_none {E : YE} {n : Nat} {pl : Nat → Nat} {sv : Nat → Nat → Nat} {p0 : Nat} {pre : List Nat} {b : Option (List Nat)} (h : PlS E n pl sv p0 pre b) (h0 : E 8 0 0 1 = 0) : b = none := by
  cases b with
  | none => rfl
  | some q => exact absurd (h.2.2.2.2.2.2.1.symm.trans h0) (by decide)
theorem PlS_some {E : YE} {n : Nat} {pl : Nat → Nat} {sv : Nat → Nat → Nat} {p0 : Nat} {pre : List Nat} {b : Option (List Nat)} (h : PlS E n pl sv p0 pre b) (h0 : ¬ E 8 0 0 1 = 0) : ∃ q, b = some q := by
  cases b with
  | none => exact absurd h.2.2.2.2.2.2 h0
  | some q => exact ⟨q, rfl⟩
theorem vfd_y {ev : List Nat → Nat × Nat × Nat} {n k : Nat} {pre : List Nat} {b : Option (List Nat)} {i : Nat} (h : i ∈ pre) : vfd ev n k pre b (i + 1) = vfd ev n k pre b i := if_pos h
theorem vfd_n {ev : List Nat → Nat × Nat × Nat} {n k : Nat} {pre : List Nat} {b : Option (List Nat)} {i : Nat} (h : i ∉ pre) : vfd ev n k pre b (i + 1) = (lvs n k (pre ++ [i])).foldl (vkp ev) (vfd ev n k pre b i) := if_neg h
def VsP (G : XG) (w u : XW) (ad : YA) (E : YE) (cp L wd bw : Nat → Nat) (lb : Nat → Option Nat) (I : Nat → Int32) (F : Nat → Nat → Int32) (n : Nat) (pl : Nat → Nat) (sv : Nat → Nat → Nat) (p0 : Nat) (pre : List Nat) (b : Option (List Nat)) : Prop := ∃ E' : YE, Rep G u ad E' cp L wd bw lb I F ∧ PlS E' n pl sv p0 pre b ∧ E' 9 0 0 = E 9 0 0 ∧ Kp w u ad L

set_option maxHeartbeats 4000000 in
set_option maxRecDepth 100000 in
theorem c0_X2_visit (l : Launch) (G : XG) (A : Nat → Prop) (w : XW) (a : Nat) (ad : YA) (E : YE) (cp L wd bw : Nat → Nat) (lb : Nat → Option Nat) (I : Nat → Int32) (F : Nat → Nat → Int32) (n : Nat) (hc_a : w a = some (.inr (3, [.int (nI n), .ref (ad 9 0 0), .ref (ad 9 1 0), .ref (ad 10 0 0), .ref (ad 9 2 0), .ref (ad 9 3 0), .ref (ad 9 4 0), .ref (ad 13 60 0), .ref (ad 7 1 0), .int (E 8 0 0 1), .int (E 8 0 0 2), .int (E 8 0 0 3)]))) (hR : Rep G w ad E cp L wd bw lb I F) (h60 : L 0 ≤ 60) (ha : a = ad 8 0 0) (d cur stp ov p0 : Nat) (pl : Nat → Nat) (sv : Nat → Nat → Nat) (pre : List Nat) (b : Option (List Nat)) (hn : n ≤ 6) (hpl : ∀ j, j < n → pl j ≤ 9999) (hsv : ∀ k, k < n → ∀ q, q < 20 → sv k q ≤ 4000) (hp0 : p0 ≤ 9999) (hS : PlS E n pl sv p0 pre b) (hd : pre.length = d) (hk : d + 0 = n) (hev : vev pl sv p0 pre = (cur, stp, ov)) : Met l yX2_visit wsX2_visit ({ frames := 1, cells := 0, slots := 0, locals := 23 }) (va_Pc [.ref a, .int (nI d), .int (nI cur), .int (nI stp), .int (nI ov)] (xP G A (w))) (va_Qv (fun (u : XW) => VsP G w u ad E cp L wd bw lb I F n pl sv p0 pre ((lvs n 0 pre).foldl (vkp (vev pl sv p0)) b)) (fun u t => xB G A (u) t) A) 0 0 A := by
  refine Met.ofW (cc := cX2_visit) (maxL := 7) (ret := none) (by decide) rfl ?_
  intro p e s m args below meth c s₁ B hml hv
  obtain ⟨rfl, hK, hH, hTt⟩ := hv
  have hx := B.exec
  have hb := B.bytes
  have hr := B.returns
  have hts := atoms_spec (ws := wsX2_visit) B.pre
  have hown : s.vm.findClass RX2 = some m.cls := findClass_of_methodNamed B.named
  have hlocks := B.notSynchronized
  have hiX2 : ∀ w ∈ wsX20, w ∈ wsX2_visit := by decide +kernel
  have hf9 := hts (.fieldLink RX2 9 "ResinWoods$Planner" "size" "I") (by decide +kernel)
  have hf51 := hts (.fieldLink RX2 51 "ResinWoods$Planner" "hasBest" "Z") (by decide +kernel)
  have hl := lv_entry ([.ref a, .int (nI d), .int (nI cur), .int (nI stp), .int (nI ov)]) (n := 7) (Nat.le_of_ble_eq_true rfl)
  rw [lg_entry_eq]
  generalize (lg_sl ([.ref a, .int (nI d), .int (nI cur), .int (nI stp), .int (nI ov)]) ++ List.replicate (7 - (lg_sl ([.ref a, .int (nI d), .int (nI cur), .int (nI stp), .int (nI ov)])).length) Slot.unset).toArray = ls at hl ⊢
  have hl : lv_has ls 7 [(0, .ref a), (1, .int (nI d)), (2, .int (nI cur)), (3, .int (nI stp)), (4, .int (nI ov))] := hl
  obtain ⟨pls, hpls⟩ : ∃ z, z = ad 9 1 0 := ⟨_, rfl⟩
  obtain ⟨spc, hspc⟩ : ∃ z, z = ad 10 0 0 := ⟨_, rfl⟩
  obtain ⟨por, hpor⟩ : ∃ z, z = ad 9 2 0 := ⟨_, rfl⟩
  obtain ⟨pbs, hpbs⟩ : ∃ z, z = ad 9 3 0 := ⟨_, rfl⟩
  obtain ⟨pvi, hpvi⟩ : ∃ z, z = ad 9 4 0 := ⟨_, rfl⟩
  rw [← hpls, ← hspc, ← hpor, ← hpbs, ← hpvi] at hc_a
  have hb1 : cur ≤ 9999 ∧ stp ≤ 198 * d ∧ ov ≤ 4000 * d := by have h9 := vev_b hpl hsv hp0 hS.2.2.2.2.2.1; rw [hev, hd] at h9; exact h9
  have hc_por : w por = some (.inl (G.2 0, 6, .inl (E 9 2 0))) := by rw [hpor]; exact hR.1 9 2 0 ⟨by decide, rfl⟩
  have hc_pbs : w pbs = some (.inl (G.2 0, 6, .inl (E 9 3 0))) := by rw [hpbs]; exact hR.1 9 3 0 ⟨by decide, rfl⟩
  refine lv_aload_n hx hb dX2_visit_0 rfl (lv_at hl 0 rfl) ?_
  refine x_get (C := RX2) (T := TX2) (N := 12) hx hb hts hiX2 hown hK hH hc_a rfl 9 (by decide) hf51 (fun _ h => h) (v := .int (E 8 0 0 1)) rfl dX2_visit_1 ?_
  refine lv_if_eq (tgt := 18) hx hb dX2_visit_4 (by decide) (fun c4 => ?_) (fun c4 => ?_)
  · have hkeep : vkp (vev pl sv p0) b pre = some pre := by rw [PlS_none hS c4]; rfl
    refine lv_iload_n hx hb dX2_visit_18 rfl (lv_at hl 1 rfl) ?_
    refine lv_aload_n hx hb dX2_visit_19 rfl (lv_at hl 0 rfl) ?_
    refine x_get (C := RX2) (T := TX2) (N := 12) hx hb hts hiX2 hown hK hH hc_a rfl 0 (by decide) hf9 (fun _ h => h) (v := .int (nI n)) rfl dX2_visit_20 ?_
    refine lv_icmp_lt (tgt := 34) hx hb dX2_visit_23 (by decide) (fun c23 => ?_) (fun c23 => ?_)
    · have c23 : d < n := (nI_ltI (a := d) (b := n) (by omega) (by omega)).mp c23
      exact absurd hk (by omega)
    · have c23 : ¬ d < n := fun zz => c23 ((nI_ltI (a := d) (b := n) (by omega) (by omega)).mpr zz)
      refine lv_aload_n hx hb dX2_visit_26 rfl (lv_at hl 0 rfl) ?_
      refine lv_iload hx hb dX2_visit_27 (lv_at hl 4 rfl) ?_
      refine lv_iload_n hx hb dX2_visit_29 rfl (lv_at hl 3 rfl) ?_
      refine x_callv (va_runV (As := [.int (nI ov), .int (nI stp)]) (rest := []) ⟨hx, hb, hml, hown, hts⟩ (c_X2_keepBest l G A _ a por pbs _ _ _ _ _ _ n _ _ _ _ _ hc_a hc_por hc_pbs (nI ov) (nI stp) hn (by rw [hpor, hpbs]; exact hR.ne (k := 9) (i := 2) (j := 0) (k' := 9) (i' := 3) (j' := 0) ⟨by decide, rfl⟩ ⟨by decide, rfl⟩ (by decide))) (cwV 2 hts gX2_visit_X2_keepBest rfl rfl rfl (by decide +kernel) ⟨Nat.le_of_ble_eq_true rfl, Nat.le_of_ble_eq_true rfl⟩) (x_preV hK hH hTt (hc_a) rfl [.int (nI ov), .int (nI stp)]) rfl rfl hl.1 rfl (lv_room (Nat.le_of_ble_eq_true rfl)) dX2_visit_30 ⟨Nat.le_of_ble_eq_true rfl, Nat.le_of_ble_eq_true rfl⟩) hH (fun w30 H locs hp hH => ?_)
      obtain ⟨hu_a, hu_o, hu_b, hfm⟩ := hp
      have hfk : ∀ y, y ≠ ad 8 0 0 → y ≠ ad 9 3 0 → w30 y = w y := fun y y1 y2 => if z : y = por then (by rw [z, hu_o, hc_por]) else hfm y (by rw [ha]; exact y1) z (by rw [hpbs]; exact y2)
      rw [ha, hpls, hspc, hpor, hpbs, hpvi] at hu_a
      rw [hpbs] at hu_b
      have hRk := rep_keep hR h60 hu_a hu_b hfk
      have hSk := hS.keep (by omega)
      rw [hev] at hSk
      exact x_vret w30 hx hb hr hlocks hK hH (⟨_, hRk, (by rw [show (lvs n 0 pre).foldl (vkp (vev pl sv p0)) b = some pre from hkeep]; exact hSk), (by rw [upK_i _ _ _ (by decide), upK_k _ _ (by decide)]), fun y hy => hfk y (hy 8 0 0 ⟨rfl, rfl⟩) (hy 9 3 0 ⟨by decide, rfl⟩)⟩) dX2_visit_33
  · obtain ⟨q, hbq⟩ := PlS_some hS c4
    have hbs : bsE E n (vev pl sv p0) (some q) := by have h9 := hS.2.2.2.2.2.2; rw [hbq] at h9; exact h9
    have hqb := vev_b hpl hsv hp0 hbs.2.2.2.1
    rw [hbs.2.2.2.2.1] at hqb
    refine lv_aload_n hx hb dX2_visit_7 rfl (lv_at hl 0 rfl) ?_
    refine lv_iload hx hb dX2_visit_8 (lv_at hl 4 rfl) ?_
    refine lv_iload_n hx hb dX2_visit_10 rfl (lv_at hl 3 rfl) ?_
    refine x_calli (va_runV (As := [.int (nI ov), .int (nI stp)]) (rest := []) ⟨hx, hb, hml, hown, hts⟩ (c_X2_beatsBest l G A _ a _ _ _ _ _ _ _ _ _ _ _ _ hc_a (nI ov) (nI stp)) (cwV 2 hts gX2_visit_X2_beatsBest rfl rfl rfl (by decide +kernel) ⟨Nat.le_of_ble_eq_true rfl, Nat.le_of_ble_eq_true rfl⟩) (x_preV hK hH hTt (hc_a) rfl [.int (nI ov), .int (nI stp)]) rfl rfl hl.1 rfl (lv_room (Nat.le_of_ble_eq_true rfl)) dX2_visit_11 ⟨Nat.le_of_ble_eq_true rfl, Nat.le_of_ble_eq_true rfl⟩) hH (fun r11 u H locs hp hH => ?_)
    obtain ⟨hrq, hu9⟩ := hp
    rw [hu9] at hH
    have hrb := hrq.trans (bts hbs (ov := ov) (st := stp) (by omega) (by omega) (by omega) (by omega))
    refine lv_if_ne (tgt := 18) hx hb dX2_visit_14 (by decide) (fun c14 => ?_) (fun c14 => ?_)
    · have hlt : vlt (vev pl sv p0 pre) (vev pl sv p0 q) := by
        rw [hev]
        by_cases z : ov < (vev pl sv p0 q).2.2 ∨ (ov = (vev pl sv p0 q).2.2 ∧ stp < (vev pl sv p0 q).2.1)
        · exact z
        · exact absurd (by rw [hrb, if_neg z]) c14
      have hkeep : vkp (vev pl sv p0) b pre = some pre := by rw [hbq]; exact if_pos hlt
      refine lv_iload_n hx hb dX2_visit_18 rfl (lv_at hl 1 rfl) ?_
      refine lv_aload_n hx hb dX2_visit_19 rfl (lv_at hl 0 rfl) ?_
      refine x_get (C := RX2) (T := TX2) (N := 12) hx hb hts hiX2 hown hK hH hc_a rfl 0 (by decide) hf9 (fun _ h => h) (v := .int (nI n)) rfl dX2_visit_20 ?_
      refine lv_icmp_lt (tgt := 34) hx hb dX2_visit_23 (by decide) (fun c23 => ?_) (fun c23 => ?_)
      · have c23 : d < n := (nI_ltI (a := d) (b := n) (by omega) (by omega)).mp c23
        exact absurd hk (by omega)
      · have c23 : ¬ d < n := fun zz => c23 ((nI_ltI (a := d) (b := n) (by omega) (by omega)).mpr zz)
        refine lv_aload_n hx hb dX2_visit_26 rfl (lv_at hl 0 rfl) ?_
        refine lv_iload hx hb dX2_visit_27 (lv_at hl 4 rfl) ?_
        refine lv_iload_n hx hb dX2_visit_29 rfl (lv_at hl 3 rfl) ?_
        refine x_callv (va_runV (As := [.int (nI ov), .int (nI stp)]) (rest := []) ⟨hx, hb, hml, hown, hts⟩ (c_X2_keepBest l G A _ a por pbs _ _ _ _ _ _ n _ _ _ _ _ hc_a hc_por hc_pbs (nI ov) (nI stp) hn (by rw [hpor, hpbs]; exact hR.ne (k := 9) (i := 2) (j := 0) (k' := 9) (i' := 3) (j' := 0) ⟨by decide, rfl⟩ ⟨by decide, rfl⟩ (by decide))) (cwV 2 hts gX2_visit_X2_keepBest rfl rfl rfl (by decide +kernel) ⟨Nat.le_of_ble_eq_true rfl, Nat.le_of_ble_eq_true rfl⟩) (x_preV hK hH hTt (hc_a) rfl [.int (nI ov), .int (nI stp)]) rfl rfl hl.1 rfl (lv_room (Nat.le_of_ble_eq_true rfl)) dX2_visit_30 ⟨Nat.le_of_ble_eq_true rfl, Nat.le_of_ble_eq_true rfl⟩) hH (fun w30 H locs hp hH => ?_)
        obtain ⟨hu_a, hu_o, hu_b, hfm⟩ := hp
        have hfk : ∀ y, y ≠ ad 8 0 0 → y ≠ ad 9 3 0 → w30 y = w y := fun y y1 y2 => if z : y = por then (by rw [z, hu_o, hc_por]) else hfm y (by rw [ha]; exact y1) z (by rw [hpbs]; exact y2)
        rw [ha, hpls, hspc, hpor, hpbs, hpvi] at hu_a
        rw [hpbs] at hu_b
        have hRk := rep_keep hR h60 hu_a hu_b hfk
        have hSk := hS.keep (by omega)
        rw [hev] at hSk
        exact x_vret w30 hx hb hr hlocks hK hH (⟨_, hRk, (by rw [show (lvs n 0 pre).foldl (vkp (vev pl sv p0)) b = some pre from hkeep]; exact hSk), (by rw [upK_i _ _ _ (by decide), upK_k _ _ (by decide)]), fun y hy => hfk y (hy 8 0 0 ⟨rfl, rfl⟩) (hy 9 3 0 ⟨by decide, rfl⟩)⟩) dX2_visit_33
    · have hcut : ¬ vlt (vev pl sv p0 pre) (vev pl sv p0 q) := fun z => by rw [hev] at z; rw [hrb, if_pos z] at c14; exact absurd c14 (by decide)
      exact x_vret w hx hb hr hlocks hK hH (⟨E, hR, (by rw [hbq, vis_cut hcut, ← hbq]; exact hS), rfl, fun _ _ => rfl⟩) dX2_visit_17

set_option maxHeartbeats 4000000 in
set_option maxRecDepth 100000 in
theorem c1_X2_visit (l : Launch) (G : XG) (A : Nat → Prop) (w : XW) (a : Nat) (ad : YA) (E : YE) (cp L wd bw : Nat → Nat) (lb : Nat → Option Nat) (I : Nat → Int32) (F : Nat → Nat → Int32) (n : Nat) (hc_a : w a = some (.inr (3, [.int (nI n), .ref (ad 9 0 0), .ref (ad 9 1 0), .ref (ad 10 0 0), .ref (ad 9 2 0), .ref (ad 9 3 0), .ref (ad 9 4 0), .ref (ad 13 60 0), .ref (ad 7 1 0), .int (E 8 0 0 1), .int (E 8 0 0 2), .int (E 8 0 0 3)]))) (hR : Rep G w ad E cp L wd bw lb I F) (h60 : L 0 ≤ 60) (ha : a = ad 8 0 0) (d cur stp ov p0 : Nat) (pl : Nat → Nat) (sv : Nat → Nat → Nat) (pre : List Nat) (b : Option (List Nat)) (hn : n ≤ 6) (hpl : ∀ j, j < n → pl j ≤ 9999) (hsv : ∀ k, k < n → ∀ q, q < 20 → sv k q ≤ 4000) (hp0 : p0 ≤ 9999) (hS : PlS E n pl sv p0 pre b) (hd : pre.length = d) (hk : d + 1 = n) (hev : vev pl sv p0 pre = (cur, stp, ov)) : Met l yX2_visit wsX2_visit ({ frames := 2, cells := 0, slots := 0, locals := 49 }) (va_Pc [.ref a, .int (nI d), .int (nI cur), .int (nI stp), .int (nI ov)] (xP G A (w))) (va_Qv (fun (u : XW) => VsP G w u ad E cp L wd bw lb I F n pl sv p0 pre ((lvs n 1 pre).foldl (vkp (vev pl sv p0)) b)) (fun u t => xB G A (u) t) A) 0 0 A := by
  refine Met.ofW (cc := cX2_visit) (maxL := 7) (ret := none) (by decide) rfl ?_
  intro p e s m args below meth c s₁ B hml hv
  obtain ⟨rfl, hK, hH, hTt⟩ := hv
  have hx := B.exec
  have hb := B.bytes
  have hr := B.returns
  have hts := atoms_spec (ws := wsX2_visit) B.pre
  have hown : s.vm.findClass RX2 = some m.cls := findClass_of_methodNamed B.named
  have hlocks := B.notSynchronized
  have hiX2 : ∀ w ∈ wsX20, w ∈ wsX2_visit := by decide +kernel
  have hf9 := hts (.fieldLink RX2 9 "ResinWoods$Planner" "size" "I") (by decide +kernel)
  have hf19 := hts (.fieldLink RX2 19 "ResinWoods$Planner" "places" "[I") (by decide +kernel)
  have hf27 := hts (.fieldLink RX2 27 "ResinWoods$Planner" "order" "[I") (by decide +kernel)
  have hf33 := hts (.fieldLink RX2 33 "ResinWoods$Planner" "isVisited" "[Z") (by decide +kernel)
  have hf51 := hts (.fieldLink RX2 51 "ResinWoods$Planner" "hasBest" "Z") (by decide +kernel)
  have hl := lv_entry ([.ref a, .int (nI d), .int (nI cur), .int (nI stp), .int (nI ov)]) (n := 7) (Nat.le_of_ble_eq_true rfl)
  rw [lg_entry_eq]
  generalize (lg_sl ([.ref a, .int (nI d), .int (nI cur), .int (nI stp), .int (nI ov)]) ++ List.replicate (7 - (lg_sl ([.ref a, .int (nI d), .int (nI cur), .int (nI stp), .int (nI ov)])).length) Slot.unset).toArray = ls at hl ⊢
  have hl : lv_has ls 7 [(0, .ref a), (1, .int (nI d)), (2, .int (nI cur)), (3, .int (nI stp)), (4, .int (nI ov))] := hl
  obtain ⟨pls, hpls⟩ : ∃ z, z = ad 9 1 0 := ⟨_, rfl⟩
  obtain ⟨spc, hspc⟩ : ∃ z, z = ad 10 0 0 := ⟨_, rfl⟩
  obtain ⟨por, hpor⟩ : ∃ z, z = ad 9 2 0 := ⟨_, rfl⟩
  obtain ⟨pbs, hpbs⟩ : ∃ z, z = ad 9 3 0 := ⟨_, rfl⟩
  obtain ⟨pvi, hpvi⟩ : ∃ z, z = ad 9 4 0 := ⟨_, rfl⟩
  rw [← hpls, ← hspc, ← hpor, ← hpbs, ← hpvi] at hc_a
  have hb1 : cur ≤ 9999 ∧ stp ≤ 198 * d ∧ ov ≤ 4000 * d := by have h9 := vev_b hpl hsv hp0 hS.2.2.2.2.2.1; rw [hev, hd] at h9; exact h9
  have hc_por : w por = some (.inl (G.2 0, 6, .inl (E 9 2 0))) := by rw [hpor]; exact hR.1 9 2 0 ⟨by decide, rfl⟩
  have hc_pbs : w pbs = some (.inl (G.2 0, 6, .inl (E 9 3 0))) := by rw [hpbs]; exact hR.1 9 3 0 ⟨by decide, rfl⟩
  refine lv_aload_n hx hb dX2_visit_0 rfl (lv_at hl 0 rfl) ?_
  refine x_get (C := RX2) (T := TX2) (N := 12) hx hb hts hiX2 hown hK hH hc_a rfl 9 (by decide) hf51 (fun _ h => h) (v := .int (E 8 0 0 1)) rfl dX2_visit_1 ?_
  refine lv_if_eq (tgt := 18) hx hb dX2_visit_4 (by decide) (fun c4 => ?_) (fun c4 => ?_)
  · have hkeep : vkp (vev pl sv p0) b pre = some pre := by rw [PlS_none hS c4]; rfl
    refine lv_iload_n hx hb dX2_visit_18 rfl (lv_at hl 1 rfl) ?_
    refine lv_aload_n hx hb dX2_visit_19 rfl (lv_at hl 0 rfl) ?_
    refine x_get (C := RX2) (T := TX2) (N := 12) hx hb hts hiX2 hown hK hH hc_a rfl 0 (by decide) hf9 (fun _ h => h) (v := .int (nI n)) rfl dX2_visit_20 ?_
    refine lv_icmp_lt (tgt := 34) hx hb dX2_visit_23 (by decide) (fun c23 => ?_) (fun c23 => ?_)
    · have c23 : d < n := (nI_ltI (a := d) (b := n) (by omega) (by omega)).mp c23
      refine lv_iconst (v := 0) hx hb dX2_visit_34 (by decide) ?_
      refine lv_istore (lv' := [(5, .int 0), (0, .ref a), (1, .int (nI d)), (2, .int (nI cur)), (3, .int (nI stp)), (4, .int (nI ov))]) hx hb dX2_visit_35 hl (by decide) rfl (fun ls hl => ?_)
      suffices loop37 : ∀ (k37 : Nat) (i : Nat) (wl : XW) (E1 : YE), (n < i + k37) → (i ≤ n) → (Rep G wl ad E1 cp L wd bw lb I F) → (Kp w wl ad L) → (PlS E1 n pl sv p0 pre (vfd (vev pl sv p0) n 0 pre b i)) → (E1 9 0 0 = E 9 0 0) → ∀ (H : Heap) (locs : List Loc), xH G A s.heap H locs (wl) → ∀ (ls : Array Slot), lv_has ls 7 [(0, .ref a), (1, .int (nI d)), (2, .int (nI cur)), (3, .int (nI stp)), (4, .int (nI ov)), (5, .int (nI i))] → W p l e (headSpec wsX2_visit _).room s m _ below meth c H locs 0 0 (MQ below _ _ s 0 0 A) (F0 m 37 ls []) from
        loop37 (n + 1) 0 w E (by omega) (by omega) (hR) (fun _ _ => rfl) (hS) (rfl) _ _ hH ls (lv_sub hl [1, 2, 3, 4, 5, 0] rfl)
      intro k37
      induction k37 with
      | zero =>
        intro i wl E1 hfuel hi9 hR1 hKp hS1 h90 H locs hH ls hl
        exact absurd hfuel (by omega)
      | succ k37 ih37 =>
        intro i wl E1 hfuel hi9 hR1 hKp hS1 h90 H locs hH ls hl
        have hc_a : wl a = some (.inr (3, [.int (nI n), .ref (ad 9 0 0), .ref pls, .ref spc, .ref por, .ref pbs, .ref pvi, .ref (ad 13 60 0), .ref (ad 7 1 0), .int (E1 8 0 0 1), .int (E1 8 0 0 2), .int (E1 8 0 0 3)])) := by rw [ha, hpls, hspc, hpor, hpbs, hpvi, ← hS1.1]; exact hR1.1 8 0 0 ⟨rfl, rfl⟩
        have hc_pls : wl pls = some (.inl (G.2 0, 6, .inl (E1 9 1 0))) := by rw [hpls]; exact hR1.1 9 1 0 ⟨by decide, rfl⟩
        have hc_por : wl por = some (.inl (G.2 0, 6, .inl (E1 9 2 0))) := by rw [hpor]; exact hR1.1 9 2 0 ⟨by decide, rfl⟩
        have hc_pvi : wl pvi = some (.inl (G.2 1, 6, .inl (E1 9 4 0))) := by rw [hpvi]; exact hR1.1 9 4 0 ⟨by decide, rfl⟩
        refine lv_iload hx hb dX2_visit_37 (lv_at hl 5 rfl) ?_
        refine lv_aload_n hx hb dX2_visit_39 rfl (lv_at hl 0 rfl) ?_
        refine x_get (C := RX2) (T := TX2) (N := 12) hx hb hts hiX2 hown hK hH hc_a rfl 0 (by decide) hf9 (fun _ h => h) (v := .int (nI n)) rfl dX2_visit_40 ?_
        refine lv_icmp_ge (tgt := 128) hx hb dX2_visit_43 (by decide) (fun c43 => ?_) (fun c43 => ?_)
        · have c43 : n ≤ i := (nI_leI (a := n) (b := i) (by omega) (by omega)).mp c43
          exact x_vret wl hx hb hr hlocks hK hH (⟨E1, hR1, (by have h9 : (lvs n 1 pre).foldl (vkp (vev pl sv p0)) b = vfd (vev pl sv p0) n 0 pre b n := vfd_all _ n 0 pre b; rw [h9]; rw [show i = n by omega] at hS1; exact hS1), h90, hKp⟩) dX2_visit_128
        · have c43 : ¬ n ≤ i := fun zz => c43 ((nI_leI (a := n) (b := i) (by omega) (by omega)).mpr zz)
          refine lv_aload_n hx hb dX2_visit_46 rfl (lv_at hl 0 rfl) ?_
          refine x_get (C := RX2) (T := TX2) (N := 12) hx hb hts hiX2 hown hK hH hc_a rfl 6 (by decide) hf33 (fun _ h => h) (v := .ref pvi) rfl dX2_visit_47 ?_
          refine lv_iload hx hb dX2_visit_50 (lv_at hl 5 rfl) ?_
          refine Y_zald hx hb hK hH hc_pvi i rfl (by omega) (by decide) dX2_visit_52 ?_
          refine lv_if_ne (tgt := 122) hx hb dX2_visit_53 (by decide) (fun c53 => ?_) (fun c53 => ?_)
          · have hm : i ∈ pre := Decidable.byContradiction fun z => c53 (by rw [hS1.2.2.2.2.1 i, if_neg z])
            refine lv_iinc (v := nI (i + 1)) (lv' := [(5, .int (nI (i + 1))), (0, .ref a), (1, .int (nI d)), (2, .int (nI cur)), (3, .int (nI stp)), (4, .int (nI ov))]) hx hb dX2_visit_122 hl (k := 5) rfl (by exact nI_add _ 1) (by decide) rfl (fun ls hl => ?_)
            refine lv_goto (tgt := 37) hx hb dX2_visit_125 (by decide) ?_
            exact ih37 (i + 1) wl E1 (by omega) (by omega) (hR1) (hKp) (by rw [vfd_y hm]; exact hS1) (h90) _ _ hH ls (lv_sub hl [1, 2, 3, 4, 5, 0] rfl)
          · have hm : i ∉ pre := fun z => by rw [hS1.2.2.2.2.1 i, if_pos z] at c53; exact absurd c53 (by decide)
            refine lv_iload_n hx hb dX2_visit_56 rfl (lv_at hl 3 rfl) ?_
            refine lv_iload_n hx hb dX2_visit_57 rfl (lv_at hl 2 rfl) ?_
            refine lv_aload_n hx hb dX2_visit_58 rfl (lv_at hl 0 rfl) ?_
            refine x_get (C := RX2) (T := TX2) (N := 12) hx hb hts hiX2 hown hK hH hc_a rfl 2 (by decide) hf19 (fun _ h => h) (v := .ref pls) rfl dX2_visit_59 ?_
            refine lv_iload hx hb dX2_visit_62 (lv_at hl 5 rfl) ?_
            refine Y_iald hx hb hK hH hc_pls i rfl (by omega) (by decide) dX2_visit_64 ?_
            refine lv_topi (fun v65 ev65 => ?_)
            have hv65 : v65 = nI (pl i) := by rw [ev65]; exact hS1.2.1 i (by omega)
            subst hv65
            refine x_calli (va_runS (As := [.int (nI cur), .int (nI (pl i))]) (rest := [.int (nI stp)]) ⟨hx, hb, hml, hown, hts⟩ (c_X2_stepsBetween l G A _ (nI cur) (nI (pl i))) (va_cwS 2 hts gX2_visit_X2_stepsBetween rfl rfl rfl (by decide +kernel) ⟨Nat.le_of_ble_eq_true rfl, Nat.le_of_ble_eq_true rfl⟩) (x_preS hK hH hTt [.int (nI cur), .int (nI (pl i))]) rfl rfl hl.1 rfl (lv_room (Nat.le_of_ble_eq_true rfl)) dX2_visit_65 ⟨Nat.le_of_ble_eq_true rfl, Nat.le_of_ble_eq_true rfl⟩) hH (fun r65 u H locs hp hH => ?_)
            have hpd : r65 = nI (pdist cur (pl i)) := hp.trans (stp_nat hb1.1 (hpl i (by omega)))
            subst hpd
            have hpdb : pdist cur (pl i) ≤ 198 := pdist_b hb1.1 (hpl i (by omega))
            refine N_iadd hx hb stp (pdist cur (pl i)) rfl rfl dX2_visit_68 ?_
            refine lv_istore (lv' := [(6, .int (nI (stp + (pdist cur (pl i))))), (0, .ref a), (1, .int (nI d)), (2, .int (nI cur)), (3, .int (nI stp)), (4, .int (nI ov)), (5, .int (nI i))]) hx hb dX2_visit_69 hl (by decide) rfl (fun ls hl => ?_)
            refine lv_aload_n hx hb dX2_visit_71 rfl (lv_at hl 1 rfl) ?_
            refine x_get (C := RX2) (T := TX2) (N := 12) hx hb hts hiX2 hown hK hH hc_a rfl 6 (by decide) hf33 (fun _ h => h) (v := .ref pvi) rfl dX2_visit_72 ?_
            refine lv_iload hx hb dX2_visit_75 (lv_at hl 6 rfl) ?_
            refine lv_iconst (v := 1) hx hb dX2_visit_77 (by decide) ?_
            refine Y_zast hx hb hK hH hc_pvi i rfl (by omega) (by decide) (by decide) dX2_visit_78 (fun H locs hH => ?_)
            have hH : xH G A s.heap H locs (va_up wl pvi (some (.inl (G.2 1, 6, .inl (upd (E1 9 4 0) i 1))))) := hH
            obtain ⟨w78, ew78⟩ : ∃ z, z = va_up wl pvi (some (.inl (G.2 1, 6, .inl (upd (E1 9 4 0) i 1)))) := ⟨_, rfl⟩
            rw [← ew78] at hH
            have hf78 : ∀ y, y ≠ ad 9 4 0 → w78 y = wl y := fun y hy => by rw [ew78, hpvi]; exact upW_ne _ _ hy
            have hR78 := rep_row (i := 4) (f := upd (E1 9 4 0) i 1) hR1 h60 (by decide) (by rw [ew78, hpvi]; exact upW_at _ _ _) hf78
            have ne_pv : ∀ z, z ≠ ad 9 4 0 → w78 z = wl z := hf78
            have hc_a : w78 a = some (.inr (3, [.int (nI n), .ref (ad 9 0 0), .ref pls, .ref spc, .ref por, .ref pbs, .ref pvi, .ref (ad 13 60 0), .ref (ad 7 1 0), .int (E1 8 0 0 1), .int (E1 8 0 0 2), .int (E1 8 0 0 3)])) := (hf78 a (by rw [ha]; exact hR1.ne (k := 8) (i := 0) (j := 0) (k' := 9) (i' := 4) (j' := 0) ⟨rfl, rfl⟩ ⟨by decide, rfl⟩ (by decide))).trans hc_a
            have hc_por : w78 por = some (.inl (G.2 0, 6, .inl (E1 9 2 0))) := by rw [hpor]; exact hR78.1 9 2 0 ⟨by decide, rfl⟩
            refine lv_aload_n hx hb dX2_visit_79 rfl (lv_at hl 1 rfl) ?_
            refine x_get (C := RX2) (T := TX2) (N := 12) hx hb hts hiX2 hown hK hH hc_a rfl 4 (by decide) hf27 (fun _ h => h) (v := .ref por) rfl dX2_visit_80 ?_
            refine lv_iload_n hx hb dX2_visit_83 rfl (lv_at hl 2 rfl) ?_
            refine lv_iload hx hb dX2_visit_84 (lv_at hl 6 rfl) ?_
            refine Y_iast hx hb hK hH hc_por d rfl (by omega) (by decide) dX2_visit_86 (fun H locs hH => ?_)
            have hH : xH G A s.heap H locs (va_up w78 por (some (.inl (G.2 0, 6, .inl (upd (E1 9 2 0) d (nI i)))))) := hH
            obtain ⟨w86, ew86⟩ : ∃ z, z = va_up w78 por (some (.inl (G.2 0, 6, .inl (upd (E1 9 2 0) d (nI i))))) := ⟨_, rfl⟩
            rw [← ew86] at hH
            have hf86 : ∀ y, y ≠ ad 9 2 0 → w86 y = w78 y := fun y hy => by rw [ew86, hpor]; exact upW_ne _ _ hy
            have hR2 := rep_row (i := 2) (f := upd (E1 9 2 0) d (nI i)) hR78 h60 (by decide) (by rw [ew86, hpor]; exact upW_at _ _ _) hf86
            obtain ⟨E2, hE2⟩ : ∃ z, z = upK (upK E1 9 4 (upd (E1 9 4 0) i 1)) 9 2 (upd (E1 9 2 0) d (nI i)) := ⟨_, rfl⟩
            rw [← hE2] at hR2
            have hS2 : PlS E2 n pl sv p0 (pre ++ [i]) (vfd (vev pl sv p0) n 0 pre b i) := by rw [hE2, ← hd]; exact hS1.push (by omega)
            have h902 : E2 9 0 0 = E 9 0 0 := by rw [hE2, upK_i _ _ _ (by decide), upK_i _ _ _ (by decide)]; exact h90
            have hK2 : Kp w w86 ad L := hKp.trans (fun y hy => (hf86 y (hy 9 2 0 ⟨by decide, rfl⟩)).trans (hf78 y (hy 9 4 0 ⟨by decide, rfl⟩)))
            have hc_a : w86 a = some (.inr (3, [.int (nI n), .ref (ad 9 0 0), .ref pls, .ref spc, .ref por, .ref pbs, .ref pvi, .ref (ad 13 60 0), .ref (ad 7 1 0), .int (E2 8 0 0 1), .int (E2 8 0 0 2), .int (E2 8 0 0 3)])) := by rw [ha, hpls, hspc, hpor, hpbs, hpvi, ← hS2.1]; exact hR2.1 8 0 0 ⟨rfl, rfl⟩
            have hc_pls : w86 pls = some (.inl (G.2 0, 6, .inl (E2 9 1 0))) := by rw [hpls]; exact hR2.1 9 1 0 ⟨by decide, rfl⟩
            have hc_spc : w86 spc = some (.inl (G.2 5, 6, .inr (.inr (.inr (.inr (six ad 11)))))) := by rw [hspc]; exact hR2.1 10 0 0 ⟨rfl, rfl⟩
            refine lv_aload_n hx hb dX2_visit_87 rfl (lv_at hl 1 rfl) ?_
            refine lv_iload_n hx hb dX2_visit_88 rfl (lv_at hl 2 rfl) ?_
            refine lv_iconst (v := 1) hx hb dX2_visit_89 (by decide) ?_
            refine N_iadd hx hb d 1 rfl rfl dX2_visit_90 ?_
            refine lv_aload_n hx hb dX2_visit_91 rfl (lv_at hl 1 rfl) ?_
            refine x_get (C := RX2) (T := TX2) (N := 12) hx hb hts hiX2 hown hK hH hc_a rfl 2 (by decide) hf19 (fun _ h => h) (v := .ref pls) rfl dX2_visit_92 ?_
            refine lv_iload hx hb dX2_visit_95 (lv_at hl 6 rfl) ?_
            refine Y_iald hx hb hK hH hc_pls i rfl (by omega) (by decide) dX2_visit_97 ?_
            refine lv_topi (fun v98 ev98 => ?_)
            have hv98 : v98 = nI (pl i) := by rw [ev98]; exact hS2.2.1 i (by omega)
            subst hv98
            refine lv_iload hx hb dX2_visit_98 (lv_at hl 0 rfl) ?_
            refine lv_iload hx hb dX2_visit_100 (lv_at hl 5 rfl) ?_
            refine lv_aload_n hx hb dX2_visit_102 rfl (lv_at hl 1 rfl) ?_
            refine lv_iload hx hb dX2_visit_103 (lv_at hl 6 rfl) ?_
            refine lv_iload hx hb dX2_visit_105 (lv_at hl 0 rfl) ?_
            refine x_calli (va_runV (As := [.int (nI i), .int (nI (stp + (pdist cur (pl i))))]) (rest := [.int (nI ov), .int (nI (stp + (pdist cur (pl i)))), .int (nI (pl i)), .int (nI (d + 1)), .ref a]) ⟨hx, hb, hml, hown, hts⟩ (c_X2_spilledBy l G A _ a spc (ad 11 i 0) _ _ _ _ _ _ _ _ _ _ _ (six ad 11) _ hc_a hc_spc (hR2.1 11 i 0 ⟨by omega, rfl⟩) i (stp + pdist cur (pl i)) (by omega) (by omega) (if_pos (by omega))) (cwV 2 hts gX2_visit_X2_spilledBy rfl rfl rfl (by decide +kernel) ⟨Nat.le_of_ble_eq_true rfl, Nat.le_of_ble_eq_true rfl⟩) (x_preV hK hH hTt (hc_a) rfl [.int (nI i), .int (nI (stp + (pdist cur (pl i))))]) rfl rfl hl.1 rfl (lv_room (Nat.le_of_ble_eq_true rfl)) dX2_visit_107 ⟨Nat.le_of_ble_eq_true rfl, Nat.le_of_ble_eq_true rfl⟩) hH (fun r107 u H locs hp hH => ?_)
            obtain ⟨hrq, hu9⟩ := hp
            rw [hu9] at hH
            have hsq : r107 = nI (sv i (if 19 < (stp + pdist cur (pl i)) / 60 then 19 else (stp + pdist cur (pl i)) / 60)) := hrq.trans (hS2.2.2.1 i (by omega) _ (by split <;> omega))
            subst hsq
            refine N_iadd hx hb ov (sv i (if 19 < (stp + pdist cur (pl i)) / 60 then 19 else (stp + pdist cur (pl i)) / 60)) rfl rfl dX2_visit_110 ?_
            refine x_callv (va_runS (As := [.ref a, .int (nI (d + 1)), .int (nI (pl i)), .int (nI (stp + (pdist cur (pl i)))), .int (nI (ov + (sv i (if 19 < (stp + pdist cur (pl i)) / 60 then 19 else (stp + pdist cur (pl i)) / 60))))]) (rest := []) ⟨hx, hb, hml, hown, hts⟩ (c0_X2_visit l G A _ a ad E2 cp L wd bw lb I F n (by rw [hpls, hspc, hpor, hpbs, hpvi] at hc_a; exact hc_a) hR2 h60 ha (d + 1) (pl i) (stp + pdist cur (pl i)) (ov + sv i (if 19 < (stp + pdist cur (pl i)) / 60 then 19 else (stp + pdist cur (pl i)) / 60)) p0 pl sv (pre ++ [i]) (vfd (vev pl sv p0) n 0 pre b i) hn hpl hsv hp0 hS2 (by rw [List.length_append, hd]; rfl) (by omega) (by rw [vev_s, hev]; rfl)) (va_cwS 5 hts gX2_visit_X2_visit rfl rfl rfl (by decide +kernel) ⟨Nat.le_of_ble_eq_true rfl, Nat.le_of_ble_eq_true rfl⟩) (x_preS hK hH hTt [.ref a, .int (nI (d + 1)), .int (nI (pl i)), .int (nI (stp + (pdist cur (pl i)))), .int (nI (ov + (sv i (if 19 < (stp + pdist cur (pl i)) / 60 then 19 else (stp + pdist cur (pl i)) / 60))))]) rfl rfl hl.1 rfl (lv_room (Nat.le_of_ble_eq_true rfl)) dX2_visit_111 ⟨Nat.le_of_ble_eq_true rfl, Nat.le_of_ble_eq_true rfl⟩) hH (fun w111 H locs hp hH => ?_)
            obtain ⟨E3, hR3, hS3, h903, hK3⟩ := hp
            have hc_a : w111 a = some (.inr (3, [.int (nI n), .ref (ad 9 0 0), .ref pls, .ref spc, .ref por, .ref pbs, .ref pvi, .ref (ad 13 60 0), .ref (ad 7 1 0), .int (E3 8 0 0 1), .int (E3 8 0 0 2), .int (E3 8 0 0 3)])) := by rw [ha, hpls, hspc, hpor, hpbs, hpvi, ← hS3.1]; exact hR3.1 8 0 0 ⟨rfl, rfl⟩
            have hc_pvi : w111 pvi = some (.inl (G.2 1, 6, .inl (E3 9 4 0))) := by rw [hpvi]; exact hR3.1 9 4 0 ⟨by decide, rfl⟩
            refine lv_aload_n hx hb dX2_visit_114 rfl (lv_at hl 1 rfl) ?_
            refine x_get (C := RX2) (T := TX2) (N := 12) hx hb hts hiX2 hown hK hH hc_a rfl 6 (by decide) hf33 (fun _ h => h) (v := .ref pvi) rfl dX2_visit_115 ?_
            refine lv_iload hx hb dX2_visit_118 (lv_at hl 6 rfl) ?_
            refine lv_iconst (v := 0) hx hb dX2_visit_120 (by decide) ?_
            refine Y_zast hx hb hK hH hc_pvi i rfl (by omega) (by decide) (by decide) dX2_visit_121 (fun H locs hH => ?_)
            have hH : xH G A s.heap H locs (va_up w111 pvi (some (.inl (G.2 1, 6, .inl (upd (E3 9 4 0) i 0))))) := hH
            obtain ⟨w121, ew121⟩ : ∃ z, z = va_up w111 pvi (some (.inl (G.2 1, 6, .inl (upd (E3 9 4 0) i 0)))) := ⟨_, rfl⟩
            rw [← ew121] at hH
            have hf121 : ∀ y, y ≠ ad 9 4 0 → w121 y = w111 y := fun y hy => by rw [ew121, hpvi]; exact upW_ne _ _ hy
            have hR4 := rep_row (i := 4) (f := upd (E3 9 4 0) i 0) hR3 h60 (by decide) (by rw [ew121, hpvi]; exact upW_at _ _ _) hf121
            have hS4 := hS3.pop hm
            have h904 : upK E3 9 4 (upd (E3 9 4 0) i 0) 9 0 0 = E 9 0 0 := by rw [upK_i _ _ _ (by decide)]; exact h903.trans h902
            have hK4 : Kp w w121 ad L := (hK2.trans hK3).trans (fun y hy => hf121 y (hy 9 4 0 ⟨by decide, rfl⟩))
            refine lv_iinc (v := nI (i + 1)) (lv' := [(5, .int (nI (i + 1))), (6, .int (nI (stp + (pdist cur (pl i))))), (0, .ref a), (1, .int (nI d)), (2, .int (nI cur)), (3, .int (nI stp)), (4, .int (nI ov))]) hx hb dX2_visit_122 hl (k := 6) rfl (by exact nI_add _ 1) (by decide) rfl (fun ls hl => ?_)
            refine lv_goto (tgt := 37) hx hb dX2_visit_125 (by decide) ?_
            exact ih37 (i + 1) w121 (upK E3 9 4 (upd (E3 9 4 0) i 0)) (by omega) (by omega) (hR4) (hK4) (by rw [vfd_n hm]; exact hS4) (h904) _ _ hH ls (lv_sub hl [2, 3, 4, 5, 6, 0] rfl)
    · have c23 : ¬ d < n := fun zz => c23 ((nI_ltI (a := d) (b := n) (by omega) (by omega)).mpr zz)
      exact absurd hk (by omega)
  · obtain ⟨q, hbq⟩ := PlS_some hS c4
    have hbs : bsE E n (vev pl sv p0) (some q) := by have h9 := hS.2.2.2.2.2.2; rw [hbq] at h9; exact h9
    have hqb := vev_b hpl hsv hp0 hbs.2.2.2.1
    rw [hbs.2.2.2.2.1] at hqb
    refine lv_aload_n hx hb dX2_visit_7 rfl (lv_at hl 0 rfl) ?_
    refine lv_iload hx hb dX2_visit_8 (lv_at hl 4 rfl) ?_
    refine lv_iload_n hx hb dX2_visit_10 rfl (lv_at hl 3 rfl) ?_
    refine x_calli (va_runV (As := [.int (nI ov), .int (nI stp)]) (rest := []) ⟨hx, hb, hml, hown, hts⟩ (c_X2_beatsBest l G A _ a _ _ _ _ _ _ _ _ _ _ _ _ hc_a (nI ov) (nI stp)) (cwV 2 hts gX2_visit_X2_beatsBest rfl rfl rfl (by decide +kernel) ⟨Nat.le_of_ble_eq_true rfl, Nat.le_of_ble_eq_true rfl⟩) (x_preV hK hH hTt (hc_a) rfl [.int (nI ov), .int (nI stp)]) rfl rfl hl.1 rfl (lv_room (Nat.le_of_ble_eq_true rfl)) dX2_visit_11 ⟨Nat.le_of_ble_eq_true rfl, Nat.le_of_ble_eq_true rfl⟩) hH (fun r11 u H locs hp hH => ?_)
    obtain ⟨hrq, hu9⟩ := hp
    rw [hu9] at hH
    have hrb := hrq.trans (bts hbs (ov := ov) (st := stp) (by omega) (by omega) (by omega) (by omega))
    refine lv_if_ne (tgt := 18) hx hb dX2_visit_14 (by decide) (fun c14 => ?_) (fun c14 => ?_)
    · have hlt : vlt (vev pl sv p0 pre) (vev pl sv p0 q) := by
        rw [hev]
        by_cases z : ov < (vev pl sv p0 q).2.2 ∨ (ov = (vev pl sv p0 q).2.2 ∧ stp < (vev pl sv p0 q).2.1)
        · exact z
        · exact absurd (by rw [hrb, if_neg z]) c14
      have hkeep : vkp (vev pl sv p0) b pre = some pre := by rw [hbq]; exact if_pos hlt
      refine lv_iload_n hx hb dX2_visit_18 rfl (lv_at hl 1 rfl) ?_
      refine lv_aload_n hx hb dX2_visit_19 rfl (lv_at hl 0 rfl) ?_
      refine x_get (C := RX2) (T := TX2) (N := 12) hx hb hts hiX2 hown hK hH hc_a rfl 0 (by decide) hf9 (fun _ h => h) (v := .int (nI n)) rfl dX2_visit_20 ?_
      refine lv_icmp_lt (tgt := 34) hx hb dX2_visit_23 (by decide) (fun c23 => ?_) (fun c23 => ?_)
      · have c23 : d < n := (nI_ltI (a := d) (b := n) (by omega) (by omega)).mp c23
        refine lv_iconst (v := 0) hx hb dX2_visit_34 (by decide) ?_
        refine lv_istore (lv' := [(5, .int 0), (0, .ref a), (1, .int (nI d)), (2, .int (nI cur)), (3, .int (nI stp)), (4, .int (nI ov))]) hx hb dX2_visit_35 hl (by decide) rfl (fun ls hl => ?_)
        suffices loop37 : ∀ (k37 : Nat) (i : Nat) (wl : XW) (E1 : YE), (n < i + k37) → (i ≤ n) → (Rep G wl ad E1 cp L wd bw lb I F) → (Kp w wl ad L) → (PlS E1 n pl sv p0 pre (vfd (vev pl sv p0) n 0 pre b i)) → (E1 9 0 0 = E 9 0 0) → ∀ (H : Heap) (locs : List Loc), xH G A s.heap H locs (wl) → ∀ (ls : Array Slot), lv_has ls 7 [(0, .ref a), (1, .int (nI d)), (2, .int (nI cur)), (3, .int (nI stp)), (4, .int (nI ov)), (5, .int (nI i))] → W p l e (headSpec wsX2_visit _).room s m _ below meth c H locs 0 0 (MQ below _ _ s 0 0 A) (F0 m 37 ls []) from
          loop37 (n + 1) 0 w E (by omega) (by omega) (hR) (fun _ _ => rfl) (hS) (rfl) _ _ hH ls (lv_sub hl [1, 2, 3, 4, 5, 0] rfl)
        intro k37
        induction k37 with
        | zero =>
          intro i wl E1 hfuel hi9 hR1 hKp hS1 h90 H locs hH ls hl
          exact absurd hfuel (by omega)
        | succ k37 ih37 =>
          intro i wl E1 hfuel hi9 hR1 hKp hS1 h90 H locs hH ls hl
          have hc_a : wl a = some (.inr (3, [.int (nI n), .ref (ad 9 0 0), .ref pls, .ref spc, .ref por, .ref pbs, .ref pvi, .ref (ad 13 60 0), .ref (ad 7 1 0), .int (E1 8 0 0 1), .int (E1 8 0 0 2), .int (E1 8 0 0 3)])) := by rw [ha, hpls, hspc, hpor, hpbs, hpvi, ← hS1.1]; exact hR1.1 8 0 0 ⟨rfl, rfl⟩
          have hc_pls : wl pls = some (.inl (G.2 0, 6, .inl (E1 9 1 0))) := by rw [hpls]; exact hR1.1 9 1 0 ⟨by decide, rfl⟩
          have hc_por : wl por = some (.inl (G.2 0, 6, .inl (E1 9 2 0))) := by rw [hpor]; exact hR1.1 9 2 0 ⟨by decide, rfl⟩
          have hc_pvi : wl pvi = some (.inl (G.2 1, 6, .inl (E1 9 4 0))) := by rw [hpvi]; exact hR1.1 9 4 0 ⟨by decide, rfl⟩
          refine lv_iload hx hb dX2_visit_37 (lv_at hl 5 rfl) ?_
          refine lv_aload_n hx hb dX2_visit_39 rfl (lv_at hl 0 rfl) ?_
          refine x_get (C := RX2) (T := TX2) (N := 12) hx hb hts hiX2 hown hK hH hc_a rfl 0 (by decide) hf9 (fun _ h => h) (v := .int (nI n)) rfl dX2_visit_40 ?_
          refine lv_icmp_ge (tgt := 128) hx hb dX2_visit_43 (by decide) (fun c43 => ?_) (fun c43 => ?_)
          · have c43 : n ≤ i := (nI_leI (a := n) (b := i) (by omega) (by omega)).mp c43
            exact x_vret wl hx hb hr hlocks hK hH (⟨E1, hR1, (by have h9 : (lvs n 1 pre).foldl (vkp (vev pl sv p0)) b = vfd (vev pl sv p0) n 0 pre b n := vfd_all _ n 0 pre b; rw [h9]; rw [show i = n by omega] at hS1; exact hS1), h90, hKp⟩) dX2_visit_128
          · have c43 : ¬ n ≤ i := fun zz => c43 ((nI_leI (a := n) (b := i) (by omega) (by omega)).mpr zz)
            refine lv_aload_n hx hb dX2_visit_46 rfl (lv_at hl 0 rfl) ?_
            refine x_get (C := RX2) (T := TX2) (N := 12) hx hb hts hiX2 hown hK hH hc_a rfl 6 (by decide) hf33 (fun _ h => h) (v := .ref pvi) rfl dX2_visit_47 ?_
            refine lv_iload hx hb dX2_visit_50 (lv_at hl 5 rfl) ?_
            refine Y_zald hx hb hK hH hc_pvi i rfl (by omega) (by decide) dX2_visit_52 ?_
            refine lv_if_ne (tgt := 122) hx hb dX2_visit_53 (by decide) (fun c53 => ?_) (fun c53 => ?_)
            · have hm : i ∈ pre := Decidable.byContradiction fun z => c53 (by rw [hS1.2.2.2.2.1 i, if_neg z])
              refine lv_iinc (v := nI (i + 1)) (lv' := [(5, .int (nI (i + 1))), (0, .ref a), (1, .int (nI d)), (2, .int (nI cur)), (3, .int (nI stp)), (4, .int (nI ov))]) hx hb dX2_visit_122 hl (k := 5) rfl (by exact nI_add _ 1) (by decide) rfl (fun ls hl => ?_)
              refine lv_goto (tgt := 37) hx hb dX2_visit_125 (by decide) ?_
              exact ih37 (i + 1) wl E1 (by omega) (by omega) (hR1) (hKp) (by rw [vfd_y hm]; exact hS1) (h90) _ _ hH ls (lv_sub hl [1, 2, 3, 4, 5, 0] rfl)
            · have hm : i ∉ pre := fun z => by rw [hS1.2.2.2.2.1 i, if_pos z] at c53; exact absurd c53 (by decide)
              refine lv_iload_n hx hb dX2_visit_56 rfl (lv_at hl 3 rfl) ?_
              refine lv_iload_n hx hb dX2_visit_57 rfl (lv_at hl 2 rfl) ?_
              refine lv_aload_n hx hb dX2_visit_58 rfl (lv_at hl 0 rfl) ?_
              refine x_get (C := RX2) (T := TX2) (N := 12) hx hb hts hiX2 hown hK hH hc_a rfl 2 (by decide) hf19 (fun _ h => h) (v := .ref pls) rfl dX2_visit_59 ?_
              refine lv_iload hx hb dX2_visit_62 (lv_at hl 5 rfl) ?_
              refine Y_iald hx hb hK hH hc_pls i rfl (by omega) (by decide) dX2_visit_64 ?_
              refine lv_topi (fun v65 ev65 => ?_)
              have hv65 : v65 = nI (pl i) := by rw [ev65]; exact hS1.2.1 i (by omega)
              subst hv65
              refine x_calli (va_runS (As := [.int (nI cur), .int (nI (pl i))]) (rest := [.int (nI stp)]) ⟨hx, hb, hml, hown, hts⟩ (c_X2_stepsBetween l G A _ (nI cur) (nI (pl i))) (va_cwS 2 hts gX2_visit_X2_stepsBetween rfl rfl rfl (by decide +kernel) ⟨Nat.le_of_ble_eq_true rfl, Nat.le_of_ble_eq_true rfl⟩) (x_preS hK hH hTt [.int (nI cur), .int (nI (pl i))]) rfl rfl hl.1 rfl (lv_room (Nat.le_of_ble_eq_true rfl)) dX2_visit_65 ⟨Nat.le_of_ble_eq_true rfl, Nat.le_of_ble_eq_true rfl⟩) hH (fun r65 u H locs hp hH => ?_)
              have hpd : r65 = nI (pdist cur (pl i)) := hp.trans (stp_nat hb1.1 (hpl i (by omega)))
              subst hpd
              have hpdb : pdist cur (pl i) ≤ 198 := pdist_b hb1.1 (hpl i (by omega))
              refine N_iadd hx hb stp (pdist cur (pl i)) rfl rfl dX2_visit_68 ?_
              refine lv_istore (lv' := [(6, .int (nI (stp + (pdist cur (pl i))))), (0, .ref a), (1, .int (nI d)), (2, .int (nI cur)), (3, .int (nI stp)), (4, .int (nI ov)), (5, .int (nI i))]) hx hb dX2_visit_69 hl (by decide) rfl (fun ls hl => ?_)
              refine lv_aload_n hx hb dX2_visit_71 rfl (lv_at hl 1 rfl) ?_
              refine x_get (C := RX2) (T := TX2) (N := 12) hx hb hts hiX2 hown hK hH hc_a rfl 6 (by decide) hf33 (fun _ h => h) (v := .ref pvi) rfl dX2_visit_72 ?_
              refine lv_iload hx hb dX2_visit_75 (lv_at hl 6 rfl) ?_
              refine lv_iconst (v := 1) hx hb dX2_visit_77 (by decide) ?_
              refine Y_zast hx hb hK hH hc_pvi i rfl (by omega) (by decide) (by decide) dX2_visit_78 (fun H locs hH => ?_)
              have hH : xH G A s.heap H locs (va_up wl pvi (some (.inl (G.2 1, 6, .inl (upd (E1 9 4 0) i 1))))) := hH
              obtain ⟨w78, ew78⟩ : ∃ z, z = va_up wl pvi (some (.inl (G.2 1, 6, .inl (upd (E1 9 4 0) i 1)))) := ⟨_, rfl⟩
              rw [← ew78] at hH
              have hf78 : ∀ y, y ≠ ad 9 4 0 → w78 y = wl y := fun y hy => by rw [ew78, hpvi]; exact upW_ne _ _ hy
              have hR78 := rep_row (i := 4) (f := upd (E1 9 4 0) i 1) hR1 h60 (by decide) (by rw [ew78, hpvi]; exact upW_at _ _ _) hf78
              have ne_pv : ∀ z, z ≠ ad 9 4 0 → w78 z = wl z := hf78
              have hc_a : w78 a = some (.inr (3, [.int (nI n), .ref (ad 9 0 0), .ref pls, .ref spc, .ref por, .ref pbs, .ref pvi, .ref (ad 13 60 0), .ref (ad 7 1 0), .int (E1 8 0 0 1), .int (E1 8 0 0 2), .int (E1 8 0 0 3)])) := (hf78 a (by rw [ha]; exact hR1.ne (k := 8) (i := 0) (j := 0) (k' := 9) (i' := 4) (j' := 0) ⟨rfl, rfl⟩ ⟨by decide, rfl⟩ (by decide))).trans hc_a
              have hc_por : w78 por = some (.inl (G.2 0, 6, .inl (E1 9 2 0))) := by rw [hpor]; exact hR78.1 9 2 0 ⟨by decide, rfl⟩
              refine lv_aload_n hx hb dX2_visit_79 rfl (lv_at hl 1 rfl) ?_
              refine x_get (C := RX2) (T := TX2) (N := 12) hx hb hts hiX2 hown hK hH hc_a rfl 4 (by decide) hf27 (fun _ h => h) (v := .ref por) rfl dX2_visit_80 ?_
              refine lv_iload_n hx hb dX2_visit_83 rfl (lv_at hl 2 rfl) ?_
              refine lv_iload hx hb dX2_visit_84 (lv_at hl 6 rfl) ?_
              refine Y_iast hx hb hK hH hc_por d rfl (by omega) (by decide) dX2_visit_86 (fun H locs hH => ?_)
              have hH : xH G A s.heap H locs (va_up w78 por (some (.inl (G.2 0, 6, .inl (upd (E1 9 2 0) d (nI i)))))) := hH
              obtain ⟨w86, ew86⟩ : ∃ z, z = va_up w78 por (some (.inl (G.2 0, 6, .inl (upd (E1 9 2 0) d (nI i))))) := ⟨_, rfl⟩
              rw [← ew86] at hH
              have hf86 : ∀ y, y ≠ ad 9 2 0 → w86 y = w78 y := fun y hy => by rw [ew86, hpor]; exact upW_ne _ _ hy
              have hR2 := rep_row (i := 2) (f := upd (E1 9 2 0) d (nI i)) hR78 h60 (by decide) (by rw [ew86, hpor]; exact upW_at _ _ _) hf86
              obtain ⟨E2, hE2⟩ : ∃ z, z = upK (upK E1 9 4 (upd (E1 9 4 0) i 1)) 9 2 (upd (E1 9 2 0) d (nI i)) := ⟨_, rfl⟩
              rw [← hE2] at hR2
              have hS2 : PlS E2 n pl sv p0 (pre ++ [i]) (vfd (vev pl sv p0) n 0 pre b i) := by rw [hE2, ← hd]; exact hS1.push (by omega)
              have h902 : E2 9 0 0 = E 9 0 0 := by rw [hE2, upK_i _ _ _ (by decide), upK_i _ _ _ (by decide)]; exact h90
              have hK2 : Kp w w86 ad L := hKp.trans (fun y hy => (hf86 y (hy 9 2 0 ⟨by decide, rfl⟩)).trans (hf78 y (hy 9 4 0 ⟨by decide, rfl⟩)))
              have hc_a : w86 a = some (.inr (3, [.int (nI n), .ref (ad 9 0 0), .ref pls, .ref spc, .ref por, .ref pbs, .ref pvi, .ref (ad 13 60 0), .ref (ad 7 1 0), .int (E2 8 0 0 1), .int (E2 8 0 0 2), .int (E2 8 0 0 3)])) := by rw [ha, hpls, hspc, hpor, hpbs, hpvi, ← hS2.1]; exact hR2.1 8 0 0 ⟨rfl, rfl⟩
              have hc_pls : w86 pls = some (.inl (G.2 0, 6, .inl (E2 9 1 0))) := by rw [hpls]; exact hR2.1 9 1 0 ⟨by decide, rfl⟩
              have hc_spc : w86 spc = some (.inl (G.2 5, 6, .inr (.inr (.inr (.inr (six ad 11)))))) := by rw [hspc]; exact hR2.1 10 0 0 ⟨rfl, rfl⟩
              refine lv_aload_n hx hb dX2_visit_87 rfl (lv_at hl 1 rfl) ?_
              refine lv_iload_n hx hb dX2_visit_88 rfl (lv_at hl 2 rfl) ?_
              refine lv_iconst (v := 1) hx hb dX2_visit_89 (by decide) ?_
              refine N_iadd hx hb d 1 rfl rfl dX2_visit_90 ?_
              refine lv_aload_n hx hb dX2_visit_91 rfl (lv_at hl 1 rfl) ?_
              refine x_get (C := RX2) (T := TX2) (N := 12) hx hb hts hiX2 hown hK hH hc_a rfl 2 (by decide) hf19 (fun _ h => h) (v := .ref pls) rfl dX2_visit_92 ?_
              refine lv_iload hx hb dX2_visit_95 (lv_at hl 6 rfl) ?_
              refine Y_iald hx hb hK hH hc_pls i rfl (by omega) (by decide) dX2_visit_97 ?_
              refine lv_topi (fun v98 ev98 => ?_)
              have hv98 : v98 = nI (pl i) := by rw [ev98]; exact hS2.2.1 i (by omega)
              subst hv98
              refine lv_iload hx hb dX2_visit_98 (lv_at hl 0 rfl) ?_
              refine lv_iload hx hb dX2_visit_100 (lv_at hl 5 rfl) ?_
              refine lv_aload_n hx hb dX2_visit_102 rfl (lv_at hl 1 rfl) ?_
              refine lv_iload hx hb dX2_visit_103 (lv_at hl 6 rfl) ?_
              refine lv_iload hx hb dX2_visit_105 (lv_at hl 0 rfl) ?_
              refine x_calli (va_runV (As := [.int (nI i), .int (nI (stp + (pdist cur (pl i))))]) (rest := [.int (nI ov), .int (nI (stp + (pdist cur (pl i)))), .int (nI (pl i)), .int (nI (d + 1)), .ref a]) ⟨hx, hb, hml, hown, hts⟩ (c_X2_spilledBy l G A _ a spc (ad 11 i 0) _ _ _ _ _ _ _ _ _ _ _ (six ad 11) _ hc_a hc_spc (hR2.1 11 i 0 ⟨by omega, rfl⟩) i (stp + pdist cur (pl i)) (by omega) (by omega) (if_pos (by omega))) (cwV 2 hts gX2_visit_X2_spilledBy rfl rfl rfl (by decide +kernel) ⟨Nat.le_of_ble_eq_true rfl, Nat.le_of_ble_eq_true rfl⟩) (x_preV hK hH hTt (hc_a) rfl [.int (nI i), .int (nI (stp + (pdist cur (pl i))))]) rfl rfl hl.1 rfl (lv_room (Nat.le_of_ble_eq_true rfl)) dX2_visit_107 ⟨Nat.le_of_ble_eq_true rfl, Nat.le_of_ble_eq_true rfl⟩) hH (fun r107 u H locs hp hH => ?_)
              obtain ⟨hrq, hu9⟩ := hp
              rw [hu9] at hH
              have hsq : r107 = nI (sv i (if 19 < (stp + pdist cur (pl i)) / 60 then 19 else (stp + pdist cur (pl i)) / 60)) := hrq.trans (hS2.2.2.1 i (by omega) _ (by split <;> omega))
              subst hsq
              refine N_iadd hx hb ov (sv i (if 19 < (stp + pdist cur (pl i)) / 60 then 19 else (stp + pdist cur (pl i)) / 60)) rfl rfl dX2_visit_110 ?_
              refine x_callv (va_runS (As := [.ref a, .int (nI (d + 1)), .int (nI (pl i)), .int (nI (stp + (pdist cur (pl i)))), .int (nI (ov + (sv i (if 19 < (stp + pdist cur (pl i)) / 60 then 19 else (stp + pdist cur (pl i)) / 60))))]) (rest := []) ⟨hx, hb, hml, hown, hts⟩ (c0_X2_visit l G A _ a ad E2 cp L wd bw lb I F n (by rw [hpls, hspc, hpor, hpbs, hpvi] at hc_a; exact hc_a) hR2 h60 ha (d + 1) (pl i) (stp + pdist cur (pl i)) (ov + sv i (if 19 < (stp + pdist cur (pl i)) / 60 then 19 else (stp + pdist cur (pl i)) / 60)) p0 pl sv (pre ++ [i]) (vfd (vev pl sv p0) n 0 pre b i) hn hpl hsv hp0 hS2 (by rw [List.length_append, hd]; rfl) (by omega) (by rw [vev_s, hev]; rfl)) (va_cwS 5 hts gX2_visit_X2_visit rfl rfl rfl (by decide +kernel) ⟨Nat.le_of_ble_eq_true rfl, Nat.le_of_ble_eq_true rfl⟩) (x_preS hK hH hTt [.ref a, .int (nI (d + 1)), .int (nI (pl i)), .int (nI (stp + (pdist cur (pl i)))), .int (nI (ov + (sv i (if 19 < (stp + pdist cur (pl i)) / 60 then 19 else (stp + pdist cur (pl i)) / 60))))]) rfl rfl hl.1 rfl (lv_room (Nat.le_of_ble_eq_true rfl)) dX2_visit_111 ⟨Nat.le_of_ble_eq_true rfl, Nat.le_of_ble_eq_true rfl⟩) hH (fun w111 H locs hp hH => ?_)
              obtain ⟨E3, hR3, hS3, h903, hK3⟩ := hp
              have hc_a : w111 a = some (.inr (3, [.int (nI n), .ref (ad 9 0 0), .ref pls, .ref spc, .ref por, .ref pbs, .ref pvi, .ref (ad 13 60 0), .ref (ad 7 1 0), .int (E3 8 0 0 1), .int (E3 8 0 0 2), .int (E3 8 0 0 3)])) := by rw [ha, hpls, hspc, hpor, hpbs, hpvi, ← hS3.1]; exact hR3.1 8 0 0 ⟨rfl, rfl⟩
              have hc_pvi : w111 pvi = some (.inl (G.2 1, 6, .inl (E3 9 4 0))) := by rw [hpvi]; exact hR3.1 9 4 0 ⟨by decide, rfl⟩
              refine lv_aload_n hx hb dX2_visit_114 rfl (lv_at hl 1 rfl) ?_
              refine x_get (C := RX2) (T := TX2) (N := 12) hx hb hts hiX2 hown hK hH hc_a rfl 6 (by decide) hf33 (fun _ h => h) (v := .ref pvi) rfl dX2_visit_115 ?_
              refine lv_iload hx hb dX2_visit_118 (lv_at hl 6 rfl) ?_
              refine lv_iconst (v := 0) hx hb dX2_visit_120 (by decide) ?_
              refine Y_zast hx hb hK hH hc_pvi i rfl (by omega) (by decide) (by decide) dX2_visit_121 (fun H locs hH => ?_)
              have hH : xH G A s.heap H locs (va_up w111 pvi (some (.inl (G.2 1, 6, .inl (upd (E3 9 4 0) i 0))))) := hH
              obtain ⟨w121, ew121⟩ : ∃ z, z = va_up w111 pvi (some (.inl (G.2 1, 6, .inl (upd (E3 9 4 0) i 0)))) := ⟨_, rfl⟩
              rw [← ew121] at hH
              have hf121 : ∀ y, y ≠ ad 9 4 0 → w121 y = w111 y := fun y hy => by rw [ew121, hpvi]; exact upW_ne _ _ hy
              have hR4 := rep_row (i := 4) (f := upd (E3 9 4 0) i 0) hR3 h60 (by decide) (by rw [ew121, hpvi]; exact upW_at _ _ _) hf121
              have hS4 := hS3.pop hm
              have h904 : upK E3 9 4 (upd (E3 9 4 0) i 0) 9 0 0 = E 9 0 0 := by rw [upK_i _ _ _ (by decide)]; exact h903.trans h902
              have hK4 : Kp w w121 ad L := (hK2.trans hK3).trans (fun y hy => hf121 y (hy 9 4 0 ⟨by decide, rfl⟩))
              refine lv_iinc (v := nI (i + 1)) (lv' := [(5, .int (nI (i + 1))), (6, .int (nI (stp + (pdist cur (pl i))))), (0, .ref a), (1, .int (nI d)), (2, .int (nI cur)), (3, .int (nI stp)), (4, .int (nI ov))]) hx hb dX2_visit_122 hl (k := 6) rfl (by exact nI_add _ 1) (by decide) rfl (fun ls hl => ?_)
              refine lv_goto (tgt := 37) hx hb dX2_visit_125 (by decide) ?_
              exact ih37 (i + 1) w121 (upK E3 9 4 (upd (E3 9 4 0) i 0)) (by omega) (by omega) (hR4) (hK4) (by rw [vfd_n hm]; exact hS4) (h904) _ _ hH ls (lv_sub hl [2, 3, 4, 5, 6, 0] rfl)
      · have c23 : ¬ d < n := fun zz => c23 ((nI_ltI (a := d) (b := n) (by omega) (by omega)).mpr zz)
        exact absurd hk (by omega)
    · have hcut : ¬ vlt (vev pl sv p0 pre) (vev pl sv p0 q) := fun z => by rw [hev] at z; rw [hrb, if_pos z] at c14; exact absurd c14 (by decide)
      exact x_vret w hx hb hr hlocks hK hH (⟨E, hR, (by rw [hbq, vis_cut hcut, ← hbq]; exact hS), rfl, fun _ _ => rfl⟩) dX2_visit_17

set_option maxHeartbeats 4000000 in
set_option maxRecDepth 100000 in
theorem c2_X2_visit (l : Launch) (G : XG) (A : Nat → Prop) (w : XW) (a : Nat) (ad : YA) (E : YE) (cp L wd bw : Nat → Nat) (lb : Nat → Option Nat) (I : Nat → Int32) (F : Nat → Nat → Int32) (n : Nat) (hc_a : w a = some (.inr (3, [.int (nI n), .ref (ad 9 0 0), .ref (ad 9 1 0), .ref (ad 10 0 0), .ref (ad 9 2 0), .ref (ad 9 3 0), .ref (ad 9 4 0), .ref (ad 13 60 0), .ref (ad 7 1 0), .int (E 8 0 0 1), .int (E 8 0 0 2), .int (E 8 0 0 3)]))) (hR : Rep G w ad E cp L wd bw lb I F) (h60 : L 0 ≤ 60) (ha : a = ad 8 0 0) (d cur stp ov p0 : Nat) (pl : Nat → Nat) (sv : Nat → Nat → Nat) (pre : List Nat) (b : Option (List Nat)) (hn : n ≤ 6) (hpl : ∀ j, j < n → pl j ≤ 9999) (hsv : ∀ k, k < n → ∀ q, q < 20 → sv k q ≤ 4000) (hp0 : p0 ≤ 9999) (hS : PlS E n pl sv p0 pre b) (hd : pre.length = d) (hk : d + 2 = n) (hev : vev pl sv p0 pre = (cur, stp, ov)) : Met l yX2_visit wsX2_visit ({ frames := 3, cells := 0, slots := 0, locals := 75 }) (va_Pc [.ref a, .int (nI d), .int (nI cur), .int (nI stp), .int (nI ov)] (xP G A (w))) (va_Qv (fun (u : XW) => VsP G w u ad E cp L wd bw lb I F n pl sv p0 pre ((lvs n 2 pre).foldl (vkp (vev pl sv p0)) b)) (fun u t => xB G A (u) t) A) 0 0 A := by
  refine Met.ofW (cc := cX2_visit) (maxL := 7) (ret := none) (by decide) rfl ?_
  intro p e s m args below meth c s₁ B hml hv
  obtain ⟨rfl, hK, hH, hTt⟩ := hv
  have hx := B.exec
  have hb := B.bytes
  have hr := B.returns
  have hts := atoms_spec (ws := wsX2_visit) B.pre
  have hown : s.vm.findClass RX2 = some m.cls := findClass_of_methodNamed B.named
  have hlocks := B.notSynchronized
  have hiX2 : ∀ w ∈ wsX20, w ∈ wsX2_visit := by decide +kernel
  have hf9 := hts (.fieldLink RX2 9 "ResinWoods$Planner" "size" "I") (by decide +kernel)
  have hf19 := hts (.fieldLink RX2 19 "ResinWoods$Planner" "places" "[I") (by decide +kernel)
  have hf27 := hts (.fieldLink RX2 27 "ResinWoods$Planner" "order" "[I") (by decide +kernel)
  have hf33 := hts (.fieldLink RX2 33 "ResinWoods$Planner" "isVisited" "[Z") (by decide +kernel)
  have hf51 := hts (.fieldLink RX2 51 "ResinWoods$Planner" "hasBest" "Z") (by decide +kernel)
  have hl := lv_entry ([.ref a, .int (nI d), .int (nI cur), .int (nI stp), .int (nI ov)]) (n := 7) (Nat.le_of_ble_eq_true rfl)
  rw [lg_entry_eq]
  generalize (lg_sl ([.ref a, .int (nI d), .int (nI cur), .int (nI stp), .int (nI ov)]) ++ List.replicate (7 - (lg_sl ([.ref a, .int (nI d), .int (nI cur), .int (nI stp), .int (nI ov)])).length) Slot.unset).toArray = ls at hl ⊢
  have hl : lv_has ls 7 [(0, .ref a), (1, .int (nI d)), (2, .int (nI cur)), (3, .int (nI stp)), (4, .int (nI ov))] := hl
  obtain ⟨pls, hpls⟩ : ∃ z, z = ad 9 1 0 := ⟨_, rfl⟩
  obtain ⟨spc, hspc⟩ : ∃ z, z = ad 10 0 0 := ⟨_, rfl⟩
  obtain ⟨por, hpor⟩ : ∃ z, z = ad 9 2 0 := ⟨_, rfl⟩
  obtain ⟨pbs, hpbs⟩ : ∃ z, z = ad 9 3 0 := ⟨_, rfl⟩
  obtain ⟨pvi, hpvi⟩ : ∃ z, z = ad 9 4 0 := ⟨_, rfl⟩
  rw [← hpls, ← hspc, ← hpor, ← hpbs, ← hpvi] at hc_a
  have hb1 : cur ≤ 9999 ∧ stp ≤ 198 * d ∧ ov ≤ 4000 * d := by have h9 := vev_b hpl hsv hp0 hS.2.2.2.2.2.1; rw [hev, hd] at h9; exact h9
  have hc_por : w por = some (.inl (G.2 0, 6, .inl (E 9 2 0))) := by rw [hpor]; exact hR.1 9 2 0 ⟨by decide, rfl⟩
  have hc_pbs : w pbs = some (.inl (G.2 0, 6, .inl (E 9 3 0))) := by rw [hpbs]; exact hR.1 9 3 0 ⟨by decide, rfl⟩
  refine lv_aload_n hx hb dX2_visit_0 rfl (lv_at hl 0 rfl) ?_
  refine x_get (C := RX2) (T := TX2) (N := 12) hx hb hts hiX2 hown hK hH hc_a rfl 9 (by decide) hf51 (fun _ h => h) (v := .int (E 8 0 0 1)) rfl dX2_visit_1 ?_
  refine lv_if_eq (tgt := 18) hx hb dX2_visit_4 (by decide) (fun c4 => ?_) (fun c4 => ?_)
  · have hkeep : vkp (vev pl sv p0) b pre = some pre := by rw [PlS_none hS c4]; rfl
    refine lv_iload_n hx hb dX2_visit_18 rfl (lv_at hl 1 rfl) ?_
    refine lv_aload_n hx hb dX2_visit_19 rfl (lv_at hl 0 rfl) ?_
    refine x_get (C := RX2) (T := TX2) (N := 12) hx hb hts hiX2 hown hK hH hc_a rfl 0 (by decide) hf9 (fun _ h => h) (v := .int (nI n)) rfl dX2_visit_20 ?_
    refine lv_icmp_lt (tgt := 34) hx hb dX2_visit_23 (by decide) (fun c23 => ?_) (fun c23 => ?_)
    · have c23 : d < n := (nI_ltI (a := d) (b := n) (by omega) (by omega)).mp c23
      refine lv_iconst (v := 0) hx hb dX2_visit_34 (by decide) ?_
      refine lv_istore (lv' := [(5, .int 0), (0, .ref a), (1, .int (nI d)), (2, .int (nI cur)), (3, .int (nI stp)), (4, .int (nI ov))]) hx hb dX2_visit_35 hl (by decide) rfl (fun ls hl => ?_)
      suffices loop37 : ∀ (k37 : Nat) (i : Nat) (wl : XW) (E1 : YE), (n < i + k37) → (i ≤ n) → (Rep G wl ad E1 cp L wd bw lb I F) → (Kp w wl ad L) → (PlS E1 n pl sv p0 pre (vfd (vev pl sv p0) n 1 pre b i)) → (E1 9 0 0 = E 9 0 0) → ∀ (H : Heap) (locs : List Loc), xH G A s.heap H locs (wl) → ∀ (ls : Array Slot), lv_has ls 7 [(0, .ref a), (1, .int (nI d)), (2, .int (nI cur)), (3, .int (nI stp)), (4, .int (nI ov)), (5, .int (nI i))] → W p l e (headSpec wsX2_visit _).room s m _ below meth c H locs 0 0 (MQ below _ _ s 0 0 A) (F0 m 37 ls []) from
        loop37 (n + 1) 0 w E (by omega) (by omega) (hR) (fun _ _ => rfl) (hS) (rfl) _ _ hH ls (lv_sub hl [1, 2, 3, 4, 5, 0] rfl)
      intro k37
      induction k37 with
      | zero =>
        intro i wl E1 hfuel hi9 hR1 hKp hS1 h90 H locs hH ls hl
        exact absurd hfuel (by omega)
      | succ k37 ih37 =>
        intro i wl E1 hfuel hi9 hR1 hKp hS1 h90 H locs hH ls hl
        have hc_a : wl a = some (.inr (3, [.int (nI n), .ref (ad 9 0 0), .ref pls, .ref spc, .ref por, .ref pbs, .ref pvi, .ref (ad 13 60 0), .ref (ad 7 1 0), .int (E1 8 0 0 1), .int (E1 8 0 0 2), .int (E1 8 0 0 3)])) := by rw [ha, hpls, hspc, hpor, hpbs, hpvi, ← hS1.1]; exact hR1.1 8 0 0 ⟨rfl, rfl⟩
        have hc_pls : wl pls = some (.inl (G.2 0, 6, .inl (E1 9 1 0))) := by rw [hpls]; exact hR1.1 9 1 0 ⟨by decide, rfl⟩
        have hc_por : wl por = some (.inl (G.2 0, 6, .inl (E1 9 2 0))) := by rw [hpor]; exact hR1.1 9 2 0 ⟨by decide, rfl⟩
        have hc_pvi : wl pvi = some (.inl (G.2 1, 6, .inl (E1 9 4 0))) := by rw [hpvi]; exact hR1.1 9 4 0 ⟨by decide, rfl⟩
        refine lv_iload hx hb dX2_visit_37 (lv_at hl 5 rfl) ?_
        refine lv_aload_n hx hb dX2_visit_39 rfl (lv_at hl 0 rfl) ?_
        refine x_get (C := RX2) (T := TX2) (N := 12) hx hb hts hiX2 hown hK hH hc_a rfl 0 (by decide) hf9 (fun _ h => h) (v := .int (nI n)) rfl dX2_visit_40 ?_
        refine lv_icmp_ge (tgt := 128) hx hb dX2_visit_43 (by decide) (fun c43 => ?_) (fun c43 => ?_)
        · have c43 : n ≤ i := (nI_leI (a := n) (b := i) (by omega) (by omega)).mp c43
          exact x_vret wl hx hb hr hlocks hK hH (⟨E1, hR1, (by have h9 : (lvs n 2 pre).foldl (vkp (vev pl sv p0)) b = vfd (vev pl sv p0) n 1 pre b n := vfd_all _ n 1 pre b; rw [h9]; rw [show i = n by omega] at hS1; exact hS1), h90, hKp⟩) dX2_visit_128
        · have c43 : ¬ n ≤ i := fun zz => c43 ((nI_leI (a := n) (b := i) (by omega) (by omega)).mpr zz)
          refine lv_aload_n hx hb dX2_visit_46 rfl (lv_at hl 0 rfl) ?_
          refine x_get (C := RX2) (T := TX2) (N := 12) hx hb hts hiX2 hown hK hH hc_a rfl 6 (by decide) hf33 (fun _ h => h) (v := .ref pvi) rfl dX2_visit_47 ?_
          refine lv_iload hx hb dX2_visit_50 (lv_at hl 5 rfl) ?_
          refine Y_zald hx hb hK hH hc_pvi i rfl (by omega) (by decide) dX2_visit_52 ?_
          refine lv_if_ne (tgt := 122) hx hb dX2_visit_53 (by decide) (fun c53 => ?_) (fun c53 => ?_)
          · have hm : i ∈ pre := Decidable.byContradiction fun z => c53 (by rw [hS1.2.2.2.2.1 i, if_neg z])
            refine lv_iinc (v := nI (i + 1)) (lv' := [(5, .int (nI (i + 1))), (0, .ref a), (1, .int (nI d)), (2, .int (nI cur)), (3, .int (nI stp)), (4, .int (nI ov))]) hx hb dX2_visit_122 hl (k := 5) rfl (by exact nI_add _ 1) (by decide) rfl (fun ls hl => ?_)
            refine lv_goto (tgt := 37) hx hb dX2_visit_125 (by decide) ?_
            exact ih37 (i + 1) wl E1 (by omega) (by omega) (hR1) (hKp) (by rw [vfd_y hm]; exact hS1) (h90) _ _ hH ls (lv_sub hl [1, 2, 3, 4, 5, 0] rfl)
          · have hm : i ∉ pre := fun z => by rw [hS1.2.2.2.2.1 i, if_pos z] at c53; exact absurd c53 (by decide)
            refine lv_iload_n hx hb dX2_visit_56 rfl (lv_at hl 3 rfl) ?_
            refine lv_iload_n hx hb dX2_visit_57 rfl (lv_at hl 2 rfl) ?_
            refine lv_aload_n hx hb dX2_visit_58 rfl (lv_at hl 0 rfl) ?_
            refine x_get (C := RX2) (T := TX2) (N := 12) hx hb hts hiX2 hown hK hH hc_a rfl 2 (by decide) hf19 (fun _ h => h) (v := .ref pls) rfl dX2_visit_59 ?_
            refine lv_iload hx hb dX2_visit_62 (lv_at hl 5 rfl) ?_
            refine Y_iald hx hb hK hH hc_pls i rfl (by omega) (by decide) dX2_visit_64 ?_
            refine lv_topi (fun v65 ev65 => ?_)
            have hv65 : v65 = nI (pl i) := by rw [ev65]; exact hS1.2.1 i (by omega)
            subst hv65
            refine x_calli (va_runS (As := [.int (nI cur), .int (nI (pl i))]) (rest := [.int (nI stp)]) ⟨hx, hb, hml, hown, hts⟩ (c_X2_stepsBetween l G A _ (nI cur) (nI (pl i))) (va_cwS 2 hts gX2_visit_X2_stepsBetween rfl rfl rfl (by decide +kernel) ⟨Nat.le_of_ble_eq_true rfl, Nat.le_of_ble_eq_true rfl⟩) (x_preS hK hH hTt [.int (nI cur), .int (nI (pl i))]) rfl rfl hl.1 rfl (lv_room (Nat.le_of_ble_eq_true rfl)) dX2_visit_65 ⟨Nat.le_of_ble_eq_true rfl, Nat.le_of_ble_eq_true rfl⟩) hH (fun r65 u H locs hp hH => ?_)
            have hpd : r65 = nI (pdist cur (pl i)) := hp.trans (stp_nat hb1.1 (hpl i (by omega)))
            subst hpd
            have hpdb : pdist cur (pl i) ≤ 198 := pdist_b hb1.1 (hpl i (by omega))
            refine N_iadd hx hb stp (pdist cur (pl i)) rfl rfl dX2_visit_68 ?_
            refine lv_istore (lv' := [(6, .int (nI (stp + (pdist cur (pl i))))), (0, .ref a), (1, .int (nI d)), (2, .int (nI cur)), (3, .int (nI stp)), (4, .int (nI ov)), (5, .int (nI i))]) hx hb dX2_visit_69 hl (by decide) rfl (fun ls hl => ?_)
            refine lv_aload_n hx hb dX2_visit_71 rfl (lv_at hl 1 rfl) ?_
            refine x_get (C := RX2) (T := TX2) (N := 12) hx hb hts hiX2 hown hK hH hc_a rfl 6 (by decide) hf33 (fun _ h => h) (v := .ref pvi) rfl dX2_visit_72 ?_
            refine lv_iload hx hb dX2_visit_75 (lv_at hl 6 rfl) ?_
            refine lv_iconst (v := 1) hx hb dX2_visit_77 (by decide) ?_
            refine Y_zast hx hb hK hH hc_pvi i rfl (by omega) (by decide) (by decide) dX2_visit_78 (fun H locs hH => ?_)
            have hH : xH G A s.heap H locs (va_up wl pvi (some (.inl (G.2 1, 6, .inl (upd (E1 9 4 0) i 1))))) := hH
            obtain ⟨w78, ew78⟩ : ∃ z, z = va_up wl pvi (some (.inl (G.2 1, 6, .inl (upd (E1 9 4 0) i 1)))) := ⟨_, rfl⟩
            rw [← ew78] at hH
            have hf78 : ∀ y, y ≠ ad 9 4 0 → w78 y = wl y := fun y hy => by rw [ew78, hpvi]; exact upW_ne _ _ hy
            have hR78 := rep_row (i := 4) (f := upd (E1 9 4 0) i 1) hR1 h60 (by decide) (by rw [ew78, hpvi]; exact upW_at _ _ _) hf78
            have ne_pv : ∀ z, z ≠ ad 9 4 0 → w78 z = wl z := hf78
            have hc_a : w78 a = some (.inr (3, [.int (nI n), .ref (ad 9 0 0), .ref pls, .ref spc, .ref por, .ref pbs, .ref pvi, .ref (ad 13 60 0), .ref (ad 7 1 0), .int (E1 8 0 0 1), .int (E1 8 0 0 2), .int (E1 8 0 0 3)])) := (hf78 a (by rw [ha]; exact hR1.ne (k := 8) (i := 0) (j := 0) (k' := 9) (i' := 4) (j' := 0) ⟨rfl, rfl⟩ ⟨by decide, rfl⟩ (by decide))).trans hc_a
            have hc_por : w78 por = some (.inl (G.2 0, 6, .inl (E1 9 2 0))) := by rw [hpor]; exact hR78.1 9 2 0 ⟨by decide, rfl⟩
            refine lv_aload_n hx hb dX2_visit_79 rfl (lv_at hl 1 rfl) ?_
            refine x_get (C := RX2) (T := TX2) (N := 12) hx hb hts hiX2 hown hK hH hc_a rfl 4 (by decide) hf27 (fun _ h => h) (v := .ref por) rfl dX2_visit_80 ?_
            refine lv_iload_n hx hb dX2_visit_83 rfl (lv_at hl 2 rfl) ?_
            refine lv_iload hx hb dX2_visit_84 (lv_at hl 6 rfl) ?_
            refine Y_iast hx hb hK hH hc_por d rfl (by omega) (by decide) dX2_visit_86 (fun H locs hH => ?_)
            have hH : xH G A s.heap H locs (va_up w78 por (some (.inl (G.2 0, 6, .inl (upd (E1 9 2 0) d (nI i)))))) := hH
            obtain ⟨w86, ew86⟩ : ∃ z, z = va_up w78 por (some (.inl (G.2 0, 6, .inl (upd (E1 9 2 0) d (nI i))))) := ⟨_, rfl⟩
            rw [← ew86] at hH
            have hf86 : ∀ y, y ≠ ad 9 2 0 → w86 y = w78 y := fun y hy => by rw [ew86, hpor]; exact upW_ne _ _ hy
            have hR2 := rep_row (i := 2) (f := upd (E1 9 2 0) d (nI i)) hR78 h60 (by decide) (by rw [ew86, hpor]; exact upW_at _ _ _) hf86
            obtain ⟨E2, hE2⟩ : ∃ z, z = upK (upK E1 9 4 (upd (E1 9 4 0) i 1)) 9 2 (upd (E1 9 2 0) d (nI i)) := ⟨_, rfl⟩
            rw [← hE2] at hR2
            have hS2 : PlS E2 n pl sv p0 (pre ++ [i]) (vfd (vev pl sv p0) n 1 pre b i) := by rw [hE2, ← hd]; exact hS1.push (by omega)
            have h902 : E2 9 0 0 = E 9 0 0 := by rw [hE2, upK_i _ _ _ (by decide), upK_i _ _ _ (by decide)]; exact h90
            have hK2 : Kp w w86 ad L := hKp.trans (fun y hy => (hf86 y (hy 9 2 0 ⟨by decide, rfl⟩)).trans (hf78 y (hy 9 4 0 ⟨by decide, rfl⟩)))
            have hc_a : w86 a = some (.inr (3, [.int (nI n), .ref (ad 9 0 0), .ref pls, .ref spc, .ref por, .ref pbs, .ref pvi, .ref (ad 13 60 0), .ref (ad 7 1 0), .int (E2 8 0 0 1), .int (E2 8 0 0 2), .int (E2 8 0 0 3)])) := by rw [ha, hpls, hspc, hpor, hpbs, hpvi, ← hS2.1]; exact hR2.1 8 0 0 ⟨rfl, rfl⟩
            have hc_pls : w86 pls = some (.inl (G.2 0, 6, .inl (E2 9 1 0))) := by rw [hpls]; exact hR2.1 9 1 0 ⟨by decide, rfl⟩
            have hc_spc : w86 spc = some (.inl (G.2 5, 6, .inr (.inr (.inr (.inr (six ad 11)))))) := by rw [hspc]; exact hR2.1 10 0 0 ⟨rfl, rfl⟩
            refine lv_aload_n hx hb dX2_visit_87 rfl (lv_at hl 1 rfl) ?_
            refine lv_iload_n hx hb dX2_visit_88 rfl (lv_at hl 2 rfl) ?_
            refine lv_iconst (v := 1) hx hb dX2_visit_89 (by decide) ?_
            refine N_iadd hx hb d 1 rfl rfl dX2_visit_90 ?_
            refine lv_aload_n hx hb dX2_visit_91 rfl (lv_at hl 1 rfl) ?_
            refine x_get (C := RX2) (T := TX2) (N := 12) hx hb hts hiX2 hown hK hH hc_a rfl 2 (by decide) hf19 (fun _ h => h) (v := .ref pls) rfl dX2_visit_92 ?_
            refine lv_iload hx hb dX2_visit_95 (lv_at hl 6 rfl) ?_
            refine Y_iald hx hb hK hH hc_pls i rfl (by omega) (by decide) dX2_visit_97 ?_
            refine lv_topi (fun v98 ev98 => ?_)
            have hv98 : v98 = nI (pl i) := by rw [ev98]; exact hS2.2.1 i (by omega)
            subst hv98
            refine lv_iload hx hb dX2_visit_98 (lv_at hl 0 rfl) ?_
            refine lv_iload hx hb dX2_visit_100 (lv_at hl 5 rfl) ?_
            refine lv_aload_n hx hb dX2_visit_102 rfl (lv_at hl 1 rfl) ?_
            refine lv_iload hx hb dX2_visit_103 (lv_at hl 6 rfl) ?_
            refine lv_iload hx hb dX2_visit_105 (lv_at hl 0 rfl) ?_
            refine x_calli (va_runV (As := [.int (nI i), .int (nI (stp + (pdist cur (pl i))))]) (rest := [.int (nI ov), .int (nI (stp + (pdist cur (pl i)))), .int (nI (pl i)), .int (nI (d + 1)), .ref a]) ⟨hx, hb, hml, hown, hts⟩ (c_X2_spilledBy l G A _ a spc (ad 11 i 0) _ _ _ _ _ _ _ _ _ _ _ (six ad 11) _ hc_a hc_spc (hR2.1 11 i 0 ⟨by omega, rfl⟩) i (stp + pdist cur (pl i)) (by omega) (by omega) (if_pos (by omega))) (cwV 2 hts gX2_visit_X2_spilledBy rfl rfl rfl (by decide +kernel) ⟨Nat.le_of_ble_eq_true rfl, Nat.le_of_ble_eq_true rfl⟩) (x_preV hK hH hTt (hc_a) rfl [.int (nI i), .int (nI (stp + (pdist cur (pl i))))]) rfl rfl hl.1 rfl (lv_room (Nat.le_of_ble_eq_true rfl)) dX2_visit_107 ⟨Nat.le_of_ble_eq_true rfl, Nat.le_of_ble_eq_true rfl⟩) hH (fun r107 u H locs hp hH => ?_)
            obtain ⟨hrq, hu9⟩ := hp
            rw [hu9] at hH
            have hsq : r107 = nI (sv i (if 19 < (stp + pdist cur (pl i)) / 60 then 19 else (stp + pdist cur (pl i)) / 60)) := hrq.trans (hS2.2.2.1 i (by omega) _ (by split <;> omega))
            subst hsq
            refine N_iadd hx hb ov (sv i (if 19 < (stp + pdist cur (pl i)) / 60 then 19 else (stp + pdist cur (pl i)) / 60)) rfl rfl dX2_visit_110 ?_
            refine x_callv (va_runS (As := [.ref a, .int (nI (d + 1)), .int (nI (pl i)), .int (nI (stp + (pdist cur (pl i)))), .int (nI (ov + (sv i (if 19 < (stp + pdist cur (pl i)) / 60 then 19 else (stp + pdist cur (pl i)) / 60))))]) (rest := []) ⟨hx, hb, hml, hown, hts⟩ (c1_X2_visit l G A _ a ad E2 cp L wd bw lb I F n (by rw [hpls, hspc, hpor, hpbs, hpvi] at hc_a; exact hc_a) hR2 h60 ha (d + 1) (pl i) (stp + pdist cur (pl i)) (ov + sv i (if 19 < (stp + pdist cur (pl i)) / 60 then 19 else (stp + pdist cur (pl i)) / 60)) p0 pl sv (pre ++ [i]) (vfd (vev pl sv p0) n 1 pre b i) hn hpl hsv hp0 hS2 (by rw [List.length_append, hd]; rfl) (by omega) (by rw [vev_s, hev]; rfl)) (va_cwS 5 hts gX2_visit_X2_visit rfl rfl rfl (by decide +kernel) ⟨Nat.le_of_ble_eq_true rfl, Nat.le_of_ble_eq_true rfl⟩) (x_preS hK hH hTt [.ref a, .int (nI (d + 1)), .int (nI (pl i)), .int (nI (stp + (pdist cur (pl i)))), .int (nI (ov + (sv i (if 19 < (stp + pdist cur (pl i)) / 60 then 19 else (stp + pdist cur (pl i)) / 60))))]) rfl rfl hl.1 rfl (lv_room (Nat.le_of_ble_eq_true rfl)) dX2_visit_111 ⟨Nat.le_of_ble_eq_true rfl, Nat.le_of_ble_eq_true rfl⟩) hH (fun w111 H locs hp hH => ?_)
            obtain ⟨E3, hR3, hS3, h903, hK3⟩ := hp
            have hc_a : w111 a = some (.inr (3, [.int (nI n), .ref (ad 9 0 0), .ref pls, .ref spc, .ref por, .ref pbs, .ref pvi, .ref (ad 13 60 0), .ref (ad 7 1 0), .int (E3 8 0 0 1), .int (E3 8 0 0 2), .int (E3 8 0 0 3)])) := by rw [ha, hpls, hspc, hpor, hpbs, hpvi, ← hS3.1]; exact hR3.1 8 0 0 ⟨rfl, rfl⟩
            have hc_pvi : w111 pvi = some (.inl (G.2 1, 6, .inl (E3 9 4 0))) := by rw [hpvi]; exact hR3.1 9 4 0 ⟨by decide, rfl⟩
            refine lv_aload_n hx hb dX2_visit_114 rfl (lv_at hl 1 rfl) ?_
            refine x_get (C := RX2) (T := TX2) (N := 12) hx hb hts hiX2 hown hK hH hc_a rfl 6 (by decide) hf33 (fun _ h => h) (v := .ref pvi) rfl dX2_visit_115 ?_
            refine lv_iload hx hb dX2_visit_118 (lv_at hl 6 rfl) ?_
            refine lv_iconst (v := 0) hx hb dX2_visit_120 (by decide) ?_
            refine Y_zast hx hb hK hH hc_pvi i rfl (by omega) (by decide) (by decide) dX2_visit_121 (fun H locs hH => ?_)
            have hH : xH G A s.heap H locs (va_up w111 pvi (some (.inl (G.2 1, 6, .inl (upd (E3 9 4 0) i 0))))) := hH
            obtain ⟨w121, ew121⟩ : ∃ z, z = va_up w111 pvi (some (.inl (G.2 1, 6, .inl (upd (E3 9 4 0) i 0)))) := ⟨_, rfl⟩
            rw [← ew121] at hH
            have hf121 : ∀ y, y ≠ ad 9 4 0 → w121 y = w111 y := fun y hy => by rw [ew121, hpvi]; exact upW_ne _ _ hy
            have hR4 := rep_row (i := 4) (f := upd (E3 9 4 0) i 0) hR3 h60 (by decide) (by rw [ew121, hpvi]; exact upW_at _ _ _) hf121
            have hS4 := hS3.pop hm
            have h904 : upK E3 9 4 (upd (E3 9 4 0) i 0) 9 0 0 = E 9 0 0 := by rw [upK_i _ _ _ (by decide)]; exact h903.trans h902
            have hK4 : Kp w w121 ad L := (hK2.trans hK3).trans (fun y hy => hf121 y (hy 9 4 0 ⟨by decide, rfl⟩))
            refine lv_iinc (v := nI (i + 1)) (lv' := [(5, .int (nI (i + 1))), (6, .int (nI (stp + (pdist cur (pl i))))), (0, .ref a), (1, .int (nI d)), (2, .int (nI cur)), (3, .int (nI stp)), (4, .int (nI ov))]) hx hb dX2_visit_122 hl (k := 6) rfl (by exact nI_add _ 1) (by decide) rfl (fun ls hl => ?_)
            refine lv_goto (tgt := 37) hx hb dX2_visit_125 (by decide) ?_
            exact ih37 (i + 1) w121 (upK E3 9 4 (upd (E3 9 4 0) i 0)) (by omega) (by omega) (hR4) (hK4) (by rw [vfd_n hm]; exact hS4) (h904) _ _ hH ls (lv_sub hl [2, 3, 4, 5, 6, 0] rfl)
    · have c23 : ¬ d < n := fun zz => c23 ((nI_ltI (a := d) (b := n) (by omega) (by omega)).mpr zz)
      exact absurd hk (by omega)
  · obtain ⟨q, hbq⟩ := PlS_some hS c4
    have hbs : bsE E n (vev pl sv p0) (some q) := by have h9 := hS.2.2.2.2.2.2; rw [hbq] at h9; exact h9
    have hqb := vev_b hpl hsv hp0 hbs.2.2.2.1
    rw [hbs.2.2.2.2.1] at hqb
    refine lv_aload_n hx hb dX2_visit_7 rfl (lv_at hl 0 rfl) ?_
    refine lv_iload hx hb dX2_visit_8 (lv_at hl 4 rfl) ?_
    refine lv_iload_n hx hb dX2_visit_10 rfl (lv_at hl 3 rfl) ?_
    refine x_calli (va_runV (As := [.int (nI ov), .int (nI stp)]) (rest := []) ⟨hx, hb, hml, hown, hts⟩ (c_X2_beatsBest l G A _ a _ _ _ _ _ _ _ _ _ _ _ _ hc_a (nI ov) (nI stp)) (cwV 2 hts gX2_visit_X2_beatsBest rfl rfl rfl (by decide +kernel) ⟨Nat.le_of_ble_eq_true rfl, Nat.le_of_ble_eq_true rfl⟩) (x_preV hK hH hTt (hc_a) rfl [.int (nI ov), .int (nI stp)]) rfl rfl hl.1 rfl (lv_room (Nat.le_of_ble_eq_true rfl)) dX2_visit_11 ⟨Nat.le_of_ble_eq_true rfl, Nat.le_of_ble_eq_true rfl⟩) hH (fun r11 u H locs hp hH => ?_)
    obtain ⟨hrq, hu9⟩ := hp
    rw [hu9] at hH
    have hrb := hrq.trans (bts hbs (ov := ov) (st := stp) (by omega) (by omega) (by omega) (by omega))
    refine lv_if_ne (tgt := 18) hx hb dX2_visit_14 (by decide) (fun c14 => ?_) (fun c14 => ?_)
    · have hlt : vlt (vev pl sv p0 pre) (vev pl sv p0 q) := by
        rw [hev]
        by_cases z : ov < (vev pl sv p0 q).2.2 ∨ (ov = (vev pl sv p0 q).2.2 ∧ stp < (vev pl sv p0 q).2.1)
        · exact z
        · exact absurd (by rw [hrb, if_neg z]) c14
      have hkeep : vkp (vev pl sv p0) b pre = some pre := by rw [hbq]; exact if_pos hlt
      refine lv_iload_n hx hb dX2_visit_18 rfl (lv_at hl 1 rfl) ?_
      refine lv_aload_n hx hb dX2_visit_19 rfl (lv_at hl 0 rfl) ?_
      refine x_get (C := RX2) (T := TX2) (N := 12) hx hb hts hiX2 hown hK hH hc_a rfl 0 (by decide) hf9 (fun _ h => h) (v := .int (nI n)) rfl dX2_visit_20 ?_
      refine lv_icmp_lt (tgt := 34) hx hb dX2_visit_23 (by decide) (fun c23 => ?_) (fun c23 => ?_)
      · have c23 : d < n := (nI_ltI (a := d) (b := n) (by omega) (by omega)).mp c23
        refine lv_iconst (v := 0) hx hb dX2_visit_34 (by decide) ?_
        refine lv_istore (lv' := [(5, .int 0), (0, .ref a), (1, .int (nI d)), (2, .int (nI cur)), (3, .int (nI stp)), (4, .int (nI ov))]) hx hb dX2_visit_35 hl (by decide) rfl (fun ls hl => ?_)
        suffices loop37 : ∀ (k37 : Nat) (i : Nat) (wl : XW) (E1 : YE), (n < i + k37) → (i ≤ n) → (Rep G wl ad E1 cp L wd bw lb I F) → (Kp w wl ad L) → (PlS E1 n pl sv p0 pre (vfd (vev pl sv p0) n 1 pre b i)) → (E1 9 0 0 = E 9 0 0) → ∀ (H : Heap) (locs : List Loc), xH G A s.heap H locs (wl) → ∀ (ls : Array Slot), lv_has ls 7 [(0, .ref a), (1, .int (nI d)), (2, .int (nI cur)), (3, .int (nI stp)), (4, .int (nI ov)), (5, .int (nI i))] → W p l e (headSpec wsX2_visit _).room s m _ below meth c H locs 0 0 (MQ below _ _ s 0 0 A) (F0 m 37 ls []) from
          loop37 (n + 1) 0 w E (by omega) (by omega) (hR) (fun _ _ => rfl) (hS) (rfl) _ _ hH ls (lv_sub hl [1, 2, 3, 4, 5, 0] rfl)
        intro k37
        induction k37 with
        | zero =>
          intro i wl E1 hfuel hi9 hR1 hKp hS1 h90 H locs hH ls hl
          exact absurd hfuel (by omega)
        | succ k37 ih37 =>
          intro i wl E1 hfuel hi9 hR1 hKp hS1 h90 H locs hH ls hl
          have hc_a : wl a = some (.inr (3, [.int (nI n), .ref (ad 9 0 0), .ref pls, .ref spc, .ref por, .ref pbs, .ref pvi, .ref (ad 13 60 0), .ref (ad 7 1 0), .int (E1 8 0 0 1), .int (E1 8 0 0 2), .int (E1 8 0 0 3)])) := by rw [ha, hpls, hspc, hpor, hpbs, hpvi, ← hS1.1]; exact hR1.1 8 0 0 ⟨rfl, rfl⟩
          have hc_pls : wl pls = some (.inl (G.2 0, 6, .inl (E1 9 1 0))) := by rw [hpls]; exact hR1.1 9 1 0 ⟨by decide, rfl⟩
          have hc_por : wl por = some (.inl (G.2 0, 6, .inl (E1 9 2 0))) := by rw [hpor]; exact hR1.1 9 2 0 ⟨by decide, rfl⟩
          have hc_pvi : wl pvi = some (.inl (G.2 1, 6, .inl (E1 9 4 0))) := by rw [hpvi]; exact hR1.1 9 4 0 ⟨by decide, rfl⟩
          refine lv_iload hx hb dX2_visit_37 (lv_at hl 5 rfl) ?_
          refine lv_aload_n hx hb dX2_visit_39 rfl (lv_at hl 0 rfl) ?_
          refine x_get (C := RX2) (T := TX2) (N := 12) hx hb hts hiX2 hown hK hH hc_a rfl 0 (by decide) hf9 (fun _ h => h) (v := .int (nI n)) rfl dX2_visit_40 ?_
          refine lv_icmp_ge (tgt := 128) hx hb dX2_visit_43 (by decide) (fun c43 => ?_) (fun c43 => ?_)
          · have c43 : n ≤ i := (nI_leI (a := n) (b := i) (by omega) (by omega)).mp c43
            exact x_vret wl hx hb hr hlocks hK hH (⟨E1, hR1, (by have h9 : (lvs n 2 pre).foldl (vkp (vev pl sv p0)) b = vfd (vev pl sv p0) n 1 pre b n := vfd_all _ n 1 pre b; rw [h9]; rw [show i = n by omega] at hS1; exact hS1), h90, hKp⟩) dX2_visit_128
          · have c43 : ¬ n ≤ i := fun zz => c43 ((nI_leI (a := n) (b := i) (by omega) (by omega)).mpr zz)
            refine lv_aload_n hx hb dX2_visit_46 rfl (lv_at hl 0 rfl) ?_
            refine x_get (C := RX2) (T := TX2) (N := 12) hx hb hts hiX2 hown hK hH hc_a rfl 6 (by decide) hf33 (fun _ h => h) (v := .ref pvi) rfl dX2_visit_47 ?_
            refine lv_iload hx hb dX2_visit_50 (lv_at hl 5 rfl) ?_
            refine Y_zald hx hb hK hH hc_pvi i rfl (by omega) (by decide) dX2_visit_52 ?_
            refine lv_if_ne (tgt := 122) hx hb dX2_visit_53 (by decide) (fun c53 => ?_) (fun c53 => ?_)
            · have hm : i ∈ pre := Decidable.byContradiction fun z => c53 (by rw [hS1.2.2.2.2.1 i, if_neg z])
              refine lv_iinc (v := nI (i + 1)) (lv' := [(5, .int (nI (i + 1))), (0, .ref a), (1, .int (nI d)), (2, .int (nI cur)), (3, .int (nI stp)), (4, .int (nI ov))]) hx hb dX2_visit_122 hl (k := 5) rfl (by exact nI_add _ 1) (by decide) rfl (fun ls hl => ?_)
              refine lv_goto (tgt := 37) hx hb dX2_visit_125 (by decide) ?_
              exact ih37 (i + 1) wl E1 (by omega) (by omega) (hR1) (hKp) (by rw [vfd_y hm]; exact hS1) (h90) _ _ hH ls (lv_sub hl [1, 2, 3, 4, 5, 0] rfl)
            · have hm : i ∉ pre := fun z => by rw [hS1.2.2.2.2.1 i, if_pos z] at c53; exact absurd c53 (by decide)
              refine lv_iload_n hx hb dX2_visit_56 rfl (lv_at hl 3 rfl) ?_
              refine lv_iload_n hx hb dX2_visit_57 rfl (lv_at hl 2 rfl) ?_
              refine lv_aload_n hx hb dX2_visit_58 rfl (lv_at hl 0 rfl) ?_
              refine x_get (C := RX2) (T := TX2) (N := 12) hx hb hts hiX2 hown hK hH hc_a rfl 2 (by decide) hf19 (fun _ h => h) (v := .ref pls) rfl dX2_visit_59 ?_
              refine lv_iload hx hb dX2_visit_62 (lv_at hl 5 rfl) ?_
              refine Y_iald hx hb hK hH hc_pls i rfl (by omega) (by decide) dX2_visit_64 ?_
              refine lv_topi (fun v65 ev65 => ?_)
              have hv65 : v65 = nI (pl i) := by rw [ev65]; exact hS1.2.1 i (by omega)
              subst hv65
              refine x_calli (va_runS (As := [.int (nI cur), .int (nI (pl i))]) (rest := [.int (nI stp)]) ⟨hx, hb, hml, hown, hts⟩ (c_X2_stepsBetween l G A _ (nI cur) (nI (pl i))) (va_cwS 2 hts gX2_visit_X2_stepsBetween rfl rfl rfl (by decide +kernel) ⟨Nat.le_of_ble_eq_true rfl, Nat.le_of_ble_eq_true rfl⟩) (x_preS hK hH hTt [.int (nI cur), .int (nI (pl i))]) rfl rfl hl.1 rfl (lv_room (Nat.le_of_ble_eq_true rfl)) dX2_visit_65 ⟨Nat.le_of_ble_eq_true rfl, Nat.le_of_ble_eq_true rfl⟩) hH (fun r65 u H locs hp hH => ?_)
              have hpd : r65 = nI (pdist cur (pl i)) := hp.trans (stp_nat hb1.1 (hpl i (by omega)))
              subst hpd
              have hpdb : pdist cur (pl i) ≤ 198 := pdist_b hb1.1 (hpl i (by omega))
              refine N_iadd hx hb stp (pdist cur (pl i)) rfl rfl dX2_visit_68 ?_
              refine lv_istore (lv' := [(6, .int (nI (stp + (pdist cur (pl i))))), (0, .ref a), (1, .int (nI d)), (2, .int (nI cur)), (3, .int (nI stp)), (4, .int (nI ov)), (5, .int (nI i))]) hx hb dX2_visit_69 hl (by decide) rfl (fun ls hl => ?_)
              refine lv_aload_n hx hb dX2_visit_71 rfl (lv_at hl 1 rfl) ?_
              refine x_get (C := RX2) (T := TX2) (N := 12) hx hb hts hiX2 hown hK hH hc_a rfl 6 (by decide) hf33 (fun _ h => h) (v := .ref pvi) rfl dX2_visit_72 ?_
              refine lv_iload hx hb dX2_visit_75 (lv_at hl 6 rfl) ?_
              refine lv_iconst (v := 1) hx hb dX2_visit_77 (by decide) ?_
              refine Y_zast hx hb hK hH hc_pvi i rfl (by omega) (by decide) (by decide) dX2_visit_78 (fun H locs hH => ?_)
              have hH : xH G A s.heap H locs (va_up wl pvi (some (.inl (G.2 1, 6, .inl (upd (E1 9 4 0) i 1))))) := hH
              obtain ⟨w78, ew78⟩ : ∃ z, z = va_up wl pvi (some (.inl (G.2 1, 6, .inl (upd (E1 9 4 0) i 1)))) := ⟨_, rfl⟩
              rw [← ew78] at hH
              have hf78 : ∀ y, y ≠ ad 9 4 0 → w78 y = wl y := fun y hy => by rw [ew78, hpvi]; exact upW_ne _ _ hy
              have hR78 := rep_row (i := 4) (f := upd (E1 9 4 0) i 1) hR1 h60 (by decide) (by rw [ew78, hpvi]; exact upW_at _ _ _) hf78
              have ne_pv : ∀ z, z ≠ ad 9 4 0 → w78 z = wl z := hf78
              have hc_a : w78 a = some (.inr (3, [.int (nI n), .ref (ad 9 0 0), .ref pls, .ref spc, .ref por, .ref pbs, .ref pvi, .ref (ad 13 60 0), .ref (ad 7 1 0), .int (E1 8 0 0 1), .int (E1 8 0 0 2), .int (E1 8 0 0 3)])) := (hf78 a (by rw [ha]; exact hR1.ne (k := 8) (i := 0) (j := 0) (k' := 9) (i' := 4) (j' := 0) ⟨rfl, rfl⟩ ⟨by decide, rfl⟩ (by decide))).trans hc_a
              have hc_por : w78 por = some (.inl (G.2 0, 6, .inl (E1 9 2 0))) := by rw [hpor]; exact hR78.1 9 2 0 ⟨by decide, rfl⟩
              refine lv_aload_n hx hb dX2_visit_79 rfl (lv_at hl 1 rfl) ?_
              refine x_get (C := RX2) (T := TX2) (N := 12) hx hb hts hiX2 hown hK hH hc_a rfl 4 (by decide) hf27 (fun _ h => h) (v := .ref por) rfl dX2_visit_80 ?_
              refine lv_iload_n hx hb dX2_visit_83 rfl (lv_at hl 2 rfl) ?_
              refine lv_iload hx hb dX2_visit_84 (lv_at hl 6 rfl) ?_
              refine Y_iast hx hb hK hH hc_por d rfl (by omega) (by decide) dX2_visit_86 (fun H locs hH => ?_)
              have hH : xH G A s.heap H locs (va_up w78 por (some (.inl (G.2 0, 6, .inl (upd (E1 9 2 0) d (nI i)))))) := hH
              obtain ⟨w86, ew86⟩ : ∃ z, z = va_up w78 por (some (.inl (G.2 0, 6, .inl (upd (E1 9 2 0) d (nI i))))) := ⟨_, rfl⟩
              rw [← ew86] at hH
              have hf86 : ∀ y, y ≠ ad 9 2 0 → w86 y = w78 y := fun y hy => by rw [ew86, hpor]; exact upW_ne _ _ hy
              have hR2 := rep_row (i := 2) (f := upd (E1 9 2 0) d (nI i)) hR78 h60 (by decide) (by rw [ew86, hpor]; exact upW_at _ _ _) hf86
              obtain ⟨E2, hE2⟩ : ∃ z, z = upK (upK E1 9 4 (upd (E1 9 4 0) i 1)) 9 2 (upd (E1 9 2 0) d (nI i)) := ⟨_, rfl⟩
              rw [← hE2] at hR2
              have hS2 : PlS E2 n pl sv p0 (pre ++ [i]) (vfd (vev pl sv p0) n 1 pre b i) := by rw [hE2, ← hd]; exact hS1.push (by omega)
              have h902 : E2 9 0 0 = E 9 0 0 := by rw [hE2, upK_i _ _ _ (by decide), upK_i _ _ _ (by decide)]; exact h90
              have hK2 : Kp w w86 ad L := hKp.trans (fun y hy => (hf86 y (hy 9 2 0 ⟨by decide, rfl⟩)).trans (hf78 y (hy 9 4 0 ⟨by decide, rfl⟩)))
              have hc_a : w86 a = some (.inr (3, [.int (nI n), .ref (ad 9 0 0), .ref pls, .ref spc, .ref por, .ref pbs, .ref pvi, .ref (ad 13 60 0), .ref (ad 7 1 0), .int (E2 8 0 0 1), .int (E2 8 0 0 2), .int (E2 8 0 0 3)])) := by rw [ha, hpls, hspc, hpor, hpbs, hpvi, ← hS2.1]; exact hR2.1 8 0 0 ⟨rfl, rfl⟩
              have hc_pls : w86 pls = some (.inl (G.2 0, 6, .inl (E2 9 1 0))) := by rw [hpls]; exact hR2.1 9 1 0 ⟨by decide, rfl⟩
              have hc_spc : w86 spc = some (.inl (G.2 5, 6, .inr (.inr (.inr (.inr (six ad 11)))))) := by rw [hspc]; exact hR2.1 10 0 0 ⟨rfl, rfl⟩
              refine lv_aload_n hx hb dX2_visit_87 rfl (lv_at hl 1 rfl) ?_
              refine lv_iload_n hx hb dX2_visit_88 rfl (lv_at hl 2 rfl) ?_
              refine lv_iconst (v := 1) hx hb dX2_visit_89 (by decide) ?_
              refine N_iadd hx hb d 1 rfl rfl dX2_visit_90 ?_
              refine lv_aload_n hx hb dX2_visit_91 rfl (lv_at hl 1 rfl) ?_
              refine x_get (C := RX2) (T := TX2) (N := 12) hx hb hts hiX2 hown hK hH hc_a rfl 2 (by decide) hf19 (fun _ h => h) (v := .ref pls) rfl dX2_visit_92 ?_
              refine lv_iload hx hb dX2_visit_95 (lv_at hl 6 rfl) ?_
              refine Y_iald hx hb hK hH hc_pls i rfl (by omega) (by decide) dX2_visit_97 ?_
              refine lv_topi (fun v98 ev98 => ?_)
              have hv98 : v98 = nI (pl i) := by rw [ev98]; exact hS2.2.1 i (by omega)
              subst hv98
              refine lv_iload hx hb dX2_visit_98 (lv_at hl 0 rfl) ?_
              refine lv_iload hx hb dX2_visit_100 (lv_at hl 5 rfl) ?_
              refine lv_aload_n hx hb dX2_visit_102 rfl (lv_at hl 1 rfl) ?_
              refine lv_iload hx hb dX2_visit_103 (lv_at hl 6 rfl) ?_
              refine lv_iload hx hb dX2_visit_105 (lv_at hl 0 rfl) ?_
              refine x_calli (va_runV (As := [.int (nI i), .int (nI (stp + (pdist cur (pl i))))]) (rest := [.int (nI ov), .int (nI (stp + (pdist cur (pl i)))), .int (nI (pl i)), .int (nI (d + 1)), .ref a]) ⟨hx, hb, hml, hown, hts⟩ (c_X2_spilledBy l G A _ a spc (ad 11 i 0) _ _ _ _ _ _ _ _ _ _ _ (six ad 11) _ hc_a hc_spc (hR2.1 11 i 0 ⟨by omega, rfl⟩) i (stp + pdist cur (pl i)) (by omega) (by omega) (if_pos (by omega))) (cwV 2 hts gX2_visit_X2_spilledBy rfl rfl rfl (by decide +kernel) ⟨Nat.le_of_ble_eq_true rfl, Nat.le_of_ble_eq_true rfl⟩) (x_preV hK hH hTt (hc_a) rfl [.int (nI i), .int (nI (stp + (pdist cur (pl i))))]) rfl rfl hl.1 rfl (lv_room (Nat.le_of_ble_eq_true rfl)) dX2_visit_107 ⟨Nat.le_of_ble_eq_true rfl, Nat.le_of_ble_eq_true rfl⟩) hH (fun r107 u H locs hp hH => ?_)
              obtain ⟨hrq, hu9⟩ := hp
              rw [hu9] at hH
              have hsq : r107 = nI (sv i (if 19 < (stp + pdist cur (pl i)) / 60 then 19 else (stp + pdist cur (pl i)) / 60)) := hrq.trans (hS2.2.2.1 i (by omega) _ (by split <;> omega))
              subst hsq
              refine N_iadd hx hb ov (sv i (if 19 < (stp + pdist cur (pl i)) / 60 then 19 else (stp + pdist cur (pl i)) / 60)) rfl rfl dX2_visit_110 ?_
              refine x_callv (va_runS (As := [.ref a, .int (nI (d + 1)), .int (nI (pl i)), .int (nI (stp + (pdist cur (pl i)))), .int (nI (ov + (sv i (if 19 < (stp + pdist cur (pl i)) / 60 then 19 else (stp + pdist cur (pl i)) / 60))))]) (rest := []) ⟨hx, hb, hml, hown, hts⟩ (c1_X2_visit l G A _ a ad E2 cp L wd bw lb I F n (by rw [hpls, hspc, hpor, hpbs, hpvi] at hc_a; exact hc_a) hR2 h60 ha (d + 1) (pl i) (stp + pdist cur (pl i)) (ov + sv i (if 19 < (stp + pdist cur (pl i)) / 60 then 19 else (stp + pdist cur (pl i)) / 60)) p0 pl sv (pre ++ [i]) (vfd (vev pl sv p0) n 1 pre b i) hn hpl hsv hp0 hS2 (by rw [List.length_append, hd]; rfl) (by omega) (by rw [vev_s, hev]; rfl)) (va_cwS 5 hts gX2_visit_X2_visit rfl rfl rfl (by decide +kernel) ⟨Nat.le_of_ble_eq_true rfl, Nat.le_of_ble_eq_true rfl⟩) (x_preS hK hH hTt [.ref a, .int (nI (d + 1)), .int (nI (pl i)), .int (nI (stp + (pdist cur (pl i)))), .int (nI (ov + (sv i (if 19 < (stp + pdist cur (pl i)) / 60 then 19 else (stp + pdist cur (pl i)) / 60))))]) rfl rfl hl.1 rfl (lv_room (Nat.le_of_ble_eq_true rfl)) dX2_visit_111 ⟨Nat.le_of_ble_eq_true rfl, Nat.le_of_ble_eq_true rfl⟩) hH (fun w111 H locs hp hH => ?_)
              obtain ⟨E3, hR3, hS3, h903, hK3⟩ := hp
              have hc_a : w111 a = some (.inr (3, [.int (nI n), .ref (ad 9 0 0), .ref pls, .ref spc, .ref por, .ref pbs, .ref pvi, .ref (ad 13 60 0), .ref (ad 7 1 0), .int (E3 8 0 0 1), .int (E3 8 0 0 2), .int (E3 8 0 0 3)])) := by rw [ha, hpls, hspc, hpor, hpbs, hpvi, ← hS3.1]; exact hR3.1 8 0 0 ⟨rfl, rfl⟩
              have hc_pvi : w111 pvi = some (.inl (G.2 1, 6, .inl (E3 9 4 0))) := by rw [hpvi]; exact hR3.1 9 4 0 ⟨by decide, rfl⟩
              refine lv_aload_n hx hb dX2_visit_114 rfl (lv_at hl 1 rfl) ?_
              refine x_get (C := RX2) (T := TX2) (N := 12) hx hb hts hiX2 hown hK hH hc_a rfl 6 (by decide) hf33 (fun _ h => h) (v := .ref pvi) rfl dX2_visit_115 ?_
              refine lv_iload hx hb dX2_visit_118 (lv_at hl 6 rfl) ?_
              refine lv_iconst (v := 0) hx hb dX2_visit_120 (by decide) ?_
              refine Y_zast hx hb hK hH hc_pvi i rfl (by omega) (by decide) (by decide) dX2_visit_121 (fun H locs hH => ?_)
              have hH : xH G A s.heap H locs (va_up w111 pvi (some (.inl (G.2 1, 6, .inl (upd (E3 9 4 0) i 0))))) := hH
              obtain ⟨w121, ew121⟩ : ∃ z, z = va_up w111 pvi (some (.inl (G.2 1, 6, .inl (upd (E3 9 4 0) i 0)))) := ⟨_, rfl⟩
              rw [← ew121] at hH
              have hf121 : ∀ y, y ≠ ad 9 4 0 → w121 y = w111 y := fun y hy => by rw [ew121, hpvi]; exact upW_ne _ _ hy
              have hR4 := rep_row (i := 4) (f := upd (E3 9 4 0) i 0) hR3 h60 (by decide) (by rw [ew121, hpvi]; exact upW_at _ _ _) hf121
              have hS4 := hS3.pop hm
              have h904 : upK E3 9 4 (upd (E3 9 4 0) i 0) 9 0 0 = E 9 0 0 := by rw [upK_i _ _ _ (by decide)]; exact h903.trans h902
              have hK4 : Kp w w121 ad L := (hK2.trans hK3).trans (fun y hy => hf121 y (hy 9 4 0 ⟨by decide, rfl⟩))
              refine lv_iinc (v := nI (i + 1)) (lv' := [(5, .int (nI (i + 1))), (6, .int (nI (stp + (pdist cur (pl i))))), (0, .ref a), (1, .int (nI d)), (2, .int (nI cur)), (3, .int (nI stp)), (4, .int (nI ov))]) hx hb dX2_visit_122 hl (k := 6) rfl (by exact nI_add _ 1) (by decide) rfl (fun ls hl => ?_)
              refine lv_goto (tgt := 37) hx hb dX2_visit_125 (by decide) ?_
              exact ih37 (i + 1) w121 (upK E3 9 4 (upd (E3 9 4 0) i 0)) (by omega) (by omega) (hR4) (hK4) (by rw [vfd_n hm]; exact hS4) (h904) _ _ hH ls (lv_sub hl [2, 3, 4, 5, 6, 0] rfl)
      · have c23 : ¬ d < n := fun zz => c23 ((nI_ltI (a := d) (b := n) (by omega) (by omega)).mpr zz)
        exact absurd hk (by omega)
    · have hcut : ¬ vlt (vev pl sv p0 pre) (vev pl sv p0 q) := fun z => by rw [hev] at z; rw [hrb, if_pos z] at c14; exact absurd c14 (by decide)
      exact x_vret w hx hb hr hlocks hK hH (⟨E, hR, (by rw [hbq, vis_cut hcut, ← hbq]; exact hS), rfl, fun _ _ => rfl⟩) dX2_visit_17

set_option maxHeartbeats 4000000 in
set_option maxRecDepth 100000 in
theorem c3_X2_visit (l : Launch) (G : XG) (A : Nat → Prop) (w : XW) (a : Nat) (ad : YA) (E : YE) (cp L wd bw : Nat → Nat) (lb : Nat → Option Nat) (I : Nat → Int32) (F : Nat → Nat → Int32) (n : Nat) (hc_a : w a = some (.inr (3, [.int (nI n), .ref (ad 9 0 0), .ref (ad 9 1 0), .ref (ad 10 0 0), .ref (ad 9 2 0), .ref (ad 9 3 0), .ref (ad 9 4 0), .ref (ad 13 60 0), .ref (ad 7 1 0), .int (E 8 0 0 1), .int (E 8 0 0 2), .int (E 8 0 0 3)]))) (hR : Rep G w ad E cp L wd bw lb I F) (h60 : L 0 ≤ 60) (ha : a = ad 8 0 0) (d cur stp ov p0 : Nat) (pl : Nat → Nat) (sv : Nat → Nat → Nat) (pre : List Nat) (b : Option (List Nat)) (hn : n ≤ 6) (hpl : ∀ j, j < n → pl j ≤ 9999) (hsv : ∀ k, k < n → ∀ q, q < 20 → sv k q ≤ 4000) (hp0 : p0 ≤ 9999) (hS : PlS E n pl sv p0 pre b) (hd : pre.length = d) (hk : d + 3 = n) (hev : vev pl sv p0 pre = (cur, stp, ov)) : Met l yX2_visit wsX2_visit ({ frames := 4, cells := 0, slots := 0, locals := 101 }) (va_Pc [.ref a, .int (nI d), .int (nI cur), .int (nI stp), .int (nI ov)] (xP G A (w))) (va_Qv (fun (u : XW) => VsP G w u ad E cp L wd bw lb I F n pl sv p0 pre ((lvs n 3 pre).foldl (vkp (vev pl sv p0)) b)) (fun u t => xB G A (u) t) A) 0 0 A := by
  refine Met.ofW (cc := cX2_visit) (maxL := 7) (ret := none) (by decide) rfl ?_
  intro p e s m args below meth c s₁ B hml hv
  obtain ⟨rfl, hK, hH, hTt⟩ := hv
  have hx := B.exec
  have hb := B.bytes
  have hr := B.returns
  have hts := atoms_spec (ws := wsX2_visit) B.pre
  have hown : s.vm.findClass RX2 = some m.cls := findClass_of_methodNamed B.named
  have hlocks := B.notSynchronized
  have hiX2 : ∀ w ∈ wsX20, w ∈ wsX2_visit := by decide +kernel
  have hf9 := hts (.fieldLink RX2 9 "ResinWoods$Planner" "size" "I") (by decide +kernel)
  have hf19 := hts (.fieldLink RX2 19 "ResinWoods$Planner" "places" "[I") (by decide +kernel)
  have hf27 := hts (.fieldLink RX2 27 "ResinWoods$Planner" "order" "[I") (by decide +kernel)
  have hf33 := hts (.fieldLink RX2 33 "ResinWoods$Planner" "isVisited" "[Z") (by decide +kernel)
  have hf51 := hts (.fieldLink RX2 51 "ResinWoods$Planner" "hasBest" "Z") (by decide +kernel)
  have hl := lv_entry ([.ref a, .int (nI d), .int (nI cur), .int (nI stp), .int (nI ov)]) (n := 7) (Nat.le_of_ble_eq_true rfl)
  rw [lg_entry_eq]
  generalize (lg_sl ([.ref a, .int (nI d), .int (nI cur), .int (nI stp), .int (nI ov)]) ++ List.replicate (7 - (lg_sl ([.ref a, .int (nI d), .int (nI cur), .int (nI stp), .int (nI ov)])).length) Slot.unset).toArray = ls at hl ⊢
  have hl : lv_has ls 7 [(0, .ref a), (1, .int (nI d)), (2, .int (nI cur)), (3, .int (nI stp)), (4, .int (nI ov))] := hl
  obtain ⟨pls, hpls⟩ : ∃ z, z = ad 9 1 0 := ⟨_, rfl⟩
  obtain ⟨spc, hspc⟩ : ∃ z, z = ad 10 0 0 := ⟨_, rfl⟩
  obtain ⟨por, hpor⟩ : ∃ z, z = ad 9 2 0 := ⟨_, rfl⟩
  obtain ⟨pbs, hpbs⟩ : ∃ z, z = ad 9 3 0 := ⟨_, rfl⟩
  obtain ⟨pvi, hpvi⟩ : ∃ z, z = ad 9 4 0 := ⟨_, rfl⟩
  rw [← hpls, ← hspc, ← hpor, ← hpbs, ← hpvi] at hc_a
  have hb1 : cur ≤ 9999 ∧ stp ≤ 198 * d ∧ ov ≤ 4000 * d := by have h9 := vev_b hpl hsv hp0 hS.2.2.2.2.2.1; rw [hev, hd] at h9; exact h9
  have hc_por : w por = some (.inl (G.2 0, 6, .inl (E 9 2 0))) := by rw [hpor]; exact hR.1 9 2 0 ⟨by decide, rfl⟩
  have hc_pbs : w pbs = some (.inl (G.2 0, 6, .inl (E 9 3 0))) := by rw [hpbs]; exact hR.1 9 3 0 ⟨by decide, rfl⟩
  refine lv_aload_n hx hb dX2_visit_0 rfl (lv_at hl 0 rfl) ?_
  refine x_get (C := RX2) (T := TX2) (N := 12) hx hb hts hiX2 hown hK hH hc_a rfl 9 (by decide) hf51 (fun _ h => h) (v := .int (E 8 0 0 1)) rfl dX2_visit_1 ?_
  refine lv_if_eq (tgt := 18) hx hb dX2_visit_4 (by decide) (fun c4 => ?_) (fun c4 => ?_)
  · have hkeep : vkp (vev pl sv p0) b pre = some pre := by rw [PlS_none hS c4]; rfl
    refine lv_iload_n hx hb dX2_visit_18 rfl (lv_at hl 1 rfl) ?_
    refine lv_aload_n hx hb dX2_visit_19 rfl (lv_at hl 0 rfl) ?_
    refine x_get (C := RX2) (T := TX2) (N := 12) hx hb hts hiX2 hown hK hH hc_a rfl 0 (by decide) hf9 (fun _ h => h) (v := .int (nI n)) rfl dX2_visit_20 ?_
    refine lv_icmp_lt (tgt := 34) hx hb dX2_visit_23 (by decide) (fun c23 => ?_) (fun c23 => ?_)
    · have c23 : d < n := (nI_ltI (a := d) (b := n) (by omega) (by omega)).mp c23
      refine lv_iconst (v := 0) hx hb dX2_visit_34 (by decide) ?_
      refine lv_istore (lv' := [(5, .int 0), (0, .ref a), (1, .int (nI d)), (2, .int (nI cur)), (3, .int (nI stp)), (4, .int (nI ov))]) hx hb dX2_visit_35 hl (by decide) rfl (fun ls hl => ?_)
      suffices loop37 : ∀ (k37 : Nat) (i : Nat) (wl : XW) (E1 : YE), (n < i + k37) → (i ≤ n) → (Rep G wl ad E1 cp L wd bw lb I F) → (Kp w wl ad L) → (PlS E1 n pl sv p0 pre (vfd (vev pl sv p0) n 2 pre b i)) → (E1 9 0 0 = E 9 0 0) → ∀ (H : Heap) (locs : List Loc), xH G A s.heap H locs (wl) → ∀ (ls : Array Slot), lv_has ls 7 [(0, .ref a), (1, .int (nI d)), (2, .int (nI cur)), (3, .int (nI stp)), (4, .int (nI ov)), (5, .int (nI i))] → W p l e (headSpec wsX2_visit _).room s m _ below meth c H locs 0 0 (MQ below _ _ s 0 0 A) (F0 m 37 ls []) from
        loop37 (n + 1) 0 w E (by omega) (by omega) (hR) (fun _ _ => rfl) (hS) (rfl) _ _ hH ls (lv_sub hl [1, 2, 3, 4, 5, 0] rfl)
      intro k37
      induction k37 with
      | zero =>
        intro i wl E1 hfuel hi9 hR1 hKp hS1 h90 H locs hH ls hl
        exact absurd hfuel (by omega)
      | succ k37 ih37 =>
        intro i wl E1 hfuel hi9 hR1 hKp hS1 h90 H locs hH ls hl
        have hc_a : wl a = some (.inr (3, [.int (nI n), .ref (ad 9 0 0), .ref pls, .ref spc, .ref por, .ref pbs, .ref pvi, .ref (ad 13 60 0), .ref (ad 7 1 0), .int (E1 8 0 0 1), .int (E1 8 0 0 2), .int (E1 8 0 0 3)])) := by rw [ha, hpls, hspc, hpor, hpbs, hpvi, ← hS1.1]; exact hR1.1 8 0 0 ⟨rfl, rfl⟩
        have hc_pls : wl pls = some (.inl (G.2 0, 6, .inl (E1 9 1 0))) := by rw [hpls]; exact hR1.1 9 1 0 ⟨by decide, rfl⟩
        have hc_por : wl por = some (.inl (G.2 0, 6, .inl (E1 9 2 0))) := by rw [hpor]; exact hR1.1 9 2 0 ⟨by decide, rfl⟩
        have hc_pvi : wl pvi = some (.inl (G.2 1, 6, .inl (E1 9 4 0))) := by rw [hpvi]; exact hR1.1 9 4 0 ⟨by decide, rfl⟩
        refine lv_iload hx hb dX2_visit_37 (lv_at hl 5 rfl) ?_
        refine lv_aload_n hx hb dX2_visit_39 rfl (lv_at hl 0 rfl) ?_
        refine x_get (C := RX2) (T := TX2) (N := 12) hx hb hts hiX2 hown hK hH hc_a rfl 0 (by decide) hf9 (fun _ h => h) (v := .int (nI n)) rfl dX2_visit_40 ?_
        refine lv_icmp_ge (tgt := 128) hx hb dX2_visit_43 (by decide) (fun c43 => ?_) (fun c43 => ?_)
        · have c43 : n ≤ i := (nI_leI (a := n) (b := i) (by omega) (by omega)).mp c43
          exact x_vret wl hx hb hr hlocks hK hH (⟨E1, hR1, (by have h9 : (lvs n 3 pre).foldl (vkp (vev pl sv p0)) b = vfd (vev pl sv p0) n 2 pre b n := vfd_all _ n 2 pre b; rw [h9]; rw [show i = n by omega] at hS1; exact hS1), h90, hKp⟩) dX2_visit_128
        · have c43 : ¬ n ≤ i := fun zz => c43 ((nI_leI (a := n) (b := i) (by omega) (by omega)).mpr zz)
          refine lv_aload_n hx hb dX2_visit_46 rfl (lv_at hl 0 rfl) ?_
          refine x_get (C := RX2) (T := TX2) (N := 12) hx hb hts hiX2 hown hK hH hc_a rfl 6 (by decide) hf33 (fun _ h => h) (v := .ref pvi) rfl dX2_visit_47 ?_
          refine lv_iload hx hb dX2_visit_50 (lv_at hl 5 rfl) ?_
          refine Y_zald hx hb hK hH hc_pvi i rfl (by omega) (by decide) dX2_visit_52 ?_
          refine lv_if_ne (tgt := 122) hx hb dX2_visit_53 (by decide) (fun c53 => ?_) (fun c53 => ?_)
          · have hm : i ∈ pre := Decidable.byContradiction fun z => c53 (by rw [hS1.2.2.2.2.1 i, if_neg z])
            refine lv_iinc (v := nI (i + 1)) (lv' := [(5, .int (nI (i + 1))), (0, .ref a), (1, .int (nI d)), (2, .int (nI cur)), (3, .int (nI stp)), (4, .int (nI ov))]) hx hb dX2_visit_122 hl (k := 5) rfl (by exact nI_add _ 1) (by decide) rfl (fun ls hl => ?_)
            refine lv_goto (tgt := 37) hx hb dX2_visit_125 (by decide) ?_
            exact ih37 (i + 1) wl E1 (by omega) (by omega) (hR1) (hKp) (by rw [vfd_y hm]; exact hS1) (h90) _ _ hH ls (lv_sub hl [1, 2, 3, 4, 5, 0] rfl)
          · have hm : i ∉ pre := fun z => by rw [hS1.2.2.2.2.1 i, if_pos z] at c53; exact absurd c53 (by decide)
            refine lv_iload_n hx hb dX2_visit_56 rfl (lv_at hl 3 rfl) ?_
            refine lv_iload_n hx hb dX2_visit_57 rfl (lv_at hl 2 rfl) ?_
            refine lv_aload_n hx hb dX2_visit_58 rfl (lv_at hl 0 rfl) ?_
            refine x_get (C := RX2) (T := TX2) (N := 12) hx hb hts hiX2 hown hK hH hc_a rfl 2 (by decide) hf19 (fun _ h => h) (v := .ref pls) rfl dX2_visit_59 ?_
            refine lv_iload hx hb dX2_visit_62 (lv_at hl 5 rfl) ?_
            refine Y_iald hx hb hK hH hc_pls i rfl (by omega) (by decide) dX2_visit_64 ?_
            refine lv_topi (fun v65 ev65 => ?_)
            have hv65 : v65 = nI (pl i) := by rw [ev65]; exact hS1.2.1 i (by omega)
            subst hv65
            refine x_calli (va_runS (As := [.int (nI cur), .int (nI (pl i))]) (rest := [.int (nI stp)]) ⟨hx, hb, hml, hown, hts⟩ (c_X2_stepsBetween l G A _ (nI cur) (nI (pl i))) (va_cwS 2 hts gX2_visit_X2_stepsBetween rfl rfl rfl (by decide +kernel) ⟨Nat.le_of_ble_eq_true rfl, Nat.le_of_ble_eq_true rfl⟩) (x_preS hK hH hTt [.int (nI cur), .int (nI (pl i))]) rfl rfl hl.1 rfl (lv_room (Nat.le_of_ble_eq_true rfl)) dX2_visit_65 ⟨Nat.le_of_ble_eq_true rfl, Nat.le_of_ble_eq_true rfl⟩) hH (fun r65 u H locs hp hH => ?_)
            have hpd : r65 = nI (pdist cur (pl i)) := hp.trans (stp_nat hb1.1 (hpl i (by omega)))
            subst hpd
            have hpdb : pdist cur (pl i) ≤ 198 := pdist_b hb1.1 (hpl i (by omega))
            refine N_iadd hx hb stp (pdist cur (pl i)) rfl rfl dX2_visit_68 ?_
            refine lv_istore (lv' := [(6, .int (nI (stp + (pdist cur (pl i))))), (0, .ref a), (1, .int (nI d)), (2, .int (nI cur)), (3, .int (nI stp)), (4, .int (nI ov)), (5, .int (nI i))]) hx hb dX2_visit_69 hl (by decide) rfl (fun ls hl => ?_)
            refine lv_aload_n hx hb dX2_visit_71 rfl (lv_at hl 1 rfl) ?_
            refine x_get (C := RX2) (T := TX2) (N := 12) hx hb hts hiX2 hown hK hH hc_a rfl 6 (by decide) hf33 (fun _ h => h) (v := .ref pvi) rfl dX2_visit_72 ?_
            refine lv_iload hx hb dX2_visit_75 (lv_at hl 6 rfl) ?_
            refine lv_iconst (v := 1) hx hb dX2_visit_77 (by decide) ?_
            refine Y_zast hx hb hK hH hc_pvi i rfl (by omega) (by decide) (by decide) dX2_visit_78 (fun H locs hH => ?_)
            have hH : xH G A s.heap H locs (va_up wl pvi (some (.inl (G.2 1, 6, .inl (upd (E1 9 4 0) i 1))))) := hH
            obtain ⟨w78, ew78⟩ : ∃ z, z = va_up wl pvi (some (.inl (G.2 1, 6, .inl (upd (E1 9 4 0) i 1)))) := ⟨_, rfl⟩
            rw [← ew78] at hH
            have hf78 : ∀ y, y ≠ ad 9 4 0 → w78 y = wl y := fun y hy => by rw [ew78, hpvi]; exact upW_ne _ _ hy
            have hR78 := rep_row (i := 4) (f := upd (E1 9 4 0) i 1) hR1 h60 (by decide) (by rw [ew78, hpvi]; exact upW_at _ _ _) hf78
            have ne_pv : ∀ z, z ≠ ad 9 4 0 → w78 z = wl z := hf78
            have hc_a : w78 a = some (.inr (3, [.int (nI n), .ref (ad 9 0 0), .ref pls, .ref spc, .ref por, .ref pbs, .ref pvi, .ref (ad 13 60 0), .ref (ad 7 1 0), .int (E1 8 0 0 1), .int (E1 8 0 0 2), .int (E1 8 0 0 3)])) := (hf78 a (by rw [ha]; exact hR1.ne (k := 8) (i := 0) (j := 0) (k' := 9) (i' := 4) (j' := 0) ⟨rfl, rfl⟩ ⟨by decide, rfl⟩ (by decide))).trans hc_a
            have hc_por : w78 por = some (.inl (G.2 0, 6, .inl (E1 9 2 0))) := by rw [hpor]; exact hR78.1 9 2 0 ⟨by decide, rfl⟩
            refine lv_aload_n hx hb dX2_visit_79 rfl (lv_at hl 1 rfl) ?_
            refine x_get (C := RX2) (T := TX2) (N := 12) hx hb hts hiX2 hown hK hH hc_a rfl 4 (by decide) hf27 (fun _ h => h) (v := .ref por) rfl dX2_visit_80 ?_
            refine lv_iload_n hx hb dX2_visit_83 rfl (lv_at hl 2 rfl) ?_
            refine lv_iload hx hb dX2_visit_84 (lv_at hl 6 rfl) ?_
            refine Y_iast hx hb hK hH hc_por d rfl (by omega) (by decide) dX2_visit_86 (fun H locs hH => ?_)
            have hH : xH G A s.heap H locs (va_up w78 por (some (.inl (G.2 0, 6, .inl (upd (E1 9 2 0) d (nI i)))))) := hH
            obtain ⟨w86, ew86⟩ : ∃ z, z = va_up w78 por (some (.inl (G.2 0, 6, .inl (upd (E1 9 2 0) d (nI i))))) := ⟨_, rfl⟩
            rw [← ew86] at hH
            have hf86 : ∀ y, y ≠ ad 9 2 0 → w86 y = w78 y := fun y hy => by rw [ew86, hpor]; exact upW_ne _ _ hy
            have hR2 := rep_row (i := 2) (f := upd (E1 9 2 0) d (nI i)) hR78 h60 (by decide) (by rw [ew86, hpor]; exact upW_at _ _ _) hf86
            obtain ⟨E2, hE2⟩ : ∃ z, z = upK (upK E1 9 4 (upd (E1 9 4 0) i 1)) 9 2 (upd (E1 9 2 0) d (nI i)) := ⟨_, rfl⟩
            rw [← hE2] at hR2
            have hS2 : PlS E2 n pl sv p0 (pre ++ [i]) (vfd (vev pl sv p0) n 2 pre b i) := by rw [hE2, ← hd]; exact hS1.push (by omega)
            have h902 : E2 9 0 0 = E 9 0 0 := by rw [hE2, upK_i _ _ _ (by decide), upK_i _ _ _ (by decide)]; exact h90
            have hK2 : Kp w w86 ad L := hKp.trans (fun y hy => (hf86 y (hy 9 2 0 ⟨by decide, rfl⟩)).trans (hf78 y (hy 9 4 0 ⟨by decide, rfl⟩)))
            have hc_a : w86 a = some (.inr (3, [.int (nI n), .ref (ad 9 0 0), .ref pls, .ref spc, .ref por, .ref pbs, .ref pvi, .ref (ad 13 60 0), .ref (ad 7 1 0), .int (E2 8 0 0 1), .int (E2 8 0 0 2), .int (E2 8 0 0 3)])) := by rw [ha, hpls, hspc, hpor, hpbs, hpvi, ← hS2.1]; exact hR2.1 8 0 0 ⟨rfl, rfl⟩
            have hc_pls : w86 pls = some (.inl (G.2 0, 6, .inl (E2 9 1 0))) := by rw [hpls]; exact hR2.1 9 1 0 ⟨by decide, rfl⟩
            have hc_spc : w86 spc = some (.inl (G.2 5, 6, .inr (.inr (.inr (.inr (six ad 11)))))) := by rw [hspc]; exact hR2.1 10 0 0 ⟨rfl, rfl⟩
            refine lv_aload_n hx hb dX2_visit_87 rfl (lv_at hl 1 rfl) ?_
            refine lv_iload_n hx hb dX2_visit_88 rfl (lv_at hl 2 rfl) ?_
            refine lv_iconst (v := 1) hx hb dX2_visit_89 (by decide) ?_
            refine N_iadd hx hb d 1 rfl rfl dX2_visit_90 ?_
            refine lv_aload_n hx hb dX2_visit_91 rfl (lv_at hl 1 rfl) ?_
            refine x_get (C := RX2) (T := TX2) (N := 12) hx hb hts hiX2 hown hK hH hc_a rfl 2 (by decide) hf19 (fun _ h => h) (v := .ref pls) rfl dX2_visit_92 ?_
            refine lv_iload hx hb dX2_visit_95 (lv_at hl 6 rfl) ?_
            refine Y_iald hx hb hK hH hc_pls i rfl (by omega) (by decide) dX2_visit_97 ?_
            refine lv_topi (fun v98 ev98 => ?_)
            have hv98 : v98 = nI (pl i) := by rw [ev98]; exact hS2.2.1 i (by omega)
            subst hv98
            refine lv_iload hx hb dX2_visit_98 (lv_at hl 0 rfl) ?_
            refine lv_iload hx hb dX2_visit_100 (lv_at hl 5 rfl) ?_
            refine lv_aload_n hx hb dX2_visit_102 rfl (lv_at hl 1 rfl) ?_
            refine lv_iload hx hb dX2_visit_103 (lv_at hl 6 rfl) ?_
            refine lv_iload hx hb dX2_visit_105 (lv_at hl 0 rfl) ?_
            refine x_calli (va_runV (As := [.int (nI i), .int (nI (stp + (pdist cur (pl i))))]) (rest := [.int (nI ov), .int (nI (stp + (pdist cur (pl i)))), .int (nI (pl i)), .int (nI (d + 1)), .ref a]) ⟨hx, hb, hml, hown, hts⟩ (c_X2_spilledBy l G A _ a spc (ad 11 i 0) _ _ _ _ _ _ _ _ _ _ _ (six ad 11) _ hc_a hc_spc (hR2.1 11 i 0 ⟨by omega, rfl⟩) i (stp + pdist cur (pl i)) (by omega) (by omega) (if_pos (by omega))) (cwV 2 hts gX2_visit_X2_spilledBy rfl rfl rfl (by decide +kernel) ⟨Nat.le_of_ble_eq_true rfl, Nat.le_of_ble_eq_true rfl⟩) (x_preV hK hH hTt (hc_a) rfl [.int (nI i), .int (nI (stp + (pdist cur (pl i))))]) rfl rfl hl.1 rfl (lv_room (Nat.le_of_ble_eq_true rfl)) dX2_visit_107 ⟨Nat.le_of_ble_eq_true rfl, Nat.le_of_ble_eq_true rfl⟩) hH (fun r107 u H locs hp hH => ?_)
            obtain ⟨hrq, hu9⟩ := hp
            rw [hu9] at hH
            have hsq : r107 = nI (sv i (if 19 < (stp + pdist cur (pl i)) / 60 then 19 else (stp + pdist cur (pl i)) / 60)) := hrq.trans (hS2.2.2.1 i (by omega) _ (by split <;> omega))
            subst hsq
            refine N_iadd hx hb ov (sv i (if 19 < (stp + pdist cur (pl i)) / 60 then 19 else (stp + pdist cur (pl i)) / 60)) rfl rfl dX2_visit_110 ?_
            refine x_callv (va_runS (As := [.ref a, .int (nI (d + 1)), .int (nI (pl i)), .int (nI (stp + (pdist cur (pl i)))), .int (nI (ov + (sv i (if 19 < (stp + pdist cur (pl i)) / 60 then 19 else (stp + pdist cur (pl i)) / 60))))]) (rest := []) ⟨hx, hb, hml, hown, hts⟩ (c2_X2_visit l G A _ a ad E2 cp L wd bw lb I F n (by rw [hpls, hspc, hpor, hpbs, hpvi] at hc_a; exact hc_a) hR2 h60 ha (d + 1) (pl i) (stp + pdist cur (pl i)) (ov + sv i (if 19 < (stp + pdist cur (pl i)) / 60 then 19 else (stp + pdist cur (pl i)) / 60)) p0 pl sv (pre ++ [i]) (vfd (vev pl sv p0) n 2 pre b i) hn hpl hsv hp0 hS2 (by rw [List.length_append, hd]; rfl) (by omega) (by rw [vev_s, hev]; rfl)) (va_cwS 5 hts gX2_visit_X2_visit rfl rfl rfl (by decide +kernel) ⟨Nat.le_of_ble_eq_true rfl, Nat.le_of_ble_eq_true rfl⟩) (x_preS hK hH hTt [.ref a, .int (nI (d + 1)), .int (nI (pl i)), .int (nI (stp + (pdist cur (pl i)))), .int (nI (ov + (sv i (if 19 < (stp + pdist cur (pl i)) / 60 then 19 else (stp + pdist cur (pl i)) / 60))))]) rfl rfl hl.1 rfl (lv_room (Nat.le_of_ble_eq_true rfl)) dX2_visit_111 ⟨Nat.le_of_ble_eq_true rfl, Nat.le_of_ble_eq_true rfl⟩) hH (fun w111 H locs hp hH => ?_)
            obtain ⟨E3, hR3, hS3, h903, hK3⟩ := hp
            have hc_a : w111 a = some (.inr (3, [.int (nI n), .ref (ad 9 0 0), .ref pls, .ref spc, .ref por, .ref pbs, .ref pvi, .ref (ad 13 60 0), .ref (ad 7 1 0), .int (E3 8 0 0 1), .int (E3 8 0 0 2), .int (E3 8 0 0 3)])) := by rw [ha, hpls, hspc, hpor, hpbs, hpvi, ← hS3.1]; exact hR3.1 8 0 0 ⟨rfl, rfl⟩
            have hc_pvi : w111 pvi = some (.inl (G.2 1, 6, .inl (E3 9 4 0))) := by rw [hpvi]; exact hR3.1 9 4 0 ⟨by decide, rfl⟩
            refine lv_aload_n hx hb dX2_visit_114 rfl (lv_at hl 1 rfl) ?_
            refine x_get (C := RX2) (T := TX2) (N := 12) hx hb hts hiX2 hown hK hH hc_a rfl 6 (by decide) hf33 (fun _ h => h) (v := .ref pvi) rfl dX2_visit_115 ?_
            refine lv_iload hx hb dX2_visit_118 (lv_at hl 6 rfl) ?_
            refine lv_iconst (v := 0) hx hb dX2_visit_120 (by decide) ?_
            refine Y_zast hx hb hK hH hc_pvi i rfl (by omega) (by decide) (by decide) dX2_visit_121 (fun H locs hH => ?_)
            have hH : xH G A s.heap H locs (va_up w111 pvi (some (.inl (G.2 1, 6, .inl (upd (E3 9 4 0) i 0))))) := hH
            obtain ⟨w121, ew121⟩ : ∃ z, z = va_up w111 pvi (some (.inl (G.2 1, 6, .inl (upd (E3 9 4 0) i 0)))) := ⟨_, rfl⟩
            rw [← ew121] at hH
            have hf121 : ∀ y, y ≠ ad 9 4 0 → w121 y = w111 y := fun y hy => by rw [ew121, hpvi]; exact upW_ne _ _ hy
            have hR4 := rep_row (i := 4) (f := upd (E3 9 4 0) i 0) hR3 h60 (by decide) (by rw [ew121, hpvi]; exact upW_at _ _ _) hf121
            have hS4 := hS3.pop hm
            have h904 : upK E3 9 4 (upd (E3 9 4 0) i 0) 9 0 0 = E 9 0 0 := by rw [upK_i _ _ _ (by decide)]; exact h903.trans h902
            have hK4 : Kp w w121 ad L := (hK2.trans hK3).trans (fun y hy => hf121 y (hy 9 4 0 ⟨by decide, rfl⟩))
            refine lv_iinc (v := nI (i + 1)) (lv' := [(5, .int (nI (i + 1))), (6, .int (nI (stp + (pdist cur (pl i))))), (0, .ref a), (1, .int (nI d)), (2, .int (nI cur)), (3, .int (nI stp)), (4, .int (nI ov))]) hx hb dX2_visit_122 hl (k := 6) rfl (by exact nI_add _ 1) (by decide) rfl (fun ls hl => ?_)
            refine lv_goto (tgt := 37) hx hb dX2_visit_125 (by decide) ?_
            exact ih37 (i + 1) w121 (upK E3 9 4 (upd (E3 9 4 0) i 0)) (by omega) (by omega) (hR4) (hK4) (by rw [vfd_n hm]; exact hS4) (h904) _ _ hH ls (lv_sub hl [2, 3, 4, 5, 6, 0] rfl)
    · have c23 : ¬ d < n := fun zz => c23 ((nI_ltI (a := d) (b := n) (by omega) (by omega)).mpr zz)
      exact absurd hk (by omega)
  · obtain ⟨q, hbq⟩ := PlS_some hS c4
    have hbs : bsE E n (vev pl sv p0) (some q) := by have h9 := hS.2.2.2.2.2.2; rw [hbq] at h9; exact h9
    have hqb := vev_b hpl hsv hp0 hbs.2.2.2.1
    rw [hbs.2.2.2.2.1] at hqb
    refine lv_aload_n hx hb dX2_visit_7 rfl (lv_at hl 0 rfl) ?_
    refine lv_iload hx hb dX2_visit_8 (lv_at hl 4 rfl) ?_
    refine lv_iload_n hx hb dX2_visit_10 rfl (lv_at hl 3 rfl) ?_
    refine x_calli (va_runV (As := [.int (nI ov), .int (nI stp)]) (rest := []) ⟨hx, hb, hml, hown, hts⟩ (c_X2_beatsBest l G A _ a _ _ _ _ _ _ _ _ _ _ _ _ hc_a (nI ov) (nI stp)) (cwV 2 hts gX2_visit_X2_beatsBest rfl rfl rfl (by decide +kernel) ⟨Nat.le_of_ble_eq_true rfl, Nat.le_of_ble_eq_true rfl⟩) (x_preV hK hH hTt (hc_a) rfl [.int (nI ov), .int (nI stp)]) rfl rfl hl.1 rfl (lv_room (Nat.le_of_ble_eq_true rfl)) dX2_visit_11 ⟨Nat.le_of_ble_eq_true rfl, Nat.le_of_ble_eq_true rfl⟩) hH (fun r11 u H locs hp hH => ?_)
    obtain ⟨hrq, hu9⟩ := hp
    rw [hu9] at hH
    have hrb := hrq.trans (bts hbs (ov := ov) (st := stp) (by omega) (by omega) (by omega) (by omega))
    refine lv_if_ne (tgt := 18) hx hb dX2_visit_14 (by decide) (fun c14 => ?_) (fun c14 => ?_)
    · have hlt : vlt (vev pl sv p0 pre) (vev pl sv p0 q) := by
        rw [hev]
        by_cases z : ov < (vev pl sv p0 q).2.2 ∨ (ov = (vev pl sv p0 q).2.2 ∧ stp < (vev pl sv p0 q).2.1)
        · exact z
        · exact absurd (by rw [hrb, if_neg z]) c14
      have hkeep : vkp (vev pl sv p0) b pre = some pre := by rw [hbq]; exact if_pos hlt
      refine lv_iload_n hx hb dX2_visit_18 rfl (lv_at hl 1 rfl) ?_
      refine lv_aload_n hx hb dX2_visit_19 rfl (lv_at hl 0 rfl) ?_
      refine x_get (C := RX2) (T := TX2) (N := 12) hx hb hts hiX2 hown hK hH hc_a rfl 0 (by decide) hf9 (fun _ h => h) (v := .int (nI n)) rfl dX2_visit_20 ?_
      refine lv_icmp_lt (tgt := 34) hx hb dX2_visit_23 (by decide) (fun c23 => ?_) (fun c23 => ?_)
      · have c23 : d < n := (nI_ltI (a := d) (b := n) (by omega) (by omega)).mp c23
        refine lv_iconst (v := 0) hx hb dX2_visit_34 (by decide) ?_
        refine lv_istore (lv' := [(5, .int 0), (0, .ref a), (1, .int (nI d)), (2, .int (nI cur)), (3, .int (nI stp)), (4, .int (nI ov))]) hx hb dX2_visit_35 hl (by decide) rfl (fun ls hl => ?_)
        suffices loop37 : ∀ (k37 : Nat) (i : Nat) (wl : XW) (E1 : YE), (n < i + k37) → (i ≤ n) → (Rep G wl ad E1 cp L wd bw lb I F) → (Kp w wl ad L) → (PlS E1 n pl sv p0 pre (vfd (vev pl sv p0) n 2 pre b i)) → (E1 9 0 0 = E 9 0 0) → ∀ (H : Heap) (locs : List Loc), xH G A s.heap H locs (wl) → ∀ (ls : Array Slot), lv_has ls 7 [(0, .ref a), (1, .int (nI d)), (2, .int (nI cur)), (3, .int (nI stp)), (4, .int (nI ov)), (5, .int (nI i))] → W p l e (headSpec wsX2_visit _).room s m _ below meth c H locs 0 0 (MQ below _ _ s 0 0 A) (F0 m 37 ls []) from
          loop37 (n + 1) 0 w E (by omega) (by omega) (hR) (fun _ _ => rfl) (hS) (rfl) _ _ hH ls (lv_sub hl [1, 2, 3, 4, 5, 0] rfl)
        intro k37
        induction k37 with
        | zero =>
          intro i wl E1 hfuel hi9 hR1 hKp hS1 h90 H locs hH ls hl
          exact absurd hfuel (by omega)
        | succ k37 ih37 =>
          intro i wl E1 hfuel hi9 hR1 hKp hS1 h90 H locs hH ls hl
          have hc_a : wl a = some (.inr (3, [.int (nI n), .ref (ad 9 0 0), .ref pls, .ref spc, .ref por, .ref pbs, .ref pvi, .ref (ad 13 60 0), .ref (ad 7 1 0), .int (E1 8 0 0 1), .int (E1 8 0 0 2), .int (E1 8 0 0 3)])) := by rw [ha, hpls, hspc, hpor, hpbs, hpvi, ← hS1.1]; exact hR1.1 8 0 0 ⟨rfl, rfl⟩
          have hc_pls : wl pls = some (.inl (G.2 0, 6, .inl (E1 9 1 0))) := by rw [hpls]; exact hR1.1 9 1 0 ⟨by decide, rfl⟩
          have hc_por : wl por = some (.inl (G.2 0, 6, .inl (E1 9 2 0))) := by rw [hpor]; exact hR1.1 9 2 0 ⟨by decide, rfl⟩
          have hc_pvi : wl pvi = some (.inl (G.2 1, 6, .inl (E1 9 4 0))) := by rw [hpvi]; exact hR1.1 9 4 0 ⟨by decide, rfl⟩
          refine lv_iload hx hb dX2_visit_37 (lv_at hl 5 rfl) ?_
          refine lv_aload_n hx hb dX2_visit_39 rfl (lv_at hl 0 rfl) ?_
          refine x_get (C := RX2) (T := TX2) (N := 12) hx hb hts hiX2 hown hK hH hc_a rfl 0 (by decide) hf9 (fun _ h => h) (v := .int (nI n)) rfl dX2_visit_40 ?_
          refine lv_icmp_ge (tgt := 128) hx hb dX2_visit_43 (by decide) (fun c43 => ?_) (fun c43 => ?_)
          · have c43 : n ≤ i := (nI_leI (a := n) (b := i) (by omega) (by omega)).mp c43
            exact x_vret wl hx hb hr hlocks hK hH (⟨E1, hR1, (by have h9 : (lvs n 3 pre).foldl (vkp (vev pl sv p0)) b = vfd (vev pl sv p0) n 2 pre b n := vfd_all _ n 2 pre b; rw [h9]; rw [show i = n by omega] at hS1; exact hS1), h90, hKp⟩) dX2_visit_128
          · have c43 : ¬ n ≤ i := fun zz => c43 ((nI_leI (a := n) (b := i) (by omega) (by omega)).mpr zz)
            refine lv_aload_n hx hb dX2_visit_46 rfl (lv_at hl 0 rfl) ?_
            refine x_get (C := RX2) (T := TX2) (N := 12) hx hb hts hiX2 hown hK hH hc_a rfl 6 (by decide) hf33 (fun _ h => h) (v := .ref pvi) rfl dX2_visit_47 ?_
            refine lv_iload hx hb dX2_visit_50 (lv_at hl 5 rfl) ?_
            refine Y_zald hx hb hK hH hc_pvi i rfl (by omega) (by decide) dX2_visit_52 ?_
            refine lv_if_ne (tgt := 122) hx hb dX2_visit_53 (by decide) (fun c53 => ?_) (fun c53 => ?_)
            · have hm : i ∈ pre := Decidable.byContradiction fun z => c53 (by rw [hS1.2.2.2.2.1 i, if_neg z])
              refine lv_iinc (v := nI (i + 1)) (lv' := [(5, .int (nI (i + 1))), (0, .ref a), (1, .int (nI d)), (2, .int (nI cur)), (3, .int (nI stp)), (4, .int (nI ov))]) hx hb dX2_visit_122 hl (k := 5) rfl (by exact nI_add _ 1) (by decide) rfl (fun ls hl => ?_)
              refine lv_goto (tgt := 37) hx hb dX2_visit_125 (by decide) ?_
              exact ih37 (i + 1) wl E1 (by omega) (by omega) (hR1) (hKp) (by rw [vfd_y hm]; exact hS1) (h90) _ _ hH ls (lv_sub hl [1, 2, 3, 4, 5, 0] rfl)
            · have hm : i ∉ pre := fun z => by rw [hS1.2.2.2.2.1 i, if_pos z] at c53; exact absurd c53 (by decide)
              refine lv_iload_n hx hb dX2_visit_56 rfl (lv_at hl 3 rfl) ?_
              refine lv_iload_n hx hb dX2_visit_57 rfl (lv_at hl 2 rfl) ?_
              refine lv_aload_n hx hb dX2_visit_58 rfl (lv_at hl 0 rfl) ?_
              refine x_get (C := RX2) (T := TX2) (N := 12) hx hb hts hiX2 hown hK hH hc_a rfl 2 (by decide) hf19 (fun _ h => h) (v := .ref pls) rfl dX2_visit_59 ?_
              refine lv_iload hx hb dX2_visit_62 (lv_at hl 5 rfl) ?_
              refine Y_iald hx hb hK hH hc_pls i rfl (by omega) (by decide) dX2_visit_64 ?_
              refine lv_topi (fun v65 ev65 => ?_)
              have hv65 : v65 = nI (pl i) := by rw [ev65]; exact hS1.2.1 i (by omega)
              subst hv65
              refine x_calli (va_runS (As := [.int (nI cur), .int (nI (pl i))]) (rest := [.int (nI stp)]) ⟨hx, hb, hml, hown, hts⟩ (c_X2_stepsBetween l G A _ (nI cur) (nI (pl i))) (va_cwS 2 hts gX2_visit_X2_stepsBetween rfl rfl rfl (by decide +kernel) ⟨Nat.le_of_ble_eq_true rfl, Nat.le_of_ble_eq_true rfl⟩) (x_preS hK hH hTt [.int (nI cur), .int (nI (pl i))]) rfl rfl hl.1 rfl (lv_room (Nat.le_of_ble_eq_true rfl)) dX2_visit_65 ⟨Nat.le_of_ble_eq_true rfl, Nat.le_of_ble_eq_true rfl⟩) hH (fun r65 u H locs hp hH => ?_)
              have hpd : r65 = nI (pdist cur (pl i)) := hp.trans (stp_nat hb1.1 (hpl i (by omega)))
              subst hpd
              have hpdb : pdist cur (pl i) ≤ 198 := pdist_b hb1.1 (hpl i (by omega))
              refine N_iadd hx hb stp (pdist cur (pl i)) rfl rfl dX2_visit_68 ?_
              refine lv_istore (lv' := [(6, .int (nI (stp + (pdist cur (pl i))))), (0, .ref a), (1, .int (nI d)), (2, .int (nI cur)), (3, .int (nI stp)), (4, .int (nI ov)), (5, .int (nI i))]) hx hb dX2_visit_69 hl (by decide) rfl (fun ls hl => ?_)
              refine lv_aload_n hx hb dX2_visit_71 rfl (lv_at hl 1 rfl) ?_
              refine x_get (C := RX2) (T := TX2) (N := 12) hx hb hts hiX2 hown hK hH hc_a rfl 6 (by decide) hf33 (fun _ h => h) (v := .ref pvi) rfl dX2_visit_72 ?_
              refine lv_iload hx hb dX2_visit_75 (lv_at hl 6 rfl) ?_
              refine lv_iconst (v := 1) hx hb dX2_visit_77 (by decide) ?_
              refine Y_zast hx hb hK hH hc_pvi i rfl (by omega) (by decide) (by decide) dX2_visit_78 (fun H locs hH => ?_)
              have hH : xH G A s.heap H locs (va_up wl pvi (some (.inl (G.2 1, 6, .inl (upd (E1 9 4 0) i 1))))) := hH
              obtain ⟨w78, ew78⟩ : ∃ z, z = va_up wl pvi (some (.inl (G.2 1, 6, .inl (upd (E1 9 4 0) i 1)))) := ⟨_, rfl⟩
              rw [← ew78] at hH
              have hf78 : ∀ y, y ≠ ad 9 4 0 → w78 y = wl y := fun y hy => by rw [ew78, hpvi]; exact upW_ne _ _ hy
              have hR78 := rep_row (i := 4) (f := upd (E1 9 4 0) i 1) hR1 h60 (by decide) (by rw [ew78, hpvi]; exact upW_at _ _ _) hf78
              have ne_pv : ∀ z, z ≠ ad 9 4 0 → w78 z = wl z := hf78
              have hc_a : w78 a = some (.inr (3, [.int (nI n), .ref (ad 9 0 0), .ref pls, .ref spc, .ref por, .ref pbs, .ref pvi, .ref (ad 13 60 0), .ref (ad 7 1 0), .int (E1 8 0 0 1), .int (E1 8 0 0 2), .int (E1 8 0 0 3)])) := (hf78 a (by rw [ha]; exact hR1.ne (k := 8) (i := 0) (j := 0) (k' := 9) (i' := 4) (j' := 0) ⟨rfl, rfl⟩ ⟨by decide, rfl⟩ (by decide))).trans hc_a
              have hc_por : w78 por = some (.inl (G.2 0, 6, .inl (E1 9 2 0))) := by rw [hpor]; exact hR78.1 9 2 0 ⟨by decide, rfl⟩
              refine lv_aload_n hx hb dX2_visit_79 rfl (lv_at hl 1 rfl) ?_
              refine x_get (C := RX2) (T := TX2) (N := 12) hx hb hts hiX2 hown hK hH hc_a rfl 4 (by decide) hf27 (fun _ h => h) (v := .ref por) rfl dX2_visit_80 ?_
              refine lv_iload_n hx hb dX2_visit_83 rfl (lv_at hl 2 rfl) ?_
              refine lv_iload hx hb dX2_visit_84 (lv_at hl 6 rfl) ?_
              refine Y_iast hx hb hK hH hc_por d rfl (by omega) (by decide) dX2_visit_86 (fun H locs hH => ?_)
              have hH : xH G A s.heap H locs (va_up w78 por (some (.inl (G.2 0, 6, .inl (upd (E1 9 2 0) d (nI i)))))) := hH
              obtain ⟨w86, ew86⟩ : ∃ z, z = va_up w78 por (some (.inl (G.2 0, 6, .inl (upd (E1 9 2 0) d (nI i))))) := ⟨_, rfl⟩
              rw [← ew86] at hH
              have hf86 : ∀ y, y ≠ ad 9 2 0 → w86 y = w78 y := fun y hy => by rw [ew86, hpor]; exact upW_ne _ _ hy
              have hR2 := rep_row (i := 2) (f := upd (E1 9 2 0) d (nI i)) hR78 h60 (by decide) (by rw [ew86, hpor]; exact upW_at _ _ _) hf86
              obtain ⟨E2, hE2⟩ : ∃ z, z = upK (upK E1 9 4 (upd (E1 9 4 0) i 1)) 9 2 (upd (E1 9 2 0) d (nI i)) := ⟨_, rfl⟩
              rw [← hE2] at hR2
              have hS2 : PlS E2 n pl sv p0 (pre ++ [i]) (vfd (vev pl sv p0) n 2 pre b i) := by rw [hE2, ← hd]; exact hS1.push (by omega)
              have h902 : E2 9 0 0 = E 9 0 0 := by rw [hE2, upK_i _ _ _ (by decide), upK_i _ _ _ (by decide)]; exact h90
              have hK2 : Kp w w86 ad L := hKp.trans (fun y hy => (hf86 y (hy 9 2 0 ⟨by decide, rfl⟩)).trans (hf78 y (hy 9 4 0 ⟨by decide, rfl⟩)))
              have hc_a : w86 a = some (.inr (3, [.int (nI n), .ref (ad 9 0 0), .ref pls, .ref spc, .ref por, .ref pbs, .ref pvi, .ref (ad 13 60 0), .ref (ad 7 1 0), .int (E2 8 0 0 1), .int (E2 8 0 0 2), .int (E2 8 0 0 3)])) := by rw [ha, hpls, hspc, hpor, hpbs, hpvi, ← hS2.1]; exact hR2.1 8 0 0 ⟨rfl, rfl⟩
              have hc_pls : w86 pls = some (.inl (G.2 0, 6, .inl (E2 9 1 0))) := by rw [hpls]; exact hR2.1 9 1 0 ⟨by decide, rfl⟩
              have hc_spc : w86 spc = some (.inl (G.2 5, 6, .inr (.inr (.inr (.inr (six ad 11)))))) := by rw [hspc]; exact hR2.1 10 0 0 ⟨rfl, rfl⟩
              refine lv_aload_n hx hb dX2_visit_87 rfl (lv_at hl 1 rfl) ?_
              refine lv_iload_n hx hb dX2_visit_88 rfl (lv_at hl 2 rfl) ?_
              refine lv_iconst (v := 1) hx hb dX2_visit_89 (by decide) ?_
              refine N_iadd hx hb d 1 rfl rfl dX2_visit_90 ?_
              refine lv_aload_n hx hb dX2_visit_91 rfl (lv_at hl 1 rfl) ?_
              refine x_get (C := RX2) (T := TX2) (N := 12) hx hb hts hiX2 hown hK hH hc_a rfl 2 (by decide) hf19 (fun _ h => h) (v := .ref pls) rfl dX2_visit_92 ?_
              refine lv_iload hx hb dX2_visit_95 (lv_at hl 6 rfl) ?_
              refine Y_iald hx hb hK hH hc_pls i rfl (by omega) (by decide) dX2_visit_97 ?_
              refine lv_topi (fun v98 ev98 => ?_)
              have hv98 : v98 = nI (pl i) := by rw [ev98]; exact hS2.2.1 i (by omega)
              subst hv98
              refine lv_iload hx hb dX2_visit_98 (lv_at hl 0 rfl) ?_
              refine lv_iload hx hb dX2_visit_100 (lv_at hl 5 rfl) ?_
              refine lv_aload_n hx hb dX2_visit_102 rfl (lv_at hl 1 rfl) ?_
              refine lv_iload hx hb dX2_visit_103 (lv_at hl 6 rfl) ?_
              refine lv_iload hx hb dX2_visit_105 (lv_at hl 0 rfl) ?_
              refine x_calli (va_runV (As := [.int (nI i), .int (nI (stp + (pdist cur (pl i))))]) (rest := [.int (nI ov), .int (nI (stp + (pdist cur (pl i)))), .int (nI (pl i)), .int (nI (d + 1)), .ref a]) ⟨hx, hb, hml, hown, hts⟩ (c_X2_spilledBy l G A _ a spc (ad 11 i 0) _ _ _ _ _ _ _ _ _ _ _ (six ad 11) _ hc_a hc_spc (hR2.1 11 i 0 ⟨by omega, rfl⟩) i (stp + pdist cur (pl i)) (by omega) (by omega) (if_pos (by omega))) (cwV 2 hts gX2_visit_X2_spilledBy rfl rfl rfl (by decide +kernel) ⟨Nat.le_of_ble_eq_true rfl, Nat.le_of_ble_eq_true rfl⟩) (x_preV hK hH hTt (hc_a) rfl [.int (nI i), .int (nI (stp + (pdist cur (pl i))))]) rfl rfl hl.1 rfl (lv_room (Nat.le_of_ble_eq_true rfl)) dX2_visit_107 ⟨Nat.le_of_ble_eq_true rfl, Nat.le_of_ble_eq_true rfl⟩) hH (fun r107 u H locs hp hH => ?_)
              obtain ⟨hrq, hu9⟩ := hp
              rw [hu9] at hH
              have hsq : r107 = nI (sv i (if 19 < (stp + pdist cur (pl i)) / 60 then 19 else (stp + pdist cur (pl i)) / 60)) := hrq.trans (hS2.2.2.1 i (by omega) _ (by split <;> omega))
              subst hsq
              refine N_iadd hx hb ov (sv i (if 19 < (stp + pdist cur (pl i)) / 60 then 19 else (stp + pdist cur (pl i)) / 60)) rfl rfl dX2_visit_110 ?_
              refine x_callv (va_runS (As := [.ref a, .int (nI (d + 1)), .int (nI (pl i)), .int (nI (stp + (pdist cur (pl i)))), .int (nI (ov + (sv i (if 19 < (stp + pdist cur (pl i)) / 60 then 19 else (stp + pdist cur (pl i)) / 60))))]) (rest := []) ⟨hx, hb, hml, hown, hts⟩ (c2_X2_visit l G A _ a ad E2 cp L wd bw lb I F n (by rw [hpls, hspc, hpor, hpbs, hpvi] at hc_a; exact hc_a) hR2 h60 ha (d + 1) (pl i) (stp + pdist cur (pl i)) (ov + sv i (if 19 < (stp + pdist cur (pl i)) / 60 then 19 else (stp + pdist cur (pl i)) / 60)) p0 pl sv (pre ++ [i]) (vfd (vev pl sv p0) n 2 pre b i) hn hpl hsv hp0 hS2 (by rw [List.length_append, hd]; rfl) (by omega) (by rw [vev_s, hev]; rfl)) (va_cwS 5 hts gX2_visit_X2_visit rfl rfl rfl (by decide +kernel) ⟨Nat.le_of_ble_eq_true rfl, Nat.le_of_ble_eq_true rfl⟩) (x_preS hK hH hTt [.ref a, .int (nI (d + 1)), .int (nI (pl i)), .int (nI (stp + (pdist cur (pl i)))), .int (nI (ov + (sv i (if 19 < (stp + pdist cur (pl i)) / 60 then 19 else (stp + pdist cur (pl i)) / 60))))]) rfl rfl hl.1 rfl (lv_room (Nat.le_of_ble_eq_true rfl)) dX2_visit_111 ⟨Nat.le_of_ble_eq_true rfl, Nat.le_of_ble_eq_true rfl⟩) hH (fun w111 H locs hp hH => ?_)
              obtain ⟨E3, hR3, hS3, h903, hK3⟩ := hp
              have hc_a : w111 a = some (.inr (3, [.int (nI n), .ref (ad 9 0 0), .ref pls, .ref spc, .ref por, .ref pbs, .ref pvi, .ref (ad 13 60 0), .ref (ad 7 1 0), .int (E3 8 0 0 1), .int (E3 8 0 0 2), .int (E3 8 0 0 3)])) := by rw [ha, hpls, hspc, hpor, hpbs, hpvi, ← hS3.1]; exact hR3.1 8 0 0 ⟨rfl, rfl⟩
              have hc_pvi : w111 pvi = some (.inl (G.2 1, 6, .inl (E3 9 4 0))) := by rw [hpvi]; exact hR3.1 9 4 0 ⟨by decide, rfl⟩
              refine lv_aload_n hx hb dX2_visit_114 rfl (lv_at hl 1 rfl) ?_
              refine x_get (C := RX2) (T := TX2) (N := 12) hx hb hts hiX2 hown hK hH hc_a rfl 6 (by decide) hf33 (fun _ h => h) (v := .ref pvi) rfl dX2_visit_115 ?_
              refine lv_iload hx hb dX2_visit_118 (lv_at hl 6 rfl) ?_
              refine lv_iconst (v := 0) hx hb dX2_visit_120 (by decide) ?_
              refine Y_zast hx hb hK hH hc_pvi i rfl (by omega) (by decide) (by decide) dX2_visit_121 (fun H locs hH => ?_)
              have hH : xH G A s.heap H locs (va_up w111 pvi (some (.inl (G.2 1, 6, .inl (upd (E3 9 4 0) i 0))))) := hH
              obtain ⟨w121, ew121⟩ : ∃ z, z = va_up w111 pvi (some (.inl (G.2 1, 6, .inl (upd (E3 9 4 0) i 0)))) := ⟨_, rfl⟩
              rw [← ew121] at hH
              have hf121 : ∀ y, y ≠ ad 9 4 0 → w121 y = w111 y := fun y hy => by rw [ew121, hpvi]; exact upW_ne _ _ hy
              have hR4 := rep_row (i := 4) (f := upd (E3 9 4 0) i 0) hR3 h60 (by decide) (by rw [ew121, hpvi]; exact upW_at _ _ _) hf121
              have hS4 := hS3.pop hm
              have h904 : upK E3 9 4 (upd (E3 9 4 0) i 0) 9 0 0 = E 9 0 0 := by rw [upK_i _ _ _ (by decide)]; exact h903.trans h902
              have hK4 : Kp w w121 ad L := (hK2.trans hK3).trans (fun y hy => hf121 y (hy 9 4 0 ⟨by decide, rfl⟩))
              refine lv_iinc (v := nI (i + 1)) (lv' := [(5, .int (nI (i + 1))), (6, .int (nI (stp + (pdist cur (pl i))))), (0, .ref a), (1, .int (nI d)), (2, .int (nI cur)), (3, .int (nI stp)), (4, .int (nI ov))]) hx hb dX2_visit_122 hl (k := 6) rfl (by exact nI_add _ 1) (by decide) rfl (fun ls hl => ?_)
              refine lv_goto (tgt := 37) hx hb dX2_visit_125 (by decide) ?_
              exact ih37 (i + 1) w121 (upK E3 9 4 (upd (E3 9 4 0) i 0)) (by omega) (by omega) (hR4) (hK4) (by rw [vfd_n hm]; exact hS4) (h904) _ _ hH ls (lv_sub hl [2, 3, 4, 5, 6, 0] rfl)
      · have c23 : ¬ d < n := fun zz => c23 ((nI_ltI (a := d) (b := n) (by omega) (by omega)).mpr zz)
        exact absurd hk (by omega)
    · have hcut : ¬ vlt (vev pl sv p0 pre) (vev pl sv p0 q) := fun z => by rw [hev] at z; rw [hrb, if_pos z] at c14; exact absurd c14 (by decide)
      exact x_vret w hx hb hr hlocks hK hH (⟨E, hR, (by rw [hbq, vis_cut hcut, ← hbq]; exact hS), rfl, fun _ _ => rfl⟩) dX2_visit_17

set_option maxHeartbeats 4000000 in
set_option maxRecDepth 100000 in
theorem c4_X2_visit (l : Launch) (G : XG) (A : Nat → Prop) (w : XW) (a : Nat) (ad : YA) (E : YE) (cp L wd bw : Nat → Nat) (lb : Nat → Option Nat) (I : Nat → Int32) (F : Nat → Nat → Int32) (n : Nat) (hc_a : w a = some (.inr (3, [.int (nI n), .ref (ad 9 0 0), .ref (ad 9 1 0), .ref (ad 10 0 0), .ref (ad 9 2 0), .ref (ad 9 3 0), .ref (ad 9 4 0), .ref (ad 13 60 0), .ref (ad 7 1 0), .int (E 8 0 0 1), .int (E 8 0 0 2), .int (E 8 0 0 3)]))) (hR : Rep G w ad E cp L wd bw lb I F) (h60 : L 0 ≤ 60) (ha : a = ad 8 0 0) (d cur stp ov p0 : Nat) (pl : Nat → Nat) (sv : Nat → Nat → Nat) (pre : List Nat) (b : Option (List Nat)) (hn : n ≤ 6) (hpl : ∀ j, j < n → pl j ≤ 9999) (hsv : ∀ k, k < n → ∀ q, q < 20 → sv k q ≤ 4000) (hp0 : p0 ≤ 9999) (hS : PlS E n pl sv p0 pre b) (hd : pre.length = d) (hk : d + 4 = n) (hev : vev pl sv p0 pre = (cur, stp, ov)) : Met l yX2_visit wsX2_visit ({ frames := 5, cells := 0, slots := 0, locals := 127 }) (va_Pc [.ref a, .int (nI d), .int (nI cur), .int (nI stp), .int (nI ov)] (xP G A (w))) (va_Qv (fun (u : XW) => VsP G w u ad E cp L wd bw lb I F n pl sv p0 pre ((lvs n 4 pre).foldl (vkp (vev pl sv p0)) b)) (fun u t => xB G A (u) t) A) 0 0 A := by
  refine Met.ofW (cc := cX2_visit) (maxL := 7) (ret := none) (by decide) rfl ?_
  intro p e s m args below meth c s₁ B hml hv
  obtain ⟨rfl, hK, hH, hTt⟩ := hv
  have hx := B.exec
  have hb := B.bytes
  have hr := B.returns
  have hts := atoms_spec (ws := wsX2_visit) B.pre
  have hown : s.vm.findClass RX2 = some m.cls := findClass_of_methodNamed B.named
  have hlocks := B.notSynchronized
  have hiX2 : ∀ w ∈ wsX20, w ∈ wsX2_visit := by decide +kernel
  have hf9 := hts (.fieldLink RX2 9 "ResinWoods$Planner" "size" "I") (by decide +kernel)
  have hf19 := hts (.fieldLink RX2 19 "ResinWoods$Planner" "places" "[I") (by decide +kernel)
  have hf27 := hts (.fieldLink RX2 27 "ResinWoods$Planner" "order" "[I") (by decide +kernel)
  have hf33 := hts (.fieldLink RX2 33 "ResinWoods$Planner" "isVisited" "[Z") (by decide +kernel)
  have hf51 := hts (.fieldLink RX2 51 "ResinWoods$Planner" "hasBest" "Z") (by decide +kernel)
  have hl := lv_entry ([.ref a, .int (nI d), .int (nI cur), .int (nI stp), .int (nI ov)]) (n := 7) (Nat.le_of_ble_eq_true rfl)
  rw [lg_entry_eq]
  generalize (lg_sl ([.ref a, .int (nI d), .int (nI cur), .int (nI stp), .int (nI ov)]) ++ List.replicate (7 - (lg_sl ([.ref a, .int (nI d), .int (nI cur), .int (nI stp), .int (nI ov)])).length) Slot.unset).toArray = ls at hl ⊢
  have hl : lv_has ls 7 [(0, .ref a), (1, .int (nI d)), (2, .int (nI cur)), (3, .int (nI stp)), (4, .int (nI ov))] := hl
  obtain ⟨pls, hpls⟩ : ∃ z, z = ad 9 1 0 := ⟨_, rfl⟩
  obtain ⟨spc, hspc⟩ : ∃ z, z = ad 10 0 0 := ⟨_, rfl⟩
  obtain ⟨por, hpor⟩ : ∃ z, z = ad 9 2 0 := ⟨_, rfl⟩
  obtain ⟨pbs, hpbs⟩ : ∃ z, z = ad 9 3 0 := ⟨_, rfl⟩
  obtain ⟨pvi, hpvi⟩ : ∃ z, z = ad 9 4 0 := ⟨_, rfl⟩
  rw [← hpls, ← hspc, ← hpor, ← hpbs, ← hpvi] at hc_a
  have hb1 : cur ≤ 9999 ∧ stp ≤ 198 * d ∧ ov ≤ 4000 * d := by have h9 := vev_b hpl hsv hp0 hS.2.2.2.2.2.1; rw [hev, hd] at h9; exact h9
  have hc_por : w por = some (.inl (G.2 0, 6, .inl (E 9 2 0))) := by rw [hpor]; exact hR.1 9 2 0 ⟨by decide, rfl⟩
  have hc_pbs : w pbs = some (.inl (G.2 0, 6, .inl (E 9 3 0))) := by rw [hpbs]; exact hR.1 9 3 0 ⟨by decide, rfl⟩
  refine lv_aload_n hx hb dX2_visit_0 rfl (lv_at hl 0 rfl) ?_
  refine x_get (C := RX2) (T := TX2) (N := 12) hx hb hts hiX2 hown hK hH hc_a rfl 9 (by decide) hf51 (fun _ h => h) (v := .int (E 8 0 0 1)) rfl dX2_visit_1 ?_
  refine lv_if_eq (tgt := 18) hx hb dX2_visit_4 (by decide) (fun c4 => ?_) (fun c4 => ?_)
  · have hkeep : vkp (vev pl sv p0) b pre = some pre := by rw [PlS_none hS c4]; rfl
    refine lv_iload_n hx hb dX2_visit_18 rfl (lv_at hl 1 rfl) ?_
    refine lv_aload_n hx hb dX2_visit_19 rfl (lv_at hl 0 rfl) ?_
    refine x_get (C := RX2) (T := TX2) (N := 12) hx hb hts hiX2 hown hK hH hc_a rfl 0 (by decide) hf9 (fun _ h => h) (v := .int (nI n)) rfl dX2_visit_20 ?_
    refine lv_icmp_lt (tgt := 34) hx hb dX2_visit_23 (by decide) (fun c23 => ?_) (fun c23 => ?_)
    · have c23 : d < n := (nI_ltI (a := d) (b := n) (by omega) (by omega)).mp c23
      refine lv_iconst (v := 0) hx hb dX2_visit_34 (by decide) ?_
      refine lv_istore (lv' := [(5, .int 0), (0, .ref a), (1, .int (nI d)), (2, .int (nI cur)), (3, .int (nI stp)), (4, .int (nI ov))]) hx hb dX2_visit_35 hl (by decide) rfl (fun ls hl => ?_)
      suffices loop37 : ∀ (k37 : Nat) (i : Nat) (wl : XW) (E1 : YE), (n < i + k37) → (i ≤ n) → (Rep G wl ad E1 cp L wd bw lb I F) → (Kp w wl ad L) → (PlS E1 n pl sv p0 pre (vfd (vev pl sv p0) n 3 pre b i)) → (E1 9 0 0 = E 9 0 0) → ∀ (H : Heap) (locs : List Loc), xH G A s.heap H locs (wl) → ∀ (ls : Array Slot), lv_has ls 7 [(0, .ref a), (1, .int (nI d)), (2, .int (nI cur)), (3, .int (nI stp)), (4, .int (nI ov)), (5, .int (nI i))] → W p l e (headSpec wsX2_visit _).room s m _ below meth c H locs 0 0 (MQ below _ _ s 0 0 A) (F0 m 37 ls []) from
        loop37 (n + 1) 0 w E (by omega) (by omega) (hR) (fun _ _ => rfl) (hS) (rfl) _ _ hH ls (lv_sub hl [1, 2, 3, 4, 5, 0] rfl)
      intro k37
      induction k37 with
      | zero =>
        intro i wl E1 hfuel hi9 hR1 hKp hS1 h90 H locs hH ls hl
        exact absurd hfuel (by omega)
      | succ k37 ih37 =>
        intro i wl E1 hfuel hi9 hR1 hKp hS1 h90 H locs hH ls hl
        have hc_a : wl a = some (.inr (3, [.int (nI n), .ref (ad 9 0 0), .ref pls, .ref spc, .ref por, .ref pbs, .ref pvi, .ref (ad 13 60 0), .ref (ad 7 1 0), .int (E1 8 0 0 1), .int (E1 8 0 0 2), .int (E1 8 0 0 3)])) := by rw [ha, hpls, hspc, hpor, hpbs, hpvi, ← hS1.1]; exact hR1.1 8 0 0 ⟨rfl, rfl⟩
        have hc_pls : wl pls = some (.inl (G.2 0, 6, .inl (E1 9 1 0))) := by rw [hpls]; exact hR1.1 9 1 0 ⟨by decide, rfl⟩
        have hc_por : wl por = some (.inl (G.2 0, 6, .inl (E1 9 2 0))) := by rw [hpor]; exact hR1.1 9 2 0 ⟨by decide, rfl⟩
        have hc_pvi : wl pvi = some (.inl (G.2 1, 6, .inl (E1 9 4 0))) := by rw [hpvi]; exact hR1.1 9 4 0 ⟨by decide, rfl⟩
        refine lv_iload hx hb dX2_visit_37 (lv_at hl 5 rfl) ?_
        refine lv_aload_n hx hb dX2_visit_39 rfl (lv_at hl 0 rfl) ?_
        refine x_get (C := RX2) (T := TX2) (N := 12) hx hb hts hiX2 hown hK hH hc_a rfl 0 (by decide) hf9 (fun _ h => h) (v := .int (nI n)) rfl dX2_visit_40 ?_
        refine lv_icmp_ge (tgt := 128) hx hb dX2_visit_43 (by decide) (fun c43 => ?_) (fun c43 => ?_)
        · have c43 : n ≤ i := (nI_leI (a := n) (b := i) (by omega) (by omega)).mp c43
          exact x_vret wl hx hb hr hlocks hK hH (⟨E1, hR1, (by have h9 : (lvs n 4 pre).foldl (vkp (vev pl sv p0)) b = vfd (vev pl sv p0) n 3 pre b n := vfd_all _ n 3 pre b; rw [h9]; rw [show i = n by omega] at hS1; exact hS1), h90, hKp⟩) dX2_visit_128
        · have c43 : ¬ n ≤ i := fun zz => c43 ((nI_leI (a := n) (b := i) (by omega) (by omega)).mpr zz)
          refine lv_aload_n hx hb dX2_visit_46 rfl (lv_at hl 0 rfl) ?_
          refine x_get (C := RX2) (T := TX2) (N := 12) hx hb hts hiX2 hown hK hH hc_a rfl 6 (by decide) hf33 (fun _ h => h) (v := .ref pvi) rfl dX2_visit_47 ?_
          refine lv_iload hx hb dX2_visit_50 (lv_at hl 5 rfl) ?_
          refine Y_zald hx hb hK hH hc_pvi i rfl (by omega) (by decide) dX2_visit_52 ?_
          refine lv_if_ne (tgt := 122) hx hb dX2_visit_53 (by decide) (fun c53 => ?_) (fun c53 => ?_)
          · have hm : i ∈ pre := Decidable.byContradiction fun z => c53 (by rw [hS1.2.2.2.2.1 i, if_neg z])
            refine lv_iinc (v := nI (i + 1)) (lv' := [(5, .int (nI (i + 1))), (0, .ref a), (1, .int (nI d)), (2, .int (nI cur)), (3, .int (nI stp)), (4, .int (nI ov))]) hx hb dX2_visit_122 hl (k := 5) rfl (by exact nI_add _ 1) (by decide) rfl (fun ls hl => ?_)
            refine lv_goto (tgt := 37) hx hb dX2_visit_125 (by decide) ?_
            exact ih37 (i + 1) wl E1 (by omega) (by omega) (hR1) (hKp) (by rw [vfd_y hm]; exact hS1) (h90) _ _ hH ls (lv_sub hl [1, 2, 3, 4, 5, 0] rfl)
          · have hm : i ∉ pre := fun z => by rw [hS1.2.2.2.2.1 i, if_pos z] at c53; exact absurd c53 (by decide)
            refine lv_iload_n hx hb dX2_visit_56 rfl (lv_at hl 3 rfl) ?_
            refine lv_iload_n hx hb dX2_visit_57 rfl (lv_at hl 2 rfl) ?_
            refine lv_aload_n hx hb dX2_visit_58 rfl (lv_at hl 0 rfl) ?_
            refine x_get (C := RX2) (T := TX2) (N := 12) hx hb hts hiX2 hown hK hH hc_a rfl 2 (by decide) hf19 (fun _ h => h) (v := .ref pls) rfl dX2_visit_59 ?_
            refine lv_iload hx hb dX2_visit_62 (lv_at hl 5 rfl) ?_
            refine Y_iald hx hb hK hH hc_pls i rfl (by omega) (by decide) dX2_visit_64 ?_
            refine lv_topi (fun v65 ev65 => ?_)
            have hv65 : v65 = nI (pl i) := by rw [ev65]; exact hS1.2.1 i (by omega)
            subst hv65
            refine x_calli (va_runS (As := [.int (nI cur), .int (nI (pl i))]) (rest := [.int (nI stp)]) ⟨hx, hb, hml, hown, hts⟩ (c_X2_stepsBetween l G A _ (nI cur) (nI (pl i))) (va_cwS 2 hts gX2_visit_X2_stepsBetween rfl rfl rfl (by decide +kernel) ⟨Nat.le_of_ble_eq_true rfl, Nat.le_of_ble_eq_true rfl⟩) (x_preS hK hH hTt [.int (nI cur), .int (nI (pl i))]) rfl rfl hl.1 rfl (lv_room (Nat.le_of_ble_eq_true rfl)) dX2_visit_65 ⟨Nat.le_of_ble_eq_true rfl, Nat.le_of_ble_eq_true rfl⟩) hH (fun r65 u H locs hp hH => ?_)
            have hpd : r65 = nI (pdist cur (pl i)) := hp.trans (stp_nat hb1.1 (hpl i (by omega)))
            subst hpd
            have hpdb : pdist cur (pl i) ≤ 198 := pdist_b hb1.1 (hpl i (by omega))
            refine N_iadd hx hb stp (pdist cur (pl i)) rfl rfl dX2_visit_68 ?_
            refine lv_istore (lv' := [(6, .int (nI (stp + (pdist cur (pl i))))), (0, .ref a), (1, .int (nI d)), (2, .int (nI cur)), (3, .int (nI stp)), (4, .int (nI ov)), (5, .int (nI i))]) hx hb dX2_visit_69 hl (by decide) rfl (fun ls hl => ?_)
            refine lv_aload_n hx hb dX2_visit_71 rfl (lv_at hl 1 rfl) ?_
            refine x_get (C := RX2) (T := TX2) (N := 12) hx hb hts hiX2 hown hK hH hc_a rfl 6 (by decide) hf33 (fun _ h => h) (v := .ref pvi) rfl dX2_visit_72 ?_
            refine lv_iload hx hb dX2_visit_75 (lv_at hl 6 rfl) ?_
            refine lv_iconst (v := 1) hx hb dX2_visit_77 (by decide) ?_
            refine Y_zast hx hb hK hH hc_pvi i rfl (by omega) (by decide) (by decide) dX2_visit_78 (fun H locs hH => ?_)
            have hH : xH G A s.heap H locs (va_up wl pvi (some (.inl (G.2 1, 6, .inl (upd (E1 9 4 0) i 1))))) := hH
            obtain ⟨w78, ew78⟩ : ∃ z, z = va_up wl pvi (some (.inl (G.2 1, 6, .inl (upd (E1 9 4 0) i 1)))) := ⟨_, rfl⟩
            rw [← ew78] at hH
            have hf78 : ∀ y, y ≠ ad 9 4 0 → w78 y = wl y := fun y hy => by rw [ew78, hpvi]; exact upW_ne _ _ hy
            have hR78 := rep_row (i := 4) (f := upd (E1 9 4 0) i 1) hR1 h60 (by decide) (by rw [ew78, hpvi]; exact upW_at _ _ _) hf78
            have ne_pv : ∀ z, z ≠ ad 9 4 0 → w78 z = wl z := hf78
            have hc_a : w78 a = some (.inr (3, [.int (nI n), .ref (ad 9 0 0), .ref pls, .ref spc, .ref por, .ref pbs, .ref pvi, .ref (ad 13 60 0), .ref (ad 7 1 0), .int (E1 8 0 0 1), .int (E1 8 0 0 2), .int (E1 8 0 0 3)])) := (hf78 a (by rw [ha]; exact hR1.ne (k := 8) (i := 0) (j := 0) (k' := 9) (i' := 4) (j' := 0) ⟨rfl, rfl⟩ ⟨by decide, rfl⟩ (by decide))).trans hc_a
            have hc_por : w78 por = some (.inl (G.2 0, 6, .inl (E1 9 2 0))) := by rw [hpor]; exact hR78.1 9 2 0 ⟨by decide, rfl⟩
            refine lv_aload_n hx hb dX2_visit_79 rfl (lv_at hl 1 rfl) ?_
            refine x_get (C := RX2) (T := TX2) (N := 12) hx hb hts hiX2 hown hK hH hc_a rfl 4 (by decide) hf27 (fun _ h => h) (v := .ref por) rfl dX2_visit_80 ?_
            refine lv_iload_n hx hb dX2_visit_83 rfl (lv_at hl 2 rfl) ?_
            refine lv_iload hx hb dX2_visit_84 (lv_at hl 6 rfl) ?_
            refine Y_iast hx hb hK hH hc_por d rfl (by omega) (by decide) dX2_visit_86 (fun H locs hH => ?_)
            have hH : xH G A s.heap H locs (va_up w78 por (some (.inl (G.2 0, 6, .inl (upd (E1 9 2 0) d (nI i)))))) := hH
            obtain ⟨w86, ew86⟩ : ∃ z, z = va_up w78 por (some (.inl (G.2 0, 6, .inl (upd (E1 9 2 0) d (nI i))))) := ⟨_, rfl⟩
            rw [← ew86] at hH
            have hf86 : ∀ y, y ≠ ad 9 2 0 → w86 y = w78 y := fun y hy => by rw [ew86, hpor]; exact upW_ne _ _ hy
            have hR2 := rep_row (i := 2) (f := upd (E1 9 2 0) d (nI i)) hR78 h60 (by decide) (by rw [ew86, hpor]; exact upW_at _ _ _) hf86
            obtain ⟨E2, hE2⟩ : ∃ z, z = upK (upK E1 9 4 (upd (E1 9 4 0) i 1)) 9 2 (upd (E1 9 2 0) d (nI i)) := ⟨_, rfl⟩
            rw [← hE2] at hR2
            have hS2 : PlS E2 n pl sv p0 (pre ++ [i]) (vfd (vev pl sv p0) n 3 pre b i) := by rw [hE2, ← hd]; exact hS1.push (by omega)
            have h902 : E2 9 0 0 = E 9 0 0 := by rw [hE2, upK_i _ _ _ (by decide), upK_i _ _ _ (by decide)]; exact h90
            have hK2 : Kp w w86 ad L := hKp.trans (fun y hy => (hf86 y (hy 9 2 0 ⟨by decide, rfl⟩)).trans (hf78 y (hy 9 4 0 ⟨by decide, rfl⟩)))
            have hc_a : w86 a = some (.inr (3, [.int (nI n), .ref (ad 9 0 0), .ref pls, .ref spc, .ref por, .ref pbs, .ref pvi, .ref (ad 13 60 0), .ref (ad 7 1 0), .int (E2 8 0 0 1), .int (E2 8 0 0 2), .int (E2 8 0 0 3)])) := by rw [ha, hpls, hspc, hpor, hpbs, hpvi, ← hS2.1]; exact hR2.1 8 0 0 ⟨rfl, rfl⟩
            have hc_pls : w86 pls = some (.inl (G.2 0, 6, .inl (E2 9 1 0))) := by rw [hpls]; exact hR2.1 9 1 0 ⟨by decide, rfl⟩
            have hc_spc : w86 spc = some (.inl (G.2 5, 6, .inr (.inr (.inr (.inr (six ad 11)))))) := by rw [hspc]; exact hR2.1 10 0 0 ⟨rfl, rfl⟩
            refine lv_aload_n hx hb dX2_visit_87 rfl (lv_at hl 1 rfl) ?_
            refine lv_iload_n hx hb dX2_visit_88 rfl (lv_at hl 2 rfl) ?_
            refine lv_iconst (v := 1) hx hb dX2_visit_89 (by decide) ?_
            refine N_iadd hx hb d 1 rfl rfl dX2_visit_90 ?_
            refine lv_aload_n hx hb dX2_visit_91 rfl (lv_at hl 1 rfl) ?_
            refine x_get (C := RX2) (T := TX2) (N := 12) hx hb hts hiX2 hown hK hH hc_a rfl 2 (by decide) hf19 (fun _ h => h) (v := .ref pls) rfl dX2_visit_92 ?_
            refine lv_iload hx hb dX2_visit_95 (lv_at hl 6 rfl) ?_
            refine Y_iald hx hb hK hH hc_pls i rfl (by omega) (by decide) dX2_visit_97 ?_
            refine lv_topi (fun v98 ev98 => ?_)
            have hv98 : v98 = nI (pl i) := by rw [ev98]; exact hS2.2.1 i (by omega)
            subst hv98
            refine lv_iload hx hb dX2_visit_98 (lv_at hl 0 rfl) ?_
            refine lv_iload hx hb dX2_visit_100 (lv_at hl 5 rfl) ?_
            refine lv_aload_n hx hb dX2_visit_102 rfl (lv_at hl 1 rfl) ?_
            refine lv_iload hx hb dX2_visit_103 (lv_at hl 6 rfl) ?_
            refine lv_iload hx hb dX2_visit_105 (lv_at hl 0 rfl) ?_
            refine x_calli (va_runV (As := [.int (nI i), .int (nI (stp + (pdist cur (pl i))))]) (rest := [.int (nI ov), .int (nI (stp + (pdist cur (pl i)))), .int (nI (pl i)), .int (nI (d + 1)), .ref a]) ⟨hx, hb, hml, hown, hts⟩ (c_X2_spilledBy l G A _ a spc (ad 11 i 0) _ _ _ _ _ _ _ _ _ _ _ (six ad 11) _ hc_a hc_spc (hR2.1 11 i 0 ⟨by omega, rfl⟩) i (stp + pdist cur (pl i)) (by omega) (by omega) (if_pos (by omega))) (cwV 2 hts gX2_visit_X2_spilledBy rfl rfl rfl (by decide +kernel) ⟨Nat.le_of_ble_eq_true rfl, Nat.le_of_ble_eq_true rfl⟩) (x_preV hK hH hTt (hc_a) rfl [.int (nI i), .int (nI (stp + (pdist cur (pl i))))]) rfl rfl hl.1 rfl (lv_room (Nat.le_of_ble_eq_true rfl)) dX2_visit_107 ⟨Nat.le_of_ble_eq_true rfl, Nat.le_of_ble_eq_true rfl⟩) hH (fun r107 u H locs hp hH => ?_)
            obtain ⟨hrq, hu9⟩ := hp
            rw [hu9] at hH
            have hsq : r107 = nI (sv i (if 19 < (stp + pdist cur (pl i)) / 60 then 19 else (stp + pdist cur (pl i)) / 60)) := hrq.trans (hS2.2.2.1 i (by omega) _ (by split <;> omega))
            subst hsq
            refine N_iadd hx hb ov (sv i (if 19 < (stp + pdist cur (pl i)) / 60 then 19 else (stp + pdist cur (pl i)) / 60)) rfl rfl dX2_visit_110 ?_
            refine x_callv (va_runS (As := [.ref a, .int (nI (d + 1)), .int (nI (pl i)), .int (nI (stp + (pdist cur (pl i)))), .int (nI (ov + (sv i (if 19 < (stp + pdist cur (pl i)) / 60 then 19 else (stp + pdist cur (pl i)) / 60))))]) (rest := []) ⟨hx, hb, hml, hown, hts⟩ (c3_X2_visit l G A _ a ad E2 cp L wd bw lb I F n (by rw [hpls, hspc, hpor, hpbs, hpvi] at hc_a; exact hc_a) hR2 h60 ha (d + 1) (pl i) (stp + pdist cur (pl i)) (ov + sv i (if 19 < (stp + pdist cur (pl i)) / 60 then 19 else (stp + pdist cur (pl i)) / 60)) p0 pl sv (pre ++ [i]) (vfd (vev pl sv p0) n 3 pre b i) hn hpl hsv hp0 hS2 (by rw [List.length_append, hd]; rfl) (by omega) (by rw [vev_s, hev]; rfl)) (va_cwS 5 hts gX2_visit_X2_visit rfl rfl rfl (by decide +kernel) ⟨Nat.le_of_ble_eq_true rfl, Nat.le_of_ble_eq_true rfl⟩) (x_preS hK hH hTt [.ref a, .int (nI (d + 1)), .int (nI (pl i)), .int (nI (stp + (pdist cur (pl i)))), .int (nI (ov + (sv i (if 19 < (stp + pdist cur (pl i)) / 60 then 19 else (stp + pdist cur (pl i)) / 60))))]) rfl rfl hl.1 rfl (lv_room (Nat.le_of_ble_eq_true rfl)) dX2_visit_111 ⟨Nat.le_of_ble_eq_true rfl, Nat.le_of_ble_eq_true rfl⟩) hH (fun w111 H locs hp hH => ?_)
            obtain ⟨E3, hR3, hS3, h903, hK3⟩ := hp
            have hc_a : w111 a = some (.inr (3, [.int (nI n), .ref (ad 9 0 0), .ref pls, .ref spc, .ref por, .ref pbs, .ref pvi, .ref (ad 13 60 0), .ref (ad 7 1 0), .int (E3 8 0 0 1), .int (E3 8 0 0 2), .int (E3 8 0 0 3)])) := by rw [ha, hpls, hspc, hpor, hpbs, hpvi, ← hS3.1]; exact hR3.1 8 0 0 ⟨rfl, rfl⟩
            have hc_pvi : w111 pvi = some (.inl (G.2 1, 6, .inl (E3 9 4 0))) := by rw [hpvi]; exact hR3.1 9 4 0 ⟨by decide, rfl⟩
            refine lv_aload_n hx hb dX2_visit_114 rfl (lv_at hl 1 rfl) ?_
            refine x_get (C := RX2) (T := TX2) (N := 12) hx hb hts hiX2 hown hK hH hc_a rfl 6 (by decide) hf33 (fun _ h => h) (v := .ref pvi) rfl dX2_visit_115 ?_
            refine lv_iload hx hb dX2_visit_118 (lv_at hl 6 rfl) ?_
            refine lv_iconst (v := 0) hx hb dX2_visit_120 (by decide) ?_
            refine Y_zast hx hb hK hH hc_pvi i rfl (by omega) (by decide) (by decide) dX2_visit_121 (fun H locs hH => ?_)
            have hH : xH G A s.heap H locs (va_up w111 pvi (some (.inl (G.2 1, 6, .inl (upd (E3 9 4 0) i 0))))) := hH
            obtain ⟨w121, ew121⟩ : ∃ z, z = va_up w111 pvi (some (.inl (G.2 1, 6, .inl (upd (E3 9 4 0) i 0)))) := ⟨_, rfl⟩
            rw [← ew121] at hH
            have hf121 : ∀ y, y ≠ ad 9 4 0 → w121 y = w111 y := fun y hy => by rw [ew121, hpvi]; exact upW_ne _ _ hy
            have hR4 := rep_row (i := 4) (f := upd (E3 9 4 0) i 0) hR3 h60 (by decide) (by rw [ew121, hpvi]; exact upW_at _ _ _) hf121
            have hS4 := hS3.pop hm
            have h904 : upK E3 9 4 (upd (E3 9 4 0) i 0) 9 0 0 = E 9 0 0 := by rw [upK_i _ _ _ (by decide)]; exact h903.trans h902
            have hK4 : Kp w w121 ad L := (hK2.trans hK3).trans (fun y hy => hf121 y (hy 9 4 0 ⟨by decide, rfl⟩))
            refine lv_iinc (v := nI (i + 1)) (lv' := [(5, .int (nI (i + 1))), (6, .int (nI (stp + (pdist cur (pl i))))), (0, .ref a), (1, .int (nI d)), (2, .int (nI cur)), (3, .int (nI stp)), (4, .int (nI ov))]) hx hb dX2_visit_122 hl (k := 6) rfl (by exact nI_add _ 1) (by decide) rfl (fun ls hl => ?_)
            refine lv_goto (tgt := 37) hx hb dX2_visit_125 (by decide) ?_
            exact ih37 (i + 1) w121 (upK E3 9 4 (upd (E3 9 4 0) i 0)) (by omega) (by omega) (hR4) (hK4) (by rw [vfd_n hm]; exact hS4) (h904) _ _ hH ls (lv_sub hl [2, 3, 4, 5, 6, 0] rfl)
    · have c23 : ¬ d < n := fun zz => c23 ((nI_ltI (a := d) (b := n) (by omega) (by omega)).mpr zz)
      exact absurd hk (by omega)
  · obtain ⟨q, hbq⟩ := PlS_some hS c4
    have hbs : bsE E n (vev pl sv p0) (some q) := by have h9 := hS.2.2.2.2.2.2; rw [hbq] at h9; exact h9
    have hqb := vev_b hpl hsv hp0 hbs.2.2.2.1
    rw [hbs.2.2.2.2.1] at hqb
    refine lv_aload_n hx hb dX2_visit_7 rfl (lv_at hl 0 rfl) ?_
    refine lv_iload hx hb dX2_visit_8 (lv_at hl 4 rfl) ?_
    refine lv_iload_n hx hb dX2_visit_10 rfl (lv_at hl 3 rfl) ?_
    refine x_calli (va_runV (As := [.int (nI ov), .int (nI stp)]) (rest := []) ⟨hx, hb, hml, hown, hts⟩ (c_X2_beatsBest l G A _ a _ _ _ _ _ _ _ _ _ _ _ _ hc_a (nI ov) (nI stp)) (cwV 2 hts gX2_visit_X2_beatsBest rfl rfl rfl (by decide +kernel) ⟨Nat.le_of_ble_eq_true rfl, Nat.le_of_ble_eq_true rfl⟩) (x_preV hK hH hTt (hc_a) rfl [.int (nI ov), .int (nI stp)]) rfl rfl hl.1 rfl (lv_room (Nat.le_of_ble_eq_true rfl)) dX2_visit_11 ⟨Nat.le_of_ble_eq_true rfl, Nat.le_of_ble_eq_true rfl⟩) hH (fun r11 u H locs hp hH => ?_)
    obtain ⟨hrq, hu9⟩ := hp
    rw [hu9] at hH
    have hrb := hrq.trans (bts hbs (ov := ov) (st := stp) (by omega) (by omega) (by omega) (by omega))
    refine lv_if_ne (tgt := 18) hx hb dX2_visit_14 (by decide) (fun c14 => ?_) (fun c14 => ?_)
    · have hlt : vlt (vev pl sv p0 pre) (vev pl sv p0 q) := by
        rw [hev]
        by_cases z : ov < (vev pl sv p0 q).2.2 ∨ (ov = (vev pl sv p0 q).2.2 ∧ stp < (vev pl sv p0 q).2.1)
        · exact z
        · exact absurd (by rw [hrb, if_neg z]) c14
      have hkeep : vkp (vev pl sv p0) b pre = some pre := by rw [hbq]; exact if_pos hlt
      refine lv_iload_n hx hb dX2_visit_18 rfl (lv_at hl 1 rfl) ?_
      refine lv_aload_n hx hb dX2_visit_19 rfl (lv_at hl 0 rfl) ?_
      refine x_get (C := RX2) (T := TX2) (N := 12) hx hb hts hiX2 hown hK hH hc_a rfl 0 (by decide) hf9 (fun _ h => h) (v := .int (nI n)) rfl dX2_visit_20 ?_
      refine lv_icmp_lt (tgt := 34) hx hb dX2_visit_23 (by decide) (fun c23 => ?_) (fun c23 => ?_)
      · have c23 : d < n := (nI_ltI (a := d) (b := n) (by omega) (by omega)).mp c23
        refine lv_iconst (v := 0) hx hb dX2_visit_34 (by decide) ?_
        refine lv_istore (lv' := [(5, .int 0), (0, .ref a), (1, .int (nI d)), (2, .int (nI cur)), (3, .int (nI stp)), (4, .int (nI ov))]) hx hb dX2_visit_35 hl (by decide) rfl (fun ls hl => ?_)
        suffices loop37 : ∀ (k37 : Nat) (i : Nat) (wl : XW) (E1 : YE), (n < i + k37) → (i ≤ n) → (Rep G wl ad E1 cp L wd bw lb I F) → (Kp w wl ad L) → (PlS E1 n pl sv p0 pre (vfd (vev pl sv p0) n 3 pre b i)) → (E1 9 0 0 = E 9 0 0) → ∀ (H : Heap) (locs : List Loc), xH G A s.heap H locs (wl) → ∀ (ls : Array Slot), lv_has ls 7 [(0, .ref a), (1, .int (nI d)), (2, .int (nI cur)), (3, .int (nI stp)), (4, .int (nI ov)), (5, .int (nI i))] → W p l e (headSpec wsX2_visit _).room s m _ below meth c H locs 0 0 (MQ below _ _ s 0 0 A) (F0 m 37 ls []) from
          loop37 (n + 1) 0 w E (by omega) (by omega) (hR) (fun _ _ => rfl) (hS) (rfl) _ _ hH ls (lv_sub hl [1, 2, 3, 4, 5, 0] rfl)
        intro k37
        induction k37 with
        | zero =>
          intro i wl E1 hfuel hi9 hR1 hKp hS1 h90 H locs hH ls hl
          exact absurd hfuel (by omega)
        | succ k37 ih37 =>
          intro i wl E1 hfuel hi9 hR1 hKp hS1 h90 H locs hH ls hl
          have hc_a : wl a = some (.inr (3, [.int (nI n), .ref (ad 9 0 0), .ref pls, .ref spc, .ref por, .ref pbs, .ref pvi, .ref (ad 13 60 0), .ref (ad 7 1 0), .int (E1 8 0 0 1), .int (E1 8 0 0 2), .int (E1 8 0 0 3)])) := by rw [ha, hpls, hspc, hpor, hpbs, hpvi, ← hS1.1]; exact hR1.1 8 0 0 ⟨rfl, rfl⟩
          have hc_pls : wl pls = some (.inl (G.2 0, 6, .inl (E1 9 1 0))) := by rw [hpls]; exact hR1.1 9 1 0 ⟨by decide, rfl⟩
          have hc_por : wl por = some (.inl (G.2 0, 6, .inl (E1 9 2 0))) := by rw [hpor]; exact hR1.1 9 2 0 ⟨by decide, rfl⟩
          have hc_pvi : wl pvi = some (.inl (G.2 1, 6, .inl (E1 9 4 0))) := by rw [hpvi]; exact hR1.1 9 4 0 ⟨by decide, rfl⟩
          refine lv_iload hx hb dX2_visit_37 (lv_at hl 5 rfl) ?_
          refine lv_aload_n hx hb dX2_visit_39 rfl (lv_at hl 0 rfl) ?_
          refine x_get (C := RX2) (T := TX2) (N := 12) hx hb hts hiX2 hown hK hH hc_a rfl 0 (by decide) hf9 (fun _ h => h) (v := .int (nI n)) rfl dX2_visit_40 ?_
          refine lv_icmp_ge (tgt := 128) hx hb dX2_visit_43 (by decide) (fun c43 => ?_) (fun c43 => ?_)
          · have c43 : n ≤ i := (nI_leI (a := n) (b := i) (by omega) (by omega)).mp c43
            exact x_vret wl hx hb hr hlocks hK hH (⟨E1, hR1, (by have h9 : (lvs n 4 pre).foldl (vkp (vev pl sv p0)) b = vfd (vev pl sv p0) n 3 pre b n := vfd_all _ n 3 pre b; rw [h9]; rw [show i = n by omega] at hS1; exact hS1), h90, hKp⟩) dX2_visit_128
          · have c43 : ¬ n ≤ i := fun zz => c43 ((nI_leI (a := n) (b := i) (by omega) (by omega)).mpr zz)
            refine lv_aload_n hx hb dX2_visit_46 rfl (lv_at hl 0 rfl) ?_
            refine x_get (C := RX2) (T := TX2) (N := 12) hx hb hts hiX2 hown hK hH hc_a rfl 6 (by decide) hf33 (fun _ h => h) (v := .ref pvi) rfl dX2_visit_47 ?_
            refine lv_iload hx hb dX2_visit_50 (lv_at hl 5 rfl) ?_
            refine Y_zald hx hb hK hH hc_pvi i rfl (by omega) (by decide) dX2_visit_52 ?_
            refine lv_if_ne (tgt := 122) hx hb dX2_visit_53 (by decide) (fun c53 => ?_) (fun c53 => ?_)
            · have hm : i ∈ pre := Decidable.byContradiction fun z => c53 (by rw [hS1.2.2.2.2.1 i, if_neg z])
              refine lv_iinc (v := nI (i + 1)) (lv' := [(5, .int (nI (i + 1))), (0, .ref a), (1, .int (nI d)), (2, .int (nI cur)), (3, .int (nI stp)), (4, .int (nI ov))]) hx hb dX2_visit_122 hl (k := 5) rfl (by exact nI_add _ 1) (by decide) rfl (fun ls hl => ?_)
              refine lv_goto (tgt := 37) hx hb dX2_visit_125 (by decide) ?_
              exact ih37 (i + 1) wl E1 (by omega) (by omega) (hR1) (hKp) (by rw [vfd_y hm]; exact hS1) (h90) _ _ hH ls (lv_sub hl [1, 2, 3, 4, 5, 0] rfl)
            · have hm : i ∉ pre := fun z => by rw [hS1.2.2.2.2.1 i, if_pos z] at c53; exact absurd c53 (by decide)
              refine lv_iload_n hx hb dX2_visit_56 rfl (lv_at hl 3 rfl) ?_
              refine lv_iload_n hx hb dX2_visit_57 rfl (lv_at hl 2 rfl) ?_
              refine lv_aload_n hx hb dX2_visit_58 rfl (lv_at hl 0 rfl) ?_
              refine x_get (C := RX2) (T := TX2) (N := 12) hx hb hts hiX2 hown hK hH hc_a rfl 2 (by decide) hf19 (fun _ h => h) (v := .ref pls) rfl dX2_visit_59 ?_
              refine lv_iload hx hb dX2_visit_62 (lv_at hl 5 rfl) ?_
              refine Y_iald hx hb hK hH hc_pls i rfl (by omega) (by decide) dX2_visit_64 ?_
              refine lv_topi (fun v65 ev65 => ?_)
              have hv65 : v65 = nI (pl i) := by rw [ev65]; exact hS1.2.1 i (by omega)
              subst hv65
              refine x_calli (va_runS (As := [.int (nI cur), .int (nI (pl i))]) (rest := [.int (nI stp)]) ⟨hx, hb, hml, hown, hts⟩ (c_X2_stepsBetween l G A _ (nI cur) (nI (pl i))) (va_cwS 2 hts gX2_visit_X2_stepsBetween rfl rfl rfl (by decide +kernel) ⟨Nat.le_of_ble_eq_true rfl, Nat.le_of_ble_eq_true rfl⟩) (x_preS hK hH hTt [.int (nI cur), .int (nI (pl i))]) rfl rfl hl.1 rfl (lv_room (Nat.le_of_ble_eq_true rfl)) dX2_visit_65 ⟨Nat.le_of_ble_eq_true rfl, Nat.le_of_ble_eq_true rfl⟩) hH (fun r65 u H locs hp hH => ?_)
              have hpd : r65 = nI (pdist cur (pl i)) := hp.trans (stp_nat hb1.1 (hpl i (by omega)))
              subst hpd
              have hpdb : pdist cur (pl i) ≤ 198 := pdist_b hb1.1 (hpl i (by omega))
              refine N_iadd hx hb stp (pdist cur (pl i)) rfl rfl dX2_visit_68 ?_
              refine lv_istore (lv' := [(6, .int (nI (stp + (pdist cur (pl i))))), (0, .ref a), (1, .int (nI d)), (2, .int (nI cur)), (3, .int (nI stp)), (4, .int (nI ov)), (5, .int (nI i))]) hx hb dX2_visit_69 hl (by decide) rfl (fun ls hl => ?_)
              refine lv_aload_n hx hb dX2_visit_71 rfl (lv_at hl 1 rfl) ?_
              refine x_get (C := RX2) (T := TX2) (N := 12) hx hb hts hiX2 hown hK hH hc_a rfl 6 (by decide) hf33 (fun _ h => h) (v := .ref pvi) rfl dX2_visit_72 ?_
              refine lv_iload hx hb dX2_visit_75 (lv_at hl 6 rfl) ?_
              refine lv_iconst (v := 1) hx hb dX2_visit_77 (by decide) ?_
              refine Y_zast hx hb hK hH hc_pvi i rfl (by omega) (by decide) (by decide) dX2_visit_78 (fun H locs hH => ?_)
              have hH : xH G A s.heap H locs (va_up wl pvi (some (.inl (G.2 1, 6, .inl (upd (E1 9 4 0) i 1))))) := hH
              obtain ⟨w78, ew78⟩ : ∃ z, z = va_up wl pvi (some (.inl (G.2 1, 6, .inl (upd (E1 9 4 0) i 1)))) := ⟨_, rfl⟩
              rw [← ew78] at hH
              have hf78 : ∀ y, y ≠ ad 9 4 0 → w78 y = wl y := fun y hy => by rw [ew78, hpvi]; exact upW_ne _ _ hy
              have hR78 := rep_row (i := 4) (f := upd (E1 9 4 0) i 1) hR1 h60 (by decide) (by rw [ew78, hpvi]; exact upW_at _ _ _) hf78
              have ne_pv : ∀ z, z ≠ ad 9 4 0 → w78 z = wl z := hf78
              have hc_a : w78 a = some (.inr (3, [.int (nI n), .ref (ad 9 0 0), .ref pls, .ref spc, .ref por, .ref pbs, .ref pvi, .ref (ad 13 60 0), .ref (ad 7 1 0), .int (E1 8 0 0 1), .int (E1 8 0 0 2), .int (E1 8 0 0 3)])) := (hf78 a (by rw [ha]; exact hR1.ne (k := 8) (i := 0) (j := 0) (k' := 9) (i' := 4) (j' := 0) ⟨rfl, rfl⟩ ⟨by decide, rfl⟩ (by decide))).trans hc_a
              have hc_por : w78 por = some (.inl (G.2 0, 6, .inl (E1 9 2 0))) := by rw [hpor]; exact hR78.1 9 2 0 ⟨by decide, rfl⟩
              refine lv_aload_n hx hb dX2_visit_79 rfl (lv_at hl 1 rfl) ?_
              refine x_get (C := RX2) (T := TX2) (N := 12) hx hb hts hiX2 hown hK hH hc_a rfl 4 (by decide) hf27 (fun _ h => h) (v := .ref por) rfl dX2_visit_80 ?_
              refine lv_iload_n hx hb dX2_visit_83 rfl (lv_at hl 2 rfl) ?_
              refine lv_iload hx hb dX2_visit_84 (lv_at hl 6 rfl) ?_
              refine Y_iast hx hb hK hH hc_por d rfl (by omega) (by decide) dX2_visit_86 (fun H locs hH => ?_)
              have hH : xH G A s.heap H locs (va_up w78 por (some (.inl (G.2 0, 6, .inl (upd (E1 9 2 0) d (nI i)))))) := hH
              obtain ⟨w86, ew86⟩ : ∃ z, z = va_up w78 por (some (.inl (G.2 0, 6, .inl (upd (E1 9 2 0) d (nI i))))) := ⟨_, rfl⟩
              rw [← ew86] at hH
              have hf86 : ∀ y, y ≠ ad 9 2 0 → w86 y = w78 y := fun y hy => by rw [ew86, hpor]; exact upW_ne _ _ hy
              have hR2 := rep_row (i := 2) (f := upd (E1 9 2 0) d (nI i)) hR78 h60 (by decide) (by rw [ew86, hpor]; exact upW_at _ _ _) hf86
              obtain ⟨E2, hE2⟩ : ∃ z, z = upK (upK E1 9 4 (upd (E1 9 4 0) i 1)) 9 2 (upd (E1 9 2 0) d (nI i)) := ⟨_, rfl⟩
              rw [← hE2] at hR2
              have hS2 : PlS E2 n pl sv p0 (pre ++ [i]) (vfd (vev pl sv p0) n 3 pre b i) := by rw [hE2, ← hd]; exact hS1.push (by omega)
              have h902 : E2 9 0 0 = E 9 0 0 := by rw [hE2, upK_i _ _ _ (by decide), upK_i _ _ _ (by decide)]; exact h90
              have hK2 : Kp w w86 ad L := hKp.trans (fun y hy => (hf86 y (hy 9 2 0 ⟨by decide, rfl⟩)).trans (hf78 y (hy 9 4 0 ⟨by decide, rfl⟩)))
              have hc_a : w86 a = some (.inr (3, [.int (nI n), .ref (ad 9 0 0), .ref pls, .ref spc, .ref por, .ref pbs, .ref pvi, .ref (ad 13 60 0), .ref (ad 7 1 0), .int (E2 8 0 0 1), .int (E2 8 0 0 2), .int (E2 8 0 0 3)])) := by rw [ha, hpls, hspc, hpor, hpbs, hpvi, ← hS2.1]; exact hR2.1 8 0 0 ⟨rfl, rfl⟩
              have hc_pls : w86 pls = some (.inl (G.2 0, 6, .inl (E2 9 1 0))) := by rw [hpls]; exact hR2.1 9 1 0 ⟨by decide, rfl⟩
              have hc_spc : w86 spc = some (.inl (G.2 5, 6, .inr (.inr (.inr (.inr (six ad 11)))))) := by rw [hspc]; exact hR2.1 10 0 0 ⟨rfl, rfl⟩
              refine lv_aload_n hx hb dX2_visit_87 rfl (lv_at hl 1 rfl) ?_
              refine lv_iload_n hx hb dX2_visit_88 rfl (lv_at hl 2 rfl) ?_
              refine lv_iconst (v := 1) hx hb dX2_visit_89 (by decide) ?_
              refine N_iadd hx hb d 1 rfl rfl dX2_visit_90 ?_
              refine lv_aload_n hx hb dX2_visit_91 rfl (lv_at hl 1 rfl) ?_
              refine x_get (C := RX2) (T := TX2) (N := 12) hx hb hts hiX2 hown hK hH hc_a rfl 2 (by decide) hf19 (fun _ h => h) (v := .ref pls) rfl dX2_visit_92 ?_
              refine lv_iload hx hb dX2_visit_95 (lv_at hl 6 rfl) ?_
              refine Y_iald hx hb hK hH hc_pls i rfl (by omega) (by decide) dX2_visit_97 ?_
              refine lv_topi (fun v98 ev98 => ?_)
              have hv98 : v98 = nI (pl i) := by rw [ev98]; exact hS2.2.1 i (by omega)
              subst hv98
              refine lv_iload hx hb dX2_visit_98 (lv_at hl 0 rfl) ?_
              refine lv_iload hx hb dX2_visit_100 (lv_at hl 5 rfl) ?_
              refine lv_aload_n hx hb dX2_visit_102 rfl (lv_at hl 1 rfl) ?_
              refine lv_iload hx hb dX2_visit_103 (lv_at hl 6 rfl) ?_
              refine lv_iload hx hb dX2_visit_105 (lv_at hl 0 rfl) ?_
              refine x_calli (va_runV (As := [.int (nI i), .int (nI (stp + (pdist cur (pl i))))]) (rest := [.int (nI ov), .int (nI (stp + (pdist cur (pl i)))), .int (nI (pl i)), .int (nI (d + 1)), .ref a]) ⟨hx, hb, hml, hown, hts⟩ (c_X2_spilledBy l G A _ a spc (ad 11 i 0) _ _ _ _ _ _ _ _ _ _ _ (six ad 11) _ hc_a hc_spc (hR2.1 11 i 0 ⟨by omega, rfl⟩) i (stp + pdist cur (pl i)) (by omega) (by omega) (if_pos (by omega))) (cwV 2 hts gX2_visit_X2_spilledBy rfl rfl rfl (by decide +kernel) ⟨Nat.le_of_ble_eq_true rfl, Nat.le_of_ble_eq_true rfl⟩) (x_preV hK hH hTt (hc_a) rfl [.int (nI i), .int (nI (stp + (pdist cur (pl i))))]) rfl rfl hl.1 rfl (lv_room (Nat.le_of_ble_eq_true rfl)) dX2_visit_107 ⟨Nat.le_of_ble_eq_true rfl, Nat.le_of_ble_eq_true rfl⟩) hH (fun r107 u H locs hp hH => ?_)
              obtain ⟨hrq, hu9⟩ := hp
              rw [hu9] at hH
              have hsq : r107 = nI (sv i (if 19 < (stp + pdist cur (pl i)) / 60 then 19 else (stp + pdist cur (pl i)) / 60)) := hrq.trans (hS2.2.2.1 i (by omega) _ (by split <;> omega))
              subst hsq
              refine N_iadd hx hb ov (sv i (if 19 < (stp + pdist cur (pl i)) / 60 then 19 else (stp + pdist cur (pl i)) / 60)) rfl rfl dX2_visit_110 ?_
              refine x_callv (va_runS (As := [.ref a, .int (nI (d + 1)), .int (nI (pl i)), .int (nI (stp + (pdist cur (pl i)))), .int (nI (ov + (sv i (if 19 < (stp + pdist cur (pl i)) / 60 then 19 else (stp + pdist cur (pl i)) / 60))))]) (rest := []) ⟨hx, hb, hml, hown, hts⟩ (c3_X2_visit l G A _ a ad E2 cp L wd bw lb I F n (by rw [hpls, hspc, hpor, hpbs, hpvi] at hc_a; exact hc_a) hR2 h60 ha (d + 1) (pl i) (stp + pdist cur (pl i)) (ov + sv i (if 19 < (stp + pdist cur (pl i)) / 60 then 19 else (stp + pdist cur (pl i)) / 60)) p0 pl sv (pre ++ [i]) (vfd (vev pl sv p0) n 3 pre b i) hn hpl hsv hp0 hS2 (by rw [List.length_append, hd]; rfl) (by omega) (by rw [vev_s, hev]; rfl)) (va_cwS 5 hts gX2_visit_X2_visit rfl rfl rfl (by decide +kernel) ⟨Nat.le_of_ble_eq_true rfl, Nat.le_of_ble_eq_true rfl⟩) (x_preS hK hH hTt [.ref a, .int (nI (d + 1)), .int (nI (pl i)), .int (nI (stp + (pdist cur (pl i)))), .int (nI (ov + (sv i (if 19 < (stp + pdist cur (pl i)) / 60 then 19 else (stp + pdist cur (pl i)) / 60))))]) rfl rfl hl.1 rfl (lv_room (Nat.le_of_ble_eq_true rfl)) dX2_visit_111 ⟨Nat.le_of_ble_eq_true rfl, Nat.le_of_ble_eq_true rfl⟩) hH (fun w111 H locs hp hH => ?_)
              obtain ⟨E3, hR3, hS3, h903, hK3⟩ := hp
              have hc_a : w111 a = some (.inr (3, [.int (nI n), .ref (ad 9 0 0), .ref pls, .ref spc, .ref por, .ref pbs, .ref pvi, .ref (ad 13 60 0), .ref (ad 7 1 0), .int (E3 8 0 0 1), .int (E3 8 0 0 2), .int (E3 8 0 0 3)])) := by rw [ha, hpls, hspc, hpor, hpbs, hpvi, ← hS3.1]; exact hR3.1 8 0 0 ⟨rfl, rfl⟩
              have hc_pvi : w111 pvi = some (.inl (G.2 1, 6, .inl (E3 9 4 0))) := by rw [hpvi]; exact hR3.1 9 4 0 ⟨by decide, rfl⟩
              refine lv_aload_n hx hb dX2_visit_114 rfl (lv_at hl 1 rfl) ?_
              refine x_get (C := RX2) (T := TX2) (N := 12) hx hb hts hiX2 hown hK hH hc_a rfl 6 (by decide) hf33 (fun _ h => h) (v := .ref pvi) rfl dX2_visit_115 ?_
              refine lv_iload hx hb dX2_visit_118 (lv_at hl 6 rfl) ?_
              refine lv_iconst (v := 0) hx hb dX2_visit_120 (by decide) ?_
              refine Y_zast hx hb hK hH hc_pvi i rfl (by omega) (by decide) (by decide) dX2_visit_121 (fun H locs hH => ?_)
              have hH : xH G A s.heap H locs (va_up w111 pvi (some (.inl (G.2 1, 6, .inl (upd (E3 9 4 0) i 0))))) := hH
              obtain ⟨w121, ew121⟩ : ∃ z, z = va_up w111 pvi (some (.inl (G.2 1, 6, .inl (upd (E3 9 4 0) i 0)))) := ⟨_, rfl⟩
              rw [← ew121] at hH
              have hf121 : ∀ y, y ≠ ad 9 4 0 → w121 y = w111 y := fun y hy => by rw [ew121, hpvi]; exact upW_ne _ _ hy
              have hR4 := rep_row (i := 4) (f := upd (E3 9 4 0) i 0) hR3 h60 (by decide) (by rw [ew121, hpvi]; exact upW_at _ _ _) hf121
              have hS4 := hS3.pop hm
              have h904 : upK E3 9 4 (upd (E3 9 4 0) i 0) 9 0 0 = E 9 0 0 := by rw [upK_i _ _ _ (by decide)]; exact h903.trans h902
              have hK4 : Kp w w121 ad L := (hK2.trans hK3).trans (fun y hy => hf121 y (hy 9 4 0 ⟨by decide, rfl⟩))
              refine lv_iinc (v := nI (i + 1)) (lv' := [(5, .int (nI (i + 1))), (6, .int (nI (stp + (pdist cur (pl i))))), (0, .ref a), (1, .int (nI d)), (2, .int (nI cur)), (3, .int (nI stp)), (4, .int (nI ov))]) hx hb dX2_visit_122 hl (k := 6) rfl (by exact nI_add _ 1) (by decide) rfl (fun ls hl => ?_)
              refine lv_goto (tgt := 37) hx hb dX2_visit_125 (by decide) ?_
              exact ih37 (i + 1) w121 (upK E3 9 4 (upd (E3 9 4 0) i 0)) (by omega) (by omega) (hR4) (hK4) (by rw [vfd_n hm]; exact hS4) (h904) _ _ hH ls (lv_sub hl [2, 3, 4, 5, 6, 0] rfl)
      · have c23 : ¬ d < n := fun zz => c23 ((nI_ltI (a := d) (b := n) (by omega) (by omega)).mpr zz)
        exact absurd hk (by omega)
    · have hcut : ¬ vlt (vev pl sv p0 pre) (vev pl sv p0 q) := fun z => by rw [hev] at z; rw [hrb, if_pos z] at c14; exact absurd c14 (by decide)
      exact x_vret w hx hb hr hlocks hK hH (⟨E, hR, (by rw [hbq, vis_cut hcut, ← hbq]; exact hS), rfl, fun _ _ => rfl⟩) dX2_visit_17

set_option maxHeartbeats 4000000 in
set_option maxRecDepth 100000 in
theorem c5_X2_visit (l : Launch) (G : XG) (A : Nat → Prop) (w : XW) (a : Nat) (ad : YA) (E : YE) (cp L wd bw : Nat → Nat) (lb : Nat → Option Nat) (I : Nat → Int32) (F : Nat → Nat → Int32) (n : Nat) (hc_a : w a = some (.inr (3, [.int (nI n), .ref (ad 9 0 0), .ref (ad 9 1 0), .ref (ad 10 0 0), .ref (ad 9 2 0), .ref (ad 9 3 0), .ref (ad 9 4 0), .ref (ad 13 60 0), .ref (ad 7 1 0), .int (E 8 0 0 1), .int (E 8 0 0 2), .int (E 8 0 0 3)]))) (hR : Rep G w ad E cp L wd bw lb I F) (h60 : L 0 ≤ 60) (ha : a = ad 8 0 0) (d cur stp ov p0 : Nat) (pl : Nat → Nat) (sv : Nat → Nat → Nat) (pre : List Nat) (b : Option (List Nat)) (hn : n ≤ 6) (hpl : ∀ j, j < n → pl j ≤ 9999) (hsv : ∀ k, k < n → ∀ q, q < 20 → sv k q ≤ 4000) (hp0 : p0 ≤ 9999) (hS : PlS E n pl sv p0 pre b) (hd : pre.length = d) (hk : d + 5 = n) (hev : vev pl sv p0 pre = (cur, stp, ov)) : Met l yX2_visit wsX2_visit ({ frames := 6, cells := 0, slots := 0, locals := 153 }) (va_Pc [.ref a, .int (nI d), .int (nI cur), .int (nI stp), .int (nI ov)] (xP G A (w))) (va_Qv (fun (u : XW) => VsP G w u ad E cp L wd bw lb I F n pl sv p0 pre ((lvs n 5 pre).foldl (vkp (vev pl sv p0)) b)) (fun u t => xB G A (u) t) A) 0 0 A := by
  refine Met.ofW (cc := cX2_visit) (maxL := 7) (ret := none) (by decide) rfl ?_
  intro p e s m args below meth c s₁ B hml hv
  obtain ⟨rfl, hK, hH, hTt⟩ := hv
  have hx := B.exec
  have hb := B.bytes
  have hr := B.returns
  have hts := atoms_spec (ws := wsX2_visit) B.pre
  have hown : s.vm.findClass RX2 = some m.cls := findClass_of_methodNamed B.named
  have hlocks := B.notSynchronized
  have hiX2 : ∀ w ∈ wsX20, w ∈ wsX2_visit := by decide +kernel
  have hf9 := hts (.fieldLink RX2 9 "ResinWoods$Planner" "size" "I") (by decide +kernel)
  have hf19 := hts (.fieldLink RX2 19 "ResinWoods$Planner" "places" "[I") (by decide +kernel)
  have hf27 := hts (.fieldLink RX2 27 "ResinWoods$Planner" "order" "[I") (by decide +kernel)
  have hf33 := hts (.fieldLink RX2 33 "ResinWoods$Planner" "isVisited" "[Z") (by decide +kernel)
  have hf51 := hts (.fieldLink RX2 51 "ResinWoods$Planner" "hasBest" "Z") (by decide +kernel)
  have hl := lv_entry ([.ref a, .int (nI d), .int (nI cur), .int (nI stp), .int (nI ov)]) (n := 7) (Nat.le_of_ble_eq_true rfl)
  rw [lg_entry_eq]
  generalize (lg_sl ([.ref a, .int (nI d), .int (nI cur), .int (nI stp), .int (nI ov)]) ++ List.replicate (7 - (lg_sl ([.ref a, .int (nI d), .int (nI cur), .int (nI stp), .int (nI ov)])).length) Slot.unset).toArray = ls at hl ⊢
  have hl : lv_has ls 7 [(0, .ref a), (1, .int (nI d)), (2, .int (nI cur)), (3, .int (nI stp)), (4, .int (nI ov))] := hl
  obtain ⟨pls, hpls⟩ : ∃ z, z = ad 9 1 0 := ⟨_, rfl⟩
  obtain ⟨spc, hspc⟩ : ∃ z, z = ad 10 0 0 := ⟨_, rfl⟩
  obtain ⟨por, hpor⟩ : ∃ z, z = ad 9 2 0 := ⟨_, rfl⟩
  obtain ⟨pbs, hpbs⟩ : ∃ z, z = ad 9 3 0 := ⟨_, rfl⟩
  obtain ⟨pvi, hpvi⟩ : ∃ z, z = ad 9 4 0 := ⟨_, rfl⟩
  rw [← hpls, ← hspc, ← hpor, ← hpbs, ← hpvi] at hc_a
  have hb1 : cur ≤ 9999 ∧ stp ≤ 198 * d ∧ ov ≤ 4000 * d := by have h9 := vev_b hpl hsv hp0 hS.2.2.2.2.2.1; rw [hev, hd] at h9; exact h9
  have hc_por : w por = some (.inl (G.2 0, 6, .inl (E 9 2 0))) := by rw [hpor]; exact hR.1 9 2 0 ⟨by decide, rfl⟩
  have hc_pbs : w pbs = some (.inl (G.2 0, 6, .inl (E 9 3 0))) := by rw [hpbs]; exact hR.1 9 3 0 ⟨by decide, rfl⟩
  refine lv_aload_n hx hb dX2_visit_0 rfl (lv_at hl 0 rfl) ?_
  refine x_get (C := RX2) (T := TX2) (N := 12) hx hb hts hiX2 hown hK hH hc_a rfl 9 (by decide) hf51 (fun _ h => h) (v := .int (E 8 0 0 1)) rfl dX2_visit_1 ?_
  refine lv_if_eq (tgt := 18) hx hb dX2_visit_4 (by decide) (fun c4 => ?_) (fun c4 => ?_)
  · have hkeep : vkp (vev pl sv p0) b pre = some pre := by rw [PlS_none hS c4]; rfl
    refine lv_iload_n hx hb dX2_visit_18 rfl (lv_at hl 1 rfl) ?_
    refine lv_aload_n hx hb dX2_visit_19 rfl (lv_at hl 0 rfl) ?_
    refine x_get (C := RX2) (T := TX2) (N := 12) hx hb hts hiX2 hown hK hH hc_a rfl 0 (by decide) hf9 (fun _ h => h) (v := .int (nI n)) rfl dX2_visit_20 ?_
    refine lv_icmp_lt (tgt := 34) hx hb dX2_visit_23 (by decide) (fun c23 => ?_) (fun c23 => ?_)
    · have c23 : d < n := (nI_ltI (a := d) (b := n) (by omega) (by omega)).mp c23
      refine lv_iconst (v := 0) hx hb dX2_visit_34 (by decide) ?_
      refine lv_istore (lv' := [(5, .int 0), (0, .ref a), (1, .int (nI d)), (2, .int (nI cur)), (3, .int (nI stp)), (4, .int (nI ov))]) hx hb dX2_visit_35 hl (by decide) rfl (fun ls hl => ?_)
      suffices loop37 : ∀ (k37 : Nat) (i : Nat) (wl : XW) (E1 : YE), (n < i + k37) → (i ≤ n) → (Rep G wl ad E1 cp L wd bw lb I F) → (Kp w wl ad L) → (PlS E1 n pl sv p0 pre (vfd (vev pl sv p0) n 4 pre b i)) → (E1 9 0 0 = E 9 0 0) → ∀ (H : Heap) (locs : List Loc), xH G A s.heap H locs (wl) → ∀ (ls : Array Slot), lv_has ls 7 [(0, .ref a), (1, .int (nI d)), (2, .int (nI cur)), (3, .int (nI stp)), (4, .int (nI ov)), (5, .int (nI i))] → W p l e (headSpec wsX2_visit _).room s m _ below meth c H locs 0 0 (MQ below _ _ s 0 0 A) (F0 m 37 ls []) from
        loop37 (n + 1) 0 w E (by omega) (by omega) (hR) (fun _ _ => rfl) (hS) (rfl) _ _ hH ls (lv_sub hl [1, 2, 3, 4, 5, 0] rfl)
      intro k37
      induction k37 with
      | zero =>
        intro i wl E1 hfuel hi9 hR1 hKp hS1 h90 H locs hH ls hl
        exact absurd hfuel (by omega)
      | succ k37 ih37 =>
        intro i wl E1 hfuel hi9 hR1 hKp hS1 h90 H locs hH ls hl
        have hc_a : wl a = some (.inr (3, [.int (nI n), .ref (ad 9 0 0), .ref pls, .ref spc, .ref por, .ref pbs, .ref pvi, .ref (ad 13 60 0), .ref (ad 7 1 0), .int (E1 8 0 0 1), .int (E1 8 0 0 2), .int (E1 8 0 0 3)])) := by rw [ha, hpls, hspc, hpor, hpbs, hpvi, ← hS1.1]; exact hR1.1 8 0 0 ⟨rfl, rfl⟩
        have hc_pls : wl pls = some (.inl (G.2 0, 6, .inl (E1 9 1 0))) := by rw [hpls]; exact hR1.1 9 1 0 ⟨by decide, rfl⟩
        have hc_por : wl por = some (.inl (G.2 0, 6, .inl (E1 9 2 0))) := by rw [hpor]; exact hR1.1 9 2 0 ⟨by decide, rfl⟩
        have hc_pvi : wl pvi = some (.inl (G.2 1, 6, .inl (E1 9 4 0))) := by rw [hpvi]; exact hR1.1 9 4 0 ⟨by decide, rfl⟩
        refine lv_iload hx hb dX2_visit_37 (lv_at hl 5 rfl) ?_
        refine lv_aload_n hx hb dX2_visit_39 rfl (lv_at hl 0 rfl) ?_
        refine x_get (C := RX2) (T := TX2) (N := 12) hx hb hts hiX2 hown hK hH hc_a rfl 0 (by decide) hf9 (fun _ h => h) (v := .int (nI n)) rfl dX2_visit_40 ?_
        refine lv_icmp_ge (tgt := 128) hx hb dX2_visit_43 (by decide) (fun c43 => ?_) (fun c43 => ?_)
        · have c43 : n ≤ i := (nI_leI (a := n) (b := i) (by omega) (by omega)).mp c43
          exact x_vret wl hx hb hr hlocks hK hH (⟨E1, hR1, (by have h9 : (lvs n 5 pre).foldl (vkp (vev pl sv p0)) b = vfd (vev pl sv p0) n 4 pre b n := vfd_all _ n 4 pre b; rw [h9]; rw [show i = n by omega] at hS1; exact hS1), h90, hKp⟩) dX2_visit_128
        · have c43 : ¬ n ≤ i := fun zz => c43 ((nI_leI (a := n) (b := i) (by omega) (by omega)).mpr zz)
          refine lv_aload_n hx hb dX2_visit_46 rfl (lv_at hl 0 rfl) ?_
          refine x_get (C := RX2) (T := TX2) (N := 12) hx hb hts hiX2 hown hK hH hc_a rfl 6 (by decide) hf33 (fun _ h => h) (v := .ref pvi) rfl dX2_visit_47 ?_
          refine lv_iload hx hb dX2_visit_50 (lv_at hl 5 rfl) ?_
          refine Y_zald hx hb hK hH hc_pvi i rfl (by omega) (by decide) dX2_visit_52 ?_
          refine lv_if_ne (tgt := 122) hx hb dX2_visit_53 (by decide) (fun c53 => ?_) (fun c53 => ?_)
          · have hm : i ∈ pre := Decidable.byContradiction fun z => c53 (by rw [hS1.2.2.2.2.1 i, if_neg z])
            refine lv_iinc (v := nI (i + 1)) (lv' := [(5, .int (nI (i + 1))), (0, .ref a), (1, .int (nI d)), (2, .int (nI cur)), (3, .int (nI stp)), (4, .int (nI ov))]) hx hb dX2_visit_122 hl (k := 5) rfl (by exact nI_add _ 1) (by decide) rfl (fun ls hl => ?_)
            refine lv_goto (tgt := 37) hx hb dX2_visit_125 (by decide) ?_
            exact ih37 (i + 1) wl E1 (by omega) (by omega) (hR1) (hKp) (by rw [vfd_y hm]; exact hS1) (h90) _ _ hH ls (lv_sub hl [1, 2, 3, 4, 5, 0] rfl)
          · have hm : i ∉ pre := fun z => by rw [hS1.2.2.2.2.1 i, if_pos z] at c53; exact absurd c53 (by decide)
            refine lv_iload_n hx hb dX2_visit_56 rfl (lv_at hl 3 rfl) ?_
            refine lv_iload_n hx hb dX2_visit_57 rfl (lv_at hl 2 rfl) ?_
            refine lv_aload_n hx hb dX2_visit_58 rfl (lv_at hl 0 rfl) ?_
            refine x_get (C := RX2) (T := TX2) (N := 12) hx hb hts hiX2 hown hK hH hc_a rfl 2 (by decide) hf19 (fun _ h => h) (v := .ref pls) rfl dX2_visit_59 ?_
            refine lv_iload hx hb dX2_visit_62 (lv_at hl 5 rfl) ?_
            refine Y_iald hx hb hK hH hc_pls i rfl (by omega) (by decide) dX2_visit_64 ?_
            refine lv_topi (fun v65 ev65 => ?_)
            have hv65 : v65 = nI (pl i) := by rw [ev65]; exact hS1.2.1 i (by omega)
            subst hv65
            refine x_calli (va_runS (As := [.int (nI cur), .int (nI (pl i))]) (rest := [.int (nI stp)]) ⟨hx, hb, hml, hown, hts⟩ (c_X2_stepsBetween l G A _ (nI cur) (nI (pl i))) (va_cwS 2 hts gX2_visit_X2_stepsBetween rfl rfl rfl (by decide +kernel) ⟨Nat.le_of_ble_eq_true rfl, Nat.le_of_ble_eq_true rfl⟩) (x_preS hK hH hTt [.int (nI cur), .int (nI (pl i))]) rfl rfl hl.1 rfl (lv_room (Nat.le_of_ble_eq_true rfl)) dX2_visit_65 ⟨Nat.le_of_ble_eq_true rfl, Nat.le_of_ble_eq_true rfl⟩) hH (fun r65 u H locs hp hH => ?_)
            have hpd : r65 = nI (pdist cur (pl i)) := hp.trans (stp_nat hb1.1 (hpl i (by omega)))
            subst hpd
            have hpdb : pdist cur (pl i) ≤ 198 := pdist_b hb1.1 (hpl i (by omega))
            refine N_iadd hx hb stp (pdist cur (pl i)) rfl rfl dX2_visit_68 ?_
            refine lv_istore (lv' := [(6, .int (nI (stp + (pdist cur (pl i))))), (0, .ref a), (1, .int (nI d)), (2, .int (nI cur)), (3, .int (nI stp)), (4, .int (nI ov)), (5, .int (nI i))]) hx hb dX2_visit_69 hl (by decide) rfl (fun ls hl => ?_)
            refine lv_aload_n hx hb dX2_visit_71 rfl (lv_at hl 1 rfl) ?_
            refine x_get (C := RX2) (T := TX2) (N := 12) hx hb hts hiX2 hown hK hH hc_a rfl 6 (by decide) hf33 (fun _ h => h) (v := .ref pvi) rfl dX2_visit_72 ?_
            refine lv_iload hx hb dX2_visit_75 (lv_at hl 6 rfl) ?_
            refine lv_iconst (v := 1) hx hb dX2_visit_77 (by decide) ?_
            refine Y_zast hx hb hK hH hc_pvi i rfl (by omega) (by decide) (by decide) dX2_visit_78 (fun H locs hH => ?_)
            have hH : xH G A s.heap H locs (va_up wl pvi (some (.inl (G.2 1, 6, .inl (upd (E1 9 4 0) i 1))))) := hH
            obtain ⟨w78, ew78⟩ : ∃ z, z = va_up wl pvi (some (.inl (G.2 1, 6, .inl (upd (E1 9 4 0) i 1)))) := ⟨_, rfl⟩
            rw [← ew78] at hH
            have hf78 : ∀ y, y ≠ ad 9 4 0 → w78 y = wl y := fun y hy => by rw [ew78, hpvi]; exact upW_ne _ _ hy
            have hR78 := rep_row (i := 4) (f := upd (E1 9 4 0) i 1) hR1 h60 (by decide) (by rw [ew78, hpvi]; exact upW_at _ _ _) hf78
            have ne_pv : ∀ z, z ≠ ad 9 4 0 → w78 z = wl z := hf78
            have hc_a : w78 a = some (.inr (3, [.int (nI n), .ref (ad 9 0 0), .ref pls, .ref spc, .ref por, .ref pbs, .ref pvi, .ref (ad 13 60 0), .ref (ad 7 1 0), .int (E1 8 0 0 1), .int (E1 8 0 0 2), .int (E1 8 0 0 3)])) := (hf78 a (by rw [ha]; exact hR1.ne (k := 8) (i := 0) (j := 0) (k' := 9) (i' := 4) (j' := 0) ⟨rfl, rfl⟩ ⟨by decide, rfl⟩ (by decide))).trans hc_a
            have hc_por : w78 por = some (.inl (G.2 0, 6, .inl (E1 9 2 0))) := by rw [hpor]; exact hR78.1 9 2 0 ⟨by decide, rfl⟩
            refine lv_aload_n hx hb dX2_visit_79 rfl (lv_at hl 1 rfl) ?_
            refine x_get (C := RX2) (T := TX2) (N := 12) hx hb hts hiX2 hown hK hH hc_a rfl 4 (by decide) hf27 (fun _ h => h) (v := .ref por) rfl dX2_visit_80 ?_
            refine lv_iload_n hx hb dX2_visit_83 rfl (lv_at hl 2 rfl) ?_
            refine lv_iload hx hb dX2_visit_84 (lv_at hl 6 rfl) ?_
            refine Y_iast hx hb hK hH hc_por d rfl (by omega) (by decide) dX2_visit_86 (fun H locs hH => ?_)
            have hH : xH G A s.heap H locs (va_up w78 por (some (.inl (G.2 0, 6, .inl (upd (E1 9 2 0) d (nI i)))))) := hH
            obtain ⟨w86, ew86⟩ : ∃ z, z = va_up w78 por (some (.inl (G.2 0, 6, .inl (upd (E1 9 2 0) d (nI i))))) := ⟨_, rfl⟩
            rw [← ew86] at hH
            have hf86 : ∀ y, y ≠ ad 9 2 0 → w86 y = w78 y := fun y hy => by rw [ew86, hpor]; exact upW_ne _ _ hy
            have hR2 := rep_row (i := 2) (f := upd (E1 9 2 0) d (nI i)) hR78 h60 (by decide) (by rw [ew86, hpor]; exact upW_at _ _ _) hf86
            obtain ⟨E2, hE2⟩ : ∃ z, z = upK (upK E1 9 4 (upd (E1 9 4 0) i 1)) 9 2 (upd (E1 9 2 0) d (nI i)) := ⟨_, rfl⟩
            rw [← hE2] at hR2
            have hS2 : PlS E2 n pl sv p0 (pre ++ [i]) (vfd (vev pl sv p0) n 4 pre b i) := by rw [hE2, ← hd]; exact hS1.push (by omega)
            have h902 : E2 9 0 0 = E 9 0 0 := by rw [hE2, upK_i _ _ _ (by decide), upK_i _ _ _ (by decide)]; exact h90
            have hK2 : Kp w w86 ad L := hKp.trans (fun y hy => (hf86 y (hy 9 2 0 ⟨by decide, rfl⟩)).trans (hf78 y (hy 9 4 0 ⟨by decide, rfl⟩)))
            have hc_a : w86 a = some (.inr (3, [.int (nI n), .ref (ad 9 0 0), .ref pls, .ref spc, .ref por, .ref pbs, .ref pvi, .ref (ad 13 60 0), .ref (ad 7 1 0), .int (E2 8 0 0 1), .int (E2 8 0 0 2), .int (E2 8 0 0 3)])) := by rw [ha, hpls, hspc, hpor, hpbs, hpvi, ← hS2.1]; exact hR2.1 8 0 0 ⟨rfl, rfl⟩
            have hc_pls : w86 pls = some (.inl (G.2 0, 6, .inl (E2 9 1 0))) := by rw [hpls]; exact hR2.1 9 1 0 ⟨by decide, rfl⟩
            have hc_spc : w86 spc = some (.inl (G.2 5, 6, .inr (.inr (.inr (.inr (six ad 11)))))) := by rw [hspc]; exact hR2.1 10 0 0 ⟨rfl, rfl⟩
            refine lv_aload_n hx hb dX2_visit_87 rfl (lv_at hl 1 rfl) ?_
            refine lv_iload_n hx hb dX2_visit_88 rfl (lv_at hl 2 rfl) ?_
            refine lv_iconst (v := 1) hx hb dX2_visit_89 (by decide) ?_
            refine N_iadd hx hb d 1 rfl rfl dX2_visit_90 ?_
            refine lv_aload_n hx hb dX2_visit_91 rfl (lv_at hl 1 rfl) ?_
            refine x_get (C := RX2) (T := TX2) (N := 12) hx hb hts hiX2 hown hK hH hc_a rfl 2 (by decide) hf19 (fun _ h => h) (v := .ref pls) rfl dX2_visit_92 ?_
            refine lv_iload hx hb dX2_visit_95 (lv_at hl 6 rfl) ?_
            refine Y_iald hx hb hK hH hc_pls i rfl (by omega) (by decide) dX2_visit_97 ?_
            refine lv_topi (fun v98 ev98 => ?_)
            have hv98 : v98 = nI (pl i) := by rw [ev98]; exact hS2.2.1 i (by omega)
            subst hv98
            refine lv_iload hx hb dX2_visit_98 (lv_at hl 0 rfl) ?_
            refine lv_iload hx hb dX2_visit_100 (lv_at hl 5 rfl) ?_
            refine lv_aload_n hx hb dX2_visit_102 rfl (lv_at hl 1 rfl) ?_
            refine lv_iload hx hb dX2_visit_103 (lv_at hl 6 rfl) ?_
            refine lv_iload hx hb dX2_visit_105 (lv_at hl 0 rfl) ?_
            refine x_calli (va_runV (As := [.int (nI i), .int (nI (stp + (pdist cur (pl i))))]) (rest := [.int (nI ov), .int (nI (stp + (pdist cur (pl i)))), .int (nI (pl i)), .int (nI (d + 1)), .ref a]) ⟨hx, hb, hml, hown, hts⟩ (c_X2_spilledBy l G A _ a spc (ad 11 i 0) _ _ _ _ _ _ _ _ _ _ _ (six ad 11) _ hc_a hc_spc (hR2.1 11 i 0 ⟨by omega, rfl⟩) i (stp + pdist cur (pl i)) (by omega) (by omega) (if_pos (by omega))) (cwV 2 hts gX2_visit_X2_spilledBy rfl rfl rfl (by decide +kernel) ⟨Nat.le_of_ble_eq_true rfl, Nat.le_of_ble_eq_true rfl⟩) (x_preV hK hH hTt (hc_a) rfl [.int (nI i), .int (nI (stp + (pdist cur (pl i))))]) rfl rfl hl.1 rfl (lv_room (Nat.le_of_ble_eq_true rfl)) dX2_visit_107 ⟨Nat.le_of_ble_eq_true rfl, Nat.le_of_ble_eq_true rfl⟩) hH (fun r107 u H locs hp hH => ?_)
            obtain ⟨hrq, hu9⟩ := hp
            rw [hu9] at hH
            have hsq : r107 = nI (sv i (if 19 < (stp + pdist cur (pl i)) / 60 then 19 else (stp + pdist cur (pl i)) / 60)) := hrq.trans (hS2.2.2.1 i (by omega) _ (by split <;> omega))
            subst hsq
            refine N_iadd hx hb ov (sv i (if 19 < (stp + pdist cur (pl i)) / 60 then 19 else (stp + pdist cur (pl i)) / 60)) rfl rfl dX2_visit_110 ?_
            refine x_callv (va_runS (As := [.ref a, .int (nI (d + 1)), .int (nI (pl i)), .int (nI (stp + (pdist cur (pl i)))), .int (nI (ov + (sv i (if 19 < (stp + pdist cur (pl i)) / 60 then 19 else (stp + pdist cur (pl i)) / 60))))]) (rest := []) ⟨hx, hb, hml, hown, hts⟩ (c4_X2_visit l G A _ a ad E2 cp L wd bw lb I F n (by rw [hpls, hspc, hpor, hpbs, hpvi] at hc_a; exact hc_a) hR2 h60 ha (d + 1) (pl i) (stp + pdist cur (pl i)) (ov + sv i (if 19 < (stp + pdist cur (pl i)) / 60 then 19 else (stp + pdist cur (pl i)) / 60)) p0 pl sv (pre ++ [i]) (vfd (vev pl sv p0) n 4 pre b i) hn hpl hsv hp0 hS2 (by rw [List.length_append, hd]; rfl) (by omega) (by rw [vev_s, hev]; rfl)) (va_cwS 5 hts gX2_visit_X2_visit rfl rfl rfl (by decide +kernel) ⟨Nat.le_of_ble_eq_true rfl, Nat.le_of_ble_eq_true rfl⟩) (x_preS hK hH hTt [.ref a, .int (nI (d + 1)), .int (nI (pl i)), .int (nI (stp + (pdist cur (pl i)))), .int (nI (ov + (sv i (if 19 < (stp + pdist cur (pl i)) / 60 then 19 else (stp + pdist cur (pl i)) / 60))))]) rfl rfl hl.1 rfl (lv_room (Nat.le_of_ble_eq_true rfl)) dX2_visit_111 ⟨Nat.le_of_ble_eq_true rfl, Nat.le_of_ble_eq_true rfl⟩) hH (fun w111 H locs hp hH => ?_)
            obtain ⟨E3, hR3, hS3, h903, hK3⟩ := hp
            have hc_a : w111 a = some (.inr (3, [.int (nI n), .ref (ad 9 0 0), .ref pls, .ref spc, .ref por, .ref pbs, .ref pvi, .ref (ad 13 60 0), .ref (ad 7 1 0), .int (E3 8 0 0 1), .int (E3 8 0 0 2), .int (E3 8 0 0 3)])) := by rw [ha, hpls, hspc, hpor, hpbs, hpvi, ← hS3.1]; exact hR3.1 8 0 0 ⟨rfl, rfl⟩
            have hc_pvi : w111 pvi = some (.inl (G.2 1, 6, .inl (E3 9 4 0))) := by rw [hpvi]; exact hR3.1 9 4 0 ⟨by decide, rfl⟩
            refine lv_aload_n hx hb dX2_visit_114 rfl (lv_at hl 1 rfl) ?_
            refine x_get (C := RX2) (T := TX2) (N := 12) hx hb hts hiX2 hown hK hH hc_a rfl 6 (by decide) hf33 (fun _ h => h) (v := .ref pvi) rfl dX2_visit_115 ?_
            refine lv_iload hx hb dX2_visit_118 (lv_at hl 6 rfl) ?_
            refine lv_iconst (v := 0) hx hb dX2_visit_120 (by decide) ?_
            refine Y_zast hx hb hK hH hc_pvi i rfl (by omega) (by decide) (by decide) dX2_visit_121 (fun H locs hH => ?_)
            have hH : xH G A s.heap H locs (va_up w111 pvi (some (.inl (G.2 1, 6, .inl (upd (E3 9 4 0) i 0))))) := hH
            obtain ⟨w121, ew121⟩ : ∃ z, z = va_up w111 pvi (some (.inl (G.2 1, 6, .inl (upd (E3 9 4 0) i 0)))) := ⟨_, rfl⟩
            rw [← ew121] at hH
            have hf121 : ∀ y, y ≠ ad 9 4 0 → w121 y = w111 y := fun y hy => by rw [ew121, hpvi]; exact upW_ne _ _ hy
            have hR4 := rep_row (i := 4) (f := upd (E3 9 4 0) i 0) hR3 h60 (by decide) (by rw [ew121, hpvi]; exact upW_at _ _ _) hf121
            have hS4 := hS3.pop hm
            have h904 : upK E3 9 4 (upd (E3 9 4 0) i 0) 9 0 0 = E 9 0 0 := by rw [upK_i _ _ _ (by decide)]; exact h903.trans h902
            have hK4 : Kp w w121 ad L := (hK2.trans hK3).trans (fun y hy => hf121 y (hy 9 4 0 ⟨by decide, rfl⟩))
            refine lv_iinc (v := nI (i + 1)) (lv' := [(5, .int (nI (i + 1))), (6, .int (nI (stp + (pdist cur (pl i))))), (0, .ref a), (1, .int (nI d)), (2, .int (nI cur)), (3, .int (nI stp)), (4, .int (nI ov))]) hx hb dX2_visit_122 hl (k := 6) rfl (by exact nI_add _ 1) (by decide) rfl (fun ls hl => ?_)
            refine lv_goto (tgt := 37) hx hb dX2_visit_125 (by decide) ?_
            exact ih37 (i + 1) w121 (upK E3 9 4 (upd (E3 9 4 0) i 0)) (by omega) (by omega) (hR4) (hK4) (by rw [vfd_n hm]; exact hS4) (h904) _ _ hH ls (lv_sub hl [2, 3, 4, 5, 6, 0] rfl)
    · have c23 : ¬ d < n := fun zz => c23 ((nI_ltI (a := d) (b := n) (by omega) (by omega)).mpr zz)
      exact absurd hk (by omega)
  · obtain ⟨q, hbq⟩ := PlS_some hS c4
    have hbs : bsE E n (vev pl sv p0) (some q) := by have h9 := hS.2.2.2.2.2.2; rw [hbq] at h9; exact h9
    have hqb := vev_b hpl hsv hp0 hbs.2.2.2.1
    rw [hbs.2.2.2.2.1] at hqb
    refine lv_aload_n hx hb dX2_visit_7 rfl (lv_at hl 0 rfl) ?_
    refine lv_iload hx hb dX2_visit_8 (lv_at hl 4 rfl) ?_
    refine lv_iload_n hx hb dX2_visit_10 rfl (lv_at hl 3 rfl) ?_
    refine x_calli (va_runV (As := [.int (nI ov), .int (nI stp)]) (rest := []) ⟨hx, hb, hml, hown, hts⟩ (c_X2_beatsBest l G A _ a _ _ _ _ _ _ _ _ _ _ _ _ hc_a (nI ov) (nI stp)) (cwV 2 hts gX2_visit_X2_beatsBest rfl rfl rfl (by decide +kernel) ⟨Nat.le_of_ble_eq_true rfl, Nat.le_of_ble_eq_true rfl⟩) (x_preV hK hH hTt (hc_a) rfl [.int (nI ov), .int (nI stp)]) rfl rfl hl.1 rfl (lv_room (Nat.le_of_ble_eq_true rfl)) dX2_visit_11 ⟨Nat.le_of_ble_eq_true rfl, Nat.le_of_ble_eq_true rfl⟩) hH (fun r11 u H locs hp hH => ?_)
    obtain ⟨hrq, hu9⟩ := hp
    rw [hu9] at hH
    have hrb := hrq.trans (bts hbs (ov := ov) (st := stp) (by omega) (by omega) (by omega) (by omega))
    refine lv_if_ne (tgt := 18) hx hb dX2_visit_14 (by decide) (fun c14 => ?_) (fun c14 => ?_)
    · have hlt : vlt (vev pl sv p0 pre) (vev pl sv p0 q) := by
        rw [hev]
        by_cases z : ov < (vev pl sv p0 q).2.2 ∨ (ov = (vev pl sv p0 q).2.2 ∧ stp < (vev pl sv p0 q).2.1)
        · exact z
        · exact absurd (by rw [hrb, if_neg z]) c14
      have hkeep : vkp (vev pl sv p0) b pre = some pre := by rw [hbq]; exact if_pos hlt
      refine lv_iload_n hx hb dX2_visit_18 rfl (lv_at hl 1 rfl) ?_
      refine lv_aload_n hx hb dX2_visit_19 rfl (lv_at hl 0 rfl) ?_
      refine x_get (C := RX2) (T := TX2) (N := 12) hx hb hts hiX2 hown hK hH hc_a rfl 0 (by decide) hf9 (fun _ h => h) (v := .int (nI n)) rfl dX2_visit_20 ?_
      refine lv_icmp_lt (tgt := 34) hx hb dX2_visit_23 (by decide) (fun c23 => ?_) (fun c23 => ?_)
      · have c23 : d < n := (nI_ltI (a := d) (b := n) (by omega) (by omega)).mp c23
        refine lv_iconst (v := 0) hx hb dX2_visit_34 (by decide) ?_
        refine lv_istore (lv' := [(5, .int 0), (0, .ref a), (1, .int (nI d)), (2, .int (nI cur)), (3, .int (nI stp)), (4, .int (nI ov))]) hx hb dX2_visit_35 hl (by decide) rfl (fun ls hl => ?_)
        suffices loop37 : ∀ (k37 : Nat) (i : Nat) (wl : XW) (E1 : YE), (n < i + k37) → (i ≤ n) → (Rep G wl ad E1 cp L wd bw lb I F) → (Kp w wl ad L) → (PlS E1 n pl sv p0 pre (vfd (vev pl sv p0) n 4 pre b i)) → (E1 9 0 0 = E 9 0 0) → ∀ (H : Heap) (locs : List Loc), xH G A s.heap H locs (wl) → ∀ (ls : Array Slot), lv_has ls 7 [(0, .ref a), (1, .int (nI d)), (2, .int (nI cur)), (3, .int (nI stp)), (4, .int (nI ov)), (5, .int (nI i))] → W p l e (headSpec wsX2_visit _).room s m _ below meth c H locs 0 0 (MQ below _ _ s 0 0 A) (F0 m 37 ls []) from
          loop37 (n + 1) 0 w E (by omega) (by omega) (hR) (fun _ _ => rfl) (hS) (rfl) _ _ hH ls (lv_sub hl [1, 2, 3, 4, 5, 0] rfl)
        intro k37
        induction k37 with
        | zero =>
          intro i wl E1 hfuel hi9 hR1 hKp hS1 h90 H locs hH ls hl
          exact absurd hfuel (by omega)
        | succ k37 ih37 =>
          intro i wl E1 hfuel hi9 hR1 hKp hS1 h90 H locs hH ls hl
          have hc_a : wl a = some (.inr (3, [.int (nI n), .ref (ad 9 0 0), .ref pls, .ref spc, .ref por, .ref pbs, .ref pvi, .ref (ad 13 60 0), .ref (ad 7 1 0), .int (E1 8 0 0 1), .int (E1 8 0 0 2), .int (E1 8 0 0 3)])) := by rw [ha, hpls, hspc, hpor, hpbs, hpvi, ← hS1.1]; exact hR1.1 8 0 0 ⟨rfl, rfl⟩
          have hc_pls : wl pls = some (.inl (G.2 0, 6, .inl (E1 9 1 0))) := by rw [hpls]; exact hR1.1 9 1 0 ⟨by decide, rfl⟩
          have hc_por : wl por = some (.inl (G.2 0, 6, .inl (E1 9 2 0))) := by rw [hpor]; exact hR1.1 9 2 0 ⟨by decide, rfl⟩
          have hc_pvi : wl pvi = some (.inl (G.2 1, 6, .inl (E1 9 4 0))) := by rw [hpvi]; exact hR1.1 9 4 0 ⟨by decide, rfl⟩
          refine lv_iload hx hb dX2_visit_37 (lv_at hl 5 rfl) ?_
          refine lv_aload_n hx hb dX2_visit_39 rfl (lv_at hl 0 rfl) ?_
          refine x_get (C := RX2) (T := TX2) (N := 12) hx hb hts hiX2 hown hK hH hc_a rfl 0 (by decide) hf9 (fun _ h => h) (v := .int (nI n)) rfl dX2_visit_40 ?_
          refine lv_icmp_ge (tgt := 128) hx hb dX2_visit_43 (by decide) (fun c43 => ?_) (fun c43 => ?_)
          · have c43 : n ≤ i := (nI_leI (a := n) (b := i) (by omega) (by omega)).mp c43
            exact x_vret wl hx hb hr hlocks hK hH (⟨E1, hR1, (by have h9 : (lvs n 5 pre).foldl (vkp (vev pl sv p0)) b = vfd (vev pl sv p0) n 4 pre b n := vfd_all _ n 4 pre b; rw [h9]; rw [show i = n by omega] at hS1; exact hS1), h90, hKp⟩) dX2_visit_128
          · have c43 : ¬ n ≤ i := fun zz => c43 ((nI_leI (a := n) (b := i) (by omega) (by omega)).mpr zz)
            refine lv_aload_n hx hb dX2_visit_46 rfl (lv_at hl 0 rfl) ?_
            refine x_get (C := RX2) (T := TX2) (N := 12) hx hb hts hiX2 hown hK hH hc_a rfl 6 (by decide) hf33 (fun _ h => h) (v := .ref pvi) rfl dX2_visit_47 ?_
            refine lv_iload hx hb dX2_visit_50 (lv_at hl 5 rfl) ?_
            refine Y_zald hx hb hK hH hc_pvi i rfl (by omega) (by decide) dX2_visit_52 ?_
            refine lv_if_ne (tgt := 122) hx hb dX2_visit_53 (by decide) (fun c53 => ?_) (fun c53 => ?_)
            · have hm : i ∈ pre := Decidable.byContradiction fun z => c53 (by rw [hS1.2.2.2.2.1 i, if_neg z])
              refine lv_iinc (v := nI (i + 1)) (lv' := [(5, .int (nI (i + 1))), (0, .ref a), (1, .int (nI d)), (2, .int (nI cur)), (3, .int (nI stp)), (4, .int (nI ov))]) hx hb dX2_visit_122 hl (k := 5) rfl (by exact nI_add _ 1) (by decide) rfl (fun ls hl => ?_)
              refine lv_goto (tgt := 37) hx hb dX2_visit_125 (by decide) ?_
              exact ih37 (i + 1) wl E1 (by omega) (by omega) (hR1) (hKp) (by rw [vfd_y hm]; exact hS1) (h90) _ _ hH ls (lv_sub hl [1, 2, 3, 4, 5, 0] rfl)
            · have hm : i ∉ pre := fun z => by rw [hS1.2.2.2.2.1 i, if_pos z] at c53; exact absurd c53 (by decide)
              refine lv_iload_n hx hb dX2_visit_56 rfl (lv_at hl 3 rfl) ?_
              refine lv_iload_n hx hb dX2_visit_57 rfl (lv_at hl 2 rfl) ?_
              refine lv_aload_n hx hb dX2_visit_58 rfl (lv_at hl 0 rfl) ?_
              refine x_get (C := RX2) (T := TX2) (N := 12) hx hb hts hiX2 hown hK hH hc_a rfl 2 (by decide) hf19 (fun _ h => h) (v := .ref pls) rfl dX2_visit_59 ?_
              refine lv_iload hx hb dX2_visit_62 (lv_at hl 5 rfl) ?_
              refine Y_iald hx hb hK hH hc_pls i rfl (by omega) (by decide) dX2_visit_64 ?_
              refine lv_topi (fun v65 ev65 => ?_)
              have hv65 : v65 = nI (pl i) := by rw [ev65]; exact hS1.2.1 i (by omega)
              subst hv65
              refine x_calli (va_runS (As := [.int (nI cur), .int (nI (pl i))]) (rest := [.int (nI stp)]) ⟨hx, hb, hml, hown, hts⟩ (c_X2_stepsBetween l G A _ (nI cur) (nI (pl i))) (va_cwS 2 hts gX2_visit_X2_stepsBetween rfl rfl rfl (by decide +kernel) ⟨Nat.le_of_ble_eq_true rfl, Nat.le_of_ble_eq_true rfl⟩) (x_preS hK hH hTt [.int (nI cur), .int (nI (pl i))]) rfl rfl hl.1 rfl (lv_room (Nat.le_of_ble_eq_true rfl)) dX2_visit_65 ⟨Nat.le_of_ble_eq_true rfl, Nat.le_of_ble_eq_true rfl⟩) hH (fun r65 u H locs hp hH => ?_)
              have hpd : r65 = nI (pdist cur (pl i)) := hp.trans (stp_nat hb1.1 (hpl i (by omega)))
              subst hpd
              have hpdb : pdist cur (pl i) ≤ 198 := pdist_b hb1.1 (hpl i (by omega))
              refine N_iadd hx hb stp (pdist cur (pl i)) rfl rfl dX2_visit_68 ?_
              refine lv_istore (lv' := [(6, .int (nI (stp + (pdist cur (pl i))))), (0, .ref a), (1, .int (nI d)), (2, .int (nI cur)), (3, .int (nI stp)), (4, .int (nI ov)), (5, .int (nI i))]) hx hb dX2_visit_69 hl (by decide) rfl (fun ls hl => ?_)
              refine lv_aload_n hx hb dX2_visit_71 rfl (lv_at hl 1 rfl) ?_
              refine x_get (C := RX2) (T := TX2) (N := 12) hx hb hts hiX2 hown hK hH hc_a rfl 6 (by decide) hf33 (fun _ h => h) (v := .ref pvi) rfl dX2_visit_72 ?_
              refine lv_iload hx hb dX2_visit_75 (lv_at hl 6 rfl) ?_
              refine lv_iconst (v := 1) hx hb dX2_visit_77 (by decide) ?_
              refine Y_zast hx hb hK hH hc_pvi i rfl (by omega) (by decide) (by decide) dX2_visit_78 (fun H locs hH => ?_)
              have hH : xH G A s.heap H locs (va_up wl pvi (some (.inl (G.2 1, 6, .inl (upd (E1 9 4 0) i 1))))) := hH
              obtain ⟨w78, ew78⟩ : ∃ z, z = va_up wl pvi (some (.inl (G.2 1, 6, .inl (upd (E1 9 4 0) i 1)))) := ⟨_, rfl⟩
              rw [← ew78] at hH
              have hf78 : ∀ y, y ≠ ad 9 4 0 → w78 y = wl y := fun y hy => by rw [ew78, hpvi]; exact upW_ne _ _ hy
              have hR78 := rep_row (i := 4) (f := upd (E1 9 4 0) i 1) hR1 h60 (by decide) (by rw [ew78, hpvi]; exact upW_at _ _ _) hf78
              have ne_pv : ∀ z, z ≠ ad 9 4 0 → w78 z = wl z := hf78
              have hc_a : w78 a = some (.inr (3, [.int (nI n), .ref (ad 9 0 0), .ref pls, .ref spc, .ref por, .ref pbs, .ref pvi, .ref (ad 13 60 0), .ref (ad 7 1 0), .int (E1 8 0 0 1), .int (E1 8 0 0 2), .int (E1 8 0 0 3)])) := (hf78 a (by rw [ha]; exact hR1.ne (k := 8) (i := 0) (j := 0) (k' := 9) (i' := 4) (j' := 0) ⟨rfl, rfl⟩ ⟨by decide, rfl⟩ (by decide))).trans hc_a
              have hc_por : w78 por = some (.inl (G.2 0, 6, .inl (E1 9 2 0))) := by rw [hpor]; exact hR78.1 9 2 0 ⟨by decide, rfl⟩
              refine lv_aload_n hx hb dX2_visit_79 rfl (lv_at hl 1 rfl) ?_
              refine x_get (C := RX2) (T := TX2) (N := 12) hx hb hts hiX2 hown hK hH hc_a rfl 4 (by decide) hf27 (fun _ h => h) (v := .ref por) rfl dX2_visit_80 ?_
              refine lv_iload_n hx hb dX2_visit_83 rfl (lv_at hl 2 rfl) ?_
              refine lv_iload hx hb dX2_visit_84 (lv_at hl 6 rfl) ?_
              refine Y_iast hx hb hK hH hc_por d rfl (by omega) (by decide) dX2_visit_86 (fun H locs hH => ?_)
              have hH : xH G A s.heap H locs (va_up w78 por (some (.inl (G.2 0, 6, .inl (upd (E1 9 2 0) d (nI i)))))) := hH
              obtain ⟨w86, ew86⟩ : ∃ z, z = va_up w78 por (some (.inl (G.2 0, 6, .inl (upd (E1 9 2 0) d (nI i))))) := ⟨_, rfl⟩
              rw [← ew86] at hH
              have hf86 : ∀ y, y ≠ ad 9 2 0 → w86 y = w78 y := fun y hy => by rw [ew86, hpor]; exact upW_ne _ _ hy
              have hR2 := rep_row (i := 2) (f := upd (E1 9 2 0) d (nI i)) hR78 h60 (by decide) (by rw [ew86, hpor]; exact upW_at _ _ _) hf86
              obtain ⟨E2, hE2⟩ : ∃ z, z = upK (upK E1 9 4 (upd (E1 9 4 0) i 1)) 9 2 (upd (E1 9 2 0) d (nI i)) := ⟨_, rfl⟩
              rw [← hE2] at hR2
              have hS2 : PlS E2 n pl sv p0 (pre ++ [i]) (vfd (vev pl sv p0) n 4 pre b i) := by rw [hE2, ← hd]; exact hS1.push (by omega)
              have h902 : E2 9 0 0 = E 9 0 0 := by rw [hE2, upK_i _ _ _ (by decide), upK_i _ _ _ (by decide)]; exact h90
              have hK2 : Kp w w86 ad L := hKp.trans (fun y hy => (hf86 y (hy 9 2 0 ⟨by decide, rfl⟩)).trans (hf78 y (hy 9 4 0 ⟨by decide, rfl⟩)))
              have hc_a : w86 a = some (.inr (3, [.int (nI n), .ref (ad 9 0 0), .ref pls, .ref spc, .ref por, .ref pbs, .ref pvi, .ref (ad 13 60 0), .ref (ad 7 1 0), .int (E2 8 0 0 1), .int (E2 8 0 0 2), .int (E2 8 0 0 3)])) := by rw [ha, hpls, hspc, hpor, hpbs, hpvi, ← hS2.1]; exact hR2.1 8 0 0 ⟨rfl, rfl⟩
              have hc_pls : w86 pls = some (.inl (G.2 0, 6, .inl (E2 9 1 0))) := by rw [hpls]; exact hR2.1 9 1 0 ⟨by decide, rfl⟩
              have hc_spc : w86 spc = some (.inl (G.2 5, 6, .inr (.inr (.inr (.inr (six ad 11)))))) := by rw [hspc]; exact hR2.1 10 0 0 ⟨rfl, rfl⟩
              refine lv_aload_n hx hb dX2_visit_87 rfl (lv_at hl 1 rfl) ?_
              refine lv_iload_n hx hb dX2_visit_88 rfl (lv_at hl 2 rfl) ?_
              refine lv_iconst (v := 1) hx hb dX2_visit_89 (by decide) ?_
              refine N_iadd hx hb d 1 rfl rfl dX2_visit_90 ?_
              refine lv_aload_n hx hb dX2_visit_91 rfl (lv_at hl 1 rfl) ?_
              refine x_get (C := RX2) (T := TX2) (N := 12) hx hb hts hiX2 hown hK hH hc_a rfl 2 (by decide) hf19 (fun _ h => h) (v := .ref pls) rfl dX2_visit_92 ?_
              refine lv_iload hx hb dX2_visit_95 (lv_at hl 6 rfl) ?_
              refine Y_iald hx hb hK hH hc_pls i rfl (by omega) (by decide) dX2_visit_97 ?_
              refine lv_topi (fun v98 ev98 => ?_)
              have hv98 : v98 = nI (pl i) := by rw [ev98]; exact hS2.2.1 i (by omega)
              subst hv98
              refine lv_iload hx hb dX2_visit_98 (lv_at hl 0 rfl) ?_
              refine lv_iload hx hb dX2_visit_100 (lv_at hl 5 rfl) ?_
              refine lv_aload_n hx hb dX2_visit_102 rfl (lv_at hl 1 rfl) ?_
              refine lv_iload hx hb dX2_visit_103 (lv_at hl 6 rfl) ?_
              refine lv_iload hx hb dX2_visit_105 (lv_at hl 0 rfl) ?_
              refine x_calli (va_runV (As := [.int (nI i), .int (nI (stp + (pdist cur (pl i))))]) (rest := [.int (nI ov), .int (nI (stp + (pdist cur (pl i)))), .int (nI (pl i)), .int (nI (d + 1)), .ref a]) ⟨hx, hb, hml, hown, hts⟩ (c_X2_spilledBy l G A _ a spc (ad 11 i 0) _ _ _ _ _ _ _ _ _ _ _ (six ad 11) _ hc_a hc_spc (hR2.1 11 i 0 ⟨by omega, rfl⟩) i (stp + pdist cur (pl i)) (by omega) (by omega) (if_pos (by omega))) (cwV 2 hts gX2_visit_X2_spilledBy rfl rfl rfl (by decide +kernel) ⟨Nat.le_of_ble_eq_true rfl, Nat.le_of_ble_eq_true rfl⟩) (x_preV hK hH hTt (hc_a) rfl [.int (nI i), .int (nI (stp + (pdist cur (pl i))))]) rfl rfl hl.1 rfl (lv_room (Nat.le_of_ble_eq_true rfl)) dX2_visit_107 ⟨Nat.le_of_ble_eq_true rfl, Nat.le_of_ble_eq_true rfl⟩) hH (fun r107 u H locs hp hH => ?_)
              obtain ⟨hrq, hu9⟩ := hp
              rw [hu9] at hH
              have hsq : r107 = nI (sv i (if 19 < (stp + pdist cur (pl i)) / 60 then 19 else (stp + pdist cur (pl i)) / 60)) := hrq.trans (hS2.2.2.1 i (by omega) _ (by split <;> omega))
              subst hsq
              refine N_iadd hx hb ov (sv i (if 19 < (stp + pdist cur (pl i)) / 60 then 19 else (stp + pdist cur (pl i)) / 60)) rfl rfl dX2_visit_110 ?_
              refine x_callv (va_runS (As := [.ref a, .int (nI (d + 1)), .int (nI (pl i)), .int (nI (stp + (pdist cur (pl i)))), .int (nI (ov + (sv i (if 19 < (stp + pdist cur (pl i)) / 60 then 19 else (stp + pdist cur (pl i)) / 60))))]) (rest := []) ⟨hx, hb, hml, hown, hts⟩ (c4_X2_visit l G A _ a ad E2 cp L wd bw lb I F n (by rw [hpls, hspc, hpor, hpbs, hpvi] at hc_a; exact hc_a) hR2 h60 ha (d + 1) (pl i) (stp + pdist cur (pl i)) (ov + sv i (if 19 < (stp + pdist cur (pl i)) / 60 then 19 else (stp + pdist cur (pl i)) / 60)) p0 pl sv (pre ++ [i]) (vfd (vev pl sv p0) n 4 pre b i) hn hpl hsv hp0 hS2 (by rw [List.length_append, hd]; rfl) (by omega) (by rw [vev_s, hev]; rfl)) (va_cwS 5 hts gX2_visit_X2_visit rfl rfl rfl (by decide +kernel) ⟨Nat.le_of_ble_eq_true rfl, Nat.le_of_ble_eq_true rfl⟩) (x_preS hK hH hTt [.ref a, .int (nI (d + 1)), .int (nI (pl i)), .int (nI (stp + (pdist cur (pl i)))), .int (nI (ov + (sv i (if 19 < (stp + pdist cur (pl i)) / 60 then 19 else (stp + pdist cur (pl i)) / 60))))]) rfl rfl hl.1 rfl (lv_room (Nat.le_of_ble_eq_true rfl)) dX2_visit_111 ⟨Nat.le_of_ble_eq_true rfl, Nat.le_of_ble_eq_true rfl⟩) hH (fun w111 H locs hp hH => ?_)
              obtain ⟨E3, hR3, hS3, h903, hK3⟩ := hp
              have hc_a : w111 a = some (.inr (3, [.int (nI n), .ref (ad 9 0 0), .ref pls, .ref spc, .ref por, .ref pbs, .ref pvi, .ref (ad 13 60 0), .ref (ad 7 1 0), .int (E3 8 0 0 1), .int (E3 8 0 0 2), .int (E3 8 0 0 3)])) := by rw [ha, hpls, hspc, hpor, hpbs, hpvi, ← hS3.1]; exact hR3.1 8 0 0 ⟨rfl, rfl⟩
              have hc_pvi : w111 pvi = some (.inl (G.2 1, 6, .inl (E3 9 4 0))) := by rw [hpvi]; exact hR3.1 9 4 0 ⟨by decide, rfl⟩
              refine lv_aload_n hx hb dX2_visit_114 rfl (lv_at hl 1 rfl) ?_
              refine x_get (C := RX2) (T := TX2) (N := 12) hx hb hts hiX2 hown hK hH hc_a rfl 6 (by decide) hf33 (fun _ h => h) (v := .ref pvi) rfl dX2_visit_115 ?_
              refine lv_iload hx hb dX2_visit_118 (lv_at hl 6 rfl) ?_
              refine lv_iconst (v := 0) hx hb dX2_visit_120 (by decide) ?_
              refine Y_zast hx hb hK hH hc_pvi i rfl (by omega) (by decide) (by decide) dX2_visit_121 (fun H locs hH => ?_)
              have hH : xH G A s.heap H locs (va_up w111 pvi (some (.inl (G.2 1, 6, .inl (upd (E3 9 4 0) i 0))))) := hH
              obtain ⟨w121, ew121⟩ : ∃ z, z = va_up w111 pvi (some (.inl (G.2 1, 6, .inl (upd (E3 9 4 0) i 0)))) := ⟨_, rfl⟩
              rw [← ew121] at hH
              have hf121 : ∀ y, y ≠ ad 9 4 0 → w121 y = w111 y := fun y hy => by rw [ew121, hpvi]; exact upW_ne _ _ hy
              have hR4 := rep_row (i := 4) (f := upd (E3 9 4 0) i 0) hR3 h60 (by decide) (by rw [ew121, hpvi]; exact upW_at _ _ _) hf121
              have hS4 := hS3.pop hm
              have h904 : upK E3 9 4 (upd (E3 9 4 0) i 0) 9 0 0 = E 9 0 0 := by rw [upK_i _ _ _ (by decide)]; exact h903.trans h902
              have hK4 : Kp w w121 ad L := (hK2.trans hK3).trans (fun y hy => hf121 y (hy 9 4 0 ⟨by decide, rfl⟩))
              refine lv_iinc (v := nI (i + 1)) (lv' := [(5, .int (nI (i + 1))), (6, .int (nI (stp + (pdist cur (pl i))))), (0, .ref a), (1, .int (nI d)), (2, .int (nI cur)), (3, .int (nI stp)), (4, .int (nI ov))]) hx hb dX2_visit_122 hl (k := 6) rfl (by exact nI_add _ 1) (by decide) rfl (fun ls hl => ?_)
              refine lv_goto (tgt := 37) hx hb dX2_visit_125 (by decide) ?_
              exact ih37 (i + 1) w121 (upK E3 9 4 (upd (E3 9 4 0) i 0)) (by omega) (by omega) (hR4) (hK4) (by rw [vfd_n hm]; exact hS4) (h904) _ _ hH ls (lv_sub hl [2, 3, 4, 5, 6, 0] rfl)
      · have c23 : ¬ d < n := fun zz => c23 ((nI_ltI (a := d) (b := n) (by omega) (by omega)).mpr zz)
        exact absurd hk (by omega)
    · have hcut : ¬ vlt (vev pl sv p0 pre) (vev pl sv p0 q) := fun z => by rw [hev] at z; rw [hrb, if_pos z] at c14; exact absurd c14 (by decide)
      exact x_vret w hx hb hr hlocks hK hH (⟨E, hR, (by rw [hbq, vis_cut hcut, ← hbq]; exact hS), rfl, fun _ _ => rfl⟩) dX2_visit_17

set_option maxHeartbeats 4000000 in
set_option maxRecDepth 100000 in
theorem c6_X2_visit (l : Launch) (G : XG) (A : Nat → Prop) (w : XW) (a : Nat) (ad : YA) (E : YE) (cp L wd bw : Nat → Nat) (lb : Nat → Option Nat) (I : Nat → Int32) (F : Nat → Nat → Int32) (n : Nat) (hc_a : w a = some (.inr (3, [.int (nI n), .ref (ad 9 0 0), .ref (ad 9 1 0), .ref (ad 10 0 0), .ref (ad 9 2 0), .ref (ad 9 3 0), .ref (ad 9 4 0), .ref (ad 13 60 0), .ref (ad 7 1 0), .int (E 8 0 0 1), .int (E 8 0 0 2), .int (E 8 0 0 3)]))) (hR : Rep G w ad E cp L wd bw lb I F) (h60 : L 0 ≤ 60) (ha : a = ad 8 0 0) (d cur stp ov p0 : Nat) (pl : Nat → Nat) (sv : Nat → Nat → Nat) (pre : List Nat) (b : Option (List Nat)) (hn : n ≤ 6) (hpl : ∀ j, j < n → pl j ≤ 9999) (hsv : ∀ k, k < n → ∀ q, q < 20 → sv k q ≤ 4000) (hp0 : p0 ≤ 9999) (hS : PlS E n pl sv p0 pre b) (hd : pre.length = d) (hk : d + 6 = n) (hev : vev pl sv p0 pre = (cur, stp, ov)) : Met l yX2_visit wsX2_visit ({ frames := 7, cells := 0, slots := 0, locals := 179 }) (va_Pc [.ref a, .int (nI d), .int (nI cur), .int (nI stp), .int (nI ov)] (xP G A (w))) (va_Qv (fun (u : XW) => VsP G w u ad E cp L wd bw lb I F n pl sv p0 pre ((lvs n 6 pre).foldl (vkp (vev pl sv p0)) b)) (fun u t => xB G A (u) t) A) 0 0 A := by
  refine Met.ofW (cc := cX2_visit) (maxL := 7) (ret := none) (by decide) rfl ?_
  intro p e s m args below meth c s₁ B hml hv
  obtain ⟨rfl, hK, hH, hTt⟩ := hv
  have hx := B.exec
  have hb := B.bytes
  have hr := B.returns
  have hts := atoms_spec (ws := wsX2_visit) B.pre
  have hown : s.vm.findClass RX2 = some m.cls := findClass_of_methodNamed B.named
  have hlocks := B.notSynchronized
  have hiX2 : ∀ w ∈ wsX20, w ∈ wsX2_visit := by decide +kernel
  have hf9 := hts (.fieldLink RX2 9 "ResinWoods$Planner" "size" "I") (by decide +kernel)
  have hf19 := hts (.fieldLink RX2 19 "ResinWoods$Planner" "places" "[I") (by decide +kernel)
  have hf27 := hts (.fieldLink RX2 27 "ResinWoods$Planner" "order" "[I") (by decide +kernel)
  have hf33 := hts (.fieldLink RX2 33 "ResinWoods$Planner" "isVisited" "[Z") (by decide +kernel)
  have hf51 := hts (.fieldLink RX2 51 "ResinWoods$Planner" "hasBest" "Z") (by decide +kernel)
  have hl := lv_entry ([.ref a, .int (nI d), .int (nI cur), .int (nI stp), .int (nI ov)]) (n := 7) (Nat.le_of_ble_eq_true rfl)
  rw [lg_entry_eq]
  generalize (lg_sl ([.ref a, .int (nI d), .int (nI cur), .int (nI stp), .int (nI ov)]) ++ List.replicate (7 - (lg_sl ([.ref a, .int (nI d), .int (nI cur), .int (nI stp), .int (nI ov)])).length) Slot.unset).toArray = ls at hl ⊢
  have hl : lv_has ls 7 [(0, .ref a), (1, .int (nI d)), (2, .int (nI cur)), (3, .int (nI stp)), (4, .int (nI ov))] := hl
  obtain ⟨pls, hpls⟩ : ∃ z, z = ad 9 1 0 := ⟨_, rfl⟩
  obtain ⟨spc, hspc⟩ : ∃ z, z = ad 10 0 0 := ⟨_, rfl⟩
  obtain ⟨por, hpor⟩ : ∃ z, z = ad 9 2 0 := ⟨_, rfl⟩
  obtain ⟨pbs, hpbs⟩ : ∃ z, z = ad 9 3 0 := ⟨_, rfl⟩
  obtain ⟨pvi, hpvi⟩ : ∃ z, z = ad 9 4 0 := ⟨_, rfl⟩
  rw [← hpls, ← hspc, ← hpor, ← hpbs, ← hpvi] at hc_a
  have hb1 : cur ≤ 9999 ∧ stp ≤ 198 * d ∧ ov ≤ 4000 * d := by have h9 := vev_b hpl hsv hp0 hS.2.2.2.2.2.1; rw [hev, hd] at h9; exact h9
  have hc_por : w por = some (.inl (G.2 0, 6, .inl (E 9 2 0))) := by rw [hpor]; exact hR.1 9 2 0 ⟨by decide, rfl⟩
  have hc_pbs : w pbs = some (.inl (G.2 0, 6, .inl (E 9 3 0))) := by rw [hpbs]; exact hR.1 9 3 0 ⟨by decide, rfl⟩
  refine lv_aload_n hx hb dX2_visit_0 rfl (lv_at hl 0 rfl) ?_
  refine x_get (C := RX2) (T := TX2) (N := 12) hx hb hts hiX2 hown hK hH hc_a rfl 9 (by decide) hf51 (fun _ h => h) (v := .int (E 8 0 0 1)) rfl dX2_visit_1 ?_
  refine lv_if_eq (tgt := 18) hx hb dX2_visit_4 (by decide) (fun c4 => ?_) (fun c4 => ?_)
  · have hkeep : vkp (vev pl sv p0) b pre = some pre := by rw [PlS_none hS c4]; rfl
    refine lv_iload_n hx hb dX2_visit_18 rfl (lv_at hl 1 rfl) ?_
    refine lv_aload_n hx hb dX2_visit_19 rfl (lv_at hl 0 rfl) ?_
    refine x_get (C := RX2) (T := TX2) (N := 12) hx hb hts hiX2 hown hK hH hc_a rfl 0 (by decide) hf9 (fun _ h => h) (v := .int (nI n)) rfl dX2_visit_20 ?_
    refine lv_icmp_lt (tgt := 34) hx hb dX2_visit_23 (by decide) (fun c23 => ?_) (fun c23 => ?_)
    · have c23 : d < n := (nI_ltI (a := d) (b := n) (by omega) (by omega)).mp c23
      refine lv_iconst (v := 0) hx hb dX2_visit_34 (by decide) ?_
      refine lv_istore (lv' := [(5, .int 0), (0, .ref a), (1, .int (nI d)), (2, .int (nI cur)), (3, .int (nI stp)), (4, .int (nI ov))]) hx hb dX2_visit_35 hl (by decide) rfl (fun ls hl => ?_)
      suffices loop37 : ∀ (k37 : Nat) (i : Nat) (wl : XW) (E1 : YE), (n < i + k37) → (i ≤ n) → (Rep G wl ad E1 cp L wd bw lb I F) → (Kp w wl ad L) → (PlS E1 n pl sv p0 pre (vfd (vev pl sv p0) n 5 pre b i)) → (E1 9 0 0 = E 9 0 0) → ∀ (H : Heap) (locs : List Loc), xH G A s.heap H locs (wl) → ∀ (ls : Array Slot), lv_has ls 7 [(0, .ref a), (1, .int (nI d)), (2, .int (nI cur)), (3, .int (nI stp)), (4, .int (nI ov)), (5, .int (nI i))] → W p l e (headSpec wsX2_visit _).room s m _ below meth c H locs 0 0 (MQ below _ _ s 0 0 A) (F0 m 37 ls []) from
        loop37 (n + 1) 0 w E (by omega) (by omega) (hR) (fun _ _ => rfl) (hS) (rfl) _ _ hH ls (lv_sub hl [1, 2, 3, 4, 5, 0] rfl)
      intro k37
      induction k37 with
      | zero =>
        intro i wl E1 hfuel hi9 hR1 hKp hS1 h90 H locs hH ls hl
        exact absurd hfuel (by omega)
      | succ k37 ih37 =>
        intro i wl E1 hfuel hi9 hR1 hKp hS1 h90 H locs hH ls hl
        have hc_a : wl a = some (.inr (3, [.int (nI n), .ref (ad 9 0 0), .ref pls, .ref spc, .ref por, .ref pbs, .ref pvi, .ref (ad 13 60 0), .ref (ad 7 1 0), .int (E1 8 0 0 1), .int (E1 8 0 0 2), .int (E1 8 0 0 3)])) := by rw [ha, hpls, hspc, hpor, hpbs, hpvi, ← hS1.1]; exact hR1.1 8 0 0 ⟨rfl, rfl⟩
        have hc_pls : wl pls = some (.inl (G.2 0, 6, .inl (E1 9 1 0))) := by rw [hpls]; exact hR1.1 9 1 0 ⟨by decide, rfl⟩
        have hc_por : wl por = some (.inl (G.2 0, 6, .inl (E1 9 2 0))) := by rw [hpor]; exact hR1.1 9 2 0 ⟨by decide, rfl⟩
        have hc_pvi : wl pvi = some (.inl (G.2 1, 6, .inl (E1 9 4 0))) := by rw [hpvi]; exact hR1.1 9 4 0 ⟨by decide, rfl⟩
        refine lv_iload hx hb dX2_visit_37 (lv_at hl 5 rfl) ?_
        refine lv_aload_n hx hb dX2_visit_39 rfl (lv_at hl 0 rfl) ?_
        refine x_get (C := RX2) (T := TX2) (N := 12) hx hb hts hiX2 hown hK hH hc_a rfl 0 (by decide) hf9 (fun _ h => h) (v := .int (nI n)) rfl dX2_visit_40 ?_
        refine lv_icmp_ge (tgt := 128) hx hb dX2_visit_43 (by decide) (fun c43 => ?_) (fun c43 => ?_)
        · have c43 : n ≤ i := (nI_leI (a := n) (b := i) (by omega) (by omega)).mp c43
          exact x_vret wl hx hb hr hlocks hK hH (⟨E1, hR1, (by have h9 : (lvs n 6 pre).foldl (vkp (vev pl sv p0)) b = vfd (vev pl sv p0) n 5 pre b n := vfd_all _ n 5 pre b; rw [h9]; rw [show i = n by omega] at hS1; exact hS1), h90, hKp⟩) dX2_visit_128
        · have c43 : ¬ n ≤ i := fun zz => c43 ((nI_leI (a := n) (b := i) (by omega) (by omega)).mpr zz)
          refine lv_aload_n hx hb dX2_visit_46 rfl (lv_at hl 0 rfl) ?_
          refine x_get (C := RX2) (T := TX2) (N := 12) hx hb hts hiX2 hown hK hH hc_a rfl 6 (by decide) hf33 (fun _ h => h) (v := .ref pvi) rfl dX2_visit_47 ?_
          refine lv_iload hx hb dX2_visit_50 (lv_at hl 5 rfl) ?_
          refine Y_zald hx hb hK hH hc_pvi i rfl (by omega) (by decide) dX2_visit_52 ?_
          refine lv_if_ne (tgt := 122) hx hb dX2_visit_53 (by decide) (fun c53 => ?_) (fun c53 => ?_)
          · have hm : i ∈ pre := Decidable.byContradiction fun z => c53 (by rw [hS1.2.2.2.2.1 i, if_neg z])
            refine lv_iinc (v := nI (i + 1)) (lv' := [(5, .int (nI (i + 1))), (0, .ref a), (1, .int (nI d)), (2, .int (nI cur)), (3, .int (nI stp)), (4, .int (nI ov))]) hx hb dX2_visit_122 hl (k := 5) rfl (by exact nI_add _ 1) (by decide) rfl (fun ls hl => ?_)
            refine lv_goto (tgt := 37) hx hb dX2_visit_125 (by decide) ?_
            exact ih37 (i + 1) wl E1 (by omega) (by omega) (hR1) (hKp) (by rw [vfd_y hm]; exact hS1) (h90) _ _ hH ls (lv_sub hl [1, 2, 3, 4, 5, 0] rfl)
          · have hm : i ∉ pre := fun z => by rw [hS1.2.2.2.2.1 i, if_pos z] at c53; exact absurd c53 (by decide)
            refine lv_iload_n hx hb dX2_visit_56 rfl (lv_at hl 3 rfl) ?_
            refine lv_iload_n hx hb dX2_visit_57 rfl (lv_at hl 2 rfl) ?_
            refine lv_aload_n hx hb dX2_visit_58 rfl (lv_at hl 0 rfl) ?_
            refine x_get (C := RX2) (T := TX2) (N := 12) hx hb hts hiX2 hown hK hH hc_a rfl 2 (by decide) hf19 (fun _ h => h) (v := .ref pls) rfl dX2_visit_59 ?_
            refine lv_iload hx hb dX2_visit_62 (lv_at hl 5 rfl) ?_
            refine Y_iald hx hb hK hH hc_pls i rfl (by omega) (by decide) dX2_visit_64 ?_
            refine lv_topi (fun v65 ev65 => ?_)
            have hv65 : v65 = nI (pl i) := by rw [ev65]; exact hS1.2.1 i (by omega)
            subst hv65
            refine x_calli (va_runS (As := [.int (nI cur), .int (nI (pl i))]) (rest := [.int (nI stp)]) ⟨hx, hb, hml, hown, hts⟩ (c_X2_stepsBetween l G A _ (nI cur) (nI (pl i))) (va_cwS 2 hts gX2_visit_X2_stepsBetween rfl rfl rfl (by decide +kernel) ⟨Nat.le_of_ble_eq_true rfl, Nat.le_of_ble_eq_true rfl⟩) (x_preS hK hH hTt [.int (nI cur), .int (nI (pl i))]) rfl rfl hl.1 rfl (lv_room (Nat.le_of_ble_eq_true rfl)) dX2_visit_65 ⟨Nat.le_of_ble_eq_true rfl, Nat.le_of_ble_eq_true rfl⟩) hH (fun r65 u H locs hp hH => ?_)
            have hpd : r65 = nI (pdist cur (pl i)) := hp.trans (stp_nat hb1.1 (hpl i (by omega)))
            subst hpd
            have hpdb : pdist cur (pl i) ≤ 198 := pdist_b hb1.1 (hpl i (by omega))
            refine N_iadd hx hb stp (pdist cur (pl i)) rfl rfl dX2_visit_68 ?_
            refine lv_istore (lv' := [(6, .int (nI (stp + (pdist cur (pl i))))), (0, .ref a), (1, .int (nI d)), (2, .int (nI cur)), (3, .int (nI stp)), (4, .int (nI ov)), (5, .int (nI i))]) hx hb dX2_visit_69 hl (by decide) rfl (fun ls hl => ?_)
            refine lv_aload_n hx hb dX2_visit_71 rfl (lv_at hl 1 rfl) ?_
            refine x_get (C := RX2) (T := TX2) (N := 12) hx hb hts hiX2 hown hK hH hc_a rfl 6 (by decide) hf33 (fun _ h => h) (v := .ref pvi) rfl dX2_visit_72 ?_
            refine lv_iload hx hb dX2_visit_75 (lv_at hl 6 rfl) ?_
            refine lv_iconst (v := 1) hx hb dX2_visit_77 (by decide) ?_
            refine Y_zast hx hb hK hH hc_pvi i rfl (by omega) (by decide) (by decide) dX2_visit_78 (fun H locs hH => ?_)
            have hH : xH G A s.heap H locs (va_up wl pvi (some (.inl (G.2 1, 6, .inl (upd (E1 9 4 0) i 1))))) := hH
            obtain ⟨w78, ew78⟩ : ∃ z, z = va_up wl pvi (some (.inl (G.2 1, 6, .inl (upd (E1 9 4 0) i 1)))) := ⟨_, rfl⟩
            rw [← ew78] at hH
            have hf78 : ∀ y, y ≠ ad 9 4 0 → w78 y = wl y := fun y hy => by rw [ew78, hpvi]; exact upW_ne _ _ hy
            have hR78 := rep_row (i := 4) (f := upd (E1 9 4 0) i 1) hR1 h60 (by decide) (by rw [ew78, hpvi]; exact upW_at _ _ _) hf78
            have ne_pv : ∀ z, z ≠ ad 9 4 0 → w78 z = wl z := hf78
            have hc_a : w78 a = some (.inr (3, [.int (nI n), .ref (ad 9 0 0), .ref pls, .ref spc, .ref por, .ref pbs, .ref pvi, .ref (ad 13 60 0), .ref (ad 7 1 0), .int (E1 8 0 0 1), .int (E1 8 0 0 2), .int (E1 8 0 0 3)])) := (hf78 a (by rw [ha]; exact hR1.ne (k := 8) (i := 0) (j := 0) (k' := 9) (i' := 4) (j' := 0) ⟨rfl, rfl⟩ ⟨by decide, rfl⟩ (by decide))).trans hc_a
            have hc_por : w78 por = some (.inl (G.2 0, 6, .inl (E1 9 2 0))) := by rw [hpor]; exact hR78.1 9 2 0 ⟨by decide, rfl⟩
            refine lv_aload_n hx hb dX2_visit_79 rfl (lv_at hl 1 rfl) ?_
            refine x_get (C := RX2) (T := TX2) (N := 12) hx hb hts hiX2 hown hK hH hc_a rfl 4 (by decide) hf27 (fun _ h => h) (v := .ref por) rfl dX2_visit_80 ?_
            refine lv_iload_n hx hb dX2_visit_83 rfl (lv_at hl 2 rfl) ?_
            refine lv_iload hx hb dX2_visit_84 (lv_at hl 6 rfl) ?_
            refine Y_iast hx hb hK hH hc_por d rfl (by omega) (by decide) dX2_visit_86 (fun H locs hH => ?_)
            have hH : xH G A s.heap H locs (va_up w78 por (some (.inl (G.2 0, 6, .inl (upd (E1 9 2 0) d (nI i)))))) := hH
            obtain ⟨w86, ew86⟩ : ∃ z, z = va_up w78 por (some (.inl (G.2 0, 6, .inl (upd (E1 9 2 0) d (nI i))))) := ⟨_, rfl⟩
            rw [← ew86] at hH
            have hf86 : ∀ y, y ≠ ad 9 2 0 → w86 y = w78 y := fun y hy => by rw [ew86, hpor]; exact upW_ne _ _ hy
            have hR2 := rep_row (i := 2) (f := upd (E1 9 2 0) d (nI i)) hR78 h60 (by decide) (by rw [ew86, hpor]; exact upW_at _ _ _) hf86
            obtain ⟨E2, hE2⟩ : ∃ z, z = upK (upK E1 9 4 (upd (E1 9 4 0) i 1)) 9 2 (upd (E1 9 2 0) d (nI i)) := ⟨_, rfl⟩
            rw [← hE2] at hR2
            have hS2 : PlS E2 n pl sv p0 (pre ++ [i]) (vfd (vev pl sv p0) n 5 pre b i) := by rw [hE2, ← hd]; exact hS1.push (by omega)
            have h902 : E2 9 0 0 = E 9 0 0 := by rw [hE2, upK_i _ _ _ (by decide), upK_i _ _ _ (by decide)]; exact h90
            have hK2 : Kp w w86 ad L := hKp.trans (fun y hy => (hf86 y (hy 9 2 0 ⟨by decide, rfl⟩)).trans (hf78 y (hy 9 4 0 ⟨by decide, rfl⟩)))
            have hc_a : w86 a = some (.inr (3, [.int (nI n), .ref (ad 9 0 0), .ref pls, .ref spc, .ref por, .ref pbs, .ref pvi, .ref (ad 13 60 0), .ref (ad 7 1 0), .int (E2 8 0 0 1), .int (E2 8 0 0 2), .int (E2 8 0 0 3)])) := by rw [ha, hpls, hspc, hpor, hpbs, hpvi, ← hS2.1]; exact hR2.1 8 0 0 ⟨rfl, rfl⟩
            have hc_pls : w86 pls = some (.inl (G.2 0, 6, .inl (E2 9 1 0))) := by rw [hpls]; exact hR2.1 9 1 0 ⟨by decide, rfl⟩
            have hc_spc : w86 spc = some (.inl (G.2 5, 6, .inr (.inr (.inr (.inr (six ad 11)))))) := by rw [hspc]; exact hR2.1 10 0 0 ⟨rfl, rfl⟩
            refine lv_aload_n hx hb dX2_visit_87 rfl (lv_at hl 1 rfl) ?_
            refine lv_iload_n hx hb dX2_visit_88 rfl (lv_at hl 2 rfl) ?_
            refine lv_iconst (v := 1) hx hb dX2_visit_89 (by decide) ?_
            refine N_iadd hx hb d 1 rfl rfl dX2_visit_90 ?_
            refine lv_aload_n hx hb dX2_visit_91 rfl (lv_at hl 1 rfl) ?_
            refine x_get (C := RX2) (T := TX2) (N := 12) hx hb hts hiX2 hown hK hH hc_a rfl 2 (by decide) hf19 (fun _ h => h) (v := .ref pls) rfl dX2_visit_92 ?_
            refine lv_iload hx hb dX2_visit_95 (lv_at hl 6 rfl) ?_
            refine Y_iald hx hb hK hH hc_pls i rfl (by omega) (by decide) dX2_visit_97 ?_
            refine lv_topi (fun v98 ev98 => ?_)
            have hv98 : v98 = nI (pl i) := by rw [ev98]; exact hS2.2.1 i (by omega)
            subst hv98
            refine lv_iload hx hb dX2_visit_98 (lv_at hl 0 rfl) ?_
            refine lv_iload hx hb dX2_visit_100 (lv_at hl 5 rfl) ?_
            refine lv_aload_n hx hb dX2_visit_102 rfl (lv_at hl 1 rfl) ?_
            refine lv_iload hx hb dX2_visit_103 (lv_at hl 6 rfl) ?_
            refine lv_iload hx hb dX2_visit_105 (lv_at hl 0 rfl) ?_
            refine x_calli (va_runV (As := [.int (nI i), .int (nI (stp + (pdist cur (pl i))))]) (rest := [.int (nI ov), .int (nI (stp + (pdist cur (pl i)))), .int (nI (pl i)), .int (nI (d + 1)), .ref a]) ⟨hx, hb, hml, hown, hts⟩ (c_X2_spilledBy l G A _ a spc (ad 11 i 0) _ _ _ _ _ _ _ _ _ _ _ (six ad 11) _ hc_a hc_spc (hR2.1 11 i 0 ⟨by omega, rfl⟩) i (stp + pdist cur (pl i)) (by omega) (by omega) (if_pos (by omega))) (cwV 2 hts gX2_visit_X2_spilledBy rfl rfl rfl (by decide +kernel) ⟨Nat.le_of_ble_eq_true rfl, Nat.le_of_ble_eq_true rfl⟩) (x_preV hK hH hTt (hc_a) rfl [.int (nI i), .int (nI (stp + (pdist cur (pl i))))]) rfl rfl hl.1 rfl (lv_room (Nat.le_of_ble_eq_true rfl)) dX2_visit_107 ⟨Nat.le_of_ble_eq_true rfl, Nat.le_of_ble_eq_true rfl⟩) hH (fun r107 u H locs hp hH => ?_)
            obtain ⟨hrq, hu9⟩ := hp
            rw [hu9] at hH
            have hsq : r107 = nI (sv i (if 19 < (stp + pdist cur (pl i)) / 60 then 19 else (stp + pdist cur (pl i)) / 60)) := hrq.trans (hS2.2.2.1 i (by omega) _ (by split <;> omega))
            subst hsq
            refine N_iadd hx hb ov (sv i (if 19 < (stp + pdist cur (pl i)) / 60 then 19 else (stp + pdist cur (pl i)) / 60)) rfl rfl dX2_visit_110 ?_
            refine x_callv (va_runS (As := [.ref a, .int (nI (d + 1)), .int (nI (pl i)), .int (nI (stp + (pdist cur (pl i)))), .int (nI (ov + (sv i (if 19 < (stp + pdist cur (pl i)) / 60 then 19 else (stp + pdist cur (pl i)) / 60))))]) (rest := []) ⟨hx, hb, hml, hown, hts⟩ (c5_X2_visit l G A _ a ad E2 cp L wd bw lb I F n (by rw [hpls, hspc, hpor, hpbs, hpvi] at hc_a; exact hc_a) hR2 h60 ha (d + 1) (pl i) (stp + pdist cur (pl i)) (ov + sv i (if 19 < (stp + pdist cur (pl i)) / 60 then 19 else (stp + pdist cur (pl i)) / 60)) p0 pl sv (pre ++ [i]) (vfd (vev pl sv p0) n 5 pre b i) hn hpl hsv hp0 hS2 (by rw [List.length_append, hd]; rfl) (by omega) (by rw [vev_s, hev]; rfl)) (va_cwS 5 hts gX2_visit_X2_visit rfl rfl rfl (by decide +kernel) ⟨Nat.le_of_ble_eq_true rfl, Nat.le_of_ble_eq_true rfl⟩) (x_preS hK hH hTt [.ref a, .int (nI (d + 1)), .int (nI (pl i)), .int (nI (stp + (pdist cur (pl i)))), .int (nI (ov + (sv i (if 19 < (stp + pdist cur (pl i)) / 60 then 19 else (stp + pdist cur (pl i)) / 60))))]) rfl rfl hl.1 rfl (lv_room (Nat.le_of_ble_eq_true rfl)) dX2_visit_111 ⟨Nat.le_of_ble_eq_true rfl, Nat.le_of_ble_eq_true rfl⟩) hH (fun w111 H locs hp hH => ?_)
            obtain ⟨E3, hR3, hS3, h903, hK3⟩ := hp
            have hc_a : w111 a = some (.inr (3, [.int (nI n), .ref (ad 9 0 0), .ref pls, .ref spc, .ref por, .ref pbs, .ref pvi, .ref (ad 13 60 0), .ref (ad 7 1 0), .int (E3 8 0 0 1), .int (E3 8 0 0 2), .int (E3 8 0 0 3)])) := by rw [ha, hpls, hspc, hpor, hpbs, hpvi, ← hS3.1]; exact hR3.1 8 0 0 ⟨rfl, rfl⟩
            have hc_pvi : w111 pvi = some (.inl (G.2 1, 6, .inl (E3 9 4 0))) := by rw [hpvi]; exact hR3.1 9 4 0 ⟨by decide, rfl⟩
            refine lv_aload_n hx hb dX2_visit_114 rfl (lv_at hl 1 rfl) ?_
            refine x_get (C := RX2) (T := TX2) (N := 12) hx hb hts hiX2 hown hK hH hc_a rfl 6 (by decide) hf33 (fun _ h => h) (v := .ref pvi) rfl dX2_visit_115 ?_
            refine lv_iload hx hb dX2_visit_118 (lv_at hl 6 rfl) ?_
            refine lv_iconst (v := 0) hx hb dX2_visit_120 (by decide) ?_
            refine Y_zast hx hb hK hH hc_pvi i rfl (by omega) (by decide) (by decide) dX2_visit_121 (fun H locs hH => ?_)
            have hH : xH G A s.heap H locs (va_up w111 pvi (some (.inl (G.2 1, 6, .inl (upd (E3 9 4 0) i 0))))) := hH
            obtain ⟨w121, ew121⟩ : ∃ z, z = va_up w111 pvi (some (.inl (G.2 1, 6, .inl (upd (E3 9 4 0) i 0)))) := ⟨_, rfl⟩
            rw [← ew121] at hH
            have hf121 : ∀ y, y ≠ ad 9 4 0 → w121 y = w111 y := fun y hy => by rw [ew121, hpvi]; exact upW_ne _ _ hy
            have hR4 := rep_row (i := 4) (f := upd (E3 9 4 0) i 0) hR3 h60 (by decide) (by rw [ew121, hpvi]; exact upW_at _ _ _) hf121
            have hS4 := hS3.pop hm
            have h904 : upK E3 9 4 (upd (E3 9 4 0) i 0) 9 0 0 = E 9 0 0 := by rw [upK_i _ _ _ (by decide)]; exact h903.trans h902
            have hK4 : Kp w w121 ad L := (hK2.trans hK3).trans (fun y hy => hf121 y (hy 9 4 0 ⟨by decide, rfl⟩))
            refine lv_iinc (v := nI (i + 1)) (lv' := [(5, .int (nI (i + 1))), (6, .int (nI (stp + (pdist cur (pl i))))), (0, .ref a), (1, .int (nI d)), (2, .int (nI cur)), (3, .int (nI stp)), (4, .int (nI ov))]) hx hb dX2_visit_122 hl (k := 6) rfl (by exact nI_add _ 1) (by decide) rfl (fun ls hl => ?_)
            refine lv_goto (tgt := 37) hx hb dX2_visit_125 (by decide) ?_
            exact ih37 (i + 1) w121 (upK E3 9 4 (upd (E3 9 4 0) i 0)) (by omega) (by omega) (hR4) (hK4) (by rw [vfd_n hm]; exact hS4) (h904) _ _ hH ls (lv_sub hl [2, 3, 4, 5, 6, 0] rfl)
    · have c23 : ¬ d < n := fun zz => c23 ((nI_ltI (a := d) (b := n) (by omega) (by omega)).mpr zz)
      exact absurd hk (by omega)
  · obtain ⟨q, hbq⟩ := PlS_some hS c4
    have hbs : bsE E n (vev pl sv p0) (some q) := by have h9 := hS.2.2.2.2.2.2; rw [hbq] at h9; exact h9
    have hqb := vev_b hpl hsv hp0 hbs.2.2.2.1
    rw [hbs.2.2.2.2.1] at hqb
    refine lv_aload_n hx hb dX2_visit_7 rfl (lv_at hl 0 rfl) ?_
    refine lv_iload hx hb dX2_visit_8 (lv_at hl 4 rfl) ?_
    refine lv_iload_n hx hb dX2_visit_10 rfl (lv_at hl 3 rfl) ?_
    refine x_calli (va_runV (As := [.int (nI ov), .int (nI stp)]) (rest := []) ⟨hx, hb, hml, hown, hts⟩ (c_X2_beatsBest l G A _ a _ _ _ _ _ _ _ _ _ _ _ _ hc_a (nI ov) (nI stp)) (cwV 2 hts gX2_visit_X2_beatsBest rfl rfl rfl (by decide +kernel) ⟨Nat.le_of_ble_eq_true rfl, Nat.le_of_ble_eq_true rfl⟩) (x_preV hK hH hTt (hc_a) rfl [.int (nI ov), .int (nI stp)]) rfl rfl hl.1 rfl (lv_room (Nat.le_of_ble_eq_true rfl)) dX2_visit_11 ⟨Nat.le_of_ble_eq_true rfl, Nat.le_of_ble_eq_true rfl⟩) hH (fun r11 u H locs hp hH => ?_)
    obtain ⟨hrq, hu9⟩ := hp
    rw [hu9] at hH
    have hrb := hrq.trans (bts hbs (ov := ov) (st := stp) (by omega) (by omega) (by omega) (by omega))
    refine lv_if_ne (tgt := 18) hx hb dX2_visit_14 (by decide) (fun c14 => ?_) (fun c14 => ?_)
    · have hlt : vlt (vev pl sv p0 pre) (vev pl sv p0 q) := by
        rw [hev]
        by_cases z : ov < (vev pl sv p0 q).2.2 ∨ (ov = (vev pl sv p0 q).2.2 ∧ stp < (vev pl sv p0 q).2.1)
        · exact z
        · exact absurd (by rw [hrb, if_neg z]) c14
      have hkeep : vkp (vev pl sv p0) b pre = some pre := by rw [hbq]; exact if_pos hlt
      refine lv_iload_n hx hb dX2_visit_18 rfl (lv_at hl 1 rfl) ?_
      refine lv_aload_n hx hb dX2_visit_19 rfl (lv_at hl 0 rfl) ?_
      refine x_get (C := RX2) (T := TX2) (N := 12) hx hb hts hiX2 hown hK hH hc_a rfl 0 (by decide) hf9 (fun _ h => h) (v := .int (nI n)) rfl dX2_visit_20 ?_
      refine lv_icmp_lt (tgt := 34) hx hb dX2_visit_23 (by decide) (fun c23 => ?_) (fun c23 => ?_)
      · have c23 : d < n := (nI_ltI (a := d) (b := n) (by omega) (by omega)).mp c23
        refine lv_iconst (v := 0) hx hb dX2_visit_34 (by decide) ?_
        refine lv_istore (lv' := [(5, .int 0), (0, .ref a), (1, .int (nI d)), (2, .int (nI cur)), (3, .int (nI stp)), (4, .int (nI ov))]) hx hb dX2_visit_35 hl (by decide) rfl (fun ls hl => ?_)
        suffices loop37 : ∀ (k37 : Nat) (i : Nat) (wl : XW) (E1 : YE), (n < i + k37) → (i ≤ n) → (Rep G wl ad E1 cp L wd bw lb I F) → (Kp w wl ad L) → (PlS E1 n pl sv p0 pre (vfd (vev pl sv p0) n 5 pre b i)) → (E1 9 0 0 = E 9 0 0) → ∀ (H : Heap) (locs : List Loc), xH G A s.heap H locs (wl) → ∀ (ls : Array Slot), lv_has ls 7 [(0, .ref a), (1, .int (nI d)), (2, .int (nI cur)), (3, .int (nI stp)), (4, .int (nI ov)), (5, .int (nI i))] → W p l e (headSpec wsX2_visit _).room s m _ below meth c H locs 0 0 (MQ below _ _ s 0 0 A) (F0 m 37 ls []) from
          loop37 (n + 1) 0 w E (by omega) (by omega) (hR) (fun _ _ => rfl) (hS) (rfl) _ _ hH ls (lv_sub hl [1, 2, 3, 4, 5, 0] rfl)
        intro k37
        induction k37 with
        | zero =>
          intro i wl E1 hfuel hi9 hR1 hKp hS1 h90 H locs hH ls hl
          exact absurd hfuel (by omega)
        | succ k37 ih37 =>
          intro i wl E1 hfuel hi9 hR1 hKp hS1 h90 H locs hH ls hl
          have hc_a : wl a = some (.inr (3, [.int (nI n), .ref (ad 9 0 0), .ref pls, .ref spc, .ref por, .ref pbs, .ref pvi, .ref (ad 13 60 0), .ref (ad 7 1 0), .int (E1 8 0 0 1), .int (E1 8 0 0 2), .int (E1 8 0 0 3)])) := by rw [ha, hpls, hspc, hpor, hpbs, hpvi, ← hS1.1]; exact hR1.1 8 0 0 ⟨rfl, rfl⟩
          have hc_pls : wl pls = some (.inl (G.2 0, 6, .inl (E1 9 1 0))) := by rw [hpls]; exact hR1.1 9 1 0 ⟨by decide, rfl⟩
          have hc_por : wl por = some (.inl (G.2 0, 6, .inl (E1 9 2 0))) := by rw [hpor]; exact hR1.1 9 2 0 ⟨by decide, rfl⟩
          have hc_pvi : wl pvi = some (.inl (G.2 1, 6, .inl (E1 9 4 0))) := by rw [hpvi]; exact hR1.1 9 4 0 ⟨by decide, rfl⟩
          refine lv_iload hx hb dX2_visit_37 (lv_at hl 5 rfl) ?_
          refine lv_aload_n hx hb dX2_visit_39 rfl (lv_at hl 0 rfl) ?_
          refine x_get (C := RX2) (T := TX2) (N := 12) hx hb hts hiX2 hown hK hH hc_a rfl 0 (by decide) hf9 (fun _ h => h) (v := .int (nI n)) rfl dX2_visit_40 ?_
          refine lv_icmp_ge (tgt := 128) hx hb dX2_visit_43 (by decide) (fun c43 => ?_) (fun c43 => ?_)
          · have c43 : n ≤ i := (nI_leI (a := n) (b := i) (by omega) (by omega)).mp c43
            exact x_vret wl hx hb hr hlocks hK hH (⟨E1, hR1, (by have h9 : (lvs n 6 pre).foldl (vkp (vev pl sv p0)) b = vfd (vev pl sv p0) n 5 pre b n := vfd_all _ n 5 pre b; rw [h9]; rw [show i = n by omega] at hS1; exact hS1), h90, hKp⟩) dX2_visit_128
          · have c43 : ¬ n ≤ i := fun zz => c43 ((nI_leI (a := n) (b := i) (by omega) (by omega)).mpr zz)
            refine lv_aload_n hx hb dX2_visit_46 rfl (lv_at hl 0 rfl) ?_
            refine x_get (C := RX2) (T := TX2) (N := 12) hx hb hts hiX2 hown hK hH hc_a rfl 6 (by decide) hf33 (fun _ h => h) (v := .ref pvi) rfl dX2_visit_47 ?_
            refine lv_iload hx hb dX2_visit_50 (lv_at hl 5 rfl) ?_
            refine Y_zald hx hb hK hH hc_pvi i rfl (by omega) (by decide) dX2_visit_52 ?_
            refine lv_if_ne (tgt := 122) hx hb dX2_visit_53 (by decide) (fun c53 => ?_) (fun c53 => ?_)
            · have hm : i ∈ pre := Decidable.byContradiction fun z => c53 (by rw [hS1.2.2.2.2.1 i, if_neg z])
              refine lv_iinc (v := nI (i + 1)) (lv' := [(5, .int (nI (i + 1))), (0, .ref a), (1, .int (nI d)), (2, .int (nI cur)), (3, .int (nI stp)), (4, .int (nI ov))]) hx hb dX2_visit_122 hl (k := 5) rfl (by exact nI_add _ 1) (by decide) rfl (fun ls hl => ?_)
              refine lv_goto (tgt := 37) hx hb dX2_visit_125 (by decide) ?_
              exact ih37 (i + 1) wl E1 (by omega) (by omega) (hR1) (hKp) (by rw [vfd_y hm]; exact hS1) (h90) _ _ hH ls (lv_sub hl [1, 2, 3, 4, 5, 0] rfl)
            · have hm : i ∉ pre := fun z => by rw [hS1.2.2.2.2.1 i, if_pos z] at c53; exact absurd c53 (by decide)
              refine lv_iload_n hx hb dX2_visit_56 rfl (lv_at hl 3 rfl) ?_
              refine lv_iload_n hx hb dX2_visit_57 rfl (lv_at hl 2 rfl) ?_
              refine lv_aload_n hx hb dX2_visit_58 rfl (lv_at hl 0 rfl) ?_
              refine x_get (C := RX2) (T := TX2) (N := 12) hx hb hts hiX2 hown hK hH hc_a rfl 2 (by decide) hf19 (fun _ h => h) (v := .ref pls) rfl dX2_visit_59 ?_
              refine lv_iload hx hb dX2_visit_62 (lv_at hl 5 rfl) ?_
              refine Y_iald hx hb hK hH hc_pls i rfl (by omega) (by decide) dX2_visit_64 ?_
              refine lv_topi (fun v65 ev65 => ?_)
              have hv65 : v65 = nI (pl i) := by rw [ev65]; exact hS1.2.1 i (by omega)
              subst hv65
              refine x_calli (va_runS (As := [.int (nI cur), .int (nI (pl i))]) (rest := [.int (nI stp)]) ⟨hx, hb, hml, hown, hts⟩ (c_X2_stepsBetween l G A _ (nI cur) (nI (pl i))) (va_cwS 2 hts gX2_visit_X2_stepsBetween rfl rfl rfl (by decide +kernel) ⟨Nat.le_of_ble_eq_true rfl, Nat.le_of_ble_eq_true rfl⟩) (x_preS hK hH hTt [.int (nI cur), .int (nI (pl i))]) rfl rfl hl.1 rfl (lv_room (Nat.le_of_ble_eq_true rfl)) dX2_visit_65 ⟨Nat.le_of_ble_eq_true rfl, Nat.le_of_ble_eq_true rfl⟩) hH (fun r65 u H locs hp hH => ?_)
              have hpd : r65 = nI (pdist cur (pl i)) := hp.trans (stp_nat hb1.1 (hpl i (by omega)))
              subst hpd
              have hpdb : pdist cur (pl i) ≤ 198 := pdist_b hb1.1 (hpl i (by omega))
              refine N_iadd hx hb stp (pdist cur (pl i)) rfl rfl dX2_visit_68 ?_
              refine lv_istore (lv' := [(6, .int (nI (stp + (pdist cur (pl i))))), (0, .ref a), (1, .int (nI d)), (2, .int (nI cur)), (3, .int (nI stp)), (4, .int (nI ov)), (5, .int (nI i))]) hx hb dX2_visit_69 hl (by decide) rfl (fun ls hl => ?_)
              refine lv_aload_n hx hb dX2_visit_71 rfl (lv_at hl 1 rfl) ?_
              refine x_get (C := RX2) (T := TX2) (N := 12) hx hb hts hiX2 hown hK hH hc_a rfl 6 (by decide) hf33 (fun _ h => h) (v := .ref pvi) rfl dX2_visit_72 ?_
              refine lv_iload hx hb dX2_visit_75 (lv_at hl 6 rfl) ?_
              refine lv_iconst (v := 1) hx hb dX2_visit_77 (by decide) ?_
              refine Y_zast hx hb hK hH hc_pvi i rfl (by omega) (by decide) (by decide) dX2_visit_78 (fun H locs hH => ?_)
              have hH : xH G A s.heap H locs (va_up wl pvi (some (.inl (G.2 1, 6, .inl (upd (E1 9 4 0) i 1))))) := hH
              obtain ⟨w78, ew78⟩ : ∃ z, z = va_up wl pvi (some (.inl (G.2 1, 6, .inl (upd (E1 9 4 0) i 1)))) := ⟨_, rfl⟩
              rw [← ew78] at hH
              have hf78 : ∀ y, y ≠ ad 9 4 0 → w78 y = wl y := fun y hy => by rw [ew78, hpvi]; exact upW_ne _ _ hy
              have hR78 := rep_row (i := 4) (f := upd (E1 9 4 0) i 1) hR1 h60 (by decide) (by rw [ew78, hpvi]; exact upW_at _ _ _) hf78
              have ne_pv : ∀ z, z ≠ ad 9 4 0 → w78 z = wl z := hf78
              have hc_a : w78 a = some (.inr (3, [.int (nI n), .ref (ad 9 0 0), .ref pls, .ref spc, .ref por, .ref pbs, .ref pvi, .ref (ad 13 60 0), .ref (ad 7 1 0), .int (E1 8 0 0 1), .int (E1 8 0 0 2), .int (E1 8 0 0 3)])) := (hf78 a (by rw [ha]; exact hR1.ne (k := 8) (i := 0) (j := 0) (k' := 9) (i' := 4) (j' := 0) ⟨rfl, rfl⟩ ⟨by decide, rfl⟩ (by decide))).trans hc_a
              have hc_por : w78 por = some (.inl (G.2 0, 6, .inl (E1 9 2 0))) := by rw [hpor]; exact hR78.1 9 2 0 ⟨by decide, rfl⟩
              refine lv_aload_n hx hb dX2_visit_79 rfl (lv_at hl 1 rfl) ?_
              refine x_get (C := RX2) (T := TX2) (N := 12) hx hb hts hiX2 hown hK hH hc_a rfl 4 (by decide) hf27 (fun _ h => h) (v := .ref por) rfl dX2_visit_80 ?_
              refine lv_iload_n hx hb dX2_visit_83 rfl (lv_at hl 2 rfl) ?_
              refine lv_iload hx hb dX2_visit_84 (lv_at hl 6 rfl) ?_
              refine Y_iast hx hb hK hH hc_por d rfl (by omega) (by decide) dX2_visit_86 (fun H locs hH => ?_)
              have hH : xH G A s.heap H locs (va_up w78 por (some (.inl (G.2 0, 6, .inl (upd (E1 9 2 0) d (nI i)))))) := hH
              obtain ⟨w86, ew86⟩ : ∃ z, z = va_up w78 por (some (.inl (G.2 0, 6, .inl (upd (E1 9 2 0) d (nI i))))) := ⟨_, rfl⟩
              rw [← ew86] at hH
              have hf86 : ∀ y, y ≠ ad 9 2 0 → w86 y = w78 y := fun y hy => by rw [ew86, hpor]; exact upW_ne _ _ hy
              have hR2 := rep_row (i := 2) (f := upd (E1 9 2 0) d (nI i)) hR78 h60 (by decide) (by rw [ew86, hpor]; exact upW_at _ _ _) hf86
              obtain ⟨E2, hE2⟩ : ∃ z, z = upK (upK E1 9 4 (upd (E1 9 4 0) i 1)) 9 2 (upd (E1 9 2 0) d (nI i)) := ⟨_, rfl⟩
              rw [← hE2] at hR2
              have hS2 : PlS E2 n pl sv p0 (pre ++ [i]) (vfd (vev pl sv p0) n 5 pre b i) := by rw [hE2, ← hd]; exact hS1.push (by omega)
              have h902 : E2 9 0 0 = E 9 0 0 := by rw [hE2, upK_i _ _ _ (by decide), upK_i _ _ _ (by decide)]; exact h90
              have hK2 : Kp w w86 ad L := hKp.trans (fun y hy => (hf86 y (hy 9 2 0 ⟨by decide, rfl⟩)).trans (hf78 y (hy 9 4 0 ⟨by decide, rfl⟩)))
              have hc_a : w86 a = some (.inr (3, [.int (nI n), .ref (ad 9 0 0), .ref pls, .ref spc, .ref por, .ref pbs, .ref pvi, .ref (ad 13 60 0), .ref (ad 7 1 0), .int (E2 8 0 0 1), .int (E2 8 0 0 2), .int (E2 8 0 0 3)])) := by rw [ha, hpls, hspc, hpor, hpbs, hpvi, ← hS2.1]; exact hR2.1 8 0 0 ⟨rfl, rfl⟩
              have hc_pls : w86 pls = some (.inl (G.2 0, 6, .inl (E2 9 1 0))) := by rw [hpls]; exact hR2.1 9 1 0 ⟨by decide, rfl⟩
              have hc_spc : w86 spc = some (.inl (G.2 5, 6, .inr (.inr (.inr (.inr (six ad 11)))))) := by rw [hspc]; exact hR2.1 10 0 0 ⟨rfl, rfl⟩
              refine lv_aload_n hx hb dX2_visit_87 rfl (lv_at hl 1 rfl) ?_
              refine lv_iload_n hx hb dX2_visit_88 rfl (lv_at hl 2 rfl) ?_
              refine lv_iconst (v := 1) hx hb dX2_visit_89 (by decide) ?_
              refine N_iadd hx hb d 1 rfl rfl dX2_visit_90 ?_
              refine lv_aload_n hx hb dX2_visit_91 rfl (lv_at hl 1 rfl) ?_
              refine x_get (C := RX2) (T := TX2) (N := 12) hx hb hts hiX2 hown hK hH hc_a rfl 2 (by decide) hf19 (fun _ h => h) (v := .ref pls) rfl dX2_visit_92 ?_
              refine lv_iload hx hb dX2_visit_95 (lv_at hl 6 rfl) ?_
              refine Y_iald hx hb hK hH hc_pls i rfl (by omega) (by decide) dX2_visit_97 ?_
              refine lv_topi (fun v98 ev98 => ?_)
              have hv98 : v98 = nI (pl i) := by rw [ev98]; exact hS2.2.1 i (by omega)
              subst hv98
              refine lv_iload hx hb dX2_visit_98 (lv_at hl 0 rfl) ?_
              refine lv_iload hx hb dX2_visit_100 (lv_at hl 5 rfl) ?_
              refine lv_aload_n hx hb dX2_visit_102 rfl (lv_at hl 1 rfl) ?_
              refine lv_iload hx hb dX2_visit_103 (lv_at hl 6 rfl) ?_
              refine lv_iload hx hb dX2_visit_105 (lv_at hl 0 rfl) ?_
              refine x_calli (va_runV (As := [.int (nI i), .int (nI (stp + (pdist cur (pl i))))]) (rest := [.int (nI ov), .int (nI (stp + (pdist cur (pl i)))), .int (nI (pl i)), .int (nI (d + 1)), .ref a]) ⟨hx, hb, hml, hown, hts⟩ (c_X2_spilledBy l G A _ a spc (ad 11 i 0) _ _ _ _ _ _ _ _ _ _ _ (six ad 11) _ hc_a hc_spc (hR2.1 11 i 0 ⟨by omega, rfl⟩) i (stp + pdist cur (pl i)) (by omega) (by omega) (if_pos (by omega))) (cwV 2 hts gX2_visit_X2_spilledBy rfl rfl rfl (by decide +kernel) ⟨Nat.le_of_ble_eq_true rfl, Nat.le_of_ble_eq_true rfl⟩) (x_preV hK hH hTt (hc_a) rfl [.int (nI i), .int (nI (stp + (pdist cur (pl i))))]) rfl rfl hl.1 rfl (lv_room (Nat.le_of_ble_eq_true rfl)) dX2_visit_107 ⟨Nat.le_of_ble_eq_true rfl, Nat.le_of_ble_eq_true rfl⟩) hH (fun r107 u H locs hp hH => ?_)
              obtain ⟨hrq, hu9⟩ := hp
              rw [hu9] at hH
              have hsq : r107 = nI (sv i (if 19 < (stp + pdist cur (pl i)) / 60 then 19 else (stp + pdist cur (pl i)) / 60)) := hrq.trans (hS2.2.2.1 i (by omega) _ (by split <;> omega))
              subst hsq
              refine N_iadd hx hb ov (sv i (if 19 < (stp + pdist cur (pl i)) / 60 then 19 else (stp + pdist cur (pl i)) / 60)) rfl rfl dX2_visit_110 ?_
              refine x_callv (va_runS (As := [.ref a, .int (nI (d + 1)), .int (nI (pl i)), .int (nI (stp + (pdist cur (pl i)))), .int (nI (ov + (sv i (if 19 < (stp + pdist cur (pl i)) / 60 then 19 else (stp + pdist cur (pl i)) / 60))))]) (rest := []) ⟨hx, hb, hml, hown, hts⟩ (c5_X2_visit l G A _ a ad E2 cp L wd bw lb I F n (by rw [hpls, hspc, hpor, hpbs, hpvi] at hc_a; exact hc_a) hR2 h60 ha (d + 1) (pl i) (stp + pdist cur (pl i)) (ov + sv i (if 19 < (stp + pdist cur (pl i)) / 60 then 19 else (stp + pdist cur (pl i)) / 60)) p0 pl sv (pre ++ [i]) (vfd (vev pl sv p0) n 5 pre b i) hn hpl hsv hp0 hS2 (by rw [List.length_append, hd]; rfl) (by omega) (by rw [vev_s, hev]; rfl)) (va_cwS 5 hts gX2_visit_X2_visit rfl rfl rfl (by decide +kernel) ⟨Nat.le_of_ble_eq_true rfl, Nat.le_of_ble_eq_true rfl⟩) (x_preS hK hH hTt [.ref a, .int (nI (d + 1)), .int (nI (pl i)), .int (nI (stp + (pdist cur (pl i)))), .int (nI (ov + (sv i (if 19 < (stp + pdist cur (pl i)) / 60 then 19 else (stp + pdist cur (pl i)) / 60))))]) rfl rfl hl.1 rfl (lv_room (Nat.le_of_ble_eq_true rfl)) dX2_visit_111 ⟨Nat.le_of_ble_eq_true rfl, Nat.le_of_ble_eq_true rfl⟩) hH (fun w111 H locs hp hH => ?_)
              obtain ⟨E3, hR3, hS3, h903, hK3⟩ := hp
              have hc_a : w111 a = some (.inr (3, [.int (nI n), .ref (ad 9 0 0), .ref pls, .ref spc, .ref por, .ref pbs, .ref pvi, .ref (ad 13 60 0), .ref (ad 7 1 0), .int (E3 8 0 0 1), .int (E3 8 0 0 2), .int (E3 8 0 0 3)])) := by rw [ha, hpls, hspc, hpor, hpbs, hpvi, ← hS3.1]; exact hR3.1 8 0 0 ⟨rfl, rfl⟩
              have hc_pvi : w111 pvi = some (.inl (G.2 1, 6, .inl (E3 9 4 0))) := by rw [hpvi]; exact hR3.1 9 4 0 ⟨by decide, rfl⟩
              refine lv_aload_n hx hb dX2_visit_114 rfl (lv_at hl 1 rfl) ?_
              refine x_get (C := RX2) (T := TX2) (N := 12) hx hb hts hiX2 hown hK hH hc_a rfl 6 (by decide) hf33 (fun _ h => h) (v := .ref pvi) rfl dX2_visit_115 ?_
              refine lv_iload hx hb dX2_visit_118 (lv_at hl 6 rfl) ?_
              refine lv_iconst (v := 0) hx hb dX2_visit_120 (by decide) ?_
              refine Y_zast hx hb hK hH hc_pvi i rfl (by omega) (by decide) (by decide) dX2_visit_121 (fun H locs hH => ?_)
              have hH : xH G A s.heap H locs (va_up w111 pvi (some (.inl (G.2 1, 6, .inl (upd (E3 9 4 0) i 0))))) := hH
              obtain ⟨w121, ew121⟩ : ∃ z, z = va_up w111 pvi (some (.inl (G.2 1, 6, .inl (upd (E3 9 4 0) i 0)))) := ⟨_, rfl⟩
              rw [← ew121] at hH
              have hf121 : ∀ y, y ≠ ad 9 4 0 → w121 y = w111 y := fun y hy => by rw [ew121, hpvi]; exact upW_ne _ _ hy
              have hR4 := rep_row (i := 4) (f := upd (E3 9 4 0) i 0) hR3 h60 (by decide) (by rw [ew121, hpvi]; exact upW_at _ _ _) hf121
              have hS4 := hS3.pop hm
              have h904 : upK E3 9 4 (upd (E3 9 4 0) i 0) 9 0 0 = E 9 0 0 := by rw [upK_i _ _ _ (by decide)]; exact h903.trans h902
              have hK4 : Kp w w121 ad L := (hK2.trans hK3).trans (fun y hy => hf121 y (hy 9 4 0 ⟨by decide, rfl⟩))
              refine lv_iinc (v := nI (i + 1)) (lv' := [(5, .int (nI (i + 1))), (6, .int (nI (stp + (pdist cur (pl i))))), (0, .ref a), (1, .int (nI d)), (2, .int (nI cur)), (3, .int (nI stp)), (4, .int (nI ov))]) hx hb dX2_visit_122 hl (k := 6) rfl (by exact nI_add _ 1) (by decide) rfl (fun ls hl => ?_)
              refine lv_goto (tgt := 37) hx hb dX2_visit_125 (by decide) ?_
              exact ih37 (i + 1) w121 (upK E3 9 4 (upd (E3 9 4 0) i 0)) (by omega) (by omega) (hR4) (hK4) (by rw [vfd_n hm]; exact hS4) (h904) _ _ hH ls (lv_sub hl [2, 3, 4, 5, 6, 0] rfl)
      · have c23 : ¬ d < n := fun zz => c23 ((nI_ltI (a := d) (b := n) (by omega) (by omega)).mpr zz)
        exact absurd hk (by omega)
    · have hcut : ¬ vlt (vev pl sv p0 pre) (vev pl sv p0 q) := fun z => by rw [hev] at z; rw [hrb, if_pos z] at c14; exact absurd c14 (by decide)
      exact x_vret w hx hb hr hlocks hK hH (⟨E, hR, (by rw [hbq, vis_cut hcut, ← hbq]; exact hS), rfl, fun _ _ => rfl⟩) dX2_visit_17
