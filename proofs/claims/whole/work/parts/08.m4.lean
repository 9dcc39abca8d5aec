
theorem hasS_set (F : Nat → Nat → Int32) {k : Nat} (j : Nat) (x : Int32) (b : Nat) (h : 18 ≠ k) : hasS (setA F k j x) b = hasS F b := by
  unfold hasS
  rw [setA_n F j x h]
theorem gradB_set (F : Nat → Nat → Int32) {k : Nat} (j : Nat) (x : Int32) (b : Nat) (h : 18 ≠ k) : gradB (setA F k j x) b = gradB F b := by
  unfold gradB
  rw [hasS_set F j x b h, setA_n F j x h]
theorem fullI_01 (F : Nat → Nat → Int32) (b : Nat) : fullI F b = 0 ∨ fullI F b = 1 := by
  unfold fullI
  split
  · exact Or.inr rfl
  · split
    · split
      · exact Or.inl rfl
      · exact Or.inr rfl
    · exact Or.inr rfl
def sBarrel (I : Nat → Int32) (F : Nat → Nat → Int32) (b what : Int32) : Int32 := if binI b 0 (I 16 - 1) = 0 then -1 else if binI what 1 4 = 0 then (if what = 0 then hasS F (ix b) else if what = 5 then gradB F (ix b) else if what = 6 then F 17 (ix b) else if what = 7 then fullI F (ix b) else if what = 8 then (if F 20 (ix b) = 0 then 0 else 1) else if what = 9 then (if F 21 (ix b) = 0 then 0 else 1) else -1) else F 18 (4 * ix b + ix what - 1)
def sStill (I : Nat → Int32) (F : Nat → Nat → Int32) (b : Int32) : Int32 × MS := if binI b 0 (I 16 - 1) = 0 then (-1, I, F) else if F 20 (ix b) = 0 then (if F 21 (ix b) = 0 then (10000 * (hasS F (ix b) / 5) + hasS F (ix b) * (70 - 5 * gradB F (ix b)) / 100, va_up (va_up I 31 (I 31 + hasS F (ix b) / 5)) 32 (I 32 + hasS F (ix b) * (70 - 5 * gradB F (ix b)) / 100), setA F 20 (ix b) 1) else (-1, I, F)) else (-1, I, F)
def sPay (I : Nat → Int32) (F : Nat → Nat → Int32) (b : Int32) : Int32 × MS := if binI b 0 (I 16 - 1) = 0 then (-2147483648, I, F) else if F 20 (ix b) = 0 then (if F 21 (ix b) = 0 then (if F 22 (ix (F 17 (ix b))) = 0 then (-2147483648, I, F) else (sDue (setA (setA F 21 (ix b) 1) 25 (ix (F 17 (ix b))) (F 25 (ix (F 17 (ix b))) + hasS F (ix b))) (F 17 (ix b)), I, setA (setA F 21 (ix b) 1) 25 (ix (F 17 (ix b))) (F 25 (ix (F 17 (ix b))) + hasS F (ix b)))) else (-2147483648, I, F)) else (-2147483648, I, F)
def sCount (I : Nat → Int32) (F : Nat → Nat → Int32) (what : Int32) : Int32 := if what = 0 then I 0 else if what = 1 then I 3 else if what = 2 then I 16 else if what = 3 then I 26 else if what = 4 then I 27 else if what = 5 then I 28 else if what = 6 then I 29 else if what = 7 then l_sum (cupS F) 180 else if what = 8 then I 30 else if what = 9 then I 31 else if what = 10 then I 32 else -1

set_option maxHeartbeats 4000000 in
set_option maxRecDepth 100000 in
theorem c_X7_barrel (l : Launch) (G : XG) (A : Nat → Prop) (ρ : Nat → Option Nat) (ad : Nat → Nat) (b : XW) (I : Nat → Int32) (F : Nat → Nat → Int32) (hρ : mA ρ ad) (nB : Nat) (hnB : I 16 = nI nB) (hB : nB ≤ 200) (hh0 : ∀ q, q < nB → ¬ hasS F q = 0) (b0 what : Int32) : Met l yX7_barrel wsX7_barrel ({ frames := 2, cells := 0, slots := 0, locals := 46 }) (va_Pc [.ref (ad 0), .int b0, .int what] (xP G A (mw G ρ ad b I F))) (va_Qi (fun (r : Int32) (u : (Nat → Int32) × (Nat → Nat → Int32)) => r = sBarrel I F b0 what ∧ u = (I, F)) (fun u t => xB G A (mw G ρ ad b u.1 u.2) t) A) 0 0 A := by
  refine Met.ofW (cc := cX7_barrel) (maxL := 3) (ret := (some .int)) (by decide) rfl ?_
  intro p e s m args below meth c s₁ B hml hv
  obtain ⟨rfl, hK, hH, hTt⟩ := hv
  have hx := B.exec
  have hb := B.bytes
  have hr := B.returns
  have hts := atoms_spec (ws := wsX7_barrel) B.pre
  have hown : s.vm.findClass RX7 = some m.cls := findClass_of_methodNamed B.named
  have hlocks := B.notSynchronized
  have hiX7 : ∀ w ∈ wsX70, w ∈ wsX7_barrel := by decide +kernel
  have hf53 := hts (.fieldLink RX7 53 "ResinWoodsModel" "barrelWood" "[I") (by decide +kernel)
  have hf56 := hts (.fieldLink RX7 56 "ResinWoodsModel" "barrelHas" "[I") (by decide +kernel)
  have hf62 := hts (.fieldLink RX7 62 "ResinWoodsModel" "isStilled" "[Z") (by decide +kernel)
  have hf65 := hts (.fieldLink RX7 65 "ResinWoodsModel" "isPaid" "[Z") (by decide +kernel)
  have hl := lv_entry ([.ref (ad 0), .int b0, .int what]) (n := 3) (Nat.le_of_ble_eq_true rfl)
  rw [lg_entry_eq]
  generalize (lg_sl ([.ref (ad 0), .int b0, .int what]) ++ List.replicate (3 - (lg_sl ([.ref (ad 0), .int b0, .int what])).length) Slot.unset).toArray = ls at hl ⊢
  have hl : lv_has ls 3 [(0, .ref (ad 0)), (1, .int b0), (2, .int what)] := hl
  refine lv_aload_n hx hb dX7_barrel_0 rfl (lv_at hl 0 rfl) ?_
  refine lv_iload_n hx hb dX7_barrel_1 rfl (lv_at hl 1 rfl) ?_
  refine x_calli (va_runV (As := [.int b0]) (rest := []) ⟨hx, hb, hml, hown, hts⟩ (c_X7_isBarrel l G A ρ ad b I F hρ b0) (cwV 1 hts gX7_barrel_X7_isBarrel rfl rfl rfl (by decide +kernel) ⟨Nat.le_of_ble_eq_true rfl, Nat.le_of_ble_eq_true rfl⟩) (x_preV hK hH hTt (mw_ob hρ) rfl [.int b0]) rfl rfl hl.1 rfl (lv_room (Nat.le_of_ble_eq_true rfl)) dX7_barrel_2 ⟨Nat.le_of_ble_eq_true rfl, Nat.le_of_ble_eq_true rfl⟩) hH (fun r2 u H locs hp hH => ?_)
  obtain ⟨rfl, rfl⟩ := hp
  have hH : xH G A s.heap H locs (mw G ρ ad b I F) := hH
  refine lv_if_ne (tgt := 10) hx hb dX7_barrel_5 (by decide) (fun c5 => ?_) (fun c5 => ?_)
  · obtain ⟨b1, hb1, rfl⟩ := inI_pred (n := nB) (by rw [← hnB]; exact binI_1.mp c5) (by omega)
    refine lv_iload_n hx hb dX7_barrel_10 rfl (lv_at hl 2 rfl) ?_
    refine lv_iconst (v := 1) hx hb dX7_barrel_11 (by decide) ?_
    refine lv_iconst (v := 4) hx hb dX7_barrel_12 (by decide) ?_
    refine x_calli (va_runS (As := [.int what, .int 1, .int 4]) (rest := []) ⟨hx, hb, hml, hown, hts⟩ (c_X7_in l G A (mw G ρ ad b I F) what 1 4) (va_cwS 3 hts gX7_barrel_X7_in rfl rfl rfl (by decide +kernel) ⟨Nat.le_of_ble_eq_true rfl, Nat.le_of_ble_eq_true rfl⟩) (x_preS hK hH hTt [.int what, .int 1, .int 4]) rfl rfl hl.1 rfl (lv_room (Nat.le_of_ble_eq_true rfl)) dX7_barrel_13 ⟨Nat.le_of_ble_eq_true rfl, Nat.le_of_ble_eq_true rfl⟩) hH (fun r13 u H locs hp hH => ?_)
    subst hp
    have hH : xH G A s.heap H locs (mw G ρ ad b I F) := hH
    refine lv_if_eq (tgt := 32) hx hb dX7_barrel_16 (by decide) (fun c16 => ?_) (fun c16 => ?_)
    · refine lv_iload_n hx hb dX7_barrel_32 rfl (lv_at hl 2 rfl) ?_
      by_cases q0 : what = 0
      · subst q0
        refine lv_tableIn (tgt := 88) (off := 55) hx hb dX7_barrel_33 (by decide) (by decide) (by decide) (by decide) ?_
        refine lv_aload_n hx hb dX7_barrel_88 rfl (lv_at hl 0 rfl) ?_
        refine lv_iload_n hx hb dX7_barrel_89 rfl (lv_at hl 1 rfl) ?_
        refine x_calli (va_runV (As := [.int (nI b1)]) (rest := []) ⟨hx, hb, hml, hown, hts⟩ (c_X7_has l G A ρ ad b I F hρ b1 (by omega)) (cwV 1 hts gX7_barrel_X7_has rfl rfl rfl (by decide +kernel) ⟨Nat.le_of_ble_eq_true rfl, Nat.le_of_ble_eq_true rfl⟩) (x_preV hK hH hTt (mw_ob hρ) rfl [.int (nI b1)]) rfl rfl hl.1 rfl (lv_room (Nat.le_of_ble_eq_true rfl)) dX7_barrel_90 ⟨Nat.le_of_ble_eq_true rfl, Nat.le_of_ble_eq_true rfl⟩) hH (fun r90 u H locs hp hH => ?_)
        obtain ⟨rfl, rfl⟩ := hp
        have hH : xH G A s.heap H locs (mw G ρ ad b I F) := hH
        exact x_iret (v := hasS F b1) (I, F) hx hb hr hlocks hK hH (⟨by simp only [sBarrel]; first | (rw [if_pos c5]; done) | (rw [if_neg c5, ix_n (show b1 < 2 ^ 31 by omega)]; first | (rw [if_neg c16, ix_n (show q < 2 ^ 31 by omega)]; done) | (rw [if_pos c16]; first | rfl | (rcases fullI_01 F b1 with e | e <;> simp_all; done) | (simp_all; done) | (rw [if_neg q0, if_neg q5, if_neg q6, if_neg q7, if_neg q8, if_neg q9]; done) | (exact absurd c16 (by decide)))), rfl⟩) dX7_barrel_93
      by_cases q1 : what = 1
      · subst q1
        refine lv_tableIn (tgt := 151) (off := 118) hx hb dX7_barrel_33 (by decide) (by decide) (by decide) (by decide) ?_
        refine lv_iconst (v := (-1)) hx hb dX7_barrel_151 (by decide) ?_
        exact x_iret (v := (-1)) (I, F) hx hb hr hlocks hK hH (⟨by simp only [sBarrel]; first | (rw [if_pos c5]; done) | (rw [if_neg c5, ix_n (show b1 < 2 ^ 31 by omega)]; first | (rw [if_neg c16, ix_n (show q < 2 ^ 31 by omega)]; done) | (rw [if_pos c16]; first | rfl | (rcases fullI_01 F b1 with e | e <;> simp_all; done) | (simp_all; done) | (rw [if_neg q0, if_neg q5, if_neg q6, if_neg q7, if_neg q8, if_neg q9]; done) | (exact absurd c16 (by decide)))), rfl⟩) dX7_barrel_152
      by_cases q2 : what = 2
      · subst q2
        refine lv_tableIn (tgt := 151) (off := 118) hx hb dX7_barrel_33 (by decide) (by decide) (by decide) (by decide) ?_
        refine lv_iconst (v := (-1)) hx hb dX7_barrel_151 (by decide) ?_
        exact x_iret (v := (-1)) (I, F) hx hb hr hlocks hK hH (⟨by simp only [sBarrel]; first | (rw [if_pos c5]; done) | (rw [if_neg c5, ix_n (show b1 < 2 ^ 31 by omega)]; first | (rw [if_neg c16, ix_n (show q < 2 ^ 31 by omega)]; done) | (rw [if_pos c16]; first | rfl | (rcases fullI_01 F b1 with e | e <;> simp_all; done) | (simp_all; done) | (rw [if_neg q0, if_neg q5, if_neg q6, if_neg q7, if_neg q8, if_neg q9]; done) | (exact absurd c16 (by decide)))), rfl⟩) dX7_barrel_152
      by_cases q3 : what = 3
      · subst q3
        refine lv_tableIn (tgt := 151) (off := 118) hx hb dX7_barrel_33 (by decide) (by decide) (by decide) (by decide) ?_
        refine lv_iconst (v := (-1)) hx hb dX7_barrel_151 (by decide) ?_
        exact x_iret (v := (-1)) (I, F) hx hb hr hlocks hK hH (⟨by simp only [sBarrel]; first | (rw [if_pos c5]; done) | (rw [if_neg c5, ix_n (show b1 < 2 ^ 31 by omega)]; first | (rw [if_neg c16, ix_n (show q < 2 ^ 31 by omega)]; done) | (rw [if_pos c16]; first | rfl | (rcases fullI_01 F b1 with e | e <;> simp_all; done) | (simp_all; done) | (rw [if_neg q0, if_neg q5, if_neg q6, if_neg q7, if_neg q8, if_neg q9]; done) | (exact absurd c16 (by decide)))), rfl⟩) dX7_barrel_152
      by_cases q4 : what = 4
      · subst q4
        refine lv_tableIn (tgt := 151) (off := 118) hx hb dX7_barrel_33 (by decide) (by decide) (by decide) (by decide) ?_
        refine lv_iconst (v := (-1)) hx hb dX7_barrel_151 (by decide) ?_
        exact x_iret (v := (-1)) (I, F) hx hb hr hlocks hK hH (⟨by simp only [sBarrel]; first | (rw [if_pos c5]; done) | (rw [if_neg c5, ix_n (show b1 < 2 ^ 31 by omega)]; first | (rw [if_neg c16, ix_n (show q < 2 ^ 31 by omega)]; done) | (rw [if_pos c16]; first | rfl | (rcases fullI_01 F b1 with e | e <;> simp_all; done) | (simp_all; done) | (rw [if_neg q0, if_neg q5, if_neg q6, if_neg q7, if_neg q8, if_neg q9]; done) | (exact absurd c16 (by decide)))), rfl⟩) dX7_barrel_152
      by_cases q5 : what = 5
      · subst q5
        refine lv_tableIn (tgt := 94) (off := 61) hx hb dX7_barrel_33 (by decide) (by decide) (by decide) (by decide) ?_
        refine lv_aload_n hx hb dX7_barrel_94 rfl (lv_at hl 0 rfl) ?_
        refine lv_iload_n hx hb dX7_barrel_95 rfl (lv_at hl 1 rfl) ?_
        refine x_calli (va_runV (As := [.int (nI b1)]) (rest := []) ⟨hx, hb, hml, hown, hts⟩ (c_X7_grade l G A ρ ad b I F hρ b1 (by omega) (hh0 _ (by omega))) (cwV 1 hts gX7_barrel_X7_grade rfl rfl rfl (by decide +kernel) ⟨Nat.le_of_ble_eq_true rfl, Nat.le_of_ble_eq_true rfl⟩) (x_preV hK hH hTt (mw_ob hρ) rfl [.int (nI b1)]) rfl rfl hl.1 rfl (lv_room (Nat.le_of_ble_eq_true rfl)) dX7_barrel_96 ⟨Nat.le_of_ble_eq_true rfl, Nat.le_of_ble_eq_true rfl⟩) hH (fun r96 u H locs hp hH => ?_)
        obtain ⟨rfl, rfl⟩ := hp
        have hH : xH G A s.heap H locs (mw G ρ ad b I F) := hH
        exact x_iret (v := gradB F b1) (I, F) hx hb hr hlocks hK hH (⟨by simp only [sBarrel]; first | (rw [if_pos c5]; done) | (rw [if_neg c5, ix_n (show b1 < 2 ^ 31 by omega)]; first | (rw [if_neg c16, ix_n (show q < 2 ^ 31 by omega)]; done) | (rw [if_pos c16]; first | rfl | (rcases fullI_01 F b1 with e | e <;> simp_all; done) | (simp_all; done) | (rw [if_neg q0, if_neg q5, if_neg q6, if_neg q7, if_neg q8, if_neg q9]; done) | (exact absurd c16 (by decide)))), rfl⟩) dX7_barrel_99
      by_cases q6 : what = 6
      · subst q6
        refine lv_tableIn (tgt := 100) (off := 67) hx hb dX7_barrel_33 (by decide) (by decide) (by decide) (by decide) ?_
        refine lv_aload_n hx hb dX7_barrel_100 rfl (lv_at hl 0 rfl) ?_
        refine M_get hx hb hts hiX7 hown hK hρ hH 17 (by decide) hf53 (v := .ref (ad 17)) rfl dX7_barrel_101 ?_
        refine lv_iload_n hx hb dX7_barrel_104 rfl (lv_at hl 1 rfl) ?_
        refine M_iald hx hb hK hρ hH 17 200 (by decide) b1 rfl (by omega) dX7_barrel_105 ?_
        exact x_iret (v := F 17 b1) (I, F) hx hb hr hlocks hK hH (⟨by simp only [sBarrel]; first | (rw [if_pos c5]; done) | (rw [if_neg c5, ix_n (show b1 < 2 ^ 31 by omega)]; first | (rw [if_neg c16, ix_n (show q < 2 ^ 31 by omega)]; done) | (rw [if_pos c16]; first | rfl | (rcases fullI_01 F b1 with e | e <;> simp_all; done) | (simp_all; done) | (rw [if_neg q0, if_neg q5, if_neg q6, if_neg q7, if_neg q8, if_neg q9]; done) | (exact absurd c16 (by decide)))), rfl⟩) dX7_barrel_106
      by_cases q7 : what = 7
      · subst q7
        refine lv_tableIn (tgt := 107) (off := 74) hx hb dX7_barrel_33 (by decide) (by decide) (by decide) (by decide) ?_
        refine lv_aload_n hx hb dX7_barrel_107 rfl (lv_at hl 0 rfl) ?_
        refine lv_iload_n hx hb dX7_barrel_108 rfl (lv_at hl 1 rfl) ?_
        refine x_calli (va_runV (As := [.int (nI b1)]) (rest := []) ⟨hx, hb, hml, hown, hts⟩ (c_X7_isFull l G A ρ ad b I F hρ b1 (by omega)) (cwV 1 hts gX7_barrel_X7_isFull rfl rfl rfl (by decide +kernel) ⟨Nat.le_of_ble_eq_true rfl, Nat.le_of_ble_eq_true rfl⟩) (x_preV hK hH hTt (mw_ob hρ) rfl [.int (nI b1)]) rfl rfl hl.1 rfl (lv_room (Nat.le_of_ble_eq_true rfl)) dX7_barrel_109 ⟨Nat.le_of_ble_eq_true rfl, Nat.le_of_ble_eq_true rfl⟩) hH (fun r109 u H locs hp hH => ?_)
        obtain ⟨rfl, rfl⟩ := hp
        have hH : xH G A s.heap H locs (mw G ρ ad b I F) := hH
        refine lv_if_eq (tgt := 119) hx hb dX7_barrel_112 (by decide) (fun c112 => ?_) (fun c112 => ?_)
        · refine lv_iconst (v := 0) hx hb dX7_barrel_119 (by decide) ?_
          exact x_iret (v := 0) (I, F) hx hb hr hlocks hK hH (⟨by simp only [sBarrel]; first | (rw [if_pos c5]; done) | (rw [if_neg c5, ix_n (show b1 < 2 ^ 31 by omega)]; first | (rw [if_neg c16, ix_n (show q < 2 ^ 31 by omega)]; done) | (rw [if_pos c16]; first | rfl | (rcases fullI_01 F b1 with e | e <;> simp_all; done) | (simp_all; done) | (rw [if_neg q0, if_neg q5, if_neg q6, if_neg q7, if_neg q8, if_neg q9]; done) | (exact absurd c16 (by decide)))), rfl⟩) dX7_barrel_120
        · refine lv_iconst (v := 1) hx hb dX7_barrel_115 (by decide) ?_
          refine lv_goto (tgt := 120) hx hb dX7_barrel_116 (by decide) ?_
          exact x_iret (v := 1) (I, F) hx hb hr hlocks hK hH (⟨by simp only [sBarrel]; first | (rw [if_pos c5]; done) | (rw [if_neg c5, ix_n (show b1 < 2 ^ 31 by omega)]; first | (rw [if_neg c16, ix_n (show q < 2 ^ 31 by omega)]; done) | (rw [if_pos c16]; first | rfl | (rcases fullI_01 F b1 with e | e <;> simp_all; done) | (simp_all; done) | (rw [if_neg q0, if_neg q5, if_neg q6, if_neg q7, if_neg q8, if_neg q9]; done) | (exact absurd c16 (by decide)))), rfl⟩) dX7_barrel_120
      by_cases q8 : what = 8
      · subst q8
        refine lv_tableIn (tgt := 121) (off := 88) hx hb dX7_barrel_33 (by decide) (by decide) (by decide) (by decide) ?_
        refine lv_aload_n hx hb dX7_barrel_121 rfl (lv_at hl 0 rfl) ?_
        refine M_get hx hb hts hiX7 hown hK hρ hH 20 (by decide) hf62 (v := .ref (ad 20)) rfl dX7_barrel_122 ?_
        refine lv_iload_n hx hb dX7_barrel_125 rfl (lv_at hl 1 rfl) ?_
        refine M_zald hx hb hK hρ hH 20 200 (by decide) b1 rfl (by omega) dX7_barrel_126 ?_
        refine lv_if_eq (tgt := 134) hx hb dX7_barrel_127 (by decide) (fun c127 => ?_) (fun c127 => ?_)
        · refine lv_iconst (v := 0) hx hb dX7_barrel_134 (by decide) ?_
          exact x_iret (v := 0) (I, F) hx hb hr hlocks hK hH (⟨by simp only [sBarrel]; first | (rw [if_pos c5]; done) | (rw [if_neg c5, ix_n (show b1 < 2 ^ 31 by omega)]; first | (rw [if_neg c16, ix_n (show q < 2 ^ 31 by omega)]; done) | (rw [if_pos c16]; first | rfl | (rcases fullI_01 F b1 with e | e <;> simp_all; done) | (simp_all; done) | (rw [if_neg q0, if_neg q5, if_neg q6, if_neg q7, if_neg q8, if_neg q9]; done) | (exact absurd c16 (by decide)))), rfl⟩) dX7_barrel_135
        · refine lv_iconst (v := 1) hx hb dX7_barrel_130 (by decide) ?_
          refine lv_goto (tgt := 135) hx hb dX7_barrel_131 (by decide) ?_
          exact x_iret (v := 1) (I, F) hx hb hr hlocks hK hH (⟨by simp only [sBarrel]; first | (rw [if_pos c5]; done) | (rw [if_neg c5, ix_n (show b1 < 2 ^ 31 by omega)]; first | (rw [if_neg c16, ix_n (show q < 2 ^ 31 by omega)]; done) | (rw [if_pos c16]; first | rfl | (rcases fullI_01 F b1 with e | e <;> simp_all; done) | (simp_all; done) | (rw [if_neg q0, if_neg q5, if_neg q6, if_neg q7, if_neg q8, if_neg q9]; done) | (exact absurd c16 (by decide)))), rfl⟩) dX7_barrel_135
      by_cases q9 : what = 9
      · subst q9
        refine lv_tableIn (tgt := 136) (off := 103) hx hb dX7_barrel_33 (by decide) (by decide) (by decide) (by decide) ?_
        refine lv_aload_n hx hb dX7_barrel_136 rfl (lv_at hl 0 rfl) ?_
        refine M_get hx hb hts hiX7 hown hK hρ hH 21 (by decide) hf65 (v := .ref (ad 21)) rfl dX7_barrel_137 ?_
        refine lv_iload_n hx hb dX7_barrel_140 rfl (lv_at hl 1 rfl) ?_
        refine M_zald hx hb hK hρ hH 21 200 (by decide) b1 rfl (by omega) dX7_barrel_141 ?_
        refine lv_if_eq (tgt := 149) hx hb dX7_barrel_142 (by decide) (fun c142 => ?_) (fun c142 => ?_)
        · refine lv_iconst (v := 0) hx hb dX7_barrel_149 (by decide) ?_
          exact x_iret (v := 0) (I, F) hx hb hr hlocks hK hH (⟨by simp only [sBarrel]; first | (rw [if_pos c5]; done) | (rw [if_neg c5, ix_n (show b1 < 2 ^ 31 by omega)]; first | (rw [if_neg c16, ix_n (show q < 2 ^ 31 by omega)]; done) | (rw [if_pos c16]; first | rfl | (rcases fullI_01 F b1 with e | e <;> simp_all; done) | (simp_all; done) | (rw [if_neg q0, if_neg q5, if_neg q6, if_neg q7, if_neg q8, if_neg q9]; done) | (exact absurd c16 (by decide)))), rfl⟩) dX7_barrel_150
        · refine lv_iconst (v := 1) hx hb dX7_barrel_145 (by decide) ?_
          refine lv_goto (tgt := 150) hx hb dX7_barrel_146 (by decide) ?_
          exact x_iret (v := 1) (I, F) hx hb hr hlocks hK hH (⟨by simp only [sBarrel]; first | (rw [if_pos c5]; done) | (rw [if_neg c5, ix_n (show b1 < 2 ^ 31 by omega)]; first | (rw [if_neg c16, ix_n (show q < 2 ^ 31 by omega)]; done) | (rw [if_pos c16]; first | rfl | (rcases fullI_01 F b1 with e | e <;> simp_all; done) | (simp_all; done) | (rw [if_neg q0, if_neg q5, if_neg q6, if_neg q7, if_neg q8, if_neg q9]; done) | (exact absurd c16 (by decide)))), rfl⟩) dX7_barrel_150
      refine lv_tableOut (tgt := 151) hx hb dX7_barrel_33 (swOut 9 (fun k hk => by rcases (show k = 0 ∨ k = 1 ∨ k = 2 ∨ k = 3 ∨ k = 4 ∨ k = 5 ∨ k = 6 ∨ k = 7 ∨ k = 8 ∨ k = 9 by omega) with rfl | rfl | rfl | rfl | rfl | rfl | rfl | rfl | rfl | rfl <;> assumption)) (by decide) ?_
      refine lv_iconst (v := (-1)) hx hb dX7_barrel_151 (by decide) ?_
      exact x_iret (v := (-1)) (I, F) hx hb hr hlocks hK hH (⟨by simp only [sBarrel]; first | (rw [if_pos c5]; done) | (rw [if_neg c5, ix_n (show b1 < 2 ^ 31 by omega)]; first | (rw [if_neg c16, ix_n (show q < 2 ^ 31 by omega)]; done) | (rw [if_pos c16]; first | rfl | (rcases fullI_01 F b1 with e | e <;> simp_all; done) | (simp_all; done) | (rw [if_neg q0, if_neg q5, if_neg q6, if_neg q7, if_neg q8, if_neg q9]; done) | (exact absurd c16 (by decide)))), rfl⟩) dX7_barrel_152
    · obtain ⟨q, hq0, hq1, rfl⟩ := inI_nat (a := 1) (b := 4) (binI_1.mp c16) (by omega) (by omega)
      refine lv_aload_n hx hb dX7_barrel_19 rfl (lv_at hl 0 rfl) ?_
      refine M_get hx hb hts hiX7 hown hK hρ hH 18 (by decide) hf56 (v := .ref (ad 18)) rfl dX7_barrel_20 ?_
      refine lv_iconst (v := 4) hx hb dX7_barrel_23 (by decide) ?_
      refine lv_iload_n hx hb dX7_barrel_24 rfl (lv_at hl 1 rfl) ?_
      refine N_imul hx hb 4 b1 rfl rfl dX7_barrel_25 ?_
      refine lv_iload_n hx hb dX7_barrel_26 rfl (lv_at hl 2 rfl) ?_
      refine N_iadd hx hb (4 * b1) q rfl rfl dX7_barrel_27 ?_
      refine lv_iconst (v := 1) hx hb dX7_barrel_28 (by decide) ?_
      refine N_isub hx hb ((4 * b1) + q) 1 rfl rfl (by omega) dX7_barrel_29 ?_
      refine M_iald hx hb hK hρ hH 18 800 (by decide) (((4 * b1) + q) - 1) rfl (by omega) dX7_barrel_30 ?_
      exact x_iret (v := F 18 (((4 * b1) + q) - 1)) (I, F) hx hb hr hlocks hK hH (⟨by simp only [sBarrel]; first | (rw [if_pos c5]; done) | (rw [if_neg c5, ix_n (show b1 < 2 ^ 31 by omega)]; first | (rw [if_neg c16, ix_n (show q < 2 ^ 31 by omega)]; done) | (rw [if_pos c16]; first | rfl | (rcases fullI_01 F b1 with e | e <;> simp_all; done) | (simp_all; done) | (rw [if_neg q0, if_neg q5, if_neg q6, if_neg q7, if_neg q8, if_neg q9]; done) | (exact absurd c16 (by decide)))), rfl⟩) dX7_barrel_31
  · refine lv_iconst (v := (-1)) hx hb dX7_barrel_8 (by decide) ?_
    exact x_iret (v := (-1)) (I, F) hx hb hr hlocks hK hH (⟨by simp only [sBarrel]; first | (rw [if_pos c5]; done) | (rw [if_neg c5, ix_n (show b1 < 2 ^ 31 by omega)]; first | (rw [if_neg c16, ix_n (show q < 2 ^ 31 by omega)]; done) | (rw [if_pos c16]; first | rfl | (rcases fullI_01 F b1 with e | e <;> simp_all; done) | (simp_all; done) | (rw [if_neg q0, if_neg q5, if_neg q6, if_neg q7, if_neg q8, if_neg q9]; done) | (exact absurd c16 (by decide)))), rfl⟩) dX7_barrel_9

set_option maxHeartbeats 4000000 in
set_option maxRecDepth 100000 in
theorem c_X7_still (l : Launch) (G : XG) (A : Nat → Prop) (ρ : Nat → Option Nat) (ad : Nat → Nat) (b : XW) (I : Nat → Int32) (F : Nat → Nat → Int32) (hρ : mA ρ ad) (nB : Nat) (hnB : I 16 = nI nB) (hB : nB ≤ 200) (hh0 : ∀ q, q < nB → ¬ hasS F q = 0) (b0 : Int32) : Met l yX7_still wsX7_still ({ frames := 2, cells := 0, slots := 0, locals := 46 }) (va_Pc [.ref (ad 0), .int b0] (xP G A (mw G ρ ad b I F))) (va_Qi (fun (r : Int32) (u : (Nat → Int32) × (Nat → Nat → Int32)) => (r, u) = sStill I F b0) (fun u t => xB G A (mw G ρ ad b u.1 u.2) t) A) 0 0 A := by
  refine Met.ofW (cc := cX7_still) (maxL := 4) (ret := (some .int)) (by decide) rfl ?_
  intro p e s m args below meth c s₁ B hml hv
  obtain ⟨rfl, hK, hH, hTt⟩ := hv
  have hx := B.exec
  have hb := B.bytes
  have hr := B.returns
  have hts := atoms_spec (ws := wsX7_still) B.pre
  have hown : s.vm.findClass RX7 = some m.cls := findClass_of_methodNamed B.named
  have hlocks := B.notSynchronized
  have hiX7 : ∀ w ∈ wsX70, w ∈ wsX7_still := by decide +kernel
  have hf62 := hts (.fieldLink RX7 62 "ResinWoodsModel" "isStilled" "[Z") (by decide +kernel)
  have hf65 := hts (.fieldLink RX7 65 "ResinWoodsModel" "isPaid" "[Z") (by decide +kernel)
  have hf165 := hts (.fieldLink RX7 165 "ResinWoodsModel" "spirit" "I") (by decide +kernel)
  have hf168 := hts (.fieldLink RX7 168 "ResinWoodsModel" "rosin" "I") (by decide +kernel)
  have hl := lv_entry ([.ref (ad 0), .int b0]) (n := 4) (Nat.le_of_ble_eq_true rfl)
  rw [lg_entry_eq]
  generalize (lg_sl ([.ref (ad 0), .int b0]) ++ List.replicate (4 - (lg_sl ([.ref (ad 0), .int b0])).length) Slot.unset).toArray = ls at hl ⊢
  have hl : lv_has ls 4 [(0, .ref (ad 0)), (1, .int b0)] := hl
  refine lv_aload_n hx hb dX7_still_0 rfl (lv_at hl 0 rfl) ?_
  refine lv_iload_n hx hb dX7_still_1 rfl (lv_at hl 1 rfl) ?_
  refine x_calli (va_runV (As := [.int b0]) (rest := []) ⟨hx, hb, hml, hown, hts⟩ (c_X7_isBarrel l G A ρ ad b I F hρ b0) (cwV 1 hts gX7_still_X7_isBarrel rfl rfl rfl (by decide +kernel) ⟨Nat.le_of_ble_eq_true rfl, Nat.le_of_ble_eq_true rfl⟩) (x_preV hK hH hTt (mw_ob hρ) rfl [.int b0]) rfl rfl hl.1 rfl (lv_room (Nat.le_of_ble_eq_true rfl)) dX7_still_2 ⟨Nat.le_of_ble_eq_true rfl, Nat.le_of_ble_eq_true rfl⟩) hH (fun r2 u H locs hp hH => ?_)
  obtain ⟨rfl, rfl⟩ := hp
  have hH : xH G A s.heap H locs (mw G ρ ad b I F) := hH
  refine lv_if_eq (tgt := 26) hx hb dX7_still_5 (by decide) (fun c5 => ?_) (fun c5 => ?_)
  · refine lv_iconst (v := (-1)) hx hb dX7_still_26 (by decide) ?_
    exact x_iret (v := (-1)) (I, F) hx hb hr hlocks hK hH (by simp only [sStill]; first | (rw [if_pos c5]; done) | (rw [if_neg c5, ix_n (show b1 < 2 ^ 31 by omega)]; first | (rw [if_neg c14]; done) | (rw [if_pos c14, if_neg c23]; done))) dX7_still_27
  · obtain ⟨b1, hb1, rfl⟩ := inI_pred (n := nB) (by rw [← hnB]; exact binI_1.mp c5) (by omega)
    refine lv_aload_n hx hb dX7_still_8 rfl (lv_at hl 0 rfl) ?_
    refine M_get hx hb hts hiX7 hown hK hρ hH 20 (by decide) hf62 (v := .ref (ad 20)) rfl dX7_still_9 ?_
    refine lv_iload_n hx hb dX7_still_12 rfl (lv_at hl 1 rfl) ?_
    refine M_zald hx hb hK hρ hH 20 200 (by decide) b1 rfl (by omega) dX7_still_13 ?_
    refine lv_if_ne (tgt := 26) hx hb dX7_still_14 (by decide) (fun c14 => ?_) (fun c14 => ?_)
    · refine lv_iconst (v := (-1)) hx hb dX7_still_26 (by decide) ?_
      exact x_iret (v := (-1)) (I, F) hx hb hr hlocks hK hH (by simp only [sStill]; first | (rw [if_pos c5]; done) | (rw [if_neg c5, ix_n (show b1 < 2 ^ 31 by omega)]; first | (rw [if_neg c14]; done) | (rw [if_pos c14, if_neg c23]; done))) dX7_still_27
    · refine lv_aload_n hx hb dX7_still_17 rfl (lv_at hl 0 rfl) ?_
      refine M_get hx hb hts hiX7 hown hK hρ hH 21 (by decide) hf65 (v := .ref (ad 21)) rfl dX7_still_18 ?_
      refine lv_iload_n hx hb dX7_still_21 rfl (lv_at hl 1 rfl) ?_
      refine M_zald hx hb hK hρ hH 21 200 (by decide) b1 rfl (by omega) dX7_still_22 ?_
      refine lv_if_eq (tgt := 28) hx hb dX7_still_23 (by decide) (fun c23 => ?_) (fun c23 => ?_)
      · refine lv_aload_n hx hb dX7_still_28 rfl (lv_at hl 0 rfl) ?_
        refine M_get hx hb hts hiX7 hown hK hρ hH 20 (by decide) hf62 (v := .ref (ad 20)) rfl dX7_still_29 ?_
        refine lv_iload_n hx hb dX7_still_32 rfl (lv_at hl 1 rfl) ?_
        refine lv_iconst (v := 1) hx hb dX7_still_33 (by decide) ?_
        refine M_zast hx hb hK hρ hH 20 200 (by decide) b1 rfl (by omega) (by decide) dX7_still_34 (fun H locs hH => ?_)
        obtain ⟨F34, eF34⟩ : ∃ z, z = setA F 20 b1 1 := ⟨_, rfl⟩
        rw [← eF34] at hH
        have hh9 : ¬ hasS F34 b1 = 0 := by rw [eF34, hasS_set F b1 1 b1 (by decide)]; exact hh0 b1 hb1
        refine lv_aload_n hx hb dX7_still_35 rfl (lv_at hl 0 rfl) ?_
        refine lv_iload_n hx hb dX7_still_36 rfl (lv_at hl 1 rfl) ?_
        refine x_calli (va_runV (As := [.int (nI b1)]) (rest := []) ⟨hx, hb, hml, hown, hts⟩ (c_X7_has l G A ρ ad b I F34 hρ b1 (by omega)) (cwV 1 hts gX7_still_X7_has rfl rfl rfl (by decide +kernel) ⟨Nat.le_of_ble_eq_true rfl, Nat.le_of_ble_eq_true rfl⟩) (x_preV hK hH hTt (mw_ob hρ) rfl [.int (nI b1)]) rfl rfl hl.1 rfl (lv_room (Nat.le_of_ble_eq_true rfl)) dX7_still_37 ⟨Nat.le_of_ble_eq_true rfl, Nat.le_of_ble_eq_true rfl⟩) hH (fun r37 u H locs hp hH => ?_)
        obtain ⟨rfl, rfl⟩ := hp
        have hH : xH G A s.heap H locs (mw G ρ ad b I F34) := hH
        refine lv_iconst (v := 5) hx hb dX7_still_40 (by decide) ?_
        refine lv_idiv hx hb dX7_still_41 (by decide) ?_
        refine lv_istore_n (lv' := [(2, .int ((hasS F34 b1) / 5)), (0, .ref (ad 0)), (1, .int (nI b1))]) hx hb dX7_still_42 rfl hl (by decide) rfl (fun ls hl => ?_)
        refine lv_aload_n hx hb dX7_still_43 rfl (lv_at hl 1 rfl) ?_
        refine lv_iload_n hx hb dX7_still_44 rfl (lv_at hl 2 rfl) ?_
        refine x_calli (va_runV (As := [.int (nI b1)]) (rest := []) ⟨hx, hb, hml, hown, hts⟩ (c_X7_has l G A ρ ad b I F34 hρ b1 (by omega)) (cwV 1 hts gX7_still_X7_has rfl rfl rfl (by decide +kernel) ⟨Nat.le_of_ble_eq_true rfl, Nat.le_of_ble_eq_true rfl⟩) (x_preV hK hH hTt (mw_ob hρ) rfl [.int (nI b1)]) rfl rfl hl.1 rfl (lv_room (Nat.le_of_ble_eq_true rfl)) dX7_still_45 ⟨Nat.le_of_ble_eq_true rfl, Nat.le_of_ble_eq_true rfl⟩) hH (fun r45 u H locs hp hH => ?_)
        obtain ⟨rfl, rfl⟩ := hp
        have hH : xH G A s.heap H locs (mw G ρ ad b I F34) := hH
        refine lv_bipush (v := 70) hx hb dX7_still_48 (by decide) ?_
        refine lv_iconst (v := 5) hx hb dX7_still_50 (by decide) ?_
        refine lv_aload_n hx hb dX7_still_51 rfl (lv_at hl 1 rfl) ?_
        refine lv_iload_n hx hb dX7_still_52 rfl (lv_at hl 2 rfl) ?_
        refine x_calli (va_runV (As := [.int (nI b1)]) (rest := [.int 5, .int 70, .int (hasS F34 b1)]) ⟨hx, hb, hml, hown, hts⟩ (c_X7_grade l G A ρ ad b I F34 hρ b1 (by omega) (hh9)) (cwV 1 hts gX7_still_X7_grade rfl rfl rfl (by decide +kernel) ⟨Nat.le_of_ble_eq_true rfl, Nat.le_of_ble_eq_true rfl⟩) (x_preV hK hH hTt (mw_ob hρ) rfl [.int (nI b1)]) rfl rfl hl.1 rfl (lv_room (Nat.le_of_ble_eq_true rfl)) dX7_still_53 ⟨Nat.le_of_ble_eq_true rfl, Nat.le_of_ble_eq_true rfl⟩) hH (fun r53 u H locs hp hH => ?_)
        obtain ⟨rfl, rfl⟩ := hp
        have hH : xH G A s.heap H locs (mw G ρ ad b I F34) := hH
        refine lv_imul hx hb dX7_still_56 ?_
        refine lv_isub hx hb dX7_still_57 ?_
        refine lv_imul hx hb dX7_still_58 ?_
        refine lv_bipush (v := 100) hx hb dX7_still_59 (by decide) ?_
        refine lv_idiv hx hb dX7_still_61 (by decide) ?_
        refine lv_topi (fun v62 ev62 => ?_)
        refine lv_istore_n (lv' := [(3, .int v62), (2, .int ((hasS F34 b1) / 5)), (0, .ref (ad 0)), (1, .int (nI b1))]) hx hb dX7_still_62 rfl hl (by decide) rfl (fun ls hl => ?_)
        refine lv_aload_n hx hb dX7_still_63 rfl (lv_at hl 2 rfl) ?_
        refine lv_dup hx hb dX7_still_64 rfl ?_
        refine M_get hx hb hts hiX7 hown hK hρ hH 31 (by decide) hf165 (v := .int (I 31)) rfl dX7_still_65 ?_
        refine lv_iload_n hx hb dX7_still_68 rfl (lv_at hl 1 rfl) ?_
        refine lv_iadd hx hb dX7_still_69 ?_
        refine M_put hx hb hts hiX7 hown hK hρ hH 31 (by decide) hf165 rfl (by decide +kernel) rfl dX7_still_70 (fun H locs hH => ?_)
        obtain ⟨I70, eI70⟩ : ∃ z, z = va_up I 31 ((I 31) + ((hasS F34 b1) / 5)) := ⟨_, rfl⟩
        rw [← eI70] at hH
        refine lv_aload_n hx hb dX7_still_73 rfl (lv_at hl 2 rfl) ?_
        refine lv_dup hx hb dX7_still_74 rfl ?_
        refine M_get hx hb hts hiX7 hown hK hρ hH 32 (by decide) hf168 (v := .int (I70 32)) rfl dX7_still_75 ?_
        refine lv_iload_n hx hb dX7_still_78 rfl (lv_at hl 0 rfl) ?_
        refine lv_iadd hx hb dX7_still_79 ?_
        refine M_put hx hb hts hiX7 hown hK hρ hH 32 (by decide) hf168 rfl (by decide +kernel) rfl dX7_still_80 (fun H locs hH => ?_)
        obtain ⟨I80, eI80⟩ : ∃ z, z = va_up I70 32 ((I70 32) + v62) := ⟨_, rfl⟩
        rw [← eI80] at hH
        refine lv_sipush (v := 10000) hx hb dX7_still_83 (by decide) ?_
        refine lv_iload_n hx hb dX7_still_86 rfl (lv_at hl 1 rfl) ?_
        refine lv_imul hx hb dX7_still_87 ?_
        refine lv_iload_n hx hb dX7_still_88 rfl (lv_at hl 0 rfl) ?_
        refine lv_iadd hx hb dX7_still_89 ?_
        exact x_iret (v := (10000 * ((hasS F34 b1) / 5)) + v62) (I80, F34) hx hb hr hlocks hK hH (by subst eF34; rw [hasS_set F b1 1 b1 (by decide), gradB_set F b1 1 b1 (by decide)] at ev62; rw [hasS_set F b1 1 b1 (by decide)] at eI70 ⊢; simp only [sStill]; rw [if_neg c5, ix_n (show b1 < 2 ^ 31 by omega), if_pos c14, if_pos c23, eI80, eI70, ev62]; rfl) dX7_still_90
      · refine lv_iconst (v := (-1)) hx hb dX7_still_26 (by decide) ?_
        exact x_iret (v := (-1)) (I, F) hx hb hr hlocks hK hH (by simp only [sStill]; first | (rw [if_pos c5]; done) | (rw [if_neg c5, ix_n (show b1 < 2 ^ 31 by omega)]; first | (rw [if_neg c14]; done) | (rw [if_pos c14, if_neg c23]; done))) dX7_still_27

set_option maxHeartbeats 4000000 in
set_option maxRecDepth 100000 in
theorem c_X7_pay (l : Launch) (G : XG) (A : Nat → Prop) (ρ : Nat → Option Nat) (ad : Nat → Nat) (b : XW) (I : Nat → Int32) (F : Nat → Nat → Int32) (hρ : mA ρ ad) (nB : Nat) (hnB : I 16 = nI nB) (hB : nB ≤ 200) (bw : Nat → Nat) (hbw : ∀ q, q < nB → F 17 q = nI (bw q) ∧ bw q < 6) (b0 : Int32) : Met l yX7_pay wsX7_pay ({ frames := 3, cells := 0, slots := 0, locals := 63 }) (va_Pc [.ref (ad 0), .int b0] (xP G A (mw G ρ ad b I F))) (va_Qi (fun (r : Int32) (u : (Nat → Int32) × (Nat → Nat → Int32)) => (r, u) = sPay I F b0) (fun u t => xB G A (mw G ρ ad b u.1 u.2) t) A) 0 0 A := by
  refine Met.ofW (cc := cX7_pay) (maxL := 2) (ret := (some .int)) (by decide) rfl ?_
  intro p e s m args below meth c s₁ B hml hv
  obtain ⟨rfl, hK, hH, hTt⟩ := hv
  have hx := B.exec
  have hb := B.bytes
  have hr := B.returns
  have hts := atoms_spec (ws := wsX7_pay) B.pre
  have hown : s.vm.findClass RX7 = some m.cls := findClass_of_methodNamed B.named
  have hlocks := B.notSynchronized
  have hiX7 : ∀ w ∈ wsX70, w ∈ wsX7_pay := by decide +kernel
  have hf53 := hts (.fieldLink RX7 53 "ResinWoodsModel" "barrelWood" "[I") (by decide +kernel)
  have hf62 := hts (.fieldLink RX7 62 "ResinWoodsModel" "isStilled" "[Z") (by decide +kernel)
  have hf65 := hts (.fieldLink RX7 65 "ResinWoodsModel" "isPaid" "[Z") (by decide +kernel)
  have hf68 := hts (.fieldLink RX7 68 "ResinWoodsModel" "isLet" "[Z") (by decide +kernel)
  have hf77 := hts (.fieldLink RX7 77 "ResinWoodsModel" "paid" "[I") (by decide +kernel)
  have hl := lv_entry ([.ref (ad 0), .int b0]) (n := 2) (Nat.le_of_ble_eq_true rfl)
  rw [lg_entry_eq]
  generalize (lg_sl ([.ref (ad 0), .int b0]) ++ List.replicate (2 - (lg_sl ([.ref (ad 0), .int b0])).length) Slot.unset).toArray = ls at hl ⊢
  have hl : lv_has ls 2 [(0, .ref (ad 0)), (1, .int b0)] := hl
  refine lv_aload_n hx hb dX7_pay_0 rfl (lv_at hl 0 rfl) ?_
  refine lv_iload_n hx hb dX7_pay_1 rfl (lv_at hl 1 rfl) ?_
  refine x_calli (va_runV (As := [.int b0]) (rest := []) ⟨hx, hb, hml, hown, hts⟩ (c_X7_isBarrel l G A ρ ad b I F hρ b0) (cwV 1 hts gX7_pay_X7_isBarrel rfl rfl rfl (by decide +kernel) ⟨Nat.le_of_ble_eq_true rfl, Nat.le_of_ble_eq_true rfl⟩) (x_preV hK hH hTt (mw_ob hρ) rfl [.int b0]) rfl rfl hl.1 rfl (lv_room (Nat.le_of_ble_eq_true rfl)) dX7_pay_2 ⟨Nat.le_of_ble_eq_true rfl, Nat.le_of_ble_eq_true rfl⟩) hH (fun r2 u H locs hp hH => ?_)
  obtain ⟨rfl, rfl⟩ := hp
  have hH : xH G A s.heap H locs (mw G ρ ad b I F) := hH
  refine lv_if_eq (tgt := 40) hx hb dX7_pay_5 (by decide) (fun c5 => ?_) (fun c5 => ?_)
  · refine lv_ldc (v := (-2147483648)) hx hb hown (hts (.constant RX7 176 (-2147483648)) (by decide +kernel)) dX7_pay_40 ?_
    exact x_iret (v := (-2147483648)) (I, F) hx hb hr hlocks hK hH (by simp only [sPay]; first | (rw [if_pos c5]; done) | (rw [if_neg c5, ix_n (show b1 < 2 ^ 31 by omega)]; first | (rw [if_neg c14]; done) | (rw [if_pos c14]; first | (rw [if_neg c23]; done) | (rw [if_pos c23, hb2, ix_n (by omega), if_pos c37]; done)))) dX7_pay_42
  · obtain ⟨b1, hb1, rfl⟩ := inI_pred (n := nB) (by rw [← hnB]; exact binI_1.mp c5) (by omega)
    obtain ⟨hb2, hb3⟩ := hbw b1 hb1
    refine lv_aload_n hx hb dX7_pay_8 rfl (lv_at hl 0 rfl) ?_
    refine M_get hx hb hts hiX7 hown hK hρ hH 20 (by decide) hf62 (v := .ref (ad 20)) rfl dX7_pay_9 ?_
    refine lv_iload_n hx hb dX7_pay_12 rfl (lv_at hl 1 rfl) ?_
    refine M_zald hx hb hK hρ hH 20 200 (by decide) b1 rfl (by omega) dX7_pay_13 ?_
    refine lv_if_ne (tgt := 40) hx hb dX7_pay_14 (by decide) (fun c14 => ?_) (fun c14 => ?_)
    · refine lv_ldc (v := (-2147483648)) hx hb hown (hts (.constant RX7 176 (-2147483648)) (by decide +kernel)) dX7_pay_40 ?_
      exact x_iret (v := (-2147483648)) (I, F) hx hb hr hlocks hK hH (by simp only [sPay]; first | (rw [if_pos c5]; done) | (rw [if_neg c5, ix_n (show b1 < 2 ^ 31 by omega)]; first | (rw [if_neg c14]; done) | (rw [if_pos c14]; first | (rw [if_neg c23]; done) | (rw [if_pos c23, hb2, ix_n (by omega), if_pos c37]; done)))) dX7_pay_42
    · refine lv_aload_n hx hb dX7_pay_17 rfl (lv_at hl 0 rfl) ?_
      refine M_get hx hb hts hiX7 hown hK hρ hH 21 (by decide) hf65 (v := .ref (ad 21)) rfl dX7_pay_18 ?_
      refine lv_iload_n hx hb dX7_pay_21 rfl (lv_at hl 1 rfl) ?_
      refine M_zald hx hb hK hρ hH 21 200 (by decide) b1 rfl (by omega) dX7_pay_22 ?_
      refine lv_if_ne (tgt := 40) hx hb dX7_pay_23 (by decide) (fun c23 => ?_) (fun c23 => ?_)
      · refine lv_ldc (v := (-2147483648)) hx hb hown (hts (.constant RX7 176 (-2147483648)) (by decide +kernel)) dX7_pay_40 ?_
        exact x_iret (v := (-2147483648)) (I, F) hx hb hr hlocks hK hH (by simp only [sPay]; first | (rw [if_pos c5]; done) | (rw [if_neg c5, ix_n (show b1 < 2 ^ 31 by omega)]; first | (rw [if_neg c14]; done) | (rw [if_pos c14]; first | (rw [if_neg c23]; done) | (rw [if_pos c23, hb2, ix_n (by omega), if_pos c37]; done)))) dX7_pay_42
      · refine lv_aload_n hx hb dX7_pay_26 rfl (lv_at hl 0 rfl) ?_
        refine M_get hx hb hts hiX7 hown hK hρ hH 22 (by decide) hf68 (v := .ref (ad 22)) rfl dX7_pay_27 ?_
        refine lv_aload_n hx hb dX7_pay_30 rfl (lv_at hl 0 rfl) ?_
        refine M_get hx hb hts hiX7 hown hK hρ hH 17 (by decide) hf53 (v := .ref (ad 17)) rfl dX7_pay_31 ?_
        refine lv_iload_n hx hb dX7_pay_34 rfl (lv_at hl 1 rfl) ?_
        refine M_iald hx hb hK hρ hH 17 200 (by decide) b1 rfl (by omega) dX7_pay_35 ?_
        refine lv_topi (fun w35 ew35 => ?_)
        rw [hb2] at ew35
        subst ew35
        refine M_zald hx hb hK hρ hH 22 6 (by decide) (bw b1) rfl (by omega) dX7_pay_36 ?_
        refine lv_if_ne (tgt := 43) hx hb dX7_pay_37 (by decide) (fun c37 => ?_) (fun c37 => ?_)
        · refine lv_aload_n hx hb dX7_pay_43 rfl (lv_at hl 0 rfl) ?_
          refine M_get hx hb hts hiX7 hown hK hρ hH 21 (by decide) hf65 (v := .ref (ad 21)) rfl dX7_pay_44 ?_
          refine lv_iload_n hx hb dX7_pay_47 rfl (lv_at hl 1 rfl) ?_
          refine lv_iconst (v := 1) hx hb dX7_pay_48 (by decide) ?_
          refine M_zast hx hb hK hρ hH 21 200 (by decide) b1 rfl (by omega) (by decide) dX7_pay_49 (fun H locs hH => ?_)
          obtain ⟨F49, eF49⟩ : ∃ z, z = setA F 21 b1 1 := ⟨_, rfl⟩
          rw [← eF49] at hH
          refine lv_aload_n hx hb dX7_pay_50 rfl (lv_at hl 0 rfl) ?_
          refine M_get hx hb hts hiX7 hown hK hρ hH 25 (by decide) hf77 (v := .ref (ad 25)) rfl dX7_pay_51 ?_
          refine lv_aload_n hx hb dX7_pay_54 rfl (lv_at hl 0 rfl) ?_
          refine M_get hx hb hts hiX7 hown hK hρ hH 17 (by decide) hf53 (v := .ref (ad 17)) rfl dX7_pay_55 ?_
          refine lv_iload_n hx hb dX7_pay_58 rfl (lv_at hl 1 rfl) ?_
          refine M_iald hx hb hK hρ hH 17 200 (by decide) b1 rfl (by omega) dX7_pay_59 ?_
          refine lv_topi (fun w59 ew59 => ?_)
          rw [eF49, setA_n F b1 1 (show 17 ≠ 21 by decide), hb2] at ew59
          subst ew59
          refine lv_dup2_11 hx hb dX7_pay_60 rfl rfl ?_
          refine M_iald hx hb hK hρ hH 25 6 (by decide) (bw b1) rfl (by omega) dX7_pay_61 ?_
          refine lv_aload_n hx hb dX7_pay_62 rfl (lv_at hl 0 rfl) ?_
          refine lv_iload_n hx hb dX7_pay_63 rfl (lv_at hl 1 rfl) ?_
          refine x_calli (va_runV (As := [.int (nI b1)]) (rest := [.int (F49 25 (bw b1)), .int (nI (bw b1)), .ref (ad 25)]) ⟨hx, hb, hml, hown, hts⟩ (c_X7_has l G A ρ ad b I F49 hρ b1 (by omega)) (cwV 1 hts gX7_pay_X7_has rfl rfl rfl (by decide +kernel) ⟨Nat.le_of_ble_eq_true rfl, Nat.le_of_ble_eq_true rfl⟩) (x_preV hK hH hTt (mw_ob hρ) rfl [.int (nI b1)]) rfl rfl hl.1 rfl (lv_room (Nat.le_of_ble_eq_true rfl)) dX7_pay_64 ⟨Nat.le_of_ble_eq_true rfl, Nat.le_of_ble_eq_true rfl⟩) hH (fun r64 u H locs hp hH => ?_)
          obtain ⟨rfl, rfl⟩ := hp
          have hH : xH G A s.heap H locs (mw G ρ ad b I F49) := hH
          refine lv_iadd hx hb dX7_pay_67 ?_
          refine M_iast hx hb hK hρ hH 25 6 (by decide) (bw b1) rfl (by omega) dX7_pay_68 (fun H locs hH => ?_)
          obtain ⟨F68, eF68⟩ : ∃ z, z = setA F49 25 (bw b1) ((F49 25 (bw b1)) + (hasS F49 b1)) := ⟨_, rfl⟩
          rw [← eF68] at hH
          refine lv_aload_n hx hb dX7_pay_69 rfl (lv_at hl 0 rfl) ?_
          refine lv_aload_n hx hb dX7_pay_70 rfl (lv_at hl 0 rfl) ?_
          refine M_get hx hb hts hiX7 hown hK hρ hH 17 (by decide) hf53 (v := .ref (ad 17)) rfl dX7_pay_71 ?_
          refine lv_iload_n hx hb dX7_pay_74 rfl (lv_at hl 1 rfl) ?_
          refine M_iald hx hb hK hρ hH 17 200 (by decide) b1 rfl (by omega) dX7_pay_75 ?_
          refine lv_topi (fun w75 ew75 => ?_)
          rw [eF68, setA_n _ _ _ (show 17 ≠ 25 by decide), eF49, setA_n F b1 1 (show 17 ≠ 21 by decide), hb2] at ew75
          subst ew75
          refine x_calli (va_runV (As := [.int (nI (bw b1))]) (rest := []) ⟨hx, hb, hml, hown, hts⟩ (c_X7_due l G A ρ ad b I F68 hρ (nI (bw b1))) (cwV 1 hts gX7_pay_X7_due rfl rfl rfl (by decide +kernel) ⟨Nat.le_of_ble_eq_true rfl, Nat.le_of_ble_eq_true rfl⟩) (x_preV hK hH hTt (mw_ob hρ) rfl [.int (nI (bw b1))]) rfl rfl hl.1 rfl (lv_room (Nat.le_of_ble_eq_true rfl)) dX7_pay_76 ⟨Nat.le_of_ble_eq_true rfl, Nat.le_of_ble_eq_true rfl⟩) hH (fun r76 u H locs hp hH => ?_)
          obtain ⟨rfl, rfl⟩ := hp
          have hH : xH G A s.heap H locs (mw G ρ ad b I F68) := hH
          exact x_iret (v := sDue F68 (nI (bw b1))) (I, F68) hx hb hr hlocks hK hH (by subst eF68; subst eF49; simp only [sPay]; rw [if_neg c5, ix_n (show b1 < 2 ^ 31 by omega), if_pos c14, if_pos c23, hb2, ix_n (show bw b1 < 2 ^ 31 by omega), if_neg c37, hasS_set F b1 1 b1 (by decide), setA_n F b1 1 (show 25 ≠ 21 by decide)]) dX7_pay_79
        · refine lv_ldc (v := (-2147483648)) hx hb hown (hts (.constant RX7 176 (-2147483648)) (by decide +kernel)) dX7_pay_40 ?_
          exact x_iret (v := (-2147483648)) (I, F) hx hb hr hlocks hK hH (by simp only [sPay]; first | (rw [if_pos c5]; done) | (rw [if_neg c5, ix_n (show b1 < 2 ^ 31 by omega)]; first | (rw [if_neg c14]; done) | (rw [if_pos c14]; first | (rw [if_neg c23]; done) | (rw [if_pos c23, hb2, ix_n (by omega), if_pos c37]; done)))) dX7_pay_42

set_option maxHeartbeats 4000000 in
set_option maxRecDepth 100000 in
theorem c_X7_count (l : Launch) (G : XG) (A : Nat → Prop) (ρ : Nat → Option Nat) (ad : Nat → Nat) (b : XW) (I : Nat → Int32) (F : Nat → Nat → Int32) (hρ : mA ρ ad) (what : Int32) : Met l yX7_count wsX7_count ({ frames := 1, cells := 0, slots := 0, locals := 23 }) (va_Pc [.ref (ad 0), .int what] (xP G A (mw G ρ ad b I F))) (va_Qi (fun (r : Int32) (u : (Nat → Int32) × (Nat → Nat → Int32)) => r = sCount I F what ∧ u = (I, F)) (fun u t => xB G A (mw G ρ ad b u.1 u.2) t) A) 0 0 A := by
  refine Met.ofW (cc := cX7_count) (maxL := 4) (ret := (some .int)) (by decide) rfl ?_
  intro p e s m args below meth c s₁ B hml hv
  obtain ⟨rfl, hK, hH, hTt⟩ := hv
  have hx := B.exec
  have hb := B.bytes
  have hr := B.returns
  have hts := atoms_spec (ws := wsX7_count) B.pre
  have hown : s.vm.findClass RX7 = some m.cls := findClass_of_methodNamed B.named
  have hlocks := B.notSynchronized
  have hiX7 : ∀ w ∈ wsX70, w ∈ wsX7_count := by decide +kernel
  have hf92 := hts (.fieldLink RX7 92 "ResinWoodsModel" "trees" "I") (by decide +kernel)
  have hf100 := hts (.fieldLink RX7 100 "ResinWoodsModel" "now" "I") (by decide +kernel)
  have hf131 := hts (.fieldLink RX7 131 "ResinWoodsModel" "over" "I") (by decide +kernel)
  have hf134 := hts (.fieldLink RX7 134 "ResinWoodsModel" "ran" "I") (by decide +kernel)
  have hf137 := hts (.fieldLink RX7 137 "ResinWoodsModel" "washed" "I") (by decide +kernel)
  have hf143 := hts (.fieldLink RX7 143 "ResinWoodsModel" "barrels" "I") (by decide +kernel)
  have hf156 := hts (.fieldLink RX7 156 "ResinWoodsModel" "emptied" "I") (by decide +kernel)
  have hf165 := hts (.fieldLink RX7 165 "ResinWoodsModel" "spirit" "I") (by decide +kernel)
  have hf168 := hts (.fieldLink RX7 168 "ResinWoodsModel" "rosin" "I") (by decide +kernel)
  have hf180 := hts (.fieldLink RX7 180 "ResinWoodsModel" "burnt" "I") (by decide +kernel)
  have hl := lv_entry ([.ref (ad 0), .int what]) (n := 4) (Nat.le_of_ble_eq_true rfl)
  rw [lg_entry_eq]
  generalize (lg_sl ([.ref (ad 0), .int what]) ++ List.replicate (4 - (lg_sl ([.ref (ad 0), .int what])).length) Slot.unset).toArray = ls at hl ⊢
  have hl : lv_has ls 4 [(0, .ref (ad 0)), (1, .int what)] := hl
  refine lv_iconst (v := 0) hx hb dX7_count_0 (by decide) ?_
  refine lv_istore_n (lv' := [(2, .int 0), (0, .ref (ad 0)), (1, .int what)]) hx hb dX7_count_1 rfl hl (by decide) rfl (fun ls hl => ?_)
  refine lv_iconst (v := 0) hx hb dX7_count_2 (by decide) ?_
  refine lv_istore_n (lv' := [(3, .int 0), (2, .int 0), (0, .ref (ad 0)), (1, .int what)]) hx hb dX7_count_3 rfl hl (by decide) rfl (fun ls hl => ?_)
  suffices loop4 : ∀ (k4 : Nat) (f : Nat) (acc : Int32), (180 < f + k4) → (f ≤ 180) → (acc = l_sum (cupS F) f) → ∀ (H : Heap) (locs : List Loc), xH G A s.heap H locs (mw G ρ ad b I F) → ∀ (ls : Array Slot), lv_has ls 4 [(0, .ref (ad 0)), (1, .int what), (2, .int acc), (3, .int (nI f))] → W p l e (headSpec wsX7_count _).room s m _ below meth c H locs 0 0 (MQ below _ _ s 0 0 A) (F0 m 4 ls []) from
    loop4 181 0 0 (by omega) (by omega) (rfl) _ _ hH ls (lv_sub hl [2, 3, 1, 0] rfl)
  intro k4
  induction k4 with
  | zero =>
    intro f acc hfuel hf ha H locs hH ls hl
    exact absurd hfuel (by omega)
  | succ k4 ih4 =>
    intro f acc hfuel hf ha H locs hH ls hl
    refine lv_iload_n hx hb dX7_count_4 rfl (lv_at hl 3 rfl) ?_
    refine lv_sipush (v := 180) hx hb dX7_count_5 (by decide) ?_
    refine lv_icmp_ge (tgt := 31) hx hb dX7_count_8 (by decide) (fun c8 => ?_) (fun c8 => ?_)
    · have c8 : 180 ≤ f := (nI_leI (a := 180) (b := f) (by omega) (by omega)).mp c8
      refine lv_iload_n hx hb dX7_count_31 rfl (lv_at hl 1 rfl) ?_
      by_cases q0 : what = 0
      · subst q0
        refine lv_tableIn (tgt := 92) (off := 60) hx hb dX7_count_32 (by decide) (by decide) (by decide) (by decide) ?_
        refine lv_aload_n hx hb dX7_count_92 rfl (lv_at hl 0 rfl) ?_
        refine M_get hx hb hts hiX7 hown hK hρ hH 0 (by decide) hf100 (v := .int (I 0)) rfl dX7_count_93 ?_
        exact x_iret (v := I 0) (I, F) hx hb hr hlocks hK hH (⟨by simp only [sCount]; first | rfl | (rw [ha, show f = 180 by omega]; rfl) | exact absurd rfl c14 | (rw [if_neg q0, if_neg q1, if_neg q2, if_neg q3, if_neg q4, if_neg q5, if_neg q6, if_neg q7, if_neg q8, if_neg q9, if_neg q10]; done), rfl⟩) dX7_count_96
      by_cases q1 : what = 1
      · subst q1
        refine lv_tableIn (tgt := 97) (off := 65) hx hb dX7_count_32 (by decide) (by decide) (by decide) (by decide) ?_
        refine lv_aload_n hx hb dX7_count_97 rfl (lv_at hl 0 rfl) ?_
        refine M_get hx hb hts hiX7 hown hK hρ hH 3 (by decide) hf92 (v := .int (I 3)) rfl dX7_count_98 ?_
        exact x_iret (v := I 3) (I, F) hx hb hr hlocks hK hH (⟨by simp only [sCount]; first | rfl | (rw [ha, show f = 180 by omega]; rfl) | exact absurd rfl c14 | (rw [if_neg q0, if_neg q1, if_neg q2, if_neg q3, if_neg q4, if_neg q5, if_neg q6, if_neg q7, if_neg q8, if_neg q9, if_neg q10]; done), rfl⟩) dX7_count_101
      by_cases q2 : what = 2
      · subst q2
        refine lv_tableIn (tgt := 102) (off := 70) hx hb dX7_count_32 (by decide) (by decide) (by decide) (by decide) ?_
        refine lv_aload_n hx hb dX7_count_102 rfl (lv_at hl 0 rfl) ?_
        refine M_get hx hb hts hiX7 hown hK hρ hH 16 (by decide) hf143 (v := .int (I 16)) rfl dX7_count_103 ?_
        exact x_iret (v := I 16) (I, F) hx hb hr hlocks hK hH (⟨by simp only [sCount]; first | rfl | (rw [ha, show f = 180 by omega]; rfl) | exact absurd rfl c14 | (rw [if_neg q0, if_neg q1, if_neg q2, if_neg q3, if_neg q4, if_neg q5, if_neg q6, if_neg q7, if_neg q8, if_neg q9, if_neg q10]; done), rfl⟩) dX7_count_106
      by_cases q3 : what = 3
      · subst q3
        refine lv_tableIn (tgt := 107) (off := 75) hx hb dX7_count_32 (by decide) (by decide) (by decide) (by decide) ?_
        refine lv_aload_n hx hb dX7_count_107 rfl (lv_at hl 0 rfl) ?_
        refine M_get hx hb hts hiX7 hown hK hρ hH 26 (by decide) hf134 (v := .int (I 26)) rfl dX7_count_108 ?_
        exact x_iret (v := I 26) (I, F) hx hb hr hlocks hK hH (⟨by simp only [sCount]; first | rfl | (rw [ha, show f = 180 by omega]; rfl) | exact absurd rfl c14 | (rw [if_neg q0, if_neg q1, if_neg q2, if_neg q3, if_neg q4, if_neg q5, if_neg q6, if_neg q7, if_neg q8, if_neg q9, if_neg q10]; done), rfl⟩) dX7_count_111
      by_cases q4 : what = 4
      · subst q4
        refine lv_tableIn (tgt := 112) (off := 80) hx hb dX7_count_32 (by decide) (by decide) (by decide) (by decide) ?_
        refine lv_aload_n hx hb dX7_count_112 rfl (lv_at hl 0 rfl) ?_
        refine M_get hx hb hts hiX7 hown hK hρ hH 27 (by decide) hf131 (v := .int (I 27)) rfl dX7_count_113 ?_
        exact x_iret (v := I 27) (I, F) hx hb hr hlocks hK hH (⟨by simp only [sCount]; first | rfl | (rw [ha, show f = 180 by omega]; rfl) | exact absurd rfl c14 | (rw [if_neg q0, if_neg q1, if_neg q2, if_neg q3, if_neg q4, if_neg q5, if_neg q6, if_neg q7, if_neg q8, if_neg q9, if_neg q10]; done), rfl⟩) dX7_count_116
      by_cases q5 : what = 5
      · subst q5
        refine lv_tableIn (tgt := 117) (off := 85) hx hb dX7_count_32 (by decide) (by decide) (by decide) (by decide) ?_
        refine lv_aload_n hx hb dX7_count_117 rfl (lv_at hl 0 rfl) ?_
        refine M_get hx hb hts hiX7 hown hK hρ hH 28 (by decide) hf137 (v := .int (I 28)) rfl dX7_count_118 ?_
        exact x_iret (v := I 28) (I, F) hx hb hr hlocks hK hH (⟨by simp only [sCount]; first | rfl | (rw [ha, show f = 180 by omega]; rfl) | exact absurd rfl c14 | (rw [if_neg q0, if_neg q1, if_neg q2, if_neg q3, if_neg q4, if_neg q5, if_neg q6, if_neg q7, if_neg q8, if_neg q9, if_neg q10]; done), rfl⟩) dX7_count_121
      by_cases q6 : what = 6
      · subst q6
        refine lv_tableIn (tgt := 122) (off := 90) hx hb dX7_count_32 (by decide) (by decide) (by decide) (by decide) ?_
        refine lv_aload_n hx hb dX7_count_122 rfl (lv_at hl 0 rfl) ?_
        refine M_get hx hb hts hiX7 hown hK hρ hH 29 (by decide) hf180 (v := .int (I 29)) rfl dX7_count_123 ?_
        exact x_iret (v := I 29) (I, F) hx hb hr hlocks hK hH (⟨by simp only [sCount]; first | rfl | (rw [ha, show f = 180 by omega]; rfl) | exact absurd rfl c14 | (rw [if_neg q0, if_neg q1, if_neg q2, if_neg q3, if_neg q4, if_neg q5, if_neg q6, if_neg q7, if_neg q8, if_neg q9, if_neg q10]; done), rfl⟩) dX7_count_126
      by_cases q7 : what = 7
      · subst q7
        refine lv_tableIn (tgt := 127) (off := 95) hx hb dX7_count_32 (by decide) (by decide) (by decide) (by decide) ?_
        refine lv_iload_n hx hb dX7_count_127 rfl (lv_at hl 2 rfl) ?_
        exact x_iret (v := acc) (I, F) hx hb hr hlocks hK hH (⟨by simp only [sCount]; first | rfl | (rw [ha, show f = 180 by omega]; rfl) | exact absurd rfl c14 | (rw [if_neg q0, if_neg q1, if_neg q2, if_neg q3, if_neg q4, if_neg q5, if_neg q6, if_neg q7, if_neg q8, if_neg q9, if_neg q10]; done), rfl⟩) dX7_count_128
      by_cases q8 : what = 8
      · subst q8
        refine lv_tableIn (tgt := 129) (off := 97) hx hb dX7_count_32 (by decide) (by decide) (by decide) (by decide) ?_
        refine lv_aload_n hx hb dX7_count_129 rfl (lv_at hl 0 rfl) ?_
        refine M_get hx hb hts hiX7 hown hK hρ hH 30 (by decide) hf156 (v := .int (I 30)) rfl dX7_count_130 ?_
        exact x_iret (v := I 30) (I, F) hx hb hr hlocks hK hH (⟨by simp only [sCount]; first | rfl | (rw [ha, show f = 180 by omega]; rfl) | exact absurd rfl c14 | (rw [if_neg q0, if_neg q1, if_neg q2, if_neg q3, if_neg q4, if_neg q5, if_neg q6, if_neg q7, if_neg q8, if_neg q9, if_neg q10]; done), rfl⟩) dX7_count_133
      by_cases q9 : what = 9
      · subst q9
        refine lv_tableIn (tgt := 134) (off := 102) hx hb dX7_count_32 (by decide) (by decide) (by decide) (by decide) ?_
        refine lv_aload_n hx hb dX7_count_134 rfl (lv_at hl 0 rfl) ?_
        refine M_get hx hb hts hiX7 hown hK hρ hH 31 (by decide) hf165 (v := .int (I 31)) rfl dX7_count_135 ?_
        exact x_iret (v := I 31) (I, F) hx hb hr hlocks hK hH (⟨by simp only [sCount]; first | rfl | (rw [ha, show f = 180 by omega]; rfl) | exact absurd rfl c14 | (rw [if_neg q0, if_neg q1, if_neg q2, if_neg q3, if_neg q4, if_neg q5, if_neg q6, if_neg q7, if_neg q8, if_neg q9, if_neg q10]; done), rfl⟩) dX7_count_138
      by_cases q10 : what = 10
      · subst q10
        refine lv_tableIn (tgt := 139) (off := 107) hx hb dX7_count_32 (by decide) (by decide) (by decide) (by decide) ?_
        refine lv_aload_n hx hb dX7_count_139 rfl (lv_at hl 0 rfl) ?_
        refine M_get hx hb hts hiX7 hown hK hρ hH 32 (by decide) hf168 (v := .int (I 32)) rfl dX7_count_140 ?_
        exact x_iret (v := I 32) (I, F) hx hb hr hlocks hK hH (⟨by simp only [sCount]; first | rfl | (rw [ha, show f = 180 by omega]; rfl) | exact absurd rfl c14 | (rw [if_neg q0, if_neg q1, if_neg q2, if_neg q3, if_neg q4, if_neg q5, if_neg q6, if_neg q7, if_neg q8, if_neg q9, if_neg q10]; done), rfl⟩) dX7_count_143
      refine lv_tableOut (tgt := 144) hx hb dX7_count_32 (swOut 10 (fun k hk => by rcases (show k = 0 ∨ k = 1 ∨ k = 2 ∨ k = 3 ∨ k = 4 ∨ k = 5 ∨ k = 6 ∨ k = 7 ∨ k = 8 ∨ k = 9 ∨ k = 10 by omega) with rfl | rfl | rfl | rfl | rfl | rfl | rfl | rfl | rfl | rfl | rfl <;> assumption)) (by decide) ?_
      refine lv_iconst (v := (-1)) hx hb dX7_count_144 (by decide) ?_
      exact x_iret (v := (-1)) (I, F) hx hb hr hlocks hK hH (⟨by simp only [sCount]; first | rfl | (rw [ha, show f = 180 by omega]; rfl) | exact absurd rfl c14 | (rw [if_neg q0, if_neg q1, if_neg q2, if_neg q3, if_neg q4, if_neg q5, if_neg q6, if_neg q7, if_neg q8, if_neg q9, if_neg q10]; done), rfl⟩) dX7_count_145
    · have c8 : ¬ 180 ≤ f := fun zz => c8 ((nI_leI (a := 180) (b := f) (by omega) (by omega)).mpr zz)
      refine lv_iload_n hx hb dX7_count_11 rfl (lv_at hl 1 rfl) ?_
      refine lv_bipush (v := 7) hx hb dX7_count_12 (by decide) ?_
      refine lv_icmp_ne (tgt := 31) hx hb dX7_count_14 (by decide) (fun c14 => ?_) (fun c14 => ?_)
      · refine lv_iload_n hx hb dX7_count_31 rfl (lv_at hl 1 rfl) ?_
        by_cases q0 : what = 0
        · subst q0
          refine lv_tableIn (tgt := 92) (off := 60) hx hb dX7_count_32 (by decide) (by decide) (by decide) (by decide) ?_
          refine lv_aload_n hx hb dX7_count_92 rfl (lv_at hl 0 rfl) ?_
          refine M_get hx hb hts hiX7 hown hK hρ hH 0 (by decide) hf100 (v := .int (I 0)) rfl dX7_count_93 ?_
          exact x_iret (v := I 0) (I, F) hx hb hr hlocks hK hH (⟨by simp only [sCount]; first | rfl | (rw [ha, show f = 180 by omega]; rfl) | exact absurd rfl c14 | (rw [if_neg q0, if_neg q1, if_neg q2, if_neg q3, if_neg q4, if_neg q5, if_neg q6, if_neg q7, if_neg q8, if_neg q9, if_neg q10]; done), rfl⟩) dX7_count_96
        by_cases q1 : what = 1
        · subst q1
          refine lv_tableIn (tgt := 97) (off := 65) hx hb dX7_count_32 (by decide) (by decide) (by decide) (by decide) ?_
          refine lv_aload_n hx hb dX7_count_97 rfl (lv_at hl 0 rfl) ?_
          refine M_get hx hb hts hiX7 hown hK hρ hH 3 (by decide) hf92 (v := .int (I 3)) rfl dX7_count_98 ?_
          exact x_iret (v := I 3) (I, F) hx hb hr hlocks hK hH (⟨by simp only [sCount]; first | rfl | (rw [ha, show f = 180 by omega]; rfl) | exact absurd rfl c14 | (rw [if_neg q0, if_neg q1, if_neg q2, if_neg q3, if_neg q4, if_neg q5, if_neg q6, if_neg q7, if_neg q8, if_neg q9, if_neg q10]; done), rfl⟩) dX7_count_101
        by_cases q2 : what = 2
        · subst q2
          refine lv_tableIn (tgt := 102) (off := 70) hx hb dX7_count_32 (by decide) (by decide) (by decide) (by decide) ?_
          refine lv_aload_n hx hb dX7_count_102 rfl (lv_at hl 0 rfl) ?_
          refine M_get hx hb hts hiX7 hown hK hρ hH 16 (by decide) hf143 (v := .int (I 16)) rfl dX7_count_103 ?_
          exact x_iret (v := I 16) (I, F) hx hb hr hlocks hK hH (⟨by simp only [sCount]; first | rfl | (rw [ha, show f = 180 by omega]; rfl) | exact absurd rfl c14 | (rw [if_neg q0, if_neg q1, if_neg q2, if_neg q3, if_neg q4, if_neg q5, if_neg q6, if_neg q7, if_neg q8, if_neg q9, if_neg q10]; done), rfl⟩) dX7_count_106
        by_cases q3 : what = 3
        · subst q3
          refine lv_tableIn (tgt := 107) (off := 75) hx hb dX7_count_32 (by decide) (by decide) (by decide) (by decide) ?_
          refine lv_aload_n hx hb dX7_count_107 rfl (lv_at hl 0 rfl) ?_
          refine M_get hx hb hts hiX7 hown hK hρ hH 26 (by decide) hf134 (v := .int (I 26)) rfl dX7_count_108 ?_
          exact x_iret (v := I 26) (I, F) hx hb hr hlocks hK hH (⟨by simp only [sCount]; first | rfl | (rw [ha, show f = 180 by omega]; rfl) | exact absurd rfl c14 | (rw [if_neg q0, if_neg q1, if_neg q2, if_neg q3, if_neg q4, if_neg q5, if_neg q6, if_neg q7, if_neg q8, if_neg q9, if_neg q10]; done), rfl⟩) dX7_count_111
        by_cases q4 : what = 4
        · subst q4
          refine lv_tableIn (tgt := 112) (off := 80) hx hb dX7_count_32 (by decide) (by decide) (by decide) (by decide) ?_
          refine lv_aload_n hx hb dX7_count_112 rfl (lv_at hl 0 rfl) ?_
          refine M_get hx hb hts hiX7 hown hK hρ hH 27 (by decide) hf131 (v := .int (I 27)) rfl dX7_count_113 ?_
          exact x_iret (v := I 27) (I, F) hx hb hr hlocks hK hH (⟨by simp only [sCount]; first | rfl | (rw [ha, show f = 180 by omega]; rfl) | exact absurd rfl c14 | (rw [if_neg q0, if_neg q1, if_neg q2, if_neg q3, if_neg q4, if_neg q5, if_neg q6, if_neg q7, if_neg q8, if_neg q9, if_neg q10]; done), rfl⟩) dX7_count_116
        by_cases q5 : what = 5
        · subst q5
          refine lv_tableIn (tgt := 117) (off := 85) hx hb dX7_count_32 (by decide) (by decide) (by decide) (by decide) ?_
          refine lv_aload_n hx hb dX7_count_117 rfl (lv_at hl 0 rfl) ?_
          refine M_get hx hb hts hiX7 hown hK hρ hH 28 (by decide) hf137 (v := .int (I 28)) rfl dX7_count_118 ?_
          exact x_iret (v := I 28) (I, F) hx hb hr hlocks hK hH (⟨by simp only [sCount]; first | rfl | (rw [ha, show f = 180 by omega]; rfl) | exact absurd rfl c14 | (rw [if_neg q0, if_neg q1, if_neg q2, if_neg q3, if_neg q4, if_neg q5, if_neg q6, if_neg q7, if_neg q8, if_neg q9, if_neg q10]; done), rfl⟩) dX7_count_121
        by_cases q6 : what = 6
        · subst q6
          refine lv_tableIn (tgt := 122) (off := 90) hx hb dX7_count_32 (by decide) (by decide) (by decide) (by decide) ?_
          refine lv_aload_n hx hb dX7_count_122 rfl (lv_at hl 0 rfl) ?_
          refine M_get hx hb hts hiX7 hown hK hρ hH 29 (by decide) hf180 (v := .int (I 29)) rfl dX7_count_123 ?_
          exact x_iret (v := I 29) (I, F) hx hb hr hlocks hK hH (⟨by simp only [sCount]; first | rfl | (rw [ha, show f = 180 by omega]; rfl) | exact absurd rfl c14 | (rw [if_neg q0, if_neg q1, if_neg q2, if_neg q3, if_neg q4, if_neg q5, if_neg q6, if_neg q7, if_neg q8, if_neg q9, if_neg q10]; done), rfl⟩) dX7_count_126
        by_cases q7 : what = 7
        · subst q7
          refine lv_tableIn (tgt := 127) (off := 95) hx hb dX7_count_32 (by decide) (by decide) (by decide) (by decide) ?_
          refine lv_iload_n hx hb dX7_count_127 rfl (lv_at hl 2 rfl) ?_
          exact x_iret (v := acc) (I, F) hx hb hr hlocks hK hH (⟨by simp only [sCount]; first | rfl | (rw [ha, show f = 180 by omega]; rfl) | exact absurd rfl c14 | (rw [if_neg q0, if_neg q1, if_neg q2, if_neg q3, if_neg q4, if_neg q5, if_neg q6, if_neg q7, if_neg q8, if_neg q9, if_neg q10]; done), rfl⟩) dX7_count_128
        by_cases q8 : what = 8
        · subst q8
          refine lv_tableIn (tgt := 129) (off := 97) hx hb dX7_count_32 (by decide) (by decide) (by decide) (by decide) ?_
          refine lv_aload_n hx hb dX7_count_129 rfl (lv_at hl 0 rfl) ?_
          refine M_get hx hb hts hiX7 hown hK hρ hH 30 (by decide) hf156 (v := .int (I 30)) rfl dX7_count_130 ?_
          exact x_iret (v := I 30) (I, F) hx hb hr hlocks hK hH (⟨by simp only [sCount]; first | rfl | (rw [ha, show f = 180 by omega]; rfl) | exact absurd rfl c14 | (rw [if_neg q0, if_neg q1, if_neg q2, if_neg q3, if_neg q4, if_neg q5, if_neg q6, if_neg q7, if_neg q8, if_neg q9, if_neg q10]; done), rfl⟩) dX7_count_133
        by_cases q9 : what = 9
        · subst q9
          refine lv_tableIn (tgt := 134) (off := 102) hx hb dX7_count_32 (by decide) (by decide) (by decide) (by decide) ?_
          refine lv_aload_n hx hb dX7_count_134 rfl (lv_at hl 0 rfl) ?_
          refine M_get hx hb hts hiX7 hown hK hρ hH 31 (by decide) hf165 (v := .int (I 31)) rfl dX7_count_135 ?_
          exact x_iret (v := I 31) (I, F) hx hb hr hlocks hK hH (⟨by simp only [sCount]; first | rfl | (rw [ha, show f = 180 by omega]; rfl) | exact absurd rfl c14 | (rw [if_neg q0, if_neg q1, if_neg q2, if_neg q3, if_neg q4, if_neg q5, if_neg q6, if_neg q7, if_neg q8, if_neg q9, if_neg q10]; done), rfl⟩) dX7_count_138
        by_cases q10 : what = 10
        · subst q10
          refine lv_tableIn (tgt := 139) (off := 107) hx hb dX7_count_32 (by decide) (by decide) (by decide) (by decide) ?_
          refine lv_aload_n hx hb dX7_count_139 rfl (lv_at hl 0 rfl) ?_
          refine M_get hx hb hts hiX7 hown hK hρ hH 32 (by decide) hf168 (v := .int (I 32)) rfl dX7_count_140 ?_
          exact x_iret (v := I 32) (I, F) hx hb hr hlocks hK hH (⟨by simp only [sCount]; first | rfl | (rw [ha, show f = 180 by omega]; rfl) | exact absurd rfl c14 | (rw [if_neg q0, if_neg q1, if_neg q2, if_neg q3, if_neg q4, if_neg q5, if_neg q6, if_neg q7, if_neg q8, if_neg q9, if_neg q10]; done), rfl⟩) dX7_count_143
        refine lv_tableOut (tgt := 144) hx hb dX7_count_32 (swOut 10 (fun k hk => by rcases (show k = 0 ∨ k = 1 ∨ k = 2 ∨ k = 3 ∨ k = 4 ∨ k = 5 ∨ k = 6 ∨ k = 7 ∨ k = 8 ∨ k = 9 ∨ k = 10 by omega) with rfl | rfl | rfl | rfl | rfl | rfl | rfl | rfl | rfl | rfl | rfl <;> assumption)) (by decide) ?_
        refine lv_iconst (v := (-1)) hx hb dX7_count_144 (by decide) ?_
        exact x_iret (v := (-1)) (I, F) hx hb hr hlocks hK hH (⟨by simp only [sCount]; first | rfl | (rw [ha, show f = 180 by omega]; rfl) | exact absurd rfl c14 | (rw [if_neg q0, if_neg q1, if_neg q2, if_neg q3, if_neg q4, if_neg q5, if_neg q6, if_neg q7, if_neg q8, if_neg q9, if_neg q10]; done), rfl⟩) dX7_count_145
      · refine lv_iload_n hx hb dX7_count_17 rfl (lv_at hl 2 rfl) ?_
        refine lv_aload_n hx hb dX7_count_18 rfl (lv_at hl 0 rfl) ?_
        refine lv_iload_n hx hb dX7_count_19 rfl (lv_at hl 3 rfl) ?_
        refine x_calli (va_runV (As := [.int (nI f)]) (rest := [.int acc]) ⟨hx, hb, hml, hown, hts⟩ (c_X7_inCup l G A ρ ad b I F hρ f (by omega)) (cwV 1 hts gX7_count_X7_inCup rfl rfl rfl (by decide +kernel) ⟨Nat.le_of_ble_eq_true rfl, Nat.le_of_ble_eq_true rfl⟩) (x_preV hK hH hTt (mw_ob hρ) rfl [.int (nI f)]) rfl rfl hl.1 rfl (lv_room (Nat.le_of_ble_eq_true rfl)) dX7_count_20 ⟨Nat.le_of_ble_eq_true rfl, Nat.le_of_ble_eq_true rfl⟩) hH (fun r20 u H locs hp hH => ?_)
        obtain ⟨rfl, rfl⟩ := hp
        have hH : xH G A s.heap H locs (mw G ρ ad b I F) := hH
        refine lv_iadd hx hb dX7_count_23 ?_
        refine lv_istore_n (lv' := [(2, .int (acc + (cupS F f))), (0, .ref (ad 0)), (1, .int what), (3, .int (nI f))]) hx hb dX7_count_24 rfl hl (by decide) rfl (fun ls hl => ?_)
        refine lv_iinc (v := nI (f + 1)) (lv' := [(3, .int (nI (f + 1))), (2, .int (acc + (cupS F f))), (0, .ref (ad 0)), (1, .int what)]) hx hb dX7_count_25 hl (k := 3) rfl (by exact nI_add _ 1) (by decide) rfl (fun ls hl => ?_)
        refine lv_goto (tgt := 4) hx hb dX7_count_28 (by decide) ?_
        exact ih4 (f + 1) (acc + (cupS F f)) (by omega) (by omega) (by rw [ha]; rfl) _ _ hH ls (lv_sub hl [2, 3, 1, 0] rfl)
