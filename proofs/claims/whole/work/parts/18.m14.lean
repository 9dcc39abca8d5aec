
theorem cI_nat {h a c : Nat} (hh : h ≤ 1000) (ha : a ≤ 400) (hc : c = if 1000 - h ≤ a then 1000 - h else a) : (if 1000 - nI h ≤ nI a then 1000 - nI h else nI a) = nI c := by
  rw [show (1000 : Int32) - nI h = nI (1000 - h) from pk_sub (a := 1000) hh, hc]
  by_cases q : 1000 - h ≤ a
  · rw [if_pos q, if_pos ((nI_leI (by omega) (by omega)).mpr q)]
  · rw [if_neg q, if_neg (fun z => q ((nI_leI (by omega) (by omega)).mp z))]
theorem fillS_new {I : Nat → Int32} {F : Nat → Nat → Int32} {t g fu a c h nB : Nat} (h16 : I 16 = nI nB) (hnB : nB ≤ 200) (ha : 0 < a) (ha2 : a ≤ 400) (hb : nB = fstB F (F 4 t) nB 0) (hh : hasS F nB = nI h) (hh2 : h ≤ 1000) (hc : c = if 1000 - h ≤ a then 1000 - h else a) :
    fillS t g (fu + 1) I F (nI a) = fillS t g fu (va_up I 16 (nI (nB + 1))) (setA (setA (setA F 17 nB (F 4 t)) 18 (4 * nB + g) (F 18 (4 * nB + g) + nI c)) 19 (60 * nB + t) (F 19 (60 * nB + t) + nI c)) (nI (a - c)) := by
  have hca : c ≤ a := by rw [hc]; split <;> omega
  conv => lhs; unfold fillS
  rw [if_pos (show (0 : Int32) < nI a from (nI_ltI (a := 0) (by decide) (by omega)).mpr ha), h16, ix_n (by omega), if_pos hb.symm, hh, cI_nat hh2 ha2 hc, pk_sub hca]
theorem fillS_old {I : Nat → Int32} {F : Nat → Nat → Int32} {t g fu a c h nB b : Nat} (h16 : I 16 = nI nB) (hnB : nB ≤ 200) (ha : 0 < a) (ha2 : a ≤ 400) (hb : b = fstB F (F 4 t) nB 0) (hne : ¬ b = nB) (hh : hasS F b = nI h) (hh2 : h ≤ 1000) (hc : c = if 1000 - h ≤ a then 1000 - h else a) :
    fillS t g (fu + 1) I F (nI a) = fillS t g fu I (setA (setA F 18 (4 * b + g) (F 18 (4 * b + g) + nI c)) 19 (60 * b + t) (F 19 (60 * b + t) + nI c)) (nI (a - c)) := by
  have hca : c ≤ a := by rw [hc]; split <;> omega
  conv => lhs; unfold fillS
  rw [if_pos (show (0 : Int32) < nI a from (nI_ltI (a := 0) (by decide) (by omega)).mpr ha), h16, ix_n (by omega), ← hb, if_neg hne, hh, cI_nat hh2 ha2 hc, pk_sub hca]
theorem fillS_0 {I : Nat → Int32} {F : Nat → Nat → Int32} {t g : Nat} : ∀ fu, fillS t g fu I F (nI 0) = (I, F)
  | 0 => rfl
  | fu + 1 => by unfold fillS; rw [if_neg (by decide)]

set_option maxHeartbeats 4000000 in
set_option maxRecDepth 100000 in
theorem c_X7_fills (l : Launch) (G : XG) (A : Nat → Prop) (ρ : Nat → Option Nat) (ad : Nat → Nat) (b : XW) (I : Nat → Int32) (F : Nat → Nat → Int32) (hρ : mA ρ ad) (nT : Nat) (hn : I 3 = nI nT) (hT : nT ≤ 60) (t g a0 nB : Nat) (hs : Nat → Nat) (ht : t < nT) (hg : g < 4) (ha0 : a0 ≤ 400) (hV : BV I F hs nB) (hcap : a0 ≤ capN F hs (F 4 t) nB) : Met l yX7_fills wsX7_fills ({ frames := 2, cells := 0, slots := 0, locals := 44 }) (va_Pc [.ref (ad 0), .int (nI t), .int (nI g), .int (nI a0)] (xP G A (mw G ρ ad b I F))) (va_Qv (fun (u : (Nat → Int32) × (Nat → Nat → Int32)) => u = fillS t g (a0 + 1) I F (nI a0) ∧ (∃ hs2 nB2, BV u.1 u.2 hs2 nB2 ∧ capN u.2 hs2 (u.2 4 t) nB2 + a0 = capN F hs (F 4 t) nB) ∧ (∀ q, q ≠ 17 → q ≠ 18 → q ≠ 19 → u.2 q = F q) ∧ ∀ q, q ≠ 16 → u.1 q = I q) (fun u t => xB G A (mw G ρ ad b u.1 u.2) t) A) 0 0 A := by
  refine Met.ofW (cc := cX7_fills) (maxL := 8) (ret := none) (by decide) rfl ?_
  intro p e s m args below meth c s₁ B hml hv
  obtain ⟨rfl, hK, hH, hTt⟩ := hv
  have hx := B.exec
  have hb := B.bytes
  have hr := B.returns
  have hts := atoms_spec (ws := wsX7_fills) B.pre
  have hown : s.vm.findClass RX7 = some m.cls := findClass_of_methodNamed B.named
  have hlocks := B.notSynchronized
  have hiX7 : ∀ w ∈ wsX70, w ∈ wsX7_fills := by decide +kernel
  have hf16 := hts (.fieldLink RX7 16 "ResinWoodsModel" "wood" "[I") (by decide +kernel)
  have hf53 := hts (.fieldLink RX7 53 "ResinWoodsModel" "barrelWood" "[I") (by decide +kernel)
  have hf56 := hts (.fieldLink RX7 56 "ResinWoodsModel" "barrelHas" "[I") (by decide +kernel)
  have hf59 := hts (.fieldLink RX7 59 "ResinWoodsModel" "barrelFrom" "[I") (by decide +kernel)
  have hf143 := hts (.fieldLink RX7 143 "ResinWoodsModel" "barrels" "I") (by decide +kernel)
  have hl := lv_entry ([.ref (ad 0), .int (nI t), .int (nI g), .int (nI a0)]) (n := 8) (Nat.le_of_ble_eq_true rfl)
  rw [lg_entry_eq]
  generalize (lg_sl ([.ref (ad 0), .int (nI t), .int (nI g), .int (nI a0)]) ++ List.replicate (8 - (lg_sl ([.ref (ad 0), .int (nI t), .int (nI g), .int (nI a0)])).length) Slot.unset).toArray = ls at hl ⊢
  have hl : lv_has ls 8 [(0, .ref (ad 0)), (1, .int (nI t)), (2, .int (nI g)), (3, .int (nI a0))] := hl
  refine lv_iload_n hx hb dX7_fills_0 rfl (lv_at hl 3 rfl) ?_
  refine lv_istore (lv' := [(4, .int (nI a0)), (0, .ref (ad 0)), (1, .int (nI t)), (2, .int (nI g)), (3, .int (nI a0))]) hx hb dX7_fills_1 hl (by decide) rfl (fun ls hl => ?_)
  suffices loop3 : ∀ (k3 : Nat) (a : Nat) (nB1 : Nat) (hs1 : Nat → Nat) (fu : Nat) (I1 : Nat → Int32) (F1 : Nat → Nat → Int32), (a < k3) → (a ≤ a0) → (a < fu) → (BV I1 F1 hs1 nB1) → (a ≤ capN F1 hs1 (F1 4 t) nB1) → (capN F1 hs1 (F1 4 t) nB1 + a0 = capN F hs (F 4 t) nB + a) → (fillS t g (a0 + 1) I F (nI a0) = fillS t g fu I1 F1 (nI a)) → (∀ q, q ≠ 17 → q ≠ 18 → q ≠ 19 → F1 q = F q) → (∀ q, q ≠ 16 → I1 q = I q) → ∀ (H : Heap) (locs : List Loc), xH G A s.heap H locs (mw G ρ ad b I1 F1) → ∀ (ls : Array Slot), lv_has ls 8 [(0, .ref (ad 0)), (1, .int (nI t)), (2, .int (nI g)), (3, .int (nI a0)), (4, .int (nI a))] → W p l e (headSpec wsX7_fills _).room s m _ below meth c H locs 0 0 (MQ below _ _ s 0 0 A) (F0 m 3 ls []) from
    loop3 (a0 + 1) a0 nB hs (a0 + 1) I F (by omega) (by omega) (by omega) (hV) (hcap) (rfl) (rfl) (fun _ _ _ _ => rfl) (fun _ _ => rfl) _ _ hH ls (lv_sub hl [1, 2, 3, 4, 0] rfl)
  intro k3
  induction k3 with
  | zero =>
    intro a nB1 hs1 fu I1 F1 hfuel haa hfu hV1 hcap1 hcp hS hfF hfI H locs hH ls hl
    exact absurd hfuel (by omega)
  | succ k3 ih3 =>
    intro a nB1 hs1 fu I1 F1 hfuel haa hfu hV1 hcap1 hcp hS hfF hfI H locs hH ls hl
    have hnB := hV1.2.1
    refine lv_iload hx hb dX7_fills_3 (lv_at hl 4 rfl) ?_
    refine lv_if_le (tgt := 154) hx hb dX7_fills_5 (by decide) (fun c5 => ?_) (fun c5 => ?_)
    · have c5 : a ≤ 0 := (nI_leI (a := a) (b := 0) (by omega) (by omega)).mp c5
      exact x_vret (I1, F1) hx hb hr hlocks hK hH (by have ha9 : a = 0 := (by omega); rw [hS, ha9, fillS_0]; exact ⟨rfl, ⟨hs1, nB1, hV1, by show capN F1 hs1 (F1 4 t) nB1 + a0 = _; omega⟩, hfF, hfI⟩) dX7_fills_154
    · have c5 : ¬ a ≤ 0 := fun zz => c5 ((nI_leI (a := a) (b := 0) (by omega) (by omega)).mpr zz)
      refine lv_iconst (v := 0) hx hb dX7_fills_8 (by decide) ?_
      refine lv_istore (lv' := [(5, .int 0), (0, .ref (ad 0)), (1, .int (nI t)), (2, .int (nI g)), (3, .int (nI a0)), (4, .int (nI a))]) hx hb dX7_fills_9 hl (by decide) rfl (fun ls hl => ?_)
      suffices loop11 : ∀ (k11 : Nat) (b1 : Nat), (nB1 < b1 + k11) → (b1 ≤ nB1) → (fstB F1 (F1 4 t) (nB1 - b1) b1 = fstB F1 (F1 4 t) nB1 0) → ∀ (H : Heap) (locs : List Loc), xH G A s.heap H locs (mw G ρ ad b I1 F1) → ∀ (ls : Array Slot), lv_has ls 8 [(0, .ref (ad 0)), (1, .int (nI t)), (2, .int (nI g)), (3, .int (nI a0)), (4, .int (nI a)), (5, .int (nI b1))] → W p l e (headSpec wsX7_fills _).room s m _ below meth c H locs 0 0 (MQ below _ _ s 0 0 A) (F0 m 11 ls []) from
        loop11 (nB1 + 1) 0 (by omega) (by omega) (by rw [Nat.sub_zero]) _ _ hH ls (lv_sub hl [1, 2, 3, 4, 5, 0] rfl)
      intro k11
      induction k11 with
      | zero =>
        intro b1 hfuel hb1 hbx H locs hH ls hl
        exact absurd hfuel (by omega)
      | succ k11 ih11 =>
        intro b1 hfuel hb1 hbx H locs hH ls hl
        refine lv_iload hx hb dX7_fills_11 (lv_at hl 5 rfl) ?_
        refine lv_aload_n hx hb dX7_fills_13 rfl (lv_at hl 0 rfl) ?_
        refine M_get hx hb hts hiX7 hown hK hρ hH 16 (by decide) hf143 (v := .int (nI nB1)) (congrArg (fun z => some (Value.int z)) hV1.1) dX7_fills_14 ?_
        refine lv_icmp_ge (tgt := 51) hx hb dX7_fills_17 (by decide) (fun c17 => ?_) (fun c17 => ?_)
        · have c17 : nB1 ≤ b1 := (nI_leI (a := nB1) (b := b1) (by omega) (by omega)).mp c17
          have hbq : b1 = fstB F1 (F1 4 t) nB1 0 := by rw [← hbx, show nB1 - b1 = 0 by omega]; rfl
          refine lv_iload hx hb dX7_fills_51 (lv_at hl 5 rfl) ?_
          refine lv_aload_n hx hb dX7_fills_53 rfl (lv_at hl 0 rfl) ?_
          refine M_get hx hb hts hiX7 hown hK hρ hH 16 (by decide) hf143 (v := .int (nI nB1)) (congrArg (fun z => some (Value.int z)) hV1.1) dX7_fills_54 ?_
          refine lv_icmp_ne (tgt := 83) hx hb dX7_fills_57 (by decide) (fun c57 => ?_) (fun c57 => ?_)
          · have c57 : ¬ b1 = nB1 := fun zz => c57 ((nI_eq (a := b1) (b := nB1) (by omega) (by omega)).mpr zz)
            exact absurd (show b1 = nB1 by omega) c57
          · have c57 : b1 = nB1 := (nI_eq (a := b1) (b := nB1) (by omega) (by omega)).mp c57
            have hb200 := (fil_step (I := I1) (I' := va_up I1 16 (nI (nB1 + 1))) (nB' := nB1 + 1) (F1 := setA F1 17 b1 (F1 4 t)) (b := b1) (a := a) hg hV1 (by omega) hcap1 hbq (by omega) (Or.inl ⟨by omega, rfl, rfl, up_k _ _ _⟩) rfl rfl).1
            have hh9 := (hV1.2.2.1 b1 hb200).2
            refine lv_aload_n hx hb dX7_fills_60 rfl (lv_at hl 0 rfl) ?_
            refine M_get hx hb hts hiX7 hown hK hρ hH 17 (by decide) hf53 (v := .ref (ad 17)) rfl dX7_fills_61 ?_
            refine lv_iload hx hb dX7_fills_64 (lv_at hl 5 rfl) ?_
            refine lv_aload_n hx hb dX7_fills_66 rfl (lv_at hl 0 rfl) ?_
            refine M_get hx hb hts hiX7 hown hK hρ hH 4 (by decide) hf16 (v := .ref (ad 4)) rfl dX7_fills_67 ?_
            refine lv_iload_n hx hb dX7_fills_70 rfl (lv_at hl 1 rfl) ?_
            refine M_iald hx hb hK hρ hH 4 60 (by decide) t rfl (by omega) dX7_fills_71 ?_
            refine M_iast hx hb hK hρ hH 17 200 (by decide) b1 rfl (by omega) dX7_fills_72 (fun H locs hH => ?_)
            obtain ⟨F72, eF72⟩ : ∃ z, z = setA F1 17 b1 (F1 4 t) := ⟨_, rfl⟩
            rw [← eF72] at hH
            refine lv_aload_n hx hb dX7_fills_73 rfl (lv_at hl 0 rfl) ?_
            refine lv_dup hx hb dX7_fills_74 rfl ?_
            refine M_get hx hb hts hiX7 hown hK hρ hH 16 (by decide) hf143 (v := .int (nI nB1)) (congrArg (fun z => some (Value.int z)) hV1.1) dX7_fills_75 ?_
            refine lv_iconst (v := 1) hx hb dX7_fills_78 (by decide) ?_
            refine N_iadd hx hb nB1 1 rfl rfl dX7_fills_79 ?_
            refine M_put hx hb hts hiX7 hown hK hρ hH 16 (by decide) hf143 rfl (by decide +kernel) rfl dX7_fills_80 (fun H locs hH => ?_)
            obtain ⟨I80, eI80⟩ : ∃ z, z = va_up I1 16 (nI (nB1 + 1)) := ⟨_, rfl⟩
            rw [← eI80] at hH
            refine lv_sipush (v := 1000) hx hb dX7_fills_83 (by decide) ?_
            refine lv_aload_n hx hb dX7_fills_86 rfl (lv_at hl 0 rfl) ?_
            refine lv_iload hx hb dX7_fills_87 (lv_at hl 5 rfl) ?_
            refine x_calli (va_runV (As := [.int (nI b1)]) (rest := [.int 1000]) ⟨hx, hb, hml, hown, hts⟩ (c_X7_has l G A ρ ad b I80 F72 hρ b1 (by omega)) (cwV 1 hts gX7_fills_X7_has rfl rfl rfl (by decide +kernel) ⟨Nat.le_of_ble_eq_true rfl, Nat.le_of_ble_eq_true rfl⟩) (x_preV hK hH hTt (mw_ob hρ) rfl [.int (nI b1)]) rfl rfl hl.1 rfl (lv_room (Nat.le_of_ble_eq_true rfl)) dX7_fills_89 ⟨Nat.le_of_ble_eq_true rfl, Nat.le_of_ble_eq_true rfl⟩) hH (fun r89 u H locs hp hH => ?_)
            obtain ⟨rfl, rfl⟩ := hp
            have hH : xH G A s.heap H locs (mw G ρ ad b I80 F72) := hH
            refine lv_topi (fun w89 ew89 => ?_)
            rw [show hasS F72 b1 = nI (hs1 b1) by rw [eF72, hasS_set _ _ _ _ (by decide)]; exact (hV1.2.2.1 b1 hb200).1] at ew89
            subst ew89
            refine N_isub hx hb 1000 (hs1 b1) rfl rfl (by omega) dX7_fills_92 ?_
            refine lv_istore (lv' := [(6, .int (nI (1000 - (hs1 b1)))), (0, .ref (ad 0)), (1, .int (nI t)), (2, .int (nI g)), (3, .int (nI a0)), (4, .int (nI a)), (5, .int (nI b1))]) hx hb dX7_fills_93 hl (by decide) rfl (fun ls hl => ?_)
            refine lv_iload hx hb dX7_fills_95 (lv_at hl 5 rfl) ?_
            refine lv_iload hx hb dX7_fills_97 (lv_at hl 0 rfl) ?_
            refine lv_icmp_ge (tgt := 107) hx hb dX7_fills_99 (by decide) (fun c99 => ?_) (fun c99 => ?_)
            · have c99 : (1000 - (hs1 b1)) ≤ a := (nI_leI (a := (1000 - (hs1 b1))) (b := a) (by omega) (by omega)).mp c99
              refine lv_iload hx hb dX7_fills_107 (lv_at hl 0 rfl) ?_
              refine lv_istore (lv' := [(7, .int (nI (1000 - (hs1 b1)))), (6, .int (nI (1000 - (hs1 b1)))), (0, .ref (ad 0)), (1, .int (nI t)), (2, .int (nI g)), (3, .int (nI a0)), (4, .int (nI a)), (5, .int (nI b1))]) hx hb dX7_fills_109 hl (by decide) rfl (fun ls hl => ?_)
              refine lv_aload_n hx hb dX7_fills_111 rfl (lv_at hl 2 rfl) ?_
              refine M_get hx hb hts hiX7 hown hK hρ hH 18 (by decide) hf56 (v := .ref (ad 18)) rfl dX7_fills_112 ?_
              refine lv_iconst (v := 4) hx hb dX7_fills_115 (by decide) ?_
              refine lv_iload hx hb dX7_fills_116 (lv_at hl 7 rfl) ?_
              refine N_imul hx hb 4 b1 rfl rfl dX7_fills_118 ?_
              refine lv_iload_n hx hb dX7_fills_119 rfl (lv_at hl 4 rfl) ?_
              refine N_iadd hx hb (4 * b1) g rfl rfl dX7_fills_120 ?_
              refine lv_dup2_11 hx hb dX7_fills_121 rfl rfl ?_
              refine M_iald hx hb hK hρ hH 18 800 (by decide) ((4 * b1) + g) rfl (by omega) dX7_fills_122 ?_
              refine lv_iload hx hb dX7_fills_123 (lv_at hl 0 rfl) ?_
              refine lv_iadd hx hb dX7_fills_125 ?_
              refine M_iast hx hb hK hρ hH 18 800 (by decide) ((4 * b1) + g) rfl (by omega) dX7_fills_126 (fun H locs hH => ?_)
              obtain ⟨F126, eF126⟩ : ∃ z, z = setA F72 18 ((4 * b1) + g) ((F72 18 ((4 * b1) + g)) + (nI (1000 - (hs1 b1)))) := ⟨_, rfl⟩
              rw [← eF126] at hH
              refine lv_aload_n hx hb dX7_fills_127 rfl (lv_at hl 2 rfl) ?_
              refine M_get hx hb hts hiX7 hown hK hρ hH 19 (by decide) hf59 (v := .ref (ad 19)) rfl dX7_fills_128 ?_
              refine lv_bipush (v := 60) hx hb dX7_fills_131 (by decide) ?_
              refine lv_iload hx hb dX7_fills_133 (lv_at hl 7 rfl) ?_
              refine N_imul hx hb 60 b1 rfl rfl dX7_fills_135 ?_
              refine lv_iload_n hx hb dX7_fills_136 rfl (lv_at hl 3 rfl) ?_
              refine N_iadd hx hb (60 * b1) t rfl rfl dX7_fills_137 ?_
              refine lv_dup2_11 hx hb dX7_fills_138 rfl rfl ?_
              refine M_iald hx hb hK hρ hH 19 12000 (by decide) ((60 * b1) + t) rfl (by omega) dX7_fills_139 ?_
              refine lv_iload hx hb dX7_fills_140 (lv_at hl 0 rfl) ?_
              refine lv_iadd hx hb dX7_fills_142 ?_
              refine M_iast hx hb hK hρ hH 19 12000 (by decide) ((60 * b1) + t) rfl (by omega) dX7_fills_143 (fun H locs hH => ?_)
              obtain ⟨F143, eF143⟩ : ∃ z, z = setA F126 19 ((60 * b1) + t) ((F126 19 ((60 * b1) + t)) + (nI (1000 - (hs1 b1)))) := ⟨_, rfl⟩
              rw [← eF143] at hH
              refine lv_iload hx hb dX7_fills_144 (lv_at hl 6 rfl) ?_
              refine lv_iload hx hb dX7_fills_146 (lv_at hl 0 rfl) ?_
              refine N_isub hx hb a (1000 - (hs1 b1)) rfl rfl (by omega) dX7_fills_148 ?_
              refine lv_istore (lv' := [(4, .int (nI (a - (1000 - (hs1 b1))))), (7, .int (nI (1000 - (hs1 b1)))), (6, .int (nI (1000 - (hs1 b1)))), (0, .ref (ad 0)), (1, .int (nI t)), (2, .int (nI g)), (3, .int (nI a0)), (5, .int (nI b1))]) hx hb dX7_fills_149 hl (by decide) rfl (fun ls hl => ?_)
              have hc9 : 1000 - (hs1 b1) = if 1000 - hs1 b1 ≤ a then 1000 - hs1 b1 else a := by first | rw [if_pos c99] | rw [if_neg c99]
              have hF9 : F143 = setA (setA F72 18 (4 * b1 + g) (F1 18 (4 * b1 + g) + nI (1000 - (hs1 b1)))) 19 (60 * b1 + t) (F1 19 (60 * b1 + t) + nI (1000 - (hs1 b1))) := by rw [eF143, eF126, setA_n _ _ _ (show 19 ≠ 18 by decide)]; rw [eF72, setA_n F1 _ _ (show 18 ≠ 17 by decide), setA_n F1 _ _ (show 19 ≠ 17 by decide)]
              obtain ⟨_, hc1, hc2, hc3, hV2, hcp2⟩ := fil_step (I := I1) (I' := I80) (nB' := nB1 + 1) (F := F1) (F1 := F72) (F3 := F143) (hs := hs1) (b := b1) (a := a) (c := (1000 - (hs1 b1))) hg hV1 (by omega) hcap1 hbq (by omega) (Or.inl ⟨by omega, rfl, eF72, by rw [eI80]; exact up_k _ _ _⟩) hc9 hF9
              have hfs : fillS t g fu I1 F1 (nI a) = fillS t g (fu - 1) I80 F143 (nI (a - (1000 - (hs1 b1)))) := by
                have hbn : nB1 = b1 := by omega
                have z := fillS_new (I := I1) (F := F1) (t := t) (g := g) (fu := fu - 1) (a := a) (c := (1000 - (hs1 b1))) (h := hs1 b1) (nB := b1) (by rw [← hbn]; exact hV1.1) (by omega) (by omega) (by omega) (by rw [hbn] at hbq; exact hbq) (hV1.2.2.1 b1 hb200).1 hh9 hc9
                rw [show fu - 1 + 1 = fu by omega] at z
                rw [z, hF9, eF72, eI80, hbn]
              have hfr : ∀ q, q ≠ 17 → q ≠ 18 → q ≠ 19 → F143 q = F q := fun q x y z => by rw [eF143, setA_n _ _ _ z, eF126, setA_n _ _ _ y, eF72, setA_n _ _ _ x]; exact hfF q x y z
              have hfi : ∀ q, q ≠ 16 → I80 q = I q := fun q x => by rw [eI80, up_n _ _ x]; exact hfI q x
              refine lv_goto (tgt := 3) hx hb dX7_fills_151 (by decide) ?_
              exact ih3 (a - (1000 - (hs1 b1))) (nB1 + 1) (va_up hs1 b1 (hs1 b1 + (1000 - (hs1 b1)))) (fu - 1) I80 F143 (by omega) (by omega) (by omega) (hV2) (by omega) (by omega) (hS.trans hfs) (hfr) (hfi) _ _ hH ls (lv_sub hl [3, 4, 5, 6, 0] rfl)
            · have c99 : ¬ (1000 - (hs1 b1)) ≤ a := fun zz => c99 ((nI_leI (a := (1000 - (hs1 b1))) (b := a) (by omega) (by omega)).mpr zz)
              refine lv_iload hx hb dX7_fills_102 (lv_at hl 5 rfl) ?_
              refine lv_goto (tgt := 109) hx hb dX7_fills_104 (by decide) ?_
              refine lv_istore (lv' := [(7, .int (nI a)), (6, .int (nI (1000 - (hs1 b1)))), (0, .ref (ad 0)), (1, .int (nI t)), (2, .int (nI g)), (3, .int (nI a0)), (4, .int (nI a)), (5, .int (nI b1))]) hx hb dX7_fills_109 hl (by decide) rfl (fun ls hl => ?_)
              refine lv_aload_n hx hb dX7_fills_111 rfl (lv_at hl 2 rfl) ?_
              refine M_get hx hb hts hiX7 hown hK hρ hH 18 (by decide) hf56 (v := .ref (ad 18)) rfl dX7_fills_112 ?_
              refine lv_iconst (v := 4) hx hb dX7_fills_115 (by decide) ?_
              refine lv_iload hx hb dX7_fills_116 (lv_at hl 7 rfl) ?_
              refine N_imul hx hb 4 b1 rfl rfl dX7_fills_118 ?_
              refine lv_iload_n hx hb dX7_fills_119 rfl (lv_at hl 4 rfl) ?_
              refine N_iadd hx hb (4 * b1) g rfl rfl dX7_fills_120 ?_
              refine lv_dup2_11 hx hb dX7_fills_121 rfl rfl ?_
              refine M_iald hx hb hK hρ hH 18 800 (by decide) ((4 * b1) + g) rfl (by omega) dX7_fills_122 ?_
              refine lv_iload hx hb dX7_fills_123 (lv_at hl 0 rfl) ?_
              refine lv_iadd hx hb dX7_fills_125 ?_
              refine M_iast hx hb hK hρ hH 18 800 (by decide) ((4 * b1) + g) rfl (by omega) dX7_fills_126 (fun H locs hH => ?_)
              obtain ⟨F126, eF126⟩ : ∃ z, z = setA F72 18 ((4 * b1) + g) ((F72 18 ((4 * b1) + g)) + (nI a)) := ⟨_, rfl⟩
              rw [← eF126] at hH
              refine lv_aload_n hx hb dX7_fills_127 rfl (lv_at hl 2 rfl) ?_
              refine M_get hx hb hts hiX7 hown hK hρ hH 19 (by decide) hf59 (v := .ref (ad 19)) rfl dX7_fills_128 ?_
              refine lv_bipush (v := 60) hx hb dX7_fills_131 (by decide) ?_
              refine lv_iload hx hb dX7_fills_133 (lv_at hl 7 rfl) ?_
              refine N_imul hx hb 60 b1 rfl rfl dX7_fills_135 ?_
              refine lv_iload_n hx hb dX7_fills_136 rfl (lv_at hl 3 rfl) ?_
              refine N_iadd hx hb (60 * b1) t rfl rfl dX7_fills_137 ?_
              refine lv_dup2_11 hx hb dX7_fills_138 rfl rfl ?_
              refine M_iald hx hb hK hρ hH 19 12000 (by decide) ((60 * b1) + t) rfl (by omega) dX7_fills_139 ?_
              refine lv_iload hx hb dX7_fills_140 (lv_at hl 0 rfl) ?_
              refine lv_iadd hx hb dX7_fills_142 ?_
              refine M_iast hx hb hK hρ hH 19 12000 (by decide) ((60 * b1) + t) rfl (by omega) dX7_fills_143 (fun H locs hH => ?_)
              obtain ⟨F143, eF143⟩ : ∃ z, z = setA F126 19 ((60 * b1) + t) ((F126 19 ((60 * b1) + t)) + (nI a)) := ⟨_, rfl⟩
              rw [← eF143] at hH
              refine lv_iload hx hb dX7_fills_144 (lv_at hl 6 rfl) ?_
              refine lv_iload hx hb dX7_fills_146 (lv_at hl 0 rfl) ?_
              refine N_isub hx hb a a rfl rfl (by omega) dX7_fills_148 ?_
              refine lv_istore (lv' := [(4, .int (nI (a - a))), (7, .int (nI a)), (6, .int (nI (1000 - (hs1 b1)))), (0, .ref (ad 0)), (1, .int (nI t)), (2, .int (nI g)), (3, .int (nI a0)), (5, .int (nI b1))]) hx hb dX7_fills_149 hl (by decide) rfl (fun ls hl => ?_)
              have hc9 : a = if 1000 - hs1 b1 ≤ a then 1000 - hs1 b1 else a := by first | rw [if_pos c99] | rw [if_neg c99]
              have hF9 : F143 = setA (setA F72 18 (4 * b1 + g) (F1 18 (4 * b1 + g) + nI (a))) 19 (60 * b1 + t) (F1 19 (60 * b1 + t) + nI (a)) := by rw [eF143, eF126, setA_n _ _ _ (show 19 ≠ 18 by decide)]; rw [eF72, setA_n F1 _ _ (show 18 ≠ 17 by decide), setA_n F1 _ _ (show 19 ≠ 17 by decide)]
              obtain ⟨_, hc1, hc2, hc3, hV2, hcp2⟩ := fil_step (I := I1) (I' := I80) (nB' := nB1 + 1) (F := F1) (F1 := F72) (F3 := F143) (hs := hs1) (b := b1) (a := a) (c := a) hg hV1 (by omega) hcap1 hbq (by omega) (Or.inl ⟨by omega, rfl, eF72, by rw [eI80]; exact up_k _ _ _⟩) hc9 hF9
              have hfs : fillS t g fu I1 F1 (nI a) = fillS t g (fu - 1) I80 F143 (nI (a - a)) := by
                have hbn : nB1 = b1 := by omega
                have z := fillS_new (I := I1) (F := F1) (t := t) (g := g) (fu := fu - 1) (a := a) (c := a) (h := hs1 b1) (nB := b1) (by rw [← hbn]; exact hV1.1) (by omega) (by omega) (by omega) (by rw [hbn] at hbq; exact hbq) (hV1.2.2.1 b1 hb200).1 hh9 hc9
                rw [show fu - 1 + 1 = fu by omega] at z
                rw [z, hF9, eF72, eI80, hbn]
              have hfr : ∀ q, q ≠ 17 → q ≠ 18 → q ≠ 19 → F143 q = F q := fun q x y z => by rw [eF143, setA_n _ _ _ z, eF126, setA_n _ _ _ y, eF72, setA_n _ _ _ x]; exact hfF q x y z
              have hfi : ∀ q, q ≠ 16 → I80 q = I q := fun q x => by rw [eI80, up_n _ _ x]; exact hfI q x
              refine lv_goto (tgt := 3) hx hb dX7_fills_151 (by decide) ?_
              exact ih3 (a - a) (nB1 + 1) (va_up hs1 b1 (hs1 b1 + a)) (fu - 1) I80 F143 (by omega) (by omega) (by omega) (hV2) (by omega) (by omega) (hS.trans hfs) (hfr) (hfi) _ _ hH ls (lv_sub hl [3, 4, 5, 6, 0] rfl)
        · have c17 : ¬ nB1 ≤ b1 := fun zz => c17 ((nI_leI (a := nB1) (b := b1) (by omega) (by omega)).mpr zz)
          refine lv_aload_n hx hb dX7_fills_20 rfl (lv_at hl 0 rfl) ?_
          refine M_get hx hb hts hiX7 hown hK hρ hH 17 (by decide) hf53 (v := .ref (ad 17)) rfl dX7_fills_21 ?_
          refine lv_iload hx hb dX7_fills_24 (lv_at hl 5 rfl) ?_
          refine M_iald hx hb hK hρ hH 17 200 (by decide) b1 rfl (by omega) dX7_fills_26 ?_
          refine lv_aload_n hx hb dX7_fills_27 rfl (lv_at hl 0 rfl) ?_
          refine M_get hx hb hts hiX7 hown hK hρ hH 4 (by decide) hf16 (v := .ref (ad 4)) rfl dX7_fills_28 ?_
          refine lv_iload_n hx hb dX7_fills_31 rfl (lv_at hl 1 rfl) ?_
          refine M_iald hx hb hK hρ hH 4 60 (by decide) t rfl (by omega) dX7_fills_32 ?_
          refine lv_icmp_ne (tgt := 45) hx hb dX7_fills_33 (by decide) (fun c33 => ?_) (fun c33 => ?_)
          · refine lv_iinc (v := nI (b1 + 1)) (lv' := [(5, .int (nI (b1 + 1))), (0, .ref (ad 0)), (1, .int (nI t)), (2, .int (nI g)), (3, .int (nI a0)), (4, .int (nI a))]) hx hb dX7_fills_45 hl (k := 5) rfl (by exact nI_add _ 1) (by decide) rfl (fun ls hl => ?_)
            refine lv_goto (tgt := 11) hx hb dX7_fills_48 (by decide) ?_
            exact ih11 (b1 + 1) (by omega) (by omega) (by rw [← hbx, show nB1 - b1 = (nB1 - (b1 + 1)) + 1 by omega]; simp only [fstB]; first | (rw [if_neg c33]; done) | (rw [if_pos c33, if_neg c42]; done)) _ _ hH ls (lv_sub hl [1, 2, 3, 4, 5, 0] rfl)
          · refine lv_aload_n hx hb dX7_fills_36 rfl (lv_at hl 0 rfl) ?_
            refine lv_iload hx hb dX7_fills_37 (lv_at hl 5 rfl) ?_
            refine x_calli (va_runV (As := [.int (nI b1)]) (rest := []) ⟨hx, hb, hml, hown, hts⟩ (c_X7_isFull l G A ρ ad b I1 F1 hρ b1 (by omega)) (cwV 1 hts gX7_fills_X7_isFull rfl rfl rfl (by decide +kernel) ⟨Nat.le_of_ble_eq_true rfl, Nat.le_of_ble_eq_true rfl⟩) (x_preV hK hH hTt (mw_ob hρ) rfl [.int (nI b1)]) rfl rfl hl.1 rfl (lv_room (Nat.le_of_ble_eq_true rfl)) dX7_fills_39 ⟨Nat.le_of_ble_eq_true rfl, Nat.le_of_ble_eq_true rfl⟩) hH (fun r39 u H locs hp hH => ?_)
            obtain ⟨rfl, rfl⟩ := hp
            have hH : xH G A s.heap H locs (mw G ρ ad b I1 F1) := hH
            refine lv_if_eq (tgt := 51) hx hb dX7_fills_42 (by decide) (fun c42 => ?_) (fun c42 => ?_)
            · have hbq : b1 = fstB F1 (F1 4 t) nB1 0 := by rw [← hbx, show nB1 - b1 = (nB1 - b1 - 1) + 1 by omega]; simp only [fstB]; rw [if_pos c33, if_pos c42]
              refine lv_iload hx hb dX7_fills_51 (lv_at hl 5 rfl) ?_
              refine lv_aload_n hx hb dX7_fills_53 rfl (lv_at hl 0 rfl) ?_
              refine M_get hx hb hts hiX7 hown hK hρ hH 16 (by decide) hf143 (v := .int (nI nB1)) (congrArg (fun z => some (Value.int z)) hV1.1) dX7_fills_54 ?_
              refine lv_icmp_ne (tgt := 83) hx hb dX7_fills_57 (by decide) (fun c57 => ?_) (fun c57 => ?_)
              · have c57 : ¬ b1 = nB1 := fun zz => c57 ((nI_eq (a := b1) (b := nB1) (by omega) (by omega)).mpr zz)
                have hb200 := (fil_step (I := I1) (I' := I1) (nB' := nB1) (F1 := F1) (b := b1) (a := a) hg hV1 (by omega) hcap1 hbq (by omega) (Or.inr ⟨by omega, rfl, rfl, hV1.1⟩) rfl rfl).1
                have hh9 := (hV1.2.2.1 b1 hb200).2
                refine lv_sipush (v := 1000) hx hb dX7_fills_83 (by decide) ?_
                refine lv_aload_n hx hb dX7_fills_86 rfl (lv_at hl 0 rfl) ?_
                refine lv_iload hx hb dX7_fills_87 (lv_at hl 5 rfl) ?_
                refine x_calli (va_runV (As := [.int (nI b1)]) (rest := [.int 1000]) ⟨hx, hb, hml, hown, hts⟩ (c_X7_has l G A ρ ad b I1 F1 hρ b1 (by omega)) (cwV 1 hts gX7_fills_X7_has rfl rfl rfl (by decide +kernel) ⟨Nat.le_of_ble_eq_true rfl, Nat.le_of_ble_eq_true rfl⟩) (x_preV hK hH hTt (mw_ob hρ) rfl [.int (nI b1)]) rfl rfl hl.1 rfl (lv_room (Nat.le_of_ble_eq_true rfl)) dX7_fills_89 ⟨Nat.le_of_ble_eq_true rfl, Nat.le_of_ble_eq_true rfl⟩) hH (fun r89 u H locs hp hH => ?_)
                obtain ⟨rfl, rfl⟩ := hp
                have hH : xH G A s.heap H locs (mw G ρ ad b I1 F1) := hH
                refine lv_topi (fun w89 ew89 => ?_)
                rw [(hV1.2.2.1 b1 hb200).1] at ew89
                subst ew89
                refine N_isub hx hb 1000 (hs1 b1) rfl rfl (by omega) dX7_fills_92 ?_
                refine lv_istore (lv' := [(6, .int (nI (1000 - (hs1 b1)))), (0, .ref (ad 0)), (1, .int (nI t)), (2, .int (nI g)), (3, .int (nI a0)), (4, .int (nI a)), (5, .int (nI b1))]) hx hb dX7_fills_93 hl (by decide) rfl (fun ls hl => ?_)
                refine lv_iload hx hb dX7_fills_95 (lv_at hl 5 rfl) ?_
                refine lv_iload hx hb dX7_fills_97 (lv_at hl 0 rfl) ?_
                refine lv_icmp_ge (tgt := 107) hx hb dX7_fills_99 (by decide) (fun c99 => ?_) (fun c99 => ?_)
                · have c99 : (1000 - (hs1 b1)) ≤ a := (nI_leI (a := (1000 - (hs1 b1))) (b := a) (by omega) (by omega)).mp c99
                  refine lv_iload hx hb dX7_fills_107 (lv_at hl 0 rfl) ?_
                  refine lv_istore (lv' := [(7, .int (nI (1000 - (hs1 b1)))), (6, .int (nI (1000 - (hs1 b1)))), (0, .ref (ad 0)), (1, .int (nI t)), (2, .int (nI g)), (3, .int (nI a0)), (4, .int (nI a)), (5, .int (nI b1))]) hx hb dX7_fills_109 hl (by decide) rfl (fun ls hl => ?_)
                  refine lv_aload_n hx hb dX7_fills_111 rfl (lv_at hl 2 rfl) ?_
                  refine M_get hx hb hts hiX7 hown hK hρ hH 18 (by decide) hf56 (v := .ref (ad 18)) rfl dX7_fills_112 ?_
                  refine lv_iconst (v := 4) hx hb dX7_fills_115 (by decide) ?_
                  refine lv_iload hx hb dX7_fills_116 (lv_at hl 7 rfl) ?_
                  refine N_imul hx hb 4 b1 rfl rfl dX7_fills_118 ?_
                  refine lv_iload_n hx hb dX7_fills_119 rfl (lv_at hl 4 rfl) ?_
                  refine N_iadd hx hb (4 * b1) g rfl rfl dX7_fills_120 ?_
                  refine lv_dup2_11 hx hb dX7_fills_121 rfl rfl ?_
                  refine M_iald hx hb hK hρ hH 18 800 (by decide) ((4 * b1) + g) rfl (by omega) dX7_fills_122 ?_
                  refine lv_iload hx hb dX7_fills_123 (lv_at hl 0 rfl) ?_
                  refine lv_iadd hx hb dX7_fills_125 ?_
                  refine M_iast hx hb hK hρ hH 18 800 (by decide) ((4 * b1) + g) rfl (by omega) dX7_fills_126 (fun H locs hH => ?_)
                  obtain ⟨F126, eF126⟩ : ∃ z, z = setA F1 18 ((4 * b1) + g) ((F1 18 ((4 * b1) + g)) + (nI (1000 - (hs1 b1)))) := ⟨_, rfl⟩
                  rw [← eF126] at hH
                  refine lv_aload_n hx hb dX7_fills_127 rfl (lv_at hl 2 rfl) ?_
                  refine M_get hx hb hts hiX7 hown hK hρ hH 19 (by decide) hf59 (v := .ref (ad 19)) rfl dX7_fills_128 ?_
                  refine lv_bipush (v := 60) hx hb dX7_fills_131 (by decide) ?_
                  refine lv_iload hx hb dX7_fills_133 (lv_at hl 7 rfl) ?_
                  refine N_imul hx hb 60 b1 rfl rfl dX7_fills_135 ?_
                  refine lv_iload_n hx hb dX7_fills_136 rfl (lv_at hl 3 rfl) ?_
                  refine N_iadd hx hb (60 * b1) t rfl rfl dX7_fills_137 ?_
                  refine lv_dup2_11 hx hb dX7_fills_138 rfl rfl ?_
                  refine M_iald hx hb hK hρ hH 19 12000 (by decide) ((60 * b1) + t) rfl (by omega) dX7_fills_139 ?_
                  refine lv_iload hx hb dX7_fills_140 (lv_at hl 0 rfl) ?_
                  refine lv_iadd hx hb dX7_fills_142 ?_
                  refine M_iast hx hb hK hρ hH 19 12000 (by decide) ((60 * b1) + t) rfl (by omega) dX7_fills_143 (fun H locs hH => ?_)
                  obtain ⟨F143, eF143⟩ : ∃ z, z = setA F126 19 ((60 * b1) + t) ((F126 19 ((60 * b1) + t)) + (nI (1000 - (hs1 b1)))) := ⟨_, rfl⟩
                  rw [← eF143] at hH
                  refine lv_iload hx hb dX7_fills_144 (lv_at hl 6 rfl) ?_
                  refine lv_iload hx hb dX7_fills_146 (lv_at hl 0 rfl) ?_
                  refine N_isub hx hb a (1000 - (hs1 b1)) rfl rfl (by omega) dX7_fills_148 ?_
                  refine lv_istore (lv' := [(4, .int (nI (a - (1000 - (hs1 b1))))), (7, .int (nI (1000 - (hs1 b1)))), (6, .int (nI (1000 - (hs1 b1)))), (0, .ref (ad 0)), (1, .int (nI t)), (2, .int (nI g)), (3, .int (nI a0)), (5, .int (nI b1))]) hx hb dX7_fills_149 hl (by decide) rfl (fun ls hl => ?_)
                  have hc9 : 1000 - (hs1 b1) = if 1000 - hs1 b1 ≤ a then 1000 - hs1 b1 else a := by first | rw [if_pos c99] | rw [if_neg c99]
                  have hF9 : F143 = setA (setA F1 18 (4 * b1 + g) (F1 18 (4 * b1 + g) + nI (1000 - (hs1 b1)))) 19 (60 * b1 + t) (F1 19 (60 * b1 + t) + nI (1000 - (hs1 b1))) := by rw [eF143, eF126, setA_n _ _ _ (show 19 ≠ 18 by decide)]
                  obtain ⟨_, hc1, hc2, hc3, hV2, hcp2⟩ := fil_step (I := I1) (I' := I1) (nB' := nB1) (F := F1) (F1 := F1) (F3 := F143) (hs := hs1) (b := b1) (a := a) (c := (1000 - (hs1 b1))) hg hV1 (by omega) hcap1 hbq (by omega) (Or.inr ⟨by omega, rfl, rfl, hV1.1⟩) hc9 hF9
                  have hfs : fillS t g fu I1 F1 (nI a) = fillS t g (fu - 1) I1 F143 (nI (a - (1000 - (hs1 b1)))) := by rw [show fu = (fu - 1) + 1 by omega, fillS_old hV1.1 hV1.2.1 (by omega) (by omega) hbq (by omega) (hV1.2.2.1 b1 hb200).1 hh9 hc9, hF9]; rfl
                  have hfr : ∀ q, q ≠ 17 → q ≠ 18 → q ≠ 19 → F143 q = F q := fun q x y z => by rw [eF143, setA_n _ _ _ z, eF126, setA_n _ _ _ y]; exact hfF q x y z
                  have hfi : ∀ q, q ≠ 16 → I1 q = I q := fun q x => by exact hfI q x
                  refine lv_goto (tgt := 3) hx hb dX7_fills_151 (by decide) ?_
                  exact ih3 (a - (1000 - (hs1 b1))) nB1 (va_up hs1 b1 (hs1 b1 + (1000 - (hs1 b1)))) (fu - 1) I1 F143 (by omega) (by omega) (by omega) (hV2) (by omega) (by omega) (hS.trans hfs) (hfr) (hfi) _ _ hH ls (lv_sub hl [3, 4, 5, 6, 0] rfl)
                · have c99 : ¬ (1000 - (hs1 b1)) ≤ a := fun zz => c99 ((nI_leI (a := (1000 - (hs1 b1))) (b := a) (by omega) (by omega)).mpr zz)
                  refine lv_iload hx hb dX7_fills_102 (lv_at hl 5 rfl) ?_
                  refine lv_goto (tgt := 109) hx hb dX7_fills_104 (by decide) ?_
                  refine lv_istore (lv' := [(7, .int (nI a)), (6, .int (nI (1000 - (hs1 b1)))), (0, .ref (ad 0)), (1, .int (nI t)), (2, .int (nI g)), (3, .int (nI a0)), (4, .int (nI a)), (5, .int (nI b1))]) hx hb dX7_fills_109 hl (by decide) rfl (fun ls hl => ?_)
                  refine lv_aload_n hx hb dX7_fills_111 rfl (lv_at hl 2 rfl) ?_
                  refine M_get hx hb hts hiX7 hown hK hρ hH 18 (by decide) hf56 (v := .ref (ad 18)) rfl dX7_fills_112 ?_
                  refine lv_iconst (v := 4) hx hb dX7_fills_115 (by decide) ?_
                  refine lv_iload hx hb dX7_fills_116 (lv_at hl 7 rfl) ?_
                  refine N_imul hx hb 4 b1 rfl rfl dX7_fills_118 ?_
                  refine lv_iload_n hx hb dX7_fills_119 rfl (lv_at hl 4 rfl) ?_
                  refine N_iadd hx hb (4 * b1) g rfl rfl dX7_fills_120 ?_
                  refine lv_dup2_11 hx hb dX7_fills_121 rfl rfl ?_
                  refine M_iald hx hb hK hρ hH 18 800 (by decide) ((4 * b1) + g) rfl (by omega) dX7_fills_122 ?_
                  refine lv_iload hx hb dX7_fills_123 (lv_at hl 0 rfl) ?_
                  refine lv_iadd hx hb dX7_fills_125 ?_
                  refine M_iast hx hb hK hρ hH 18 800 (by decide) ((4 * b1) + g) rfl (by omega) dX7_fills_126 (fun H locs hH => ?_)
                  obtain ⟨F126, eF126⟩ : ∃ z, z = setA F1 18 ((4 * b1) + g) ((F1 18 ((4 * b1) + g)) + (nI a)) := ⟨_, rfl⟩
                  rw [← eF126] at hH
                  refine lv_aload_n hx hb dX7_fills_127 rfl (lv_at hl 2 rfl) ?_
                  refine M_get hx hb hts hiX7 hown hK hρ hH 19 (by decide) hf59 (v := .ref (ad 19)) rfl dX7_fills_128 ?_
                  refine lv_bipush (v := 60) hx hb dX7_fills_131 (by decide) ?_
                  refine lv_iload hx hb dX7_fills_133 (lv_at hl 7 rfl) ?_
                  refine N_imul hx hb 60 b1 rfl rfl dX7_fills_135 ?_
                  refine lv_iload_n hx hb dX7_fills_136 rfl (lv_at hl 3 rfl) ?_
                  refine N_iadd hx hb (60 * b1) t rfl rfl dX7_fills_137 ?_
                  refine lv_dup2_11 hx hb dX7_fills_138 rfl rfl ?_
                  refine M_iald hx hb hK hρ hH 19 12000 (by decide) ((60 * b1) + t) rfl (by omega) dX7_fills_139 ?_
                  refine lv_iload hx hb dX7_fills_140 (lv_at hl 0 rfl) ?_
                  refine lv_iadd hx hb dX7_fills_142 ?_
                  refine M_iast hx hb hK hρ hH 19 12000 (by decide) ((60 * b1) + t) rfl (by omega) dX7_fills_143 (fun H locs hH => ?_)
                  obtain ⟨F143, eF143⟩ : ∃ z, z = setA F126 19 ((60 * b1) + t) ((F126 19 ((60 * b1) + t)) + (nI a)) := ⟨_, rfl⟩
                  rw [← eF143] at hH
                  refine lv_iload hx hb dX7_fills_144 (lv_at hl 6 rfl) ?_
                  refine lv_iload hx hb dX7_fills_146 (lv_at hl 0 rfl) ?_
                  refine N_isub hx hb a a rfl rfl (by omega) dX7_fills_148 ?_
                  refine lv_istore (lv' := [(4, .int (nI (a - a))), (7, .int (nI a)), (6, .int (nI (1000 - (hs1 b1)))), (0, .ref (ad 0)), (1, .int (nI t)), (2, .int (nI g)), (3, .int (nI a0)), (5, .int (nI b1))]) hx hb dX7_fills_149 hl (by decide) rfl (fun ls hl => ?_)
                  have hc9 : a = if 1000 - hs1 b1 ≤ a then 1000 - hs1 b1 else a := by first | rw [if_pos c99] | rw [if_neg c99]
                  have hF9 : F143 = setA (setA F1 18 (4 * b1 + g) (F1 18 (4 * b1 + g) + nI (a))) 19 (60 * b1 + t) (F1 19 (60 * b1 + t) + nI (a)) := by rw [eF143, eF126, setA_n _ _ _ (show 19 ≠ 18 by decide)]
                  obtain ⟨_, hc1, hc2, hc3, hV2, hcp2⟩ := fil_step (I := I1) (I' := I1) (nB' := nB1) (F := F1) (F1 := F1) (F3 := F143) (hs := hs1) (b := b1) (a := a) (c := a) hg hV1 (by omega) hcap1 hbq (by omega) (Or.inr ⟨by omega, rfl, rfl, hV1.1⟩) hc9 hF9
                  have hfs : fillS t g fu I1 F1 (nI a) = fillS t g (fu - 1) I1 F143 (nI (a - a)) := by rw [show fu = (fu - 1) + 1 by omega, fillS_old hV1.1 hV1.2.1 (by omega) (by omega) hbq (by omega) (hV1.2.2.1 b1 hb200).1 hh9 hc9, hF9]; rfl
                  have hfr : ∀ q, q ≠ 17 → q ≠ 18 → q ≠ 19 → F143 q = F q := fun q x y z => by rw [eF143, setA_n _ _ _ z, eF126, setA_n _ _ _ y]; exact hfF q x y z
                  have hfi : ∀ q, q ≠ 16 → I1 q = I q := fun q x => by exact hfI q x
                  refine lv_goto (tgt := 3) hx hb dX7_fills_151 (by decide) ?_
                  exact ih3 (a - a) nB1 (va_up hs1 b1 (hs1 b1 + a)) (fu - 1) I1 F143 (by omega) (by omega) (by omega) (hV2) (by omega) (by omega) (hS.trans hfs) (hfr) (hfi) _ _ hH ls (lv_sub hl [3, 4, 5, 6, 0] rfl)
              · have c57 : b1 = nB1 := (nI_eq (a := b1) (b := nB1) (by omega) (by omega)).mp c57
                exact absurd c57 (by omega)
            · refine lv_iinc (v := nI (b1 + 1)) (lv' := [(5, .int (nI (b1 + 1))), (0, .ref (ad 0)), (1, .int (nI t)), (2, .int (nI g)), (3, .int (nI a0)), (4, .int (nI a))]) hx hb dX7_fills_45 hl (k := 5) rfl (by exact nI_add _ 1) (by decide) rfl (fun ls hl => ?_)
              refine lv_goto (tgt := 11) hx hb dX7_fills_48 (by decide) ?_
              exact ih11 (b1 + 1) (by omega) (by omega) (by rw [← hbx, show nB1 - b1 = (nB1 - (b1 + 1)) + 1 by omega]; simp only [fstB]; first | (rw [if_neg c33]; done) | (rw [if_pos c33, if_neg c42]; done)) _ _ hH ls (lv_sub hl [1, 2, 3, 4, 5, 0] rfl)
