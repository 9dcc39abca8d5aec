
theorem lsum_z {A : Nat → Int32} : ∀ {n : Nat}, (∀ j, j < n → A j = 0) → l_sum A n = 0
  | 0, _ => rfl
  | n + 1, h => by
    show l_sum A n + A n = 0
    rw [lsum_z (fun j hj => h j (by omega)), h n (by omega)]
    rfl
theorem fs_step {F F7 : Nat → Nat → Int32} {t i d now o gr : Nat} {cu3 cu5 : Nat → Int32} {sm2 n k has : Int32} (hF : ∀ q, q ≠ 34 → F7 q = F q) (hi : i < o) (ho : o ≤ 3) (hday : now + d < 3650) (hgr : gradI F7 (3 * t + i) (nI (now + d)) = nI gr) (hg4 : gr < 4)
    (hn : n = if F7 8 t = 0 then F7 1 (now + d) * strI (nI (now + d) - F7 12 (3 * t + i)) else 0) (hhas : has = l_sum (fun g => cu3 (4 * i + g)) 4) (hk : k = if 400 - has ≤ n then 400 - has else n)
    (hs2 : sm2 = l_sum (fun j => if j < i then (fsim F t (3 * t + j) now (d + 1)).2 else (fsim F t (3 * t + j) now d).2) o) (hc3 : ∀ j, j < o → ∀ g, g < 4 → cu3 (4 * j + g) = if j < i then (fsim F t (3 * t + j) now (d + 1)).1 g else (fsim F t (3 * t + j) now d).1 g)
    (h5 : ∀ j, j < 12 → cu5 j = if 4 * i ≤ j ∧ j < 4 * i + 4 then upd cu3 (4 * i + gr) (cu3 (4 * i + gr) + k) j - upd cu3 (4 * i + gr) (cu3 (4 * i + gr) + k) j * F7 2 (now + d) / 100 else upd cu3 (4 * i + gr) (cu3 (4 * i + gr) + k) j) :
    sm2 + (n - k) = l_sum (fun j => if j < i + 1 then (fsim F t (3 * t + j) now (d + 1)).2 else (fsim F t (3 * t + j) now d).2) o ∧ ∀ j, j < o → ∀ g, g < 4 → cu5 (4 * j + g) = if j < i + 1 then (fsim F t (3 * t + j) now (d + 1)).1 g else (fsim F t (3 * t + j) now d).1 g := by
  have hci : ∀ g, g < 4 → cu3 (4 * i + g) = (fsim F t (3 * t + i) now d).1 g := fun g hg => by rw [hc3 i hi g hg, if_neg (by omega)]
  have hhs : has = l_sum (fsim F t (3 * t + i) now d).1 4 := by rw [hhas]; exact lsum_cong hci
  have hgF : gradI F (3 * t + i) (nI (now + d)) = nI gr := by
    rw [← hgr]
    unfold gradI
    rw [hF 13 (by decide)]
  rw [hF 8 (by decide), hF 1 (by decide), hF 12 (by decide)] at hn
  have hsim : fsim F t (3 * t + i) now (d + 1) = ((fdC F t (3 * t + i) (now + d) (fsim F t (3 * t + i) now d).1).1, (fsim F t (3 * t + i) now d).2 + (fdC F t (3 * t + i) (now + d) (fsim F t (3 * t + i) now d).1).2) := by
    show (if now + d < 3650 then _ else _) = _
    rw [if_pos hday]
  have ho2 : (fdC F t (3 * t + i) (now + d) (fsim F t (3 * t + i) now d).1).2 = n - k := by
    simp only [fdC]
    rw [← hhs, ← hn, ← hk]
  refine ⟨?_, fun j hj g hg => ?_⟩
  · rw [lsum_step (A := fun j => (fsim F t (3 * t + j) now (d + 1)).2) (B := fun j => (fsim F t (3 * t + j) now d).2) (o := n - k) (by show (fsim F t (3 * t + i) now (d + 1)).2 = _; rw [hsim, ← ho2]) hi, hs2]
  · rw [h5 _ (by omega)]
    by_cases e : j = i
    · subst e
      rw [if_pos (by omega), if_pos (by omega), hsim]
      simp only [fdC]
      rw [← hhs, ← hn, ← hk, hgF, ix_n (by omega), hF 2 (by decide)]
      have hu : upd cu3 (4 * j + gr) (cu3 (4 * j + gr) + k) (4 * j + g) = upd (fsim F t (3 * t + j) now d).1 gr ((fsim F t (3 * t + j) now d).1 gr + k) g := by
        unfold upd
        by_cases q : g = gr
        · subst q
          rw [if_pos rfl, if_pos rfl, hci g hg]
        · rw [if_neg (by omega), if_neg q, hci g hg]
      rw [hu]
    · rw [if_neg (by omega), show upd cu3 (4 * i + gr) (cu3 (4 * i + gr) + k) (4 * j + g) = cu3 (4 * j + g) from if_neg (by omega), hc3 j hj g hg]
      by_cases q : j < i
      · rw [if_pos q, if_pos (by omega)]
      · rw [if_neg q, if_neg (by omega)]

set_option maxHeartbeats 4000000 in
set_option maxRecDepth 100000 in
theorem c_X7_foresees (l : Launch) (G : XG) (A : Nat → Prop) (ρ : Nat → Option Nat) (ad : Nat → Nat) (b : XW) (I : Nat → Int32) (F : Nat → Nat → Int32) (hρ : mA ρ ad) (nT : Nat) (hn : I 3 = nI nT) (hT : nT ≤ 60) (now : Nat) (hw : I 0 = nI now) (hN : now ≤ 3650) (op : Nat → Nat) (hop : ∀ t, t < nT → F 9 t = nI (op t) ∧ op t ≤ 3) (hoy : ∀ t, t < nT → ∀ i, i < op t → ∃ oy, F 13 (3 * t + i) = nI oy ∧ oy ≤ now / 365) (kk t : Nat) (hkk : kk < 6) (hc : F 33 kk = nI t) (ht : t < nT) : Met l yX7_foresees wsX7_foresees ({ frames := 1, cells := 1, slots := 12, locals := 23 }) (va_Pc [.ref (ad 0), .int (nI kk)] (xP G A (mw G ρ ad b I F))) (va_Qv (fun (u : (Nat → Int32) × (Nat → Nat → Int32)) => u = (I, roF F kk 24 (ovS F t now (op t)))) (fun u t => xB G A (mw G ρ ad b u.1 u.2) t) A) 1 12 A := by
  refine Met.ofW (cc := cX7_foresees) (maxL := 13) (ret := none) (by decide) rfl ?_
  intro p e s m args below meth c s₁ B hml hv
  obtain ⟨rfl, hK, hH, hTt⟩ := hv
  have hx := B.exec
  have hb := B.bytes
  have hr := B.returns
  have hts := atoms_spec (ws := wsX7_foresees) B.pre
  have hown : s.vm.findClass RX7 = some m.cls := findClass_of_methodNamed B.named
  have hlocks := B.notSynchronized
  have hiX7 : ∀ w ∈ wsX70, w ∈ wsX7_foresees := by decide +kernel
  have hf9 := hts (.fieldLink RX7 9 "ResinWoodsModel" "warmth" "[I") (by decide +kernel)
  have hf13 := hts (.fieldLink RX7 13 "ResinWoodsModel" "rain" "[I") (by decide +kernel)
  have hf28 := hts (.fieldLink RX7 28 "ResinWoodsModel" "isBurnt" "[Z") (by decide +kernel)
  have hf32 := hts (.fieldLink RX7 32 "ResinWoodsModel" "opened" "[I") (by decide +kernel)
  have hf41 := hts (.fieldLink RX7 41 "ResinWoodsModel" "latest" "[I") (by decide +kernel)
  have hf47 := hts (.fieldLink RX7 47 "ResinWoodsModel" "cups" "[I") (by decide +kernel)
  have hf80 := hts (.fieldLink RX7 80 "ResinWoodsModel" "chosen" "[I") (by decide +kernel)
  have hf83 := hts (.fieldLink RX7 83 "ResinWoodsModel" "runsOver" "[I") (by decide +kernel)
  have hf100 := hts (.fieldLink RX7 100 "ResinWoodsModel" "now" "I") (by decide +kernel)
  have hl := lv_entry ([.ref (ad 0), .int (nI kk)]) (n := 13) (Nat.le_of_ble_eq_true rfl)
  rw [lg_entry_eq]
  generalize (lg_sl ([.ref (ad 0), .int (nI kk)]) ++ List.replicate (13 - (lg_sl ([.ref (ad 0), .int (nI kk)])).length) Slot.unset).toArray = ls at hl ⊢
  have hl : lv_has ls 13 [(0, .ref (ad 0)), (1, .int (nI kk))] := hl
  refine lv_aload_n hx hb dX7_foresees_0 rfl (lv_at hl 0 rfl) ?_
  refine M_get hx hb hts hiX7 hown hK hρ hH 33 (by decide) hf80 (v := .ref (ad 33)) rfl dX7_foresees_1 ?_
  refine lv_iload_n hx hb dX7_foresees_4 rfl (lv_at hl 1 rfl) ?_
  refine M_iald hx hb hK hρ hH 33 6 (by decide) kk rfl (by omega) dX7_foresees_5 ?_
  refine lv_topi (fun w5 ew5 => ?_)
  rw [hc] at ew5
  subst ew5
  refine lv_istore_n (lv' := [(2, .int (nI t)), (0, .ref (ad 0)), (1, .int (nI kk))]) hx hb dX7_foresees_6 rfl hl (by decide) rfl (fun ls hl => ?_)
  refine lv_bipush (v := 12) hx hb dX7_foresees_7 (by decide) ?_
  refine T_new hx hb hK hH (hts (.arrayClass .int) (by decide +kernel)) (Nat.le_of_ble_eq_true rfl) (Nat.le_of_ble_eq_true rfl) dX7_foresees_9 (fun q0 H hq0 hH => ?_)
  refine lv_astore_n (lv' := [(3, .ref q0), (2, .int (nI t)), (0, .ref (ad 0)), (1, .int (nI kk))]) hx hb dX7_foresees_11 rfl hl (by decide) rfl (fun ls hl => ?_)
  refine lv_iconst (v := 0) hx hb dX7_foresees_12 (by decide) ?_
  refine lv_istore (lv' := [(4, .int 0), (3, .ref q0), (2, .int (nI t)), (0, .ref (ad 0)), (1, .int (nI kk))]) hx hb dX7_foresees_13 hl (by decide) rfl (fun ls hl => ?_)
  suffices loop15 : ∀ (k15 : Nat) (i : Nat) (cu : Nat → Int32), (12 < i + k15) → (i ≤ 12) → (∀ j, j < i → cu j = F 14 (12 * t + j)) → ∀ (H : Heap) (locs : List Loc), xH G A s.heap H locs (mw G ρ ad (tbase G b q0 cu) I F) → ∀ (ls : Array Slot), lv_has ls 13 [(0, .ref (ad 0)), (1, .int (nI kk)), (2, .int (nI t)), (3, .ref q0), (4, .int (nI i))] → W p l e (headSpec wsX7_foresees _).room s m _ below meth c H locs 1 12 (MQ below _ _ s 1 12 A) (F0 m 15 ls []) from
    loop15 13 0 (fun _ => 0) (by omega) (by omega) (fun j hj => absurd hj (by omega)) _ _ hH ls (lv_sub hl [3, 4, 2, 1, 0] rfl)
  intro k15
  induction k15 with
  | zero =>
    intro i cu hfuel hi hcu H locs hH ls hl
    exact absurd hfuel (by omega)
  | succ k15 ih15 =>
    intro i cu hfuel hi hcu H locs hH ls hl
    refine lv_iload hx hb dX7_foresees_15 (lv_at hl 4 rfl) ?_
    refine lv_bipush (v := 12) hx hb dX7_foresees_17 (by decide) ?_
    refine lv_icmp_ge (tgt := 44) hx hb dX7_foresees_19 (by decide) (fun c19 => ?_) (fun c19 => ?_)
    · have c19 : 12 ≤ i := (nI_leI (a := 12) (b := i) (by omega) (by omega)).mp c19
      refine lv_iconst (v := 0) hx hb dX7_foresees_44 (by decide) ?_
      refine lv_istore (lv' := [(4, .int 0), (0, .ref (ad 0)), (1, .int (nI kk)), (2, .int (nI t)), (3, .ref q0)]) hx hb dX7_foresees_45 hl (by decide) rfl (fun ls hl => ?_)
      refine lv_iconst (v := 0) hx hb dX7_foresees_47 (by decide) ?_
      refine lv_istore (lv' := [(5, .int 0), (4, .int 0), (0, .ref (ad 0)), (1, .int (nI kk)), (2, .int (nI t)), (3, .ref q0)]) hx hb dX7_foresees_48 hl (by decide) rfl (fun ls hl => ?_)
      suffices loop50 : ∀ (k50 : Nat) (d : Nat) (sm : Int32) (cu2 : Nat → Int32) (F1 : Nat → Nat → Int32), (24 < d + k50) → (d ≤ 24) → (sm = ovS F t now (op t) d) → (∀ j, j < op t → ∀ g, g < 4 → cu2 (4 * j + g) = (fsim F t (3 * t + j) now d).1 g) → (F1 = roF F kk d (ovS F t now (op t))) → ∀ (H : Heap) (locs : List Loc), xH G A s.heap H locs (mw G ρ ad (tbase G b q0 cu2) I F1) → ∀ (ls : Array Slot), lv_has ls 13 [(0, .ref (ad 0)), (1, .int (nI kk)), (2, .int (nI t)), (3, .ref q0), (4, .int sm), (5, .int (nI d))] → W p l e (headSpec wsX7_foresees _).room s m _ below meth c H locs 1 12 (MQ below _ _ s 1 12 A) (F0 m 50 ls []) from
        loop50 25 0 0 cu F (by omega) (by omega) ((lsum_z (fun j _ => rfl)).symm) (by intro j hj g hg; rw [hcu (4 * j + g) (by have := (hop t ht).2; omega), show 12 * t + (4 * j + g) = 4 * (3 * t + j) + g by omega]; rfl) ((roF_0 F kk _).symm) _ _ hH ls (lv_sub hl [2, 3, 4, 5, 1, 0] rfl)
      intro k50
      induction k50 with
      | zero =>
        intro d sm cu2 F1 hfuel hd hsm hcu2 hF H locs hH ls hl
        exact absurd hfuel (by omega)
      | succ k50 ih50 =>
        intro d sm cu2 F1 hfuel hd hsm hcu2 hF H locs hH ls hl
        refine lv_iload hx hb dX7_foresees_50 (lv_at hl 5 rfl) ?_
        refine lv_bipush (v := 24) hx hb dX7_foresees_52 (by decide) ?_
        refine lv_icmp_ge (tgt := 291) hx hb dX7_foresees_54 (by decide) (fun c54 => ?_) (fun c54 => ?_)
        · have c54 : 24 ≤ d := (nI_leI (a := 24) (b := d) (by omega) (by omega)).mp c54
          have hH := tb_drop hq0 hH
          refine W.widen (k := 1) (n := 12) (Nat.le_of_ble_eq_true rfl) (Nat.le_of_ble_eq_true rfl) ?_
          exact x_vret (I, F1) hx hb hr hlocks hK hH (by rw [hF, show d = 24 by omega]) dX7_foresees_291
        · have c54 : ¬ 24 ≤ d := fun zz => c54 ((nI_leI (a := 24) (b := d) (by omega) (by omega)).mpr zz)
          refine lv_aload_n hx hb dX7_foresees_57 rfl (lv_at hl 0 rfl) ?_
          refine M_get hx hb hts hiX7 hown hK hρ hH 34 (by decide) hf83 (v := .ref (ad 34)) rfl dX7_foresees_58 ?_
          refine lv_bipush (v := 24) hx hb dX7_foresees_61 (by decide) ?_
          refine lv_iload_n hx hb dX7_foresees_63 rfl (lv_at hl 1 rfl) ?_
          refine N_imul hx hb 24 kk rfl rfl dX7_foresees_64 ?_
          refine lv_iload hx hb dX7_foresees_65 (lv_at hl 5 rfl) ?_
          refine N_iadd hx hb (24 * kk) d rfl rfl dX7_foresees_67 ?_
          refine lv_iload hx hb dX7_foresees_68 (lv_at hl 4 rfl) ?_
          refine M_iast hx hb hK hρ hH 34 144 (by decide) ((24 * kk) + d) rfl (by omega) dX7_foresees_70 (fun H locs hH => ?_)
          obtain ⟨F70, eF70⟩ : ∃ z, z = setA F1 34 ((24 * kk) + d) sm := ⟨_, rfl⟩
          rw [← eF70] at hH
          have hq70 : ∀ q, q ≠ 34 → F70 q = F q := by intro q hq; rw [eF70, setA_n _ _ _ hq, hF]; exact roF_n _ _ _ _ hq
          refine lv_aload_n hx hb dX7_foresees_71 rfl (lv_at hl 0 rfl) ?_
          refine M_get hx hb hts hiX7 hown hK hρ hH 0 (by decide) hf100 (v := .int (nI now)) (congrArg (fun z => some (Value.int z)) hw) dX7_foresees_72 ?_
          refine lv_iload hx hb dX7_foresees_75 (lv_at hl 5 rfl) ?_
          refine N_iadd hx hb now d rfl rfl dX7_foresees_77 ?_
          refine lv_istore (lv' := [(6, .int (nI (now + d))), (0, .ref (ad 0)), (1, .int (nI kk)), (2, .int (nI t)), (3, .ref q0), (4, .int sm), (5, .int (nI d))]) hx hb dX7_foresees_78 hl (by decide) rfl (fun ls hl => ?_)
          refine lv_iconst (v := 0) hx hb dX7_foresees_80 (by decide) ?_
          refine lv_istore (lv' := [(7, .int 0), (6, .int (nI (now + d))), (0, .ref (ad 0)), (1, .int (nI kk)), (2, .int (nI t)), (3, .ref q0), (4, .int sm), (5, .int (nI d))]) hx hb dX7_foresees_81 hl (by decide) rfl (fun ls hl => ?_)
          suffices loop83 : ∀ (k83 : Nat) (i : Nat) (sm2 : Int32) (cu3 : Nat → Int32), (3 < i + k83) → (i ≤ op t) → (op t ≤ 3) → (i = 0 ∨ now + d < 3650) → (sm2 = l_sum (fun j => if j < i then (fsim F t (3 * t + j) now (d + 1)).2 else (fsim F t (3 * t + j) now d).2) (op t)) → (∀ j, j < op t → ∀ g, g < 4 → cu3 (4 * j + g) = if j < i then (fsim F t (3 * t + j) now (d + 1)).1 g else (fsim F t (3 * t + j) now d).1 g) → ∀ (H : Heap) (locs : List Loc), xH G A s.heap H locs (mw G ρ ad (tbase G b q0 cu3) I F70) → ∀ (ls : Array Slot), lv_has ls 13 [(0, .ref (ad 0)), (1, .int (nI kk)), (2, .int (nI t)), (3, .ref q0), (4, .int sm2), (5, .int (nI d)), (6, .int (nI (now + d))), (7, .int (nI i))] → W p l e (headSpec wsX7_foresees _).room s m _ below meth c H locs 1 12 (MQ below _ _ s 1 12 A) (F0 m 83 ls []) from
            loop83 4 0 sm cu2 (by omega) (by omega) ((hop t ht).2) (Or.inl rfl) (by rw [hsm]; exact lsum_cong (fun j hj => (if_neg (by omega)).symm)) (by intro j hj g hg; rw [hcu2 j hj g hg, if_neg (by omega)]) _ _ hH ls (lv_sub hl [2, 3, 4, 5, 6, 7, 1, 0] rfl)
          intro k83
          induction k83 with
          | zero =>
            intro i sm2 cu3 hfuel hi ho3 hi0 hs2 hc3 H locs hH ls hl
            exact absurd hfuel (by omega)
          | succ k83 ih83 =>
            intro i sm2 cu3 hfuel hi ho3 hi0 hs2 hc3 H locs hH ls hl
            refine lv_iload hx hb dX7_foresees_83 (lv_at hl 7 rfl) ?_
            refine lv_aload_n hx hb dX7_foresees_85 rfl (lv_at hl 0 rfl) ?_
            refine M_get hx hb hts hiX7 hown hK hρ hH 9 (by decide) hf32 (v := .ref (ad 9)) rfl dX7_foresees_86 ?_
            refine lv_iload_n hx hb dX7_foresees_89 rfl (lv_at hl 2 rfl) ?_
            refine M_iald hx hb hK hρ hH 9 60 (by decide) t rfl (by omega) dX7_foresees_90 ?_
            refine lv_topi (fun w90 ew90 => ?_)
            rw [show F70 9 t = nI (op t) from (congrFun (hq70 9 (by decide)) t).trans (hop t ht).1] at ew90
            subst ew90
            refine lv_icmp_ge (tgt := 285) hx hb dX7_foresees_91 (by decide) (fun c91 => ?_) (fun c91 => ?_)
            · have c91 : (op t) ≤ i := (nI_leI (a := (op t)) (b := i) (by omega) (by omega)).mp c91
              refine lv_iinc (v := nI (d + 1)) (lv' := [(5, .int (nI (d + 1))), (0, .ref (ad 0)), (1, .int (nI kk)), (2, .int (nI t)), (3, .ref q0), (4, .int sm2), (6, .int (nI (now + d))), (7, .int (nI i))]) hx hb dX7_foresees_285 hl (k := 5) rfl (by exact nI_add _ 1) (by decide) rfl (fun ls hl => ?_)
              refine lv_goto (tgt := 50) hx hb dX7_foresees_288 (by decide) ?_
              exact ih50 (d + 1) sm2 cu3 F70 (by omega) (by omega) (by first | (rw [hs2]; exact lsum_cong (fun j hj => if_pos (by omega))) | (rcases hi0 with q | q; (rw [hs2]; exact lsum_cong (fun j hj => by show (if j < i then _ else _) = (fsim F t (3 * t + j) now (d + 1)).2; rw [if_neg (by omega), show fsim F t (3 * t + j) now (d + 1) = fsim F t (3 * t + j) now d from if_neg (by omega)])); (exact absurd q (by omega)))) (by intro j hj g hg; rw [hc3 j hj g hg]; first | (rw [if_pos (by omega)]; done) | (rcases hi0 with q | q; (rw [if_neg (by omega), show fsim F t (3 * t + j) now (d + 1) = fsim F t (3 * t + j) now d from if_neg (by omega)]); (exact absurd q (by omega)))) (by rw [eF70, hF, hsm]; exact roF_s F kk d _) _ _ hH ls (lv_sub hl [1, 2, 3, 4, 5, 0] rfl)
            · have c91 : ¬ (op t) ≤ i := fun zz => c91 ((nI_leI (a := (op t)) (b := i) (by omega) (by omega)).mpr zz)
              refine lv_iload hx hb dX7_foresees_94 (lv_at hl 6 rfl) ?_
              refine lv_sipush (v := 3650) hx hb dX7_foresees_96 (by decide) ?_
              refine lv_icmp_ge (tgt := 285) hx hb dX7_foresees_99 (by decide) (fun c99 => ?_) (fun c99 => ?_)
              · have c99 : 3650 ≤ (now + d) := (nI_leI (a := 3650) (b := (now + d)) (by omega) (by omega)).mp c99
                refine lv_iinc (v := nI (d + 1)) (lv' := [(5, .int (nI (d + 1))), (0, .ref (ad 0)), (1, .int (nI kk)), (2, .int (nI t)), (3, .ref q0), (4, .int sm2), (6, .int (nI (now + d))), (7, .int (nI i))]) hx hb dX7_foresees_285 hl (k := 5) rfl (by exact nI_add _ 1) (by decide) rfl (fun ls hl => ?_)
                refine lv_goto (tgt := 50) hx hb dX7_foresees_288 (by decide) ?_
                exact ih50 (d + 1) sm2 cu3 F70 (by omega) (by omega) (by first | (rw [hs2]; exact lsum_cong (fun j hj => if_pos (by omega))) | (rcases hi0 with q | q; (rw [hs2]; exact lsum_cong (fun j hj => by show (if j < i then _ else _) = (fsim F t (3 * t + j) now (d + 1)).2; rw [if_neg (by omega), show fsim F t (3 * t + j) now (d + 1) = fsim F t (3 * t + j) now d from if_neg (by omega)])); (exact absurd q (by omega)))) (by intro j hj g hg; rw [hc3 j hj g hg]; first | (rw [if_pos (by omega)]; done) | (rcases hi0 with q | q; (rw [if_neg (by omega), show fsim F t (3 * t + j) now (d + 1) = fsim F t (3 * t + j) now d from if_neg (by omega)]); (exact absurd q (by omega)))) (by rw [eF70, hF, hsm]; exact roF_s F kk d _) _ _ hH ls (lv_sub hl [1, 2, 3, 4, 5, 0] rfl)
              · have c99 : ¬ 3650 ≤ (now + d) := fun zz => c99 ((nI_leI (a := 3650) (b := (now + d)) (by omega) (by omega)).mpr zz)
                obtain ⟨oy, ho1, ho2⟩ := hoy t ht i (by omega)
                obtain ⟨gr, hg4, hgr⟩ := gradI_nat (F := F70) (f := 3 * t + i) (now := now + d) (oy := oy) (by omega) ((congrFun (hq70 13 (by decide)) _).trans ho1) (Nat.le_trans ho2 (Nat.div_le_div_right (by omega)))
                refine lv_iconst (v := 3) hx hb dX7_foresees_102 (by decide) ?_
                refine lv_iload_n hx hb dX7_foresees_103 rfl (lv_at hl 2 rfl) ?_
                refine N_imul hx hb 3 t rfl rfl dX7_foresees_104 ?_
                refine lv_iload hx hb dX7_foresees_105 (lv_at hl 7 rfl) ?_
                refine N_iadd hx hb (3 * t) i rfl rfl dX7_foresees_107 ?_
                refine lv_istore (lv' := [(8, .int (nI ((3 * t) + i))), (0, .ref (ad 0)), (1, .int (nI kk)), (2, .int (nI t)), (3, .ref q0), (4, .int sm2), (5, .int (nI d)), (6, .int (nI (now + d))), (7, .int (nI i))]) hx hb dX7_foresees_108 hl (by decide) rfl (fun ls hl => ?_)
                refine lv_iconst (v := 0) hx hb dX7_foresees_110 (by decide) ?_
                refine lv_istore (lv' := [(9, .int 0), (8, .int (nI ((3 * t) + i))), (0, .ref (ad 0)), (1, .int (nI kk)), (2, .int (nI t)), (3, .ref q0), (4, .int sm2), (5, .int (nI d)), (6, .int (nI (now + d))), (7, .int (nI i))]) hx hb dX7_foresees_111 hl (by decide) rfl (fun ls hl => ?_)
                refine lv_iconst (v := 0) hx hb dX7_foresees_113 (by decide) ?_
                refine lv_istore (lv' := [(10, .int 0), (9, .int 0), (8, .int (nI ((3 * t) + i))), (0, .ref (ad 0)), (1, .int (nI kk)), (2, .int (nI t)), (3, .ref q0), (4, .int sm2), (5, .int (nI d)), (6, .int (nI (now + d))), (7, .int (nI i))]) hx hb dX7_foresees_114 hl (by decide) rfl (fun ls hl => ?_)
                suffices loop116 : ∀ (k116 : Nat) (g : Nat) (has : Int32), (4 < g + k116) → (g ≤ 4) → (has = l_sum (fun g => cu3 (4 * i + g)) g) → ∀ (H : Heap) (locs : List Loc), xH G A s.heap H locs (mw G ρ ad (tbase G b q0 cu3) I F70) → ∀ (ls : Array Slot), lv_has ls 13 [(0, .ref (ad 0)), (1, .int (nI kk)), (2, .int (nI t)), (3, .ref q0), (4, .int sm2), (5, .int (nI d)), (6, .int (nI (now + d))), (7, .int (nI i)), (8, .int (nI ((3 * t) + i))), (9, .int has), (10, .int (nI g))] → W p l e (headSpec wsX7_foresees _).room s m _ below meth c H locs 1 12 (MQ below _ _ s 1 12 A) (F0 m 116 ls []) from
                  loop116 5 0 0 (by omega) (by omega) (rfl) _ _ hH ls (lv_sub hl [3, 4, 5, 6, 7, 8, 9, 10, 2, 1, 0] rfl)
                intro k116
                induction k116 with
                | zero =>
                  intro g has hfuel hg hhas H locs hH ls hl
                  exact absurd hfuel (by omega)
                | succ k116 ih116 =>
                  intro g has hfuel hg hhas H locs hH ls hl
                  refine lv_iload hx hb dX7_foresees_116 (lv_at hl 10 rfl) ?_
                  refine lv_iconst (v := 4) hx hb dX7_foresees_118 (by decide) ?_
                  refine lv_icmp_ge (tgt := 142) hx hb dX7_foresees_119 (by decide) (fun c119 => ?_) (fun c119 => ?_)
                  · have c119 : 4 ≤ g := (nI_leI (a := 4) (b := g) (by omega) (by omega)).mp c119
                    refine lv_aload_n hx hb dX7_foresees_142 rfl (lv_at hl 0 rfl) ?_
                    refine M_get hx hb hts hiX7 hown hK hρ hH 8 (by decide) hf28 (v := .ref (ad 8)) rfl dX7_foresees_143 ?_
                    refine lv_iload_n hx hb dX7_foresees_146 rfl (lv_at hl 2 rfl) ?_
                    refine M_zald hx hb hK hρ hH 8 60 (by decide) t rfl (by omega) dX7_foresees_147 ?_
                    refine lv_if_eq (tgt := 155) hx hb dX7_foresees_148 (by decide) (fun c148 => ?_) (fun c148 => ?_)
                    · refine lv_aload_n hx hb dX7_foresees_155 rfl (lv_at hl 0 rfl) ?_
                      refine M_get hx hb hts hiX7 hown hK hρ hH 1 (by decide) hf9 (v := .ref (ad 1)) rfl dX7_foresees_156 ?_
                      refine lv_iload hx hb dX7_foresees_159 (lv_at hl 6 rfl) ?_
                      refine M_iald hx hb hK hρ hH 1 3650 (by decide) (now + d) rfl (by omega) dX7_foresees_161 ?_
                      refine lv_iload hx hb dX7_foresees_162 (lv_at hl 6 rfl) ?_
                      refine lv_aload_n hx hb dX7_foresees_164 rfl (lv_at hl 0 rfl) ?_
                      refine M_get hx hb hts hiX7 hown hK hρ hH 12 (by decide) hf41 (v := .ref (ad 12)) rfl dX7_foresees_165 ?_
                      refine lv_iload hx hb dX7_foresees_168 (lv_at hl 8 rfl) ?_
                      refine M_iald hx hb hK hρ hH 12 180 (by decide) ((3 * t) + i) rfl (by omega) dX7_foresees_170 ?_
                      refine lv_isub hx hb dX7_foresees_171 ?_
                      refine x_calli (va_runS (As := [.int ((nI (now + d)) - (F70 12 ((3 * t) + i)))]) (rest := [.int (F70 1 (now + d))]) ⟨hx, hb, hml, hown, hts⟩ (c_X7_strength l G A (mw G ρ ad (tbase G b q0 cu3) I F70) ((nI (now + d)) - (F70 12 ((3 * t) + i)))) (va_cwS 1 hts gX7_foresees_X7_strength rfl rfl rfl (by decide +kernel) ⟨Nat.le_of_ble_eq_true rfl, Nat.le_of_ble_eq_true rfl⟩) (x_preS hK hH hTt [.int ((nI (now + d)) - (F70 12 ((3 * t) + i)))]) rfl rfl hl.1 rfl (lv_room (Nat.le_of_ble_eq_true rfl)) dX7_foresees_172 ⟨Nat.le_of_ble_eq_true rfl, Nat.le_of_ble_eq_true rfl⟩) hH (fun r172 u H locs hp hH => ?_)
                      subst hp
                      have hH : xH G A s.heap H locs (mw G ρ ad (tbase G b q0 cu3) I F70) := hH
                      refine lv_imul hx hb dX7_foresees_175 ?_
                      refine lv_topi (fun v176 ev176 => ?_)
                      refine lv_istore (lv' := [(10, .int v176), (0, .ref (ad 0)), (1, .int (nI kk)), (2, .int (nI t)), (3, .ref q0), (4, .int sm2), (5, .int (nI d)), (6, .int (nI (now + d))), (7, .int (nI i)), (8, .int (nI ((3 * t) + i))), (9, .int has)]) hx hb dX7_foresees_176 hl (by decide) rfl (fun ls hl => ?_)
                      refine lv_iload hx hb dX7_foresees_178 (lv_at hl 0 rfl) ?_
                      refine lv_sipush (v := 400) hx hb dX7_foresees_180 (by decide) ?_
                      refine lv_iload hx hb dX7_foresees_183 (lv_at hl 10 rfl) ?_
                      refine lv_isub hx hb dX7_foresees_185 ?_
                      refine lv_icmp_ge (tgt := 194) hx hb dX7_foresees_186 (by decide) (fun c186 => ?_) (fun c186 => ?_)
                      · refine lv_sipush (v := 400) hx hb dX7_foresees_194 (by decide) ?_
                        refine lv_iload hx hb dX7_foresees_197 (lv_at hl 10 rfl) ?_
                        refine lv_isub hx hb dX7_foresees_199 ?_
                        refine lv_istore (lv' := [(11, .int (400 - has)), (10, .int v176), (0, .ref (ad 0)), (1, .int (nI kk)), (2, .int (nI t)), (3, .ref q0), (4, .int sm2), (5, .int (nI d)), (6, .int (nI (now + d))), (7, .int (nI i)), (8, .int (nI ((3 * t) + i))), (9, .int has)]) hx hb dX7_foresees_200 hl (by decide) rfl (fun ls hl => ?_)
                        have hn9 : v176 = if F70 8 t = 0 then F70 1 (now + d) * strI (nI (now + d) - F70 12 ((3 * t) + i)) else 0 := by rw [if_pos c148]; exact ev176
                        have hk9 : 400 - has = if 400 - has ≤ v176 then 400 - has else v176 := by first | rw [if_pos c186] | rw [if_neg c186]
                        have hhas9 : has = l_sum (fun g => cu3 (4 * i + g)) 4 := by rw [hhas, show g = 4 by omega]
                        refine lv_aload_n hx hb dX7_foresees_202 rfl (lv_at hl 5 rfl) ?_
                        refine lv_iconst (v := 4) hx hb dX7_foresees_203 (by decide) ?_
                        refine lv_iload hx hb dX7_foresees_204 (lv_at hl 9 rfl) ?_
                        refine N_imul hx hb 4 i rfl rfl dX7_foresees_206 ?_
                        refine lv_aload_n hx hb dX7_foresees_207 rfl (lv_at hl 2 rfl) ?_
                        refine lv_iload hx hb dX7_foresees_208 (lv_at hl 10 rfl) ?_
                        refine lv_iload hx hb dX7_foresees_210 (lv_at hl 8 rfl) ?_
                        refine x_calli (va_runV (As := [.int (nI ((3 * t) + i)), .int (nI (now + d))]) (rest := [.int (nI (4 * i)), .ref q0]) ⟨hx, hb, hml, hown, hts⟩ (c_X7_gradeOf l G A ρ ad (tbase G b q0 cu3) I F70 hρ ((3 * t) + i) (nI (now + d)) (by omega)) (cwV 2 hts gX7_foresees_X7_gradeOf rfl rfl rfl (by decide +kernel) ⟨Nat.le_of_ble_eq_true rfl, Nat.le_of_ble_eq_true rfl⟩) (x_preV hK hH hTt (mw_ob hρ) rfl [.int (nI ((3 * t) + i)), .int (nI (now + d))]) rfl rfl hl.1 rfl (lv_room (Nat.le_of_ble_eq_true rfl)) dX7_foresees_212 ⟨Nat.le_of_ble_eq_true rfl, Nat.le_of_ble_eq_true rfl⟩) hH (fun r212 u H locs hp hH => ?_)
                        obtain ⟨rfl, rfl⟩ := hp
                        have hH : xH G A s.heap H locs (mw G ρ ad (tbase G b q0 cu3) I F70) := hH
                        refine lv_topi (fun w212 ew212 => ?_)
                        rw [hgr] at ew212
                        subst ew212
                        refine N_iadd hx hb (4 * i) gr rfl rfl dX7_foresees_215 ?_
                        refine lv_dup2_11 hx hb dX7_foresees_216 rfl rfl ?_
                        refine T_iald hx hb hK hρ hH hq0 ((4 * i) + gr) rfl (by omega) dX7_foresees_217 ?_
                        refine lv_iload hx hb dX7_foresees_218 (lv_at hl 0 rfl) ?_
                        refine lv_iadd hx hb dX7_foresees_220 ?_
                        refine T_iast hx hb hK hρ hH hq0 ((4 * i) + gr) rfl (by omega) dX7_foresees_221 (fun H locs hH => ?_)
                        obtain ⟨cu221, ecu221⟩ : ∃ z, z = upd cu3 ((4 * i) + gr) ((cu3 ((4 * i) + gr)) + (400 - has)) := ⟨_, rfl⟩
                        rw [← ecu221] at hH
                        refine lv_iload hx hb dX7_foresees_222 (lv_at hl 6 rfl) ?_
                        refine lv_iload hx hb dX7_foresees_224 (lv_at hl 1 rfl) ?_
                        refine lv_iload hx hb dX7_foresees_226 (lv_at hl 0 rfl) ?_
                        refine lv_isub hx hb dX7_foresees_228 ?_
                        refine lv_iadd hx hb dX7_foresees_229 ?_
                        refine lv_topi (fun v230 ev230 => ?_)
                        refine lv_istore (lv' := [(4, .int v230), (11, .int (400 - has)), (10, .int v176), (0, .ref (ad 0)), (1, .int (nI kk)), (2, .int (nI t)), (3, .ref q0), (5, .int (nI d)), (6, .int (nI (now + d))), (7, .int (nI i)), (8, .int (nI ((3 * t) + i))), (9, .int has)]) hx hb dX7_foresees_230 hl (by decide) rfl (fun ls hl => ?_)
                        refine lv_iconst (v := 0) hx hb dX7_foresees_232 (by decide) ?_
                        refine lv_istore (lv' := [(12, .int 0), (4, .int v230), (11, .int (400 - has)), (10, .int v176), (0, .ref (ad 0)), (1, .int (nI kk)), (2, .int (nI t)), (3, .ref q0), (5, .int (nI d)), (6, .int (nI (now + d))), (7, .int (nI i)), (8, .int (nI ((3 * t) + i))), (9, .int has)]) hx hb dX7_foresees_233 hl (by decide) rfl (fun ls hl => ?_)
                        suffices loop235 : ∀ (k235 : Nat) (g2 : Nat) (cu4 : Nat → Int32), (4 < g2 + k235) → (g2 ≤ 4) → (∀ j, j < 12 → cu4 j = if 4 * i ≤ j ∧ j < 4 * i + g2 then cu221 j - cu221 j * F70 2 (now + d) / 100 else cu221 j) → ∀ (H : Heap) (locs : List Loc), xH G A s.heap H locs (mw G ρ ad (tbase G b q0 cu4) I F70) → ∀ (ls : Array Slot), lv_has ls 13 [(0, .ref (ad 0)), (1, .int (nI kk)), (2, .int (nI t)), (3, .ref q0), (4, .int v230), (5, .int (nI d)), (6, .int (nI (now + d))), (7, .int (nI i)), (12, .int (nI g2))] → W p l e (headSpec wsX7_foresees _).room s m _ below meth c H locs 1 12 (MQ below _ _ s 1 12 A) (F0 m 235 ls []) from
                          loop235 5 0 cu221 (by omega) (by omega) (by intro j hj; rw [if_neg (by omega)]) _ _ hH ls (lv_sub hl [4, 5, 6, 7, 1, 8, 9, 10, 0] rfl)
                        intro k235
                        induction k235 with
                        | zero =>
                          intro g2 cu4 hfuel hg2 h4 H locs hH ls hl
                          exact absurd hfuel (by omega)
                        | succ k235 ih235 =>
                          intro g2 cu4 hfuel hg2 h4 H locs hH ls hl
                          refine lv_iload hx hb dX7_foresees_235 (lv_at hl 8 rfl) ?_
                          refine lv_iconst (v := 4) hx hb dX7_foresees_237 (by decide) ?_
                          refine lv_icmp_ge (tgt := 279) hx hb dX7_foresees_238 (by decide) (fun c238 => ?_) (fun c238 => ?_)
                          · have c238 : 4 ≤ g2 := (nI_leI (a := 4) (b := g2) (by omega) (by omega)).mp c238
                            refine lv_iinc (v := nI (i + 1)) (lv' := [(7, .int (nI (i + 1))), (0, .ref (ad 0)), (1, .int (nI kk)), (2, .int (nI t)), (3, .ref q0), (4, .int v230), (5, .int (nI d)), (6, .int (nI (now + d))), (12, .int (nI g2))]) hx hb dX7_foresees_279 hl (k := 7) rfl (by exact nI_add _ 1) (by decide) rfl (fun ls hl => ?_)
                            refine lv_goto (tgt := 83) hx hb dX7_foresees_282 (by decide) ?_
                            exact ih83 (i + 1) v230 cu4 (by omega) (by omega) (ho3) (Or.inr (by omega)) (by rw [ev230]; exact (fs_step hq70 (show i < op t by omega) ho3 (by omega) hgr hg4 hn9 hhas9 hk9 hs2 hc3 (cu5 := cu4) (by intro j hj; rw [h4 j hj, ecu221, show g2 = 4 by omega])).1) (fs_step hq70 (show i < op t by omega) ho3 (by omega) hgr hg4 hn9 hhas9 hk9 hs2 hc3 (cu5 := cu4) (by intro j hj; rw [h4 j hj, ecu221, show g2 = 4 by omega])).2 _ _ hH ls (lv_sub hl [1, 2, 3, 4, 5, 6, 7, 0] rfl)
                          · have c238 : ¬ 4 ≤ g2 := fun zz => c238 ((nI_leI (a := 4) (b := g2) (by omega) (by omega)).mpr zz)
                            refine lv_aload_n hx hb dX7_foresees_241 rfl (lv_at hl 3 rfl) ?_
                            refine lv_iconst (v := 4) hx hb dX7_foresees_242 (by decide) ?_
                            refine lv_iload hx hb dX7_foresees_243 (lv_at hl 7 rfl) ?_
                            refine N_imul hx hb 4 i rfl rfl dX7_foresees_245 ?_
                            refine lv_iload hx hb dX7_foresees_246 (lv_at hl 8 rfl) ?_
                            refine N_iadd hx hb (4 * i) g2 rfl rfl dX7_foresees_248 ?_
                            refine lv_dup2_11 hx hb dX7_foresees_249 rfl rfl ?_
                            refine T_iald hx hb hK hρ hH hq0 ((4 * i) + g2) rfl (by omega) dX7_foresees_250 ?_
                            refine lv_aload_n hx hb dX7_foresees_251 rfl (lv_at hl 3 rfl) ?_
                            refine lv_iconst (v := 4) hx hb dX7_foresees_252 (by decide) ?_
                            refine lv_iload hx hb dX7_foresees_253 (lv_at hl 7 rfl) ?_
                            refine N_imul hx hb 4 i rfl rfl dX7_foresees_255 ?_
                            refine lv_iload hx hb dX7_foresees_256 (lv_at hl 8 rfl) ?_
                            refine N_iadd hx hb (4 * i) g2 rfl rfl dX7_foresees_258 ?_
                            refine T_iald hx hb hK hρ hH hq0 ((4 * i) + g2) rfl (by omega) dX7_foresees_259 ?_
                            refine lv_aload_n hx hb dX7_foresees_260 rfl (lv_at hl 0 rfl) ?_
                            refine M_get hx hb hts hiX7 hown hK hρ hH 2 (by decide) hf13 (v := .ref (ad 2)) rfl dX7_foresees_261 ?_
                            refine lv_iload hx hb dX7_foresees_264 (lv_at hl 6 rfl) ?_
                            refine M_iald hx hb hK hρ hH 2 3650 (by decide) (now + d) rfl (by omega) dX7_foresees_266 ?_
                            refine lv_imul hx hb dX7_foresees_267 ?_
                            refine lv_bipush (v := 100) hx hb dX7_foresees_268 (by decide) ?_
                            refine lv_idiv hx hb dX7_foresees_270 (by decide) ?_
                            refine lv_isub hx hb dX7_foresees_271 ?_
                            refine T_iast hx hb hK hρ hH hq0 ((4 * i) + g2) rfl (by omega) dX7_foresees_272 (fun H locs hH => ?_)
                            obtain ⟨cu272, ecu272⟩ : ∃ z, z = upd cu4 ((4 * i) + g2) ((cu4 ((4 * i) + g2)) - (((cu4 ((4 * i) + g2)) * (F70 2 (now + d))) / 100)) := ⟨_, rfl⟩
                            rw [← ecu272] at hH
                            refine lv_iinc (v := nI (g2 + 1)) (lv' := [(12, .int (nI (g2 + 1))), (0, .ref (ad 0)), (1, .int (nI kk)), (2, .int (nI t)), (3, .ref q0), (4, .int v230), (5, .int (nI d)), (6, .int (nI (now + d))), (7, .int (nI i))]) hx hb dX7_foresees_273 hl (k := 8) rfl (by exact nI_add _ 1) (by decide) rfl (fun ls hl => ?_)
                            refine lv_goto (tgt := 235) hx hb dX7_foresees_276 (by decide) ?_
                            exact ih235 (g2 + 1) cu272 (by omega) (by omega) (by intro j hj; rw [ecu272]; by_cases q : j = 4 * i + g2; (rw [q, if_pos (by omega)]; show (if _ then _ else _) = _; rw [if_pos rfl, h4 _ (by omega), if_neg (by omega)]); (rw [show upd cu4 (4 * i + g2) _ j = cu4 j from if_neg q, h4 j hj]; by_cases z : 4 * i ≤ j ∧ j < 4 * i + g2; rw [if_pos z, if_pos (by omega)]; rw [if_neg z, if_neg (by omega)])) _ _ hH ls (lv_sub hl [1, 2, 3, 4, 5, 6, 7, 8, 0] rfl)
                      · refine lv_iload hx hb dX7_foresees_189 (lv_at hl 0 rfl) ?_
                        refine lv_goto (tgt := 200) hx hb dX7_foresees_191 (by decide) ?_
                        refine lv_istore (lv' := [(11, .int v176), (10, .int v176), (0, .ref (ad 0)), (1, .int (nI kk)), (2, .int (nI t)), (3, .ref q0), (4, .int sm2), (5, .int (nI d)), (6, .int (nI (now + d))), (7, .int (nI i)), (8, .int (nI ((3 * t) + i))), (9, .int has)]) hx hb dX7_foresees_200 hl (by decide) rfl (fun ls hl => ?_)
                        have hn9 : v176 = if F70 8 t = 0 then F70 1 (now + d) * strI (nI (now + d) - F70 12 ((3 * t) + i)) else 0 := by rw [if_pos c148]; exact ev176
                        have hk9 : v176 = if 400 - has ≤ v176 then 400 - has else v176 := by first | rw [if_pos c186] | rw [if_neg c186]
                        have hhas9 : has = l_sum (fun g => cu3 (4 * i + g)) 4 := by rw [hhas, show g = 4 by omega]
                        refine lv_aload_n hx hb dX7_foresees_202 rfl (lv_at hl 5 rfl) ?_
                        refine lv_iconst (v := 4) hx hb dX7_foresees_203 (by decide) ?_
                        refine lv_iload hx hb dX7_foresees_204 (lv_at hl 9 rfl) ?_
                        refine N_imul hx hb 4 i rfl rfl dX7_foresees_206 ?_
                        refine lv_aload_n hx hb dX7_foresees_207 rfl (lv_at hl 2 rfl) ?_
                        refine lv_iload hx hb dX7_foresees_208 (lv_at hl 10 rfl) ?_
                        refine lv_iload hx hb dX7_foresees_210 (lv_at hl 8 rfl) ?_
                        refine x_calli (va_runV (As := [.int (nI ((3 * t) + i)), .int (nI (now + d))]) (rest := [.int (nI (4 * i)), .ref q0]) ⟨hx, hb, hml, hown, hts⟩ (c_X7_gradeOf l G A ρ ad (tbase G b q0 cu3) I F70 hρ ((3 * t) + i) (nI (now + d)) (by omega)) (cwV 2 hts gX7_foresees_X7_gradeOf rfl rfl rfl (by decide +kernel) ⟨Nat.le_of_ble_eq_true rfl, Nat.le_of_ble_eq_true rfl⟩) (x_preV hK hH hTt (mw_ob hρ) rfl [.int (nI ((3 * t) + i)), .int (nI (now + d))]) rfl rfl hl.1 rfl (lv_room (Nat.le_of_ble_eq_true rfl)) dX7_foresees_212 ⟨Nat.le_of_ble_eq_true rfl, Nat.le_of_ble_eq_true rfl⟩) hH (fun r212 u H locs hp hH => ?_)
                        obtain ⟨rfl, rfl⟩ := hp
                        have hH : xH G A s.heap H locs (mw G ρ ad (tbase G b q0 cu3) I F70) := hH
                        refine lv_topi (fun w212 ew212 => ?_)
                        rw [hgr] at ew212
                        subst ew212
                        refine N_iadd hx hb (4 * i) gr rfl rfl dX7_foresees_215 ?_
                        refine lv_dup2_11 hx hb dX7_foresees_216 rfl rfl ?_
                        refine T_iald hx hb hK hρ hH hq0 ((4 * i) + gr) rfl (by omega) dX7_foresees_217 ?_
                        refine lv_iload hx hb dX7_foresees_218 (lv_at hl 0 rfl) ?_
                        refine lv_iadd hx hb dX7_foresees_220 ?_
                        refine T_iast hx hb hK hρ hH hq0 ((4 * i) + gr) rfl (by omega) dX7_foresees_221 (fun H locs hH => ?_)
                        obtain ⟨cu221, ecu221⟩ : ∃ z, z = upd cu3 ((4 * i) + gr) ((cu3 ((4 * i) + gr)) + v176) := ⟨_, rfl⟩
                        rw [← ecu221] at hH
                        refine lv_iload hx hb dX7_foresees_222 (lv_at hl 6 rfl) ?_
                        refine lv_iload hx hb dX7_foresees_224 (lv_at hl 1 rfl) ?_
                        refine lv_iload hx hb dX7_foresees_226 (lv_at hl 0 rfl) ?_
                        refine lv_isub hx hb dX7_foresees_228 ?_
                        refine lv_iadd hx hb dX7_foresees_229 ?_
                        refine lv_topi (fun v230 ev230 => ?_)
                        refine lv_istore (lv' := [(4, .int v230), (11, .int v176), (10, .int v176), (0, .ref (ad 0)), (1, .int (nI kk)), (2, .int (nI t)), (3, .ref q0), (5, .int (nI d)), (6, .int (nI (now + d))), (7, .int (nI i)), (8, .int (nI ((3 * t) + i))), (9, .int has)]) hx hb dX7_foresees_230 hl (by decide) rfl (fun ls hl => ?_)
                        refine lv_iconst (v := 0) hx hb dX7_foresees_232 (by decide) ?_
                        refine lv_istore (lv' := [(12, .int 0), (4, .int v230), (11, .int v176), (10, .int v176), (0, .ref (ad 0)), (1, .int (nI kk)), (2, .int (nI t)), (3, .ref q0), (5, .int (nI d)), (6, .int (nI (now + d))), (7, .int (nI i)), (8, .int (nI ((3 * t) + i))), (9, .int has)]) hx hb dX7_foresees_233 hl (by decide) rfl (fun ls hl => ?_)
                        suffices loop235 : ∀ (k235 : Nat) (g2 : Nat) (cu4 : Nat → Int32), (4 < g2 + k235) → (g2 ≤ 4) → (∀ j, j < 12 → cu4 j = if 4 * i ≤ j ∧ j < 4 * i + g2 then cu221 j - cu221 j * F70 2 (now + d) / 100 else cu221 j) → ∀ (H : Heap) (locs : List Loc), xH G A s.heap H locs (mw G ρ ad (tbase G b q0 cu4) I F70) → ∀ (ls : Array Slot), lv_has ls 13 [(0, .ref (ad 0)), (1, .int (nI kk)), (2, .int (nI t)), (3, .ref q0), (4, .int v230), (5, .int (nI d)), (6, .int (nI (now + d))), (7, .int (nI i)), (12, .int (nI g2))] → W p l e (headSpec wsX7_foresees _).room s m _ below meth c H locs 1 12 (MQ below _ _ s 1 12 A) (F0 m 235 ls []) from
                          loop235 5 0 cu221 (by omega) (by omega) (by intro j hj; rw [if_neg (by omega)]) _ _ hH ls (lv_sub hl [4, 5, 6, 7, 1, 8, 9, 10, 0] rfl)
                        intro k235
                        induction k235 with
                        | zero =>
                          intro g2 cu4 hfuel hg2 h4 H locs hH ls hl
                          exact absurd hfuel (by omega)
                        | succ k235 ih235 =>
                          intro g2 cu4 hfuel hg2 h4 H locs hH ls hl
                          refine lv_iload hx hb dX7_foresees_235 (lv_at hl 8 rfl) ?_
                          refine lv_iconst (v := 4) hx hb dX7_foresees_237 (by decide) ?_
                          refine lv_icmp_ge (tgt := 279) hx hb dX7_foresees_238 (by decide) (fun c238 => ?_) (fun c238 => ?_)
                          · have c238 : 4 ≤ g2 := (nI_leI (a := 4) (b := g2) (by omega) (by omega)).mp c238
                            refine lv_iinc (v := nI (i + 1)) (lv' := [(7, .int (nI (i + 1))), (0, .ref (ad 0)), (1, .int (nI kk)), (2, .int (nI t)), (3, .ref q0), (4, .int v230), (5, .int (nI d)), (6, .int (nI (now + d))), (12, .int (nI g2))]) hx hb dX7_foresees_279 hl (k := 7) rfl (by exact nI_add _ 1) (by decide) rfl (fun ls hl => ?_)
                            refine lv_goto (tgt := 83) hx hb dX7_foresees_282 (by decide) ?_
                            exact ih83 (i + 1) v230 cu4 (by omega) (by omega) (ho3) (Or.inr (by omega)) (by rw [ev230]; exact (fs_step hq70 (show i < op t by omega) ho3 (by omega) hgr hg4 hn9 hhas9 hk9 hs2 hc3 (cu5 := cu4) (by intro j hj; rw [h4 j hj, ecu221, show g2 = 4 by omega])).1) (fs_step hq70 (show i < op t by omega) ho3 (by omega) hgr hg4 hn9 hhas9 hk9 hs2 hc3 (cu5 := cu4) (by intro j hj; rw [h4 j hj, ecu221, show g2 = 4 by omega])).2 _ _ hH ls (lv_sub hl [1, 2, 3, 4, 5, 6, 7, 0] rfl)
                          · have c238 : ¬ 4 ≤ g2 := fun zz => c238 ((nI_leI (a := 4) (b := g2) (by omega) (by omega)).mpr zz)
                            refine lv_aload_n hx hb dX7_foresees_241 rfl (lv_at hl 3 rfl) ?_
                            refine lv_iconst (v := 4) hx hb dX7_foresees_242 (by decide) ?_
                            refine lv_iload hx hb dX7_foresees_243 (lv_at hl 7 rfl) ?_
                            refine N_imul hx hb 4 i rfl rfl dX7_foresees_245 ?_
                            refine lv_iload hx hb dX7_foresees_246 (lv_at hl 8 rfl) ?_
                            refine N_iadd hx hb (4 * i) g2 rfl rfl dX7_foresees_248 ?_
                            refine lv_dup2_11 hx hb dX7_foresees_249 rfl rfl ?_
                            refine T_iald hx hb hK hρ hH hq0 ((4 * i) + g2) rfl (by omega) dX7_foresees_250 ?_
                            refine lv_aload_n hx hb dX7_foresees_251 rfl (lv_at hl 3 rfl) ?_
                            refine lv_iconst (v := 4) hx hb dX7_foresees_252 (by decide) ?_
                            refine lv_iload hx hb dX7_foresees_253 (lv_at hl 7 rfl) ?_
                            refine N_imul hx hb 4 i rfl rfl dX7_foresees_255 ?_
                            refine lv_iload hx hb dX7_foresees_256 (lv_at hl 8 rfl) ?_
                            refine N_iadd hx hb (4 * i) g2 rfl rfl dX7_foresees_258 ?_
                            refine T_iald hx hb hK hρ hH hq0 ((4 * i) + g2) rfl (by omega) dX7_foresees_259 ?_
                            refine lv_aload_n hx hb dX7_foresees_260 rfl (lv_at hl 0 rfl) ?_
                            refine M_get hx hb hts hiX7 hown hK hρ hH 2 (by decide) hf13 (v := .ref (ad 2)) rfl dX7_foresees_261 ?_
                            refine lv_iload hx hb dX7_foresees_264 (lv_at hl 6 rfl) ?_
                            refine M_iald hx hb hK hρ hH 2 3650 (by decide) (now + d) rfl (by omega) dX7_foresees_266 ?_
                            refine lv_imul hx hb dX7_foresees_267 ?_
                            refine lv_bipush (v := 100) hx hb dX7_foresees_268 (by decide) ?_
                            refine lv_idiv hx hb dX7_foresees_270 (by decide) ?_
                            refine lv_isub hx hb dX7_foresees_271 ?_
                            refine T_iast hx hb hK hρ hH hq0 ((4 * i) + g2) rfl (by omega) dX7_foresees_272 (fun H locs hH => ?_)
                            obtain ⟨cu272, ecu272⟩ : ∃ z, z = upd cu4 ((4 * i) + g2) ((cu4 ((4 * i) + g2)) - (((cu4 ((4 * i) + g2)) * (F70 2 (now + d))) / 100)) := ⟨_, rfl⟩
                            rw [← ecu272] at hH
                            refine lv_iinc (v := nI (g2 + 1)) (lv' := [(12, .int (nI (g2 + 1))), (0, .ref (ad 0)), (1, .int (nI kk)), (2, .int (nI t)), (3, .ref q0), (4, .int v230), (5, .int (nI d)), (6, .int (nI (now + d))), (7, .int (nI i))]) hx hb dX7_foresees_273 hl (k := 8) rfl (by exact nI_add _ 1) (by decide) rfl (fun ls hl => ?_)
                            refine lv_goto (tgt := 235) hx hb dX7_foresees_276 (by decide) ?_
                            exact ih235 (g2 + 1) cu272 (by omega) (by omega) (by intro j hj; rw [ecu272]; by_cases q : j = 4 * i + g2; (rw [q, if_pos (by omega)]; show (if _ then _ else _) = _; rw [if_pos rfl, h4 _ (by omega), if_neg (by omega)]); (rw [show upd cu4 (4 * i + g2) _ j = cu4 j from if_neg q, h4 j hj]; by_cases z : 4 * i ≤ j ∧ j < 4 * i + g2; rw [if_pos z, if_pos (by omega)]; rw [if_neg z, if_neg (by omega)])) _ _ hH ls (lv_sub hl [1, 2, 3, 4, 5, 6, 7, 8, 0] rfl)
                    · refine lv_iconst (v := 0) hx hb dX7_foresees_151 (by decide) ?_
                      refine lv_goto (tgt := 176) hx hb dX7_foresees_152 (by decide) ?_
                      refine lv_istore (lv' := [(10, .int 0), (0, .ref (ad 0)), (1, .int (nI kk)), (2, .int (nI t)), (3, .ref q0), (4, .int sm2), (5, .int (nI d)), (6, .int (nI (now + d))), (7, .int (nI i)), (8, .int (nI ((3 * t) + i))), (9, .int has)]) hx hb dX7_foresees_176 hl (by decide) rfl (fun ls hl => ?_)
                      refine lv_iload hx hb dX7_foresees_178 (lv_at hl 0 rfl) ?_
                      refine lv_sipush (v := 400) hx hb dX7_foresees_180 (by decide) ?_
                      refine lv_iload hx hb dX7_foresees_183 (lv_at hl 10 rfl) ?_
                      refine lv_isub hx hb dX7_foresees_185 ?_
                      refine lv_icmp_ge (tgt := 194) hx hb dX7_foresees_186 (by decide) (fun c186 => ?_) (fun c186 => ?_)
                      · refine lv_sipush (v := 400) hx hb dX7_foresees_194 (by decide) ?_
                        refine lv_iload hx hb dX7_foresees_197 (lv_at hl 10 rfl) ?_
                        refine lv_isub hx hb dX7_foresees_199 ?_
                        refine lv_istore (lv' := [(11, .int (400 - has)), (10, .int 0), (0, .ref (ad 0)), (1, .int (nI kk)), (2, .int (nI t)), (3, .ref q0), (4, .int sm2), (5, .int (nI d)), (6, .int (nI (now + d))), (7, .int (nI i)), (8, .int (nI ((3 * t) + i))), (9, .int has)]) hx hb dX7_foresees_200 hl (by decide) rfl (fun ls hl => ?_)
                        have hn9 : (0 : Int32) = if F70 8 t = 0 then F70 1 (now + d) * strI (nI (now + d) - F70 12 ((3 * t) + i)) else 0 := by rw [if_neg c148]
                        have hk9 : 400 - has = if 400 - has ≤ 0 then 400 - has else 0 := by first | rw [if_pos c186] | rw [if_neg c186]
                        have hhas9 : has = l_sum (fun g => cu3 (4 * i + g)) 4 := by rw [hhas, show g = 4 by omega]
                        refine lv_aload_n hx hb dX7_foresees_202 rfl (lv_at hl 5 rfl) ?_
                        refine lv_iconst (v := 4) hx hb dX7_foresees_203 (by decide) ?_
                        refine lv_iload hx hb dX7_foresees_204 (lv_at hl 9 rfl) ?_
                        refine N_imul hx hb 4 i rfl rfl dX7_foresees_206 ?_
                        refine lv_aload_n hx hb dX7_foresees_207 rfl (lv_at hl 2 rfl) ?_
                        refine lv_iload hx hb dX7_foresees_208 (lv_at hl 10 rfl) ?_
                        refine lv_iload hx hb dX7_foresees_210 (lv_at hl 8 rfl) ?_
                        refine x_calli (va_runV (As := [.int (nI ((3 * t) + i)), .int (nI (now + d))]) (rest := [.int (nI (4 * i)), .ref q0]) ⟨hx, hb, hml, hown, hts⟩ (c_X7_gradeOf l G A ρ ad (tbase G b q0 cu3) I F70 hρ ((3 * t) + i) (nI (now + d)) (by omega)) (cwV 2 hts gX7_foresees_X7_gradeOf rfl rfl rfl (by decide +kernel) ⟨Nat.le_of_ble_eq_true rfl, Nat.le_of_ble_eq_true rfl⟩) (x_preV hK hH hTt (mw_ob hρ) rfl [.int (nI ((3 * t) + i)), .int (nI (now + d))]) rfl rfl hl.1 rfl (lv_room (Nat.le_of_ble_eq_true rfl)) dX7_foresees_212 ⟨Nat.le_of_ble_eq_true rfl, Nat.le_of_ble_eq_true rfl⟩) hH (fun r212 u H locs hp hH => ?_)
                        obtain ⟨rfl, rfl⟩ := hp
                        have hH : xH G A s.heap H locs (mw G ρ ad (tbase G b q0 cu3) I F70) := hH
                        refine lv_topi (fun w212 ew212 => ?_)
                        rw [hgr] at ew212
                        subst ew212
                        refine N_iadd hx hb (4 * i) gr rfl rfl dX7_foresees_215 ?_
                        refine lv_dup2_11 hx hb dX7_foresees_216 rfl rfl ?_
                        refine T_iald hx hb hK hρ hH hq0 ((4 * i) + gr) rfl (by omega) dX7_foresees_217 ?_
                        refine lv_iload hx hb dX7_foresees_218 (lv_at hl 0 rfl) ?_
                        refine lv_iadd hx hb dX7_foresees_220 ?_
                        refine T_iast hx hb hK hρ hH hq0 ((4 * i) + gr) rfl (by omega) dX7_foresees_221 (fun H locs hH => ?_)
                        obtain ⟨cu221, ecu221⟩ : ∃ z, z = upd cu3 ((4 * i) + gr) ((cu3 ((4 * i) + gr)) + (400 - has)) := ⟨_, rfl⟩
                        rw [← ecu221] at hH
                        refine lv_iload hx hb dX7_foresees_222 (lv_at hl 6 rfl) ?_
                        refine lv_iload hx hb dX7_foresees_224 (lv_at hl 1 rfl) ?_
                        refine lv_iload hx hb dX7_foresees_226 (lv_at hl 0 rfl) ?_
                        refine lv_isub hx hb dX7_foresees_228 ?_
                        refine lv_iadd hx hb dX7_foresees_229 ?_
                        refine lv_topi (fun v230 ev230 => ?_)
                        refine lv_istore (lv' := [(4, .int v230), (11, .int (400 - has)), (10, .int 0), (0, .ref (ad 0)), (1, .int (nI kk)), (2, .int (nI t)), (3, .ref q0), (5, .int (nI d)), (6, .int (nI (now + d))), (7, .int (nI i)), (8, .int (nI ((3 * t) + i))), (9, .int has)]) hx hb dX7_foresees_230 hl (by decide) rfl (fun ls hl => ?_)
                        refine lv_iconst (v := 0) hx hb dX7_foresees_232 (by decide) ?_
                        refine lv_istore (lv' := [(12, .int 0), (4, .int v230), (11, .int (400 - has)), (10, .int 0), (0, .ref (ad 0)), (1, .int (nI kk)), (2, .int (nI t)), (3, .ref q0), (5, .int (nI d)), (6, .int (nI (now + d))), (7, .int (nI i)), (8, .int (nI ((3 * t) + i))), (9, .int has)]) hx hb dX7_foresees_233 hl (by decide) rfl (fun ls hl => ?_)
                        suffices loop235 : ∀ (k235 : Nat) (g2 : Nat) (cu4 : Nat → Int32), (4 < g2 + k235) → (g2 ≤ 4) → (∀ j, j < 12 → cu4 j = if 4 * i ≤ j ∧ j < 4 * i + g2 then cu221 j - cu221 j * F70 2 (now + d) / 100 else cu221 j) → ∀ (H : Heap) (locs : List Loc), xH G A s.heap H locs (mw G ρ ad (tbase G b q0 cu4) I F70) → ∀ (ls : Array Slot), lv_has ls 13 [(0, .ref (ad 0)), (1, .int (nI kk)), (2, .int (nI t)), (3, .ref q0), (4, .int v230), (5, .int (nI d)), (6, .int (nI (now + d))), (7, .int (nI i)), (12, .int (nI g2))] → W p l e (headSpec wsX7_foresees _).room s m _ below meth c H locs 1 12 (MQ below _ _ s 1 12 A) (F0 m 235 ls []) from
                          loop235 5 0 cu221 (by omega) (by omega) (by intro j hj; rw [if_neg (by omega)]) _ _ hH ls (lv_sub hl [4, 5, 6, 7, 1, 8, 9, 10, 0] rfl)
                        intro k235
                        induction k235 with
                        | zero =>
                          intro g2 cu4 hfuel hg2 h4 H locs hH ls hl
                          exact absurd hfuel (by omega)
                        | succ k235 ih235 =>
                          intro g2 cu4 hfuel hg2 h4 H locs hH ls hl
                          refine lv_iload hx hb dX7_foresees_235 (lv_at hl 8 rfl) ?_
                          refine lv_iconst (v := 4) hx hb dX7_foresees_237 (by decide) ?_
                          refine lv_icmp_ge (tgt := 279) hx hb dX7_foresees_238 (by decide) (fun c238 => ?_) (fun c238 => ?_)
                          · have c238 : 4 ≤ g2 := (nI_leI (a := 4) (b := g2) (by omega) (by omega)).mp c238
                            refine lv_iinc (v := nI (i + 1)) (lv' := [(7, .int (nI (i + 1))), (0, .ref (ad 0)), (1, .int (nI kk)), (2, .int (nI t)), (3, .ref q0), (4, .int v230), (5, .int (nI d)), (6, .int (nI (now + d))), (12, .int (nI g2))]) hx hb dX7_foresees_279 hl (k := 7) rfl (by exact nI_add _ 1) (by decide) rfl (fun ls hl => ?_)
                            refine lv_goto (tgt := 83) hx hb dX7_foresees_282 (by decide) ?_
                            exact ih83 (i + 1) v230 cu4 (by omega) (by omega) (ho3) (Or.inr (by omega)) (by rw [ev230]; exact (fs_step hq70 (show i < op t by omega) ho3 (by omega) hgr hg4 hn9 hhas9 hk9 hs2 hc3 (cu5 := cu4) (by intro j hj; rw [h4 j hj, ecu221, show g2 = 4 by omega])).1) (fs_step hq70 (show i < op t by omega) ho3 (by omega) hgr hg4 hn9 hhas9 hk9 hs2 hc3 (cu5 := cu4) (by intro j hj; rw [h4 j hj, ecu221, show g2 = 4 by omega])).2 _ _ hH ls (lv_sub hl [1, 2, 3, 4, 5, 6, 7, 0] rfl)
                          · have c238 : ¬ 4 ≤ g2 := fun zz => c238 ((nI_leI (a := 4) (b := g2) (by omega) (by omega)).mpr zz)
                            refine lv_aload_n hx hb dX7_foresees_241 rfl (lv_at hl 3 rfl) ?_
                            refine lv_iconst (v := 4) hx hb dX7_foresees_242 (by decide) ?_
                            refine lv_iload hx hb dX7_foresees_243 (lv_at hl 7 rfl) ?_
                            refine N_imul hx hb 4 i rfl rfl dX7_foresees_245 ?_
                            refine lv_iload hx hb dX7_foresees_246 (lv_at hl 8 rfl) ?_
                            refine N_iadd hx hb (4 * i) g2 rfl rfl dX7_foresees_248 ?_
                            refine lv_dup2_11 hx hb dX7_foresees_249 rfl rfl ?_
                            refine T_iald hx hb hK hρ hH hq0 ((4 * i) + g2) rfl (by omega) dX7_foresees_250 ?_
                            refine lv_aload_n hx hb dX7_foresees_251 rfl (lv_at hl 3 rfl) ?_
                            refine lv_iconst (v := 4) hx hb dX7_foresees_252 (by decide) ?_
                            refine lv_iload hx hb dX7_foresees_253 (lv_at hl 7 rfl) ?_
                            refine N_imul hx hb 4 i rfl rfl dX7_foresees_255 ?_
                            refine lv_iload hx hb dX7_foresees_256 (lv_at hl 8 rfl) ?_
                            refine N_iadd hx hb (4 * i) g2 rfl rfl dX7_foresees_258 ?_
                            refine T_iald hx hb hK hρ hH hq0 ((4 * i) + g2) rfl (by omega) dX7_foresees_259 ?_
                            refine lv_aload_n hx hb dX7_foresees_260 rfl (lv_at hl 0 rfl) ?_
                            refine M_get hx hb hts hiX7 hown hK hρ hH 2 (by decide) hf13 (v := .ref (ad 2)) rfl dX7_foresees_261 ?_
                            refine lv_iload hx hb dX7_foresees_264 (lv_at hl 6 rfl) ?_
                            refine M_iald hx hb hK hρ hH 2 3650 (by decide) (now + d) rfl (by omega) dX7_foresees_266 ?_
                            refine lv_imul hx hb dX7_foresees_267 ?_
                            refine lv_bipush (v := 100) hx hb dX7_foresees_268 (by decide) ?_
                            refine lv_idiv hx hb dX7_foresees_270 (by decide) ?_
                            refine lv_isub hx hb dX7_foresees_271 ?_
                            refine T_iast hx hb hK hρ hH hq0 ((4 * i) + g2) rfl (by omega) dX7_foresees_272 (fun H locs hH => ?_)
                            obtain ⟨cu272, ecu272⟩ : ∃ z, z = upd cu4 ((4 * i) + g2) ((cu4 ((4 * i) + g2)) - (((cu4 ((4 * i) + g2)) * (F70 2 (now + d))) / 100)) := ⟨_, rfl⟩
                            rw [← ecu272] at hH
                            refine lv_iinc (v := nI (g2 + 1)) (lv' := [(12, .int (nI (g2 + 1))), (0, .ref (ad 0)), (1, .int (nI kk)), (2, .int (nI t)), (3, .ref q0), (4, .int v230), (5, .int (nI d)), (6, .int (nI (now + d))), (7, .int (nI i))]) hx hb dX7_foresees_273 hl (k := 8) rfl (by exact nI_add _ 1) (by decide) rfl (fun ls hl => ?_)
                            refine lv_goto (tgt := 235) hx hb dX7_foresees_276 (by decide) ?_
                            exact ih235 (g2 + 1) cu272 (by omega) (by omega) (by intro j hj; rw [ecu272]; by_cases q : j = 4 * i + g2; (rw [q, if_pos (by omega)]; show (if _ then _ else _) = _; rw [if_pos rfl, h4 _ (by omega), if_neg (by omega)]); (rw [show upd cu4 (4 * i + g2) _ j = cu4 j from if_neg q, h4 j hj]; by_cases z : 4 * i ≤ j ∧ j < 4 * i + g2; rw [if_pos z, if_pos (by omega)]; rw [if_neg z, if_neg (by omega)])) _ _ hH ls (lv_sub hl [1, 2, 3, 4, 5, 6, 7, 8, 0] rfl)
                      · refine lv_iload hx hb dX7_foresees_189 (lv_at hl 0 rfl) ?_
                        refine lv_goto (tgt := 200) hx hb dX7_foresees_191 (by decide) ?_
                        refine lv_istore (lv' := [(11, .int 0), (10, .int 0), (0, .ref (ad 0)), (1, .int (nI kk)), (2, .int (nI t)), (3, .ref q0), (4, .int sm2), (5, .int (nI d)), (6, .int (nI (now + d))), (7, .int (nI i)), (8, .int (nI ((3 * t) + i))), (9, .int has)]) hx hb dX7_foresees_200 hl (by decide) rfl (fun ls hl => ?_)
                        have hn9 : (0 : Int32) = if F70 8 t = 0 then F70 1 (now + d) * strI (nI (now + d) - F70 12 ((3 * t) + i)) else 0 := by rw [if_neg c148]
                        have hk9 : 0 = if 400 - has ≤ 0 then 400 - has else 0 := by first | rw [if_pos c186] | rw [if_neg c186]
                        have hhas9 : has = l_sum (fun g => cu3 (4 * i + g)) 4 := by rw [hhas, show g = 4 by omega]
                        refine lv_aload_n hx hb dX7_foresees_202 rfl (lv_at hl 5 rfl) ?_
                        refine lv_iconst (v := 4) hx hb dX7_foresees_203 (by decide) ?_
                        refine lv_iload hx hb dX7_foresees_204 (lv_at hl 9 rfl) ?_
                        refine N_imul hx hb 4 i rfl rfl dX7_foresees_206 ?_
                        refine lv_aload_n hx hb dX7_foresees_207 rfl (lv_at hl 2 rfl) ?_
                        refine lv_iload hx hb dX7_foresees_208 (lv_at hl 10 rfl) ?_
                        refine lv_iload hx hb dX7_foresees_210 (lv_at hl 8 rfl) ?_
                        refine x_calli (va_runV (As := [.int (nI ((3 * t) + i)), .int (nI (now + d))]) (rest := [.int (nI (4 * i)), .ref q0]) ⟨hx, hb, hml, hown, hts⟩ (c_X7_gradeOf l G A ρ ad (tbase G b q0 cu3) I F70 hρ ((3 * t) + i) (nI (now + d)) (by omega)) (cwV 2 hts gX7_foresees_X7_gradeOf rfl rfl rfl (by decide +kernel) ⟨Nat.le_of_ble_eq_true rfl, Nat.le_of_ble_eq_true rfl⟩) (x_preV hK hH hTt (mw_ob hρ) rfl [.int (nI ((3 * t) + i)), .int (nI (now + d))]) rfl rfl hl.1 rfl (lv_room (Nat.le_of_ble_eq_true rfl)) dX7_foresees_212 ⟨Nat.le_of_ble_eq_true rfl, Nat.le_of_ble_eq_true rfl⟩) hH (fun r212 u H locs hp hH => ?_)
                        obtain ⟨rfl, rfl⟩ := hp
                        have hH : xH G A s.heap H locs (mw G ρ ad (tbase G b q0 cu3) I F70) := hH
                        refine lv_topi (fun w212 ew212 => ?_)
                        rw [hgr] at ew212
                        subst ew212
                        refine N_iadd hx hb (4 * i) gr rfl rfl dX7_foresees_215 ?_
                        refine lv_dup2_11 hx hb dX7_foresees_216 rfl rfl ?_
                        refine T_iald hx hb hK hρ hH hq0 ((4 * i) + gr) rfl (by omega) dX7_foresees_217 ?_
                        refine lv_iload hx hb dX7_foresees_218 (lv_at hl 0 rfl) ?_
                        refine lv_iadd hx hb dX7_foresees_220 ?_
                        refine T_iast hx hb hK hρ hH hq0 ((4 * i) + gr) rfl (by omega) dX7_foresees_221 (fun H locs hH => ?_)
                        obtain ⟨cu221, ecu221⟩ : ∃ z, z = upd cu3 ((4 * i) + gr) ((cu3 ((4 * i) + gr)) + 0) := ⟨_, rfl⟩
                        rw [← ecu221] at hH
                        refine lv_iload hx hb dX7_foresees_222 (lv_at hl 6 rfl) ?_
                        refine lv_iload hx hb dX7_foresees_224 (lv_at hl 1 rfl) ?_
                        refine lv_iload hx hb dX7_foresees_226 (lv_at hl 0 rfl) ?_
                        refine N_isub hx hb 0 0 rfl rfl (by omega) dX7_foresees_228 ?_
                        refine lv_iadd hx hb dX7_foresees_229 ?_
                        refine lv_topi (fun v230 ev230 => ?_)
                        refine lv_istore (lv' := [(4, .int v230), (11, .int 0), (10, .int 0), (0, .ref (ad 0)), (1, .int (nI kk)), (2, .int (nI t)), (3, .ref q0), (5, .int (nI d)), (6, .int (nI (now + d))), (7, .int (nI i)), (8, .int (nI ((3 * t) + i))), (9, .int has)]) hx hb dX7_foresees_230 hl (by decide) rfl (fun ls hl => ?_)
                        refine lv_iconst (v := 0) hx hb dX7_foresees_232 (by decide) ?_
                        refine lv_istore (lv' := [(12, .int 0), (4, .int v230), (11, .int 0), (10, .int 0), (0, .ref (ad 0)), (1, .int (nI kk)), (2, .int (nI t)), (3, .ref q0), (5, .int (nI d)), (6, .int (nI (now + d))), (7, .int (nI i)), (8, .int (nI ((3 * t) + i))), (9, .int has)]) hx hb dX7_foresees_233 hl (by decide) rfl (fun ls hl => ?_)
                        suffices loop235 : ∀ (k235 : Nat) (g2 : Nat) (cu4 : Nat → Int32), (4 < g2 + k235) → (g2 ≤ 4) → (∀ j, j < 12 → cu4 j = if 4 * i ≤ j ∧ j < 4 * i + g2 then cu221 j - cu221 j * F70 2 (now + d) / 100 else cu221 j) → ∀ (H : Heap) (locs : List Loc), xH G A s.heap H locs (mw G ρ ad (tbase G b q0 cu4) I F70) → ∀ (ls : Array Slot), lv_has ls 13 [(0, .ref (ad 0)), (1, .int (nI kk)), (2, .int (nI t)), (3, .ref q0), (4, .int v230), (5, .int (nI d)), (6, .int (nI (now + d))), (7, .int (nI i)), (12, .int (nI g2))] → W p l e (headSpec wsX7_foresees _).room s m _ below meth c H locs 1 12 (MQ below _ _ s 1 12 A) (F0 m 235 ls []) from
                          loop235 5 0 cu221 (by omega) (by omega) (by intro j hj; rw [if_neg (by omega)]) _ _ hH ls (lv_sub hl [4, 5, 6, 7, 1, 8, 9, 10, 0] rfl)
                        intro k235
                        induction k235 with
                        | zero =>
                          intro g2 cu4 hfuel hg2 h4 H locs hH ls hl
                          exact absurd hfuel (by omega)
                        | succ k235 ih235 =>
                          intro g2 cu4 hfuel hg2 h4 H locs hH ls hl
                          refine lv_iload hx hb dX7_foresees_235 (lv_at hl 8 rfl) ?_
                          refine lv_iconst (v := 4) hx hb dX7_foresees_237 (by decide) ?_
                          refine lv_icmp_ge (tgt := 279) hx hb dX7_foresees_238 (by decide) (fun c238 => ?_) (fun c238 => ?_)
                          · have c238 : 4 ≤ g2 := (nI_leI (a := 4) (b := g2) (by omega) (by omega)).mp c238
                            refine lv_iinc (v := nI (i + 1)) (lv' := [(7, .int (nI (i + 1))), (0, .ref (ad 0)), (1, .int (nI kk)), (2, .int (nI t)), (3, .ref q0), (4, .int v230), (5, .int (nI d)), (6, .int (nI (now + d))), (12, .int (nI g2))]) hx hb dX7_foresees_279 hl (k := 7) rfl (by exact nI_add _ 1) (by decide) rfl (fun ls hl => ?_)
                            refine lv_goto (tgt := 83) hx hb dX7_foresees_282 (by decide) ?_
                            exact ih83 (i + 1) v230 cu4 (by omega) (by omega) (ho3) (Or.inr (by omega)) (by rw [ev230]; exact (fs_step hq70 (show i < op t by omega) ho3 (by omega) hgr hg4 hn9 hhas9 hk9 hs2 hc3 (cu5 := cu4) (by intro j hj; rw [h4 j hj, ecu221, show g2 = 4 by omega])).1) (fs_step hq70 (show i < op t by omega) ho3 (by omega) hgr hg4 hn9 hhas9 hk9 hs2 hc3 (cu5 := cu4) (by intro j hj; rw [h4 j hj, ecu221, show g2 = 4 by omega])).2 _ _ hH ls (lv_sub hl [1, 2, 3, 4, 5, 6, 7, 0] rfl)
                          · have c238 : ¬ 4 ≤ g2 := fun zz => c238 ((nI_leI (a := 4) (b := g2) (by omega) (by omega)).mpr zz)
                            refine lv_aload_n hx hb dX7_foresees_241 rfl (lv_at hl 3 rfl) ?_
                            refine lv_iconst (v := 4) hx hb dX7_foresees_242 (by decide) ?_
                            refine lv_iload hx hb dX7_foresees_243 (lv_at hl 7 rfl) ?_
                            refine N_imul hx hb 4 i rfl rfl dX7_foresees_245 ?_
                            refine lv_iload hx hb dX7_foresees_246 (lv_at hl 8 rfl) ?_
                            refine N_iadd hx hb (4 * i) g2 rfl rfl dX7_foresees_248 ?_
                            refine lv_dup2_11 hx hb dX7_foresees_249 rfl rfl ?_
                            refine T_iald hx hb hK hρ hH hq0 ((4 * i) + g2) rfl (by omega) dX7_foresees_250 ?_
                            refine lv_aload_n hx hb dX7_foresees_251 rfl (lv_at hl 3 rfl) ?_
                            refine lv_iconst (v := 4) hx hb dX7_foresees_252 (by decide) ?_
                            refine lv_iload hx hb dX7_foresees_253 (lv_at hl 7 rfl) ?_
                            refine N_imul hx hb 4 i rfl rfl dX7_foresees_255 ?_
                            refine lv_iload hx hb dX7_foresees_256 (lv_at hl 8 rfl) ?_
                            refine N_iadd hx hb (4 * i) g2 rfl rfl dX7_foresees_258 ?_
                            refine T_iald hx hb hK hρ hH hq0 ((4 * i) + g2) rfl (by omega) dX7_foresees_259 ?_
                            refine lv_aload_n hx hb dX7_foresees_260 rfl (lv_at hl 0 rfl) ?_
                            refine M_get hx hb hts hiX7 hown hK hρ hH 2 (by decide) hf13 (v := .ref (ad 2)) rfl dX7_foresees_261 ?_
                            refine lv_iload hx hb dX7_foresees_264 (lv_at hl 6 rfl) ?_
                            refine M_iald hx hb hK hρ hH 2 3650 (by decide) (now + d) rfl (by omega) dX7_foresees_266 ?_
                            refine lv_imul hx hb dX7_foresees_267 ?_
                            refine lv_bipush (v := 100) hx hb dX7_foresees_268 (by decide) ?_
                            refine lv_idiv hx hb dX7_foresees_270 (by decide) ?_
                            refine lv_isub hx hb dX7_foresees_271 ?_
                            refine T_iast hx hb hK hρ hH hq0 ((4 * i) + g2) rfl (by omega) dX7_foresees_272 (fun H locs hH => ?_)
                            obtain ⟨cu272, ecu272⟩ : ∃ z, z = upd cu4 ((4 * i) + g2) ((cu4 ((4 * i) + g2)) - (((cu4 ((4 * i) + g2)) * (F70 2 (now + d))) / 100)) := ⟨_, rfl⟩
                            rw [← ecu272] at hH
                            refine lv_iinc (v := nI (g2 + 1)) (lv' := [(12, .int (nI (g2 + 1))), (0, .ref (ad 0)), (1, .int (nI kk)), (2, .int (nI t)), (3, .ref q0), (4, .int v230), (5, .int (nI d)), (6, .int (nI (now + d))), (7, .int (nI i))]) hx hb dX7_foresees_273 hl (k := 8) rfl (by exact nI_add _ 1) (by decide) rfl (fun ls hl => ?_)
                            refine lv_goto (tgt := 235) hx hb dX7_foresees_276 (by decide) ?_
                            exact ih235 (g2 + 1) cu272 (by omega) (by omega) (by intro j hj; rw [ecu272]; by_cases q : j = 4 * i + g2; (rw [q, if_pos (by omega)]; show (if _ then _ else _) = _; rw [if_pos rfl, h4 _ (by omega), if_neg (by omega)]); (rw [show upd cu4 (4 * i + g2) _ j = cu4 j from if_neg q, h4 j hj]; by_cases z : 4 * i ≤ j ∧ j < 4 * i + g2; rw [if_pos z, if_pos (by omega)]; rw [if_neg z, if_neg (by omega)])) _ _ hH ls (lv_sub hl [1, 2, 3, 4, 5, 6, 7, 8, 0] rfl)
                  · have c119 : ¬ 4 ≤ g := fun zz => c119 ((nI_leI (a := 4) (b := g) (by omega) (by omega)).mpr zz)
                    refine lv_iload hx hb dX7_foresees_122 (lv_at hl 9 rfl) ?_
                    refine lv_aload_n hx hb dX7_foresees_124 rfl (lv_at hl 3 rfl) ?_
                    refine lv_iconst (v := 4) hx hb dX7_foresees_125 (by decide) ?_
                    refine lv_iload hx hb dX7_foresees_126 (lv_at hl 7 rfl) ?_
                    refine N_imul hx hb 4 i rfl rfl dX7_foresees_128 ?_
                    refine lv_iload hx hb dX7_foresees_129 (lv_at hl 10 rfl) ?_
                    refine N_iadd hx hb (4 * i) g rfl rfl dX7_foresees_131 ?_
                    refine T_iald hx hb hK hρ hH hq0 ((4 * i) + g) rfl (by omega) dX7_foresees_132 ?_
                    refine lv_iadd hx hb dX7_foresees_133 ?_
                    refine lv_topi (fun v134 ev134 => ?_)
                    refine lv_istore (lv' := [(9, .int v134), (0, .ref (ad 0)), (1, .int (nI kk)), (2, .int (nI t)), (3, .ref q0), (4, .int sm2), (5, .int (nI d)), (6, .int (nI (now + d))), (7, .int (nI i)), (8, .int (nI ((3 * t) + i))), (10, .int (nI g))]) hx hb dX7_foresees_134 hl (by decide) rfl (fun ls hl => ?_)
                    refine lv_iinc (v := nI (g + 1)) (lv' := [(10, .int (nI (g + 1))), (9, .int v134), (0, .ref (ad 0)), (1, .int (nI kk)), (2, .int (nI t)), (3, .ref q0), (4, .int sm2), (5, .int (nI d)), (6, .int (nI (now + d))), (7, .int (nI i)), (8, .int (nI ((3 * t) + i)))]) hx hb dX7_foresees_136 hl (k := 10) rfl (by exact nI_add _ 1) (by decide) rfl (fun ls hl => ?_)
                    refine lv_goto (tgt := 116) hx hb dX7_foresees_139 (by decide) ?_
                    exact ih116 (g + 1) v134 (by omega) (by omega) (by first | (rw [ev134, hhas]; rfl) | (rw [hhas]; rfl)) _ _ hH ls (lv_sub hl [2, 3, 4, 5, 6, 7, 8, 9, 10, 1, 0] rfl)
    · have c19 : ¬ 12 ≤ i := fun zz => c19 ((nI_leI (a := 12) (b := i) (by omega) (by omega)).mpr zz)
      refine lv_aload_n hx hb dX7_foresees_22 rfl (lv_at hl 3 rfl) ?_
      refine lv_iload hx hb dX7_foresees_23 (lv_at hl 4 rfl) ?_
      refine lv_aload_n hx hb dX7_foresees_25 rfl (lv_at hl 0 rfl) ?_
      refine M_get hx hb hts hiX7 hown hK hρ hH 14 (by decide) hf47 (v := .ref (ad 14)) rfl dX7_foresees_26 ?_
      refine lv_bipush (v := 12) hx hb dX7_foresees_29 (by decide) ?_
      refine lv_iload_n hx hb dX7_foresees_31 rfl (lv_at hl 2 rfl) ?_
      refine N_imul hx hb 12 t rfl rfl dX7_foresees_32 ?_
      refine lv_iload hx hb dX7_foresees_33 (lv_at hl 4 rfl) ?_
      refine N_iadd hx hb (12 * t) i rfl rfl dX7_foresees_35 ?_
      refine M_iald hx hb hK hρ hH 14 720 (by decide) ((12 * t) + i) rfl (by omega) dX7_foresees_36 ?_
      refine T_iast hx hb hK hρ hH hq0 i rfl (by omega) dX7_foresees_37 (fun H locs hH => ?_)
      obtain ⟨cu37, ecu37⟩ : ∃ z, z = upd cu i (F 14 ((12 * t) + i)) := ⟨_, rfl⟩
      rw [← ecu37] at hH
      refine lv_iinc (v := nI (i + 1)) (lv' := [(4, .int (nI (i + 1))), (0, .ref (ad 0)), (1, .int (nI kk)), (2, .int (nI t)), (3, .ref q0)]) hx hb dX7_foresees_38 hl (k := 4) rfl (by exact nI_add _ 1) (by decide) rfl (fun ls hl => ?_)
      refine lv_goto (tgt := 15) hx hb dX7_foresees_41 (by decide) ?_
      exact ih15 (i + 1) cu37 (by omega) (by omega) (by intro j hj; rw [ecu37]; by_cases q : j = i; rw [q]; exact if_pos rfl; rw [show upd cu i _ j = cu j from if_neg q]; exact hcu j (by omega)) _ _ hH ls (lv_sub hl [1, 2, 3, 4, 0] rfl)
