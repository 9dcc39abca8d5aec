
/-! THE TREES OF A WALK: those whose bits are set, by numbers -/
def sel (lo hi t : Nat) : Bool := if t < 30 then decide (lo / 2 ^ t % 2 = 1) else decide (hi / 2 ^ (t - 30) % 2 = 1)
def slT (lo hi t : Nat) : List Nat := (List.range t).filter (sel lo hi)
theorem slT_s (lo hi t : Nat) : slT lo hi (t + 1) = slT lo hi t ++ (if sel lo hi t then [t] else []) := by
  unfold slT
  rw [List.range_succ, List.filter_append]
  congr 1
  by_cases h : sel lo hi t = true <;> simp [h]
theorem slT_y {lo hi t : Nat} (h : sel lo hi t = true) : slT lo hi (t + 1) = slT lo hi t ++ [t] := by rw [slT_s, if_pos h]
theorem slT_n {lo hi t : Nat} (h : ¬ sel lo hi t = true) : slT lo hi (t + 1) = slT lo hi t := by rw [slT_s, if_neg h, List.append_nil]
theorem slT_m (lo hi : Nat) {t : Nat} : ∀ d, (slT lo hi t).length ≤ (slT lo hi (t + d)).length
  | 0 => Nat.le_refl _
  | d + 1 => by
    have h := slT_m lo hi (t := t) d
    rw [show t + (d + 1) = (t + d) + 1 by omega, slT_s, List.length_append]
    omega
theorem slT_in {lo hi t x : Nat} : x ∈ slT lo hi t ↔ x < t ∧ sel lo hi x = true := by simp [slT]
def okS (S : List Nat) (nT : Nat) : Bool := decide (1 ≤ S.length) && decide (S.length ≤ 6) && S.all (fun x => decide (x < nT))
theorem okS_iff {S : List Nat} {nT : Nat} : okS S nT = true ↔ 1 ≤ S.length ∧ S.length ≤ 6 ∧ ∀ x ∈ S, x < nT := by
  simp [okS, and_assoc]
def chI (low high : Int32) (nT : Nat) : Int32 := if low < 0 then -1 else if low >>> (30 &&& 31) = 0 then (if high < 0 then -1 else if high >>> (30 &&& 31) = 0 then (if okS (slT (ix low) (ix high) 60) nT = true then nI (slT (ix low) (ix high) 60).length else -1) else -1) else -1
theorem sh30 {j : Nat} (h : j < 2 ^ 31) (q : nI j >>> ((30 : Int32) &&& 31) = 0) : j < 2 ^ 30 := by
  rw [pk_shrN h _ 30 (by decide)] at q
  have h2 : j / 2 ^ 30 = 0 := (nI_eq (b := 0) (Nat.lt_of_le_of_lt (Nat.div_le_self _ _) h) (by decide)).mp q
  omega
theorem getD_app {S : List Nat} {t k : Nat} (h : k < S.length) : (S ++ [t]).getD k 0 = S.getD k 0 := by
  rw [List.getD_eq_getElem?_getD, List.getD_eq_getElem?_getD, List.getElem?_append_left h]
theorem getD_last {S : List Nat} {t : Nat} : (S ++ [t]).getD S.length 0 = t := by simp [List.getD_eq_getElem?_getD]

set_option maxHeartbeats 4000000 in
set_option maxRecDepth 100000 in
theorem c_X7_chooses (l : Launch) (G : XG) (A : Nat → Prop) (ρ : Nat → Option Nat) (ad : Nat → Nat) (b : XW) (I : Nat → Int32) (F : Nat → Nat → Int32) (hρ : mA ρ ad) (nT : Nat) (hn : I 3 = nI nT) (hT : nT ≤ 60) (low high : Int32) : Met l yX7_chooses wsX7_chooses ({ frames := 0, cells := 0, slots := 0, locals := 0 }) (va_Pc [.ref (ad 0), .int low, .int high] (xP G A (mw G ρ ad b I F))) (va_Qi (fun (r : Int32) (u : (Nat → Int32) × (Nat → Nat → Int32)) => r = chI low high nT ∧ u.1 = I ∧ (∀ q, q ≠ 33 → u.2 q = F q) ∧ (¬ r = -1 → ∀ k, k < (slT (ix low) (ix high) 60).length → u.2 33 k = nI ((slT (ix low) (ix high) 60).getD k 0))) (fun u t => xB G A (mw G ρ ad b u.1 u.2) t) A) 0 0 A := by
  refine Met.ofW (cc := cX7_chooses) (maxL := 5) (ret := (some .int)) (by decide) rfl ?_
  intro p e s m args below meth c s₁ B hml hv
  obtain ⟨rfl, hK, hH, hTt⟩ := hv
  have hx := B.exec
  have hb := B.bytes
  have hr := B.returns
  have hts := atoms_spec (ws := wsX7_chooses) B.pre
  have hown : s.vm.findClass RX7 = some m.cls := findClass_of_methodNamed B.named
  have hlocks := B.notSynchronized
  have hiX7 : ∀ w ∈ wsX70, w ∈ wsX7_chooses := by decide +kernel
  have hf80 := hts (.fieldLink RX7 80 "ResinWoodsModel" "chosen" "[I") (by decide +kernel)
  have hf92 := hts (.fieldLink RX7 92 "ResinWoodsModel" "trees" "I") (by decide +kernel)
  have hl := lv_entry ([.ref (ad 0), .int low, .int high]) (n := 5) (Nat.le_of_ble_eq_true rfl)
  rw [lg_entry_eq]
  generalize (lg_sl ([.ref (ad 0), .int low, .int high]) ++ List.replicate (5 - (lg_sl ([.ref (ad 0), .int low, .int high])).length) Slot.unset).toArray = ls at hl ⊢
  have hl : lv_has ls 5 [(0, .ref (ad 0)), (1, .int low), (2, .int high)] := hl
  refine lv_iconst (v := 0) hx hb dX7_chooses_0 (by decide) ?_
  refine lv_istore_n (lv' := [(3, .int 0), (0, .ref (ad 0)), (1, .int low), (2, .int high)]) hx hb dX7_chooses_1 rfl hl (by decide) rfl (fun ls hl => ?_)
  refine lv_iload_n hx hb dX7_chooses_2 rfl (lv_at hl 2 rfl) ?_
  refine lv_if_lt (tgt := 24) hx hb dX7_chooses_3 (by decide) (fun c3 => ?_) (fun c3 => ?_)
  · refine lv_iconst (v := (-1)) hx hb dX7_chooses_24 (by decide) ?_
    exact x_iret (v := (-1)) (I, F) hx hb hr hlocks hK hH (⟨by unfold chI; first | (rw [if_pos c3]; done) | (rw [if_neg c3]; first | (rw [if_neg c10]; done) | (rw [if_pos c10]; first | (rw [if_pos c14]; done) | (rw [if_neg c14, if_neg c21]))), rfl, fun _ _ => rfl, fun z => absurd rfl z⟩) dX7_chooses_25
  · obtain ⟨lo, hlo, rfl⟩ := nI_of c3
    refine lv_iload_n hx hb dX7_chooses_6 rfl (lv_at hl 2 rfl) ?_
    refine lv_bipush (v := 30) hx hb dX7_chooses_7 (by decide) ?_
    refine lv_ishr hx hb dX7_chooses_9 ?_
    refine lv_if_ne (tgt := 24) hx hb dX7_chooses_10 (by decide) (fun c10 => ?_) (fun c10 => ?_)
    · refine lv_iconst (v := (-1)) hx hb dX7_chooses_24 (by decide) ?_
      exact x_iret (v := (-1)) (I, F) hx hb hr hlocks hK hH (⟨by unfold chI; first | (rw [if_pos c3]; done) | (rw [if_neg c3]; first | (rw [if_neg c10]; done) | (rw [if_pos c10]; first | (rw [if_pos c14]; done) | (rw [if_neg c14, if_neg c21]))), rfl, fun _ _ => rfl, fun z => absurd rfl z⟩) dX7_chooses_25
    · have hlo2 := sh30 hlo c10
      refine lv_iload_n hx hb dX7_chooses_13 rfl (lv_at hl 3 rfl) ?_
      refine lv_if_lt (tgt := 24) hx hb dX7_chooses_14 (by decide) (fun c14 => ?_) (fun c14 => ?_)
      · refine lv_iconst (v := (-1)) hx hb dX7_chooses_24 (by decide) ?_
        exact x_iret (v := (-1)) (I, F) hx hb hr hlocks hK hH (⟨by unfold chI; first | (rw [if_pos c3]; done) | (rw [if_neg c3]; first | (rw [if_neg c10]; done) | (rw [if_pos c10]; first | (rw [if_pos c14]; done) | (rw [if_neg c14, if_neg c21]))), rfl, fun _ _ => rfl, fun z => absurd rfl z⟩) dX7_chooses_25
      · obtain ⟨hi, hhi, rfl⟩ := nI_of c14
        refine lv_iload_n hx hb dX7_chooses_17 rfl (lv_at hl 3 rfl) ?_
        refine lv_bipush (v := 30) hx hb dX7_chooses_18 (by decide) ?_
        refine lv_ishr hx hb dX7_chooses_20 ?_
        refine lv_if_eq (tgt := 26) hx hb dX7_chooses_21 (by decide) (fun c21 => ?_) (fun c21 => ?_)
        · have hhi2 := sh30 hhi c21
          refine lv_iconst (v := 0) hx hb dX7_chooses_26 (by decide) ?_
          refine lv_istore (lv' := [(4, .int 0), (3, .int 0), (0, .ref (ad 0)), (1, .int (nI lo)), (2, .int (nI hi))]) hx hb dX7_chooses_27 hl (by decide) rfl (fun ls hl => ?_)
          suffices loop29 : ∀ (k29 : Nat) (t : Nat) (n : Nat) (F1 : Nat → Nat → Int32), (60 < t + k29) → (t ≤ 60) → (n ≤ 6) → (n = (slT lo hi t).length) → (∀ x ∈ slT lo hi t, x < nT) → (∀ k, k < n → F1 33 k = nI ((slT lo hi t).getD k 0)) → (∀ q, q ≠ 33 → F1 q = F q) → ∀ (H : Heap) (locs : List Loc), xH G A s.heap H locs (mw G ρ ad b I F1) → ∀ (ls : Array Slot), lv_has ls 5 [(0, .ref (ad 0)), (1, .int (nI lo)), (2, .int (nI hi)), (3, .int (nI n)), (4, .int (nI t))] → W p l e (headSpec wsX7_chooses _).room s m _ below meth c H locs 0 0 (MQ below _ _ s 0 0 A) (F0 m 29 ls []) from
            loop29 61 0 0 F (by omega) (by omega) (by omega) (rfl) (fun x hx => absurd (slT_in.mp hx).1 (by omega)) (fun k hk => absurd hk (by omega)) (fun _ _ => rfl) _ _ hH ls (lv_sub hl [2, 3, 4, 1, 0] rfl)
          intro k29
          induction k29 with
          | zero =>
            intro t n F1 hfuel ht hn6 hnl hall hch hFr H locs hH ls hl
            exact absurd hfuel (by omega)
          | succ k29 ih29 =>
            intro t n F1 hfuel ht hn6 hnl hall hch hFr H locs hH ls hl
            refine lv_iload hx hb dX7_chooses_29 (lv_at hl 4 rfl) ?_
            refine lv_bipush (v := 60) hx hb dX7_chooses_31 (by decide) ?_
            refine lv_icmp_ge (tgt := 99) hx hb dX7_chooses_33 (by decide) (fun c33 => ?_) (fun c33 => ?_)
            · have c33 : 60 ≤ t := (nI_leI (a := 60) (b := t) (by omega) (by omega)).mp c33
              refine lv_iload_n hx hb dX7_chooses_99 rfl (lv_at hl 3 rfl) ?_
              refine lv_if_ne (tgt := 107) hx hb dX7_chooses_100 (by decide) (fun c100 => ?_) (fun c100 => ?_)
              · have c100 : ¬ n = 0 := fun zz => c100 ((nI_eq (a := n) (b := 0) (by omega) (by omega)).mpr zz)
                refine lv_iload_n hx hb dX7_chooses_107 rfl (lv_at hl 3 rfl) ?_
                exact x_iret (v := nI n) (I, F1) hx hb hr hlocks hK hH (⟨by unfold chI; rw [if_neg c3, if_pos c10, if_neg c14, if_pos c21, ix_n (by omega), ix_n (by omega)]; rw [if_pos (okS_iff.mpr ⟨by rw [show 60 = t by omega, ← hnl]; omega, by rw [show 60 = t by omega, ← hnl]; omega, by rw [show 60 = t by omega]; exact hall⟩), show 60 = t by omega, ← hnl], rfl, hFr, fun _ => by rw [ix_n (by omega), ix_n (by omega), show 60 = t by omega, ← hnl]; exact hch⟩) dX7_chooses_108
              · have c100 : n = 0 := (nI_eq (a := n) (b := 0) (by omega) (by omega)).mp c100
                refine lv_iconst (v := (-1)) hx hb dX7_chooses_103 (by decide) ?_
                refine lv_goto (tgt := 108) hx hb dX7_chooses_104 (by decide) ?_
                exact x_iret (v := (-1)) (I, F1) hx hb hr hlocks hK hH (⟨by unfold chI; rw [if_neg c3, if_pos c10, if_neg c14, if_pos c21, ix_n (by omega), ix_n (by omega)]; rw [if_neg (fun z => by have z1 := (okS_iff.mp z).1; rw [show 60 = t by omega, ← hnl] at z1; omega)], rfl, hFr, fun z => absurd rfl z⟩) dX7_chooses_108
            · have c33 : ¬ 60 ≤ t := fun zz => c33 ((nI_leI (a := 60) (b := t) (by omega) (by omega)).mpr zz)
              refine lv_iload hx hb dX7_chooses_36 (lv_at hl 4 rfl) ?_
              refine lv_bipush (v := 30) hx hb dX7_chooses_38 (by decide) ?_
              refine lv_icmp_ge (tgt := 50) hx hb dX7_chooses_40 (by decide) (fun c40 => ?_) (fun c40 => ?_)
              · have c40 : 30 ≤ t := (nI_leI (a := 30) (b := t) (by omega) (by omega)).mp c40
                refine lv_iload_n hx hb dX7_chooses_50 rfl (lv_at hl 2 rfl) ?_
                refine lv_iload hx hb dX7_chooses_51 (lv_at hl 4 rfl) ?_
                refine lv_bipush (v := 30) hx hb dX7_chooses_53 (by decide) ?_
                refine N_isub hx hb t 30 rfl rfl (by omega) dX7_chooses_55 ?_
                refine lv_ishr hx hb dX7_chooses_56 ?_
                refine lv_iconst (v := 1) hx hb dX7_chooses_57 (by decide) ?_
                refine lv_iand hx hb dX7_chooses_58 ?_
                refine lv_if_ne (tgt := 65) hx hb dX7_chooses_59 (by decide) (fun c59 => ?_) (fun c59 => ?_)
                · have hs : sel lo hi t = true := by rw [tbit (by omega) (by omega)] at c59; unfold sel; rw [if_neg (by omega)]; have : ¬ hi / 2 ^ (t - 30) % 2 = 0 := fun z => c59 (by rw [z]; rfl); exact decide_eq_true (by omega)
                  refine lv_iload hx hb dX7_chooses_65 (lv_at hl 4 rfl) ?_
                  refine lv_aload_n hx hb dX7_chooses_67 rfl (lv_at hl 0 rfl) ?_
                  refine M_get hx hb hts hiX7 hown hK hρ hH 3 (by decide) hf92 (v := .int (nI nT)) (congrArg (fun z => some (Value.int z)) hn) dX7_chooses_68 ?_
                  refine lv_icmp_ge (tgt := 80) hx hb dX7_chooses_71 (by decide) (fun c71 => ?_) (fun c71 => ?_)
                  · have c71 : nT ≤ t := (nI_leI (a := nT) (b := t) (by omega) (by omega)).mp c71
                    refine lv_iconst (v := (-1)) hx hb dX7_chooses_80 (by decide) ?_
                    exact x_iret (v := (-1)) (I, F1) hx hb hr hlocks hK hH (⟨by unfold chI; rw [if_neg c3, if_pos c10, if_neg c14, if_pos c21, ix_n (by omega), ix_n (by omega)]; rw [if_neg (fun z => by first | exact absurd ((okS_iff.mp z).2.2 t (slT_in.mpr ⟨by omega, hs⟩)) (by omega) | (have z1 := (okS_iff.mp z).2.1; have z2 := slT_m lo hi (t := t + 1) (60 - (t + 1)); rw [show t + 1 + (60 - (t + 1)) = 60 by omega, slT_y hs, List.length_append, ← hnl] at z2; simp at z2; omega))], rfl, hFr, fun z => absurd rfl z⟩) dX7_chooses_81
                  · have c71 : ¬ nT ≤ t := fun zz => c71 ((nI_leI (a := nT) (b := t) (by omega) (by omega)).mpr zz)
                    refine lv_iload_n hx hb dX7_chooses_74 rfl (lv_at hl 3 rfl) ?_
                    refine lv_bipush (v := 6) hx hb dX7_chooses_75 (by decide) ?_
                    refine lv_icmp_ne (tgt := 82) hx hb dX7_chooses_77 (by decide) (fun c77 => ?_) (fun c77 => ?_)
                    · have c77 : ¬ n = 6 := fun zz => c77 ((nI_eq (a := n) (b := 6) (by omega) (by omega)).mpr zz)
                      refine lv_aload_n hx hb dX7_chooses_82 rfl (lv_at hl 0 rfl) ?_
                      refine M_get hx hb hts hiX7 hown hK hρ hH 33 (by decide) hf80 (v := .ref (ad 33)) rfl dX7_chooses_83 ?_
                      refine lv_iload_n hx hb dX7_chooses_86 rfl (lv_at hl 3 rfl) ?_
                      refine lv_iload hx hb dX7_chooses_87 (lv_at hl 4 rfl) ?_
                      refine M_iast hx hb hK hρ hH 33 6 (by decide) n rfl (by omega) dX7_chooses_89 (fun H locs hH => ?_)
                      obtain ⟨F89, eF89⟩ : ∃ z, z = setA F1 33 n (nI t) := ⟨_, rfl⟩
                      rw [← eF89] at hH
                      refine lv_iinc (v := nI (n + 1)) (lv' := [(3, .int (nI (n + 1))), (0, .ref (ad 0)), (1, .int (nI lo)), (2, .int (nI hi)), (4, .int (nI t))]) hx hb dX7_chooses_90 hl (k := 3) rfl (by exact nI_add _ 1) (by decide) rfl (fun ls hl => ?_)
                      refine lv_iinc (v := nI (t + 1)) (lv' := [(4, .int (nI (t + 1))), (3, .int (nI (n + 1))), (0, .ref (ad 0)), (1, .int (nI lo)), (2, .int (nI hi))]) hx hb dX7_chooses_93 hl (k := 4) rfl (by exact nI_add _ 1) (by decide) rfl (fun ls hl => ?_)
                      refine lv_goto (tgt := 29) hx hb dX7_chooses_96 (by decide) ?_
                      exact ih29 (t + 1) (n + 1) F89 (by omega) (by omega) (by omega) (by rw [slT_y hs, List.length_append, ← hnl]; rfl) (by rw [slT_y hs]; intro x hx; rcases List.mem_append.mp hx with q | q; exact hall x q; rw [List.mem_singleton.mp q]; omega) (by intro k hk; rw [slT_y hs, eF89, setA_e]; by_cases q : k = n; rw [if_pos ⟨rfl, q⟩, q, hnl, getD_last]; rw [if_neg (by omega), getD_app (by omega)]; exact hch k (by omega)) (by intro q hq; rw [eF89, setA_n _ _ _ hq]; exact hFr q hq) _ _ hH ls (lv_sub hl [2, 3, 4, 1, 0] rfl)
                    · have c77 : n = 6 := (nI_eq (a := n) (b := 6) (by omega) (by omega)).mp c77
                      refine lv_iconst (v := (-1)) hx hb dX7_chooses_80 (by decide) ?_
                      exact x_iret (v := (-1)) (I, F1) hx hb hr hlocks hK hH (⟨by unfold chI; rw [if_neg c3, if_pos c10, if_neg c14, if_pos c21, ix_n (by omega), ix_n (by omega)]; rw [if_neg (fun z => by first | exact absurd ((okS_iff.mp z).2.2 t (slT_in.mpr ⟨by omega, hs⟩)) (by omega) | (have z1 := (okS_iff.mp z).2.1; have z2 := slT_m lo hi (t := t + 1) (60 - (t + 1)); rw [show t + 1 + (60 - (t + 1)) = 60 by omega, slT_y hs, List.length_append, ← hnl] at z2; simp at z2; omega))], rfl, hFr, fun z => absurd rfl z⟩) dX7_chooses_81
                · have hs : ¬ sel lo hi t = true := by rw [tbit (by omega) (by omega)] at c59; have c59 : hi / 2 ^ (t - 30) % 2 = 0 := (nI_eq (b := 0) (by omega) (by decide)).mp c59; unfold sel; rw [if_neg (by omega)]; simp; omega
                  refine lv_goto (tgt := 93) hx hb dX7_chooses_62 (by decide) ?_
                  refine lv_iinc (v := nI (t + 1)) (lv' := [(4, .int (nI (t + 1))), (0, .ref (ad 0)), (1, .int (nI lo)), (2, .int (nI hi)), (3, .int (nI n))]) hx hb dX7_chooses_93 hl (k := 4) rfl (by exact nI_add _ 1) (by decide) rfl (fun ls hl => ?_)
                  refine lv_goto (tgt := 29) hx hb dX7_chooses_96 (by decide) ?_
                  exact ih29 (t + 1) n F1 (by omega) (by omega) (by omega) (by rw [slT_n hs]; exact hnl) (by rw [slT_n hs]; exact hall) (by rw [slT_n hs]; exact hch) (hFr) _ _ hH ls (lv_sub hl [1, 2, 3, 4, 0] rfl)
              · have c40 : ¬ 30 ≤ t := fun zz => c40 ((nI_leI (a := 30) (b := t) (by omega) (by omega)).mpr zz)
                refine lv_iload_n hx hb dX7_chooses_43 rfl (lv_at hl 1 rfl) ?_
                refine lv_iload hx hb dX7_chooses_44 (lv_at hl 4 rfl) ?_
                refine lv_ishr hx hb dX7_chooses_46 ?_
                refine lv_goto (tgt := 57) hx hb dX7_chooses_47 (by decide) ?_
                refine lv_iconst (v := 1) hx hb dX7_chooses_57 (by decide) ?_
                refine lv_iand hx hb dX7_chooses_58 ?_
                refine lv_if_ne (tgt := 65) hx hb dX7_chooses_59 (by decide) (fun c59 => ?_) (fun c59 => ?_)
                · have hs : sel lo hi t = true := by rw [tbit (by omega) (by omega)] at c59; unfold sel; rw [if_pos (by omega)]; have : ¬ lo / 2 ^ t % 2 = 0 := fun z => c59 (by rw [z]; rfl); exact decide_eq_true (by omega)
                  refine lv_iload hx hb dX7_chooses_65 (lv_at hl 4 rfl) ?_
                  refine lv_aload_n hx hb dX7_chooses_67 rfl (lv_at hl 0 rfl) ?_
                  refine M_get hx hb hts hiX7 hown hK hρ hH 3 (by decide) hf92 (v := .int (nI nT)) (congrArg (fun z => some (Value.int z)) hn) dX7_chooses_68 ?_
                  refine lv_icmp_ge (tgt := 80) hx hb dX7_chooses_71 (by decide) (fun c71 => ?_) (fun c71 => ?_)
                  · have c71 : nT ≤ t := (nI_leI (a := nT) (b := t) (by omega) (by omega)).mp c71
                    refine lv_iconst (v := (-1)) hx hb dX7_chooses_80 (by decide) ?_
                    exact x_iret (v := (-1)) (I, F1) hx hb hr hlocks hK hH (⟨by unfold chI; rw [if_neg c3, if_pos c10, if_neg c14, if_pos c21, ix_n (by omega), ix_n (by omega)]; rw [if_neg (fun z => by first | exact absurd ((okS_iff.mp z).2.2 t (slT_in.mpr ⟨by omega, hs⟩)) (by omega) | (have z1 := (okS_iff.mp z).2.1; have z2 := slT_m lo hi (t := t + 1) (60 - (t + 1)); rw [show t + 1 + (60 - (t + 1)) = 60 by omega, slT_y hs, List.length_append, ← hnl] at z2; simp at z2; omega))], rfl, hFr, fun z => absurd rfl z⟩) dX7_chooses_81
                  · have c71 : ¬ nT ≤ t := fun zz => c71 ((nI_leI (a := nT) (b := t) (by omega) (by omega)).mpr zz)
                    refine lv_iload_n hx hb dX7_chooses_74 rfl (lv_at hl 3 rfl) ?_
                    refine lv_bipush (v := 6) hx hb dX7_chooses_75 (by decide) ?_
                    refine lv_icmp_ne (tgt := 82) hx hb dX7_chooses_77 (by decide) (fun c77 => ?_) (fun c77 => ?_)
                    · have c77 : ¬ n = 6 := fun zz => c77 ((nI_eq (a := n) (b := 6) (by omega) (by omega)).mpr zz)
                      refine lv_aload_n hx hb dX7_chooses_82 rfl (lv_at hl 0 rfl) ?_
                      refine M_get hx hb hts hiX7 hown hK hρ hH 33 (by decide) hf80 (v := .ref (ad 33)) rfl dX7_chooses_83 ?_
                      refine lv_iload_n hx hb dX7_chooses_86 rfl (lv_at hl 3 rfl) ?_
                      refine lv_iload hx hb dX7_chooses_87 (lv_at hl 4 rfl) ?_
                      refine M_iast hx hb hK hρ hH 33 6 (by decide) n rfl (by omega) dX7_chooses_89 (fun H locs hH => ?_)
                      obtain ⟨F89, eF89⟩ : ∃ z, z = setA F1 33 n (nI t) := ⟨_, rfl⟩
                      rw [← eF89] at hH
                      refine lv_iinc (v := nI (n + 1)) (lv' := [(3, .int (nI (n + 1))), (0, .ref (ad 0)), (1, .int (nI lo)), (2, .int (nI hi)), (4, .int (nI t))]) hx hb dX7_chooses_90 hl (k := 3) rfl (by exact nI_add _ 1) (by decide) rfl (fun ls hl => ?_)
                      refine lv_iinc (v := nI (t + 1)) (lv' := [(4, .int (nI (t + 1))), (3, .int (nI (n + 1))), (0, .ref (ad 0)), (1, .int (nI lo)), (2, .int (nI hi))]) hx hb dX7_chooses_93 hl (k := 4) rfl (by exact nI_add _ 1) (by decide) rfl (fun ls hl => ?_)
                      refine lv_goto (tgt := 29) hx hb dX7_chooses_96 (by decide) ?_
                      exact ih29 (t + 1) (n + 1) F89 (by omega) (by omega) (by omega) (by rw [slT_y hs, List.length_append, ← hnl]; rfl) (by rw [slT_y hs]; intro x hx; rcases List.mem_append.mp hx with q | q; exact hall x q; rw [List.mem_singleton.mp q]; omega) (by intro k hk; rw [slT_y hs, eF89, setA_e]; by_cases q : k = n; rw [if_pos ⟨rfl, q⟩, q, hnl, getD_last]; rw [if_neg (by omega), getD_app (by omega)]; exact hch k (by omega)) (by intro q hq; rw [eF89, setA_n _ _ _ hq]; exact hFr q hq) _ _ hH ls (lv_sub hl [2, 3, 4, 1, 0] rfl)
                    · have c77 : n = 6 := (nI_eq (a := n) (b := 6) (by omega) (by omega)).mp c77
                      refine lv_iconst (v := (-1)) hx hb dX7_chooses_80 (by decide) ?_
                      exact x_iret (v := (-1)) (I, F1) hx hb hr hlocks hK hH (⟨by unfold chI; rw [if_neg c3, if_pos c10, if_neg c14, if_pos c21, ix_n (by omega), ix_n (by omega)]; rw [if_neg (fun z => by first | exact absurd ((okS_iff.mp z).2.2 t (slT_in.mpr ⟨by omega, hs⟩)) (by omega) | (have z1 := (okS_iff.mp z).2.1; have z2 := slT_m lo hi (t := t + 1) (60 - (t + 1)); rw [show t + 1 + (60 - (t + 1)) = 60 by omega, slT_y hs, List.length_append, ← hnl] at z2; simp at z2; omega))], rfl, hFr, fun z => absurd rfl z⟩) dX7_chooses_81
                · have hs : ¬ sel lo hi t = true := by rw [tbit (by omega) (by omega)] at c59; have c59 : lo / 2 ^ t % 2 = 0 := (nI_eq (b := 0) (by omega) (by decide)).mp c59; unfold sel; rw [if_pos (by omega)]; simp; omega
                  refine lv_goto (tgt := 93) hx hb dX7_chooses_62 (by decide) ?_
                  refine lv_iinc (v := nI (t + 1)) (lv' := [(4, .int (nI (t + 1))), (0, .ref (ad 0)), (1, .int (nI lo)), (2, .int (nI hi)), (3, .int (nI n))]) hx hb dX7_chooses_93 hl (k := 4) rfl (by exact nI_add _ 1) (by decide) rfl (fun ls hl => ?_)
                  refine lv_goto (tgt := 29) hx hb dX7_chooses_96 (by decide) ?_
                  exact ih29 (t + 1) n F1 (by omega) (by omega) (by omega) (by rw [slT_n hs]; exact hnl) (by rw [slT_n hs]; exact hall) (by rw [slT_n hs]; exact hch) (hFr) _ _ hH ls (lv_sub hl [1, 2, 3, 4, 0] rfl)
        · refine lv_iconst (v := (-1)) hx hb dX7_chooses_24 (by decide) ?_
          exact x_iret (v := (-1)) (I, F) hx hb hr hlocks hK hH (⟨by unfold chI; first | (rw [if_pos c3]; done) | (rw [if_neg c3]; first | (rw [if_neg c10]; done) | (rw [if_pos c10]; first | (rw [if_pos c14]; done) | (rw [if_neg c14, if_neg c21]))), rfl, fun _ _ => rfl, fun z => absurd rfl z⟩) dX7_chooses_25
