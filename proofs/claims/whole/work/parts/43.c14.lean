set_option maxHeartbeats 4000000 in
set_option maxRecDepth 100000 in
theorem c_X2_join (l : Launch) (G : XG) (A : Nat → Prop) (w : XW) (a p1 p2 p3 q t : Nat) (po pb p6 p7 p8 wd fl n : Nat) (hbf bo bs nr wh bn bu yc : Int32) (f1 f2 sp : Nat → Int32) (rr : Nat → Option Nat) (hc_a : w a = some (.inr (3, [.int (nI n), .ref p1, .ref p2, .ref p3, .ref po, .ref pb, .ref p6, .ref p7, .ref p8, .int hbf, .int bo, .int bs]))) (hc_p1 : w p1 = some (.inl (G.2 0, 6, .inl f1))) (hc_p2 : w p2 = some (.inl (G.2 0, 6, .inl f2))) (hc_p3 : w p3 = some (.inl (G.2 5, 6, .inr (.inr (.inr (.inr rr)))))) (hc_q : w q = some (.inl (G.2 0, 20, .inl sp))) (hc_t : w t = some (.inr (5, [.int nr, .ref wd, .int wh, .int bn, .ref fl, .int bu, .int yc]))) (hn : n < 6) (hrr : rr n = some q) (ne_p1_p2 : p1 ≠ p2) : Met l yX2_join wsX2_join ({ frames := 1, cells := 0, slots := 0, locals := 21 }) (va_Pc [.ref a, .ref t] (xP G A (w))) (va_Qi (fun (r : Int32) (u : XW) => r = nI n ∧ u a = some (.inr (3, [.int (nI (n + 1)), .ref p1, .ref p2, .ref p3, .ref po, .ref pb, .ref p6, .ref p7, .ref p8, .int hbf, .int bo, .int bs])) ∧ u p1 = some (.inl (G.2 0, 6, .inl (upd f1 n nr))) ∧ u p2 = some (.inl (G.2 0, 6, .inl (upd f2 n wh))) ∧ u q = some (.inl (G.2 0, 20, .inl (zrf sp 20))) ∧ ∀ y, y ≠ a → y ≠ p1 → y ≠ p2 → y ≠ q → u y = w y) (fun u t => xB G A (u) t) A) 0 0 A := by
  refine Met.ofW (cc := cX2_join) (maxL := 4) (ret := (some .int)) (by decide) rfl ?_
  intro p e s m args below meth c s₁ B hml hv
  obtain ⟨rfl, hK, hH, hTt⟩ := hv
  have hx := B.exec
  have hb := B.bytes
  have hr := B.returns
  have hts := atoms_spec (ws := wsX2_join) B.pre
  have hown : s.vm.findClass RX2 = some m.cls := findClass_of_methodNamed B.named
  have hlocks := B.notSynchronized
  have hiX2 : ∀ w ∈ wsX20, w ∈ wsX2_join := by decide +kernel
  have hiX4 : ∀ w ∈ wsX40, w ∈ wsX2_join := by decide +kernel
  have hf9 := hts (.fieldLink RX2 9 "ResinWoods$Planner" "size" "I") (by decide +kernel)
  have hf15 := hts (.fieldLink RX2 15 "ResinWoods$Planner" "numbers" "[I") (by decide +kernel)
  have hf19 := hts (.fieldLink RX2 19 "ResinWoods$Planner" "places" "[I") (by decide +kernel)
  have hf24 := hts (.fieldLink RX2 24 "ResinWoods$Planner" "spills" "[[I") (by decide +kernel)
  have hf67 := hts (.fieldLink RX2 67 "ResinWoods$Tree" "number" "I") (by decide +kernel)
  have hf72 := hts (.fieldLink RX2 72 "ResinWoods$Tree" "where" "I") (by decide +kernel)
  have hl := lv_entry ([.ref a, .ref t]) (n := 4) (Nat.le_of_ble_eq_true rfl)
  rw [lg_entry_eq]
  generalize (lg_sl ([.ref a, .ref t]) ++ List.replicate (4 - (lg_sl ([.ref a, .ref t])).length) Slot.unset).toArray = ls at hl ⊢
  have hl : lv_has ls 4 [(0, .ref a), (1, .ref t)] := hl
  have ne_a_p1 : a ≠ p1 := fun e9 => by rw [e9, hc_p1] at hc_a; cases hc_a
  have ne_a_p2 : a ≠ p2 := fun e9 => by rw [e9, hc_p2] at hc_a; cases hc_a
  have ne_a_p3 : a ≠ p3 := fun e9 => by rw [e9, hc_p3] at hc_a; cases hc_a
  have ne_a_q : a ≠ q := fun e9 => by rw [e9, hc_q] at hc_a; cases hc_a
  have ne_a_t : a ≠ t := fun e9 => by rw [e9, hc_t] at hc_a; cases hc_a
  have ne_p1_a : p1 ≠ a := fun e9 => by rw [e9, hc_a] at hc_p1; cases hc_p1
  have ne_p1_p3 : p1 ≠ p3 := fun e9 => by rw [e9, hc_p3] at hc_p1; simp at hc_p1
  have ne_p1_q : p1 ≠ q := fun e9 => by rw [e9, hc_q] at hc_p1; simp at hc_p1
  have ne_p1_t : p1 ≠ t := fun e9 => by rw [e9, hc_t] at hc_p1; cases hc_p1
  have ne_p2_a : p2 ≠ a := fun e9 => by rw [e9, hc_a] at hc_p2; cases hc_p2
  have ne_p2_p1 : p2 ≠ p1 := fun e9 => ne_p1_p2 e9.symm
  have ne_p2_p3 : p2 ≠ p3 := fun e9 => by rw [e9, hc_p3] at hc_p2; simp at hc_p2
  have ne_p2_q : p2 ≠ q := fun e9 => by rw [e9, hc_q] at hc_p2; simp at hc_p2
  have ne_p2_t : p2 ≠ t := fun e9 => by rw [e9, hc_t] at hc_p2; cases hc_p2
  have ne_p3_a : p3 ≠ a := fun e9 => by rw [e9, hc_a] at hc_p3; cases hc_p3
  have ne_p3_p1 : p3 ≠ p1 := fun e9 => by rw [e9, hc_p1] at hc_p3; simp at hc_p3
  have ne_p3_p2 : p3 ≠ p2 := fun e9 => by rw [e9, hc_p2] at hc_p3; simp at hc_p3
  have ne_p3_q : p3 ≠ q := fun e9 => by rw [e9, hc_q] at hc_p3; simp at hc_p3
  have ne_p3_t : p3 ≠ t := fun e9 => by rw [e9, hc_t] at hc_p3; cases hc_p3
  have ne_q_a : q ≠ a := fun e9 => by rw [e9, hc_a] at hc_q; cases hc_q
  have ne_q_p1 : q ≠ p1 := fun e9 => by rw [e9, hc_p1] at hc_q; simp at hc_q
  have ne_q_p2 : q ≠ p2 := fun e9 => by rw [e9, hc_p2] at hc_q; simp at hc_q
  have ne_q_p3 : q ≠ p3 := fun e9 => by rw [e9, hc_p3] at hc_q; simp at hc_q
  have ne_q_t : q ≠ t := fun e9 => by rw [e9, hc_t] at hc_q; cases hc_q
  have ne_t_a : t ≠ a := fun e9 => by rw [e9, hc_a] at hc_t; cases hc_t
  have ne_t_p1 : t ≠ p1 := fun e9 => by rw [e9, hc_p1] at hc_t; cases hc_t
  have ne_t_p2 : t ≠ p2 := fun e9 => by rw [e9, hc_p2] at hc_t; cases hc_t
  have ne_t_p3 : t ≠ p3 := fun e9 => by rw [e9, hc_p3] at hc_t; cases hc_t
  have ne_t_q : t ≠ q := fun e9 => by rw [e9, hc_q] at hc_t; cases hc_t
  have hd0_p3 := hc_p3
  have hd0_t := hc_t
  refine lv_aload_n hx hb dX2_join_0 rfl (lv_at hl 0 rfl) ?_
  refine x_get (C := RX2) (T := TX2) (N := 12) hx hb hts hiX2 hown hK hH hc_a rfl 0 (by decide) hf9 (fun _ h => h) (v := .int (nI n)) rfl dX2_join_1 ?_
  refine lv_iconst (v := 5) hx hb dX2_join_4 (by decide) ?_
  refine va_mmin hx hb (by rw [hml]; exact hl.1.symm) hown (hts (.methodLink RX2 61 Lib.Math.min.name) (by decide +kernel)) (hts (.static Lib.Math.min.name) (by decide +kernel)) (hts (.initialized "java/lang/Math") (by decide +kernel)) (hts (.code Lib.Math.min.name Lib.Math.min.code 2 (some .int)) (by decide +kernel)) (Nat.le_of_ble_eq_true rfl) (Nat.le_of_ble_eq_true rfl) (Nat.le_of_ble_eq_true rfl) (Nat.le_of_ble_eq_true rfl) dX2_join_5 ?_
  refine lv_topi (fun v8 ev8 => ?_)
  have hv8 : v8 = nI n := ev8.trans ((mn_nat (b := 5) (by omega) (by omega)).trans (congrArg nI (if_neg (by omega))))
  subst hv8
  refine lv_istore_n (lv' := [(2, .int (nI n)), (0, .ref a), (1, .ref t)]) hx hb dX2_join_8 rfl hl (by decide) rfl (fun ls hl => ?_)
  refine lv_aload_n hx hb dX2_join_9 rfl (lv_at hl 1 rfl) ?_
  refine x_get (C := RX2) (T := TX2) (N := 12) hx hb hts hiX2 hown hK hH hc_a rfl 1 (by decide) hf15 (fun _ h => h) (v := .ref p1) rfl dX2_join_10 ?_
  refine lv_iload_n hx hb dX2_join_13 rfl (lv_at hl 0 rfl) ?_
  refine lv_aload_n hx hb dX2_join_14 rfl (lv_at hl 2 rfl) ?_
  refine x_get (C := RX4) (T := TX4) (N := 7) hx hb hts hiX4 hown hK hH hc_t rfl 0 (by decide) hf67 (fun _ h => h) (v := .int nr) rfl dX2_join_15 ?_
  refine Y_iast hx hb hK hH hc_p1 n rfl (by omega) (by decide) dX2_join_18 (fun H locs hH => ?_)
  have hH : xH G A s.heap H locs (va_up w p1 (some (.inl (G.2 0, 6, .inl (upd f1 n nr))))) := hH
  obtain ⟨w18, ew18⟩ : ∃ z, z = va_up w p1 (some (.inl (G.2 0, 6, .inl (upd f1 n nr)))) := ⟨_, rfl⟩
  rw [← ew18] at hH
  have hc_a : w18 a = some (.inr (3, [.int (nI n), .ref p1, .ref p2, .ref p3, .ref po, .ref pb, .ref p6, .ref p7, .ref p8, .int hbf, .int bo, .int bs])) := by rw [ew18, show va_up w p1 _ a = w a from if_neg ne_a_p1]; exact hc_a
  have hc_p1 : w18 p1 = some (.inl (G.2 0, 6, .inl (upd f1 n nr))) := by rw [ew18]; exact if_pos rfl
  have hc_p2 : w18 p2 = some (.inl (G.2 0, 6, .inl f2)) := by rw [ew18, show va_up w p1 _ p2 = w p2 from if_neg ne_p2_p1]; exact hc_p2
  have hc_p3 : w18 p3 = some (.inl (G.2 5, 6, .inr (.inr (.inr (.inr rr))))) := by rw [ew18, show va_up w p1 _ p3 = w p3 from if_neg ne_p3_p1]; exact hc_p3
  have hc_q : w18 q = some (.inl (G.2 0, 20, .inl sp)) := by rw [ew18, show va_up w p1 _ q = w q from if_neg ne_q_p1]; exact hc_q
  have hc_t : w18 t = some (.inr (5, [.int nr, .ref wd, .int wh, .int bn, .ref fl, .int bu, .int yc])) := by rw [ew18, show va_up w p1 _ t = w t from if_neg ne_t_p1]; exact hc_t
  have hfr : ∀ x, x ≠ a → x ≠ p1 → x ≠ p2 → x ≠ p3 → x ≠ q → x ≠ t → w18 x = w x := fun x z_a z_p1 z_p2 z_p3 z_q z_t => by rw [ew18]; exact if_neg z_p1
  refine lv_aload_n hx hb dX2_join_19 rfl (lv_at hl 1 rfl) ?_
  refine x_get (C := RX2) (T := TX2) (N := 12) hx hb hts hiX2 hown hK hH hc_a rfl 2 (by decide) hf19 (fun _ h => h) (v := .ref p2) rfl dX2_join_20 ?_
  refine lv_iload_n hx hb dX2_join_23 rfl (lv_at hl 0 rfl) ?_
  refine lv_aload_n hx hb dX2_join_24 rfl (lv_at hl 2 rfl) ?_
  refine x_get (C := RX4) (T := TX4) (N := 7) hx hb hts hiX4 hown hK hH hc_t rfl 2 (by decide) hf72 (fun _ h => h) (v := .int wh) rfl dX2_join_25 ?_
  refine Y_iast hx hb hK hH hc_p2 n rfl (by omega) (by decide) dX2_join_28 (fun H locs hH => ?_)
  have hH : xH G A s.heap H locs (va_up w18 p2 (some (.inl (G.2 0, 6, .inl (upd f2 n wh))))) := hH
  obtain ⟨w28, ew28⟩ : ∃ z, z = va_up w18 p2 (some (.inl (G.2 0, 6, .inl (upd f2 n wh)))) := ⟨_, rfl⟩
  rw [← ew28] at hH
  have hc_a : w28 a = some (.inr (3, [.int (nI n), .ref p1, .ref p2, .ref p3, .ref po, .ref pb, .ref p6, .ref p7, .ref p8, .int hbf, .int bo, .int bs])) := by rw [ew28, show va_up w18 p2 _ a = w18 a from if_neg ne_a_p2]; exact hc_a
  have hc_p1 : w28 p1 = some (.inl (G.2 0, 6, .inl (upd f1 n nr))) := by rw [ew28, show va_up w18 p2 _ p1 = w18 p1 from if_neg ne_p1_p2]; exact hc_p1
  have hc_p2 : w28 p2 = some (.inl (G.2 0, 6, .inl (upd f2 n wh))) := by rw [ew28]; exact if_pos rfl
  have hc_p3 : w28 p3 = some (.inl (G.2 5, 6, .inr (.inr (.inr (.inr rr))))) := by rw [ew28, show va_up w18 p2 _ p3 = w18 p3 from if_neg ne_p3_p2]; exact hc_p3
  have hc_q : w28 q = some (.inl (G.2 0, 20, .inl sp)) := by rw [ew28, show va_up w18 p2 _ q = w18 q from if_neg ne_q_p2]; exact hc_q
  have hc_t : w28 t = some (.inr (5, [.int nr, .ref wd, .int wh, .int bn, .ref fl, .int bu, .int yc])) := by rw [ew28, show va_up w18 p2 _ t = w18 t from if_neg ne_t_p2]; exact hc_t
  have hfr : ∀ x, x ≠ a → x ≠ p1 → x ≠ p2 → x ≠ p3 → x ≠ q → x ≠ t → w28 x = w x := fun x z_a z_p1 z_p2 z_p3 z_q z_t => by rw [ew28]; exact (if_neg z_p2).trans (hfr x z_a z_p1 z_p2 z_p3 z_q z_t)
  refine lv_iconst (v := 0) hx hb dX2_join_29 (by decide) ?_
  refine lv_istore_n (lv' := [(3, .int 0), (2, .int (nI n)), (0, .ref a), (1, .ref t)]) hx hb dX2_join_30 rfl hl (by decide) rfl (fun ls hl => ?_)
  suffices loop31 : ∀ (k31 : Nat) (i : Nat) (wl : XW) (s1 : Nat → Int32), (20 < i + k31) → (i ≤ 20) → (s1 = zrf sp i) → (wl a = some (.inr (3, [.int (nI n), .ref p1, .ref p2, .ref p3, .ref po, .ref pb, .ref p6, .ref p7, .ref p8, .int hbf, .int bo, .int bs]))) → (wl p1 = some (.inl (G.2 0, 6, .inl (upd f1 n nr)))) → (wl p2 = some (.inl (G.2 0, 6, .inl (upd f2 n wh)))) → (wl p3 = some (.inl (G.2 5, 6, .inr (.inr (.inr (.inr rr)))))) → (wl q = some (.inl (G.2 0, 20, .inl s1))) → (wl t = some (.inr (5, [.int nr, .ref wd, .int wh, .int bn, .ref fl, .int bu, .int yc]))) → (∀ y, y ≠ a → y ≠ p1 → y ≠ p2 → y ≠ p3 → y ≠ q → y ≠ t → wl y = w y) → ∀ (H : Heap) (locs : List Loc), xH G A s.heap H locs (wl) → ∀ (ls : Array Slot), lv_has ls 4 [(0, .ref a), (1, .ref t), (2, .int (nI n)), (3, .int (nI i))] → W p l e (headSpec wsX2_join _).room s m _ below meth c H locs 0 0 (MQ below _ _ s 0 0 A) (F0 m 31 ls []) from
    loop31 21 0 w28 sp (by omega) (by omega) (by funext j; simp [zrf]) (hc_a) (hc_p1) (hc_p2) (hc_p3) (hc_q) (hc_t) (hfr) _ _ hH ls (lv_sub hl [2, 3, 1, 0] rfl)
  intro k31
  induction k31 with
  | zero =>
    intro i wl s1 hfuel hi hs1 hc_a hc_p1 hc_p2 hc_p3 hc_q hc_t hfr H locs hH ls hl
    exact absurd hfuel (by omega)
  | succ k31 ih31 =>
    intro i wl s1 hfuel hi hs1 hc_a hc_p1 hc_p2 hc_p3 hc_q hc_t hfr H locs hH ls hl
    refine lv_iload_n hx hb dX2_join_31 rfl (lv_at hl 3 rfl) ?_
    refine lv_bipush (v := 19) hx hb dX2_join_32 (by decide) ?_
    refine lv_icmp_gt (tgt := 52) hx hb dX2_join_34 (by decide) (fun c34 => ?_) (fun c34 => ?_)
    · have c34 : 19 < i := (nI_ltI (a := 19) (b := i) (by omega) (by omega)).mp c34
      refine lv_aload_n hx hb dX2_join_52 rfl (lv_at hl 0 rfl) ?_
      refine lv_iload_n hx hb dX2_join_53 rfl (lv_at hl 2 rfl) ?_
      refine lv_iconst (v := 1) hx hb dX2_join_54 (by decide) ?_
      refine N_iadd hx hb n 1 rfl rfl dX2_join_55 ?_
      refine x_put (C := RX2) (T := TX2) (N := 12) (ty := .int) hx hb hts hiX2 tyX2 tyX2_ok nmX2 hown hK hH hc_a rfl 0 (by decide) hf9 (fun _ h => h) rfl (by decide +kernel) rfl rfl (Nat.le_of_ble_eq_true rfl) dX2_join_56 (fun H locs hH => ?_)
      have hH : xH G A s.heap H locs (va_up wl a (some (.inr (3, [.int (nI (n + 1)), .ref p1, .ref p2, .ref p3, .ref po, .ref pb, .ref p6, .ref p7, .ref p8, .int hbf, .int bo, .int bs])))) := hH
      obtain ⟨w56, ew56⟩ : ∃ z, z = va_up wl a (some (.inr (3, [.int (nI (n + 1)), .ref p1, .ref p2, .ref p3, .ref po, .ref pb, .ref p6, .ref p7, .ref p8, .int hbf, .int bo, .int bs]))) := ⟨_, rfl⟩
      rw [← ew56] at hH
      have hc_a : w56 a = some (.inr (3, [.int (nI (n + 1)), .ref p1, .ref p2, .ref p3, .ref po, .ref pb, .ref p6, .ref p7, .ref p8, .int hbf, .int bo, .int bs])) := by rw [ew56]; exact if_pos rfl
      have hc_p1 : w56 p1 = some (.inl (G.2 0, 6, .inl (upd f1 n nr))) := by rw [ew56, show va_up wl a _ p1 = wl p1 from if_neg ne_p1_a]; exact hc_p1
      have hc_p2 : w56 p2 = some (.inl (G.2 0, 6, .inl (upd f2 n wh))) := by rw [ew56, show va_up wl a _ p2 = wl p2 from if_neg ne_p2_a]; exact hc_p2
      have hc_p3 : w56 p3 = some (.inl (G.2 5, 6, .inr (.inr (.inr (.inr rr))))) := by rw [ew56, show va_up wl a _ p3 = wl p3 from if_neg ne_p3_a]; exact hc_p3
      have hc_q : w56 q = some (.inl (G.2 0, 20, .inl s1)) := by rw [ew56, show va_up wl a _ q = wl q from if_neg ne_q_a]; exact hc_q
      have hc_t : w56 t = some (.inr (5, [.int nr, .ref wd, .int wh, .int bn, .ref fl, .int bu, .int yc])) := by rw [ew56, show va_up wl a _ t = wl t from if_neg ne_t_a]; exact hc_t
      have hfr : ∀ x, x ≠ a → x ≠ p1 → x ≠ p2 → x ≠ p3 → x ≠ q → x ≠ t → w56 x = w x := fun x z_a z_p1 z_p2 z_p3 z_q z_t => by rw [ew56]; exact (if_neg z_a).trans (hfr x z_a z_p1 z_p2 z_p3 z_q z_t)
      refine lv_iload_n hx hb dX2_join_59 rfl (lv_at hl 2 rfl) ?_
      exact x_iret (v := nI n) w56 hx hb hr hlocks hK hH (⟨rfl, hc_a, hc_p1, hc_p2, by rw [hc_q, hs1, show i = 20 by omega], fun y z_a z_p1 z_p2 z_q => if z8 : y = p3 then by rw [z8, hc_p3]; exact hd0_p3.symm else if z9 : y = t then by rw [z9, hc_t]; exact hd0_t.symm else hfr y z_a z_p1 z_p2 z8 z_q z9⟩) dX2_join_60
    · have c34 : ¬ 19 < i := fun zz => c34 ((nI_ltI (a := 19) (b := i) (by omega) (by omega)).mpr zz)
      refine lv_aload_n hx hb dX2_join_37 rfl (lv_at hl 0 rfl) ?_
      refine x_get (C := RX2) (T := TX2) (N := 12) hx hb hts hiX2 hown hK hH hc_a rfl 3 (by decide) hf24 (fun _ h => h) (v := .ref p3) rfl dX2_join_38 ?_
      refine lv_iload_n hx hb dX2_join_41 rfl (lv_at hl 2 rfl) ?_
      refine x_aldA hx hb hK hH hc_p3 n rfl (by omega) (by decide) (hrr) dX2_join_42 ?_
      refine lv_iload_n hx hb dX2_join_43 rfl (lv_at hl 3 rfl) ?_
      refine lv_iconst (v := 0) hx hb dX2_join_44 (by decide) ?_
      refine Y_iast hx hb hK hH hc_q i rfl (by omega) (by decide) dX2_join_45 (fun H locs hH => ?_)
      have hH : xH G A s.heap H locs (va_up wl q (some (.inl (G.2 0, 20, .inl (upd s1 i 0))))) := hH
      obtain ⟨w45, ew45⟩ : ∃ z, z = va_up wl q (some (.inl (G.2 0, 20, .inl (upd s1 i 0)))) := ⟨_, rfl⟩
      rw [← ew45] at hH
      have hc_a : w45 a = some (.inr (3, [.int (nI n), .ref p1, .ref p2, .ref p3, .ref po, .ref pb, .ref p6, .ref p7, .ref p8, .int hbf, .int bo, .int bs])) := by rw [ew45, show va_up wl q _ a = wl a from if_neg ne_a_q]; exact hc_a
      have hc_p1 : w45 p1 = some (.inl (G.2 0, 6, .inl (upd f1 n nr))) := by rw [ew45, show va_up wl q _ p1 = wl p1 from if_neg ne_p1_q]; exact hc_p1
      have hc_p2 : w45 p2 = some (.inl (G.2 0, 6, .inl (upd f2 n wh))) := by rw [ew45, show va_up wl q _ p2 = wl p2 from if_neg ne_p2_q]; exact hc_p2
      have hc_p3 : w45 p3 = some (.inl (G.2 5, 6, .inr (.inr (.inr (.inr rr))))) := by rw [ew45, show va_up wl q _ p3 = wl p3 from if_neg ne_p3_q]; exact hc_p3
      have hc_q : w45 q = some (.inl (G.2 0, 20, .inl (upd s1 i 0))) := by rw [ew45]; exact if_pos rfl
      have hc_t : w45 t = some (.inr (5, [.int nr, .ref wd, .int wh, .int bn, .ref fl, .int bu, .int yc])) := by rw [ew45, show va_up wl q _ t = wl t from if_neg ne_t_q]; exact hc_t
      have hfr : ∀ x, x ≠ a → x ≠ p1 → x ≠ p2 → x ≠ p3 → x ≠ q → x ≠ t → w45 x = w x := fun x z_a z_p1 z_p2 z_p3 z_q z_t => by rw [ew45]; exact (if_neg z_q).trans (hfr x z_a z_p1 z_p2 z_p3 z_q z_t)
      refine lv_iinc (v := nI (i + 1)) (lv' := [(3, .int (nI (i + 1))), (0, .ref a), (1, .ref t), (2, .int (nI n))]) hx hb dX2_join_46 hl (k := 3) rfl (by exact nI_add _ 1) (by decide) rfl (fun ls hl => ?_)
      refine lv_goto (tgt := 31) hx hb dX2_join_49 (by decide) ?_
      exact ih31 (i + 1) w45 (upd s1 i 0) (by omega) (by omega) (by rw [hs1]; exact zrf_s sp i) (hc_a) (hc_p1) (hc_p2) (hc_p3) (hc_q) (hc_t) (hfr) _ _ hH ls (lv_sub hl [1, 2, 3, 0] rfl)

set_option maxHeartbeats 4000000 in
set_option maxRecDepth 100000 in
theorem c_X4_takeFire (l : Launch) (G : XG) (A : Nat → Prop) (w : XW) (a fl : Nat) (wd ed : Nat) (nr wh bo bu yc mc : Int32) (n cap : Nat) (fn : Nat → Option Nat) (hc_a : w a = some (.inr (5, [.int nr, .ref wd, .int wh, .int bo, .ref fl, .int bu, .int yc]))) (hc_fl : w fl = some (.inr (0, [.int mc, .ref ed, .int (nI n)]))) (fa og : Nat → Nat) (o0 o1 o2 hs o4 : Nat → Int32) (fg : Nat → Nat → Int32) (hEd : 0 < n → w ed = some (.inl (G.2 4, cap, .inr (.inr (.inr (.inr fn)))))) (hfn : ∀ j, j < n → fn j = some (fa j)) (hcap : cap < 2 ^ 31) (hnc : n ≤ cap) (hfam : ∀ j, j < n → w (fa j) = some (.inr (2, [.int (o0 j), .int (o1 j), .int (o2 j), .int (hs j), .int (o4 j), .ref (og j)]))) (hgrs : ∀ j, j < n → w (og j) = some (.inl (G.2 0, 4, .inl (fg j)))) (hia : ∀ j k, j < n → k < n → fa j = fa k → j = k) (hig : ∀ j k, j < n → k < n → og j = og k → j = k) : Met l yX4_takeFire wsX4_takeFire ({ frames := 4, cells := 0, slots := 0, locals := 86 }) (va_Pc [.ref a] (xP G A (w))) (va_Qi (fun (r : Int32) (u : XW) => r = l_sum hs n ∧ u a = some (.inr (5, [.int nr, .ref wd, .int wh, .int bo, .ref fl, .int 1, .int yc])) ∧ (∀ j, j < n → u (fa j) = some (.inr (2, [.int (o0 j), .int (o1 j), .int (o2 j), .int 0, .int (o4 j), .ref (og j)]))) ∧ (∀ j, j < n → u (og j) = some (.inl (G.2 0, 4, .inl (zrf (fg j) 4)))) ∧ ∀ y, y ≠ a → (∀ j, j < n → y ≠ fa j ∧ y ≠ og j) → u y = w y) (fun u t => xB G A (u) t) A) 0 0 A := by
  refine Met.ofW (cc := cX4_takeFire) (maxL := 3) (ret := (some .int)) (by decide) rfl ?_
  intro p e s m args below meth c s₁ B hml hv
  obtain ⟨rfl, hK, hH, hTt⟩ := hv
  have hx := B.exec
  have hb := B.bytes
  have hr := B.returns
  have hts := atoms_spec (ws := wsX4_takeFire) B.pre
  have hown : s.vm.findClass RX4 = some m.cls := findClass_of_methodNamed B.named
  have hlocks := B.notSynchronized
  have hiX4 : ∀ w ∈ wsX40, w ∈ wsX4_takeFire := by decide +kernel
  have hf12 := hts (.fieldLink RX4 12 "ResinWoods$Tree" "faces" "Ljava/util/List;") (by decide +kernel)
  have hf18 := hts (.fieldLink RX4 18 "ResinWoods$Tree" "isBurnt" "Z") (by decide +kernel)
  have hl := lv_entry ([.ref a]) (n := 3) (Nat.le_of_ble_eq_true rfl)
  rw [lg_entry_eq]
  generalize (lg_sl ([.ref a]) ++ List.replicate (3 - (lg_sl ([.ref a])).length) Slot.unset).toArray = ls at hl ⊢
  have hl : lv_has ls 3 [(0, .ref a)] := hl
  have ne_a_fl : a ≠ fl := fun e9 => by rw [e9, hc_fl] at hc_a; cases hc_a
  have ne_fl_a : fl ≠ a := fun e9 => by rw [e9, hc_a] at hc_fl; cases hc_fl
  have hd0_a := hc_a
  have hd0_fl := hc_fl
  have hn9 : n < 2 ^ 31 := by omega
  refine lv_aload_n hx hb dX4_takeFire_0 rfl (lv_at hl 0 rfl) ?_
  refine x_calli (va_runV (As := []) (rest := []) ⟨hx, hb, hml, hown, hts⟩ (c_X4_inCups l G A _ a fl wd ed nr wh bo bu yc mc n cap fn hc_a hc_fl fa og o0 o1 o2 hs o4 hEd hfn hcap hnc hfam) (cwV 0 hts gX4_takeFire_X4_inCups rfl rfl rfl (by decide +kernel) ⟨Nat.le_of_ble_eq_true rfl, Nat.le_of_ble_eq_true rfl⟩) (x_preV hK hH hTt (hc_a) rfl []) rfl rfl hl.1 rfl (lv_room (Nat.le_of_ble_eq_true rfl)) dX4_takeFire_1 ⟨Nat.le_of_ble_eq_true rfl, Nat.le_of_ble_eq_true rfl⟩) hH (fun r1 u H locs hp hH => ?_)
  obtain ⟨rfl, hu9⟩ := hp
  rw [hu9] at hH
  refine lv_istore_n (lv' := [(1, .int (l_sum hs n)), (0, .ref a)]) hx hb dX4_takeFire_4 rfl hl (by decide) rfl (fun ls hl => ?_)
  refine lv_aload_n hx hb dX4_takeFire_5 rfl (lv_at hl 1 rfl) ?_
  refine lv_iconst (v := 1) hx hb dX4_takeFire_6 (by decide) ?_
  refine x_put (C := RX4) (T := TX4) (N := 7) (ty := .boolean) hx hb hts hiX4 tyX4 tyX4_ok nmX4 hown hK hH hc_a rfl 5 (by decide) hf18 (fun _ h => h) rfl (by decide +kernel) rfl rfl (Nat.le_of_ble_eq_true rfl) dX4_takeFire_7 (fun H locs hH => ?_)
  have hH : xH G A s.heap H locs (va_up w a (some (.inr (5, [.int nr, .ref wd, .int wh, .int bo, .ref fl, .int 1, .int yc])))) := hH
  obtain ⟨w7, ew7⟩ : ∃ z, z = va_up w a (some (.inr (5, [.int nr, .ref wd, .int wh, .int bo, .ref fl, .int 1, .int yc]))) := ⟨_, rfl⟩
  rw [← ew7] at hH
  have hc_a : w7 a = some (.inr (5, [.int nr, .ref wd, .int wh, .int bo, .ref fl, .int 1, .int yc])) := by rw [ew7]; exact if_pos rfl
  have hc_fl : w7 fl = some (.inr (0, [.int mc, .ref ed, .int (nI n)])) := by rw [ew7, show va_up w a _ fl = w fl from if_neg ne_fl_a]; exact hc_fl
  have hfr : ∀ x, x ≠ a → x ≠ fl → w7 x = w x := fun x z_a z_fl => by rw [ew7]; exact if_neg z_a
  refine lv_iconst (v := 0) hx hb dX4_takeFire_10 (by decide) ?_
  refine lv_istore_n (lv' := [(2, .int 0), (1, .int (l_sum hs n)), (0, .ref a)]) hx hb dX4_takeFire_11 rfl hl (by decide) rfl (fun ls hl => ?_)
  suffices loop12 : ∀ (k12 : Nat) (i : Nat) (wl : XW), (n < i + k12) → (i ≤ n) → (wl a = some (.inr (5, [.int nr, .ref wd, .int wh, .int bo, .ref fl, .int 1, .int yc]))) → (wl fl = some (.inr (0, [.int mc, .ref ed, .int (nI n)]))) → (0 < n → wl ed = some (.inl (G.2 4, cap, .inr (.inr (.inr (.inr fn)))))) → (∀ j, j < n → j < i → wl (fa j) = some (.inr (2, [.int (o0 j), .int (o1 j), .int (o2 j), .int 0, .int (o4 j), .ref (og j)]))) → (∀ j, j < n → ¬ j < i → wl (fa j) = some (.inr (2, [.int (o0 j), .int (o1 j), .int (o2 j), .int (hs j), .int (o4 j), .ref (og j)]))) → (∀ j, j < n → j < i → wl (og j) = some (.inl (G.2 0, 4, .inl (zrf (fg j) 4)))) → (∀ j, j < n → ¬ j < i → wl (og j) = some (.inl (G.2 0, 4, .inl (fg j)))) → (∀ y, y ≠ a → (∀ j, j < n → y ≠ fa j ∧ y ≠ og j) → wl y = w y) → ∀ (H : Heap) (locs : List Loc), xH G A s.heap H locs (wl) → ∀ (ls : Array Slot), lv_has ls 3 [(0, .ref a), (1, .int (l_sum hs n)), (2, .int (nI i))] → W p l e (headSpec wsX4_takeFire _).room s m _ below meth c H locs 0 0 (MQ below _ _ s 0 0 A) (F0 m 12 ls []) from
    loop12 (n + 1) 0 w7 (by omega) (by omega) (hc_a) (hc_fl) (fun h9 => (hfr ed (fun e9 => by rw [e9, hd0_a] at hEd; exact absurd (hEd h9) (by simp)) (fun e9 => by rw [e9, hd0_fl] at hEd; exact absurd (hEd h9) (by simp))).trans (hEd h9)) (fun j _ h9 => absurd h9 (by omega)) (fun j hj _ => (hfr (fa j) (fun e9 => by have h9 := hfam j hj; rw [e9, hd0_a] at h9; cases h9) (fun e9 => by have h9 := hfam j hj; rw [e9, hd0_fl] at h9; cases h9)).trans (hfam j hj)) (fun j _ h9 => absurd h9 (by omega)) (fun j hj _ => (hfr (og j) (fun e9 => by have h9 := hgrs j hj; rw [e9, hd0_a] at h9; cases h9) (fun e9 => by have h9 := hgrs j hj; rw [e9, hd0_fl] at h9; cases h9)).trans (hgrs j hj)) (fun y z1 _ => if z9 : y = fl then by rw [z9, hc_fl]; exact hd0_fl.symm else hfr y z1 z9) _ _ hH ls (lv_sub hl [2, 1, 0] rfl)
  intro k12
  induction k12 with
  | zero =>
    intro i wl hfuel hi hc_a hc_fl hEdl hf1 hf2 hg1 hg2 hfr H locs hH ls hl
    exact absurd hfuel (by omega)
  | succ k12 ih12 =>
    intro i wl hfuel hi hc_a hc_fl hEdl hf1 hf2 hg1 hg2 hfr H locs hH ls hl
    refine lv_iload_n hx hb dX4_takeFire_12 rfl (lv_at hl 2 rfl) ?_
    refine lv_aload_n hx hb dX4_takeFire_13 rfl (lv_at hl 0 rfl) ?_
    refine x_get (C := RX4) (T := TX4) (N := 7) hx hb hts hiX4 hown hK hH hc_a rfl 4 (by decide) hf12 (fun _ h => h) (v := .ref fl) rfl dX4_takeFire_14 ?_
    refine x_callFi (va_runF (As := []) (rest := [.int (nI i)]) (hK.1 0 _ rfl).2 ⟨hx, hb, hml, hown, hts⟩ (c_Jx4a65c_size_8abf5 l G A _ fl ed mc (nI n) hc_fl) (va_cwF 0 hts gX4_takeFire_Jx4a65c_size_8abf5_f39Jx4a65c rfl rfl rfl hTt.2.2.1 (by decide +kernel) ⟨Nat.le_of_ble_eq_true rfl, Nat.le_of_ble_eq_true rfl⟩) (x_preV hK hH hTt hc_fl rfl []) rfl rfl hl.1 rfl (lv_room (Nat.le_of_ble_eq_true rfl)) dX4_takeFire_17 ⟨Nat.le_of_ble_eq_true rfl, Nat.le_of_ble_eq_true rfl⟩) hH (fun r17 u H locs hp hH => ?_)
    obtain ⟨rfl, hu9⟩ := hp
    rw [hu9] at hH
    refine lv_icmp_ge (tgt := 47) hx hb dX4_takeFire_22 (by decide) (fun c22 => ?_) (fun c22 => ?_)
    · have c22 : n ≤ i := (nI_leI (a := n) (b := i) (by omega) (by omega)).mp c22
      refine lv_iload_n hx hb dX4_takeFire_47 rfl (lv_at hl 1 rfl) ?_
      exact x_iret (v := l_sum hs n) wl hx hb hr hlocks hK hH (⟨rfl, hc_a, fun j hj => hf1 j hj (by omega), fun j hj => hg1 j hj (by omega), hfr⟩) dX4_takeFire_48
    · have c22 : ¬ n ≤ i := fun zz => c22 ((nI_leI (a := n) (b := i) (by omega) (by omega)).mpr zz)
      refine lv_aload_n hx hb dX4_takeFire_25 rfl (lv_at hl 0 rfl) ?_
      refine x_get (C := RX4) (T := TX4) (N := 7) hx hb hts hiX4 hown hK hH hc_a rfl 4 (by decide) hf12 (fun _ h => h) (v := .ref fl) rfl dX4_takeFire_26 ?_
      refine lv_iload_n hx hb dX4_takeFire_29 rfl (lv_at hl 2 rfl) ?_
      have hc_ed := hEdl (by omega)
      refine x_callFq (va_runF (As := [.int (nI i)]) (rest := []) (hK.1 0 _ rfl).2 ⟨hx, hb, hml, hown, hts⟩ (c_Jx4a65c_get_915e3 l G A _ fl ed mc n cap fn hc_fl hc_ed i (fa i) (by omega) (by omega) hcap (by omega) (hfn i (by omega))) (va_cwF 1 hts gX4_takeFire_Jx4a65c_get_915e3_f45Jx4a65c rfl rfl rfl hTt.2.2.2.1 (by decide +kernel) ⟨Nat.le_of_ble_eq_true rfl, Nat.le_of_ble_eq_true rfl⟩) (x_preV hK hH hTt hc_fl rfl [.int (nI i)]) rfl rfl hl.1 rfl (lv_room (Nat.le_of_ble_eq_true rfl)) dX4_takeFire_30 ⟨Nat.le_of_ble_eq_true rfl, Nat.le_of_ble_eq_true rfl⟩) hH (fun r30 u H locs hp hH => ?_)
      obtain ⟨rfl, hu9⟩ := hp
      rw [hu9] at hH
      obtain ⟨fq, hfq⟩ : ∃ z, z = fa i := ⟨_, rfl⟩
      obtain ⟨gq, hgq⟩ : ∃ z, z = og i := ⟨_, rfl⟩
      have hc_fq := hf2 i (by omega) (by omega)
      have hc_gq := hg2 i (by omega) (by omega)
      rw [← hfq] at hc_fq ⊢
      rw [← hgq] at hc_fq hc_gq
      refine x_cast (ci := 2) hx hb hK hH hc_fq rfl hown (hts (.classLink RX4 49 RX1) (by decide +kernel)) dX4_takeFire_35 ?_
      refine x_callv (va_runV (As := []) (rest := []) ⟨hx, hb, hml, hown, hts⟩ (c_X1_clearCup l G A _ fq gq _ _ _ _ _ _ hc_fq hc_gq) (cwV 0 hts gX4_takeFire_X1_clearCup rfl rfl rfl (by decide +kernel) ⟨Nat.le_of_ble_eq_true rfl, Nat.le_of_ble_eq_true rfl⟩) (x_preV hK hH hTt (hc_fq) rfl []) rfl rfl hl.1 rfl (lv_room (Nat.le_of_ble_eq_true rfl)) dX4_takeFire_38 ⟨Nat.le_of_ble_eq_true rfl, Nat.le_of_ble_eq_true rfl⟩) hH (fun w38 H locs hp hH => ?_)
      obtain ⟨hc_fq1, hc_gq1, hfm⟩ := hp
      refine lv_iinc (v := nI (i + 1)) (lv' := [(2, .int (nI (i + 1))), (0, .ref a), (1, .int (l_sum hs n))]) hx hb dX4_takeFire_41 hl (k := 2) rfl (by exact nI_add _ 1) (by decide) rfl (fun ls hl => ?_)
      refine lv_goto (tgt := 12) hx hb dX4_takeFire_44 (by decide) ?_
      exact ih12 (i + 1) w38 (by omega) (by omega) ((hfm a (fun e9 => by rw [e9, hc_fq] at hc_a; cases hc_a) (fun e9 => by rw [e9, hc_gq] at hc_a; cases hc_a)).trans hc_a) ((hfm fl (fun e9 => by rw [e9, hc_fq] at hc_fl; cases hc_fl) (fun e9 => by rw [e9, hc_gq] at hc_fl; cases hc_fl)).trans hc_fl) (fun _ => (hfm ed (fun e9 => by rw [e9, hc_fq] at hc_ed; cases hc_ed) (fun e9 => by rw [e9, hc_gq] at hc_ed; simp at hc_ed)).trans hc_ed) (fun j hj h9 => if z9 : j = i then by rw [z9, ← hfq, ← hgq]; exact hc_fq1 else (hfm (fa j) (fun e9 => z9 (hia j i hj (by omega) (e9.trans hfq))) (fun e9 => by have h8 := hf1 j hj (by omega); rw [e9, hc_gq] at h8; cases h8)).trans (hf1 j hj (by omega))) (fun j hj h9 => (hfm (fa j) (fun e9 => absurd (hia j i hj (by omega) (e9.trans hfq)) (by omega)) (fun e9 => by have h8 := hf2 j hj (by omega); rw [e9, hc_gq] at h8; cases h8)).trans (hf2 j hj (by omega))) (fun j hj h9 => if z9 : j = i then by rw [z9, ← hgq]; exact hc_gq1 else (hfm (og j) (fun e9 => by have h8 := hg1 j hj (by omega); rw [e9, hc_fq] at h8; cases h8) (fun e9 => z9 (hig j i hj (by omega) (e9.trans hgq)))).trans (hg1 j hj (by omega))) (fun j hj h9 => (hfm (og j) (fun e9 => by have h8 := hg2 j hj (by omega); rw [e9, hc_fq] at h8; cases h8) (fun e9 => absurd (hig j i hj (by omega) (e9.trans hgq)) (by omega))).trans (hg2 j hj (by omega))) (fun y z1 z2 => (hfm y (fun e9 => (z2 i (by omega)).1 (e9.trans hfq)) (fun e9 => (z2 i (by omega)).2 (e9.trans hgq))).trans (hfr y z1 z2)) _ _ hH ls (lv_sub hl [1, 2, 0] rfl)
