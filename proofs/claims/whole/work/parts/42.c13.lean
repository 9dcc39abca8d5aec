
/-- the empty row of all lists is none of the world's cells -/
theorem x_no12 {G : XG} {A : Nat → Prop} {H0 H : Heap} {locs : List Loc} {w : XW} {s : State} (hH : xH G A H0 H locs w) (hT : xT G A s) : w (G.2 12) = none := by
  obtain ⟨-, -, ws, hP, hD, hm⟩ := hH
  obtain ⟨cell, h1, h2, h3, h4, h5, h6, h7⟩ := hT.1.2.2.2.2.2
  cases hw : w (G.2 12) with
  | none => rfl
  | some e =>
    obtain ⟨k, hk⟩ := (hm _ e).mpr hw
    exact absurd (hD.2 k _ hk) h7

set_option maxHeartbeats 4000000 in
set_option maxRecDepth 100000 in
theorem c_X4_openFace (l : Launch) (G : XG) (A : Nat → Prop) (w : XW) (a fl : Nat) (wd ed : Nat) (nr wh bo bu yc mc : Int32) (n cap : Nat) (fn : Nat → Option Nat) (hc_a : w a = some (.inr (5, [.int nr, .ref wd, .int wh, .int bo, .ref fl, .int bu, .int yc]))) (hc_fl : w fl = some (.inr (0, [.int mc, .ref ed, .int (nI n)]))) (d : Int32) (hL : lstD G w ed n cap fn) (hn : n < 200) (hnc : n ≤ cap) (hc2 : cap ≤ 300) (hcz : 1 ≤ cap) (hfz : ∀ j, n ≤ j → fn j = none) (hel : ∀ i y : Nat, fn i = some y → ∃ vs, w y = some (.inr (2, vs))) : Met l yX4_openFace wsX4_openFace ({ frames := 7, cells := 3, slots := 310, locals := 191 }) (va_Pc [.ref a, .int d] (xP G A (w))) (va_Qq (fun (r : Option Nat) (u : XW) => ∃ (fq gq q cp : Nat) (f : Nat → Option Nat), r = some fq ∧ w fq = none ∧ w gq = none ∧ fq ≠ gq ∧ (w q = none ∨ (q = ed ∧ ∃ cap, w ed = some (.inl (G.2 4, cap, .inr (.inr (.inr (.inr fn))))))) ∧ q ≠ fq ∧ q ≠ gq ∧ u fl = some (.inr (0, [.int (mc + 1), .ref q, .int (nI (n + 1))])) ∧ u q = some (.inl (G.2 4, cp, .inr (.inr (.inr (.inr f))))) ∧ n + 1 ≤ cp ∧ cp ≤ 300 ∧ f n = some fq ∧ (∀ j, j < n → f j = fn j) ∧ (∀ j, n < j → f j = none) ∧ u fq = some (.inr (2, [.int 0, .int 0, .int (d / 365), .int 0, .int 0, .ref gq])) ∧ u gq = some (.inl (G.2 0, 4, .inl (fun _ => 0))) ∧ ∀ y, y ≠ fl → y ≠ q → y ≠ fq → y ≠ gq → u y = w y) (fun u t => xB G A (u) t) A) 3 310 A := by
  refine Met.ofW (cc := cX4_openFace) (maxL := 3) (ret := (some (.object "ResinWoods$Face"))) (by decide) rfl ?_
  intro p e s m args below meth c s₁ B hml hv
  obtain ⟨rfl, hK, hH, hTt⟩ := hv
  have hx := B.exec
  have hb := B.bytes
  have hr := B.returns
  have hts := atoms_spec (ws := wsX4_openFace) B.pre
  have hown : s.vm.findClass RX4 = some m.cls := findClass_of_methodNamed B.named
  have hlocks := B.notSynchronized
  have hiX1 : ∀ w ∈ wsX10, w ∈ wsX4_openFace := by decide +kernel
  have hiX4 : ∀ w ∈ wsX40, w ∈ wsX4_openFace := by decide +kernel
  have hf12 := hts (.fieldLink RX4 12 "ResinWoods$Tree" "faces" "Ljava/util/List;") (by decide +kernel)
  have hf56 := hts (.fieldLink RX4 56 "ResinWoods$Face" "openedIn" "I") (by decide +kernel)
  have hl := lv_entry ([.ref a, .int d]) (n := 3) (Nat.le_of_ble_eq_true rfl)
  rw [lg_entry_eq]
  generalize (lg_sl ([.ref a, .int d]) ++ List.replicate (3 - (lg_sl ([.ref a, .int d])).length) Slot.unset).toArray = ls at hl ⊢
  have hl : lv_has ls 3 [(0, .ref a), (1, .int d)] := hl
  have ne_a_fl : a ≠ fl := fun e9 => by rw [e9, hc_fl] at hc_a; cases hc_a
  have ne_fl_a : fl ≠ a := fun e9 => by rw [e9, hc_a] at hc_fl; cases hc_fl
  have hd0_a := hc_a
  have hd0_fl := hc_fl
  refine x_new (C := RX1) (T := TX1) (N := 6) (ci := 2) (fs := [.int 0, .int 0, .int 0, .int 0, .int 0, .null]) hx hb hts hiX1 tyX1 tyX1_ok hown (hts (.classLink RX4 49 RX1) (by decide +kernel)) (hts (.instantiable RX1 6) (by decide +kernel)) (hts (.initialized RX1) (by decide +kernel)) hK hH rfl (by decide +kernel) (Nat.le_of_ble_eq_true rfl) (Nat.le_of_ble_eq_true rfl) dX4_openFace_0 (fun q0 H hq0 hH => ?_)
  have ne_a_q0 : a ≠ q0 := fun e9 => by rw [e9, hq0] at hc_a; cases hc_a
  have ne_q0_a : q0 ≠ a := fun e9 => ne_a_q0 e9.symm
  have ne_fl_q0 : fl ≠ q0 := fun e9 => by rw [e9, hq0] at hc_fl; cases hc_fl
  have ne_q0_fl : q0 ≠ fl := fun e9 => ne_fl_q0 e9.symm
  obtain ⟨w0, ew0⟩ : ∃ z, z = va_up w q0 (some (.inr (2, [.int 0, .int 0, .int 0, .int 0, .int 0, .null]))) := ⟨_, rfl⟩
  have hH : xH G A s.heap H _ (va_up w q0 (some (.inr (2, [.int 0, .int 0, .int 0, .int 0, .int 0, .null])))) := hH
  rw [← ew0] at hH
  have hc_q0 : w0 q0 = some (.inr (2, [.int 0, .int 0, .int 0, .int 0, .int 0, .null])) := by rw [ew0]; exact if_pos rfl
  have hc_a : w0 a = some (.inr (5, [.int nr, .ref wd, .int wh, .int bo, .ref fl, .int bu, .int yc])) := by rw [ew0]; exact (if_neg ne_a_q0).trans hc_a
  have hc_fl : w0 fl = some (.inr (0, [.int mc, .ref ed, .int (nI n)])) := by rw [ew0]; exact (if_neg ne_fl_q0).trans hc_fl
  have hn_q0 : w q0 = none := hq0
  have hfr : ∀ x, x ≠ a → x ≠ fl → x ≠ q0 → w0 x = w x := fun x z_a z_fl z_q0 => by rw [ew0]; exact if_neg z_q0
  refine lv_dup hx hb dX4_openFace_3 rfl ?_
  refine x_callv (va_runIN (As := []) (rest := [.ref q0]) ⟨hx, hb, hml, hown, hts⟩ (c_X1_init l G A _ q0 hc_q0) ⟨va_cnB (host := RX6) 0 hts ggX4_openFace_X1_init rfl rfl rfl hTt.2.1.2.2.2.2.2.2.2.2.1 (hts (.initialized RX1) (by decide +kernel)) (by decide +kernel) ⟨Nat.le_of_ble_eq_true rfl, Nat.le_of_ble_eq_true rfl⟩, rfl, hts (.instanceMethod yX1_init) (by decide +kernel)⟩ (x_preS hK hH hTt [.ref q0]) rfl rfl hl.1 rfl (lv_room (Nat.le_of_ble_eq_true rfl)) dX4_openFace_4 ⟨Nat.le_of_ble_eq_true rfl, Nat.le_of_ble_eq_true rfl⟩) hH (fun w4 H locs hp hH => ?_)
  have hd_a := hc_a
  have hd_fl := hc_fl
  have hd_q0 := hc_q0
  obtain ⟨ga4, hga4, hc_q0, hc_ga4, hfm4⟩ := hp
  have ne_a_ga4 : a ≠ ga4 := fun e9 => by rw [e9, hga4] at hd_a; cases hd_a
  have ne_ga4_a : ga4 ≠ a := fun e9 => ne_a_ga4 e9.symm
  have ne_fl_ga4 : fl ≠ ga4 := fun e9 => by rw [e9, hga4] at hd_fl; cases hd_fl
  have ne_ga4_fl : ga4 ≠ fl := fun e9 => ne_fl_ga4 e9.symm
  have ne_q0_ga4 : q0 ≠ ga4 := fun e9 => by rw [e9, hga4] at hd_q0; cases hd_q0
  have ne_ga4_q0 : ga4 ≠ q0 := fun e9 => ne_q0_ga4 e9.symm
  have hc_a : w4 a = some (.inr (5, [.int nr, .ref wd, .int wh, .int bo, .ref fl, .int bu, .int yc])) := (hfm4 a ne_a_q0 ne_a_ga4).trans hc_a
  have hc_fl : w4 fl = some (.inr (0, [.int mc, .ref ed, .int (nI n)])) := (hfm4 fl ne_fl_q0 ne_fl_ga4).trans hc_fl
  have hn_ga4 : w ga4 = none := (hfr ga4 ne_ga4_a ne_ga4_fl ne_ga4_q0).symm.trans hga4
  have hfr : ∀ x, x ≠ a → x ≠ fl → x ≠ q0 → x ≠ ga4 → w4 x = w x := fun x z_a z_fl z_q0 z_ga4 => (hfm4 x z_q0 z_ga4).trans (hfr x z_a z_fl z_q0)
  refine lv_astore_n (lv' := [(2, .ref q0), (0, .ref a), (1, .int d)]) hx hb dX4_openFace_7 rfl hl (by decide) rfl (fun ls hl => ?_)
  refine lv_aload_n hx hb dX4_openFace_8 rfl (lv_at hl 0 rfl) ?_
  refine lv_iload_n hx hb dX4_openFace_9 rfl (lv_at hl 2 rfl) ?_
  refine x_calli (va_runSN (As := [.int d]) (rest := [.ref q0]) ⟨hx, hb, hml, hown, hts⟩ (c_X6_yearOf l G A (w4) d) ⟨va_cnB (host := RX6) 1 hts ggX4_openFace_X6_yearOf rfl rfl rfl hTt.2.1.2.2.2.2.2.2.2.2.2 (hts (.initialized RX6) (by decide +kernel)) (by decide +kernel) ⟨Nat.le_of_ble_eq_true rfl, Nat.le_of_ble_eq_true rfl⟩, hts (.static yX6_yearOf) (by decide +kernel), trivial⟩ (x_preS hK hH hTt [.int d]) rfl rfl hl.1 rfl (lv_room (Nat.le_of_ble_eq_true rfl)) dX4_openFace_10 ⟨Nat.le_of_ble_eq_true rfl, Nat.le_of_ble_eq_true rfl⟩) hH (fun r10 u H locs hp hH => ?_)
  subst hp
  refine x_put (C := RX1) (T := TX1) (N := 6) (ty := .int) hx hb hts hiX1 tyX1 tyX1_ok nmX1 hown hK hH hc_q0 rfl 2 (by decide) hf56 (fun _ h => h) rfl (by decide +kernel) rfl rfl (Nat.le_of_ble_eq_true rfl) dX4_openFace_13 (fun H locs hH => ?_)
  have hH : xH G A s.heap H locs (va_up w4 q0 (some (.inr (2, [.int 0, .int 0, .int (d / 365), .int 0, .int 0, .ref ga4])))) := hH
  obtain ⟨w13, ew13⟩ : ∃ z, z = va_up w4 q0 (some (.inr (2, [.int 0, .int 0, .int (d / 365), .int 0, .int 0, .ref ga4]))) := ⟨_, rfl⟩
  rw [← ew13] at hH
  have hc_a : w13 a = some (.inr (5, [.int nr, .ref wd, .int wh, .int bo, .ref fl, .int bu, .int yc])) := by rw [ew13, show va_up w4 q0 _ a = w4 a from if_neg ne_a_q0]; exact hc_a
  have hc_fl : w13 fl = some (.inr (0, [.int mc, .ref ed, .int (nI n)])) := by rw [ew13, show va_up w4 q0 _ fl = w4 fl from if_neg ne_fl_q0]; exact hc_fl
  have hc_q0 : w13 q0 = some (.inr (2, [.int 0, .int 0, .int (d / 365), .int 0, .int 0, .ref ga4])) := by rw [ew13]; exact if_pos rfl
  have hc_ga4 : w13 ga4 = some (.inl (G.2 0, 4, .inl (fun _ => 0))) := by rw [ew13, show va_up w4 q0 _ ga4 = w4 ga4 from if_neg ne_ga4_q0]; exact hc_ga4
  have hfr : ∀ x, x ≠ a → x ≠ fl → x ≠ q0 → x ≠ ga4 → w13 x = w x := fun x z_a z_fl z_q0 z_ga4 => by rw [ew13]; exact (if_neg z_q0).trans (hfr x z_a z_fl z_q0 z_ga4)
  refine lv_aload_n hx hb dX4_openFace_16 rfl (lv_at hl 1 rfl) ?_
  refine x_get (C := RX4) (T := TX4) (N := 7) hx hb hts hiX4 hown hK hH hc_a rfl 4 (by decide) hf12 (fun _ h => h) (v := .ref fl) rfl dX4_openFace_17 ?_
  refine lv_aload_n hx hb dX4_openFace_20 rfl (lv_at hl 0 rfl) ?_
  have hL : lstD G w13 ed n cap fn := hL.elim Or.inl (fun h9 => Or.inr (Eq.trans (hfr ed (fun e9 => by rw [e9, hd0_a] at h9; cases h9) (fun e9 => by rw [e9, hd0_fl] at h9; cases h9) (fun e9 => by rw [e9, hn_q0] at h9; cases h9) (fun e9 => by rw [e9, hn_ga4] at h9; cases h9)) h9))
  have hel : ∀ i y : Nat, fn i = some y → ∃ vs, w13 y = some (.inr (2, vs)) := fun i y hy => by
    obtain ⟨vs9, h9⟩ := hel i y hy
    exact ⟨vs9, Eq.trans (hfr y (fun e9 => by rw [e9, hd0_a] at h9; cases h9) (fun e9 => by rw [e9, hd0_fl] at h9; cases h9) (fun e9 => by rw [e9, hn_q0] at h9; cases h9) (fun e9 => by rw [e9, hn_ga4] at h9; cases h9)) h9⟩
  have hz12 := x_no12 hH hTt
  obtain ⟨wp, ewp⟩ : ∃ z, z = w13 := ⟨_, rfl⟩
  refine x_callFi (va_runF (As := [.ref q0]) (rest := []) (hK.1 0 _ rfl).2 ⟨hx, hb, hml, hown, hts⟩ (c_add l G A _ fl ed q0 2 _ mc n cap fn hc_fl hL hc_q0 hn hnc hc2 hcz hfz _ rfl (fun U hU => hU.2.2.2.2.2.2.2.2.1) hel (by decide)) (va_cwF 1 hts gX4_openFace_Jx4a65c_add_9ea2d_f59Jx4a65c rfl rfl rfl hTt.2.2.2.2.1 (by decide +kernel) ⟨Nat.le_of_ble_eq_true rfl, Nat.le_of_ble_eq_true rfl⟩) (x_preV hK hH hTt hc_fl rfl [.ref q0]) rfl rfl hl.1 rfl (lv_room (Nat.le_of_ble_eq_true rfl)) dX4_openFace_21 ⟨Nat.le_of_ble_eq_true rfl, Nat.le_of_ble_eq_true rfl⟩) hH (fun r21 u H locs hp hH => ?_)
  obtain ⟨rfl, q, cp, f, hq1, hc_fl1, hc_q1, hcp1, hcp2, hfn1, hfn2, hfn3, hfm21⟩ := hp
  have hH : xH G A s.heap H locs u := hH
  have nq : ∀ y z, w13 y = some (.inr z) → q ≠ y := fun y z hy e9 => hq1.elim (fun h3 => by rw [e9, hy] at h3; cases h3) (fun ⟨h3, cap3, h4⟩ => by rw [← h3, e9, hy] at h4; cases h4)
  have nqi : ∀ y cl k f9, w13 y = some (.inl (cl, k, .inl f9)) → q ≠ y := fun y cl k f9 hy e9 => hq1.elim (fun h3 => by rw [e9, hy] at h3; cases h3) (fun ⟨h3, cap3, h4⟩ => by rw [← h3, e9, hy] at h4; cases h4)
  refine lv_pop hx hb dX4_openFace_26 rfl ?_
  refine lv_aload_n hx hb dX4_openFace_27 rfl (lv_at hl 0 rfl) ?_
  refine W.widen (k := 3) (n := 310) (Nat.le_of_ble_eq_true rfl) (Nat.le_of_ble_eq_true rfl) ?_
  exact x_aret (r := some q0) u hx hb hr hlocks (Or.inl ⟨_, rfl⟩) hK hH (⟨q0, ga4, q, cp, f, rfl, hn_q0, hn_ga4, ne_q0_ga4, hq1.elim (fun h9 => Or.inl (Eq.trans (hfr q (fun e9 => by rw [e9, hc_a] at h9; cases h9) (fun e9 => by rw [e9, hc_fl] at h9; cases h9) (fun e9 => by rw [e9, hc_q0] at h9; cases h9) (fun e9 => by rw [e9, hc_ga4] at h9; cases h9)).symm h9)) (fun ⟨h3, cap3, h4⟩ => Or.inr ⟨h3, cap3, Eq.trans (hfr ed (fun e9 => by rw [e9, hc_a] at h4; simp at h4) (fun e9 => by rw [e9, hc_fl] at h4; simp at h4) (fun e9 => by rw [e9, hc_q0] at h4; simp at h4) (fun e9 => by rw [e9, hc_ga4] at h4; simp at h4)).symm h4⟩), nq _ _ hc_q0, nqi _ _ _ _ hc_ga4, hc_fl1, hc_q1, hcp1, hcp2, hfn1, hfn2, hfn3, (hfm21 q0 ne_q0_fl (nq _ _ hc_q0).symm).trans hc_q0, (hfm21 ga4 ne_ga4_fl (nqi _ _ _ _ hc_ga4).symm).trans hc_ga4, fun y z1 z2 z3 z4 => (hfm21 y z1 z2).trans (if z9 : y = a then by rw [z9, hc_a]; exact hd0_a.symm else hfr y z9 z1 z3 z4)⟩) dX4_openFace_28
