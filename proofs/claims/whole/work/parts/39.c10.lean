
/-- a list has one more: its row is the old one or a new one -/
def ladd (G : XG) (w u : XW) (a ed n v : Nat) (mc : Int32) (fn : Nat → Option Nat) : Prop := ∃ (q cp : Nat) (f : Nat → Option Nat), (w q = none ∨ (q = ed ∧ ∃ cap, w ed = some (.inl (G.2 4, cap, .inr (.inr (.inr (.inr fn))))))) ∧ u a = some (.inr (0, [.int mc, .ref q, .int (nI (n + 1))])) ∧ u q = some (.inl (G.2 4, cp, .inr (.inr (.inr (.inr f))))) ∧ n + 1 ≤ cp ∧ cp ≤ 300 ∧ f n = some v ∧ (∀ j, j < n → f j = fn j) ∧ (∀ j, n < j → f j = none) ∧ ∀ y, y ≠ a → y ≠ q → u y = w y
theorem cpy_lo {f : Nat → Option Nat} {c j : Nat} (h : j < c) : va_cpy f (fun _ => none) 0 0 c j = f j := by
  simp [va_cpy, h]
theorem cpy_hi {f : Nat → Option Nat} {c j : Nat} (h : c ≤ j) : va_cpy f (fun _ => none) 0 0 c j = none := by
  simp [va_cpy, show ¬ j < c by omega]
theorem up_at {X : Type} (f : Nat → X) (k : Nat) (v : X) : va_up f k v k = v := if_pos rfl
theorem up_ne {X : Type} (f : Nat → X) {k j : Nat} (v : X) (h : j ≠ k) : va_up f k v j = f j := if_neg h

set_option maxHeartbeats 4000000 in
set_option maxRecDepth 100000 in
theorem c0_Jx4a65c_add_72be8 (l : Launch) (G : XG) (A : Nat → Prop) (w : XW) (a v : Nat) (ci : Nat) (vs : List Value) (mc : Int32) (fn : Nat → Option Nat) (hc_a : w a = some (.inr (0, [.int mc, .ref (G.2 12), .int 0]))) (hc_v : w v = some (.inr (ci, vs))) (rC : vw_C) (hrC : vwCl[ci]? = some rC) (hca : ∀ U, xLs G U → va_Nw (.castable rC.1 "java/lang/Object") U) (ne_v_a : v ≠ a) : Met l yJx4a65c_add_72be8 wsJx4a65c_add_72be8 ({ frames := 3, cells := 1, slots := 300, locals := 64 }) (va_Pc [.ref a, .ref v, .ref (G.2 12), .int 0] (xP G A (w))) (va_Qv (fun (u : XW) => ladd G w u a (G.2 12) 0 v mc fn) (fun u t => xB G A (u) t) A) 1 300 A := by
  refine Met.ofW (cc := cJx4a65c_add_72be8) (maxL := 4) (ret := none) (by decide) rfl ?_
  intro p e s m args below meth c s₁ B hml hv
  obtain ⟨rfl, hK, hH, hTt⟩ := hv
  have hx := B.exec
  have hb := B.bytes
  have hr := B.returns
  have hts := atoms_spec (ws := wsJx4a65c_add_72be8) B.pre
  have hown : s.vm.findClass RJx4a65c = some m.cls := findClass_of_methodNamed B.named
  have hlocks := B.notSynchronized
  have hiJx4a65c : ∀ w ∈ wsJx4a65c0, w ∈ wsJx4a65c_add_72be8 := by decide +kernel
  have hf48 := hts (.fieldLink RJx4a65c 48 "java/util/ArrayList" "size" "I") (by decide +kernel)
  have hl := lv_entry ([.ref a, .ref v, .ref (G.2 12), .int 0]) (n := 4) (Nat.le_of_ble_eq_true rfl)
  rw [lg_entry_eq]
  generalize (lg_sl ([.ref a, .ref v, .ref (G.2 12), .int 0]) ++ List.replicate (4 - (lg_sl ([.ref a, .ref v, .ref (G.2 12), .int 0])).length) Slot.unset).toArray = ls at hl ⊢
  have hl : lv_has ls 4 [(0, .ref a), (1, .ref v), (2, .ref (G.2 12)), (3, .int 0)] := hl
  have ne_a_v : a ≠ v := fun e9 => ne_v_a e9.symm
  have hc_v0 := hc_v
  refine lv_iload_n hx hb dJx4a65c_add_72be8_0 rfl (lv_at hl 3 rfl) ?_
  refine lv_aload_n hx hb dJx4a65c_add_72be8_1 rfl (lv_at hl 2 rfl) ?_
  refine va_tlen (v := 0) hx hb hTt.1.2.2.2.2.2 hH.2.1 rfl dJx4a65c_add_72be8_2 ?_
  refine lv_icmp_ne (tgt := 11) hx hb dJx4a65c_add_72be8_3 (by decide) (fun c3 => ?_) (fun c3 => ?_)
  · exact absurd rfl c3
  · refine lv_aload_n hx hb dJx4a65c_add_72be8_6 rfl (lv_at hl 0 rfl) ?_
    refine x_callq (va_runV (As := []) (rest := []) ⟨hx, hb, hml, hown, hts⟩ (c0_Jx4a65c_grow_d5877 l G A _ a mc hc_a) (cwV 0 hts gJx4a65c_add_72be8_Jx4a65c_grow_d5877 rfl rfl rfl (by decide +kernel) ⟨Nat.le_of_ble_eq_true rfl, Nat.le_of_ble_eq_true rfl⟩) (x_preV hK hH hTt (hc_a) rfl []) rfl rfl hl.1 rfl (lv_room (Nat.le_of_ble_eq_true rfl)) dJx4a65c_add_72be8_7 ⟨Nat.le_of_ble_eq_true rfl, Nat.le_of_ble_eq_true rfl⟩) hH (fun r7 w7 H locs hp hH => ?_)
    have hd_a := hc_a
    have hd_v := hc_v
    obtain ⟨q, rfl, hq, hc_a, hc_q, hfm⟩ := hp
    have ne_a_q : a ≠ q := fun e9 => by rw [e9, hq] at hd_a; cases hd_a
    have ne_q_a : q ≠ a := fun e9 => ne_a_q e9.symm
    have ne_v_q : v ≠ q := fun e9 => by rw [e9, hq] at hd_v; cases hd_v
    have ne_q_v : q ≠ v := fun e9 => ne_v_q e9.symm
    have hc_v : w7 v = some (.inr (ci, vs)) := (hfm v ne_v_a ne_v_q).trans hc_v
    have hn_q : w q = none := hq
    have hfr : ∀ x, x ≠ a → x ≠ v → x ≠ q → w7 x = w x := fun x z_a z_v z_q => (hfm x z_a z_q)
    refine lv_astore_n (lv' := [(2, .ref q), (0, .ref a), (1, .ref v), (3, .int 0)]) hx hb dJx4a65c_add_72be8_10 rfl hl (by decide) rfl (fun ls hl => ?_)
    refine lv_aload_n hx hb dJx4a65c_add_72be8_11 rfl (lv_at hl 0 rfl) ?_
    refine lv_iload_n hx hb dJx4a65c_add_72be8_12 rfl (lv_at hl 3 rfl) ?_
    refine lv_aload_n hx hb dJx4a65c_add_72be8_13 rfl (lv_at hl 2 rfl) ?_
    refine x_astO (z := 4) (ci := ci) (r := rC) hx hb rfl hK hH (hca s hTt.2.2) hc_q hc_v hrC 0 rfl (by omega) (by omega) dJx4a65c_add_72be8_14 (fun H locs hH => ?_)
    have hH : xH G A s.heap H locs (va_up w7 q (some (.inl (G.2 4, 10, .inr (.inr (.inr (.inr (va_up (fun _ => none) 0 (some v))))))))) := hH
    obtain ⟨w14, ew14⟩ : ∃ z, z = va_up w7 q (some (.inl (G.2 4, 10, .inr (.inr (.inr (.inr (va_up (fun _ => none) 0 (some v)))))))) := ⟨_, rfl⟩
    rw [← ew14] at hH
    have hc_a : w14 a = some (.inr (0, [.int mc, .ref q, .int 0])) := by rw [ew14, show va_up w7 q _ a = w7 a from if_neg ne_a_q]; exact hc_a
    have hc_v : w14 v = some (.inr (ci, vs)) := by rw [ew14, show va_up w7 q _ v = w7 v from if_neg ne_v_q]; exact hc_v
    have hc_q : w14 q = some (.inl (G.2 4, 10, .inr (.inr (.inr (.inr (va_up (fun _ => none) 0 (some v))))))) := by rw [ew14]; exact if_pos rfl
    have hfr : ∀ x, x ≠ a → x ≠ v → x ≠ q → w14 x = w x := fun x z_a z_v z_q => by rw [ew14]; exact (if_neg z_q).trans (hfr x z_a z_v z_q)
    refine lv_aload_n hx hb dJx4a65c_add_72be8_15 rfl (lv_at hl 1 rfl) ?_
    refine lv_iload_n hx hb dJx4a65c_add_72be8_16 rfl (lv_at hl 3 rfl) ?_
    refine lv_iconst (v := 1) hx hb dJx4a65c_add_72be8_17 (by decide) ?_
    refine N_iadd hx hb 0 1 rfl rfl dJx4a65c_add_72be8_18 ?_
    refine x_put (C := RJx4a65c) (T := TJx4a65c) (N := 3) (ty := .int) hx hb hts hiJx4a65c tyJx4a65c tyJx4a65c_ok nmJx4a65c hown hK hH hc_a rfl 2 (by decide) hf48 (fun _ h => h) rfl (by decide +kernel) rfl rfl (Nat.le_of_ble_eq_true rfl) dJx4a65c_add_72be8_19 (fun H locs hH => ?_)
    have hH : xH G A s.heap H locs (va_up w14 a (some (.inr (0, [.int mc, .ref q, .int (nI (0 + 1))])))) := hH
    obtain ⟨w19, ew19⟩ : ∃ z, z = va_up w14 a (some (.inr (0, [.int mc, .ref q, .int (nI (0 + 1))]))) := ⟨_, rfl⟩
    rw [← ew19] at hH
    have hc_a : w19 a = some (.inr (0, [.int mc, .ref q, .int (nI (0 + 1))])) := by rw [ew19]; exact if_pos rfl
    have hc_v : w19 v = some (.inr (ci, vs)) := by rw [ew19, show va_up w14 a _ v = w14 v from if_neg ne_v_a]; exact hc_v
    have hc_q : w19 q = some (.inl (G.2 4, 10, .inr (.inr (.inr (.inr (va_up (fun _ => none) 0 (some v))))))) := by rw [ew19, show va_up w14 a _ q = w14 q from if_neg ne_q_a]; exact hc_q
    have hfr : ∀ x, x ≠ a → x ≠ v → x ≠ q → w19 x = w x := fun x z_a z_v z_q => by rw [ew19]; exact (if_neg z_a).trans (hfr x z_a z_v z_q)
    refine W.widen (k := 1) (n := 300) (Nat.le_of_ble_eq_true rfl) (Nat.le_of_ble_eq_true rfl) ?_
    exact x_vret w19 hx hb hr hlocks hK hH (⟨q, 10, _, Or.inl hn_q, hc_a, hc_q, by omega, by omega, up_at _ _ _, fun j hj => absurd hj (by omega), fun j hj => up_ne _ _ (by omega), fun y z1 z2 => if z9 : y = v then by rw [z9, hc_v]; exact hc_v0.symm else hfr y z1 z9 z2⟩) dJx4a65c_add_72be8_22

set_option maxHeartbeats 4000000 in
set_option maxRecDepth 100000 in
theorem c1_Jx4a65c_add_72be8 (l : Launch) (G : XG) (A : Nat → Prop) (w : XW) (a ed v : Nat) (ci : Nat) (vs : List Value) (mc : Int32) (n cap : Nat) (fn : Nat → Option Nat) (hc_a : w a = some (.inr (0, [.int mc, .ref ed, .int (nI n)]))) (hc_ed : w ed = some (.inl (G.2 4, cap, .inr (.inr (.inr (.inr fn)))))) (hc_v : w v = some (.inr (ci, vs))) (mx : Nat) (hmx : mx = if 1 < cap / 2 then cap / 2 else 1) (hmx1 : 1 ≤ mx) (hmx2 : mx ≤ 100) (hnc : n = cap) (hc1 : 1 ≤ cap) (hc2 : cap < 200) (rC : vw_C) (hrC : vwCl[ci]? = some rC) (hca : ∀ U, xLs G U → va_Nw (.castable rC.1 "java/lang/Object") U) (hel : ∀ i y : Nat, fn i = some y → ∃ vs, w y = some (.inr (ci, vs))) (ne_v_a : v ≠ a) : Met l yJx4a65c_add_72be8 wsJx4a65c_add_72be8 ({ frames := 5, cells := 1, slots := 300, locals := 147 }) (va_Pc [.ref a, .ref v, .ref ed, .int (nI n)] (xP G A (w))) (va_Qv (fun (u : XW) => ladd G w u a ed n v mc fn) (fun u t => xB G A (u) t) A) 1 300 A := by
  refine Met.ofW (cc := cJx4a65c_add_72be8) (maxL := 4) (ret := none) (by decide) rfl ?_
  intro p e s m args below meth c s₁ B hml hv
  obtain ⟨rfl, hK, hH, hTt⟩ := hv
  have hx := B.exec
  have hb := B.bytes
  have hr := B.returns
  have hts := atoms_spec (ws := wsJx4a65c_add_72be8) B.pre
  have hown : s.vm.findClass RJx4a65c = some m.cls := findClass_of_methodNamed B.named
  have hlocks := B.notSynchronized
  have hiJx4a65c : ∀ w ∈ wsJx4a65c0, w ∈ wsJx4a65c_add_72be8 := by decide +kernel
  have hf48 := hts (.fieldLink RJx4a65c 48 "java/util/ArrayList" "size" "I") (by decide +kernel)
  have hl := lv_entry ([.ref a, .ref v, .ref ed, .int (nI n)]) (n := 4) (Nat.le_of_ble_eq_true rfl)
  rw [lg_entry_eq]
  generalize (lg_sl ([.ref a, .ref v, .ref ed, .int (nI n)]) ++ List.replicate (4 - (lg_sl ([.ref a, .ref v, .ref ed, .int (nI n)])).length) Slot.unset).toArray = ls at hl ⊢
  have hl : lv_has ls 4 [(0, .ref a), (1, .ref v), (2, .ref ed), (3, .int (nI n))] := hl
  have ne_a_ed : a ≠ ed := fun e9 => by rw [e9, hc_ed] at hc_a; cases hc_a
  have ne_a_v : a ≠ v := fun e9 => ne_v_a e9.symm
  have ne_ed_a : ed ≠ a := fun e9 => by rw [e9, hc_a] at hc_ed; cases hc_ed
  have ne_ed_v : ed ≠ v := fun e9 => by rw [e9, hc_v] at hc_ed; cases hc_ed
  have ne_v_ed : v ≠ ed := fun e9 => by rw [e9, hc_ed] at hc_v; cases hc_v
  have hc_v0 := hc_v
  have hc_ed0 := hc_ed
  refine lv_iload_n hx hb dJx4a65c_add_72be8_0 rfl (lv_at hl 3 rfl) ?_
  refine lv_aload_n hx hb dJx4a65c_add_72be8_1 rfl (lv_at hl 2 rfl) ?_
  refine x_alen hx hb hK hH 4 hc_ed (v := nI cap) rfl rfl dJx4a65c_add_72be8_2 ?_
  refine lv_icmp_ne (tgt := 11) hx hb dJx4a65c_add_72be8_3 (by decide) (fun c3 => ?_) (fun c3 => ?_)
  · have c3 : ¬ n = cap := fun zz => c3 ((nI_eq (a := n) (b := cap) (by omega) (by omega)).mpr zz)
    exact absurd hnc c3
  · have c3 : n = cap := (nI_eq (a := n) (b := cap) (by omega) (by omega)).mp c3
    refine lv_aload_n hx hb dJx4a65c_add_72be8_6 rfl (lv_at hl 0 rfl) ?_
    refine x_callq (va_runV (As := []) (rest := []) ⟨hx, hb, hml, hown, hts⟩ (c1_Jx4a65c_grow_d5877 l G A _ a ed mc n cap fn hc_a hc_ed mx hmx hmx1 hmx2 hnc hc1 hc2 ci rC hrC hca hel) (cwV 0 hts gJx4a65c_add_72be8_Jx4a65c_grow_d5877 rfl rfl rfl (by decide +kernel) ⟨Nat.le_of_ble_eq_true rfl, Nat.le_of_ble_eq_true rfl⟩) (x_preV hK hH hTt (hc_a) rfl []) rfl rfl hl.1 rfl (lv_room (Nat.le_of_ble_eq_true rfl)) dJx4a65c_add_72be8_7 ⟨Nat.le_of_ble_eq_true rfl, Nat.le_of_ble_eq_true rfl⟩) hH (fun r7 w7 H locs hp hH => ?_)
    have hd_a := hc_a
    have hd_ed := hc_ed
    have hd_v := hc_v
    obtain ⟨q, rfl, hq, hc_a, hc_q, hfm⟩ := hp
    have ne_a_q : a ≠ q := fun e9 => by rw [e9, hq] at hd_a; cases hd_a
    have ne_q_a : q ≠ a := fun e9 => ne_a_q e9.symm
    have ne_ed_q : ed ≠ q := fun e9 => by rw [e9, hq] at hd_ed; cases hd_ed
    have ne_q_ed : q ≠ ed := fun e9 => ne_ed_q e9.symm
    have ne_v_q : v ≠ q := fun e9 => by rw [e9, hq] at hd_v; cases hd_v
    have ne_q_v : q ≠ v := fun e9 => ne_v_q e9.symm
    have hc_ed : w7 ed = some (.inl (G.2 4, cap, .inr (.inr (.inr (.inr fn))))) := (hfm ed ne_ed_a ne_ed_q).trans hc_ed
    have hc_v : w7 v = some (.inr (ci, vs)) := (hfm v ne_v_a ne_v_q).trans hc_v
    have hn_q : w q = none := hq
    have hfr : ∀ x, x ≠ a → x ≠ ed → x ≠ v → x ≠ q → w7 x = w x := fun x z_a z_ed z_v z_q => (hfm x z_a z_q)
    refine lv_astore_n (lv' := [(2, .ref q), (0, .ref a), (1, .ref v), (3, .int (nI n))]) hx hb dJx4a65c_add_72be8_10 rfl hl (by decide) rfl (fun ls hl => ?_)
    refine lv_aload_n hx hb dJx4a65c_add_72be8_11 rfl (lv_at hl 0 rfl) ?_
    refine lv_iload_n hx hb dJx4a65c_add_72be8_12 rfl (lv_at hl 3 rfl) ?_
    refine lv_aload_n hx hb dJx4a65c_add_72be8_13 rfl (lv_at hl 2 rfl) ?_
    refine x_astO (z := 4) (ci := ci) (r := rC) hx hb rfl hK hH (hca s hTt.2.2) hc_q hc_v hrC n rfl (by omega) (by omega) dJx4a65c_add_72be8_14 (fun H locs hH => ?_)
    have hH : xH G A s.heap H locs (va_up w7 q (some (.inl (G.2 4, (cap + mx), .inr (.inr (.inr (.inr (va_up (va_cpy fn (fun _ => none) 0 0 cap) n (some v))))))))) := hH
    obtain ⟨w14, ew14⟩ : ∃ z, z = va_up w7 q (some (.inl (G.2 4, (cap + mx), .inr (.inr (.inr (.inr (va_up (va_cpy fn (fun _ => none) 0 0 cap) n (some v)))))))) := ⟨_, rfl⟩
    rw [← ew14] at hH
    have hc_a : w14 a = some (.inr (0, [.int mc, .ref q, .int (nI n)])) := by rw [ew14, show va_up w7 q _ a = w7 a from if_neg ne_a_q]; exact hc_a
    have hc_ed : w14 ed = some (.inl (G.2 4, cap, .inr (.inr (.inr (.inr fn))))) := by rw [ew14, show va_up w7 q _ ed = w7 ed from if_neg ne_ed_q]; exact hc_ed
    have hc_v : w14 v = some (.inr (ci, vs)) := by rw [ew14, show va_up w7 q _ v = w7 v from if_neg ne_v_q]; exact hc_v
    have hc_q : w14 q = some (.inl (G.2 4, (cap + mx), .inr (.inr (.inr (.inr (va_up (va_cpy fn (fun _ => none) 0 0 cap) n (some v))))))) := by rw [ew14]; exact if_pos rfl
    have hfr : ∀ x, x ≠ a → x ≠ ed → x ≠ v → x ≠ q → w14 x = w x := fun x z_a z_ed z_v z_q => by rw [ew14]; exact (if_neg z_q).trans (hfr x z_a z_ed z_v z_q)
    refine lv_aload_n hx hb dJx4a65c_add_72be8_15 rfl (lv_at hl 1 rfl) ?_
    refine lv_iload_n hx hb dJx4a65c_add_72be8_16 rfl (lv_at hl 3 rfl) ?_
    refine lv_iconst (v := 1) hx hb dJx4a65c_add_72be8_17 (by decide) ?_
    refine N_iadd hx hb n 1 rfl rfl dJx4a65c_add_72be8_18 ?_
    refine x_put (C := RJx4a65c) (T := TJx4a65c) (N := 3) (ty := .int) hx hb hts hiJx4a65c tyJx4a65c tyJx4a65c_ok nmJx4a65c hown hK hH hc_a rfl 2 (by decide) hf48 (fun _ h => h) rfl (by decide +kernel) rfl rfl (Nat.le_of_ble_eq_true rfl) dJx4a65c_add_72be8_19 (fun H locs hH => ?_)
    have hH : xH G A s.heap H locs (va_up w14 a (some (.inr (0, [.int mc, .ref q, .int (nI (n + 1))])))) := hH
    obtain ⟨w19, ew19⟩ : ∃ z, z = va_up w14 a (some (.inr (0, [.int mc, .ref q, .int (nI (n + 1))]))) := ⟨_, rfl⟩
    rw [← ew19] at hH
    have hc_a : w19 a = some (.inr (0, [.int mc, .ref q, .int (nI (n + 1))])) := by rw [ew19]; exact if_pos rfl
    have hc_ed : w19 ed = some (.inl (G.2 4, cap, .inr (.inr (.inr (.inr fn))))) := by rw [ew19, show va_up w14 a _ ed = w14 ed from if_neg ne_ed_a]; exact hc_ed
    have hc_v : w19 v = some (.inr (ci, vs)) := by rw [ew19, show va_up w14 a _ v = w14 v from if_neg ne_v_a]; exact hc_v
    have hc_q : w19 q = some (.inl (G.2 4, (cap + mx), .inr (.inr (.inr (.inr (va_up (va_cpy fn (fun _ => none) 0 0 cap) n (some v))))))) := by rw [ew19, show va_up w14 a _ q = w14 q from if_neg ne_q_a]; exact hc_q
    have hfr : ∀ x, x ≠ a → x ≠ ed → x ≠ v → x ≠ q → w19 x = w x := fun x z_a z_ed z_v z_q => by rw [ew19]; exact (if_neg z_a).trans (hfr x z_a z_ed z_v z_q)
    refine W.widen (k := 1) (n := 300) (Nat.le_of_ble_eq_true rfl) (Nat.le_of_ble_eq_true rfl) ?_
    exact x_vret w19 hx hb hr hlocks hK hH (⟨q, cap + mx, _, Or.inl hn_q, hc_a, hc_q, by omega, by omega, up_at _ _ _, fun j hj => (up_ne _ _ (by omega)).trans (cpy_lo (by omega)), fun j hj => (up_ne _ _ (by omega)).trans (cpy_hi (by omega)), fun y z1 z2 => if z9 : y = v then by rw [z9, hc_v]; exact hc_v0.symm else if z8 : y = ed then by rw [z8, hc_ed]; exact hc_ed0.symm else hfr y z1 z8 z9 z2⟩) dJx4a65c_add_72be8_22

set_option maxHeartbeats 4000000 in
set_option maxRecDepth 100000 in
theorem c2_Jx4a65c_add_72be8 (l : Launch) (G : XG) (A : Nat → Prop) (w : XW) (a ed v : Nat) (ci : Nat) (vs : List Value) (mc : Int32) (n cap : Nat) (fn : Nat → Option Nat) (hc_a : w a = some (.inr (0, [.int mc, .ref ed, .int (nI n)]))) (hc_ed : w ed = some (.inl (G.2 4, cap, .inr (.inr (.inr (.inr fn)))))) (hc_v : w v = some (.inr (ci, vs))) (hnc : n < cap) (hc2 : cap ≤ 300) (rC : vw_C) (hrC : vwCl[ci]? = some rC) (hca : ∀ U, xLs G U → va_Nw (.castable rC.1 "java/lang/Object") U) (hfz : ∀ j, n ≤ j → fn j = none) (ne_v_a : v ≠ a) : Met l yJx4a65c_add_72be8 wsJx4a65c_add_72be8 ({ frames := 0, cells := 1, slots := 300, locals := 0 }) (va_Pc [.ref a, .ref v, .ref ed, .int (nI n)] (xP G A (w))) (va_Qv (fun (u : XW) => ladd G w u a ed n v mc fn) (fun u t => xB G A (u) t) A) 1 300 A := by
  refine Met.ofW (cc := cJx4a65c_add_72be8) (maxL := 4) (ret := none) (by decide) rfl ?_
  intro p e s m args below meth c s₁ B hml hv
  obtain ⟨rfl, hK, hH, hTt⟩ := hv
  have hx := B.exec
  have hb := B.bytes
  have hr := B.returns
  have hts := atoms_spec (ws := wsJx4a65c_add_72be8) B.pre
  have hown : s.vm.findClass RJx4a65c = some m.cls := findClass_of_methodNamed B.named
  have hlocks := B.notSynchronized
  have hiJx4a65c : ∀ w ∈ wsJx4a65c0, w ∈ wsJx4a65c_add_72be8 := by decide +kernel
  have hf48 := hts (.fieldLink RJx4a65c 48 "java/util/ArrayList" "size" "I") (by decide +kernel)
  have hl := lv_entry ([.ref a, .ref v, .ref ed, .int (nI n)]) (n := 4) (Nat.le_of_ble_eq_true rfl)
  rw [lg_entry_eq]
  generalize (lg_sl ([.ref a, .ref v, .ref ed, .int (nI n)]) ++ List.replicate (4 - (lg_sl ([.ref a, .ref v, .ref ed, .int (nI n)])).length) Slot.unset).toArray = ls at hl ⊢
  have hl : lv_has ls 4 [(0, .ref a), (1, .ref v), (2, .ref ed), (3, .int (nI n))] := hl
  have ne_a_ed : a ≠ ed := fun e9 => by rw [e9, hc_ed] at hc_a; cases hc_a
  have ne_a_v : a ≠ v := fun e9 => ne_v_a e9.symm
  have ne_ed_a : ed ≠ a := fun e9 => by rw [e9, hc_a] at hc_ed; cases hc_ed
  have ne_ed_v : ed ≠ v := fun e9 => by rw [e9, hc_v] at hc_ed; cases hc_ed
  have ne_v_ed : v ≠ ed := fun e9 => by rw [e9, hc_ed] at hc_v; cases hc_v
  have hc_v0 := hc_v
  have hc_ed0 := hc_ed
  refine lv_iload_n hx hb dJx4a65c_add_72be8_0 rfl (lv_at hl 3 rfl) ?_
  refine lv_aload_n hx hb dJx4a65c_add_72be8_1 rfl (lv_at hl 2 rfl) ?_
  refine x_alen hx hb hK hH 4 hc_ed (v := nI cap) rfl rfl dJx4a65c_add_72be8_2 ?_
  refine lv_icmp_ne (tgt := 11) hx hb dJx4a65c_add_72be8_3 (by decide) (fun c3 => ?_) (fun c3 => ?_)
  · have c3 : ¬ n = cap := fun zz => c3 ((nI_eq (a := n) (b := cap) (by omega) (by omega)).mpr zz)
    refine lv_aload_n hx hb dJx4a65c_add_72be8_11 rfl (lv_at hl 2 rfl) ?_
    refine lv_iload_n hx hb dJx4a65c_add_72be8_12 rfl (lv_at hl 3 rfl) ?_
    refine lv_aload_n hx hb dJx4a65c_add_72be8_13 rfl (lv_at hl 1 rfl) ?_
    refine x_astO (z := 4) (ci := ci) (r := rC) hx hb rfl hK hH (hca s hTt.2.2) hc_ed hc_v hrC n rfl (by omega) (by omega) dJx4a65c_add_72be8_14 (fun H locs hH => ?_)
    have hH : xH G A s.heap H locs (va_up w ed (some (.inl (G.2 4, cap, .inr (.inr (.inr (.inr (va_up fn n (some v))))))))) := hH
    obtain ⟨w14, ew14⟩ : ∃ z, z = va_up w ed (some (.inl (G.2 4, cap, .inr (.inr (.inr (.inr (va_up fn n (some v)))))))) := ⟨_, rfl⟩
    rw [← ew14] at hH
    have hc_a : w14 a = some (.inr (0, [.int mc, .ref ed, .int (nI n)])) := by rw [ew14, show va_up w ed _ a = w a from if_neg ne_a_ed]; exact hc_a
    have hc_ed : w14 ed = some (.inl (G.2 4, cap, .inr (.inr (.inr (.inr (va_up fn n (some v))))))) := by rw [ew14]; exact if_pos rfl
    have hc_v : w14 v = some (.inr (ci, vs)) := by rw [ew14, show va_up w ed _ v = w v from if_neg ne_v_ed]; exact hc_v
    have hfr : ∀ x, x ≠ a → x ≠ ed → x ≠ v → w14 x = w x := fun x z_a z_ed z_v => by rw [ew14]; exact if_neg z_ed
    refine lv_aload_n hx hb dJx4a65c_add_72be8_15 rfl (lv_at hl 0 rfl) ?_
    refine lv_iload_n hx hb dJx4a65c_add_72be8_16 rfl (lv_at hl 3 rfl) ?_
    refine lv_iconst (v := 1) hx hb dJx4a65c_add_72be8_17 (by decide) ?_
    refine N_iadd hx hb n 1 rfl rfl dJx4a65c_add_72be8_18 ?_
    refine x_put (C := RJx4a65c) (T := TJx4a65c) (N := 3) (ty := .int) hx hb hts hiJx4a65c tyJx4a65c tyJx4a65c_ok nmJx4a65c hown hK hH hc_a rfl 2 (by decide) hf48 (fun _ h => h) rfl (by decide +kernel) rfl rfl (Nat.le_of_ble_eq_true rfl) dJx4a65c_add_72be8_19 (fun H locs hH => ?_)
    have hH : xH G A s.heap H locs (va_up w14 a (some (.inr (0, [.int mc, .ref ed, .int (nI (n + 1))])))) := hH
    obtain ⟨w19, ew19⟩ : ∃ z, z = va_up w14 a (some (.inr (0, [.int mc, .ref ed, .int (nI (n + 1))]))) := ⟨_, rfl⟩
    rw [← ew19] at hH
    have hc_a : w19 a = some (.inr (0, [.int mc, .ref ed, .int (nI (n + 1))])) := by rw [ew19]; exact if_pos rfl
    have hc_ed : w19 ed = some (.inl (G.2 4, cap, .inr (.inr (.inr (.inr (va_up fn n (some v))))))) := by rw [ew19, show va_up w14 a _ ed = w14 ed from if_neg ne_ed_a]; exact hc_ed
    have hc_v : w19 v = some (.inr (ci, vs)) := by rw [ew19, show va_up w14 a _ v = w14 v from if_neg ne_v_a]; exact hc_v
    have hfr : ∀ x, x ≠ a → x ≠ ed → x ≠ v → w19 x = w x := fun x z_a z_ed z_v => by rw [ew19]; exact (if_neg z_a).trans (hfr x z_a z_ed z_v)
    refine W.widen (k := 1) (n := 300) (Nat.le_of_ble_eq_true rfl) (Nat.le_of_ble_eq_true rfl) ?_
    exact x_vret w19 hx hb hr hlocks hK hH (⟨ed, cap, _, Or.inr ⟨rfl, cap, hc_ed0⟩, hc_a, hc_ed, by omega, by omega, up_at _ _ _, fun j hj => up_ne _ _ (by omega), fun j hj => (up_ne _ _ (by omega)).trans (hfz j (by omega)), fun y z1 z2 => if z9 : y = v then by rw [z9, hc_v]; exact hc_v0.symm else hfr y z1 z2 z9⟩) dJx4a65c_add_72be8_22
  · have c3 : n = cap := (nI_eq (a := n) (b := cap) (by omega) (by omega)).mp c3
    exact absurd (show n = cap from c3) (by omega)


theorem ladd_pre {G : XG} {w0 w u : XW} {a ed n v : Nat} {mc : Int32} {fn : Nat → Option Nat} (h : ladd G w u a ed n v mc fn) (hf : ∀ y, y ≠ a → w y = w0 y) (ha : ∃ z, w a = some (.inr z)) : ladd G w0 u a ed n v mc fn := by
  obtain ⟨q, cp, f, h1, h2, h3, h4, h5, h6, h7, h8, h9⟩ := h
  refine ⟨q, cp, f, ?_, h2, h3, h4, h5, h6, h7, h8, fun y y1 y2 => (h9 y y1 y2).trans (hf y y1)⟩
  obtain ⟨z, hz⟩ := ha
  rcases h1 with h1 | ⟨h1, cap, h2⟩
  · refine Or.inl ?_
    by_cases hq : q = a
    · rw [hq, hz] at h1; cases h1
    · rw [← hf q hq]; exact h1
  · refine Or.inr ⟨h1, cap, ?_⟩
    rw [← hf ed (fun e9 => by rw [e9, hz] at h2; cases h2)]
    exact h2

set_option maxHeartbeats 4000000 in
set_option maxRecDepth 100000 in
theorem c0_Jx4a65c_add_9ea2d (l : Launch) (G : XG) (A : Nat → Prop) (w : XW) (a v : Nat) (ci : Nat) (vs : List Value) (mc : Int32) (fn : Nat → Option Nat) (hc_a : w a = some (.inr (0, [.int mc, .ref (G.2 12), .int 0]))) (hc_v : w v = some (.inr (ci, vs))) (rC : vw_C) (hrC : vwCl[ci]? = some rC) (hca : ∀ U, xLs G U → va_Nw (.castable rC.1 "java/lang/Object") U) (ne_v_a : v ≠ a) : Met l yJx4a65c_add_9ea2d wsJx4a65c_add_9ea2d ({ frames := 6, cells := 1, slots := 300, locals := 170 }) (va_Pc [.ref a, .ref v] (xP G A (w))) (va_Qi (fun (r : Int32) (u : XW) => r = 1 ∧ ladd G w u a (G.2 12) 0 v (mc + 1) fn) (fun u t => xB G A (u) t) A) 1 300 A := by
  refine Met.ofW (cc := cJx4a65c_add_9ea2d) (maxL := 2) (ret := (some .boolean)) (by decide) rfl ?_
  intro p e s m args below meth c s₁ B hml hv
  obtain ⟨rfl, hK, hH, hTt⟩ := hv
  have hx := B.exec
  have hb := B.bytes
  have hr := B.returns
  have hts := atoms_spec (ws := wsJx4a65c_add_9ea2d) B.pre
  have hown : s.vm.findClass RJx4a65c = some m.cls := findClass_of_methodNamed B.named
  have hlocks := B.notSynchronized
  have hiJx4a65c : ∀ w ∈ wsJx4a65c0, w ∈ wsJx4a65c_add_9ea2d := by decide +kernel
  have hf9 := hts (.fieldLink RJx4a65c 9 "java/util/ArrayList" "elementData" "[Ljava/lang/Object;") (by decide +kernel)
  have hf48 := hts (.fieldLink RJx4a65c 48 "java/util/ArrayList" "size" "I") (by decide +kernel)
  have hf63 := hts (.fieldLink RJx4a65c 63 "java/util/ArrayList" "modCount" "I") (by decide +kernel)
  have hl := lv_entry ([.ref a, .ref v]) (n := 2) (Nat.le_of_ble_eq_true rfl)
  rw [lg_entry_eq]
  generalize (lg_sl ([.ref a, .ref v]) ++ List.replicate (2 - (lg_sl ([.ref a, .ref v])).length) Slot.unset).toArray = ls at hl ⊢
  have hl : lv_has ls 2 [(0, .ref a), (1, .ref v)] := hl
  have ne_a_v : a ≠ v := fun e9 => ne_v_a e9.symm
  have hc_v0 := hc_v
  refine lv_aload_n hx hb dJx4a65c_add_9ea2d_0 rfl (lv_at hl 0 rfl) ?_
  refine lv_dup hx hb dJx4a65c_add_9ea2d_1 rfl ?_
  refine x_get (C := RJx4a65c) (T := TJx4a65c) (N := 3) hx hb hts hiJx4a65c hown hK hH hc_a rfl 0 (by decide) hf63 (u_same (hts (.sameField "java/util/ArrayList" "java/util/AbstractList" "modCount" "I") (by decide +kernel))) (v := .int mc) rfl dJx4a65c_add_9ea2d_2 ?_
  refine lv_iconst (v := 1) hx hb dJx4a65c_add_9ea2d_5 (by decide) ?_
  refine lv_iadd hx hb dJx4a65c_add_9ea2d_6 ?_
  refine x_put (C := RJx4a65c) (T := TJx4a65c) (N := 3) (ty := .int) hx hb hts hiJx4a65c tyJx4a65c tyJx4a65c_ok nmJx4a65c hown hK hH hc_a rfl 0 (by decide) hf63 (u_same (hts (.sameField "java/util/ArrayList" "java/util/AbstractList" "modCount" "I") (by decide +kernel))) rfl (by decide +kernel) rfl rfl (Nat.le_of_ble_eq_true rfl) dJx4a65c_add_9ea2d_7 (fun H locs hH => ?_)
  have hH : xH G A s.heap H locs (va_up w a (some (.inr (0, [.int (mc + 1), .ref (G.2 12), .int 0])))) := hH
  obtain ⟨w7, ew7⟩ : ∃ z, z = va_up w a (some (.inr (0, [.int (mc + 1), .ref (G.2 12), .int 0]))) := ⟨_, rfl⟩
  rw [← ew7] at hH
  have hc_a : w7 a = some (.inr (0, [.int (mc + 1), .ref (G.2 12), .int 0])) := by rw [ew7]; exact if_pos rfl
  have hc_v : w7 v = some (.inr (ci, vs)) := by rw [ew7, show va_up w a _ v = w v from if_neg ne_v_a]; exact hc_v
  have hfr : ∀ x, x ≠ a → x ≠ v → w7 x = w x := fun x z_a z_v => by rw [ew7]; exact if_neg z_a
  refine lv_aload_n hx hb dJx4a65c_add_9ea2d_10 rfl (lv_at hl 0 rfl) ?_
  refine lv_aload_n hx hb dJx4a65c_add_9ea2d_11 rfl (lv_at hl 1 rfl) ?_
  refine lv_aload_n hx hb dJx4a65c_add_9ea2d_12 rfl (lv_at hl 0 rfl) ?_
  refine x_get (C := RJx4a65c) (T := TJx4a65c) (N := 3) hx hb hts hiJx4a65c hown hK hH hc_a rfl 1 (by decide) hf9 (fun _ h => h) (v := .ref (G.2 12)) rfl dJx4a65c_add_9ea2d_13 ?_
  refine lv_aload_n hx hb dJx4a65c_add_9ea2d_16 rfl (lv_at hl 0 rfl) ?_
  refine x_get (C := RJx4a65c) (T := TJx4a65c) (N := 3) hx hb hts hiJx4a65c hown hK hH hc_a rfl 2 (by decide) hf48 (fun _ h => h) (v := .int 0) rfl dJx4a65c_add_9ea2d_17 ?_
  refine x_callv (va_runV (As := [.ref v, .ref (G.2 12), .int 0]) (rest := []) ⟨hx, hb, hml, hown, hts⟩ (c0_Jx4a65c_add_72be8 l G A _ a v ci vs (mc + 1) fn hc_a hc_v rC hrC hca ne_v_a) (cwV 3 hts gJx4a65c_add_9ea2d_Jx4a65c_add_72be8 rfl rfl rfl (by decide +kernel) ⟨Nat.le_of_ble_eq_true rfl, Nat.le_of_ble_eq_true rfl⟩) (x_preV hK hH hTt (hc_a) rfl [.ref v, .ref (G.2 12), .int 0]) rfl rfl hl.1 rfl (lv_room (Nat.le_of_ble_eq_true rfl)) dJx4a65c_add_9ea2d_20 ⟨Nat.le_of_ble_eq_true rfl, Nat.le_of_ble_eq_true rfl⟩) hH (fun w20 H locs hp hH => ?_)
  refine lv_iconst (v := 1) hx hb dJx4a65c_add_9ea2d_23 (by decide) ?_
  refine W.widen (k := 1) (n := 300) (Nat.le_of_ble_eq_true rfl) (Nat.le_of_ble_eq_true rfl) ?_
  exact x_zret (v := 1) w20 hx hb hr hlocks (by decide) hK hH (⟨rfl, ladd_pre hp (fun y hy => if z9 : y = v then by rw [z9, hc_v]; exact hc_v0.symm else hfr y hy z9) ⟨_, hc_a⟩⟩) dJx4a65c_add_9ea2d_24

set_option maxHeartbeats 4000000 in
set_option maxRecDepth 100000 in
theorem c1_Jx4a65c_add_9ea2d (l : Launch) (G : XG) (A : Nat → Prop) (w : XW) (a ed v : Nat) (ci : Nat) (vs : List Value) (mc : Int32) (n cap : Nat) (fn : Nat → Option Nat) (hc_a : w a = some (.inr (0, [.int mc, .ref ed, .int (nI n)]))) (hc_ed : w ed = some (.inl (G.2 4, cap, .inr (.inr (.inr (.inr fn)))))) (hc_v : w v = some (.inr (ci, vs))) (mx : Nat) (hmx : mx = if 1 < cap / 2 then cap / 2 else 1) (hmx1 : 1 ≤ mx) (hmx2 : mx ≤ 100) (hnc : n = cap) (hc1 : 1 ≤ cap) (hc2 : cap < 200) (rC : vw_C) (hrC : vwCl[ci]? = some rC) (hca : ∀ U, xLs G U → va_Nw (.castable rC.1 "java/lang/Object") U) (hel : ∀ i y : Nat, fn i = some y → ∃ vs, w y = some (.inr (ci, vs))) (hci : ci ≠ 0) (ne_v_a : v ≠ a) : Met l yJx4a65c_add_9ea2d wsJx4a65c_add_9ea2d ({ frames := 6, cells := 1, slots := 300, locals := 170 }) (va_Pc [.ref a, .ref v] (xP G A (w))) (va_Qi (fun (r : Int32) (u : XW) => r = 1 ∧ ladd G w u a ed n v (mc + 1) fn) (fun u t => xB G A (u) t) A) 1 300 A := by
  refine Met.ofW (cc := cJx4a65c_add_9ea2d) (maxL := 2) (ret := (some .boolean)) (by decide) rfl ?_
  intro p e s m args below meth c s₁ B hml hv
  obtain ⟨rfl, hK, hH, hTt⟩ := hv
  have hx := B.exec
  have hb := B.bytes
  have hr := B.returns
  have hts := atoms_spec (ws := wsJx4a65c_add_9ea2d) B.pre
  have hown : s.vm.findClass RJx4a65c = some m.cls := findClass_of_methodNamed B.named
  have hlocks := B.notSynchronized
  have hiJx4a65c : ∀ w ∈ wsJx4a65c0, w ∈ wsJx4a65c_add_9ea2d := by decide +kernel
  have hf9 := hts (.fieldLink RJx4a65c 9 "java/util/ArrayList" "elementData" "[Ljava/lang/Object;") (by decide +kernel)
  have hf48 := hts (.fieldLink RJx4a65c 48 "java/util/ArrayList" "size" "I") (by decide +kernel)
  have hf63 := hts (.fieldLink RJx4a65c 63 "java/util/ArrayList" "modCount" "I") (by decide +kernel)
  have hl := lv_entry ([.ref a, .ref v]) (n := 2) (Nat.le_of_ble_eq_true rfl)
  rw [lg_entry_eq]
  generalize (lg_sl ([.ref a, .ref v]) ++ List.replicate (2 - (lg_sl ([.ref a, .ref v])).length) Slot.unset).toArray = ls at hl ⊢
  have hl : lv_has ls 2 [(0, .ref a), (1, .ref v)] := hl
  have ne_a_ed : a ≠ ed := fun e9 => by rw [e9, hc_ed] at hc_a; cases hc_a
  have ne_a_v : a ≠ v := fun e9 => ne_v_a e9.symm
  have ne_ed_a : ed ≠ a := fun e9 => by rw [e9, hc_a] at hc_ed; cases hc_ed
  have ne_ed_v : ed ≠ v := fun e9 => by rw [e9, hc_v] at hc_ed; cases hc_ed
  have ne_v_ed : v ≠ ed := fun e9 => by rw [e9, hc_ed] at hc_v; cases hc_v
  have hc_v0 := hc_v
  have hc_ed0 := hc_ed
  have hc_a0 := hc_a
  refine lv_aload_n hx hb dJx4a65c_add_9ea2d_0 rfl (lv_at hl 0 rfl) ?_
  refine lv_dup hx hb dJx4a65c_add_9ea2d_1 rfl ?_
  refine x_get (C := RJx4a65c) (T := TJx4a65c) (N := 3) hx hb hts hiJx4a65c hown hK hH hc_a rfl 0 (by decide) hf63 (u_same (hts (.sameField "java/util/ArrayList" "java/util/AbstractList" "modCount" "I") (by decide +kernel))) (v := .int mc) rfl dJx4a65c_add_9ea2d_2 ?_
  refine lv_iconst (v := 1) hx hb dJx4a65c_add_9ea2d_5 (by decide) ?_
  refine lv_iadd hx hb dJx4a65c_add_9ea2d_6 ?_
  refine x_put (C := RJx4a65c) (T := TJx4a65c) (N := 3) (ty := .int) hx hb hts hiJx4a65c tyJx4a65c tyJx4a65c_ok nmJx4a65c hown hK hH hc_a rfl 0 (by decide) hf63 (u_same (hts (.sameField "java/util/ArrayList" "java/util/AbstractList" "modCount" "I") (by decide +kernel))) rfl (by decide +kernel) rfl rfl (Nat.le_of_ble_eq_true rfl) dJx4a65c_add_9ea2d_7 (fun H locs hH => ?_)
  have hH : xH G A s.heap H locs (va_up w a (some (.inr (0, [.int (mc + 1), .ref ed, .int (nI n)])))) := hH
  obtain ⟨w7, ew7⟩ : ∃ z, z = va_up w a (some (.inr (0, [.int (mc + 1), .ref ed, .int (nI n)]))) := ⟨_, rfl⟩
  rw [← ew7] at hH
  have hc_a : w7 a = some (.inr (0, [.int (mc + 1), .ref ed, .int (nI n)])) := by rw [ew7]; exact if_pos rfl
  have hc_ed : w7 ed = some (.inl (G.2 4, cap, .inr (.inr (.inr (.inr fn))))) := by rw [ew7, show va_up w a _ ed = w ed from if_neg ne_ed_a]; exact hc_ed
  have hc_v : w7 v = some (.inr (ci, vs)) := by rw [ew7, show va_up w a _ v = w v from if_neg ne_v_a]; exact hc_v
  have hfr : ∀ x, x ≠ a → x ≠ ed → x ≠ v → w7 x = w x := fun x z_a z_ed z_v => by rw [ew7]; exact if_neg z_a
  refine lv_aload_n hx hb dJx4a65c_add_9ea2d_10 rfl (lv_at hl 0 rfl) ?_
  refine lv_aload_n hx hb dJx4a65c_add_9ea2d_11 rfl (lv_at hl 1 rfl) ?_
  refine lv_aload_n hx hb dJx4a65c_add_9ea2d_12 rfl (lv_at hl 0 rfl) ?_
  refine x_get (C := RJx4a65c) (T := TJx4a65c) (N := 3) hx hb hts hiJx4a65c hown hK hH hc_a rfl 1 (by decide) hf9 (fun _ h => h) (v := .ref ed) rfl dJx4a65c_add_9ea2d_13 ?_
  refine lv_aload_n hx hb dJx4a65c_add_9ea2d_16 rfl (lv_at hl 0 rfl) ?_
  refine x_get (C := RJx4a65c) (T := TJx4a65c) (N := 3) hx hb hts hiJx4a65c hown hK hH hc_a rfl 2 (by decide) hf48 (fun _ h => h) (v := .int (nI n)) rfl dJx4a65c_add_9ea2d_17 ?_
  have hel : ∀ i y : Nat, fn i = some y → ∃ vs, w7 y = some (.inr (ci, vs)) := fun i y hy => by obtain ⟨vs9, hv9⟩ := hel i y hy; exact ⟨vs9, by rw [ew7]; exact (if_neg (fun e9 => by rw [e9, hc_a0] at hv9; cases hv9; exact hci rfl)).trans hv9⟩
  refine x_callv (va_runV (As := [.ref v, .ref ed, .int (nI n)]) (rest := []) ⟨hx, hb, hml, hown, hts⟩ (c1_Jx4a65c_add_72be8 l G A _ a ed v ci vs (mc + 1) n cap fn hc_a hc_ed hc_v mx hmx hmx1 hmx2 hnc hc1 hc2 rC hrC hca hel ne_v_a) (cwV 3 hts gJx4a65c_add_9ea2d_Jx4a65c_add_72be8 rfl rfl rfl (by decide +kernel) ⟨Nat.le_of_ble_eq_true rfl, Nat.le_of_ble_eq_true rfl⟩) (x_preV hK hH hTt (hc_a) rfl [.ref v, .ref ed, .int (nI n)]) rfl rfl hl.1 rfl (lv_room (Nat.le_of_ble_eq_true rfl)) dJx4a65c_add_9ea2d_20 ⟨Nat.le_of_ble_eq_true rfl, Nat.le_of_ble_eq_true rfl⟩) hH (fun w20 H locs hp hH => ?_)
  refine lv_iconst (v := 1) hx hb dJx4a65c_add_9ea2d_23 (by decide) ?_
  refine W.widen (k := 1) (n := 300) (Nat.le_of_ble_eq_true rfl) (Nat.le_of_ble_eq_true rfl) ?_
  exact x_zret (v := 1) w20 hx hb hr hlocks (by decide) hK hH (⟨rfl, ladd_pre hp (fun y hy => if z9 : y = v then by rw [z9, hc_v]; exact hc_v0.symm else if z8 : y = ed then by rw [z8, hc_ed]; exact hc_ed0.symm else hfr y hy z8 z9) ⟨_, hc_a⟩⟩) dJx4a65c_add_9ea2d_24

set_option maxHeartbeats 4000000 in
set_option maxRecDepth 100000 in
theorem c2_Jx4a65c_add_9ea2d (l : Launch) (G : XG) (A : Nat → Prop) (w : XW) (a ed v : Nat) (ci : Nat) (vs : List Value) (mc : Int32) (n cap : Nat) (fn : Nat → Option Nat) (hc_a : w a = some (.inr (0, [.int mc, .ref ed, .int (nI n)]))) (hc_ed : w ed = some (.inl (G.2 4, cap, .inr (.inr (.inr (.inr fn)))))) (hc_v : w v = some (.inr (ci, vs))) (hnc : n < cap) (hc2 : cap ≤ 300) (rC : vw_C) (hrC : vwCl[ci]? = some rC) (hca : ∀ U, xLs G U → va_Nw (.castable rC.1 "java/lang/Object") U) (hfz : ∀ j, n ≤ j → fn j = none) (ne_v_a : v ≠ a) : Met l yJx4a65c_add_9ea2d wsJx4a65c_add_9ea2d ({ frames := 6, cells := 1, slots := 300, locals := 170 }) (va_Pc [.ref a, .ref v] (xP G A (w))) (va_Qi (fun (r : Int32) (u : XW) => r = 1 ∧ ladd G w u a ed n v (mc + 1) fn) (fun u t => xB G A (u) t) A) 1 300 A := by
  refine Met.ofW (cc := cJx4a65c_add_9ea2d) (maxL := 2) (ret := (some .boolean)) (by decide) rfl ?_
  intro p e s m args below meth c s₁ B hml hv
  obtain ⟨rfl, hK, hH, hTt⟩ := hv
  have hx := B.exec
  have hb := B.bytes
  have hr := B.returns
  have hts := atoms_spec (ws := wsJx4a65c_add_9ea2d) B.pre
  have hown : s.vm.findClass RJx4a65c = some m.cls := findClass_of_methodNamed B.named
  have hlocks := B.notSynchronized
  have hiJx4a65c : ∀ w ∈ wsJx4a65c0, w ∈ wsJx4a65c_add_9ea2d := by decide +kernel
  have hf9 := hts (.fieldLink RJx4a65c 9 "java/util/ArrayList" "elementData" "[Ljava/lang/Object;") (by decide +kernel)
  have hf48 := hts (.fieldLink RJx4a65c 48 "java/util/ArrayList" "size" "I") (by decide +kernel)
  have hf63 := hts (.fieldLink RJx4a65c 63 "java/util/ArrayList" "modCount" "I") (by decide +kernel)
  have hl := lv_entry ([.ref a, .ref v]) (n := 2) (Nat.le_of_ble_eq_true rfl)
  rw [lg_entry_eq]
  generalize (lg_sl ([.ref a, .ref v]) ++ List.replicate (2 - (lg_sl ([.ref a, .ref v])).length) Slot.unset).toArray = ls at hl ⊢
  have hl : lv_has ls 2 [(0, .ref a), (1, .ref v)] := hl
  have ne_a_ed : a ≠ ed := fun e9 => by rw [e9, hc_ed] at hc_a; cases hc_a
  have ne_a_v : a ≠ v := fun e9 => ne_v_a e9.symm
  have ne_ed_a : ed ≠ a := fun e9 => by rw [e9, hc_a] at hc_ed; cases hc_ed
  have ne_ed_v : ed ≠ v := fun e9 => by rw [e9, hc_v] at hc_ed; cases hc_ed
  have ne_v_ed : v ≠ ed := fun e9 => by rw [e9, hc_ed] at hc_v; cases hc_v
  have hc_v0 := hc_v
  have hc_ed0 := hc_ed
  refine lv_aload_n hx hb dJx4a65c_add_9ea2d_0 rfl (lv_at hl 0 rfl) ?_
  refine lv_dup hx hb dJx4a65c_add_9ea2d_1 rfl ?_
  refine x_get (C := RJx4a65c) (T := TJx4a65c) (N := 3) hx hb hts hiJx4a65c hown hK hH hc_a rfl 0 (by decide) hf63 (u_same (hts (.sameField "java/util/ArrayList" "java/util/AbstractList" "modCount" "I") (by decide +kernel))) (v := .int mc) rfl dJx4a65c_add_9ea2d_2 ?_
  refine lv_iconst (v := 1) hx hb dJx4a65c_add_9ea2d_5 (by decide) ?_
  refine lv_iadd hx hb dJx4a65c_add_9ea2d_6 ?_
  refine x_put (C := RJx4a65c) (T := TJx4a65c) (N := 3) (ty := .int) hx hb hts hiJx4a65c tyJx4a65c tyJx4a65c_ok nmJx4a65c hown hK hH hc_a rfl 0 (by decide) hf63 (u_same (hts (.sameField "java/util/ArrayList" "java/util/AbstractList" "modCount" "I") (by decide +kernel))) rfl (by decide +kernel) rfl rfl (Nat.le_of_ble_eq_true rfl) dJx4a65c_add_9ea2d_7 (fun H locs hH => ?_)
  have hH : xH G A s.heap H locs (va_up w a (some (.inr (0, [.int (mc + 1), .ref ed, .int (nI n)])))) := hH
  obtain ⟨w7, ew7⟩ : ∃ z, z = va_up w a (some (.inr (0, [.int (mc + 1), .ref ed, .int (nI n)]))) := ⟨_, rfl⟩
  rw [← ew7] at hH
  have hc_a : w7 a = some (.inr (0, [.int (mc + 1), .ref ed, .int (nI n)])) := by rw [ew7]; exact if_pos rfl
  have hc_ed : w7 ed = some (.inl (G.2 4, cap, .inr (.inr (.inr (.inr fn))))) := by rw [ew7, show va_up w a _ ed = w ed from if_neg ne_ed_a]; exact hc_ed
  have hc_v : w7 v = some (.inr (ci, vs)) := by rw [ew7, show va_up w a _ v = w v from if_neg ne_v_a]; exact hc_v
  have hfr : ∀ x, x ≠ a → x ≠ ed → x ≠ v → w7 x = w x := fun x z_a z_ed z_v => by rw [ew7]; exact if_neg z_a
  refine lv_aload_n hx hb dJx4a65c_add_9ea2d_10 rfl (lv_at hl 0 rfl) ?_
  refine lv_aload_n hx hb dJx4a65c_add_9ea2d_11 rfl (lv_at hl 1 rfl) ?_
  refine lv_aload_n hx hb dJx4a65c_add_9ea2d_12 rfl (lv_at hl 0 rfl) ?_
  refine x_get (C := RJx4a65c) (T := TJx4a65c) (N := 3) hx hb hts hiJx4a65c hown hK hH hc_a rfl 1 (by decide) hf9 (fun _ h => h) (v := .ref ed) rfl dJx4a65c_add_9ea2d_13 ?_
  refine lv_aload_n hx hb dJx4a65c_add_9ea2d_16 rfl (lv_at hl 0 rfl) ?_
  refine x_get (C := RJx4a65c) (T := TJx4a65c) (N := 3) hx hb hts hiJx4a65c hown hK hH hc_a rfl 2 (by decide) hf48 (fun _ h => h) (v := .int (nI n)) rfl dJx4a65c_add_9ea2d_17 ?_
  refine x_callv (va_runV (As := [.ref v, .ref ed, .int (nI n)]) (rest := []) ⟨hx, hb, hml, hown, hts⟩ (c2_Jx4a65c_add_72be8 l G A _ a ed v ci vs (mc + 1) n cap fn hc_a hc_ed hc_v hnc hc2 rC hrC hca hfz ne_v_a) (cwV 3 hts gJx4a65c_add_9ea2d_Jx4a65c_add_72be8 rfl rfl rfl (by decide +kernel) ⟨Nat.le_of_ble_eq_true rfl, Nat.le_of_ble_eq_true rfl⟩) (x_preV hK hH hTt (hc_a) rfl [.ref v, .ref ed, .int (nI n)]) rfl rfl hl.1 rfl (lv_room (Nat.le_of_ble_eq_true rfl)) dJx4a65c_add_9ea2d_20 ⟨Nat.le_of_ble_eq_true rfl, Nat.le_of_ble_eq_true rfl⟩) hH (fun w20 H locs hp hH => ?_)
  refine lv_iconst (v := 1) hx hb dJx4a65c_add_9ea2d_23 (by decide) ?_
  refine W.widen (k := 1) (n := 300) (Nat.le_of_ble_eq_true rfl) (Nat.le_of_ble_eq_true rfl) ?_
  exact x_zret (v := 1) w20 hx hb hr hlocks (by decide) hK hH (⟨rfl, ladd_pre hp (fun y hy => if z9 : y = v then by rw [z9, hc_v]; exact hc_v0.symm else if z8 : y = ed then by rw [z8, hc_ed]; exact hc_ed0.symm else hfr y hy z8 z9) ⟨_, hc_a⟩⟩) dJx4a65c_add_9ea2d_24


/-- what a list is: its members, in a row that is wide enough, or nothing yet -/
def lstD (G : XG) (w : XW) (ed n cap : Nat) (fn : Nat → Option Nat) : Prop := (ed = G.2 12 ∧ n = 0) ∨ w ed = some (.inl (G.2 4, cap, .inr (.inr (.inr (.inr fn)))))
theorem c_add (l : Launch) (G : XG) (A : Nat → Prop) (w : XW) (a ed v ci : Nat) (vs : List Value) (mc : Int32) (n cap : Nat) (fn : Nat → Option Nat) (hc_a : w a = some (.inr (0, [.int mc, .ref ed, .int (nI n)]))) (hL : lstD G w ed n cap fn) (hc_v : w v = some (.inr (ci, vs))) (hn : n < 200) (hnc : n ≤ cap) (hc2 : cap ≤ 300) (hcz : 1 ≤ cap) (hfz : ∀ j, n ≤ j → fn j = none) (rC : vw_C) (hrC : vwCl[ci]? = some rC) (hca : ∀ U, xLs G U → va_Nw (.castable rC.1 "java/lang/Object") U) (hel : ∀ i y : Nat, fn i = some y → ∃ vs, w y = some (.inr (ci, vs))) (hci : ci ≠ 0) :
    Met l yJx4a65c_add_9ea2d wsJx4a65c_add_9ea2d ({ frames := 6, cells := 1, slots := 300, locals := 170 }) (va_Pc [.ref a, .ref v] (xP G A w)) (va_Qi (fun (r : Int32) (u : XW) => r = 1 ∧ ladd G w u a ed n v (mc + 1) fn) (fun u t => xB G A u t) A) 1 300 A := by
  have ne_v_a : v ≠ a := fun e9 => by rw [e9, hc_a] at hc_v; cases hc_v; exact hci rfl
  rcases hL with ⟨rfl, rfl⟩ | hc_ed
  · exact c0_Jx4a65c_add_9ea2d l G A w a v ci vs mc fn hc_a hc_v rC hrC hca ne_v_a
  · by_cases h : n = cap
    · refine c1_Jx4a65c_add_9ea2d l G A w a ed v ci vs mc n cap fn hc_a hc_ed hc_v (if 1 < cap / 2 then cap / 2 else 1) rfl ?_ ?_ h hcz (by omega) rC hrC hca hel hci ne_v_a
      · split <;> omega
      · split <;> omega
    · exact c2_Jx4a65c_add_9ea2d l G A w a ed v ci vs mc n cap fn hc_a hc_ed hc_v (by omega) hc2 rC hrC hca hfz ne_v_a
