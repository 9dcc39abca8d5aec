
theorem shr1 : ∀ c, c < 301 → nI c >>> (1 &&& 31) = nI (c / 2) := by decide +kernel
def qr (G : XG) (n : Nat) (f : Nat → Option Nat) : va_E := .inl (G.2 4, n, .inr (.inr (.inr (.inr f))))
section XQ
variable {p : Program} {l : Launch} {e : Env} {R : Room} {s : State} {m : MethodId} {args : Array Value} {below : List Frame} {meth : Method} {c : Code} {H : Heap} {locs : List Loc} {cells slots : Nat} {Q : State → Prop}
variable {cc : ByteArray} {pc : Nat} {ls : Array Slot} {rest : List Value} {G : XG} {A : Nat → Prop} {a : Nat} {w : XW} {H0 : Heap}
theorem x_recO (hK : xK G s) (hH : xH G A H0 H locs w) {n : Nat} {x : _} (ha : w a = some (.inl (G.2 4, n, x))) : ∃ cell : Cell, H[a]? = some cell ∧ cell.vm.isStatics = false ∧ s.vm.findClass "[Ljava/lang/Object;" = some cell.cls := by
  obtain ⟨hA, hS, ws, hP, hD, hm⟩ := hH
  obtain ⟨q0, hq⟩ := (hm _ _).mpr ha
  have h1 : H[a]? = some (vp_cell (G.2 4) (n, x)) := hP q0 _ hq
  refine ⟨_, h1, ?_, ?_⟩
  · rcases x with x | x | x | x | x <;> rfl
  · have h2 := va_nmO (nm := "[Ljava/lang/Object;") (hK.2 4 (G.2 4, .object "java/lang/Object") rfl).2 (by decide)
    rcases x with x | x | x | x | x <;> exact h2
end XQ

set_option maxHeartbeats 4000000 in
set_option maxRecDepth 100000 in
theorem c_J7_copyOf_1904c (l : Launch) (G : XG) (A : Nat → Prop) (w : XW) (ed : Nat) (cap : Nat) (fn : Nat → Option Nat) (hc_ed : w ed = some (.inl (G.2 4, cap, .inr (.inr (.inr (.inr fn)))))) (nl : Nat) (ci : Nat) (rC : vw_C) (hrC : vwCl[ci]? = some rC) (hca : ∀ U, xLs G U → va_Nw (.castable rC.1 "java/lang/Object") U) (hel : ∀ i y : Nat, fn i = some y → ∃ vs, w y = some (.inr (ci, vs))) (hcn : cap ≤ nl) (hnl : nl ≤ 300) : Met l yJ7_copyOf_1904c wsJ7_copyOf_1904c ({ frames := 2, cells := 1, slots := 300, locals := 83 }) (va_Pc [.ref ed, .int (nI nl)] (xP G A (w))) (va_Qq (fun (r : Option Nat) (u : XW) => ∃ q, r = some q ∧ w q = none ∧ u q = some (.inl (G.2 4, nl, .inr (.inr (.inr (.inr (va_cpy fn (fun _ => none) 0 0 cap)))))) ∧ ∀ y, y ≠ q → u y = w y) (fun u t => xB G A (u) t) A) 1 300 A := by
  refine Met.ofW (cc := cJ7_copyOf_1904c) (maxL := 2) (ret := (some (.array (.object "java/lang/Object")))) (by decide) rfl ?_
  intro p e s m args below meth c s₁ B hml hv
  obtain ⟨rfl, hK, hH, hTt⟩ := hv
  have hx := B.exec
  have hb := B.bytes
  have hr := B.returns
  have hts := atoms_spec (ws := wsJ7_copyOf_1904c) B.pre
  have hown : s.vm.findClass RJ7 = some m.cls := findClass_of_methodNamed B.named
  have hlocks := B.notSynchronized
  have hl := lv_entry ([.ref ed, .int (nI nl)]) (n := 2) (Nat.le_of_ble_eq_true rfl)
  rw [lg_entry_eq]
  generalize (lg_sl ([.ref ed, .int (nI nl)]) ++ List.replicate (2 - (lg_sl ([.ref ed, .int (nI nl)])).length) Slot.unset).toArray = ls at hl ⊢
  have hl : lv_has ls 2 [(0, .ref ed), (1, .int (nI nl))] := hl
  have hca0 := hca
  refine lv_aload_n hx hb dJ7_copyOf_1904c_0 rfl (lv_at hl 0 rfl) ?_
  refine lv_iload_n hx hb dJ7_copyOf_1904c_1 rfl (lv_at hl 1 rfl) ?_
  refine lv_aload_n hx hb dJ7_copyOf_1904c_2 rfl (lv_at hl 0 rfl) ?_
  refine va_getC hx hb (by rw [hml]; exact hl.1.symm) hown (hts (.methodLink RJ7 86 ⟨"java/lang/Object", "getClass", "()Ljava/lang/Class;"⟩) (by decide +kernel)) hTt.2.2.2.2.2.2.2.2.1.use (hts (.selects "[Ljava/lang/Object;" ⟨"java/lang/Object", "getClass", "()Ljava/lang/Class;"⟩ ⟨"java/lang/Object", "getClass", "()Ljava/lang/Class;"⟩) (by decide +kernel)) (hts (.instanceMethod ⟨"java/lang/Object", "getClass", "()Ljava/lang/Class;"⟩) (by decide +kernel)) (hts (.native ⟨"java/lang/Object", "getClass", "()Ljava/lang/Class;"⟩) (by decide +kernel)) hTt.2.2.2.2.2.2.2.1 (x_recO hK hH hc_ed) (Nat.le_of_ble_eq_true rfl) (Nat.le_of_ble_eq_true rfl) dJ7_copyOf_1904c_3 ?_
  refine x_callq (va_runS (As := [.ref ed, .int (nI nl), .ref (G.2 13)]) (rest := []) ⟨hx, hb, hml, hown, hts⟩ (c_J7_copyOf_6403c l G A _ ed cap fn hc_ed nl ci rC hrC hca0 hel hcn hnl) (va_cwS 3 hts gJ7_copyOf_1904c_J7_copyOf_6403c rfl rfl rfl (by decide +kernel) ⟨Nat.le_of_ble_eq_true rfl, Nat.le_of_ble_eq_true rfl⟩) (x_preS hK hH hTt [.ref ed, .int (nI nl), .ref (G.2 13)]) rfl rfl hl.1 rfl (lv_room (Nat.le_of_ble_eq_true rfl)) dJ7_copyOf_1904c_6 ⟨Nat.le_of_ble_eq_true rfl, Nat.le_of_ble_eq_true rfl⟩) hH (fun r6 w6 H locs hp hH => ?_)
  obtain ⟨q, rfl, hq, hc_q, hfm⟩ := hp
  refine W.widen (k := 1) (n := 300) (Nat.le_of_ble_eq_true rfl) (Nat.le_of_ble_eq_true rfl) ?_
  exact x_aret (r := some q) w6 hx hb hr hlocks (Or.inr ⟨_, rfl⟩) hK hH (⟨q, rfl, hq, hc_q, hfm⟩) dJ7_copyOf_1904c_9

set_option maxHeartbeats 4000000 in
set_option maxRecDepth 100000 in
theorem c0_Jx4a65c_grow_92f84 (l : Launch) (G : XG) (A : Nat → Prop) (w : XW) (a : Nat) (mc : Int32) (hc_a : w a = some (.inr (0, [.int mc, .ref (G.2 12), .int 0]))) (mn : Nat) (hmn : mn ≤ 10) : Met l yJx4a65c_grow_92f84 wsJx4a65c_grow_92f84 ({ frames := 1, cells := 1, slots := 300, locals := 21 }) (va_Pc [.ref a, .int (nI mn)] (xP G A (w))) (va_Qq (fun (r : Option Nat) (u : XW) => ∃ q, r = some q ∧ w q = none ∧ u a = some (.inr (0, [.int mc, .ref q, .int 0])) ∧ u q = some (.inl (G.2 4, 10, .inr (.inr (.inr (.inr (fun _ => none)))))) ∧ ∀ y, y ≠ a → y ≠ q → u y = w y) (fun u t => xB G A (u) t) A) 1 300 A := by
  refine Met.ofW (cc := cJx4a65c_grow_92f84) (maxL := 4) (ret := (some (.array (.object "java/lang/Object")))) (by decide) rfl ?_
  intro p e s m args below meth c s₁ B hml hv
  obtain ⟨rfl, hK, hH, hTt⟩ := hv
  have hx := B.exec
  have hb := B.bytes
  have hr := B.returns
  have hts := atoms_spec (ws := wsJx4a65c_grow_92f84) B.pre
  have hown : s.vm.findClass RJx4a65c = some m.cls := findClass_of_methodNamed B.named
  have hlocks := B.notSynchronized
  have hiJx4a65c : ∀ w ∈ wsJx4a65c0, w ∈ wsJx4a65c_grow_92f84 := by decide +kernel
  have hf9 := hts (.fieldLink RJx4a65c 9 "java/util/ArrayList" "elementData" "[Ljava/lang/Object;") (by decide +kernel)
  have hl := lv_entry ([.ref a, .int (nI mn)]) (n := 4) (Nat.le_of_ble_eq_true rfl)
  rw [lg_entry_eq]
  generalize (lg_sl ([.ref a, .int (nI mn)]) ++ List.replicate (4 - (lg_sl ([.ref a, .int (nI mn)])).length) Slot.unset).toArray = ls at hl ⊢
  have hl : lv_has ls 4 [(0, .ref a), (1, .int (nI mn))] := hl
  refine lv_aload_n hx hb dJx4a65c_grow_92f84_0 rfl (lv_at hl 0 rfl) ?_
  refine x_get (C := RJx4a65c) (T := TJx4a65c) (N := 3) hx hb hts hiJx4a65c hown hK hH hc_a rfl 1 (by decide) hf9 (fun _ h => h) (v := .ref (G.2 12)) rfl dJx4a65c_grow_92f84_1 ?_
  refine va_tlen (v := 0) hx hb hTt.1.2.2.2.2.2 hH.2.1 rfl dJx4a65c_grow_92f84_4 ?_
  refine lv_istore_n (lv' := [(2, .int 0), (0, .ref a), (1, .int (nI mn))]) hx hb dJx4a65c_grow_92f84_5 rfl hl (by decide) rfl (fun ls hl => ?_)
  refine lv_iload_n hx hb dJx4a65c_grow_92f84_6 rfl (lv_at hl 0 rfl) ?_
  refine lv_if_gt (tgt := 20) hx hb dJx4a65c_grow_92f84_7 (by decide) (fun c7 => ?_) (fun c7 => ?_)
  · exact absurd c7 (by decide)
  · refine lv_aload_n hx hb dJx4a65c_grow_92f84_10 rfl (lv_at hl 1 rfl) ?_
    refine x_get (C := RJx4a65c) (T := TJx4a65c) (N := 3) hx hb hts hiJx4a65c hown hK hH hc_a rfl 1 (by decide) hf9 (fun _ h => h) (v := .ref (G.2 12)) rfl dJx4a65c_grow_92f84_11 ?_
    refine va_gets (C := "java/util/ArrayList") (n := "DEFAULTCAPACITY_EMPTY_ELEMENTDATA") (d := "[Ljava/lang/Object;") hx hb hTt.1.2.2.2.2.1 hH.2.1 hown (hts (.fieldLink RJx4a65c 39 "java/util/ArrayList" "DEFAULTCAPACITY_EMPTY_ELEMENTDATA" "[Ljava/lang/Object;") (by decide +kernel)) (fun _ h => h) dJx4a65c_grow_92f84_14 ?_
    refine lv_acmp_eq (rx := some (G.2 12)) (ry := some (G.2 12)) (tgt := 45) hx hb dJx4a65c_grow_92f84_17 (by decide) (fun _ => ?_) (fun z9 => absurd rfl z9)
    refine lv_aload_n hx hb dJx4a65c_grow_92f84_45 rfl (lv_at hl 1 rfl) ?_
    refine lv_bipush (v := 10) hx hb dJx4a65c_grow_92f84_46 (by decide) ?_
    refine lv_iload_n hx hb dJx4a65c_grow_92f84_48 rfl (lv_at hl 2 rfl) ?_
    refine va_mmax hx hb (by rw [hml]; exact hl.1.symm) hown (hts (.methodLink RJx4a65c 79 Lib.Math.max.name) (by decide +kernel)) (hts (.static Lib.Math.max.name) (by decide +kernel)) (hts (.initialized "java/lang/Math") (by decide +kernel)) (hts (.code Lib.Math.max.name Lib.Math.max.code 2 (some .int)) (by decide +kernel)) (Nat.le_of_ble_eq_true rfl) (Nat.le_of_ble_eq_true rfl) (Nat.le_of_ble_eq_true rfl) (Nat.le_of_ble_eq_true rfl) dJx4a65c_grow_92f84_49 ?_
    refine lv_topi (fun v52 ev52 => ?_)
    have hv52 : v52 = nI 10 := ev52.trans ((mx_nat (a := 10) (by omega) (by omega)).trans (congrArg nI (if_neg (by omega))))
    refine x_newq (z := 4) hx hb rfl hown (hts (.classLink RJx4a65c 7 "java/lang/Object") (by decide +kernel)) hTt.2.2.2.2.2.1 hK hH 10 hv52 (by omega) (Nat.le_of_ble_eq_true rfl) (Nat.le_of_ble_eq_true rfl) dJx4a65c_grow_92f84_52 (fun q H hq hH => ?_)
    have ne_a_q : a ≠ q := fun e9 => by rw [e9, hq] at hc_a; cases hc_a
    have ne_q_a : q ≠ a := fun e9 => ne_a_q e9.symm
    obtain ⟨w52, ew52⟩ : ∃ z, z = va_up w q (some (.inl (G.2 4, 10, .inr (.inr (.inr (.inr (fun _ => none))))))) := ⟨_, rfl⟩
    have hH : xH G A s.heap H _ (va_up w q (some (.inl (G.2 4, 10, .inr (.inr (.inr (.inr (fun _ => none)))))))) := hH
    rw [← ew52] at hH
    have hc_q : w52 q = some (.inl (G.2 4, 10, .inr (.inr (.inr (.inr (fun _ => none)))))) := by rw [ew52]; exact if_pos rfl
    have hc_a : w52 a = some (.inr (0, [.int mc, .ref (G.2 12), .int 0])) := by rw [ew52]; exact (if_neg ne_a_q).trans hc_a
    have hn_q : w q = none := hq
    have hfr : ∀ x, x ≠ a → x ≠ q → w52 x = w x := fun x z_a z_q => by rw [ew52]; exact if_neg z_q
    refine lv_dup_x1 hx hb dJx4a65c_grow_92f84_55 rfl rfl ?_
    refine x_put (C := RJx4a65c) (T := TJx4a65c) (N := 3) (ty := .array (.object "java/lang/Object")) hx hb hts hiJx4a65c tyJx4a65c tyJx4a65c_ok nmJx4a65c hown hK hH hc_a rfl 1 (by decide) hf9 (fun _ h => h) rfl (by decide +kernel) rfl rfl (Nat.le_of_ble_eq_true rfl) dJx4a65c_grow_92f84_56 (fun H locs hH => ?_)
    have hH : xH G A s.heap H locs (va_up w52 a (some (.inr (0, [.int mc, .ref q, .int 0])))) := hH
    obtain ⟨w56, ew56⟩ : ∃ z, z = va_up w52 a (some (.inr (0, [.int mc, .ref q, .int 0]))) := ⟨_, rfl⟩
    rw [← ew56] at hH
    have hc_a : w56 a = some (.inr (0, [.int mc, .ref q, .int 0])) := by rw [ew56]; exact if_pos rfl
    have hc_q : w56 q = some (.inl (G.2 4, 10, .inr (.inr (.inr (.inr (fun _ => none)))))) := by rw [ew56, show va_up w52 a _ q = w52 q from if_neg ne_q_a]; exact hc_q
    have hfr : ∀ x, x ≠ a → x ≠ q → w56 x = w x := fun x z_a z_q => by rw [ew56]; exact (if_neg z_a).trans (hfr x z_a z_q)
    refine W.widen (k := 1) (n := 300) (Nat.le_of_ble_eq_true rfl) (Nat.le_of_ble_eq_true rfl) ?_
    exact x_aret (r := some q) w56 hx hb hr hlocks (Or.inr ⟨_, rfl⟩) hK hH (⟨q, rfl, hn_q, hc_a, hc_q, hfr⟩) dJx4a65c_grow_92f84_59

set_option maxHeartbeats 4000000 in
set_option maxRecDepth 100000 in
theorem c1_Jx4a65c_grow_92f84 (l : Launch) (G : XG) (A : Nat → Prop) (w : XW) (a ed : Nat) (mc : Int32) (n cap : Nat) (fn : Nat → Option Nat) (hc_a : w a = some (.inr (0, [.int mc, .ref ed, .int (nI n)]))) (hc_ed : w ed = some (.inl (G.2 4, cap, .inr (.inr (.inr (.inr fn)))))) (mn : Nat) (mx : Nat) (hmx : mx = if 1 < cap / 2 then cap / 2 else 1) (hmx1 : 1 ≤ mx) (hmx2 : mx ≤ 100) (hmn : mn = cap + 1) (hc1 : 1 ≤ cap) (hc2 : cap < 200) (ci : Nat) (rC : vw_C) (hrC : vwCl[ci]? = some rC) (hca : ∀ U, xLs G U → va_Nw (.castable rC.1 "java/lang/Object") U) (hel : ∀ i y : Nat, fn i = some y → ∃ vs, w y = some (.inr (ci, vs))) : Met l yJx4a65c_grow_92f84 wsJx4a65c_grow_92f84 ({ frames := 3, cells := 1, slots := 300, locals := 104 }) (va_Pc [.ref a, .int (nI mn)] (xP G A (w))) (va_Qq (fun (r : Option Nat) (u : XW) => ∃ q, r = some q ∧ w q = none ∧ u a = some (.inr (0, [.int mc, .ref q, .int (nI n)])) ∧ u q = some (.inl (G.2 4, (cap + mx), .inr (.inr (.inr (.inr (va_cpy fn (fun _ => none) 0 0 cap)))))) ∧ ∀ y, y ≠ a → y ≠ q → u y = w y) (fun u t => xB G A (u) t) A) 1 300 A := by
  refine Met.ofW (cc := cJx4a65c_grow_92f84) (maxL := 4) (ret := (some (.array (.object "java/lang/Object")))) (by decide) rfl ?_
  intro p e s m args below meth c s₁ B hml hv
  obtain ⟨rfl, hK, hH, hTt⟩ := hv
  have hx := B.exec
  have hb := B.bytes
  have hr := B.returns
  have hts := atoms_spec (ws := wsJx4a65c_grow_92f84) B.pre
  have hown : s.vm.findClass RJx4a65c = some m.cls := findClass_of_methodNamed B.named
  have hlocks := B.notSynchronized
  have hiJx4a65c : ∀ w ∈ wsJx4a65c0, w ∈ wsJx4a65c_grow_92f84 := by decide +kernel
  have hf9 := hts (.fieldLink RJx4a65c 9 "java/util/ArrayList" "elementData" "[Ljava/lang/Object;") (by decide +kernel)
  have hl := lv_entry ([.ref a, .int (nI mn)]) (n := 4) (Nat.le_of_ble_eq_true rfl)
  rw [lg_entry_eq]
  generalize (lg_sl ([.ref a, .int (nI mn)]) ++ List.replicate (4 - (lg_sl ([.ref a, .int (nI mn)])).length) Slot.unset).toArray = ls at hl ⊢
  have hl : lv_has ls 4 [(0, .ref a), (1, .int (nI mn))] := hl
  have ne_a_ed : a ≠ ed := fun e9 => by rw [e9, hc_ed] at hc_a; cases hc_a
  have ne_ed_a : ed ≠ a := fun e9 => by rw [e9, hc_a] at hc_ed; cases hc_ed
  have hc_ed0 := hc_ed
  refine lv_aload_n hx hb dJx4a65c_grow_92f84_0 rfl (lv_at hl 0 rfl) ?_
  refine x_get (C := RJx4a65c) (T := TJx4a65c) (N := 3) hx hb hts hiJx4a65c hown hK hH hc_a rfl 1 (by decide) hf9 (fun _ h => h) (v := .ref ed) rfl dJx4a65c_grow_92f84_1 ?_
  refine x_alen hx hb hK hH 4 hc_ed (v := nI cap) rfl rfl dJx4a65c_grow_92f84_4 ?_
  refine lv_istore_n (lv' := [(2, .int (nI cap)), (0, .ref a), (1, .int (nI mn))]) hx hb dJx4a65c_grow_92f84_5 rfl hl (by decide) rfl (fun ls hl => ?_)
  refine lv_iload_n hx hb dJx4a65c_grow_92f84_6 rfl (lv_at hl 0 rfl) ?_
  refine lv_if_gt (tgt := 20) hx hb dJx4a65c_grow_92f84_7 (by decide) (fun c7 => ?_) (fun c7 => ?_)
  · have c7 : 0 < cap := (nI_ltI (a := 0) (b := cap) (by omega) (by omega)).mp c7
    refine lv_iload_n hx hb dJx4a65c_grow_92f84_20 rfl (lv_at hl 0 rfl) ?_
    refine lv_iload_n hx hb dJx4a65c_grow_92f84_21 rfl (lv_at hl 2 rfl) ?_
    refine lv_iload_n hx hb dJx4a65c_grow_92f84_22 rfl (lv_at hl 0 rfl) ?_
    refine N_isub hx hb mn cap rfl rfl (by omega) dJx4a65c_grow_92f84_23 ?_
    refine lv_iload_n hx hb dJx4a65c_grow_92f84_24 rfl (lv_at hl 0 rfl) ?_
    refine lv_iconst (v := 1) hx hb dJx4a65c_grow_92f84_25 (by decide) ?_
    refine lv_ishr hx hb dJx4a65c_grow_92f84_26 ?_
    refine lv_topi (fun v27 ev27 => ?_)
    have hv27 : v27 = nI (cap / 2) := ev27.trans (shr1 cap (by omega))
    subst hv27
    refine x_calli (va_runS (As := [.int (nI cap), .int (nI (mn - cap)), .int (nI (cap / 2))]) (rest := []) ⟨hx, hb, hml, hown, hts⟩ (c_J8_newLength_cabcc l G A _ cap (mn - cap) (cap / 2) mx (by rw [hmx, show mn - cap = 1 by omega]) (by omega) (by omega) (by omega) (by omega)) (va_cwS 3 hts gJx4a65c_grow_92f84_J8_newLength_cabcc rfl rfl rfl (by decide +kernel) ⟨Nat.le_of_ble_eq_true rfl, Nat.le_of_ble_eq_true rfl⟩) (x_preS hK hH hTt [.int (nI cap), .int (nI (mn - cap)), .int (nI (cap / 2))]) rfl rfl hl.1 rfl (lv_room (Nat.le_of_ble_eq_true rfl)) dJx4a65c_grow_92f84_27 ⟨Nat.le_of_ble_eq_true rfl, Nat.le_of_ble_eq_true rfl⟩) hH (fun r27 u H locs hp hH => ?_)
    subst hp
    refine lv_istore_n (lv' := [(3, .int (nI (cap + mx))), (2, .int (nI cap)), (0, .ref a), (1, .int (nI mn))]) hx hb dJx4a65c_grow_92f84_30 rfl hl (by decide) rfl (fun ls hl => ?_)
    refine lv_aload_n hx hb dJx4a65c_grow_92f84_31 rfl (lv_at hl 2 rfl) ?_
    refine lv_aload_n hx hb dJx4a65c_grow_92f84_32 rfl (lv_at hl 2 rfl) ?_
    refine x_get (C := RJx4a65c) (T := TJx4a65c) (N := 3) hx hb hts hiJx4a65c hown hK hH hc_a rfl 1 (by decide) hf9 (fun _ h => h) (v := .ref ed) rfl dJx4a65c_grow_92f84_33 ?_
    refine lv_iload_n hx hb dJx4a65c_grow_92f84_36 rfl (lv_at hl 0 rfl) ?_
    refine x_callq (va_runS (As := [.ref ed, .int (nI (cap + mx))]) (rest := [.ref a]) ⟨hx, hb, hml, hown, hts⟩ (c_J7_copyOf_1904c l G A _ ed cap fn hc_ed (cap + mx) ci rC hrC hca hel (by omega) (by omega)) (va_cwS 2 hts gJx4a65c_grow_92f84_J7_copyOf_1904c rfl rfl rfl (by decide +kernel) ⟨Nat.le_of_ble_eq_true rfl, Nat.le_of_ble_eq_true rfl⟩) (x_preS hK hH hTt [.ref ed, .int (nI (cap + mx))]) rfl rfl hl.1 rfl (lv_room (Nat.le_of_ble_eq_true rfl)) dJx4a65c_grow_92f84_37 ⟨Nat.le_of_ble_eq_true rfl, Nat.le_of_ble_eq_true rfl⟩) hH (fun r37 w37 H locs hp hH => ?_)
    have hd_a := hc_a
    have hd_ed := hc_ed
    obtain ⟨q, rfl, hq, hc_q, hfm⟩ := hp
    have ne_a_q : a ≠ q := fun e9 => by rw [e9, hq] at hd_a; cases hd_a
    have ne_q_a : q ≠ a := fun e9 => ne_a_q e9.symm
    have ne_ed_q : ed ≠ q := fun e9 => by rw [e9, hq] at hd_ed; cases hd_ed
    have ne_q_ed : q ≠ ed := fun e9 => ne_ed_q e9.symm
    have hc_a : w37 a = some (.inr (0, [.int mc, .ref ed, .int (nI n)])) := (hfm a ne_a_q).trans hc_a
    have hc_ed : w37 ed = some (.inl (G.2 4, cap, .inr (.inr (.inr (.inr fn))))) := (hfm ed ne_ed_q).trans hc_ed
    have hn_q : w q = none := hq
    have hfr : ∀ x, x ≠ a → x ≠ ed → x ≠ q → w37 x = w x := fun x z_a z_ed z_q => (hfm x z_q)
    refine lv_dup_x1 hx hb dJx4a65c_grow_92f84_40 rfl rfl ?_
    refine x_put (C := RJx4a65c) (T := TJx4a65c) (N := 3) (ty := .array (.object "java/lang/Object")) hx hb hts hiJx4a65c tyJx4a65c tyJx4a65c_ok nmJx4a65c hown hK hH hc_a rfl 1 (by decide) hf9 (fun _ h => h) rfl (by decide +kernel) rfl rfl (Nat.le_of_ble_eq_true rfl) dJx4a65c_grow_92f84_41 (fun H locs hH => ?_)
    have hH : xH G A s.heap H locs (va_up w37 a (some (.inr (0, [.int mc, .ref q, .int (nI n)])))) := hH
    obtain ⟨w41, ew41⟩ : ∃ z, z = va_up w37 a (some (.inr (0, [.int mc, .ref q, .int (nI n)]))) := ⟨_, rfl⟩
    rw [← ew41] at hH
    have hc_a : w41 a = some (.inr (0, [.int mc, .ref q, .int (nI n)])) := by rw [ew41]; exact if_pos rfl
    have hc_ed : w41 ed = some (.inl (G.2 4, cap, .inr (.inr (.inr (.inr fn))))) := by rw [ew41, show va_up w37 a _ ed = w37 ed from if_neg ne_ed_a]; exact hc_ed
    have hc_q : w41 q = some (.inl (G.2 4, (cap + mx), .inr (.inr (.inr (.inr (va_cpy fn (fun _ => none) 0 0 cap)))))) := by rw [ew41, show va_up w37 a _ q = w37 q from if_neg ne_q_a]; exact hc_q
    have hfr : ∀ x, x ≠ a → x ≠ ed → x ≠ q → w41 x = w x := fun x z_a z_ed z_q => by rw [ew41]; exact (if_neg z_a).trans (hfr x z_a z_ed z_q)
    refine W.widen (k := 1) (n := 300) (Nat.le_of_ble_eq_true rfl) (Nat.le_of_ble_eq_true rfl) ?_
    exact x_aret (r := some q) w41 hx hb hr hlocks (Or.inr ⟨_, rfl⟩) hK hH (⟨q, rfl, hn_q, hc_a, hc_q, fun y z_a z_q => if z9 : y = ed then by rw [z9, hc_ed]; exact hc_ed0.symm else hfr y z_a z9 z_q⟩) dJx4a65c_grow_92f84_44
  · have c7 : ¬ 0 < cap := fun zz => c7 ((nI_ltI (a := 0) (b := cap) (by omega) (by omega)).mpr zz)
    exact absurd (show 0 < cap by omega) c7

set_option maxHeartbeats 4000000 in
set_option maxRecDepth 100000 in
theorem c0_Jx4a65c_grow_d5877 (l : Launch) (G : XG) (A : Nat → Prop) (w : XW) (a : Nat) (mc : Int32) (hc_a : w a = some (.inr (0, [.int mc, .ref (G.2 12), .int 0])))  : Met l yJx4a65c_grow_d5877 wsJx4a65c_grow_d5877 ({ frames := 2, cells := 1, slots := 300, locals := 44 }) (va_Pc [.ref a] (xP G A (w))) (va_Qq (fun (r : Option Nat) (u : XW) => ∃ q, r = some q ∧ w q = none ∧ u a = some (.inr (0, [.int mc, .ref q, .int 0])) ∧ u q = some (.inl (G.2 4, 10, .inr (.inr (.inr (.inr (fun _ => none)))))) ∧ ∀ y, y ≠ a → y ≠ q → u y = w y) (fun u t => xB G A (u) t) A) 1 300 A := by
  refine Met.ofW (cc := cJx4a65c_grow_d5877) (maxL := 1) (ret := (some (.array (.object "java/lang/Object")))) (by decide) rfl ?_
  intro p e s m args below meth c s₁ B hml hv
  obtain ⟨rfl, hK, hH, hTt⟩ := hv
  have hx := B.exec
  have hb := B.bytes
  have hr := B.returns
  have hts := atoms_spec (ws := wsJx4a65c_grow_d5877) B.pre
  have hown : s.vm.findClass RJx4a65c = some m.cls := findClass_of_methodNamed B.named
  have hlocks := B.notSynchronized
  have hiJx4a65c : ∀ w ∈ wsJx4a65c0, w ∈ wsJx4a65c_grow_d5877 := by decide +kernel
  have hf48 := hts (.fieldLink RJx4a65c 48 "java/util/ArrayList" "size" "I") (by decide +kernel)
  have hl := lv_entry ([.ref a]) (n := 1) (Nat.le_of_ble_eq_true rfl)
  rw [lg_entry_eq]
  generalize (lg_sl ([.ref a]) ++ List.replicate (1 - (lg_sl ([.ref a])).length) Slot.unset).toArray = ls at hl ⊢
  have hl : lv_has ls 1 [(0, .ref a)] := hl
  refine lv_aload_n hx hb dJx4a65c_grow_d5877_0 rfl (lv_at hl 0 rfl) ?_
  refine lv_aload_n hx hb dJx4a65c_grow_d5877_1 rfl (lv_at hl 0 rfl) ?_
  refine x_get (C := RJx4a65c) (T := TJx4a65c) (N := 3) hx hb hts hiJx4a65c hown hK hH hc_a rfl 2 (by decide) hf48 (fun _ h => h) (v := .int 0) rfl dJx4a65c_grow_d5877_2 ?_
  refine lv_iconst (v := 1) hx hb dJx4a65c_grow_d5877_5 (by decide) ?_
  refine N_iadd hx hb 0 1 rfl rfl dJx4a65c_grow_d5877_6 ?_
  refine x_callq (va_runV (As := [.int (nI (0 + 1))]) (rest := []) ⟨hx, hb, hml, hown, hts⟩ (c0_Jx4a65c_grow_92f84 l G A _ a mc hc_a (0 + 1) (by omega)) (cwV 1 hts gJx4a65c_grow_d5877_Jx4a65c_grow_92f84 rfl rfl rfl (by decide +kernel) ⟨Nat.le_of_ble_eq_true rfl, Nat.le_of_ble_eq_true rfl⟩) (x_preV hK hH hTt (hc_a) rfl [.int (nI (0 + 1))]) rfl rfl hl.1 rfl (lv_room (Nat.le_of_ble_eq_true rfl)) dJx4a65c_grow_d5877_7 ⟨Nat.le_of_ble_eq_true rfl, Nat.le_of_ble_eq_true rfl⟩) hH (fun r7 w7 H locs hp hH => ?_)
  obtain ⟨q, rfl, hq, hc_a, hc_q, hfm⟩ := hp
  refine W.widen (k := 1) (n := 300) (Nat.le_of_ble_eq_true rfl) (Nat.le_of_ble_eq_true rfl) ?_
  exact x_aret (r := some q) w7 hx hb hr hlocks (Or.inr ⟨_, rfl⟩) hK hH (⟨q, rfl, hq, hc_a, hc_q, hfm⟩) dJx4a65c_grow_d5877_10

set_option maxHeartbeats 4000000 in
set_option maxRecDepth 100000 in
theorem c1_Jx4a65c_grow_d5877 (l : Launch) (G : XG) (A : Nat → Prop) (w : XW) (a ed : Nat) (mc : Int32) (n cap : Nat) (fn : Nat → Option Nat) (hc_a : w a = some (.inr (0, [.int mc, .ref ed, .int (nI n)]))) (hc_ed : w ed = some (.inl (G.2 4, cap, .inr (.inr (.inr (.inr fn)))))) (mx : Nat) (hmx : mx = if 1 < cap / 2 then cap / 2 else 1) (hmx1 : 1 ≤ mx) (hmx2 : mx ≤ 100) (hnc : n = cap) (hc1 : 1 ≤ cap) (hc2 : cap < 200) (ci : Nat) (rC : vw_C) (hrC : vwCl[ci]? = some rC) (hca : ∀ U, xLs G U → va_Nw (.castable rC.1 "java/lang/Object") U) (hel : ∀ i y : Nat, fn i = some y → ∃ vs, w y = some (.inr (ci, vs))) : Met l yJx4a65c_grow_d5877 wsJx4a65c_grow_d5877 ({ frames := 4, cells := 1, slots := 300, locals := 127 }) (va_Pc [.ref a] (xP G A (w))) (va_Qq (fun (r : Option Nat) (u : XW) => ∃ q, r = some q ∧ w q = none ∧ u a = some (.inr (0, [.int mc, .ref q, .int (nI n)])) ∧ u q = some (.inl (G.2 4, (cap + mx), .inr (.inr (.inr (.inr (va_cpy fn (fun _ => none) 0 0 cap)))))) ∧ ∀ y, y ≠ a → y ≠ q → u y = w y) (fun u t => xB G A (u) t) A) 1 300 A := by
  refine Met.ofW (cc := cJx4a65c_grow_d5877) (maxL := 1) (ret := (some (.array (.object "java/lang/Object")))) (by decide) rfl ?_
  intro p e s m args below meth c s₁ B hml hv
  obtain ⟨rfl, hK, hH, hTt⟩ := hv
  have hx := B.exec
  have hb := B.bytes
  have hr := B.returns
  have hts := atoms_spec (ws := wsJx4a65c_grow_d5877) B.pre
  have hown : s.vm.findClass RJx4a65c = some m.cls := findClass_of_methodNamed B.named
  have hlocks := B.notSynchronized
  have hiJx4a65c : ∀ w ∈ wsJx4a65c0, w ∈ wsJx4a65c_grow_d5877 := by decide +kernel
  have hf48 := hts (.fieldLink RJx4a65c 48 "java/util/ArrayList" "size" "I") (by decide +kernel)
  have hl := lv_entry ([.ref a]) (n := 1) (Nat.le_of_ble_eq_true rfl)
  rw [lg_entry_eq]
  generalize (lg_sl ([.ref a]) ++ List.replicate (1 - (lg_sl ([.ref a])).length) Slot.unset).toArray = ls at hl ⊢
  have hl : lv_has ls 1 [(0, .ref a)] := hl
  have ne_a_ed : a ≠ ed := fun e9 => by rw [e9, hc_ed] at hc_a; cases hc_a
  have ne_ed_a : ed ≠ a := fun e9 => by rw [e9, hc_a] at hc_ed; cases hc_ed
  refine lv_aload_n hx hb dJx4a65c_grow_d5877_0 rfl (lv_at hl 0 rfl) ?_
  refine lv_aload_n hx hb dJx4a65c_grow_d5877_1 rfl (lv_at hl 0 rfl) ?_
  refine x_get (C := RJx4a65c) (T := TJx4a65c) (N := 3) hx hb hts hiJx4a65c hown hK hH hc_a rfl 2 (by decide) hf48 (fun _ h => h) (v := .int (nI n)) rfl dJx4a65c_grow_d5877_2 ?_
  refine lv_iconst (v := 1) hx hb dJx4a65c_grow_d5877_5 (by decide) ?_
  refine N_iadd hx hb n 1 rfl rfl dJx4a65c_grow_d5877_6 ?_
  refine x_callq (va_runV (As := [.int (nI (n + 1))]) (rest := []) ⟨hx, hb, hml, hown, hts⟩ (c1_Jx4a65c_grow_92f84 l G A _ a ed mc n cap fn hc_a hc_ed (n + 1) mx hmx hmx1 hmx2 (by omega) hc1 hc2 ci rC hrC hca hel) (cwV 1 hts gJx4a65c_grow_d5877_Jx4a65c_grow_92f84 rfl rfl rfl (by decide +kernel) ⟨Nat.le_of_ble_eq_true rfl, Nat.le_of_ble_eq_true rfl⟩) (x_preV hK hH hTt (hc_a) rfl [.int (nI (n + 1))]) rfl rfl hl.1 rfl (lv_room (Nat.le_of_ble_eq_true rfl)) dJx4a65c_grow_d5877_7 ⟨Nat.le_of_ble_eq_true rfl, Nat.le_of_ble_eq_true rfl⟩) hH (fun r7 w7 H locs hp hH => ?_)
  obtain ⟨q, rfl, hq, hc_a, hc_q, hfm⟩ := hp
  refine W.widen (k := 1) (n := 300) (Nat.le_of_ble_eq_true rfl) (Nat.le_of_ble_eq_true rfl) ?_
  exact x_aret (r := some q) w7 hx hb hr hlocks (Or.inr ⟨_, rfl⟩) hK hH (⟨q, rfl, hq, hc_a, hc_q, hfm⟩) dJx4a65c_grow_d5877_10
