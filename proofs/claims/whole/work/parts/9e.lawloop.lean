theorem ci_own {G : XG} {u : XW} {a : Nat} {O : Nat → Prop} {I : Nat → Int32} {F : Nat → Nat → Int32} (h : CI G u a O I F) : ∃ O', CI G u a O' I F ∧ ∀ y, O' y → u y ≠ none := by
  obtain ⟨ad, E, cp, L, wd, bw, lb, now, ha, hO, hR, hV, hE⟩ := h
  refine ⟨own ad L, ⟨ad, E, cp, L, wd, bw, lb, now, ha, fun k i j hk => ⟨k, i, j, hk, rfl⟩, hR, hV, hE⟩, fun y hy => ?_⟩
  obtain ⟨k, i, j, hk, rfl⟩ := hy
  rw [hR.1 k i j hk]
  exact fun z => by cases z
set_option maxHeartbeats 4000000 in
set_option maxRecDepth 100000 in
/-- the law's loop -/
theorem law_loop {p : Program} {e : Env} {s : State} {m : MethodId} {below : List Frame} {meth : Method} {c : Code} (l : Launch) {b L0 : Nat} {xs : Nat → Int32} (hL : L0 ≤ 2560) (C0 : lw_At p s m meth c b L0 xs) {G : XG} {A : Nat → Prop} (hbA : ¬ A b) (hK : xK G s) (hTt : xT G A s) {ρ : Nat → Option Nat} {ad : Nat → Nat} {a : Nat} (hρ : mA ρ ad) (hA1 : ∀ q, A q → s.heap.size ≤ q) : ∀ (k n i : Nat), i = 5 * n → i ≤ L0 → L0 + 1 ≤ i + k → ∀ (b0 : XW) (O : Nat → Prop) (I : Nat → Int32) (F : Nat → Nat → Int32) (H : Heap) (locs : List Loc), xH G A s.heap H locs (mw G ρ ad b0 I F) → LI G ρ ad b0 a O I F → ∀ (ls : Array Slot), lv_has ls 4 [(0, .ref b), (1, .ref a), (2, .ref (ad 0)), (3, .int (nI i))] → W p l e room_1 s m #[Value.ref b] below meth c H locs (57 + 102 * n) (30360 + 9672 * n) (lw_Z below #[Value.ref b] s) (F0 m 18 ls []) := by
  obtain ⟨hx, hb, hr, hml, hown, hts, hX, hbl, hlocks, hgv⟩ := id C0
  have hown : s.vm.findClass RL = some m.cls := hown
  intro k
  induction k with
  | zero =>
    intro n i h1 h2 h3
    exact absurd h3 (by omega)
  | succ k ih =>
    intro n i hi hiL hk b0 O I F H locs hH hI ls hl
    refine lv_iload_n hx hb dL_law_18 rfl (lv_at hl 3 rfl) ?_
    refine lv_aload_n hx hb dL_law_19 rfl (lv_at hl 0 rfl) ?_
    refine va_slen hx hb hX hbl hbA hH.2.1 dL_law_20 ?_
    refine lv_iconst (v := 5) hx hb dL_law_21 (by decide) ?_
    refine lv_isub hx hb dL_law_22 ?_
    refine lv_icmp_gt (tgt := 710) hx hb dL_law_23 (by decide) (fun c1 => ?_) (fun c1 => ?_)
    · refine lv_iconst (v := 1) hx hb dL_law_710 (by decide) ?_
      refine va_forget (fun q hq => hA1 _ (hH.2.1.2.2 q hq)) ?_
      refine W.widen (k := 600000) (n := 7302250) (by omega) (by omega) ?_
      exact lw_ret hx hb hr hlocks dL_law_711
    · have hn : i + 5 ≤ L0 := law_le hL (by omega) c1
      have kk : ∀ (b1 : XW) (O1 : Nat → Prop) (I1 : Nat → Int32) (F1 : Nat → Nat → Int32) (H1 : Heap) (locs1 : List Loc), xH G A s.heap H1 locs1 (mw G ρ ad b1 I1 F1) → LI G ρ ad b1 a O1 I1 F1 → W p l e room_1 s m #[Value.ref b] below meth c H1 locs1 (57 + 102 * (n + 1)) (30360 + 9672 * (n + 1)) (lw_Z below #[Value.ref b] s) (F0 m 704 ls []) := fun b1 O1 I1 F1 H1 locs1 hH1 hI1 => by
        refine lv_iinc (v := nI (i + 5)) (lv' := [(3, .int (nI (i + 5))), (0, .ref b), (1, .ref a), (2, .ref (ad 0))]) hx hb dL_law_704 hl (k := 3) rfl (by exact nI_add _ 5) (by decide) rfl (fun ls hl => ?_)
        refine lv_goto (tgt := 18) hx hb dL_law_707 (by decide) ?_
        exact ih (n + 1) (i + 5) (by omega) hn (by omega) b1 O1 I1 F1 H1 locs1 hH1 hI1 ls (lv_sub hl [1, 2, 3, 0] rfl)
      refine lv_aload_n hx hb dL_law_26 rfl (lv_at hl 0 rfl) ?_
      refine lv_iload_n hx hb dL_law_27 rfl (lv_at hl 3 rfl) ?_
      refine va_sld hx hb hX hbl hbA hH.2.1 (vI_in (j := i) rfl (by omega) (by omega)) dL_law_28 ?_
      refine lv_bipush (v := 31) hx hb dL_law_29 (by decide) ?_
      refine lv_iand hx hb dL_law_31 ?_
      refine lv_topi (fun v ev => ?_)
      by_cases q0 : v = 0
      · subst q0
        refine lv_tableIn (tgt := 120) (off := 88) hx hb dL_law_32 (by decide) (by decide) (by decide) (by decide) ?_
        exact law_tree l hL C0 hbA hK hTt hρ hi hn hH hI hl kk
      by_cases q1 : v = 1
      · subst q1
        refine lv_tableIn (tgt := 163) (off := 131) hx hb dL_law_32 (by decide) (by decide) (by decide) (by decide) ?_
        exact law_bears l hL C0 hbA hK hTt hρ hi hn hH hI hl kk
      by_cases q2 : v = 2
      · subst q2
        refine lv_tableIn (tgt := 186) (off := 154) hx hb dL_law_32 (by decide) (by decide) (by decide) (by decide) ?_
        exact law_weather l hL C0 hbA hK hTt hρ hi hn hH hI hl kk
      by_cases q3 : v = 3
      · subst q3
        refine lv_tableIn (tgt := 239) (off := 207) hx hb dL_law_32 (by decide) (by decide) (by decide) (by decide) ?_
        exact law_cut l hL C0 hbA hK hTt hρ hi hn hH hI hl kk
      by_cases q4 : v = 4
      · subst q4
        refine lv_tableIn (tgt := 272) (off := 240) hx hb dL_law_32 (by decide) (by decide) (by decide) (by decide) ?_
        exact law_rests l hL C0 hbA hK hTt hρ hi hn hH hI hl kk
      by_cases q5 : v = 5
      · subst q5
        refine lv_tableIn (tgt := 295) (off := 263) hx hb dL_law_32 (by decide) (by decide) (by decide) (by decide) ?_
        exact law_go l hL C0 hbA hK hTt hρ hi hn hH hI hl kk
      by_cases q6 : v = 6
      · subst q6
        refine lv_tableIn (tgt := 318) (off := 286) hx hb dL_law_32 (by decide) (by decide) (by decide) (by decide) ?_
        exact law_face l hL C0 hbA hK hTt hρ hi hn hH hI hl kk
      by_cases q7 : v = 7
      · subst q7
        refine lv_tableIn (tgt := 361) (off := 329) hx hb dL_law_32 (by decide) (by decide) (by decide) (by decide) ?_
        exact law_empty l hL C0 hbA hK hTt hρ hi hn hH hI hl kk
      by_cases q8 : v = 8
      · subst q8
        refine lv_tableIn (tgt := 384) (off := 352) hx hb dL_law_32 (by decide) (by decide) (by decide) (by decide) ?_
        exact law_barrel l hL C0 hbA hK hTt hρ hi hn hH hI hl kk
      by_cases q9 : v = 9
      · subst q9
        refine lv_tableIn (tgt := 417) (off := 385) hx hb dL_law_32 (by decide) (by decide) (by decide) (by decide) ?_
        exact law_from l hL C0 hbA hK hTt hρ hi hn hH hI hl kk
      by_cases q10 : v = 10
      · subst q10
        refine lv_tableIn (tgt := 450) (off := 418) hx hb dL_law_32 (by decide) (by decide) (by decide) (by decide) ?_
        exact law_still l hL C0 hbA hK hTt hρ hi hn hH hI hl kk
      by_cases q11 : v = 11
      · subst q11
        refine lv_tableIn (tgt := 473) (off := 441) hx hb dL_law_32 (by decide) (by decide) (by decide) (by decide) ?_
        exact law_let l hL C0 hbA hK hTt hρ hi hn hH hI hl kk
      by_cases q12 : v = 12
      · subst q12
        refine lv_tableIn (tgt := 506) (off := 474) hx hb dL_law_32 (by decide) (by decide) (by decide) (by decide) ?_
        exact law_due l hL C0 hbA hK hTt hρ hi hn hH hI hl kk
      by_cases q13 : v = 13
      · subst q13
        refine lv_tableIn (tgt := 529) (off := 497) hx hb dL_law_32 (by decide) (by decide) (by decide) (by decide) ?_
        exact law_pay l hL C0 hbA hK hTt hρ hi hn hH hI hl kk
      by_cases q14 : v = 14
      · subst q14
        refine lv_tableIn (tgt := 552) (off := 520) hx hb dL_law_32 (by decide) (by decide) (by decide) (by decide) ?_
        exact law_burn l hL C0 hbA hK hTt hρ hi hn hH hI hl kk
      by_cases q15 : v = 15
      · subst q15
        refine lv_tableIn (tgt := 575) (off := 543) hx hb dL_law_32 (by decide) (by decide) (by decide) (by decide) ?_
        exact law_walk l hL C0 hbA hK hTt hρ hi hn hH hI hl kk
      by_cases q16 : v = 16
      · subst q16
        refine lv_tableIn (tgt := 628) (off := 596) hx hb dL_law_32 (by decide) (by decide) (by decide) (by decide) ?_
        exact law_walked l hL C0 hbA hK hTt hρ hi hn hH hI hl kk
      by_cases q17 : v = 17
      · subst q17
        refine lv_tableIn (tgt := 681) (off := 649) hx hb dL_law_32 (by decide) (by decide) (by decide) (by decide) ?_
        exact law_count l hL C0 hbA hK hTt hρ hi hn hH hI hl kk
      refine lv_tableOut (tgt := 704) hx hb dL_law_32 (swOut 17 (fun k hk => by rcases (show k = 0 ∨ k = 1 ∨ k = 2 ∨ k = 3 ∨ k = 4 ∨ k = 5 ∨ k = 6 ∨ k = 7 ∨ k = 8 ∨ k = 9 ∨ k = 10 ∨ k = 11 ∨ k = 12 ∨ k = 13 ∨ k = 14 ∨ k = 15 ∨ k = 16 ∨ k = 17 by omega) with rfl | rfl | rfl | rfl | rfl | rfl | rfl | rfl | rfl | rfl | rfl | rfl | rfl | rfl | rfl | rfl | rfl | rfl <;> assumption)) (by decide) ?_
      refine W.widen (k := 57 + 102 * (n + 1)) (n := 30360 + 9672 * (n + 1)) (by omega) (by omega) ?_
      exact kk b0 O I F H locs hH hI
set_option maxHeartbeats 4000000 in
set_option maxRecDepth 100000 in
/-- from the entry, for every script of at most 2560 ints, the law comes to its end with true -/
theorem whole_start {p : Program} {e : Env} {s : State} {m : MethodId} {below : List Frame} {meth : Method} {c : Code} (l : Launch) {b L : Nat} {xs : Nat → Int32} (hL : L ≤ 2560) (C0 : lw_At p s m meth c b L xs) : W p l e room_1 s m #[Value.ref b] below meth c s.heap [] 0 0 (lw_Z below #[Value.ref b] s) (entryFrame m ([Value.ref b] : List Value).toArray 4) := by
  obtain ⟨hx, hb, hr, hml, hown, hts, hX, hbl, hlocks, hgv⟩ := id C0
  obtain ⟨G, hK, hTt⟩ := law_entry hts hgv
  obtain ⟨A, hAe⟩ : ∃ A : Nat → Prop, A = fun q : Nat => s.heap.size ≤ q := ⟨_, rfl⟩
  rw [← hAe] at hTt
  have hbA : ¬ A b := by rw [hAe]; exact Nat.not_le.mpr hbl
  have hA1 : ∀ q, A q → s.heap.size ≤ q := by rw [hAe]; exact fun _ h => h
  have hA2 : ∀ q, s.heap.size ≤ q → A q := by rw [hAe]; exact fun _ h => h
  have hH : xH G A s.heap s.heap [] (fun _ => none) := ⟨hA2, va_S.rf, [], fun k q h => by simp at h, ⟨fun i j p q h => by simp at h, fun k q h => by simp at h⟩, fun a e => ⟨fun h => by obtain ⟨k, hk⟩ := h; simp at hk, fun h => by cases h⟩⟩
  have tb : ∀ (i : Nat) {w : Cond}, lw_tbl[i]? = some w → w.before #[Value.ref b] s = true := fun i w h => hts w (List.mem_of_getElem? h)
  have htl : ∀ w ∈ wsL_law, w.before #[Value.ref b] s = true := fun w h => hts w (wsL_law_in w h)
  have hown : s.vm.findClass RL = some m.cls := hown
  have hl := lv_entry ([.ref b]) (n := 4) (Nat.le_of_ble_eq_true rfl)
  rw [lg_entry_eq]
  generalize (lg_sl ([.ref b]) ++ List.replicate (4 - (lg_sl ([.ref b])).length) Slot.unset).toArray = ls at hl ⊢
  have hl : lv_has ls 4 [(0, .ref b)] := hl
  refine x_new (C := RX6) (T := TX6) (N := 12) (ci := 7) (fs := [.null, .null, .null, .null, .null, .null, .null, .int 0, .int 0, .int 0, .int 0, .int 0]) hx hb hts inX6 tyX6 tyX6_ok hown (tb 49 (by decide +kernel) : (Cond.classLink RL 7 RX6).before #[Value.ref b] s = true) (tb 50 (by decide +kernel) : (Cond.instantiable RX6 12).before #[Value.ref b] s = true) (tb 31 (by decide +kernel) : (Cond.initialized RX6).before #[Value.ref b] s = true) hK hH rfl (by decide +kernel) (Nat.le_of_ble_eq_true rfl) (Nat.le_of_ble_eq_true rfl) dL_law_0 (fun a H ha hH => ?_)
  refine lv_dup hx hb dL_law_3 rfl ?_
  obtain ⟨w0, ew0⟩ : ∃ z : XW, z = va_up (fun _ => none) a (some (.inr (7, [.null, .null, .null, .null, .null, .null, .null, .int 0, .int 0, .int 0, .int 0, .int 0]))) := ⟨_, rfl⟩
  have hH : xH G A s.heap H [] (va_up (fun _ => none) a (some (.inr (7, [.null, .null, .null, .null, .null, .null, .null, .int 0, .int 0, .int 0, .int 0, .int 0])))) := hH
  rw [← ew0] at hH
  have hc_a : w0 a = some (.inr (7, [.null, .null, .null, .null, .null, .null, .null, .int 0, .int 0, .int 0, .int 0, .int 0])) := by rw [ew0]; exact if_pos rfl
  refine x_callv (va_runI (As := []) (rest := [.ref a]) ⟨hx, hb, hml, hown, htl⟩ (c_X6_init l G A w0 a hc_a) (cwI 0 htl gL_law_X6_init rfl rfl rfl (tb 31 (by decide +kernel) : (Cond.initialized RX6).before #[Value.ref b] s = true) (tb 51 (by decide +kernel) : (Cond.methodLink RL 9 yX6_init).before #[Value.ref b] s = true) (tb 52 (by decide +kernel) : (Cond.instanceMethod yX6_init).before #[Value.ref b] s = true) rfl (by decide +kernel) ⟨Nat.le_of_ble_eq_true rfl, Nat.le_of_ble_eq_true rfl⟩) (x_preS hK hH hTt [.ref a]) rfl rfl hl.1 rfl (lv_room (Nat.le_of_ble_eq_true rfl)) dL_law_4 ⟨Nat.le_of_ble_eq_true rfl, Nat.le_of_ble_eq_true rfl⟩) hH (fun u H locs hp hH => ?_)
  obtain ⟨O0, hC0, -, -⟩ := hp
  obtain ⟨O1, hC1, hO1⟩ := ci_own hC0
  have hH : xH G A s.heap H locs u := hH
  refine lv_astore_n (lv' := [(1, .ref a), (0, .ref b)]) hx hb dL_law_7 rfl hl (by decide) rfl (fun ls hl => ?_)
  refine x_new (C := RX7) (T := TX7) (N := 39) (ci := 8) (fs := mdef) hx hb hts inX7 tyX7 tyX7_ok hown (tb 715 (by decide +kernel) : (Cond.classLink RL 10 RX7).before #[Value.ref b] s = true) (tb 716 (by decide +kernel) : (Cond.instantiable RX7 39).before #[Value.ref b] s = true) (tb 39 (by decide +kernel) : (Cond.initialized RX7).before #[Value.ref b] s = true) hK hH rfl (by decide +kernel) (Nat.le_of_ble_eq_true rfl) (Nat.le_of_ble_eq_true rfl) dL_law_8 (fun h2 H hh2 hH => ?_)
  refine lv_dup hx hb dL_law_11 rfl ?_
  refine x_callv (va_runI (As := []) (rest := [.ref h2]) ⟨hx, hb, hml, hown, htl⟩ (c_X7_init l G A u h2 hh2) (cwI 0 htl gL_law_X7_init rfl rfl rfl (tb 39 (by decide +kernel) : (Cond.initialized RX7).before #[Value.ref b] s = true) (tb 717 (by decide +kernel) : (Cond.methodLink RL 12 yX7_init).before #[Value.ref b] s = true) (tb 718 (by decide +kernel) : (Cond.instanceMethod yX7_init).before #[Value.ref b] s = true) rfl (by decide +kernel) ⟨Nat.le_of_ble_eq_true rfl, Nat.le_of_ble_eq_true rfl⟩) (x_preS hK hH hTt [.ref h2]) rfl rfl hl.1 rfl (lv_room (Nat.le_of_ble_eq_true rfl)) dL_law_12 ⟨Nat.le_of_ble_eq_true rfl, Nat.le_of_ble_eq_true rfl⟩) hH (fun v H locs hp hH => ?_)
  obtain ⟨hρ, h20, hno⟩ := hp
  have hHf : xH G A s.heap H locs (mw G v.1 v.2 u (fun _ => 0) (w5 3650)) := hH
  subst h20
  have hOn : ∀ y, O1 y → v.1 y = none := fun y hy => by
    cases hr : v.1 y with
    | none => rfl
    | some k => exact absurd (hno y k hr) (hO1 y hy)
  have hLI : LI G v.1 v.2 u a O1 (fun _ => 0) (w5 3650) := ⟨ci_agree hC1 (fun y hy => mw_out (hOn y hy)), hOn⟩
  refine lv_astore_n (lv' := [(2, .ref (v.2 0)), (1, .ref a), (0, .ref b)]) hx hb dL_law_15 rfl hl (by decide) rfl (fun ls hl => ?_)
  refine lv_iconst (v := 0) hx hb dL_law_16 (by decide) ?_
  refine lv_istore_n (lv' := [(3, .int 0), (2, .ref (v.2 0)), (1, .ref a), (0, .ref b)]) hx hb dL_law_17 rfl hl (by decide) rfl (fun ls hl => ?_)
  refine W.widen (k := 57 + 102 * 0) (n := 30360 + 9672 * 0) (by decide) (by decide) ?_
  exact law_loop l hL C0 hbA hK hTt hρ hA1 (L + 1) 0 0 rfl (Nat.zero_le _) (by omega) u O1 _ _ _ _ hHf hLI ls (lv_sub hl [3, 2, 1, 0] rfl)
