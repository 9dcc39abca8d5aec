set_option maxHeartbeats 4000000 in
set_option maxRecDepth 100000 in
theorem law_tree {p : Program} {e : Env} {s : State} {m : MethodId} {below : List Frame} {meth : Method} {c : Code} (l : Launch) {b L0 : Nat} {xs : Nat → Int32} (hL : L0 ≤ 2560) (C0 : lw_At p s m meth c b L0 xs) {G : XG} {A : Nat → Prop} (hbA : ¬ A b) (hK : xK G s) (hTt : xT G A s) {ρ : Nat → Option Nat} {ad : Nat → Nat} {a : Nat} (hρ : mA ρ ad) {n i : Nat} (hi : i = 5 * n) (hn : i + 5 ≤ L0) {b0 : XW} {O : Nat → Prop} {I : Nat → Int32} {F : Nat → Nat → Int32} {H : Heap} {locs : List Loc} (hH : xH G A s.heap H locs (mw G ρ ad b0 I F)) (hI : LI G ρ ad b0 a O I F) {ls : Array Slot} (hl : lv_has ls 4 [(0, .ref b), (1, .ref a), (2, .ref (ad 0)), (3, .int (nI i))]) (kk : ∀ (b1 : XW) (O1 : Nat → Prop) (I1 : Nat → Int32) (F1 : Nat → Nat → Int32) (H1 : Heap) (locs1 : List Loc), xH G A s.heap H1 locs1 (mw G ρ ad b1 I1 F1) → LI G ρ ad b1 a O1 I1 F1 → W p l e room_1 s m #[Value.ref b] below meth c H1 locs1 (57 + 102 * (n + 1)) (30360 + 9672 * (n + 1)) (lw_Z below #[Value.ref b] s) (F0 m 704 ls [])) : W p l e room_1 s m #[Value.ref b] below meth c H locs (57 + 102 * n) (30360 + 9672 * n) (lw_Z below #[Value.ref b] s) (F0 m 120 ls []) := by
  obtain ⟨hx, hb, hr, hml, hown, hts, hX, hbl, hlocks, hgv⟩ := C0
  have hown : s.vm.findClass RL = some m.cls := hown
  have htl : ∀ w ∈ wsL_law, w.before #[Value.ref b] s = true := fun w h => hts w (wsL_law_in w h)
  obtain ⟨⟨ady, E, cp, L, wd, bw, lb, now, ha, hO2, hR, hV, hE⟩, hO⟩ := id hI
  have hOw : ∀ y, own ady L y → O y := fun y hy => by obtain ⟨k9, i9, j9, h9, e9⟩ := hy; rw [e9]; exact hO2 k9 i9 j9 h9
  have hc_a := hR.root
  rw [← ha] at hc_a
  refine lv_aload_n hx hb dL_law_120 rfl (lv_at hl 1 rfl) ?_
  refine lv_aload_n hx hb dL_law_121 rfl (lv_at hl 0 rfl) ?_
  refine lv_iload_n hx hb dL_law_122 rfl (lv_at hl 3 rfl) ?_
  refine lv_iconst (v := 1) hx hb dL_law_123 (by decide) ?_
  refine N_iadd hx hb i 1 rfl rfl dL_law_124 ?_
  refine va_sld hx hb hX hbl hbA hH.2.1 (vI_in (j := i + 1) rfl (by omega) (by omega)) dL_law_125 ?_
  refine lv_topi (fun y1 ey1 => ?_)
  refine lv_aload_n hx hb dL_law_126 rfl (lv_at hl 0 rfl) ?_
  refine lv_iload_n hx hb dL_law_127 rfl (lv_at hl 3 rfl) ?_
  refine lv_iconst (v := 2) hx hb dL_law_128 (by decide) ?_
  refine N_iadd hx hb i 2 rfl rfl dL_law_129 ?_
  refine va_sld hx hb hX hbl hbA hH.2.1 (vI_in (j := i + 2) rfl (by omega) (by omega)) dL_law_130 ?_
  refine lv_topi (fun y2 ey2 => ?_)
  refine lv_aload_n hx hb dL_law_131 rfl (lv_at hl 0 rfl) ?_
  refine lv_iload_n hx hb dL_law_132 rfl (lv_at hl 3 rfl) ?_
  refine lv_iconst (v := 3) hx hb dL_law_133 (by decide) ?_
  refine N_iadd hx hb i 3 rfl rfl dL_law_134 ?_
  refine va_sld hx hb hX hbl hbA hH.2.1 (vI_in (j := i + 3) rfl (by omega) (by omega)) dL_law_135 ?_
  refine lv_topi (fun y3 ey3 => ?_)
  refine x_calli (va_runV (As := [.int y1, .int y2, .int y3]) (rest := []) ⟨hx, hb, hml, hown, htl⟩ (c_X6_tree l G A _ a ady E cp L wd bw lb I F hc_a now hR hV ha hE y1 y2 y3) (cwV 3 htl gL_law_X6_tree rfl rfl rfl (by decide +kernel) ⟨Nat.le_of_ble_eq_true rfl, Nat.le_of_ble_eq_true rfl⟩) (x_preV hK hH hTt hc_a rfl [.int y1, .int y2, .int y3]) rfl rfl hl.1 rfl (lv_room (Nat.le_of_ble_eq_true rfl)) dL_law_136 ⟨by show _ ≤ 600000; omega, by show _ ≤ 7302250; omega⟩) hH (fun r6 u H1 locs1 hp hH1 => ?_)
  obtain ⟨er, hx1⟩ := hp
  obtain ⟨eu, O1, hI1⟩ := hI.step hOw hx1
  have hH1 : xH G A s.heap H1 locs1 (mw G ρ ad u I F) := xH_of hH1 eu
  refine lv_aload_n hx hb dL_law_139 rfl (lv_at hl 2 rfl) ?_
  refine lv_aload_n hx hb dL_law_140 rfl (lv_at hl 0 rfl) ?_
  refine lv_iload_n hx hb dL_law_141 rfl (lv_at hl 3 rfl) ?_
  refine lv_iconst (v := 1) hx hb dL_law_142 (by decide) ?_
  refine N_iadd hx hb i 1 rfl rfl dL_law_143 ?_
  refine va_sld hx hb hX hbl hbA hH1.2.1 (vI_in (j := i + 1) rfl (by omega) (by omega)) dL_law_144 ?_
  refine lv_topi (fun z1 ez1 => ?_)
  refine lv_aload_n hx hb dL_law_145 rfl (lv_at hl 0 rfl) ?_
  refine lv_iload_n hx hb dL_law_146 rfl (lv_at hl 3 rfl) ?_
  refine lv_iconst (v := 2) hx hb dL_law_147 (by decide) ?_
  refine N_iadd hx hb i 2 rfl rfl dL_law_148 ?_
  refine va_sld hx hb hX hbl hbA hH1.2.1 (vI_in (j := i + 2) rfl (by omega) (by omega)) dL_law_149 ?_
  refine lv_topi (fun z2 ez2 => ?_)
  refine lv_aload_n hx hb dL_law_150 rfl (lv_at hl 0 rfl) ?_
  refine lv_iload_n hx hb dL_law_151 rfl (lv_at hl 3 rfl) ?_
  refine lv_iconst (v := 3) hx hb dL_law_152 (by decide) ?_
  refine N_iadd hx hb i 3 rfl rfl dL_law_153 ?_
  refine va_sld hx hb hX hbl hbA hH1.2.1 (vI_in (j := i + 3) rfl (by omega) (by omega)) dL_law_154 ?_
  refine lv_topi (fun z3 ez3 => ?_)
  obtain rfl : y1 = z1 := ey1.trans ez1.symm
  obtain rfl : y2 = z2 := ey2.trans ez2.symm
  obtain rfl : y3 = z3 := ey3.trans ez3.symm
  refine x_calli (va_runV (As := [.int y1, .int y2, .int y3]) (rest := [.int r6]) ⟨hx, hb, hml, hown, htl⟩ (c_X7_tree l G A ρ ad u I F hρ (L 0) (iv_3 hV) (iv_60 hV) y1 y2 y3) (cwV 3 htl gL_law_X7_tree rfl rfl rfl (by decide +kernel) ⟨Nat.le_of_ble_eq_true rfl, Nat.le_of_ble_eq_true rfl⟩) (x_preV hK hH1 hTt (mw_ob hρ) rfl [.int y1, .int y2, .int y3]) rfl rfl hl.1 rfl (lv_room (Nat.le_of_ble_eq_true rfl)) dL_law_155 ⟨by show _ ≤ 600000; omega, by show _ ≤ 7302250; omega⟩) hH1 (fun r7 v H2 locs2 hq hH2 => ?_)
  have hH2 : xH G A s.heap H2 locs2 (mw G ρ ad u v.1 v.2) := hH2
  have e7 := congrArg Prod.fst hq
  have ev := congrArg Prod.snd hq
  have ev : v = (sTree I F (L 0) y1 y2 y3).2 := ev
  subst ev
  refine lv_icmp_eq (tgt := 704) hx hb dL_law_158 (by decide) (fun c1 => ?_) (fun c1 => ?_)
  · refine W.widen (k := 57 + 102 * (n + 1)) (n := 30360 + 9672 * (n + 1)) (by omega) (by omega) ?_
    exact kk u O1 _ _ H2 locs2 hH2 hI1
  · exact absurd (er.trans e7.symm) c1

set_option maxHeartbeats 4000000 in
set_option maxRecDepth 100000 in
theorem law_bears {p : Program} {e : Env} {s : State} {m : MethodId} {below : List Frame} {meth : Method} {c : Code} (l : Launch) {b L0 : Nat} {xs : Nat → Int32} (hL : L0 ≤ 2560) (C0 : lw_At p s m meth c b L0 xs) {G : XG} {A : Nat → Prop} (hbA : ¬ A b) (hK : xK G s) (hTt : xT G A s) {ρ : Nat → Option Nat} {ad : Nat → Nat} {a : Nat} (hρ : mA ρ ad) {n i : Nat} (hi : i = 5 * n) (hn : i + 5 ≤ L0) {b0 : XW} {O : Nat → Prop} {I : Nat → Int32} {F : Nat → Nat → Int32} {H : Heap} {locs : List Loc} (hH : xH G A s.heap H locs (mw G ρ ad b0 I F)) (hI : LI G ρ ad b0 a O I F) {ls : Array Slot} (hl : lv_has ls 4 [(0, .ref b), (1, .ref a), (2, .ref (ad 0)), (3, .int (nI i))]) (kk : ∀ (b1 : XW) (O1 : Nat → Prop) (I1 : Nat → Int32) (F1 : Nat → Nat → Int32) (H1 : Heap) (locs1 : List Loc), xH G A s.heap H1 locs1 (mw G ρ ad b1 I1 F1) → LI G ρ ad b1 a O1 I1 F1 → W p l e room_1 s m #[Value.ref b] below meth c H1 locs1 (57 + 102 * (n + 1)) (30360 + 9672 * (n + 1)) (lw_Z below #[Value.ref b] s) (F0 m 704 ls [])) : W p l e room_1 s m #[Value.ref b] below meth c H locs (57 + 102 * n) (30360 + 9672 * n) (lw_Z below #[Value.ref b] s) (F0 m 163 ls []) := by
  obtain ⟨hx, hb, hr, hml, hown, hts, hX, hbl, hlocks, hgv⟩ := C0
  have hown : s.vm.findClass RL = some m.cls := hown
  have htl : ∀ w ∈ wsL_law, w.before #[Value.ref b] s = true := fun w h => hts w (wsL_law_in w h)
  obtain ⟨⟨ady, E, cp, L, wd, bw, lb, now, ha, hO2, hR, hV, hE⟩, hO⟩ := id hI
  have hOw : ∀ y, own ady L y → O y := fun y hy => by obtain ⟨k9, i9, j9, h9, e9⟩ := hy; rw [e9]; exact hO2 k9 i9 j9 h9
  have hc_a := hR.root
  rw [← ha] at hc_a
  refine lv_aload_n hx hb dL_law_163 rfl (lv_at hl 1 rfl) ?_
  refine lv_aload_n hx hb dL_law_164 rfl (lv_at hl 0 rfl) ?_
  refine lv_iload_n hx hb dL_law_165 rfl (lv_at hl 3 rfl) ?_
  refine lv_iconst (v := 1) hx hb dL_law_166 (by decide) ?_
  refine N_iadd hx hb i 1 rfl rfl dL_law_167 ?_
  refine va_sld hx hb hX hbl hbA hH.2.1 (vI_in (j := i + 1) rfl (by omega) (by omega)) dL_law_168 ?_
  refine lv_topi (fun y1 ey1 => ?_)
  refine x_calli (va_runV (As := [.int y1]) (rest := []) ⟨hx, hb, hml, hown, htl⟩ (c_X6_bears l G A _ a y1) (cwV 1 htl gL_law_X6_bears rfl rfl rfl (by decide +kernel) ⟨Nat.le_of_ble_eq_true rfl, Nat.le_of_ble_eq_true rfl⟩) (x_preV hK hH hTt hc_a rfl [.int y1]) rfl rfl hl.1 rfl (lv_room (Nat.le_of_ble_eq_true rfl)) dL_law_169 ⟨by show _ ≤ 600000; omega, by show _ ≤ 7302250; omega⟩) hH (fun r6 u H1 locs1 hp hH1 => ?_)
  have er := hp
  have hH1 : xH G A s.heap H1 locs1 (mw G ρ ad b0 I F) := hH1
  refine lv_aload_n hx hb dL_law_172 rfl (lv_at hl 2 rfl) ?_
  refine lv_aload_n hx hb dL_law_173 rfl (lv_at hl 0 rfl) ?_
  refine lv_iload_n hx hb dL_law_174 rfl (lv_at hl 3 rfl) ?_
  refine lv_iconst (v := 1) hx hb dL_law_175 (by decide) ?_
  refine N_iadd hx hb i 1 rfl rfl dL_law_176 ?_
  refine va_sld hx hb hX hbl hbA hH1.2.1 (vI_in (j := i + 1) rfl (by omega) (by omega)) dL_law_177 ?_
  refine lv_topi (fun z1 ez1 => ?_)
  obtain rfl : y1 = z1 := ey1.trans ez1.symm
  refine x_calli (va_runV (As := [.int y1]) (rest := [.int r6]) ⟨hx, hb, hml, hown, htl⟩ (c_X7_bears l G A ρ ad b0 I F hρ  y1) (cwV 1 htl gL_law_X7_bears rfl rfl rfl (by decide +kernel) ⟨Nat.le_of_ble_eq_true rfl, Nat.le_of_ble_eq_true rfl⟩) (x_preV hK hH1 hTt (mw_ob hρ) rfl [.int y1]) rfl rfl hl.1 rfl (lv_room (Nat.le_of_ble_eq_true rfl)) dL_law_178 ⟨by show _ ≤ 600000; omega, by show _ ≤ 7302250; omega⟩) hH1 (fun r7 v H2 locs2 hq hH2 => ?_)
  have hH2 : xH G A s.heap H2 locs2 (mw G ρ ad b0 v.1 v.2) := hH2
  obtain ⟨e7, ev⟩ := hq
  subst ev
  refine lv_icmp_eq (tgt := 704) hx hb dL_law_181 (by decide) (fun c1 => ?_) (fun c1 => ?_)
  · refine W.widen (k := 57 + 102 * (n + 1)) (n := 30360 + 9672 * (n + 1)) (by omega) (by omega) ?_
    exact kk b0 O I F H2 locs2 hH2 hI
  · exact absurd (er.trans e7.symm) c1

set_option maxHeartbeats 4000000 in
set_option maxRecDepth 100000 in
theorem law_weather {p : Program} {e : Env} {s : State} {m : MethodId} {below : List Frame} {meth : Method} {c : Code} (l : Launch) {b L0 : Nat} {xs : Nat → Int32} (hL : L0 ≤ 2560) (C0 : lw_At p s m meth c b L0 xs) {G : XG} {A : Nat → Prop} (hbA : ¬ A b) (hK : xK G s) (hTt : xT G A s) {ρ : Nat → Option Nat} {ad : Nat → Nat} {a : Nat} (hρ : mA ρ ad) {n i : Nat} (hi : i = 5 * n) (hn : i + 5 ≤ L0) {b0 : XW} {O : Nat → Prop} {I : Nat → Int32} {F : Nat → Nat → Int32} {H : Heap} {locs : List Loc} (hH : xH G A s.heap H locs (mw G ρ ad b0 I F)) (hI : LI G ρ ad b0 a O I F) {ls : Array Slot} (hl : lv_has ls 4 [(0, .ref b), (1, .ref a), (2, .ref (ad 0)), (3, .int (nI i))]) (kk : ∀ (b1 : XW) (O1 : Nat → Prop) (I1 : Nat → Int32) (F1 : Nat → Nat → Int32) (H1 : Heap) (locs1 : List Loc), xH G A s.heap H1 locs1 (mw G ρ ad b1 I1 F1) → LI G ρ ad b1 a O1 I1 F1 → W p l e room_1 s m #[Value.ref b] below meth c H1 locs1 (57 + 102 * (n + 1)) (30360 + 9672 * (n + 1)) (lw_Z below #[Value.ref b] s) (F0 m 704 ls [])) : W p l e room_1 s m #[Value.ref b] below meth c H locs (57 + 102 * n) (30360 + 9672 * n) (lw_Z below #[Value.ref b] s) (F0 m 186 ls []) := by
  obtain ⟨hx, hb, hr, hml, hown, hts, hX, hbl, hlocks, hgv⟩ := C0
  have hown : s.vm.findClass RL = some m.cls := hown
  have htl : ∀ w ∈ wsL_law, w.before #[Value.ref b] s = true := fun w h => hts w (wsL_law_in w h)
  obtain ⟨⟨ady, E, cp, L, wd, bw, lb, now, ha, hO2, hR, hV, hE⟩, hO⟩ := id hI
  have hOw : ∀ y, own ady L y → O y := fun y hy => by obtain ⟨k9, i9, j9, h9, e9⟩ := hy; rw [e9]; exact hO2 k9 i9 j9 h9
  have hc_a := hR.root
  rw [← ha] at hc_a
  refine lv_aload_n hx hb dL_law_186 rfl (lv_at hl 1 rfl) ?_
  refine lv_aload_n hx hb dL_law_187 rfl (lv_at hl 0 rfl) ?_
  refine lv_iload_n hx hb dL_law_188 rfl (lv_at hl 3 rfl) ?_
  refine lv_iconst (v := 1) hx hb dL_law_189 (by decide) ?_
  refine N_iadd hx hb i 1 rfl rfl dL_law_190 ?_
  refine va_sld hx hb hX hbl hbA hH.2.1 (vI_in (j := i + 1) rfl (by omega) (by omega)) dL_law_191 ?_
  refine lv_topi (fun y1 ey1 => ?_)
  refine lv_aload_n hx hb dL_law_192 rfl (lv_at hl 0 rfl) ?_
  refine lv_iload_n hx hb dL_law_193 rfl (lv_at hl 3 rfl) ?_
  refine lv_iconst (v := 2) hx hb dL_law_194 (by decide) ?_
  refine N_iadd hx hb i 2 rfl rfl dL_law_195 ?_
  refine va_sld hx hb hX hbl hbA hH.2.1 (vI_in (j := i + 2) rfl (by omega) (by omega)) dL_law_196 ?_
  refine lv_topi (fun y2 ey2 => ?_)
  refine lv_aload_n hx hb dL_law_197 rfl (lv_at hl 0 rfl) ?_
  refine lv_iload_n hx hb dL_law_198 rfl (lv_at hl 3 rfl) ?_
  refine lv_iconst (v := 3) hx hb dL_law_199 (by decide) ?_
  refine N_iadd hx hb i 3 rfl rfl dL_law_200 ?_
  refine va_sld hx hb hX hbl hbA hH.2.1 (vI_in (j := i + 3) rfl (by omega) (by omega)) dL_law_201 ?_
  refine lv_topi (fun y3 ey3 => ?_)
  refine lv_aload_n hx hb dL_law_202 rfl (lv_at hl 0 rfl) ?_
  refine lv_iload_n hx hb dL_law_203 rfl (lv_at hl 3 rfl) ?_
  refine lv_iconst (v := 4) hx hb dL_law_204 (by decide) ?_
  refine N_iadd hx hb i 4 rfl rfl dL_law_205 ?_
  refine va_sld hx hb hX hbl hbA hH.2.1 (vI_in (j := i + 4) rfl (by omega) (by omega)) dL_law_206 ?_
  refine lv_topi (fun y4 ey4 => ?_)
  refine x_calli (va_runV (As := [.int y1, .int y2, .int y3, .int y4]) (rest := []) ⟨hx, hb, hml, hown, htl⟩ (c_X6_weather l G A _ a ady E cp L wd bw lb I F hc_a now hR hV  y1 y2 y3 y4) (cwV 4 htl gL_law_X6_weather rfl rfl rfl (by decide +kernel) ⟨Nat.le_of_ble_eq_true rfl, Nat.le_of_ble_eq_true rfl⟩) (x_preV hK hH hTt hc_a rfl [.int y1, .int y2, .int y3, .int y4]) rfl rfl hl.1 rfl (lv_room (Nat.le_of_ble_eq_true rfl)) dL_law_207 ⟨by show _ ≤ 600000; omega, by show _ ≤ 7302250; omega⟩) hH (fun r6 u H1 locs1 hp hH1 => ?_)
  obtain ⟨er, hR1, hKp⟩ := hp
  have hx1 := Nx.same hR1 (inv_sWeather hV y1 y2 y3 y4) ha hE hKp
  obtain ⟨eu, O1, hI1⟩ := hI.step hOw hx1
  have hH1 : xH G A s.heap H1 locs1 (mw G ρ ad u I F) := xH_of hH1 eu
  refine lv_aload_n hx hb dL_law_210 rfl (lv_at hl 2 rfl) ?_
  refine lv_aload_n hx hb dL_law_211 rfl (lv_at hl 0 rfl) ?_
  refine lv_iload_n hx hb dL_law_212 rfl (lv_at hl 3 rfl) ?_
  refine lv_iconst (v := 1) hx hb dL_law_213 (by decide) ?_
  refine N_iadd hx hb i 1 rfl rfl dL_law_214 ?_
  refine va_sld hx hb hX hbl hbA hH1.2.1 (vI_in (j := i + 1) rfl (by omega) (by omega)) dL_law_215 ?_
  refine lv_topi (fun z1 ez1 => ?_)
  refine lv_aload_n hx hb dL_law_216 rfl (lv_at hl 0 rfl) ?_
  refine lv_iload_n hx hb dL_law_217 rfl (lv_at hl 3 rfl) ?_
  refine lv_iconst (v := 2) hx hb dL_law_218 (by decide) ?_
  refine N_iadd hx hb i 2 rfl rfl dL_law_219 ?_
  refine va_sld hx hb hX hbl hbA hH1.2.1 (vI_in (j := i + 2) rfl (by omega) (by omega)) dL_law_220 ?_
  refine lv_topi (fun z2 ez2 => ?_)
  refine lv_aload_n hx hb dL_law_221 rfl (lv_at hl 0 rfl) ?_
  refine lv_iload_n hx hb dL_law_222 rfl (lv_at hl 3 rfl) ?_
  refine lv_iconst (v := 3) hx hb dL_law_223 (by decide) ?_
  refine N_iadd hx hb i 3 rfl rfl dL_law_224 ?_
  refine va_sld hx hb hX hbl hbA hH1.2.1 (vI_in (j := i + 3) rfl (by omega) (by omega)) dL_law_225 ?_
  refine lv_topi (fun z3 ez3 => ?_)
  refine lv_aload_n hx hb dL_law_226 rfl (lv_at hl 0 rfl) ?_
  refine lv_iload_n hx hb dL_law_227 rfl (lv_at hl 3 rfl) ?_
  refine lv_iconst (v := 4) hx hb dL_law_228 (by decide) ?_
  refine N_iadd hx hb i 4 rfl rfl dL_law_229 ?_
  refine va_sld hx hb hX hbl hbA hH1.2.1 (vI_in (j := i + 4) rfl (by omega) (by omega)) dL_law_230 ?_
  refine lv_topi (fun z4 ez4 => ?_)
  obtain rfl : y1 = z1 := ey1.trans ez1.symm
  obtain rfl : y2 = z2 := ey2.trans ez2.symm
  obtain rfl : y3 = z3 := ey3.trans ez3.symm
  obtain rfl : y4 = z4 := ey4.trans ez4.symm
  refine x_calli (va_runV (As := [.int y1, .int y2, .int y3, .int y4]) (rest := [.int r6]) ⟨hx, hb, hml, hown, htl⟩ (c_X7_weather l G A ρ ad u I F hρ now (iv_0 hV) (iv_n hV) y1 y2 y3 y4) (cwV 4 htl gL_law_X7_weather rfl rfl rfl (by decide +kernel) ⟨Nat.le_of_ble_eq_true rfl, Nat.le_of_ble_eq_true rfl⟩) (x_preV hK hH1 hTt (mw_ob hρ) rfl [.int y1, .int y2, .int y3, .int y4]) rfl rfl hl.1 rfl (lv_room (Nat.le_of_ble_eq_true rfl)) dL_law_231 ⟨by show _ ≤ 600000; omega, by show _ ≤ 7302250; omega⟩) hH1 (fun r7 v H2 locs2 hq hH2 => ?_)
  have hH2 : xH G A s.heap H2 locs2 (mw G ρ ad u v.1 v.2) := hH2
  have e7 := congrArg Prod.fst hq
  have ev := congrArg Prod.snd hq
  have ev : v = (sWeather I F y1 y2 y3 y4).2 := ev
  subst ev
  refine lv_icmp_eq (tgt := 704) hx hb dL_law_234 (by decide) (fun c1 => ?_) (fun c1 => ?_)
  · refine W.widen (k := 57 + 102 * (n + 1)) (n := 30360 + 9672 * (n + 1)) (by omega) (by omega) ?_
    exact kk u O1 _ _ H2 locs2 hH2 hI1
  · exact absurd (er.trans e7.symm) c1

set_option maxHeartbeats 4000000 in
set_option maxRecDepth 100000 in
theorem law_cut {p : Program} {e : Env} {s : State} {m : MethodId} {below : List Frame} {meth : Method} {c : Code} (l : Launch) {b L0 : Nat} {xs : Nat → Int32} (hL : L0 ≤ 2560) (C0 : lw_At p s m meth c b L0 xs) {G : XG} {A : Nat → Prop} (hbA : ¬ A b) (hK : xK G s) (hTt : xT G A s) {ρ : Nat → Option Nat} {ad : Nat → Nat} {a : Nat} (hρ : mA ρ ad) {n i : Nat} (hi : i = 5 * n) (hn : i + 5 ≤ L0) {b0 : XW} {O : Nat → Prop} {I : Nat → Int32} {F : Nat → Nat → Int32} {H : Heap} {locs : List Loc} (hH : xH G A s.heap H locs (mw G ρ ad b0 I F)) (hI : LI G ρ ad b0 a O I F) {ls : Array Slot} (hl : lv_has ls 4 [(0, .ref b), (1, .ref a), (2, .ref (ad 0)), (3, .int (nI i))]) (kk : ∀ (b1 : XW) (O1 : Nat → Prop) (I1 : Nat → Int32) (F1 : Nat → Nat → Int32) (H1 : Heap) (locs1 : List Loc), xH G A s.heap H1 locs1 (mw G ρ ad b1 I1 F1) → LI G ρ ad b1 a O1 I1 F1 → W p l e room_1 s m #[Value.ref b] below meth c H1 locs1 (57 + 102 * (n + 1)) (30360 + 9672 * (n + 1)) (lw_Z below #[Value.ref b] s) (F0 m 704 ls [])) : W p l e room_1 s m #[Value.ref b] below meth c H locs (57 + 102 * n) (30360 + 9672 * n) (lw_Z below #[Value.ref b] s) (F0 m 239 ls []) := by
  obtain ⟨hx, hb, hr, hml, hown, hts, hX, hbl, hlocks, hgv⟩ := C0
  have hown : s.vm.findClass RL = some m.cls := hown
  have htl : ∀ w ∈ wsL_law, w.before #[Value.ref b] s = true := fun w h => hts w (wsL_law_in w h)
  obtain ⟨⟨ady, E, cp, L, wd, bw, lb, now, ha, hO2, hR, hV, hE⟩, hO⟩ := id hI
  have hOw : ∀ y, own ady L y → O y := fun y hy => by obtain ⟨k9, i9, j9, h9, e9⟩ := hy; rw [e9]; exact hO2 k9 i9 j9 h9
  have hc_a := hR.root
  rw [← ha] at hc_a
  refine lv_aload_n hx hb dL_law_239 rfl (lv_at hl 1 rfl) ?_
  refine lv_aload_n hx hb dL_law_240 rfl (lv_at hl 0 rfl) ?_
  refine lv_iload_n hx hb dL_law_241 rfl (lv_at hl 3 rfl) ?_
  refine lv_iconst (v := 1) hx hb dL_law_242 (by decide) ?_
  refine N_iadd hx hb i 1 rfl rfl dL_law_243 ?_
  refine va_sld hx hb hX hbl hbA hH.2.1 (vI_in (j := i + 1) rfl (by omega) (by omega)) dL_law_244 ?_
  refine lv_topi (fun y1 ey1 => ?_)
  refine lv_aload_n hx hb dL_law_245 rfl (lv_at hl 0 rfl) ?_
  refine lv_iload_n hx hb dL_law_246 rfl (lv_at hl 3 rfl) ?_
  refine lv_iconst (v := 2) hx hb dL_law_247 (by decide) ?_
  refine N_iadd hx hb i 2 rfl rfl dL_law_248 ?_
  refine va_sld hx hb hX hbl hbA hH.2.1 (vI_in (j := i + 2) rfl (by omega) (by omega)) dL_law_249 ?_
  refine lv_topi (fun y2 ey2 => ?_)
  refine x_calli (va_runV (As := [.int y1, .int y2]) (rest := []) ⟨hx, hb, hml, hown, htl⟩ (c_X6_cut l G A _ a ady E cp L wd bw lb I F hc_a now hR hV ha hE y1 y2) (cwV 2 htl gL_law_X6_cut rfl rfl rfl (by decide +kernel) ⟨Nat.le_of_ble_eq_true rfl, Nat.le_of_ble_eq_true rfl⟩) (x_preV hK hH hTt hc_a rfl [.int y1, .int y2]) rfl rfl hl.1 rfl (lv_room (Nat.le_of_ble_eq_true rfl)) dL_law_250 ⟨by show _ ≤ 600000; omega, by show _ ≤ 7302250; omega⟩) hH (fun r6 u H1 locs1 hp hH1 => ?_)
  obtain ⟨er, hx1⟩ := hp
  obtain ⟨eu, O1, hI1⟩ := hI.step hOw hx1
  have hH1 : xH G A s.heap H1 locs1 (mw G ρ ad u I F) := xH_of hH1 eu
  refine lv_aload_n hx hb dL_law_253 rfl (lv_at hl 2 rfl) ?_
  refine lv_aload_n hx hb dL_law_254 rfl (lv_at hl 0 rfl) ?_
  refine lv_iload_n hx hb dL_law_255 rfl (lv_at hl 3 rfl) ?_
  refine lv_iconst (v := 1) hx hb dL_law_256 (by decide) ?_
  refine N_iadd hx hb i 1 rfl rfl dL_law_257 ?_
  refine va_sld hx hb hX hbl hbA hH1.2.1 (vI_in (j := i + 1) rfl (by omega) (by omega)) dL_law_258 ?_
  refine lv_topi (fun z1 ez1 => ?_)
  refine lv_aload_n hx hb dL_law_259 rfl (lv_at hl 0 rfl) ?_
  refine lv_iload_n hx hb dL_law_260 rfl (lv_at hl 3 rfl) ?_
  refine lv_iconst (v := 2) hx hb dL_law_261 (by decide) ?_
  refine N_iadd hx hb i 2 rfl rfl dL_law_262 ?_
  refine va_sld hx hb hX hbl hbA hH1.2.1 (vI_in (j := i + 2) rfl (by omega) (by omega)) dL_law_263 ?_
  refine lv_topi (fun z2 ez2 => ?_)
  obtain rfl : y1 = z1 := ey1.trans ez1.symm
  obtain rfl : y2 = z2 := ey2.trans ez2.symm
  refine x_calli (va_runV (As := [.int y1, .int y2]) (rest := [.int r6]) ⟨hx, hb, hml, hown, htl⟩ (c_X7_cut l G A ρ ad u I F hρ (L 0) (iv_3 hV) (iv_60 hV) now (iv_0 hV) (iv_n hV) (fun t => L (2 + t)) (iv_op hV) (iv_br hV) y1 y2) (cwV 2 htl gL_law_X7_cut rfl rfl rfl (by decide +kernel) ⟨Nat.le_of_ble_eq_true rfl, Nat.le_of_ble_eq_true rfl⟩) (x_preV hK hH1 hTt (mw_ob hρ) rfl [.int y1, .int y2]) rfl rfl hl.1 rfl (lv_room (Nat.le_of_ble_eq_true rfl)) dL_law_264 ⟨by show _ ≤ 600000; omega, by show _ ≤ 7302250; omega⟩) hH1 (fun r7 v H2 locs2 hq hH2 => ?_)
  have hH2 : xH G A s.heap H2 locs2 (mw G ρ ad u v.1 v.2) := hH2
  have e7 := congrArg Prod.fst hq
  have ev := congrArg Prod.snd hq
  have ev : v = (sCut I F y1 y2).2 := ev
  subst ev
  refine lv_icmp_eq (tgt := 704) hx hb dL_law_267 (by decide) (fun c1 => ?_) (fun c1 => ?_)
  · refine W.widen (k := 57 + 102 * (n + 1)) (n := 30360 + 9672 * (n + 1)) (by omega) (by omega) ?_
    exact kk u O1 _ _ H2 locs2 hH2 hI1
  · exact absurd (er.trans e7.symm) c1

set_option maxHeartbeats 4000000 in
set_option maxRecDepth 100000 in
theorem law_rests {p : Program} {e : Env} {s : State} {m : MethodId} {below : List Frame} {meth : Method} {c : Code} (l : Launch) {b L0 : Nat} {xs : Nat → Int32} (hL : L0 ≤ 2560) (C0 : lw_At p s m meth c b L0 xs) {G : XG} {A : Nat → Prop} (hbA : ¬ A b) (hK : xK G s) (hTt : xT G A s) {ρ : Nat → Option Nat} {ad : Nat → Nat} {a : Nat} (hρ : mA ρ ad) {n i : Nat} (hi : i = 5 * n) (hn : i + 5 ≤ L0) {b0 : XW} {O : Nat → Prop} {I : Nat → Int32} {F : Nat → Nat → Int32} {H : Heap} {locs : List Loc} (hH : xH G A s.heap H locs (mw G ρ ad b0 I F)) (hI : LI G ρ ad b0 a O I F) {ls : Array Slot} (hl : lv_has ls 4 [(0, .ref b), (1, .ref a), (2, .ref (ad 0)), (3, .int (nI i))]) (kk : ∀ (b1 : XW) (O1 : Nat → Prop) (I1 : Nat → Int32) (F1 : Nat → Nat → Int32) (H1 : Heap) (locs1 : List Loc), xH G A s.heap H1 locs1 (mw G ρ ad b1 I1 F1) → LI G ρ ad b1 a O1 I1 F1 → W p l e room_1 s m #[Value.ref b] below meth c H1 locs1 (57 + 102 * (n + 1)) (30360 + 9672 * (n + 1)) (lw_Z below #[Value.ref b] s) (F0 m 704 ls [])) : W p l e room_1 s m #[Value.ref b] below meth c H locs (57 + 102 * n) (30360 + 9672 * n) (lw_Z below #[Value.ref b] s) (F0 m 272 ls []) := by
  obtain ⟨hx, hb, hr, hml, hown, hts, hX, hbl, hlocks, hgv⟩ := C0
  have hown : s.vm.findClass RL = some m.cls := hown
  have htl : ∀ w ∈ wsL_law, w.before #[Value.ref b] s = true := fun w h => hts w (wsL_law_in w h)
  obtain ⟨⟨ady, E, cp, L, wd, bw, lb, now, ha, hO2, hR, hV, hE⟩, hO⟩ := id hI
  have hOw : ∀ y, own ady L y → O y := fun y hy => by obtain ⟨k9, i9, j9, h9, e9⟩ := hy; rw [e9]; exact hO2 k9 i9 j9 h9
  have hc_a := hR.root
  rw [← ha] at hc_a
  refine lv_aload_n hx hb dL_law_272 rfl (lv_at hl 1 rfl) ?_
  refine lv_aload_n hx hb dL_law_273 rfl (lv_at hl 0 rfl) ?_
  refine lv_iload_n hx hb dL_law_274 rfl (lv_at hl 3 rfl) ?_
  refine lv_iconst (v := 1) hx hb dL_law_275 (by decide) ?_
  refine N_iadd hx hb i 1 rfl rfl dL_law_276 ?_
  refine va_sld hx hb hX hbl hbA hH.2.1 (vI_in (j := i + 1) rfl (by omega) (by omega)) dL_law_277 ?_
  refine lv_topi (fun y1 ey1 => ?_)
  refine x_calli (va_runV (As := [.int y1]) (rest := []) ⟨hx, hb, hml, hown, htl⟩ (c_X6_rests l G A _ a ady E cp L wd bw lb I F hc_a now hR hV  y1) (cwV 1 htl gL_law_X6_rests rfl rfl rfl (by decide +kernel) ⟨Nat.le_of_ble_eq_true rfl, Nat.le_of_ble_eq_true rfl⟩) (x_preV hK hH hTt hc_a rfl [.int y1]) rfl rfl hl.1 rfl (lv_room (Nat.le_of_ble_eq_true rfl)) dL_law_278 ⟨by show _ ≤ 600000; omega, by show _ ≤ 7302250; omega⟩) hH (fun r6 u H1 locs1 hp hH1 => ?_)
  obtain ⟨er, rfl⟩ := hp
  have hH1 : xH G A s.heap H1 locs1 (mw G ρ ad b0 I F) := hH1
  refine lv_aload_n hx hb dL_law_281 rfl (lv_at hl 2 rfl) ?_
  refine lv_aload_n hx hb dL_law_282 rfl (lv_at hl 0 rfl) ?_
  refine lv_iload_n hx hb dL_law_283 rfl (lv_at hl 3 rfl) ?_
  refine lv_iconst (v := 1) hx hb dL_law_284 (by decide) ?_
  refine N_iadd hx hb i 1 rfl rfl dL_law_285 ?_
  refine va_sld hx hb hX hbl hbA hH1.2.1 (vI_in (j := i + 1) rfl (by omega) (by omega)) dL_law_286 ?_
  refine lv_topi (fun z1 ez1 => ?_)
  obtain rfl : y1 = z1 := ey1.trans ez1.symm
  refine x_calli (va_runV (As := [.int y1]) (rest := [.int r6]) ⟨hx, hb, hml, hown, htl⟩ (c_X7_rests l G A ρ ad b0 I F hρ (L 0) (iv_3 hV) (iv_60 hV) now (iv_0 hV) (iv_n hV) y1) (cwV 1 htl gL_law_X7_rests rfl rfl rfl (by decide +kernel) ⟨Nat.le_of_ble_eq_true rfl, Nat.le_of_ble_eq_true rfl⟩) (x_preV hK hH1 hTt (mw_ob hρ) rfl [.int y1]) rfl rfl hl.1 rfl (lv_room (Nat.le_of_ble_eq_true rfl)) dL_law_287 ⟨by show _ ≤ 600000; omega, by show _ ≤ 7302250; omega⟩) hH1 (fun r7 v H2 locs2 hq hH2 => ?_)
  have hH2 : xH G A s.heap H2 locs2 (mw G ρ ad b0 v.1 v.2) := hH2
  obtain ⟨e7, ev⟩ := hq
  subst ev
  refine lv_icmp_eq (tgt := 704) hx hb dL_law_290 (by decide) (fun c1 => ?_) (fun c1 => ?_)
  · refine W.widen (k := 57 + 102 * (n + 1)) (n := 30360 + 9672 * (n + 1)) (by omega) (by omega) ?_
    exact kk b0 O I F H2 locs2 hH2 hI
  · exact absurd (er.trans e7.symm) c1

set_option maxHeartbeats 4000000 in
set_option maxRecDepth 100000 in
theorem law_go {p : Program} {e : Env} {s : State} {m : MethodId} {below : List Frame} {meth : Method} {c : Code} (l : Launch) {b L0 : Nat} {xs : Nat → Int32} (hL : L0 ≤ 2560) (C0 : lw_At p s m meth c b L0 xs) {G : XG} {A : Nat → Prop} (hbA : ¬ A b) (hK : xK G s) (hTt : xT G A s) {ρ : Nat → Option Nat} {ad : Nat → Nat} {a : Nat} (hρ : mA ρ ad) {n i : Nat} (hi : i = 5 * n) (hn : i + 5 ≤ L0) {b0 : XW} {O : Nat → Prop} {I : Nat → Int32} {F : Nat → Nat → Int32} {H : Heap} {locs : List Loc} (hH : xH G A s.heap H locs (mw G ρ ad b0 I F)) (hI : LI G ρ ad b0 a O I F) {ls : Array Slot} (hl : lv_has ls 4 [(0, .ref b), (1, .ref a), (2, .ref (ad 0)), (3, .int (nI i))]) (kk : ∀ (b1 : XW) (O1 : Nat → Prop) (I1 : Nat → Int32) (F1 : Nat → Nat → Int32) (H1 : Heap) (locs1 : List Loc), xH G A s.heap H1 locs1 (mw G ρ ad b1 I1 F1) → LI G ρ ad b1 a O1 I1 F1 → W p l e room_1 s m #[Value.ref b] below meth c H1 locs1 (57 + 102 * (n + 1)) (30360 + 9672 * (n + 1)) (lw_Z below #[Value.ref b] s) (F0 m 704 ls [])) : W p l e room_1 s m #[Value.ref b] below meth c H locs (57 + 102 * n) (30360 + 9672 * n) (lw_Z below #[Value.ref b] s) (F0 m 295 ls []) := by
  obtain ⟨hx, hb, hr, hml, hown, hts, hX, hbl, hlocks, hgv⟩ := C0
  have hown : s.vm.findClass RL = some m.cls := hown
  have htl : ∀ w ∈ wsL_law, w.before #[Value.ref b] s = true := fun w h => hts w (wsL_law_in w h)
  obtain ⟨⟨ady, E, cp, L, wd, bw, lb, now, ha, hO2, hR, hV, hE⟩, hO⟩ := id hI
  have hOw : ∀ y, own ady L y → O y := fun y hy => by obtain ⟨k9, i9, j9, h9, e9⟩ := hy; rw [e9]; exact hO2 k9 i9 j9 h9
  have hc_a := hR.root
  rw [← ha] at hc_a
  refine lv_aload_n hx hb dL_law_295 rfl (lv_at hl 1 rfl) ?_
  refine lv_aload_n hx hb dL_law_296 rfl (lv_at hl 0 rfl) ?_
  refine lv_iload_n hx hb dL_law_297 rfl (lv_at hl 3 rfl) ?_
  refine lv_iconst (v := 1) hx hb dL_law_298 (by decide) ?_
  refine N_iadd hx hb i 1 rfl rfl dL_law_299 ?_
  refine va_sld hx hb hX hbl hbA hH.2.1 (vI_in (j := i + 1) rfl (by omega) (by omega)) dL_law_300 ?_
  refine lv_topi (fun y1 ey1 => ?_)
  refine x_calli (va_runV (As := [.int y1]) (rest := []) ⟨hx, hb, hml, hown, htl⟩ (c_X6_go l G A _ a ady E cp L wd bw lb I F hc_a now hR hV ha hE y1) (cwV 1 htl gL_law_X6_go rfl rfl rfl (by decide +kernel) ⟨Nat.le_of_ble_eq_true rfl, Nat.le_of_ble_eq_true rfl⟩) (x_preV hK hH hTt hc_a rfl [.int y1]) rfl rfl hl.1 rfl (lv_room (Nat.le_of_ble_eq_true rfl)) dL_law_301 ⟨by show _ ≤ 600000; omega, by show _ ≤ 7302250; omega⟩) hH (fun r6 u H1 locs1 hp hH1 => ?_)
  obtain ⟨er, hx1⟩ := hp
  obtain ⟨eu, O1, hI1⟩ := hI.step hOw hx1
  have hH1 : xH G A s.heap H1 locs1 (mw G ρ ad u I F) := xH_of hH1 eu
  refine lv_aload_n hx hb dL_law_304 rfl (lv_at hl 2 rfl) ?_
  refine lv_aload_n hx hb dL_law_305 rfl (lv_at hl 0 rfl) ?_
  refine lv_iload_n hx hb dL_law_306 rfl (lv_at hl 3 rfl) ?_
  refine lv_iconst (v := 1) hx hb dL_law_307 (by decide) ?_
  refine N_iadd hx hb i 1 rfl rfl dL_law_308 ?_
  refine va_sld hx hb hX hbl hbA hH1.2.1 (vI_in (j := i + 1) rfl (by omega) (by omega)) dL_law_309 ?_
  refine lv_topi (fun z1 ez1 => ?_)
  obtain rfl : y1 = z1 := ey1.trans ez1.symm
  refine x_calli (va_runV (As := [.int y1]) (rest := [.int r6]) ⟨hx, hb, hml, hown, htl⟩ (c_X7_go l G A ρ ad u I F hρ (L 0) (iv_3 hV) (iv_60 hV) now (iv_0 hV) (iv_n hV) (fun t => L (2 + t)) (iv_op hV) (iv_oy hV) y1) (cwV 1 htl gL_law_X7_go rfl rfl rfl (by decide +kernel) ⟨Nat.le_of_ble_eq_true rfl, Nat.le_of_ble_eq_true rfl⟩) (x_preV hK hH1 hTt (mw_ob hρ) rfl [.int y1]) rfl rfl hl.1 rfl (lv_room (Nat.le_of_ble_eq_true rfl)) dL_law_310 ⟨by show _ ≤ 600000; omega, by show _ ≤ 7302250; omega⟩) hH1 (fun r7 v H2 locs2 hq hH2 => ?_)
  have hH2 : xH G A s.heap H2 locs2 (mw G ρ ad u v.1 v.2) := hH2
  have e7 := congrArg Prod.fst hq
  have ev := congrArg Prod.snd hq
  have ev : v = (sGo I F (L 0) y1).2 := ev
  subst ev
  refine lv_icmp_eq (tgt := 704) hx hb dL_law_313 (by decide) (fun c1 => ?_) (fun c1 => ?_)
  · refine W.widen (k := 57 + 102 * (n + 1)) (n := 30360 + 9672 * (n + 1)) (by omega) (by omega) ?_
    exact kk u O1 _ _ H2 locs2 hH2 hI1
  · exact absurd (er.trans e7.symm) c1

set_option maxHeartbeats 4000000 in
set_option maxRecDepth 100000 in
theorem law_face {p : Program} {e : Env} {s : State} {m : MethodId} {below : List Frame} {meth : Method} {c : Code} (l : Launch) {b L0 : Nat} {xs : Nat → Int32} (hL : L0 ≤ 2560) (C0 : lw_At p s m meth c b L0 xs) {G : XG} {A : Nat → Prop} (hbA : ¬ A b) (hK : xK G s) (hTt : xT G A s) {ρ : Nat → Option Nat} {ad : Nat → Nat} {a : Nat} (hρ : mA ρ ad) {n i : Nat} (hi : i = 5 * n) (hn : i + 5 ≤ L0) {b0 : XW} {O : Nat → Prop} {I : Nat → Int32} {F : Nat → Nat → Int32} {H : Heap} {locs : List Loc} (hH : xH G A s.heap H locs (mw G ρ ad b0 I F)) (hI : LI G ρ ad b0 a O I F) {ls : Array Slot} (hl : lv_has ls 4 [(0, .ref b), (1, .ref a), (2, .ref (ad 0)), (3, .int (nI i))]) (kk : ∀ (b1 : XW) (O1 : Nat → Prop) (I1 : Nat → Int32) (F1 : Nat → Nat → Int32) (H1 : Heap) (locs1 : List Loc), xH G A s.heap H1 locs1 (mw G ρ ad b1 I1 F1) → LI G ρ ad b1 a O1 I1 F1 → W p l e room_1 s m #[Value.ref b] below meth c H1 locs1 (57 + 102 * (n + 1)) (30360 + 9672 * (n + 1)) (lw_Z below #[Value.ref b] s) (F0 m 704 ls [])) : W p l e room_1 s m #[Value.ref b] below meth c H locs (57 + 102 * n) (30360 + 9672 * n) (lw_Z below #[Value.ref b] s) (F0 m 318 ls []) := by
  obtain ⟨hx, hb, hr, hml, hown, hts, hX, hbl, hlocks, hgv⟩ := C0
  have hown : s.vm.findClass RL = some m.cls := hown
  have htl : ∀ w ∈ wsL_law, w.before #[Value.ref b] s = true := fun w h => hts w (wsL_law_in w h)
  obtain ⟨⟨ady, E, cp, L, wd, bw, lb, now, ha, hO2, hR, hV, hE⟩, hO⟩ := id hI
  have hOw : ∀ y, own ady L y → O y := fun y hy => by obtain ⟨k9, i9, j9, h9, e9⟩ := hy; rw [e9]; exact hO2 k9 i9 j9 h9
  have hc_a := hR.root
  rw [← ha] at hc_a
  refine lv_aload_n hx hb dL_law_318 rfl (lv_at hl 1 rfl) ?_
  refine lv_aload_n hx hb dL_law_319 rfl (lv_at hl 0 rfl) ?_
  refine lv_iload_n hx hb dL_law_320 rfl (lv_at hl 3 rfl) ?_
  refine lv_iconst (v := 1) hx hb dL_law_321 (by decide) ?_
  refine N_iadd hx hb i 1 rfl rfl dL_law_322 ?_
  refine va_sld hx hb hX hbl hbA hH.2.1 (vI_in (j := i + 1) rfl (by omega) (by omega)) dL_law_323 ?_
  refine lv_topi (fun y1 ey1 => ?_)
  refine lv_aload_n hx hb dL_law_324 rfl (lv_at hl 0 rfl) ?_
  refine lv_iload_n hx hb dL_law_325 rfl (lv_at hl 3 rfl) ?_
  refine lv_iconst (v := 2) hx hb dL_law_326 (by decide) ?_
  refine N_iadd hx hb i 2 rfl rfl dL_law_327 ?_
  refine va_sld hx hb hX hbl hbA hH.2.1 (vI_in (j := i + 2) rfl (by omega) (by omega)) dL_law_328 ?_
  refine lv_topi (fun y2 ey2 => ?_)
  refine lv_aload_n hx hb dL_law_329 rfl (lv_at hl 0 rfl) ?_
  refine lv_iload_n hx hb dL_law_330 rfl (lv_at hl 3 rfl) ?_
  refine lv_iconst (v := 3) hx hb dL_law_331 (by decide) ?_
  refine N_iadd hx hb i 3 rfl rfl dL_law_332 ?_
  refine va_sld hx hb hX hbl hbA hH.2.1 (vI_in (j := i + 3) rfl (by omega) (by omega)) dL_law_333 ?_
  refine lv_topi (fun y3 ey3 => ?_)
  refine x_calli (va_runV (As := [.int y1, .int y2, .int y3]) (rest := []) ⟨hx, hb, hml, hown, htl⟩ (c_X6_face l G A _ a ady E cp L wd bw lb I F hc_a now hR hV  y1 y2 y3) (cwV 3 htl gL_law_X6_face rfl rfl rfl (by decide +kernel) ⟨Nat.le_of_ble_eq_true rfl, Nat.le_of_ble_eq_true rfl⟩) (x_preV hK hH hTt hc_a rfl [.int y1, .int y2, .int y3]) rfl rfl hl.1 rfl (lv_room (Nat.le_of_ble_eq_true rfl)) dL_law_334 ⟨by show _ ≤ 600000; omega, by show _ ≤ 7302250; omega⟩) hH (fun r6 u H1 locs1 hp hH1 => ?_)
  obtain ⟨er, rfl⟩ := hp
  have hH1 : xH G A s.heap H1 locs1 (mw G ρ ad b0 I F) := hH1
  refine lv_aload_n hx hb dL_law_337 rfl (lv_at hl 2 rfl) ?_
  refine lv_aload_n hx hb dL_law_338 rfl (lv_at hl 0 rfl) ?_
  refine lv_iload_n hx hb dL_law_339 rfl (lv_at hl 3 rfl) ?_
  refine lv_iconst (v := 1) hx hb dL_law_340 (by decide) ?_
  refine N_iadd hx hb i 1 rfl rfl dL_law_341 ?_
  refine va_sld hx hb hX hbl hbA hH1.2.1 (vI_in (j := i + 1) rfl (by omega) (by omega)) dL_law_342 ?_
  refine lv_topi (fun z1 ez1 => ?_)
  refine lv_aload_n hx hb dL_law_343 rfl (lv_at hl 0 rfl) ?_
  refine lv_iload_n hx hb dL_law_344 rfl (lv_at hl 3 rfl) ?_
  refine lv_iconst (v := 2) hx hb dL_law_345 (by decide) ?_
  refine N_iadd hx hb i 2 rfl rfl dL_law_346 ?_
  refine va_sld hx hb hX hbl hbA hH1.2.1 (vI_in (j := i + 2) rfl (by omega) (by omega)) dL_law_347 ?_
  refine lv_topi (fun z2 ez2 => ?_)
  refine lv_aload_n hx hb dL_law_348 rfl (lv_at hl 0 rfl) ?_
  refine lv_iload_n hx hb dL_law_349 rfl (lv_at hl 3 rfl) ?_
  refine lv_iconst (v := 3) hx hb dL_law_350 (by decide) ?_
  refine N_iadd hx hb i 3 rfl rfl dL_law_351 ?_
  refine va_sld hx hb hX hbl hbA hH1.2.1 (vI_in (j := i + 3) rfl (by omega) (by omega)) dL_law_352 ?_
  refine lv_topi (fun z3 ez3 => ?_)
  obtain rfl : y1 = z1 := ey1.trans ez1.symm
  obtain rfl : y2 = z2 := ey2.trans ez2.symm
  obtain rfl : y3 = z3 := ey3.trans ez3.symm
  refine x_calli (va_runV (As := [.int y1, .int y2, .int y3]) (rest := [.int r6]) ⟨hx, hb, hml, hown, htl⟩ (c_X7_face l G A ρ ad b0 I F hρ (L 0) (iv_3 hV) (iv_60 hV) (fun t => L (2 + t)) (iv_op hV) y1 y2 y3) (cwV 3 htl gL_law_X7_face rfl rfl rfl (by decide +kernel) ⟨Nat.le_of_ble_eq_true rfl, Nat.le_of_ble_eq_true rfl⟩) (x_preV hK hH1 hTt (mw_ob hρ) rfl [.int y1, .int y2, .int y3]) rfl rfl hl.1 rfl (lv_room (Nat.le_of_ble_eq_true rfl)) dL_law_353 ⟨by show _ ≤ 600000; omega, by show _ ≤ 7302250; omega⟩) hH1 (fun r7 v H2 locs2 hq hH2 => ?_)
  have hH2 : xH G A s.heap H2 locs2 (mw G ρ ad b0 v.1 v.2) := hH2
  obtain ⟨e7, ev⟩ := hq
  subst ev
  refine lv_icmp_eq (tgt := 704) hx hb dL_law_356 (by decide) (fun c1 => ?_) (fun c1 => ?_)
  · refine W.widen (k := 57 + 102 * (n + 1)) (n := 30360 + 9672 * (n + 1)) (by omega) (by omega) ?_
    exact kk b0 O I F H2 locs2 hH2 hI
  · exact absurd (er.trans e7.symm) c1

set_option maxHeartbeats 4000000 in
set_option maxRecDepth 100000 in
theorem law_empty {p : Program} {e : Env} {s : State} {m : MethodId} {below : List Frame} {meth : Method} {c : Code} (l : Launch) {b L0 : Nat} {xs : Nat → Int32} (hL : L0 ≤ 2560) (C0 : lw_At p s m meth c b L0 xs) {G : XG} {A : Nat → Prop} (hbA : ¬ A b) (hK : xK G s) (hTt : xT G A s) {ρ : Nat → Option Nat} {ad : Nat → Nat} {a : Nat} (hρ : mA ρ ad) {n i : Nat} (hi : i = 5 * n) (hn : i + 5 ≤ L0) {b0 : XW} {O : Nat → Prop} {I : Nat → Int32} {F : Nat → Nat → Int32} {H : Heap} {locs : List Loc} (hH : xH G A s.heap H locs (mw G ρ ad b0 I F)) (hI : LI G ρ ad b0 a O I F) {ls : Array Slot} (hl : lv_has ls 4 [(0, .ref b), (1, .ref a), (2, .ref (ad 0)), (3, .int (nI i))]) (kk : ∀ (b1 : XW) (O1 : Nat → Prop) (I1 : Nat → Int32) (F1 : Nat → Nat → Int32) (H1 : Heap) (locs1 : List Loc), xH G A s.heap H1 locs1 (mw G ρ ad b1 I1 F1) → LI G ρ ad b1 a O1 I1 F1 → W p l e room_1 s m #[Value.ref b] below meth c H1 locs1 (57 + 102 * (n + 1)) (30360 + 9672 * (n + 1)) (lw_Z below #[Value.ref b] s) (F0 m 704 ls [])) : W p l e room_1 s m #[Value.ref b] below meth c H locs (57 + 102 * n) (30360 + 9672 * n) (lw_Z below #[Value.ref b] s) (F0 m 361 ls []) := by
  obtain ⟨hx, hb, hr, hml, hown, hts, hX, hbl, hlocks, hgv⟩ := C0
  have hown : s.vm.findClass RL = some m.cls := hown
  have htl : ∀ w ∈ wsL_law, w.before #[Value.ref b] s = true := fun w h => hts w (wsL_law_in w h)
  obtain ⟨⟨ady, E, cp, L, wd, bw, lb, now, ha, hO2, hR, hV, hE⟩, hO⟩ := id hI
  have hOw : ∀ y, own ady L y → O y := fun y hy => by obtain ⟨k9, i9, j9, h9, e9⟩ := hy; rw [e9]; exact hO2 k9 i9 j9 h9
  have hc_a := hR.root
  rw [← ha] at hc_a
  obtain ⟨hs, hBV, -⟩ := id hV.2.2.2.2
  obtain ⟨cg, hcg, hcs⟩ := id hV.2.2.2.1.1
  refine lv_aload_n hx hb dL_law_361 rfl (lv_at hl 1 rfl) ?_
  refine lv_aload_n hx hb dL_law_362 rfl (lv_at hl 0 rfl) ?_
  refine lv_iload_n hx hb dL_law_363 rfl (lv_at hl 3 rfl) ?_
  refine lv_iconst (v := 1) hx hb dL_law_364 (by decide) ?_
  refine N_iadd hx hb i 1 rfl rfl dL_law_365 ?_
  refine va_sld hx hb hX hbl hbA hH.2.1 (vI_in (j := i + 1) rfl (by omega) (by omega)) dL_law_366 ?_
  refine lv_topi (fun y1 ey1 => ?_)
  refine x_calli (va_runV (As := [.int y1]) (rest := []) ⟨hx, hb, hml, hown, htl⟩ (c_X6_empty l G A _ a ady E cp L wd bw lb I F hc_a now hR hV ha hE y1) (cwV 1 htl gL_law_X6_empty rfl rfl rfl (by decide +kernel) ⟨Nat.le_of_ble_eq_true rfl, Nat.le_of_ble_eq_true rfl⟩) (x_preV hK hH hTt hc_a rfl [.int y1]) rfl rfl hl.1 rfl (lv_room (Nat.le_of_ble_eq_true rfl)) dL_law_367 ⟨by show _ ≤ 600000; omega, by show _ ≤ 7302250; omega⟩) hH (fun r6 u H1 locs1 hp hH1 => ?_)
  obtain ⟨er, hx1⟩ := hp
  obtain ⟨eu, O1, hI1⟩ := hI.step hOw hx1
  have hH1 : xH G A s.heap H1 locs1 (mw G ρ ad u I F) := xH_of hH1 eu
  refine lv_aload_n hx hb dL_law_370 rfl (lv_at hl 2 rfl) ?_
  refine lv_aload_n hx hb dL_law_371 rfl (lv_at hl 0 rfl) ?_
  refine lv_iload_n hx hb dL_law_372 rfl (lv_at hl 3 rfl) ?_
  refine lv_iconst (v := 1) hx hb dL_law_373 (by decide) ?_
  refine N_iadd hx hb i 1 rfl rfl dL_law_374 ?_
  refine va_sld hx hb hX hbl hbA hH1.2.1 (vI_in (j := i + 1) rfl (by omega) (by omega)) dL_law_375 ?_
  refine lv_topi (fun z1 ez1 => ?_)
  obtain rfl : y1 = z1 := ey1.trans ez1.symm
  refine x_calli (va_runV (As := [.int y1]) (rest := [.int r6]) ⟨hx, hb, hml, hown, htl⟩ (c_X7_empty l G A ρ ad u I F hρ (L 0) (iv_3 hV) (iv_60 hV) (fun t => L (2 + t)) (iv_op hV) (L 1) hs hBV cg hcg hcs wd (iv_wd hV) y1) (cwV 1 htl gL_law_X7_empty rfl rfl rfl (by decide +kernel) ⟨Nat.le_of_ble_eq_true rfl, Nat.le_of_ble_eq_true rfl⟩) (x_preV hK hH1 hTt (mw_ob hρ) rfl [.int y1]) rfl rfl hl.1 rfl (lv_room (Nat.le_of_ble_eq_true rfl)) dL_law_376 ⟨by show _ ≤ 600000; omega, by show _ ≤ 7302250; omega⟩) hH1 (fun r7 v H2 locs2 hq hH2 => ?_)
  have hH2 : xH G A s.heap H2 locs2 (mw G ρ ad u v.1 v.2) := hH2
  have e7 := congrArg Prod.fst hq
  have ev := congrArg Prod.snd hq
  have ev : v = (sEmpty I F y1).2 := ev
  subst ev
  refine lv_icmp_eq (tgt := 704) hx hb dL_law_379 (by decide) (fun c1 => ?_) (fun c1 => ?_)
  · refine W.widen (k := 57 + 102 * (n + 1)) (n := 30360 + 9672 * (n + 1)) (by omega) (by omega) ?_
    exact kk u O1 _ _ H2 locs2 hH2 hI1
  · exact absurd (er.trans e7.symm) c1

set_option maxHeartbeats 4000000 in
set_option maxRecDepth 100000 in
theorem law_barrel {p : Program} {e : Env} {s : State} {m : MethodId} {below : List Frame} {meth : Method} {c : Code} (l : Launch) {b L0 : Nat} {xs : Nat → Int32} (hL : L0 ≤ 2560) (C0 : lw_At p s m meth c b L0 xs) {G : XG} {A : Nat → Prop} (hbA : ¬ A b) (hK : xK G s) (hTt : xT G A s) {ρ : Nat → Option Nat} {ad : Nat → Nat} {a : Nat} (hρ : mA ρ ad) {n i : Nat} (hi : i = 5 * n) (hn : i + 5 ≤ L0) {b0 : XW} {O : Nat → Prop} {I : Nat → Int32} {F : Nat → Nat → Int32} {H : Heap} {locs : List Loc} (hH : xH G A s.heap H locs (mw G ρ ad b0 I F)) (hI : LI G ρ ad b0 a O I F) {ls : Array Slot} (hl : lv_has ls 4 [(0, .ref b), (1, .ref a), (2, .ref (ad 0)), (3, .int (nI i))]) (kk : ∀ (b1 : XW) (O1 : Nat → Prop) (I1 : Nat → Int32) (F1 : Nat → Nat → Int32) (H1 : Heap) (locs1 : List Loc), xH G A s.heap H1 locs1 (mw G ρ ad b1 I1 F1) → LI G ρ ad b1 a O1 I1 F1 → W p l e room_1 s m #[Value.ref b] below meth c H1 locs1 (57 + 102 * (n + 1)) (30360 + 9672 * (n + 1)) (lw_Z below #[Value.ref b] s) (F0 m 704 ls [])) : W p l e room_1 s m #[Value.ref b] below meth c H locs (57 + 102 * n) (30360 + 9672 * n) (lw_Z below #[Value.ref b] s) (F0 m 384 ls []) := by
  obtain ⟨hx, hb, hr, hml, hown, hts, hX, hbl, hlocks, hgv⟩ := C0
  have hown : s.vm.findClass RL = some m.cls := hown
  have htl : ∀ w ∈ wsL_law, w.before #[Value.ref b] s = true := fun w h => hts w (wsL_law_in w h)
  obtain ⟨⟨ady, E, cp, L, wd, bw, lb, now, ha, hO2, hR, hV, hE⟩, hO⟩ := id hI
  have hOw : ∀ y, own ady L y → O y := fun y hy => by obtain ⟨k9, i9, j9, h9, e9⟩ := hy; rw [e9]; exact hO2 k9 i9 j9 h9
  have hc_a := hR.root
  rw [← ha] at hc_a
  refine lv_aload_n hx hb dL_law_384 rfl (lv_at hl 1 rfl) ?_
  refine lv_aload_n hx hb dL_law_385 rfl (lv_at hl 0 rfl) ?_
  refine lv_iload_n hx hb dL_law_386 rfl (lv_at hl 3 rfl) ?_
  refine lv_iconst (v := 1) hx hb dL_law_387 (by decide) ?_
  refine N_iadd hx hb i 1 rfl rfl dL_law_388 ?_
  refine va_sld hx hb hX hbl hbA hH.2.1 (vI_in (j := i + 1) rfl (by omega) (by omega)) dL_law_389 ?_
  refine lv_topi (fun y1 ey1 => ?_)
  refine lv_aload_n hx hb dL_law_390 rfl (lv_at hl 0 rfl) ?_
  refine lv_iload_n hx hb dL_law_391 rfl (lv_at hl 3 rfl) ?_
  refine lv_iconst (v := 2) hx hb dL_law_392 (by decide) ?_
  refine N_iadd hx hb i 2 rfl rfl dL_law_393 ?_
  refine va_sld hx hb hX hbl hbA hH.2.1 (vI_in (j := i + 2) rfl (by omega) (by omega)) dL_law_394 ?_
  refine lv_topi (fun y2 ey2 => ?_)
  refine x_calli (va_runV (As := [.int y1, .int y2]) (rest := []) ⟨hx, hb, hml, hown, htl⟩ (c_X6_barrel l G A _ a ady E cp L wd bw lb I F hc_a now hR hV  y1 y2) (cwV 2 htl gL_law_X6_barrel rfl rfl rfl (by decide +kernel) ⟨Nat.le_of_ble_eq_true rfl, Nat.le_of_ble_eq_true rfl⟩) (x_preV hK hH hTt hc_a rfl [.int y1, .int y2]) rfl rfl hl.1 rfl (lv_room (Nat.le_of_ble_eq_true rfl)) dL_law_395 ⟨by show _ ≤ 600000; omega, by show _ ≤ 7302250; omega⟩) hH (fun r6 u H1 locs1 hp hH1 => ?_)
  obtain ⟨er, rfl⟩ := hp
  have hH1 : xH G A s.heap H1 locs1 (mw G ρ ad b0 I F) := hH1
  refine lv_aload_n hx hb dL_law_398 rfl (lv_at hl 2 rfl) ?_
  refine lv_aload_n hx hb dL_law_399 rfl (lv_at hl 0 rfl) ?_
  refine lv_iload_n hx hb dL_law_400 rfl (lv_at hl 3 rfl) ?_
  refine lv_iconst (v := 1) hx hb dL_law_401 (by decide) ?_
  refine N_iadd hx hb i 1 rfl rfl dL_law_402 ?_
  refine va_sld hx hb hX hbl hbA hH1.2.1 (vI_in (j := i + 1) rfl (by omega) (by omega)) dL_law_403 ?_
  refine lv_topi (fun z1 ez1 => ?_)
  refine lv_aload_n hx hb dL_law_404 rfl (lv_at hl 0 rfl) ?_
  refine lv_iload_n hx hb dL_law_405 rfl (lv_at hl 3 rfl) ?_
  refine lv_iconst (v := 2) hx hb dL_law_406 (by decide) ?_
  refine N_iadd hx hb i 2 rfl rfl dL_law_407 ?_
  refine va_sld hx hb hX hbl hbA hH1.2.1 (vI_in (j := i + 2) rfl (by omega) (by omega)) dL_law_408 ?_
  refine lv_topi (fun z2 ez2 => ?_)
  obtain rfl : y1 = z1 := ey1.trans ez1.symm
  obtain rfl : y2 = z2 := ey2.trans ez2.symm
  refine x_calli (va_runV (As := [.int y1, .int y2]) (rest := [.int r6]) ⟨hx, hb, hml, hown, htl⟩ (c_X7_barrel l G A ρ ad b0 I F hρ (L 1) (iv_16 hV) (iv_200 hV) (iv_h0 hV) y1 y2) (cwV 2 htl gL_law_X7_barrel rfl rfl rfl (by decide +kernel) ⟨Nat.le_of_ble_eq_true rfl, Nat.le_of_ble_eq_true rfl⟩) (x_preV hK hH1 hTt (mw_ob hρ) rfl [.int y1, .int y2]) rfl rfl hl.1 rfl (lv_room (Nat.le_of_ble_eq_true rfl)) dL_law_409 ⟨by show _ ≤ 600000; omega, by show _ ≤ 7302250; omega⟩) hH1 (fun r7 v H2 locs2 hq hH2 => ?_)
  have hH2 : xH G A s.heap H2 locs2 (mw G ρ ad b0 v.1 v.2) := hH2
  obtain ⟨e7, ev⟩ := hq
  subst ev
  refine lv_icmp_eq (tgt := 704) hx hb dL_law_412 (by decide) (fun c1 => ?_) (fun c1 => ?_)
  · refine W.widen (k := 57 + 102 * (n + 1)) (n := 30360 + 9672 * (n + 1)) (by omega) (by omega) ?_
    exact kk b0 O I F H2 locs2 hH2 hI
  · exact absurd (er.trans e7.symm) c1

set_option maxHeartbeats 4000000 in
set_option maxRecDepth 100000 in
theorem law_from {p : Program} {e : Env} {s : State} {m : MethodId} {below : List Frame} {meth : Method} {c : Code} (l : Launch) {b L0 : Nat} {xs : Nat → Int32} (hL : L0 ≤ 2560) (C0 : lw_At p s m meth c b L0 xs) {G : XG} {A : Nat → Prop} (hbA : ¬ A b) (hK : xK G s) (hTt : xT G A s) {ρ : Nat → Option Nat} {ad : Nat → Nat} {a : Nat} (hρ : mA ρ ad) {n i : Nat} (hi : i = 5 * n) (hn : i + 5 ≤ L0) {b0 : XW} {O : Nat → Prop} {I : Nat → Int32} {F : Nat → Nat → Int32} {H : Heap} {locs : List Loc} (hH : xH G A s.heap H locs (mw G ρ ad b0 I F)) (hI : LI G ρ ad b0 a O I F) {ls : Array Slot} (hl : lv_has ls 4 [(0, .ref b), (1, .ref a), (2, .ref (ad 0)), (3, .int (nI i))]) (kk : ∀ (b1 : XW) (O1 : Nat → Prop) (I1 : Nat → Int32) (F1 : Nat → Nat → Int32) (H1 : Heap) (locs1 : List Loc), xH G A s.heap H1 locs1 (mw G ρ ad b1 I1 F1) → LI G ρ ad b1 a O1 I1 F1 → W p l e room_1 s m #[Value.ref b] below meth c H1 locs1 (57 + 102 * (n + 1)) (30360 + 9672 * (n + 1)) (lw_Z below #[Value.ref b] s) (F0 m 704 ls [])) : W p l e room_1 s m #[Value.ref b] below meth c H locs (57 + 102 * n) (30360 + 9672 * n) (lw_Z below #[Value.ref b] s) (F0 m 417 ls []) := by
  obtain ⟨hx, hb, hr, hml, hown, hts, hX, hbl, hlocks, hgv⟩ := C0
  have hown : s.vm.findClass RL = some m.cls := hown
  have htl : ∀ w ∈ wsL_law, w.before #[Value.ref b] s = true := fun w h => hts w (wsL_law_in w h)
  obtain ⟨⟨ady, E, cp, L, wd, bw, lb, now, ha, hO2, hR, hV, hE⟩, hO⟩ := id hI
  have hOw : ∀ y, own ady L y → O y := fun y hy => by obtain ⟨k9, i9, j9, h9, e9⟩ := hy; rw [e9]; exact hO2 k9 i9 j9 h9
  have hc_a := hR.root
  rw [← ha] at hc_a
  refine lv_aload_n hx hb dL_law_417 rfl (lv_at hl 1 rfl) ?_
  refine lv_aload_n hx hb dL_law_418 rfl (lv_at hl 0 rfl) ?_
  refine lv_iload_n hx hb dL_law_419 rfl (lv_at hl 3 rfl) ?_
  refine lv_iconst (v := 1) hx hb dL_law_420 (by decide) ?_
  refine N_iadd hx hb i 1 rfl rfl dL_law_421 ?_
  refine va_sld hx hb hX hbl hbA hH.2.1 (vI_in (j := i + 1) rfl (by omega) (by omega)) dL_law_422 ?_
  refine lv_topi (fun y1 ey1 => ?_)
  refine lv_aload_n hx hb dL_law_423 rfl (lv_at hl 0 rfl) ?_
  refine lv_iload_n hx hb dL_law_424 rfl (lv_at hl 3 rfl) ?_
  refine lv_iconst (v := 2) hx hb dL_law_425 (by decide) ?_
  refine N_iadd hx hb i 2 rfl rfl dL_law_426 ?_
  refine va_sld hx hb hX hbl hbA hH.2.1 (vI_in (j := i + 2) rfl (by omega) (by omega)) dL_law_427 ?_
  refine lv_topi (fun y2 ey2 => ?_)
  refine x_calli (va_runV (As := [.int y1, .int y2]) (rest := []) ⟨hx, hb, hml, hown, htl⟩ (c_X6_from l G A _ a ady E cp L wd bw lb I F hc_a now hR hV  y1 y2) (cwV 2 htl gL_law_X6_from rfl rfl rfl (by decide +kernel) ⟨Nat.le_of_ble_eq_true rfl, Nat.le_of_ble_eq_true rfl⟩) (x_preV hK hH hTt hc_a rfl [.int y1, .int y2]) rfl rfl hl.1 rfl (lv_room (Nat.le_of_ble_eq_true rfl)) dL_law_428 ⟨by show _ ≤ 600000; omega, by show _ ≤ 7302250; omega⟩) hH (fun r6 u H1 locs1 hp hH1 => ?_)
  obtain ⟨er, rfl⟩ := hp
  have hH1 : xH G A s.heap H1 locs1 (mw G ρ ad b0 I F) := hH1
  refine lv_aload_n hx hb dL_law_431 rfl (lv_at hl 2 rfl) ?_
  refine lv_aload_n hx hb dL_law_432 rfl (lv_at hl 0 rfl) ?_
  refine lv_iload_n hx hb dL_law_433 rfl (lv_at hl 3 rfl) ?_
  refine lv_iconst (v := 1) hx hb dL_law_434 (by decide) ?_
  refine N_iadd hx hb i 1 rfl rfl dL_law_435 ?_
  refine va_sld hx hb hX hbl hbA hH1.2.1 (vI_in (j := i + 1) rfl (by omega) (by omega)) dL_law_436 ?_
  refine lv_topi (fun z1 ez1 => ?_)
  refine lv_aload_n hx hb dL_law_437 rfl (lv_at hl 0 rfl) ?_
  refine lv_iload_n hx hb dL_law_438 rfl (lv_at hl 3 rfl) ?_
  refine lv_iconst (v := 2) hx hb dL_law_439 (by decide) ?_
  refine N_iadd hx hb i 2 rfl rfl dL_law_440 ?_
  refine va_sld hx hb hX hbl hbA hH1.2.1 (vI_in (j := i + 2) rfl (by omega) (by omega)) dL_law_441 ?_
  refine lv_topi (fun z2 ez2 => ?_)
  obtain rfl : y1 = z1 := ey1.trans ez1.symm
  obtain rfl : y2 = z2 := ey2.trans ez2.symm
  refine x_calli (va_runV (As := [.int y1, .int y2]) (rest := [.int r6]) ⟨hx, hb, hml, hown, htl⟩ (c_X7_from l G A ρ ad b0 I F hρ (L 0) (iv_3 hV) (iv_60 hV) (L 1) (iv_16 hV) (iv_200 hV) y1 y2) (cwV 2 htl gL_law_X7_from rfl rfl rfl (by decide +kernel) ⟨Nat.le_of_ble_eq_true rfl, Nat.le_of_ble_eq_true rfl⟩) (x_preV hK hH1 hTt (mw_ob hρ) rfl [.int y1, .int y2]) rfl rfl hl.1 rfl (lv_room (Nat.le_of_ble_eq_true rfl)) dL_law_442 ⟨by show _ ≤ 600000; omega, by show _ ≤ 7302250; omega⟩) hH1 (fun r7 v H2 locs2 hq hH2 => ?_)
  have hH2 : xH G A s.heap H2 locs2 (mw G ρ ad b0 v.1 v.2) := hH2
  obtain ⟨e7, ev⟩ := hq
  subst ev
  refine lv_icmp_eq (tgt := 704) hx hb dL_law_445 (by decide) (fun c1 => ?_) (fun c1 => ?_)
  · refine W.widen (k := 57 + 102 * (n + 1)) (n := 30360 + 9672 * (n + 1)) (by omega) (by omega) ?_
    exact kk b0 O I F H2 locs2 hH2 hI
  · exact absurd (er.trans e7.symm) c1

set_option maxHeartbeats 4000000 in
set_option maxRecDepth 100000 in
theorem law_still {p : Program} {e : Env} {s : State} {m : MethodId} {below : List Frame} {meth : Method} {c : Code} (l : Launch) {b L0 : Nat} {xs : Nat → Int32} (hL : L0 ≤ 2560) (C0 : lw_At p s m meth c b L0 xs) {G : XG} {A : Nat → Prop} (hbA : ¬ A b) (hK : xK G s) (hTt : xT G A s) {ρ : Nat → Option Nat} {ad : Nat → Nat} {a : Nat} (hρ : mA ρ ad) {n i : Nat} (hi : i = 5 * n) (hn : i + 5 ≤ L0) {b0 : XW} {O : Nat → Prop} {I : Nat → Int32} {F : Nat → Nat → Int32} {H : Heap} {locs : List Loc} (hH : xH G A s.heap H locs (mw G ρ ad b0 I F)) (hI : LI G ρ ad b0 a O I F) {ls : Array Slot} (hl : lv_has ls 4 [(0, .ref b), (1, .ref a), (2, .ref (ad 0)), (3, .int (nI i))]) (kk : ∀ (b1 : XW) (O1 : Nat → Prop) (I1 : Nat → Int32) (F1 : Nat → Nat → Int32) (H1 : Heap) (locs1 : List Loc), xH G A s.heap H1 locs1 (mw G ρ ad b1 I1 F1) → LI G ρ ad b1 a O1 I1 F1 → W p l e room_1 s m #[Value.ref b] below meth c H1 locs1 (57 + 102 * (n + 1)) (30360 + 9672 * (n + 1)) (lw_Z below #[Value.ref b] s) (F0 m 704 ls [])) : W p l e room_1 s m #[Value.ref b] below meth c H locs (57 + 102 * n) (30360 + 9672 * n) (lw_Z below #[Value.ref b] s) (F0 m 450 ls []) := by
  obtain ⟨hx, hb, hr, hml, hown, hts, hX, hbl, hlocks, hgv⟩ := C0
  have hown : s.vm.findClass RL = some m.cls := hown
  have htl : ∀ w ∈ wsL_law, w.before #[Value.ref b] s = true := fun w h => hts w (wsL_law_in w h)
  obtain ⟨⟨ady, E, cp, L, wd, bw, lb, now, ha, hO2, hR, hV, hE⟩, hO⟩ := id hI
  have hOw : ∀ y, own ady L y → O y := fun y hy => by obtain ⟨k9, i9, j9, h9, e9⟩ := hy; rw [e9]; exact hO2 k9 i9 j9 h9
  have hc_a := hR.root
  rw [← ha] at hc_a
  refine lv_aload_n hx hb dL_law_450 rfl (lv_at hl 1 rfl) ?_
  refine lv_aload_n hx hb dL_law_451 rfl (lv_at hl 0 rfl) ?_
  refine lv_iload_n hx hb dL_law_452 rfl (lv_at hl 3 rfl) ?_
  refine lv_iconst (v := 1) hx hb dL_law_453 (by decide) ?_
  refine N_iadd hx hb i 1 rfl rfl dL_law_454 ?_
  refine va_sld hx hb hX hbl hbA hH.2.1 (vI_in (j := i + 1) rfl (by omega) (by omega)) dL_law_455 ?_
  refine lv_topi (fun y1 ey1 => ?_)
  refine x_calli (va_runV (As := [.int y1]) (rest := []) ⟨hx, hb, hml, hown, htl⟩ (c_X6_still l G A _ a ady E cp L wd bw lb I F hc_a now hR hV ha y1) (cwV 1 htl gL_law_X6_still rfl rfl rfl (by decide +kernel) ⟨Nat.le_of_ble_eq_true rfl, Nat.le_of_ble_eq_true rfl⟩) (x_preV hK hH hTt hc_a rfl [.int y1]) rfl rfl hl.1 rfl (lv_room (Nat.le_of_ble_eq_true rfl)) dL_law_456 ⟨by show _ ≤ 600000; omega, by show _ ≤ 7302250; omega⟩) hH (fun r6 u H1 locs1 hp hH1 => ?_)
  obtain ⟨er, hR1, hKp⟩ := hp
  have hx1 := Nx.same hR1 (inv_sStill hV y1) ha hE hKp
  obtain ⟨eu, O1, hI1⟩ := hI.step hOw hx1
  have hH1 : xH G A s.heap H1 locs1 (mw G ρ ad u I F) := xH_of hH1 eu
  refine lv_aload_n hx hb dL_law_459 rfl (lv_at hl 2 rfl) ?_
  refine lv_aload_n hx hb dL_law_460 rfl (lv_at hl 0 rfl) ?_
  refine lv_iload_n hx hb dL_law_461 rfl (lv_at hl 3 rfl) ?_
  refine lv_iconst (v := 1) hx hb dL_law_462 (by decide) ?_
  refine N_iadd hx hb i 1 rfl rfl dL_law_463 ?_
  refine va_sld hx hb hX hbl hbA hH1.2.1 (vI_in (j := i + 1) rfl (by omega) (by omega)) dL_law_464 ?_
  refine lv_topi (fun z1 ez1 => ?_)
  obtain rfl : y1 = z1 := ey1.trans ez1.symm
  refine x_calli (va_runV (As := [.int y1]) (rest := [.int r6]) ⟨hx, hb, hml, hown, htl⟩ (c_X7_still l G A ρ ad u I F hρ (L 1) (iv_16 hV) (iv_200 hV) (iv_h0 hV) y1) (cwV 1 htl gL_law_X7_still rfl rfl rfl (by decide +kernel) ⟨Nat.le_of_ble_eq_true rfl, Nat.le_of_ble_eq_true rfl⟩) (x_preV hK hH1 hTt (mw_ob hρ) rfl [.int y1]) rfl rfl hl.1 rfl (lv_room (Nat.le_of_ble_eq_true rfl)) dL_law_465 ⟨by show _ ≤ 600000; omega, by show _ ≤ 7302250; omega⟩) hH1 (fun r7 v H2 locs2 hq hH2 => ?_)
  have hH2 : xH G A s.heap H2 locs2 (mw G ρ ad u v.1 v.2) := hH2
  have e7 := congrArg Prod.fst hq
  have ev := congrArg Prod.snd hq
  have ev : v = (sStill I F y1).2 := ev
  subst ev
  refine lv_icmp_eq (tgt := 704) hx hb dL_law_468 (by decide) (fun c1 => ?_) (fun c1 => ?_)
  · refine W.widen (k := 57 + 102 * (n + 1)) (n := 30360 + 9672 * (n + 1)) (by omega) (by omega) ?_
    exact kk u O1 _ _ H2 locs2 hH2 hI1
  · exact absurd (er.trans e7.symm) c1

set_option maxHeartbeats 4000000 in
set_option maxRecDepth 100000 in
theorem law_let {p : Program} {e : Env} {s : State} {m : MethodId} {below : List Frame} {meth : Method} {c : Code} (l : Launch) {b L0 : Nat} {xs : Nat → Int32} (hL : L0 ≤ 2560) (C0 : lw_At p s m meth c b L0 xs) {G : XG} {A : Nat → Prop} (hbA : ¬ A b) (hK : xK G s) (hTt : xT G A s) {ρ : Nat → Option Nat} {ad : Nat → Nat} {a : Nat} (hρ : mA ρ ad) {n i : Nat} (hi : i = 5 * n) (hn : i + 5 ≤ L0) {b0 : XW} {O : Nat → Prop} {I : Nat → Int32} {F : Nat → Nat → Int32} {H : Heap} {locs : List Loc} (hH : xH G A s.heap H locs (mw G ρ ad b0 I F)) (hI : LI G ρ ad b0 a O I F) {ls : Array Slot} (hl : lv_has ls 4 [(0, .ref b), (1, .ref a), (2, .ref (ad 0)), (3, .int (nI i))]) (kk : ∀ (b1 : XW) (O1 : Nat → Prop) (I1 : Nat → Int32) (F1 : Nat → Nat → Int32) (H1 : Heap) (locs1 : List Loc), xH G A s.heap H1 locs1 (mw G ρ ad b1 I1 F1) → LI G ρ ad b1 a O1 I1 F1 → W p l e room_1 s m #[Value.ref b] below meth c H1 locs1 (57 + 102 * (n + 1)) (30360 + 9672 * (n + 1)) (lw_Z below #[Value.ref b] s) (F0 m 704 ls [])) : W p l e room_1 s m #[Value.ref b] below meth c H locs (57 + 102 * n) (30360 + 9672 * n) (lw_Z below #[Value.ref b] s) (F0 m 473 ls []) := by
  obtain ⟨hx, hb, hr, hml, hown, hts, hX, hbl, hlocks, hgv⟩ := C0
  have hown : s.vm.findClass RL = some m.cls := hown
  have htl : ∀ w ∈ wsL_law, w.before #[Value.ref b] s = true := fun w h => hts w (wsL_law_in w h)
  obtain ⟨⟨ady, E, cp, L, wd, bw, lb, now, ha, hO2, hR, hV, hE⟩, hO⟩ := id hI
  have hOw : ∀ y, own ady L y → O y := fun y hy => by obtain ⟨k9, i9, j9, h9, e9⟩ := hy; rw [e9]; exact hO2 k9 i9 j9 h9
  have hc_a := hR.root
  rw [← ha] at hc_a
  refine lv_aload_n hx hb dL_law_473 rfl (lv_at hl 1 rfl) ?_
  refine lv_aload_n hx hb dL_law_474 rfl (lv_at hl 0 rfl) ?_
  refine lv_iload_n hx hb dL_law_475 rfl (lv_at hl 3 rfl) ?_
  refine lv_iconst (v := 1) hx hb dL_law_476 (by decide) ?_
  refine N_iadd hx hb i 1 rfl rfl dL_law_477 ?_
  refine va_sld hx hb hX hbl hbA hH.2.1 (vI_in (j := i + 1) rfl (by omega) (by omega)) dL_law_478 ?_
  refine lv_topi (fun y1 ey1 => ?_)
  refine lv_aload_n hx hb dL_law_479 rfl (lv_at hl 0 rfl) ?_
  refine lv_iload_n hx hb dL_law_480 rfl (lv_at hl 3 rfl) ?_
  refine lv_iconst (v := 2) hx hb dL_law_481 (by decide) ?_
  refine N_iadd hx hb i 2 rfl rfl dL_law_482 ?_
  refine va_sld hx hb hX hbl hbA hH.2.1 (vI_in (j := i + 2) rfl (by omega) (by omega)) dL_law_483 ?_
  refine lv_topi (fun y2 ey2 => ?_)
  refine x_calli (va_runV (As := [.int y1, .int y2]) (rest := []) ⟨hx, hb, hml, hown, htl⟩ (c_X6_let l G A _ a ady E cp L wd bw lb I F hc_a now hR hV  y1 y2) (cwV 2 htl gL_law_X6_let rfl rfl rfl (by decide +kernel) ⟨Nat.le_of_ble_eq_true rfl, Nat.le_of_ble_eq_true rfl⟩) (x_preV hK hH hTt hc_a rfl [.int y1, .int y2]) rfl rfl hl.1 rfl (lv_room (Nat.le_of_ble_eq_true rfl)) dL_law_484 ⟨by show _ ≤ 600000; omega, by show _ ≤ 7302250; omega⟩) hH (fun r6 u H1 locs1 hp hH1 => ?_)
  obtain ⟨er, hR1, hKp⟩ := hp
  have hx1 := Nx.same hR1 (inv_sLet hV y1 y2) ha hE hKp
  obtain ⟨eu, O1, hI1⟩ := hI.step hOw hx1
  have hH1 : xH G A s.heap H1 locs1 (mw G ρ ad u I F) := xH_of hH1 eu
  refine lv_aload_n hx hb dL_law_487 rfl (lv_at hl 2 rfl) ?_
  refine lv_aload_n hx hb dL_law_488 rfl (lv_at hl 0 rfl) ?_
  refine lv_iload_n hx hb dL_law_489 rfl (lv_at hl 3 rfl) ?_
  refine lv_iconst (v := 1) hx hb dL_law_490 (by decide) ?_
  refine N_iadd hx hb i 1 rfl rfl dL_law_491 ?_
  refine va_sld hx hb hX hbl hbA hH1.2.1 (vI_in (j := i + 1) rfl (by omega) (by omega)) dL_law_492 ?_
  refine lv_topi (fun z1 ez1 => ?_)
  refine lv_aload_n hx hb dL_law_493 rfl (lv_at hl 0 rfl) ?_
  refine lv_iload_n hx hb dL_law_494 rfl (lv_at hl 3 rfl) ?_
  refine lv_iconst (v := 2) hx hb dL_law_495 (by decide) ?_
  refine N_iadd hx hb i 2 rfl rfl dL_law_496 ?_
  refine va_sld hx hb hX hbl hbA hH1.2.1 (vI_in (j := i + 2) rfl (by omega) (by omega)) dL_law_497 ?_
  refine lv_topi (fun z2 ez2 => ?_)
  obtain rfl : y1 = z1 := ey1.trans ez1.symm
  obtain rfl : y2 = z2 := ey2.trans ez2.symm
  refine x_calli (va_runV (As := [.int y1, .int y2]) (rest := [.int r6]) ⟨hx, hb, hml, hown, htl⟩ (c_X7_let l G A ρ ad u I F hρ  y1 y2) (cwV 2 htl gL_law_X7_let rfl rfl rfl (by decide +kernel) ⟨Nat.le_of_ble_eq_true rfl, Nat.le_of_ble_eq_true rfl⟩) (x_preV hK hH1 hTt (mw_ob hρ) rfl [.int y1, .int y2]) rfl rfl hl.1 rfl (lv_room (Nat.le_of_ble_eq_true rfl)) dL_law_498 ⟨by show _ ≤ 600000; omega, by show _ ≤ 7302250; omega⟩) hH1 (fun r7 v H2 locs2 hq hH2 => ?_)
  have hH2 : xH G A s.heap H2 locs2 (mw G ρ ad u v.1 v.2) := hH2
  have e7 := congrArg Prod.fst hq
  have ev := congrArg Prod.snd hq
  have ev : v = (sLet I F y1 y2).2 := ev
  subst ev
  refine lv_icmp_eq (tgt := 704) hx hb dL_law_501 (by decide) (fun c1 => ?_) (fun c1 => ?_)
  · refine W.widen (k := 57 + 102 * (n + 1)) (n := 30360 + 9672 * (n + 1)) (by omega) (by omega) ?_
    exact kk u O1 _ _ H2 locs2 hH2 hI1
  · exact absurd (er.trans e7.symm) c1

set_option maxHeartbeats 4000000 in
set_option maxRecDepth 100000 in
theorem law_due {p : Program} {e : Env} {s : State} {m : MethodId} {below : List Frame} {meth : Method} {c : Code} (l : Launch) {b L0 : Nat} {xs : Nat → Int32} (hL : L0 ≤ 2560) (C0 : lw_At p s m meth c b L0 xs) {G : XG} {A : Nat → Prop} (hbA : ¬ A b) (hK : xK G s) (hTt : xT G A s) {ρ : Nat → Option Nat} {ad : Nat → Nat} {a : Nat} (hρ : mA ρ ad) {n i : Nat} (hi : i = 5 * n) (hn : i + 5 ≤ L0) {b0 : XW} {O : Nat → Prop} {I : Nat → Int32} {F : Nat → Nat → Int32} {H : Heap} {locs : List Loc} (hH : xH G A s.heap H locs (mw G ρ ad b0 I F)) (hI : LI G ρ ad b0 a O I F) {ls : Array Slot} (hl : lv_has ls 4 [(0, .ref b), (1, .ref a), (2, .ref (ad 0)), (3, .int (nI i))]) (kk : ∀ (b1 : XW) (O1 : Nat → Prop) (I1 : Nat → Int32) (F1 : Nat → Nat → Int32) (H1 : Heap) (locs1 : List Loc), xH G A s.heap H1 locs1 (mw G ρ ad b1 I1 F1) → LI G ρ ad b1 a O1 I1 F1 → W p l e room_1 s m #[Value.ref b] below meth c H1 locs1 (57 + 102 * (n + 1)) (30360 + 9672 * (n + 1)) (lw_Z below #[Value.ref b] s) (F0 m 704 ls [])) : W p l e room_1 s m #[Value.ref b] below meth c H locs (57 + 102 * n) (30360 + 9672 * n) (lw_Z below #[Value.ref b] s) (F0 m 506 ls []) := by
  obtain ⟨hx, hb, hr, hml, hown, hts, hX, hbl, hlocks, hgv⟩ := C0
  have hown : s.vm.findClass RL = some m.cls := hown
  have htl : ∀ w ∈ wsL_law, w.before #[Value.ref b] s = true := fun w h => hts w (wsL_law_in w h)
  obtain ⟨⟨ady, E, cp, L, wd, bw, lb, now, ha, hO2, hR, hV, hE⟩, hO⟩ := id hI
  have hOw : ∀ y, own ady L y → O y := fun y hy => by obtain ⟨k9, i9, j9, h9, e9⟩ := hy; rw [e9]; exact hO2 k9 i9 j9 h9
  have hc_a := hR.root
  rw [← ha] at hc_a
  refine lv_aload_n hx hb dL_law_506 rfl (lv_at hl 1 rfl) ?_
  refine lv_aload_n hx hb dL_law_507 rfl (lv_at hl 0 rfl) ?_
  refine lv_iload_n hx hb dL_law_508 rfl (lv_at hl 3 rfl) ?_
  refine lv_iconst (v := 1) hx hb dL_law_509 (by decide) ?_
  refine N_iadd hx hb i 1 rfl rfl dL_law_510 ?_
  refine va_sld hx hb hX hbl hbA hH.2.1 (vI_in (j := i + 1) rfl (by omega) (by omega)) dL_law_511 ?_
  refine lv_topi (fun y1 ey1 => ?_)
  refine x_calli (va_runV (As := [.int y1]) (rest := []) ⟨hx, hb, hml, hown, htl⟩ (c_X6_due l G A _ a ady E cp L wd bw lb I F hc_a now hR hV  y1) (cwV 1 htl gL_law_X6_due rfl rfl rfl (by decide +kernel) ⟨Nat.le_of_ble_eq_true rfl, Nat.le_of_ble_eq_true rfl⟩) (x_preV hK hH hTt hc_a rfl [.int y1]) rfl rfl hl.1 rfl (lv_room (Nat.le_of_ble_eq_true rfl)) dL_law_512 ⟨by show _ ≤ 600000; omega, by show _ ≤ 7302250; omega⟩) hH (fun r6 u H1 locs1 hp hH1 => ?_)
  obtain ⟨er, rfl⟩ := hp
  have hH1 : xH G A s.heap H1 locs1 (mw G ρ ad b0 I F) := hH1
  refine lv_aload_n hx hb dL_law_515 rfl (lv_at hl 2 rfl) ?_
  refine lv_aload_n hx hb dL_law_516 rfl (lv_at hl 0 rfl) ?_
  refine lv_iload_n hx hb dL_law_517 rfl (lv_at hl 3 rfl) ?_
  refine lv_iconst (v := 1) hx hb dL_law_518 (by decide) ?_
  refine N_iadd hx hb i 1 rfl rfl dL_law_519 ?_
  refine va_sld hx hb hX hbl hbA hH1.2.1 (vI_in (j := i + 1) rfl (by omega) (by omega)) dL_law_520 ?_
  refine lv_topi (fun z1 ez1 => ?_)
  obtain rfl : y1 = z1 := ey1.trans ez1.symm
  refine x_calli (va_runV (As := [.int y1]) (rest := [.int r6]) ⟨hx, hb, hml, hown, htl⟩ (c_X7_due l G A ρ ad b0 I F hρ  y1) (cwV 1 htl gL_law_X7_due rfl rfl rfl (by decide +kernel) ⟨Nat.le_of_ble_eq_true rfl, Nat.le_of_ble_eq_true rfl⟩) (x_preV hK hH1 hTt (mw_ob hρ) rfl [.int y1]) rfl rfl hl.1 rfl (lv_room (Nat.le_of_ble_eq_true rfl)) dL_law_521 ⟨by show _ ≤ 600000; omega, by show _ ≤ 7302250; omega⟩) hH1 (fun r7 v H2 locs2 hq hH2 => ?_)
  have hH2 : xH G A s.heap H2 locs2 (mw G ρ ad b0 v.1 v.2) := hH2
  obtain ⟨e7, ev⟩ := hq
  subst ev
  refine lv_icmp_eq (tgt := 704) hx hb dL_law_524 (by decide) (fun c1 => ?_) (fun c1 => ?_)
  · refine W.widen (k := 57 + 102 * (n + 1)) (n := 30360 + 9672 * (n + 1)) (by omega) (by omega) ?_
    exact kk b0 O I F H2 locs2 hH2 hI
  · exact absurd (er.trans e7.symm) c1

set_option maxHeartbeats 4000000 in
set_option maxRecDepth 100000 in
theorem law_pay {p : Program} {e : Env} {s : State} {m : MethodId} {below : List Frame} {meth : Method} {c : Code} (l : Launch) {b L0 : Nat} {xs : Nat → Int32} (hL : L0 ≤ 2560) (C0 : lw_At p s m meth c b L0 xs) {G : XG} {A : Nat → Prop} (hbA : ¬ A b) (hK : xK G s) (hTt : xT G A s) {ρ : Nat → Option Nat} {ad : Nat → Nat} {a : Nat} (hρ : mA ρ ad) {n i : Nat} (hi : i = 5 * n) (hn : i + 5 ≤ L0) {b0 : XW} {O : Nat → Prop} {I : Nat → Int32} {F : Nat → Nat → Int32} {H : Heap} {locs : List Loc} (hH : xH G A s.heap H locs (mw G ρ ad b0 I F)) (hI : LI G ρ ad b0 a O I F) {ls : Array Slot} (hl : lv_has ls 4 [(0, .ref b), (1, .ref a), (2, .ref (ad 0)), (3, .int (nI i))]) (kk : ∀ (b1 : XW) (O1 : Nat → Prop) (I1 : Nat → Int32) (F1 : Nat → Nat → Int32) (H1 : Heap) (locs1 : List Loc), xH G A s.heap H1 locs1 (mw G ρ ad b1 I1 F1) → LI G ρ ad b1 a O1 I1 F1 → W p l e room_1 s m #[Value.ref b] below meth c H1 locs1 (57 + 102 * (n + 1)) (30360 + 9672 * (n + 1)) (lw_Z below #[Value.ref b] s) (F0 m 704 ls [])) : W p l e room_1 s m #[Value.ref b] below meth c H locs (57 + 102 * n) (30360 + 9672 * n) (lw_Z below #[Value.ref b] s) (F0 m 529 ls []) := by
  obtain ⟨hx, hb, hr, hml, hown, hts, hX, hbl, hlocks, hgv⟩ := C0
  have hown : s.vm.findClass RL = some m.cls := hown
  have htl : ∀ w ∈ wsL_law, w.before #[Value.ref b] s = true := fun w h => hts w (wsL_law_in w h)
  obtain ⟨⟨ady, E, cp, L, wd, bw, lb, now, ha, hO2, hR, hV, hE⟩, hO⟩ := id hI
  have hOw : ∀ y, own ady L y → O y := fun y hy => by obtain ⟨k9, i9, j9, h9, e9⟩ := hy; rw [e9]; exact hO2 k9 i9 j9 h9
  have hc_a := hR.root
  rw [← ha] at hc_a
  refine lv_aload_n hx hb dL_law_529 rfl (lv_at hl 1 rfl) ?_
  refine lv_aload_n hx hb dL_law_530 rfl (lv_at hl 0 rfl) ?_
  refine lv_iload_n hx hb dL_law_531 rfl (lv_at hl 3 rfl) ?_
  refine lv_iconst (v := 1) hx hb dL_law_532 (by decide) ?_
  refine N_iadd hx hb i 1 rfl rfl dL_law_533 ?_
  refine va_sld hx hb hX hbl hbA hH.2.1 (vI_in (j := i + 1) rfl (by omega) (by omega)) dL_law_534 ?_
  refine lv_topi (fun y1 ey1 => ?_)
  refine x_calli (va_runV (As := [.int y1]) (rest := []) ⟨hx, hb, hml, hown, htl⟩ (c_X6_pay l G A _ a ady E cp L wd bw lb I F hc_a now hR hV ha y1) (cwV 1 htl gL_law_X6_pay rfl rfl rfl (by decide +kernel) ⟨Nat.le_of_ble_eq_true rfl, Nat.le_of_ble_eq_true rfl⟩) (x_preV hK hH hTt hc_a rfl [.int y1]) rfl rfl hl.1 rfl (lv_room (Nat.le_of_ble_eq_true rfl)) dL_law_535 ⟨by show _ ≤ 600000; omega, by show _ ≤ 7302250; omega⟩) hH (fun r6 u H1 locs1 hp hH1 => ?_)
  obtain ⟨er, hR1, hKp⟩ := hp
  have hx1 := Nx.same hR1 (inv_sPay hV y1) ha hE hKp
  obtain ⟨eu, O1, hI1⟩ := hI.step hOw hx1
  have hH1 : xH G A s.heap H1 locs1 (mw G ρ ad u I F) := xH_of hH1 eu
  refine lv_aload_n hx hb dL_law_538 rfl (lv_at hl 2 rfl) ?_
  refine lv_aload_n hx hb dL_law_539 rfl (lv_at hl 0 rfl) ?_
  refine lv_iload_n hx hb dL_law_540 rfl (lv_at hl 3 rfl) ?_
  refine lv_iconst (v := 1) hx hb dL_law_541 (by decide) ?_
  refine N_iadd hx hb i 1 rfl rfl dL_law_542 ?_
  refine va_sld hx hb hX hbl hbA hH1.2.1 (vI_in (j := i + 1) rfl (by omega) (by omega)) dL_law_543 ?_
  refine lv_topi (fun z1 ez1 => ?_)
  obtain rfl : y1 = z1 := ey1.trans ez1.symm
  refine x_calli (va_runV (As := [.int y1]) (rest := [.int r6]) ⟨hx, hb, hml, hown, htl⟩ (c_X7_pay l G A ρ ad u I F hρ (L 1) (iv_16 hV) (iv_200 hV) bw (iv_bw hV) y1) (cwV 1 htl gL_law_X7_pay rfl rfl rfl (by decide +kernel) ⟨Nat.le_of_ble_eq_true rfl, Nat.le_of_ble_eq_true rfl⟩) (x_preV hK hH1 hTt (mw_ob hρ) rfl [.int y1]) rfl rfl hl.1 rfl (lv_room (Nat.le_of_ble_eq_true rfl)) dL_law_544 ⟨by show _ ≤ 600000; omega, by show _ ≤ 7302250; omega⟩) hH1 (fun r7 v H2 locs2 hq hH2 => ?_)
  have hH2 : xH G A s.heap H2 locs2 (mw G ρ ad u v.1 v.2) := hH2
  have e7 := congrArg Prod.fst hq
  have ev := congrArg Prod.snd hq
  have ev : v = (sPay I F y1).2 := ev
  subst ev
  refine lv_icmp_eq (tgt := 704) hx hb dL_law_547 (by decide) (fun c1 => ?_) (fun c1 => ?_)
  · refine W.widen (k := 57 + 102 * (n + 1)) (n := 30360 + 9672 * (n + 1)) (by omega) (by omega) ?_
    exact kk u O1 _ _ H2 locs2 hH2 hI1
  · exact absurd (er.trans e7.symm) c1

set_option maxHeartbeats 4000000 in
set_option maxRecDepth 100000 in
theorem law_burn {p : Program} {e : Env} {s : State} {m : MethodId} {below : List Frame} {meth : Method} {c : Code} (l : Launch) {b L0 : Nat} {xs : Nat → Int32} (hL : L0 ≤ 2560) (C0 : lw_At p s m meth c b L0 xs) {G : XG} {A : Nat → Prop} (hbA : ¬ A b) (hK : xK G s) (hTt : xT G A s) {ρ : Nat → Option Nat} {ad : Nat → Nat} {a : Nat} (hρ : mA ρ ad) {n i : Nat} (hi : i = 5 * n) (hn : i + 5 ≤ L0) {b0 : XW} {O : Nat → Prop} {I : Nat → Int32} {F : Nat → Nat → Int32} {H : Heap} {locs : List Loc} (hH : xH G A s.heap H locs (mw G ρ ad b0 I F)) (hI : LI G ρ ad b0 a O I F) {ls : Array Slot} (hl : lv_has ls 4 [(0, .ref b), (1, .ref a), (2, .ref (ad 0)), (3, .int (nI i))]) (kk : ∀ (b1 : XW) (O1 : Nat → Prop) (I1 : Nat → Int32) (F1 : Nat → Nat → Int32) (H1 : Heap) (locs1 : List Loc), xH G A s.heap H1 locs1 (mw G ρ ad b1 I1 F1) → LI G ρ ad b1 a O1 I1 F1 → W p l e room_1 s m #[Value.ref b] below meth c H1 locs1 (57 + 102 * (n + 1)) (30360 + 9672 * (n + 1)) (lw_Z below #[Value.ref b] s) (F0 m 704 ls [])) : W p l e room_1 s m #[Value.ref b] below meth c H locs (57 + 102 * n) (30360 + 9672 * n) (lw_Z below #[Value.ref b] s) (F0 m 552 ls []) := by
  obtain ⟨hx, hb, hr, hml, hown, hts, hX, hbl, hlocks, hgv⟩ := C0
  have hown : s.vm.findClass RL = some m.cls := hown
  have htl : ∀ w ∈ wsL_law, w.before #[Value.ref b] s = true := fun w h => hts w (wsL_law_in w h)
  obtain ⟨⟨ady, E, cp, L, wd, bw, lb, now, ha, hO2, hR, hV, hE⟩, hO⟩ := id hI
  have hOw : ∀ y, own ady L y → O y := fun y hy => by obtain ⟨k9, i9, j9, h9, e9⟩ := hy; rw [e9]; exact hO2 k9 i9 j9 h9
  have hc_a := hR.root
  rw [← ha] at hc_a
  refine lv_aload_n hx hb dL_law_552 rfl (lv_at hl 1 rfl) ?_
  refine lv_aload_n hx hb dL_law_553 rfl (lv_at hl 0 rfl) ?_
  refine lv_iload_n hx hb dL_law_554 rfl (lv_at hl 3 rfl) ?_
  refine lv_iconst (v := 1) hx hb dL_law_555 (by decide) ?_
  refine N_iadd hx hb i 1 rfl rfl dL_law_556 ?_
  refine va_sld hx hb hX hbl hbA hH.2.1 (vI_in (j := i + 1) rfl (by omega) (by omega)) dL_law_557 ?_
  refine lv_topi (fun y1 ey1 => ?_)
  refine x_calli (va_runV (As := [.int y1]) (rest := []) ⟨hx, hb, hml, hown, htl⟩ (c_X6_burn l G A _ a ady E cp L wd bw lb I F hc_a now hR hV ha hE y1) (cwV 1 htl gL_law_X6_burn rfl rfl rfl (by decide +kernel) ⟨Nat.le_of_ble_eq_true rfl, Nat.le_of_ble_eq_true rfl⟩) (x_preV hK hH hTt hc_a rfl [.int y1]) rfl rfl hl.1 rfl (lv_room (Nat.le_of_ble_eq_true rfl)) dL_law_558 ⟨by show _ ≤ 600000; omega, by show _ ≤ 7302250; omega⟩) hH (fun r6 u H1 locs1 hp hH1 => ?_)
  obtain ⟨er, hx1⟩ := hp
  obtain ⟨eu, O1, hI1⟩ := hI.step hOw hx1
  have hH1 : xH G A s.heap H1 locs1 (mw G ρ ad u I F) := xH_of hH1 eu
  refine lv_aload_n hx hb dL_law_561 rfl (lv_at hl 2 rfl) ?_
  refine lv_aload_n hx hb dL_law_562 rfl (lv_at hl 0 rfl) ?_
  refine lv_iload_n hx hb dL_law_563 rfl (lv_at hl 3 rfl) ?_
  refine lv_iconst (v := 1) hx hb dL_law_564 (by decide) ?_
  refine N_iadd hx hb i 1 rfl rfl dL_law_565 ?_
  refine va_sld hx hb hX hbl hbA hH1.2.1 (vI_in (j := i + 1) rfl (by omega) (by omega)) dL_law_566 ?_
  refine lv_topi (fun z1 ez1 => ?_)
  obtain rfl : y1 = z1 := ey1.trans ez1.symm
  refine x_calli (va_runV (As := [.int y1]) (rest := [.int r6]) ⟨hx, hb, hml, hown, htl⟩ (c_X7_burn l G A ρ ad u I F hρ (L 0) (iv_3 hV) (iv_60 hV) y1) (cwV 1 htl gL_law_X7_burn rfl rfl rfl (by decide +kernel) ⟨Nat.le_of_ble_eq_true rfl, Nat.le_of_ble_eq_true rfl⟩) (x_preV hK hH1 hTt (mw_ob hρ) rfl [.int y1]) rfl rfl hl.1 rfl (lv_room (Nat.le_of_ble_eq_true rfl)) dL_law_567 ⟨by show _ ≤ 600000; omega, by show _ ≤ 7302250; omega⟩) hH1 (fun r7 v H2 locs2 hq hH2 => ?_)
  have hH2 : xH G A s.heap H2 locs2 (mw G ρ ad u v.1 v.2) := hH2
  have e7 := congrArg Prod.fst hq
  have ev := congrArg Prod.snd hq
  have ev : v = (sBurn I F (L 0) y1).2 := ev
  subst ev
  refine lv_icmp_eq (tgt := 704) hx hb dL_law_570 (by decide) (fun c1 => ?_) (fun c1 => ?_)
  · refine W.widen (k := 57 + 102 * (n + 1)) (n := 30360 + 9672 * (n + 1)) (by omega) (by omega) ?_
    exact kk u O1 _ _ H2 locs2 hH2 hI1
  · exact absurd (er.trans e7.symm) c1

set_option maxHeartbeats 4000000 in
set_option maxRecDepth 100000 in
theorem law_walk {p : Program} {e : Env} {s : State} {m : MethodId} {below : List Frame} {meth : Method} {c : Code} (l : Launch) {b L0 : Nat} {xs : Nat → Int32} (hL : L0 ≤ 2560) (C0 : lw_At p s m meth c b L0 xs) {G : XG} {A : Nat → Prop} (hbA : ¬ A b) (hK : xK G s) (hTt : xT G A s) {ρ : Nat → Option Nat} {ad : Nat → Nat} {a : Nat} (hρ : mA ρ ad) {n i : Nat} (hi : i = 5 * n) (hn : i + 5 ≤ L0) {b0 : XW} {O : Nat → Prop} {I : Nat → Int32} {F : Nat → Nat → Int32} {H : Heap} {locs : List Loc} (hH : xH G A s.heap H locs (mw G ρ ad b0 I F)) (hI : LI G ρ ad b0 a O I F) {ls : Array Slot} (hl : lv_has ls 4 [(0, .ref b), (1, .ref a), (2, .ref (ad 0)), (3, .int (nI i))]) (kk : ∀ (b1 : XW) (O1 : Nat → Prop) (I1 : Nat → Int32) (F1 : Nat → Nat → Int32) (H1 : Heap) (locs1 : List Loc), xH G A s.heap H1 locs1 (mw G ρ ad b1 I1 F1) → LI G ρ ad b1 a O1 I1 F1 → W p l e room_1 s m #[Value.ref b] below meth c H1 locs1 (57 + 102 * (n + 1)) (30360 + 9672 * (n + 1)) (lw_Z below #[Value.ref b] s) (F0 m 704 ls [])) : W p l e room_1 s m #[Value.ref b] below meth c H locs (57 + 102 * n) (30360 + 9672 * n) (lw_Z below #[Value.ref b] s) (F0 m 575 ls []) := by
  obtain ⟨hx, hb, hr, hml, hown, hts, hX, hbl, hlocks, hgv⟩ := C0
  have hown : s.vm.findClass RL = some m.cls := hown
  have htl : ∀ w ∈ wsL_law, w.before #[Value.ref b] s = true := fun w h => hts w (wsL_law_in w h)
  obtain ⟨⟨ady, E, cp, L, wd, bw, lb, now, ha, hO2, hR, hV, hE⟩, hO⟩ := id hI
  have hOw : ∀ y, own ady L y → O y := fun y hy => by obtain ⟨k9, i9, j9, h9, e9⟩ := hy; rw [e9]; exact hO2 k9 i9 j9 h9
  have hc_a := hR.root
  rw [← ha] at hc_a
  refine lv_aload_n hx hb dL_law_575 rfl (lv_at hl 1 rfl) ?_
  refine lv_aload_n hx hb dL_law_576 rfl (lv_at hl 0 rfl) ?_
  refine lv_iload_n hx hb dL_law_577 rfl (lv_at hl 3 rfl) ?_
  refine lv_iconst (v := 1) hx hb dL_law_578 (by decide) ?_
  refine N_iadd hx hb i 1 rfl rfl dL_law_579 ?_
  refine va_sld hx hb hX hbl hbA hH.2.1 (vI_in (j := i + 1) rfl (by omega) (by omega)) dL_law_580 ?_
  refine lv_topi (fun y1 ey1 => ?_)
  refine lv_aload_n hx hb dL_law_581 rfl (lv_at hl 0 rfl) ?_
  refine lv_iload_n hx hb dL_law_582 rfl (lv_at hl 3 rfl) ?_
  refine lv_iconst (v := 2) hx hb dL_law_583 (by decide) ?_
  refine N_iadd hx hb i 2 rfl rfl dL_law_584 ?_
  refine va_sld hx hb hX hbl hbA hH.2.1 (vI_in (j := i + 2) rfl (by omega) (by omega)) dL_law_585 ?_
  refine lv_topi (fun y2 ey2 => ?_)
  refine lv_aload_n hx hb dL_law_586 rfl (lv_at hl 0 rfl) ?_
  refine lv_iload_n hx hb dL_law_587 rfl (lv_at hl 3 rfl) ?_
  refine lv_iconst (v := 3) hx hb dL_law_588 (by decide) ?_
  refine N_iadd hx hb i 3 rfl rfl dL_law_589 ?_
  refine va_sld hx hb hX hbl hbA hH.2.1 (vI_in (j := i + 3) rfl (by omega) (by omega)) dL_law_590 ?_
  refine lv_topi (fun y3 ey3 => ?_)
  refine lv_aload_n hx hb dL_law_591 rfl (lv_at hl 0 rfl) ?_
  refine lv_iload_n hx hb dL_law_592 rfl (lv_at hl 3 rfl) ?_
  refine lv_iconst (v := 4) hx hb dL_law_593 (by decide) ?_
  refine N_iadd hx hb i 4 rfl rfl dL_law_594 ?_
  refine va_sld hx hb hX hbl hbA hH.2.1 (vI_in (j := i + 4) rfl (by omega) (by omega)) dL_law_595 ?_
  refine lv_topi (fun y4 ey4 => ?_)
  obtain ⟨lo, hlo, rfl⟩ := i32_nat y1
  obtain ⟨hi9, hhi9, rfl⟩ := i32_nat y2
  refine x_calli (va_runV (As := [.int (nI lo), .int (nI hi9), .int y3, .int y4]) (rest := []) ⟨hx, hb, hml, hown, htl⟩ (c_X6_walk l G A _ a ady E cp L wd bw lb I F hc_a now hR hV ha hE lo hi9 y3 y4 hlo hhi9) (cwV 4 htl gL_law_X6_walk rfl rfl rfl (by decide +kernel) ⟨Nat.le_of_ble_eq_true rfl, Nat.le_of_ble_eq_true rfl⟩) (x_preV hK hH hTt hc_a rfl [.int (nI lo), .int (nI hi9), .int y3, .int y4]) rfl rfl hl.1 rfl (lv_room (Nat.le_of_ble_eq_true rfl)) dL_law_596 ⟨by show _ ≤ 600000; omega, by show _ ≤ 7302250; omega⟩) hH (fun r6 u H1 locs1 hp hH1 => ?_)
  obtain ⟨er, hx1⟩ := hp
  obtain ⟨eu, O1, hI1⟩ := hI.step hOw hx1
  have hH1 : xH G A s.heap H1 locs1 (mw G ρ ad u I F) := xH_of hH1 eu
  refine lv_aload_n hx hb dL_law_599 rfl (lv_at hl 2 rfl) ?_
  refine lv_aload_n hx hb dL_law_600 rfl (lv_at hl 0 rfl) ?_
  refine lv_iload_n hx hb dL_law_601 rfl (lv_at hl 3 rfl) ?_
  refine lv_iconst (v := 1) hx hb dL_law_602 (by decide) ?_
  refine N_iadd hx hb i 1 rfl rfl dL_law_603 ?_
  refine va_sld hx hb hX hbl hbA hH1.2.1 (vI_in (j := i + 1) rfl (by omega) (by omega)) dL_law_604 ?_
  refine lv_topi (fun z1 ez1 => ?_)
  refine lv_aload_n hx hb dL_law_605 rfl (lv_at hl 0 rfl) ?_
  refine lv_iload_n hx hb dL_law_606 rfl (lv_at hl 3 rfl) ?_
  refine lv_iconst (v := 2) hx hb dL_law_607 (by decide) ?_
  refine N_iadd hx hb i 2 rfl rfl dL_law_608 ?_
  refine va_sld hx hb hX hbl hbA hH1.2.1 (vI_in (j := i + 2) rfl (by omega) (by omega)) dL_law_609 ?_
  refine lv_topi (fun z2 ez2 => ?_)
  refine lv_aload_n hx hb dL_law_610 rfl (lv_at hl 0 rfl) ?_
  refine lv_iload_n hx hb dL_law_611 rfl (lv_at hl 3 rfl) ?_
  refine lv_iconst (v := 3) hx hb dL_law_612 (by decide) ?_
  refine N_iadd hx hb i 3 rfl rfl dL_law_613 ?_
  refine va_sld hx hb hX hbl hbA hH1.2.1 (vI_in (j := i + 3) rfl (by omega) (by omega)) dL_law_614 ?_
  refine lv_topi (fun z3 ez3 => ?_)
  refine lv_aload_n hx hb dL_law_615 rfl (lv_at hl 0 rfl) ?_
  refine lv_iload_n hx hb dL_law_616 rfl (lv_at hl 3 rfl) ?_
  refine lv_iconst (v := 4) hx hb dL_law_617 (by decide) ?_
  refine N_iadd hx hb i 4 rfl rfl dL_law_618 ?_
  refine va_sld hx hb hX hbl hbA hH1.2.1 (vI_in (j := i + 4) rfl (by omega) (by omega)) dL_law_619 ?_
  refine lv_topi (fun z4 ez4 => ?_)
  obtain rfl : (nI lo) = z1 := ey1.trans ez1.symm
  obtain rfl : (nI hi9) = z2 := ey2.trans ez2.symm
  obtain rfl : y3 = z3 := ey3.trans ez3.symm
  obtain rfl : y4 = z4 := ey4.trans ez4.symm
  refine x_calli (va_runV (As := [.int (nI lo), .int (nI hi9), .int y3, .int y4]) (rest := [.int r6]) ⟨hx, hb, hml, hown, htl⟩ (c_X7_walk l G A ρ ad u I F hρ (L 0) (iv_3 hV) (iv_60 hV) now (iv_0 hV) (iv_n hV) (fun t => L (2 + t)) (iv_op hV) (iv_oy hV) (fun t => ix (F 5 t)) (fun t => ix (F 6 t)) (iv_px hV) (nI lo) (nI hi9) y3 y4) (cwV 4 htl gL_law_X7_walk rfl rfl rfl (by decide +kernel) ⟨Nat.le_of_ble_eq_true rfl, Nat.le_of_ble_eq_true rfl⟩) (x_preV hK hH1 hTt (mw_ob hρ) rfl [.int (nI lo), .int (nI hi9), .int y3, .int y4]) rfl rfl hl.1 rfl (lv_room (Nat.le_of_ble_eq_true rfl)) dL_law_620 ⟨by show _ ≤ 600000; omega, by show _ ≤ 7302250; omega⟩) hH1 (fun r7 v H2 locs2 hq hH2 => ?_)
  have hH2 : xH G A s.heap H2 locs2 (mw G ρ ad u v.1 v.2) := hH2
  obtain ⟨e7, hq1, hq2⟩ := hq
  refine lv_icmp_eq (tgt := 704) hx hb dL_law_623 (by decide) (fun c1 => ?_) (fun c1 => ?_)
  · refine W.widen (k := 57 + 102 * (n + 1)) (n := 30360 + 9672 * (n + 1)) (by omega) (by omega) ?_
    exact kk u O1 v.1 v.2 H2 locs2 hH2 (hI1.scratch hq1 hq2)
  · exact absurd (er.trans e7.symm) c1

set_option maxHeartbeats 4000000 in
set_option maxRecDepth 100000 in
theorem law_walked {p : Program} {e : Env} {s : State} {m : MethodId} {below : List Frame} {meth : Method} {c : Code} (l : Launch) {b L0 : Nat} {xs : Nat → Int32} (hL : L0 ≤ 2560) (C0 : lw_At p s m meth c b L0 xs) {G : XG} {A : Nat → Prop} (hbA : ¬ A b) (hK : xK G s) (hTt : xT G A s) {ρ : Nat → Option Nat} {ad : Nat → Nat} {a : Nat} (hρ : mA ρ ad) {n i : Nat} (hi : i = 5 * n) (hn : i + 5 ≤ L0) {b0 : XW} {O : Nat → Prop} {I : Nat → Int32} {F : Nat → Nat → Int32} {H : Heap} {locs : List Loc} (hH : xH G A s.heap H locs (mw G ρ ad b0 I F)) (hI : LI G ρ ad b0 a O I F) {ls : Array Slot} (hl : lv_has ls 4 [(0, .ref b), (1, .ref a), (2, .ref (ad 0)), (3, .int (nI i))]) (kk : ∀ (b1 : XW) (O1 : Nat → Prop) (I1 : Nat → Int32) (F1 : Nat → Nat → Int32) (H1 : Heap) (locs1 : List Loc), xH G A s.heap H1 locs1 (mw G ρ ad b1 I1 F1) → LI G ρ ad b1 a O1 I1 F1 → W p l e room_1 s m #[Value.ref b] below meth c H1 locs1 (57 + 102 * (n + 1)) (30360 + 9672 * (n + 1)) (lw_Z below #[Value.ref b] s) (F0 m 704 ls [])) : W p l e room_1 s m #[Value.ref b] below meth c H locs (57 + 102 * n) (30360 + 9672 * n) (lw_Z below #[Value.ref b] s) (F0 m 628 ls []) := by
  obtain ⟨hx, hb, hr, hml, hown, hts, hX, hbl, hlocks, hgv⟩ := C0
  have hown : s.vm.findClass RL = some m.cls := hown
  have htl : ∀ w ∈ wsL_law, w.before #[Value.ref b] s = true := fun w h => hts w (wsL_law_in w h)
  obtain ⟨⟨ady, E, cp, L, wd, bw, lb, now, ha, hO2, hR, hV, hE⟩, hO⟩ := id hI
  have hOw : ∀ y, own ady L y → O y := fun y hy => by obtain ⟨k9, i9, j9, h9, e9⟩ := hy; rw [e9]; exact hO2 k9 i9 j9 h9
  have hc_a := hR.root
  rw [← ha] at hc_a
  refine lv_aload_n hx hb dL_law_628 rfl (lv_at hl 1 rfl) ?_
  refine lv_aload_n hx hb dL_law_629 rfl (lv_at hl 0 rfl) ?_
  refine lv_iload_n hx hb dL_law_630 rfl (lv_at hl 3 rfl) ?_
  refine lv_iconst (v := 1) hx hb dL_law_631 (by decide) ?_
  refine N_iadd hx hb i 1 rfl rfl dL_law_632 ?_
  refine va_sld hx hb hX hbl hbA hH.2.1 (vI_in (j := i + 1) rfl (by omega) (by omega)) dL_law_633 ?_
  refine lv_topi (fun y1 ey1 => ?_)
  refine lv_aload_n hx hb dL_law_634 rfl (lv_at hl 0 rfl) ?_
  refine lv_iload_n hx hb dL_law_635 rfl (lv_at hl 3 rfl) ?_
  refine lv_iconst (v := 2) hx hb dL_law_636 (by decide) ?_
  refine N_iadd hx hb i 2 rfl rfl dL_law_637 ?_
  refine va_sld hx hb hX hbl hbA hH.2.1 (vI_in (j := i + 2) rfl (by omega) (by omega)) dL_law_638 ?_
  refine lv_topi (fun y2 ey2 => ?_)
  refine lv_aload_n hx hb dL_law_639 rfl (lv_at hl 0 rfl) ?_
  refine lv_iload_n hx hb dL_law_640 rfl (lv_at hl 3 rfl) ?_
  refine lv_iconst (v := 3) hx hb dL_law_641 (by decide) ?_
  refine N_iadd hx hb i 3 rfl rfl dL_law_642 ?_
  refine va_sld hx hb hX hbl hbA hH.2.1 (vI_in (j := i + 3) rfl (by omega) (by omega)) dL_law_643 ?_
  refine lv_topi (fun y3 ey3 => ?_)
  refine lv_aload_n hx hb dL_law_644 rfl (lv_at hl 0 rfl) ?_
  refine lv_iload_n hx hb dL_law_645 rfl (lv_at hl 3 rfl) ?_
  refine lv_iconst (v := 4) hx hb dL_law_646 (by decide) ?_
  refine N_iadd hx hb i 4 rfl rfl dL_law_647 ?_
  refine va_sld hx hb hX hbl hbA hH.2.1 (vI_in (j := i + 4) rfl (by omega) (by omega)) dL_law_648 ?_
  refine lv_topi (fun y4 ey4 => ?_)
  obtain ⟨lo, hlo, rfl⟩ := i32_nat y1
  obtain ⟨hi9, hhi9, rfl⟩ := i32_nat y2
  refine x_calli (va_runV (As := [.int (nI lo), .int (nI hi9), .int y3, .int y4]) (rest := []) ⟨hx, hb, hml, hown, htl⟩ (c_X6_walked l G A _ a ady E cp L wd bw lb I F hc_a now hR hV ha hE lo hi9 y3 y4 hlo hhi9) (cwV 4 htl gL_law_X6_walked rfl rfl rfl (by decide +kernel) ⟨Nat.le_of_ble_eq_true rfl, Nat.le_of_ble_eq_true rfl⟩) (x_preV hK hH hTt hc_a rfl [.int (nI lo), .int (nI hi9), .int y3, .int y4]) rfl rfl hl.1 rfl (lv_room (Nat.le_of_ble_eq_true rfl)) dL_law_649 ⟨by show _ ≤ 600000; omega, by show _ ≤ 7302250; omega⟩) hH (fun r6 u H1 locs1 hp hH1 => ?_)
  obtain ⟨er, hx1⟩ := hp
  obtain ⟨eu, O1, hI1⟩ := hI.step hOw hx1
  have hH1 : xH G A s.heap H1 locs1 (mw G ρ ad u I F) := xH_of hH1 eu
  refine lv_aload_n hx hb dL_law_652 rfl (lv_at hl 2 rfl) ?_
  refine lv_aload_n hx hb dL_law_653 rfl (lv_at hl 0 rfl) ?_
  refine lv_iload_n hx hb dL_law_654 rfl (lv_at hl 3 rfl) ?_
  refine lv_iconst (v := 1) hx hb dL_law_655 (by decide) ?_
  refine N_iadd hx hb i 1 rfl rfl dL_law_656 ?_
  refine va_sld hx hb hX hbl hbA hH1.2.1 (vI_in (j := i + 1) rfl (by omega) (by omega)) dL_law_657 ?_
  refine lv_topi (fun z1 ez1 => ?_)
  refine lv_aload_n hx hb dL_law_658 rfl (lv_at hl 0 rfl) ?_
  refine lv_iload_n hx hb dL_law_659 rfl (lv_at hl 3 rfl) ?_
  refine lv_iconst (v := 2) hx hb dL_law_660 (by decide) ?_
  refine N_iadd hx hb i 2 rfl rfl dL_law_661 ?_
  refine va_sld hx hb hX hbl hbA hH1.2.1 (vI_in (j := i + 2) rfl (by omega) (by omega)) dL_law_662 ?_
  refine lv_topi (fun z2 ez2 => ?_)
  refine lv_aload_n hx hb dL_law_663 rfl (lv_at hl 0 rfl) ?_
  refine lv_iload_n hx hb dL_law_664 rfl (lv_at hl 3 rfl) ?_
  refine lv_iconst (v := 3) hx hb dL_law_665 (by decide) ?_
  refine N_iadd hx hb i 3 rfl rfl dL_law_666 ?_
  refine va_sld hx hb hX hbl hbA hH1.2.1 (vI_in (j := i + 3) rfl (by omega) (by omega)) dL_law_667 ?_
  refine lv_topi (fun z3 ez3 => ?_)
  refine lv_aload_n hx hb dL_law_668 rfl (lv_at hl 0 rfl) ?_
  refine lv_iload_n hx hb dL_law_669 rfl (lv_at hl 3 rfl) ?_
  refine lv_iconst (v := 4) hx hb dL_law_670 (by decide) ?_
  refine N_iadd hx hb i 4 rfl rfl dL_law_671 ?_
  refine va_sld hx hb hX hbl hbA hH1.2.1 (vI_in (j := i + 4) rfl (by omega) (by omega)) dL_law_672 ?_
  refine lv_topi (fun z4 ez4 => ?_)
  obtain rfl : (nI lo) = z1 := ey1.trans ez1.symm
  obtain rfl : (nI hi9) = z2 := ey2.trans ez2.symm
  obtain rfl : y3 = z3 := ey3.trans ez3.symm
  obtain rfl : y4 = z4 := ey4.trans ez4.symm
  refine x_calli (va_runV (As := [.int (nI lo), .int (nI hi9), .int y3, .int y4]) (rest := [.int r6]) ⟨hx, hb, hml, hown, htl⟩ (c_X7_walked l G A ρ ad u I F hρ (L 0) (iv_3 hV) (iv_60 hV) now (iv_0 hV) (iv_n hV) (fun t => L (2 + t)) (iv_op hV) (iv_oy hV) (fun t => ix (F 5 t)) (fun t => ix (F 6 t)) (iv_px hV) (nI lo) (nI hi9) y3 y4) (cwV 4 htl gL_law_X7_walked rfl rfl rfl (by decide +kernel) ⟨Nat.le_of_ble_eq_true rfl, Nat.le_of_ble_eq_true rfl⟩) (x_preV hK hH1 hTt (mw_ob hρ) rfl [.int (nI lo), .int (nI hi9), .int y3, .int y4]) rfl rfl hl.1 rfl (lv_room (Nat.le_of_ble_eq_true rfl)) dL_law_673 ⟨by show _ ≤ 600000; omega, by show _ ≤ 7302250; omega⟩) hH1 (fun r7 v H2 locs2 hq hH2 => ?_)
  have hH2 : xH G A s.heap H2 locs2 (mw G ρ ad u v.1 v.2) := hH2
  obtain ⟨e7, hq1, hq2⟩ := hq
  refine lv_icmp_eq (tgt := 704) hx hb dL_law_676 (by decide) (fun c1 => ?_) (fun c1 => ?_)
  · refine W.widen (k := 57 + 102 * (n + 1)) (n := 30360 + 9672 * (n + 1)) (by omega) (by omega) ?_
    exact kk u O1 v.1 v.2 H2 locs2 hH2 (hI1.scratch hq1 hq2)
  · exact absurd (er.trans e7.symm) c1

set_option maxHeartbeats 4000000 in
set_option maxRecDepth 100000 in
theorem law_count {p : Program} {e : Env} {s : State} {m : MethodId} {below : List Frame} {meth : Method} {c : Code} (l : Launch) {b L0 : Nat} {xs : Nat → Int32} (hL : L0 ≤ 2560) (C0 : lw_At p s m meth c b L0 xs) {G : XG} {A : Nat → Prop} (hbA : ¬ A b) (hK : xK G s) (hTt : xT G A s) {ρ : Nat → Option Nat} {ad : Nat → Nat} {a : Nat} (hρ : mA ρ ad) {n i : Nat} (hi : i = 5 * n) (hn : i + 5 ≤ L0) {b0 : XW} {O : Nat → Prop} {I : Nat → Int32} {F : Nat → Nat → Int32} {H : Heap} {locs : List Loc} (hH : xH G A s.heap H locs (mw G ρ ad b0 I F)) (hI : LI G ρ ad b0 a O I F) {ls : Array Slot} (hl : lv_has ls 4 [(0, .ref b), (1, .ref a), (2, .ref (ad 0)), (3, .int (nI i))]) (kk : ∀ (b1 : XW) (O1 : Nat → Prop) (I1 : Nat → Int32) (F1 : Nat → Nat → Int32) (H1 : Heap) (locs1 : List Loc), xH G A s.heap H1 locs1 (mw G ρ ad b1 I1 F1) → LI G ρ ad b1 a O1 I1 F1 → W p l e room_1 s m #[Value.ref b] below meth c H1 locs1 (57 + 102 * (n + 1)) (30360 + 9672 * (n + 1)) (lw_Z below #[Value.ref b] s) (F0 m 704 ls [])) : W p l e room_1 s m #[Value.ref b] below meth c H locs (57 + 102 * n) (30360 + 9672 * n) (lw_Z below #[Value.ref b] s) (F0 m 681 ls []) := by
  obtain ⟨hx, hb, hr, hml, hown, hts, hX, hbl, hlocks, hgv⟩ := C0
  have hown : s.vm.findClass RL = some m.cls := hown
  have htl : ∀ w ∈ wsL_law, w.before #[Value.ref b] s = true := fun w h => hts w (wsL_law_in w h)
  obtain ⟨⟨ady, E, cp, L, wd, bw, lb, now, ha, hO2, hR, hV, hE⟩, hO⟩ := id hI
  have hOw : ∀ y, own ady L y → O y := fun y hy => by obtain ⟨k9, i9, j9, h9, e9⟩ := hy; rw [e9]; exact hO2 k9 i9 j9 h9
  have hc_a := hR.root
  rw [← ha] at hc_a
  refine lv_aload_n hx hb dL_law_681 rfl (lv_at hl 1 rfl) ?_
  refine lv_aload_n hx hb dL_law_682 rfl (lv_at hl 0 rfl) ?_
  refine lv_iload_n hx hb dL_law_683 rfl (lv_at hl 3 rfl) ?_
  refine lv_iconst (v := 1) hx hb dL_law_684 (by decide) ?_
  refine N_iadd hx hb i 1 rfl rfl dL_law_685 ?_
  refine va_sld hx hb hX hbl hbA hH.2.1 (vI_in (j := i + 1) rfl (by omega) (by omega)) dL_law_686 ?_
  refine lv_topi (fun y1 ey1 => ?_)
  refine x_calli (va_runV (As := [.int y1]) (rest := []) ⟨hx, hb, hml, hown, htl⟩ (c_X6_count l G A _ a ady E cp L wd bw lb I F hc_a now hR hV  y1) (cwV 1 htl gL_law_X6_count rfl rfl rfl (by decide +kernel) ⟨Nat.le_of_ble_eq_true rfl, Nat.le_of_ble_eq_true rfl⟩) (x_preV hK hH hTt hc_a rfl [.int y1]) rfl rfl hl.1 rfl (lv_room (Nat.le_of_ble_eq_true rfl)) dL_law_687 ⟨by show _ ≤ 600000; omega, by show _ ≤ 7302250; omega⟩) hH (fun r6 u H1 locs1 hp hH1 => ?_)
  obtain ⟨er, rfl⟩ := hp
  have hH1 : xH G A s.heap H1 locs1 (mw G ρ ad b0 I F) := hH1
  refine lv_aload_n hx hb dL_law_690 rfl (lv_at hl 2 rfl) ?_
  refine lv_aload_n hx hb dL_law_691 rfl (lv_at hl 0 rfl) ?_
  refine lv_iload_n hx hb dL_law_692 rfl (lv_at hl 3 rfl) ?_
  refine lv_iconst (v := 1) hx hb dL_law_693 (by decide) ?_
  refine N_iadd hx hb i 1 rfl rfl dL_law_694 ?_
  refine va_sld hx hb hX hbl hbA hH1.2.1 (vI_in (j := i + 1) rfl (by omega) (by omega)) dL_law_695 ?_
  refine lv_topi (fun z1 ez1 => ?_)
  obtain rfl : y1 = z1 := ey1.trans ez1.symm
  refine x_calli (va_runV (As := [.int y1]) (rest := [.int r6]) ⟨hx, hb, hml, hown, htl⟩ (c_X7_count l G A ρ ad b0 I F hρ  y1) (cwV 1 htl gL_law_X7_count rfl rfl rfl (by decide +kernel) ⟨Nat.le_of_ble_eq_true rfl, Nat.le_of_ble_eq_true rfl⟩) (x_preV hK hH1 hTt (mw_ob hρ) rfl [.int y1]) rfl rfl hl.1 rfl (lv_room (Nat.le_of_ble_eq_true rfl)) dL_law_696 ⟨by show _ ≤ 600000; omega, by show _ ≤ 7302250; omega⟩) hH1 (fun r7 v H2 locs2 hq hH2 => ?_)
  have hH2 : xH G A s.heap H2 locs2 (mw G ρ ad b0 v.1 v.2) := hH2
  obtain ⟨e7, ev⟩ := hq
  subst ev
  refine lv_icmp_eq (tgt := 704) hx hb dL_law_699 (by decide) (fun c1 => ?_) (fun c1 => ?_)
  · refine W.widen (k := 57 + 102 * (n + 1)) (n := 30360 + 9672 * (n + 1)) (by omega) (by omega) ?_
    exact kk b0 O I F H2 locs2 hH2 hI
  · exact absurd (er.trans e7.symm) c1
