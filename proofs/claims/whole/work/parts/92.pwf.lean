section PJ
variable {G : XG} {w u : XW} {ad : YA} {E : YE} {cp L wd bw : Nat → Nat} {lb : Nat → Option Nat} {I : Nat → Int32} {F : Nat → Nat → Int32}
theorem rep_pln (h : Rep G w ad E cp L wd bw lb I F) (h60 : L 0 ≤ 60) {x0 x1 x2 x3 : Int32} (h1 : u (ad 8 0 0) = some (.inr (3, [.int x0, .ref (ad 9 0 0), .ref (ad 9 1 0), .ref (ad 10 0 0), .ref (ad 9 2 0), .ref (ad 9 3 0), .ref (ad 9 4 0), .ref (ad 13 60 0), .ref (ad 7 1 0), .int x1, .int x2, .int x3]))) (hf : ∀ y, y ≠ ad 8 0 0 → u y = w y) : Rep G u ad (upK E 8 0 (l4 x0 x1 x2 x3)) cp L wd bw lb I F :=
  rep_cell h h60 (k := 8) (i := 0) ⟨rfl, rfl⟩ (by unfold eK; omega) (h1.trans rfl) hf
theorem rep_join (h : Rep G w ad E cp L wd bw lb I F) (h60 : L 0 ≤ 60) {n : Nat} (hn : n < 6) {nr wh : Int32} (h1 : u (ad 8 0 0) = some (.inr (3, [.int (nI (n + 1)), .ref (ad 9 0 0), .ref (ad 9 1 0), .ref (ad 10 0 0), .ref (ad 9 2 0), .ref (ad 9 3 0), .ref (ad 9 4 0), .ref (ad 13 60 0), .ref (ad 7 1 0), .int (E 8 0 0 1), .int (E 8 0 0 2), .int (E 8 0 0 3)]))) (h2 : u (ad 9 0 0) = some (.inl (G.2 0, 6, .inl (upd (E 9 0 0) n nr)))) (h3 : u (ad 9 1 0) = some (.inl (G.2 0, 6, .inl (upd (E 9 1 0) n wh)))) (h4 : u (ad 11 n 0) = some (.inl (G.2 0, 20, .inl (zrf (E 11 n 0) 20)))) (hf : ∀ y, y ≠ ad 8 0 0 → y ≠ ad 9 0 0 → y ≠ ad 9 1 0 → y ≠ ad 11 n 0 → u y = w y) : Rep G u ad (jnE E n nr wh) cp L wd bw lb I F := by
  have k1 : lvK L 8 0 0 := ⟨rfl, rfl⟩
  have k2 : lvK L 9 0 0 := ⟨by decide, rfl⟩
  have k3 : lvK L 9 1 0 := ⟨by decide, rfl⟩
  have k4 : lvK L 11 n 0 := ⟨hn, rfl⟩
  have r1 : Rep G (va_up w (ad 8 0 0) (u (ad 8 0 0))) ad (upK E 8 0 (l4 (nI (n + 1)) (E 8 0 0 1) (E 8 0 0 2) (E 8 0 0 3))) cp L wd bw lb I F := rep_pln h h60 ((upW_at _ _ _).trans h1) (fun y hy => upW_ne _ _ hy)
  have r2 : Rep G (va_up (va_up w (ad 8 0 0) (u (ad 8 0 0))) (ad 9 0 0) (u (ad 9 0 0))) ad (upK (upK E 8 0 (l4 (nI (n + 1)) (E 8 0 0 1) (E 8 0 0 2) (E 8 0 0 3))) 9 0 (upd (E 9 0 0) n nr)) cp L wd bw lb I F := rep_row r1 h60 (i := 0) (by decide) ((upW_at _ _ _).trans h2) (fun y hy => upW_ne _ _ hy)
  have r3 : Rep G (va_up (va_up (va_up w (ad 8 0 0) (u (ad 8 0 0))) (ad 9 0 0) (u (ad 9 0 0))) (ad 9 1 0) (u (ad 9 1 0))) ad (upK (upK (upK E 8 0 (l4 (nI (n + 1)) (E 8 0 0 1) (E 8 0 0 2) (E 8 0 0 3))) 9 0 (upd (E 9 0 0) n nr)) 9 1 (upd (E 9 1 0) n wh)) cp L wd bw lb I F := rep_row r2 h60 (i := 1) (by decide) ((upW_at _ _ _).trans h3) (fun y hy => upW_ne _ _ hy)
  refine rep_spill r3 h60 hn h4 (fun y hy => ?_)
  by_cases e3 : y = ad 9 1 0
  · rw [e3]; exact (upW_at _ _ _).symm
  · rw [upW_ne _ _ e3]
    by_cases e2 : y = ad 9 0 0
    · rw [e2]; exact (upW_at _ _ _).symm
    · rw [upW_ne _ _ e2]
      by_cases e1 : y = ad 8 0 0
      · rw [e1]; exact (upW_at _ _ _).symm
      · rw [upW_ne _ _ e1]
        exact hf y e1 e2 e3 hy
end PJ
def wpl (F : Nat → Nat → Int32) (S : List Nat) : Nat → Nat := fun j => 100 * ix (F 5 (S.getD j 0)) + ix (F 6 (S.getD j 0))
def wsv (F : Nat → Nat → Int32) (now : Nat) (L : Nat → Nat) (S : List Nat) : Nat → Nat → Nat := fun j q => ix (ovS F (S.getD j 0) now (L (2 + S.getD j 0)) q)
section PW
variable {now : Nat} {L wd bw : Nat → Nat} {lb : Nat → Option Nat} {I : Nat → Int32} {F : Nat → Nat → Int32}
theorem xy_nat (hV : Inv now L wd bw lb I F) {t : Nat} (ht : t < L 0) : F 5 t = nI (ix (F 5 t)) ∧ ix (F 5 t) ≤ 99 ∧ F 6 t = nI (ix (F 6 t)) ∧ ix (F 6 t) ≤ 99 := by
  obtain ⟨x, y, h1, h2, h3, h4⟩ := (hV.2.1 t ht).2.2.1
  rw [h1, h3, ix_n (by omega), ix_n (by omega)]
  exact ⟨rfl, h2, rfl, h4⟩
theorem ov_ix (hV : Inv now L wd bw lb I F) {t : Nat} (ht : t < L 0) {q : Nat} (hq : q < 20) : ovS F t now (L (2 + t)) q = nI (ix (ovS F t now (L (2 + t)) q)) ∧ ix (ovS F t now (L (2 + t)) q) ≤ 4000 := by
  have h3 : L (2 + t) ≤ 3 := (hV.2.1 t ht).2.2.2.2.2.2.2
  obtain ⟨v, hv, hv2⟩ := ov_nat hV ht hq (L (2 + t)) (Nat.le_refl _)
  rw [hv, ix_n (by omega)]
  exact ⟨rfl, by omega⟩
theorem pw_pls {E : YE} {S : List Nat} (hV : Inv now L wd bw lb I F) (h : PwS E F now L S) (p0 : Nat) : PlS E S.length (wpl F S) (wsv F now L S) p0 [] none := by
  obtain ⟨h1, h2, h3, h4, h5, h6, h7⟩ := h
  refine ⟨h1, fun j hj => ?_, fun k hk q hq => ?_, fun j hj => absurd hj (by simp), fun j => by rw [h3 j]; rfl, fun x hx => absurd hx (by simp), h2⟩
  · obtain ⟨a1, -, a3, -⟩ := xy_nat hV (h4 _ (getD_mem hj))
    rw [h6 j hj, a1, a3, show (100 : Int32) = nI 100 from rfl, pk_mul, nI_add]
    unfold wpl
    congr 1
    omega
  · rw [h7 k hk q hq]
    exact (ov_ix hV (h4 _ (getD_mem hk)) hq).1
theorem wpl_b {S : List Nat} (hV : Inv now L wd bw lb I F) (h4 : ∀ x, x ∈ S → x < L 0) : ∀ j, j < S.length → wpl F S j ≤ 9999 := fun j hj => by
  obtain ⟨-, a2, -, a4⟩ := xy_nat hV (h4 _ (getD_mem hj))
  unfold wpl
  omega
theorem wsv_b {S : List Nat} (hV : Inv now L wd bw lb I F) (h4 : ∀ x, x ∈ S → x < L 0) : ∀ k, k < S.length → ∀ q, q < 20 → wsv F now L S k q ≤ 4000 := fun k hk q hq => (ov_ix hV (h4 _ (getD_mem hk)) hq).2
/-- the best of the search: how much runs over, how many steps -/
theorem pw_best {S : List Nat} (hV : Inv now L wd bw lb I F) (h4 : ∀ x, x ∈ S → x < L 0) (h1 : 1 ≤ S.length) (h6 : S.length ≤ 6) {p0 : Nat} (hp : p0 ≤ 9999) : ∀ p, p < ofac S.length → wO F now (fun t => L (2 + t)) S (fun t => ix (F 5 t)) (fun t => ix (F 6 t)) (p0 / 100) (p0 % 100) p = nI (vev (wpl F S) (wsv F now L S) p0 (orl S.length p)).2.2 ∧ wN S (fun t => ix (F 5 t)) (fun t => ix (F 6 t)) (p0 / 100) (p0 % 100) p = (vev (wpl F S) (wsv F now L S) p0 (orl S.length p)).2.1 ∧ (vev (wpl F S) (wsv F now L S) p0 (orl S.length p)).2.2 < 2 ^ 31 := fun p hpp => by
  have ho : ∀ j, j < S.length → ob S.length p j < S.length := fun j hj => (oka_at h1 h6 hpp hj).1
  have hw := vev_w (F := F) (now := now) (nT := L 0) (op := fun t => L (2 + t)) (S := S) (px := fun t => ix (F 5 t)) (py := fun t => ix (F 6 t)) (x0 := p0 / 100) (y0 := p0 % 100) (sv := wsv F now L S) (o := ob S.length p) (fun t ht => ⟨(xy_nat hV ht).2.1, (xy_nat hV ht).2.2.2⟩) h4 (by omega) (by omega) (fun j hj q hq => (ov_ix hV (h4 _ (getD_mem hj)) hq).1) h6 ho S.length (Nat.le_refl _)
  rw [show 100 * (p0 / 100) + p0 % 100 = p0 by omega] at hw
  have hb := vev_b (p0 := p0) (wpl_b hV h4) (wsv_b hV h4) hp (o := orl S.length p) (fun x hx => by
    obtain ⟨j, hj, rfl⟩ := List.mem_map.mp hx
    exact ho j (List.mem_range.mp hj))
  have hl : (orl S.length p).length = S.length := by unfold orl; rw [List.length_map, List.length_range]
  rw [hl] at hb
  exact ⟨hw.2.2, hw.2.1.symm, by omega⟩
theorem pw_fold {S : List Nat} (hV : Inv now L wd bw lb I F) (h4 : ∀ x, x ∈ S → x < L 0) (h1 : 1 ≤ S.length) (h6 : S.length ≤ 6) {p0 : Nat} (hp : p0 ≤ 9999) : (lvs S.length S.length []).foldl (vkp (vev (wpl F S) (wsv F now L S) p0)) none = some (orl S.length (bidx F now (fun t => L (2 + t)) S (fun t => ix (F 5 t)) (fun t => ix (F 6 t)) (p0 / 100) (p0 % 100) (ofac S.length))) := by
  rw [lvs_all h1 h6]
  exact fold_bidx (pw_best hV h4 h1 h6 hp) _ (Nat.le_refl _) (ofac_b _ (by omega)).1
end PW
