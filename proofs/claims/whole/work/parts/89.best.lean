/-! THE BEST WALK: the search's is the document's -/
theorem nI_m1 {v : Nat} (h : v < 2 ^ 31) : ¬ nI v = -1 := fun e => by
  have h0 : (0 : Int32) ≤ nI v := (nI_leI (a := 0) (by decide) h).mpr (Nat.zero_le _)
  rw [e] at h0
  exact absurd h0 (by decide)
theorem edO_nat {n has : Int32} {N h : Nat} (hn : n = nI N) (hN : N ≤ 54) (hh : has = nI h) (hle : h ≤ 400) (x : Int32) : ∃ c, c ≤ 54 ∧ edO n has x = x + nI c := by
  have e := (ed_all hn hN hh hle 0 (fun _ => 0) x 0).2.1
  rw [e, hn, hh, show (400 : Int32) = nI 400 from rfl, pk_sub hle, min_nat (by omega) (by omega), pk_sub (by split <;> omega)]
  exact ⟨_, by omega, rfl⟩
theorem sim_nat {now : Nat} {L wd bw : Nat → Nat} {lb : Nat → Option Nat} {I : Nat → Int32} {F : Nat → Nat → Int32} (hV : Inv now L wd bw lb I F) {t i : Nat} (ht : t < L 0) (h8 : F 8 t = 0) (hi : i < L (2 + t)) : ∀ d, ∃ r has ro, simOk F t (3 * t + i) now d r has ro ∧ ∃ v, ro = nI v ∧ v ≤ 54 * d
  | 0 => by
    obtain ⟨cg, hcg, hc4⟩ := hV.2.2.2.1.1
    have h60 : L 0 ≤ 60 := hV.1.2.2.2.1
    have h3 : L (2 + t) ≤ 3 := (hV.2.1 t ht).2.2.2.2.2.2.2
    exact ⟨gr4 F (3 * t + i), _, _, sim_0 (by omega) hcg hc4 (fun g hg => rfl), 0, rfl, Nat.le_refl _⟩
  | d + 1 => by
    obtain ⟨r, has, ro, hs, v, hv, hv2⟩ := sim_nat hV ht h8 hi d
    by_cases hd : now + d < 3650
    · obtain ⟨⟨la, hla, hla2⟩, ⟨oy, hoy, hoy2⟩, -⟩ := hV.2.2.2.1.2.1 t ht i hi
      obtain ⟨gr, hg4, hgr0⟩ := gradI_nat (F := F) (f := 3 * t + i) (now := now + d) (by omega) hoy (by omega)
      have hgF : gradC (F 13 (3 * t + i)) (nI (now + d)) = nI gr := (grad_eq (by omega) hoy (by omega)).trans hgr0
      have h1 := sim_day hV ht h8 hi hd hs hg4 hgF rfl
      obtain ⟨vx, vy, hvx, hx9, hvy, hy9⟩ := hV.1.2.2.2.2 (now + d) hd
      have hdd : nI (now + d) - F 12 (3 * t + i) = nI (now + d - la) := by rw [hla, pk_sub (by omega)]
      obtain ⟨sv, hs1, hs2⟩ := strI_nat (k := now + d - la) (by omega)
      have hle : vx * sv ≤ 9 * 6 := Nat.mul_le_mul hx9 hs1
      have hnN : F 1 (now + d) * strC (nI (now + d) - F 12 (3 * t + i)) = nI (vx * sv) := by rw [hdd, str_eq (by omega), hs2, hvx, pk_mul]
      obtain ⟨⟨xs, hx, hsum⟩, hcr, hhas, -⟩ := hs
      have hhn : has = nI (xs 0 + xs 1 + xs 2 + xs 3) := by rw [hhas, ls4, hcr 0 (by decide), hcr 1 (by decide), hcr 2 (by decide), hcr 3 (by decide), hx 0 (by decide), hx 1 (by decide), hx 2 (by decide), hx 3 (by decide), nI_add, nI_add, nI_add]
      obtain ⟨c, hc, hc2⟩ := edO_nat hnN (by omega) hhn hsum ro
      exact ⟨_, _, _, h1, v + c, by rw [hc2, hv, nI_add], by omega⟩
    · exact ⟨r, has, ro, sim_stay hs hd, v, hv, by omega⟩
/-- what is foreseen at a tree is a number -/
theorem ov_nat {now : Nat} {L wd bw : Nat → Nat} {lb : Nat → Option Nat} {I : Nat → Int32} {F : Nat → Nat → Int32} (hV : Inv now L wd bw lb I F) {t : Nat} (ht : t < L 0) {q : Nat} (hq : q < 20) : ∀ o, o ≤ L (2 + t) → ∃ v, ovS F t now o q = nI v ∧ v ≤ 1026 * o
  | 0, _ => ⟨0, rfl, Nat.le_refl _⟩
  | o + 1, ho => by
    by_cases h8 : F 8 t = 0
    · obtain ⟨v, hv, hv2⟩ := ov_nat hV ht hq o (by omega)
      obtain ⟨r, has, ro, hs, c, hc, hc2⟩ := sim_nat hV ht h8 (i := o) (by omega) q
      refine ⟨v + c, ?_, by omega⟩
      show ovS F t now o q + (fsim F t (3 * t + o) now q).2 = _
      rw [hv, ← hs.2.2.2, hc, nI_add]
    · exact ⟨0, ov_burnt hV ht h8 q _ ho, Nat.zero_le _⟩
theorem pdist_xy {a b c d : Nat} (hb : b ≤ 99) (hd : d ≤ 99) : pdist (100 * a + b) (100 * c + d) = wdist a b c d := by
  unfold pdist
  rw [show (100 * a + b) / 100 = a by omega, show (100 * a + b) % 100 = b by omega, show (100 * c + d) / 100 = c by omega, show (100 * c + d) % 100 = d by omega]
theorem vev_w {F : Nat → Nat → Int32} {now nT : Nat} {op : Nat → Nat} {S : List Nat} {px py : Nat → Nat} {x0 y0 : Nat} {sv : Nat → Nat → Nat} {o : Nat → Nat} (hp : ∀ t, t < nT → px t ≤ 99 ∧ py t ≤ 99) (hSm : ∀ x ∈ S, x < nT) (hx : x0 ≤ 99) (hy : y0 ≤ 99) (hov : ∀ j, j < S.length → ∀ q, q < 20 → ovS F (S.getD j 0) now (op (S.getD j 0)) q = nI (sv j q)) (h6 : S.length ≤ 6) (ho : ∀ j, j < S.length → o j < S.length) : ∀ k, k ≤ S.length →
    (vev (fun j => 100 * px (S.getD j 0) + py (S.getD j 0)) sv (100 * x0 + y0) ((List.range k).map o)).1 = 100 * (wst S px py x0 y0 o k).2.1 + (wst S px py x0 y0 o k).2.2 ∧ (vev (fun j => 100 * px (S.getD j 0) + py (S.getD j 0)) sv (100 * x0 + y0) ((List.range k).map o)).2.1 = (wst S px py x0 y0 o k).1 ∧ wov F now op S px py x0 y0 o k = nI (vev (fun j => 100 * px (S.getD j 0) + py (S.getD j 0)) sv (100 * x0 + y0) ((List.range k).map o)).2.2
  | 0, _ => ⟨rfl, rfl, rfl⟩
  | k + 1, hk => by
    obtain ⟨i1, i2, i3⟩ := vev_w (o := o) hp hSm hx hy hov h6 ho k (by omega)
    have hb := wst_b (o := o) hp hSm hx hy k (fun j hj => ho j (by omega))
    have hb1 := wst_b (o := o) hp hSm hx hy (k + 1) (fun j hj => ho j (by omega))
    have hok : o k < S.length := ho k (by omega)
    have hm : S.getD (o k) 0 < nT := hSm _ (by rw [List.getD_eq_getElem?_getD, List.getElem?_eq_getElem hok]; exact List.getElem_mem hok)
    have hd : pdist (vev (fun j => 100 * px (S.getD j 0) + py (S.getD j 0)) sv (100 * x0 + y0) ((List.range k).map o)).1 (100 * px (S.getD (o k) 0) + py (S.getD (o k) 0)) = wdist (wst S px py x0 y0 o k).2.1 (wst S px py x0 y0 o k).2.2 (px (S.getD (o k) 0)) (py (S.getD (o k) 0)) := by
      rw [i1]
      exact pdist_xy hb.2.2 (hp _ hm).2
    have hst : (vev (fun j => 100 * px (S.getD j 0) + py (S.getD j 0)) sv (100 * x0 + y0) ((List.range k).map o)).2.1 + pdist (vev (fun j => 100 * px (S.getD j 0) + py (S.getD j 0)) sv (100 * x0 + y0) ((List.range k).map o)).1 (100 * px (S.getD (o k) 0) + py (S.getD (o k) 0)) = (wst S px py x0 y0 o (k + 1)).1 := by
      rw [hd, i2]
      rfl
    have hle : (wst S px py x0 y0 o (k + 1)).1 / 60 ≤ 19 := by omega
    rw [List.range_succ, List.map_append, List.map_singleton, vev_s]
    refine ⟨rfl, hst, ?_⟩
    show wov F now op S px py x0 y0 o k + ovS F (S.getD (o k) 0) now (op (S.getD (o k) 0)) ((wst S px py x0 y0 o (k + 1)).1 / 60) = nI ((vev (fun j => 100 * px (S.getD j 0) + py (S.getD j 0)) sv (100 * x0 + y0) ((List.range k).map o)).2.2 + sv (o k) (if 19 < ((vev (fun j => 100 * px (S.getD j 0) + py (S.getD j 0)) sv (100 * x0 + y0) ((List.range k).map o)).2.1 + pdist (vev (fun j => 100 * px (S.getD j 0) + py (S.getD j 0)) sv (100 * x0 + y0) ((List.range k).map o)).1 (100 * px (S.getD (o k) 0) + py (S.getD (o k) 0))) / 60 then 19 else ((vev (fun j => 100 * px (S.getD j 0) + py (S.getD j 0)) sv (100 * x0 + y0) ((List.range k).map o)).2.1 + pdist (vev (fun j => 100 * px (S.getD j 0) + py (S.getD j 0)) sv (100 * x0 + y0) ((List.range k).map o)).1 (100 * px (S.getD (o k) 0) + py (S.getD (o k) 0))) / 60))
    rw [hst, if_neg (by omega), ← nI_add, ← i3, hov (o k) hok _ (by omega)]
section BB
variable {F : Nat → Nat → Int32} {now : Nat} {op : Nat → Nat} {S : List Nat} {px py : Nat → Nat} {x0 y0 : Nat}
theorem bidx_lt : ∀ m, 0 < m → bidx F now op S px py x0 y0 m < m
  | 0, h => absurd h (by decide)
  | m + 1, _ => by
    unfold bidx
    by_cases h0 : m = 0
    · rw [if_pos h0]; omega
    · have ih := bidx_lt m (by omega)
      rw [if_neg h0]
      split <;> omega
/-- the search keeps what the document keeps -/
theorem fold_bidx {ev : List Nat → Nat × Nat × Nat} {n M : Nat} (h : ∀ p, p < M → wO F now op S px py x0 y0 p = nI (ev (orl n p)).2.2 ∧ wN S px py x0 y0 p = (ev (orl n p)).2.1 ∧ (ev (orl n p)).2.2 < 2 ^ 31) : ∀ m, m ≤ M → 0 < m → ((List.range m).map (orl n)).foldl (vkp ev) none = some (orl n (bidx F now op S px py x0 y0 m))
  | 0, _, h0 => absurd h0 (by decide)
  | m + 1, hm, _ => by
    rw [List.range_succ, List.map_append, List.foldl_append, List.map_singleton]
    by_cases h0 : m = 0
    · subst h0
      rfl
    · rw [fold_bidx h m (by omega) (by omega)]
      have hq := bidx_lt (F := F) (now := now) (op := op) (S := S) (px := px) (py := py) (x0 := x0) (y0 := y0) m (by omega)
      have e : bidx F now op S px py x0 y0 (m + 1) = if wbet F now op S px py x0 y0 m (bidx F now op S px py x0 y0 m) = true then m else bidx F now op S px py x0 y0 m := by
        show (if m = 0 then 0 else _) = _
        rw [if_neg h0]
      rw [e]
      obtain ⟨Q, hQ⟩ : ∃ z, z = bidx F now op S px py x0 y0 m := ⟨_, rfl⟩
      rw [← hQ] at hq ⊢
      obtain ⟨a1, a2, a3⟩ := h m (by omega)
      obtain ⟨b1, b2, b3⟩ := h Q (by omega)
      have hw : wbet F now op S px py x0 y0 m Q = decide (vlt (ev (orl n m)) (ev (orl n Q))) := by
        unfold wbet
        rw [a1, a2, b1, b2, if_neg (nI_m1 b3)]
        by_cases c1 : (ev (orl n Q)).2.2 < (ev (orl n m)).2.2
        · rw [if_pos ((nI_ltI b3 a3).mpr c1), decide_eq_false (by unfold vlt; omega)]
        · rw [if_neg (fun z => c1 ((nI_ltI b3 a3).mp z))]
          by_cases c2 : (ev (orl n m)).2.2 = (ev (orl n Q)).2.2
          · rw [if_pos (by rw [c2])]
            by_cases c3 : (ev (orl n m)).2.1 < (ev (orl n Q)).2.1
            · rw [decide_eq_true c3, decide_eq_true (Or.inr ⟨c2, c3⟩)]
            · rw [decide_eq_false c3, decide_eq_false (by unfold vlt; omega)]
          · rw [if_neg (fun z => c2 ((nI_eq a3 b3).mp z)), decide_eq_true (by unfold vlt; omega)]
      show vkp ev (some (orl n Q)) (orl n m) = _
      rw [hw]
      by_cases c : vlt (ev (orl n m)) (ev (orl n Q))
      · rw [decide_eq_true c, if_pos rfl]
        exact if_pos c
      · rw [decide_eq_false c, if_neg (by decide)]
        exact if_neg c
end BB
