/-! ===== how class and reference are tied: 36e ===== -/
/-! ===== an intruder's way, in the class and in the reference ===== -/
theorem xcof_in {W H r k : Int32} {R C : Int} (hr : r.toInt = R) (hk : k.toInt = C) (w8 : 3 ≤ W.toInt ∧ W.toInt ≤ 8) (h8 : 3 ≤ H.toInt ∧ H.toInt ≤ 8) (h : 0 ≤ R ∧ R < H.toInt ∧ 0 ≤ C ∧ C < W.toInt) : (xcof W H r k).toInt = R * W.toInt + C := by
  have e0 : (0 : Int32).toInt = 0 := by decide
  have e1 : (1 : Int32).toInt = 1 := by decide
  have eH : (H - 1).toInt = H.toInt - 1 := by rw [ysub (by omega) (by omega), e1]
  have eW : (W - 1).toInt = W.toInt - 1 := by rw [ysub (by omega) (by omega), e1]
  have b0 : 0 ≤ R * W.toInt := Int.mul_nonneg h.1 (by omega)
  have b1 : R * W.toInt ≤ 8 * 8 := Int.mul_le_mul (by omega) w8.2 (by omega) (by decide)
  have em : (r * W).toInt = R * W.toInt := by rw [ymul (by rw [hr]; omega) (by rw [hr]; omega), hr]
  unfold xcof
  rw [if_pos ⟨⟨yle.mpr (by omega), yle.mpr (by omega)⟩, ⟨yle.mpr (by omega), yle.mpr (by omega)⟩⟩, yadd (by omega) (by omega)]
  omega
theorem xcof_out {W H r k : Int32} {R C : Int} (hr : r.toInt = R) (hk : k.toInt = C) (w8 : 3 ≤ W.toInt ∧ W.toInt ≤ 8) (h8 : 3 ≤ H.toInt ∧ H.toInt ≤ 8) (h : ¬ (0 ≤ R ∧ R < H.toInt ∧ 0 ≤ C ∧ C < W.toInt)) : xcof W H r k = -1 := by
  have e0 : (0 : Int32).toInt = 0 := by decide
  have e1 : (1 : Int32).toInt = 1 := by decide
  have eH : (H - 1).toInt = H.toInt - 1 := by rw [ysub (by omega) (by omega), e1]
  have eW : (W - 1).toInt = W.toInt - 1 := by rw [ysub (by omega) (by omega), e1]
  unfold xcof
  refine if_neg (fun y => h ?_)
  obtain ⟨⟨y1, y2⟩, y3, y4⟩ := y
  rw [yle] at y1 y2 y3 y4
  omega
theorem xbeh_rmv {σ : XS} {ρ : RS} {c d : Int32} {n : Nat} (hD : cpD σ ρ) (hg : rgeo ρ) (n64 : rZ ρ 201 ≤ 64) (hc : c.toInt = (n : Int)) (hn : n < rZ ρ 201) : xbeh (σ.2.2.1 0) (σ.2.2.1 1) c d = rmv ρ c d ∧ (¬ rmv ρ c d = -1 → ∃ k : Nat, (rmv ρ c d).toInt = (k : Int) ∧ k < rZ ρ 201) := by
  rw [hD.1, hD.2.1]
  rcases hg with ⟨q, -⟩ | ⟨w1, w2, w3, w4, hN⟩
  · omega
  have e0 : (0 : Int32).toInt = 0 := by decide
  have e1 : (1 : Int32).toInt = 1 := by decide
  unfold rmv
  have eN : (Int32.ofNat (rZ ρ 201)).toInt = (rZ ρ 201 : Int) := yofNat (by omega)
  generalize Int32.ofNat (rZ ρ 201) = nn at eN ⊢
  generalize rZ ρ 201 = N at *
  generalize rI ρ 1 = W at *
  generalize rI ρ 2 = H at *
  have eNW : (nn - W).toInt = W.toInt * H.toInt - W.toInt := by rw [ysub (by omega) (by omega), eN, hN]
  obtain ⟨p1, p2, p3, p4, p5⟩ := yrc (W := W.toInt) (H := H.toInt) (a := c.toInt) (by omega) (by omega) (by omega)
  have d1 := ydivn (x := c) (w := W) (by omega) (by omega)
  have c0 : 0 ≤ c.toInt := by omega
  have cN : c.toInt < W.toInt * H.toInt := by omega
  have c64 : c.toInt < 64 := by omega
  generalize c.toInt / W.toInt = q at p1 p2 p3 p4 p5 d1
  have qw0 : 0 ≤ q * W.toInt := Int.mul_nonneg p1 (by omega)
  have m1 : (c / W * W).toInt = q * W.toInt := by rw [ymul (by rw [d1]; omega) (by rw [d1]; omega), d1]
  have g : (c - c / W * W).toInt = c.toInt - q * W.toInt := by rw [ysub (by rw [m1]; omega) (by rw [m1]; omega), m1]
  have eR : xrow W c = c / W := if_neg (fun z => by rw [ylt, e1] at z; omega)
  have eC : xcol W c = c - c / W * W := if_neg (fun z => by rw [ylt, e1] at z; omega)
  unfold xbeh
  rw [eR, eC]
  have key : ∀ (r k v : Int32) (R C : Int), r.toInt = R → k.toInt = C → (0 ≤ R ∧ R < H.toInt ∧ 0 ≤ C ∧ C < W.toInt) → v.toInt = R * W.toInt + C → xcof W H r k = v ∧ (¬ v = -1 → ∃ j : Nat, v.toInt = (j : Int) ∧ j < N) := by
    intro r k v R C hr hk h hv
    refine ⟨Int32.toInt_inj.mp ((xcof_in hr hk ⟨w1, w2⟩ ⟨w3, w4⟩ h).trans hv.symm), fun _ => ⟨v.toInt.toNat, ?_⟩⟩
    have z := yrcN (W := W.toInt) (H := H.toInt) h.1 h.2.1 h.2.2.1 h.2.2.2
    omega
  have kout : ∀ (r k : Int32) (R C : Int), r.toInt = R → k.toInt = C → ¬ (0 ≤ R ∧ R < H.toInt ∧ 0 ≤ C ∧ C < W.toInt) → xcof W H r k = -1 ∧ (¬ (-1 : Int32) = -1 → ∃ j : Nat, (-1 : Int32).toInt = (j : Int) ∧ j < N) := fun r k R C hr hk h => ⟨xcof_out hr hk ⟨w1, w2⟩ ⟨w3, w4⟩ h, fun z => absurd rfl z⟩
  have rm : (c / W - 1).toInt = q - 1 := by rw [ysub (by rw [d1]; omega) (by rw [d1]; omega), d1, e1]
  have rp : (c / W + 1).toInt = q + 1 := by rw [yadd (by rw [d1]; omega) (by rw [d1]; omega), d1, e1]
  have cm : (c - c / W * W - 1).toInt = c.toInt - q * W.toInt - 1 := by rw [ysub (by rw [g]; omega) (by rw [g]; omega), g, e1]
  have cp : (c - c / W * W + 1).toInt = c.toInt - q * W.toInt + 1 := by rw [yadd (by rw [g]; omega) (by rw [g]; omega), g, e1]
  have qm : (q - 1) * W.toInt = q * W.toInt - W.toInt := by rw [Int.sub_mul, Int.one_mul]
  have qp : (q + 1) * W.toInt = q * W.toInt + W.toInt := by rw [Int.add_mul, Int.one_mul]
  by_cases k1 : d = 1
  · rw [if_pos k1, if_pos k1]
    by_cases z : c < W
    · rw [if_pos z]
      rw [ylt] at z
      refine kout _ _ _ _ rm g (fun y => ?_)
      have y1 : W.toInt ≤ q * W.toInt := by
        have := Int.mul_le_mul_of_nonneg_right (a := 1) (b := q) (c := W.toInt) (by omega) (by omega)
        omega
      omega
    · rw [if_neg z]
      rw [ylt] at z
      have y1 : 1 ≤ q := by
        by_cases t : q = 0
        · rw [t, Int.zero_mul] at p4
          omega
        · omega
      refine key _ _ _ _ _ rm g ⟨by omega, by omega, p3, p4⟩ ?_
      rw [ysub (by omega) (by omega), qm]
      omega
  · rw [if_neg k1, if_neg k1]
    by_cases k2 : d = 2
    · rw [if_pos k2, if_pos k2]
      have eW : (W - 1).toInt = W.toInt - 1 := by rw [ysub (by omega) (by omega), e1]
      by_cases z : W - 1 ≤ c - c / W * W
      · rw [if_pos z]
        rw [yle, eW, g] at z
        exact kout _ _ _ _ d1 cp (fun y => by omega)
      · rw [if_neg z]
        rw [yle, eW, g] at z
        refine key _ _ _ _ _ d1 cp ⟨p1, p2, by omega, by omega⟩ ?_
        rw [yadd (by omega) (by omega), e1]
        omega
    · rw [if_neg k2, if_neg k2]
      by_cases k3 : d = 3
      · rw [if_pos k3, if_pos k3]
        by_cases z : nn - W ≤ c
        · rw [if_pos z]
          rw [yle, eNW] at z
          refine kout _ _ _ _ rp g (fun y => ?_)
          have y1 : (q + 2) * W.toInt ≤ H.toInt * W.toInt := Int.mul_le_mul_of_nonneg_right (by omega) (by omega)
          rw [Int.add_mul, Int.mul_comm H.toInt W.toInt] at y1
          omega
        · rw [if_neg z]
          rw [yle, eNW] at z
          have y1 : q + 1 < H.toInt := by
            by_cases t : q + 1 < H.toInt
            · exact t
            · have t1 : q = H.toInt - 1 := by omega
              rw [t1, Int.sub_mul, Int.one_mul, Int.mul_comm H.toInt W.toInt] at p3
              omega
          refine key _ _ _ _ _ rp g ⟨by omega, y1, p3, p4⟩ ?_
          rw [yadd (by omega) (by omega), qp]
          omega
      · rw [if_neg k3, if_neg k3]
        by_cases k4 : d = 4
        · rw [if_pos k4, if_pos k4]
          by_cases z : c - c / W * W ≤ 0
          · rw [if_pos z]
            rw [yle, g, e0] at z
            exact kout _ _ _ _ d1 cm (fun y => by omega)
          · rw [if_neg z]
            rw [yle, g, e0] at z
            refine key _ _ _ _ _ d1 cm ⟨p1, p2, by omega, by omega⟩ ?_
            rw [ysub (by omega) (by omega), e1]
            omega
        · rw [if_neg k4, if_neg k4]
          exact ⟨rfl, fun _ => ⟨n, hc, hn⟩⟩
/-- the power of the p-th move -/
theorem ndg_1 {m : Nat} (h : 0 < m) (h2 : m < 2147483648) : 1 ≤ ndg m := by
  rw [ndg_s h h2]
  omega
theorem xpw_is {pw : Int32} {m p : Nat} (hp : pw.toInt = (xpl m : Int)) (hm : m < 2147483648) (h : p < ndg m) : (xpw pw p).toInt = ((5 ^ (ndg m - 1 - p) : Nat) : Int) := by
  rw [xpw_nat hp]
  unfold xpl
  by_cases q : m = 0
  · rw [q, ndg_z] at h
    exact absurd h (Nat.not_lt_zero _)
  · rw [if_neg q, Nat.pow_div (by omega) (by decide)]
theorem xpw_pos {pw : Int32} {m p : Nat} (hp : pw.toInt = (xpl m : Int)) (hm : m < 2147483648) : 0 < (xpw pw p).toInt ↔ p < ndg m := by
  constructor
  · intro h
    by_cases z : p < ndg m
    · exact z
    · exfalso
      rw [xpw_nat hp] at h
      have e : xpl m / 5 ^ p = 0 := by
        unfold xpl
        by_cases q : m = 0
        · rw [if_pos q, Nat.zero_div]
        · have h1 := ndg_1 (m := m) (by omega) hm
          rw [if_neg q]
          exact Nat.div_eq_of_lt (Nat.pow_lt_pow_right (by decide) (by omega))
      rw [e] at h
      exact absurd h (by decide)
  · intro h
    rw [xpw_is hp hm h]
    have z : 0 < 5 ^ (ndg m - 1 - p) := Nat.pow_pos (by decide)
    omega
theorem xdg {moves pw : Int32} {p : Nat} (h0 : 0 ≤ moves.toInt) (hp : pw.toInt = (xpl moves.toInt.toNat : Int)) (h : p < ndg moves.toInt.toNat) : moves / xpw pw p - moves / xpw pw p / 5 * 5 = Int32.ofNat (dgt moves.toInt.toNat p) := by
  have e5 : (5 : Int32).toInt = 5 := by decide
  have hr := yrng moves
  have e := xpw_is hp (by omega) h
  have z : 0 < 5 ^ (ndg moves.toInt.toNat - 1 - p) := Nat.pow_pos (by decide)
  have d1 := ydivn (x := moves) (w := xpw pw p) h0 (by omega)
  have h5 : dgt moves.toInt.toNat p < 5 := Nat.mod_lt _ (by decide)
  have d2 : (moves / xpw pw p).toInt = ((moves.toInt.toNat / 5 ^ (ndg moves.toInt.toNat - 1 - p) : Nat) : Int) := by
    rw [d1, e]
    have q : moves.toInt = ((moves.toInt.toNat : Nat) : Int) := by omega
    exact (congrArg (fun z : Int => z / ((5 ^ (ndg moves.toInt.toNat - 1 - p) : Nat) : Int)) q).trans (Int.natCast_ediv _ _).symm
  have hx := yrng (moves / xpw pw p)
  have ex : dgt moves.toInt.toNat p = moves.toInt.toNat / 5 ^ (ndg moves.toInt.toNat - 1 - p) % 5 := rfl
  generalize moves.toInt.toNat / 5 ^ (ndg moves.toInt.toNat - 1 - p) = y at d2 ex
  generalize moves / xpw pw p = x at d2 hx ⊢
  have a1 : (x / 5).toInt = x.toInt / 5 := by
    rw [Int32.toInt_div, e5, Int.tdiv_eq_ediv_of_nonneg (by omega)]
    exact ybmod (by omega) (by omega)
  have a2 : (x / 5 * 5).toInt = x.toInt / 5 * 5 := by rw [ymul (by rw [a1, e5]; omega) (by rw [a1, e5]; omega), a1, e5]
  refine Int32.toInt_inj.mp ?_
  rw [ysub (by rw [a2]; omega) (by rw [a2]; omega), a2, yofNat (by omega), ex]
  omega
theorem rhw_s {ρ : RS} {cell : Int32} {m p : Nat} (h : p < ndg m) : rhw ρ cell m (p + 1) = rmv ρ (rhw ρ cell m p) (Int32.ofNat (dgt m p)) := if_pos h
theorem rhw_stay {ρ : RS} {cell : Int32} {m p : Nat} (h : ndg m ≤ p) : ∀ j : Nat, rhw ρ cell m (p + j) = rhw ρ cell m p := by
  intro j
  induction j with
  | zero => rfl
  | succ j ih =>
    have e : rhw ρ cell m (p + j + 1) = rhw ρ cell m (p + j) := if_neg (by omega)
    exact e.trans ih
section YWY
variable {σ : XS} {ρ : RS} {cell moves pw : Int32} {n0 : Nat}
/-- both ways go together as long as they lead on -/
theorem way_eq (hD : cpD σ ρ) (hg : rgeo ρ) (n64 : rZ ρ 201 ≤ 64) (hc : cell.toInt = (n0 : Int)) (hn : n0 < rZ ρ 201) (h0 : 0 ≤ moves.toInt) (hp : pw.toInt = (xpl moves.toInt.toNat : Int)) : ∀ p : Nat, p ≤ ndg moves.toInt.toNat → (∀ j : Nat, j < p → ¬ rhw ρ cell moves.toInt.toNat j = -1) → xhw (σ.2.2.1 0) (σ.2.2.1 1) cell moves pw p = rhw ρ cell moves.toInt.toNat p ∧ (¬ rhw ρ cell moves.toInt.toNat p = -1 → ∃ k : Nat, (rhw ρ cell moves.toInt.toNat p).toInt = (k : Int) ∧ k < rZ ρ 201) := by
  intro p
  induction p with
  | zero => exact fun _ _ => ⟨rfl, fun _ => ⟨n0, hc, hn⟩⟩
  | succ p ih =>
    intro h1 h2
    obtain ⟨a, b⟩ := ih (by omega) (fun j hj => h2 j (by omega))
    obtain ⟨k, hk, hk2⟩ := b (h2 p (by omega))
    have e : xhw (σ.2.2.1 0) (σ.2.2.1 1) cell moves pw (p + 1) = xbeh (σ.2.2.1 0) (σ.2.2.1 1) (xhw (σ.2.2.1 0) (σ.2.2.1 1) cell moves pw p) (moves / xpw pw p - moves / xpw pw p / 5 * 5) := rfl
    rw [e, rhw_s (by omega), a, xdg h0 hp (by omega)]
    exact xbeh_rmv hD hg n64 hk hk2
theorem ok_eq (hK : cpK σ ρ) (n64 : rZ ρ 201 ≤ 64) {c : Int32} (h : ¬ c = -1 → ∃ k : Nat, c.toInt = (k : Int) ∧ k < rZ ρ 201) : xok (σ.2.2.2.1 2) c ↔ rok ρ c := by
  unfold xok rok
  by_cases q : c = -1
  · exact ⟨fun z => absurd q z.1, fun z => absurd q z.1⟩
  · obtain ⟨k, hk, hk2⟩ := h q
    have e : Int32.toNatClampNeg c = k := by
      show c.toInt.toNat = k
      omega
    rw [hK.wall hk hk2 n64, e]
/-- what the class' walk says of the reference's -/
theorem walk_ok (hD : cpD σ ρ) (hK : cpK σ ρ) (hg : rgeo ρ) (n64 : rZ ρ 201 ≤ 64) (hc : cell.toInt = (n0 : Int)) (hn : n0 < rZ ρ 201) (h0 : 0 ≤ moves.toInt) (hp : pw.toInt = (xpl moves.toInt.toNat : Int)) {v : Nat} (hv : v ≤ ndg moves.toInt.toNat) (hw : ∀ p : Nat, p ≤ v → xok (σ.2.2.2.1 2) (xhw (σ.2.2.1 0) (σ.2.2.1 1) cell moves pw p)) : ∀ p : Nat, p ≤ v → xhw (σ.2.2.1 0) (σ.2.2.1 1) cell moves pw p = rhw ρ cell moves.toInt.toNat p ∧ rok ρ (rhw ρ cell moves.toInt.toNat p) := by
  intro p
  induction p using Nat.strongRecOn with
  | _ p ih =>
    intro h
    obtain ⟨a, b⟩ := way_eq hD hg n64 hc hn h0 hp p (by omega) (fun j hj => (ih j hj (by omega)).2.1)
    have c := hw p h
    rw [a, ok_eq hK n64 b] at c
    exact ⟨a, c⟩
theorem walk_bad (hD : cpD σ ρ) (hK : cpK σ ρ) (hg : rgeo ρ) (n64 : rZ ρ 201 ≤ 64) (hc : cell.toInt = (n0 : Int)) (hn : n0 < rZ ρ 201) (h0 : 0 ≤ moves.toInt) (hp : pw.toInt = (xpl moves.toInt.toNat : Int)) {m : Nat} (hm : ¬ xok (σ.2.2.2.1 2) (xhw (σ.2.2.1 0) (σ.2.2.1 1) cell moves pw m)) (hw : ∀ p : Nat, p < m → xok (σ.2.2.2.1 2) (xhw (σ.2.2.1 0) (σ.2.2.1 1) cell moves pw p) ∧ 0 < (xpw pw p).toInt) : ¬ rok ρ (rhw ρ cell moves.toInt.toNat m) := by
  have hr := yrng moves
  have hmd : m ≤ ndg moves.toInt.toNat := by
    by_cases q : m = 0
    · omega
    · have z := (xpw_pos hp (by omega)).mp (hw (m - 1) (by omega)).2
      omega
  have hj : ∀ j : Nat, j < m → ¬ rhw ρ cell moves.toInt.toNat j = -1 := fun j hj => by
    have z := walk_ok hD hK hg n64 hc hn h0 hp (v := j) (by omega) (fun p hp2 => (hw p (by omega)).1) j (Nat.le_refl _)
    exact z.2.1
  obtain ⟨a, b⟩ := way_eq hD hg n64 hc hn h0 hp m hmd hj
  rw [a, ok_eq hK n64 b] at hm
  exact hm
end YWY
/-- one more intruder, out of what is known of both -/
theorem cpI.addA {σ s σ1 : XS} {ρ ρ1 : RS} {minute many : Int32} {n nd v f : Nat} {fw : Nat → Int32} (h : cpI σ ρ) (en : rZ ρ 215 = n) (hn : n < 4) (hf : minute.toInt = (f : Int)) (hv : many.toInt = (v : Int)) (v14 : v ≤ 14) (fv : f + v ≤ 239) (q16 : s.2.1 16 = σ.2.1 16) (q17 : s.2.1 17 = σ.2.1 17) (q18 : s.2.1 18 = σ.2.1 18) (hold : ∀ j : Nat, j < 15 * n → s.2.1 19 j = σ.2.1 19 j) (hway : ∀ m : Nat, f ≤ m → m ≤ 239 → fw m = s.2.1 19 (15 * n + (if m - f < v then m - f else v))) (z16 : σ1.1 16 = Int32.ofNat (n + 1)) (z17 : σ1.1 17 = Int32.ofNat (n + 1)) (z18 : σ1.1 18 = Int32.ofNat (n + 1)) (f16 : σ1.2.1 16 = upd (s.2.1 16) n minute) (f17 : σ1.2.1 17 = upd (s.2.1 17) n (Int32.ofNat nd)) (f18 : σ1.2.1 18 = upd (s.2.1 18) n many) (f19 : σ1.2.1 19 = s.2.1 19) (zN : rZ ρ1 215 = n + 1) (fl : ∀ k i : Nat, rF ρ1 (420 + k) i = if k = n then rnF minute (Int32.ofNat nd) i else rF ρ (420 + k) i) (vl : ∀ k i : Nat, rV ρ1 (440 + k) i = if k = n then fw i else rV ρ (440 + k) i) : cpI σ1 ρ1 := by
  obtain ⟨h0, ⟨s16, s17, s18⟩, ⟨r16, r17⟩, hr⟩ := h
  rw [en] at h0 r16 r17 hr
  have hz2 : ∀ k : Nat, k < n → ¬ k = n := fun k hk => by omega
  rw [q16] at f16
  rw [q17] at f17
  rw [q18] at f18
  unfold cpI
  rw [zN]
  refine ⟨by omega, ⟨z16, z17, z18⟩, ⟨r16.add f16 (fun i hi => (fl i 0).trans (if_neg (hz2 i hi))) ((fl n 0).trans (if_pos rfl)), r17.add f17 (fun i hi => (fl i 1).trans (if_neg (hz2 i hi))) ((fl n 1).trans (if_pos rfl))⟩, fun k hk => ?_⟩
  by_cases q : k = n
  · refine ⟨f, v, ?_, ?_, v14, fv, fun m h1 h2 => ?_⟩
    · rw [fl k 0, if_pos q]
      exact hf
    · rw [f18, q, pk_us]
      exact hv
    · rw [vl k m, if_pos q, f19, q]
      exact hway m h1 h2
  · obtain ⟨f9, v9, b1, b2, b3, b4, b5⟩ := hr k (by omega)
    refine ⟨f9, v9, ?_, ?_, b3, b4, fun m h1 h2 => ?_⟩
    · rw [fl k 0, if_neg q]
      exact b1
    · rw [f18, pk_un q]
      exact b2
    · rw [vl k m, if_neg q, f19, b5 m h1 h2]
      refine (hold _ ?_).symm
      split <;> omega
theorem xcome_w {s : XS} {minute many d : Int32} {n : Nat} (hn : n < 4) (s16 : s.1 16 = Int32.ofNat n) (s17 : s.1 17 = Int32.ofNat n) (s18 : s.1 18 = Int32.ofNat n) : ((xcome s minute d many).1 16 = Int32.ofNat (n + 1) ∧ (xcome s minute d many).1 17 = Int32.ofNat (n + 1) ∧ (xcome s minute d many).1 18 = Int32.ofNat (n + 1)) ∧ (xcome s minute d many).2.1 16 = upd (s.2.1 16) n minute ∧ (xcome s minute d many).2.1 17 = upd (s.2.1 17) n d ∧ (xcome s minute d many).2.1 18 = upd (s.2.1 18) n many ∧ (xcome s minute d many).2.1 19 = s.2.1 19 := by
  unfold xcome
  have h1 := xadd_row (σ := s) (k := 16) (v := minute) s16 (by rw [show xcap 16 = 4 from by decide]; exact hn)
  have z1 : ∀ j : Nat, j ≠ 16 → (xadd s 16 minute).1 j = s.1 j := fun j hj => xadd_szn (σ := s) (k := 16) (j := j) (v := minute) hj
  have r1 : ∀ j : Nat, j ≠ 16 → (xadd s 16 minute).2.1 j = s.2.1 j := fun j hj => xadd_arn (σ := s) (k := 16) (j := j) (v := minute) hj
  generalize xadd s 16 minute = s1 at h1 z1 r1 ⊢
  have h2 := xadd_row (σ := s1) (k := 17) (v := d) ((z1 17 (by decide)).trans s17) (by rw [show xcap 17 = 4 from by decide]; exact hn)
  have z2 : ∀ j : Nat, j ≠ 17 → (xadd s1 17 d).1 j = s1.1 j := fun j hj => xadd_szn (σ := s1) (k := 17) (j := j) (v := d) hj
  have r2 : ∀ j : Nat, j ≠ 17 → (xadd s1 17 d).2.1 j = s1.2.1 j := fun j hj => xadd_arn (σ := s1) (k := 17) (j := j) (v := d) hj
  generalize xadd s1 17 d = s2 at h2 z2 r2 ⊢
  have h3 := xadd_row (σ := s2) (k := 18) (v := many) ((z2 18 (by decide)).trans ((z1 18 (by decide)).trans s18)) (by rw [show xcap 18 = 4 from by decide]; exact hn)
  have z3 : ∀ j : Nat, j ≠ 18 → (xadd s2 18 many).1 j = s2.1 j := fun j hj => xadd_szn (σ := s2) (k := 18) (j := j) (v := many) hj
  have r3 : ∀ j : Nat, j ≠ 18 → (xadd s2 18 many).2.1 j = s2.2.1 j := fun j hj => xadd_arn (σ := s2) (k := 18) (j := j) (v := many) hj
  generalize xadd s2 18 many = s3 at h3 z3 r3 ⊢
  have z4 : ∀ j : Nat, j ≠ 20 → (xadd s3 20 0).1 j = s3.1 j := fun j hj => xadd_szn (σ := s3) (k := 20) (j := j) (v := 0) hj
  have r4 : ∀ j : Nat, j ≠ 20 → (xadd s3 20 0).2.1 j = s3.2.1 j := fun j hj => xadd_arn (σ := s3) (k := 20) (j := j) (v := 0) hj
  generalize xadd s3 20 0 = s4 at z4 r4 ⊢
  have z5 : ∀ j : Nat, j ≠ 21 → (xadd s4 21 (-1)).1 j = s4.1 j := fun j hj => xadd_szn (σ := s4) (k := 21) (j := j) (v := -1) hj
  have r5 : ∀ j : Nat, j ≠ 21 → (xadd s4 21 (-1)).2.1 j = s4.2.1 j := fun j hj => xadd_arn (σ := s4) (k := 21) (j := j) (v := -1) hj
  generalize xadd s4 21 (-1) = s5 at z5 r5 ⊢
  refine ⟨⟨?_, ?_, ?_⟩, ?_, ?_, ?_, ?_⟩
  · rw [z5 16 (by decide), z4 16 (by decide), z3 16 (by decide), z2 16 (by decide), h1.2]
  · rw [z5 17 (by decide), z4 17 (by decide), z3 17 (by decide), h2.2]
  · rw [z5 18 (by decide), z4 18 (by decide), h3.2]
  · rw [r5 16 (by decide), r4 16 (by decide), r3 16 (by decide), r2 16 (by decide), h1.1]
  · rw [r5 17 (by decide), r4 17 (by decide), r3 17 (by decide), h2.1, r1 17 (by decide)]
  · rw [r5 18 (by decide), r4 18 (by decide), h3.1, r2 18 (by decide), r1 18 (by decide)]
  · rw [r5 19 (by decide), r4 19 (by decide), r3 19 (by decide), r2 19 (by decide), r1 19 (by decide)]
/-- one more intruder -/
theorem cpI.add {σ s : XS} {ρ : RS} {minute many : Int32} {nd v f : Nat} {fw : Nat → Int32} (h : cpI σ ρ) (hx : xfr [43] σ s) (hn : rZ ρ 215 < 4) (hf : minute.toInt = (f : Int)) (hv : many.toInt = (v : Int)) (v14 : v ≤ 14) (fv : f + v ≤ 239) (hold : ∀ j : Nat, j < 15 * rZ ρ 215 → s.2.1 19 j = σ.2.1 19 j) (hway : ∀ m : Nat, f ≤ m → m ≤ 239 → fw m = s.2.1 19 (15 * rZ ρ 215 + (if m - f < v then m - f else v))) : cpI (xcome s minute (Int32.ofNat nd) many) (rAdd (rnNew (rin ρ 0 0) (rZ ρ 215) (rnF minute (Int32.ofNat nd)) fw) 215) := by
  have h9 := h.2.1
  have hw := xcome_w (s := s) (minute := minute) (many := many) (d := Int32.ofNat nd) hn (hx.z h9.1) (hx.z h9.2.1) (hx.z h9.2.2)
  have zN : rZ (rAdd (rnNew (rin ρ 0 0) (rZ ρ 215) (rnF minute (Int32.ofNat nd)) fw) 215) 215 = rZ ρ 215 + 1 := rfl
  have fl : ∀ k i : Nat, rF (rAdd (rnNew (rin ρ 0 0) (rZ ρ 215) (rnF minute (Int32.ofNat nd)) fw) 215) (420 + k) i = if k = rZ ρ 215 then rnF minute (Int32.ofNat nd) i else rF ρ (420 + k) i := fun k i => by
    show (if 420 + k = 420 + rZ ρ 215 then rnF minute (Int32.ofNat nd) i else rF ρ (420 + k) i) = _
    by_cases q : k = rZ ρ 215
    · rw [if_pos q, if_pos (by omega)]
    · rw [if_neg q, if_neg (by omega)]
  have vl : ∀ k i : Nat, rV (rAdd (rnNew (rin ρ 0 0) (rZ ρ 215) (rnF minute (Int32.ofNat nd)) fw) 215) (440 + k) i = if k = rZ ρ 215 then fw i else rV ρ (440 + k) i := fun k i => by
    show (if 440 + k = 440 + rZ ρ 215 then fw else rV ρ (440 + k)) i = _
    by_cases q : k = rZ ρ 215
    · rw [if_pos q, if_pos (by omega)]
    · rw [if_neg q, if_neg (by omega)]
  generalize rAdd (rnNew (rin ρ 0 0) (rZ ρ 215) (rnF minute (Int32.ofNat nd)) fw) 215 = ρ1 at zN fl vl ⊢
  generalize xcome s minute (Int32.ofNat nd) many = σ1 at hw ⊢
  obtain ⟨⟨z16, z17, z18⟩, f16, f17, f18, f19⟩ := hw
  exact h.addA rfl hn hf hv v14 fv (hx.2.1 16 (by decide)) (hx.2.1 17 (by decide)) (hx.2.1 18 (by decide)) hold hway z16 z17 z18 f16 f17 f18 f19 zN fl vl
abbrev FI2 : List Nat := [16, 17, 18, 20, 21, 40, 41, 42, 43, 44, 45]
abbrev xoIntruder (p0 p1 p2 : Int32) (r : Option Value) (nv : Int64) (σ σ1 : XS) : Prop := ((xiC σ p0 p1 p2 ∧ (σ.1 16).toInt < 4 ∧ xcoR σ σ1 p0 p1 p2 (some (.int 1))) ∧ r = some (.int 0) ∧ nv = Int32.toInt64 (σ1.1 16 - 1) ∧ xfr FI2 σ σ1) ∨ (¬ (0 ≤ p0 ∧ p0 ≤ σ.2.2.1 0 * σ.2.2.1 1 - 1) ∧ r = some (.int 1) ∧ σ1 = σ) ∨ (((0 ≤ p0 ∧ p0 ≤ σ.2.2.1 0 * σ.2.2.1 1 - 1) ∧ ¬ ((0 ≤ p1 ∧ p1 ≤ 239) ∧ 0 ≤ p2)) ∧ r = some (.int 2) ∧ σ1 = σ) ∨ ((xiC σ p0 p1 p2 ∧ ((¬ (σ.1 16).toInt < 4 ∧ σ1 = σ) ∨ ((σ.1 16).toInt < 4 ∧ xcoR σ σ1 p0 p1 p2 (some (.int 0))))) ∧ r = some (.int 3) ∧ xfr FI2 σ σ1)
theorem cp_intruder {σ σ1 : XS} {ρ ρ1 : RS} {v1 v2 : Int32} {nv1 : Int64} {p0 p1 p2 : Int32} (hr : rb ρ) (hc : cph σ ρ) (h1 : xoIntruder p0 p1 p2 (some (.int v1)) nv1 σ σ1) (h2 : roIntr p0 p1 p2 (some (.int v2)) ρ ρ1) : CPR σ1 ρ1 v1 nv1 v2 := by
  have n64 := hr.n64
  have z0 : (0 : Int32).toInt = 0 := by decide
  have z239 : (239 : Int32).toInt = 239 := by decide
  have e1 : (0 ≤ p0 ∧ p0 ≤ σ.2.2.1 0 * σ.2.2.1 1 - 1) ↔ OKR ρ p0 := by rw [hc.D.2.2]
  have sz := szlt (c := 4) (k := 4) (kI := 4) hc.I.2.1.1 hc.I.1 (by decide) (by decide) rfl
  have eC : xiC σ p0 p1 p2 ↔ OKN ρ p0 p1 p2 := by
    unfold xiC OKN
    rw [e1]
  rcases h1 with ⟨⟨c1, c2, c3⟩, a1, a2, a3⟩ | ⟨c1, a1, rfl⟩ | ⟨⟨c1, c2⟩, a1, rfl⟩ | ⟨⟨c1, c2⟩, a1, a3⟩
  · cases a1
    have d1 := eC.mp c1
    obtain ⟨⟨m0, m9⟩, mv⟩ := d1.2
    rw [yle, z0] at m0 mv
    rw [yle, z239] at m9
    have hrm := yrng p2
    obtain ⟨n0, hn0, hn1, -⟩ := cellN n64 d1.1
    obtain ⟨s, pw, v, hx, hp, hw, q⟩ := c3
    rcases q with ⟨-, q, -⟩ | ⟨hv1, -, q⟩
    · exact absurd q (by decide)
    obtain ⟨hold, hw⟩ := hw
    rcases hw with ⟨q9, -⟩ | ⟨w0, w9, ww, wp, ws⟩
    · exact absurd q9 hv1
    have hn : rZ ρ 215 < 4 := by
      have t := c2
      have h9 := hc.I.1
      rw [hc.I.2.1.1, yofNat (by omega)] at t
      omega
    have vv : v.toInt = ((v.toInt.toNat : Nat) : Int) := by omega
    have vnd : v.toInt.toNat ≤ ndg p2.toInt.toNat := by
      by_cases t : v.toInt.toNat = 0
      · omega
      · have t2 := (xpw_pos hp (by omega)).mp (wp (v.toInt.toNat - 1) (by omega))
        omega
    have nd14 : ndg p2.toInt.toNat ≤ 14 := nd5_le 14 _
    have hk := walk_ok hc.D hc.K hr.1 n64 hn0 hn1 mv hp vnd (fun p hp2 => (ww p hp2).2)
    have hst : ∀ p : Nat, p1.toInt + (p : Int) ≤ 239 → rhw ρ p0 p2.toInt.toNat p = rhw ρ p0 p2.toInt.toNat (if p < v.toInt.toNat then p else v.toInt.toNat) := by
      intro p hp9
      by_cases t : p < v.toInt.toNat
      · rw [if_pos t]
      · rw [if_neg t]
        by_cases t2 : p = v.toInt.toNat
        · rw [t2]
        · have t3 : ndg p2.toInt.toNat ≤ v.toInt.toNat := by
            rcases ws with ws | ws
            · omega
            · by_cases t4 : v.toInt.toNat < ndg p2.toInt.toNat
              · have t5 := (xpw_pos hp (by omega)).mpr t4
                omega
              · omega
          have t6 := rhw_stay (ρ := ρ) (cell := p0) t3 (p - v.toInt.toNat)
          have t7 : v.toInt.toNat + (p - v.toInt.toNat) = p := by omega
          rw [t7] at t6
          exact t6
    have hall : ∀ p : Nat, p1.toInt + (p : Int) ≤ 239 → rok ρ (rhw ρ p0 p2.toInt.toNat p) := by
      intro p hp9
      rw [hst p hp9]
      exact (hk _ (by split <;> omega)).2
    rcases h2 with ⟨b0, b1, b2, b3, fw, b4, b5⟩ | ⟨b0, -⟩ | ⟨⟨b0, b1⟩, -⟩ | ⟨⟨b0, b1⟩, -⟩
    · cases b3
      subst b5
      have hN0 : ((σ.1 16) * 15).toInt.toNat = 15 * rZ ρ 215 := by
        have t : (σ.1 16).toInt = (rZ ρ 215 : Int) := by rw [hc.I.2.1.1, yofNat (by omega)]
        rw [x15 (by omega)]
        omega
      rw [hN0] at hold ww
      have hA := hc.I.add (s := s) (minute := p1) (many := v) (nd := ndg p2.toInt.toNat) (v := v.toInt.toNat) (f := p1.toInt.toNat) (fw := fw) hx hn (by omega) vv (by omega) (by omega) hold (fun m h3 h4 => by
        have t := b4 (m - p1.toInt.toNat) (by omega)
        have t2 : p1.toInt.toNat + (m - p1.toInt.toNat) = m := by omega
        rw [t2, hst _ (by omega)] at t
        rw [t]
        have t3 : (if m - p1.toInt.toNat < v.toInt.toNat then m - p1.toInt.toNat else v.toInt.toNat) ≤ v.toInt.toNat := by split <;> omega
        rw [← (hk _ t3).1]
        exact (ww _ t3).1.symm)
      subst q
      exact ⟨hc.oI (n := rZ ρ 215) a3 ⟨fun k hk => if_neg (fun q => hk (by rw [q]; decide)), fun t h1 h2 => if_neg h1, fun t ht => if_neg ht, fun t n ht => if_neg ht⟩ (by omega) hA, rfl, fun _ => by rw [a2, hA.2.1.1]; rfl⟩
    · exact absurd d1.1 b0
    · exact absurd d1.2 b1
    · rcases b1 with b1 | ⟨p, b1, b2⟩
      · exact absurd b1 (sz.mp c2)
      · exact absurd (hall p b1) b2
  · have c1 := fun q => c1 (e1.mpr q)
    rcases h2 with ⟨b0, -⟩ | ⟨-, b1, b2⟩ | ⟨⟨b0, -⟩, -⟩ | ⟨⟨b0, -⟩, -⟩
    · exact absurd b0.1 c1
    · exact cfail hc (by decide) ⟨⟨a1, rfl⟩, b1, b2⟩
    · exact absurd b0 c1
    · exact absurd b0.1 c1
  · have c1 := e1.mp c1
    rcases h2 with ⟨b0, -⟩ | ⟨b0, -⟩ | ⟨-, b1, b2⟩ | ⟨⟨b0, -⟩, -⟩
    · exact absurd b0.2 c2
    · exact absurd c1 b0
    · exact cfail hc (by decide) ⟨⟨a1, rfl⟩, b1, b2⟩
    · exact absurd b0.2 c2
  · have d1 := eC.mp c1
    obtain ⟨⟨m0, m9⟩, mv⟩ := d1.2
    rw [yle, z0] at m0 mv
    rw [yle, z239] at m9
    obtain ⟨n0, hn0, hn1, -⟩ := cellN n64 d1.1
    cases a1
    have hno : rI ρ1 0 = 3 ∧ rSm ρ ρ1 := by
      rcases h2 with ⟨b0, b1, b2, -⟩ | ⟨b0, -⟩ | ⟨⟨b0, b1⟩, -⟩ | ⟨-, b1, b2⟩
      · exfalso
        rcases c2 with ⟨c2, -⟩ | ⟨c2, c3⟩
        · exact c2 (sz.mpr b1)
        · obtain ⟨s, pw, v, hx, hp, hw, q⟩ := c3
          rcases q with ⟨hv1, -, -⟩ | ⟨-, q, -⟩
          · obtain ⟨hold, hw⟩ := hw
            rcases hw with ⟨-, m, hm, hm2, hm3⟩ | ⟨w0, -⟩
            · exact walk_bad hc.D hc.K hr.1 n64 hn0 hn1 mv hp hm2 hm3 (b2 m hm)
            · rw [hv1] at w0
              exact absurd w0 (by decide)
          · exact absurd q (by decide)
      · exact absurd d1.1 b0
      · exact absurd d1.2 b1
      · exact ⟨b1, b2⟩
    refine ⟨?_, hno.1, fun q => absurd q (by decide)⟩
    rcases c2 with ⟨-, rfl⟩ | ⟨c4, c3⟩
    · exact hc.sm hno.2
    · obtain ⟨s, pw, v, hx, hp, hw, q⟩ := c3
      rcases q with ⟨-, -, rfl⟩ | ⟨-, q, -⟩
      · obtain ⟨hold, -⟩ := hw
        have hc2 := hc.sm hno.2
        refine 
    ⟨((hx.i rfl).trans hc2.k),
    (hc2.L.x hx),
    (hc2.D.x hx),
    (hc2.K.x hx),
    (hc2.T.x hx),
    (hc2.A.x hx),
    (hc2.F.x hx),
    (hc2.W.x hx),
    (hc2.P.x hx),
    (hc2.Y.x hx),
    (hc2.G.x hx),
    ?_⟩
        have e16 : ((σ.1 16) * 15).toInt.toNat = 15 * rZ ρ 215 ∨ 4 ≤ rZ ρ 215 := by
          by_cases t9 : rZ ρ 215 < 4
          · have t : (σ.1 16).toInt = (rZ ρ 215 : Int) := by rw [hc.I.2.1.1, yofNat (by omega)]
            rw [x15 (by omega)]
            omega
          · omega
        have ez : rZ ρ1 215 = rZ ρ 215 := hno.2.2.1 215
        obtain ⟨h0, ⟨s16, s17, s18⟩, ⟨r16, r17⟩, hr9⟩ := hc2.I
        refine ⟨h0, ⟨hx.z s16, hx.z s17, hx.z s18⟩, ⟨r16.x hx, r17.x hx⟩, fun k hk => ?_⟩
        obtain ⟨f9, w9, b1, b2, b3, b4, b5⟩ := hr9 k hk
        refine ⟨f9, w9, b1, by rw [hx.2.1 18 (by decide)]; exact b2, b3, b4, fun m h3 h4 => (b5 m h3 h4).trans (hold _ ?_).symm⟩
        rcases e16 with e16 | e16
        · rw [e16]
          split <;> omega
        · exfalso
          have t : (σ.1 16).toInt = (rZ ρ 215 : Int) := by
            have h9 := hc.I.1
            rw [hc.I.2.1.1, yofNat (by omega)]
          omega
      · exact absurd q (by decide)
