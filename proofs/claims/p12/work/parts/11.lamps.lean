/-! ===== contracts: lamps and intruders ===== -/
/-- the power of the n-th move, the cell behind n moves -/
def xpw (pw : Int32) : Nat → Int32
  | 0 => pw
  | n + 1 => xpw pw n / 5
def xhw (W H cell moves pw : Int32) : Nat → Int32
  | 0 => cell
  | n + 1 => xbeh W H (xhw W H cell moves pw n) (moves / xpw pw n - moves / xpw pw n / 5 * 5)
def xok (w : Int64) (c : Int32) : Prop := ¬ c = -1 ∧ ¬ xis w c
theorem xpw_nat {pw : Int32} {m : Nat} (h : pw.toInt = (m : Int)) : ∀ n : Nat, (xpw pw n).toInt = ((m / 5 ^ n : Nat) : Int) := by
  have e5 : (5 : Int32).toInt = 5 := by decide
  intro n
  induction n with
  | zero =>
    show pw.toInt = ((m / 5 ^ 0 : Nat) : Int)
    rw [Nat.pow_zero, Nat.div_one]
    exact h
  | succ n ih =>
    show (xpw pw n / 5).toInt = ((m / 5 ^ (n + 1) : Nat) : Int)
    rw [Nat.pow_succ, ← Nat.div_div_eq_div_mul]
    generalize m / 5 ^ n = z at ih ⊢
    have hr := yrng (xpw pw n)
    have e : (xpw pw n / 5).toInt = (xpw pw n).toInt / 5 := by
      rw [Int32.toInt_div, e5, Int.tdiv_eq_ediv_of_nonneg (by omega)]
      exact ybmod (by omega) (by omega)
    rw [e, ih]
    omega
theorem xpw_14 {pw : Int32} (h : 0 ≤ pw.toInt) (h9 : pw.toInt ≤ 1220703125) {n : Nat} (hp : 0 < (xpw pw n).toInt) : n ≤ 13 := by
  rcases Nat.lt_or_ge n 14 with q | q
  · omega
  · exfalso
    rw [xpw_nat (m := pw.toInt.toNat) (by omega) n] at hp
    have p1 : 5 ^ 14 ≤ 5 ^ n := Nat.pow_le_pow_right (by decide) q
    have p2 : (5 : Nat) ^ 14 = 6103515625 := by decide
    rw [Nat.div_eq_of_lt (by omega)] at hp
    exact absurd hp (by decide)
/-- where the walk stands: f the places now, f0 those before, N the first place -/
def xwk (W H cell moves pw minute : Int32) (w : Int64) (f0 f : Nat → Int32) (N : Nat) (here many power : Int32) : Prop := 0 ≤ many.toInt ∧ minute.toInt + many.toInt ≤ 239 ∧ power = xpw pw many.toInt.toNat ∧ here = xhw W H cell moves pw many.toInt.toNat ∧ (∀ p : Nat, p ≤ many.toInt.toNat → f (N + p) = xhw W H cell moves pw p) ∧ (∀ j : Nat, j < N → f j = f0 j) ∧ ∀ p : Nat, p < many.toInt.toNat → xok w (xhw W H cell moves pw p) ∧ 0 < (xpw pw p).toInt
/-- what the walk answers -/
def xwr (W H cell moves pw minute : Int32) (w : Int64) (f0 f : Nat → Int32) (N : Nat) (v : Int32) : Prop := (∀ j : Nat, j < N → f j = f0 j) ∧ ((v = -1 ∧ ∃ m : Nat, minute.toInt + (m : Int) ≤ 239 ∧ ¬ xok w (xhw W H cell moves pw m) ∧ ∀ p : Nat, p < m → xok w (xhw W H cell moves pw p) ∧ 0 < (xpw pw p).toInt) ∨ (0 ≤ v.toInt ∧ minute.toInt + v.toInt ≤ 239 ∧ (∀ p : Nat, p ≤ v.toInt.toNat → f (N + p) = xhw W H cell moves pw p ∧ xok w (xhw W H cell moves pw p)) ∧ (∀ p : Nat, p < v.toInt.toNat → 0 < (xpw pw p).toInt) ∧ (239 ≤ minute.toInt + v.toInt ∨ (xpw pw v.toInt.toNat).toInt ≤ 0)))
theorem xwk.init {W H cell moves pw minute : Int32} {w : Int64} {f0 : Nat → Int32} {N : Nat} (h : minute.toInt ≤ 239) : xwk W H cell moves pw minute w f0 (upd f0 N cell) N cell 0 pw := by
  have e0 : (0 : Int32).toInt = 0 := by decide
  have ez : (0 : Int32).toInt.toNat = 0 := by decide
  refine ⟨by omega, by omega, by rw [ez]; rfl, by rw [ez]; rfl, fun p hp => ?_, fun j hj => pk_un (by omega), fun p hp => ?_⟩
  · have ep : p = 0 := by omega
    subst ep
    exact pk_us
  · rw [ez] at hp
    exact absurd hp (Nat.not_lt_zero _)
theorem xwk.step {W H cell moves pw minute here many power : Int32} {w : Int64} {f0 f : Nat → Int32} {N : Nat} (h : xwk W H cell moves pw minute w f0 f N here many power) (hp : 0 < power.toInt) (hm : minute.toInt + many.toInt < 239) (hm0 : 0 ≤ minute.toInt) (h1 : ¬ here = -1) (h2 : ¬ xis w here) : xwk W H cell moves pw minute w f0 (upd f (N + (many.toInt.toNat + 1)) (xbeh W H here (moves / power - moves / power / 5 * 5))) N (xbeh W H here (moves / power - moves / power / 5 * 5)) (many + 1) (power / 5) := by
  have e1 : (1 : Int32).toInt = 1 := by decide
  obtain ⟨a0, a1, a2, a3, a4, a5, a6⟩ := h
  have em : (many + 1).toInt = many.toInt + 1 := by rw [yadd (by omega) (by omega), e1]
  have en : (many + 1).toInt.toNat = many.toInt.toNat + 1 := by omega
  have ex : xbeh W H here (moves / power - moves / power / 5 * 5) = xhw W H cell moves pw (many.toInt.toNat + 1) := by
    rw [a2, a3]
    rfl
  refine ⟨by omega, by omega, by rw [en, a2]; rfl, by rw [en]; exact ex, fun p q => ?_, fun j hj => ?_, fun p q => ?_⟩
  · rw [en] at q
    by_cases z : p = many.toInt.toNat + 1
    · rw [z, pk_us]
      exact ex
    · rw [pk_un (by omega)]
      exact a4 p (by omega)
  · rw [pk_un (by omega)]
    exact a5 j hj
  · rw [en] at q
    by_cases z : p = many.toInt.toNat
    · rw [z, ← a3, ← a2]
      exact ⟨⟨h1, h2⟩, hp⟩
    · exact a6 p (by omega)
theorem xwk.bad {W H cell moves pw minute here many power : Int32} {w : Int64} {f0 f : Nat → Int32} {N : Nat} (h : xwk W H cell moves pw minute w f0 f N here many power) (hb : ¬ xok w here) : xwr W H cell moves pw minute w f0 f N (-1) := by
  obtain ⟨a0, a1, a2, a3, a4, a5, a6⟩ := h
  refine ⟨a5, Or.inl ⟨rfl, many.toInt.toNat, by omega, ?_, a6⟩⟩
  rw [← a3]
  exact hb
theorem xwk.good {W H cell moves pw minute here many power : Int32} {w : Int64} {f0 f : Nat → Int32} {N : Nat} (h : xwk W H cell moves pw minute w f0 f N here many power) (hb : xok w here) (hs : 239 ≤ minute.toInt + many.toInt ∨ power.toInt ≤ 0) : xwr W H cell moves pw minute w f0 f N many := by
  obtain ⟨a0, a1, a2, a3, a4, a5, a6⟩ := h
  refine ⟨a5, Or.inr ⟨a0, a1, fun p hp => ⟨a4 p hp, ?_⟩, fun p hp => (a6 p hp).2, ?_⟩⟩
  · by_cases z : p = many.toInt.toNat
    · rw [z, ← a3]
      exact hb
    · exact (a6 p (by omega)).1
  · rw [← a2]
    exact hs
/-- how many digits to the base 5 (f is enough fuel) -/
def nd5 : Nat → Nat → Nat
  | 0, _ => 0
  | f + 1, m => if m = 0 then 0 else nd5 f (m / 5) + 1
theorem nd5_z : ∀ f : Nat, nd5 f 0 = 0 := by
  intro f
  cases f with
  | zero => rfl
  | succ f => exact if_pos rfl
theorem nd5_up : ∀ (f m : Nat), m < 5 ^ f → nd5 (f + 1) m = nd5 f m := by
  intro f
  induction f with
  | zero =>
    intro m h
    have e : m = 0 := by rw [Nat.pow_zero] at h; omega
    rw [e, nd5_z, nd5_z]
  | succ f ih =>
    intro m h
    rw [Nat.pow_succ] at h
    show (if m = 0 then 0 else nd5 (f + 1) (m / 5) + 1) = (if m = 0 then 0 else nd5 f (m / 5) + 1)
    by_cases q : m = 0
    · rw [if_pos q, if_pos q]
    · rw [if_neg q, if_neg q, ih (m / 5) (by omega)]
/-- the digits of a number of the machine -/
def ndg (m : Nat) : Nat := nd5 14 m
theorem ndg_s {m : Nat} (h0 : 0 < m) (h : m < 2147483648) : ndg m = ndg (m / 5) + 1 := by
  have e : ndg m = (if m = 0 then 0 else nd5 13 (m / 5) + 1) := rfl
  rw [e, if_neg (by omega)]
  have h5 : m / 5 < 5 ^ 13 := by
    have e5 : (5 : Nat) ^ 13 = 1220703125 := by decide
    rw [e5]
    omega
  have h2 := nd5_up 13 (m / 5) h5
  show nd5 13 (m / 5) + 1 = nd5 14 (m / 5) + 1
  rw [h2]
theorem ndg_z : ndg 0 = 0 := nd5_z 14
theorem nd5_le : ∀ f m : Nat, nd5 f m ≤ f := by
  intro f
  induction f with
  | zero => exact fun _ => Nat.le_refl _
  | succ f ih =>
    intro m
    show (if m = 0 then 0 else nd5 f (m / 5) + 1) ≤ f + 1
    have h := ih (m / 5)
    split <;> omega
/-- how many digits were told, as it is counted -/
def xdc (moves many rest : Int32) : Prop := 0 ≤ many.toInt ∧ many.toInt + (ndg rest.toInt.toNat : Int) = ndg moves.toInt.toNat
theorem xdc.init {moves : Int32} : xdc moves 0 moves := by
  have e0 : (0 : Int32).toInt = 0 := by decide
  exact ⟨by omega, by omega⟩
theorem xdc.step {moves many rest : Int32} (h : xdc moves many rest) (c : 0 < rest.toInt) : xdc moves (many + 1) (rest / 5) := by
  have e1 : (1 : Int32).toInt = 1 := by decide
  have e5 : (5 : Int32).toInt = 5 := by decide
  have hr := yrng rest
  have hm := nd5_le 14 moves.toInt.toNat
  have e : (rest / 5).toInt = rest.toInt / 5 := by
    rw [Int32.toInt_div, e5, Int.tdiv_eq_ediv_of_nonneg (by omega)]
    exact ybmod (by omega) (by omega)
  have s := ndg_s (m := rest.toInt.toNat) (by omega) (by omega)
  have en : (rest / 5).toInt.toNat = rest.toInt.toNat / 5 := by omega
  obtain ⟨h0, h1⟩ := h
  have hm2 : ndg moves.toInt.toNat ≤ 14 := hm
  have ea : (many + 1).toInt = many.toInt + 1 := by rw [yadd (by omega) (by omega), e1]
  refine ⟨by omega, ?_⟩
  rw [en, ea]
  omega
theorem xdc.stop {moves many rest : Int32} (h : xdc moves many rest) (c : rest.toInt ≤ 0) : many = Int32.ofNat (ndg moves.toInt.toNat) := by
  have hm2 : ndg moves.toInt.toNat ≤ 14 := nd5_le 14 _
  have ez : rest.toInt.toNat = 0 := by omega
  obtain ⟨h0, h1⟩ := h
  rw [ez, ndg_z] at h1
  refine Int32.toInt_inj.mp ?_
  rw [yofNat (by omega)]
  omega
/-- the power of the leading digit -/
def xpl (m : Nat) : Nat := if m = 0 then 0 else 5 ^ (ndg m - 1)
def xpq (moves power rest : Int32) : Prop := (moves.toInt = 0 → power.toInt = 0 ∧ rest.toInt = 0) ∧ (0 < moves.toInt → 0 ≤ rest.toInt ∧ ∃ k : Nat, power.toInt = ((5 ^ k : Nat) : Int) ∧ k + ndg rest.toInt.toNat + 1 = ndg moves.toInt.toNat)
theorem xpl_le {m : Nat} : xpl m ≤ 1220703125 := by
  unfold xpl
  split
  · decide
  · have h : ndg m ≤ 14 := nd5_le 14 m
    have e : (1220703125 : Nat) = 5 ^ 13 := by decide
    rw [e]
    exact Nat.pow_le_pow_right (by decide) (by omega)
theorem xpq.init {moves b : Int32} (hmv : 0 ≤ moves.toInt) (hb : b = if 0 < moves.toInt then 1 else 0) : xpq moves b (moves / 5) := by
  have e1 : (1 : Int32).toInt = 1 := by decide
  have e0 : (0 : Int32).toInt = 0 := by decide
  have e5 : (5 : Int32).toInt = 5 := by decide
  have hr := yrng moves
  have e : (moves / 5).toInt = moves.toInt / 5 := by
    rw [Int32.toInt_div, e5, Int.tdiv_eq_ediv_of_nonneg hmv]
    exact ybmod (by omega) (by omega)
  refine ⟨fun h => ?_, fun h => ?_⟩
  · rw [hb, if_neg (by omega)]
    exact ⟨e0, by omega⟩
  · rw [hb, if_pos h]
    have en : (moves / 5).toInt.toNat = moves.toInt.toNat / 5 := by omega
    have s := ndg_s (m := moves.toInt.toNat) (by omega) (by omega)
    refine ⟨by omega, 0, by rw [e1]; rfl, ?_⟩
    rw [en]
    omega
theorem xpq.step {moves power rest : Int32} (h : xpq moves power rest) (hmv : 0 ≤ moves.toInt) (c : 0 < rest.toInt) : xpq moves (power * 5) (rest / 5) := by
  have e5 : (5 : Int32).toInt = 5 := by decide
  have hr := yrng rest
  have e : (rest / 5).toInt = rest.toInt / 5 := by
    rw [Int32.toInt_div, e5, Int.tdiv_eq_ediv_of_nonneg (by omega)]
    exact ybmod (by omega) (by omega)
  refine ⟨fun h0 => ?_, fun h0 => ?_⟩
  · have h2 := (h.1 h0).2
    omega
  · obtain ⟨a1, k, a2, a3⟩ := h.2 h0
    have s := ndg_s (m := rest.toInt.toNat) (by omega) (by omega)
    have en : (rest / 5).toInt.toNat = rest.toInt.toNat / 5 := by omega
    have hm2 : ndg moves.toInt.toNat ≤ 14 := nd5_le 14 _
    have hk : k ≤ 12 := by omega
    have hp : 5 ^ k ≤ 5 ^ 12 := Nat.pow_le_pow_right (by decide) hk
    have p12 : (5 : Nat) ^ 12 = 244140625 := by decide
    refine ⟨by omega, k + 1, ?_, by rw [en]; omega⟩
    rw [p12] at hp
    rw [Nat.pow_succ]
    generalize 5 ^ k = z at a2 hp ⊢
    rw [ymul (by rw [a2, e5]; omega) (by rw [a2, e5]; omega), a2, e5]
    omega
theorem xpq.stop {moves power rest : Int32} (h : xpq moves power rest) (hmv : 0 ≤ moves.toInt) (c : rest.toInt ≤ 0) : power.toInt = (xpl moves.toInt.toNat : Int) := by
  unfold xpl
  by_cases q : moves.toInt = 0
  · rw [if_pos (by omega)]
    exact (h.1 q).1
  · obtain ⟨a1, k, a2, a3⟩ := h.2 (by omega)
    have ez : rest.toInt.toNat = 0 := by omega
    rw [ez, ndg_z] at a3
    rw [if_neg (by omega), a2]
    have ek : ndg moves.toInt.toNat - 1 = k := by omega
    rw [ek]
theorem xps {x : Int32} (h : ¬ x ≤ 0) : 0 < x.toInt := by
  have e0 : (0 : Int32).toInt = 0 := by decide
  rw [yle, e0] at h
  omega
theorem xpn {x : Int32} (h : x ≤ 0) : x.toInt ≤ 0 := by
  have e0 : (0 : Int32).toInt = 0 := by decide
  rw [yle, e0] at h
  exact h
/-- the walk in the class' state -/
def xwkE (σ s : XS) (cell minute moves here many power : Int32) : Prop := ∃ pw : Int32, pw.toInt = (xpl moves.toInt.toNat : Int) ∧ xwk (σ.2.2.1 0) (σ.2.2.1 1) cell moves pw minute (σ.2.2.2.1 2) (σ.2.1 19) (s.2.1 19) ((σ.1 16) * 15).toInt.toNat here many power
def xwrR (σ σ1 : XS) (cell minute moves : Int32) (r : Option Value) : Prop := ∃ pw v : Int32, pw.toInt = (xpl moves.toInt.toNat : Int) ∧ r = some (.int v) ∧ xwr (σ.2.2.1 0) (σ.2.2.1 1) cell moves pw minute (σ.2.2.2.1 2) (σ.2.1 19) (σ1.2.1 19) ((σ.1 16) * 15).toInt.toNat v
theorem x15 {x : Int32} (h : 0 ≤ x.toInt ∧ x.toInt ≤ 3) : (x * 15).toInt = x.toInt * 15 := by
  have e15 : (15 : Int32).toInt = 15 := by decide
  rw [ymul (by rw [e15]; omega) (by rw [e15]; omega), e15]
theorem xcp19 : xcap 19 = 60 := by decide
theorem xput19 {s : XS} {i v : Int32} {n : Nat} (h : i.toInt = (n : Int)) (hn : n < 60) : (xput s 19 i v).2.1 19 = upd (s.2.1 19) n v := by
  unfold xput
  rw [xcp19, if_pos (by omega)]
  show (if 19 = 19 then upd (s.2.1 19) i.toNatClampNeg v else s.2.1 19) = _
  rw [if_pos rfl]
  have ek : i.toNatClampNeg = n := by
    show i.toInt.toNat = n
    omega
  rw [ek]
theorem xwkE.init {σ : XS} {cell minute moves pw : Int32} (hs : 0 ≤ (σ.1 16).toInt ∧ (σ.1 16).toInt ≤ 3) (hm : minute.toInt ≤ 239) (hp : pw.toInt = (xpl moves.toInt.toNat : Int)) : xwkE σ (xput σ 19 ((σ.1 16) * 15) cell) cell minute moves cell 0 pw := by
  have e := x15 hs
  refine ⟨pw, hp, ?_⟩
  rw [xput19 (n := ((σ.1 16) * 15).toInt.toNat) (by omega) (by omega)]
  exact xwk.init hm
theorem xwkE.step {σ s : XS} {cell minute moves here many power start x : Int32} (h : xwkE σ s cell minute moves here many power) (hx : xfr [43] σ s) (hs : 0 ≤ (σ.1 16).toInt ∧ (σ.1 16).toInt ≤ 3) (hst : start = (σ.1 16) * 15) (hm0 : 0 ≤ minute.toInt) (hm2 : minute.toInt ≤ 239) (c35 : ¬ power ≤ 0) (c45 : ¬ 239 ≤ minute + many) (c51 : ¬ here = -1) (c60 : (if xis (s.2.2.2.1 2) here then (1 : Int32) else 0) = 0) (ex : x = xbeh (s.2.2.1 0) (s.2.2.1 1) here (moves / power - moves / power / 5 * 5)) : xwkE σ (xput s 19 (start + (many + 1)) x) cell minute moves x (many + 1) (power / 5) := by
  have e1 : (1 : Int32).toInt = 1 := by decide
  have e239 : (239 : Int32).toInt = 239 := by decide
  obtain ⟨pw, hp, hw⟩ := h
  have hw2 := hw
  obtain ⟨a0, a1, a2, a3, a4, a5, a6⟩ := hw2
  have hpp := xps c35
  have hl := xpl_le (m := moves.toInt.toNat)
  have h13 : many.toInt.toNat ≤ 13 := xpw_14 (pw := pw) (by omega) (by omega) (by rw [← a2]; exact hpp)
  have e := x15 hs
  have es : (minute + many).toInt = minute.toInt + many.toInt := yadd (by omega) (by omega)
  rw [yle, es, e239] at c45
  have em : (many + 1).toInt = many.toInt + 1 := by rw [yadd (by omega) (by omega), e1]
  have ei : (start + (many + 1)).toInt = ((((σ.1 16) * 15).toInt.toNat + (many.toInt.toNat + 1) : Nat) : Int) := by
    rw [hst, yadd (by omega) (by omega), em]
    omega
  have hw3 : ¬ xis (σ.2.2.2.1 2) here := by
    have q := (yif0 _).mp c60
    rw [hx.s (k := 2) rfl] at q
    exact q
  refine ⟨pw, hp, ?_⟩
  rw [xput19 ei (by omega), ex, hx.i (k := 0) rfl, hx.i (k := 1) rfl]
  exact hw.step hpp (by omega) hm0 c51 hw3
theorem xwkE.bad {σ s : XS} {cell minute moves here many power : Int32} (h : xwkE σ s cell minute moves here many power) (hx : xfr [43] σ s) (hb : here = -1 ∨ xis (s.2.2.2.1 2) here) : xwrR σ s cell minute moves (some (.int (-1))) := by
  obtain ⟨pw, hp, hw⟩ := h
  refine ⟨pw, -1, hp, rfl, hw.bad (fun q => ?_)⟩
  rcases hb with hb | hb
  · exact q.1 hb
  · rw [hx.s (k := 2) rfl] at hb
    exact q.2 hb
theorem xwkE.good {σ s : XS} {cell minute moves here many power : Int32} (h : xwkE σ s cell minute moves here many power) (hx : xfr [43] σ s) (c107 : ¬ here = -1) (c116 : ¬ xis (s.2.2.2.1 2) here) (hs : 239 ≤ minute.toInt + many.toInt ∨ power.toInt ≤ 0) : xwrR σ s cell minute moves (some (.int many)) := by
  obtain ⟨pw, hp, hw⟩ := h
  rw [hx.s (k := 2) rfl] at c116
  exact ⟨pw, many, hp, rfl, hw.good ⟨c107, c116⟩ hs⟩
def xcome (s : XS) (minute d many : Int32) : XS := xadd (xadd (xadd (xadd (xadd s 16 minute) 17 d) 18 many) 20 0) 21 (-1)
/-- what coming answers and leaves -/
def xcoR (σ σ1 : XS) (cell minute moves : Int32) (r : Option Value) : Prop := ∃ (s : XS) (pw v : Int32), xfr [43] σ s ∧ pw.toInt = (xpl moves.toInt.toNat : Int) ∧ xwr (σ.2.2.1 0) (σ.2.2.1 1) cell moves pw minute (σ.2.2.2.1 2) (σ.2.1 19) (s.2.1 19) ((σ.1 16) * 15).toInt.toNat v ∧ ((v = -1 ∧ r = some (.int 0) ∧ σ1 = s) ∨ (¬ v = -1 ∧ r = some (.int 1) ∧ σ1 = xcome s minute (Int32.ofNat (ndg moves.toInt.toNat)) v))
theorem xcoR.no {σ s : XS} {cell minute moves x : Int32} (hx : xfr [43] σ s) (h : xwrR σ s cell minute moves (some (.int x))) (c : x = -1) : xcoR σ s cell minute moves (some (.int 0)) := by
  obtain ⟨pw, v, hp, hr, hw⟩ := h
  cases hr
  exact ⟨s, pw, x, hx, hp, hw, Or.inl ⟨c, rfl, rfl⟩⟩
theorem xcoR.yes {σ s : XS} {cell minute moves x : Int32} (hx : xfr [43] σ s) (h : xwrR σ s cell minute moves (some (.int x))) (c : ¬ x = -1) : xcoR σ (xcome s minute (Int32.ofNat (ndg moves.toInt.toNat)) x) cell minute moves (some (.int 1)) := by
  obtain ⟨pw, v, hp, hr, hw⟩ := h
  cases hr
  exact ⟨s, pw, x, hx, hp, hw, Or.inr ⟨c, rfl, rfl⟩⟩
/-- what the class' intruder needs, answers and leaves; what it leaves where it throws -/
def xiC (σ : XS) (cell minute moves : Int32) : Prop := (0 ≤ cell ∧ cell ≤ σ.2.2.1 0 * σ.2.2.1 1 - 1) ∧ (0 ≤ minute ∧ minute ≤ 239) ∧ 0 ≤ moves
def xiR (σ σ1 : XS) (cell minute moves : Int32) (r : Option Value) : Prop := xiC σ cell minute moves ∧ (σ.1 16).toInt < 4 ∧ xcoR σ σ1 cell minute moves (some (.int 1)) ∧ r = some (.int (σ1.1 16 - 1))
def xiX (E : String) (σ σ1 : XS) (cell minute moves : Int32) : Prop := (E = "java/lang/IndexOutOfBoundsException" ∧ ¬ (0 ≤ cell ∧ cell ≤ σ.2.2.1 0 * σ.2.2.1 1 - 1) ∧ σ1 = σ) ∨ (E = "java/lang/IllegalArgumentException" ∧ (0 ≤ cell ∧ cell ≤ σ.2.2.1 0 * σ.2.2.1 1 - 1) ∧ ¬ ((0 ≤ minute ∧ minute ≤ 239) ∧ 0 ≤ moves) ∧ σ1 = σ) ∨ (E = "java/lang/IllegalStateException" ∧ xiC σ cell minute moves ∧ ((¬ (σ.1 16).toInt < 4 ∧ σ1 = σ) ∨ ((σ.1 16).toInt < 4 ∧ xcoR σ σ1 cell minute moves (some (.int 0)))))
theorem ydiv5 {x : Int32} (h : ¬ x ≤ 0) : ((x / 5).toInt).toNat < (x.toInt).toNat := by
  rw [yle, yl_0] at h
  have h1 := yrng x
  have e : (x / 5).toInt = x.toInt / 5 := by
    rw [Int32.toInt_div, yl_5, Int.tdiv_eq_ediv_of_nonneg (by omega)]
    exact ybmod (by omega) (by omega)
  rw [e]
  omega
theorem xat18 {σ : XS} (h : xb σ) (i : Int32) : (xat σ 18 i).toInt ≤ 1000 := by
  unfold xat
  split
  · exact h.2.2 _
  · decide
set_option maxHeartbeats 4000000 in
set_option maxRecDepth 100000 in
theorem m_X4_count {l : Launch} {S0 : State} {A0 : Array Value} {D : va_G} {aC : Nat → ClassId} {ad : Nat → Nat} {G : AH} {σ : XS} (hS : yS l S0 A0 D aC) (hX : atX aC ad G σ) : yM l S0 D yX4_count cX4_count 1 (some .int) 11 0 0 [.ref (ad 4)] G (fun r G1 => r = some (.int (σ.1 0)) ∧ G1 = G) (fun _ _ => False) := by
  refine yM.ofK K_X4_count rfl (by decide) (Nat.le_of_ble_eq_true rfl) ?_
  refine y_blk 1 tq_X4_count (z := (1, [(0, .ref (ad 4))], [.ref (ad 4)])) rfl ?_
  refine y_get hS tq_X4_count (v := .ref (ad 100)) rfl fg_X4_14_X4 (hX.1 4 _ rfl) rfl ?_
  refine y_blk 0 tq_X4_count (z := (4, [(0, .ref (ad 4))], [.ref (ad 100)])) rfl ?_
  refine y_callV hS tq_X4_count rfl (As := []) rfl cv_X4_24 (hX.num (k := 0) (by decide)) (m_X5_size hS hX (k := 0) (by decide) ) rfl (by decide) (Nat.le_of_ble_eq_true rfl) (fun r4 Gc4 q4 => ?_) (fun E9 G9 h9 => h9.elim)
  obtain ⟨rfl, eG4⟩ := q4
  have eG4 := eG4.symm
  subst eG4
  refine y_blk 0 tq_X4_count (z := (7, [(0, .ref (ad 4))], [.int (σ.1 0)])) rfl ?_
  exact y_iret tq_X4_count rfl rfl (⟨by first | rfl | (congr 2; (repeat' split) <;> first | rfl | (exfalso; simp only [ylt, yle, yeqI, yl_m1, yl_0, yl_1, yl_2, yl_3, yl_4, yl_5, yl_6, yl_7, yl_8, yl_9, yl_10, yl_11, yl_12, yl_15, yl_16, yl_20, yl_60, yl_64, yl_90, yl_97, yl_99, yl_100, yl_120, yl_239, yl_240] at *; omega)), rfl⟩)
set_option maxHeartbeats 4000000 in
set_option maxRecDepth 100000 in
theorem m_X4_isFull {l : Launch} {S0 : State} {A0 : Array Value} {D : va_G} {aC : Nat → ClassId} {ad : Nat → Nat} {G : AH} {σ : XS} (hS : yS l S0 A0 D aC) (hX : atX aC ad G σ) : yM l S0 D yX4_isFull cX4_isFull 1 (some .boolean) 11 0 0 [.ref (ad 4)] G (fun r G1 => r = some (.int (if (xcap 0 : Int) ≤ (σ.1 0).toInt then 1 else 0)) ∧ G1 = G) (fun _ _ => False) := by
  refine yM.ofK K_X4_isFull rfl (by decide) (Nat.le_of_ble_eq_true rfl) ?_
  refine y_blk 1 tq_X4_isFull (z := (1, [(0, .ref (ad 4))], [.ref (ad 4)])) rfl ?_
  refine y_get hS tq_X4_isFull (v := .ref (ad 100)) rfl fg_X4_14_X4 (hX.1 4 _ rfl) rfl ?_
  refine y_blk 0 tq_X4_isFull (z := (4, [(0, .ref (ad 4))], [.ref (ad 100)])) rfl ?_
  refine y_callV hS tq_X4_isFull rfl (As := []) rfl cv_X4_28 (hX.num (k := 0) (by decide)) (m_X5_isFull hS hX (k := 0) (by decide) ) rfl (by decide) (Nat.le_of_ble_eq_true rfl) (fun r4 Gc4 q4 => ?_) (fun E9 G9 h9 => h9.elim)
  obtain ⟨rfl, eG4⟩ := q4
  have eG4 := eG4.symm
  subst eG4
  refine y_blk 0 tq_X4_isFull (z := (7, [(0, .ref (ad 4))], [.int (if (xcap 0 : Int) ≤ (σ.1 0).toInt then 1 else 0)])) rfl ?_
  exact y_zret tq_X4_isFull rfl rfl (y01 (y01i _)) (⟨by first | rfl | (congr 2; (repeat' split) <;> first | rfl | (exfalso; simp only [ylt, yle, yeqI, yl_m1, yl_0, yl_1, yl_2, yl_3, yl_4, yl_5, yl_6, yl_7, yl_8, yl_9, yl_10, yl_11, yl_12, yl_15, yl_16, yl_20, yl_60, yl_64, yl_90, yl_97, yl_99, yl_100, yl_120, yl_239, yl_240] at *; omega)), rfl⟩)
set_option maxHeartbeats 4000000 in
set_option maxRecDepth 100000 in
theorem m_X4_forget {l : Launch} {S0 : State} {A0 : Array Value} {D : va_G} {aC : Nat → ClassId} {ad : Nat → Nat} {G : AH} {σ : XS} (hS : yS l S0 A0 D aC) (hX : atX aC ad G σ) : yM l S0 D yX4_forget cX4_forget 1 none 11 0 0 [.ref (ad 4)] G (fun r G1 => r = none ∧ atX aC ad G1 (xsz (xsz (xsz σ 0 0) 1 0) 2 0) ∧ keepX G G1) (fun _ _ => False) := by
  refine yM.ofK K_X4_forget rfl (by decide) (Nat.le_of_ble_eq_true rfl) ?_
  refine y_blk 1 tq_X4_forget (z := (1, [(0, .ref (ad 4))], [.ref (ad 4)])) rfl ?_
  refine y_get hS tq_X4_forget (v := .ref (ad 100)) rfl fg_X4_14_X4 (hX.1 4 _ rfl) rfl ?_
  refine y_blk 0 tq_X4_forget (z := (4, [(0, .ref (ad 4))], [.ref (ad 100)])) rfl ?_
  refine y_callV hS tq_X4_forget rfl (As := []) rfl cv_X4_32 (hX.num (k := 0) (by decide)) (m_X5_clear hS hX (k := 0) (by decide) ) rfl (by decide) (Nat.le_of_ble_eq_true rfl) (fun r4 Gc4 q4 => ?_) (fun E9 G9 h9 => h9.elim)
  obtain ⟨rfl, hXc4, hFc4⟩ := q4
  refine y_blk 1 tq_X4_forget (z := (8, [(0, .ref (ad 4))], [.ref (ad 4)])) rfl ?_
  refine y_get hS tq_X4_forget (v := .ref (ad 102)) rfl fg_X4_18_X4 (hXc4.1 4 _ rfl) rfl ?_
  refine y_blk 0 tq_X4_forget (z := (11, [(0, .ref (ad 4))], [.ref (ad 102)])) rfl ?_
  refine y_callV hS tq_X4_forget rfl (As := []) rfl cv_X4_32 (hXc4.num (k := 1) (by decide)) (m_X5_clear hS hXc4 (k := 1) (by decide) ) rfl (by decide) (Nat.le_of_ble_eq_true rfl) (fun r11 Gc11 q11 => ?_) (fun E9 G9 h9 => h9.elim)
  obtain ⟨rfl, hXc11, hFc11⟩ := q11
  refine y_blk 1 tq_X4_forget (z := (15, [(0, .ref (ad 4))], [.ref (ad 4)])) rfl ?_
  refine y_get hS tq_X4_forget (v := .ref (ad 104)) rfl fg_X4_21_X4 (hXc11.1 4 _ rfl) rfl ?_
  refine y_blk 0 tq_X4_forget (z := (18, [(0, .ref (ad 4))], [.ref (ad 104)])) rfl ?_
  refine y_callV hS tq_X4_forget rfl (As := []) rfl cv_X4_32 (hXc11.num (k := 2) (by decide)) (m_X5_clear hS hXc11 (k := 2) (by decide) ) rfl (by decide) (Nat.le_of_ble_eq_true rfl) (fun r18 Gc18 q18 => ?_) (fun E9 G9 h9 => h9.elim)
  obtain ⟨rfl, hXc18, hFc18⟩ := q18
  refine y_blk 0 tq_X4_forget (z := (21, [(0, .ref (ad 4))], [])) rfl ?_
  exact y_vret tq_X4_forget rfl rfl (⟨rfl, hXc18, (((keepX.rfl'.trans hFc4).trans hFc11).trans hFc18)⟩)
set_option maxHeartbeats 4000000 in
set_option maxRecDepth 100000 in
theorem m_X4_putUp {l : Launch} {S0 : State} {A0 : Array Value} {D : va_G} {aC : Nat → ClassId} {ad : Nat → Nat} {G : AH} {σ : XS} (hS : yS l S0 A0 D aC) (hX : atX aC ad G σ) (cell : Int32) (reach : Int32) : yM l S0 D yX4_putUp cX4_putUp 3 (some .int) 12 0 0 [.ref (ad 4), .int cell, .int reach] G (fun r G1 => r = some (.int ((xlampU σ cell reach).1 0 - 1)) ∧ atX aC ad G1 (xlampU σ cell reach) ∧ keepX G G1) (fun _ _ => False) := by
  refine yM.ofK K_X4_putUp rfl (by decide) (Nat.le_of_ble_eq_true rfl) ?_
  refine y_blk 1 tq_X4_putUp (z := (1, [(0, .ref (ad 4)), (1, .int cell), (2, .int reach)], [.ref (ad 4)])) rfl ?_
  refine y_get hS tq_X4_putUp (v := .ref (ad 100)) rfl fg_X4_14_X4 (hX.1 4 _ rfl) rfl ?_
  refine y_blk 1 tq_X4_putUp (z := (5, [(0, .ref (ad 4)), (1, .int cell), (2, .int reach)], [.int cell, .ref (ad 100)])) rfl ?_
  refine y_callV hS tq_X4_putUp rfl (As := [.int cell]) rfl cv_X4_35 (hX.num (k := 0) (by decide)) (m_X5_add hS hX (k := 0) (by decide) cell (fun q => absurd q (by decide))) rfl (by decide) (Nat.le_of_ble_eq_true rfl) (fun r5 Gc5 q5 => ?_) (fun E9 G9 h9 => h9.elim)
  obtain ⟨rfl, hXc5, hFc5⟩ := q5
  refine y_blk 1 tq_X4_putUp (z := (9, [(0, .ref (ad 4)), (1, .int cell), (2, .int reach)], [.ref (ad 4)])) rfl ?_
  refine y_get hS tq_X4_putUp (v := .ref (ad 102)) rfl fg_X4_18_X4 (hXc5.1 4 _ rfl) rfl ?_
  refine y_blk 1 tq_X4_putUp (z := (13, [(0, .ref (ad 4)), (1, .int cell), (2, .int reach)], [.int reach, .ref (ad 102)])) rfl ?_
  refine y_callV hS tq_X4_putUp rfl (As := [.int reach]) rfl cv_X4_35 (hXc5.num (k := 1) (by decide)) (m_X5_add hS hXc5 (k := 1) (by decide) reach (fun q => absurd q (by decide))) rfl (by decide) (Nat.le_of_ble_eq_true rfl) (fun r13 Gc13 q13 => ?_) (fun E9 G9 h9 => h9.elim)
  obtain ⟨rfl, hXc13, hFc13⟩ := q13
  refine y_blk 1 tq_X4_putUp (z := (17, [(0, .ref (ad 4)), (1, .int cell), (2, .int reach)], [.ref (ad 4)])) rfl ?_
  refine y_get hS tq_X4_putUp (v := .ref (ad 104)) rfl fg_X4_21_X4 (hXc13.1 4 _ rfl) rfl ?_
  refine y_blk 1 tq_X4_putUp (z := (21, [(0, .ref (ad 4)), (1, .int cell), (2, .int reach)], [.int 1, .ref (ad 104)])) rfl ?_
  refine y_callV hS tq_X4_putUp rfl (As := [.int 1]) rfl cv_X4_35 (hXc13.num (k := 2) (by decide)) (m_X5_add hS hXc13 (k := 2) (by decide) 1 (fun q => absurd q (by decide))) rfl (by decide) (Nat.le_of_ble_eq_true rfl) (fun r21 Gc21 q21 => ?_) (fun E9 G9 h9 => h9.elim)
  obtain ⟨rfl, hXc21, hFc21⟩ := q21
  refine y_blk 1 tq_X4_putUp (z := (25, [(0, .ref (ad 4)), (1, .int cell), (2, .int reach)], [.ref (ad 4)])) rfl ?_
  refine y_callV hS tq_X4_putUp rfl (As := []) rfl cv_X4_38 (hXc21.1 4 _ rfl) (m_X4_count hS hXc21 ) rfl (by decide) (Nat.le_of_ble_eq_true rfl) (fun r25 Gc25 q25 => ?_) (fun E9 G9 h9 => h9.elim)
  obtain ⟨rfl, eG25⟩ := q25
  have eG25 := eG25.symm
  subst eG25
  refine y_blk 2 tq_X4_putUp (z := (30, [(0, .ref (ad 4)), (1, .int cell), (2, .int reach)], [.int ((((xadd ((xadd ((xadd σ 0 cell)) 1 reach)) 2 1)).1 0) - 1)])) rfl ?_
  exact y_iret tq_X4_putUp rfl rfl (⟨rfl, hXc21, (((keepX.rfl'.trans hFc5).trans hFc13).trans hFc21)⟩)
set_option maxHeartbeats 4000000 in
set_option maxRecDepth 100000 in
theorem m_X4_turn {l : Launch} {S0 : State} {A0 : Array Value} {D : va_G} {aC : Nat → ClassId} {ad : Nat → Nat} {G : AH} {σ : XS} (hS : yS l S0 A0 D aC) (hX : atX aC ad G σ) (lamp : Int32) (isLit : Int32) : yM l S0 D yX4_turn cX4_turn 3 none 11 0 0 [.ref (ad 4), .int lamp, .int isLit] G (fun r G1 => r = none ∧ atX aC ad G1 (xput σ 2 lamp (if isLit = 0 then 0 else 1)) ∧ keepX G G1) (fun _ _ => False) := by
  refine yM.ofK K_X4_turn rfl (by decide) (Nat.le_of_ble_eq_true rfl) ?_
  refine y_blk 1 tq_X4_turn (z := (1, [(0, .ref (ad 4)), (1, .int lamp), (2, .int isLit)], [.ref (ad 4)])) rfl ?_
  refine y_get hS tq_X4_turn (v := .ref (ad 104)) rfl fg_X4_21_X4 (hX.1 4 _ rfl) rfl ?_
  refine y_blk 2 tq_X4_turn (z := (6, [(0, .ref (ad 4)), (1, .int lamp), (2, .int isLit)], [.int isLit, .int lamp, .ref (ad 104)])) rfl ?_
  refine y_if_eq tq_X4_turn 13 rfl rfl (fun c6 => ?_) (fun c6 => ?_)
  · skip
    refine y_blk 1 tq_X4_turn (z := (14, [(0, .ref (ad 4)), (1, .int lamp), (2, .int isLit)], [.int 0, .int lamp, .ref (ad 104)])) rfl ?_
    refine y_callV hS tq_X4_turn rfl (As := [.int lamp, .int 0]) rfl cv_X4_41 (hX.num (k := 2) (by decide)) (m_X5_put hS hX (k := 2) (by decide) lamp 0 (fun q => absurd q (by decide))) rfl (by decide) (Nat.le_of_ble_eq_true rfl) (fun r14 Gc14 q14 => ?_) (fun E9 G9 h9 => h9.elim)
    obtain ⟨rfl, hXc14, hFc14⟩ := q14
    refine y_blk 0 tq_X4_turn (z := (17, [(0, .ref (ad 4)), (1, .int lamp), (2, .int isLit)], [])) rfl ?_
    exact y_vret tq_X4_turn rfl rfl (⟨rfl, (by first | (rw [if_pos (by assumption)]; exact hXc14) | (rw [if_neg (by assumption)]; exact hXc14)), (keepX.rfl'.trans hFc14)⟩)
  · skip
    refine y_blk 2 tq_X4_turn (z := (14, [(0, .ref (ad 4)), (1, .int lamp), (2, .int isLit)], [.int 1, .int lamp, .ref (ad 104)])) rfl ?_
    refine y_callV hS tq_X4_turn rfl (As := [.int lamp, .int 1]) rfl cv_X4_41 (hX.num (k := 2) (by decide)) (m_X5_put hS hX (k := 2) (by decide) lamp 1 (fun q => absurd q (by decide))) rfl (by decide) (Nat.le_of_ble_eq_true rfl) (fun r14 Gc14 q14 => ?_) (fun E9 G9 h9 => h9.elim)
    obtain ⟨rfl, hXc14, hFc14⟩ := q14
    refine y_blk 0 tq_X4_turn (z := (17, [(0, .ref (ad 4)), (1, .int lamp), (2, .int isLit)], [])) rfl ?_
    exact y_vret tq_X4_turn rfl rfl (⟨rfl, (by first | (rw [if_pos (by assumption)]; exact hXc14) | (rw [if_neg (by assumption)]; exact hXc14)), (keepX.rfl'.trans hFc14)⟩)
set_option maxHeartbeats 4000000 in
set_option maxRecDepth 100000 in
theorem m_X4_countLit {l : Launch} {S0 : State} {A0 : Array Value} {D : va_G} {aC : Nat → ClassId} {ad : Nat → Nat} {G : AH} {σ : XS} (hS : yS l S0 A0 D aC) (hX : atX aC ad G σ) : yM l S0 D yX4_countLit cX4_countLit 1 (some .int) 13 0 0 [.ref (ad 4)] G (fun r G1 => (∃ v : Int32, r = some (.int v)) ∧ G1 = G) (fun _ _ => False) := by
  refine yM.ofK K_X4_countLit rfl (by decide) (Nat.le_of_ble_eq_true rfl) ?_
  refine y_blk 1 tq_X4_countLit (z := (1, [(0, .ref (ad 4))], [.ref (ad 4)])) rfl ?_
  refine y_get hS tq_X4_countLit (v := .ref (ad 104)) rfl fg_X4_21_X4 (hX.1 4 _ rfl) rfl ?_
  refine y_blk 1 tq_X4_countLit (z := (5, [(0, .ref (ad 4))], [.int 1, .ref (ad 104)])) rfl ?_
  refine y_callV hS tq_X4_countLit rfl (As := [.int 1]) rfl cv_X4_45 (hX.num (k := 2) (by decide)) (m_X5_countOf hS hX (k := 2) (by decide) 1) rfl (by decide) (Nat.le_of_ble_eq_true rfl) (fun r5 Gc5 q5 => ?_) (fun E9 G9 h9 => h9.elim)
  obtain ⟨⟨x5, rfl⟩, eG5⟩ := q5
  have eG5 := eG5.symm
  subst eG5
  refine y_blk 0 tq_X4_countLit (z := (8, [(0, .ref (ad 4))], [.int x5])) rfl ?_
  exact y_iret tq_X4_countLit rfl rfl (⟨⟨_, rfl⟩, rfl⟩)
set_option maxHeartbeats 4000000 in
set_option maxRecDepth 100000 in
theorem m_X4_cells {l : Launch} {S0 : State} {A0 : Array Value} {D : va_G} {aC : Nat → ClassId} {ad : Nat → Nat} {G : AH} {σ : XS} (hS : yS l S0 A0 D aC) (hX : atX aC ad G σ) : yM l S0 D yX4_cells cX4_cells 1 (some .long) 12 0 0 [.ref (ad 4)] G (fun r G1 => (∃ v : Int64, xse v (xasQ σ 0 (σ.1 0).toInt.toNat) ∧ r = some (.long v)) ∧ G1 = G) (fun _ _ => False) := by
  refine yM.ofK K_X4_cells rfl (by decide) (Nat.le_of_ble_eq_true rfl) ?_
  refine y_blk 1 tq_X4_cells (z := (1, [(0, .ref (ad 4))], [.ref (ad 4)])) rfl ?_
  refine y_get hS tq_X4_cells (v := .ref (ad 100)) rfl fg_X4_14_X4 (hX.1 4 _ rfl) rfl ?_
  refine y_blk 0 tq_X4_cells (z := (4, [(0, .ref (ad 4))], [.ref (ad 100)])) rfl ?_
  refine y_callV hS tq_X4_cells rfl (As := []) rfl cv_X4_49 (hX.num (k := 0) (by decide)) (m_X5_asCells hS hX (k := 0) (by decide) ) rfl (by decide) (Nat.le_of_ble_eq_true rfl) (fun r4 Gc4 q4 => ?_) (fun E9 G9 h9 => h9.elim)
  obtain ⟨⟨x4, hr_x4, rfl⟩, eG4⟩ := q4
  have eG4 := eG4.symm
  subst eG4
  refine y_blk 0 tq_X4_cells (z := (7, [(0, .ref (ad 4))], [.long x4])) rfl ?_
  exact y_lret tq_X4_cells rfl rfl (⟨⟨_, hr_x4, rfl⟩, rfl⟩)
set_option maxHeartbeats 4000000 in
set_option maxRecDepth 100000 in
theorem m_X4_brightCells {l : Launch} {S0 : State} {A0 : Array Value} {D : va_G} {aC : Nat → ClassId} {ad : Nat → Nat} {G : AH} {σ : XS} (hS : yS l S0 A0 D aC) (hX : atX aC ad G σ) : yM l S0 D yX4_brightCells cX4_brightCells 5 (some .long) 11 0 0 [.ref (ad 4), .ref (ad 2)] G (fun r G1 => (∃ v : Int64, r = some (.long v)) ∧ G1 = G) (fun _ _ => False) := by
  refine yM.ofK K_X4_brightCells rfl (by decide) (Nat.le_of_ble_eq_true rfl) ?_
  have J5 : ∀ (n5 : Nat) (v5_2 : Int64) (v5_4 : Int32), ((σ.1 0 : Int32).toInt - v5_4.toInt).toNat = n5 → Y l S0 D K_X4_brightCells 11 0 0 (fun r G1 => (∃ v : Int64, r = some (.long v)) ∧ G1 = G) (fun _ _ => False) 5 [(0, .ref (ad 4)), (1, .ref (ad 2)), (2, .long v5_2), (4, .int v5_4)] [] G 0 0 := by
    intro n5
    induction n5 using Nat.strongRecOn with
    | _ n5 ih5 =>
    intro v5_2 v5_4 hn5
    subst hn5
    have J55 : ∀ (v55_2 : Int64) (c14 : ¬ (σ.1 0 : Int32) ≤ v5_4), Y l S0 D K_X4_brightCells 11 0 0 (fun r G1 => (∃ v : Int64, r = some (.long v)) ∧ G1 = G) (fun _ _ => False) 55 [(0, .ref (ad 4)), (1, .ref (ad 2)), (2, .long v55_2), (4, .int v5_4)] [] G 0 0 := by
      intro v55_2 c14
      refine y_blk 2 tq_X4_brightCells (z := (5, [(4, .int (v5_4 + 1)), (0, .ref (ad 4)), (1, .ref (ad 2)), (2, .long v55_2)], [])) rfl ?_
      refine y_pick (L2 := [(0, .ref (ad 4)), (1, .ref (ad 2)), (2, .long v55_2), (4, .int (v5_4 + 1))]) [1, 2, 3, 0] rfl ?_
      exact ih5 _ (by exact ydec c14) v55_2 (v5_4 + 1) rfl
    refine y_blk 2 tq_X4_brightCells (z := (8, [(0, .ref (ad 4)), (1, .ref (ad 2)), (2, .long v5_2), (4, .int v5_4)], [.ref (ad 4), .int v5_4])) rfl ?_
    refine y_get hS tq_X4_brightCells (v := .ref (ad 100)) rfl fg_X4_14_X4 (hX.1 4 _ rfl) rfl ?_
    refine y_blk 0 tq_X4_brightCells (z := (11, [(0, .ref (ad 4)), (1, .ref (ad 2)), (2, .long v5_2), (4, .int v5_4)], [.ref (ad 100), .int v5_4])) rfl ?_
    refine y_callV hS tq_X4_brightCells rfl (As := []) rfl cv_X4_24 (hX.num (k := 0) (by decide)) (m_X5_size hS hX (k := 0) (by decide) ) rfl (by decide) (Nat.le_of_ble_eq_true rfl) (fun r11 Gc11 q11 => ?_) (fun E9 G9 h9 => h9.elim)
    obtain ⟨rfl, eG11⟩ := q11
    have eG11 := eG11.symm
    subst eG11
    refine y_blk 0 tq_X4_brightCells (z := (14, [(0, .ref (ad 4)), (1, .ref (ad 2)), (2, .long v5_2), (4, .int v5_4)], [.int (σ.1 0), .int v5_4])) rfl ?_
    refine y_icmp_ge tq_X4_brightCells 61 rfl rfl (fun c14 => ?_) (fun c14 => ?_)
    · skip
      refine y_blk 1 tq_X4_brightCells (z := (62, [(0, .ref (ad 4)), (1, .ref (ad 2)), (2, .long v5_2), (4, .int v5_4)], [.long v5_2])) rfl ?_
      exact y_lret tq_X4_brightCells rfl rfl (⟨⟨_, rfl⟩, rfl⟩)
    · skip
      refine y_blk 1 tq_X4_brightCells (z := (18, [(0, .ref (ad 4)), (1, .ref (ad 2)), (2, .long v5_2), (4, .int v5_4)], [.ref (ad 4)])) rfl ?_
      refine y_get hS tq_X4_brightCells (v := .ref (ad 104)) rfl fg_X4_21_X4 (hX.1 4 _ rfl) rfl ?_
      refine y_blk 1 tq_X4_brightCells (z := (23, [(0, .ref (ad 4)), (1, .ref (ad 2)), (2, .long v5_2), (4, .int v5_4)], [.int v5_4, .ref (ad 104)])) rfl ?_
      refine y_callV hS tq_X4_brightCells rfl (As := [.int v5_4]) rfl cv_X4_53 (hX.num (k := 2) (by decide)) (m_X5_at hS hX (k := 2) (by decide) v5_4) rfl (by decide) (Nat.le_of_ble_eq_true rfl) (fun r23 Gc23 q23 => ?_) (fun E9 G9 h9 => h9.elim)
      obtain ⟨rfl, eG23⟩ := q23
      have eG23 := eG23.symm
      subst eG23
      refine y_blk 1 tq_X4_brightCells (z := (27, [(0, .ref (ad 4)), (1, .ref (ad 2)), (2, .long v5_2), (4, .int v5_4)], [.int 1, .int (xat σ 2 v5_4)])) rfl ?_
      refine y_icmp_ne tq_X4_brightCells 55 rfl rfl (fun c27 => ?_) (fun c27 => ?_)
      · skip
        refine y_blk 0 tq_X4_brightCells (z := (55, [(0, .ref (ad 4)), (1, .ref (ad 2)), (2, .long v5_2), (4, .int v5_4)], [])) rfl ?_
        exact J55 v5_2 (by exact c14)
      · skip
        refine y_blk 3 tq_X4_brightCells (z := (33, [(0, .ref (ad 4)), (1, .ref (ad 2)), (2, .long v5_2), (4, .int v5_4)], [.ref (ad 4), .ref (ad 2), .long v5_2])) rfl ?_
        refine y_get hS tq_X4_brightCells (v := .ref (ad 100)) rfl fg_X4_14_X4 (hX.1 4 _ rfl) rfl ?_
        refine y_blk 1 tq_X4_brightCells (z := (38, [(0, .ref (ad 4)), (1, .ref (ad 2)), (2, .long v5_2), (4, .int v5_4)], [.int v5_4, .ref (ad 100), .ref (ad 2), .long v5_2])) rfl ?_
        refine y_callV hS tq_X4_brightCells rfl (As := [.int v5_4]) rfl cv_X4_53 (hX.num (k := 0) (by decide)) (m_X5_at hS hX (k := 0) (by decide) v5_4) rfl (by decide) (Nat.le_of_ble_eq_true rfl) (fun r38 Gc38 q38 => ?_) (fun E9 G9 h9 => h9.elim)
        obtain ⟨rfl, eG38⟩ := q38
        have eG38 := eG38.symm
        subst eG38
        refine y_blk 1 tq_X4_brightCells (z := (42, [(0, .ref (ad 4)), (1, .ref (ad 2)), (2, .long v5_2), (4, .int v5_4)], [.ref (ad 4), .int (xat σ 0 v5_4), .ref (ad 2), .long v5_2])) rfl ?_
        refine y_get hS tq_X4_brightCells (v := .ref (ad 102)) rfl fg_X4_18_X4 (hX.1 4 _ rfl) rfl ?_
        refine y_blk 1 tq_X4_brightCells (z := (47, [(0, .ref (ad 4)), (1, .ref (ad 2)), (2, .long v5_2), (4, .int v5_4)], [.int v5_4, .ref (ad 102), .int (xat σ 0 v5_4), .ref (ad 2), .long v5_2])) rfl ?_
        refine y_callV hS tq_X4_brightCells rfl (As := [.int v5_4]) rfl cv_X4_53 (hX.num (k := 1) (by decide)) (m_X5_at hS hX (k := 1) (by decide) v5_4) rfl (by decide) (Nat.le_of_ble_eq_true rfl) (fun r47 Gc47 q47 => ?_) (fun E9 G9 h9 => h9.elim)
        obtain ⟨rfl, eG47⟩ := q47
        have eG47 := eG47.symm
        subst eG47
        refine y_blk 0 tq_X4_brightCells (z := (50, [(0, .ref (ad 4)), (1, .ref (ad 2)), (2, .long v5_2), (4, .int v5_4)], [.int (xat σ 1 v5_4), .int (xat σ 0 v5_4), .ref (ad 2), .long v5_2])) rfl ?_
        refine y_callV hS tq_X4_brightCells rfl (As := [.int (xat σ 0 v5_4), .int (xat σ 1 v5_4)]) rfl cv_X4_56 (hX.1 2 _ rfl) (m_X1_viewOf hS hX (xat σ 0 v5_4) (xat σ 1 v5_4)) rfl (by decide) (Nat.le_of_ble_eq_true rfl) (fun r50 Gc50 q50 => ?_) (fun E9 G9 h9 => h9.elim)
        obtain ⟨⟨x50, rfl⟩, eG50⟩ := q50
        have eG50 := eG50.symm
        subst eG50
        refine y_blk 2 tq_X4_brightCells (z := (55, [(2, .long (v5_2 ||| x50)), (0, .ref (ad 4)), (1, .ref (ad 2)), (4, .int v5_4)], [])) rfl ?_
        refine y_pick (L2 := [(0, .ref (ad 4)), (1, .ref (ad 2)), (2, .long (v5_2 ||| x50)), (4, .int v5_4)]) [1, 2, 0, 3] rfl ?_
        exact J55 (v5_2 ||| x50) (by exact c14)
  refine y_blk 4 tq_X4_brightCells (z := (5, [(4, .int 0), (2, .long 0), (0, .ref (ad 4)), (1, .ref (ad 2))], [])) rfl ?_
  refine y_pick (L2 := [(0, .ref (ad 4)), (1, .ref (ad 2)), (2, .long 0), (4, .int 0)]) [2, 3, 1, 0] rfl ?_
  exact J5 _ 0 0 rfl
set_option maxHeartbeats 4000000 in
set_option maxRecDepth 100000 in
theorem m_X3_count {l : Launch} {S0 : State} {A0 : Array Value} {D : va_G} {aC : Nat → ClassId} {ad : Nat → Nat} {G : AH} {σ : XS} (hS : yS l S0 A0 D aC) (hX : atX aC ad G σ) : yM l S0 D yX3_count cX3_count 1 (some .int) 11 0 0 [.ref (ad 8)] G (fun r G1 => r = some (.int (σ.1 16)) ∧ G1 = G) (fun _ _ => False) := by
  refine yM.ofK K_X3_count rfl (by decide) (Nat.le_of_ble_eq_true rfl) ?_
  refine y_blk 1 tq_X3_count (z := (1, [(0, .ref (ad 8))], [.ref (ad 8)])) rfl ?_
  refine y_get hS tq_X3_count (v := .ref (ad 132)) rfl fg_X3_16_X3 (hX.1 8 _ rfl) rfl ?_
  refine y_blk 0 tq_X3_count (z := (4, [(0, .ref (ad 8))], [.ref (ad 132)])) rfl ?_
  refine y_callV hS tq_X3_count rfl (As := []) rfl cv_X3_35 (hX.num (k := 16) (by decide)) (m_X5_size hS hX (k := 16) (by decide) ) rfl (by decide) (Nat.le_of_ble_eq_true rfl) (fun r4 Gc4 q4 => ?_) (fun E9 G9 h9 => h9.elim)
  obtain ⟨rfl, eG4⟩ := q4
  have eG4 := eG4.symm
  subst eG4
  refine y_blk 0 tq_X3_count (z := (7, [(0, .ref (ad 8))], [.int (σ.1 16)])) rfl ?_
  exact y_iret tq_X3_count rfl rfl (⟨by first | rfl | (congr 2; (repeat' split) <;> first | rfl | (exfalso; simp only [ylt, yle, yeqI, yl_m1, yl_0, yl_1, yl_2, yl_3, yl_4, yl_5, yl_6, yl_7, yl_8, yl_9, yl_10, yl_11, yl_12, yl_15, yl_16, yl_20, yl_60, yl_64, yl_90, yl_97, yl_99, yl_100, yl_120, yl_239, yl_240] at *; omega)), rfl⟩)
set_option maxHeartbeats 4000000 in
set_option maxRecDepth 100000 in
theorem m_X3_isFull {l : Launch} {S0 : State} {A0 : Array Value} {D : va_G} {aC : Nat → ClassId} {ad : Nat → Nat} {G : AH} {σ : XS} (hS : yS l S0 A0 D aC) (hX : atX aC ad G σ) : yM l S0 D yX3_isFull cX3_isFull 1 (some .boolean) 11 0 0 [.ref (ad 8)] G (fun r G1 => r = some (.int (if (xcap 16 : Int) ≤ (σ.1 16).toInt then 1 else 0)) ∧ G1 = G) (fun _ _ => False) := by
  refine yM.ofK K_X3_isFull rfl (by decide) (Nat.le_of_ble_eq_true rfl) ?_
  refine y_blk 1 tq_X3_isFull (z := (1, [(0, .ref (ad 8))], [.ref (ad 8)])) rfl ?_
  refine y_get hS tq_X3_isFull (v := .ref (ad 132)) rfl fg_X3_16_X3 (hX.1 8 _ rfl) rfl ?_
  refine y_blk 0 tq_X3_isFull (z := (4, [(0, .ref (ad 8))], [.ref (ad 132)])) rfl ?_
  refine y_callV hS tq_X3_isFull rfl (As := []) rfl cv_X3_39 (hX.num (k := 16) (by decide)) (m_X5_isFull hS hX (k := 16) (by decide) ) rfl (by decide) (Nat.le_of_ble_eq_true rfl) (fun r4 Gc4 q4 => ?_) (fun E9 G9 h9 => h9.elim)
  obtain ⟨rfl, eG4⟩ := q4
  have eG4 := eG4.symm
  subst eG4
  refine y_blk 0 tq_X3_isFull (z := (7, [(0, .ref (ad 8))], [.int (if (xcap 16 : Int) ≤ (σ.1 16).toInt then 1 else 0)])) rfl ?_
  exact y_zret tq_X3_isFull rfl rfl (y01 (y01i _)) (⟨by first | rfl | (congr 2; (repeat' split) <;> first | rfl | (exfalso; simp only [ylt, yle, yeqI, yl_m1, yl_0, yl_1, yl_2, yl_3, yl_4, yl_5, yl_6, yl_7, yl_8, yl_9, yl_10, yl_11, yl_12, yl_15, yl_16, yl_20, yl_60, yl_64, yl_90, yl_97, yl_99, yl_100, yl_120, yl_239, yl_240] at *; omega)), rfl⟩)
set_option maxHeartbeats 4000000 in
set_option maxRecDepth 100000 in
theorem m_X3_forget {l : Launch} {S0 : State} {A0 : Array Value} {D : va_G} {aC : Nat → ClassId} {ad : Nat → Nat} {G : AH} {σ : XS} (hS : yS l S0 A0 D aC) (hX : atX aC ad G σ) : yM l S0 D yX3_forget cX3_forget 1 none 11 0 0 [.ref (ad 8)] G (fun r G1 => r = none ∧ atX aC ad G1 (xsz (xsz (xsz (xsz (xsz σ 16 0) 17 0) 18 0) 20 0) 21 0) ∧ keepX G G1) (fun _ _ => False) := by
  refine yM.ofK K_X3_forget rfl (by decide) (Nat.le_of_ble_eq_true rfl) ?_
  refine y_blk 1 tq_X3_forget (z := (1, [(0, .ref (ad 8))], [.ref (ad 8)])) rfl ?_
  refine y_get hS tq_X3_forget (v := .ref (ad 132)) rfl fg_X3_16_X3 (hX.1 8 _ rfl) rfl ?_
  refine y_blk 0 tq_X3_forget (z := (4, [(0, .ref (ad 8))], [.ref (ad 132)])) rfl ?_
  refine y_callV hS tq_X3_forget rfl (As := []) rfl cv_X3_43 (hX.num (k := 16) (by decide)) (m_X5_clear hS hX (k := 16) (by decide) ) rfl (by decide) (Nat.le_of_ble_eq_true rfl) (fun r4 Gc4 q4 => ?_) (fun E9 G9 h9 => h9.elim)
  obtain ⟨rfl, hXc4, hFc4⟩ := q4
  refine y_blk 1 tq_X3_forget (z := (8, [(0, .ref (ad 8))], [.ref (ad 8)])) rfl ?_
  refine y_get hS tq_X3_forget (v := .ref (ad 134)) rfl fg_X3_20_X3 (hXc4.1 8 _ rfl) rfl ?_
  refine y_blk 0 tq_X3_forget (z := (11, [(0, .ref (ad 8))], [.ref (ad 134)])) rfl ?_
  refine y_callV hS tq_X3_forget rfl (As := []) rfl cv_X3_43 (hXc4.num (k := 17) (by decide)) (m_X5_clear hS hXc4 (k := 17) (by decide) ) rfl (by decide) (Nat.le_of_ble_eq_true rfl) (fun r11 Gc11 q11 => ?_) (fun E9 G9 h9 => h9.elim)
  obtain ⟨rfl, hXc11, hFc11⟩ := q11
  refine y_blk 1 tq_X3_forget (z := (15, [(0, .ref (ad 8))], [.ref (ad 8)])) rfl ?_
  refine y_get hS tq_X3_forget (v := .ref (ad 136)) rfl fg_X3_23_X3 (hXc11.1 8 _ rfl) rfl ?_
  refine y_blk 0 tq_X3_forget (z := (18, [(0, .ref (ad 8))], [.ref (ad 136)])) rfl ?_
  refine y_callV hS tq_X3_forget rfl (As := []) rfl cv_X3_43 (hXc11.num (k := 18) (by decide)) (m_X5_clear hS hXc11 (k := 18) (by decide) ) rfl (by decide) (Nat.le_of_ble_eq_true rfl) (fun r18 Gc18 q18 => ?_) (fun E9 G9 h9 => h9.elim)
  obtain ⟨rfl, hXc18, hFc18⟩ := q18
  refine y_blk 1 tq_X3_forget (z := (22, [(0, .ref (ad 8))], [.ref (ad 8)])) rfl ?_
  refine y_get hS tq_X3_forget (v := .ref (ad 140)) rfl fg_X3_29_X3 (hXc18.1 8 _ rfl) rfl ?_
  refine y_blk 0 tq_X3_forget (z := (25, [(0, .ref (ad 8))], [.ref (ad 140)])) rfl ?_
  refine y_callV hS tq_X3_forget rfl (As := []) rfl cv_X3_43 (hXc18.num (k := 20) (by decide)) (m_X5_clear hS hXc18 (k := 20) (by decide) ) rfl (by decide) (Nat.le_of_ble_eq_true rfl) (fun r25 Gc25 q25 => ?_) (fun E9 G9 h9 => h9.elim)
  obtain ⟨rfl, hXc25, hFc25⟩ := q25
  refine y_blk 1 tq_X3_forget (z := (29, [(0, .ref (ad 8))], [.ref (ad 8)])) rfl ?_
  refine y_get hS tq_X3_forget (v := .ref (ad 142)) rfl fg_X3_32_X3 (hXc25.1 8 _ rfl) rfl ?_
  refine y_blk 0 tq_X3_forget (z := (32, [(0, .ref (ad 8))], [.ref (ad 142)])) rfl ?_
  refine y_callV hS tq_X3_forget rfl (As := []) rfl cv_X3_43 (hXc25.num (k := 21) (by decide)) (m_X5_clear hS hXc25 (k := 21) (by decide) ) rfl (by decide) (Nat.le_of_ble_eq_true rfl) (fun r32 Gc32 q32 => ?_) (fun E9 G9 h9 => h9.elim)
  obtain ⟨rfl, hXc32, hFc32⟩ := q32
  refine y_blk 0 tq_X3_forget (z := (35, [(0, .ref (ad 8))], [])) rfl ?_
  exact y_vret tq_X3_forget rfl rfl (⟨rfl, hXc32, (((((keepX.rfl'.trans hFc4).trans hFc11).trans hFc18).trans hFc25).trans hFc32)⟩)
set_option maxHeartbeats 4000000 in
set_option maxRecDepth 100000 in
theorem m_X3_countDigits {l : Launch} {S0 : State} {A0 : Array Value} {D : va_G} {aC : Nat → ClassId} {G : AH} (hS : yS l S0 A0 D aC) (moves : Int32) : yM l S0 D yX3_countDigits cX3_countDigits 3 (some .int) 10 0 0 [.int moves] G (fun r G1 => r = some (.int (Int32.ofNat (ndg moves.toInt.toNat))) ∧ G1 = G) (fun _ _ => False) := by
  refine yM.ofK K_X3_countDigits rfl (by decide) (Nat.le_of_ble_eq_true rfl) ?_
  have J4 : ∀ (n4 : Nat) (v4_1 : Int32) (v4_2 : Int32) (hd4 : xdc moves v4_1 v4_2), v4_2.toInt.toNat = n4 → Y l S0 D K_X3_countDigits 10 0 0 (fun r G1 => r = some (.int (Int32.ofNat (ndg moves.toInt.toNat))) ∧ G1 = G) (fun _ _ => False) 4 [(0, .int moves), (1, .int v4_1), (2, .int v4_2)] [] G 0 0 := by
    intro n4
    induction n4 using Nat.strongRecOn with
    | _ n4 ih4 =>
    intro v4_1 v4_2 hd4 hn4
    subst hn4
    refine y_blk 1 tq_X3_countDigits (z := (5, [(0, .int moves), (1, .int v4_1), (2, .int v4_2)], [.int v4_2])) rfl ?_
    refine y_if_le tq_X3_countDigits 18 rfl rfl (fun c5 => ?_) (fun c5 => ?_)
    · skip
      refine y_blk 1 tq_X3_countDigits (z := (19, [(0, .int moves), (1, .int v4_1), (2, .int v4_2)], [.int v4_1])) rfl ?_
      exact y_iret tq_X3_countDigits rfl rfl (⟨congrArg (fun z => some (Value.int z)) (hd4.stop (xpn c5)), rfl⟩)
    · skip
      refine y_blk 3 tq_X3_countDigits (z := (13, [(1, .int (v4_1 + 1)), (0, .int moves), (2, .int v4_2)], [.int 5, .int v4_2])) rfl ?_
      refine y_idiv tq_X3_countDigits rfl (by decide) ?_
      refine y_blk 2 tq_X3_countDigits (z := (4, [(2, .int (v4_2 / 5)), (1, .int (v4_1 + 1)), (0, .int moves)], [])) rfl ?_
      refine y_pick (L2 := [(0, .int moves), (1, .int (v4_1 + 1)), (2, .int (v4_2 / 5))]) [2, 1, 0] rfl ?_
      exact ih4 _ (by exact ydiv5 c5) (v4_1 + 1) (v4_2 / 5) (by first | exact hd4.step (xps c5) | exact xdc.init) rfl
  refine y_blk 4 tq_X3_countDigits (z := (4, [(2, .int moves), (1, .int 0), (0, .int moves)], [])) rfl ?_
  refine y_pick (L2 := [(0, .int moves), (1, .int 0), (2, .int moves)]) [2, 1, 0] rfl ?_
  exact J4 _ 0 moves (by first | exact hd4.step (xps c5) | exact xdc.init) rfl
set_option maxHeartbeats 4000000 in
set_option maxRecDepth 100000 in
theorem m_X3_powerOfLeadingDigit {l : Launch} {S0 : State} {A0 : Array Value} {D : va_G} {aC : Nat → ClassId} {G : AH} (hS : yS l S0 A0 D aC) (moves : Int32) (hmv : 0 ≤ moves.toInt) : yM l S0 D yX3_powerOfLeadingDigit cX3_powerOfLeadingDigit 3 (some .int) 10 0 0 [.int moves] G (fun r G1 => (∃ v : Int32, v.toInt = (xpl moves.toInt.toNat : Int) ∧ r = some (.int v)) ∧ G1 = G) (fun _ _ => False) := by
  refine yM.ofK K_X3_powerOfLeadingDigit rfl (by decide) (Nat.le_of_ble_eq_true rfl) ?_
  have J14 : ∀ (n14 : Nat) (v14_1 : Int32) (v14_2 : Int32) (hp14 : xpq moves v14_1 v14_2), v14_2.toInt.toNat = n14 → Y l S0 D K_X3_powerOfLeadingDigit 10 0 0 (fun r G1 => (∃ v : Int32, v.toInt = (xpl moves.toInt.toNat : Int) ∧ r = some (.int v)) ∧ G1 = G) (fun _ _ => False) 14 [(0, .int moves), (1, .int v14_1), (2, .int v14_2)] [] G 0 0 := by
    intro n14
    induction n14 using Nat.strongRecOn with
    | _ n14 ih14 =>
    intro v14_1 v14_2 hp14 hn14
    subst hn14
    refine y_blk 1 tq_X3_powerOfLeadingDigit (z := (15, [(0, .int moves), (1, .int v14_1), (2, .int v14_2)], [.int v14_2])) rfl ?_
    refine y_if_le tq_X3_powerOfLeadingDigit 29 rfl rfl (fun c15 => ?_) (fun c15 => ?_)
    · skip
      refine y_blk 1 tq_X3_powerOfLeadingDigit (z := (30, [(0, .int moves), (1, .int v14_1), (2, .int v14_2)], [.int v14_1])) rfl ?_
      exact y_iret tq_X3_powerOfLeadingDigit rfl rfl (⟨⟨_, hp14.stop hmv (xpn c15), rfl⟩, rfl⟩)
    · skip
      refine y_blk 6 tq_X3_powerOfLeadingDigit (z := (24, [(1, .int (v14_1 * 5)), (0, .int moves), (2, .int v14_2)], [.int 5, .int v14_2])) rfl ?_
      refine y_idiv tq_X3_powerOfLeadingDigit rfl (by decide) ?_
      refine y_blk 2 tq_X3_powerOfLeadingDigit (z := (14, [(2, .int (v14_2 / 5)), (1, .int (v14_1 * 5)), (0, .int moves)], [])) rfl ?_
      refine y_pick (L2 := [(0, .int moves), (1, .int (v14_1 * 5)), (2, .int (v14_2 / 5))]) [2, 1, 0] rfl ?_
      exact ih14 _ (by exact ydiv5 c15) (v14_1 * 5) (v14_2 / 5) (by first | exact hp14.step hmv (xps c15) | exact xpq.init hmv hw9) rfl
  have J9 : ∀ (w9_0 : Int32) (hb_w9_0 : w9_0 = 0 ∨ w9_0 = 1) (hw9 : w9_0 = if 0 < moves.toInt then 1 else 0), Y l S0 D K_X3_powerOfLeadingDigit 10 0 0 (fun r G1 => (∃ v : Int32, v.toInt = (xpl moves.toInt.toNat : Int) ∧ r = some (.int v)) ∧ G1 = G) (fun _ _ => False) 9 [(0, .int moves)] [.int w9_0] G 0 0 := by
    intro w9_0 hb_w9_0 hw9
    refine y_blk 3 tq_X3_powerOfLeadingDigit (z := (12, [(1, .int w9_0), (0, .int moves)], [.int 5, .int moves])) rfl ?_
    refine y_idiv tq_X3_powerOfLeadingDigit rfl (by decide) ?_
    refine y_blk 1 tq_X3_powerOfLeadingDigit (z := (14, [(2, .int (moves / 5)), (1, .int w9_0), (0, .int moves)], [])) rfl ?_
    refine y_pick (L2 := [(0, .int moves), (1, .int w9_0), (2, .int (moves / 5))]) [2, 1, 0] rfl ?_
    exact J14 _ w9_0 (moves / 5) (by first | exact hp14.step hmv (xps c15) | exact xpq.init hmv hw9) rfl
  refine y_blk 1 tq_X3_powerOfLeadingDigit (z := (1, [(0, .int moves)], [.int moves])) rfl ?_
  refine y_if_le tq_X3_powerOfLeadingDigit 8 rfl rfl (fun c1 => ?_) (fun c1 => ?_)
  · skip
    refine y_blk 1 tq_X3_powerOfLeadingDigit (z := (9, [(0, .int moves)], [.int 0])) rfl ?_
    exact J9 0 (Or.inl rfl) (by first | exact (if_pos (by simp only [yif0, Classical.not_not, ylt, yle, yl_0] at *; omega)).symm | exact (if_neg (by simp only [yif0, Classical.not_not, ylt, yle, yl_0] at *; omega)).symm)
  · skip
    refine y_blk 2 tq_X3_powerOfLeadingDigit (z := (9, [(0, .int moves)], [.int 1])) rfl ?_
    exact J9 1 (Or.inr rfl) (by first | exact (if_pos (by simp only [yif0, Classical.not_not, ylt, yle, yl_0] at *; omega)).symm | exact (if_neg (by simp only [yif0, Classical.not_not, ylt, yle, yl_0] at *; omega)).symm)
set_option maxHeartbeats 4000000 in
set_option maxRecDepth 100000 in
theorem m_X3_walk {l : Launch} {S0 : State} {A0 : Array Value} {D : va_G} {aC : Nat → ClassId} {ad : Nat → Nat} {G : AH} {σ : XS} (hS : yS l S0 A0 D aC) (hX : atX aC ad G σ) (cell : Int32) (minute : Int32) (moves : Int32) (hm : 0 ≤ minute.toInt) (hm2 : minute.toInt ≤ 239) (hmv : 0 ≤ moves.toInt) (hs3 : 0 ≤ (σ.1 16).toInt ∧ (σ.1 16).toInt ≤ 3) : yM l S0 D yX3_walk cX3_walk 9 (some .int) 13 0 0 [.ref (ad 8), .ref (ad 2), .int cell, .int minute, .int moves] G (fun r G1 => (∃ v : Int32, v.toInt ≤ 1000 ∧ r = some (.int v)) ∧ ∃ σ1 : XS, atX aC ad G1 σ1 ∧ keepX G G1 ∧ xfr [43] σ σ1 ∧ xwrR σ σ1 cell minute moves r) (fun _ _ => False) := by
  refine yM.ofK K_X3_walk rfl (by decide) (Nat.le_of_ble_eq_true rfl) ?_
  have J125 : ∀ (v125_5 : Int32) (v125_6 : Int32) (v125_7 : Int32) (v125_8 : Int32) (w125_0 : Int32) (G125 : AH) (s125 : XS) (hX125 : atX aC ad G125 s125) (hF125 : keepX G G125) (kn125 : xfr [43] σ s125) (hjr : w125_0.toInt ≤ 1000) (hr125 : xwrR σ s125 cell minute moves (some (.int w125_0))), Y l S0 D K_X3_walk 13 0 0 (fun r G1 => (∃ v : Int32, v.toInt ≤ 1000 ∧ r = some (.int v)) ∧ ∃ σ1 : XS, atX aC ad G1 σ1 ∧ keepX G G1 ∧ xfr [43] σ σ1 ∧ xwrR σ σ1 cell minute moves r) (fun _ _ => False) 125 [(0, .ref (ad 8)), (1, .ref (ad 2)), (2, .int cell), (3, .int minute), (4, .int moves), (5, .int v125_5), (6, .int v125_6), (7, .int v125_7), (8, .int v125_8)] [.int w125_0] G125 0 0 := by
    intro v125_5 v125_6 v125_7 v125_8 w125_0 G125 s125 hX125 hF125 kn125 hjr hr125
    exact y_iret tq_X3_walk rfl rfl (⟨⟨_, hjr, rfl⟩, _, hX125, hF125, (kn125).w, hr125⟩)
  have J119 : ∀ (v119_5 : Int32) (v119_6 : Int32) (v119_7 : Int32) (v119_8 : Int32) (G119 : AH) (s119 : XS) (hX119 : atX aC ad G119 s119) (hF119 : keepX G G119) (kn119 : xfr [43] σ s119) (hr119 : xwrR σ s119 cell minute moves (some (.int (-1)))), Y l S0 D K_X3_walk 13 0 0 (fun r G1 => (∃ v : Int32, v.toInt ≤ 1000 ∧ r = some (.int v)) ∧ ∃ σ1 : XS, atX aC ad G1 σ1 ∧ keepX G G1 ∧ xfr [43] σ σ1 ∧ xwrR σ σ1 cell minute moves r) (fun _ _ => False) 119 [(0, .ref (ad 8)), (1, .ref (ad 2)), (2, .int cell), (3, .int minute), (4, .int moves), (5, .int v119_5), (6, .int v119_6), (7, .int v119_7), (8, .int v119_8)] [] G119 0 0 := by
    intro v119_5 v119_6 v119_7 v119_8 G119 s119 hX119 hF119 kn119 hr119
    refine y_blk 2 tq_X3_walk (z := (125, [(0, .ref (ad 8)), (1, .ref (ad 2)), (2, .int cell), (3, .int minute), (4, .int moves), (5, .int v119_5), (6, .int v119_6), (7, .int v119_7), (8, .int v119_8)], [.int (-1)])) rfl ?_
    exact J125 v119_5 v119_6 v119_7 v119_8 (-1) G119 s119 hX119 hF119 ((kn119).w) (by first | decide | omega) (by first | exact hr119 | exact hw104.good kn104 c107 ((yif0 _).mp c116) (hg104 c107 ((yif0 _).mp c116)))
  have J104 : ∀ (v104_5 : Int32) (v104_6 : Int32) (v104_7 : Int32) (v104_8 : Int32) (G104 : AH) (s104 : XS) (hX104 : atX aC ad G104 s104) (hF104 : keepX G G104) (kn104 : xfr [43] σ s104) (hmany : 0 ≤ v104_7.toInt ∧ v104_7.toInt ≤ 300) (hw104 : xwkE σ s104 cell minute moves v104_6 v104_7 v104_8) (hg104 : ¬ v104_6 = -1 → ¬ xis (s104.2.2.2.1 2) v104_6 → 239 ≤ minute.toInt + v104_7.toInt ∨ v104_8.toInt ≤ 0), Y l S0 D K_X3_walk 13 0 0 (fun r G1 => (∃ v : Int32, v.toInt ≤ 1000 ∧ r = some (.int v)) ∧ ∃ σ1 : XS, atX aC ad G1 σ1 ∧ keepX G G1 ∧ xfr [43] σ σ1 ∧ xwrR σ σ1 cell minute moves r) (fun _ _ => False) 104 [(0, .ref (ad 8)), (1, .ref (ad 2)), (2, .int cell), (3, .int minute), (4, .int moves), (5, .int v104_5), (6, .int v104_6), (7, .int v104_7), (8, .int v104_8)] [] G104 0 0 := by
    intro v104_5 v104_6 v104_7 v104_8 G104 s104 hX104 hF104 kn104 hmany hw104 hg104
    refine y_blk 2 tq_X3_walk (z := (107, [(0, .ref (ad 8)), (1, .ref (ad 2)), (2, .int cell), (3, .int minute), (4, .int moves), (5, .int v104_5), (6, .int v104_6), (7, .int v104_7), (8, .int v104_8)], [.int (-1), .int v104_6])) rfl ?_
    refine y_icmp_eq tq_X3_walk 119 rfl rfl (fun c107 => ?_) (fun c107 => ?_)
    · skip
      refine y_blk 0 tq_X3_walk (z := (119, [(0, .ref (ad 8)), (1, .ref (ad 2)), (2, .int cell), (3, .int minute), (4, .int moves), (5, .int v104_5), (6, .int v104_6), (7, .int v104_7), (8, .int v104_8)], [])) rfl ?_
      exact J119 v104_5 v104_6 v104_7 v104_8 G104 s104 hX104 hF104 ((kn104).w) (by first | exact hw104.bad kn104 (Or.inl c107) | exact hw104.bad kn104 (Or.inr (Classical.not_not.mp (fun q => c116 ((yif0 _).mpr q)))))
    · skip
      refine y_blk 2 tq_X3_walk (z := (113, [(0, .ref (ad 8)), (1, .ref (ad 2)), (2, .int cell), (3, .int minute), (4, .int moves), (5, .int v104_5), (6, .int v104_6), (7, .int v104_7), (8, .int v104_8)], [.int v104_6, .ref (ad 2)])) rfl ?_
      refine y_callV hS tq_X3_walk rfl (As := [.int v104_6]) rfl cv_X3_67 (hX104.1 2 _ rfl) (m_X1_isWall hS hX104 v104_6) rfl (by decide) (Nat.le_of_ble_eq_true rfl) (fun r113 Gc113 q113 => ?_) (fun E9 G9 h9 => h9.elim)
      obtain ⟨rfl, eG113⟩ := q113
      have eG113 := eG113.symm
      subst eG113
      refine y_blk 0 tq_X3_walk (z := (116, [(0, .ref (ad 8)), (1, .ref (ad 2)), (2, .int cell), (3, .int minute), (4, .int moves), (5, .int v104_5), (6, .int v104_6), (7, .int v104_7), (8, .int v104_8)], [.int (if xis (s104.2.2.2.1 2) v104_6 then 1 else 0)])) rfl ?_
      refine y_if_eq tq_X3_walk 123 rfl rfl (fun c116 => ?_) (fun c116 => ?_)
      · skip
        refine y_blk 1 tq_X3_walk (z := (125, [(0, .ref (ad 8)), (1, .ref (ad 2)), (2, .int cell), (3, .int minute), (4, .int moves), (5, .int v104_5), (6, .int v104_6), (7, .int v104_7), (8, .int v104_8)], [.int v104_7])) rfl ?_
        exact J125 v104_5 v104_6 v104_7 v104_8 v104_7 G104 s104 hX104 hF104 ((kn104).w) (by first | decide | omega) (by first | exact hr119 | exact hw104.good kn104 c107 ((yif0 _).mp c116) (hg104 c107 ((yif0 _).mp c116)))
      · skip
        refine y_blk 0 tq_X3_walk (z := (119, [(0, .ref (ad 8)), (1, .ref (ad 2)), (2, .int cell), (3, .int minute), (4, .int moves), (5, .int v104_5), (6, .int v104_6), (7, .int v104_7), (8, .int v104_8)], [])) rfl ?_
        exact J119 v104_5 v104_6 v104_7 v104_8 G104 s104 hX104 hF104 ((kn104).w) (by first | exact hw104.bad kn104 (Or.inl c107) | exact hw104.bad kn104 (Or.inr (Classical.not_not.mp (fun q => c116 ((yif0 _).mpr q)))))
  have J33 : ∀ (n33 : Nat) (v33_5 : Int32) (v33_6 : Int32) (v33_7 : Int32) (v33_8 : Int32) (G33 : AH) (s33 : XS) (hX33 : atX aC ad G33 s33) (hF33 : keepX G G33) (kn33 : xfr [43] σ s33) (hmany : 0 ≤ v33_7.toInt ∧ v33_7.toInt ≤ 300) (hst33 : v33_5 = (σ.1 16) * 15) (hw33 : xwkE σ s33 cell minute moves v33_6 v33_7 v33_8), v33_8.toInt.toNat = n33 → Y l S0 D K_X3_walk 13 0 0 (fun r G1 => (∃ v : Int32, v.toInt ≤ 1000 ∧ r = some (.int v)) ∧ ∃ σ1 : XS, atX aC ad G1 σ1 ∧ keepX G G1 ∧ xfr [43] σ σ1 ∧ xwrR σ σ1 cell minute moves r) (fun _ _ => False) 33 [(0, .ref (ad 8)), (1, .ref (ad 2)), (2, .int cell), (3, .int minute), (4, .int moves), (5, .int v33_5), (6, .int v33_6), (7, .int v33_7), (8, .int v33_8)] [] G33 0 0 := by
    intro n33
    induction n33 using Nat.strongRecOn with
    | _ n33 ih33 =>
    intro v33_5 v33_6 v33_7 v33_8 G33 s33 hX33 hF33 kn33 hmany hst33 hw33 hn33
    subst hn33
    have e9 : (minute + v33_7).toInt = minute.toInt + v33_7.toInt := yadd (by omega) (by omega)
    have e8 : (v33_7 + 1).toInt = v33_7.toInt + 1 := by rw [yadd (by rw [yl_1]; omega) (by rw [yl_1]; omega), yl_1]
    refine y_blk 1 tq_X3_walk (z := (35, [(0, .ref (ad 8)), (1, .ref (ad 2)), (2, .int cell), (3, .int minute), (4, .int moves), (5, .int v33_5), (6, .int v33_6), (7, .int v33_7), (8, .int v33_8)], [.int v33_8])) rfl ?_
    refine y_if_le tq_X3_walk 104 rfl rfl (fun c35 => ?_) (fun c35 => ?_)
    · skip
      refine y_blk 0 tq_X3_walk (z := (104, [(0, .ref (ad 8)), (1, .ref (ad 2)), (2, .int cell), (3, .int minute), (4, .int moves), (5, .int v33_5), (6, .int v33_6), (7, .int v33_7), (8, .int v33_8)], [])) rfl ?_
      exact J104 v33_5 v33_6 v33_7 v33_8 G33 s33 hX33 hF33 ((kn33).w) (by assumption) (by assumption) (by first | exact fun _ _ => Or.inr (xpn c35) | exact fun _ _ => Or.inl (by rw [yle, e9, yl_239] at c45; omega) | exact fun q _ => absurd c51 q | exact fun _ q => absurd ((yif0 _).mpr q) c60)
    · skip
      refine y_blk 4 tq_X3_walk (z := (45, [(0, .ref (ad 8)), (1, .ref (ad 2)), (2, .int cell), (3, .int minute), (4, .int moves), (5, .int v33_5), (6, .int v33_6), (7, .int v33_7), (8, .int v33_8)], [.int 239, .int (minute + v33_7)])) rfl ?_
      refine y_icmp_ge tq_X3_walk 104 rfl rfl (fun c45 => ?_) (fun c45 => ?_)
      · skip
        refine y_blk 0 tq_X3_walk (z := (104, [(0, .ref (ad 8)), (1, .ref (ad 2)), (2, .int cell), (3, .int minute), (4, .int moves), (5, .int v33_5), (6, .int v33_6), (7, .int v33_7), (8, .int v33_8)], [])) rfl ?_
        exact J104 v33_5 v33_6 v33_7 v33_8 G33 s33 hX33 hF33 ((kn33).w) (by assumption) (by assumption) (by first | exact fun _ _ => Or.inr (xpn c35) | exact fun _ _ => Or.inl (by rw [yle, e9, yl_239] at c45; omega) | exact fun q _ => absurd c51 q | exact fun _ q => absurd ((yif0 _).mpr q) c60)
      · skip
        refine y_blk 2 tq_X3_walk (z := (51, [(0, .ref (ad 8)), (1, .ref (ad 2)), (2, .int cell), (3, .int minute), (4, .int moves), (5, .int v33_5), (6, .int v33_6), (7, .int v33_7), (8, .int v33_8)], [.int (-1), .int v33_6])) rfl ?_
        refine y_icmp_eq tq_X3_walk 104 rfl rfl (fun c51 => ?_) (fun c51 => ?_)
        · skip
          refine y_blk 0 tq_X3_walk (z := (104, [(0, .ref (ad 8)), (1, .ref (ad 2)), (2, .int cell), (3, .int minute), (4, .int moves), (5, .int v33_5), (6, .int v33_6), (7, .int v33_7), (8, .int v33_8)], [])) rfl ?_
          exact J104 v33_5 v33_6 v33_7 v33_8 G33 s33 hX33 hF33 ((kn33).w) (by assumption) (by assumption) (by first | exact fun _ _ => Or.inr (xpn c35) | exact fun _ _ => Or.inl (by rw [yle, e9, yl_239] at c45; omega) | exact fun q _ => absurd c51 q | exact fun _ q => absurd ((yif0 _).mpr q) c60)
        · skip
          refine y_blk 2 tq_X3_walk (z := (57, [(0, .ref (ad 8)), (1, .ref (ad 2)), (2, .int cell), (3, .int minute), (4, .int moves), (5, .int v33_5), (6, .int v33_6), (7, .int v33_7), (8, .int v33_8)], [.int v33_6, .ref (ad 2)])) rfl ?_
          refine y_callV hS tq_X3_walk rfl (As := [.int v33_6]) rfl cv_X3_67 (hX33.1 2 _ rfl) (m_X1_isWall hS hX33 v33_6) rfl (by decide) (Nat.le_of_ble_eq_true rfl) (fun r57 Gc57 q57 => ?_) (fun E9 G9 h9 => h9.elim)
          obtain ⟨rfl, eG57⟩ := q57
          have eG57 := eG57.symm
          subst eG57
          refine y_blk 0 tq_X3_walk (z := (60, [(0, .ref (ad 8)), (1, .ref (ad 2)), (2, .int cell), (3, .int minute), (4, .int moves), (5, .int v33_5), (6, .int v33_6), (7, .int v33_7), (8, .int v33_8)], [.int (if xis (s33.2.2.2.1 2) v33_6 then 1 else 0)])) rfl ?_
          refine y_if_ne tq_X3_walk 104 rfl rfl (fun c60 => ?_) (fun c60 => ?_)
          · skip
            refine y_blk 0 tq_X3_walk (z := (104, [(0, .ref (ad 8)), (1, .ref (ad 2)), (2, .int cell), (3, .int minute), (4, .int moves), (5, .int v33_5), (6, .int v33_6), (7, .int v33_7), (8, .int v33_8)], [])) rfl ?_
            exact J104 v33_5 v33_6 v33_7 v33_8 G33 s33 hX33 hF33 ((kn33).w) (by assumption) (by assumption) (by first | exact fun _ _ => Or.inr (xpn c35) | exact fun _ _ => Or.inl (by rw [yle, e9, yl_239] at c45; omega) | exact fun q _ => absurd c51 q | exact fun _ q => absurd ((yif0 _).mpr q) c60)
          · skip
            refine y_blk 4 tq_X3_walk (z := (70, [(0, .ref (ad 8)), (1, .ref (ad 2)), (2, .int cell), (3, .int minute), (4, .int moves), (5, .int v33_5), (6, .int v33_6), (7, .int v33_7), (8, .int v33_8)], [.int v33_8, .int moves, .int v33_6, .ref (ad 2)])) rfl ?_
            refine y_idiv tq_X3_walk rfl (by intro q; rw [q] at c35; exact c35 (by decide)) ?_
            refine y_blk 1 tq_X3_walk (z := (72, [(0, .ref (ad 8)), (1, .ref (ad 2)), (2, .int cell), (3, .int minute), (4, .int moves), (5, .int v33_5), (6, .int v33_6), (7, .int v33_7), (8, .int v33_8)], [.int 5, .int (moves / v33_8), .int v33_6, .ref (ad 2)])) rfl ?_
            refine y_irem tq_X3_walk rfl (by decide) ?_
            refine y_blk 0 tq_X3_walk (z := (73, [(0, .ref (ad 8)), (1, .ref (ad 2)), (2, .int cell), (3, .int minute), (4, .int moves), (5, .int v33_5), (6, .int v33_6), (7, .int v33_7), (8, .int v33_8)], [.int ((moves / v33_8) - (moves / v33_8) / 5 * 5), .int v33_6, .ref (ad 2)])) rfl ?_
            refine y_callV hS tq_X3_walk rfl (As := [.int v33_6, .int ((moves / v33_8) - (moves / v33_8) / 5 * 5)]) rfl cv_X3_73 (hX33.1 2 _ rfl) (m_X1_cellBehind hS hX33 v33_6 ((moves / v33_8) - (moves / v33_8) / 5 * 5)) rfl (by decide) (Nat.le_of_ble_eq_true rfl) (fun r73 Gc73 q73 => ?_) (fun E9 G9 h9 => h9.elim)
            obtain ⟨rfl, eG73⟩ := q73
            have eG73 := eG73.symm
            subst eG73
            refine y_blk 3 tq_X3_walk (z := (82, [(7, .int (v33_7 + 1)), (6, .int (xbeh (s33.2.2.1 0) (s33.2.2.1 1) v33_6 ((moves / v33_8) - (moves / v33_8) / 5 * 5))), (0, .ref (ad 8)), (1, .ref (ad 2)), (2, .int cell), (3, .int minute), (4, .int moves), (5, .int v33_5), (8, .int v33_8)], [.ref (ad 8)])) rfl ?_
            refine y_get hS tq_X3_walk (v := .ref (ad 138)) rfl fg_X3_26_X3 (hX33.1 8 _ rfl) rfl ?_
            refine y_blk 4 tq_X3_walk (z := (92, [(7, .int (v33_7 + 1)), (6, .int (xbeh (s33.2.2.1 0) (s33.2.2.1 1) v33_6 ((moves / v33_8) - (moves / v33_8) / 5 * 5))), (0, .ref (ad 8)), (1, .ref (ad 2)), (2, .int cell), (3, .int minute), (4, .int moves), (5, .int v33_5), (8, .int v33_8)], [.int (xbeh (s33.2.2.1 0) (s33.2.2.1 1) v33_6 ((moves / v33_8) - (moves / v33_8) / 5 * 5)), .int (v33_5 + (v33_7 + 1)), .ref (ad 138)])) rfl ?_
            refine y_callV hS tq_X3_walk rfl (As := [.int (v33_5 + (v33_7 + 1)), .int (xbeh (s33.2.2.1 0) (s33.2.2.1 1) v33_6 ((moves / v33_8) - (moves / v33_8) / 5 * 5))]) rfl cv_X3_63 (hX33.num (k := 19) (by decide)) (m_X5_put hS hX33 (k := 19) (by decide) (v33_5 + (v33_7 + 1)) (xbeh (s33.2.2.1 0) (s33.2.2.1 1) v33_6 ((moves / v33_8) - (moves / v33_8) / 5 * 5)) (fun q => absurd q (by decide))) rfl (by decide) (Nat.le_of_ble_eq_true rfl) (fun r92 Gc92 q92 => ?_) (fun E9 G9 h9 => h9.elim)
            obtain ⟨rfl, hXc92, hFc92⟩ := q92
            refine y_blk 2 tq_X3_walk (z := (98, [(7, .int (v33_7 + 1)), (6, .int (xbeh (s33.2.2.1 0) (s33.2.2.1 1) v33_6 ((moves / v33_8) - (moves / v33_8) / 5 * 5))), (0, .ref (ad 8)), (1, .ref (ad 2)), (2, .int cell), (3, .int minute), (4, .int moves), (5, .int v33_5), (8, .int v33_8)], [.int 5, .int v33_8])) rfl ?_
            refine y_idiv tq_X3_walk rfl (by decide) ?_
            refine y_blk 2 tq_X3_walk (z := (33, [(8, .int (v33_8 / 5)), (7, .int (v33_7 + 1)), (6, .int (xbeh (s33.2.2.1 0) (s33.2.2.1 1) v33_6 ((moves / v33_8) - (moves / v33_8) / 5 * 5))), (0, .ref (ad 8)), (1, .ref (ad 2)), (2, .int cell), (3, .int minute), (4, .int moves), (5, .int v33_5)], [])) rfl ?_
            refine y_pick (L2 := [(0, .ref (ad 8)), (1, .ref (ad 2)), (2, .int cell), (3, .int minute), (4, .int moves), (5, .int v33_5), (6, .int (xbeh (s33.2.2.1 0) (s33.2.2.1 1) v33_6 ((moves / v33_8) - (moves / v33_8) / 5 * 5))), (7, .int (v33_7 + 1)), (8, .int (v33_8 / 5))]) [3, 4, 5, 6, 7, 8, 2, 1, 0] rfl ?_
            exact ih33 _ (by exact ydiv5 c35) v33_5 (xbeh (s33.2.2.1 0) (s33.2.2.1 1) v33_6 ((moves / v33_8) - (moves / v33_8) / 5 * 5)) (v33_7 + 1) (v33_8 / 5) Gc92 (xput s33 19 (v33_5 + (v33_7 + 1)) (xbeh (s33.2.2.1 0) (s33.2.2.1 1) v33_6 ((moves / v33_8) - (moves / v33_8) / 5 * 5))) hXc92 (hF33.trans hFc92) (((xkn.trans kn33 xkn_put)).w) (by first | assumption | decide | (rw [yle, e9, yl_239] at c45; omega)) (by first | assumption | rfl) (by first | exact hw33.step kn33 hs3 hst33 hm hm2 c35 c45 c51 c60 rfl | exact xwkE.init hs3 hm2 hr_x17) rfl
  refine y_blk 1 tq_X3_walk (z := (1, [(0, .ref (ad 8)), (1, .ref (ad 2)), (2, .int cell), (3, .int minute), (4, .int moves)], [.ref (ad 8)])) rfl ?_
  refine y_callV hS tq_X3_walk rfl (As := []) rfl cv_X3_57 (hX.1 8 _ rfl) (m_X3_count hS hX ) rfl (by decide) (Nat.le_of_ble_eq_true rfl) (fun r1 Gc1 q1 => ?_) (fun E9 G9 h9 => h9.elim)
  obtain ⟨rfl, eG1⟩ := q1
  have eG1 := eG1.symm
  subst eG1
  refine y_blk 8 tq_X3_walk (z := (17, [(7, .int 0), (6, .int cell), (5, .int ((σ.1 16) * 15)), (0, .ref (ad 8)), (1, .ref (ad 2)), (2, .int cell), (3, .int minute), (4, .int moves)], [.int moves])) rfl ?_
  refine y_callS hS tq_X3_walk rfl (As := [.int moves]) rfl cs_X3_60 (m_X3_powerOfLeadingDigit hS  moves hmv) rfl (by decide) (Nat.le_of_ble_eq_true rfl) (fun r17 Gc17 q17 => ?_) (fun E9 G9 h9 => h9.elim)
  obtain ⟨⟨x17, hr_x17, rfl⟩, eG17⟩ := q17
  have eG17 := eG17.symm
  subst eG17
  refine y_blk 2 tq_X3_walk (z := (23, [(8, .int x17), (7, .int 0), (6, .int cell), (5, .int ((σ.1 16) * 15)), (0, .ref (ad 8)), (1, .ref (ad 2)), (2, .int cell), (3, .int minute), (4, .int moves)], [.ref (ad 8)])) rfl ?_
  refine y_get hS tq_X3_walk (v := .ref (ad 138)) rfl fg_X3_26_X3 (hX.1 8 _ rfl) rfl ?_
  refine y_blk 2 tq_X3_walk (z := (30, [(8, .int x17), (7, .int 0), (6, .int cell), (5, .int ((σ.1 16) * 15)), (0, .ref (ad 8)), (1, .ref (ad 2)), (2, .int cell), (3, .int minute), (4, .int moves)], [.int cell, .int ((σ.1 16) * 15), .ref (ad 138)])) rfl ?_
  refine y_callV hS tq_X3_walk rfl (As := [.int ((σ.1 16) * 15), .int cell]) rfl cv_X3_63 (hX.num (k := 19) (by decide)) (m_X5_put hS hX (k := 19) (by decide) ((σ.1 16) * 15) cell (fun q => absurd q (by decide))) rfl (by decide) (Nat.le_of_ble_eq_true rfl) (fun r30 Gc30 q30 => ?_) (fun E9 G9 h9 => h9.elim)
  obtain ⟨rfl, hXc30, hFc30⟩ := q30
  refine y_blk 0 tq_X3_walk (z := (33, [(8, .int x17), (7, .int 0), (6, .int cell), (5, .int ((σ.1 16) * 15)), (0, .ref (ad 8)), (1, .ref (ad 2)), (2, .int cell), (3, .int minute), (4, .int moves)], [])) rfl ?_
  refine y_pick (L2 := [(0, .ref (ad 8)), (1, .ref (ad 2)), (2, .int cell), (3, .int minute), (4, .int moves), (5, .int ((σ.1 16) * 15)), (6, .int cell), (7, .int 0), (8, .int x17)]) [4, 5, 6, 7, 8, 3, 2, 1, 0] rfl ?_
  exact J33 _ ((σ.1 16) * 15) cell 0 x17 Gc30 (xput σ 19 ((σ.1 16) * 15) cell) hXc30 (keepX.rfl'.trans hFc30) (((xkn.trans xkn.rfl' xkn_put)).w) (by first | assumption | decide | (rw [yle, e9, yl_239] at c45; omega)) (by first | assumption | rfl) (by first | exact hw33.step kn33 hs3 hst33 hm hm2 c35 c45 c51 c60 rfl | exact xwkE.init hs3 hm2 hr_x17) rfl
set_option maxHeartbeats 4000000 in
set_option maxRecDepth 100000 in
theorem m_X3_firstOf {l : Launch} {S0 : State} {A0 : Array Value} {D : va_G} {aC : Nat → ClassId} {ad : Nat → Nat} {G : AH} {σ : XS} (hS : yS l S0 A0 D aC) (hX : atX aC ad G σ) (intruder : Int32) : yM l S0 D yX3_firstOf cX3_firstOf 2 (some .int) 11 0 0 [.ref (ad 8), .int intruder] G (fun r G1 => r = some (.int (xat σ 16 intruder)) ∧ G1 = G) (fun _ _ => False) := by
  refine yM.ofK K_X3_firstOf rfl (by decide) (Nat.le_of_ble_eq_true rfl) ?_
  refine y_blk 1 tq_X3_firstOf (z := (1, [(0, .ref (ad 8)), (1, .int intruder)], [.ref (ad 8)])) rfl ?_
  refine y_get hS tq_X3_firstOf (v := .ref (ad 132)) rfl fg_X3_16_X3 (hX.1 8 _ rfl) rfl ?_
  refine y_blk 1 tq_X3_firstOf (z := (5, [(0, .ref (ad 8)), (1, .int intruder)], [.int intruder, .ref (ad 132)])) rfl ?_
  refine y_callV hS tq_X3_firstOf rfl (As := [.int intruder]) rfl cv_X3_77 (hX.num (k := 16) (by decide)) (m_X5_at hS hX (k := 16) (by decide) intruder) rfl (by decide) (Nat.le_of_ble_eq_true rfl) (fun r5 Gc5 q5 => ?_) (fun E9 G9 h9 => h9.elim)
  obtain ⟨rfl, eG5⟩ := q5
  have eG5 := eG5.symm
  subst eG5
  refine y_blk 0 tq_X3_firstOf (z := (8, [(0, .ref (ad 8)), (1, .int intruder)], [.int (xat σ 16 intruder)])) rfl ?_
  exact y_iret tq_X3_firstOf rfl rfl (⟨by first | rfl | (congr 2; (repeat' split) <;> first | rfl | (exfalso; simp only [ylt, yle, yeqI, yl_m1, yl_0, yl_1, yl_2, yl_3, yl_4, yl_5, yl_6, yl_7, yl_8, yl_9, yl_10, yl_11, yl_12, yl_15, yl_16, yl_20, yl_60, yl_64, yl_90, yl_97, yl_99, yl_100, yl_120, yl_239, yl_240] at *; omega)), rfl⟩)
set_option maxHeartbeats 4000000 in
set_option maxRecDepth 100000 in
theorem m_X3_movesOf {l : Launch} {S0 : State} {A0 : Array Value} {D : va_G} {aC : Nat → ClassId} {ad : Nat → Nat} {G : AH} {σ : XS} (hS : yS l S0 A0 D aC) (hX : atX aC ad G σ) (intruder : Int32) : yM l S0 D yX3_movesOf cX3_movesOf 2 (some .int) 11 0 0 [.ref (ad 8), .int intruder] G (fun r G1 => r = some (.int (xat σ 17 intruder)) ∧ G1 = G) (fun _ _ => False) := by
  refine yM.ofK K_X3_movesOf rfl (by decide) (Nat.le_of_ble_eq_true rfl) ?_
  refine y_blk 1 tq_X3_movesOf (z := (1, [(0, .ref (ad 8)), (1, .int intruder)], [.ref (ad 8)])) rfl ?_
  refine y_get hS tq_X3_movesOf (v := .ref (ad 134)) rfl fg_X3_20_X3 (hX.1 8 _ rfl) rfl ?_
  refine y_blk 1 tq_X3_movesOf (z := (5, [(0, .ref (ad 8)), (1, .int intruder)], [.int intruder, .ref (ad 134)])) rfl ?_
  refine y_callV hS tq_X3_movesOf rfl (As := [.int intruder]) rfl cv_X3_77 (hX.num (k := 17) (by decide)) (m_X5_at hS hX (k := 17) (by decide) intruder) rfl (by decide) (Nat.le_of_ble_eq_true rfl) (fun r5 Gc5 q5 => ?_) (fun E9 G9 h9 => h9.elim)
  obtain ⟨rfl, eG5⟩ := q5
  have eG5 := eG5.symm
  subst eG5
  refine y_blk 0 tq_X3_movesOf (z := (8, [(0, .ref (ad 8)), (1, .int intruder)], [.int (xat σ 17 intruder)])) rfl ?_
  exact y_iret tq_X3_movesOf rfl rfl (⟨by first | rfl | (congr 2; (repeat' split) <;> first | rfl | (exfalso; simp only [ylt, yle, yeqI, yl_m1, yl_0, yl_1, yl_2, yl_3, yl_4, yl_5, yl_6, yl_7, yl_8, yl_9, yl_10, yl_11, yl_12, yl_15, yl_16, yl_20, yl_60, yl_64, yl_90, yl_97, yl_99, yl_100, yl_120, yl_239, yl_240] at *; omega)), rfl⟩)
set_option maxHeartbeats 4000000 in
set_option maxRecDepth 100000 in
theorem m_X3_stepsOf {l : Launch} {S0 : State} {A0 : Array Value} {D : va_G} {aC : Nat → ClassId} {ad : Nat → Nat} {G : AH} {σ : XS} (hS : yS l S0 A0 D aC) (hX : atX aC ad G σ) (intruder : Int32) : yM l S0 D yX3_stepsOf cX3_stepsOf 2 (some .int) 11 0 0 [.ref (ad 8), .int intruder] G (fun r G1 => r = some (.int (xat σ 20 intruder)) ∧ G1 = G) (fun _ _ => False) := by
  refine yM.ofK K_X3_stepsOf rfl (by decide) (Nat.le_of_ble_eq_true rfl) ?_
  refine y_blk 1 tq_X3_stepsOf (z := (1, [(0, .ref (ad 8)), (1, .int intruder)], [.ref (ad 8)])) rfl ?_
  refine y_get hS tq_X3_stepsOf (v := .ref (ad 140)) rfl fg_X3_29_X3 (hX.1 8 _ rfl) rfl ?_
  refine y_blk 1 tq_X3_stepsOf (z := (5, [(0, .ref (ad 8)), (1, .int intruder)], [.int intruder, .ref (ad 140)])) rfl ?_
  refine y_callV hS tq_X3_stepsOf rfl (As := [.int intruder]) rfl cv_X3_77 (hX.num (k := 20) (by decide)) (m_X5_at hS hX (k := 20) (by decide) intruder) rfl (by decide) (Nat.le_of_ble_eq_true rfl) (fun r5 Gc5 q5 => ?_) (fun E9 G9 h9 => h9.elim)
  obtain ⟨rfl, eG5⟩ := q5
  have eG5 := eG5.symm
  subst eG5
  refine y_blk 0 tq_X3_stepsOf (z := (8, [(0, .ref (ad 8)), (1, .int intruder)], [.int (xat σ 20 intruder)])) rfl ?_
  exact y_iret tq_X3_stepsOf rfl rfl (⟨by first | rfl | (congr 2; (repeat' split) <;> first | rfl | (exfalso; simp only [ylt, yle, yeqI, yl_m1, yl_0, yl_1, yl_2, yl_3, yl_4, yl_5, yl_6, yl_7, yl_8, yl_9, yl_10, yl_11, yl_12, yl_15, yl_16, yl_20, yl_60, yl_64, yl_90, yl_97, yl_99, yl_100, yl_120, yl_239, yl_240] at *; omega)), rfl⟩)
set_option maxHeartbeats 4000000 in
set_option maxRecDepth 100000 in
theorem m_X3_stepMinuteOf {l : Launch} {S0 : State} {A0 : Array Value} {D : va_G} {aC : Nat → ClassId} {ad : Nat → Nat} {G : AH} {σ : XS} (hS : yS l S0 A0 D aC) (hX : atX aC ad G σ) (intruder : Int32) : yM l S0 D yX3_stepMinuteOf cX3_stepMinuteOf 2 (some .int) 11 0 0 [.ref (ad 8), .int intruder] G (fun r G1 => r = some (.int (xat σ 21 intruder)) ∧ G1 = G) (fun _ _ => False) := by
  refine yM.ofK K_X3_stepMinuteOf rfl (by decide) (Nat.le_of_ble_eq_true rfl) ?_
  refine y_blk 1 tq_X3_stepMinuteOf (z := (1, [(0, .ref (ad 8)), (1, .int intruder)], [.ref (ad 8)])) rfl ?_
  refine y_get hS tq_X3_stepMinuteOf (v := .ref (ad 142)) rfl fg_X3_32_X3 (hX.1 8 _ rfl) rfl ?_
  refine y_blk 1 tq_X3_stepMinuteOf (z := (5, [(0, .ref (ad 8)), (1, .int intruder)], [.int intruder, .ref (ad 142)])) rfl ?_
  refine y_callV hS tq_X3_stepMinuteOf rfl (As := [.int intruder]) rfl cv_X3_77 (hX.num (k := 21) (by decide)) (m_X5_at hS hX (k := 21) (by decide) intruder) rfl (by decide) (Nat.le_of_ble_eq_true rfl) (fun r5 Gc5 q5 => ?_) (fun E9 G9 h9 => h9.elim)
  obtain ⟨rfl, eG5⟩ := q5
  have eG5 := eG5.symm
  subst eG5
  refine y_blk 0 tq_X3_stepMinuteOf (z := (8, [(0, .ref (ad 8)), (1, .int intruder)], [.int (xat σ 21 intruder)])) rfl ?_
  exact y_iret tq_X3_stepMinuteOf rfl rfl (⟨by first | rfl | (congr 2; (repeat' split) <;> first | rfl | (exfalso; simp only [ylt, yle, yeqI, yl_m1, yl_0, yl_1, yl_2, yl_3, yl_4, yl_5, yl_6, yl_7, yl_8, yl_9, yl_10, yl_11, yl_12, yl_15, yl_16, yl_20, yl_60, yl_64, yl_90, yl_97, yl_99, yl_100, yl_120, yl_239, yl_240] at *; omega)), rfl⟩)
set_option maxHeartbeats 4000000 in
set_option maxRecDepth 100000 in
theorem m_X3_cellAt {l : Launch} {S0 : State} {A0 : Array Value} {D : va_G} {aC : Nat → ClassId} {ad : Nat → Nat} {G : AH} {σ : XS} (hS : yS l S0 A0 D aC) (hX : atX aC ad G σ) (intruder : Int32) (minute : Int32) : yM l S0 D yX3_cellAt cX3_cellAt 5 (some .int) 11 0 0 [.ref (ad 8), .int intruder, .int minute] G (fun r G1 => (∃ v : Int32, r = some (.int v)) ∧ G1 = G) (fun _ _ => False) := by
  refine yM.ofK K_X3_cellAt rfl (by decide) (Nat.le_of_ble_eq_true rfl) ?_
  have J53 : ∀ (v53_3 : Int32) (v53_4 : Int32) (w53_0 : Int32), Y l S0 D K_X3_cellAt 11 0 0 (fun r G1 => (∃ v : Int32, r = some (.int v)) ∧ G1 = G) (fun _ _ => False) 53 [(0, .ref (ad 8)), (1, .int intruder), (2, .int minute), (3, .int v53_3), (4, .int v53_4)] [.int w53_0] G 0 0 := by
    intro v53_3 v53_4 w53_0
    exact y_iret tq_X3_cellAt rfl rfl (⟨⟨_, rfl⟩, rfl⟩)
  have J49 : ∀ (v49_3 : Int32) (v49_4 : Int32) (w49_0 : Int32) (w49_1 : Int32), Y l S0 D K_X3_cellAt 11 0 0 (fun r G1 => (∃ v : Int32, r = some (.int v)) ∧ G1 = G) (fun _ _ => False) 49 [(0, .ref (ad 8)), (1, .int intruder), (2, .int minute), (3, .int v49_3), (4, .int v49_4)] [.int w49_0, .int w49_1, .ref (ad 138)] G 0 0 := by
    intro v49_3 v49_4 w49_0 w49_1
    refine y_blk 1 tq_X3_cellAt (z := (50, [(0, .ref (ad 8)), (1, .int intruder), (2, .int minute), (3, .int v49_3), (4, .int v49_4)], [.int (w49_1 + w49_0), .ref (ad 138)])) rfl ?_
    refine y_callV hS tq_X3_cellAt rfl (As := [.int (w49_1 + w49_0)]) rfl cv_X3_77 (hX.num (k := 19) (by decide)) (m_X5_at hS hX (k := 19) (by decide) (w49_1 + w49_0)) rfl (by decide) (Nat.le_of_ble_eq_true rfl) (fun r50 Gc50 q50 => ?_) (fun E9 G9 h9 => h9.elim)
    obtain ⟨rfl, eG50⟩ := q50
    have eG50 := eG50.symm
    subst eG50
    refine y_blk 0 tq_X3_cellAt (z := (53, [(0, .ref (ad 8)), (1, .int intruder), (2, .int minute), (3, .int v49_3), (4, .int v49_4)], [.int (xat σ 19 (w49_1 + w49_0))])) rfl ?_
    exact J53 v49_3 v49_4 (xat σ 19 (w49_1 + w49_0))
  refine y_blk 2 tq_X3_cellAt (z := (2, [(0, .ref (ad 8)), (1, .int intruder), (2, .int minute)], [.ref (ad 8), .int minute])) rfl ?_
  refine y_get hS tq_X3_cellAt (v := .ref (ad 132)) rfl fg_X3_16_X3 (hX.1 8 _ rfl) rfl ?_
  refine y_blk 1 tq_X3_cellAt (z := (6, [(0, .ref (ad 8)), (1, .int intruder), (2, .int minute)], [.int intruder, .ref (ad 132), .int minute])) rfl ?_
  refine y_callV hS tq_X3_cellAt rfl (As := [.int intruder]) rfl cv_X3_77 (hX.num (k := 16) (by decide)) (m_X5_at hS hX (k := 16) (by decide) intruder) rfl (by decide) (Nat.le_of_ble_eq_true rfl) (fun r6 Gc6 q6 => ?_) (fun E9 G9 h9 => h9.elim)
  obtain ⟨rfl, eG6⟩ := q6
  have eG6 := eG6.symm
  subst eG6
  refine y_blk 3 tq_X3_cellAt (z := (12, [(3, .int (minute - (xat σ 16 intruder))), (0, .ref (ad 8)), (1, .int intruder), (2, .int minute)], [.ref (ad 8)])) rfl ?_
  refine y_get hS tq_X3_cellAt (v := .ref (ad 136)) rfl fg_X3_23_X3 (hX.1 8 _ rfl) rfl ?_
  refine y_blk 1 tq_X3_cellAt (z := (16, [(3, .int (minute - (xat σ 16 intruder))), (0, .ref (ad 8)), (1, .int intruder), (2, .int minute)], [.int intruder, .ref (ad 136)])) rfl ?_
  refine y_callV hS tq_X3_cellAt rfl (As := [.int intruder]) rfl cv_X3_77 (hX.num (k := 18) (by decide)) (m_X5_at hS hX (k := 18) (by decide) intruder) rfl (by decide) (Nat.le_of_ble_eq_true rfl) (fun r16 Gc16 q16 => ?_) (fun E9 G9 h9 => h9.elim)
  obtain ⟨rfl, eG16⟩ := q16
  have eG16 := eG16.symm
  subst eG16
  refine y_blk 2 tq_X3_cellAt (z := (22, [(4, .int (xat σ 18 intruder)), (3, .int (minute - (xat σ 16 intruder))), (0, .ref (ad 8)), (1, .int intruder), (2, .int minute)], [.int (minute - (xat σ 16 intruder))])) rfl ?_
  refine y_if_ge tq_X3_cellAt 29 rfl rfl (fun c22 => ?_) (fun c22 => ?_)
  · skip
    refine y_blk 1 tq_X3_cellAt (z := (30, [(4, .int (xat σ 18 intruder)), (3, .int (minute - (xat σ 16 intruder))), (0, .ref (ad 8)), (1, .int intruder), (2, .int minute)], [.ref (ad 8)])) rfl ?_
    refine y_get hS tq_X3_cellAt (v := .ref (ad 138)) rfl fg_X3_26_X3 (hX.1 8 _ rfl) rfl ?_
    refine y_blk 5 tq_X3_cellAt (z := (40, [(4, .int (xat σ 18 intruder)), (3, .int (minute - (xat σ 16 intruder))), (0, .ref (ad 8)), (1, .int intruder), (2, .int minute)], [.int (xat σ 18 intruder), .int (minute - (xat σ 16 intruder)), .int (intruder * 15), .ref (ad 138)])) rfl ?_
    refine y_icmp_ge tq_X3_cellAt 47 rfl rfl (fun c40 => ?_) (fun c40 => ?_)
    · skip
      refine y_blk 1 tq_X3_cellAt (z := (49, [(4, .int (xat σ 18 intruder)), (3, .int (minute - (xat σ 16 intruder))), (0, .ref (ad 8)), (1, .int intruder), (2, .int minute)], [.int (xat σ 18 intruder), .int (intruder * 15), .ref (ad 138)])) rfl ?_
      refine y_pick (L2 := [(0, .ref (ad 8)), (1, .int intruder), (2, .int minute), (3, .int (minute - (xat σ 16 intruder))), (4, .int (xat σ 18 intruder))]) [2, 3, 4, 1, 0] rfl ?_
      exact J49 (minute - (xat σ 16 intruder)) (xat σ 18 intruder) (xat σ 18 intruder) (intruder * 15)
    · skip
      refine y_blk 2 tq_X3_cellAt (z := (49, [(4, .int (xat σ 18 intruder)), (3, .int (minute - (xat σ 16 intruder))), (0, .ref (ad 8)), (1, .int intruder), (2, .int minute)], [.int (minute - (xat σ 16 intruder)), .int (intruder * 15), .ref (ad 138)])) rfl ?_
      refine y_pick (L2 := [(0, .ref (ad 8)), (1, .int intruder), (2, .int minute), (3, .int (minute - (xat σ 16 intruder))), (4, .int (xat σ 18 intruder))]) [2, 3, 4, 1, 0] rfl ?_
      exact J49 (minute - (xat σ 16 intruder)) (xat σ 18 intruder) (minute - (xat σ 16 intruder)) (intruder * 15)
  · skip
    refine y_blk 2 tq_X3_cellAt (z := (53, [(4, .int (xat σ 18 intruder)), (3, .int (minute - (xat σ 16 intruder))), (0, .ref (ad 8)), (1, .int intruder), (2, .int minute)], [.int (-1)])) rfl ?_
    refine y_pick (L2 := [(0, .ref (ad 8)), (1, .int intruder), (2, .int minute), (3, .int (minute - (xat σ 16 intruder))), (4, .int (xat σ 18 intruder))]) [2, 3, 4, 1, 0] rfl ?_
    exact J53 (minute - (xat σ 16 intruder)) (xat σ 18 intruder) (-1)
set_option maxHeartbeats 4000000 in
set_option maxRecDepth 100000 in
theorem m_X3_cellAt_ok {l : Launch} {S0 : State} {A0 : Array Value} {D : va_G} {aC : Nat → ClassId} {ad : Nat → Nat} {G : AH} {σ : XS} (hS : yS l S0 A0 D aC) (hX : atX aC ad G σ) (intruder : Int32) (minute : Int32) : yM l S0 D yX3_cellAt cX3_cellAt 5 (some .int) 11 0 0 [.ref (ad 8), .int intruder, .int minute] G (fun r G1 => r = some (.int (xcel σ intruder minute)) ∧ G1 = G) (fun _ _ => False) := by
  refine yM.ofK K_X3_cellAt rfl (by decide) (Nat.le_of_ble_eq_true rfl) ?_
  refine y_blk 2 tq_X3_cellAt (z := (2, [(0, .ref (ad 8)), (1, .int intruder), (2, .int minute)], [.ref (ad 8), .int minute])) rfl ?_
  refine y_get hS tq_X3_cellAt (v := .ref (ad 132)) rfl fg_X3_16_X3 (hX.1 8 _ rfl) rfl ?_
  refine y_blk 1 tq_X3_cellAt (z := (6, [(0, .ref (ad 8)), (1, .int intruder), (2, .int minute)], [.int intruder, .ref (ad 132), .int minute])) rfl ?_
  refine y_callV hS tq_X3_cellAt rfl (As := [.int intruder]) rfl cv_X3_77 (hX.num (k := 16) (by decide)) (m_X5_at hS hX (k := 16) (by decide) intruder) rfl (by decide) (Nat.le_of_ble_eq_true rfl) (fun r6 Gc6 q6 => ?_) (fun E9 G9 h9 => h9.elim)
  obtain ⟨rfl, eG6⟩ := q6
  have eG6 := eG6.symm
  subst eG6
  refine y_blk 3 tq_X3_cellAt (z := (12, [(3, .int (minute - (xat σ 16 intruder))), (0, .ref (ad 8)), (1, .int intruder), (2, .int minute)], [.ref (ad 8)])) rfl ?_
  refine y_get hS tq_X3_cellAt (v := .ref (ad 136)) rfl fg_X3_23_X3 (hX.1 8 _ rfl) rfl ?_
  refine y_blk 1 tq_X3_cellAt (z := (16, [(3, .int (minute - (xat σ 16 intruder))), (0, .ref (ad 8)), (1, .int intruder), (2, .int minute)], [.int intruder, .ref (ad 136)])) rfl ?_
  refine y_callV hS tq_X3_cellAt rfl (As := [.int intruder]) rfl cv_X3_77 (hX.num (k := 18) (by decide)) (m_X5_at hS hX (k := 18) (by decide) intruder) rfl (by decide) (Nat.le_of_ble_eq_true rfl) (fun r16 Gc16 q16 => ?_) (fun E9 G9 h9 => h9.elim)
  obtain ⟨rfl, eG16⟩ := q16
  have eG16 := eG16.symm
  subst eG16
  refine y_blk 2 tq_X3_cellAt (z := (22, [(4, .int (xat σ 18 intruder)), (3, .int (minute - (xat σ 16 intruder))), (0, .ref (ad 8)), (1, .int intruder), (2, .int minute)], [.int (minute - (xat σ 16 intruder))])) rfl ?_
  refine y_if_ge tq_X3_cellAt 29 rfl rfl (fun c22 => ?_) (fun c22 => ?_)
  · skip
    refine y_blk 1 tq_X3_cellAt (z := (30, [(4, .int (xat σ 18 intruder)), (3, .int (minute - (xat σ 16 intruder))), (0, .ref (ad 8)), (1, .int intruder), (2, .int minute)], [.ref (ad 8)])) rfl ?_
    refine y_get hS tq_X3_cellAt (v := .ref (ad 138)) rfl fg_X3_26_X3 (hX.1 8 _ rfl) rfl ?_
    refine y_blk 5 tq_X3_cellAt (z := (40, [(4, .int (xat σ 18 intruder)), (3, .int (minute - (xat σ 16 intruder))), (0, .ref (ad 8)), (1, .int intruder), (2, .int minute)], [.int (xat σ 18 intruder), .int (minute - (xat σ 16 intruder)), .int (intruder * 15), .ref (ad 138)])) rfl ?_
    refine y_icmp_ge tq_X3_cellAt 47 rfl rfl (fun c40 => ?_) (fun c40 => ?_)
    · skip
      refine y_blk 2 tq_X3_cellAt (z := (50, [(4, .int (xat σ 18 intruder)), (3, .int (minute - (xat σ 16 intruder))), (0, .ref (ad 8)), (1, .int intruder), (2, .int minute)], [.int ((intruder * 15) + (xat σ 18 intruder)), .ref (ad 138)])) rfl ?_
      refine y_callV hS tq_X3_cellAt rfl (As := [.int ((intruder * 15) + (xat σ 18 intruder))]) rfl cv_X3_77 (hX.num (k := 19) (by decide)) (m_X5_at hS hX (k := 19) (by decide) ((intruder * 15) + (xat σ 18 intruder))) rfl (by decide) (Nat.le_of_ble_eq_true rfl) (fun r50 Gc50 q50 => ?_) (fun E9 G9 h9 => h9.elim)
      obtain ⟨rfl, eG50⟩ := q50
      have eG50 := eG50.symm
      subst eG50
      refine y_blk 0 tq_X3_cellAt (z := (53, [(4, .int (xat σ 18 intruder)), (3, .int (minute - (xat σ 16 intruder))), (0, .ref (ad 8)), (1, .int intruder), (2, .int minute)], [.int (xat σ 19 ((intruder * 15) + (xat σ 18 intruder)))])) rfl ?_
      exact y_iret tq_X3_cellAt rfl rfl (⟨congrArg (fun z => some (Value.int z)) (by unfold xcel; first | rw [if_neg c22] | rw [if_pos c22, if_pos c40] | rw [if_pos c22, if_neg c40]), rfl⟩)
    · skip
      refine y_blk 3 tq_X3_cellAt (z := (50, [(4, .int (xat σ 18 intruder)), (3, .int (minute - (xat σ 16 intruder))), (0, .ref (ad 8)), (1, .int intruder), (2, .int minute)], [.int ((intruder * 15) + (minute - (xat σ 16 intruder))), .ref (ad 138)])) rfl ?_
      refine y_callV hS tq_X3_cellAt rfl (As := [.int ((intruder * 15) + (minute - (xat σ 16 intruder)))]) rfl cv_X3_77 (hX.num (k := 19) (by decide)) (m_X5_at hS hX (k := 19) (by decide) ((intruder * 15) + (minute - (xat σ 16 intruder)))) rfl (by decide) (Nat.le_of_ble_eq_true rfl) (fun r50 Gc50 q50 => ?_) (fun E9 G9 h9 => h9.elim)
      obtain ⟨rfl, eG50⟩ := q50
      have eG50 := eG50.symm
      subst eG50
      refine y_blk 0 tq_X3_cellAt (z := (53, [(4, .int (xat σ 18 intruder)), (3, .int (minute - (xat σ 16 intruder))), (0, .ref (ad 8)), (1, .int intruder), (2, .int minute)], [.int (xat σ 19 ((intruder * 15) + (minute - (xat σ 16 intruder))))])) rfl ?_
      exact y_iret tq_X3_cellAt rfl rfl (⟨congrArg (fun z => some (Value.int z)) (by unfold xcel; first | rw [if_neg c22] | rw [if_pos c22, if_pos c40] | rw [if_pos c22, if_neg c40]), rfl⟩)
  · skip
    refine y_blk 2 tq_X3_cellAt (z := (53, [(4, .int (xat σ 18 intruder)), (3, .int (minute - (xat σ 16 intruder))), (0, .ref (ad 8)), (1, .int intruder), (2, .int minute)], [.int (-1)])) rfl ?_
    exact y_iret tq_X3_cellAt rfl rfl (⟨congrArg (fun z => some (Value.int z)) (by unfold xcel; first | rw [if_neg c22] | rw [if_pos c22, if_pos c40] | rw [if_pos c22, if_neg c40]), rfl⟩)
set_option maxHeartbeats 4000000 in
set_option maxRecDepth 100000 in
theorem m_X3_countOn {l : Launch} {S0 : State} {A0 : Array Value} {D : va_G} {aC : Nat → ClassId} {ad : Nat → Nat} {G : AH} {σ : XS} (hS : yS l S0 A0 D aC) (hX : atX aC ad G σ) (cell : Int32) (minute : Int32) : yM l S0 D yX3_countOn cX3_countOn 5 (some .int) 12 0 0 [.ref (ad 8), .int cell, .int minute] G (fun r G1 => (∃ v : Int32, r = some (.int v)) ∧ G1 = G) (fun _ _ => False) := by
  refine yM.ofK K_X3_countOn rfl (by decide) (Nat.le_of_ble_eq_true rfl) ?_
  have J5 : ∀ (n5 : Nat) (v5_3 : Int32) (v5_4 : Int32), ((σ.1 16 : Int32).toInt - v5_4.toInt).toNat = n5 → Y l S0 D K_X3_countOn 12 0 0 (fun r G1 => (∃ v : Int32, r = some (.int v)) ∧ G1 = G) (fun _ _ => False) 5 [(0, .ref (ad 8)), (1, .int cell), (2, .int minute), (3, .int v5_3), (4, .int v5_4)] [] G 0 0 := by
    intro n5
    induction n5 using Nat.strongRecOn with
    | _ n5 ih5 =>
    intro v5_3 v5_4 hn5
    subst hn5
    have J31 : ∀ (w31_0 : Int32) (hb_w31_0 : w31_0 = 0 ∨ w31_0 = 1) (c11 : ¬ (σ.1 16 : Int32) ≤ v5_4), Y l S0 D K_X3_countOn 12 0 0 (fun r G1 => (∃ v : Int32, r = some (.int v)) ∧ G1 = G) (fun _ _ => False) 31 [(0, .ref (ad 8)), (1, .int cell), (2, .int minute), (3, .int v5_3), (4, .int v5_4)] [.int w31_0, .int v5_3] G 0 0 := by
      intro w31_0 hb_w31_0 c11
      refine y_blk 4 tq_X3_countOn (z := (5, [(4, .int (v5_4 + 1)), (3, .int (v5_3 + w31_0)), (0, .ref (ad 8)), (1, .int cell), (2, .int minute)], [])) rfl ?_
      refine y_pick (L2 := [(0, .ref (ad 8)), (1, .int cell), (2, .int minute), (3, .int (v5_3 + w31_0)), (4, .int (v5_4 + 1))]) [2, 3, 4, 1, 0] rfl ?_
      exact ih5 _ (by exact ydec c11) (v5_3 + w31_0) (v5_4 + 1) rfl
    refine y_blk 2 tq_X3_countOn (z := (8, [(0, .ref (ad 8)), (1, .int cell), (2, .int minute), (3, .int v5_3), (4, .int v5_4)], [.ref (ad 8), .int v5_4])) rfl ?_
    refine y_callV hS tq_X3_countOn rfl (As := []) rfl cv_X3_57 (hX.1 8 _ rfl) (m_X3_count hS hX ) rfl (by decide) (Nat.le_of_ble_eq_true rfl) (fun r8 Gc8 q8 => ?_) (fun E9 G9 h9 => h9.elim)
    obtain ⟨rfl, eG8⟩ := q8
    have eG8 := eG8.symm
    subst eG8
    refine y_blk 0 tq_X3_countOn (z := (11, [(0, .ref (ad 8)), (1, .int cell), (2, .int minute), (3, .int v5_3), (4, .int v5_4)], [.int (σ.1 16), .int v5_4])) rfl ?_
    refine y_icmp_ge tq_X3_countOn 39 rfl rfl (fun c11 => ?_) (fun c11 => ?_)
    · skip
      refine y_blk 1 tq_X3_countOn (z := (40, [(0, .ref (ad 8)), (1, .int cell), (2, .int minute), (3, .int v5_3), (4, .int v5_4)], [.int v5_3])) rfl ?_
      exact y_iret tq_X3_countOn rfl rfl (⟨⟨_, rfl⟩, rfl⟩)
    · skip
      refine y_blk 4 tq_X3_countOn (z := (19, [(0, .ref (ad 8)), (1, .int cell), (2, .int minute), (3, .int v5_3), (4, .int v5_4)], [.int minute, .int v5_4, .ref (ad 8), .int v5_3])) rfl ?_
      refine y_callV hS tq_X3_countOn rfl (As := [.int v5_4, .int minute]) rfl cv_X3_80 (hX.1 8 _ rfl) (m_X3_cellAt hS hX v5_4 minute) rfl (by decide) (Nat.le_of_ble_eq_true rfl) (fun r19 Gc19 q19 => ?_) (fun E9 G9 h9 => h9.elim)
      obtain ⟨⟨x19, rfl⟩, eG19⟩ := q19
      have eG19 := eG19.symm
      subst eG19
      refine y_blk 1 tq_X3_countOn (z := (23, [(0, .ref (ad 8)), (1, .int cell), (2, .int minute), (3, .int v5_3), (4, .int v5_4)], [.int cell, .int x19, .int v5_3])) rfl ?_
      refine y_icmp_ne tq_X3_countOn 30 rfl rfl (fun c23 => ?_) (fun c23 => ?_)
      · skip
        refine y_blk 1 tq_X3_countOn (z := (31, [(0, .ref (ad 8)), (1, .int cell), (2, .int minute), (3, .int v5_3), (4, .int v5_4)], [.int 0, .int v5_3])) rfl ?_
        exact J31 0 (Or.inl rfl) (by exact c11)
      · skip
        refine y_blk 2 tq_X3_countOn (z := (31, [(0, .ref (ad 8)), (1, .int cell), (2, .int minute), (3, .int v5_3), (4, .int v5_4)], [.int 1, .int v5_3])) rfl ?_
        exact J31 1 (Or.inr rfl) (by exact c11)
  refine y_blk 4 tq_X3_countOn (z := (5, [(4, .int 0), (3, .int 0), (0, .ref (ad 8)), (1, .int cell), (2, .int minute)], [])) rfl ?_
  refine y_pick (L2 := [(0, .ref (ad 8)), (1, .int cell), (2, .int minute), (3, .int 0), (4, .int 0)]) [2, 3, 4, 1, 0] rfl ?_
  exact J5 _ 0 0 rfl
set_option maxHeartbeats 4000000 in
set_option maxRecDepth 100000 in
theorem m_X3_wayCells {l : Launch} {S0 : State} {A0 : Array Value} {D : va_G} {aC : Nat → ClassId} {ad : Nat → Nat} {G : AH} {σ : XS} (hS : yS l S0 A0 D aC) (hX : atX aC ad G σ) : yM l S0 D yX3_wayCells cX3_wayCells 5 (some .long) 12 0 0 [.ref (ad 8)] G (fun r G1 => (∃ v : Int64, xse v (xwyQ σ (σ.1 16).toInt.toNat) ∧ r = some (.long v)) ∧ G1 = G) (fun _ _ => False) := by
  refine yM.ofK K_X3_wayCells rfl (by decide) (Nat.le_of_ble_eq_true rfl) ?_
  have J4 : ∀ (n4 : Nat) (v4_1 : Int64) (v4_3 : Int32) (h4 : 0 ≤ v4_3.toInt ∧ v4_3.toInt ≤ (σ.1 16).toInt) (hs4 : xse v4_1 (xwyQ σ v4_3.toInt.toNat)), ((σ.1 16 : Int32).toInt - v4_3.toInt).toNat = n4 → Y l S0 D K_X3_wayCells 12 0 0 (fun r G1 => (∃ v : Int64, xse v (xwyQ σ (σ.1 16).toInt.toNat) ∧ r = some (.long v)) ∧ G1 = G) (fun _ _ => False) 4 [(0, .ref (ad 8)), (1, .long v4_1), (3, .int v4_3)] [] G 0 0 := by
    intro n4
    induction n4 using Nat.strongRecOn with
    | _ n4 ih4 =>
    intro v4_1 v4_3 h4 hs4 hn4
    subst hn4
    have J15 : ∀ (n15 : Nat) (v15_1 : Int64) (v15_4 : Int32) (h15 : 0 ≤ v15_4.toInt ∧ (v15_4.toInt ≤ (xat σ 18 v4_3).toInt + 1 ∨ v15_4.toInt = 0)) (hs15 : xse v15_1 (fun c => xwyQ σ v4_3.toInt.toNat c ∨ xwyR σ v4_3 v15_4.toInt.toNat c)) (c9 : ¬ (σ.1 16 : Int32) ≤ v4_3), ((xat σ 18 v4_3 : Int32).toInt + 1 - v15_4.toInt).toNat = n15 → Y l S0 D K_X3_wayCells 12 0 0 (fun r G1 => (∃ v : Int64, xse v (xwyQ σ (σ.1 16).toInt.toNat) ∧ r = some (.long v)) ∧ G1 = G) (fun _ _ => False) 15 [(0, .ref (ad 8)), (1, .long v15_1), (3, .int v4_3), (4, .int v15_4)] [] G 0 0 := by
      intro n15
      induction n15 using Nat.strongRecOn with
      | _ n15 ih15 =>
      intro v15_1 v15_4 h15 hs15 c9 hn15
      subst hn15
      refine y_blk 2 tq_X3_wayCells (z := (18, [(0, .ref (ad 8)), (1, .long v15_1), (3, .int v4_3), (4, .int v15_4)], [.ref (ad 8), .int v15_4])) rfl ?_
      refine y_get hS tq_X3_wayCells (v := .ref (ad 136)) rfl fg_X3_23_X3 (hX.1 8 _ rfl) rfl ?_
      refine y_blk 1 tq_X3_wayCells (z := (22, [(0, .ref (ad 8)), (1, .long v15_1), (3, .int v4_3), (4, .int v15_4)], [.int v4_3, .ref (ad 136), .int v15_4])) rfl ?_
      refine y_callV hS tq_X3_wayCells rfl (As := [.int v4_3]) rfl cv_X3_77 (hX.num (k := 18) (by decide)) (m_X5_at hS hX (k := 18) (by decide) v4_3) rfl (by decide) (Nat.le_of_ble_eq_true rfl) (fun r22 Gc22 q22 => ?_) (fun E9 G9 h9 => h9.elim)
      obtain ⟨rfl, eG22⟩ := q22
      have eG22 := eG22.symm
      subst eG22
      refine y_blk 0 tq_X3_wayCells (z := (25, [(0, .ref (ad 8)), (1, .long v15_1), (3, .int v4_3), (4, .int v15_4)], [.int (xat σ 18 v4_3), .int v15_4])) rfl ?_
      refine y_icmp_gt tq_X3_wayCells 54 rfl rfl (fun c25 => ?_) (fun c25 => ?_)
      · skip
        refine y_blk 2 tq_X3_wayCells (z := (4, [(3, .int (v4_3 + 1)), (0, .ref (ad 8)), (1, .long v15_1), (4, .int v15_4)], [])) rfl ?_
        refine y_pick (L2 := [(0, .ref (ad 8)), (1, .long v15_1), (3, .int (v4_3 + 1))]) [1, 2, 0] rfl ?_
        exact ih4 _ (by exact ydec c9) v15_1 (v4_3 + 1) (by first | exact xcn_step h4 c9 | exact xcn_init (hX.2.1 16).1) (by first | exact xwy_out hs15 h4 c9 h15 c25 rfl | exact xwy_init) rfl
      · skip
        refine y_blk 2 tq_X3_wayCells (z := (30, [(0, .ref (ad 8)), (1, .long v15_1), (3, .int v4_3), (4, .int v15_4)], [.ref (ad 8), .long v15_1])) rfl ?_
        refine y_get hS tq_X3_wayCells (v := .ref (ad 138)) rfl fg_X3_26_X3 (hX.1 8 _ rfl) rfl ?_
        refine y_blk 5 tq_X3_wayCells (z := (40, [(0, .ref (ad 8)), (1, .long v15_1), (3, .int v4_3), (4, .int v15_4)], [.int ((v4_3 * 15) + v15_4), .ref (ad 138), .long v15_1])) rfl ?_
        refine y_callV hS tq_X3_wayCells rfl (As := [.int ((v4_3 * 15) + v15_4)]) rfl cv_X3_77 (hX.num (k := 19) (by decide)) (m_X5_at hS hX (k := 19) (by decide) ((v4_3 * 15) + v15_4)) rfl (by decide) (Nat.le_of_ble_eq_true rfl) (fun r40 Gc40 q40 => ?_) (fun E9 G9 h9 => h9.elim)
        obtain ⟨rfl, eG40⟩ := q40
        have eG40 := eG40.symm
        subst eG40
        refine y_blk 0 tq_X3_wayCells (z := (43, [(0, .ref (ad 8)), (1, .long v15_1), (3, .int v4_3), (4, .int v15_4)], [.int (xat σ 19 ((v4_3 * 15) + v15_4)), .long v15_1])) rfl ?_
        refine y_callSN hS tq_X3_wayCells rfl (As := [.int (xat σ 19 ((v4_3 * 15) + v15_4))]) rfl cs_X3_83 (m_X8_setOf hS  (xat σ 19 ((v4_3 * 15) + v15_4))) rfl (by decide) (Nat.le_of_ble_eq_true rfl) (fun r43 Gc43 q43 => ?_) (fun E9 G9 h9 => h9.elim)
        obtain ⟨rfl, eG43⟩ := q43
        have eG43 := eG43.symm
        subst eG43
        refine y_blk 4 tq_X3_wayCells (z := (15, [(4, .int (v15_4 + 1)), (1, .long (v15_1 ||| (xset (xat σ 19 ((v4_3 * 15) + v15_4))))), (0, .ref (ad 8)), (3, .int v4_3)], [])) rfl ?_
        refine y_pick (L2 := [(0, .ref (ad 8)), (1, .long (v15_1 ||| (xset (xat σ 19 ((v4_3 * 15) + v15_4))))), (3, .int v4_3), (4, .int (v15_4 + 1))]) [2, 1, 3, 0] rfl ?_
        exact ih15 _ (by exact ydec2 c25 (by have h9 := xat18 hX.2 v4_3; omega)) (v15_1 ||| (xset (xat σ 19 ((v4_3 * 15) + v15_4)))) (v15_4 + 1) (by first | exact xwy_i h15 (xat18 hX.2 v4_3) c25 | exact xi0) (by first | exact xwy_step hs15 h15.1 (xat18 hX.2 v4_3) c25 | exact xwy_in hs4) (by exact c9) rfl
    refine y_blk 2 tq_X3_wayCells (z := (6, [(0, .ref (ad 8)), (1, .long v4_1), (3, .int v4_3)], [.ref (ad 8), .int v4_3])) rfl ?_
    refine y_callV hS tq_X3_wayCells rfl (As := []) rfl cv_X3_57 (hX.1 8 _ rfl) (m_X3_count hS hX ) rfl (by decide) (Nat.le_of_ble_eq_true rfl) (fun r6 Gc6 q6 => ?_) (fun E9 G9 h9 => h9.elim)
    obtain ⟨rfl, eG6⟩ := q6
    have eG6 := eG6.symm
    subst eG6
    refine y_blk 0 tq_X3_wayCells (z := (9, [(0, .ref (ad 8)), (1, .long v4_1), (3, .int v4_3)], [.int (σ.1 16), .int v4_3])) rfl ?_
    refine y_icmp_ge tq_X3_wayCells 60 rfl rfl (fun c9 => ?_) (fun c9 => ?_)
    · skip
      refine y_blk 1 tq_X3_wayCells (z := (61, [(0, .ref (ad 8)), (1, .long v4_1), (3, .int v4_3)], [.long v4_1])) rfl ?_
      exact y_lret tq_X3_wayCells rfl rfl (⟨⟨_, (by have e9 := xcn_stop h4 c9; rw [e9] at hs4; exact hs4), rfl⟩, rfl⟩)
    · skip
      refine y_blk 2 tq_X3_wayCells (z := (15, [(4, .int 0), (0, .ref (ad 8)), (1, .long v4_1), (3, .int v4_3)], [])) rfl ?_
      refine y_pick (L2 := [(0, .ref (ad 8)), (1, .long v4_1), (3, .int v4_3), (4, .int 0)]) [1, 2, 3, 0] rfl ?_
      exact J15 _ v4_1 0 (by first | exact xwy_i h15 (xat18 hX.2 v4_3) c25 | exact xi0) (by first | exact xwy_step hs15 h15.1 (xat18 hX.2 v4_3) c25 | exact xwy_in hs4) (by exact c9) rfl
  refine y_blk 4 tq_X3_wayCells (z := (4, [(3, .int 0), (1, .long 0), (0, .ref (ad 8))], [])) rfl ?_
  refine y_pick (L2 := [(0, .ref (ad 8)), (1, .long 0), (3, .int 0)]) [2, 1, 0] rfl ?_
  exact J4 _ 0 0 (by first | exact xcn_step h4 c9 | exact xcn_init (hX.2.1 16).1) (by first | exact xwy_out hs15 h4 c9 h15 c25 rfl | exact xwy_init) rfl
set_option maxHeartbeats 4000000 in
set_option maxRecDepth 100000 in
theorem m_X3_isNextStep {l : Launch} {S0 : State} {A0 : Array Value} {D : va_G} {aC : Nat → ClassId} {ad : Nat → Nat} {G : AH} {σ : XS} (hS : yS l S0 A0 D aC) (hX : atX aC ad G σ) (intruder : Int32) (step : Int32) (minute : Int32) : yM l S0 D yX3_isNextStep cX3_isNextStep 4 (some .boolean) 11 0 0 [.ref (ad 8), .int intruder, .int step, .int minute] G (fun r G1 => (∃ v : Int32, (v = 0 ∨ v = 1) ∧ r = some (.int v)) ∧ G1 = G) (fun _ _ => False) := by
  refine yM.ofK K_X3_isNextStep rfl (by decide) (Nat.le_of_ble_eq_true rfl) ?_
  have J29 : ∀ (w29_0 : Int32) (hb_w29_0 : w29_0 = 0 ∨ w29_0 = 1), Y l S0 D K_X3_isNextStep 11 0 0 (fun r G1 => (∃ v : Int32, (v = 0 ∨ v = 1) ∧ r = some (.int v)) ∧ G1 = G) (fun _ _ => False) 29 [(0, .ref (ad 8)), (1, .int intruder), (2, .int step), (3, .int minute)] [.int w29_0] G 0 0 := by
    intro w29_0 hb_w29_0
    exact y_zret tq_X3_isNextStep rfl rfl (y01 hb_w29_0) (⟨⟨_, hb_w29_0, rfl⟩, rfl⟩)
  have J28 : ∀ (_ : True), Y l S0 D K_X3_isNextStep 11 0 0 (fun r G1 => (∃ v : Int32, (v = 0 ∨ v = 1) ∧ r = some (.int v)) ∧ G1 = G) (fun _ _ => False) 28 [(0, .ref (ad 8)), (1, .int intruder), (2, .int step), (3, .int minute)] [] G 0 0 := by
    intro _
    refine y_blk 1 tq_X3_isNextStep (z := (29, [(0, .ref (ad 8)), (1, .int intruder), (2, .int step), (3, .int minute)], [.int 0])) rfl ?_
    exact J29 0 (Or.inl rfl)
  refine y_blk 2 tq_X3_isNextStep (z := (2, [(0, .ref (ad 8)), (1, .int intruder), (2, .int step), (3, .int minute)], [.ref (ad 8), .int step])) rfl ?_
  refine y_get hS tq_X3_isNextStep (v := .ref (ad 140)) rfl fg_X3_29_X3 (hX.1 8 _ rfl) rfl ?_
  refine y_blk 1 tq_X3_isNextStep (z := (6, [(0, .ref (ad 8)), (1, .int intruder), (2, .int step), (3, .int minute)], [.int intruder, .ref (ad 140), .int step])) rfl ?_
  refine y_callV hS tq_X3_isNextStep rfl (As := [.int intruder]) rfl cv_X3_77 (hX.num (k := 20) (by decide)) (m_X5_at hS hX (k := 20) (by decide) intruder) rfl (by decide) (Nat.le_of_ble_eq_true rfl) (fun r6 Gc6 q6 => ?_) (fun E9 G9 h9 => h9.elim)
  obtain ⟨rfl, eG6⟩ := q6
  have eG6 := eG6.symm
  subst eG6
  refine y_blk 0 tq_X3_isNextStep (z := (9, [(0, .ref (ad 8)), (1, .int intruder), (2, .int step), (3, .int minute)], [.int (xat σ 20 intruder), .int step])) rfl ?_
  refine y_icmp_ne tq_X3_isNextStep 28 rfl rfl (fun c9 => ?_) (fun c9 => ?_)
  · skip
    refine y_blk 0 tq_X3_isNextStep (z := (28, [(0, .ref (ad 8)), (1, .int intruder), (2, .int step), (3, .int minute)], [])) rfl ?_
    exact J28 trivial
  · skip
    refine y_blk 2 tq_X3_isNextStep (z := (14, [(0, .ref (ad 8)), (1, .int intruder), (2, .int step), (3, .int minute)], [.ref (ad 8), .int minute])) rfl ?_
    refine y_get hS tq_X3_isNextStep (v := .ref (ad 142)) rfl fg_X3_32_X3 (hX.1 8 _ rfl) rfl ?_
    refine y_blk 1 tq_X3_isNextStep (z := (18, [(0, .ref (ad 8)), (1, .int intruder), (2, .int step), (3, .int minute)], [.int intruder, .ref (ad 142), .int minute])) rfl ?_
    refine y_callV hS tq_X3_isNextStep rfl (As := [.int intruder]) rfl cv_X3_77 (hX.num (k := 21) (by decide)) (m_X5_at hS hX (k := 21) (by decide) intruder) rfl (by decide) (Nat.le_of_ble_eq_true rfl) (fun r18 Gc18 q18 => ?_) (fun E9 G9 h9 => h9.elim)
    obtain ⟨rfl, eG18⟩ := q18
    have eG18 := eG18.symm
    subst eG18
    refine y_blk 0 tq_X3_isNextStep (z := (21, [(0, .ref (ad 8)), (1, .int intruder), (2, .int step), (3, .int minute)], [.int (xat σ 21 intruder), .int minute])) rfl ?_
    refine y_icmp_lt tq_X3_isNextStep 28 rfl rfl (fun c21 => ?_) (fun c21 => ?_)
    · skip
      refine y_blk 0 tq_X3_isNextStep (z := (28, [(0, .ref (ad 8)), (1, .int intruder), (2, .int step), (3, .int minute)], [])) rfl ?_
      exact J28 trivial
    · skip
      refine y_blk 2 tq_X3_isNextStep (z := (29, [(0, .ref (ad 8)), (1, .int intruder), (2, .int step), (3, .int minute)], [.int 1])) rfl ?_
      exact J29 1 (Or.inr rfl)
set_option maxHeartbeats 4000000 in
set_option maxRecDepth 100000 in
theorem m_X3_addStep {l : Launch} {S0 : State} {A0 : Array Value} {D : va_G} {aC : Nat → ClassId} {ad : Nat → Nat} {G : AH} {σ : XS} (hS : yS l S0 A0 D aC) (hX : atX aC ad G σ) (intruder : Int32) (minute : Int32) : yM l S0 D yX3_addStep cX3_addStep 3 (some .int) 11 0 0 [.ref (ad 8), .int intruder, .int minute] G (fun r G1 => r = some (.int (xat (xstep σ intruder minute) 20 intruder)) ∧ atX aC ad G1 (xstep σ intruder minute) ∧ keepX G G1) (fun _ _ => False) := by
  refine yM.ofK K_X3_addStep rfl (by decide) (Nat.le_of_ble_eq_true rfl) ?_
  refine y_blk 1 tq_X3_addStep (z := (1, [(0, .ref (ad 8)), (1, .int intruder), (2, .int minute)], [.ref (ad 8)])) rfl ?_
  refine y_get hS tq_X3_addStep (v := .ref (ad 140)) rfl fg_X3_29_X3 (hX.1 8 _ rfl) rfl ?_
  refine y_blk 2 tq_X3_addStep (z := (6, [(0, .ref (ad 8)), (1, .int intruder), (2, .int minute)], [.ref (ad 8), .int intruder, .ref (ad 140)])) rfl ?_
  refine y_get hS tq_X3_addStep (v := .ref (ad 140)) rfl fg_X3_29_X3 (hX.1 8 _ rfl) rfl ?_
  refine y_blk 1 tq_X3_addStep (z := (10, [(0, .ref (ad 8)), (1, .int intruder), (2, .int minute)], [.int intruder, .ref (ad 140), .int intruder, .ref (ad 140)])) rfl ?_
  refine y_callV hS tq_X3_addStep rfl (As := [.int intruder]) rfl cv_X3_77 (hX.num (k := 20) (by decide)) (m_X5_at hS hX (k := 20) (by decide) intruder) rfl (by decide) (Nat.le_of_ble_eq_true rfl) (fun r10 Gc10 q10 => ?_) (fun E9 G9 h9 => h9.elim)
  obtain ⟨rfl, eG10⟩ := q10
  have eG10 := eG10.symm
  subst eG10
  refine y_blk 2 tq_X3_addStep (z := (15, [(0, .ref (ad 8)), (1, .int intruder), (2, .int minute)], [.int ((xat σ 20 intruder) + 1), .int intruder, .ref (ad 140)])) rfl ?_
  refine y_callV hS tq_X3_addStep rfl (As := [.int intruder, .int ((xat σ 20 intruder) + 1)]) rfl cv_X3_63 (hX.num (k := 20) (by decide)) (m_X5_put hS hX (k := 20) (by decide) intruder ((xat σ 20 intruder) + 1) (fun q => absurd q (by decide))) rfl (by decide) (Nat.le_of_ble_eq_true rfl) (fun r15 Gc15 q15 => ?_) (fun E9 G9 h9 => h9.elim)
  obtain ⟨rfl, hXc15, hFc15⟩ := q15
  refine y_blk 1 tq_X3_addStep (z := (19, [(0, .ref (ad 8)), (1, .int intruder), (2, .int minute)], [.ref (ad 8)])) rfl ?_
  refine y_get hS tq_X3_addStep (v := .ref (ad 142)) rfl fg_X3_32_X3 (hXc15.1 8 _ rfl) rfl ?_
  refine y_blk 2 tq_X3_addStep (z := (24, [(0, .ref (ad 8)), (1, .int intruder), (2, .int minute)], [.int minute, .int intruder, .ref (ad 142)])) rfl ?_
  refine y_callV hS tq_X3_addStep rfl (As := [.int intruder, .int minute]) rfl cv_X3_63 (hXc15.num (k := 21) (by decide)) (m_X5_put hS hXc15 (k := 21) (by decide) intruder minute (fun q => absurd q (by decide))) rfl (by decide) (Nat.le_of_ble_eq_true rfl) (fun r24 Gc24 q24 => ?_) (fun E9 G9 h9 => h9.elim)
  obtain ⟨rfl, hXc24, hFc24⟩ := q24
  refine y_blk 1 tq_X3_addStep (z := (28, [(0, .ref (ad 8)), (1, .int intruder), (2, .int minute)], [.ref (ad 8)])) rfl ?_
  refine y_get hS tq_X3_addStep (v := .ref (ad 140)) rfl fg_X3_29_X3 (hXc24.1 8 _ rfl) rfl ?_
  refine y_blk 1 tq_X3_addStep (z := (32, [(0, .ref (ad 8)), (1, .int intruder), (2, .int minute)], [.int intruder, .ref (ad 140)])) rfl ?_
  refine y_callV hS tq_X3_addStep rfl (As := [.int intruder]) rfl cv_X3_77 (hXc24.num (k := 20) (by decide)) (m_X5_at hS hXc24 (k := 20) (by decide) intruder) rfl (by decide) (Nat.le_of_ble_eq_true rfl) (fun r32 Gc32 q32 => ?_) (fun E9 G9 h9 => h9.elim)
  obtain ⟨rfl, eG32⟩ := q32
  have eG32 := eG32.symm
  subst eG32
  refine y_blk 0 tq_X3_addStep (z := (35, [(0, .ref (ad 8)), (1, .int intruder), (2, .int minute)], [.int (xat ((xput ((xput σ 20 intruder ((xat σ 20 intruder) + 1))) 21 intruder minute)) 20 intruder)])) rfl ?_
  exact y_iret tq_X3_addStep rfl rfl (⟨rfl, hXc24, ((keepX.rfl'.trans hFc15).trans hFc24)⟩)
set_option maxHeartbeats 4000000 in
set_option maxRecDepth 100000 in
theorem m_X3_areStepsSound {l : Launch} {S0 : State} {A0 : Array Value} {D : va_G} {aC : Nat → ClassId} {ad : Nat → Nat} {G : AH} {σ : XS} (hS : yS l S0 A0 D aC) (hX : atX aC ad G σ) : yM l S0 D yX3_areStepsSound cX3_areStepsSound 2 (some .boolean) 12 0 0 [.ref (ad 8)] G (fun r G1 => (∃ v : Int32, (v = 0 ∨ v = 1) ∧ r = some (.int v)) ∧ G1 = G) (fun _ _ => False) := by
  refine yM.ofK K_X3_areStepsSound rfl (by decide) (Nat.le_of_ble_eq_true rfl) ?_
  have J2 : ∀ (n2 : Nat) (v2_1 : Int32), ((σ.1 16 : Int32).toInt - v2_1.toInt).toNat = n2 → Y l S0 D K_X3_areStepsSound 12 0 0 (fun r G1 => (∃ v : Int32, (v = 0 ∨ v = 1) ∧ r = some (.int v)) ∧ G1 = G) (fun _ _ => False) 2 [(0, .ref (ad 8)), (1, .int v2_1)] [] G 0 0 := by
    intro n2
    induction n2 using Nat.strongRecOn with
    | _ n2 ih2 =>
    intro v2_1 hn2
    subst hn2
    refine y_blk 2 tq_X3_areStepsSound (z := (4, [(0, .ref (ad 8)), (1, .int v2_1)], [.ref (ad 8), .int v2_1])) rfl ?_
    refine y_callV hS tq_X3_areStepsSound rfl (As := []) rfl cv_X3_57 (hX.1 8 _ rfl) (m_X3_count hS hX ) rfl (by decide) (Nat.le_of_ble_eq_true rfl) (fun r4 Gc4 q4 => ?_) (fun E9 G9 h9 => h9.elim)
    obtain ⟨rfl, eG4⟩ := q4
    have eG4 := eG4.symm
    subst eG4
    refine y_blk 0 tq_X3_areStepsSound (z := (7, [(0, .ref (ad 8)), (1, .int v2_1)], [.int (σ.1 16), .int v2_1])) rfl ?_
    refine y_icmp_ge tq_X3_areStepsSound 30 rfl rfl (fun c7 => ?_) (fun c7 => ?_)
    · skip
      refine y_blk 1 tq_X3_areStepsSound (z := (31, [(0, .ref (ad 8)), (1, .int v2_1)], [.int 1])) rfl ?_
      exact y_zret tq_X3_areStepsSound rfl rfl (rfl) (⟨⟨_, (Or.inr rfl), rfl⟩, rfl⟩)
    · skip
      refine y_blk 1 tq_X3_areStepsSound (z := (11, [(0, .ref (ad 8)), (1, .int v2_1)], [.ref (ad 8)])) rfl ?_
      refine y_get hS tq_X3_areStepsSound (v := .ref (ad 140)) rfl fg_X3_29_X3 (hX.1 8 _ rfl) rfl ?_
      refine y_blk 1 tq_X3_areStepsSound (z := (15, [(0, .ref (ad 8)), (1, .int v2_1)], [.int v2_1, .ref (ad 140)])) rfl ?_
      refine y_callV hS tq_X3_areStepsSound rfl (As := [.int v2_1]) rfl cv_X3_77 (hX.num (k := 20) (by decide)) (m_X5_at hS hX (k := 20) (by decide) v2_1) rfl (by decide) (Nat.le_of_ble_eq_true rfl) (fun r15 Gc15 q15 => ?_) (fun E9 G9 h9 => h9.elim)
      obtain ⟨rfl, eG15⟩ := q15
      have eG15 := eG15.symm
      subst eG15
      refine y_blk 1 tq_X3_areStepsSound (z := (19, [(0, .ref (ad 8)), (1, .int v2_1)], [.int 4, .int (xat σ 20 v2_1)])) rfl ?_
      refine y_icmp_le tq_X3_areStepsSound 24 rfl rfl (fun c19 => ?_) (fun c19 => ?_)
      · skip
        refine y_blk 2 tq_X3_areStepsSound (z := (2, [(1, .int (v2_1 + 1)), (0, .ref (ad 8))], [])) rfl ?_
        refine y_pick (L2 := [(0, .ref (ad 8)), (1, .int (v2_1 + 1))]) [1, 0] rfl ?_
        exact ih2 _ (by exact ydec c7) (v2_1 + 1) rfl
      · skip
        refine y_blk 1 tq_X3_areStepsSound (z := (23, [(0, .ref (ad 8)), (1, .int v2_1)], [.int 0])) rfl ?_
        exact y_zret tq_X3_areStepsSound rfl rfl (rfl) (⟨⟨_, (Or.inl rfl), rfl⟩, rfl⟩)
  refine y_blk 2 tq_X3_areStepsSound (z := (2, [(1, .int 0), (0, .ref (ad 8))], [])) rfl ?_
  refine y_pick (L2 := [(0, .ref (ad 8)), (1, .int 0)]) [1, 0] rfl ?_
  exact J2 _ 0 rfl
set_option maxHeartbeats 4000000 in
set_option maxRecDepth 100000 in
theorem m_X3_come {l : Launch} {S0 : State} {A0 : Array Value} {D : va_G} {aC : Nat → ClassId} {ad : Nat → Nat} {G : AH} {σ : XS} (hS : yS l S0 A0 D aC) (hX : atX aC ad G σ) (cell : Int32) (minute : Int32) (moves : Int32) (hm : 0 ≤ minute.toInt) (hm2 : minute.toInt ≤ 239) (hmv : 0 ≤ moves.toInt) (hs3 : 0 ≤ (σ.1 16).toInt ∧ (σ.1 16).toInt ≤ 3) : yM l S0 D yX3_come cX3_come 6 (some .boolean) 14 0 0 [.ref (ad 8), .ref (ad 2), .int cell, .int minute, .int moves] G (fun r G1 => (∃ v : Int32, (v = 0 ∨ v = 1) ∧ r = some (.int v)) ∧ ∃ σ1 : XS, atX aC ad G1 σ1 ∧ keepX G G1 ∧ xfr [16, 17, 18, 20, 21, 40, 41, 42, 43, 44, 45] σ σ1 ∧ xcoR σ σ1 cell minute moves r) (fun _ _ => False) := by
  refine yM.ofK K_X3_come rfl (by decide) (Nat.le_of_ble_eq_true rfl) ?_
  refine y_blk 5 tq_X3_come (z := (6, [(0, .ref (ad 8)), (1, .ref (ad 2)), (2, .int cell), (3, .int minute), (4, .int moves)], [.int moves, .int minute, .int cell, .ref (ad 2), .ref (ad 8)])) rfl ?_
  refine y_callV hS tq_X3_come rfl (As := [.ref (ad 2), .int cell, .int minute, .int moves]) rfl cv_X3_46 (hX.1 8 _ rfl) (m_X3_walk hS hX cell minute moves hm hm2 hmv hs3) rfl (by decide) (Nat.le_of_ble_eq_true rfl) (fun r6 Gc6 q6 => ?_) (fun E9 G9 h9 => h9.elim)
  obtain ⟨⟨x6, hr_x6, rfl⟩, σ6, hXc6, hFc6, knc6, hR6⟩ := q6
  refine y_blk 3 tq_X3_come (z := (14, [(5, .int x6), (0, .ref (ad 8)), (1, .ref (ad 2)), (2, .int cell), (3, .int minute), (4, .int moves)], [.int (-1), .int x6])) rfl ?_
  refine y_icmp_ne tq_X3_come 19 rfl rfl (fun c14 => ?_) (fun c14 => ?_)
  · skip
    refine y_blk 1 tq_X3_come (z := (20, [(5, .int x6), (0, .ref (ad 8)), (1, .ref (ad 2)), (2, .int cell), (3, .int minute), (4, .int moves)], [.ref (ad 8)])) rfl ?_
    refine y_get hS tq_X3_come (v := .ref (ad 132)) rfl fg_X3_16_X3 (hXc6.1 8 _ rfl) rfl ?_
    refine y_blk 1 tq_X3_come (z := (24, [(5, .int x6), (0, .ref (ad 8)), (1, .ref (ad 2)), (2, .int cell), (3, .int minute), (4, .int moves)], [.int minute, .ref (ad 132)])) rfl ?_
    refine y_callV hS tq_X3_come rfl (As := [.int minute]) rfl cv_X3_50 (hXc6.num (k := 16) (by decide)) (m_X5_add hS hXc6 (k := 16) (by decide) minute (fun q => absurd q (by decide))) rfl (by decide) (Nat.le_of_ble_eq_true rfl) (fun r24 Gc24 q24 => ?_) (fun E9 G9 h9 => h9.elim)
    obtain ⟨rfl, hXc24, hFc24⟩ := q24
    refine y_blk 1 tq_X3_come (z := (28, [(5, .int x6), (0, .ref (ad 8)), (1, .ref (ad 2)), (2, .int cell), (3, .int minute), (4, .int moves)], [.ref (ad 8)])) rfl ?_
    refine y_get hS tq_X3_come (v := .ref (ad 134)) rfl fg_X3_20_X3 (hXc24.1 8 _ rfl) rfl ?_
    refine y_blk 1 tq_X3_come (z := (33, [(5, .int x6), (0, .ref (ad 8)), (1, .ref (ad 2)), (2, .int cell), (3, .int minute), (4, .int moves)], [.int moves, .ref (ad 134)])) rfl ?_
    refine y_callS hS tq_X3_come rfl (As := [.int moves]) rfl cs_X3_53 (m_X3_countDigits hS  moves) rfl (by decide) (Nat.le_of_ble_eq_true rfl) (fun r33 Gc33 q33 => ?_) (fun E9 G9 h9 => h9.elim)
    obtain ⟨rfl, eG33⟩ := q33
    have eG33 := eG33.symm
    subst eG33
    refine y_blk 0 tq_X3_come (z := (36, [(5, .int x6), (0, .ref (ad 8)), (1, .ref (ad 2)), (2, .int cell), (3, .int minute), (4, .int moves)], [.int (Int32.ofNat (ndg moves.toInt.toNat)), .ref (ad 134)])) rfl ?_
    refine y_callV hS tq_X3_come rfl (As := [.int (Int32.ofNat (ndg moves.toInt.toNat))]) rfl cv_X3_50 (hXc24.num (k := 17) (by decide)) (m_X5_add hS hXc24 (k := 17) (by decide) (Int32.ofNat (ndg moves.toInt.toNat)) (fun q => absurd q (by decide))) rfl (by decide) (Nat.le_of_ble_eq_true rfl) (fun r36 Gc36 q36 => ?_) (fun E9 G9 h9 => h9.elim)
    obtain ⟨rfl, hXc36, hFc36⟩ := q36
    refine y_blk 1 tq_X3_come (z := (40, [(5, .int x6), (0, .ref (ad 8)), (1, .ref (ad 2)), (2, .int cell), (3, .int minute), (4, .int moves)], [.ref (ad 8)])) rfl ?_
    refine y_get hS tq_X3_come (v := .ref (ad 136)) rfl fg_X3_23_X3 (hXc36.1 8 _ rfl) rfl ?_
    refine y_blk 1 tq_X3_come (z := (45, [(5, .int x6), (0, .ref (ad 8)), (1, .ref (ad 2)), (2, .int cell), (3, .int minute), (4, .int moves)], [.int x6, .ref (ad 136)])) rfl ?_
    refine y_callV hS tq_X3_come rfl (As := [.int x6]) rfl cv_X3_50 (hXc36.num (k := 18) (by decide)) (m_X5_add hS hXc36 (k := 18) (by decide) x6 (fun _ => hr_x6)) rfl (by decide) (Nat.le_of_ble_eq_true rfl) (fun r45 Gc45 q45 => ?_) (fun E9 G9 h9 => h9.elim)
    obtain ⟨rfl, hXc45, hFc45⟩ := q45
    refine y_blk 1 tq_X3_come (z := (49, [(5, .int x6), (0, .ref (ad 8)), (1, .ref (ad 2)), (2, .int cell), (3, .int minute), (4, .int moves)], [.ref (ad 8)])) rfl ?_
    refine y_get hS tq_X3_come (v := .ref (ad 140)) rfl fg_X3_29_X3 (hXc45.1 8 _ rfl) rfl ?_
    refine y_blk 1 tq_X3_come (z := (53, [(5, .int x6), (0, .ref (ad 8)), (1, .ref (ad 2)), (2, .int cell), (3, .int minute), (4, .int moves)], [.int 0, .ref (ad 140)])) rfl ?_
    refine y_callV hS tq_X3_come rfl (As := [.int 0]) rfl cv_X3_50 (hXc45.num (k := 20) (by decide)) (m_X5_add hS hXc45 (k := 20) (by decide) 0 (fun q => absurd q (by decide))) rfl (by decide) (Nat.le_of_ble_eq_true rfl) (fun r53 Gc53 q53 => ?_) (fun E9 G9 h9 => h9.elim)
    obtain ⟨rfl, hXc53, hFc53⟩ := q53
    refine y_blk 1 tq_X3_come (z := (57, [(5, .int x6), (0, .ref (ad 8)), (1, .ref (ad 2)), (2, .int cell), (3, .int minute), (4, .int moves)], [.ref (ad 8)])) rfl ?_
    refine y_get hS tq_X3_come (v := .ref (ad 142)) rfl fg_X3_32_X3 (hXc53.1 8 _ rfl) rfl ?_
    refine y_blk 1 tq_X3_come (z := (61, [(5, .int x6), (0, .ref (ad 8)), (1, .ref (ad 2)), (2, .int cell), (3, .int minute), (4, .int moves)], [.int (-1), .ref (ad 142)])) rfl ?_
    refine y_callV hS tq_X3_come rfl (As := [.int (-1)]) rfl cv_X3_50 (hXc53.num (k := 21) (by decide)) (m_X5_add hS hXc53 (k := 21) (by decide) (-1) (fun q => absurd q (by decide))) rfl (by decide) (Nat.le_of_ble_eq_true rfl) (fun r61 Gc61 q61 => ?_) (fun E9 G9 h9 => h9.elim)
    obtain ⟨rfl, hXc61, hFc61⟩ := q61
    refine y_blk 1 tq_X3_come (z := (65, [(5, .int x6), (0, .ref (ad 8)), (1, .ref (ad 2)), (2, .int cell), (3, .int minute), (4, .int moves)], [.int 1])) rfl ?_
    exact y_zret tq_X3_come rfl rfl (rfl) (⟨⟨_, (Or.inr rfl), rfl⟩, _, hXc61, ((((((keepX.rfl'.trans hFc6).trans hFc24).trans hFc36).trans hFc45).trans hFc53).trans hFc61), ((xkn.trans (xkn.trans (xkn.trans (xkn.trans (xkn.trans (xkn.trans xkn.rfl' knc6) xkn_add) xkn_add) xkn_add) xkn_add) xkn_add)).w, (by first | (have z9 := xcoR.yes knc6 hR6 c14; exact z9) | (have z9 := xcoR.no knc6 hR6 c14; exact z9))⟩)
  · skip
    refine y_blk 1 tq_X3_come (z := (18, [(5, .int x6), (0, .ref (ad 8)), (1, .ref (ad 2)), (2, .int cell), (3, .int minute), (4, .int moves)], [.int 0])) rfl ?_
    exact y_zret tq_X3_come rfl rfl (rfl) (⟨⟨_, (Or.inl rfl), rfl⟩, _, hXc6, (keepX.rfl'.trans hFc6), ((xkn.trans xkn.rfl' knc6)).w, (by first | (have z9 := xcoR.yes knc6 hR6 c14; exact z9) | (have z9 := xcoR.no knc6 hR6 c14; exact z9))⟩)
