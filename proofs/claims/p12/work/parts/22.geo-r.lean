/-! ===== the reference: elements of its lists, its geometry ===== -/
section YGR
variable {l : Launch} {S0 : State} {A0 : Array Value} {D : va_G} {aC : Nat → ClassId} {ic : Int32 → Nat} {de : Nat} {ad : Nat → Nat} {G G1 : AH} {ρ : RS}
theorem m_Rla (hS : yS l S0 A0 D aC) (hX : atR aC ic de ad G ρ) {i : Int32} (h0 : 0 ≤ i.toInt) (h1 : i.toInt < rZ ρ 210) : yM l S0 D yJx4a65c_get_915e3 cJx4a65c_get_915e3 2 (some (.object "java/lang/Object")) 12 0 0 [.ref (ad 210), .int i] G (fun r G1 => r = some (.ref (ad (300 + i.toNatClampNeg))) ∧ G1 = G) (fun _ _ => False) := m_Jget hS (hX.ls 210 (by decide)) h0 h1
theorem m_Rfo (hS : yS l S0 A0 D aC) (hX : atR aC ic de ad G ρ) {i : Int32} (h0 : 0 ≤ i.toInt) (h1 : i.toInt < rZ ρ 211) : yM l S0 D yJx4a65c_get_915e3 cJx4a65c_get_915e3 2 (some (.object "java/lang/Object")) 12 0 0 [.ref (ad 211), .int i] G (fun r G1 => r = some (.ref (ad (320 + i.toNatClampNeg))) ∧ G1 = G) (fun _ _ => False) := m_Jget hS (hX.ls 211 (by decide)) h0 h1
theorem m_Rgu (hS : yS l S0 A0 D aC) (hX : atR aC ic de ad G ρ) {i : Int32} (h0 : 0 ≤ i.toInt) (h1 : i.toInt < rZ ρ 212) : yM l S0 D yJx4a65c_get_915e3 cJx4a65c_get_915e3 2 (some (.object "java/lang/Object")) 12 0 0 [.ref (ad 212), .int i] G (fun r G1 => r = some (.ref (ad (360 + i.toNatClampNeg))) ∧ G1 = G) (fun _ _ => False) := m_Jget hS (hX.ls 212 (by decide)) h0 h1
theorem m_Rpo (hS : yS l S0 A0 D aC) (hX : atR aC ic de ad G ρ) {i : Int32} (h0 : 0 ≤ i.toInt) (h1 : i.toInt < rZ ρ 213) : yM l S0 D yJx4a65c_get_915e3 cJx4a65c_get_915e3 2 (some (.object "java/lang/Object")) 12 0 0 [.ref (ad 213), .int i] G (fun r G1 => r = some (.ref (ic (rV ρ 213 i.toNatClampNeg))) ∧ G1 = G) (fun _ _ => False) := m_Jget hS (hX.ls 213 (by decide)) h0 h1
theorem m_Rol (hS : yS l S0 A0 D aC) (hX : atR aC ic de ad G ρ) {i : Int32} (h0 : 0 ≤ i.toInt) (h1 : i.toInt < rZ ρ 214) : yM l S0 D yJx4a65c_get_915e3 cJx4a65c_get_915e3 2 (some (.object "java/lang/Object")) 12 0 0 [.ref (ad 214), .int i] G (fun r G1 => r = some (.ref (ic (rV ρ 214 i.toNatClampNeg))) ∧ G1 = G) (fun _ _ => False) := m_Jget hS (hX.ls 214 (by decide)) h0 h1
theorem m_Rin (hS : yS l S0 A0 D aC) (hX : atR aC ic de ad G ρ) {i : Int32} (h0 : 0 ≤ i.toInt) (h1 : i.toInt < rZ ρ 215) : yM l S0 D yJx4a65c_get_915e3 cJx4a65c_get_915e3 2 (some (.object "java/lang/Object")) 12 0 0 [.ref (ad 215), .int i] G (fun r G1 => r = some (.ref (ad (420 + i.toNatClampNeg))) ∧ G1 = G) (fun _ _ => False) := m_Jget hS (hX.ls 215 (by decide)) h0 h1
theorem m_Rwi (hS : yS l S0 A0 D aC) (hX : atR aC ic de ad G ρ) {i : Int32} (h0 : 0 ≤ i.toInt) (h1 : i.toInt < rZ ρ 216) : yM l S0 D yJx4a65c_get_915e3 cJx4a65c_get_915e3 2 (some (.object "java/lang/Object")) 12 0 0 [.ref (ad 216), .int i] G (fun r G1 => r = some (.ref (ad (340 + i.toNatClampNeg))) ∧ G1 = G) (fun _ _ => False) := m_Jget hS (hX.ls 216 (by decide)) h0 h1
theorem m_Rgc (hS : yS l S0 A0 D aC) (hX : atR aC ic de ad G ρ) {k : Nat} (hk : k < rZ ρ 212) {i : Int32} (h0 : 0 ≤ i.toInt) (h1 : i.toInt < rZ ρ (380 + k)) : yM l S0 D yJx4a65c_get_915e3 cJx4a65c_get_915e3 2 (some (.object "java/lang/Object")) 12 0 0 [.ref (ad (380 + k)), .int i] G (fun r G1 => r = some (.ref (ic (rV ρ (380 + k) i.toNatClampNeg))) ∧ G1 = G) (fun _ _ => False) := by
  have h := m_Jget hS (hX.gl hk) h0 h1
  rw [rEl_g (by have h9 := hX.2.2.1.2.2.1; omega)] at h
  exact h
/-- checkcast to Integer -/
theorem y_castI {K : yK} {d mc ms : Nat} {Q : Option Value → AH → Prop} {X : String → AH → Prop} {T : yT} {pc kc ks : Nat} {L : yL} {rest : List Value} (hS : yS l S0 A0 D aC) (hT : yTok K.cc T) {ix a : Nat} {v : Int32} (ht : yat pc T = some (.checkcast ix, 3)) (hf : yCK K.own ix 2) (hO : yInt S0 a v) (kk : Y l S0 D K d mc ms Q X (pc + 3) L (.ref a :: rest) G kc ks) : Y l S0 D K d mc ms Q X pc L (.ref a :: rest) G kc ks := by
  obtain ⟨C, T9, N, hcl, hw⟩ := hf
  have e : (RJ6, TJ6, 1) = (C, T9, N) := Option.some.inj ((show vwCl[2]? = some (RJ6, TJ6, 1) from rfl).symm.trans hcl.1)
  cases e
  exact y_castO hS hT ht hw hO.1 kk
theorem yIntO {a : Nat} {v : Int32} (h : yInt S0 a v) : ∃ C T9 N, vwCl[2]? = some (C, T9, N) ∧ va_O C a (yOld S0) S0 S0.heap := ⟨RJ6, TJ6, 1, rfl, h.1⟩
/-- values of the state in their bounds -/
theorem atR.lac (h : atR aC ic de ad G ρ) {k : Nat} (q : k < rZ ρ 210) : rcell ρ (rV ρ (300 + k) (Int32.toNatClampNeg 0)) := h.2.2.2.2.2.2.2.1 k q
theorem atR.poc (h : atR aC ic de ad G ρ) {k : Nat} (q : k < rZ ρ 213) : rcell ρ (rV ρ 213 k) := h.2.2.2.2.2.2.2.2 k q
theorem atR.gcc (h : atR aC ic de ad G ρ) {k : Nat} (q : k < rZ ρ 212) {i : Nat} (q2 : i < rZ ρ (380 + k)) : rcell ρ (rV ρ (380 + k) i) := (h.2.2.2.1 k q).2.2.2.2 i q2
theorem atR.wac (h : atR aC ic de ad G ρ) {k : Nat} (q : k < rZ ρ 215) {m : Int32} (h1 : (rF ρ (420 + k) 0).toInt ≤ m.toInt) (h2 : m.toInt < 240) : rcell ρ (rV ρ (440 + k) m.toNatClampNeg) := by
  have h9 := h.2.2.2.2.1 k q
  have e : ((m.toNatClampNeg : Nat) : Int) = m.toInt := yclamp (by omega)
  exact h9.2 _ (by omega) (by omega)
theorem rcell.w (h : atR aC ic de ad G ρ) {v : Int32} (hv : rcell ρ v) : ¬ rI ρ 1 = 0 := by
  intro e
  rcases h.2.1 with ⟨q, -⟩ | q
  · have h1 := hv.1
    have h2 := hv.2
    omega
  · rw [e, yl_0] at q
    omega
def ysg (i : Int32) : Int32 := (i >>> (31 &&& 31)) ||| ((Int32.toUInt32 (-i) >>> (Int32.toUInt32 31 &&& Int32.toUInt32 31)).toInt32)
theorem ysg_t : ∀ n : Nat, n < 129 → (ysg (Int32.ofNat n - 64)).toInt = (if n < 64 then -1 else if n = 64 then 0 else 1 : Int) := by decide +kernel
theorem ysg_ok {i : Int32} (h1 : -64 ≤ i.toInt) (h2 : i.toInt ≤ 64) : (ysg i).toInt = if i.toInt < 0 then -1 else if i.toInt = 0 then 0 else 1 := by
  have e2 : (64 : Int32).toInt = 64 := yl_64
  have e1 : (i + 64).toInt = i.toInt + 64 := by rw [yadd (by rw [e2]; omega) (by rw [e2]; omega), e2]
  have e4 : (i + 64).toNatClampNeg = (i + 64).toInt.toNat := rfl
  have e3 : (Int32.ofNat ((i + 64).toNatClampNeg)).toInt = i.toInt + 64 := by
    rw [Int32.toInt_ofNat_of_lt (by omega), e4]
    omega
  have e : Int32.ofNat ((i + 64).toNatClampNeg) - 64 = i := by
    apply Int32.toInt_inj.mp
    rw [ysub (by rw [e3, e2]; omega) (by rw [e3, e2]; omega), e3, e2]
    omega
  have h := ysg_t ((i + 64).toNatClampNeg) (by omega)
  rw [e] at h
  rw [h]
  by_cases q1 : i.toInt < 0
  · rw [if_pos q1, if_pos (by omega)]
  · rw [if_neg q1, if_neg (by omega)]
    by_cases q2 : i.toInt = 0
    · rw [if_pos q2, if_pos (by omega)]
    · rw [if_neg q2, if_neg (by omega)]
theorem ydivn {x w : Int32} (h1 : 0 ≤ x.toInt) (h2 : 1 ≤ w.toInt) : (x / w).toInt = x.toInt / w.toInt := by
  have h3 := yrng x
  rw [Int32.toInt_div, Int.tdiv_eq_ediv_of_nonneg h1]
  have h4 : x.toInt / w.toInt ≤ x.toInt := Int.ediv_le_self _ h1
  have h5 : 0 ≤ x.toInt / w.toInt := Int.ediv_nonneg h1 (by omega)
  exact ybmod (by omega) (by omega)
/-- row and column of a cell -/
theorem yrc {W H a : Int} (hW : 1 ≤ W) (h1 : 0 ≤ a) (h2 : a < W * H) : 0 ≤ a / W ∧ a / W < H ∧ 0 ≤ a - a / W * W ∧ a - a / W * W < W ∧ a = a / W * W + (a - a / W * W) := by
  have e1 := Int.mul_ediv_add_emod a W
  have e2 := Int.emod_nonneg a (show W ≠ 0 by omega)
  have e3 := Int.emod_lt_of_pos a (show 0 < W by omega)
  have e4 : W * (a / W) = a / W * W := Int.mul_comm _ _
  refine ⟨Int.ediv_nonneg h1 (by omega), Int.ediv_lt_of_lt_mul (by omega) (by rw [Int.mul_comm]; exact h2), by omega, by omega, by omega⟩
theorem yrcN {W H r c : Int} (h1 : 0 ≤ r) (h2 : r < H) (h3 : 0 ≤ c) (h4 : c < W) : 0 ≤ r * W + c ∧ r * W + c < W * H := by
  have e1 : 0 ≤ r * W := Int.mul_nonneg h1 (by omega)
  have e2 : (r + 1) * W ≤ H * W := Int.mul_le_mul_of_nonneg_right (by omega) (by omega)
  have e3 : (r + 1) * W = r * W + W := by rw [Int.add_mul, Int.one_mul]
  have e4 : W * H = H * W := Int.mul_comm _ _
  omega
/-- between two cells in line -/
theorem ylineI {W H a b k s1 s2 far : Int} (hW : 1 ≤ W) (a1 : 0 ≤ a) (a2 : a < W * H) (b1 : 0 ≤ b) (b2 : b < W * H)
    (hs1 : s1 = if b / W - a / W < 0 then -1 else if b / W - a / W = 0 then 0 else 1) (hs2 : s2 = if (b - b / W * W) - (a - a / W * W) < 0 then -1 else if (b - b / W * W) - (a - a / W * W) = 0 then 0 else 1)
    (hd : b / W - a / W = 0 ∨ (b - b / W * W) - (a - a / W * W) = 0 ∨ b / W - a / W = (b - b / W * W) - (a - a / W * W) ∨ b / W - a / W = -((b - b / W * W) - (a - a / W * W)))
    (hf : far = b / W - a / W ∨ far = -(b / W - a / W) ∨ far = (b - b / W * W) - (a - a / W * W) ∨ far = -((b - b / W * W) - (a - a / W * W))) (hf1 : b / W - a / W ≤ far) (hf2 : -(b / W - a / W) ≤ far) (hf3 : (b - b / W * W) - (a - a / W * W) ≤ far) (hf4 : -((b - b / W * W) - (a - a / W * W)) ≤ far)
    (k1 : 1 ≤ k) (k2 : k < far) : 0 ≤ a + k * (s1 * W + s2) ∧ a + k * (s1 * W + s2) < W * H := by
  obtain ⟨p1, p2, p3, p4, p5⟩ := yrc hW a1 a2
  obtain ⟨q1, q2, q3, q4, q5⟩ := yrc hW b1 b2
  generalize a / W = r1 at *
  generalize b / W = r2 at *
  generalize a - r1 * W = c1 at *
  generalize b - r2 * W = c2 at *
  have key : ∀ t1 t2 : Int, s1 = t1 → s2 = t2 → 0 ≤ r1 + k * t1 → r1 + k * t1 < H → 0 ≤ c1 + k * t2 → c1 + k * t2 < W → 0 ≤ a + k * (s1 * W + s2) ∧ a + k * (s1 * W + s2) < W * H := by
    intro t1 t2 e1 e2 g1 g2 g3 g4
    have h := yrcN g1 g2 g3 g4
    have e : a + k * (s1 * W + s2) = (r1 + k * t1) * W + (c1 + k * t2) := by
      rw [e1, e2, p5, Int.mul_add, Int.add_mul, ← Int.mul_assoc]
      omega
    rw [e]
    exact h
  by_cases u1 : r2 - r1 < 0
  · rw [if_pos u1] at hs1
    by_cases u2 : c2 - c1 < 0
    · rw [if_pos u2] at hs2
      exact key (-1) (-1) hs1 hs2 (by omega) (by omega) (by omega) (by omega)
    · rw [if_neg u2] at hs2
      by_cases u3 : c2 - c1 = 0
      · rw [if_pos u3] at hs2
        exact key (-1) 0 hs1 hs2 (by omega) (by omega) (by omega) (by omega)
      · rw [if_neg u3] at hs2
        exact key (-1) 1 hs1 hs2 (by omega) (by omega) (by omega) (by omega)
  · rw [if_neg u1] at hs1
    by_cases u4 : r2 - r1 = 0
    · rw [if_pos u4] at hs1
      by_cases u2 : c2 - c1 < 0
      · rw [if_pos u2] at hs2
        exact key 0 (-1) hs1 hs2 (by omega) (by omega) (by omega) (by omega)
      · rw [if_neg u2] at hs2
        by_cases u3 : c2 - c1 = 0
        · rw [if_pos u3] at hs2
          exact key 0 0 hs1 hs2 (by omega) (by omega) (by omega) (by omega)
        · rw [if_neg u3] at hs2
          exact key 0 1 hs1 hs2 (by omega) (by omega) (by omega) (by omega)
    · rw [if_neg u4] at hs1
      by_cases u2 : c2 - c1 < 0
      · rw [if_pos u2] at hs2
        exact key 1 (-1) hs1 hs2 (by omega) (by omega) (by omega) (by omega)
      · rw [if_neg u2] at hs2
        by_cases u3 : c2 - c1 = 0
        · rw [if_pos u3] at hs2
          exact key 1 0 hs1 hs2 (by omega) (by omega) (by omega) (by omega)
        · rw [if_neg u3] at hs2
          exact key 1 1 hs1 hs2 (by omega) (by omega) (by omega) (by omega)
abbrev yab (x : Int32) : Int32 := if 0 ≤ x then x else 0 - x
abbrev yrow (w a : Int32) : Int32 := a / w
abbrev ycol (w a : Int32) : Int32 := a - a / w * w
theorem yab_ok {x : Int32} (h1 : -64 ≤ x.toInt) (h2 : x.toInt ≤ 64) : (yab x).toInt = if 0 ≤ x.toInt then x.toInt else -x.toInt := by
  unfold yab
  by_cases q : 0 ≤ x
  · have q2 := yle.mp q
    rw [yl_0] at q2
    rw [if_pos q, if_pos q2]
  · have q2 : ¬ 0 ≤ x.toInt := fun z => q (yle.mpr (by rw [yl_0]; exact z))
    rw [if_neg q, if_neg q2, ysub (by rw [yl_0]; omega) (by rw [yl_0]; omega), yl_0]
    omega
/-- the same over ints of 32 bits -/
theorem yline (h : atR aC ic de ad G ρ) {one other k far st : Int32} (h1 : rcell ρ one) (h2 : rcell ρ other)
    (hd : other / rI ρ 1 - one / rI ρ 1 = 0 ∨ (other - other / rI ρ 1 * rI ρ 1) - (one - one / rI ρ 1 * rI ρ 1) = 0 ∨ yab (other / rI ρ 1 - one / rI ρ 1) = yab ((other - other / rI ρ 1 * rI ρ 1) - (one - one / rI ρ 1 * rI ρ 1)))
    (hf : far = (if yab (one / rI ρ 1 - other / rI ρ 1) < yab ((one - one / rI ρ 1 * rI ρ 1) - (other - other / rI ρ 1 * rI ρ 1)) then yab ((one - one / rI ρ 1 * rI ρ 1) - (other - other / rI ρ 1 * rI ρ 1)) else yab (one / rI ρ 1 - other / rI ρ 1)))
    (hst : st = ysg (other / rI ρ 1 - one / rI ρ 1) * rI ρ 1 + ysg ((other - other / rI ρ 1 * rI ρ 1) - (one - one / rI ρ 1 * rI ρ 1)))
    (k1 : 1 ≤ k.toInt) (k2 : ¬ far ≤ k) : rcell ρ (one + k * st) := by
  rcases h.2.1 with ⟨q, -⟩ | ⟨w1, w2, w3, w4, hN⟩
  · have h3 := h1.1
    have h4 := h1.2
    omega
  have n64 := h.2.n64
  obtain ⟨a1, a2⟩ := h1
  obtain ⟨b1, b2⟩ := h2
  generalize rI ρ 1 = w at *
  rw [hN] at a2 b2
  have eN := hN
  obtain ⟨p1, p2, p3, p4, p5⟩ := yrc (W := w.toInt) (H := (rI ρ 2).toInt) (by omega) a1 a2
  obtain ⟨q1, q2, q3, q4, q5⟩ := yrc (W := w.toInt) (H := (rI ρ 2).toInt) (by omega) b1 b2
  have d1 := ydivn (x := one) (w := w) a1 (by omega)
  have d2 := ydivn (x := other) (w := w) b1 (by omega)
  have m1 : (one / w * w).toInt = one.toInt / w.toInt * w.toInt := by rw [ymul (by rw [d1]; omega) (by rw [d1]; omega), d1]
  have m2 : (other / w * w).toInt = other.toInt / w.toInt * w.toInt := by rw [ymul (by rw [d2]; omega) (by rw [d2]; omega), d2]
  have c1 : (one - one / w * w).toInt = one.toInt - one.toInt / w.toInt * w.toInt := by rw [ysub (by rw [m1]; omega) (by rw [m1]; omega), m1]
  have c2 : (other - other / w * w).toInt = other.toInt - other.toInt / w.toInt * w.toInt := by rw [ysub (by rw [m2]; omega) (by rw [m2]; omega), m2]
  have r1 : (other / w - one / w).toInt = other.toInt / w.toInt - one.toInt / w.toInt := by rw [ysub (by rw [d1, d2]; omega) (by rw [d1, d2]; omega), d1, d2]
  have r2 : (one / w - other / w).toInt = one.toInt / w.toInt - other.toInt / w.toInt := by rw [ysub (by rw [d1, d2]; omega) (by rw [d1, d2]; omega), d1, d2]
  have r3 : ((other - other / w * w) - (one - one / w * w)).toInt = (other.toInt - other.toInt / w.toInt * w.toInt) - (one.toInt - one.toInt / w.toInt * w.toInt) := by rw [ysub (by rw [c1, c2]; omega) (by rw [c1, c2]; omega), c1, c2]
  have r4 : ((one - one / w * w) - (other - other / w * w)).toInt = (one.toInt - one.toInt / w.toInt * w.toInt) - (other.toInt - other.toInt / w.toInt * w.toInt) := by rw [ysub (by rw [c1, c2]; omega) (by rw [c1, c2]; omega), c1, c2]
  have s1 := ysg_ok (i := other / w - one / w) (by rw [r1]; omega) (by rw [r1]; omega)
  have s2 := ysg_ok (i := (other - other / w * w) - (one - one / w * w)) (by rw [r3]; omega) (by rw [r3]; omega)
  have t1 := yab_ok (x := other / w - one / w) (by rw [r1]; omega) (by rw [r1]; omega)
  have t2 := yab_ok (x := one / w - other / w) (by rw [r2]; omega) (by rw [r2]; omega)
  have t3 := yab_ok (x := (other - other / w * w) - (one - one / w * w)) (by rw [r3]; omega) (by rw [r3]; omega)
  have t4 := yab_ok (x := (one - one / w * w) - (other - other / w * w)) (by rw [r4]; omega) (by rw [r4]; omega)
  rw [r1] at s1 t1
  rw [r3] at s2 t3
  rw [r2] at t2
  rw [r4] at t4
  have hd2 : other.toInt / w.toInt - one.toInt / w.toInt = 0 ∨ (other.toInt - other.toInt / w.toInt * w.toInt) - (one.toInt - one.toInt / w.toInt * w.toInt) = 0 ∨ other.toInt / w.toInt - one.toInt / w.toInt = (other.toInt - other.toInt / w.toInt * w.toInt) - (one.toInt - one.toInt / w.toInt * w.toInt) ∨ other.toInt / w.toInt - one.toInt / w.toInt = -((other.toInt - other.toInt / w.toInt * w.toInt) - (one.toInt - one.toInt / w.toInt * w.toInt)) := by
    rcases hd with z | z | z
    · have z2 := congrArg Int32.toInt z
      rw [r1, yl_0] at z2
      exact Or.inl z2
    · have z2 := congrArg Int32.toInt z
      rw [r3, yl_0] at z2
      exact Or.inr (Or.inl z2)
    · have z2 := congrArg Int32.toInt z
      rw [t1, t3] at z2
      split at z2 <;> split at z2 <;> omega
  have hfi : far.toInt = if (yab (one / w - other / w)).toInt < (yab ((one - one / w * w) - (other - other / w * w))).toInt then (yab ((one - one / w * w) - (other - other / w * w))).toInt else (yab (one / w - other / w)).toInt := by
    rw [hf]
    by_cases z : yab (one / w - other / w) < yab ((one - one / w * w) - (other - other / w * w))
    · rw [if_pos z, if_pos (ylt.mp z)]
    · rw [if_neg z, if_neg (fun y => z (ylt.mpr y))]
  rw [t2, t4] at hfi
  have k3 : k.toInt < far.toInt := by
    rw [yle] at k2
    omega
  have hst2 : st.toInt = (ysg (other / w - one / w)).toInt * w.toInt + (ysg ((other - other / w * w) - (one - one / w * w))).toInt := by
    have g1 : -1 ≤ (ysg (other / w - one / w)).toInt ∧ (ysg (other / w - one / w)).toInt ≤ 1 := by
      rw [s1]; split
      · omega
      · split <;> omega
    have g2 : -1 ≤ (ysg ((other - other / w * w) - (one - one / w * w))).toInt ∧ (ysg ((other - other / w * w) - (one - one / w * w))).toInt ≤ 1 := by
      rw [s2]; split
      · omega
      · split <;> omega
    have g3 : -8 ≤ (ysg (other / w - one / w)).toInt * w.toInt ∧ (ysg (other / w - one / w)).toInt * w.toInt ≤ 8 := by
      have g4 : (ysg (other / w - one / w)).toInt = -1 ∨ (ysg (other / w - one / w)).toInt = 0 ∨ (ysg (other / w - one / w)).toInt = 1 := by omega
      rcases g4 with g | g | g <;> rw [g] <;> omega
    have g5 : (ysg (other / w - one / w) * w).toInt = (ysg (other / w - one / w)).toInt * w.toInt := ymul (by omega) (by omega)
    rw [hst, yadd (by rw [g5]; omega) (by rw [g5]; omega), g5]
  have hk : 0 ≤ one.toInt + k.toInt * st.toInt ∧ one.toInt + k.toInt * st.toInt < w.toInt * (rI ρ 2).toInt := by
    rw [hst2]
    have hA : ∀ R C F : Int, F = (if (if 0 ≤ R then R else -R) < (if 0 ≤ C then C else -C) then (if 0 ≤ C then C else -C) else (if 0 ≤ R then R else -R)) → (F = -R ∨ F = R ∨ F = -C ∨ F = C) ∧ -R ≤ F ∧ R ≤ F ∧ -C ≤ F ∧ C ≤ F := by
      intro R C F hF
      by_cases uR : 0 ≤ R
      · rw [if_pos uR] at hF
        by_cases uC : 0 ≤ C
        · rw [if_pos uC] at hF
          by_cases z : R < C
          · rw [if_pos z] at hF; omega
          · rw [if_neg z] at hF; omega
        · rw [if_neg uC] at hF
          by_cases z : R < -C
          · rw [if_pos z] at hF; omega
          · rw [if_neg z] at hF; omega
      · rw [if_neg uR] at hF
        by_cases uC : 0 ≤ C
        · rw [if_pos uC] at hF
          by_cases z : -R < C
          · rw [if_pos z] at hF; omega
          · rw [if_neg z] at hF; omega
        · rw [if_neg uC] at hF
          by_cases z : -R < -C
          · rw [if_pos z] at hF; omega
          · rw [if_neg z] at hF; omega
    obtain ⟨f1, f2, f3, f4, f5⟩ := hA _ _ _ hfi
    exact ylineI (far := far.toInt) (by omega) a1 a2 b1 b2 s1 s2 hd2 (by omega) (by omega) (by omega) (by omega) (by omega) k1 k3
  have e1 : (k * st).toInt = k.toInt * st.toInt := ymul (by omega) (by omega)
  have e2 : (one + k * st).toInt = one.toInt + k.toInt * st.toInt := by rw [yadd (by rw [e1]; omega) (by rw [e1]; omega), e1]
  exact ⟨by rw [e2]; exact hk.1, by rw [e2, eN]; exact hk.2⟩
end YGR
