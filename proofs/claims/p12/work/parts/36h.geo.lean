/-! ===== the views of the class, by their cells ===== -/
def bi (w : Int32) (d : Nat) : Bool := w.toBitVec.getLsbD d
theorem bi_and (x y : Int32) (d : Nat) : bi (x &&& y) d = (bi x d && bi y d) := by
  show (x &&& y).toBitVec.getLsbD d = _
  rw [Int32.toBitVec_and, BitVec.getLsbD_and]
  rfl
theorem bi_z (d : Nat) : bi 0 d = false := BitVec.getLsbD_zero
theorem bi_sh : ∀ m : Nat, m < 9 → ∀ d : Nat, d < 32 → bi ((1 : Int32) <<< (Int32.ofNat m &&& 31)) d = decide (d = m) := by decide +kernel
theorem bi_cl : ∀ m : Nat, m < 9 → ∀ d : Nat, d < 9 → bi (((1 : Int32) <<< (Int32.ofNat m &&& 31)) ^^^ (-1)) d = !decide (d = m) := by decide +kernel
theorem bi_all : ∀ d : Nat, d < 9 → bi 495 d = !decide (d = 4) := by decide +kernel
theorem bi_0 {w : Int32} {m : Nat} (hm : m < 9) : w &&& ((1 : Int32) <<< (Int32.ofNat m &&& 31)) = 0 ↔ bi w m = false := by
  constructor
  · intro q
    have e := bi_and w ((1 : Int32) <<< (Int32.ofNat m &&& 31)) m
    rw [q, bi_z, bi_sh m hm m (by omega), decide_eq_true rfl, Bool.and_true] at e
    exact e.symm
  · intro q
    refine Int32.toBitVec_inj.mp (BitVec.eq_of_getLsbD_eq (fun i hi => ?_))
    show bi (w &&& ((1 : Int32) <<< (Int32.ofNat m &&& 31))) i = bi 0 i
    rw [bi_and, bi_z, bi_sh m hm i hi]
    by_cases z : i = m
    · rw [z, q, Bool.false_and]
    · rw [decide_eq_false z, Bool.and_false]
/-! directions -/
def ddr (d : Nat) : Int := ((d / 3 : Nat) : Int) - 1
def ddc (d : Nat) : Int := ((d % 3 : Nat) : Int) - 1
theorem dd_ok : ∀ d : Nat, d < 9 → (Int32.ofNat d / 3 - 1).toInt = ddr d ∧ (Int32.ofNat d - Int32.ofNat d / 3 * 3 - 1).toInt = ddc d := by decide +kernel
theorem dd_v {d : Nat} (h : d < 9) : (ddr d = -1 ∨ ddr d = 0 ∨ ddr d = 1) ∧ (ddc d = -1 ∨ ddc d = 0 ∨ ddc d = 1) := by
  unfold ddr ddc
  omega
theorem dd_m {d : Nat} (h4 : d ≠ 4) (h9 : d < 9) : ¬ (ddr d = 0 ∧ ddc d = 0) := by
  unfold ddr ddc
  omega
theorem dd_mk {s1 s2 : Int} (h1 : s1 = -1 ∨ s1 = 0 ∨ s1 = 1) (h2 : s2 = -1 ∨ s2 = 0 ∨ s2 = 1) (h0 : ¬ (s1 = 0 ∧ s2 = 0)) : ∃ d : Nat, d < 9 ∧ d ≠ 4 ∧ ddr d = s1 ∧ ddc d = s2 := by
  rcases h1 with rfl | rfl | rfl <;> rcases h2 with rfl | rfl | rfl
  · exact ⟨0, by decide, by decide, by decide, by decide⟩
  · exact ⟨1, by decide, by decide, by decide, by decide⟩
  · exact ⟨2, by decide, by decide, by decide, by decide⟩
  · exact ⟨3, by decide, by decide, by decide, by decide⟩
  · exact absurd ⟨rfl, rfl⟩ h0
  · exact ⟨5, by decide, by decide, by decide, by decide⟩
  · exact ⟨6, by decide, by decide, by decide, by decide⟩
  · exact ⟨7, by decide, by decide, by decide, by decide⟩
  · exact ⟨8, by decide, by decide, by decide, by decide⟩
theorem adr {a d : Nat} (ha : a ≤ 7) (hd : d < 9) : (-7 ≤ (a : Int) * ddr d ∧ (a : Int) * ddr d ≤ 7) ∧ (-7 ≤ (a : Int) * ddc d ∧ (a : Int) * ddc d ≤ 7) := by
  obtain ⟨h1, h2⟩ := dd_v hd
  refine ⟨?_, ?_⟩
  · rcases h1 with e | e | e <;> rw [e] <;> omega
  · rcases h2 with e | e | e <;> rw [e] <;> omega
def tin (w h : Int) (c d a : Nat) : Prop := (0 ≤ (c : Int) / w + (a : Int) * ddr d ∧ (c : Int) / w + (a : Int) * ddr d < h) ∧ (0 ≤ (c : Int) - (c : Int) / w * w + (a : Int) * ddc d ∧ (c : Int) - (c : Int) / w * w + (a : Int) * ddc d < w)
def tce (w : Int) (c d a : Nat) : Int := ((c : Int) / w + (a : Int) * ddr d) * w + ((c : Int) - (c : Int) / w * w + (a : Int) * ddc d)
theorem wh64 {w h : Int} (hw : 3 ≤ w ∧ w ≤ 8) (hh : 3 ≤ h ∧ h ≤ 8) : w * h ≤ 64 := by
  have z : w * h ≤ 8 * 8 := Int.mul_le_mul hw.2 hh.2 (by omega) (by decide)
  omega
theorem tin_rng {w h : Int} {c d a : Nat} (hw : 3 ≤ w ∧ w ≤ 8) (hh : 3 ≤ h ∧ h ≤ 8) (t : tin w h c d a) : 0 ≤ tce w c d a ∧ tce w c d a < 64 := by
  have z := yrcN (W := w) (H := h) t.1.1 t.1.2 t.2.1 t.2.2
  have z2 := wh64 hw hh
  unfold tce
  exact ⟨z.1, by omega⟩
/-- the cell so far away in a direction, as the class asks it -/
theorem xtw_in {W H : Int32} {c d a : Nat} (hw : 3 ≤ W.toInt ∧ W.toInt ≤ 8) (hh : 3 ≤ H.toInt ∧ H.toInt ≤ 8) (hc : (c : Int) < W.toInt * H.toInt) (hd : d < 9) (ha : a ≤ 7) : (tin W.toInt H.toInt c d a → (xtw W H (Int32.ofNat c) (Int32.ofNat d) (Int32.ofNat a)).toInt = tce W.toInt c d a) ∧ (¬ tin W.toInt H.toInt c d a → xtw W H (Int32.ofNat c) (Int32.ofNat d) (Int32.ofNat a) = -1) := by
  have h64 := wh64 hw hh
  have e1 : (1 : Int32).toInt = 1 := by decide
  have e0 : (0 : Int32).toInt = 0 := by decide
  have ec : (Int32.ofNat c).toInt = (c : Int) := yofNat (by omega)
  have ea : (Int32.ofNat a).toInt = (a : Int) := yofNat (by omega)
  obtain ⟨dr, dc⟩ := dd_ok d hd
  obtain ⟨⟨b1, b2⟩, b3, b4⟩ := adr ha hd
  obtain ⟨p1, p2, p3, p4, p5⟩ := yrc (W := W.toInt) (H := H.toInt) (a := (c : Int)) (by omega) (by omega) hc
  have nW : ¬ W < 1 := by
    rw [ylt, e1]
    omega
  have q1 : (Int32.ofNat c / W).toInt = (c : Int) / W.toInt := by rw [ydivn (by omega) (by omega), ec]
  have q2 : (Int32.ofNat c / W * W).toInt = (c : Int) / W.toInt * W.toInt := by rw [ymul (by rw [q1]; omega) (by rw [q1]; omega), q1]
  have q3 : (Int32.ofNat c - Int32.ofNat c / W * W).toInt = (c : Int) - (c : Int) / W.toInt * W.toInt := by rw [ysub (by rw [q2, ec]; omega) (by rw [q2, ec]; omega), q2, ec]
  have m1 : (Int32.ofNat a * (Int32.ofNat d / 3 - 1)).toInt = (a : Int) * ddr d := by rw [ymul (by rw [ea, dr]; omega) (by rw [ea, dr]; omega), ea, dr]
  have m2 : (Int32.ofNat a * (Int32.ofNat d - Int32.ofNat d / 3 * 3 - 1)).toInt = (a : Int) * ddc d := by rw [ymul (by rw [ea, dc]; omega) (by rw [ea, dc]; omega), ea, dc]
  have r1 : (Int32.ofNat c / W + Int32.ofNat a * (Int32.ofNat d / 3 - 1)).toInt = (c : Int) / W.toInt + (a : Int) * ddr d := by rw [yadd (by rw [q1, m1]; omega) (by rw [q1, m1]; omega), q1, m1]
  have r2 : (Int32.ofNat c - Int32.ofNat c / W * W + Int32.ofNat a * (Int32.ofNat d - Int32.ofNat d / 3 * 3 - 1)).toInt = (c : Int) - (c : Int) / W.toInt * W.toInt + (a : Int) * ddc d := by rw [yadd (by rw [q3, m2]; omega) (by rw [q3, m2]; omega), q3, m2]
  have eH : (H - 1).toInt = H.toInt - 1 := by rw [ysub (by rw [e1]; omega) (by rw [e1]; omega), e1]
  have eW : (W - 1).toInt = W.toInt - 1 := by rw [ysub (by rw [e1]; omega) (by rw [e1]; omega), e1]
  unfold xtw xcof xrow xcol
  rw [if_neg nW, if_neg nW]
  generalize Int32.ofNat c / W + Int32.ofNat a * (Int32.ofNat d / 3 - 1) = R at r1 ⊢
  generalize Int32.ofNat c - Int32.ofNat c / W * W + Int32.ofNat a * (Int32.ofNat d - Int32.ofNat d / 3 * 3 - 1) = C at r2 ⊢
  have cnd : ((0 ≤ R ∧ R ≤ H - 1) ∧ (0 ≤ C ∧ C ≤ W - 1)) ↔ tin W.toInt H.toInt c d a := by
    unfold tin
    simp only [yle, e0, eH, eW, r1, r2]
    constructor <;> (intro q; omega)
  refine ⟨fun t => ?_, fun t => if_neg (fun q => t (cnd.mp q))⟩
  rw [if_pos (cnd.mpr t)]
  have z := tin_rng hw hh t
  unfold tce at z
  have t1 := t.1.1
  have t2 := t.2.1
  have pm : 0 ≤ ((c : Int) / W.toInt + (a : Int) * ddr d) * W.toInt := Int.mul_nonneg t1 (by omega)
  have mm : (R * W).toInt = ((c : Int) / W.toInt + (a : Int) * ddr d) * W.toInt := by rw [ymul (by rw [r1]; omega) (by rw [r1]; omega), r1]
  unfold tce
  rw [yadd (by rw [mm, r2]; omega) (by rw [mm, r2]; omega), mm, r2]
/-- so far one goes on in a direction -/
def gob (w h : Int) (B : Int64) (c d n : Nat) : Prop := ∀ j : Nat, 1 ≤ j → j < n → tin w h c d j ∧ ¬ bt B (tce w c d j).toNat = true
theorem gob_s {w h : Int} {B : Int64} {c d n : Nat} (hn : 1 ≤ n) : gob w h B c d (n + 1) ↔ gob w h B c d n ∧ (tin w h c d n ∧ ¬ bt B (tce w c d n).toNat = true) := by
  constructor
  · intro q
    exact ⟨fun j h1 h2 => q j h1 (by omega), q n hn (Nat.lt_succ_self n)⟩
  · rintro ⟨q1, q2⟩ j h1 h2
    by_cases z : j = n
    · rw [z]
      exact q2
    · exact q1 j h1 (by omega)
def hit (w h : Int) (B : Int64) (c a d e : Nat) : Prop := d ≠ 4 ∧ gob w h B c d a ∧ tin w h c d a ∧ tce w c d a = (e : Int)
section YVW
variable {W H : Int32} {B : Int64} {c : Nat}
theorem dvF_w {a : Nat} (hw : 3 ≤ W.toInt ∧ W.toInt ≤ 8) (hh : 3 ≤ H.toInt ∧ H.toInt ≤ 8) (hc : (c : Int) < W.toInt * H.toInt) (ha : 1 ≤ a) (ha7 : a ≤ 7) {s : Int64 × Int32} (hb : ∀ d : Nat, d < 9 → (bi s.2 d = true ↔ d ≠ 4 ∧ gob W.toInt H.toInt B c d a)) : ∀ m : Nat, m ≤ 9 → (∀ e : Nat, e < 64 → (bt (itI (dvF W H B (Int32.ofNat c) (Int32.ofNat a)) s m).1 e = true ↔ bt s.1 e = true ∨ ∃ d, d < m ∧ hit W.toInt H.toInt B c a d e)) ∧ (∀ d : Nat, d < 9 → (bi (itI (dvF W H B (Int32.ofNat c) (Int32.ofNat a)) s m).2 d = true ↔ d ≠ 4 ∧ gob W.toInt H.toInt B c d (if d < m then a + 1 else a))) := by
  intro m
  induction m with
  | zero =>
    intro _
    exact ⟨fun e he => ⟨Or.inl, fun q => q.elim id (fun ⟨d, h, _⟩ => absurd h (Nat.not_lt_zero d))⟩, fun d hd => by
      rw [if_neg (Nat.not_lt_zero d)]
      exact hb d hd⟩
  | succ m ih =>
    intro hm
    obtain ⟨h1, h2⟩ := ih (by omega)
    have hm9 : m < 9 := by omega
    show (∀ e : Nat, e < 64 → (bt (dvF W H B (Int32.ofNat c) (Int32.ofNat a) (Int32.ofNat m) (itI (dvF W H B (Int32.ofNat c) (Int32.ofNat a)) s m)).1 e = true ↔ bt s.1 e = true ∨ ∃ d, d < m + 1 ∧ hit W.toInt H.toInt B c a d e)) ∧ (∀ d : Nat, d < 9 → (bi (dvF W H B (Int32.ofNat c) (Int32.ofNat a) (Int32.ofNat m) (itI (dvF W H B (Int32.ofNat c) (Int32.ofNat a)) s m)).2 d = true ↔ d ≠ 4 ∧ gob W.toInt H.toInt B c d (if d < m + 1 then a + 1 else a)))
    generalize itI (dvF W H B (Int32.ofNat c) (Int32.ofNat a)) s m = t at h1 h2 ⊢
    have hm2 := h2 m hm9
    rw [if_neg (Nat.lt_irrefl m)] at hm2
    have e0 : (0 : Int32).toInt = 0 := by decide
    have ap : (0 : Int32) < Int32.ofNat a := by
      rw [ylt, e0, yofNat (by omega)]
      omega
    have ed : ∀ d : Nat, ¬ d = m → (if d < m + 1 then a + 1 else a) = (if d < m then a + 1 else a) := fun d u => by
      by_cases v : d < m
      · rw [if_pos (by omega), if_pos v]
      · rw [if_neg (by omega), if_neg v]
    by_cases q : bi t.2 m = true
    · obtain ⟨m4, mg⟩ := hm2.mp q
      have nz : ¬ t.2 &&& (1 <<< (Int32.ofNat m &&& 31)) = 0 := fun z => by
        rw [(bi_0 hm9).mp z] at q
        exact absurd q (by decide)
      obtain ⟨xi, xo⟩ := xtw_in hw hh hc hm9 ha7
      have ef : dvF W H B (Int32.ofNat c) (Int32.ofNat a) (Int32.ofNat m) t = (t.1 ||| xset (xtw W H (Int32.ofNat c) (Int32.ofNat m) (Int32.ofNat a)), if xtw W H (Int32.ofNat c) (Int32.ofNat m) (Int32.ofNat a) = -1 ∨ xis B (xtw W H (Int32.ofNat c) (Int32.ofNat m) (Int32.ofNat a)) then t.2 &&& ((1 <<< (Int32.ofNat m &&& 31)) ^^^ (-1)) else t.2) := if_pos ⟨ap, nz⟩
      rw [ef]
      generalize xtw W H (Int32.ofNat c) (Int32.ofNat m) (Int32.ofNat a) = x at xi xo ⊢
      have em : (-1 : Int32).toInt = -1 := by decide
      have hx : ∀ e : Nat, e < 64 → (x.toInt = (e : Int) ↔ tin W.toInt H.toInt c m a ∧ tce W.toInt c m a = (e : Int)) := by
        intro e he
        by_cases z : tin W.toInt H.toInt c m a
        · rw [xi z]
          exact ⟨fun y => ⟨z, y⟩, fun y => y.2⟩
        · rw [xo z, em]
          exact ⟨fun y => by omega, fun y => absurd y.1 z⟩
      have hend : (x = -1 ∨ xis B x) ↔ ¬ (tin W.toInt H.toInt c m a ∧ ¬ bt B (tce W.toInt c m a).toNat = true) := by
        by_cases z : tin W.toInt H.toInt c m a
        · have rg := tin_rng hw hh z
          have ex := xi z
          have hk : x.toInt = ((tce W.toInt c m a).toNat : Int) := by omega
          have n1 : ¬ x = -1 := fun y => by
            rw [y, em] at ex
            omega
          rw [xis_bt hk (by omega)]
          constructor
          · rintro (y | y)
            · exact absurd y n1
            · exact fun w => w.2 y
          · intro y
            by_cases u : bt B (tce W.toInt c m a).toNat = true
            · exact Or.inr u
            · exact absurd ⟨z, u⟩ y
        · exact ⟨fun _ w => z w.1, fun _ => Or.inl (xo z)⟩
      refine ⟨fun e he => ?_, fun d hd => ?_⟩
      · show bt (t.1 ||| xset x) e = true ↔ _
        rw [bt_or, Bool.or_eq_true, h1 e he, bt_s1 he, hx e he]
        constructor
        · rintro ((y | ⟨d, y1, y2⟩) | y)
          · exact Or.inl y
          · exact Or.inr ⟨d, by omega, y2⟩
          · exact Or.inr ⟨m, by omega, m4, mg, y.1, y.2⟩
        · rintro (y | ⟨d, y1, y2, y3, y4, y5⟩)
          · exact Or.inl (Or.inl y)
          · by_cases u : d = m
            · rw [u] at y4 y5
              exact Or.inr ⟨y4, y5⟩
            · exact Or.inl (Or.inr ⟨d, by omega, y2, y3, y4, y5⟩)
      · show bi (if x = -1 ∨ xis B x then t.2 &&& ((1 <<< (Int32.ofNat m &&& 31)) ^^^ (-1)) else t.2) d = true ↔ _
        by_cases z : x = -1 ∨ xis B x
        · rw [if_pos z, bi_and, bi_cl m hm9 d hd, Bool.and_eq_true, h2 d hd]
          by_cases u : d = m
          · rw [u, if_neg (Nat.lt_irrefl m), if_pos (Nat.lt_succ_self m)]
            constructor
            · rintro ⟨_, y⟩
              rw [decide_eq_true rfl] at y
              exact absurd y (by decide)
            · rintro ⟨_, y⟩
              exact absurd ((gob_s ha).mp y).2 (hend.mp z)
          · rw [ed d u, decide_eq_false u]
            exact ⟨fun y => y.1, fun y => ⟨y, rfl⟩⟩
        · rw [if_neg z, h2 d hd]
          by_cases u : d = m
          · rw [u, if_neg (Nat.lt_irrefl m), if_pos (Nat.lt_succ_self m), gob_s ha]
            have ok := Classical.not_not.mp (fun v => z (hend.mpr v))
            exact ⟨fun y => ⟨y.1, y.2, ok⟩, fun y => ⟨y.1, y.2.1⟩⟩
          · rw [ed d u]
    · have bz : bi t.2 m = false := Bool.eq_false_iff.mpr q
      have ef : dvF W H B (Int32.ofNat c) (Int32.ofNat a) (Int32.ofNat m) t = t := if_neg (fun z => z.2 ((bi_0 hm9).mpr bz))
      rw [ef]
      have nm : ¬ (m ≠ 4 ∧ gob W.toInt H.toInt B c m a) := fun z => q (hm2.mpr z)
      refine ⟨fun e he => ?_, fun d hd => ?_⟩
      · rw [h1 e he]
        constructor
        · rintro (y | ⟨d, y1, y2⟩)
          · exact Or.inl y
          · exact Or.inr ⟨d, by omega, y2⟩
        · rintro (y | ⟨d, y1, y2⟩)
          · exact Or.inl y
          · by_cases u : d = m
            · rw [u] at y2
              exact absurd ⟨y2.1, y2.2.1⟩ nm
            · exact Or.inr ⟨d, by omega, y2⟩
      · rw [h2 d hd]
        by_cases u : d = m
        · rw [u, if_neg (Nat.lt_irrefl m), if_pos (Nat.lt_succ_self m)]
          exact ⟨fun y => absurd y nm, fun y => absurd ⟨y.1, ((gob_s ha).mp y.2).1⟩ nm⟩
        · rw [ed d u]
theorem dvF_z {s : Int64 × Int32} : ∀ m : Nat, itI (dvF W H B (Int32.ofNat c) (Int32.ofNat 0)) s m = s
  | 0 => rfl
  | m + 1 => by
    show dvF W H B (Int32.ofNat c) (Int32.ofNat 0) (Int32.ofNat m) (itI (dvF W H B (Int32.ofNat c) (Int32.ofNat 0)) s m) = s
    rw [dvF_z m]
    exact if_neg (fun q => absurd q.1 (by decide))
theorem dvP_w (hw : 3 ≤ W.toInt ∧ W.toInt ≤ 8) (hh : 3 ≤ H.toInt ∧ H.toInt ≤ 8) (hc : (c : Int) < W.toInt * H.toInt) : ∀ n : Nat, n ≤ 8 → (∀ e : Nat, e < 64 → (bt (dvP W H B (Int32.ofNat c) n).1 e = true ↔ e = c ∨ ∃ d, d < 9 ∧ ∃ k, 1 ≤ k ∧ k < n ∧ hit W.toInt H.toInt B c k d e)) ∧ (∀ d : Nat, d < 9 → (bi (dvP W H B (Int32.ofNat c) n).2 d = true ↔ d ≠ 4 ∧ gob W.toInt H.toInt B c d n)) := by
  have h64 := wh64 hw hh
  intro n
  induction n with
  | zero =>
    intro _
    refine ⟨fun e he => ?_, fun d hd => ?_⟩
    · show bt (xset (Int32.ofNat c)) e = true ↔ _
      rw [bt_s1 he, yofNat (by omega)]
      constructor
      · intro q
        exact Or.inl (by omega)
      · rintro (q | ⟨d, _, k, k1, k2, _⟩)
        · omega
        · omega
    · show bi 495 d = true ↔ _
      rw [bi_all d hd]
      constructor
      · intro q
        refine ⟨fun z => ?_, fun j j1 j2 => absurd j2 (Nat.not_lt_zero j)⟩
        rw [decide_eq_true z] at q
        exact absurd q (by decide)
      · rintro ⟨q, _⟩
        rw [decide_eq_false q]
        rfl
  | succ n ih =>
    intro hn
    obtain ⟨i1, i2⟩ := ih (by omega)
    have c9 : (9 : Int32).toInt.toNat = 9 := by decide
    have es : dvP W H B (Int32.ofNat c) (n + 1) = itI (dvF W H B (Int32.ofNat c) (Int32.ofNat n)) (dvP W H B (Int32.ofNat c) n) 9 := by
      show itI (dvF W H B (Int32.ofNat c) (Int32.ofNat n)) (dvP W H B (Int32.ofNat c) n) (9 : Int32).toInt.toNat = _
      rw [c9]
    rw [es]
    by_cases z : n = 0
    · subst z
      rw [dvF_z]
      refine ⟨fun e he => (i1 e he).trans ?_, fun d hd => (i2 d hd).trans ?_⟩
      · constructor
        · rintro (q | ⟨d, _, k, k1, k2, _⟩)
          · exact Or.inl q
          · omega
        · rintro (q | ⟨d, _, k, k1, k2, _⟩)
          · exact Or.inl q
          · omega
      · exact ⟨fun q => ⟨q.1, fun j j1 j2 => by omega⟩, fun q => ⟨q.1, fun j j1 j2 => by omega⟩⟩
    · obtain ⟨j1, j2⟩ := dvF_w hw hh hc (a := n) (by omega) (by omega) i2 9 (Nat.le_refl 9)
      refine ⟨fun e he => ?_, fun d hd => ?_⟩
      · rw [j1 e he, i1 e he]
        constructor
        · rintro ((q | ⟨d, d9, k, k1, k2, q⟩) | ⟨d, d9, q⟩)
          · exact Or.inl q
          · exact Or.inr ⟨d, d9, k, k1, by omega, q⟩
          · exact Or.inr ⟨d, d9, n, by omega, Nat.lt_succ_self n, q⟩
        · rintro (q | ⟨d, d9, k, k1, k2, q⟩)
          · exact Or.inl (Or.inl q)
          · by_cases u : k = n
            · rw [u] at q
              exact Or.inr ⟨d, d9, q⟩
            · exact Or.inl (Or.inr ⟨d, d9, k, k1, by omega, q⟩)
      · rw [j2 d hd, if_pos hd]
end YVW
theorem tce_lin {w : Int} {c d j : Nat} : tce w c d j = (c : Int) + (j : Int) * (ddr d * w + ddc d) := by
  unfold tce
  have e1 : ((c : Int) / w + (j : Int) * ddr d) * w = (c : Int) / w * w + (j : Int) * (ddr d * w) := by rw [Int.add_mul, Int.mul_assoc]
  have e2 : (j : Int) * (ddr d * w + ddc d) = (j : Int) * (ddr d * w) + (j : Int) * ddc d := Int.mul_add _ _ _
  omega
theorem div_u {w R Q : Int} (h0 : 0 ≤ Q) (h1 : Q < w) : (R * w + Q) / w = R := by
  rw [Int.add_comm, Int.add_mul_ediv_right _ _ (by omega), Int.ediv_eq_zero_of_lt h0 h1, Int.zero_add]
theorem sgn_of {s d x k : Int} (hs : s = if d < 0 then -1 else if d = 0 then 0 else 1) (hd : d = k * x) (hk : 1 ≤ k) (hx : x = -1 ∨ x = 0 ∨ x = 1) : s = x := by
  rcases hx with rfl | rfl | rfl
  · rw [hs, if_pos (by omega)]
  · rw [hs, if_neg (by omega), if_pos (by omega)]
  · rw [hs, if_neg (by omega), if_neg (by omega)]
theorem sgn_v {s d : Int} (hs : s = if d < 0 then -1 else if d = 0 then 0 else 1) : (s = -1 ∧ d < 0) ∨ (s = 0 ∧ d = 0) ∨ (s = 1 ∧ 0 < d) := by
  by_cases q : d < 0
  · rw [if_pos q] at hs
    exact Or.inl ⟨hs, q⟩
  · rw [if_neg q] at hs
    by_cases z : d = 0
    · rw [if_pos z] at hs
      exact Or.inr (Or.inl ⟨hs, z⟩)
    · rw [if_neg z] at hs
      exact Or.inr (Or.inr ⟨hs, by omega⟩)
/-- what is hit by going: in line, so far, with a clear view -/
theorem hit_vis {w h : Int} {B : Int64} {c e n : Nat} {s1 s2 far : Int} (hw : 3 ≤ w ∧ w ≤ 8) (hc : (c : Int) < w * h) (he : (e : Int) < w * h)
    (hs1 : s1 = if (e : Int) / w - (c : Int) / w < 0 then -1 else if (e : Int) / w - (c : Int) / w = 0 then 0 else 1) (hs2 : s2 = if ((e : Int) - (e : Int) / w * w) - ((c : Int) - (c : Int) / w * w) < 0 then -1 else if ((e : Int) - (e : Int) / w * w) - ((c : Int) - (c : Int) / w * w) = 0 then 0 else 1)
    (hf : far = (e : Int) / w - (c : Int) / w ∨ far = -((e : Int) / w - (c : Int) / w) ∨ far = ((e : Int) - (e : Int) / w * w) - ((c : Int) - (c : Int) / w * w) ∨ far = -(((e : Int) - (e : Int) / w * w) - ((c : Int) - (c : Int) / w * w))) (hf1 : (e : Int) / w - (c : Int) / w ≤ far) (hf2 : -((e : Int) / w - (c : Int) / w) ≤ far) (hf3 : ((e : Int) - (e : Int) / w * w) - ((c : Int) - (c : Int) / w * w) ≤ far) (hf4 : -(((e : Int) - (e : Int) / w * w) - ((c : Int) - (c : Int) / w * w)) ≤ far) :
    (∃ d, d < 9 ∧ ∃ k, 1 ≤ k ∧ k < n ∧ hit w h B c k d e) ↔ e ≠ c ∧ ((e : Int) / w - (c : Int) / w = 0 ∨ ((e : Int) - (e : Int) / w * w) - ((c : Int) - (c : Int) / w * w) = 0 ∨ (e : Int) / w - (c : Int) / w = ((e : Int) - (e : Int) / w * w) - ((c : Int) - (c : Int) / w * w) ∨ (e : Int) / w - (c : Int) / w = -(((e : Int) - (e : Int) / w * w) - ((c : Int) - (c : Int) / w * w))) ∧ far < (n : Int) ∧ ∀ j : Nat, 1 ≤ j → (j : Int) < far → ¬ bt B ((c : Int) + (j : Int) * (s1 * w + s2)).toNat = true := by
  obtain ⟨p1, p2, p3, p4, p5⟩ := yrc (W := w) (H := h) (a := (c : Int)) (by omega) (by omega) hc
  obtain ⟨q1, q2, q3, q4, q5⟩ := yrc (W := w) (H := h) (a := (e : Int)) (by omega) (by omega) he
  constructor
  · rintro ⟨d, d9, k, k1, kn, d4, gb, tn, tc⟩
    have er : (e : Int) / w = (c : Int) / w + (k : Int) * ddr d := by
      rw [← tc]
      unfold tce
      exact div_u tn.2.1 tn.2.2
    have eq : (e : Int) - (e : Int) / w * w = (c : Int) - (c : Int) / w * w + (k : Int) * ddc d := by
      have t2 := tc
      unfold tce at t2
      rw [← er] at t2
      omega
    have hdr : (e : Int) / w - (c : Int) / w = (k : Int) * ddr d := by omega
    have hdq : ((e : Int) - (e : Int) / w * w) - ((c : Int) - (c : Int) / w * w) = (k : Int) * ddc d := by omega
    obtain ⟨v1, v2⟩ := dd_v d9
    have ne := dd_m d4 d9
    have e1 := sgn_of hs1 hdr (by omega) v1
    have e2 := sgn_of hs2 hdq (by omega) v2
    rw [hdr] at hf hf1 hf2 ⊢
    rw [hdq] at hf hf3 hf4 ⊢
    have hne : e ≠ c := fun z => by
      rw [z] at hdr hdq
      rcases v1 with v1 | v1 | v1 <;> rcases v2 with v2 | v2 | v2 <;> rw [v1] at hdr ne <;> rw [v2] at hdq ne <;> omega
    have hfk : far = (k : Int) := by
      rcases v1 with v1 | v1 | v1 <;> rcases v2 with v2 | v2 | v2 <;> rw [v1] at hf hf1 hf2 ne <;> rw [v2] at hf hf3 hf4 ne <;> omega
    refine ⟨hne, ?_, by omega, fun j j1 j2 => ?_⟩
    · rcases v1 with v1 | v1 | v1 <;> rcases v2 with v2 | v2 | v2 <;> rw [v1, v2] <;> omega
    · rw [e1, e2, ← tce_lin]
      exact (gb j j1 (by omega)).2
  · rintro ⟨hne, hin, hn, hcl⟩
    have s1v := sgn_v hs1
    have s2v := sgn_v hs2
    generalize hr1 : (c : Int) / w = r1 at *
    generalize hr2 : (e : Int) / w = r2 at *
    have h00 : ¬ (r2 - r1 = 0 ∧ ((e : Int) - r2 * w) - ((c : Int) - r1 * w) = 0) := fun z => by
      have z1 : r2 = r1 := by omega
      rw [z1] at z
      omega
    have b1 : s1 = -1 ∨ s1 = 0 ∨ s1 = 1 := by omega
    have b2 : s2 = -1 ∨ s2 = 0 ∨ s2 = 1 := by omega
    obtain ⟨d, d9, d4, ed1, ed2⟩ := dd_mk b1 b2 (by omega)
    have f1 : 1 ≤ far := by omega
    have k1 : r2 - r1 = far * s1 := by
      rcases b1 with b1 | b1 | b1 <;> rcases b2 with b2 | b2 | b2 <;> rw [b1] <;> omega
    have k2 : ((e : Int) - r2 * w) - ((c : Int) - r1 * w) = far * s2 := by
      rcases b1 with b1 | b1 | b1 <;> rcases b2 with b2 | b2 | b2 <;> rw [b2] <;> omega
    have fk : ((far.toNat : Nat) : Int) = far := by omega
    have tn : ∀ j : Nat, 1 ≤ j → (j : Int) ≤ far → tin w h c d j := by
      intro j j1 j2
      unfold tin
      rw [hr1, ed1, ed2]
      rcases b1 with b1 | b1 | b1 <;> rcases b2 with b2 | b2 | b2 <;> rw [b1] at k1 ⊢ <;> rw [b2] at k2 ⊢ <;> omega
    refine ⟨d, d9, far.toNat, by omega, by omega, d4, fun j j1 j2 => ⟨tn j j1 (by omega), ?_⟩, tn _ (by omega) (by omega), ?_⟩
    · rw [tce_lin, ed1, ed2]
      exact hcl j j1 (by omega)
    · unfold tce
      rw [fk, hr1, ed1, ed2, ← k1, ← k2]
      have z : r1 + (r2 - r1) = r2 := by omega
      rw [z]
      omega
/-- a view's bit -/
theorem view_bt {W H : Int32} {B : Int64} {c e a : Nat} {s1 s2 far : Int} (hw : 3 ≤ W.toInt ∧ W.toInt ≤ 8) (hh : 3 ≤ H.toInt ∧ H.toInt ≤ 8) (hc : (c : Int) < W.toInt * H.toInt) (he : (e : Int) < W.toInt * H.toInt) (ha : a ≤ 7)
    (hs1 : s1 = if (e : Int) / W.toInt - (c : Int) / W.toInt < 0 then -1 else if (e : Int) / W.toInt - (c : Int) / W.toInt = 0 then 0 else 1) (hs2 : s2 = if ((e : Int) - (e : Int) / W.toInt * W.toInt) - ((c : Int) - (c : Int) / W.toInt * W.toInt) < 0 then -1 else if ((e : Int) - (e : Int) / W.toInt * W.toInt) - ((c : Int) - (c : Int) / W.toInt * W.toInt) = 0 then 0 else 1)
    (hf : far = (e : Int) / W.toInt - (c : Int) / W.toInt ∨ far = -((e : Int) / W.toInt - (c : Int) / W.toInt) ∨ far = ((e : Int) - (e : Int) / W.toInt * W.toInt) - ((c : Int) - (c : Int) / W.toInt * W.toInt) ∨ far = -(((e : Int) - (e : Int) / W.toInt * W.toInt) - ((c : Int) - (c : Int) / W.toInt * W.toInt))) (hf1 : (e : Int) / W.toInt - (c : Int) / W.toInt ≤ far) (hf2 : -((e : Int) / W.toInt - (c : Int) / W.toInt) ≤ far) (hf3 : ((e : Int) - (e : Int) / W.toInt * W.toInt) - ((c : Int) - (c : Int) / W.toInt * W.toInt) ≤ far) (hf4 : -(((e : Int) - (e : Int) / W.toInt * W.toInt) - ((c : Int) - (c : Int) / W.toInt * W.toInt)) ≤ far) :
    bt (dvP W H B (Int32.ofNat c) (a + 1)).1 e = true ↔ ((e : Int) / W.toInt - (c : Int) / W.toInt = 0 ∨ ((e : Int) - (e : Int) / W.toInt * W.toInt) - ((c : Int) - (c : Int) / W.toInt * W.toInt) = 0 ∨ (e : Int) / W.toInt - (c : Int) / W.toInt = ((e : Int) - (e : Int) / W.toInt * W.toInt) - ((c : Int) - (c : Int) / W.toInt * W.toInt) ∨ (e : Int) / W.toInt - (c : Int) / W.toInt = -(((e : Int) - (e : Int) / W.toInt * W.toInt) - ((c : Int) - (c : Int) / W.toInt * W.toInt))) ∧ far ≤ (a : Int) ∧ ∀ j : Nat, 1 ≤ j → (j : Int) < far → ¬ bt B ((c : Int) + (j : Int) * (s1 * W.toInt + s2)).toNat = true := by
  have h64 := wh64 hw hh
  rw [(dvP_w hw hh hc (a + 1) (by omega)).1 e (by omega), hit_vis hw hc he hs1 hs2 hf hf1 hf2 hf3 hf4]
  constructor
  · rintro (q | ⟨q1, q2, q3, q4⟩)
    · subst q
      exact ⟨Or.inl (by omega), by omega, fun j j1 j2 => by omega⟩
    · exact ⟨q2, by omega, q4⟩
  · rintro ⟨q2, q3, q4⟩
    by_cases q : e = c
    · exact Or.inl q
    · exact Or.inr ⟨q, q2, by omega, q4⟩
/-! ===== views, tied ===== -/
theorem yab_c {x : Int32} {d : Int} (h : x.toInt = d) (h1 : -64 ≤ d) (h2 : d ≤ 64) : (0 ≤ d ∧ (yab x).toInt = d) ∨ (d < 0 ∧ (yab x).toInt = -d) := by
  have e := yab_ok (x := x) (by omega) (by omega)
  rw [h] at e
  by_cases q : 0 ≤ d
  · rw [if_pos q] at e
    exact Or.inl ⟨q, e⟩
  · rw [if_neg q] at e
    exact Or.inr ⟨by omega, e⟩
theorem ysg_c {x : Int32} {d : Int} (h : x.toInt = d) (h1 : -64 ≤ d) (h2 : d ≤ 64) : (ysg x).toInt = if d < 0 then -1 else if d = 0 then 0 else 1 := by
  have e := ysg_ok (i := x) (by omega) (by omega)
  rw [h] at e
  exact e
theorem ymax_c {a b : Int32} : ((if a < b then b else a).toInt = a.toInt ∧ b.toInt ≤ a.toInt) ∨ ((if a < b then b else a).toInt = b.toInt ∧ a.toInt ≤ b.toInt) := by
  by_cases q : a < b
  · rw [if_pos q]
    rw [ylt] at q
    exact Or.inr ⟨rfl, by omega⟩
  · rw [if_neg q]
    rw [ylt] at q
    exact Or.inl ⟨rfl, by omega⟩
theorem vw_e3 {a b d1 d2 : Int} (h1 : (0 ≤ d1 ∧ a = d1) ∨ (d1 < 0 ∧ a = -d1)) (h2 : (0 ≤ d2 ∧ b = d2) ∨ (d2 < 0 ∧ b = -d2)) : a = b ↔ (d1 = d2 ∨ d1 = -d2) := by
  constructor
  · intro t
    omega
  · intro t
    omega
theorem vw_far {far a b d1 d2 u1 u2 : Int} (h1 : (0 ≤ u1 ∧ a = u1) ∨ (u1 < 0 ∧ a = -u1)) (h2 : (0 ≤ u2 ∧ b = u2) ∨ (u2 < 0 ∧ b = -u2)) (f : (far = a ∧ b ≤ a) ∨ (far = b ∧ a ≤ b)) (e1 : u1 = -d1) (e2 : u2 = -d2) : (far = d1 ∨ far = -d1 ∨ far = d2 ∨ far = -d2) ∧ d1 ≤ far ∧ -d1 ≤ far ∧ d2 ≤ far ∧ -d2 ≤ far := by
  subst e1
  subst e2
  rcases h1 with ⟨g1, g2⟩ | ⟨g1, g2⟩ <;> rcases h2 with ⟨g3, g4⟩ | ⟨g3, g4⟩ <;> rcases f with ⟨g5, g6⟩ | ⟨g5, g6⟩ <;> refine ⟨?_, ?_, ?_, ?_, ?_⟩ <;> omega
theorem vw_tg {S1 S2 W : Int32} {d1 d2 : Int} (hw : 3 ≤ W.toInt ∧ W.toInt ≤ 8) (s1 : (S1.toInt = -1 ∧ d1 < 0) ∨ (S1.toInt = 0 ∧ d1 = 0) ∨ (S1.toInt = 1 ∧ 0 < d1)) (s2 : (S2.toInt = -1 ∧ d2 < 0) ∨ (S2.toInt = 0 ∧ d2 = 0) ∨ (S2.toInt = 1 ∧ 0 < d2)) : (S1 * W + S2).toInt = S1.toInt * W.toInt + S2.toInt := by
  have k : (S1 * W).toInt = S1.toInt * W.toInt := by
    rcases s1 with ⟨z, -⟩ | ⟨z, -⟩ | ⟨z, -⟩ <;> exact ymul (by rw [z]; omega) (by rw [z]; omega)
  rcases s1 with ⟨z, -⟩ | ⟨z, -⟩ | ⟨z, -⟩ <;> rw [yadd (by rw [k, z]; omega) (by rw [k, z]; omega), k]
theorem vw_bt {σ : XS} {ρ : RS} {c e a : Nat} (hr : rb ρ) (hD : cpD σ ρ) (hK : cpK σ ρ) (hV : xvd σ) (hc : c < rZ ρ 201) (he : e < rZ ρ 201) (ha : a ≤ 7) : bt (σ.2.2.2.2 (c * 8 + a)) e = true ↔ (rap ρ (Int32.ofNat c) (Int32.ofNat e)).toInt ≤ (a : Int) ∧ rclr ρ (Int32.ofNat c) (Int32.ofNat e) := by
  have n64 := hr.n64
  rcases hr.1 with ⟨q, -⟩ | ⟨w1, w2, w3, w4, hN⟩
  · omega
  have eN : (σ.2.2.1 0 * σ.2.2.1 1).toInt = (rZ ρ 201 : Int) := by rw [hD.2.2, yofNat (by omega)]
  rw [hV (rZ ρ 201) eN n64 c hc a (by omega)]
  show bt (dvP (σ.2.2.1 0) (σ.2.2.1 1) (σ.2.2.2.1 2 ||| σ.2.2.2.1 3) (Int32.ofNat c) (a + 1)).1 e = true ↔ _
  rw [hD.1, hD.2.1]
  have ec : (Int32.ofNat c).toInt = (c : Int) := yofNat (by omega)
  have ee : (Int32.ofNat e).toInt = (e : Int) := yofNat (by omega)
  have hcN : (c : Int) < (rI ρ 1).toInt * (rI ρ 2).toInt := by omega
  have heN : (e : Int) < (rI ρ 1).toInt * (rI ρ 2).toInt := by omega
  have h64 := wh64 ⟨w1, w2⟩ ⟨w3, w4⟩
  obtain ⟨p1, p2, p3, p4, p5⟩ := yrc (W := (rI ρ 1).toInt) (H := (rI ρ 2).toInt) (a := (c : Int)) (by omega) (by omega) hcN
  obtain ⟨q1, q2, q3, q4, q5⟩ := yrc (W := (rI ρ 1).toInt) (H := (rI ρ 2).toInt) (a := (e : Int)) (by omega) (by omega) heN
  have dc1 : (Int32.ofNat c / rI ρ 1).toInt = (c : Int) / (rI ρ 1).toInt := by rw [ydivn (by omega) (by omega), ec]
  have de1 : (Int32.ofNat e / rI ρ 1).toInt = (e : Int) / (rI ρ 1).toInt := by rw [ydivn (by omega) (by omega), ee]
  have mc : (Int32.ofNat c / rI ρ 1 * rI ρ 1).toInt = (c : Int) / (rI ρ 1).toInt * (rI ρ 1).toInt := by rw [ymul (by rw [dc1]; omega) (by rw [dc1]; omega), dc1]
  have me : (Int32.ofNat e / rI ρ 1 * rI ρ 1).toInt = (e : Int) / (rI ρ 1).toInt * (rI ρ 1).toInt := by rw [ymul (by rw [de1]; omega) (by rw [de1]; omega), de1]
  have cc : (Int32.ofNat c - Int32.ofNat c / rI ρ 1 * rI ρ 1).toInt = (c : Int) - (c : Int) / (rI ρ 1).toInt * (rI ρ 1).toInt := by rw [ysub (by rw [mc, ec]; omega) (by rw [mc, ec]; omega), mc, ec]
  have ce : (Int32.ofNat e - Int32.ofNat e / rI ρ 1 * rI ρ 1).toInt = (e : Int) - (e : Int) / (rI ρ 1).toInt * (rI ρ 1).toInt := by rw [ysub (by rw [me, ee]; omega) (by rw [me, ee]; omega), me, ee]
  have tR : (rdR ρ (Int32.ofNat c) (Int32.ofNat e)).toInt = (e : Int) / (rI ρ 1).toInt - (c : Int) / (rI ρ 1).toInt := by
    show (Int32.ofNat e / rI ρ 1 - Int32.ofNat c / rI ρ 1).toInt = _
    rw [ysub (by rw [de1, dc1]; omega) (by rw [de1, dc1]; omega), de1, dc1]
  have tC : (rdC ρ (Int32.ofNat c) (Int32.ofNat e)).toInt = ((e : Int) - (e : Int) / (rI ρ 1).toInt * (rI ρ 1).toInt) - ((c : Int) - (c : Int) / (rI ρ 1).toInt * (rI ρ 1).toInt) := by
    show ((Int32.ofNat e - Int32.ofNat e / rI ρ 1 * rI ρ 1) - (Int32.ofNat c - Int32.ofNat c / rI ρ 1 * rI ρ 1)).toInt = _
    rw [ysub (by rw [ce, cc]; omega) (by rw [ce, cc]; omega), ce, cc]
  have uR : (Int32.ofNat c / rI ρ 1 - Int32.ofNat e / rI ρ 1).toInt = (c : Int) / (rI ρ 1).toInt - (e : Int) / (rI ρ 1).toInt := by rw [ysub (by rw [de1, dc1]; omega) (by rw [de1, dc1]; omega), de1, dc1]
  have uC : ((Int32.ofNat c - Int32.ofNat c / rI ρ 1 * rI ρ 1) - (Int32.ofNat e - Int32.ofNat e / rI ρ 1 * rI ρ 1)).toInt = ((c : Int) - (c : Int) / (rI ρ 1).toInt * (rI ρ 1).toInt) - ((e : Int) - (e : Int) / (rI ρ 1).toInt * (rI ρ 1).toInt) := by rw [ysub (by rw [ce, cc]; omega) (by rw [ce, cc]; omega), ce, cc]
  have aR := yab_c tR (by omega) (by omega)
  have aC := yab_c tC (by omega) (by omega)
  have bR := yab_c uR (by omega) (by omega)
  have bC := yab_c uC (by omega) (by omega)
  have gR := ysg_c tR (by omega) (by omega)
  have gC := ysg_c tC (by omega) (by omega)
  have fr := ymax_c (a := yab (Int32.ofNat c / rI ρ 1 - Int32.ofNat e / rI ρ 1)) (b := yab ((Int32.ofNat c - Int32.ofNat c / rI ρ 1 * rI ρ 1) - (Int32.ofNat e - Int32.ofNat e / rI ρ 1 * rI ρ 1)))
  have fr2 : ((rap ρ (Int32.ofNat c) (Int32.ofNat e)).toInt = (yab (Int32.ofNat c / rI ρ 1 - Int32.ofNat e / rI ρ 1)).toInt ∧ (yab ((Int32.ofNat c - Int32.ofNat c / rI ρ 1 * rI ρ 1) - (Int32.ofNat e - Int32.ofNat e / rI ρ 1 * rI ρ 1))).toInt ≤ (yab (Int32.ofNat c / rI ρ 1 - Int32.ofNat e / rI ρ 1)).toInt) ∨ ((rap ρ (Int32.ofNat c) (Int32.ofNat e)).toInt = (yab ((Int32.ofNat c - Int32.ofNat c / rI ρ 1 * rI ρ 1) - (Int32.ofNat e - Int32.ofNat e / rI ρ 1 * rI ρ 1))).toInt ∧ (yab (Int32.ofNat c / rI ρ 1 - Int32.ofNat e / rI ρ 1)).toInt ≤ (yab ((Int32.ofNat c - Int32.ofNat c / rI ρ 1 * rI ρ 1) - (Int32.ofNat e - Int32.ofNat e / rI ρ 1 * rI ρ 1))).toInt) := fr
  clear fr
  have tg : (rst ρ (Int32.ofNat c) (Int32.ofNat e)).toInt = (ysg (rdR ρ (Int32.ofNat c) (Int32.ofNat e))).toInt * (rI ρ 1).toInt + (ysg (rdC ρ (Int32.ofNat c) (Int32.ofNat e))).toInt := by
    show (ysg (rdR ρ (Int32.ofNat c) (Int32.ofNat e)) * rI ρ 1 + ysg (rdC ρ (Int32.ofNat c) (Int32.ofNat e))).toInt = _
    exact vw_tg ⟨w1, w2⟩ (sgn_v gR) (sgn_v gC)
  generalize hfar : (rap ρ (Int32.ofNat c) (Int32.ofNat e)).toInt = far at fr2 ⊢
  generalize hS1 : (ysg (rdR ρ (Int32.ofNat c) (Int32.ofNat e))).toInt = S1 at gR tg
  generalize hS2 : (ysg (rdC ρ (Int32.ofNat c) (Int32.ofNat e))).toInt = S2 at gC tg
  obtain ⟨hf, hf1, hf2, hf3, hf4⟩ := vw_far (d1 := (e : Int) / (rI ρ 1).toInt - (c : Int) / (rI ρ 1).toInt) (d2 := ((e : Int) - (e : Int) / (rI ρ 1).toInt * (rI ρ 1).toInt) - ((c : Int) - (c : Int) / (rI ρ 1).toInt * (rI ρ 1).toInt)) bR bC fr2 (Int.neg_sub _ _).symm (Int.neg_sub _ _).symm
  clear fr2 bR bC
  rw [view_bt ⟨w1, w2⟩ ⟨w3, w4⟩ hcN heN ha gR gC hf hf1 hf2 hf3 hf4]
  unfold rclr
  rw [hfar]
  have z0 : (0 : Int32).toInt = 0 := by decide
  have i1 : rdR ρ (Int32.ofNat c) (Int32.ofNat e) = 0 ↔ (e : Int) / (rI ρ 1).toInt - (c : Int) / (rI ρ 1).toInt = 0 := by rw [← Int32.toInt_inj, tR, z0]
  have i2 : rdC ρ (Int32.ofNat c) (Int32.ofNat e) = 0 ↔ ((e : Int) - (e : Int) / (rI ρ 1).toInt * (rI ρ 1).toInt) - ((c : Int) - (c : Int) / (rI ρ 1).toInt * (rI ρ 1).toInt) = 0 := by rw [← Int32.toInt_inj, tC, z0]
  have i3 : yab (rdR ρ (Int32.ofNat c) (Int32.ofNat e)) = yab (rdC ρ (Int32.ofNat c) (Int32.ofNat e)) ↔ ((e : Int) / (rI ρ 1).toInt - (c : Int) / (rI ρ 1).toInt = ((e : Int) - (e : Int) / (rI ρ 1).toInt * (rI ρ 1).toInt) - ((c : Int) - (c : Int) / (rI ρ 1).toInt * (rI ρ 1).toInt) ∨ (e : Int) / (rI ρ 1).toInt - (c : Int) / (rI ρ 1).toInt = -(((e : Int) - (e : Int) / (rI ρ 1).toInt * (rI ρ 1).toInt) - ((c : Int) - (c : Int) / (rI ρ 1).toInt * (rI ρ 1).toInt))) := by
    rw [← Int32.toInt_inj]
    exact vw_e3 aR aC
  clear aR aC
  rw [i1, i2, i3]
  have hop : ((e : Int) / (rI ρ 1).toInt - (c : Int) / (rI ρ 1).toInt = 0 ∨ ((e : Int) - (e : Int) / (rI ρ 1).toInt * (rI ρ 1).toInt) - ((c : Int) - (c : Int) / (rI ρ 1).toInt * (rI ρ 1).toInt) = 0 ∨ (e : Int) / (rI ρ 1).toInt - (c : Int) / (rI ρ 1).toInt = ((e : Int) - (e : Int) / (rI ρ 1).toInt * (rI ρ 1).toInt) - ((c : Int) - (c : Int) / (rI ρ 1).toInt * (rI ρ 1).toInt) ∨ (e : Int) / (rI ρ 1).toInt - (c : Int) / (rI ρ 1).toInt = -(((e : Int) - (e : Int) / (rI ρ 1).toInt * (rI ρ 1).toInt) - ((c : Int) - (c : Int) / (rI ρ 1).toInt * (rI ρ 1).toInt))) → ∀ j : Nat, 1 ≤ j → (j : Int) < far → (¬ bt (σ.2.2.2.1 2 ||| σ.2.2.2.1 3) ((c : Int) + (j : Int) * (S1 * (rI ρ 1).toInt + S2)).toNat = true ↔ rop ρ (Int32.ofNat c + Int32.ofNat j * rst ρ (Int32.ofNat c) (Int32.ofNat e))) := by
    intro hin j j1 j2
    obtain ⟨g1, g2⟩ := ylineI (k := (j : Int)) (far := far) (s1 := S1) (s2 := S2) (by omega) (by omega) hcN (by omega) heN gR gC hin hf hf1 hf2 hf3 hf4 (by omega) j2
    have ej : (Int32.ofNat j).toInt = (j : Int) := yofNat (by omega)
    have m1 : (Int32.ofNat j * rst ρ (Int32.ofNat c) (Int32.ofNat e)).toInt = (j : Int) * (S1 * (rI ρ 1).toInt + S2) := by rw [ymul (by rw [ej, tg]; omega) (by rw [ej, tg]; omega), ej, tg]
    have m2 : (Int32.ofNat c + Int32.ofNat j * rst ρ (Int32.ofNat c) (Int32.ofNat e)).toInt = (c : Int) + (j : Int) * (S1 * (rI ρ 1).toInt + S2) := by rw [yadd (by rw [ec, m1]; omega) (by rw [ec, m1]; omega), ec, m1]
    have m3 : Int32.toNatClampNeg (Int32.ofNat c + Int32.ofNat j * rst ρ (Int32.ofNat c) (Int32.ofNat e)) = ((c : Int) + (j : Int) * (S1 * (rI ρ 1).toInt + S2)).toNat := by
      show (Int32.ofNat c + Int32.ofNat j * rst ρ (Int32.ofNat c) (Int32.ofNat e)).toInt.toNat = _
      rw [m2]
    unfold rop
    rw [m3]
    have lt : ((c : Int) + (j : Int) * (S1 * (rI ρ 1).toInt + S2)).toNat < rZ ρ 201 := by omega
    generalize ((c : Int) + (j : Int) * (S1 * (rI ρ 1).toInt + S2)).toNat = m at lt ⊢
    obtain ⟨k1, k2, -, -⟩ := hK m (by omega)
    rw [bt_or, k1, k2, decide_eq_true lt, Bool.true_and, Bool.true_and, Bool.or_eq_true, decide_eq_true_eq, decide_eq_true_eq, not_or]
  constructor
  · rintro ⟨h1, h2, h3⟩
    exact ⟨h2, h1, fun j j1 j2 => (hop h1 j j1 j2).mp (h3 j j1 j2)⟩
  · rintro ⟨h2, h1, h3⟩
    exact ⟨h1, h2, fun j j1 j2 => (hop h1 j j1 j2).mpr (h3 j j1 j2)⟩
