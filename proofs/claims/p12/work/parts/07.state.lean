/-! ===== the state of the class NightwatchWall as a value, and how the heap holds it ===== -/
/-- sizes of the rows of Numbers; their contents; numbers; sets of cells; views -/
abbrev XS : Type := (Nat → Int32) × (Nat → Nat → Int32) × (Nat → Int32) × (Nat → Int64) × (Nat → Int64)
def xcap (k : Nat) : Nat := ([6, 6, 6, 8, 8, 6, 6, 6, 6, 36, 4, 4, 8, 6, 6, 6, 4, 4, 4, 60, 4, 4, 5, 5] : List Nat).getD k 0
theorem xcap_le (k : Nat) : xcap k ≤ 60 := by
  by_cases h : k < 24
  · have key : ∀ j, j < 24 → xcap j ≤ 60 := by decide
    exact key k h
  · have e : xcap k = 0 := by
      unfold xcap
      rw [List.getD_eq_getElem?_getD, List.getElem?_eq_none (show 24 ≤ k by omega)]
      rfl
    omega
/-- what lies at the tag t -/
def xc (aC : Nat → ClassId) (ad : Nat → Nat) (σ : XS) (t : Nat) : Option va_E :=
  if t = 1 then some (.inr (12, [.ref (ad 2), .ref (ad 4), .ref (ad 5), .ref (ad 6), .ref (ad 120), .ref (ad 7), .ref (ad 130), .ref (ad 8), .ref (ad 9), .int (σ.2.2.1 7)]))
  else if t = 2 then some (.inr (5, [.int (σ.2.2.1 0), .int (σ.2.2.1 1), .long (σ.2.2.2.1 0), .long (σ.2.2.2.1 1), .long (σ.2.2.2.1 2), .long (σ.2.2.2.1 3), .long (σ.2.2.2.1 4), .int (σ.2.2.1 2), .int (σ.2.2.1 3), .ref (ad 3)]))
  else if t = 3 then some (.inl (aC 1, 512, .inr (.inl σ.2.2.2.2)))
  else if t = 4 then some (.inr (8, [.ref (ad 100), .ref (ad 102), .ref (ad 104)]))
  else if t = 5 then some (.inr (4, [.ref (ad 106), .ref (ad 108)]))
  else if t = 6 then some (.inr (6, [.ref (ad 110), .ref (ad 112), .ref (ad 114), .ref (ad 116), .ref (ad 118)]))
  else if t = 7 then some (.inr (11, [.ref (ad 122), .ref (ad 124), .ref (ad 126), .ref (ad 128), .int (σ.2.2.1 4), .int (σ.2.2.1 5), .int (σ.2.2.1 6)]))
  else if t = 8 then some (.inr (7, [.ref (ad 132), .ref (ad 134), .ref (ad 136), .ref (ad 138), .ref (ad 140), .ref (ad 142)]))
  else if t = 9 then some (.inr (10, [.ref (ad 144), .ref (ad 146)]))
  else if 100 ≤ t ∧ t < 148 then
    (if t % 2 = 0 then some (.inr (9, [.ref (ad (t + 1)), .int (σ.1 ((t - 100) / 2))]))
    else some (.inl (aC 0, xcap ((t - 100) / 2), .inl (σ.2.1 ((t - 100) / 2)))))
  else none
/-- the sizes are sizes -/
def xb (σ : XS) : Prop := (∀ k : Nat, 0 ≤ (σ.1 k).toInt ∧ (σ.1 k).toInt ≤ xcap k) ∧ (σ.2.2.1 0).toInt ≤ 8 ∧ ∀ j : Nat, (σ.2.1 18 j).toInt ≤ 1000
def atX (aC : Nat → ClassId) (ad : Nat → Nat) (G : AH) (σ : XS) : Prop := (∀ (t : Nat) (e : va_E), xc aC ad σ t = some e → G (ad t) = some (t, e)) ∧ xb σ
/-- what isn't the class's stays -/
def keepX (G G1 : AH) : Prop := ∀ (a t : Nat) (e : va_E), G a = some (t, e) → (t = 0 ∨ 200 ≤ t) → G1 a = some (t, e)
theorem keepX.rfl' {G : AH} : keepX G G := fun _ _ _ h _ => h
theorem keepX.trans {G G1 G2 : AH} (h1 : keepX G G1) (h2 : keepX G1 G2) : keepX G G2 := fun a t e h q => h2 a t e (h1 a t e h q) q
theorem keepX.up {G G1 : AH} (h : keepX G G1) {a t : Nat} {e e1 : va_E} (hg : G1 a = some (t, e)) (h1 : t ≠ 0) (h2 : t < 200) : keepX G (yup G1 a (t, e1)) := by
  intro b u x hb hu
  have hb1 := h b u x hb hu
  have hne : b ≠ a := by
    intro q
    rw [q, hg] at hb1
    cases hb1
    omega
  rw [yup_n _ hne]
  exact hb1
section YST
variable {aC : Nat → ClassId} {ad : Nat → Nat} {G : AH} {σ σ1 : XS}
theorem atX.up (h : atX aC ad G σ) (t : Nat) {e0 e1 : va_E} (h0 : xc aC ad σ t = some e0) (hx : xc aC ad σ1 t = some e1) (ho : ∀ u, u ≠ t → xc aC ad σ1 u = xc aC ad σ u) (hb : xb σ1) : atX aC ad (yup G (ad t) (t, e1)) σ1 := by
  refine ⟨fun u e hu => ?_, hb⟩
  by_cases q : u = t
  · subst q
    rw [hx] at hu
    cases hu
    exact yup_s _ _ _
  · rw [ho u q] at hu
    have h1 := h.1 u e hu
    have h2 := h.1 t e0 h0
    have hne : ad u ≠ ad t := by
      intro z
      rw [z, h2] at h1
      cases h1
      exact q rfl
    rw [yup_n _ hne]
    exact h1
theorem xc_num (k : Nat) (hk : k < 24) : xc aC ad σ (100 + 2 * k) = some (.inr (9, [.ref (ad (100 + 2 * k + 1)), .int (σ.1 k)])) := by
  unfold xc
  rw [if_neg (by omega), if_neg (by omega), if_neg (by omega), if_neg (by omega), if_neg (by omega), if_neg (by omega), if_neg (by omega), if_neg (by omega), if_neg (by omega), if_pos ⟨by omega, by omega⟩, if_pos (by omega), show (100 + 2 * k - 100) / 2 = k by omega]
theorem xc_arr (k : Nat) (hk : k < 24) : xc aC ad σ (100 + 2 * k + 1) = some (.inl (aC 0, xcap k, .inl (σ.2.1 k))) := by
  unfold xc
  rw [if_neg (by omega), if_neg (by omega), if_neg (by omega), if_neg (by omega), if_neg (by omega), if_neg (by omega), if_neg (by omega), if_neg (by omega), if_neg (by omega), if_pos ⟨by omega, by omega⟩, if_neg (by omega), show (100 + 2 * k + 1 - 100) / 2 = k by omega]
theorem atX.num (h : atX aC ad G σ) {k : Nat} (hk : k < 24) : G (ad (100 + 2 * k)) = some (100 + 2 * k, .inr (9, [.ref (ad (100 + 2 * k + 1)), .int (σ.1 k)])) := h.1 _ _ (xc_num k hk)
theorem atX.arr (h : atX aC ad G σ) {k : Nat} (hk : k < 24) : G (ad (100 + 2 * k + 1)) = some (100 + 2 * k + 1, .inl (aC 0, xcap k, .inl (σ.2.1 k))) := h.1 _ _ (xc_arr k hk)
/-- a size, a row's contents, a number, a set, the views written -/
def xsz (σ : XS) (k : Nat) (v : Int32) : XS := (fun j => if j = k then v else σ.1 j, σ.2)
def xar (σ : XS) (k : Nat) (f : Nat → Int32) : XS := (σ.1, fun j => if j = k then f else σ.2.1 j, σ.2.2)
def xin (σ : XS) (k : Nat) (v : Int32) : XS := (σ.1, σ.2.1, fun j => if j = k then v else σ.2.2.1 j, σ.2.2.2)
def xlo (σ : XS) (k : Nat) (v : Int64) : XS := (σ.1, σ.2.1, σ.2.2.1, fun j => if j = k then v else σ.2.2.2.1 j, σ.2.2.2.2)
def xvw (σ : XS) (f : Nat → Int64) : XS := (σ.1, σ.2.1, σ.2.2.1, σ.2.2.2.1, f)
theorem xb_sz {σ : XS} (h : xb σ) (k : Nat) {v : Int32} (h1 : 0 ≤ v.toInt) (h2 : v.toInt ≤ xcap k) : xb (xsz σ k v) := by
  refine ⟨fun j => ?_, h.2.1, h.2.2⟩
  show 0 ≤ (if j = k then v else σ.1 j).toInt ∧ (if j = k then v else σ.1 j).toInt ≤ xcap j
  by_cases q : j = k
  · subst q; rw [if_pos rfl]; exact ⟨h1, h2⟩
  · rw [if_neg q]; exact h.1 j
theorem atX.setSz (h : atX aC ad G σ) {k : Nat} (hk : k < 24) {v : Int32} (h1 : 0 ≤ v.toInt) (h2 : v.toInt ≤ xcap k) : atX aC ad (yup G (ad (100 + 2 * k)) (100 + 2 * k, .inr (9, [.ref (ad (100 + 2 * k + 1)), .int v]))) (xsz σ k v) := by
  refine h.up (100 + 2 * k) (xc_num k hk) ?_ (fun u hu => ?_) (xb_sz h.2 k h1 h2)
  · rw [xc_num k hk]; simp [xsz]
  · unfold xc
    by_cases q : 100 ≤ u ∧ u < 148
    · by_cases q2 : u % 2 = 0
      · have e : ¬ (u - 100) / 2 = k := by omega
        simp only [q2, if_true, xsz, e, if_false]
      · simp only [q2, if_false, xsz]
    · simp only [q, if_false, xsz]
theorem xb_ar {σ : XS} (h : xb σ) (k : Nat) {f : Nat → Int32} (hf : k = 18 → ∀ j : Nat, (f j).toInt ≤ 1000) : xb (xar σ k f) := by
  refine ⟨h.1, h.2.1, fun j => ?_⟩
  show ((if 18 = k then f else σ.2.1 18) j).toInt ≤ 1000
  by_cases q : 18 = k
  · rw [if_pos q]; exact hf q.symm j
  · rw [if_neg q]; exact h.2.2 j
theorem atX.setAr (h : atX aC ad G σ) {k : Nat} (hk : k < 24) {f : Nat → Int32} (hf : k = 18 → ∀ j : Nat, (f j).toInt ≤ 1000) : atX aC ad (yup G (ad (100 + 2 * k + 1)) (100 + 2 * k + 1, .inl (aC 0, xcap k, .inl f))) (xar σ k f) := by
  refine h.up (100 + 2 * k + 1) (xc_arr k hk) ?_ (fun u hu => ?_) (xb_ar h.2 k hf)
  · rw [xc_arr k hk]; simp [xar]
  · unfold xc
    by_cases q : 100 ≤ u ∧ u < 148
    · by_cases q2 : u % 2 = 0
      · simp only [q2, if_true, xar]
      · have e : ¬ (u - 100) / 2 = k := by omega
        simp only [q2, if_false, xar, e]
    · simp only [q, if_false, xar]
theorem xb_in {σ : XS} (h : xb σ) (k : Nat) {v : Int32} (hv : k = 0 → v.toInt ≤ 8) : xb (xin σ k v) := by
  refine ⟨h.1, ?_, h.2.2⟩
  show (if 0 = k then v else σ.2.2.1 0).toInt ≤ 8
  by_cases q : 0 = k
  · rw [if_pos q]; exact hv q.symm
  · rw [if_neg q]; exact h.2.1
theorem atX.setIn (h : atX aC ad G σ) (k t : Nat) {v : Int32} (hv : k = 0 → v.toInt ≤ 8) {e0 e1 : va_E} (ht : (k ≤ 3 ∧ t = 2) ∨ (4 ≤ k ∧ k ≤ 6 ∧ t = 7) ∨ (k = 7 ∧ t = 1)) (h0 : xc aC ad σ t = some e0) (hx : xc aC ad (xin σ k v) t = some e1) : atX aC ad (yup G (ad t) (t, e1)) (xin σ k v) := by
  refine h.up t h0 hx (fun u hu => ?_) (xb_in h.2 k hv)
  unfold xc xin
  by_cases u1 : u = 1
  · have e : ¬ 7 = k := by omega
    simp only [u1, if_true, e, if_false]
  · by_cases u2 : u = 2
    · have a0 : ¬ 0 = k := by omega
      have a1 : ¬ 1 = k := by omega
      have a2 : ¬ 2 = k := by omega
      have a3 : ¬ 3 = k := by omega
      simp [u2, a0, a1, a2, a3]
    · by_cases u7 : u = 7
      · have a4 : ¬ 4 = k := by omega
        have a5 : ¬ 5 = k := by omega
        have a6 : ¬ 6 = k := by omega
        simp [u7, a4, a5, a6]
      · simp only [u1, u2, u7, if_false]
theorem atX.setLo (h : atX aC ad G σ) (k : Nat) {v : Int64} {e0 e1 : va_E} (h0 : xc aC ad σ 2 = some e0) (hx : xc aC ad (xlo σ k v) 2 = some e1) : atX aC ad (yup G (ad 2) (2, e1)) (xlo σ k v) := by
  refine h.up 2 h0 hx (fun u hu => ?_) h.2
  unfold xc xlo
  simp only [hu, if_false]
theorem atX.setVw (h : atX aC ad G σ) {f : Nat → Int64} : atX aC ad (yup G (ad 3) (3, .inl (aC 1, 512, .inr (.inl f)))) (xvw σ f) := by
  refine h.up 3 rfl rfl (fun u hu => ?_) h.2
  unfold xc xvw
  simp only [hu, if_false]
end YST
/-! numbers -/
theorem yeqI {a b : Int32} : a = b ↔ a.toInt = b.toInt := Int32.toInt_inj.symm
theorem y01 {v : Int32} (h : v = 0 ∨ v = 1) : narrow .boolean (.int v) = .int v := by rcases h with rfl | rfl <;> rfl
theorem yrng (x : Int32) : -2147483648 ≤ x.toInt ∧ x.toInt < 2147483648 := ⟨Int32.le_toInt x, Int32.toInt_lt x⟩
theorem ybmod {z : Int} (h1 : -2147483648 ≤ z) (h2 : z < 2147483648) : z.bmod (2 ^ 32) = z := by
  rw [Int.bmod_def]
  omega
theorem yadd {x y : Int32} (h1 : -2147483648 ≤ x.toInt + y.toInt) (h2 : x.toInt + y.toInt < 2147483648) : (x + y).toInt = x.toInt + y.toInt := by rw [Int32.toInt_add]; exact ybmod h1 h2
theorem ysub {x y : Int32} (h1 : -2147483648 ≤ x.toInt - y.toInt) (h2 : x.toInt - y.toInt < 2147483648) : (x - y).toInt = x.toInt - y.toInt := by rw [Int32.toInt_sub]; exact ybmod h1 h2
theorem ymul {x y : Int32} (h1 : -2147483648 ≤ x.toInt * y.toInt) (h2 : x.toInt * y.toInt < 2147483648) : (x * y).toInt = x.toInt * y.toInt := by rw [Int32.toInt_mul]; exact ybmod h1 h2
theorem ylt {a b : Int32} : a < b ↔ a.toInt < b.toInt := Int32.lt_iff_toInt_lt
theorem yle {a b : Int32} : a ≤ b ↔ a.toInt ≤ b.toInt := Int32.le_iff_toInt_le
theorem ydec {i n : Int32} (h : ¬ n ≤ i) : (n.toInt - (i + 1).toInt).toNat < (n.toInt - i.toInt).toNat := by
  rw [yle] at h
  have h1 := yrng n
  have h2 := yrng i
  have e1 : (1 : Int32).toInt = 1 := by decide
  have e : (i + 1).toInt = i.toInt + 1 := by rw [yadd (by omega) (by omega), e1]
  omega
theorem ydec2 {i n : Int32} (h : ¬ n < i) (hn : n.toInt < 2147483647) : (n.toInt + 1 - (i + 1).toInt).toNat < (n.toInt + 1 - i.toInt).toNat := by
  rw [ylt] at h
  have h2 := yrng i
  have e1 : (1 : Int32).toInt = 1 := by decide
  have e : (i + 1).toInt = i.toInt + 1 := by rw [yadd (by omega) (by omega), e1]
  omega
theorem yofNat {n : Nat} (h : n < 2147483648) : (Int32.ofNat n).toInt = n := by
  have h1 := nI_toInt (n := n) (by omega)
  exact h1
theorem yclamp {x : Int32} (h : 0 ≤ x.toInt) : ((x.toNatClampNeg : Nat) : Int) = x.toInt := by
  show ((x.toInt.toNat : Nat) : Int) = x.toInt
  omega
theorem yin {x : Int32} {n : Nat} (h : 0 ≤ x.toInt) (h2 : x.toInt < n) : vp_in x n := vp_in_iff.mpr ⟨h, h2⟩
theorem yl_m1 : (-1 : Int32).toInt = -1 := by decide
theorem yl_0 : (0 : Int32).toInt = 0 := by decide
theorem yl_1 : (1 : Int32).toInt = 1 := by decide
theorem yl_2 : (2 : Int32).toInt = 2 := by decide
theorem yl_3 : (3 : Int32).toInt = 3 := by decide
theorem yl_4 : (4 : Int32).toInt = 4 := by decide
theorem yl_5 : (5 : Int32).toInt = 5 := by decide
theorem yl_6 : (6 : Int32).toInt = 6 := by decide
theorem yl_7 : (7 : Int32).toInt = 7 := by decide
theorem yl_8 : (8 : Int32).toInt = 8 := by decide
theorem yl_9 : (9 : Int32).toInt = 9 := by decide
theorem yl_10 : (10 : Int32).toInt = 10 := by decide
theorem yl_11 : (11 : Int32).toInt = 11 := by decide
theorem yl_12 : (12 : Int32).toInt = 12 := by decide
theorem yl_15 : (15 : Int32).toInt = 15 := by decide
theorem yl_16 : (16 : Int32).toInt = 16 := by decide
theorem yl_20 : (20 : Int32).toInt = 20 := by decide
theorem yl_23 : (23 : Int32).toInt = 23 := by decide
theorem yl_29 : (29 : Int32).toInt = 29 := by decide
theorem yl_31 : (31 : Int32).toInt = 31 := by decide
theorem yl_39 : (39 : Int32).toInt = 39 := by decide
theorem yl_48 : (48 : Int32).toInt = 48 := by decide
theorem yl_59 : (59 : Int32).toInt = 59 := by decide
theorem yl_60 : (60 : Int32).toInt = 60 := by decide
theorem yl_63 : (63 : Int32).toInt = 63 := by decide
theorem yl_64 : (64 : Int32).toInt = 64 := by decide
theorem yl_90 : (90 : Int32).toInt = 90 := by decide
theorem yl_97 : (97 : Int32).toInt = 97 := by decide
theorem yl_99 : (99 : Int32).toInt = 99 := by decide
theorem yl_100 : (100 : Int32).toInt = 100 := by decide
theorem yl_120 : (120 : Int32).toInt = 120 := by decide
theorem yl_180 : (180 : Int32).toInt = 180 := by decide
theorem yl_239 : (239 : Int32).toInt = 239 := by decide
theorem yl_240 : (240 : Int32).toInt = 240 := by decide
theorem yl_250 : (250 : Int32).toInt = 250 := by decide
theorem yl_511 : (511 : Int32).toInt = 511 := by decide
theorem yl_512 : (512 : Int32).toInt = 512 := by decide
theorem yl_495 : (495 : Int32).toInt = 495 := by decide
/-- what the row k holds at a place -/
def xat (σ : XS) (k : Nat) (i : Int32) : Int32 := if 0 ≤ i.toInt ∧ i.toInt < (xcap k : Int) then σ.2.1 k i.toNatClampNeg else -1
def xput (σ : XS) (k : Nat) (i v : Int32) : XS := if 0 ≤ i.toInt ∧ i.toInt < (xcap k : Int) then xar σ k (upd (σ.2.1 k) i.toNatClampNeg v) else σ
def xadd (σ : XS) (k : Nat) (v : Int32) : XS := if (σ.1 k).toInt < (xcap k : Int) then xput (xsz σ k (σ.1 k + 1)) k (σ.1 k + 1 - 1) v else σ
/-- a state of which the numbers and sizes stand -/
def xgr (σ σ1 : XS) : Prop := σ1.1 = σ.1 ∧ σ1.2.1 = σ.2.1 ∧ σ1.2.2.1 = σ.2.2.1
theorem xgr.rfl' {σ : XS} : xgr σ σ := ⟨rfl, rfl, rfl⟩
theorem xgr.trans {σ σ1 σ2 : XS} (h1 : xgr σ σ1) (h2 : xgr σ1 σ2) : xgr σ σ2 := ⟨h2.1.trans h1.1, h2.2.1.trans h1.2.1, h2.2.2.trans h1.2.2⟩
theorem xsz_self {σ : XS} {k : Nat} {v : Int32} : (xsz σ k v).1 k = v := if_pos rfl
theorem xput_sz {σ : XS} {k j : Nat} {i v : Int32} : (xput σ k i v).1 j = σ.1 j := by unfold xput; split <;> rfl
/-- what may change: sizes k as k, contents of rows k as 24 + k, numbers k as 48 + k, sets k as 56 + k, views as 61 -/
def xfr (m : List Nat) (σ σ1 : XS) : Prop := (∀ k : Nat, ¬ k ∈ m → σ1.1 k = σ.1 k) ∧ (∀ k : Nat, ¬ 24 + k ∈ m → σ1.2.1 k = σ.2.1 k) ∧ (∀ k : Nat, ¬ 48 + k ∈ m → σ1.2.2.1 k = σ.2.2.1 k) ∧ (∀ k : Nat, ¬ 56 + k ∈ m → σ1.2.2.2.1 k = σ.2.2.2.1 k) ∧ (¬ 61 ∈ m → σ1.2.2.2.2 = σ.2.2.2.2)
theorem xkn.rfl' {σ : XS} : xfr [] σ σ := ⟨fun _ _ => rfl, fun _ _ => rfl, fun _ _ => rfl, fun _ _ => rfl, fun _ => rfl⟩
theorem xkn.trans {m1 m2 : List Nat} {σ σ1 σ2 : XS} (h1 : xfr m1 σ σ1) (h2 : xfr m2 σ1 σ2) : xfr (m1 ++ m2) σ σ2 :=
  ⟨fun k h => (h2.1 k (fun q => h (List.mem_append_right _ q))).trans (h1.1 k (fun q => h (List.mem_append_left _ q))), fun k h => (h2.2.1 k (fun q => h (List.mem_append_right _ q))).trans (h1.2.1 k (fun q => h (List.mem_append_left _ q))), fun k h => (h2.2.2.1 k (fun q => h (List.mem_append_right _ q))).trans (h1.2.2.1 k (fun q => h (List.mem_append_left _ q))), fun k h => (h2.2.2.2.1 k (fun q => h (List.mem_append_right _ q))).trans (h1.2.2.2.1 k (fun q => h (List.mem_append_left _ q))), fun h => (h2.2.2.2.2 (fun q => h (List.mem_append_right _ q))).trans (h1.2.2.2.2 (fun q => h (List.mem_append_left _ q)))⟩
theorem xfr.w {m m1 : List Nat} {σ σ1 : XS} (h : xfr m σ σ1) (hw : ∀ x, x ∈ m → x ∈ m1 := by decide) : xfr m1 σ σ1 := ⟨fun k q => h.1 k (fun z => q (hw _ z)), fun k q => h.2.1 k (fun z => q (hw _ z)), fun k q => h.2.2.1 k (fun z => q (hw _ z)), fun k q => h.2.2.2.1 k (fun z => q (hw _ z)), fun q => h.2.2.2.2 (fun z => q (hw _ z))⟩
theorem xfr.z {m : List Nat} {σ σ1 : XS} {k : Nat} {v : Int32} (h : xfr m σ σ1) (e : σ.1 k = v) (hk : ¬ k ∈ m := by decide) : σ1.1 k = v := (h.1 k hk).trans e
theorem xfr.r {m : List Nat} {σ σ1 : XS} {k : Nat} {f : Nat → Int32} (h : xfr m σ σ1) (e : σ.2.1 k = f) (hk : ¬ 24 + k ∈ m := by decide) : σ1.2.1 k = f := (h.2.1 k hk).trans e
theorem xfr.i {m : List Nat} {σ σ1 : XS} {k : Nat} {v : Int32} (h : xfr m σ σ1) (e : σ.2.2.1 k = v) (hk : ¬ 48 + k ∈ m := by decide) : σ1.2.2.1 k = v := (h.2.2.1 k hk).trans e
theorem xfr.s {m : List Nat} {σ σ1 : XS} {k : Nat} {v : Int64} (h : xfr m σ σ1) (e : σ.2.2.2.1 k = v) (hk : ¬ 56 + k ∈ m := by decide) : σ1.2.2.2.1 k = v := (h.2.2.2.1 k hk).trans e
theorem xkn_sz {σ : XS} {k : Nat} {v : Int32} : xfr [k] σ (xsz σ k v) := ⟨fun j h => if_neg (fun e => h (List.mem_singleton.mpr e)), fun _ _ => rfl, fun _ _ => rfl, fun _ _ => rfl, fun _ => rfl⟩
theorem xkn_ar {σ : XS} {k : Nat} {f : Nat → Int32} : xfr [24 + k] σ (xar σ k f) := ⟨fun _ _ => rfl, fun j h => if_neg (fun e => h (List.mem_singleton.mpr (by rw [e]))), fun _ _ => rfl, fun _ _ => rfl, fun _ => rfl⟩
theorem xkn_put {σ : XS} {k : Nat} {i v : Int32} : xfr [24 + k] σ (xput σ k i v) := by
  unfold xput
  split
  · exact xkn_ar
  · exact xkn.rfl'.w (fun _ h => nomatch h)
theorem xkn_add {σ : XS} {k : Nat} {v : Int32} : xfr [k, 24 + k] σ (xadd σ k v) := by
  unfold xadd
  split
  · exact xkn.trans xkn_sz xkn_put
  · exact xkn.rfl'.w (fun _ h => nomatch h)
theorem xkn_in {σ : XS} {k : Nat} {v : Int32} : xfr [48 + k] σ (xin σ k v) := ⟨fun _ _ => rfl, fun _ _ => rfl, fun j h => if_neg (fun e => h (List.mem_singleton.mpr (by rw [e]))), fun _ _ => rfl, fun _ => rfl⟩
theorem xkn_lo {σ : XS} {k : Nat} {v : Int64} : xfr [56 + k] σ (xlo σ k v) := ⟨fun _ _ => rfl, fun _ _ => rfl, fun _ _ => rfl, fun j h => if_neg (fun e => h (List.mem_singleton.mpr (by rw [e]))), fun _ => rfl⟩
theorem xkn_vw {σ : XS} {f : Nat → Int64} : xfr [61] σ (xvw σ f) := ⟨fun _ _ => rfl, fun _ _ => rfl, fun _ _ => rfl, fun _ _ => rfl, fun h => absurd (List.mem_singleton.mpr rfl) h⟩
theorem xadd_in {σ : XS} {k : Nat} {v : Int32} : (xadd σ k v).2.2 = σ.2.2 := by
  unfold xadd xput
  split
  · split <;> rfl
  · rfl
theorem xadd_sz1 {σ : XS} {k : Nat} {v : Int32} (h : (σ.1 k).toInt < (xcap k : Int)) : (xadd σ k v).1 k = σ.1 k + 1 := by
  unfold xadd
  rw [if_pos h, xput_sz]
  exact xsz_self
theorem xadd_szn {σ : XS} {k j : Nat} {v : Int32} (h : j ≠ k) : (xadd σ k v).1 j = σ.1 j := by
  unfold xadd
  split
  · rw [xput_sz]; exact if_neg h
  · rfl
theorem xadd_ar1 {σ : XS} {k : Nat} {v : Int32} (h0 : 0 ≤ (σ.1 k).toInt) (h : (σ.1 k).toInt < (xcap k : Int)) : (xadd σ k v).2.1 k = upd (σ.2.1 k) (σ.1 k).toNatClampNeg v := by
  have em : (σ.1 k + 1 - 1 : Int32) = σ.1 k := Int32.add_sub_cancel _ _
  unfold xadd
  rw [if_pos h, em]
  unfold xput
  rw [if_pos ⟨h0, h⟩]
  exact if_pos rfl
theorem xadd_arn {σ : XS} {k j : Nat} {v : Int32} (h : j ≠ k) : (xadd σ k v).2.1 j = σ.2.1 j := by
  unfold xadd xput
  split
  · split
    · exact if_neg h
    · rfl
  · rfl
/-- the next number of the row -/
def yaft (n : Int32) : Int32 := (23 * n + 15) - (23 * n + 15) / 97 * 97
def yit : Nat → Int32 → Int32
  | 0, n => n
  | k + 1, n => yaft (yit k n)
theorem xgr_lo {σ : XS} {k : Nat} {v : Int64} : xgr σ (xlo σ k v) := ⟨rfl, rfl, rfl⟩
theorem xgr_vw {σ : XS} {f : Nat → Int64} : xgr σ (xvw σ f) := ⟨rfl, rfl, rfl⟩
theorem y01i (c : Prop) [Decidable c] : (if c then (1 : Int32) else 0) = 0 ∨ (if c then (1 : Int32) else 0) = 1 := by
  by_cases h : c
  · exact Or.inr (if_pos h)
  · exact Or.inl (if_neg h)
theorem yM.ofK {l : Launch} {S0 : State} {D : va_G} {y : MethodName} {cc : ByteArray} {nL : Nat} {ret : Option FieldType} {d mc ms : Nat} {As : List Value} {G : AH} {Q : Option Value → AH → Prop} {X : String → AH → Prop} (K : yK) (hK : K = (y.cls, y.name, cc, nL, ret, []))
    (hy : plainName y.cls = true) (hn : (lg_sl As).length ≤ nL) (hY : Y l S0 D K d mc ms Q X 0 (lv_args 0 As) [] G mc ms) : yM l S0 D y cc nL ret d mc ms As G Q X := by
  subst hK
  exact yM.of hy hn hY
theorem hfupd {σ : XS} (h : xb σ) {k i : Nat} {v : Int32} (hv : k = 18 → v.toInt ≤ 1000) : k = 18 → ∀ j : Nat, (upd (σ.2.1 k) i v j).toInt ≤ 1000 := by
  intro q j
  unfold upd
  split
  · exact hv q
  · rw [q]; exact h.2.2 j
theorem xno {p : Prop} (h : False) : p := h.elim
theorem y_ldcw {l : Launch} {S0 : State} {A0 : Array Value} {D : va_G} {aC : Nat → ClassId} {K : yK} {d mc ms : Nat} {Q : Option Value → AH → Prop} {X : String → AH → Prop} {T : yT} {pc kc ks : Nat} {L : yL} {rest : List Value} {G : AH} (hS : yS l S0 A0 D aC) (hT : yTok K.cc T) {ix : Nat} {v : Int32} (ht : yat pc T = some (.ldc_w ix, 3)) (hw : yWd (.constant K.own ix v)) (k : Y l S0 D K d mc ms Q X (pc + 3) L (.int v :: rest) G kc ks) : Y l S0 D K d mc ms Q X pc L rest G kc ks := by
  intro p e s m args below meth c H locs cells slots ls F hl hG hz hL hc hs
  exact lv_ldcw F.1 F.2.1 F.2.2.2.1 (hw.use hS F.2.2.2.2.2.2.2.2.1) (yat_ok hT ht) (k p e s m args below meth c H locs cells slots ls F hl hG hz hL hc hs)
