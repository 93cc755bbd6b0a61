/-! ===== the state of the class NightwatchWall as a value, and how the heap holds it ===== -/
/-- sizes of the rows of Numbers; their contents; numbers; sets of cells; views -/
abbrev XS : Type := (Nat → Int32) × (Nat → Nat → Int32) × (Nat → Int32) × (Nat → Int64) × (Nat → Int64)
def xcap (k : Nat) : Nat := ([6, 6, 6, 8, 8, 6, 6, 6, 6, 36, 4, 4, 8, 6, 6, 6, 4, 4, 4, 60, 4, 4, 5, 5] : List Nat).getD k 0
theorem xcap_le (k : Nat) : xcap k ≤ 60 := by
  by_cases h : k < 24
  · have key : ∀ j, j < 24 → xcap j ≤ 60 := by decide
    exact key k h
  · have e : xcap k = 0 := by
      unfold xcap
      rw [List.getD_eq_getElem?_getD, List.getElem?_eq_none (show 24 ≤ k by omega)]
      rfl
    omega
/-- what lies at the tag t -/
def xc (aC : Nat → ClassId) (ad : Nat → Nat) (σ : XS) (t : Nat) : Option va_E :=
  if t = 1 then some (.inr (12, [.ref (ad 2), .ref (ad 4), .ref (ad 5), .ref (ad 6), .ref (ad 120), .ref (ad 7), .ref (ad 130), .ref (ad 8), .ref (ad 9), .int (σ.2.2.1 7)]))
  else if t = 2 then some (.inr (5, [.int (σ.2.2.1 0), .int (σ.2.2.1 1), .long (σ.2.2.2.1 0), .long (σ.2.2.2.1 1), .long (σ.2.2.2.1 2), .long (σ.2.2.2.1 3), .long (σ.2.2.2.1 4), .int (σ.2.2.1 2), .int (σ.2.2.1 3), .ref (ad 3)]))
  else if t = 3 then some (.inl (aC 1, 512, .inr (.inl σ.2.2.2.2)))
  else if t = 4 then some (.inr (8, [.ref (ad 100), .ref (ad 102), .ref (ad 104)]))
  else if t = 5 then some (.inr (4, [.ref (ad 106), .ref (ad 108)]))
  else if t = 6 then some (.inr (6, [.ref (ad 110), .ref (ad 112), .ref (ad 114), .ref (ad 116), .ref (ad 118)]))
  else if t = 7 then some (.inr (11, [.ref (ad 122), .ref (ad 124), .ref (ad 126), .ref (ad 128), .int (σ.2.2.1 4), .int (σ.2.2.1 5), .int (σ.2.2.1 6)]))
  else if t = 8 then some (.inr (7, [.ref (ad 132), .ref (ad 134), .ref (ad 136), .ref (ad 138), .ref (ad 140), .ref (ad 142)]))
  else if t = 9 then some (.inr (10, [.ref (ad 144), .ref (ad 146)]))
  else if 100 ≤ t ∧ t < 148 then
    (if t % 2 = 0 then some (.inr (9, [.ref (ad (t + 1)), .int (σ.1 ((t - 100) / 2))]))
    else some (.inl (aC 0, xcap ((t - 100) / 2), .inl (σ.2.1 ((t - 100) / 2)))))
  else none
/-- the sizes are sizes -/
def xb (σ : XS) : Prop := ∀ k : Nat, 0 ≤ (σ.1 k).toInt ∧ (σ.1 k).toInt ≤ xcap k
def atX (aC : Nat → ClassId) (ad : Nat → Nat) (G : AH) (σ : XS) : Prop := (∀ (t : Nat) (e : va_E), xc aC ad σ t = some e → G (ad t) = some (t, e)) ∧ xb σ
/-- what isn't the class's stays -/
def keepX (G G1 : AH) : Prop := ∀ (a t : Nat) (e : va_E), G a = some (t, e) → (t = 0 ∨ 200 ≤ t) → G1 a = some (t, e)
theorem keepX.rfl' {G : AH} : keepX G G := fun _ _ _ h _ => h
theorem keepX.trans {G G1 G2 : AH} (h1 : keepX G G1) (h2 : keepX G1 G2) : keepX G G2 := fun a t e h q => h2 a t e (h1 a t e h q) q
theorem keepX.up {G G1 : AH} (h : keepX G G1) {a t : Nat} {e e1 : va_E} (hg : G1 a = some (t, e)) (h1 : t ≠ 0) (h2 : t < 200) : keepX G (yup G1 a (t, e1)) := by
  intro b u x hb hu
  have hb1 := h b u x hb hu
  have hne : b ≠ a := by
    intro q
    rw [q, hg] at hb1
    cases hb1
    omega
  rw [yup_n _ hne]
  exact hb1
section YST
variable {aC : Nat → ClassId} {ad : Nat → Nat} {G : AH} {σ σ1 : XS}
theorem atX.up (h : atX aC ad G σ) (t : Nat) {e0 e1 : va_E} (h0 : xc aC ad σ t = some e0) (hx : xc aC ad σ1 t = some e1) (ho : ∀ u, u ≠ t → xc aC ad σ1 u = xc aC ad σ u) (hb : xb σ1) : atX aC ad (yup G (ad t) (t, e1)) σ1 := by
  refine ⟨fun u e hu => ?_, hb⟩
  by_cases q : u = t
  · subst q
    rw [hx] at hu
    cases hu
    exact yup_s _ _ _
  · rw [ho u q] at hu
    have h1 := h.1 u e hu
    have h2 := h.1 t e0 h0
    have hne : ad u ≠ ad t := by
      intro z
      rw [z, h2] at h1
      cases h1
      exact q rfl
    rw [yup_n _ hne]
    exact h1
theorem xc_num (k : Nat) (hk : k < 24) : xc aC ad σ (100 + 2 * k) = some (.inr (9, [.ref (ad (100 + 2 * k + 1)), .int (σ.1 k)])) := by
  unfold xc
  rw [if_neg (by omega), if_neg (by omega), if_neg (by omega), if_neg (by omega), if_neg (by omega), if_neg (by omega), if_neg (by omega), if_neg (by omega), if_neg (by omega), if_pos ⟨by omega, by omega⟩, if_pos (by omega), show (100 + 2 * k - 100) / 2 = k by omega]
theorem xc_arr (k : Nat) (hk : k < 24) : xc aC ad σ (100 + 2 * k + 1) = some (.inl (aC 0, xcap k, .inl (σ.2.1 k))) := by
  unfold xc
  rw [if_neg (by omega), if_neg (by omega), if_neg (by omega), if_neg (by omega), if_neg (by omega), if_neg (by omega), if_neg (by omega), if_neg (by omega), if_neg (by omega), if_pos ⟨by omega, by omega⟩, if_neg (by omega), show (100 + 2 * k + 1 - 100) / 2 = k by omega]
theorem atX.num (h : atX aC ad G σ) {k : Nat} (hk : k < 24) : G (ad (100 + 2 * k)) = some (100 + 2 * k, .inr (9, [.ref (ad (100 + 2 * k + 1)), .int (σ.1 k)])) := h.1 _ _ (xc_num k hk)
theorem atX.arr (h : atX aC ad G σ) {k : Nat} (hk : k < 24) : G (ad (100 + 2 * k + 1)) = some (100 + 2 * k + 1, .inl (aC 0, xcap k, .inl (σ.2.1 k))) := h.1 _ _ (xc_arr k hk)
/-- a size, a row's contents, a number, a set, the views written -/
def xsz (σ : XS) (k : Nat) (v : Int32) : XS := (fun j => if j = k then v else σ.1 j, σ.2)
def xar (σ : XS) (k : Nat) (f : Nat → Int32) : XS := (σ.1, fun j => if j = k then f else σ.2.1 j, σ.2.2)
def xin (σ : XS) (k : Nat) (v : Int32) : XS := (σ.1, σ.2.1, fun j => if j = k then v else σ.2.2.1 j, σ.2.2.2)
def xlo (σ : XS) (k : Nat) (v : Int64) : XS := (σ.1, σ.2.1, σ.2.2.1, fun j => if j = k then v else σ.2.2.2.1 j, σ.2.2.2.2)
def xvw (σ : XS) (f : Nat → Int64) : XS := (σ.1, σ.2.1, σ.2.2.1, σ.2.2.2.1, f)
theorem xb_sz {σ : XS} (h : xb σ) (k : Nat) {v : Int32} (h1 : 0 ≤ v.toInt) (h2 : v.toInt ≤ xcap k) : xb (xsz σ k v) := by
  intro j
  show 0 ≤ (if j = k then v else σ.1 j).toInt ∧ (if j = k then v else σ.1 j).toInt ≤ xcap j
  by_cases q : j = k
  · subst q; rw [if_pos rfl]; exact ⟨h1, h2⟩
  · rw [if_neg q]; exact h j
theorem atX.setSz (h : atX aC ad G σ) {k : Nat} (hk : k < 24) {v : Int32} (h1 : 0 ≤ v.toInt) (h2 : v.toInt ≤ xcap k) : atX aC ad (yup G (ad (100 + 2 * k)) (100 + 2 * k, .inr (9, [.ref (ad (100 + 2 * k + 1)), .int v]))) (xsz σ k v) := by
  refine h.up (100 + 2 * k) (xc_num k hk) ?_ (fun u hu => ?_) (xb_sz h.2 k h1 h2)
  · rw [xc_num k hk]; simp [xsz]
  · unfold xc
    by_cases q : 100 ≤ u ∧ u < 148
    · by_cases q2 : u % 2 = 0
      · have e : ¬ (u - 100) / 2 = k := by omega
        simp only [q2, if_true, xsz, e, if_false]
      · simp only [q2, if_false, xsz]
    · simp only [q, if_false, xsz]
theorem atX.setAr (h : atX aC ad G σ) {k : Nat} (hk : k < 24) {f : Nat → Int32} : atX aC ad (yup G (ad (100 + 2 * k + 1)) (100 + 2 * k + 1, .inl (aC 0, xcap k, .inl f))) (xar σ k f) := by
  refine h.up (100 + 2 * k + 1) (xc_arr k hk) ?_ (fun u hu => ?_) h.2
  · rw [xc_arr k hk]; simp [xar]
  · unfold xc
    by_cases q : 100 ≤ u ∧ u < 148
    · by_cases q2 : u % 2 = 0
      · simp only [q2, if_true, xar]
      · have e : ¬ (u - 100) / 2 = k := by omega
        simp only [q2, if_false, xar, e]
    · simp only [q, if_false, xar]
theorem atX.setIn (h : atX aC ad G σ) (k t : Nat) {v : Int32} {e0 e1 : va_E} (ht : (k ≤ 3 ∧ t = 2) ∨ (4 ≤ k ∧ k ≤ 6 ∧ t = 7) ∨ (k = 7 ∧ t = 1)) (h0 : xc aC ad σ t = some e0) (hx : xc aC ad (xin σ k v) t = some e1) : atX aC ad (yup G (ad t) (t, e1)) (xin σ k v) := by
  refine h.up t h0 hx (fun u hu => ?_) h.2
  unfold xc xin
  by_cases u1 : u = 1
  · have e : ¬ 7 = k := by omega
    simp only [u1, if_true, e, if_false]
  · by_cases u2 : u = 2
    · have a0 : ¬ 0 = k := by omega
      have a1 : ¬ 1 = k := by omega
      have a2 : ¬ 2 = k := by omega
      have a3 : ¬ 3 = k := by omega
      simp [u2, a0, a1, a2, a3]
    · by_cases u7 : u = 7
      · have a4 : ¬ 4 = k := by omega
        have a5 : ¬ 5 = k := by omega
        have a6 : ¬ 6 = k := by omega
        simp [u7, a4, a5, a6]
      · simp only [u1, u2, u7, if_false]
theorem atX.setLo (h : atX aC ad G σ) (k : Nat) {v : Int64} {e0 e1 : va_E} (h0 : xc aC ad σ 2 = some e0) (hx : xc aC ad (xlo σ k v) 2 = some e1) : atX aC ad (yup G (ad 2) (2, e1)) (xlo σ k v) := by
  refine h.up 2 h0 hx (fun u hu => ?_) h.2
  unfold xc xlo
  simp only [hu, if_false]
theorem atX.setVw (h : atX aC ad G σ) {f : Nat → Int64} : atX aC ad (yup G (ad 3) (3, .inl (aC 1, 512, .inr (.inl f)))) (xvw σ f) := by
  refine h.up 3 rfl rfl (fun u hu => ?_) h.2
  unfold xc xvw
  simp only [hu, if_false]
end YST
/-! numbers -/
theorem yeqI {a b : Int32} : a = b ↔ a.toInt = b.toInt := Int32.toInt_inj.symm
theorem y01 {v : Int32} (h : v = 0 ∨ v = 1) : narrow .boolean (.int v) = .int v := by rcases h with rfl | rfl <;> rfl
theorem yrng (x : Int32) : -2147483648 ≤ x.toInt ∧ x.toInt < 2147483648 := ⟨Int32.le_toInt x, Int32.toInt_lt x⟩
theorem ybmod {z : Int} (h1 : -2147483648 ≤ z) (h2 : z < 2147483648) : z.bmod (2 ^ 32) = z := by
  rw [Int.bmod_def]
  omega
theorem yadd {x y : Int32} (h1 : -2147483648 ≤ x.toInt + y.toInt) (h2 : x.toInt + y.toInt < 2147483648) : (x + y).toInt = x.toInt + y.toInt := by rw [Int32.toInt_add]; exact ybmod h1 h2
theorem ysub {x y : Int32} (h1 : -2147483648 ≤ x.toInt - y.toInt) (h2 : x.toInt - y.toInt < 2147483648) : (x - y).toInt = x.toInt - y.toInt := by rw [Int32.toInt_sub]; exact ybmod h1 h2
theorem ymul {x y : Int32} (h1 : -2147483648 ≤ x.toInt * y.toInt) (h2 : x.toInt * y.toInt < 2147483648) : (x * y).toInt = x.toInt * y.toInt := by rw [Int32.toInt_mul]; exact ybmod h1 h2
theorem ylt {a b : Int32} : a < b ↔ a.toInt < b.toInt := Int32.lt_iff_toInt_lt
theorem yle {a b : Int32} : a ≤ b ↔ a.toInt ≤ b.toInt := Int32.le_iff_toInt_le
theorem ydec {i n : Int32} (h : ¬ n ≤ i) : (n.toInt - (i + 1).toInt).toNat < (n.toInt - i.toInt).toNat := by
  rw [yle] at h
  have h1 := yrng n
  have h2 := yrng i
  have e1 : (1 : Int32).toInt = 1 := by decide
  have e : (i + 1).toInt = i.toInt + 1 := by rw [yadd (by omega) (by omega), e1]
  omega
theorem ydec2 {i n : Int32} (h : ¬ n < i) (hn : n.toInt < 2147483647) : (n.toInt + 1 - (i + 1).toInt).toNat < (n.toInt + 1 - i.toInt).toNat := by
  rw [ylt] at h
  have h2 := yrng i
  have e1 : (1 : Int32).toInt = 1 := by decide
  have e : (i + 1).toInt = i.toInt + 1 := by rw [yadd (by omega) (by omega), e1]
  omega
theorem yofNat {n : Nat} (h : n < 2147483648) : (Int32.ofNat n).toInt = n := by
  have h1 := nI_toInt (n := n) (by omega)
  exact h1
theorem yclamp {x : Int32} (h : 0 ≤ x.toInt) : ((x.toNatClampNeg : Nat) : Int) = x.toInt := by
  show ((x.toInt.toNat : Nat) : Int) = x.toInt
  omega
theorem yin {x : Int32} {n : Nat} (h : 0 ≤ x.toInt) (h2 : x.toInt < n) : vp_in x n := vp_in_iff.mpr ⟨h, h2⟩
