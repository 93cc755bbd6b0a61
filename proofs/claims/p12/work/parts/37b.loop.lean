/-! ===== the law: its loop, its whole ===== -/
section YLZ
variable {l : Launch} {S0 : State} {A0 : Array Value} {D : va_G} {aC : Nat → ClassId} {ic : Int32 → Nat} {de : Nat} {nm : String} {et : List ExceptionTableEntry} {mc ms : Nat} {Q : Option Value → AH → Prop} {X : String → AH → Prop} {kc ks : Nat} {b LL : Nat} {xs : Nat → Int32} {x m o : Nat} {i : Int32} {G : AH}
set_option maxRecDepth 100000 in
theorem sw_L : yat 43 t_L_h = some (.tableswitch 1620 0 33 #[149, 201, 241, 281, 321, 377, 417, 481, 521, 549, 589, 677, 729, 769, 825, 877, 905, 933, 985, 1025, 1065, 1117, 1157, 1197, 1237, 1289, 1329, 1393, 1445, 1513, 1541, 1581, 1594, 1607], 149) := rfl
set_option maxHeartbeats 100000000 in
set_option maxRecDepth 100000 in
theorem law_loop (hS : yS l S0 A0 D aC) (hI : yIc S0 ic de) (hXs : va_X b LL xs S0 S0.heap) (hb : b < S0.heap.size) (hLL : LL ≤ 2560) (hQ : ∀ G1, LSt aC ic de x m o G1 → Q (some (.int 1)) G1) : ∀ (n : Nat) (i : Int32) (G : AH), 0 ≤ i.toInt → i.toInt < 10000 → (LL : Int) < i.toInt + 5 * (n + 1) → LSt aC ic de x m o G → Y l S0 D (K_L_law nm et) 1300 mc ms Q X 27 [(0, .ref b), (1, .ref x), (2, .ref m), (3, .ref o), (4, .int i)] [] G (kc + 200 * n) (ks + 8000 * n) := by
  intro n
  induction n with
  | zero =>
    intro i G hi0 hi9 hf hG
    refine y_blk 2 (tqL_h nm et) (z := (30, [(0, .ref b), (1, .ref x), (2, .ref m), (3, .ref o), (4, .int i)], [.ref b, .int i])) rfl ?_
    refine y_slen (tqL_h nm et) hXs hb hLL rfl ?_
    refine y_blk 2 (tqL_h nm et) (z := (33, [(0, .ref b), (1, .ref x), (2, .ref m), (3, .ref o), (4, .int i)], [.int (Int32.ofNat LL - 5), .int i])) rfl ?_
    have hL0 : (Int32.ofNat LL).toInt = (LL : Int) := by rw [Int32.toInt_ofNat']; exact ybmod (by omega) (by omega)
    have h5 : (5 : Int32).toInt = 5 := by decide
    have hL5 : (Int32.ofNat LL - 5).toInt = (LL : Int) - 5 := by rw [ysub (by omega) (by omega), hL0, h5]
    refine y_icmp_gt (tqL_h nm et) 1669 rfl rfl (fun c1 => ?_) (fun c1 => ?_)
    · refine y_blk 1 (tqL_h nm et) (z := (1670, [(0, .ref b), (1, .ref x), (2, .ref m), (3, .ref o), (4, .int i)], [.int 1])) rfl ?_
      exact y_zret (tqL_h nm et) rfl rfl (by decide) (hQ G hG)
    · exact absurd (ylt.mpr (by omega)) c1
  | succ n ih =>
    intro i G hi0 hi9 hf hG
    refine y_blk 2 (tqL_h nm et) (z := (30, [(0, .ref b), (1, .ref x), (2, .ref m), (3, .ref o), (4, .int i)], [.ref b, .int i])) rfl ?_
    refine y_slen (tqL_h nm et) hXs hb hLL rfl ?_
    refine y_blk 2 (tqL_h nm et) (z := (33, [(0, .ref b), (1, .ref x), (2, .ref m), (3, .ref o), (4, .int i)], [.int (Int32.ofNat LL - 5), .int i])) rfl ?_
    have hL0 : (Int32.ofNat LL).toInt = (LL : Int) := by rw [Int32.toInt_ofNat']; exact ybmod (by omega) (by omega)
    have h5 : (5 : Int32).toInt = 5 := by decide
    have hL5 : (Int32.ofNat LL - 5).toInt = (LL : Int) - 5 := by rw [ysub (by omega) (by omega), hL0, h5]
    refine y_icmp_gt (tqL_h nm et) 1669 rfl rfl (fun c1 => ?_) (fun c1 => ?_)
    · refine y_blk 1 (tqL_h nm et) (z := (1670, [(0, .ref b), (1, .ref x), (2, .ref m), (3, .ref o), (4, .int i)], [.int 1])) rfl ?_
      exact y_zret (tqL_h nm et) rfl rfl (by decide) (hQ G hG)
    · have hi1 : i.toInt + 5 ≤ (LL : Int) := by
        have h9 : ¬ (Int32.ofNat LL - 5).toInt < i.toInt := fun h => c1 (ylt.mpr h)
        omega
      have kk : ∀ G1, LSt aC ic de x m o G1 → Y l S0 D (K_L_law nm et) 1300 mc ms Q X 1663 [(0, .ref b), (1, .ref x), (2, .ref m), (3, .ref o), (4, .int i)] [] G1 (kc + 200 * n) (ks + 8000 * n) := by
        intro G1 hG1
        refine y_blk 2 (tqL_h nm et) (z := (27, [(4, .int (i + 5)), (0, .ref b), (1, .ref x), (2, .ref m), (3, .ref o)], [])) rfl ?_
        refine y_pick (L2 := [(0, .ref b), (1, .ref x), (2, .ref m), (3, .ref o), (4, .int (i + 5))]) [1, 2, 3, 4, 0] rfl ?_
        have e5 : (i + 5).toInt = i.toInt + 5 := by rw [yadd (by omega) (by omega), h5]
        exact ih (i + 5) G1 (by omega) (by omega) (by omega) hG1
      refine y_less (k2 := kc + 200 * n + 200) (n2 := ks + 8000 * n + 8000) (by omega) (by omega) ?_
      refine y_blk 2 (tqL_h nm et) (z := (39, [(0, .ref b), (1, .ref x), (2, .ref m), (3, .ref o), (4, .int i)], [.int i, .ref b])) rfl ?_
      have hv0 : vp_in i LL := by
        have h8 := vp_in_add (i := i) (LL := LL) 0 0 rfl (by decide) hi0 hi1 hLL
        rwa [Int32.add_zero] at h8
      refine y_sld (tqL_h nm et) hXs hb rfl hv0 ?_
      refine y_blk 2 (tqL_h nm et) (z := (43, [(0, .ref b), (1, .ref x), (2, .ref m), (3, .ref o), (4, .int i)], [.int (xs (Int32.toNatClampNeg i) &&& 63)])) rfl ?_
      generalize xs (Int32.toNatClampNeg i) &&& 63 = w9
      by_cases so : w9.toInt < 0 ∨ 33 < w9.toInt
      · refine y_swOut (tqL_h nm et) 1663 sw_L so rfl ?_
        exact y_less (by omega) (by omega) (kk G hG)
      · have s0 : 0 ≤ w9.toInt := by omega
        have s33 : w9.toInt ≤ 33 := by omega
        clear so hf c1 hL5 h5 hL0 ih
        have l9 := s0
        have h9 := s33
        by_cases d16 : w9.toInt ≤ 16
        · have h9 := d16
          by_cases d8 : w9.toInt ≤ 8
          · have h9 := d8
            by_cases d4 : w9.toInt ≤ 4
            · have h9 := d4
              by_cases d2 : w9.toInt ≤ 2
              · have h9 := d2
                by_cases d1 : w9.toInt ≤ 1
                · have h9 := d1
                  by_cases d0 : w9.toInt ≤ 0
                  · have h9 := d0
                    have e9 : w9.toInt = 0 := Int.le_antisymm h9 l9
                    refine y_swIn (tqL_h nm et) 192 sw_L (by rw [e9]; decide) (by rw [e9]; decide) (by rw [e9]; rfl) rfl ?_
                    exact law_0 hS hI hXs hb hi0 hi1 hLL hG kk
                  · have l9 : 1 ≤ w9.toInt := Int.not_le.mp d0
                    have e9 : w9.toInt = 1 := Int.le_antisymm h9 l9
                    refine y_swIn (tqL_h nm et) 244 sw_L (by rw [e9]; decide) (by rw [e9]; decide) (by rw [e9]; rfl) rfl ?_
                    exact law_1 hS hI hXs hb hi0 hi1 hLL hG kk
                · have l9 : 2 ≤ w9.toInt := Int.not_le.mp d1
                  have e9 : w9.toInt = 2 := Int.le_antisymm h9 l9
                  refine y_swIn (tqL_h nm et) 284 sw_L (by rw [e9]; decide) (by rw [e9]; decide) (by rw [e9]; rfl) rfl ?_
                  exact law_2 hS hI hXs hb hi0 hi1 hLL hG kk
              · have l9 : 3 ≤ w9.toInt := Int.not_le.mp d2
                by_cases d3 : w9.toInt ≤ 3
                · have h9 := d3
                  have e9 : w9.toInt = 3 := Int.le_antisymm h9 l9
                  refine y_swIn (tqL_h nm et) 324 sw_L (by rw [e9]; decide) (by rw [e9]; decide) (by rw [e9]; rfl) rfl ?_
                  exact law_3 hS hI hXs hb hi0 hi1 hLL hG kk
                · have l9 : 4 ≤ w9.toInt := Int.not_le.mp d3
                  have e9 : w9.toInt = 4 := Int.le_antisymm h9 l9
                  refine y_swIn (tqL_h nm et) 364 sw_L (by rw [e9]; decide) (by rw [e9]; decide) (by rw [e9]; rfl) rfl ?_
                  exact law_4 hS hI hXs hb hi0 hi1 hLL hG kk
            · have l9 : 5 ≤ w9.toInt := Int.not_le.mp d4
              by_cases d6 : w9.toInt ≤ 6
              · have h9 := d6
                by_cases d5 : w9.toInt ≤ 5
                · have h9 := d5
                  have e9 : w9.toInt = 5 := Int.le_antisymm h9 l9
                  refine y_swIn (tqL_h nm et) 420 sw_L (by rw [e9]; decide) (by rw [e9]; decide) (by rw [e9]; rfl) rfl ?_
                  exact law_5 hS hI hXs hb hi0 hi1 hLL hG kk
                · have l9 : 6 ≤ w9.toInt := Int.not_le.mp d5
                  have e9 : w9.toInt = 6 := Int.le_antisymm h9 l9
                  refine y_swIn (tqL_h nm et) 460 sw_L (by rw [e9]; decide) (by rw [e9]; decide) (by rw [e9]; rfl) rfl ?_
                  exact law_6 hS hI hXs hb hi0 hi1 hLL hG kk
              · have l9 : 7 ≤ w9.toInt := Int.not_le.mp d6
                by_cases d7 : w9.toInt ≤ 7
                · have h9 := d7
                  have e9 : w9.toInt = 7 := Int.le_antisymm h9 l9
                  refine y_swIn (tqL_h nm et) 524 sw_L (by rw [e9]; decide) (by rw [e9]; decide) (by rw [e9]; rfl) rfl ?_
                  exact law_7 hS hI hXs hb hi0 hi1 hLL hG kk
                · have l9 : 8 ≤ w9.toInt := Int.not_le.mp d7
                  have e9 : w9.toInt = 8 := Int.le_antisymm h9 l9
                  refine y_swIn (tqL_h nm et) 564 sw_L (by rw [e9]; decide) (by rw [e9]; decide) (by rw [e9]; rfl) rfl ?_
                  exact law_8 hS hI hXs hb hi0 hi1 hLL hG kk
          · have l9 : 9 ≤ w9.toInt := Int.not_le.mp d8
            by_cases d12 : w9.toInt ≤ 12
            · have h9 := d12
              by_cases d10 : w9.toInt ≤ 10
              · have h9 := d10
                by_cases d9 : w9.toInt ≤ 9
                · have h9 := d9
                  have e9 : w9.toInt = 9 := Int.le_antisymm h9 l9
                  refine y_swIn (tqL_h nm et) 592 sw_L (by rw [e9]; decide) (by rw [e9]; decide) (by rw [e9]; rfl) rfl ?_
                  exact law_9 hS hI hXs hb hi0 hi1 hLL hG kk
                · have l9 : 10 ≤ w9.toInt := Int.not_le.mp d9
                  have e9 : w9.toInt = 10 := Int.le_antisymm h9 l9
                  refine y_swIn (tqL_h nm et) 632 sw_L (by rw [e9]; decide) (by rw [e9]; decide) (by rw [e9]; rfl) rfl ?_
                  exact law_10 hS hI hXs hb hi0 hi1 hLL hG kk
              · have l9 : 11 ≤ w9.toInt := Int.not_le.mp d10
                by_cases d11 : w9.toInt ≤ 11
                · have h9 := d11
                  have e9 : w9.toInt = 11 := Int.le_antisymm h9 l9
                  refine y_swIn (tqL_h nm et) 720 sw_L (by rw [e9]; decide) (by rw [e9]; decide) (by rw [e9]; rfl) rfl ?_
                  exact law_11 hS hI hXs hb hi0 hi1 hLL hG kk
                · have l9 : 12 ≤ w9.toInt := Int.not_le.mp d11
                  have e9 : w9.toInt = 12 := Int.le_antisymm h9 l9
                  refine y_swIn (tqL_h nm et) 772 sw_L (by rw [e9]; decide) (by rw [e9]; decide) (by rw [e9]; rfl) rfl ?_
                  exact law_12 hS hI hXs hb hi0 hi1 hLL hG kk
            · have l9 : 13 ≤ w9.toInt := Int.not_le.mp d12
              by_cases d14 : w9.toInt ≤ 14
              · have h9 := d14
                by_cases d13 : w9.toInt ≤ 13
                · have h9 := d13
                  have e9 : w9.toInt = 13 := Int.le_antisymm h9 l9
                  refine y_swIn (tqL_h nm et) 812 sw_L (by rw [e9]; decide) (by rw [e9]; decide) (by rw [e9]; rfl) rfl ?_
                  exact law_13 hS hI hXs hb hi0 hi1 hLL hG kk
                · have l9 : 14 ≤ w9.toInt := Int.not_le.mp d13
                  have e9 : w9.toInt = 14 := Int.le_antisymm h9 l9
                  refine y_swIn (tqL_h nm et) 868 sw_L (by rw [e9]; decide) (by rw [e9]; decide) (by rw [e9]; rfl) rfl ?_
                  exact law_14 hS hI hXs hb hi0 hi1 hLL hG kk
              · have l9 : 15 ≤ w9.toInt := Int.not_le.mp d14
                by_cases d15 : w9.toInt ≤ 15
                · have h9 := d15
                  have e9 : w9.toInt = 15 := Int.le_antisymm h9 l9
                  refine y_swIn (tqL_h nm et) 920 sw_L (by rw [e9]; decide) (by rw [e9]; decide) (by rw [e9]; rfl) rfl ?_
                  exact law_15 hS hI hXs hb hi0 hi1 hLL hG kk
                · have l9 : 16 ≤ w9.toInt := Int.not_le.mp d15
                  have e9 : w9.toInt = 16 := Int.le_antisymm h9 l9
                  refine y_swIn (tqL_h nm et) 948 sw_L (by rw [e9]; decide) (by rw [e9]; decide) (by rw [e9]; rfl) rfl ?_
                  exact law_16 hS hI hXs hb hi0 hi1 hLL hG kk
        · have l9 : 17 ≤ w9.toInt := Int.not_le.mp d16
          by_cases d25 : w9.toInt ≤ 25
          · have h9 := d25
            by_cases d21 : w9.toInt ≤ 21
            · have h9 := d21
              by_cases d19 : w9.toInt ≤ 19
              · have h9 := d19
                by_cases d18 : w9.toInt ≤ 18
                · have h9 := d18
                  by_cases d17 : w9.toInt ≤ 17
                  · have h9 := d17
                    have e9 : w9.toInt = 17 := Int.le_antisymm h9 l9
                    refine y_swIn (tqL_h nm et) 976 sw_L (by rw [e9]; decide) (by rw [e9]; decide) (by rw [e9]; rfl) rfl ?_
                    exact law_17 hS hI hXs hb hi0 hi1 hLL hG kk
                  · have l9 : 18 ≤ w9.toInt := Int.not_le.mp d17
                    have e9 : w9.toInt = 18 := Int.le_antisymm h9 l9
                    refine y_swIn (tqL_h nm et) 1028 sw_L (by rw [e9]; decide) (by rw [e9]; decide) (by rw [e9]; rfl) rfl ?_
                    exact law_18 hS hI hXs hb hi0 hi1 hLL hG kk
                · have l9 : 19 ≤ w9.toInt := Int.not_le.mp d18
                  have e9 : w9.toInt = 19 := Int.le_antisymm h9 l9
                  refine y_swIn (tqL_h nm et) 1068 sw_L (by rw [e9]; decide) (by rw [e9]; decide) (by rw [e9]; rfl) rfl ?_
                  exact law_19 hS hI hXs hb hi0 hi1 hLL hG kk
              · have l9 : 20 ≤ w9.toInt := Int.not_le.mp d19
                by_cases d20 : w9.toInt ≤ 20
                · have h9 := d20
                  have e9 : w9.toInt = 20 := Int.le_antisymm h9 l9
                  refine y_swIn (tqL_h nm et) 1108 sw_L (by rw [e9]; decide) (by rw [e9]; decide) (by rw [e9]; rfl) rfl ?_
                  exact law_20 hS hI hXs hb hi0 hi1 hLL hG kk
                · have l9 : 21 ≤ w9.toInt := Int.not_le.mp d20
                  have e9 : w9.toInt = 21 := Int.le_antisymm h9 l9
                  refine y_swIn (tqL_h nm et) 1160 sw_L (by rw [e9]; decide) (by rw [e9]; decide) (by rw [e9]; rfl) rfl ?_
                  exact law_21 hS hI hXs hb hi0 hi1 hLL hG kk
            · have l9 : 22 ≤ w9.toInt := Int.not_le.mp d21
              by_cases d23 : w9.toInt ≤ 23
              · have h9 := d23
                by_cases d22 : w9.toInt ≤ 22
                · have h9 := d22
                  have e9 : w9.toInt = 22 := Int.le_antisymm h9 l9
                  refine y_swIn (tqL_h nm et) 1200 sw_L (by rw [e9]; decide) (by rw [e9]; decide) (by rw [e9]; rfl) rfl ?_
                  exact law_22 hS hI hXs hb hi0 hi1 hLL hG kk
                · have l9 : 23 ≤ w9.toInt := Int.not_le.mp d22
                  have e9 : w9.toInt = 23 := Int.le_antisymm h9 l9
                  refine y_swIn (tqL_h nm et) 1240 sw_L (by rw [e9]; decide) (by rw [e9]; decide) (by rw [e9]; rfl) rfl ?_
                  exact law_23 hS hI hXs hb hi0 hi1 hLL hG kk
              · have l9 : 24 ≤ w9.toInt := Int.not_le.mp d23
                by_cases d24 : w9.toInt ≤ 24
                · have h9 := d24
                  have e9 : w9.toInt = 24 := Int.le_antisymm h9 l9
                  refine y_swIn (tqL_h nm et) 1280 sw_L (by rw [e9]; decide) (by rw [e9]; decide) (by rw [e9]; rfl) rfl ?_
                  exact law_24 hS hI hXs hb hi0 hi1 hLL hG kk
                · have l9 : 25 ≤ w9.toInt := Int.not_le.mp d24
                  have e9 : w9.toInt = 25 := Int.le_antisymm h9 l9
                  refine y_swIn (tqL_h nm et) 1332 sw_L (by rw [e9]; decide) (by rw [e9]; decide) (by rw [e9]; rfl) rfl ?_
                  exact law_25 hS hI hXs hb hi0 hi1 hLL hG kk
          · have l9 : 26 ≤ w9.toInt := Int.not_le.mp d25
            by_cases d29 : w9.toInt ≤ 29
            · have h9 := d29
              by_cases d27 : w9.toInt ≤ 27
              · have h9 := d27
                by_cases d26 : w9.toInt ≤ 26
                · have h9 := d26
                  have e9 : w9.toInt = 26 := Int.le_antisymm h9 l9
                  refine y_swIn (tqL_h nm et) 1372 sw_L (by rw [e9]; decide) (by rw [e9]; decide) (by rw [e9]; rfl) rfl ?_
                  exact law_26 hS hI hXs hb hi0 hi1 hLL hG kk
                · have l9 : 27 ≤ w9.toInt := Int.not_le.mp d26
                  have e9 : w9.toInt = 27 := Int.le_antisymm h9 l9
                  refine y_swIn (tqL_h nm et) 1436 sw_L (by rw [e9]; decide) (by rw [e9]; decide) (by rw [e9]; rfl) rfl ?_
                  exact law_27 hS hI hXs hb hi0 hi1 hLL hG kk
              · have l9 : 28 ≤ w9.toInt := Int.not_le.mp d27
                by_cases d28 : w9.toInt ≤ 28
                · have h9 := d28
                  have e9 : w9.toInt = 28 := Int.le_antisymm h9 l9
                  refine y_swIn (tqL_h nm et) 1488 sw_L (by rw [e9]; decide) (by rw [e9]; decide) (by rw [e9]; rfl) rfl ?_
                  exact law_28 hS hI hXs hb hi0 hi1 hLL hG kk
                · have l9 : 29 ≤ w9.toInt := Int.not_le.mp d28
                  have e9 : w9.toInt = 29 := Int.le_antisymm h9 l9
                  refine y_swIn (tqL_h nm et) 1556 sw_L (by rw [e9]; decide) (by rw [e9]; decide) (by rw [e9]; rfl) rfl ?_
                  exact law_29 hS hI hXs hb hi0 hi1 hLL hG kk
            · have l9 : 30 ≤ w9.toInt := Int.not_le.mp d29
              by_cases d31 : w9.toInt ≤ 31
              · have h9 := d31
                by_cases d30 : w9.toInt ≤ 30
                · have h9 := d30
                  have e9 : w9.toInt = 30 := Int.le_antisymm h9 l9
                  refine y_swIn (tqL_h nm et) 1584 sw_L (by rw [e9]; decide) (by rw [e9]; decide) (by rw [e9]; rfl) rfl ?_
                  exact law_30 hS hI hXs hb hi0 hi1 hLL hG kk
                · have l9 : 31 ≤ w9.toInt := Int.not_le.mp d30
                  have e9 : w9.toInt = 31 := Int.le_antisymm h9 l9
                  refine y_swIn (tqL_h nm et) 1624 sw_L (by rw [e9]; decide) (by rw [e9]; decide) (by rw [e9]; rfl) rfl ?_
                  exact law_31 hS hI hXs hb hi0 hi1 hLL hG kk
              · have l9 : 32 ≤ w9.toInt := Int.not_le.mp d31
                by_cases d32 : w9.toInt ≤ 32
                · have h9 := d32
                  have e9 : w9.toInt = 32 := Int.le_antisymm h9 l9
                  refine y_swIn (tqL_h nm et) 1637 sw_L (by rw [e9]; decide) (by rw [e9]; decide) (by rw [e9]; rfl) rfl ?_
                  exact law_32 hS hI hXs hb hi0 hi1 hLL hG kk
                · have l9 : 33 ≤ w9.toInt := Int.not_le.mp d32
                  have e9 : w9.toInt = 33 := Int.le_antisymm h9 l9
                  refine y_swIn (tqL_h nm et) 1650 sw_L (by rw [e9]; decide) (by rw [e9]; decide) (by rw [e9]; rfl) rfl ?_
                  exact law_33 hS hI hXs hb hi0 hi1 hLL hG kk
set_option maxHeartbeats 4000000 in
set_option maxRecDepth 100000 in
theorem law_all (hS : yS l S0 A0 D aC) (hI : yIc S0 ic de) (hXs : va_X b LL xs S0 S0.heap) (hb : b < S0.heap.size) (hLL : LL ≤ 2560) (hQ : ∀ (x m o : Nat) (G1 : AH), LSt aC ic de x m o G1 → Q (some (.int 1)) G1) : Y l S0 D (K_L_law nm et) 1300 601024 7293034 Q X 0 [(0, .ref b)] [] (fun _ => none) 601024 7293034 := by
  refine y_less (k2 := 0 + 200 * 512 + 0 + 1 + 11 + 1 + 60 + 1) (n2 := 0 + 8000 * 512 + 0 + 2 + 34 + 20 + 2100 + 10) (by omega) (by omega) ?_
  refine y_new (K := K_L_law nm et) (kc := 0 + 200 * 512 + 0 + 1 + 11 + 1 + 60) (ks := 0 + 8000 * 512 + 0 + 2 + 34 + 20 + 2100) 1 hS (tqL_h nm et) rfl nw_L_8 (fun x hx => ?_)
  have hA : (yup (fun _ => none) x (1, .inr (12, [.null, .null, .null, .null, .null, .null, .null, .null, .null, .int 0]))) x = some (1, .inr (12, [.null, .null, .null, .null, .null, .null, .null, .null, .null, .int 0])) := yup_s _ _ _
  generalize yup (fun _ => none) x (1, .inr (12, [.null, .null, .null, .null, .null, .null, .null, .null, .null, .int 0])) = GA at hA ⊢
  refine y_blk 1 (tqL_h nm et) (z := (4, [(0, .ref b)], [.ref x, .ref x])) rfl ?_
  refine y_callIL hS (tqL_h nm et) (As := []) rfl ci_L_126 (m_X8_init hS hA) rfl (by decide) (Nat.le_of_ble_eq_true rfl) (fun r1 G1 q1 => ?_)
  obtain ⟨rfl, ad, σ, hX, rfl, h7, hk1⟩ := q1
  refine y_blk 1 (tqL_h nm et) (z := (8, [(1, .ref (ad 1)), (0, .ref b)], [])) rfl ?_
  refine y_new (K := K_L_law nm et) (kc := 0 + 200 * 512 + 0 + 1 + 11) (ks := 0 + 8000 * 512 + 0 + 2 + 34) 200 hS (tqL_h nm et) rfl nw_L_127 (fun a2 h2 => ?_)
  have hle2 : yLe G1 (yup G1 a2 (200, .inr (16, [.int 0, .int 0, .int 0, .null, .int 0, .int 0, .null, .null, .null, .null, .int 0, .int 0, .int 0, .null, .null, .int 0, .null, .null, .null, .int 0]))) := yLe.new h2
  have hB : (yup G1 a2 (200, .inr (16, [.int 0, .int 0, .int 0, .null, .int 0, .int 0, .null, .null, .null, .null, .int 0, .int 0, .int 0, .null, .null, .int 0, .null, .null, .null, .int 0]))) a2 = some (200, .inr (16, [.int 0, .int 0, .int 0, .null, .int 0, .int 0, .null, .null, .null, .null, .int 0, .int 0, .int 0, .null, .null, .int 0, .null, .null, .null, .int 0])) := yup_s _ _ _
  generalize yup G1 a2 (200, .inr (16, [.int 0, .int 0, .int 0, .null, .int 0, .int 0, .null, .null, .null, .null, .int 0, .int 0, .int 0, .null, .null, .int 0, .null, .null, .null, .int 0])) = GB at hle2 hB ⊢
  have hXB := hX.kp (yTg.le (f := fun _ => True) hle2) (fun _ _ _ => trivial)
  refine y_blk 1 (tqL_h nm et) (z := (12, [(1, .ref (ad 1)), (0, .ref b)], [.ref a2, .ref a2])) rfl ?_
  refine y_callIL hS (tqL_h nm et) (As := []) rfl ci_L_129 (m_X12_init hS hI hB) rfl (by decide) (Nat.le_of_ble_eq_true rfl) (fun r2 G2 q2 => ?_)
  obtain ⟨rfl, ar, ρ, hR, rfl, kt2, g1, g4⟩ := q2
  have hX2 := hXB.kp kt2 (fun t _ h => Or.inl h)
  refine y_blk 1 (tqL_h nm et) (z := (16, [(2, .ref (ar 200)), (1, .ref (ad 1)), (0, .ref b)], [])) rfl ?_
  refine y_new (K := K_L_law nm et) (kc := 0 + 200 * 512 + 0) (ks := 0 + 8000 * 512 + 0) 600 hS (tqL_h nm et) rfl nw_L_14 (fun o h3 => ?_)
  have hle3 : yLe G2 (yup G2 o (600, .inr (13, [.long 0, .null]))) := yLe.new h3
  have hO : (yup G2 o (600, .inr (13, [.long 0, .null]))) o = some (600, .inr (13, [.long 0, .null])) := yup_s _ _ _
  generalize yup G2 o (600, .inr (13, [.long 0, .null])) = G3 at hle3 hO ⊢
  have hX3 := hX2.kp (yTg.le (f := fun _ => True) hle3) (fun _ _ _ => trivial)
  have hR3 := hR.kp (yTg.le hle3)
  refine y_blk 1 (tqL_h nm et) (z := (20, [(2, .ref (ar 200)), (1, .ref (ad 1)), (0, .ref b)], [.ref o, .ref o])) rfl ?_
  refine y_callINL hS (tqL_h nm et) (As := []) rfl ci_L_130 (m_X9_init hS) rfl (by decide) (Nat.le_of_ble_eq_true rfl) (fun r4 G4 q4 => ?_)
  obtain ⟨rfl, eG4⟩ := q4
  have eG4 := eG4.symm
  subst eG4
  refine y_blk 3 (tqL_h nm et) (z := (27, [(4, .int 0), (3, .ref o), (2, .ref (ar 200)), (1, .ref (ad 1)), (0, .ref b)], [])) rfl ?_
  refine y_pick (L2 := [(0, .ref b), (1, .ref (ad 1)), (2, .ref (ar 200)), (3, .ref o), (4, .int 0)]) [4, 3, 2, 1, 0] rfl ?_
  have e9 : (0 : Int32).toInt = 0 := by decide
  exact law_loop hS hI hXs hb hLL (hQ _ _ _) 512 0 _ (by decide) (by decide) (by rw [e9]; omega) ⟨ad, σ, ar, ρ, 0, .null, hX3, rfl, hR3, rfl, hO, cpx.ini h7 g1 g4, (cpx.ini h7 g1 g4).A.1⟩
end YLZ
