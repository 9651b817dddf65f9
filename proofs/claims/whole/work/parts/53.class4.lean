set_option maxHeartbeats 400000 in
set_option maxRecDepth 100000 in
theorem c_X2_link (l : Launch) (hst9 : l.stackTraces = false) (D : va_G) (cy : Nat → ClassId) (a : Nat → Nat) (X : va_W) (P : Nat) (σ : CS) (x : Int32) (y : Int32) (z : Int32) (w : Int32)  : MetX l yX2_link cX2_link 5 .int (kRm 6 1 6) D (tyA cy) [.ref (a 0), .int (x), .int (y), .int (z), .int (w)] (cW X cy a P σ) (cW X cy a P (cLink x y z w σ)) (cLinkR x y z w σ) (linkC x y z w σ) 1 6 := by
  intro sz
  refine kmetx (own := RX2) (by decide) rfl (Nat.le_of_ble_eq_true rfl) (fun p e s m args below meth c S hr hlk hK hNA hP hD hsz hA hU hstr hex ls hl => ?_)
  have hN := nestA_C hNA
  have hS : va_S (va_A (cW X cy a P σ) sz) s.heap s.heap [] := va_S.rf
  have hl : lv_has ls 5 [(0, .ref (a 0)), (1, .int (x)), (2, .int (y)), (3, .int (z)), (4, .int (w))] := hl
  refine lv_iload_n S.1 S.2.1 dX2_link_0 rfl (lv_at hl 1 rfl) ?_
  refine call_X2_isNode S hK hN hP hD hS hA (x := x)  hl.1 (Nat.le_of_ble_eq_true rfl) ⟨Nat.le_of_ble_eq_true rfl, Nat.le_of_ble_eq_true rfl⟩ dX2_link_1 ⟨Nat.zero_le _, Nat.zero_le _⟩ (fun H locs hP hD hS => ?_)
  refine kb_eq (tgt := 19) S dX2_link_4 (by decide) (fun c1 => ?_) (fun c1 => ?_)
  · have e8 : linkC x y z w σ = 1 := by first | (simp only [linkC, c1, reduceIte, Bool.false_eq_true, eq_self_iff_true, if_true, if_false]; done) | with_reducible rfl | (exfalso; omega)
    exact kthrowA (is := 56) (text := "a link joins two nodes") S hst9 hlk hNA hU hstr (by decide) hex hP hD hS e8 hl.1 (Nat.le_of_ble_eq_true rfl) (Nat.le_of_ble_eq_true rfl) (Nat.le_of_ble_eq_true rfl) (Nat.le_of_ble_eq_true rfl) (Nat.le_of_ble_eq_true rfl) (Nat.le_of_ble_eq_true rfl) dX2_link_19 dX2_link_22 dX2_link_23 dX2_link_25 dX2_link_28
  · obtain ⟨x1, hx1, rfl⟩ := isN_of c1
    refine lv_iload_n S.1 S.2.1 dX2_link_7 rfl (lv_at hl 2 rfl) ?_
    refine call_X2_isNode S hK hN hP hD hS hA (x := y)  hl.1 (Nat.le_of_ble_eq_true rfl) ⟨Nat.le_of_ble_eq_true rfl, Nat.le_of_ble_eq_true rfl⟩ dX2_link_8 ⟨Nat.zero_le _, Nat.zero_le _⟩ (fun H locs hP hD hS => ?_)
    refine kb_eq (tgt := 19) S dX2_link_11 (by decide) (fun c2 => ?_) (fun c2 => ?_)
    · have e8 : linkC (nI x1) y z w σ = 1 := by first | (simp only [linkC, c1, cl8 hx1, c2, reduceIte, Bool.false_eq_true, eq_self_iff_true, if_true, if_false]; done) | with_reducible rfl | (exfalso; omega)
      exact kthrowA (is := 56) (text := "a link joins two nodes") S hst9 hlk hNA hU hstr (by decide) hex hP hD hS e8 hl.1 (Nat.le_of_ble_eq_true rfl) (Nat.le_of_ble_eq_true rfl) (Nat.le_of_ble_eq_true rfl) (Nat.le_of_ble_eq_true rfl) (Nat.le_of_ble_eq_true rfl) (Nat.le_of_ble_eq_true rfl) dX2_link_19 dX2_link_22 dX2_link_23 dX2_link_25 dX2_link_28
    · obtain ⟨y1, hy1, rfl⟩ := isN_of c2
      refine lv_iload_n S.1 S.2.1 dX2_link_14 rfl (lv_at hl 1 rfl) ?_
      refine lv_iload_n S.1 S.2.1 dX2_link_15 rfl (lv_at hl 2 rfl) ?_
      refine lv_icmp_ne (tgt := 29) S.1 S.2.1 dX2_link_16 (by decide) (fun c3 => ?_) (fun c3 => ?_)
      · have c3 : ¬ x1 = y1 := fun h => c3 ((nI_eq (a := x1) (b := y1) (by omega) (by omega)).mpr h)
        refine lv_iload_n S.1 S.2.1 dX2_link_29 rfl (lv_at hl 3 rfl) ?_
        refine lv_iconst (v := (nI 1)) S.1 S.2.1 dX2_link_30 (by decide) ?_
        refine lv_icmp_lt (tgt := 53) S.1 S.2.1 dX2_link_31 (by decide) (fun c4 => ?_) (fun c4 => ?_)
        · have e8 : linkC (nI x1) (nI y1) z w σ = 1 := by first | (simp only [linkC, c1, cl8 hx1, c2, cl8 hy1, c3, c4, reduceIte, Bool.false_eq_true, eq_self_iff_true, if_true, if_false]; done) | with_reducible rfl | (exfalso; omega)
          exact kthrowA (is := 61) (text := "cost or delay out of bounds") S hst9 hlk hNA hU hstr (by decide) hex hP hD hS e8 hl.1 (Nat.le_of_ble_eq_true rfl) (Nat.le_of_ble_eq_true rfl) (Nat.le_of_ble_eq_true rfl) (Nat.le_of_ble_eq_true rfl) (Nat.le_of_ble_eq_true rfl) (Nat.le_of_ble_eq_true rfl) dX2_link_53 dX2_link_56 dX2_link_57 dX2_link_59 dX2_link_62
        · refine lv_iload_n S.1 S.2.1 dX2_link_34 rfl (lv_at hl 3 rfl) ?_
          refine lv_bipush (v := (nI 50)) S.1 S.2.1 dX2_link_35 (by decide) ?_
          refine lv_icmp_gt (tgt := 53) S.1 S.2.1 dX2_link_37 (by decide) (fun c5 => ?_) (fun c5 => ?_)
          · have e8 : linkC (nI x1) (nI y1) z w σ = 1 := by first | (simp only [linkC, c1, cl8 hx1, c2, cl8 hy1, c3, c4, c5, reduceIte, Bool.false_eq_true, eq_self_iff_true, if_true, if_false]; done) | with_reducible rfl | (exfalso; omega)
            exact kthrowA (is := 61) (text := "cost or delay out of bounds") S hst9 hlk hNA hU hstr (by decide) hex hP hD hS e8 hl.1 (Nat.le_of_ble_eq_true rfl) (Nat.le_of_ble_eq_true rfl) (Nat.le_of_ble_eq_true rfl) (Nat.le_of_ble_eq_true rfl) (Nat.le_of_ble_eq_true rfl) (Nat.le_of_ble_eq_true rfl) dX2_link_53 dX2_link_56 dX2_link_57 dX2_link_59 dX2_link_62
          · refine lv_iload S.1 S.2.1 dX2_link_40 (lv_at hl 4 rfl) ?_
            refine lv_iconst (v := (nI 1)) S.1 S.2.1 dX2_link_42 (by decide) ?_
            refine lv_icmp_lt (tgt := 53) S.1 S.2.1 dX2_link_43 (by decide) (fun c6 => ?_) (fun c6 => ?_)
            · have e8 : linkC (nI x1) (nI y1) z w σ = 1 := by first | (simp only [linkC, c1, cl8 hx1, c2, cl8 hy1, c3, c4, c5, c6, reduceIte, Bool.false_eq_true, eq_self_iff_true, if_true, if_false]; done) | with_reducible rfl | (exfalso; omega)
              exact kthrowA (is := 61) (text := "cost or delay out of bounds") S hst9 hlk hNA hU hstr (by decide) hex hP hD hS e8 hl.1 (Nat.le_of_ble_eq_true rfl) (Nat.le_of_ble_eq_true rfl) (Nat.le_of_ble_eq_true rfl) (Nat.le_of_ble_eq_true rfl) (Nat.le_of_ble_eq_true rfl) (Nat.le_of_ble_eq_true rfl) dX2_link_53 dX2_link_56 dX2_link_57 dX2_link_59 dX2_link_62
            · refine lv_iload S.1 S.2.1 dX2_link_46 (lv_at hl 4 rfl) ?_
              refine lv_bipush (v := (nI 8)) S.1 S.2.1 dX2_link_48 (by decide) ?_
              refine lv_icmp_le (tgt := 63) S.1 S.2.1 dX2_link_50 (by decide) (fun c7 => ?_) (fun c7 => ?_)
              · refine lv_aload_n S.1 S.2.1 dX2_link_63 rfl (lv_at hl 0 rfl) ?_
                refine lv_iload_n S.1 S.2.1 dX2_link_64 rfl (lv_at hl 1 rfl) ?_
                refine lv_iload_n S.1 S.2.1 dX2_link_65 rfl (lv_at hl 2 rfl) ?_
                refine call_X2_hasLink S hK hN hP hD hS hA (x := nI (x1)) (y := nI (y1))  hl.1 (Nat.le_of_ble_eq_true rfl) ⟨Nat.le_of_ble_eq_true rfl, Nat.le_of_ble_eq_true rfl⟩ dX2_link_66 ⟨Nat.zero_le _, Nat.zero_le _⟩ (fun H locs hP hD hS => ?_)
                refine kb_ne (tgt := 81) S dX2_link_69 (by decide) (fun c8 => ?_) (fun c8 => ?_)
                · have e8 : linkC (nI x1) (nI y1) z w σ = 2 := by first | (simp only [linkC, c1, cl8 hx1, c2, cl8 hy1, c3, c4, c5, c6, c7, c8, reduceIte, Bool.false_eq_true, eq_self_iff_true, if_true, if_false]; done) | with_reducible rfl | (exfalso; omega)
                  exact kthrowS (is := 73) (text := "no room for this link") S hst9 hlk hNA hU hstr (by decide) hex hP hD hS e8 hl.1 (Nat.le_of_ble_eq_true rfl) (Nat.le_of_ble_eq_true rfl) (Nat.le_of_ble_eq_true rfl) (Nat.le_of_ble_eq_true rfl) (Nat.le_of_ble_eq_true rfl) (Nat.le_of_ble_eq_true rfl) dX2_link_81 dX2_link_84 dX2_link_85 dX2_link_87 dX2_link_90
                · refine lv_aload_n S.1 S.2.1 dX2_link_72 rfl (lv_at hl 0 rfl) ?_
                  refine cf_net_linkCount S hK hP dX2_link_73 ?_
                  refine lv_bipush (v := (nI 12)) S.1 S.2.1 dX2_link_76 (by decide) ?_
                  refine lv_icmp_lt (tgt := 91) S.1 S.2.1 dX2_link_78 (by decide) (fun c9 => ?_) (fun c9 => ?_)
                  · refine lv_aload_n S.1 S.2.1 dX2_link_91 rfl (lv_at hl 0 rfl) ?_
                    refine lv_iload_n S.1 S.2.1 dX2_link_92 rfl (lv_at hl 1 rfl) ?_
                    refine lv_iload_n S.1 S.2.1 dX2_link_93 rfl (lv_at hl 2 rfl) ?_
                    refine lv_iload_n S.1 S.2.1 dX2_link_94 rfl (lv_at hl 3 rfl) ?_
                    refine lv_iload S.1 S.2.1 dX2_link_95 (lv_at hl 4 rfl) ?_
                    refine call_X2_putLink S hK hN hP hD hS hA (u := x1) (v := y1) (x := z) (y := w) (by omega) (by omega) hl.1 (Nat.le_of_ble_eq_true rfl) ⟨Nat.le_of_ble_eq_true rfl, Nat.le_of_ble_eq_true rfl⟩ dX2_link_97 ⟨Nat.zero_le _, Nat.zero_le _⟩ (fun H locs hP hD hS => ?_)
                    rw [cW_eq (show keep σ (cPutLink x1 y1 z w σ) from cPutLink_keep)] at hP hD
                    refine lv_aload_n S.1 S.2.1 dX2_link_100 rfl (lv_at hl 0 rfl) ?_
                    refine lv_iload_n S.1 S.2.1 dX2_link_101 rfl (lv_at hl 2 rfl) ?_
                    refine lv_iload_n S.1 S.2.1 dX2_link_102 rfl (lv_at hl 1 rfl) ?_
                    refine lv_iload_n S.1 S.2.1 dX2_link_103 rfl (lv_at hl 3 rfl) ?_
                    refine lv_iload S.1 S.2.1 dX2_link_104 (lv_at hl 4 rfl) ?_
                    refine call_X2_putLink S hK hN hP hD hS hA (u := y1) (v := x1) (x := z) (y := w) (by omega) (by omega) hl.1 (Nat.le_of_ble_eq_true rfl) ⟨Nat.le_of_ble_eq_true rfl, Nat.le_of_ble_eq_true rfl⟩ dX2_link_106 ⟨Nat.zero_le _, Nat.zero_le _⟩ (fun H locs hP hD hS => ?_)
                    rw [cW_eq (show keep (cPutLink x1 y1 z w σ) (cPutLink y1 x1 z w (cPutLink x1 y1 z w σ)) from cPutLink_keep)] at hP hD
                    refine lv_aload_n S.1 S.2.1 dX2_link_109 rfl (lv_at hl 0 rfl) ?_
                    refine lv_dup S.1 S.2.1 dX2_link_110 rfl ?_
                    refine cf_net_linkCount S hK hP dX2_link_111 ?_
                    refine lv_iconst (v := (nI 1)) S.1 S.2.1 dX2_link_114 (by decide) ?_
                    refine lv_iadd S.1 S.2.1 dX2_link_115 ?_
                    refine cp_net_linkCount S hK hP hD hS dX2_link_116 (fun H locs hP hD hS => ?_)
                    rw [cW_eq (show keep (cPutLink y1 x1 z w (cPutLink x1 y1 z w σ)) (sI 0 0 (((cPutLink y1 x1 z w (cPutLink x1 y1 z w σ)).1 0 0) + (nI 1)) (cPutLink y1 x1 z w (cPutLink x1 y1 z w σ))) from keep_sI (by decide) (by first | exact Or.inl (by decide) | exact Or.inr (by decide)))] at hP hD
                    refine lv_aload_n S.1 S.2.1 dX2_link_119 rfl (lv_at hl 0 rfl) ?_
                    refine lv_iload_n S.1 S.2.1 dX2_link_120 rfl (lv_at hl 1 rfl) ?_
                    refine lv_iload_n S.1 S.2.1 dX2_link_121 rfl (lv_at hl 2 rfl) ?_
                    refine call_X2_bringUp S hK hN hP hD hS hA (u := x1) (v := y1) (by omega) (by omega) hl.1 (Nat.le_of_ble_eq_true rfl) ⟨Nat.le_of_ble_eq_true rfl, Nat.le_of_ble_eq_true rfl⟩ dX2_link_122 ⟨Nat.zero_le _, Nat.zero_le _⟩ (fun H locs hP hD hS => ?_)
                    rw [cW_eq (show keep (sI 0 0 (((cPutLink y1 x1 z w (cPutLink x1 y1 z w σ)).1 0 0) + (nI 1)) (cPutLink y1 x1 z w (cPutLink x1 y1 z w σ))) (cUp x1 y1 (sI 0 0 (((cPutLink y1 x1 z w (cPutLink x1 y1 z w σ)).1 0 0) + (nI 1)) (cPutLink y1 x1 z w (cPutLink x1 y1 z w σ)))) from cUp_keep)] at hP hD
                    refine lv_aload_n S.1 S.2.1 dX2_link_125 rfl (lv_at hl 0 rfl) ?_
                    refine cf_net_linkCount S hK hP dX2_link_126 ?_
                    have e7 : linkC (nI x1) (nI y1) z w σ = 0 := by first | (simp only [linkC, c1, cl8 hx1, c2, cl8 hy1, c3, c4, c5, c6, c7, c8, c9, reduceIte, Bool.false_eq_true, eq_self_iff_true, if_true, if_false]; done) | with_reducible rfl | (exfalso; omega)
                    have e9 : cLink (nI x1) (nI y1) z w σ = cUp x1 y1 (sI 0 0 (((cPutLink y1 x1 z w (cPutLink x1 y1 z w σ)).1 0 0) + (nI 1)) (cPutLink y1 x1 z w (cPutLink x1 y1 z w σ))) := by first | (simp only [cLink, e7, link1, c1, cl8 hx1, c2, cl8 hy1, c3, c4, c5, c6, c7, c8, c9, reduceIte, Bool.false_eq_true, eq_self_iff_true, if_true, if_false]; done) | with_reducible rfl | (exfalso; omega)
                    rw [e9]
                    exact kxret_i S hr hlk hP hD hS (by first | (simp only [cLinkR, cLink, e7, link1, c1, cl8 hx1, c2, cl8 hy1, c3, c4, c5, c6, c7, c8, c9, reduceIte, Bool.false_eq_true, eq_self_iff_true, if_true, if_false]; done) | with_reducible rfl | (exfalso; omega)) e7 (Nat.le_of_ble_eq_true rfl) (Nat.le_of_ble_eq_true rfl) dX2_link_129
                  · have e8 : linkC (nI x1) (nI y1) z w σ = 2 := by first | (simp only [linkC, c1, cl8 hx1, c2, cl8 hy1, c3, c4, c5, c6, c7, c8, c9, reduceIte, Bool.false_eq_true, eq_self_iff_true, if_true, if_false]; done) | with_reducible rfl | (exfalso; omega)
                    exact kthrowS (is := 73) (text := "no room for this link") S hst9 hlk hNA hU hstr (by decide) hex hP hD hS e8 hl.1 (Nat.le_of_ble_eq_true rfl) (Nat.le_of_ble_eq_true rfl) (Nat.le_of_ble_eq_true rfl) (Nat.le_of_ble_eq_true rfl) (Nat.le_of_ble_eq_true rfl) (Nat.le_of_ble_eq_true rfl) dX2_link_81 dX2_link_84 dX2_link_85 dX2_link_87 dX2_link_90
              · have e8 : linkC (nI x1) (nI y1) z w σ = 1 := by first | (simp only [linkC, c1, cl8 hx1, c2, cl8 hy1, c3, c4, c5, c6, c7, reduceIte, Bool.false_eq_true, eq_self_iff_true, if_true, if_false]; done) | with_reducible rfl | (exfalso; omega)
                exact kthrowA (is := 61) (text := "cost or delay out of bounds") S hst9 hlk hNA hU hstr (by decide) hex hP hD hS e8 hl.1 (Nat.le_of_ble_eq_true rfl) (Nat.le_of_ble_eq_true rfl) (Nat.le_of_ble_eq_true rfl) (Nat.le_of_ble_eq_true rfl) (Nat.le_of_ble_eq_true rfl) (Nat.le_of_ble_eq_true rfl) dX2_link_53 dX2_link_56 dX2_link_57 dX2_link_59 dX2_link_62
      · have c3 : x1 = y1 := (nI_eq (a := x1) (b := y1) (by omega) (by omega)).mp c3
        have e8 : linkC (nI x1) (nI y1) z w σ = 1 := by first | (simp only [linkC, c1, cl8 hx1, c2, cl8 hy1, eq_true c3, reduceIte, Bool.false_eq_true, eq_self_iff_true, if_true, if_false]; done) | with_reducible rfl | (exfalso; omega)
        exact kthrowA (is := 56) (text := "a link joins two nodes") S hst9 hlk hNA hU hstr (by decide) hex hP hD hS e8 hl.1 (Nat.le_of_ble_eq_true rfl) (Nat.le_of_ble_eq_true rfl) (Nat.le_of_ble_eq_true rfl) (Nat.le_of_ble_eq_true rfl) (Nat.le_of_ble_eq_true rfl) (Nat.le_of_ble_eq_true rfl) dX2_link_19 dX2_link_22 dX2_link_23 dX2_link_25 dX2_link_28
set_option maxHeartbeats 400000 in
set_option maxRecDepth 100000 in
theorem c_X2_fail (l : Launch) (hst9 : l.stackTraces = false) (D : va_G) (cy : Nat → ClassId) (a : Nat → Nat) (X : va_W) (P : Nat) (σ : CS) (x : Int32) (y : Int32) (hI : cI P σ) : MetX l yX2_fail cX2_fail 3 .boolean (kRm 6 1 6) D (tyA cy) [.ref (a 0), .int (x), .int (y)] (cW X cy a P σ) (cW X cy a P (cFail P x y σ)) (b2i (cFailR x y σ)) (failC x y σ) 1 6 := by
  intro sz
  refine kmetx (own := RX2) (by decide) rfl (Nat.le_of_ble_eq_true rfl) (fun p e s m args below meth c S hr hlk hK hNA hP hD hsz hA hU hstr hex ls hl => ?_)
  have hN := nestA_C hNA
  have hS : va_S (va_A (cW X cy a P σ) sz) s.heap s.heap [] := va_S.rf
  have hl : lv_has ls 3 [(0, .ref (a 0)), (1, .int (x)), (2, .int (y))] := hl
  refine lv_aload_n S.1 S.2.1 dX2_fail_0 rfl (lv_at hl 0 rfl) ?_
  refine lv_iload_n S.1 S.2.1 dX2_fail_1 rfl (lv_at hl 1 rfl) ?_
  refine lv_iload_n S.1 S.2.1 dX2_fail_2 rfl (lv_at hl 2 rfl) ?_
  refine call_X2_hasLink S hK hN hP hD hS hA (x := x) (y := y)  hl.1 (Nat.le_of_ble_eq_true rfl) ⟨Nat.le_of_ble_eq_true rfl, Nat.le_of_ble_eq_true rfl⟩ dX2_fail_3 ⟨Nat.zero_le _, Nat.zero_le _⟩ (fun H locs hP hD hS => ?_)
  refine kb_ne (tgt := 19) S dX2_fail_6 (by decide) (fun c1 => ?_) (fun c1 => ?_)
  · obtain ⟨x1, hx1, y1, hy1, rfl, rfl, hc_c1⟩ := hasL_of c1
    refine lv_aload_n S.1 S.2.1 dX2_fail_19 rfl (lv_at hl 0 rfl) ?_
    refine cf_net_linkUp S hK hP dX2_fail_20 ?_
    refine lv_iload_n S.1 S.2.1 dX2_fail_23 rfl (lv_at hl 1 rfl) ?_
    refine lv_iload_n S.1 S.2.1 dX2_fail_24 rfl (lv_at hl 2 rfl) ?_
    refine call_X2_pair S hK hN hP hD hS hA (u := x1) (v := y1)  hl.1 (Nat.le_of_ble_eq_true rfl) ⟨Nat.le_of_ble_eq_true rfl, Nat.le_of_ble_eq_true rfl⟩ dX2_fail_25 ⟨Nat.zero_le _, Nat.zero_le _⟩ (fun H locs hP hD hS => ?_)
    refine ca_linkUp S hK hP (j := (x1 * 8 + y1)) (by omega) dX2_fail_28 ?_
    refine lv_if_ne (tgt := 34) S.1 S.2.1 dX2_fail_29 (by decide) (fun c2 => ?_) (fun c2 => ?_)
    · refine lv_aload_n S.1 S.2.1 dX2_fail_34 rfl (lv_at hl 0 rfl) ?_
      refine lv_iload_n S.1 S.2.1 dX2_fail_35 rfl (lv_at hl 1 rfl) ?_
      refine lv_iload_n S.1 S.2.1 dX2_fail_36 rfl (lv_at hl 2 rfl) ?_
      refine call_X2_takeDown S hK hN hP hD hS hA (u := x1) (v := y1) (by omega) (by omega) (show cI P σ from hI) hl.1 (Nat.le_of_ble_eq_true rfl) ⟨Nat.le_of_ble_eq_true rfl, Nat.le_of_ble_eq_true rfl⟩ dX2_fail_37 ⟨Nat.zero_le _, Nat.zero_le _⟩ (fun H locs hP hD hS => ?_)
      refine lv_iconst (v := (nI 1)) S.1 S.2.1 dX2_fail_40 (by decide) ?_
      have e7 : failC (nI x1) (nI y1) σ = 0 := by first | (simp only [failC, c1, cl8 hx1, cl8 hy1, c2, reduceIte, Bool.false_eq_true, eq_self_iff_true, if_true, if_false]; done) | with_reducible rfl | (exfalso; omega)
      have e9 : cFail P (nI x1) (nI y1) σ = cDown P x1 y1 σ := by first | (simp only [cFail, e7, c1, cl8 hx1, cl8 hy1, c2, reduceIte, Bool.false_eq_true, eq_self_iff_true, if_true, if_false]; done) | with_reducible rfl | (exfalso; omega)
      rw [e9]
      exact kxret_z S hr hlk hP hD hS (by first | rfl | exact b2i_nar _) (by rw [show cFailR (nI x1) (nI y1) σ = true from (by first | (simp only [cFailR, c1, cl8 hx1, cl8 hy1, c2, reduceIte, Bool.false_eq_true, eq_self_iff_true, if_true, if_false]; done) | with_reducible rfl | (exfalso; omega))]; decide) e7 (Nat.le_of_ble_eq_true rfl) (Nat.le_of_ble_eq_true rfl) dX2_fail_41
    · refine lv_iconst (v := (nI 0)) S.1 S.2.1 dX2_fail_32 (by decide) ?_
      have e7 : failC (nI x1) (nI y1) σ = 0 := by first | (simp only [failC, c1, cl8 hx1, cl8 hy1, eq_true c2, reduceIte, Bool.false_eq_true, eq_self_iff_true, if_true, if_false]; done) | with_reducible rfl | (exfalso; omega)
      have e9 : cFail P (nI x1) (nI y1) σ = σ := by first | (simp only [cFail, e7, c1, cl8 hx1, cl8 hy1, eq_true c2, reduceIte, Bool.false_eq_true, eq_self_iff_true, if_true, if_false]; done) | with_reducible rfl | (exfalso; omega)
      rw [e9]
      exact kxret_z S hr hlk hP hD hS (by first | rfl | exact b2i_nar _) (by rw [show cFailR (nI x1) (nI y1) σ = false from (by first | (simp only [cFailR, c1, cl8 hx1, cl8 hy1, eq_true c2, reduceIte, Bool.false_eq_true, eq_self_iff_true, if_true, if_false]; done) | with_reducible rfl | (exfalso; omega))]; decide) e7 (Nat.le_of_ble_eq_true rfl) (Nat.le_of_ble_eq_true rfl) dX2_fail_33
  · have e8 : failC x y σ = 1 := by first | (simp only [failC, c1, reduceIte, Bool.false_eq_true, eq_self_iff_true, if_true, if_false]; done) | with_reducible rfl | (exfalso; omega)
    exact kthrowA (is := 84) (text := "no such link") S hst9 hlk hNA hU hstr (by decide) hex hP hD hS e8 hl.1 (Nat.le_of_ble_eq_true rfl) (Nat.le_of_ble_eq_true rfl) (Nat.le_of_ble_eq_true rfl) (Nat.le_of_ble_eq_true rfl) (Nat.le_of_ble_eq_true rfl) (Nat.le_of_ble_eq_true rfl) dX2_fail_9 dX2_fail_12 dX2_fail_13 dX2_fail_15 dX2_fail_18
set_option maxHeartbeats 400000 in
set_option maxRecDepth 100000 in
theorem c_X2_restore (l : Launch) (hst9 : l.stackTraces = false) (D : va_G) (cy : Nat → ClassId) (a : Nat → Nat) (X : va_W) (P : Nat) (σ : CS) (x : Int32) (y : Int32)  : MetX l yX2_restore cX2_restore 3 .boolean (kRm 6 1 6) D (tyA cy) [.ref (a 0), .int (x), .int (y)] (cW X cy a P σ) (cW X cy a P (cRest x y σ)) (b2i (cRestR x y σ)) (failC x y σ) 1 6 := by
  intro sz
  refine kmetx (own := RX2) (by decide) rfl (Nat.le_of_ble_eq_true rfl) (fun p e s m args below meth c S hr hlk hK hNA hP hD hsz hA hU hstr hex ls hl => ?_)
  have hN := nestA_C hNA
  have hS : va_S (va_A (cW X cy a P σ) sz) s.heap s.heap [] := va_S.rf
  have hl : lv_has ls 3 [(0, .ref (a 0)), (1, .int (x)), (2, .int (y))] := hl
  refine lv_aload_n S.1 S.2.1 dX2_restore_0 rfl (lv_at hl 0 rfl) ?_
  refine lv_iload_n S.1 S.2.1 dX2_restore_1 rfl (lv_at hl 1 rfl) ?_
  refine lv_iload_n S.1 S.2.1 dX2_restore_2 rfl (lv_at hl 2 rfl) ?_
  refine call_X2_hasLink S hK hN hP hD hS hA (x := x) (y := y)  hl.1 (Nat.le_of_ble_eq_true rfl) ⟨Nat.le_of_ble_eq_true rfl, Nat.le_of_ble_eq_true rfl⟩ dX2_restore_3 ⟨Nat.zero_le _, Nat.zero_le _⟩ (fun H locs hP hD hS => ?_)
  refine kb_ne (tgt := 19) S dX2_restore_6 (by decide) (fun c1 => ?_) (fun c1 => ?_)
  · obtain ⟨x1, hx1, y1, hy1, rfl, rfl, hc_c1⟩ := hasL_of c1
    refine lv_aload_n S.1 S.2.1 dX2_restore_19 rfl (lv_at hl 0 rfl) ?_
    refine cf_net_linkUp S hK hP dX2_restore_20 ?_
    refine lv_iload_n S.1 S.2.1 dX2_restore_23 rfl (lv_at hl 1 rfl) ?_
    refine lv_iload_n S.1 S.2.1 dX2_restore_24 rfl (lv_at hl 2 rfl) ?_
    refine call_X2_pair S hK hN hP hD hS hA (u := x1) (v := y1)  hl.1 (Nat.le_of_ble_eq_true rfl) ⟨Nat.le_of_ble_eq_true rfl, Nat.le_of_ble_eq_true rfl⟩ dX2_restore_25 ⟨Nat.zero_le _, Nat.zero_le _⟩ (fun H locs hP hD hS => ?_)
    refine ca_linkUp S hK hP (j := (x1 * 8 + y1)) (by omega) dX2_restore_28 ?_
    refine lv_if_eq (tgt := 34) S.1 S.2.1 dX2_restore_29 (by decide) (fun c2 => ?_) (fun c2 => ?_)
    · refine lv_aload_n S.1 S.2.1 dX2_restore_34 rfl (lv_at hl 0 rfl) ?_
      refine lv_iload_n S.1 S.2.1 dX2_restore_35 rfl (lv_at hl 1 rfl) ?_
      refine lv_iload_n S.1 S.2.1 dX2_restore_36 rfl (lv_at hl 2 rfl) ?_
      refine call_X2_bringUp S hK hN hP hD hS hA (u := x1) (v := y1) (by omega) (by omega) hl.1 (Nat.le_of_ble_eq_true rfl) ⟨Nat.le_of_ble_eq_true rfl, Nat.le_of_ble_eq_true rfl⟩ dX2_restore_37 ⟨Nat.zero_le _, Nat.zero_le _⟩ (fun H locs hP hD hS => ?_)
      rw [cW_eq (show keep σ (cUp x1 y1 σ) from cUp_keep)] at hP hD
      refine lv_iconst (v := (nI 1)) S.1 S.2.1 dX2_restore_40 (by decide) ?_
      have e7 : failC (nI x1) (nI y1) σ = 0 := by first | (simp only [failC, c1, cl8 hx1, cl8 hy1, eq_true c2, reduceIte, Bool.false_eq_true, eq_self_iff_true, if_true, if_false]; done) | with_reducible rfl | (exfalso; omega)
      have e9 : cRest (nI x1) (nI y1) σ = cUp x1 y1 σ := by first | (simp only [cRest, e7, c1, cl8 hx1, cl8 hy1, eq_true c2, reduceIte, Bool.false_eq_true, eq_self_iff_true, if_true, if_false]; done) | with_reducible rfl | (exfalso; omega)
      rw [e9]
      exact kxret_z S hr hlk hP hD hS (by first | rfl | exact b2i_nar _) (by rw [show cRestR (nI x1) (nI y1) σ = true from (by first | (simp only [cRestR, c1, cl8 hx1, cl8 hy1, eq_true c2, reduceIte, Bool.false_eq_true, eq_self_iff_true, if_true, if_false]; done) | with_reducible rfl | (exfalso; omega))]; decide) e7 (Nat.le_of_ble_eq_true rfl) (Nat.le_of_ble_eq_true rfl) dX2_restore_41
    · refine lv_iconst (v := (nI 0)) S.1 S.2.1 dX2_restore_32 (by decide) ?_
      have e7 : failC (nI x1) (nI y1) σ = 0 := by first | (simp only [failC, c1, cl8 hx1, cl8 hy1, c2, reduceIte, Bool.false_eq_true, eq_self_iff_true, if_true, if_false]; done) | with_reducible rfl | (exfalso; omega)
      have e9 : cRest (nI x1) (nI y1) σ = σ := by first | (simp only [cRest, e7, c1, cl8 hx1, cl8 hy1, c2, reduceIte, Bool.false_eq_true, eq_self_iff_true, if_true, if_false]; done) | with_reducible rfl | (exfalso; omega)
      rw [e9]
      exact kxret_z S hr hlk hP hD hS (by first | rfl | exact b2i_nar _) (by rw [show cRestR (nI x1) (nI y1) σ = false from (by first | (simp only [cRestR, c1, cl8 hx1, cl8 hy1, c2, reduceIte, Bool.false_eq_true, eq_self_iff_true, if_true, if_false]; done) | with_reducible rfl | (exfalso; omega))]; decide) e7 (Nat.le_of_ble_eq_true rfl) (Nat.le_of_ble_eq_true rfl) dX2_restore_33
  · have e8 : failC x y σ = 1 := by first | (simp only [failC, c1, reduceIte, Bool.false_eq_true, eq_self_iff_true, if_true, if_false]; done) | with_reducible rfl | (exfalso; omega)
    exact kthrowA (is := 84) (text := "no such link") S hst9 hlk hNA hU hstr (by decide) hex hP hD hS e8 hl.1 (Nat.le_of_ble_eq_true rfl) (Nat.le_of_ble_eq_true rfl) (Nat.le_of_ble_eq_true rfl) (Nat.le_of_ble_eq_true rfl) (Nat.le_of_ble_eq_true rfl) (Nat.le_of_ble_eq_true rfl) dX2_restore_9 dX2_restore_12 dX2_restore_13 dX2_restore_15 dX2_restore_18
set_option maxHeartbeats 400000 in
set_option maxRecDepth 100000 in
theorem c_X2_start (l : Launch) (hst9 : l.stackTraces = false) (D : va_G) (cy : Nat → ClassId) (a : Nat → Nat) (X : va_W) (P : Nat) (σ : CS) (x : Int32)  : MetX l yX2_start cX2_start 3 .boolean (kRm 6 1 6) D (tyA cy) [.ref (a 0), .int (x)] (cW X cy a P σ) (cW X cy a P (cStart x σ)) (b2i (cStartR x σ)) (nodeC x) 1 6 := by
  intro sz
  refine kmetx (own := RX2) (by decide) rfl (Nat.le_of_ble_eq_true rfl) (fun p e s m args below meth c S hr hlk hK hNA hP hD hsz hA hU hstr hex ls hl => ?_)
  have hN := nestA_C hNA
  have hS : va_S (va_A (cW X cy a P σ) sz) s.heap s.heap [] := va_S.rf
  have hl : lv_has ls 3 [(0, .ref (a 0)), (1, .int (x))] := hl
  refine lv_iload_n S.1 S.2.1 dX2_start_0 rfl (lv_at hl 1 rfl) ?_
  refine call_X2_isNode S hK hN hP hD hS hA (x := x)  hl.1 (Nat.le_of_ble_eq_true rfl) ⟨Nat.le_of_ble_eq_true rfl, Nat.le_of_ble_eq_true rfl⟩ dX2_start_1 ⟨Nat.zero_le _, Nat.zero_le _⟩ (fun H locs hP hD hS => ?_)
  refine kb_ne (tgt := 17) S dX2_start_4 (by decide) (fun c1 => ?_) (fun c1 => ?_)
  · obtain ⟨x1, hx1, rfl⟩ := isN_of c1
    refine lv_aload_n S.1 S.2.1 dX2_start_17 rfl (lv_at hl 0 rfl) ?_
    refine cf_net_there S hK hP dX2_start_18 ?_
    refine lv_iload_n S.1 S.2.1 dX2_start_21 rfl (lv_at hl 1 rfl) ?_
    refine ca_there S hK hP (j := x1) (by omega) dX2_start_22 ?_
    refine lv_if_eq (tgt := 28) S.1 S.2.1 dX2_start_23 (by decide) (fun c2 => ?_) (fun c2 => ?_)
    · refine lv_aload_n S.1 S.2.1 dX2_start_28 rfl (lv_at hl 0 rfl) ?_
      refine cf_net_there S hK hP dX2_start_29 ?_
      refine lv_iload_n S.1 S.2.1 dX2_start_32 rfl (lv_at hl 1 rfl) ?_
      refine lv_iconst (v := (nI 1)) S.1 S.2.1 dX2_start_33 (by decide) ?_
      refine cs_there S hK hP hD hS (j := x1) (by omega) (by decide) dX2_start_34 (fun H locs hP hD hS => ?_)
      rw [cW_eq (show keep σ (sI 1 x1 (nI 1) σ) from keep_sI (by decide) (by first | exact Or.inl (by decide) | exact Or.inr (by decide)))] at hP hD
      refine lv_aload_n S.1 S.2.1 dX2_start_35 rfl (lv_at hl 0 rfl) ?_
      refine cf_net_latestNumber S hK hP dX2_start_36 ?_
      refine lv_iload_n S.1 S.2.1 dX2_start_39 rfl (lv_at hl 1 rfl) ?_
      refine lv_iconst (v := (nI 0)) S.1 S.2.1 dX2_start_40 (by decide) ?_
      refine cs_latest S hK hP hD hS (j := x1) (by omega) dX2_start_41 (fun H locs hP hD hS => ?_)
      rw [cW_eq (show keep (sI 1 x1 (nI 1) σ) (sI 2 x1 (nI 0) (sI 1 x1 (nI 1) σ)) from keep_sI (by decide) (by first | exact Or.inl (by decide) | exact Or.inr (by decide)))] at hP hD
      refine lv_aload_n S.1 S.2.1 dX2_start_42 rfl (lv_at hl 0 rfl) ?_
      refine lv_iload_n S.1 S.2.1 dX2_start_43 rfl (lv_at hl 1 rfl) ?_
      refine call_X2_tellNeighbours S hK hN hP hD hS hA (u := x1) (by omega) hl.1 (Nat.le_of_ble_eq_true rfl) ⟨Nat.le_of_ble_eq_true rfl, Nat.le_of_ble_eq_true rfl⟩ dX2_start_44 ⟨Nat.zero_le _, Nat.zero_le _⟩ (fun H locs hP hD hS => ?_)
      rw [cW_eq (show keep (sI 2 x1 (nI 0) (sI 1 x1 (nI 1) σ)) (cTellN x1 (sI 2 x1 (nI 0) (sI 1 x1 (nI 1) σ))) from cTellN_keep)] at hP hD
      refine lv_aload_n S.1 S.2.1 dX2_start_47 rfl (lv_at hl 0 rfl) ?_
      refine lv_iload_n S.1 S.2.1 dX2_start_48 rfl (lv_at hl 1 rfl) ?_
      refine call_X2_tell S hK hN hP hD hS hA (u := x1) (by omega) hl.1 (Nat.le_of_ble_eq_true rfl) ⟨Nat.le_of_ble_eq_true rfl, Nat.le_of_ble_eq_true rfl⟩ dX2_start_49 ⟨Nat.zero_le _, Nat.zero_le _⟩ (fun H locs hP hD hS => ?_)
      rw [cW_eq (show keep (cTellN x1 (sI 2 x1 (nI 0) (sI 1 x1 (nI 1) σ))) (cTell x1 (cTellN x1 (sI 2 x1 (nI 0) (sI 1 x1 (nI 1) σ)))) from cTell_keep)] at hP hD
      refine lv_iconst (v := (nI 0)) S.1 S.2.1 dX2_start_52 (by decide) ?_
      refine lv_istore_n (lv' := [(2, .int (nI 0)), (0, .ref (a 0)), (1, .int (nI (x1)))]) S.1 S.2.1 dX2_start_53 rfl hl (by decide) rfl (fun ls hl => ?_)
      have lp3 : ∀ (n3 i3 : Nat) (σ3 : CS), i3 + n3 = 8 → itr (fStC x1) n3 i3 σ3 = itr (fStC x1) 8 0 (cTell x1 (cTellN x1 (sI 2 x1 (nI 0) (sI 1 x1 (nI 1) σ)))) → ∀ (H : Heap) (locs : List Loc), va_P D vwCl (cW X cy a P σ3) H → va_D (va_A (cW X cy a P σ) sz) (cW X cy a P σ3) → va_S (va_A (cW X cy a P σ) sz) s.heap H locs → ∀ ls : Array Slot, lv_has ls 3 [(2, .int (nI (i3))), (0, .ref (a 0)), (1, .int (nI (x1)))] → W p l e (kRm 6 1 6) s m args below meth c H locs 0 0 (vx_MQ below (kQx D (cW X cy a P σ) (cW X cy a P (cStart (nI x1) σ)) (b2i (cStartR (nI x1) σ)) (nodeC (nI x1)) sz) (kXC D (cW X cy a P σ) (nodeC (nI x1)) sz) args s 1 6 (va_A (cW X cy a P σ) sz)) (F0 m 54 ls []) := by
        intro n3
        induction n3 with
        | zero =>
          intro i3 σ3 hi3 he3 H locs hP hD hS ls hl
          have hi3 : i3 = 8 := by omega
          have he3 : σ3 = itr (fStC x1) 8 0 (cTell x1 (cTellN x1 (sI 2 x1 (nI 0) (sI 1 x1 (nI 1) σ)))) := he3
          refine lv_iload_n S.1 S.2.1 dX2_start_54 rfl (lv_at hl 0 rfl) ?_
          refine lv_bipush (v := (nI 8)) S.1 S.2.1 dX2_start_55 (by decide) ?_
          refine lv_icmp_ge (tgt := 81) S.1 S.2.1 dX2_start_57 (by decide) (fun _ => ?_) (fun c => absurd (nI_le (by omega) (by omega)) c)
          refine lv_iconst (v := (nI 1)) S.1 S.2.1 dX2_start_81 (by decide) ?_
          have e7 : nodeC (nI x1) = 0 := by first | (simp only [nodeC, c1, cl8 hx1, eq_true c2, ← he3, reduceIte, Bool.false_eq_true, eq_self_iff_true, if_true, if_false]; done) | with_reducible rfl | (exfalso; omega)
          have e9 : cStart (nI x1) σ = σ3 := by first | (simp only [cStart, e7, start1, c1, cl8 hx1, eq_true c2, ← he3, reduceIte, Bool.false_eq_true, eq_self_iff_true, if_true, if_false]; done) | with_reducible rfl | (exfalso; omega)
          rw [e9]
          exact kxret_z S hr hlk hP hD hS (by first | rfl | exact b2i_nar _) (by rw [show cStartR (nI x1) σ = true from (by first | (simp only [cStartR, c1, cl8 hx1, eq_true c2, ← he3, reduceIte, Bool.false_eq_true, eq_self_iff_true, if_true, if_false]; done) | with_reducible rfl | (exfalso; omega))]; decide) e7 (Nat.le_of_ble_eq_true rfl) (Nat.le_of_ble_eq_true rfl) dX2_start_82
        | succ n3 ih3 =>
          intro i3 σ3 hi3 he3 H locs hP hD hS ls hl
          have hlt3 : i3 < 8 := by omega
          refine lv_iload_n S.1 S.2.1 dX2_start_54 rfl (lv_at hl 0 rfl) ?_
          refine lv_bipush (v := (nI 8)) S.1 S.2.1 dX2_start_55 (by decide) ?_
          refine lv_icmp_ge (tgt := 81) S.1 S.2.1 dX2_start_57 (by decide) (fun c => absurd c (nI_ge (by omega) (by omega))) (fun _ => ?_)
          refine lv_aload_n S.1 S.2.1 dX2_start_60 rfl (lv_at hl 1 rfl) ?_
          refine lv_iload_n S.1 S.2.1 dX2_start_61 rfl (lv_at hl 0 rfl) ?_
          refine lv_iload_n S.1 S.2.1 dX2_start_62 rfl (lv_at hl 2 rfl) ?_
          refine call_X2_carries S hK hN hP hD hS hA (u := i3) (v := x1) (by omega) (by omega) hl.1 (Nat.le_of_ble_eq_true rfl) ⟨Nat.le_of_ble_eq_true rfl, Nat.le_of_ble_eq_true rfl⟩ dX2_start_63 ⟨Nat.zero_le _, Nat.zero_le _⟩ (fun H locs hP hD hS => ?_)
          refine kb_eq (tgt := 75) S dX2_start_66 (by decide) (fun c6 => ?_) (fun c6 => ?_)
          · refine lv_iinc (v := (nI (i3 + 1))) (lv' := [(2, .int (nI (i3 + 1))), (0, .ref (a 0)), (1, .int (nI (x1)))]) S.1 S.2.1 dX2_start_75 hl (k := 0) rfl (nI_add _ 1) (by decide) rfl (fun ls hl => ?_)
            refine lv_goto (tgt := 54) S.1 S.2.1 dX2_start_78 (by decide) ?_
            exact ih3 (i3 + 1) σ3 (by omega) (itr_step he3 (by first | (simp only [fStC, c1, cl8 hx1, eq_true c2, c6, reduceIte, Bool.false_eq_true, eq_self_iff_true, if_true, if_false]; done) | with_reducible rfl | (exfalso; omega))) _ _ hP hD hS _ (lv_sub hl [0, 1, 2] rfl)
          · refine lv_aload_n S.1 S.2.1 dX2_start_69 rfl (lv_at hl 1 rfl) ?_
            refine lv_iload_n S.1 S.2.1 dX2_start_70 rfl (lv_at hl 0 rfl) ?_
            refine lv_iload_n S.1 S.2.1 dX2_start_71 rfl (lv_at hl 2 rfl) ?_
            refine call_X2_sendAllKnown S hK hN hP hD hS hA (f := i3) (t := x1) (by omega) (by omega) hl.1 (Nat.le_of_ble_eq_true rfl) ⟨Nat.le_of_ble_eq_true rfl, Nat.le_of_ble_eq_true rfl⟩ dX2_start_72 ⟨Nat.zero_le _, Nat.zero_le _⟩ (fun H locs hP hD hS => ?_)
            rw [cW_eq (show keep σ3 (cSendAll i3 x1 σ3) from cSendAll_keep)] at hP hD
            refine lv_iinc (v := (nI (i3 + 1))) (lv' := [(2, .int (nI (i3 + 1))), (0, .ref (a 0)), (1, .int (nI (x1)))]) S.1 S.2.1 dX2_start_75 hl (k := 0) rfl (nI_add _ 1) (by decide) rfl (fun ls hl => ?_)
            refine lv_goto (tgt := 54) S.1 S.2.1 dX2_start_78 (by decide) ?_
            exact ih3 (i3 + 1) (cSendAll i3 x1 σ3) (by omega) (itr_step he3 (by first | (simp only [fStC, c1, cl8 hx1, eq_true c2, c6, reduceIte, Bool.false_eq_true, eq_self_iff_true, if_true, if_false]; done) | with_reducible rfl | (exfalso; omega))) _ _ hP hD hS _ (lv_sub hl [0, 1, 2] rfl)
      exact lp3 8 0 (cTell x1 (cTellN x1 (sI 2 x1 (nI 0) (sI 1 x1 (nI 1) σ)))) (by omega) rfl _ _ hP hD hS _ (lv_sub hl [0, 1, 2] rfl)
    · refine lv_iconst (v := (nI 0)) S.1 S.2.1 dX2_start_26 (by decide) ?_
      have e7 : nodeC (nI x1) = 0 := by first | (simp only [nodeC, c1, cl8 hx1, c2, reduceIte, Bool.false_eq_true, eq_self_iff_true, if_true, if_false]; done) | with_reducible rfl | (exfalso; omega)
      have e9 : cStart (nI x1) σ = σ := by first | (simp only [cStart, e7, start1, c1, cl8 hx1, c2, reduceIte, Bool.false_eq_true, eq_self_iff_true, if_true, if_false]; done) | with_reducible rfl | (exfalso; omega)
      rw [e9]
      exact kxret_z S hr hlk hP hD hS (by first | rfl | exact b2i_nar _) (by rw [show cStartR (nI x1) σ = false from (by first | (simp only [cStartR, c1, cl8 hx1, c2, reduceIte, Bool.false_eq_true, eq_self_iff_true, if_true, if_false]; done) | with_reducible rfl | (exfalso; omega))]; decide) e7 (Nat.le_of_ble_eq_true rfl) (Nat.le_of_ble_eq_true rfl) dX2_start_27
  · have e8 : nodeC x = 1 := by first | (simp only [nodeC, c1, reduceIte, Bool.false_eq_true, eq_self_iff_true, if_true, if_false]; done) | with_reducible rfl | (exfalso; omega)
    exact kthrowA (is := 93) (text := "no such node") S hst9 hlk hNA hU hstr (by decide) hex hP hD hS e8 hl.1 (Nat.le_of_ble_eq_true rfl) (Nat.le_of_ble_eq_true rfl) (Nat.le_of_ble_eq_true rfl) (Nat.le_of_ble_eq_true rfl) (Nat.le_of_ble_eq_true rfl) (Nat.le_of_ble_eq_true rfl) dX2_start_7 dX2_start_10 dX2_start_11 dX2_start_13 dX2_start_16
set_option maxHeartbeats 400000 in
set_option maxRecDepth 100000 in
theorem c_X2_crash (l : Launch) (hst9 : l.stackTraces = false) (D : va_G) (cy : Nat → ClassId) (a : Nat → Nat) (X : va_W) (P : Nat) (σ : CS) (x : Int32) (hI : cI P σ) : MetX l yX2_crash cX2_crash 3 .boolean (kRm 6 1 6) D (tyA cy) [.ref (a 0), .int (x)] (cW X cy a P σ) (cW X cy a P (cCrash P x σ)) (b2i (cCrashR x σ)) (nodeC x) 1 6 := by
  intro sz
  refine kmetx (own := RX2) (by decide) rfl (Nat.le_of_ble_eq_true rfl) (fun p e s m args below meth c S hr hlk hK hNA hP hD hsz hA hU hstr hex ls hl => ?_)
  have hN := nestA_C hNA
  have hS : va_S (va_A (cW X cy a P σ) sz) s.heap s.heap [] := va_S.rf
  have hl : lv_has ls 3 [(0, .ref (a 0)), (1, .int (x))] := hl
  refine lv_iload_n S.1 S.2.1 dX2_crash_0 rfl (lv_at hl 1 rfl) ?_
  refine call_X2_isNode S hK hN hP hD hS hA (x := x)  hl.1 (Nat.le_of_ble_eq_true rfl) ⟨Nat.le_of_ble_eq_true rfl, Nat.le_of_ble_eq_true rfl⟩ dX2_crash_1 ⟨Nat.zero_le _, Nat.zero_le _⟩ (fun H locs hP hD hS => ?_)
  refine kb_ne (tgt := 17) S dX2_crash_4 (by decide) (fun c1 => ?_) (fun c1 => ?_)
  · obtain ⟨x1, hx1, rfl⟩ := isN_of c1
    refine lv_aload_n S.1 S.2.1 dX2_crash_17 rfl (lv_at hl 0 rfl) ?_
    refine cf_net_there S hK hP dX2_crash_18 ?_
    refine lv_iload_n S.1 S.2.1 dX2_crash_21 rfl (lv_at hl 1 rfl) ?_
    refine ca_there S hK hP (j := x1) (by omega) dX2_crash_22 ?_
    refine lv_if_ne (tgt := 28) S.1 S.2.1 dX2_crash_23 (by decide) (fun c2 => ?_) (fun c2 => ?_)
    · refine lv_aload_n S.1 S.2.1 dX2_crash_28 rfl (lv_at hl 0 rfl) ?_
      refine cf_net_there S hK hP dX2_crash_29 ?_
      refine lv_iload_n S.1 S.2.1 dX2_crash_32 rfl (lv_at hl 1 rfl) ?_
      refine lv_iconst (v := (nI 0)) S.1 S.2.1 dX2_crash_33 (by decide) ?_
      refine cs_there S hK hP hD hS (j := x1) (by omega) (by decide) dX2_crash_34 (fun H locs hP hD hS => ?_)
      rw [cW_eq (show keep σ (sI 1 x1 (nI 0) σ) from keep_sI (by decide) (by first | exact Or.inl (by decide) | exact Or.inr (by decide)))] at hP hD
      refine lv_iconst (v := (nI 0)) S.1 S.2.1 dX2_crash_35 (by decide) ?_
      refine lv_istore_n (lv' := [(2, .int (nI 0)), (0, .ref (a 0)), (1, .int (nI (x1)))]) S.1 S.2.1 dX2_crash_36 rfl hl (by decide) rfl (fun ls hl => ?_)
      have lp3 : ∀ (n3 i3 : Nat) (σ3 : CS), i3 + n3 = 8 → itr (fCrC P x1) n3 i3 σ3 = itr (fCrC P x1) 8 0 (sI 1 x1 (nI 0) σ) → cI P σ3 → ∀ (H : Heap) (locs : List Loc), va_P D vwCl (cW X cy a P σ3) H → va_D (va_A (cW X cy a P σ) sz) (cW X cy a P σ3) → va_S (va_A (cW X cy a P σ) sz) s.heap H locs → ∀ ls : Array Slot, lv_has ls 3 [(2, .int (nI (i3))), (0, .ref (a 0)), (1, .int (nI (x1)))] → W p l e (kRm 6 1 6) s m args below meth c H locs 0 0 (vx_MQ below (kQx D (cW X cy a P σ) (cW X cy a P (cCrash P (nI x1) σ)) (b2i (cCrashR (nI x1) σ)) (nodeC (nI x1)) sz) (kXC D (cW X cy a P σ) (nodeC (nI x1)) sz) args s 1 6 (va_A (cW X cy a P σ) sz)) (F0 m 37 ls []) := by
        intro n3
        induction n3 with
        | zero =>
          intro i3 σ3 hi3 he3 hv3 H locs hP hD hS ls hl
          have hi3 : i3 = 8 := by omega
          have he3 : σ3 = itr (fCrC P x1) 8 0 (sI 1 x1 (nI 0) σ) := he3
          refine lv_iload_n S.1 S.2.1 dX2_crash_37 rfl (lv_at hl 0 rfl) ?_
          refine lv_bipush (v := (nI 8)) S.1 S.2.1 dX2_crash_38 (by decide) ?_
          refine lv_icmp_ge (tgt := 67) S.1 S.2.1 dX2_crash_40 (by decide) (fun _ => ?_) (fun c => absurd (nI_le (by omega) (by omega)) c)
          refine lv_aload_n S.1 S.2.1 dX2_crash_67 rfl (lv_at hl 1 rfl) ?_
          refine lv_iload_n S.1 S.2.1 dX2_crash_68 rfl (lv_at hl 2 rfl) ?_
          refine call_X2_tellNeighbours S hK hN hP hD hS hA (u := x1) (by omega) hl.1 (Nat.le_of_ble_eq_true rfl) ⟨Nat.le_of_ble_eq_true rfl, Nat.le_of_ble_eq_true rfl⟩ dX2_crash_69 ⟨Nat.zero_le _, Nat.zero_le _⟩ (fun H locs hP hD hS => ?_)
          rw [cW_eq (show keep σ3 (cTellN x1 σ3) from cTellN_keep)] at hP hD
          refine lv_iconst (v := (nI 1)) S.1 S.2.1 dX2_crash_72 (by decide) ?_
          have e7 : nodeC (nI x1) = 0 := by first | (simp only [nodeC, c1, cl8 hx1, c2, ← he3, reduceIte, Bool.false_eq_true, eq_self_iff_true, if_true, if_false]; done) | with_reducible rfl | (exfalso; omega)
          have e9 : cCrash P (nI x1) σ = cTellN x1 σ3 := by first | (simp only [cCrash, e7, c1, cl8 hx1, c2, ← he3, reduceIte, Bool.false_eq_true, eq_self_iff_true, if_true, if_false]; done) | with_reducible rfl | (exfalso; omega)
          rw [e9]
          exact kxret_z S hr hlk hP hD hS (by first | rfl | exact b2i_nar _) (by rw [show cCrashR (nI x1) σ = true from (by first | (simp only [cCrashR, c1, cl8 hx1, c2, ← he3, reduceIte, Bool.false_eq_true, eq_self_iff_true, if_true, if_false]; done) | with_reducible rfl | (exfalso; omega))]; decide) e7 (Nat.le_of_ble_eq_true rfl) (Nat.le_of_ble_eq_true rfl) dX2_crash_73
        | succ n3 ih3 =>
          intro i3 σ3 hi3 he3 hv3 H locs hP hD hS ls hl
          have hlt3 : i3 < 8 := by omega
          refine lv_iload_n S.1 S.2.1 dX2_crash_37 rfl (lv_at hl 0 rfl) ?_
          refine lv_bipush (v := (nI 8)) S.1 S.2.1 dX2_crash_38 (by decide) ?_
          refine lv_icmp_ge (tgt := 67) S.1 S.2.1 dX2_crash_40 (by decide) (fun c => absurd c (nI_ge (by omega) (by omega))) (fun _ => ?_)
          refine lv_aload_n S.1 S.2.1 dX2_crash_43 rfl (lv_at hl 1 rfl) ?_
          refine cf_net_known S hK hP dX2_crash_44 ?_
          refine lv_iload_n S.1 S.2.1 dX2_crash_47 rfl (lv_at hl 2 rfl) ?_
          refine lv_iload_n S.1 S.2.1 dX2_crash_48 rfl (lv_at hl 0 rfl) ?_
          refine call_X2_knownRow S hK hN hP hD hS hA (u := x1) (v := i3)  hl.1 (Nat.le_of_ble_eq_true rfl) ⟨Nat.le_of_ble_eq_true rfl, Nat.le_of_ble_eq_true rfl⟩ dX2_crash_49 ⟨Nat.zero_le _, Nat.zero_le _⟩ (fun H locs hP hD hS => ?_)
          refine call_X1_clear_known_X2 S hK hN hP hD hS hA (row := x1 * 8 + i3) (by omega) hl.1 (Nat.le_of_ble_eq_true rfl) ⟨Nat.le_of_ble_eq_true rfl, Nat.le_of_ble_eq_true rfl⟩ dX2_crash_52 ⟨Nat.zero_le _, Nat.zero_le _⟩ (fun H locs hP hD hS => ?_)
          rw [cW_eq (show keep σ3 (pClear 6 0 3 (x1 * 8 + i3) σ3) from pClear_keep (by decide) (by decide) (by decide))] at hP hD
          refine lv_aload_n S.1 S.2.1 dX2_crash_55 rfl (lv_at hl 1 rfl) ?_
          refine lv_iload_n S.1 S.2.1 dX2_crash_56 rfl (lv_at hl 2 rfl) ?_
          refine lv_iload_n S.1 S.2.1 dX2_crash_57 rfl (lv_at hl 0 rfl) ?_
          refine call_X2_emptyLink S hK hN hP hD hS hA (u := x1) (v := i3) (by omega) (by omega) (show cI P (pClear 6 0 3 (x1 * 8 + i3) σ3) from (cI_keep hv3 (show keep σ3 (pClear 6 0 3 (x1 * 8 + i3) σ3) from pClear_keep (by decide) (by decide) (by decide)))) hl.1 (Nat.le_of_ble_eq_true rfl) ⟨Nat.le_of_ble_eq_true rfl, Nat.le_of_ble_eq_true rfl⟩ dX2_crash_58 ⟨Nat.zero_le _, Nat.zero_le _⟩ (fun H locs hP hD hS => ?_)
          refine lv_iinc (v := (nI (i3 + 1))) (lv' := [(2, .int (nI (i3 + 1))), (0, .ref (a 0)), (1, .int (nI (x1)))]) S.1 S.2.1 dX2_crash_61 hl (k := 0) rfl (nI_add _ 1) (by decide) rfl (fun ls hl => ?_)
          refine lv_goto (tgt := 37) S.1 S.2.1 dX2_crash_64 (by decide) ?_
          exact ih3 (i3 + 1) (cEmpty P x1 i3 (pClear 6 0 3 (x1 * 8 + i3) σ3)) (by omega) (itr_step he3 (by first | (simp only [fCrC, c1, cl8 hx1, c2, reduceIte, Bool.false_eq_true, eq_self_iff_true, if_true, if_false]; done) | with_reducible rfl | (exfalso; omega))) (by have h9 : cI P ((fCrC P x1) i3 σ3) := fCrC_I i3 hv3; have e8 : (fCrC P x1) i3 σ3 = cEmpty P x1 i3 (pClear 6 0 3 (x1 * 8 + i3) σ3) := (by first | (simp only [fCrC, c1, cl8 hx1, c2, reduceIte, Bool.false_eq_true, eq_self_iff_true, if_true, if_false]; done) | with_reducible rfl | (exfalso; omega)); rw [e8] at h9; exact h9) _ _ hP hD hS _ (lv_sub hl [0, 1, 2] rfl)
      exact lp3 8 0 (sI 1 x1 (nI 0) σ) (by omega) rfl (show cI P (sI 1 x1 (nI 0) σ) from (cI_keep hI (show keep σ (sI 1 x1 (nI 0) σ) from keep_sI (by decide) (by first | exact Or.inl (by decide) | exact Or.inr (by decide))))) _ _ hP hD hS _ (lv_sub hl [0, 1, 2] rfl)
    · refine lv_iconst (v := (nI 0)) S.1 S.2.1 dX2_crash_26 (by decide) ?_
      have e7 : nodeC (nI x1) = 0 := by first | (simp only [nodeC, c1, cl8 hx1, eq_true c2, reduceIte, Bool.false_eq_true, eq_self_iff_true, if_true, if_false]; done) | with_reducible rfl | (exfalso; omega)
      have e9 : cCrash P (nI x1) σ = σ := by first | (simp only [cCrash, e7, c1, cl8 hx1, eq_true c2, reduceIte, Bool.false_eq_true, eq_self_iff_true, if_true, if_false]; done) | with_reducible rfl | (exfalso; omega)
      rw [e9]
      exact kxret_z S hr hlk hP hD hS (by first | rfl | exact b2i_nar _) (by rw [show cCrashR (nI x1) σ = false from (by first | (simp only [cCrashR, c1, cl8 hx1, eq_true c2, reduceIte, Bool.false_eq_true, eq_self_iff_true, if_true, if_false]; done) | with_reducible rfl | (exfalso; omega))]; decide) e7 (Nat.le_of_ble_eq_true rfl) (Nat.le_of_ble_eq_true rfl) dX2_crash_27
  · have e8 : nodeC x = 1 := by first | (simp only [nodeC, c1, reduceIte, Bool.false_eq_true, eq_self_iff_true, if_true, if_false]; done) | with_reducible rfl | (exfalso; omega)
    exact kthrowA (is := 93) (text := "no such node") S hst9 hlk hNA hU hstr (by decide) hex hP hD hS e8 hl.1 (Nat.le_of_ble_eq_true rfl) (Nat.le_of_ble_eq_true rfl) (Nat.le_of_ble_eq_true rfl) (Nat.le_of_ble_eq_true rfl) (Nat.le_of_ble_eq_true rfl) (Nat.le_of_ble_eq_true rfl) dX2_crash_7 dX2_crash_10 dX2_crash_11 dX2_crash_13 dX2_crash_16
set_option maxHeartbeats 400000 in
set_option maxRecDepth 100000 in
theorem c_X2_tick (l : Launch) (hst9 : l.stackTraces = false) (D : va_G) (cy : Nat → ClassId) (a : Nat → Nat) (X : va_W) (P : Nat) (σ : CS) (x : Int32) (hI : cI P σ) : MetX l yX2_tick cX2_tick 3 .int (kRm 6 1 6) D (tyA cy) [.ref (a 0), .int (x)] (cW X cy a P σ) (cW X cy a P (cTick P x σ)) (cTickR P x σ) (tickC x) 1 6 := by
  intro sz
  refine kmetx (own := RX2) (by decide) rfl (Nat.le_of_ble_eq_true rfl) (fun p e s m args below meth c S hr hlk hK hNA hP hD hsz hA hU hstr hex ls hl => ?_)
  have hN := nestA_C hNA
  have hS : va_S (va_A (cW X cy a P σ) sz) s.heap s.heap [] := va_S.rf
  have hl : lv_has ls 3 [(0, .ref (a 0)), (1, .int (x))] := hl
  refine lv_iload_n S.1 S.2.1 dX2_tick_0 rfl (lv_at hl 1 rfl) ?_
  refine lv_iconst (v := (nI 1)) S.1 S.2.1 dX2_tick_1 (by decide) ?_
  refine lv_icmp_lt (tgt := 11) S.1 S.2.1 dX2_tick_2 (by decide) (fun c1 => ?_) (fun c1 => ?_)
  · have e8 : tickC x = 1 := by first | (simp only [tickC, c1, reduceIte, Bool.false_eq_true, eq_self_iff_true, if_true, if_false]; done) | with_reducible rfl | (exfalso; omega)
    exact kthrowA (is := 116) (text := "1 to 50 ticks at once") S hst9 hlk hNA hU hstr (by decide) hex hP hD hS e8 hl.1 (Nat.le_of_ble_eq_true rfl) (Nat.le_of_ble_eq_true rfl) (Nat.le_of_ble_eq_true rfl) (Nat.le_of_ble_eq_true rfl) (Nat.le_of_ble_eq_true rfl) (Nat.le_of_ble_eq_true rfl) dX2_tick_11 dX2_tick_14 dX2_tick_15 dX2_tick_17 dX2_tick_20
  · refine lv_iload_n S.1 S.2.1 dX2_tick_5 rfl (lv_at hl 1 rfl) ?_
    refine lv_bipush (v := (nI 50)) S.1 S.2.1 dX2_tick_6 (by decide) ?_
    refine lv_icmp_le (tgt := 21) S.1 S.2.1 dX2_tick_8 (by decide) (fun c2 => ?_) (fun c2 => ?_)
    · obtain ⟨x1, hxa, hxb, rfl⟩ := tk_of c1 c2
      refine lv_iconst (v := (nI 0)) S.1 S.2.1 dX2_tick_21 (by decide) ?_
      refine lv_istore_n (lv' := [(2, .int (nI 0)), (0, .ref (a 0)), (1, .int (nI (x1)))]) S.1 S.2.1 dX2_tick_22 rfl hl (by decide) rfl (fun ls hl => ?_)
      have lp3 : ∀ (n3 i3 : Nat) (σ3 : CS), i3 + n3 = x1 → itr (fTkC P) n3 i3 σ3 = itr (fTkC P) x1 0 σ → cI P σ3 → ∀ (H : Heap) (locs : List Loc), va_P D vwCl (cW X cy a P σ3) H → va_D (va_A (cW X cy a P σ) sz) (cW X cy a P σ3) → va_S (va_A (cW X cy a P σ) sz) s.heap H locs → ∀ ls : Array Slot, lv_has ls 3 [(2, .int (nI (i3))), (0, .ref (a 0)), (1, .int (nI (x1)))] → W p l e (kRm 6 1 6) s m args below meth c H locs 0 0 (vx_MQ below (kQx D (cW X cy a P σ) (cW X cy a P (cTick P (nI x1) σ)) (cTickR P (nI x1) σ) (tickC (nI x1)) sz) (kXC D (cW X cy a P σ) (tickC (nI x1)) sz) args s 1 6 (va_A (cW X cy a P σ) sz)) (F0 m 23 ls []) := by
        intro n3
        induction n3 with
        | zero =>
          intro i3 σ3 hi3 he3 hv3 H locs hP hD hS ls hl
          have hi3 : i3 = x1 := by omega
          have he3 : σ3 = itr (fTkC P) x1 0 σ := he3
          refine lv_iload_n S.1 S.2.1 dX2_tick_23 rfl (lv_at hl 0 rfl) ?_
          refine lv_iload_n S.1 S.2.1 dX2_tick_24 rfl (lv_at hl 2 rfl) ?_
          refine lv_icmp_ge (tgt := 84) S.1 S.2.1 dX2_tick_25 (by decide) (fun _ => ?_) (fun c => absurd (nI_le (by omega) (by omega)) c)
          refine lv_aload_n S.1 S.2.1 dX2_tick_84 rfl (lv_at hl 1 rfl) ?_
          refine cf_net_time S hK hP dX2_tick_85 ?_
          have e7 : tickC (nI x1) = 0 := by first | (simp only [tickC, c1, c2, nI_clamp (show x1 < 2 ^ 31 by omega), ← he3, reduceIte, Bool.false_eq_true, eq_self_iff_true, if_true, if_false]; done) | with_reducible rfl | (exfalso; omega)
          have e9 : cTick P (nI x1) σ = σ3 := by first | (simp only [cTick, e7, c1, c2, nI_clamp (show x1 < 2 ^ 31 by omega), ← he3, reduceIte, Bool.false_eq_true, eq_self_iff_true, if_true, if_false]; done) | with_reducible rfl | (exfalso; omega)
          rw [e9]
          exact kxret_i S hr hlk hP hD hS (by first | (simp only [cTickR, cTick, e7, c1, c2, nI_clamp (show x1 < 2 ^ 31 by omega), ← he3, reduceIte, Bool.false_eq_true, eq_self_iff_true, if_true, if_false]; done) | with_reducible rfl | (exfalso; omega)) e7 (Nat.le_of_ble_eq_true rfl) (Nat.le_of_ble_eq_true rfl) dX2_tick_88
        | succ n3 ih3 =>
          intro i3 σ3 hi3 he3 hv3 H locs hP hD hS ls hl
          have hlt3 : i3 < x1 := by omega
          refine lv_iload_n S.1 S.2.1 dX2_tick_23 rfl (lv_at hl 0 rfl) ?_
          refine lv_iload_n S.1 S.2.1 dX2_tick_24 rfl (lv_at hl 2 rfl) ?_
          refine lv_icmp_ge (tgt := 84) S.1 S.2.1 dX2_tick_25 (by decide) (fun c => absurd c (nI_ge (by omega) (by omega))) (fun _ => ?_)
          refine lv_aload_n S.1 S.2.1 dX2_tick_28 rfl (lv_at hl 1 rfl) ?_
          refine lv_dup S.1 S.2.1 dX2_tick_29 rfl ?_
          refine cf_net_time S hK hP dX2_tick_30 ?_
          refine lv_iconst (v := (nI 1)) S.1 S.2.1 dX2_tick_33 (by decide) ?_
          refine lv_iadd S.1 S.2.1 dX2_tick_34 ?_
          refine cp_net_time S hK hP hD hS dX2_tick_35 (fun H locs hP hD hS => ?_)
          rw [cW_eq (show keep σ3 (sI 0 2 ((σ3.1 0 2) + (nI 1)) σ3) from keep_sI (by decide) (by first | exact Or.inl (by decide) | exact Or.inr (by decide)))] at hP hD
          refine lv_aload_n S.1 S.2.1 dX2_tick_38 rfl (lv_at hl 1 rfl) ?_
          refine cf_net_known S hK hP dX2_tick_39 ?_
          refine lv_aload_n S.1 S.2.1 dX2_tick_42 rfl (lv_at hl 1 rfl) ?_
          refine cf_net_time S hK hP dX2_tick_43 ?_
          refine lv_bipush (v := (nI 60)) S.1 S.2.1 dX2_tick_46 (by decide) ?_
          refine lv_isub S.1 S.2.1 dX2_tick_48 ?_
          refine call_X1_clearBornUntil_known S hK hN hP hD hS hA (y := ((sI 0 2 ((σ3.1 0 2) + (nI 1)) σ3).1 0 2) - (nI 60))  hl.1 (Nat.le_of_ble_eq_true rfl) ⟨Nat.le_of_ble_eq_true rfl, Nat.le_of_ble_eq_true rfl⟩ dX2_tick_49 ⟨Nat.zero_le _, Nat.zero_le _⟩ (fun H locs hP hD hS => ?_)
          rw [cW_eq (show keep (sI 0 2 ((σ3.1 0 2) + (nI 1)) σ3) (cClrB 6 7 0 3 64 (((sI 0 2 ((σ3.1 0 2) + (nI 1)) σ3).1 0 2) - (nI 60)) (sI 0 2 ((σ3.1 0 2) + (nI 1)) σ3)) from cClrB_keep (by decide) (by decide) (by decide))] at hP hD
          refine lv_aload_n S.1 S.2.1 dX2_tick_52 rfl (lv_at hl 1 rfl) ?_
          refine cf_net_inFlight S hK hP dX2_tick_53 ?_
          refine lv_aload_n S.1 S.2.1 dX2_tick_56 rfl (lv_at hl 1 rfl) ?_
          refine cf_net_time S hK hP dX2_tick_57 ?_
          refine lv_bipush (v := (nI 60)) S.1 S.2.1 dX2_tick_60 (by decide) ?_
          refine lv_isub S.1 S.2.1 dX2_tick_62 ?_
          refine call_X1_clearBornUntil_inFlight S hK hN hP hD hS hA (y := ((cClrB 6 7 0 3 64 (((sI 0 2 ((σ3.1 0 2) + (nI 1)) σ3).1 0 2) - (nI 60)) (sI 0 2 ((σ3.1 0 2) + (nI 1)) σ3)).1 0 2) - (nI 60))  hl.1 (Nat.le_of_ble_eq_true rfl) ⟨Nat.le_of_ble_eq_true rfl, Nat.le_of_ble_eq_true rfl⟩ dX2_tick_63 ⟨Nat.zero_le _, Nat.zero_le _⟩ (fun H locs hP hD hS => ?_)
          rw [cW_eq (show keep (cClrB 6 7 0 3 64 (((sI 0 2 ((σ3.1 0 2) + (nI 1)) σ3).1 0 2) - (nI 60)) (sI 0 2 ((σ3.1 0 2) + (nI 1)) σ3)) (cClrB 8 9 1 4 512 (((cClrB 6 7 0 3 64 (((sI 0 2 ((σ3.1 0 2) + (nI 1)) σ3).1 0 2) - (nI 60)) (sI 0 2 ((σ3.1 0 2) + (nI 1)) σ3)).1 0 2) - (nI 60)) (cClrB 6 7 0 3 64 (((sI 0 2 ((σ3.1 0 2) + (nI 1)) σ3).1 0 2) - (nI 60)) (sI 0 2 ((σ3.1 0 2) + (nI 1)) σ3))) from cClrB_keep (by decide) (by decide) (by decide))] at hP hD
          refine lv_aload_n S.1 S.2.1 dX2_tick_66 rfl (lv_at hl 1 rfl) ?_
          refine call_X2_tellAgain S hK hN hP hD hS hA   hl.1 (Nat.le_of_ble_eq_true rfl) ⟨Nat.le_of_ble_eq_true rfl, Nat.le_of_ble_eq_true rfl⟩ dX2_tick_67 ⟨Nat.zero_le _, Nat.zero_le _⟩ (fun H locs hP hD hS => ?_)
          rw [cW_eq (show keep (cClrB 8 9 1 4 512 (((cClrB 6 7 0 3 64 (((sI 0 2 ((σ3.1 0 2) + (nI 1)) σ3).1 0 2) - (nI 60)) (sI 0 2 ((σ3.1 0 2) + (nI 1)) σ3)).1 0 2) - (nI 60)) (cClrB 6 7 0 3 64 (((sI 0 2 ((σ3.1 0 2) + (nI 1)) σ3).1 0 2) - (nI 60)) (sI 0 2 ((σ3.1 0 2) + (nI 1)) σ3))) (cTellA (cClrB 8 9 1 4 512 (((cClrB 6 7 0 3 64 (((sI 0 2 ((σ3.1 0 2) + (nI 1)) σ3).1 0 2) - (nI 60)) (sI 0 2 ((σ3.1 0 2) + (nI 1)) σ3)).1 0 2) - (nI 60)) (cClrB 6 7 0 3 64 (((sI 0 2 ((σ3.1 0 2) + (nI 1)) σ3).1 0 2) - (nI 60)) (sI 0 2 ((σ3.1 0 2) + (nI 1)) σ3)))) from cTellA_keep)] at hP hD
          refine lv_aload_n S.1 S.2.1 dX2_tick_70 rfl (lv_at hl 1 rfl) ?_
          refine call_X2_receiveArrivedNews S hK hN hP hD hS hA   hl.1 (Nat.le_of_ble_eq_true rfl) ⟨Nat.le_of_ble_eq_true rfl, Nat.le_of_ble_eq_true rfl⟩ dX2_tick_71 ⟨Nat.zero_le _, Nat.zero_le _⟩ (fun H locs hP hD hS => ?_)
          rw [cW_eq (show keep (cTellA (cClrB 8 9 1 4 512 (((cClrB 6 7 0 3 64 (((sI 0 2 ((σ3.1 0 2) + (nI 1)) σ3).1 0 2) - (nI 60)) (sI 0 2 ((σ3.1 0 2) + (nI 1)) σ3)).1 0 2) - (nI 60)) (cClrB 6 7 0 3 64 (((sI 0 2 ((σ3.1 0 2) + (nI 1)) σ3).1 0 2) - (nI 60)) (sI 0 2 ((σ3.1 0 2) + (nI 1)) σ3)))) (cArr (cTellA (cClrB 8 9 1 4 512 (((cClrB 6 7 0 3 64 (((sI 0 2 ((σ3.1 0 2) + (nI 1)) σ3).1 0 2) - (nI 60)) (sI 0 2 ((σ3.1 0 2) + (nI 1)) σ3)).1 0 2) - (nI 60)) (cClrB 6 7 0 3 64 (((sI 0 2 ((σ3.1 0 2) + (nI 1)) σ3).1 0 2) - (nI 60)) (sI 0 2 ((σ3.1 0 2) + (nI 1)) σ3))))) from cArr_keep)] at hP hD
          refine lv_aload_n S.1 S.2.1 dX2_tick_74 rfl (lv_at hl 1 rfl) ?_
          refine call_X2_movePackets S hK hN hP hD hS hA  (show cI P (cArr (cTellA (cClrB 8 9 1 4 512 (((cClrB 6 7 0 3 64 (((sI 0 2 ((σ3.1 0 2) + (nI 1)) σ3).1 0 2) - (nI 60)) (sI 0 2 ((σ3.1 0 2) + (nI 1)) σ3)).1 0 2) - (nI 60)) (cClrB 6 7 0 3 64 (((sI 0 2 ((σ3.1 0 2) + (nI 1)) σ3).1 0 2) - (nI 60)) (sI 0 2 ((σ3.1 0 2) + (nI 1)) σ3))))) from (cI_keep (cI_keep (cI_keep (cI_keep (cI_keep hv3 (show keep σ3 (sI 0 2 ((σ3.1 0 2) + (nI 1)) σ3) from keep_sI (by decide) (by first | exact Or.inl (by decide) | exact Or.inr (by decide)))) (show keep (sI 0 2 ((σ3.1 0 2) + (nI 1)) σ3) (cClrB 6 7 0 3 64 (((sI 0 2 ((σ3.1 0 2) + (nI 1)) σ3).1 0 2) - (nI 60)) (sI 0 2 ((σ3.1 0 2) + (nI 1)) σ3)) from cClrB_keep (by decide) (by decide) (by decide))) (show keep (cClrB 6 7 0 3 64 (((sI 0 2 ((σ3.1 0 2) + (nI 1)) σ3).1 0 2) - (nI 60)) (sI 0 2 ((σ3.1 0 2) + (nI 1)) σ3)) (cClrB 8 9 1 4 512 (((cClrB 6 7 0 3 64 (((sI 0 2 ((σ3.1 0 2) + (nI 1)) σ3).1 0 2) - (nI 60)) (sI 0 2 ((σ3.1 0 2) + (nI 1)) σ3)).1 0 2) - (nI 60)) (cClrB 6 7 0 3 64 (((sI 0 2 ((σ3.1 0 2) + (nI 1)) σ3).1 0 2) - (nI 60)) (sI 0 2 ((σ3.1 0 2) + (nI 1)) σ3))) from cClrB_keep (by decide) (by decide) (by decide))) (show keep (cClrB 8 9 1 4 512 (((cClrB 6 7 0 3 64 (((sI 0 2 ((σ3.1 0 2) + (nI 1)) σ3).1 0 2) - (nI 60)) (sI 0 2 ((σ3.1 0 2) + (nI 1)) σ3)).1 0 2) - (nI 60)) (cClrB 6 7 0 3 64 (((sI 0 2 ((σ3.1 0 2) + (nI 1)) σ3).1 0 2) - (nI 60)) (sI 0 2 ((σ3.1 0 2) + (nI 1)) σ3))) (cTellA (cClrB 8 9 1 4 512 (((cClrB 6 7 0 3 64 (((sI 0 2 ((σ3.1 0 2) + (nI 1)) σ3).1 0 2) - (nI 60)) (sI 0 2 ((σ3.1 0 2) + (nI 1)) σ3)).1 0 2) - (nI 60)) (cClrB 6 7 0 3 64 (((sI 0 2 ((σ3.1 0 2) + (nI 1)) σ3).1 0 2) - (nI 60)) (sI 0 2 ((σ3.1 0 2) + (nI 1)) σ3)))) from cTellA_keep)) (show keep (cTellA (cClrB 8 9 1 4 512 (((cClrB 6 7 0 3 64 (((sI 0 2 ((σ3.1 0 2) + (nI 1)) σ3).1 0 2) - (nI 60)) (sI 0 2 ((σ3.1 0 2) + (nI 1)) σ3)).1 0 2) - (nI 60)) (cClrB 6 7 0 3 64 (((sI 0 2 ((σ3.1 0 2) + (nI 1)) σ3).1 0 2) - (nI 60)) (sI 0 2 ((σ3.1 0 2) + (nI 1)) σ3)))) (cArr (cTellA (cClrB 8 9 1 4 512 (((cClrB 6 7 0 3 64 (((sI 0 2 ((σ3.1 0 2) + (nI 1)) σ3).1 0 2) - (nI 60)) (sI 0 2 ((σ3.1 0 2) + (nI 1)) σ3)).1 0 2) - (nI 60)) (cClrB 6 7 0 3 64 (((sI 0 2 ((σ3.1 0 2) + (nI 1)) σ3).1 0 2) - (nI 60)) (sI 0 2 ((σ3.1 0 2) + (nI 1)) σ3))))) from cArr_keep))) hl.1 (Nat.le_of_ble_eq_true rfl) ⟨Nat.le_of_ble_eq_true rfl, Nat.le_of_ble_eq_true rfl⟩ dX2_tick_75 ⟨Nat.zero_le _, Nat.zero_le _⟩ (fun H locs hP hD hS => ?_)
          refine lv_iinc (v := (nI (i3 + 1))) (lv' := [(2, .int (nI (i3 + 1))), (0, .ref (a 0)), (1, .int (nI (x1)))]) S.1 S.2.1 dX2_tick_78 hl (k := 0) rfl (nI_add _ 1) (by decide) rfl (fun ls hl => ?_)
          refine lv_goto (tgt := 23) S.1 S.2.1 dX2_tick_81 (by decide) ?_
          exact ih3 (i3 + 1) (cMove P (cArr (cTellA (cClrB 8 9 1 4 512 (((cClrB 6 7 0 3 64 (((sI 0 2 ((σ3.1 0 2) + (nI 1)) σ3).1 0 2) - (nI 60)) (sI 0 2 ((σ3.1 0 2) + (nI 1)) σ3)).1 0 2) - (nI 60)) (cClrB 6 7 0 3 64 (((sI 0 2 ((σ3.1 0 2) + (nI 1)) σ3).1 0 2) - (nI 60)) (sI 0 2 ((σ3.1 0 2) + (nI 1)) σ3)))))) (by omega) (itr_step he3 (by first | (simp only [fTkC, tk3, tk2, tk1, c1, c2, nI_clamp (show x1 < 2 ^ 31 by omega), reduceIte, Bool.false_eq_true, eq_self_iff_true, if_true, if_false]; done) | with_reducible rfl | (exfalso; omega))) (by have h9 : cI P ((fTkC P) i3 σ3) := fTkC_I i3 hv3; have e8 : (fTkC P) i3 σ3 = cMove P (cArr (cTellA (cClrB 8 9 1 4 512 (((cClrB 6 7 0 3 64 (((sI 0 2 ((σ3.1 0 2) + (nI 1)) σ3).1 0 2) - (nI 60)) (sI 0 2 ((σ3.1 0 2) + (nI 1)) σ3)).1 0 2) - (nI 60)) (cClrB 6 7 0 3 64 (((sI 0 2 ((σ3.1 0 2) + (nI 1)) σ3).1 0 2) - (nI 60)) (sI 0 2 ((σ3.1 0 2) + (nI 1)) σ3))))) := (by first | (simp only [fTkC, tk3, tk2, tk1, c1, c2, nI_clamp (show x1 < 2 ^ 31 by omega), reduceIte, Bool.false_eq_true, eq_self_iff_true, if_true, if_false]; done) | with_reducible rfl | (exfalso; omega)); rw [e8] at h9; exact h9) _ _ hP hD hS _ (lv_sub hl [0, 1, 2] rfl)
      exact lp3 x1 0 σ (by omega) rfl (show cI P σ from hI) _ _ hP hD hS _ (lv_sub hl [0, 1, 2] rfl)
    · have e8 : tickC x = 1 := by first | (simp only [tickC, c1, c2, reduceIte, Bool.false_eq_true, eq_self_iff_true, if_true, if_false]; done) | with_reducible rfl | (exfalso; omega)
      exact kthrowA (is := 116) (text := "1 to 50 ticks at once") S hst9 hlk hNA hU hstr (by decide) hex hP hD hS e8 hl.1 (Nat.le_of_ble_eq_true rfl) (Nat.le_of_ble_eq_true rfl) (Nat.le_of_ble_eq_true rfl) (Nat.le_of_ble_eq_true rfl) (Nat.le_of_ble_eq_true rfl) (Nat.le_of_ble_eq_true rfl) dX2_tick_11 dX2_tick_14 dX2_tick_15 dX2_tick_17 dX2_tick_20
set_option maxHeartbeats 400000 in
set_option maxRecDepth 100000 in
theorem c_X2_packet (l : Launch) (D : va_G) (cy : Nat → ClassId) (a : Nat → Nat) (X : va_W) (P : Nat) (σ : CS) (x : Int32) (z : Int32) (hI : cI P σ) : MetI l yX2_packet cX2_packet 4 .int (kRm 1 0 0) D (tyA cy) nestC [.ref (a 0), .int (x), .int (z)] (cW X cy a P σ) (cW X cy a P σ) (cPkt P x z σ) 0 0 := by
  intro sz
  refine kmet (own := RX2) (by decide) rfl (Nat.le_of_ble_eq_true rfl) (fun p e s m args below meth c S hr hlk hK hN hP hD hsz hA hnm ls hl => ?_)
  have hS : va_S (va_A (cW X cy a P σ) sz) s.heap s.heap [] := va_S.rf
  have hl : lv_has ls 4 [(0, .ref (a 0)), (1, .int (x)), (2, .int (z))] := hl
  have hPn : P ≤ 20 := hI.1
  refine lv_iload_n S.1 S.2.1 dX2_packet_0 rfl (lv_at hl 1 rfl) ?_
  refine lv_if_lt (tgt := 12) S.1 S.2.1 dX2_packet_1 (by decide) (fun c1 => ?_) (fun c1 => ?_)
  · refine lv_iconst (v := (-1)) S.1 S.2.1 dX2_packet_12 (by decide) ?_
    exact kret_i S hr hlk hP hD hS (by first | (simp only [cPkt, cPktB, c1, reduceIte, Bool.false_eq_true, eq_self_iff_true, if_true, if_false]; done) | with_reducible rfl | (exfalso; omega)) dX2_packet_13
  · refine lv_iload_n S.1 S.2.1 dX2_packet_4 rfl (lv_at hl 1 rfl) ?_
    refine lv_aload_n S.1 S.2.1 dX2_packet_5 rfl (lv_at hl 0 rfl) ?_
    refine cf_net_packetCount S hK hP dX2_packet_6 ?_
    refine k_top (show σ.1 0 1 = nI P from (hI).2.1) ?_
    refine lv_icmp_lt (tgt := 14) S.1 S.2.1 dX2_packet_9 (by decide) (fun c2 => ?_) (fun c2 => ?_)
    · obtain ⟨x1, hx1, rfl⟩ := px_of hI.1 c1 c2
      refine lv_aload_n S.1 S.2.1 dX2_packet_14 rfl (lv_at hl 0 rfl) ?_
      refine cf_net_packets S hK hP dX2_packet_15 ?_
      refine lv_iload_n S.1 S.2.1 dX2_packet_18 rfl (lv_at hl 1 rfl) ?_
      refine pa_ld S hK hP (r := x1) (by omega) (by omega) dX2_packet_19 ?_
      refine lv_astore_n (lv' := [(3, .ref (a (17 + 2 * x1))), (0, .ref (a 0)), (1, .int (nI (x1))), (2, .int (z))]) S.1 S.2.1 dX2_packet_20 rfl hl (by decide) rfl (fun ls hl => ?_)
      refine lv_aload_n S.1 S.2.1 dX2_packet_21 rfl (lv_at hl 0 rfl) ?_
      refine lv_ifnonnull (tgt := 27) S.1 S.2.1 dX2_packet_22 (by decide) ?_
      refine lv_iload_n S.1 S.2.1 dX2_packet_27 rfl (lv_at hl 3 rfl) ?_
      rcases sw02 z with c4 | ⟨c4a, c4⟩ | ⟨c4a, c4b, c4⟩ | ⟨c4a, c4b, c4c, c4⟩
      · refine lv_tableIn (tgt := 56) S.1 S.2.1 dX2_packet_28 (by rw [c4]; decide) (by rw [c4]; decide) (by rw [c4]; rfl) (by decide) ?_
        refine lv_aload_n S.1 S.2.1 dX2_packet_56 rfl (lv_at hl 0 rfl) ?_
        refine pn_state S hK hN hP (r := x1) (by omega) dX2_packet_57 ?_
        exact kret_i S hr hlk hP hD hS (by first | (simp only [cPkt, cPktB, c1, c2, nI_clamp (show x1 < 2 ^ 31 by omega), eq_true c4, reduceIte, Bool.false_eq_true, eq_self_iff_true, if_true, if_false]; done) | with_reducible rfl | (exfalso; omega)) dX2_packet_60
      · refine lv_tableIn (tgt := 61) S.1 S.2.1 dX2_packet_28 (by rw [c4]; decide) (by rw [c4]; decide) (by rw [c4]; rfl) (by decide) ?_
        refine lv_aload_n S.1 S.2.1 dX2_packet_61 rfl (lv_at hl 0 rfl) ?_
        refine pn_life S hK hN hP (r := x1) (by omega) dX2_packet_62 ?_
        exact kret_i S hr hlk hP hD hS (by first | (simp only [cPkt, cPktB, c1, c2, nI_clamp (show x1 < 2 ^ 31 by omega), c4a, eq_true c4, reduceIte, Bool.false_eq_true, eq_self_iff_true, if_true, if_false]; done) | with_reducible rfl | (exfalso; omega)) dX2_packet_65
      · refine lv_tableIn (tgt := 66) S.1 S.2.1 dX2_packet_28 (by rw [c4]; decide) (by rw [c4]; decide) (by rw [c4]; rfl) (by decide) ?_
        refine lv_aload_n S.1 S.2.1 dX2_packet_66 rfl (lv_at hl 0 rfl) ?_
        refine pn_traceLength S hK hN hP (r := x1) (by omega) dX2_packet_67 ?_
        exact kret_i S hr hlk hP hD hS (by first | (simp only [cPkt, cPktB, c1, c2, nI_clamp (show x1 < 2 ^ 31 by omega), c4a, c4b, eq_true c4, reduceIte, Bool.false_eq_true, eq_self_iff_true, if_true, if_false]; done) | with_reducible rfl | (exfalso; omega)) dX2_packet_70
      · refine lv_tableOut (tgt := 71) S.1 S.2.1 dX2_packet_28 c4 (by decide) ?_
        refine lv_iload_n S.1 S.2.1 dX2_packet_71 rfl (lv_at hl 3 rfl) ?_
        refine lv_bipush (v := (nI 10)) S.1 S.2.1 dX2_packet_72 (by decide) ?_
        refine lv_icmp_lt (tgt := 100) S.1 S.2.1 dX2_packet_74 (by decide) (fun c5 => ?_) (fun c5 => ?_)
        · refine lv_iconst (v := (-1)) S.1 S.2.1 dX2_packet_100 (by decide) ?_
          exact kret_i S hr hlk hP hD hS (by first | (simp only [cPkt, cPktB, c1, c2, nI_clamp (show x1 < 2 ^ 31 by omega), c4a, c4b, c4c, c5, reduceIte, Bool.false_eq_true, eq_self_iff_true, if_true, if_false]; done) | with_reducible rfl | (exfalso; omega)) dX2_packet_101
        · refine lv_iload_n S.1 S.2.1 dX2_packet_77 rfl (lv_at hl 3 rfl) ?_
          refine lv_bipush (v := (nI 10)) S.1 S.2.1 dX2_packet_78 (by decide) ?_
          refine lv_isub S.1 S.2.1 dX2_packet_80 ?_
          refine lv_aload_n S.1 S.2.1 dX2_packet_81 rfl (lv_at hl 0 rfl) ?_
          refine pn_traceLength S hK hN hP (r := x1) (by omega) dX2_packet_82 ?_
          refine lv_icmp_ge (tgt := 100) S.1 S.2.1 dX2_packet_85 (by decide) (fun c6 => ?_) (fun c6 => ?_)
          · refine lv_iconst (v := (-1)) S.1 S.2.1 dX2_packet_100 (by decide) ?_
            exact kret_i S hr hlk hP hD hS (by first | (simp only [cPkt, cPktB, c1, c2, nI_clamp (show x1 < 2 ^ 31 by omega), c4a, c4b, c4c, c5, c6, reduceIte, Bool.false_eq_true, eq_self_iff_true, if_true, if_false]; done) | with_reducible rfl | (exfalso; omega)) dX2_packet_101
          · obtain ⟨g9, n9, -, hn9, -, htc9, -⟩ := hI.2.2 x1 hx1
            obtain ⟨t1, ht1, rfl⟩ := pk_z (n := n9) (by omega) htc9 c5 c6
            refine lv_aload_n S.1 S.2.1 dX2_packet_88 rfl (lv_at hl 0 rfl) ?_
            refine pn_trace S hK hN hP (r := x1) (by omega) dX2_packet_89 ?_
            refine lv_iload_n S.1 S.2.1 dX2_packet_92 rfl (lv_at hl 3 rfl) ?_
            refine lv_bipush (v := (nI 10)) S.1 S.2.1 dX2_packet_93 (by decide) ?_
            refine lv_isub S.1 S.2.1 dX2_packet_95 ?_
            refine k_top (pk_sub (by omega)) ?_
            refine pt_ld S hK hP (r := x1) (by omega) (j := ((10 + t1) - 10)) (by omega) dX2_packet_96 ?_
            refine lv_goto (tgt := 101) S.1 S.2.1 dX2_packet_97 (by decide) ?_
            exact kret_i S hr hlk hP hD hS (by first | (simp only [cPkt, cPktB, c1, c2, nI_clamp (show x1 < 2 ^ 31 by omega), c4a, c4b, c4c, c5, c6, nI_clamp (show 10 + t1 < 2 ^ 31 by omega), reduceIte, Bool.false_eq_true, eq_self_iff_true, if_true, if_false]; done) | with_reducible rfl | (exfalso; omega)) dX2_packet_101
    · refine lv_iconst (v := (-1)) S.1 S.2.1 dX2_packet_12 (by decide) ?_
      exact kret_i S hr hlk hP hD hS (by first | (simp only [cPkt, cPktB, c1, c2, reduceIte, Bool.false_eq_true, eq_self_iff_true, if_true, if_false]; done) | with_reducible rfl | (exfalso; omega)) dX2_packet_13
