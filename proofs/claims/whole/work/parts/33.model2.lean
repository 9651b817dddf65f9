set_option maxHeartbeats 400000 in
set_option maxRecDepth 100000 in
theorem c_X3_link (l : Launch) (D : va_G) (cy : Nat → ClassId) (a : Nat → Nat) (X : va_W) (τ : MS) (x : Int32) (y : Int32) (z : Int32) (w : Int32)  : MetI l yX3_link cX3_link 6 .int (kRm 4 0 0) D (tyA cy) [] [.ref (a 0), .int (x), .int (y), .int (z), .int (w)] (X ++ mB cy a τ) (X ++ mB cy a (mLink x y z w τ)) (mLinkR x y z w τ) 0 0 := by
  intro sz
  refine kmet (own := RX3) (by decide) rfl (Nat.le_of_ble_eq_true rfl) (fun p e s m args below meth c S hr hlk hK hN hP hD hsz hA hnm ls hl => ?_)
  have hS : va_S (va_A (X ++ mB cy a τ) sz) s.heap s.heap [] := va_S.rf
  have hl : lv_has ls 6 [(0, .ref (a 0)), (1, .int (x)), (2, .int (y)), (3, .int (z)), (4, .int (w))] := hl
  refine lv_iload_n S.1 S.2.1 dX3_link_0 rfl (lv_at hl 1 rfl) ?_
  refine call_X3_isNode S hK hN hP hD hS hA (x := x)  hl.1 (Nat.le_of_ble_eq_true rfl) ⟨Nat.le_of_ble_eq_true rfl, Nat.le_of_ble_eq_true rfl⟩ dX3_link_1 ⟨Nat.le_refl _, Nat.le_refl _⟩ (fun H locs hP hD hS => ?_)
  refine kb_eq (tgt := 44) S dX3_link_4 (by decide) (fun c1 => ?_) (fun c1 => ?_)
  · refine lv_iconst (v := (nI 0)) S.1 S.2.1 dX3_link_44 (by decide) ?_
    refine lv_istore (lv' := [(5, .int (nI 0)), (0, .ref (a 0)), (1, .int (x)), (2, .int (y)), (3, .int (z)), (4, .int (w))]) S.1 S.2.1 dX3_link_45 hl (by decide) rfl (fun ls hl => ?_)
    refine lv_aload_n S.1 S.2.1 dX3_link_47 rfl (lv_at hl 1 rfl) ?_
    refine lv_iload S.1 S.2.1 dX3_link_48 (lv_at hl 0 rfl) ?_
    refine lv_iload S.1 S.2.1 dX3_link_50 (lv_at hl 0 rfl) ?_
    refine lv_if_eq (tgt := 82) S.1 S.2.1 dX3_link_52 (by decide) (fun _ => ?_) (fun c2 => absurd (by decide) c2)
    refine lv_iconst (v := (nI 0)) S.1 S.2.1 dX3_link_82 (by decide) ?_
    refine call_X3_goes_f S hK hN hP hD hS hA (q := false)  hl.1 (Nat.le_of_ble_eq_true rfl) ⟨Nat.le_of_ble_eq_true rfl, Nat.le_of_ble_eq_true rfl⟩ dX3_link_83 ⟨Nat.le_refl _, Nat.le_refl _⟩ (fun H locs hP hD hS => ?_)
    refine kb_ne (tgt := 91) S dX3_link_86 (by decide) (fun c3 => absurd c3 (by decide)) (fun _ => ?_)
    refine lv_iconst (v := (nI 0)) S.1 S.2.1 dX3_link_89 (by decide) ?_
    have e9 : mLink x y z w τ = mGoes false false τ := by first | (simp only [mLink, mLinkG, mLinkB, mL1, c1, reduceIte, Bool.false_eq_true, eq_self_iff_true, if_true, if_false]; done) | with_reducible rfl | (exfalso; omega)
    rw [e9]
    exact kret_i S hr hlk hP hD hS (by first | (simp only [mLinkR, mLink, mLinkG, mLinkB, mL1, c1, reduceIte, Bool.false_eq_true, eq_self_iff_true, if_true, if_false]; done) | with_reducible rfl | (exfalso; omega)) dX3_link_90
  · obtain ⟨x1, hx1, rfl⟩ := isN_of c1
    refine lv_iload_n S.1 S.2.1 dX3_link_7 rfl (lv_at hl 2 rfl) ?_
    refine call_X3_isNode S hK hN hP hD hS hA (x := y)  hl.1 (Nat.le_of_ble_eq_true rfl) ⟨Nat.le_of_ble_eq_true rfl, Nat.le_of_ble_eq_true rfl⟩ dX3_link_8 ⟨Nat.le_refl _, Nat.le_refl _⟩ (fun H locs hP hD hS => ?_)
    refine kb_eq (tgt := 44) S dX3_link_11 (by decide) (fun c4 => ?_) (fun c4 => ?_)
    · refine lv_iconst (v := (nI 0)) S.1 S.2.1 dX3_link_44 (by decide) ?_
      refine lv_istore (lv' := [(5, .int (nI 0)), (0, .ref (a 0)), (1, .int (nI (x1))), (2, .int (y)), (3, .int (z)), (4, .int (w))]) S.1 S.2.1 dX3_link_45 hl (by decide) rfl (fun ls hl => ?_)
      refine lv_aload_n S.1 S.2.1 dX3_link_47 rfl (lv_at hl 1 rfl) ?_
      refine lv_iload S.1 S.2.1 dX3_link_48 (lv_at hl 0 rfl) ?_
      refine lv_iload S.1 S.2.1 dX3_link_50 (lv_at hl 0 rfl) ?_
      refine lv_if_eq (tgt := 82) S.1 S.2.1 dX3_link_52 (by decide) (fun _ => ?_) (fun c5 => absurd (by decide) c5)
      refine lv_iconst (v := (nI 0)) S.1 S.2.1 dX3_link_82 (by decide) ?_
      refine call_X3_goes_f S hK hN hP hD hS hA (q := false)  hl.1 (Nat.le_of_ble_eq_true rfl) ⟨Nat.le_of_ble_eq_true rfl, Nat.le_of_ble_eq_true rfl⟩ dX3_link_83 ⟨Nat.le_refl _, Nat.le_refl _⟩ (fun H locs hP hD hS => ?_)
      refine kb_ne (tgt := 91) S dX3_link_86 (by decide) (fun c6 => absurd c6 (by decide)) (fun _ => ?_)
      refine lv_iconst (v := (nI 0)) S.1 S.2.1 dX3_link_89 (by decide) ?_
      have e9 : mLink (nI x1) y z w τ = mGoes false false τ := by first | (simp only [mLink, mLinkG, mLinkB, mL1, c1, cl8 hx1, c4, reduceIte, Bool.false_eq_true, eq_self_iff_true, if_true, if_false]; done) | with_reducible rfl | (exfalso; omega)
      rw [e9]
      exact kret_i S hr hlk hP hD hS (by first | (simp only [mLinkR, mLink, mLinkG, mLinkB, mL1, c1, cl8 hx1, c4, reduceIte, Bool.false_eq_true, eq_self_iff_true, if_true, if_false]; done) | with_reducible rfl | (exfalso; omega)) dX3_link_90
    · obtain ⟨y1, hy1, rfl⟩ := isN_of c4
      refine lv_iload_n S.1 S.2.1 dX3_link_14 rfl (lv_at hl 1 rfl) ?_
      refine lv_iload_n S.1 S.2.1 dX3_link_15 rfl (lv_at hl 2 rfl) ?_
      refine lv_icmp_eq (tgt := 44) S.1 S.2.1 dX3_link_16 (by decide) (fun c7 => ?_) (fun c7 => ?_)
      · have c7 : x1 = y1 := (nI_eq (a := x1) (b := y1) (by omega) (by omega)).mp c7
        refine lv_iconst (v := (nI 0)) S.1 S.2.1 dX3_link_44 (by decide) ?_
        refine lv_istore (lv' := [(5, .int (nI 0)), (0, .ref (a 0)), (1, .int (nI (x1))), (2, .int (nI (y1))), (3, .int (z)), (4, .int (w))]) S.1 S.2.1 dX3_link_45 hl (by decide) rfl (fun ls hl => ?_)
        refine lv_aload_n S.1 S.2.1 dX3_link_47 rfl (lv_at hl 1 rfl) ?_
        refine lv_iload S.1 S.2.1 dX3_link_48 (lv_at hl 0 rfl) ?_
        refine lv_iload S.1 S.2.1 dX3_link_50 (lv_at hl 0 rfl) ?_
        refine lv_if_eq (tgt := 82) S.1 S.2.1 dX3_link_52 (by decide) (fun _ => ?_) (fun c8 => absurd (by decide) c8)
        refine lv_iconst (v := (nI 0)) S.1 S.2.1 dX3_link_82 (by decide) ?_
        refine call_X3_goes_f S hK hN hP hD hS hA (q := false)  hl.1 (Nat.le_of_ble_eq_true rfl) ⟨Nat.le_of_ble_eq_true rfl, Nat.le_of_ble_eq_true rfl⟩ dX3_link_83 ⟨Nat.le_refl _, Nat.le_refl _⟩ (fun H locs hP hD hS => ?_)
        refine kb_ne (tgt := 91) S dX3_link_86 (by decide) (fun c9 => absurd c9 (by decide)) (fun _ => ?_)
        refine lv_iconst (v := (nI 0)) S.1 S.2.1 dX3_link_89 (by decide) ?_
        have e9 : mLink (nI x1) (nI y1) z w τ = mGoes false false τ := by first | (simp only [mLink, mLinkG, mLinkB, mL1, c1, cl8 hx1, c4, cl8 hy1, eq_true c7, reduceIte, Bool.false_eq_true, eq_self_iff_true, if_true, if_false]; done) | with_reducible rfl | (exfalso; omega)
        rw [e9]
        exact kret_i S hr hlk hP hD hS (by first | (simp only [mLinkR, mLink, mLinkG, mLinkB, mL1, c1, cl8 hx1, c4, cl8 hy1, eq_true c7, reduceIte, Bool.false_eq_true, eq_self_iff_true, if_true, if_false]; done) | with_reducible rfl | (exfalso; omega)) dX3_link_90
      · have c7 : ¬ x1 = y1 := fun h => c7 ((nI_eq (a := x1) (b := y1) (by omega) (by omega)).mpr h)
        refine lv_iload_n S.1 S.2.1 dX3_link_19 rfl (lv_at hl 3 rfl) ?_
        refine lv_iconst (v := (nI 1)) S.1 S.2.1 dX3_link_20 (by decide) ?_
        refine lv_bipush (v := (nI 50)) S.1 S.2.1 dX3_link_21 (by decide) ?_
        refine call_X3_in S hK hN hP hD hS hA (x := z) (y := nI 1) (z := nI 50)  hl.1 (Nat.le_of_ble_eq_true rfl) ⟨Nat.le_of_ble_eq_true rfl, Nat.le_of_ble_eq_true rfl⟩ dX3_link_23 ⟨Nat.le_refl _, Nat.le_refl _⟩ (fun H locs hP hD hS => ?_)
        refine kb_eq (tgt := 44) S dX3_link_26 (by decide) (fun c10 => ?_) (fun c10 => ?_)
        · refine lv_iconst (v := (nI 0)) S.1 S.2.1 dX3_link_44 (by decide) ?_
          refine lv_istore (lv' := [(5, .int (nI 0)), (0, .ref (a 0)), (1, .int (nI (x1))), (2, .int (nI (y1))), (3, .int (z)), (4, .int (w))]) S.1 S.2.1 dX3_link_45 hl (by decide) rfl (fun ls hl => ?_)
          refine lv_aload_n S.1 S.2.1 dX3_link_47 rfl (lv_at hl 1 rfl) ?_
          refine lv_iload S.1 S.2.1 dX3_link_48 (lv_at hl 0 rfl) ?_
          refine lv_iload S.1 S.2.1 dX3_link_50 (lv_at hl 0 rfl) ?_
          refine lv_if_eq (tgt := 82) S.1 S.2.1 dX3_link_52 (by decide) (fun _ => ?_) (fun c11 => absurd (by decide) c11)
          refine lv_iconst (v := (nI 0)) S.1 S.2.1 dX3_link_82 (by decide) ?_
          refine call_X3_goes_f S hK hN hP hD hS hA (q := false)  hl.1 (Nat.le_of_ble_eq_true rfl) ⟨Nat.le_of_ble_eq_true rfl, Nat.le_of_ble_eq_true rfl⟩ dX3_link_83 ⟨Nat.le_refl _, Nat.le_refl _⟩ (fun H locs hP hD hS => ?_)
          refine kb_ne (tgt := 91) S dX3_link_86 (by decide) (fun c12 => absurd c12 (by decide)) (fun _ => ?_)
          refine lv_iconst (v := (nI 0)) S.1 S.2.1 dX3_link_89 (by decide) ?_
          have e9 : mLink (nI x1) (nI y1) z w τ = mGoes false false τ := by first | (simp only [mLink, mLinkG, mLinkB, mL1, c1, cl8 hx1, c4, cl8 hy1, c7, c10, reduceIte, Bool.false_eq_true, eq_self_iff_true, if_true, if_false]; done) | with_reducible rfl | (exfalso; omega)
          rw [e9]
          exact kret_i S hr hlk hP hD hS (by first | (simp only [mLinkR, mLink, mLinkG, mLinkB, mL1, c1, cl8 hx1, c4, cl8 hy1, c7, c10, reduceIte, Bool.false_eq_true, eq_self_iff_true, if_true, if_false]; done) | with_reducible rfl | (exfalso; omega)) dX3_link_90
        · obtain ⟨z1, hza, hzb, rfl⟩ := inR_of (by decide) (by decide) c10
          refine lv_iload S.1 S.2.1 dX3_link_29 (lv_at hl 4 rfl) ?_
          refine lv_iconst (v := (nI 1)) S.1 S.2.1 dX3_link_31 (by decide) ?_
          refine lv_bipush (v := (nI 8)) S.1 S.2.1 dX3_link_32 (by decide) ?_
          refine call_X3_in S hK hN hP hD hS hA (x := w) (y := nI 1) (z := nI 8)  hl.1 (Nat.le_of_ble_eq_true rfl) ⟨Nat.le_of_ble_eq_true rfl, Nat.le_of_ble_eq_true rfl⟩ dX3_link_34 ⟨Nat.le_refl _, Nat.le_refl _⟩ (fun H locs hP hD hS => ?_)
          refine kb_eq (tgt := 44) S dX3_link_37 (by decide) (fun c13 => ?_) (fun c13 => ?_)
          · refine lv_iconst (v := (nI 0)) S.1 S.2.1 dX3_link_44 (by decide) ?_
            refine lv_istore (lv' := [(5, .int (nI 0)), (0, .ref (a 0)), (1, .int (nI (x1))), (2, .int (nI (y1))), (3, .int (nI (z1))), (4, .int (w))]) S.1 S.2.1 dX3_link_45 hl (by decide) rfl (fun ls hl => ?_)
            refine lv_aload_n S.1 S.2.1 dX3_link_47 rfl (lv_at hl 1 rfl) ?_
            refine lv_iload S.1 S.2.1 dX3_link_48 (lv_at hl 0 rfl) ?_
            refine lv_iload S.1 S.2.1 dX3_link_50 (lv_at hl 0 rfl) ?_
            refine lv_if_eq (tgt := 82) S.1 S.2.1 dX3_link_52 (by decide) (fun _ => ?_) (fun c14 => absurd (by decide) c14)
            refine lv_iconst (v := (nI 0)) S.1 S.2.1 dX3_link_82 (by decide) ?_
            refine call_X3_goes_f S hK hN hP hD hS hA (q := false)  hl.1 (Nat.le_of_ble_eq_true rfl) ⟨Nat.le_of_ble_eq_true rfl, Nat.le_of_ble_eq_true rfl⟩ dX3_link_83 ⟨Nat.le_refl _, Nat.le_refl _⟩ (fun H locs hP hD hS => ?_)
            refine kb_ne (tgt := 91) S dX3_link_86 (by decide) (fun c15 => absurd c15 (by decide)) (fun _ => ?_)
            refine lv_iconst (v := (nI 0)) S.1 S.2.1 dX3_link_89 (by decide) ?_
            have e9 : mLink (nI x1) (nI y1) (nI z1) w τ = mGoes false false τ := by first | (simp only [mLink, mLinkG, mLinkB, mL1, c1, cl8 hx1, c4, cl8 hy1, c7, c10, nI_clamp (show z1 < 2 ^ 31 by omega), c13, reduceIte, Bool.false_eq_true, eq_self_iff_true, if_true, if_false]; done) | with_reducible rfl | (exfalso; omega)
            rw [e9]
            exact kret_i S hr hlk hP hD hS (by first | (simp only [mLinkR, mLink, mLinkG, mLinkB, mL1, c1, cl8 hx1, c4, cl8 hy1, c7, c10, nI_clamp (show z1 < 2 ^ 31 by omega), c13, reduceIte, Bool.false_eq_true, eq_self_iff_true, if_true, if_false]; done) | with_reducible rfl | (exfalso; omega)) dX3_link_90
          · obtain ⟨w1, hwa, hwb, rfl⟩ := inR_of (by decide) (by decide) c13
            refine lv_iconst (v := (nI 1)) S.1 S.2.1 dX3_link_40 (by decide) ?_
            refine lv_goto (tgt := 45) S.1 S.2.1 dX3_link_41 (by decide) ?_
            refine lv_istore (lv' := [(5, .int (nI 1)), (0, .ref (a 0)), (1, .int (nI (x1))), (2, .int (nI (y1))), (3, .int (nI (z1))), (4, .int (nI (w1)))]) S.1 S.2.1 dX3_link_45 hl (by decide) rfl (fun ls hl => ?_)
            refine lv_aload_n S.1 S.2.1 dX3_link_47 rfl (lv_at hl 1 rfl) ?_
            refine lv_iload S.1 S.2.1 dX3_link_48 (lv_at hl 0 rfl) ?_
            refine lv_iload S.1 S.2.1 dX3_link_50 (lv_at hl 0 rfl) ?_
            refine lv_if_eq (tgt := 82) S.1 S.2.1 dX3_link_52 (by decide) (fun c16 => absurd c16 (by decide)) (fun _ => ?_)
            refine lv_aload_n S.1 S.2.1 dX3_link_55 rfl (lv_at hl 1 rfl) ?_
            refine mf_joined S hK hP dX3_link_56 ?_
            refine lv_bipush (v := (nI 8)) S.1 S.2.1 dX3_link_59 (by decide) ?_
            refine lv_iload_n S.1 S.2.1 dX3_link_61 rfl (lv_at hl 2 rfl) ?_
            refine lv_imul S.1 S.2.1 dX3_link_62 ?_
            refine k_top (pk_mul _ _) ?_
            refine lv_iload_n S.1 S.2.1 dX3_link_63 rfl (lv_at hl 3 rfl) ?_
            refine lv_iadd S.1 S.2.1 dX3_link_64 ?_
            refine k_top (nI_add _ _) ?_
            refine ma_joined S hK hP (j := ((8 * x1) + y1)) (by omega) dX3_link_65 ?_
            refine lv_if_ne (tgt := 82) S.1 S.2.1 dX3_link_66 (by decide) (fun c17 => ?_) (fun c17 => ?_)
            · refine lv_iconst (v := (nI 0)) S.1 S.2.1 dX3_link_82 (by decide) ?_
              refine call_X3_goes_f S hK hN hP hD hS hA (q := true)  hl.1 (Nat.le_of_ble_eq_true rfl) ⟨Nat.le_of_ble_eq_true rfl, Nat.le_of_ble_eq_true rfl⟩ dX3_link_83 ⟨Nat.le_refl _, Nat.le_refl _⟩ (fun H locs hP hD hS => ?_)
              refine kb_ne (tgt := 91) S dX3_link_86 (by decide) (fun c18 => absurd c18 (by decide)) (fun _ => ?_)
              refine lv_iconst (v := (nI 0)) S.1 S.2.1 dX3_link_89 (by decide) ?_
              have e9 : mLink (nI x1) (nI y1) (nI z1) (nI w1) τ = mGoes true false τ := by first | (simp only [mLink, mLinkG, mLinkB, mL1, c1, cl8 hx1, c4, cl8 hy1, c7, c10, nI_clamp (show z1 < 2 ^ 31 by omega), c13, nI_clamp (show w1 < 2 ^ 31 by omega), c17, reduceIte, Bool.false_eq_true, eq_self_iff_true, if_true, if_false]; done) | with_reducible rfl | (exfalso; omega)
              rw [e9]
              exact kret_i S hr hlk hP hD hS (by first | (simp only [mLinkR, mLink, mLinkG, mLinkB, mL1, c1, cl8 hx1, c4, cl8 hy1, c7, c10, nI_clamp (show z1 < 2 ^ 31 by omega), c13, nI_clamp (show w1 < 2 ^ 31 by omega), c17, reduceIte, Bool.false_eq_true, eq_self_iff_true, if_true, if_false]; done) | with_reducible rfl | (exfalso; omega)) dX3_link_90
            · refine lv_aload_n S.1 S.2.1 dX3_link_69 rfl (lv_at hl 1 rfl) ?_
              refine mf_links S hK hP dX3_link_70 ?_
              refine lv_bipush (v := (nI 12)) S.1 S.2.1 dX3_link_73 (by decide) ?_
              refine lv_icmp_ge (tgt := 82) S.1 S.2.1 dX3_link_75 (by decide) (fun c19 => ?_) (fun c19 => ?_)
              · refine lv_iconst (v := (nI 0)) S.1 S.2.1 dX3_link_82 (by decide) ?_
                refine call_X3_goes_f S hK hN hP hD hS hA (q := true)  hl.1 (Nat.le_of_ble_eq_true rfl) ⟨Nat.le_of_ble_eq_true rfl, Nat.le_of_ble_eq_true rfl⟩ dX3_link_83 ⟨Nat.le_refl _, Nat.le_refl _⟩ (fun H locs hP hD hS => ?_)
                refine kb_ne (tgt := 91) S dX3_link_86 (by decide) (fun c20 => absurd c20 (by decide)) (fun _ => ?_)
                refine lv_iconst (v := (nI 0)) S.1 S.2.1 dX3_link_89 (by decide) ?_
                have e9 : mLink (nI x1) (nI y1) (nI z1) (nI w1) τ = mGoes true false τ := by first | (simp only [mLink, mLinkG, mLinkB, mL1, c1, cl8 hx1, c4, cl8 hy1, c7, c10, nI_clamp (show z1 < 2 ^ 31 by omega), c13, nI_clamp (show w1 < 2 ^ 31 by omega), eq_true c17, c19, reduceIte, Bool.false_eq_true, eq_self_iff_true, if_true, if_false]; done) | with_reducible rfl | (exfalso; omega)
                rw [e9]
                exact kret_i S hr hlk hP hD hS (by first | (simp only [mLinkR, mLink, mLinkG, mLinkB, mL1, c1, cl8 hx1, c4, cl8 hy1, c7, c10, nI_clamp (show z1 < 2 ^ 31 by omega), c13, nI_clamp (show w1 < 2 ^ 31 by omega), eq_true c17, c19, reduceIte, Bool.false_eq_true, eq_self_iff_true, if_true, if_false]; done) | with_reducible rfl | (exfalso; omega)) dX3_link_90
              · refine lv_iconst (v := (nI 1)) S.1 S.2.1 dX3_link_78 (by decide) ?_
                refine lv_goto (tgt := 83) S.1 S.2.1 dX3_link_79 (by decide) ?_
                refine call_X3_goes_t S hK hN hP hD hS hA (q := true)  hl.1 (Nat.le_of_ble_eq_true rfl) ⟨Nat.le_of_ble_eq_true rfl, Nat.le_of_ble_eq_true rfl⟩ dX3_link_83 ⟨Nat.le_refl _, Nat.le_refl _⟩ (fun H locs hP hD hS => ?_)
                refine kb_ne (tgt := 91) S dX3_link_86 (by decide) (fun _ => ?_) (fun c21 => absurd c21 (by decide))
                refine lv_aload_n S.1 S.2.1 dX3_link_91 rfl (lv_at hl 1 rfl) ?_
                refine lv_dup S.1 S.2.1 dX3_link_92 rfl ?_
                refine mf_links S hK hP dX3_link_93 ?_
                refine lv_iconst (v := (nI 1)) S.1 S.2.1 dX3_link_96 (by decide) ?_
                refine lv_iadd S.1 S.2.1 dX3_link_97 ?_
                refine mp_links S hK hP hD hS dX3_link_98 (fun H locs hP hD hS => ?_)
                refine lv_aload_n S.1 S.2.1 dX3_link_101 rfl (lv_at hl 1 rfl) ?_
                refine mf_joined S hK hP dX3_link_102 ?_
                refine lv_bipush (v := (nI 8)) S.1 S.2.1 dX3_link_105 (by decide) ?_
                refine lv_iload_n S.1 S.2.1 dX3_link_107 rfl (lv_at hl 2 rfl) ?_
                refine lv_imul S.1 S.2.1 dX3_link_108 ?_
                refine k_top (pk_mul _ _) ?_
                refine lv_iload_n S.1 S.2.1 dX3_link_109 rfl (lv_at hl 3 rfl) ?_
                refine lv_iadd S.1 S.2.1 dX3_link_110 ?_
                refine k_top (nI_add _ _) ?_
                refine lv_iconst (v := (nI 1)) S.1 S.2.1 dX3_link_111 (by decide) ?_
                refine ms_joined S hK hP hD hS (j := ((8 * x1) + y1)) (by omega) (by decide) dX3_link_112 (fun H locs hP hD hS => ?_)
                refine lv_aload_n S.1 S.2.1 dX3_link_113 rfl (lv_at hl 1 rfl) ?_
                refine mf_joined S hK hP dX3_link_114 ?_
                refine lv_bipush (v := (nI 8)) S.1 S.2.1 dX3_link_117 (by decide) ?_
                refine lv_iload_n S.1 S.2.1 dX3_link_119 rfl (lv_at hl 3 rfl) ?_
                refine lv_imul S.1 S.2.1 dX3_link_120 ?_
                refine k_top (pk_mul _ _) ?_
                refine lv_iload_n S.1 S.2.1 dX3_link_121 rfl (lv_at hl 2 rfl) ?_
                refine lv_iadd S.1 S.2.1 dX3_link_122 ?_
                refine k_top (nI_add _ _) ?_
                refine lv_iconst (v := (nI 1)) S.1 S.2.1 dX3_link_123 (by decide) ?_
                refine ms_joined S hK hP hD hS (j := ((8 * y1) + x1)) (by omega) (by decide) dX3_link_124 (fun H locs hP hD hS => ?_)
                refine lv_aload_n S.1 S.2.1 dX3_link_125 rfl (lv_at hl 1 rfl) ?_
                refine mf_costs S hK hP dX3_link_126 ?_
                refine lv_bipush (v := (nI 8)) S.1 S.2.1 dX3_link_129 (by decide) ?_
                refine lv_iload_n S.1 S.2.1 dX3_link_131 rfl (lv_at hl 2 rfl) ?_
                refine lv_imul S.1 S.2.1 dX3_link_132 ?_
                refine k_top (pk_mul _ _) ?_
                refine lv_iload_n S.1 S.2.1 dX3_link_133 rfl (lv_at hl 3 rfl) ?_
                refine lv_iadd S.1 S.2.1 dX3_link_134 ?_
                refine k_top (nI_add _ _) ?_
                refine lv_iload_n S.1 S.2.1 dX3_link_135 rfl (lv_at hl 4 rfl) ?_
                refine ms_costs S hK hP hD hS (j := ((8 * x1) + y1)) (by omega) dX3_link_136 (fun H locs hP hD hS => ?_)
                refine lv_aload_n S.1 S.2.1 dX3_link_137 rfl (lv_at hl 1 rfl) ?_
                refine mf_costs S hK hP dX3_link_138 ?_
                refine lv_bipush (v := (nI 8)) S.1 S.2.1 dX3_link_141 (by decide) ?_
                refine lv_iload_n S.1 S.2.1 dX3_link_143 rfl (lv_at hl 3 rfl) ?_
                refine lv_imul S.1 S.2.1 dX3_link_144 ?_
                refine k_top (pk_mul _ _) ?_
                refine lv_iload_n S.1 S.2.1 dX3_link_145 rfl (lv_at hl 2 rfl) ?_
                refine lv_iadd S.1 S.2.1 dX3_link_146 ?_
                refine k_top (nI_add _ _) ?_
                refine lv_iload_n S.1 S.2.1 dX3_link_147 rfl (lv_at hl 4 rfl) ?_
                refine ms_costs S hK hP hD hS (j := ((8 * y1) + x1)) (by omega) dX3_link_148 (fun H locs hP hD hS => ?_)
                refine lv_aload_n S.1 S.2.1 dX3_link_149 rfl (lv_at hl 1 rfl) ?_
                refine mf_delays S hK hP dX3_link_150 ?_
                refine lv_bipush (v := (nI 8)) S.1 S.2.1 dX3_link_153 (by decide) ?_
                refine lv_iload_n S.1 S.2.1 dX3_link_155 rfl (lv_at hl 2 rfl) ?_
                refine lv_imul S.1 S.2.1 dX3_link_156 ?_
                refine k_top (pk_mul _ _) ?_
                refine lv_iload_n S.1 S.2.1 dX3_link_157 rfl (lv_at hl 3 rfl) ?_
                refine lv_iadd S.1 S.2.1 dX3_link_158 ?_
                refine k_top (nI_add _ _) ?_
                refine lv_iload S.1 S.2.1 dX3_link_159 (lv_at hl 5 rfl) ?_
                refine ms_delays S hK hP hD hS (j := ((8 * x1) + y1)) (by omega) dX3_link_161 (fun H locs hP hD hS => ?_)
                refine lv_aload_n S.1 S.2.1 dX3_link_162 rfl (lv_at hl 1 rfl) ?_
                refine mf_delays S hK hP dX3_link_163 ?_
                refine lv_bipush (v := (nI 8)) S.1 S.2.1 dX3_link_166 (by decide) ?_
                refine lv_iload_n S.1 S.2.1 dX3_link_168 rfl (lv_at hl 3 rfl) ?_
                refine lv_imul S.1 S.2.1 dX3_link_169 ?_
                refine k_top (pk_mul _ _) ?_
                refine lv_iload_n S.1 S.2.1 dX3_link_170 rfl (lv_at hl 2 rfl) ?_
                refine lv_iadd S.1 S.2.1 dX3_link_171 ?_
                refine k_top (nI_add _ _) ?_
                refine lv_iload S.1 S.2.1 dX3_link_172 (lv_at hl 5 rfl) ?_
                refine ms_delays S hK hP hD hS (j := ((8 * y1) + x1)) (by omega) dX3_link_174 (fun H locs hP hD hS => ?_)
                refine lv_aload_n S.1 S.2.1 dX3_link_175 rfl (lv_at hl 1 rfl) ?_
                refine lv_iload_n S.1 S.2.1 dX3_link_176 rfl (lv_at hl 2 rfl) ?_
                refine lv_iload_n S.1 S.2.1 dX3_link_177 rfl (lv_at hl 3 rfl) ?_
                refine call_X3_comeUp S hK hN hP hD hS hA (u := x1) (v := y1) (by omega) (by omega) hl.1 (Nat.le_of_ble_eq_true rfl) ⟨Nat.le_of_ble_eq_true rfl, Nat.le_of_ble_eq_true rfl⟩ dX3_link_178 ⟨Nat.le_refl _, Nat.le_refl _⟩ (fun H locs hP hD hS => ?_)
                refine lv_aload_n S.1 S.2.1 dX3_link_181 rfl (lv_at hl 1 rfl) ?_
                refine mf_links S hK hP dX3_link_182 ?_
                have e9 : mLink (nI x1) (nI y1) (nI z1) (nI w1) τ = mUp x1 y1 (mS 7 ((8 * y1) + x1) (nI (w1)) (mS 7 ((8 * x1) + y1) (nI (w1)) (mS 6 ((8 * y1) + x1) (nI (z1)) (mS 6 ((8 * x1) + y1) (nI (z1)) (mS 5 ((8 * y1) + x1) (nI 1) (mS 5 ((8 * x1) + y1) (nI 1) (mS 0 4 (((mGoes true true τ) 0 4) + (nI 1)) (mGoes true true τ)))))))) := by first | (simp only [mLink, mLinkG, mLinkB, mL1, c1, cl8 hx1, c4, cl8 hy1, c7, c10, nI_clamp (show z1 < 2 ^ 31 by omega), c13, nI_clamp (show w1 < 2 ^ 31 by omega), eq_true c17, c19, reduceIte, Bool.false_eq_true, eq_self_iff_true, if_true, if_false]; done) | with_reducible rfl | (exfalso; omega)
                rw [e9]
                exact kret_i S hr hlk hP hD hS (by first | (simp only [mLinkR, mLink, mLinkG, mLinkB, mL1, c1, cl8 hx1, c4, cl8 hy1, c7, c10, nI_clamp (show z1 < 2 ^ 31 by omega), c13, nI_clamp (show w1 < 2 ^ 31 by omega), eq_true c17, c19, reduceIte, Bool.false_eq_true, eq_self_iff_true, if_true, if_false]; done) | with_reducible rfl | (exfalso; omega)) dX3_link_185
set_option maxHeartbeats 400000 in
set_option maxRecDepth 100000 in
theorem c_X3_restore (l : Launch) (D : va_G) (cy : Nat → ClassId) (a : Nat → Nat) (X : va_W) (τ : MS) (x : Int32) (y : Int32)  : MetI l yX3_restore cX3_restore 3 .boolean (kRm 4 0 0) D (tyA cy) [] [.ref (a 0), .int (x), .int (y)] (X ++ mB cy a τ) (X ++ mB cy a (mRest x y τ)) (b2i (mRestR x y τ)) 0 0 := by
  intro sz
  refine kmet (own := RX3) (by decide) rfl (Nat.le_of_ble_eq_true rfl) (fun p e s m args below meth c S hr hlk hK hN hP hD hsz hA hnm ls hl => ?_)
  have hS : va_S (va_A (X ++ mB cy a τ) sz) s.heap s.heap [] := va_S.rf
  have hl : lv_has ls 3 [(0, .ref (a 0)), (1, .int (x)), (2, .int (y))] := hl
  refine lv_aload_n S.1 S.2.1 dX3_restore_0 rfl (lv_at hl 0 rfl) ?_
  refine lv_aload_n S.1 S.2.1 dX3_restore_1 rfl (lv_at hl 0 rfl) ?_
  refine lv_iload_n S.1 S.2.1 dX3_restore_2 rfl (lv_at hl 1 rfl) ?_
  refine lv_iload_n S.1 S.2.1 dX3_restore_3 rfl (lv_at hl 2 rfl) ?_
  refine call_X3_haveLink S hK hN hP hD hS hA (x := x) (y := y)  hl.1 (Nat.le_of_ble_eq_true rfl) ⟨Nat.le_of_ble_eq_true rfl, Nat.le_of_ble_eq_true rfl⟩ dX3_restore_4 ⟨Nat.le_refl _, Nat.le_refl _⟩ (fun H locs hP hD hS => ?_)
  refine lv_iconst (v := (nI 1)) S.1 S.2.1 dX3_restore_7 (by decide) ?_
  refine call_X3_goes_t S hK hN hP hD hS hA (q := mHas τ x y)  hl.1 (Nat.le_of_ble_eq_true rfl) ⟨Nat.le_of_ble_eq_true rfl, Nat.le_of_ble_eq_true rfl⟩ dX3_restore_8 ⟨Nat.le_refl _, Nat.le_refl _⟩ (fun H locs hP hD hS => ?_)
  refine kb_eq (tgt := 28) S dX3_restore_11 (by decide) (fun c1 => ?_) (fun c1 => ?_)
  · rw [c1] at hP hD
    refine lv_iconst (v := (nI 0)) S.1 S.2.1 dX3_restore_28 (by decide) ?_
    have e9 : mRest x y τ = mGoes false true τ := by first | (simp only [mRest, c1, reduceIte, Bool.false_eq_true, eq_self_iff_true, if_true, if_false]; done) | with_reducible rfl | (exfalso; omega)
    rw [e9]
    exact kret_z S hr hlk hP hD hS (by first | rfl | exact b2i_nar _) (by rw [show mRestR x y τ = false from (by first | (simp only [mRestR, c1, reduceIte, Bool.false_eq_true, eq_self_iff_true, if_true, if_false]; done) | with_reducible rfl | (exfalso; omega))]; decide) dX3_restore_29
  · rw [c1] at hP hD
    obtain ⟨x1, hx1, y1, hy1, rfl, rfl, hc_c1⟩ := mHas_of c1
    refine lv_aload_n S.1 S.2.1 dX3_restore_14 rfl (lv_at hl 0 rfl) ?_
    refine mf_up S hK hP dX3_restore_15 ?_
    refine lv_bipush (v := (nI 8)) S.1 S.2.1 dX3_restore_18 (by decide) ?_
    refine lv_iload_n S.1 S.2.1 dX3_restore_20 rfl (lv_at hl 1 rfl) ?_
    refine lv_imul S.1 S.2.1 dX3_restore_21 ?_
    refine k_top (pk_mul _ _) ?_
    refine lv_iload_n S.1 S.2.1 dX3_restore_22 rfl (lv_at hl 2 rfl) ?_
    refine lv_iadd S.1 S.2.1 dX3_restore_23 ?_
    refine k_top (nI_add _ _) ?_
    refine ma_up S hK hP (j := ((8 * x1) + y1)) (by omega) dX3_restore_24 ?_
    refine lv_if_eq (tgt := 30) S.1 S.2.1 dX3_restore_25 (by decide) (fun c2 => ?_) (fun c2 => ?_)
    · refine lv_aload_n S.1 S.2.1 dX3_restore_30 rfl (lv_at hl 0 rfl) ?_
      refine lv_iload_n S.1 S.2.1 dX3_restore_31 rfl (lv_at hl 1 rfl) ?_
      refine lv_iload_n S.1 S.2.1 dX3_restore_32 rfl (lv_at hl 2 rfl) ?_
      refine call_X3_comeUp S hK hN hP hD hS hA (u := x1) (v := y1) (by omega) (by omega) hl.1 (Nat.le_of_ble_eq_true rfl) ⟨Nat.le_of_ble_eq_true rfl, Nat.le_of_ble_eq_true rfl⟩ dX3_restore_33 ⟨Nat.le_refl _, Nat.le_refl _⟩ (fun H locs hP hD hS => ?_)
      refine lv_iconst (v := (nI 1)) S.1 S.2.1 dX3_restore_36 (by decide) ?_
      have e9 : mRest (nI x1) (nI y1) τ = mUp x1 y1 (mGoes true true τ) := by first | (simp only [mRest, c1, cl8 hx1, cl8 hy1, eq_true c2, reduceIte, Bool.false_eq_true, eq_self_iff_true, if_true, if_false]; done) | with_reducible rfl | (exfalso; omega)
      rw [e9]
      exact kret_z S hr hlk hP hD hS (by first | rfl | exact b2i_nar _) (by rw [show mRestR (nI x1) (nI y1) τ = true from (by first | (simp only [mRestR, c1, cl8 hx1, cl8 hy1, eq_true c2, reduceIte, Bool.false_eq_true, eq_self_iff_true, if_true, if_false]; done) | with_reducible rfl | (exfalso; omega))]; decide) dX3_restore_37
    · refine lv_iconst (v := (nI 0)) S.1 S.2.1 dX3_restore_28 (by decide) ?_
      have e9 : mRest (nI x1) (nI y1) τ = mGoes true true τ := by first | (simp only [mRest, c1, cl8 hx1, cl8 hy1, c2, reduceIte, Bool.false_eq_true, eq_self_iff_true, if_true, if_false]; done) | with_reducible rfl | (exfalso; omega)
      rw [e9]
      exact kret_z S hr hlk hP hD hS (by first | rfl | exact b2i_nar _) (by rw [show mRestR (nI x1) (nI y1) τ = false from (by first | (simp only [mRestR, c1, cl8 hx1, cl8 hy1, c2, reduceIte, Bool.false_eq_true, eq_self_iff_true, if_true, if_false]; done) | with_reducible rfl | (exfalso; omega))]; decide) dX3_restore_29
set_option maxHeartbeats 400000 in
set_option maxRecDepth 100000 in
theorem c_X3_start (l : Launch) (D : va_G) (cy : Nat → ClassId) (a : Nat → Nat) (X : va_W) (τ : MS) (x : Int32)  : MetI l yX3_start cX3_start 3 .boolean (kRm 3 0 0) D (tyA cy) [] [.ref (a 0), .int (x)] (X ++ mB cy a τ) (X ++ mB cy a (mStart x τ)) (b2i (mStartR x τ)) 0 0 := by
  intro sz
  refine kmet (own := RX3) (by decide) rfl (Nat.le_of_ble_eq_true rfl) (fun p e s m args below meth c S hr hlk hK hN hP hD hsz hA hnm ls hl => ?_)
  have hS : va_S (va_A (X ++ mB cy a τ) sz) s.heap s.heap [] := va_S.rf
  have hl : lv_has ls 3 [(0, .ref (a 0)), (1, .int (x))] := hl
  refine lv_aload_n S.1 S.2.1 dX3_start_0 rfl (lv_at hl 0 rfl) ?_
  refine lv_iload_n S.1 S.2.1 dX3_start_1 rfl (lv_at hl 1 rfl) ?_
  refine call_X3_isNode S hK hN hP hD hS hA (x := x)  hl.1 (Nat.le_of_ble_eq_true rfl) ⟨Nat.le_of_ble_eq_true rfl, Nat.le_of_ble_eq_true rfl⟩ dX3_start_2 ⟨Nat.le_refl _, Nat.le_refl _⟩ (fun H locs hP hD hS => ?_)
  refine lv_iconst (v := (nI 1)) S.1 S.2.1 dX3_start_5 (by decide) ?_
  refine call_X3_goes_t S hK hN hP hD hS hA (q := isN x)  hl.1 (Nat.le_of_ble_eq_true rfl) ⟨Nat.le_of_ble_eq_true rfl, Nat.le_of_ble_eq_true rfl⟩ dX3_start_6 ⟨Nat.le_refl _, Nat.le_refl _⟩ (fun H locs hP hD hS => ?_)
  refine kb_eq (tgt := 21) S dX3_start_9 (by decide) (fun c1 => ?_) (fun c1 => ?_)
  · rw [c1] at hP hD
    refine lv_iconst (v := (nI 0)) S.1 S.2.1 dX3_start_21 (by decide) ?_
    have e9 : mStart x τ = mGoes false true τ := by first | (simp only [mStart, mStB, mSt0, c1, reduceIte, Bool.false_eq_true, eq_self_iff_true, if_true, if_false]; done) | with_reducible rfl | (exfalso; omega)
    rw [e9]
    exact kret_z S hr hlk hP hD hS (by first | rfl | exact b2i_nar _) (by rw [show mStartR x τ = false from (by first | (simp only [mStartR, c1, reduceIte, Bool.false_eq_true, eq_self_iff_true, if_true, if_false]; done) | with_reducible rfl | (exfalso; omega))]; decide) dX3_start_22
  · rw [c1] at hP hD
    obtain ⟨x1, hx1, rfl⟩ := isN_of c1
    refine lv_aload_n S.1 S.2.1 dX3_start_12 rfl (lv_at hl 0 rfl) ?_
    refine mf_there S hK hP dX3_start_13 ?_
    refine lv_iload_n S.1 S.2.1 dX3_start_16 rfl (lv_at hl 1 rfl) ?_
    refine ma_there S hK hP (j := x1) (by omega) dX3_start_17 ?_
    refine lv_if_eq (tgt := 23) S.1 S.2.1 dX3_start_18 (by decide) (fun c2 => ?_) (fun c2 => ?_)
    · refine lv_aload_n S.1 S.2.1 dX3_start_23 rfl (lv_at hl 0 rfl) ?_
      refine lv_iload_n S.1 S.2.1 dX3_start_24 rfl (lv_at hl 1 rfl) ?_
      refine call_X3_forget S hK hN hP hD hS hA (u := x1) (by omega) hl.1 (Nat.le_of_ble_eq_true rfl) ⟨Nat.le_of_ble_eq_true rfl, Nat.le_of_ble_eq_true rfl⟩ dX3_start_25 ⟨Nat.le_refl _, Nat.le_refl _⟩ (fun H locs hP hD hS => ?_)
      refine lv_aload_n S.1 S.2.1 dX3_start_28 rfl (lv_at hl 0 rfl) ?_
      refine mf_there S hK hP dX3_start_29 ?_
      refine lv_iload_n S.1 S.2.1 dX3_start_32 rfl (lv_at hl 1 rfl) ?_
      refine lv_iconst (v := (nI 1)) S.1 S.2.1 dX3_start_33 (by decide) ?_
      refine ms_there S hK hP hD hS (j := x1) (by omega) (by decide) dX3_start_34 (fun H locs hP hD hS => ?_)
      refine lv_iconst (v := (nI 0)) S.1 S.2.1 dX3_start_35 (by decide) ?_
      refine lv_istore_n (lv' := [(2, .int (nI 0)), (0, .ref (a 0)), (1, .int (nI (x1)))]) S.1 S.2.1 dX3_start_36 rfl hl (by decide) rfl (fun ls hl => ?_)
      have lp3 : ∀ (n3 i3 : Nat) (τ3 : MS), i3 + n3 = 8 → itr (fSt1 x1) n3 i3 τ3 = itr (fSt1 x1) 8 0 (mS 2 x1 (nI 1) (mForget x1 (mGoes true true τ))) → ∀ (H : Heap) (locs : List Loc), va_P D vwCl (X ++ mB cy a τ3) H → va_D (va_A (X ++ mB cy a τ) sz) (X ++ mB cy a τ3) → va_S (va_A (X ++ mB cy a τ) sz) s.heap H locs → ∀ ls : Array Slot, lv_has ls 3 [(2, .int (nI (i3))), (0, .ref (a 0)), (1, .int (nI (x1)))] → W p l e (kRm 3 0 0) s m args below meth c H locs 0 0 (MQ below (kQi D (X ++ mB cy a τ) (X ++ mB cy a (mStart (nI x1) τ)) (b2i (mStartR (nI x1) τ)) sz) args s 0 0 (va_A (X ++ mB cy a τ) sz)) (F0 m 37 ls []) := by
        intro n3
        induction n3 with
        | zero =>
          intro i3 τ3 hi3 he3 H locs hP hD hS ls hl
          have hi3 : i3 = 8 := by omega
          have he3 : τ3 = itr (fSt1 x1) 8 0 (mS 2 x1 (nI 1) (mForget x1 (mGoes true true τ))) := he3
          refine lv_iload_n S.1 S.2.1 dX3_start_37 rfl (lv_at hl 0 rfl) ?_
          refine lv_bipush (v := (nI 8)) S.1 S.2.1 dX3_start_38 (by decide) ?_
          refine lv_icmp_ge (tgt := 63) S.1 S.2.1 dX3_start_40 (by decide) (fun _ => ?_) (fun c => absurd (nI_le (by omega) (by omega)) c)
          refine lv_aload_n S.1 S.2.1 dX3_start_63 rfl (lv_at hl 1 rfl) ?_
          refine lv_iload_n S.1 S.2.1 dX3_start_64 rfl (lv_at hl 2 rfl) ?_
          refine call_X3_tell S hK hN hP hD hS hA (u := x1) (by omega) hl.1 (Nat.le_of_ble_eq_true rfl) ⟨Nat.le_of_ble_eq_true rfl, Nat.le_of_ble_eq_true rfl⟩ dX3_start_65 ⟨Nat.le_refl _, Nat.le_refl _⟩ (fun H locs hP hD hS => ?_)
          refine lv_iconst (v := (nI 0)) S.1 S.2.1 dX3_start_68 (by decide) ?_
          refine lv_istore_n (lv' := [(2, .int (nI 0)), (0, .ref (a 0)), (1, .int (nI (x1)))]) S.1 S.2.1 dX3_start_69 rfl hl (by decide) rfl (fun ls hl => ?_)
          have lp5 : ∀ (n5 i5 : Nat) (τ5 : MS), i5 + n5 = 8 → itr (fSt2 x1) n5 i5 τ5 = itr (fSt2 x1) 8 0 (mTell x1 τ3) → ∀ (H : Heap) (locs : List Loc), va_P D vwCl (X ++ mB cy a τ5) H → va_D (va_A (X ++ mB cy a τ) sz) (X ++ mB cy a τ5) → va_S (va_A (X ++ mB cy a τ) sz) s.heap H locs → ∀ ls : Array Slot, lv_has ls 3 [(2, .int (nI (i5))), (0, .ref (a 0)), (1, .int (nI (x1)))] → W p l e (kRm 3 0 0) s m args below meth c H locs 0 0 (MQ below (kQi D (X ++ mB cy a τ) (X ++ mB cy a (mStart (nI x1) τ)) (b2i (mStartR (nI x1) τ)) sz) args s 0 0 (va_A (X ++ mB cy a τ) sz)) (F0 m 70 ls []) := by
            intro n5
            induction n5 with
            | zero =>
              intro i5 τ5 hi5 he5 H locs hP hD hS ls hl
              have hi5 : i5 = 8 := by omega
              have he5 : τ5 = itr (fSt2 x1) 8 0 (mTell x1 τ3) := he5
              refine lv_iload_n S.1 S.2.1 dX3_start_70 rfl (lv_at hl 0 rfl) ?_
              refine lv_bipush (v := (nI 8)) S.1 S.2.1 dX3_start_71 (by decide) ?_
              refine lv_icmp_ge (tgt := 97) S.1 S.2.1 dX3_start_73 (by decide) (fun _ => ?_) (fun c => absurd (nI_le (by omega) (by omega)) c)
              refine lv_iconst (v := (nI 1)) S.1 S.2.1 dX3_start_97 (by decide) ?_
              have e9 : mStart (nI x1) τ = τ5 := by first | (simp only [mStart, mStB, mSt0, c1, cl8 hx1, eq_true c2, ← he3, ← he5, reduceIte, Bool.false_eq_true, eq_self_iff_true, if_true, if_false]; done) | with_reducible rfl | (exfalso; omega)
              rw [e9]
              exact kret_z S hr hlk hP hD hS (by first | rfl | exact b2i_nar _) (by rw [show mStartR (nI x1) τ = true from (by first | (simp only [mStartR, c1, cl8 hx1, eq_true c2, ← he3, ← he5, reduceIte, Bool.false_eq_true, eq_self_iff_true, if_true, if_false]; done) | with_reducible rfl | (exfalso; omega))]; decide) dX3_start_98
            | succ n5 ih5 =>
              intro i5 τ5 hi5 he5 H locs hP hD hS ls hl
              have hlt5 : i5 < 8 := by omega
              refine lv_iload_n S.1 S.2.1 dX3_start_70 rfl (lv_at hl 0 rfl) ?_
              refine lv_bipush (v := (nI 8)) S.1 S.2.1 dX3_start_71 (by decide) ?_
              refine lv_icmp_ge (tgt := 97) S.1 S.2.1 dX3_start_73 (by decide) (fun c => absurd c (nI_ge (by omega) (by omega))) (fun _ => ?_)
              refine lv_aload_n S.1 S.2.1 dX3_start_76 rfl (lv_at hl 1 rfl) ?_
              refine lv_iload_n S.1 S.2.1 dX3_start_77 rfl (lv_at hl 2 rfl) ?_
              refine lv_iload_n S.1 S.2.1 dX3_start_78 rfl (lv_at hl 0 rfl) ?_
              refine call_X3_carries S hK hN hP hD hS hA (u := x1) (v := i5) (by omega) (by omega) hl.1 (Nat.le_of_ble_eq_true rfl) ⟨Nat.le_of_ble_eq_true rfl, Nat.le_of_ble_eq_true rfl⟩ dX3_start_79 ⟨Nat.le_refl _, Nat.le_refl _⟩ (fun H locs hP hD hS => ?_)
              refine kb_eq (tgt := 91) S dX3_start_82 (by decide) (fun c8 => ?_) (fun c8 => ?_)
              · refine lv_iinc (v := (nI (i5 + 1))) (lv' := [(2, .int (nI (i5 + 1))), (0, .ref (a 0)), (1, .int (nI (x1)))]) S.1 S.2.1 dX3_start_91 hl (k := 0) rfl (nI_add _ 1) (by decide) rfl (fun ls hl => ?_)
                refine lv_goto (tgt := 70) S.1 S.2.1 dX3_start_94 (by decide) ?_
                exact ih5 (i5 + 1) τ5 (by omega) (itr_step he5 (by first | (simp only [fSt2, c1, cl8 hx1, eq_true c2, ← he3, c8, reduceIte, Bool.false_eq_true, eq_self_iff_true, if_true, if_false]; done) | with_reducible rfl | (exfalso; omega))) _ _ hP hD hS _ (lv_sub hl [0, 1, 2] rfl)
              · refine lv_aload_n S.1 S.2.1 dX3_start_85 rfl (lv_at hl 1 rfl) ?_
                refine lv_iload_n S.1 S.2.1 dX3_start_86 rfl (lv_at hl 0 rfl) ?_
                refine lv_iload_n S.1 S.2.1 dX3_start_87 rfl (lv_at hl 2 rfl) ?_
                refine call_X3_sendAll S hK hN hP hD hS hA (u := i5) (v := x1) (by omega) (by omega) hl.1 (Nat.le_of_ble_eq_true rfl) ⟨Nat.le_of_ble_eq_true rfl, Nat.le_of_ble_eq_true rfl⟩ dX3_start_88 ⟨Nat.le_refl _, Nat.le_refl _⟩ (fun H locs hP hD hS => ?_)
                refine lv_iinc (v := (nI (i5 + 1))) (lv' := [(2, .int (nI (i5 + 1))), (0, .ref (a 0)), (1, .int (nI (x1)))]) S.1 S.2.1 dX3_start_91 hl (k := 0) rfl (nI_add _ 1) (by decide) rfl (fun ls hl => ?_)
                refine lv_goto (tgt := 70) S.1 S.2.1 dX3_start_94 (by decide) ?_
                exact ih5 (i5 + 1) (mSendAll i5 x1 τ5) (by omega) (itr_step he5 (by first | (simp only [fSt2, c1, cl8 hx1, eq_true c2, ← he3, c8, reduceIte, Bool.false_eq_true, eq_self_iff_true, if_true, if_false]; done) | with_reducible rfl | (exfalso; omega))) _ _ hP hD hS _ (lv_sub hl [0, 1, 2] rfl)
          exact lp5 8 0 (mTell x1 τ3) (by omega) rfl _ _ hP hD hS _ (lv_sub hl [0, 1, 2] rfl)
        | succ n3 ih3 =>
          intro i3 τ3 hi3 he3 H locs hP hD hS ls hl
          have hlt3 : i3 < 8 := by omega
          refine lv_iload_n S.1 S.2.1 dX3_start_37 rfl (lv_at hl 0 rfl) ?_
          refine lv_bipush (v := (nI 8)) S.1 S.2.1 dX3_start_38 (by decide) ?_
          refine lv_icmp_ge (tgt := 63) S.1 S.2.1 dX3_start_40 (by decide) (fun c => absurd c (nI_ge (by omega) (by omega))) (fun _ => ?_)
          refine lv_aload_n S.1 S.2.1 dX3_start_43 rfl (lv_at hl 1 rfl) ?_
          refine lv_iload_n S.1 S.2.1 dX3_start_44 rfl (lv_at hl 2 rfl) ?_
          refine lv_iload_n S.1 S.2.1 dX3_start_45 rfl (lv_at hl 0 rfl) ?_
          refine call_X3_carries S hK hN hP hD hS hA (u := x1) (v := i3) (by omega) (by omega) hl.1 (Nat.le_of_ble_eq_true rfl) ⟨Nat.le_of_ble_eq_true rfl, Nat.le_of_ble_eq_true rfl⟩ dX3_start_46 ⟨Nat.le_refl _, Nat.le_refl _⟩ (fun H locs hP hD hS => ?_)
          refine kb_eq (tgt := 57) S dX3_start_49 (by decide) (fun c10 => ?_) (fun c10 => ?_)
          · refine lv_iinc (v := (nI (i3 + 1))) (lv' := [(2, .int (nI (i3 + 1))), (0, .ref (a 0)), (1, .int (nI (x1)))]) S.1 S.2.1 dX3_start_57 hl (k := 0) rfl (nI_add _ 1) (by decide) rfl (fun ls hl => ?_)
            refine lv_goto (tgt := 37) S.1 S.2.1 dX3_start_60 (by decide) ?_
            exact ih3 (i3 + 1) τ3 (by omega) (itr_step he3 (by first | (simp only [fSt1, c1, cl8 hx1, eq_true c2, c10, reduceIte, Bool.false_eq_true, eq_self_iff_true, if_true, if_false]; done) | with_reducible rfl | (exfalso; omega))) _ _ hP hD hS _ (lv_sub hl [0, 1, 2] rfl)
          · refine lv_aload_n S.1 S.2.1 dX3_start_52 rfl (lv_at hl 1 rfl) ?_
            refine lv_iload_n S.1 S.2.1 dX3_start_53 rfl (lv_at hl 0 rfl) ?_
            refine call_X3_tell S hK hN hP hD hS hA (u := i3) (by omega) hl.1 (Nat.le_of_ble_eq_true rfl) ⟨Nat.le_of_ble_eq_true rfl, Nat.le_of_ble_eq_true rfl⟩ dX3_start_54 ⟨Nat.le_refl _, Nat.le_refl _⟩ (fun H locs hP hD hS => ?_)
            refine lv_iinc (v := (nI (i3 + 1))) (lv' := [(2, .int (nI (i3 + 1))), (0, .ref (a 0)), (1, .int (nI (x1)))]) S.1 S.2.1 dX3_start_57 hl (k := 0) rfl (nI_add _ 1) (by decide) rfl (fun ls hl => ?_)
            refine lv_goto (tgt := 37) S.1 S.2.1 dX3_start_60 (by decide) ?_
            exact ih3 (i3 + 1) (mTell i3 τ3) (by omega) (itr_step he3 (by first | (simp only [fSt1, c1, cl8 hx1, eq_true c2, c10, reduceIte, Bool.false_eq_true, eq_self_iff_true, if_true, if_false]; done) | with_reducible rfl | (exfalso; omega))) _ _ hP hD hS _ (lv_sub hl [0, 1, 2] rfl)
      exact lp3 8 0 (mS 2 x1 (nI 1) (mForget x1 (mGoes true true τ))) (by omega) rfl _ _ hP hD hS _ (lv_sub hl [0, 1, 2] rfl)
    · refine lv_iconst (v := (nI 0)) S.1 S.2.1 dX3_start_21 (by decide) ?_
      have e9 : mStart (nI x1) τ = mGoes true true τ := by first | (simp only [mStart, mStB, mSt0, c1, cl8 hx1, c2, reduceIte, Bool.false_eq_true, eq_self_iff_true, if_true, if_false]; done) | with_reducible rfl | (exfalso; omega)
      rw [e9]
      exact kret_z S hr hlk hP hD hS (by first | rfl | exact b2i_nar _) (by rw [show mStartR (nI x1) τ = false from (by first | (simp only [mStartR, c1, cl8 hx1, c2, reduceIte, Bool.false_eq_true, eq_self_iff_true, if_true, if_false]; done) | with_reducible rfl | (exfalso; omega))]; decide) dX3_start_22
set_option maxHeartbeats 400000 in
set_option maxRecDepth 100000 in
theorem c_X3_settled (l : Launch) (D : va_G) (cy : Nat → ClassId) (a : Nat → Nat) (X : va_W) (τ : MS)   : MetI l yX3_settled cX3_settled 5 .boolean (kRm 1 0 0) D (tyA cy) [] [.ref (a 0)] (X ++ mB cy a τ) (X ++ mB cy a (mSetS τ)) (mSetR τ) 0 0 := by
  intro sz
  refine kmet (own := RX3) (by decide) rfl (Nat.le_of_ble_eq_true rfl) (fun p e s m args below meth c S hr hlk hK hN hP hD hsz hA hnm ls hl => ?_)
  have hS : va_S (va_A (X ++ mB cy a τ) sz) s.heap s.heap [] := va_S.rf
  have hl : lv_has ls 5 [(0, .ref (a 0))] := hl
  refine lv_aload_n S.1 S.2.1 dX3_settled_0 rfl (lv_at hl 0 rfl) ?_
  refine call_X3_flying S hK hN hP hD hS hA   hl.1 (Nat.le_of_ble_eq_true rfl) ⟨Nat.le_of_ble_eq_true rfl, Nat.le_of_ble_eq_true rfl⟩ dX3_settled_1 ⟨Nat.le_refl _, Nat.le_refl _⟩ (fun H locs hP hD hS => ?_)
  refine lv_if_le (tgt := 9) S.1 S.2.1 dX3_settled_4 (by decide) (fun c1 => ?_) (fun c1 => ?_)
  · refine lv_iconst (v := (nI 0)) S.1 S.2.1 dX3_settled_9 (by decide) ?_
    refine lv_istore_n (lv' := [(1, .int (nI 0)), (0, .ref (a 0))]) S.1 S.2.1 dX3_settled_10 rfl hl (by decide) rfl (fun ls hl => ?_)
    have lp2 : ∀ (n2 i2 : Nat) (τ2 : MS), i2 + n2 = 8 → itr fS1 n2 i2 τ2 = itr fS1 8 0 (mT0 τ) → ∀ (H : Heap) (locs : List Loc), va_P D vwCl (X ++ mB cy a τ2) H → va_D (va_A (X ++ mB cy a τ) sz) (X ++ mB cy a τ2) → va_S (va_A (X ++ mB cy a τ) sz) s.heap H locs → ∀ ls : Array Slot, lv_has ls 5 [(1, .int (nI (i2))), (0, .ref (a 0))] → W p l e (kRm 1 0 0) s m args below meth c H locs 0 0 (MQ below (kQi D (X ++ mB cy a τ) (X ++ mB cy a (mSetS τ)) (mSetR τ) sz) args s 0 0 (va_A (X ++ mB cy a τ) sz)) (F0 m 11 ls []) := by
      intro n2
      induction n2 with
      | zero =>
        intro i2 τ2 hi2 he2 H locs hP hD hS ls hl
        have hi2 : i2 = 8 := by omega
        have he2 : τ2 = itr fS1 8 0 (mT0 τ) := he2
        refine lv_iload_n S.1 S.2.1 dX3_settled_11 rfl (lv_at hl 0 rfl) ?_
        refine lv_bipush (v := (nI 8)) S.1 S.2.1 dX3_settled_12 (by decide) ?_
        refine lv_icmp_ge (tgt := 81) S.1 S.2.1 dX3_settled_14 (by decide) (fun _ => ?_) (fun c => absurd (nI_le (by omega) (by omega)) c)
        refine lv_iconst (v := (nI 0)) S.1 S.2.1 dX3_settled_81 (by decide) ?_
        refine lv_istore_n (lv' := [(1, .int (nI 0)), (0, .ref (a 0))]) S.1 S.2.1 dX3_settled_82 rfl hl (by decide) rfl (fun ls hl => ?_)
        have lp4 : ∀ (n4 i4 : Nat) (τ4 : MS), i4 + n4 = 8 → itr fS3 n4 i4 τ4 = itr fS3 8 0 τ2 → ∀ (H : Heap) (locs : List Loc), va_P D vwCl (X ++ mB cy a τ4) H → va_D (va_A (X ++ mB cy a τ) sz) (X ++ mB cy a τ4) → va_S (va_A (X ++ mB cy a τ) sz) s.heap H locs → ∀ ls : Array Slot, lv_has ls 5 [(1, .int (nI (i4))), (0, .ref (a 0))] → W p l e (kRm 1 0 0) s m args below meth c H locs 0 0 (MQ below (kQi D (X ++ mB cy a τ) (X ++ mB cy a (mSetS τ)) (mSetR τ) sz) args s 0 0 (va_A (X ++ mB cy a τ) sz)) (F0 m 83 ls []) := by
          intro n4
          induction n4 with
          | zero =>
            intro i4 τ4 hi4 he4 H locs hP hD hS ls hl
            have hi4 : i4 = 8 := by omega
            have he4 : τ4 = itr fS3 8 0 τ2 := he4
            refine lv_iload_n S.1 S.2.1 dX3_settled_83 rfl (lv_at hl 0 rfl) ?_
            refine lv_bipush (v := (nI 8)) S.1 S.2.1 dX3_settled_84 (by decide) ?_
            refine lv_icmp_ge (tgt := 163) S.1 S.2.1 dX3_settled_86 (by decide) (fun _ => ?_) (fun c => absurd (nI_le (by omega) (by omega)) c)
            refine lv_iconst (v := (nI 1)) S.1 S.2.1 dX3_settled_163 (by decide) ?_
            refine lv_istore_n (lv' := [(1, .int (nI 1)), (0, .ref (a 0))]) S.1 S.2.1 dX3_settled_164 rfl hl (by decide) rfl (fun ls hl => ?_)
            refine lv_iconst (v := (nI 0)) S.1 S.2.1 dX3_settled_165 (by decide) ?_
            refine lv_istore_n (lv' := [(2, .int (nI 0)), (1, .int (nI 1)), (0, .ref (a 0))]) S.1 S.2.1 dX3_settled_166 rfl hl (by decide) rfl (fun ls hl => ?_)
            have lp6 : ∀ (n6 i6 : Nat)  (x6_0 : Int32), i6 + n6 = 64 → itr (fS5 τ4) n6 i6 x6_0 = itr (fS5 τ4) 64 0 (nI 1) → ∀ (H : Heap) (locs : List Loc), va_P D vwCl (X ++ mB cy a τ4) H → va_D (va_A (X ++ mB cy a τ) sz) (X ++ mB cy a τ4) → va_S (va_A (X ++ mB cy a τ) sz) s.heap H locs → ∀ ls : Array Slot, lv_has ls 5 [(2, .int (nI (i6))), (1, .int (x6_0)), (0, .ref (a 0))] → W p l e (kRm 1 0 0) s m args below meth c H locs 0 0 (MQ below (kQi D (X ++ mB cy a τ) (X ++ mB cy a (mSetS τ)) (mSetR τ) sz) args s 0 0 (va_A (X ++ mB cy a τ) sz)) (F0 m 167 ls []) := by
              intro n6
              induction n6 with
              | zero =>
                intro i6 x6_0 hi6 he6 H locs hP hD hS ls hl
                have hi6 : i6 = 64 := by omega
                have he6 : x6_0 = itr (fS5 τ4) 64 0 (nI 1) := he6
                refine lv_iload_n S.1 S.2.1 dX3_settled_167 rfl (lv_at hl 0 rfl) ?_
                refine lv_bipush (v := (nI 64)) S.1 S.2.1 dX3_settled_168 (by decide) ?_
                refine lv_icmp_ge (tgt := 264) S.1 S.2.1 dX3_settled_170 (by decide) (fun _ => ?_) (fun c => absurd (nI_le (by omega) (by omega)) c)
                refine lv_iload_n S.1 S.2.1 dX3_settled_264 rfl (lv_at hl 1 rfl) ?_
                have e9 : mSetS τ = τ4 := by first | (simp only [mSetS, mTog, c1, ← he2, ← he4, ← he6, reduceIte, Bool.false_eq_true, eq_self_iff_true, if_true, if_false]; done) | with_reducible rfl | (exfalso; omega)
                rw [e9]
                exact kret_z S hr hlk hP hD hS (by first | rfl | exact b2i_nar _ | exact nar01 (by rw [he6]; exact fS5_01 _ _)) (by first | (simp only [mSetR, mTog, c1, ← he2, ← he4, ← he6, reduceIte, Bool.false_eq_true, eq_self_iff_true, if_true, if_false]; done) | with_reducible rfl | (exfalso; omega)) dX3_settled_265
              | succ n6 ih6 =>
                intro i6 x6_0 hi6 he6 H locs hP hD hS ls hl
                have hlt6 : i6 < 64 := by omega
                refine lv_iload_n S.1 S.2.1 dX3_settled_167 rfl (lv_at hl 0 rfl) ?_
                refine lv_bipush (v := (nI 64)) S.1 S.2.1 dX3_settled_168 (by decide) ?_
                refine lv_icmp_ge (tgt := 264) S.1 S.2.1 dX3_settled_170 (by decide) (fun c => absurd c (nI_ge (by omega) (by omega))) (fun _ => ?_)
                refine lv_iconst (v := (nI 0)) S.1 S.2.1 dX3_settled_173 (by decide) ?_
                refine lv_istore_n (lv' := [(3, .int (nI 0)), (2, .int (nI (i6))), (1, .int (x6_0)), (0, .ref (a 0))]) S.1 S.2.1 dX3_settled_174 rfl hl (by decide) rfl (fun ls hl => ?_)
                have lp9 : ∀ (n9 i9 : Nat)  (x9_0 : Int32), i9 + n9 = 8 → gS6 τ4 i6 n9 i9 x9_0 = gS6 τ4 i6 8 0 (x6_0) → ∀ (H : Heap) (locs : List Loc), va_P D vwCl (X ++ mB cy a τ4) H → va_D (va_A (X ++ mB cy a τ) sz) (X ++ mB cy a τ4) → va_S (va_A (X ++ mB cy a τ) sz) s.heap H locs → ∀ ls : Array Slot, lv_has ls 5 [(3, .int (nI (i9))), (2, .int (nI (i6))), (1, .int (x9_0)), (0, .ref (a 0))] → W p l e (kRm 1 0 0) s m args below meth c H locs 0 0 (MQ below (kQi D (X ++ mB cy a τ) (X ++ mB cy a (mSetS τ)) (mSetR τ) sz) args s 0 0 (va_A (X ++ mB cy a τ) sz)) (F0 m 175 ls []) := by
                  intro n9
                  induction n9 with
                  | zero =>
                    intro i9 x9_0 hi9 he9 H locs hP hD hS ls hl
                    have hi9 : i9 = 8 := by omega
                    have he9 : x9_0 = gS6 τ4 i6 8 0 (x6_0) := he9
                    refine lv_iload_n S.1 S.2.1 dX3_settled_175 rfl (lv_at hl 0 rfl) ?_
                    refine lv_bipush (v := (nI 8)) S.1 S.2.1 dX3_settled_176 (by decide) ?_
                    refine lv_icmp_ge (tgt := 258) S.1 S.2.1 dX3_settled_178 (by decide) (fun _ => ?_) (fun c => absurd (nI_le (by omega) (by omega)) c)
                    refine lv_iinc (v := (nI (i6 + 1))) (lv' := [(2, .int (nI (i6 + 1))), (3, .int (nI (i9))), (1, .int (x9_0)), (0, .ref (a 0))]) S.1 S.2.1 dX3_settled_258 hl (k := 1) rfl (nI_add _ 1) (by decide) rfl (fun ls hl => ?_)
                    refine lv_goto (tgt := 167) S.1 S.2.1 dX3_settled_261 (by decide) ?_
                    exact ih6 (i6 + 1)  ((x9_0)) (by omega) (itr_step he6 (by first | (simp only [fS5, c1, ← he2, ← he4, ← he9, reduceIte, Bool.false_eq_true, eq_self_iff_true, if_true, if_false]; done) | with_reducible rfl | (exfalso; omega))) _ _ hP hD hS _ (lv_sub hl [0, 2, 3] rfl)
                  | succ n9 ih9 =>
                    intro i9 x9_0 hi9 he9 H locs hP hD hS ls hl
                    have hlt9 : i9 < 8 := by omega
                    refine lv_iload_n S.1 S.2.1 dX3_settled_175 rfl (lv_at hl 0 rfl) ?_
                    refine lv_bipush (v := (nI 8)) S.1 S.2.1 dX3_settled_176 (by decide) ?_
                    refine lv_icmp_ge (tgt := 258) S.1 S.2.1 dX3_settled_178 (by decide) (fun c => absurd c (nI_ge (by omega) (by omega))) (fun _ => ?_)
                    refine lv_aload_n S.1 S.2.1 dX3_settled_181 rfl (lv_at hl 3 rfl) ?_
                    refine mf_together S hK hP dX3_settled_182 ?_
                    refine lv_iload_n S.1 S.2.1 dX3_settled_185 rfl (lv_at hl 1 rfl) ?_
                    refine ma_together S hK hP (j := i6) (by omega) dX3_settled_186 ?_
                    refine lv_if_eq (tgt := 258) S.1 S.2.1 dX3_settled_187 (by decide) (fun c12 => ?_) (fun c12 => ?_)
                    · have he9 : x9_0 = gS6 τ4 i6 8 0 (x6_0) := by rw [← he9]; first | (simp only [gS6, c1, ← he2, ← he4, eq_true c12, reduceIte, Bool.false_eq_true, eq_self_iff_true, if_true, if_false]; done) | with_reducible rfl | (exfalso; omega)
                      refine lv_iinc (v := (nI (i6 + 1))) (lv' := [(2, .int (nI (i6 + 1))), (3, .int (nI (i9))), (1, .int (x9_0)), (0, .ref (a 0))]) S.1 S.2.1 dX3_settled_258 hl (k := 1) rfl (nI_add _ 1) (by decide) rfl (fun ls hl => ?_)
                      refine lv_goto (tgt := 167) S.1 S.2.1 dX3_settled_261 (by decide) ?_
                      exact ih6 (i6 + 1)  ((x9_0)) (by omega) (itr_step he6 (by first | (simp only [fS5, c1, ← he2, ← he4, eq_true c12, ← he9, reduceIte, Bool.false_eq_true, eq_self_iff_true, if_true, if_false]; done) | with_reducible rfl | (exfalso; omega))) _ _ hP hD hS _ (lv_sub hl [0, 2, 3] rfl)
                    · refine lv_aload_n S.1 S.2.1 dX3_settled_190 rfl (lv_at hl 3 rfl) ?_
                      refine mf_together S hK hP dX3_settled_191 ?_
                      refine lv_iload_n S.1 S.2.1 dX3_settled_194 rfl (lv_at hl 1 rfl) ?_
                      refine lv_bipush (v := (nI 8)) S.1 S.2.1 dX3_settled_195 (by decide) ?_
                      refine lv_idiv S.1 S.2.1 dX3_settled_197 (by decide) ?_
                      refine k_top (pk_div (by omega) (by decide) (by decide)) ?_
                      refine lv_bipush (v := (nI 8)) S.1 S.2.1 dX3_settled_198 (by decide) ?_
                      refine lv_imul S.1 S.2.1 dX3_settled_200 ?_
                      refine k_top (pk_mul _ _) ?_
                      refine lv_iload_n S.1 S.2.1 dX3_settled_201 rfl (lv_at hl 0 rfl) ?_
                      refine lv_iadd S.1 S.2.1 dX3_settled_202 ?_
                      refine k_top (nI_add _ _) ?_
                      refine ma_together S hK hP (j := (((i6 / 8) * 8) + i9)) (by omega) dX3_settled_203 ?_
                      refine lv_istore (lv' := [(4, .int (τ4 26 (((i6 / 8) * 8) + i9))), (3, .int (nI (i9))), (2, .int (nI (i6))), (1, .int (x9_0)), (0, .ref (a 0))]) S.1 S.2.1 dX3_settled_204 hl (by decide) rfl (fun ls hl => ?_)
                      refine lv_iload_n S.1 S.2.1 dX3_settled_206 rfl (lv_at hl 3 rfl) ?_
                      refine lv_if_eq (tgt := 250) S.1 S.2.1 dX3_settled_207 (by decide) (fun c13 => ?_) (fun c13 => ?_)
                      · refine lv_iconst (v := (nI 0)) S.1 S.2.1 dX3_settled_250 (by decide) ?_
                        refine lv_istore_n (lv' := [(1, .int (nI 0)), (4, .int (τ4 26 (((i6 / 8) * 8) + i9))), (3, .int (nI (i9))), (2, .int (nI (i6))), (0, .ref (a 0))]) S.1 S.2.1 dX3_settled_251 rfl hl (by decide) rfl (fun ls hl => ?_)
                        refine lv_iinc (v := (nI (i9 + 1))) (lv' := [(3, .int (nI (i9 + 1))), (1, .int (nI 0)), (4, .int (τ4 26 (((i6 / 8) * 8) + i9))), (2, .int (nI (i6))), (0, .ref (a 0))]) S.1 S.2.1 dX3_settled_252 hl (k := 2) rfl (nI_add _ 1) (by decide) rfl (fun ls hl => ?_)
                        refine lv_goto (tgt := 175) S.1 S.2.1 dX3_settled_255 (by decide) ?_
                        exact ih9 (i9 + 1)  ((nI 0)) (by omega) (by rw [← he9]; first | (simp only [gS6, c1, ← he2, ← he4, c12, eq_true c13, reduceIte, Bool.false_eq_true, eq_self_iff_true, if_true, if_false]; done) | with_reducible rfl | (exfalso; omega)) _ _ hP hD hS _ (lv_sub hl [0, 3, 1, 4] rfl)
                      · refine lv_iload S.1 S.2.1 dX3_settled_210 (lv_at hl 0 rfl) ?_
                        refine lv_if_eq (tgt := 246) S.1 S.2.1 dX3_settled_212 (by decide) (fun c14 => ?_) (fun c14 => ?_)
                        · refine lv_iconst (v := (nI 1)) S.1 S.2.1 dX3_settled_246 (by decide) ?_
                          refine lv_goto (tgt := 251) S.1 S.2.1 dX3_settled_247 (by decide) ?_
                          refine lv_istore_n (lv' := [(1, .int (nI 1)), (4, .int (τ4 26 (((i6 / 8) * 8) + i9))), (3, .int (nI (i9))), (2, .int (nI (i6))), (0, .ref (a 0))]) S.1 S.2.1 dX3_settled_251 rfl hl (by decide) rfl (fun ls hl => ?_)
                          refine lv_iinc (v := (nI (i9 + 1))) (lv' := [(3, .int (nI (i9 + 1))), (1, .int (nI 1)), (4, .int (τ4 26 (((i6 / 8) * 8) + i9))), (2, .int (nI (i6))), (0, .ref (a 0))]) S.1 S.2.1 dX3_settled_252 hl (k := 2) rfl (nI_add _ 1) (by decide) rfl (fun ls hl => ?_)
                          refine lv_goto (tgt := 175) S.1 S.2.1 dX3_settled_255 (by decide) ?_
                          exact ih9 (i9 + 1)  ((nI 1)) (by omega) (by rw [← he9]; first | (simp only [gS6, c1, ← he2, ← he4, c12, c13, eq_true c14, reduceIte, Bool.false_eq_true, eq_self_iff_true, if_true, if_false]; done) | with_reducible rfl | (exfalso; omega)) _ _ hP hD hS _ (lv_sub hl [0, 3, 1, 4] rfl)
                        · refine lv_aload_n S.1 S.2.1 dX3_settled_215 rfl (lv_at hl 4 rfl) ?_
                          refine mf_numbers S hK hP dX3_settled_216 ?_
                          refine lv_iload_n S.1 S.2.1 dX3_settled_219 rfl (lv_at hl 2 rfl) ?_
                          refine lv_bipush (v := (nI 8)) S.1 S.2.1 dX3_settled_220 (by decide) ?_
                          refine lv_idiv S.1 S.2.1 dX3_settled_222 (by decide) ?_
                          refine k_top (pk_div (by omega) (by decide) (by decide)) ?_
                          refine lv_bipush (v := (nI 8)) S.1 S.2.1 dX3_settled_223 (by decide) ?_
                          refine lv_imul S.1 S.2.1 dX3_settled_225 ?_
                          refine k_top (pk_mul _ _) ?_
                          refine lv_iload_n S.1 S.2.1 dX3_settled_226 rfl (lv_at hl 1 rfl) ?_
                          refine lv_iadd S.1 S.2.1 dX3_settled_227 ?_
                          refine k_top (nI_add _ _) ?_
                          refine ma_numbers S hK hP (j := (((i6 / 8) * 8) + i9)) (by omega) dX3_settled_228 ?_
                          refine lv_aload_n S.1 S.2.1 dX3_settled_229 rfl (lv_at hl 4 rfl) ?_
                          refine mf_numbers S hK hP dX3_settled_230 ?_
                          refine lv_iload_n S.1 S.2.1 dX3_settled_233 rfl (lv_at hl 2 rfl) ?_
                          refine lv_bipush (v := (nI 8)) S.1 S.2.1 dX3_settled_234 (by decide) ?_
                          refine lv_irem S.1 S.2.1 dX3_settled_236 (by decide) ?_
                          refine k_top (pk_rem (by omega) (by decide) (by decide)) ?_
                          refine lv_bipush (v := (nI 8)) S.1 S.2.1 dX3_settled_237 (by decide) ?_
                          refine lv_imul S.1 S.2.1 dX3_settled_239 ?_
                          refine k_top (pk_mul _ _) ?_
                          refine lv_iload_n S.1 S.2.1 dX3_settled_240 rfl (lv_at hl 1 rfl) ?_
                          refine lv_iadd S.1 S.2.1 dX3_settled_241 ?_
                          refine k_top (nI_add _ _) ?_
                          refine ma_numbers S hK hP (j := (((i6 % 8) * 8) + i9)) (by omega) dX3_settled_242 ?_
                          refine lv_icmp_ne (tgt := 250) S.1 S.2.1 dX3_settled_243 (by decide) (fun c15 => ?_) (fun c15 => ?_)
                          · refine lv_iconst (v := (nI 0)) S.1 S.2.1 dX3_settled_250 (by decide) ?_
                            refine lv_istore_n (lv' := [(1, .int (nI 0)), (4, .int (τ4 26 (((i6 / 8) * 8) + i9))), (3, .int (nI (i9))), (2, .int (nI (i6))), (0, .ref (a 0))]) S.1 S.2.1 dX3_settled_251 rfl hl (by decide) rfl (fun ls hl => ?_)
                            refine lv_iinc (v := (nI (i9 + 1))) (lv' := [(3, .int (nI (i9 + 1))), (1, .int (nI 0)), (4, .int (τ4 26 (((i6 / 8) * 8) + i9))), (2, .int (nI (i6))), (0, .ref (a 0))]) S.1 S.2.1 dX3_settled_252 hl (k := 2) rfl (nI_add _ 1) (by decide) rfl (fun ls hl => ?_)
                            refine lv_goto (tgt := 175) S.1 S.2.1 dX3_settled_255 (by decide) ?_
                            exact ih9 (i9 + 1)  ((nI 0)) (by omega) (by rw [← he9]; first | (simp only [gS6, c1, ← he2, ← he4, c12, c13, c14, c15, reduceIte, Bool.false_eq_true, eq_self_iff_true, if_true, if_false]; done) | with_reducible rfl | (exfalso; omega)) _ _ hP hD hS _ (lv_sub hl [0, 3, 1, 4] rfl)
                          · refine lv_iconst (v := (nI 1)) S.1 S.2.1 dX3_settled_246 (by decide) ?_
                            refine lv_goto (tgt := 251) S.1 S.2.1 dX3_settled_247 (by decide) ?_
                            refine lv_istore_n (lv' := [(1, .int (nI 1)), (4, .int (τ4 26 (((i6 / 8) * 8) + i9))), (3, .int (nI (i9))), (2, .int (nI (i6))), (0, .ref (a 0))]) S.1 S.2.1 dX3_settled_251 rfl hl (by decide) rfl (fun ls hl => ?_)
                            refine lv_iinc (v := (nI (i9 + 1))) (lv' := [(3, .int (nI (i9 + 1))), (1, .int (nI 1)), (4, .int (τ4 26 (((i6 / 8) * 8) + i9))), (2, .int (nI (i6))), (0, .ref (a 0))]) S.1 S.2.1 dX3_settled_252 hl (k := 2) rfl (nI_add _ 1) (by decide) rfl (fun ls hl => ?_)
                            refine lv_goto (tgt := 175) S.1 S.2.1 dX3_settled_255 (by decide) ?_
                            exact ih9 (i9 + 1)  ((nI 1)) (by omega) (by rw [← he9]; first | (simp only [gS6, c1, ← he2, ← he4, c12, c13, c14, eq_true c15, reduceIte, Bool.false_eq_true, eq_self_iff_true, if_true, if_false]; done) | with_reducible rfl | (exfalso; omega)) _ _ hP hD hS _ (lv_sub hl [0, 3, 1, 4] rfl)
                exact lp9 8 0  ((x6_0)) (by omega) rfl _ _ hP hD hS _ (lv_sub hl [0, 1, 2, 3] rfl)
            exact lp6 64 0  ((nI 1)) (by omega) rfl _ _ hP hD hS _ (lv_sub hl [0, 1, 2] rfl)
          | succ n4 ih4 =>
            intro i4 τ4 hi4 he4 H locs hP hD hS ls hl
            have hlt4 : i4 < 8 := by omega
            refine lv_iload_n S.1 S.2.1 dX3_settled_83 rfl (lv_at hl 0 rfl) ?_
            refine lv_bipush (v := (nI 8)) S.1 S.2.1 dX3_settled_84 (by decide) ?_
            refine lv_icmp_ge (tgt := 163) S.1 S.2.1 dX3_settled_86 (by decide) (fun c => absurd c (nI_ge (by omega) (by omega))) (fun _ => ?_)
            refine lv_iconst (v := (nI 0)) S.1 S.2.1 dX3_settled_89 (by decide) ?_
            refine lv_istore_n (lv' := [(2, .int (nI 0)), (1, .int (nI (i4))), (0, .ref (a 0))]) S.1 S.2.1 dX3_settled_90 rfl hl (by decide) rfl (fun ls hl => ?_)
            have lp17 : ∀ (n17 i17 : Nat) (τ17 : MS), i17 + n17 = 64 → itr (fS4 i4) n17 i17 τ17 = itr (fS4 i4) 64 0 τ4 → ∀ (H : Heap) (locs : List Loc), va_P D vwCl (X ++ mB cy a τ17) H → va_D (va_A (X ++ mB cy a τ) sz) (X ++ mB cy a τ17) → va_S (va_A (X ++ mB cy a τ) sz) s.heap H locs → ∀ ls : Array Slot, lv_has ls 5 [(2, .int (nI (i17))), (1, .int (nI (i4))), (0, .ref (a 0))] → W p l e (kRm 1 0 0) s m args below meth c H locs 0 0 (MQ below (kQi D (X ++ mB cy a τ) (X ++ mB cy a (mSetS τ)) (mSetR τ) sz) args s 0 0 (va_A (X ++ mB cy a τ) sz)) (F0 m 91 ls []) := by
              intro n17
              induction n17 with
              | zero =>
                intro i17 τ17 hi17 he17 H locs hP hD hS ls hl
                have hi17 : i17 = 64 := by omega
                have he17 : τ17 = itr (fS4 i4) 64 0 τ4 := he17
                refine lv_iload_n S.1 S.2.1 dX3_settled_91 rfl (lv_at hl 0 rfl) ?_
                refine lv_bipush (v := (nI 64)) S.1 S.2.1 dX3_settled_92 (by decide) ?_
                refine lv_icmp_ge (tgt := 157) S.1 S.2.1 dX3_settled_94 (by decide) (fun _ => ?_) (fun c => absurd (nI_le (by omega) (by omega)) c)
                refine lv_iinc (v := (nI (i4 + 1))) (lv' := [(1, .int (nI (i4 + 1))), (2, .int (nI (i17))), (0, .ref (a 0))]) S.1 S.2.1 dX3_settled_157 hl (k := 1) rfl (nI_add _ 1) (by decide) rfl (fun ls hl => ?_)
                refine lv_goto (tgt := 83) S.1 S.2.1 dX3_settled_160 (by decide) ?_
                exact ih4 (i4 + 1) τ17 (by omega) (itr_step he4 (by first | (simp only [fS3, c1, ← he2, ← he17, reduceIte, Bool.false_eq_true, eq_self_iff_true, if_true, if_false]; done) | with_reducible rfl | (exfalso; omega))) _ _ hP hD hS _ (lv_sub hl [0, 2] rfl)
              | succ n17 ih17 =>
                intro i17 τ17 hi17 he17 H locs hP hD hS ls hl
                have hlt17 : i17 < 64 := by omega
                refine lv_iload_n S.1 S.2.1 dX3_settled_91 rfl (lv_at hl 0 rfl) ?_
                refine lv_bipush (v := (nI 64)) S.1 S.2.1 dX3_settled_92 (by decide) ?_
                refine lv_icmp_ge (tgt := 157) S.1 S.2.1 dX3_settled_94 (by decide) (fun c => absurd c (nI_ge (by omega) (by omega))) (fun _ => ?_)
                refine lv_aload_n S.1 S.2.1 dX3_settled_97 rfl (lv_at hl 2 rfl) ?_
                refine mf_together S hK hP dX3_settled_98 ?_
                refine lv_iload_n S.1 S.2.1 dX3_settled_101 rfl (lv_at hl 0 rfl) ?_
                refine lv_aload_n S.1 S.2.1 dX3_settled_102 rfl (lv_at hl 2 rfl) ?_
                refine mf_together S hK hP dX3_settled_103 ?_
                refine lv_iload_n S.1 S.2.1 dX3_settled_106 rfl (lv_at hl 0 rfl) ?_
                refine ma_together S hK hP (j := i17) (by omega) dX3_settled_107 ?_
                refine lv_if_ne (tgt := 145) S.1 S.2.1 dX3_settled_108 (by decide) (fun c20 => ?_) (fun c20 => ?_)
                · refine lv_iconst (v := (nI 1)) S.1 S.2.1 dX3_settled_145 (by decide) ?_
                  refine lv_goto (tgt := 150) S.1 S.2.1 dX3_settled_146 (by decide) ?_
                  refine ms_together S hK hP hD hS (j := i17) (by omega) (by decide) dX3_settled_150 (fun H locs hP hD hS => ?_)
                  refine lv_iinc (v := (nI (i17 + 1))) (lv' := [(2, .int (nI (i17 + 1))), (1, .int (nI (i4))), (0, .ref (a 0))]) S.1 S.2.1 dX3_settled_151 hl (k := 0) rfl (nI_add _ 1) (by decide) rfl (fun ls hl => ?_)
                  refine lv_goto (tgt := 91) S.1 S.2.1 dX3_settled_154 (by decide) ?_
                  exact ih17 (i17 + 1) (mS 26 i17 (nI 1) τ17) (by omega) (itr_step he17 (by first | (simp only [fS4, c1, ← he2, c20, reduceIte, Bool.false_eq_true, eq_self_iff_true, if_true, if_false]; done) | with_reducible rfl | (exfalso; omega))) _ _ hP hD hS _ (lv_sub hl [0, 1, 2] rfl)
                · refine lv_aload_n S.1 S.2.1 dX3_settled_111 rfl (lv_at hl 2 rfl) ?_
                  refine mf_together S hK hP dX3_settled_112 ?_
                  refine lv_iload_n S.1 S.2.1 dX3_settled_115 rfl (lv_at hl 0 rfl) ?_
                  refine lv_bipush (v := (nI 8)) S.1 S.2.1 dX3_settled_116 (by decide) ?_
                  refine lv_idiv S.1 S.2.1 dX3_settled_118 (by decide) ?_
                  refine k_top (pk_div (by omega) (by decide) (by decide)) ?_
                  refine lv_bipush (v := (nI 8)) S.1 S.2.1 dX3_settled_119 (by decide) ?_
                  refine lv_imul S.1 S.2.1 dX3_settled_121 ?_
                  refine k_top (pk_mul _ _) ?_
                  refine lv_iload_n S.1 S.2.1 dX3_settled_122 rfl (lv_at hl 1 rfl) ?_
                  refine lv_iadd S.1 S.2.1 dX3_settled_123 ?_
                  refine k_top (nI_add _ _) ?_
                  refine ma_together S hK hP (j := (((i17 / 8) * 8) + i4)) (by omega) dX3_settled_124 ?_
                  refine lv_if_eq (tgt := 149) S.1 S.2.1 dX3_settled_125 (by decide) (fun c21 => ?_) (fun c21 => ?_)
                  · refine lv_iconst (v := (nI 0)) S.1 S.2.1 dX3_settled_149 (by decide) ?_
                    refine ms_together S hK hP hD hS (j := i17) (by omega) (by decide) dX3_settled_150 (fun H locs hP hD hS => ?_)
                    refine lv_iinc (v := (nI (i17 + 1))) (lv' := [(2, .int (nI (i17 + 1))), (1, .int (nI (i4))), (0, .ref (a 0))]) S.1 S.2.1 dX3_settled_151 hl (k := 0) rfl (nI_add _ 1) (by decide) rfl (fun ls hl => ?_)
                    refine lv_goto (tgt := 91) S.1 S.2.1 dX3_settled_154 (by decide) ?_
                    exact ih17 (i17 + 1) (mS 26 i17 (nI 0) τ17) (by omega) (itr_step he17 (by first | (simp only [fS4, c1, ← he2, eq_true c20, eq_true c21, reduceIte, Bool.false_eq_true, eq_self_iff_true, if_true, if_false]; done) | with_reducible rfl | (exfalso; omega))) _ _ hP hD hS _ (lv_sub hl [0, 1, 2] rfl)
                  · refine lv_aload_n S.1 S.2.1 dX3_settled_128 rfl (lv_at hl 2 rfl) ?_
                    refine mf_together S hK hP dX3_settled_129 ?_
                    refine lv_bipush (v := (nI 8)) S.1 S.2.1 dX3_settled_132 (by decide) ?_
                    refine lv_iload_n S.1 S.2.1 dX3_settled_134 rfl (lv_at hl 1 rfl) ?_
                    refine lv_imul S.1 S.2.1 dX3_settled_135 ?_
                    refine k_top (pk_mul _ _) ?_
                    refine lv_iload_n S.1 S.2.1 dX3_settled_136 rfl (lv_at hl 0 rfl) ?_
                    refine lv_bipush (v := (nI 8)) S.1 S.2.1 dX3_settled_137 (by decide) ?_
                    refine lv_irem S.1 S.2.1 dX3_settled_139 (by decide) ?_
                    refine k_top (pk_rem (by omega) (by decide) (by decide)) ?_
                    refine lv_iadd S.1 S.2.1 dX3_settled_140 ?_
                    refine k_top (nI_add _ _) ?_
                    refine ma_together S hK hP (j := ((8 * i4) + (i17 % 8))) (by omega) dX3_settled_141 ?_
                    refine lv_if_eq (tgt := 149) S.1 S.2.1 dX3_settled_142 (by decide) (fun c22 => ?_) (fun c22 => ?_)
                    · refine lv_iconst (v := (nI 0)) S.1 S.2.1 dX3_settled_149 (by decide) ?_
                      refine ms_together S hK hP hD hS (j := i17) (by omega) (by decide) dX3_settled_150 (fun H locs hP hD hS => ?_)
                      refine lv_iinc (v := (nI (i17 + 1))) (lv' := [(2, .int (nI (i17 + 1))), (1, .int (nI (i4))), (0, .ref (a 0))]) S.1 S.2.1 dX3_settled_151 hl (k := 0) rfl (nI_add _ 1) (by decide) rfl (fun ls hl => ?_)
                      refine lv_goto (tgt := 91) S.1 S.2.1 dX3_settled_154 (by decide) ?_
                      exact ih17 (i17 + 1) (mS 26 i17 (nI 0) τ17) (by omega) (itr_step he17 (by first | (simp only [fS4, c1, ← he2, eq_true c20, c21, eq_true c22, reduceIte, Bool.false_eq_true, eq_self_iff_true, if_true, if_false]; done) | with_reducible rfl | (exfalso; omega))) _ _ hP hD hS _ (lv_sub hl [0, 1, 2] rfl)
                    · refine lv_iconst (v := (nI 1)) S.1 S.2.1 dX3_settled_145 (by decide) ?_
                      refine lv_goto (tgt := 150) S.1 S.2.1 dX3_settled_146 (by decide) ?_
                      refine ms_together S hK hP hD hS (j := i17) (by omega) (by decide) dX3_settled_150 (fun H locs hP hD hS => ?_)
                      refine lv_iinc (v := (nI (i17 + 1))) (lv' := [(2, .int (nI (i17 + 1))), (1, .int (nI (i4))), (0, .ref (a 0))]) S.1 S.2.1 dX3_settled_151 hl (k := 0) rfl (nI_add _ 1) (by decide) rfl (fun ls hl => ?_)
                      refine lv_goto (tgt := 91) S.1 S.2.1 dX3_settled_154 (by decide) ?_
                      exact ih17 (i17 + 1) (mS 26 i17 (nI 1) τ17) (by omega) (itr_step he17 (by first | (simp only [fS4, c1, ← he2, eq_true c20, c21, c22, reduceIte, Bool.false_eq_true, eq_self_iff_true, if_true, if_false]; done) | with_reducible rfl | (exfalso; omega))) _ _ hP hD hS _ (lv_sub hl [0, 1, 2] rfl)
            exact lp17 64 0 τ4 (by omega) rfl _ _ hP hD hS _ (lv_sub hl [0, 1, 2] rfl)
        exact lp4 8 0 τ2 (by omega) rfl _ _ hP hD hS _ (lv_sub hl [0, 1] rfl)
      | succ n2 ih2 =>
        intro i2 τ2 hi2 he2 H locs hP hD hS ls hl
        have hlt2 : i2 < 8 := by omega
        refine lv_iload_n S.1 S.2.1 dX3_settled_11 rfl (lv_at hl 0 rfl) ?_
        refine lv_bipush (v := (nI 8)) S.1 S.2.1 dX3_settled_12 (by decide) ?_
        refine lv_icmp_ge (tgt := 81) S.1 S.2.1 dX3_settled_14 (by decide) (fun c => absurd c (nI_ge (by omega) (by omega))) (fun _ => ?_)
        refine lv_iconst (v := (nI 0)) S.1 S.2.1 dX3_settled_17 (by decide) ?_
        refine lv_istore_n (lv' := [(2, .int (nI 0)), (1, .int (nI (i2))), (0, .ref (a 0))]) S.1 S.2.1 dX3_settled_18 rfl hl (by decide) rfl (fun ls hl => ?_)
        have lp24 : ∀ (n24 i24 : Nat) (τ24 : MS), i24 + n24 = 8 → itr (fS2 i2) n24 i24 τ24 = itr (fS2 i2) 8 0 τ2 → ∀ (H : Heap) (locs : List Loc), va_P D vwCl (X ++ mB cy a τ24) H → va_D (va_A (X ++ mB cy a τ) sz) (X ++ mB cy a τ24) → va_S (va_A (X ++ mB cy a τ) sz) s.heap H locs → ∀ ls : Array Slot, lv_has ls 5 [(2, .int (nI (i24))), (1, .int (nI (i2))), (0, .ref (a 0))] → W p l e (kRm 1 0 0) s m args below meth c H locs 0 0 (MQ below (kQi D (X ++ mB cy a τ) (X ++ mB cy a (mSetS τ)) (mSetR τ) sz) args s 0 0 (va_A (X ++ mB cy a τ) sz)) (F0 m 19 ls []) := by
          intro n24
          induction n24 with
          | zero =>
            intro i24 τ24 hi24 he24 H locs hP hD hS ls hl
            have hi24 : i24 = 8 := by omega
            have he24 : τ24 = itr (fS2 i2) 8 0 τ2 := he24
            refine lv_iload_n S.1 S.2.1 dX3_settled_19 rfl (lv_at hl 0 rfl) ?_
            refine lv_bipush (v := (nI 8)) S.1 S.2.1 dX3_settled_20 (by decide) ?_
            refine lv_icmp_ge (tgt := 75) S.1 S.2.1 dX3_settled_22 (by decide) (fun _ => ?_) (fun c => absurd (nI_le (by omega) (by omega)) c)
            refine lv_iinc (v := (nI (i2 + 1))) (lv' := [(1, .int (nI (i2 + 1))), (2, .int (nI (i24))), (0, .ref (a 0))]) S.1 S.2.1 dX3_settled_75 hl (k := 1) rfl (nI_add _ 1) (by decide) rfl (fun ls hl => ?_)
            refine lv_goto (tgt := 11) S.1 S.2.1 dX3_settled_78 (by decide) ?_
            exact ih2 (i2 + 1) τ24 (by omega) (itr_step he2 (by first | (simp only [fS1, c1, ← he24, reduceIte, Bool.false_eq_true, eq_self_iff_true, if_true, if_false]; done) | with_reducible rfl | (exfalso; omega))) _ _ hP hD hS _ (lv_sub hl [0, 2] rfl)
          | succ n24 ih24 =>
            intro i24 τ24 hi24 he24 H locs hP hD hS ls hl
            have hlt24 : i24 < 8 := by omega
            refine lv_iload_n S.1 S.2.1 dX3_settled_19 rfl (lv_at hl 0 rfl) ?_
            refine lv_bipush (v := (nI 8)) S.1 S.2.1 dX3_settled_20 (by decide) ?_
            refine lv_icmp_ge (tgt := 75) S.1 S.2.1 dX3_settled_22 (by decide) (fun c => absurd c (nI_ge (by omega) (by omega))) (fun _ => ?_)
            refine lv_aload_n S.1 S.2.1 dX3_settled_25 rfl (lv_at hl 2 rfl) ?_
            refine mf_together S hK hP dX3_settled_26 ?_
            refine lv_bipush (v := (nI 8)) S.1 S.2.1 dX3_settled_29 (by decide) ?_
            refine lv_iload_n S.1 S.2.1 dX3_settled_31 rfl (lv_at hl 1 rfl) ?_
            refine lv_imul S.1 S.2.1 dX3_settled_32 ?_
            refine k_top (pk_mul _ _) ?_
            refine lv_iload_n S.1 S.2.1 dX3_settled_33 rfl (lv_at hl 0 rfl) ?_
            refine lv_iadd S.1 S.2.1 dX3_settled_34 ?_
            refine k_top (nI_add _ _) ?_
            refine lv_aload_n S.1 S.2.1 dX3_settled_35 rfl (lv_at hl 2 rfl) ?_
            refine mf_there S hK hP dX3_settled_36 ?_
            refine lv_iload_n S.1 S.2.1 dX3_settled_39 rfl (lv_at hl 1 rfl) ?_
            refine ma_there S hK hP (j := i2) (by omega) dX3_settled_40 ?_
            refine lv_if_eq (tgt := 49) S.1 S.2.1 dX3_settled_41 (by decide) (fun c27 => ?_) (fun c27 => ?_)
            · refine lv_iload_n S.1 S.2.1 dX3_settled_49 rfl (lv_at hl 1 rfl) ?_
              refine lv_iload_n S.1 S.2.1 dX3_settled_50 rfl (lv_at hl 0 rfl) ?_
              refine lv_icmp_eq (tgt := 67) S.1 S.2.1 dX3_settled_51 (by decide) (fun c28 => ?_) (fun c28 => ?_)
              · have c28 : i2 = i24 := (nI_eq (a := i2) (b := i24) (by omega) (by omega)).mp c28
                refine lv_iconst (v := (nI 0)) S.1 S.2.1 dX3_settled_67 (by decide) ?_
                refine ms_together S hK hP hD hS (j := ((8 * i2) + i24)) (by omega) (by decide) dX3_settled_68 (fun H locs hP hD hS => ?_)
                refine lv_iinc (v := (nI (i24 + 1))) (lv' := [(2, .int (nI (i24 + 1))), (1, .int (nI (i2))), (0, .ref (a 0))]) S.1 S.2.1 dX3_settled_69 hl (k := 0) rfl (nI_add _ 1) (by decide) rfl (fun ls hl => ?_)
                refine lv_goto (tgt := 19) S.1 S.2.1 dX3_settled_72 (by decide) ?_
                exact ih24 (i24 + 1) (mS 26 ((8 * i2) + i24) (nI 0) τ24) (by omega) (itr_step he24 (by first | (simp only [fS2, c1, eq_true c27, eq_true c28, reduceIte, Bool.false_eq_true, eq_self_iff_true, if_true, if_false]; done) | with_reducible rfl | (exfalso; omega))) _ _ hP hD hS _ (lv_sub hl [0, 1, 2] rfl)
              · have c28 : ¬ i2 = i24 := fun h => c28 ((nI_eq (a := i2) (b := i24) (by omega) (by omega)).mpr h)
                refine lv_aload_n S.1 S.2.1 dX3_settled_54 rfl (lv_at hl 2 rfl) ?_
                refine lv_iload_n S.1 S.2.1 dX3_settled_55 rfl (lv_at hl 1 rfl) ?_
                refine lv_iload_n S.1 S.2.1 dX3_settled_56 rfl (lv_at hl 0 rfl) ?_
                refine call_X3_carries S hK hN hP hD hS hA (u := i2) (v := i24) (by omega) (by omega) hl.1 (Nat.le_of_ble_eq_true rfl) ⟨Nat.le_of_ble_eq_true rfl, Nat.le_of_ble_eq_true rfl⟩ dX3_settled_57 ⟨Nat.le_refl _, Nat.le_refl _⟩ (fun H locs hP hD hS => ?_)
                refine kb_eq (tgt := 67) S dX3_settled_60 (by decide) (fun c29 => ?_) (fun c29 => ?_)
                · refine lv_iconst (v := (nI 0)) S.1 S.2.1 dX3_settled_67 (by decide) ?_
                  refine ms_together S hK hP hD hS (j := ((8 * i2) + i24)) (by omega) (by decide) dX3_settled_68 (fun H locs hP hD hS => ?_)
                  refine lv_iinc (v := (nI (i24 + 1))) (lv' := [(2, .int (nI (i24 + 1))), (1, .int (nI (i2))), (0, .ref (a 0))]) S.1 S.2.1 dX3_settled_69 hl (k := 0) rfl (nI_add _ 1) (by decide) rfl (fun ls hl => ?_)
                  refine lv_goto (tgt := 19) S.1 S.2.1 dX3_settled_72 (by decide) ?_
                  exact ih24 (i24 + 1) (mS 26 ((8 * i2) + i24) (nI 0) τ24) (by omega) (itr_step he24 (by first | (simp only [fS2, c1, eq_true c27, c28, c29, reduceIte, Bool.false_eq_true, eq_self_iff_true, if_true, if_false]; done) | with_reducible rfl | (exfalso; omega))) _ _ hP hD hS _ (lv_sub hl [0, 1, 2] rfl)
                · refine lv_iconst (v := (nI 1)) S.1 S.2.1 dX3_settled_63 (by decide) ?_
                  refine lv_goto (tgt := 68) S.1 S.2.1 dX3_settled_64 (by decide) ?_
                  refine ms_together S hK hP hD hS (j := ((8 * i2) + i24)) (by omega) (by decide) dX3_settled_68 (fun H locs hP hD hS => ?_)
                  refine lv_iinc (v := (nI (i24 + 1))) (lv' := [(2, .int (nI (i24 + 1))), (1, .int (nI (i2))), (0, .ref (a 0))]) S.1 S.2.1 dX3_settled_69 hl (k := 0) rfl (nI_add _ 1) (by decide) rfl (fun ls hl => ?_)
                  refine lv_goto (tgt := 19) S.1 S.2.1 dX3_settled_72 (by decide) ?_
                  exact ih24 (i24 + 1) (mS 26 ((8 * i2) + i24) (nI 1) τ24) (by omega) (itr_step he24 (by first | (simp only [fS2, c1, eq_true c27, c28, c29, reduceIte, Bool.false_eq_true, eq_self_iff_true, if_true, if_false]; done) | with_reducible rfl | (exfalso; omega))) _ _ hP hD hS _ (lv_sub hl [0, 1, 2] rfl)
            · refine lv_iload_n S.1 S.2.1 dX3_settled_44 rfl (lv_at hl 1 rfl) ?_
              refine lv_iload_n S.1 S.2.1 dX3_settled_45 rfl (lv_at hl 0 rfl) ?_
              refine lv_icmp_eq (tgt := 63) S.1 S.2.1 dX3_settled_46 (by decide) (fun c30 => ?_) (fun c30 => ?_)
              · have c30 : i2 = i24 := (nI_eq (a := i2) (b := i24) (by omega) (by omega)).mp c30
                refine lv_iconst (v := (nI 1)) S.1 S.2.1 dX3_settled_63 (by decide) ?_
                refine lv_goto (tgt := 68) S.1 S.2.1 dX3_settled_64 (by decide) ?_
                refine ms_together S hK hP hD hS (j := ((8 * i2) + i24)) (by omega) (by decide) dX3_settled_68 (fun H locs hP hD hS => ?_)
                refine lv_iinc (v := (nI (i24 + 1))) (lv' := [(2, .int (nI (i24 + 1))), (1, .int (nI (i2))), (0, .ref (a 0))]) S.1 S.2.1 dX3_settled_69 hl (k := 0) rfl (nI_add _ 1) (by decide) rfl (fun ls hl => ?_)
                refine lv_goto (tgt := 19) S.1 S.2.1 dX3_settled_72 (by decide) ?_
                exact ih24 (i24 + 1) (mS 26 ((8 * i2) + i24) (nI 1) τ24) (by omega) (itr_step he24 (by first | (simp only [fS2, c1, c27, eq_true c30, reduceIte, Bool.false_eq_true, eq_self_iff_true, if_true, if_false]; done) | with_reducible rfl | (exfalso; omega))) _ _ hP hD hS _ (lv_sub hl [0, 1, 2] rfl)
              · have c30 : ¬ i2 = i24 := fun h => c30 ((nI_eq (a := i2) (b := i24) (by omega) (by omega)).mpr h)
                refine lv_iload_n S.1 S.2.1 dX3_settled_49 rfl (lv_at hl 1 rfl) ?_
                refine lv_iload_n S.1 S.2.1 dX3_settled_50 rfl (lv_at hl 0 rfl) ?_
                refine lv_icmp_eq (tgt := 67) S.1 S.2.1 dX3_settled_51 (by decide) (fun c31 => ?_) (fun c31 => ?_)
                · have c31 : i2 = i24 := (nI_eq (a := i2) (b := i24) (by omega) (by omega)).mp c31
                  refine lv_iconst (v := (nI 0)) S.1 S.2.1 dX3_settled_67 (by decide) ?_
                  refine ms_together S hK hP hD hS (j := ((8 * i2) + i24)) (by omega) (by decide) dX3_settled_68 (fun H locs hP hD hS => ?_)
                  refine lv_iinc (v := (nI (i24 + 1))) (lv' := [(2, .int (nI (i24 + 1))), (1, .int (nI (i2))), (0, .ref (a 0))]) S.1 S.2.1 dX3_settled_69 hl (k := 0) rfl (nI_add _ 1) (by decide) rfl (fun ls hl => ?_)
                  refine lv_goto (tgt := 19) S.1 S.2.1 dX3_settled_72 (by decide) ?_
                  exact ih24 (i24 + 1) (mS 26 ((8 * i2) + i24) (nI 0) τ24) (by omega) (itr_step he24 (by first | (simp only [fS2, c1, c27, c30, eq_true c31, reduceIte, Bool.false_eq_true, eq_self_iff_true, if_true, if_false]; done) | with_reducible rfl | (exfalso; omega))) _ _ hP hD hS _ (lv_sub hl [0, 1, 2] rfl)
                · have c31 : ¬ i2 = i24 := fun h => c31 ((nI_eq (a := i2) (b := i24) (by omega) (by omega)).mpr h)
                  refine lv_aload_n S.1 S.2.1 dX3_settled_54 rfl (lv_at hl 2 rfl) ?_
                  refine lv_iload_n S.1 S.2.1 dX3_settled_55 rfl (lv_at hl 1 rfl) ?_
                  refine lv_iload_n S.1 S.2.1 dX3_settled_56 rfl (lv_at hl 0 rfl) ?_
                  refine call_X3_carries S hK hN hP hD hS hA (u := i2) (v := i24) (by omega) (by omega) hl.1 (Nat.le_of_ble_eq_true rfl) ⟨Nat.le_of_ble_eq_true rfl, Nat.le_of_ble_eq_true rfl⟩ dX3_settled_57 ⟨Nat.le_refl _, Nat.le_refl _⟩ (fun H locs hP hD hS => ?_)
                  refine kb_eq (tgt := 67) S dX3_settled_60 (by decide) (fun c32 => ?_) (fun c32 => ?_)
                  · refine lv_iconst (v := (nI 0)) S.1 S.2.1 dX3_settled_67 (by decide) ?_
                    refine ms_together S hK hP hD hS (j := ((8 * i2) + i24)) (by omega) (by decide) dX3_settled_68 (fun H locs hP hD hS => ?_)
                    refine lv_iinc (v := (nI (i24 + 1))) (lv' := [(2, .int (nI (i24 + 1))), (1, .int (nI (i2))), (0, .ref (a 0))]) S.1 S.2.1 dX3_settled_69 hl (k := 0) rfl (nI_add _ 1) (by decide) rfl (fun ls hl => ?_)
                    refine lv_goto (tgt := 19) S.1 S.2.1 dX3_settled_72 (by decide) ?_
                    exact ih24 (i24 + 1) (mS 26 ((8 * i2) + i24) (nI 0) τ24) (by omega) (itr_step he24 (by first | (simp only [fS2, c1, c27, c30, c31, c32, reduceIte, Bool.false_eq_true, eq_self_iff_true, if_true, if_false]; done) | with_reducible rfl | (exfalso; omega))) _ _ hP hD hS _ (lv_sub hl [0, 1, 2] rfl)
                  · refine lv_iconst (v := (nI 1)) S.1 S.2.1 dX3_settled_63 (by decide) ?_
                    refine lv_goto (tgt := 68) S.1 S.2.1 dX3_settled_64 (by decide) ?_
                    refine ms_together S hK hP hD hS (j := ((8 * i2) + i24)) (by omega) (by decide) dX3_settled_68 (fun H locs hP hD hS => ?_)
                    refine lv_iinc (v := (nI (i24 + 1))) (lv' := [(2, .int (nI (i24 + 1))), (1, .int (nI (i2))), (0, .ref (a 0))]) S.1 S.2.1 dX3_settled_69 hl (k := 0) rfl (nI_add _ 1) (by decide) rfl (fun ls hl => ?_)
                    refine lv_goto (tgt := 19) S.1 S.2.1 dX3_settled_72 (by decide) ?_
                    exact ih24 (i24 + 1) (mS 26 ((8 * i2) + i24) (nI 1) τ24) (by omega) (itr_step he24 (by first | (simp only [fS2, c1, c27, c30, c31, c32, reduceIte, Bool.false_eq_true, eq_self_iff_true, if_true, if_false]; done) | with_reducible rfl | (exfalso; omega))) _ _ hP hD hS _ (lv_sub hl [0, 1, 2] rfl)
        exact lp24 8 0 τ2 (by omega) rfl _ _ hP hD hS _ (lv_sub hl [0, 1, 2] rfl)
    exact lp2 8 0 (mT0 τ) (by omega) rfl _ _ hP hD hS _ (lv_sub hl [0, 1] rfl)
  · refine lv_iconst (v := (nI 0)) S.1 S.2.1 dX3_settled_7 (by decide) ?_
    have e9 : mSetS τ = mT0 τ := by first | (simp only [mSetS, mTog, c1, reduceIte, Bool.false_eq_true, eq_self_iff_true, if_true, if_false]; done) | with_reducible rfl | (exfalso; omega)
    rw [e9]
    exact kret_z S hr hlk hP hD hS (by first | rfl | exact b2i_nar _ | exact nar01 (by rw [he]; exact fS5_01 _ _)) (by first | (simp only [mSetR, mTog, c1, reduceIte, Bool.false_eq_true, eq_self_iff_true, if_true, if_false]; done) | with_reducible rfl | (exfalso; omega)) dX3_settled_8
