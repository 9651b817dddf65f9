set_option maxHeartbeats 400000 in
set_option maxRecDepth 100000 in
theorem c_X3_send (l : Launch) (D : va_G) (cy : Nat → ClassId) (a : Nat → Nat) (X : va_W) (τ : MS) (x : Int32) (y : Int32) (z : Int32) (P : Nat) (hI : mI P τ) (hT : ∀ σ : MS, (∀ j, r50 (σ 11 j)) → mEnds σ) : MetI l yX3_send cX3_send 6 .int (kRm 4 0 0) D (tyA cy) [] [.ref (a 0), .int (x), .int (y), .int (z)] (X ++ mB cy a τ) (X ++ mB cy a (mSend P x y z τ)) (mSendR P x y z τ) 0 0 := by
  intro sz
  refine kmet (own := RX3) (by decide) rfl (Nat.le_of_ble_eq_true rfl) (fun p e s m args below meth c S hr hlk hK hN hP hD hsz hA hnm ls hl => ?_)
  have hS : va_S (va_A (X ++ mB cy a τ) sz) s.heap s.heap [] := va_S.rf
  have hl : lv_has ls 6 [(0, .ref (a 0)), (1, .int (x)), (2, .int (y)), (3, .int (z))] := hl
  have hPn : P ≤ 20 := hI.1
  refine lv_iload_n S.1 S.2.1 dX3_send_0 rfl (lv_at hl 1 rfl) ?_
  refine call_X3_isNode S hK hN hP hD hS hA (x := x)  hl.1 (Nat.le_of_ble_eq_true rfl) ⟨Nat.le_of_ble_eq_true rfl, Nat.le_of_ble_eq_true rfl⟩ dX3_send_1 ⟨Nat.le_refl _, Nat.le_refl _⟩ (fun H locs hP hD hS => ?_)
  refine kb_eq (tgt := 28) S dX3_send_4 (by decide) (fun c1 => ?_) (fun c1 => ?_)
  · refine lv_iconst (v := (nI 0)) S.1 S.2.1 dX3_send_28 (by decide) ?_
    refine lv_istore (lv' := [(4, .int (nI 0)), (0, .ref (a 0)), (1, .int (x)), (2, .int (y)), (3, .int (z))]) S.1 S.2.1 dX3_send_29 hl (by decide) rfl (fun ls hl => ?_)
    refine lv_aload_n S.1 S.2.1 dX3_send_31 rfl (lv_at hl 1 rfl) ?_
    refine lv_iload S.1 S.2.1 dX3_send_32 (lv_at hl 0 rfl) ?_
    refine lv_iload S.1 S.2.1 dX3_send_34 (lv_at hl 0 rfl) ?_
    refine lv_if_eq (tgt := 61) S.1 S.2.1 dX3_send_36 (by decide) (fun _ => ?_) (fun c2 => absurd (by decide) c2)
    refine lv_iconst (v := (nI 0)) S.1 S.2.1 dX3_send_61 (by decide) ?_
    refine call_X3_goes_f S hK hN hP hD hS hA (q := false)  hl.1 (Nat.le_of_ble_eq_true rfl) ⟨Nat.le_of_ble_eq_true rfl, Nat.le_of_ble_eq_true rfl⟩ dX3_send_62 ⟨Nat.le_refl _, Nat.le_refl _⟩ (fun H locs hP hD hS => ?_)
    refine kb_ne (tgt := 70) S dX3_send_65 (by decide) (fun c3 => absurd c3 (by decide)) (fun _ => ?_)
    refine lv_iconst (v := (nI 0)) S.1 S.2.1 dX3_send_68 (by decide) ?_
    have e9 : mSend P x y z τ = mGoes false false τ := by first | (simp only [mSend, mSendG, mSn1, c1, reduceIte, Bool.false_eq_true, eq_self_iff_true, if_true, if_false]; done) | with_reducible rfl | (exfalso; omega)
    rw [e9]
    exact kret_i S hr hlk hP hD hS (by first | (simp only [mSendR, mSendG, c1, reduceIte, Bool.false_eq_true, eq_self_iff_true, if_true, if_false]; done) | with_reducible rfl | (exfalso; omega)) dX3_send_69
  · obtain ⟨x1, hx1, rfl⟩ := isN_of c1
    refine lv_iload_n S.1 S.2.1 dX3_send_7 rfl (lv_at hl 2 rfl) ?_
    refine call_X3_isNode S hK hN hP hD hS hA (x := y)  hl.1 (Nat.le_of_ble_eq_true rfl) ⟨Nat.le_of_ble_eq_true rfl, Nat.le_of_ble_eq_true rfl⟩ dX3_send_8 ⟨Nat.le_refl _, Nat.le_refl _⟩ (fun H locs hP hD hS => ?_)
    refine kb_eq (tgt := 28) S dX3_send_11 (by decide) (fun c4 => ?_) (fun c4 => ?_)
    · refine lv_iconst (v := (nI 0)) S.1 S.2.1 dX3_send_28 (by decide) ?_
      refine lv_istore (lv' := [(4, .int (nI 0)), (0, .ref (a 0)), (1, .int (nI (x1))), (2, .int (y)), (3, .int (z))]) S.1 S.2.1 dX3_send_29 hl (by decide) rfl (fun ls hl => ?_)
      refine lv_aload_n S.1 S.2.1 dX3_send_31 rfl (lv_at hl 1 rfl) ?_
      refine lv_iload S.1 S.2.1 dX3_send_32 (lv_at hl 0 rfl) ?_
      refine lv_iload S.1 S.2.1 dX3_send_34 (lv_at hl 0 rfl) ?_
      refine lv_if_eq (tgt := 61) S.1 S.2.1 dX3_send_36 (by decide) (fun _ => ?_) (fun c5 => absurd (by decide) c5)
      refine lv_iconst (v := (nI 0)) S.1 S.2.1 dX3_send_61 (by decide) ?_
      refine call_X3_goes_f S hK hN hP hD hS hA (q := false)  hl.1 (Nat.le_of_ble_eq_true rfl) ⟨Nat.le_of_ble_eq_true rfl, Nat.le_of_ble_eq_true rfl⟩ dX3_send_62 ⟨Nat.le_refl _, Nat.le_refl _⟩ (fun H locs hP hD hS => ?_)
      refine kb_ne (tgt := 70) S dX3_send_65 (by decide) (fun c6 => absurd c6 (by decide)) (fun _ => ?_)
      refine lv_iconst (v := (nI 0)) S.1 S.2.1 dX3_send_68 (by decide) ?_
      have e9 : mSend P (nI x1) y z τ = mGoes false false τ := by first | (simp only [mSend, mSendG, mSn1, c1, cl8 hx1, c4, reduceIte, Bool.false_eq_true, eq_self_iff_true, if_true, if_false]; done) | with_reducible rfl | (exfalso; omega)
      rw [e9]
      exact kret_i S hr hlk hP hD hS (by first | (simp only [mSendR, mSendG, c1, cl8 hx1, c4, reduceIte, Bool.false_eq_true, eq_self_iff_true, if_true, if_false]; done) | with_reducible rfl | (exfalso; omega)) dX3_send_69
    · obtain ⟨y1, hy1, rfl⟩ := isN_of c4
      refine lv_iload_n S.1 S.2.1 dX3_send_14 rfl (lv_at hl 3 rfl) ?_
      refine lv_iconst (v := (nI 0)) S.1 S.2.1 dX3_send_15 (by decide) ?_
      refine lv_bipush (v := (nI 30)) S.1 S.2.1 dX3_send_16 (by decide) ?_
      refine call_X3_in S hK hN hP hD hS hA (x := z) (y := nI 0) (z := nI 30)  hl.1 (Nat.le_of_ble_eq_true rfl) ⟨Nat.le_of_ble_eq_true rfl, Nat.le_of_ble_eq_true rfl⟩ dX3_send_18 ⟨Nat.le_refl _, Nat.le_refl _⟩ (fun H locs hP hD hS => ?_)
      refine kb_eq (tgt := 28) S dX3_send_21 (by decide) (fun c7 => ?_) (fun c7 => ?_)
      · refine lv_iconst (v := (nI 0)) S.1 S.2.1 dX3_send_28 (by decide) ?_
        refine lv_istore (lv' := [(4, .int (nI 0)), (0, .ref (a 0)), (1, .int (nI (x1))), (2, .int (nI (y1))), (3, .int (z))]) S.1 S.2.1 dX3_send_29 hl (by decide) rfl (fun ls hl => ?_)
        refine lv_aload_n S.1 S.2.1 dX3_send_31 rfl (lv_at hl 1 rfl) ?_
        refine lv_iload S.1 S.2.1 dX3_send_32 (lv_at hl 0 rfl) ?_
        refine lv_iload S.1 S.2.1 dX3_send_34 (lv_at hl 0 rfl) ?_
        refine lv_if_eq (tgt := 61) S.1 S.2.1 dX3_send_36 (by decide) (fun _ => ?_) (fun c8 => absurd (by decide) c8)
        refine lv_iconst (v := (nI 0)) S.1 S.2.1 dX3_send_61 (by decide) ?_
        refine call_X3_goes_f S hK hN hP hD hS hA (q := false)  hl.1 (Nat.le_of_ble_eq_true rfl) ⟨Nat.le_of_ble_eq_true rfl, Nat.le_of_ble_eq_true rfl⟩ dX3_send_62 ⟨Nat.le_refl _, Nat.le_refl _⟩ (fun H locs hP hD hS => ?_)
        refine kb_ne (tgt := 70) S dX3_send_65 (by decide) (fun c9 => absurd c9 (by decide)) (fun _ => ?_)
        refine lv_iconst (v := (nI 0)) S.1 S.2.1 dX3_send_68 (by decide) ?_
        have e9 : mSend P (nI x1) (nI y1) z τ = mGoes false false τ := by first | (simp only [mSend, mSendG, mSn1, c1, cl8 hx1, c4, cl8 hy1, c7, reduceIte, Bool.false_eq_true, eq_self_iff_true, if_true, if_false]; done) | with_reducible rfl | (exfalso; omega)
        rw [e9]
        exact kret_i S hr hlk hP hD hS (by first | (simp only [mSendR, mSendG, c1, cl8 hx1, c4, cl8 hy1, c7, reduceIte, Bool.false_eq_true, eq_self_iff_true, if_true, if_false]; done) | with_reducible rfl | (exfalso; omega)) dX3_send_69
      · obtain ⟨z1, hza, hzb, rfl⟩ := inR_of (by decide) (by decide) c7
        refine lv_iconst (v := (nI 1)) S.1 S.2.1 dX3_send_24 (by decide) ?_
        refine lv_goto (tgt := 29) S.1 S.2.1 dX3_send_25 (by decide) ?_
        refine lv_istore (lv' := [(4, .int (nI 1)), (0, .ref (a 0)), (1, .int (nI (x1))), (2, .int (nI (y1))), (3, .int (nI (z1)))]) S.1 S.2.1 dX3_send_29 hl (by decide) rfl (fun ls hl => ?_)
        refine lv_aload_n S.1 S.2.1 dX3_send_31 rfl (lv_at hl 1 rfl) ?_
        refine lv_iload S.1 S.2.1 dX3_send_32 (lv_at hl 0 rfl) ?_
        refine lv_iload S.1 S.2.1 dX3_send_34 (lv_at hl 0 rfl) ?_
        refine lv_if_eq (tgt := 61) S.1 S.2.1 dX3_send_36 (by decide) (fun c10 => absurd c10 (by decide)) (fun _ => ?_)
        refine lv_aload_n S.1 S.2.1 dX3_send_39 rfl (lv_at hl 1 rfl) ?_
        refine mf_there S hK hP dX3_send_40 ?_
        refine lv_iload_n S.1 S.2.1 dX3_send_43 rfl (lv_at hl 2 rfl) ?_
        refine ma_there S hK hP (j := x1) (by omega) dX3_send_44 ?_
        refine lv_if_eq (tgt := 61) S.1 S.2.1 dX3_send_45 (by decide) (fun c11 => ?_) (fun c11 => ?_)
        · refine lv_iconst (v := (nI 0)) S.1 S.2.1 dX3_send_61 (by decide) ?_
          refine call_X3_goes_f S hK hN hP hD hS hA (q := true)  hl.1 (Nat.le_of_ble_eq_true rfl) ⟨Nat.le_of_ble_eq_true rfl, Nat.le_of_ble_eq_true rfl⟩ dX3_send_62 ⟨Nat.le_refl _, Nat.le_refl _⟩ (fun H locs hP hD hS => ?_)
          refine kb_ne (tgt := 70) S dX3_send_65 (by decide) (fun c12 => absurd c12 (by decide)) (fun _ => ?_)
          refine lv_iconst (v := (nI 0)) S.1 S.2.1 dX3_send_68 (by decide) ?_
          have e9 : mSend P (nI x1) (nI y1) (nI z1) τ = mGoes true false τ := by first | (simp only [mSend, mSendG, mSn1, c1, cl8 hx1, c4, cl8 hy1, c7, nI_clamp (show z1 < 2 ^ 31 by omega), eq_true c11, reduceIte, Bool.false_eq_true, eq_self_iff_true, if_true, if_false]; done) | with_reducible rfl | (exfalso; omega)
          rw [e9]
          exact kret_i S hr hlk hP hD hS (by first | (simp only [mSendR, mSendG, c1, cl8 hx1, c4, cl8 hy1, c7, nI_clamp (show z1 < 2 ^ 31 by omega), eq_true c11, reduceIte, Bool.false_eq_true, eq_self_iff_true, if_true, if_false]; done) | with_reducible rfl | (exfalso; omega)) dX3_send_69
        · refine lv_aload_n S.1 S.2.1 dX3_send_48 rfl (lv_at hl 1 rfl) ?_
          refine mf_packets S hK hP dX3_send_49 ?_
          refine k_top (show τ 0 16 = nI P from (hI).2.1) ?_
          refine lv_bipush (v := (nI 20)) S.1 S.2.1 dX3_send_52 (by decide) ?_
          refine lv_icmp_ge (tgt := 61) S.1 S.2.1 dX3_send_54 (by decide) (fun c13 => ?_) (fun c13 => ?_)
          · have c13 : 20 ≤ P := (nI_leI (a := 20) (b := P) (by omega) (by omega)).mp c13
            refine lv_iconst (v := (nI 0)) S.1 S.2.1 dX3_send_61 (by decide) ?_
            refine call_X3_goes_f S hK hN hP hD hS hA (q := true)  hl.1 (Nat.le_of_ble_eq_true rfl) ⟨Nat.le_of_ble_eq_true rfl, Nat.le_of_ble_eq_true rfl⟩ dX3_send_62 ⟨Nat.le_refl _, Nat.le_refl _⟩ (fun H locs hP hD hS => ?_)
            refine kb_ne (tgt := 70) S dX3_send_65 (by decide) (fun c14 => absurd c14 (by decide)) (fun _ => ?_)
            refine lv_iconst (v := (nI 0)) S.1 S.2.1 dX3_send_68 (by decide) ?_
            have e9 : mSend P (nI x1) (nI y1) (nI z1) τ = mGoes true false τ := by first | (simp only [mSend, mSendG, mSn1, c1, cl8 hx1, c4, cl8 hy1, c7, nI_clamp (show z1 < 2 ^ 31 by omega), c11, c13, reduceIte, Bool.false_eq_true, eq_self_iff_true, if_true, if_false]; done) | with_reducible rfl | (exfalso; omega)
            rw [e9]
            exact kret_i S hr hlk hP hD hS (by first | (simp only [mSendR, mSendG, c1, cl8 hx1, c4, cl8 hy1, c7, nI_clamp (show z1 < 2 ^ 31 by omega), c11, c13, reduceIte, Bool.false_eq_true, eq_self_iff_true, if_true, if_false]; done) | with_reducible rfl | (exfalso; omega)) dX3_send_69
          · have c13 : ¬ 20 ≤ P := fun h => c13 ((nI_leI (a := 20) (b := P) (by omega) (by omega)).mpr h)
            refine lv_iconst (v := (nI 1)) S.1 S.2.1 dX3_send_57 (by decide) ?_
            refine lv_goto (tgt := 62) S.1 S.2.1 dX3_send_58 (by decide) ?_
            refine call_X3_goes_t S hK hN hP hD hS hA (q := true)  hl.1 (Nat.le_of_ble_eq_true rfl) ⟨Nat.le_of_ble_eq_true rfl, Nat.le_of_ble_eq_true rfl⟩ dX3_send_62 ⟨Nat.le_refl _, Nat.le_refl _⟩ (fun H locs hP hD hS => ?_)
            refine kb_ne (tgt := 70) S dX3_send_65 (by decide) (fun _ => ?_) (fun c15 => absurd c15 (by decide))
            refine lv_aload_n S.1 S.2.1 dX3_send_70 rfl (lv_at hl 1 rfl) ?_
            refine mf_packets S hK hP dX3_send_71 ?_
            refine k_top (show (mGoes true true τ) 0 16 = nI P from ((mGoes_I (p := true) (q := true) hI)).2.1) ?_
            refine lv_istore (lv' := [(5, .int (nI (P))), (4, .int (nI 1)), (0, .ref (a 0)), (1, .int (nI (x1))), (2, .int (nI (y1))), (3, .int (nI (z1)))]) S.1 S.2.1 dX3_send_74 hl (by decide) rfl (fun ls hl => ?_)
            refine lv_aload_n S.1 S.2.1 dX3_send_76 rfl (lv_at hl 2 rfl) ?_
            refine lv_dup S.1 S.2.1 dX3_send_77 rfl ?_
            refine mf_packets S hK hP dX3_send_78 ?_
            refine k_top (show (mGoes true true τ) 0 16 = nI P from ((mGoes_I (p := true) (q := true) hI)).2.1) ?_
            refine lv_iconst (v := (nI 1)) S.1 S.2.1 dX3_send_81 (by decide) ?_
            refine lv_iadd S.1 S.2.1 dX3_send_82 ?_
            refine k_top (nI_add _ _) ?_
            refine mp_packets S hK hP hD hS dX3_send_83 (fun H locs hP hD hS => ?_)
            refine lv_aload_n S.1 S.2.1 dX3_send_86 rfl (lv_at hl 2 rfl) ?_
            refine mf_targets S hK hP dX3_send_87 ?_
            refine lv_iload S.1 S.2.1 dX3_send_90 (lv_at hl 0 rfl) ?_
            refine lv_iload_n S.1 S.2.1 dX3_send_92 rfl (lv_at hl 4 rfl) ?_
            refine ms_targets S hK hP hD hS (j := P) (by omega) dX3_send_93 (fun H locs hP hD hS => ?_)
            refine lv_aload_n S.1 S.2.1 dX3_send_94 rfl (lv_at hl 2 rfl) ?_
            refine mf_lives S hK hP dX3_send_95 ?_
            refine lv_iload S.1 S.2.1 dX3_send_98 (lv_at hl 0 rfl) ?_
            refine lv_iload_n S.1 S.2.1 dX3_send_100 rfl (lv_at hl 5 rfl) ?_
            refine ms_lives S hK hP hD hS (j := P) (by omega) dX3_send_101 (fun H locs hP hD hS => ?_)
            refine lv_aload_n S.1 S.2.1 dX3_send_102 rfl (lv_at hl 2 rfl) ?_
            refine lv_iload S.1 S.2.1 dX3_send_103 (lv_at hl 0 rfl) ?_
            refine lv_iload_n S.1 S.2.1 dX3_send_105 rfl (lv_at hl 3 rfl) ?_
            refine call_X3_isAt S hK hN hP hD hS hA (r := P) (v := x1) y1 0 (by omega) (by omega) hy1 (by omega) (by show upd _ P (nI y1) P = nI y1; exact pk_us) ((hI.2.2.1.2 P (Nat.le_refl P)).2) hT hI.2.2.2.2.1 hl.1 (Nat.le_of_ble_eq_true rfl) ⟨Nat.le_of_ble_eq_true rfl, Nat.le_of_ble_eq_true rfl⟩ dX3_send_106 ⟨Nat.le_refl _, Nat.le_refl _⟩ (fun H locs hP hD hS => ?_)
            refine lv_iload S.1 S.2.1 dX3_send_109 (lv_at hl 0 rfl) ?_
            have e9 : mSend P (nI x1) (nI y1) (nI z1) τ = mIsAt P x1 (mS 18 P (nI (z1)) (mS 17 P (nI (y1)) (mS 0 16 (nI (P + 1)) (mGoes true true τ)))) := by first | (simp only [mSend, mSendG, mSn1, c1, cl8 hx1, c4, cl8 hy1, c7, nI_clamp (show z1 < 2 ^ 31 by omega), c11, c13, reduceIte, Bool.false_eq_true, eq_self_iff_true, if_true, if_false]; done) | with_reducible rfl | (exfalso; omega)
            rw [e9]
            exact kret_i S hr hlk hP hD hS (by first | (simp only [mSendR, mSendG, c1, cl8 hx1, c4, cl8 hy1, c7, nI_clamp (show z1 < 2 ^ 31 by omega), c11, c13, reduceIte, Bool.false_eq_true, eq_self_iff_true, if_true, if_false]; done) | with_reducible rfl | (exfalso; omega)) dX3_send_111
set_option maxHeartbeats 400000 in
set_option maxRecDepth 100000 in
theorem c_X3_packet (l : Launch) (D : va_G) (cy : Nat → ClassId) (a : Nat → Nat) (X : va_W) (τ : MS) (x : Int32) (z : Int32) (P : Nat) (hI : mI P τ) : MetI l yX3_packet cX3_packet 3 .int (kRm 1 0 0) D (tyA cy) [] [.ref (a 0), .int (x), .int (z)] (X ++ mB cy a τ) (X ++ mB cy a (mT0 τ)) (mPkt x z τ) 0 0 := by
  intro sz
  refine kmet (own := RX3) (by decide) rfl (Nat.le_of_ble_eq_true rfl) (fun p e s m args below meth c S hr hlk hK hN hP hD hsz hA hnm ls hl => ?_)
  have hS : va_S (va_A (X ++ mB cy a τ) sz) s.heap s.heap [] := va_S.rf
  have hl : lv_has ls 3 [(0, .ref (a 0)), (1, .int (x)), (2, .int (z))] := hl
  have hPn : P ≤ 20 := hI.1
  refine lv_aload_n S.1 S.2.1 dX3_packet_0 rfl (lv_at hl 0 rfl) ?_
  refine lv_iconst (v := (nI 0)) S.1 S.2.1 dX3_packet_1 (by decide) ?_
  refine mp_thrown S hK hP hD hS dX3_packet_2 (fun H locs hP hD hS => ?_)
  refine lv_iload_n S.1 S.2.1 dX3_packet_5 rfl (lv_at hl 1 rfl) ?_
  refine lv_iconst (v := (nI 0)) S.1 S.2.1 dX3_packet_6 (by decide) ?_
  refine lv_aload_n S.1 S.2.1 dX3_packet_7 rfl (lv_at hl 0 rfl) ?_
  refine mf_packets S hK hP dX3_packet_8 ?_
  refine lv_iconst (v := (nI 1)) S.1 S.2.1 dX3_packet_11 (by decide) ?_
  refine lv_isub S.1 S.2.1 dX3_packet_12 ?_
  refine call_X3_in S hK hN hP hD hS hA (x := x) (y := nI 0) (z := ((mS 0 0 (nI 0) τ) 0 16) - (nI 1))  hl.1 (Nat.le_of_ble_eq_true rfl) ⟨Nat.le_of_ble_eq_true rfl, Nat.le_of_ble_eq_true rfl⟩ dX3_packet_13 ⟨Nat.le_refl _, Nat.le_refl _⟩ (fun H locs hP hD hS => ?_)
  refine kb_ne (tgt := 21) S dX3_packet_16 (by decide) (fun c1 => ?_) (fun c1 => ?_)
  · obtain ⟨x1, hx1, rfl⟩ := inP_of hI.1 (show (mS 0 0 (nI 0) τ) 0 16 = nI P from hI.2.1) c1
    refine lv_iload_n S.1 S.2.1 dX3_packet_21 rfl (lv_at hl 2 rfl) ?_
    refine lv_bipush (v := (nI 10)) S.1 S.2.1 dX3_packet_22 (by decide) ?_
    refine lv_icmp_lt (tgt := 59) S.1 S.2.1 dX3_packet_24 (by decide) (fun c2 => ?_) (fun c2 => ?_)
    · refine lv_iload_n S.1 S.2.1 dX3_packet_59 rfl (lv_at hl 2 rfl) ?_
      refine lv_if_ne (tgt := 72) S.1 S.2.1 dX3_packet_60 (by decide) (fun c3 => ?_) (fun c3 => ?_)
      · refine lv_iload_n S.1 S.2.1 dX3_packet_72 rfl (lv_at hl 2 rfl) ?_
        refine lv_iconst (v := (nI 1)) S.1 S.2.1 dX3_packet_73 (by decide) ?_
        refine lv_icmp_ne (tgt := 86) S.1 S.2.1 dX3_packet_74 (by decide) (fun c4 => ?_) (fun c4 => ?_)
        · refine lv_iload_n S.1 S.2.1 dX3_packet_86 rfl (lv_at hl 2 rfl) ?_
          refine lv_iconst (v := (nI 2)) S.1 S.2.1 dX3_packet_87 (by decide) ?_
          refine lv_icmp_ne (tgt := 100) S.1 S.2.1 dX3_packet_88 (by decide) (fun c5 => ?_) (fun c5 => ?_)
          · refine lv_iconst (v := (-1)) S.1 S.2.1 dX3_packet_100 (by decide) ?_
            have e9 : mT0 τ = mS 0 0 (nI 0) τ := by first | (simp only [mT0, mT0, c1, nI_clamp (show x1 < 2 ^ 31 by omega), c2, c3, c4, c5, reduceIte, Bool.false_eq_true, eq_self_iff_true, if_true, if_false]; done) | with_reducible rfl | (exfalso; omega)
            rw [e9]
            exact kret_i S hr hlk hP hD hS (by first | (simp only [mPkt, mT0, mPktB, c1, nI_clamp (show x1 < 2 ^ 31 by omega), c2, c3, c4, c5, reduceIte, Bool.false_eq_true, eq_self_iff_true, if_true, if_false]; done) | with_reducible rfl | (exfalso; omega)) dX3_packet_101
          · refine lv_aload_n S.1 S.2.1 dX3_packet_91 rfl (lv_at hl 0 rfl) ?_
            refine mf_traceCounts S hK hP dX3_packet_92 ?_
            refine lv_iload_n S.1 S.2.1 dX3_packet_95 rfl (lv_at hl 1 rfl) ?_
            refine ma_traceCounts S hK hP (j := x1) (by omega) dX3_packet_96 ?_
            refine lv_goto (tgt := 101) S.1 S.2.1 dX3_packet_97 (by decide) ?_
            have e9 : mT0 τ = mS 0 0 (nI 0) τ := by first | (simp only [mT0, mT0, c1, nI_clamp (show x1 < 2 ^ 31 by omega), c2, c3, c4, eq_true c5, reduceIte, Bool.false_eq_true, eq_self_iff_true, if_true, if_false]; done) | with_reducible rfl | (exfalso; omega)
            rw [e9]
            exact kret_i S hr hlk hP hD hS (by first | (simp only [mPkt, mT0, mPktB, c1, nI_clamp (show x1 < 2 ^ 31 by omega), c2, c3, c4, eq_true c5, reduceIte, Bool.false_eq_true, eq_self_iff_true, if_true, if_false]; done) | with_reducible rfl | (exfalso; omega)) dX3_packet_101
        · refine lv_aload_n S.1 S.2.1 dX3_packet_77 rfl (lv_at hl 0 rfl) ?_
          refine mf_lives S hK hP dX3_packet_78 ?_
          refine lv_iload_n S.1 S.2.1 dX3_packet_81 rfl (lv_at hl 1 rfl) ?_
          refine ma_lives S hK hP (j := x1) (by omega) dX3_packet_82 ?_
          refine lv_goto (tgt := 101) S.1 S.2.1 dX3_packet_83 (by decide) ?_
          have e9 : mT0 τ = mS 0 0 (nI 0) τ := by first | (simp only [mT0, mT0, c1, nI_clamp (show x1 < 2 ^ 31 by omega), c2, c3, eq_true c4, reduceIte, Bool.false_eq_true, eq_self_iff_true, if_true, if_false]; done) | with_reducible rfl | (exfalso; omega)
          rw [e9]
          exact kret_i S hr hlk hP hD hS (by first | (simp only [mPkt, mT0, mPktB, c1, nI_clamp (show x1 < 2 ^ 31 by omega), c2, c3, eq_true c4, reduceIte, Bool.false_eq_true, eq_self_iff_true, if_true, if_false]; done) | with_reducible rfl | (exfalso; omega)) dX3_packet_101
      · refine lv_aload_n S.1 S.2.1 dX3_packet_63 rfl (lv_at hl 0 rfl) ?_
        refine mf_states S hK hP dX3_packet_64 ?_
        refine lv_iload_n S.1 S.2.1 dX3_packet_67 rfl (lv_at hl 1 rfl) ?_
        refine ma_states S hK hP (j := x1) (by omega) dX3_packet_68 ?_
        refine lv_goto (tgt := 101) S.1 S.2.1 dX3_packet_69 (by decide) ?_
        have e9 : mT0 τ = mS 0 0 (nI 0) τ := by first | (simp only [mT0, mT0, c1, nI_clamp (show x1 < 2 ^ 31 by omega), c2, eq_true c3, reduceIte, Bool.false_eq_true, eq_self_iff_true, if_true, if_false]; done) | with_reducible rfl | (exfalso; omega)
        rw [e9]
        exact kret_i S hr hlk hP hD hS (by first | (simp only [mPkt, mT0, mPktB, c1, nI_clamp (show x1 < 2 ^ 31 by omega), c2, eq_true c3, reduceIte, Bool.false_eq_true, eq_self_iff_true, if_true, if_false]; done) | with_reducible rfl | (exfalso; omega)) dX3_packet_101
    · refine lv_iload_n S.1 S.2.1 dX3_packet_27 rfl (lv_at hl 2 rfl) ?_
      refine lv_bipush (v := (nI 10)) S.1 S.2.1 dX3_packet_28 (by decide) ?_
      refine lv_isub S.1 S.2.1 dX3_packet_30 ?_
      refine lv_aload_n S.1 S.2.1 dX3_packet_31 rfl (lv_at hl 0 rfl) ?_
      refine mf_traceCounts S hK hP dX3_packet_32 ?_
      refine lv_iload_n S.1 S.2.1 dX3_packet_35 rfl (lv_at hl 1 rfl) ?_
      refine ma_traceCounts S hK hP (j := x1) (by omega) dX3_packet_36 ?_
      refine lv_icmp_ge (tgt := 57) S.1 S.2.1 dX3_packet_37 (by decide) (fun c6 => ?_) (fun c6 => ?_)
      · refine lv_iconst (v := (-1)) S.1 S.2.1 dX3_packet_57 (by decide) ?_
        have e9 : mT0 τ = mS 0 0 (nI 0) τ := by first | (simp only [mT0, mT0, c1, nI_clamp (show x1 < 2 ^ 31 by omega), c2, c6, reduceIte, Bool.false_eq_true, eq_self_iff_true, if_true, if_false]; done) | with_reducible rfl | (exfalso; omega)
        rw [e9]
        exact kret_i S hr hlk hP hD hS (by first | (simp only [mPkt, mT0, mPktB, c1, nI_clamp (show x1 < 2 ^ 31 by omega), c2, c6, reduceIte, Bool.false_eq_true, eq_self_iff_true, if_true, if_false]; done) | with_reducible rfl | (exfalso; omega)) dX3_packet_58
      · obtain ⟨g9, n9, -, hn9, -, htc9, -⟩ := hI.2.2.1.1 x1 hx1
        obtain ⟨t1, ht1, rfl⟩ := pk_z (n := n9) (by omega) (show (mS 0 0 (nI 0) τ) 23 x1 = nI n9 from htc9) c2 c6
        refine lv_aload_n S.1 S.2.1 dX3_packet_40 rfl (lv_at hl 0 rfl) ?_
        refine mf_traces S hK hP dX3_packet_41 ?_
        refine lv_bipush (v := (nI 40)) S.1 S.2.1 dX3_packet_44 (by decide) ?_
        refine lv_iload_n S.1 S.2.1 dX3_packet_46 rfl (lv_at hl 1 rfl) ?_
        refine lv_imul S.1 S.2.1 dX3_packet_47 ?_
        refine k_top (pk_mul _ _) ?_
        refine lv_iload_n S.1 S.2.1 dX3_packet_48 rfl (lv_at hl 2 rfl) ?_
        refine lv_iadd S.1 S.2.1 dX3_packet_49 ?_
        refine k_top (nI_add _ _) ?_
        refine lv_bipush (v := (nI 10)) S.1 S.2.1 dX3_packet_50 (by decide) ?_
        refine lv_isub S.1 S.2.1 dX3_packet_52 ?_
        refine k_top (pk_sub (by omega)) ?_
        refine ma_traces S hK hP (j := (((40 * x1) + (10 + t1)) - 10)) (by omega) dX3_packet_53 ?_
        refine lv_goto (tgt := 58) S.1 S.2.1 dX3_packet_54 (by decide) ?_
        have e9 : mT0 τ = mS 0 0 (nI 0) τ := by first | (simp only [mT0, mT0, c1, nI_clamp (show x1 < 2 ^ 31 by omega), c2, c6, nI_clamp (show 10 + t1 < 2 ^ 31 by omega), reduceIte, Bool.false_eq_true, eq_self_iff_true, if_true, if_false]; done) | with_reducible rfl | (exfalso; omega)
        rw [e9]
        exact kret_i S hr hlk hP hD hS (by first | (simp only [mPkt, mT0, mPktB, c1, nI_clamp (show x1 < 2 ^ 31 by omega), c2, c6, nI_clamp (show 10 + t1 < 2 ^ 31 by omega), reduceIte, Bool.false_eq_true, eq_self_iff_true, if_true, if_false]; done) | with_reducible rfl | (exfalso; omega)) dX3_packet_58
  · refine lv_iconst (v := (-1)) S.1 S.2.1 dX3_packet_19 (by decide) ?_
    have e9 : mT0 τ = mS 0 0 (nI 0) τ := by first | (simp only [mT0, mT0, c1, reduceIte, Bool.false_eq_true, eq_self_iff_true, if_true, if_false]; done) | with_reducible rfl | (exfalso; omega)
    rw [e9]
    exact kret_i S hr hlk hP hD hS (by first | (simp only [mPkt, mT0, mPktB, c1, reduceIte, Bool.false_eq_true, eq_self_iff_true, if_true, if_false]; done) | with_reducible rfl | (exfalso; omega)) dX3_packet_20
