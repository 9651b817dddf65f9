set_option maxHeartbeats 400000 in
set_option maxRecDepth 100000 in
theorem c_X0_isOn (l : Launch) (D : va_G) (cy : Nat → ClassId) (a : Nat → Nat) (X : va_W) (P : Nat) (σ : CS) (r : Nat) (u : Nat) (v : Nat) (hr : r < P) : MetI l yX0_isOn cX0_isOn 5 .boolean (kRm 0 0 0) D (tyA cy) nestC [.ref (a (17 + 2 * r)), .int (nI (u)), .int (nI (v))] (cW X cy a P σ) (cW X cy a P σ) (b2i (isOnB σ u v r)) 0 0 := by
  intro sz
  refine kmet (own := RX0) (by decide) rfl (Nat.le_of_ble_eq_true rfl) (fun p e s m args below meth c S hr hlk hK hN hP hD hsz hA hnm ls hl => ?_)
  have hS : va_S (va_A (cW X cy a P σ) sz) s.heap s.heap [] := va_S.rf
  have hl : lv_has ls 5 [(0, .ref (a (17 + 2 * r))), (1, .int (nI (u))), (2, .int (nI (v)))] := hl
  refine lv_aload_n S.1 S.2.1 dX0_isOn_0 rfl (lv_at hl 0 rfl) ?_
  refine pf_last S hK hP (r := r) (by omega) dX0_isOn_1 ?_
  refine lv_iload_n S.1 S.2.1 dX0_isOn_4 rfl (lv_at hl 1 rfl) ?_
  refine lv_icmp_ne (tgt := 20) S.1 S.2.1 dX0_isOn_5 (by decide) (fun c1 => ?_) (fun c1 => ?_)
  · refine lv_iconst (v := (nI 0)) S.1 S.2.1 dX0_isOn_20 (by decide) ?_
    refine lv_istore_n (lv' := [(3, .int (nI 0)), (0, .ref (a (17 + 2 * r))), (1, .int (nI (u))), (2, .int (nI (v)))]) S.1 S.2.1 dX0_isOn_21 rfl hl (by decide) rfl (fun ls hl => ?_)
    refine lv_aload_n S.1 S.2.1 dX0_isOn_22 rfl (lv_at hl 1 rfl) ?_
    refine pf_last S hK hP (r := r) (by omega) dX0_isOn_23 ?_
    refine lv_iload_n S.1 S.2.1 dX0_isOn_26 rfl (lv_at hl 3 rfl) ?_
    refine lv_icmp_ne (tgt := 42) S.1 S.2.1 dX0_isOn_27 (by decide) (fun c2 => ?_) (fun c2 => ?_)
    · refine lv_iconst (v := (nI 0)) S.1 S.2.1 dX0_isOn_42 (by decide) ?_
      refine lv_istore (lv' := [(4, .int (nI 0)), (3, .int (nI 0)), (0, .ref (a (17 + 2 * r))), (1, .int (nI (u))), (2, .int (nI (v)))]) S.1 S.2.1 dX0_isOn_43 hl (by decide) rfl (fun ls hl => ?_)
      refine lv_aload_n S.1 S.2.1 dX0_isOn_45 rfl (lv_at hl 2 rfl) ?_
      refine pf_state S hK hP (r := r) (by omega) dX0_isOn_46 ?_
      refine lv_if_ne (tgt := 65) S.1 S.2.1 dX0_isOn_49 (by decide) (fun c3 => ?_) (fun c3 => ?_)
      · refine lv_iconst (v := (nI 0)) S.1 S.2.1 dX0_isOn_65 (by decide) ?_
        exact kret_z S hr hlk hP hD hS (by first | rfl | exact b2i_nar _) (by rw [show isOnB σ u v r = false from (by first | (simp only [isOnB, thB, c1, c2, c3, reduceIte, Bool.false_eq_true, eq_self_iff_true, if_true, if_false]; done) | with_reducible rfl | (exfalso; omega))]; decide) dX0_isOn_66
      · refine lv_iload_n S.1 S.2.1 dX0_isOn_52 rfl (lv_at hl 1 rfl) ?_
        refine lv_if_ne (tgt := 61) S.1 S.2.1 dX0_isOn_53 (by decide) (fun c4 => absurd (by decide) c4) (fun _ => ?_)
        refine lv_iload S.1 S.2.1 dX0_isOn_56 (lv_at hl 0 rfl) ?_
        refine lv_if_eq (tgt := 65) S.1 S.2.1 dX0_isOn_58 (by decide) (fun _ => ?_) (fun c5 => absurd (by decide) c5)
        refine lv_iconst (v := (nI 0)) S.1 S.2.1 dX0_isOn_65 (by decide) ?_
        exact kret_z S hr hlk hP hD hS (by first | rfl | exact b2i_nar _) (by rw [show isOnB σ u v r = false from (by first | (simp only [isOnB, thB, c1, c2, eq_true c3, reduceIte, Bool.false_eq_true, eq_self_iff_true, if_true, if_false]; done) | with_reducible rfl | (exfalso; omega))]; decide) dX0_isOn_66
    · refine lv_aload_n S.1 S.2.1 dX0_isOn_30 rfl (lv_at hl 1 rfl) ?_
      refine pf_towards S hK hP (r := r) (by omega) dX0_isOn_31 ?_
      refine lv_iload_n S.1 S.2.1 dX0_isOn_34 rfl (lv_at hl 2 rfl) ?_
      refine lv_icmp_ne (tgt := 42) S.1 S.2.1 dX0_isOn_35 (by decide) (fun c6 => ?_) (fun c6 => ?_)
      · refine lv_iconst (v := (nI 0)) S.1 S.2.1 dX0_isOn_42 (by decide) ?_
        refine lv_istore (lv' := [(4, .int (nI 0)), (3, .int (nI 0)), (0, .ref (a (17 + 2 * r))), (1, .int (nI (u))), (2, .int (nI (v)))]) S.1 S.2.1 dX0_isOn_43 hl (by decide) rfl (fun ls hl => ?_)
        refine lv_aload_n S.1 S.2.1 dX0_isOn_45 rfl (lv_at hl 2 rfl) ?_
        refine pf_state S hK hP (r := r) (by omega) dX0_isOn_46 ?_
        refine lv_if_ne (tgt := 65) S.1 S.2.1 dX0_isOn_49 (by decide) (fun c7 => ?_) (fun c7 => ?_)
        · refine lv_iconst (v := (nI 0)) S.1 S.2.1 dX0_isOn_65 (by decide) ?_
          exact kret_z S hr hlk hP hD hS (by first | rfl | exact b2i_nar _) (by rw [show isOnB σ u v r = false from (by first | (simp only [isOnB, thB, c1, eq_true c2, c6, c7, reduceIte, Bool.false_eq_true, eq_self_iff_true, if_true, if_false]; done) | with_reducible rfl | (exfalso; omega))]; decide) dX0_isOn_66
        · refine lv_iload_n S.1 S.2.1 dX0_isOn_52 rfl (lv_at hl 1 rfl) ?_
          refine lv_if_ne (tgt := 61) S.1 S.2.1 dX0_isOn_53 (by decide) (fun c8 => absurd (by decide) c8) (fun _ => ?_)
          refine lv_iload S.1 S.2.1 dX0_isOn_56 (lv_at hl 0 rfl) ?_
          refine lv_if_eq (tgt := 65) S.1 S.2.1 dX0_isOn_58 (by decide) (fun _ => ?_) (fun c9 => absurd (by decide) c9)
          refine lv_iconst (v := (nI 0)) S.1 S.2.1 dX0_isOn_65 (by decide) ?_
          exact kret_z S hr hlk hP hD hS (by first | rfl | exact b2i_nar _) (by rw [show isOnB σ u v r = false from (by first | (simp only [isOnB, thB, c1, eq_true c2, c6, eq_true c7, reduceIte, Bool.false_eq_true, eq_self_iff_true, if_true, if_false]; done) | with_reducible rfl | (exfalso; omega))]; decide) dX0_isOn_66
      · refine lv_iconst (v := (nI 1)) S.1 S.2.1 dX0_isOn_38 (by decide) ?_
        refine lv_goto (tgt := 43) S.1 S.2.1 dX0_isOn_39 (by decide) ?_
        refine lv_istore (lv' := [(4, .int (nI 1)), (3, .int (nI 0)), (0, .ref (a (17 + 2 * r))), (1, .int (nI (u))), (2, .int (nI (v)))]) S.1 S.2.1 dX0_isOn_43 hl (by decide) rfl (fun ls hl => ?_)
        refine lv_aload_n S.1 S.2.1 dX0_isOn_45 rfl (lv_at hl 2 rfl) ?_
        refine pf_state S hK hP (r := r) (by omega) dX0_isOn_46 ?_
        refine lv_if_ne (tgt := 65) S.1 S.2.1 dX0_isOn_49 (by decide) (fun c10 => ?_) (fun c10 => ?_)
        · refine lv_iconst (v := (nI 0)) S.1 S.2.1 dX0_isOn_65 (by decide) ?_
          exact kret_z S hr hlk hP hD hS (by first | rfl | exact b2i_nar _) (by rw [show isOnB σ u v r = false from (by first | (simp only [isOnB, thB, c1, eq_true c2, eq_true c6, c10, reduceIte, Bool.false_eq_true, eq_self_iff_true, if_true, if_false]; done) | with_reducible rfl | (exfalso; omega))]; decide) dX0_isOn_66
        · refine lv_iload_n S.1 S.2.1 dX0_isOn_52 rfl (lv_at hl 1 rfl) ?_
          refine lv_if_ne (tgt := 61) S.1 S.2.1 dX0_isOn_53 (by decide) (fun c11 => absurd (by decide) c11) (fun _ => ?_)
          refine lv_iload S.1 S.2.1 dX0_isOn_56 (lv_at hl 0 rfl) ?_
          refine lv_if_eq (tgt := 65) S.1 S.2.1 dX0_isOn_58 (by decide) (fun c12 => absurd c12 (by decide)) (fun _ => ?_)
          refine lv_iconst (v := (nI 1)) S.1 S.2.1 dX0_isOn_61 (by decide) ?_
          refine lv_goto (tgt := 66) S.1 S.2.1 dX0_isOn_62 (by decide) ?_
          exact kret_z S hr hlk hP hD hS (by first | rfl | exact b2i_nar _) (by rw [show isOnB σ u v r = true from (by first | (simp only [isOnB, thB, c1, eq_true c2, eq_true c6, eq_true c10, reduceIte, Bool.false_eq_true, eq_self_iff_true, if_true, if_false]; done) | with_reducible rfl | (exfalso; omega))]; decide) dX0_isOn_66
  · refine lv_aload_n S.1 S.2.1 dX0_isOn_8 rfl (lv_at hl 0 rfl) ?_
    refine pf_towards S hK hP (r := r) (by omega) dX0_isOn_9 ?_
    refine lv_iload_n S.1 S.2.1 dX0_isOn_12 rfl (lv_at hl 2 rfl) ?_
    refine lv_icmp_ne (tgt := 20) S.1 S.2.1 dX0_isOn_13 (by decide) (fun c13 => ?_) (fun c13 => ?_)
    · refine lv_iconst (v := (nI 0)) S.1 S.2.1 dX0_isOn_20 (by decide) ?_
      refine lv_istore_n (lv' := [(3, .int (nI 0)), (0, .ref (a (17 + 2 * r))), (1, .int (nI (u))), (2, .int (nI (v)))]) S.1 S.2.1 dX0_isOn_21 rfl hl (by decide) rfl (fun ls hl => ?_)
      refine lv_aload_n S.1 S.2.1 dX0_isOn_22 rfl (lv_at hl 1 rfl) ?_
      refine pf_last S hK hP (r := r) (by omega) dX0_isOn_23 ?_
      refine lv_iload_n S.1 S.2.1 dX0_isOn_26 rfl (lv_at hl 3 rfl) ?_
      refine lv_icmp_ne (tgt := 42) S.1 S.2.1 dX0_isOn_27 (by decide) (fun c14 => ?_) (fun c14 => ?_)
      · refine lv_iconst (v := (nI 0)) S.1 S.2.1 dX0_isOn_42 (by decide) ?_
        refine lv_istore (lv' := [(4, .int (nI 0)), (3, .int (nI 0)), (0, .ref (a (17 + 2 * r))), (1, .int (nI (u))), (2, .int (nI (v)))]) S.1 S.2.1 dX0_isOn_43 hl (by decide) rfl (fun ls hl => ?_)
        refine lv_aload_n S.1 S.2.1 dX0_isOn_45 rfl (lv_at hl 2 rfl) ?_
        refine pf_state S hK hP (r := r) (by omega) dX0_isOn_46 ?_
        refine lv_if_ne (tgt := 65) S.1 S.2.1 dX0_isOn_49 (by decide) (fun c15 => ?_) (fun c15 => ?_)
        · refine lv_iconst (v := (nI 0)) S.1 S.2.1 dX0_isOn_65 (by decide) ?_
          exact kret_z S hr hlk hP hD hS (by first | rfl | exact b2i_nar _) (by rw [show isOnB σ u v r = false from (by first | (simp only [isOnB, thB, eq_true c1, c13, c14, c15, reduceIte, Bool.false_eq_true, eq_self_iff_true, if_true, if_false]; done) | with_reducible rfl | (exfalso; omega))]; decide) dX0_isOn_66
        · refine lv_iload_n S.1 S.2.1 dX0_isOn_52 rfl (lv_at hl 1 rfl) ?_
          refine lv_if_ne (tgt := 61) S.1 S.2.1 dX0_isOn_53 (by decide) (fun c16 => absurd (by decide) c16) (fun _ => ?_)
          refine lv_iload S.1 S.2.1 dX0_isOn_56 (lv_at hl 0 rfl) ?_
          refine lv_if_eq (tgt := 65) S.1 S.2.1 dX0_isOn_58 (by decide) (fun _ => ?_) (fun c17 => absurd (by decide) c17)
          refine lv_iconst (v := (nI 0)) S.1 S.2.1 dX0_isOn_65 (by decide) ?_
          exact kret_z S hr hlk hP hD hS (by first | rfl | exact b2i_nar _) (by rw [show isOnB σ u v r = false from (by first | (simp only [isOnB, thB, eq_true c1, c13, c14, eq_true c15, reduceIte, Bool.false_eq_true, eq_self_iff_true, if_true, if_false]; done) | with_reducible rfl | (exfalso; omega))]; decide) dX0_isOn_66
      · refine lv_aload_n S.1 S.2.1 dX0_isOn_30 rfl (lv_at hl 1 rfl) ?_
        refine pf_towards S hK hP (r := r) (by omega) dX0_isOn_31 ?_
        refine lv_iload_n S.1 S.2.1 dX0_isOn_34 rfl (lv_at hl 2 rfl) ?_
        refine lv_icmp_ne (tgt := 42) S.1 S.2.1 dX0_isOn_35 (by decide) (fun c18 => ?_) (fun c18 => ?_)
        · refine lv_iconst (v := (nI 0)) S.1 S.2.1 dX0_isOn_42 (by decide) ?_
          refine lv_istore (lv' := [(4, .int (nI 0)), (3, .int (nI 0)), (0, .ref (a (17 + 2 * r))), (1, .int (nI (u))), (2, .int (nI (v)))]) S.1 S.2.1 dX0_isOn_43 hl (by decide) rfl (fun ls hl => ?_)
          refine lv_aload_n S.1 S.2.1 dX0_isOn_45 rfl (lv_at hl 2 rfl) ?_
          refine pf_state S hK hP (r := r) (by omega) dX0_isOn_46 ?_
          refine lv_if_ne (tgt := 65) S.1 S.2.1 dX0_isOn_49 (by decide) (fun c19 => ?_) (fun c19 => ?_)
          · refine lv_iconst (v := (nI 0)) S.1 S.2.1 dX0_isOn_65 (by decide) ?_
            exact kret_z S hr hlk hP hD hS (by first | rfl | exact b2i_nar _) (by rw [show isOnB σ u v r = false from (by first | (simp only [isOnB, thB, eq_true c1, c13, eq_true c14, c18, c19, reduceIte, Bool.false_eq_true, eq_self_iff_true, if_true, if_false]; done) | with_reducible rfl | (exfalso; omega))]; decide) dX0_isOn_66
          · refine lv_iload_n S.1 S.2.1 dX0_isOn_52 rfl (lv_at hl 1 rfl) ?_
            refine lv_if_ne (tgt := 61) S.1 S.2.1 dX0_isOn_53 (by decide) (fun c20 => absurd (by decide) c20) (fun _ => ?_)
            refine lv_iload S.1 S.2.1 dX0_isOn_56 (lv_at hl 0 rfl) ?_
            refine lv_if_eq (tgt := 65) S.1 S.2.1 dX0_isOn_58 (by decide) (fun _ => ?_) (fun c21 => absurd (by decide) c21)
            refine lv_iconst (v := (nI 0)) S.1 S.2.1 dX0_isOn_65 (by decide) ?_
            exact kret_z S hr hlk hP hD hS (by first | rfl | exact b2i_nar _) (by rw [show isOnB σ u v r = false from (by first | (simp only [isOnB, thB, eq_true c1, c13, eq_true c14, c18, eq_true c19, reduceIte, Bool.false_eq_true, eq_self_iff_true, if_true, if_false]; done) | with_reducible rfl | (exfalso; omega))]; decide) dX0_isOn_66
        · refine lv_iconst (v := (nI 1)) S.1 S.2.1 dX0_isOn_38 (by decide) ?_
          refine lv_goto (tgt := 43) S.1 S.2.1 dX0_isOn_39 (by decide) ?_
          refine lv_istore (lv' := [(4, .int (nI 1)), (3, .int (nI 0)), (0, .ref (a (17 + 2 * r))), (1, .int (nI (u))), (2, .int (nI (v)))]) S.1 S.2.1 dX0_isOn_43 hl (by decide) rfl (fun ls hl => ?_)
          refine lv_aload_n S.1 S.2.1 dX0_isOn_45 rfl (lv_at hl 2 rfl) ?_
          refine pf_state S hK hP (r := r) (by omega) dX0_isOn_46 ?_
          refine lv_if_ne (tgt := 65) S.1 S.2.1 dX0_isOn_49 (by decide) (fun c22 => ?_) (fun c22 => ?_)
          · refine lv_iconst (v := (nI 0)) S.1 S.2.1 dX0_isOn_65 (by decide) ?_
            exact kret_z S hr hlk hP hD hS (by first | rfl | exact b2i_nar _) (by rw [show isOnB σ u v r = false from (by first | (simp only [isOnB, thB, eq_true c1, c13, eq_true c14, eq_true c18, c22, reduceIte, Bool.false_eq_true, eq_self_iff_true, if_true, if_false]; done) | with_reducible rfl | (exfalso; omega))]; decide) dX0_isOn_66
          · refine lv_iload_n S.1 S.2.1 dX0_isOn_52 rfl (lv_at hl 1 rfl) ?_
            refine lv_if_ne (tgt := 61) S.1 S.2.1 dX0_isOn_53 (by decide) (fun c23 => absurd (by decide) c23) (fun _ => ?_)
            refine lv_iload S.1 S.2.1 dX0_isOn_56 (lv_at hl 0 rfl) ?_
            refine lv_if_eq (tgt := 65) S.1 S.2.1 dX0_isOn_58 (by decide) (fun c24 => absurd c24 (by decide)) (fun _ => ?_)
            refine lv_iconst (v := (nI 1)) S.1 S.2.1 dX0_isOn_61 (by decide) ?_
            refine lv_goto (tgt := 66) S.1 S.2.1 dX0_isOn_62 (by decide) ?_
            exact kret_z S hr hlk hP hD hS (by first | rfl | exact b2i_nar _) (by rw [show isOnB σ u v r = true from (by first | (simp only [isOnB, thB, eq_true c1, c13, eq_true c14, eq_true c18, eq_true c22, reduceIte, Bool.false_eq_true, eq_self_iff_true, if_true, if_false]; done) | with_reducible rfl | (exfalso; omega))]; decide) dX0_isOn_66
    · refine lv_iconst (v := (nI 1)) S.1 S.2.1 dX0_isOn_16 (by decide) ?_
      refine lv_goto (tgt := 21) S.1 S.2.1 dX0_isOn_17 (by decide) ?_
      refine lv_istore_n (lv' := [(3, .int (nI 1)), (0, .ref (a (17 + 2 * r))), (1, .int (nI (u))), (2, .int (nI (v)))]) S.1 S.2.1 dX0_isOn_21 rfl hl (by decide) rfl (fun ls hl => ?_)
      refine lv_aload_n S.1 S.2.1 dX0_isOn_22 rfl (lv_at hl 1 rfl) ?_
      refine pf_last S hK hP (r := r) (by omega) dX0_isOn_23 ?_
      refine lv_iload_n S.1 S.2.1 dX0_isOn_26 rfl (lv_at hl 3 rfl) ?_
      refine lv_icmp_ne (tgt := 42) S.1 S.2.1 dX0_isOn_27 (by decide) (fun c25 => ?_) (fun c25 => ?_)
      · refine lv_iconst (v := (nI 0)) S.1 S.2.1 dX0_isOn_42 (by decide) ?_
        refine lv_istore (lv' := [(4, .int (nI 0)), (3, .int (nI 1)), (0, .ref (a (17 + 2 * r))), (1, .int (nI (u))), (2, .int (nI (v)))]) S.1 S.2.1 dX0_isOn_43 hl (by decide) rfl (fun ls hl => ?_)
        refine lv_aload_n S.1 S.2.1 dX0_isOn_45 rfl (lv_at hl 2 rfl) ?_
        refine pf_state S hK hP (r := r) (by omega) dX0_isOn_46 ?_
        refine lv_if_ne (tgt := 65) S.1 S.2.1 dX0_isOn_49 (by decide) (fun c26 => ?_) (fun c26 => ?_)
        · refine lv_iconst (v := (nI 0)) S.1 S.2.1 dX0_isOn_65 (by decide) ?_
          exact kret_z S hr hlk hP hD hS (by first | rfl | exact b2i_nar _) (by rw [show isOnB σ u v r = false from (by first | (simp only [isOnB, thB, eq_true c1, eq_true c13, c25, c26, reduceIte, Bool.false_eq_true, eq_self_iff_true, if_true, if_false]; done) | with_reducible rfl | (exfalso; omega))]; decide) dX0_isOn_66
        · refine lv_iload_n S.1 S.2.1 dX0_isOn_52 rfl (lv_at hl 1 rfl) ?_
          refine lv_if_ne (tgt := 61) S.1 S.2.1 dX0_isOn_53 (by decide) (fun _ => ?_) (fun c27 => absurd c27 (by decide))
          refine lv_iconst (v := (nI 1)) S.1 S.2.1 dX0_isOn_61 (by decide) ?_
          refine lv_goto (tgt := 66) S.1 S.2.1 dX0_isOn_62 (by decide) ?_
          exact kret_z S hr hlk hP hD hS (by first | rfl | exact b2i_nar _) (by rw [show isOnB σ u v r = true from (by first | (simp only [isOnB, thB, eq_true c1, eq_true c13, c25, eq_true c26, reduceIte, Bool.false_eq_true, eq_self_iff_true, if_true, if_false]; done) | with_reducible rfl | (exfalso; omega))]; decide) dX0_isOn_66
      · refine lv_aload_n S.1 S.2.1 dX0_isOn_30 rfl (lv_at hl 1 rfl) ?_
        refine pf_towards S hK hP (r := r) (by omega) dX0_isOn_31 ?_
        refine lv_iload_n S.1 S.2.1 dX0_isOn_34 rfl (lv_at hl 2 rfl) ?_
        refine lv_icmp_ne (tgt := 42) S.1 S.2.1 dX0_isOn_35 (by decide) (fun c28 => ?_) (fun c28 => ?_)
        · refine lv_iconst (v := (nI 0)) S.1 S.2.1 dX0_isOn_42 (by decide) ?_
          refine lv_istore (lv' := [(4, .int (nI 0)), (3, .int (nI 1)), (0, .ref (a (17 + 2 * r))), (1, .int (nI (u))), (2, .int (nI (v)))]) S.1 S.2.1 dX0_isOn_43 hl (by decide) rfl (fun ls hl => ?_)
          refine lv_aload_n S.1 S.2.1 dX0_isOn_45 rfl (lv_at hl 2 rfl) ?_
          refine pf_state S hK hP (r := r) (by omega) dX0_isOn_46 ?_
          refine lv_if_ne (tgt := 65) S.1 S.2.1 dX0_isOn_49 (by decide) (fun c29 => ?_) (fun c29 => ?_)
          · refine lv_iconst (v := (nI 0)) S.1 S.2.1 dX0_isOn_65 (by decide) ?_
            exact kret_z S hr hlk hP hD hS (by first | rfl | exact b2i_nar _) (by rw [show isOnB σ u v r = false from (by first | (simp only [isOnB, thB, eq_true c1, eq_true c13, eq_true c25, c28, c29, reduceIte, Bool.false_eq_true, eq_self_iff_true, if_true, if_false]; done) | with_reducible rfl | (exfalso; omega))]; decide) dX0_isOn_66
          · refine lv_iload_n S.1 S.2.1 dX0_isOn_52 rfl (lv_at hl 1 rfl) ?_
            refine lv_if_ne (tgt := 61) S.1 S.2.1 dX0_isOn_53 (by decide) (fun _ => ?_) (fun c30 => absurd c30 (by decide))
            refine lv_iconst (v := (nI 1)) S.1 S.2.1 dX0_isOn_61 (by decide) ?_
            refine lv_goto (tgt := 66) S.1 S.2.1 dX0_isOn_62 (by decide) ?_
            exact kret_z S hr hlk hP hD hS (by first | rfl | exact b2i_nar _) (by rw [show isOnB σ u v r = true from (by first | (simp only [isOnB, thB, eq_true c1, eq_true c13, eq_true c25, c28, eq_true c29, reduceIte, Bool.false_eq_true, eq_self_iff_true, if_true, if_false]; done) | with_reducible rfl | (exfalso; omega))]; decide) dX0_isOn_66
        · refine lv_iconst (v := (nI 1)) S.1 S.2.1 dX0_isOn_38 (by decide) ?_
          refine lv_goto (tgt := 43) S.1 S.2.1 dX0_isOn_39 (by decide) ?_
          refine lv_istore (lv' := [(4, .int (nI 1)), (3, .int (nI 1)), (0, .ref (a (17 + 2 * r))), (1, .int (nI (u))), (2, .int (nI (v)))]) S.1 S.2.1 dX0_isOn_43 hl (by decide) rfl (fun ls hl => ?_)
          refine lv_aload_n S.1 S.2.1 dX0_isOn_45 rfl (lv_at hl 2 rfl) ?_
          refine pf_state S hK hP (r := r) (by omega) dX0_isOn_46 ?_
          refine lv_if_ne (tgt := 65) S.1 S.2.1 dX0_isOn_49 (by decide) (fun c31 => ?_) (fun c31 => ?_)
          · refine lv_iconst (v := (nI 0)) S.1 S.2.1 dX0_isOn_65 (by decide) ?_
            exact kret_z S hr hlk hP hD hS (by first | rfl | exact b2i_nar _) (by rw [show isOnB σ u v r = false from (by first | (simp only [isOnB, thB, eq_true c1, eq_true c13, eq_true c25, eq_true c28, c31, reduceIte, Bool.false_eq_true, eq_self_iff_true, if_true, if_false]; done) | with_reducible rfl | (exfalso; omega))]; decide) dX0_isOn_66
          · refine lv_iload_n S.1 S.2.1 dX0_isOn_52 rfl (lv_at hl 1 rfl) ?_
            refine lv_if_ne (tgt := 61) S.1 S.2.1 dX0_isOn_53 (by decide) (fun _ => ?_) (fun c32 => absurd c32 (by decide))
            refine lv_iconst (v := (nI 1)) S.1 S.2.1 dX0_isOn_61 (by decide) ?_
            refine lv_goto (tgt := 66) S.1 S.2.1 dX0_isOn_62 (by decide) ?_
            exact kret_z S hr hlk hP hD hS (by first | rfl | exact b2i_nar _) (by rw [show isOnB σ u v r = true from (by first | (simp only [isOnB, thB, eq_true c1, eq_true c13, eq_true c25, eq_true c28, eq_true c31, reduceIte, Bool.false_eq_true, eq_self_iff_true, if_true, if_false]; done) | with_reducible rfl | (exfalso; omega))]; decide) dX0_isOn_66
theorem call_X0_isOn {p : Program} {l : Launch} {e : Env} {R : Room} {s : State} {m : MethodId} {args : Array Value} {below : List Frame} {meth : Method} {c : Code} {H : Heap} {locs : List Loc} {cells slots : Nat} {Q : State → Prop} {cc : ByteArray} {pc nL : Nat} {ls : Array Slot} {rest : List Value} {D : va_G} {A : Nat → Prop} {w0 : Cond} {X : va_W} {cy : Nat → ClassId} {a : Nat → Nat} {P : Nat} {σ : CS} (S : CallFix p m c cc nL s args (w0 :: gw) RX2) (hK : va_K D vwCl (tyA cy) s) (hN : kN nestC s) (hP : va_P D vwCl (cW X cy a P σ) H) (hD : va_D A (cW X cy a P σ)) (hS : va_S A s.heap H locs) (hA : ∀ q, s.heap.size ≤ q → A q) {r : Nat} {u : Nat} {v : Nat} (hr : r < P) (hsz : ls.size = nL) (hW : (rest.map fun v => v.category).sum ≤ 8) (hR : 0 + 1 ≤ R.frames ∧ 8 + (5 + 11) + 32 * 0 ≤ R.locals) (hdg : decode cc pc = .ok (.invokevirtual 195, 3)) (hfc : cells ≤ R.cells ∧ slots ≤ R.slots)
    (kk : ∀ (H1 : Heap) (locs1 : List Loc), va_P D vwCl (cW X cy a P σ) H1 → va_D A (cW X cy a P σ) → va_S A s.heap H1 locs1 → W p l e R s m args below meth c H1 locs1 cells slots Q (F0 m (pc + 3) ls (.int (b2i (isOnB σ u v r)) :: rest))) : W p l e R s m args below meth c H locs cells slots Q (F0 m pc ls (.int (nI (v)) :: .int (nI (u)) :: .ref (a (17 + 2 * r)) :: rest)) :=
  kgo_i (va_runVN (As := [.int (nI (u)), .int (nI (v))]) (rest := rest) S (c_X0_isOn l D cy a X P σ r u v hr H.size) ⟨va_cnB 2 S.2.2.2.2 (gw_good_in wm_369) rfl rfl rfl (hN _ nc_10) (S.2.2.2.2 _ (List.mem_cons_of_mem _ wm_57)) (by decide +kernel) hR, (S.2.2.2.2 _ (List.mem_cons_of_mem _ wm_367)), (S.2.2.2.2 _ (List.mem_cons_of_mem _ wm_22))⟩ ⟨kblind nestC_ok, precv hK hP hr, kpre nestC_ok hN hK hP hD⟩ rfl rfl hsz rfl (lv_room hW) hdg hfc) hD hS hA kk
set_option maxHeartbeats 400000 in
set_option maxRecDepth 100000 in
theorem c_X0_visit (l : Launch) (D : va_G) (cy : Nat → ClassId) (a : Nat → Nat) (X : va_W) (P : Nat) (σ : CS) (r : Nat) (v : Nat) (hr : r < P) (n : Nat) (hn : n ≤ 31) (htl : σ.1 13 r = nI n) : MetV l yX0_visit cX0_visit 2 (kRm 0 0 0) D (tyA cy) nestC [.ref (a (17 + 2 * r)), .int (nI (v))] (cW X cy a P σ) (cW X cy a P (cVis r v σ)) 0 0 := by
  intro sz
  refine kmet (own := RX0) (by decide) rfl (Nat.le_of_ble_eq_true rfl) (fun p e s m args below meth c S hr hlk hK hN hP hD hsz hA hnm ls hl => ?_)
  have hS : va_S (va_A (cW X cy a P σ) sz) s.heap s.heap [] := va_S.rf
  have hl : lv_has ls 2 [(0, .ref (a (17 + 2 * r))), (1, .int (nI (v)))] := hl
  have hnc : (σ.1 13 r).toNatClampNeg = n := by rw [htl]; exact nI_clamp (by omega)
  refine lv_aload_n S.1 S.2.1 dX0_visit_0 rfl (lv_at hl 0 rfl) ?_
  refine lv_iload_n S.1 S.2.1 dX0_visit_1 rfl (lv_at hl 1 rfl) ?_
  refine pp_last S hK hP hD hS (r := r) (by omega) dX0_visit_2 (fun H locs hP hD hS => ?_)
  refine lv_aload_n S.1 S.2.1 dX0_visit_5 rfl (lv_at hl 0 rfl) ?_
  refine pf_traceLength S hK hP (r := r) (by omega) dX0_visit_6 ?_
  refine k_top (y := nI n) (by first | exact htl | (rw [sI_k (by omega)]; exact htl)) ?_
  refine lv_aload_n S.1 S.2.1 dX0_visit_9 rfl (lv_at hl 0 rfl) ?_
  refine pf_trace S hK hP (r := r) (by omega) dX0_visit_10 ?_
  refine pt_len S hK hP (r := r) (by omega) dX0_visit_13 ?_
  refine lv_icmp_ge (tgt := 37) S.1 S.2.1 dX0_visit_14 (by decide) (fun c1 => ?_) (fun c1 => ?_)
  · have c1 : 31 ≤ n := (nI_leI (a := 31) (b := n) (by omega) (by omega)).mp c1
    have e9 : cVis r v σ = sI 16 r (nI (v)) σ := by first | (simp only [cVis, vis1, hnc, c1, reduceIte, Bool.false_eq_true, eq_self_iff_true, if_true, if_false]; done) | with_reducible rfl | (exfalso; omega)
    rw [e9]
    exact kret_v S hr hlk hP hD hS dX0_visit_37
  · have c1 : ¬ 31 ≤ n := fun h => c1 ((nI_leI (a := 31) (b := n) (by omega) (by omega)).mpr h)
    refine lv_aload_n S.1 S.2.1 dX0_visit_17 rfl (lv_at hl 0 rfl) ?_
    refine pf_trace S hK hP (r := r) (by omega) dX0_visit_18 ?_
    refine lv_aload_n S.1 S.2.1 dX0_visit_21 rfl (lv_at hl 0 rfl) ?_
    refine pf_traceLength S hK hP (r := r) (by omega) dX0_visit_22 ?_
    refine k_top (y := nI n) (by first | exact htl | (rw [sI_k (by omega)]; exact htl)) ?_
    refine lv_iload_n S.1 S.2.1 dX0_visit_25 rfl (lv_at hl 1 rfl) ?_
    refine pt_st S hK hP hD hS (r := r) (by omega) (j := n) (by omega) dX0_visit_26 (fun H locs hP hD hS => ?_)
    refine lv_aload_n S.1 S.2.1 dX0_visit_27 rfl (lv_at hl 0 rfl) ?_
    refine lv_dup S.1 S.2.1 dX0_visit_28 rfl ?_
    refine pf_traceLength S hK hP (r := r) (by omega) dX0_visit_29 ?_
    refine k_top (y := nI n) (by first | exact htl | (rw [sI_k (by omega)]; exact htl)) ?_
    refine lv_iconst (v := (nI 1)) S.1 S.2.1 dX0_visit_32 (by decide) ?_
    refine lv_iadd S.1 S.2.1 dX0_visit_33 ?_
    refine k_top (nI_add _ _) ?_
    refine pp_traceLength S hK hP hD hS (r := r) (by omega) dX0_visit_34 (fun H locs hP hD hS => ?_)
    have e9 : cVis r v σ = sI 13 r (nI (n + 1)) (sI (19 + r) n (nI (v)) (sI 16 r (nI (v)) σ)) := by first | (simp only [cVis, vis1, hnc, c1, reduceIte, Bool.false_eq_true, eq_self_iff_true, if_true, if_false]; done) | with_reducible rfl | (exfalso; omega)
    rw [e9]
    exact kret_v S hr hlk hP hD hS dX0_visit_37
theorem call_X0_visit {p : Program} {l : Launch} {e : Env} {R : Room} {s : State} {m : MethodId} {args : Array Value} {below : List Frame} {meth : Method} {c : Code} {H : Heap} {locs : List Loc} {cells slots : Nat} {Q : State → Prop} {cc : ByteArray} {pc nL : Nat} {ls : Array Slot} {rest : List Value} {D : va_G} {A : Nat → Prop} {w0 : Cond} {X : va_W} {cy : Nat → ClassId} {a : Nat → Nat} {P : Nat} {σ : CS} (S : CallFix p m c cc nL s args (w0 :: gw) RX2) (hK : va_K D vwCl (tyA cy) s) (hN : kN nestC s) (hP : va_P D vwCl (cW X cy a P σ) H) (hD : va_D A (cW X cy a P σ)) (hS : va_S A s.heap H locs) (hA : ∀ q, s.heap.size ≤ q → A q) {r : Nat} {v : Nat} (hr : r < P) (n : Nat) (hn : n ≤ 31) (htl : σ.1 13 r = nI n) (hsz : ls.size = nL) (hW : (rest.map fun v => v.category).sum ≤ 8) (hR : 0 + 1 ≤ R.frames ∧ 8 + (2 + 11) + 32 * 0 ≤ R.locals) (hdg : decode cc pc = .ok (.invokevirtual 230, 3)) (hfc : cells ≤ R.cells ∧ slots ≤ R.slots)
    (kk : ∀ (H1 : Heap) (locs1 : List Loc), va_P D vwCl (cW X cy a P (cVis r v σ)) H1 → va_D A (cW X cy a P (cVis r v σ)) → va_S A s.heap H1 locs1 → W p l e R s m args below meth c H1 locs1 cells slots Q (F0 m (pc + 3) ls (rest))) : W p l e R s m args below meth c H locs cells slots Q (F0 m pc ls (.int (nI (v)) :: .ref (a (17 + 2 * r)) :: rest)) :=
  kgo_v (va_runVN (As := [.int (nI (v))]) (rest := rest) S (c_X0_visit l D cy a X P σ r v hr n hn htl H.size) ⟨va_cnB 1 S.2.2.2.2 (gw_good_in wm_432) rfl rfl rfl (hN _ nc_12) (S.2.2.2.2 _ (List.mem_cons_of_mem _ wm_57)) (by decide +kernel) hR, (S.2.2.2.2 _ (List.mem_cons_of_mem _ wm_431)), (S.2.2.2.2 _ (List.mem_cons_of_mem _ wm_30))⟩ ⟨kblind nestC_ok, precv hK hP hr, kpre nestC_ok hN hK hP hD⟩ rfl rfl hsz rfl (lv_room hW) hdg hfc) hD hS hA kk
set_option maxHeartbeats 400000 in
set_option maxRecDepth 100000 in
theorem c_X2_emptyLink (l : Launch) (D : va_G) (cy : Nat → ClassId) (a : Nat → Nat) (X : va_W) (P : Nat) (σ : CS) (u : Nat) (v : Nat) (hu : u < 8) (hv : v < 8) (hI : cI P σ) : MetV l yX2_emptyLink cX2_emptyLink 7 (kRm 1 0 0) D (tyA cy) nestC [.ref (a 0), .int (nI (u)), .int (nI (v))] (cW X cy a P σ) (cW X cy a P (cEmpty P u v σ)) 0 0 := by
  intro sz
  refine kmet (own := RX2) (by decide) rfl (Nat.le_of_ble_eq_true rfl) (fun p e s m args below meth c S hr hlk hK hN hP hD hsz hA hnm ls hl => ?_)
  have hS : va_S (va_A (cW X cy a P σ) sz) s.heap s.heap [] := va_S.rf
  have hl : lv_has ls 7 [(0, .ref (a 0)), (1, .int (nI (u))), (2, .int (nI (v)))] := hl
  have hPn : P ≤ 20 := hI.1
  refine lv_iconst (v := (nI 0)) S.1 S.2.1 dX2_emptyLink_0 (by decide) ?_
  refine lv_istore_n (lv' := [(3, .int (nI 0)), (0, .ref (a 0)), (1, .int (nI (u))), (2, .int (nI (v)))]) S.1 S.2.1 dX2_emptyLink_1 rfl hl (by decide) rfl (fun ls hl => ?_)
  have lp1 : ∀ (n1 i1 : Nat) (σ1 : CS), i1 + n1 = 8 → itr (fEm1 u v) n1 i1 σ1 = itr (fEm1 u v) 8 0 σ → cI P σ1 → ∀ (H : Heap) (locs : List Loc), va_P D vwCl (cW X cy a P σ1) H → va_D (va_A (cW X cy a P σ) sz) (cW X cy a P σ1) → va_S (va_A (cW X cy a P σ) sz) s.heap H locs → ∀ ls : Array Slot, lv_has ls 7 [(3, .int (nI (i1))), (0, .ref (a 0)), (1, .int (nI (u))), (2, .int (nI (v)))] → W p l e (kRm 1 0 0) s m args below meth c H locs 0 0 (MQ below (kQv D (cW X cy a P σ) (cW X cy a P (cEmpty P u v σ)) sz) args s 0 0 (va_A (cW X cy a P σ) sz)) (F0 m 2 ls []) := by
    intro n1
    induction n1 with
    | zero =>
      intro i1 σ1 hi1 he1 hv1 H locs hP hD hS ls hl
      have hi1 : i1 = 8 := by omega
      have he1 : σ1 = itr (fEm1 u v) 8 0 σ := he1
      refine lv_iload_n S.1 S.2.1 dX2_emptyLink_2 rfl (lv_at hl 0 rfl) ?_
      refine lv_bipush (v := (nI 8)) S.1 S.2.1 dX2_emptyLink_3 (by decide) ?_
      refine lv_icmp_ge (tgt := 40) S.1 S.2.1 dX2_emptyLink_5 (by decide) (fun _ => ?_) (fun c => absurd (nI_le (by omega) (by omega)) c)
      refine lv_aload_n S.1 S.2.1 dX2_emptyLink_40 rfl (lv_at hl 1 rfl) ?_
      refine cf_net_packets S hK hP dX2_emptyLink_41 ?_
      refine lv_astore_n (lv' := [(3, .ref (a 16)), (0, .ref (a 0)), (1, .int (nI (u))), (2, .int (nI (v)))]) S.1 S.2.1 dX2_emptyLink_44 rfl hl (by decide) rfl (fun ls hl => ?_)
      refine lv_aload_n S.1 S.2.1 dX2_emptyLink_45 rfl (lv_at hl 0 rfl) ?_
      refine pa_len S hK hP dX2_emptyLink_46 ?_
      refine lv_istore (lv' := [(4, .int (nI 20)), (3, .ref (a 16)), (0, .ref (a 0)), (1, .int (nI (u))), (2, .int (nI (v)))]) S.1 S.2.1 dX2_emptyLink_47 hl (by decide) rfl (fun ls hl => ?_)
      refine lv_iconst (v := (nI 0)) S.1 S.2.1 dX2_emptyLink_49 (by decide) ?_
      refine lv_istore (lv' := [(5, .int (nI 0)), (4, .int (nI 20)), (3, .ref (a 16)), (0, .ref (a 0)), (1, .int (nI (u))), (2, .int (nI (v)))]) S.1 S.2.1 dX2_emptyLink_50 hl (by decide) rfl (fun ls hl => ?_)
      have lp3 : ∀ (n3 i3 : Nat) (σ3 : CS), i3 + n3 = 20 → itr (fEm2 P u v) n3 i3 σ3 = itr (fEm2 P u v) 20 0 σ1 → cI P σ3 → ∀ (H : Heap) (locs : List Loc), va_P D vwCl (cW X cy a P σ3) H → va_D (va_A (cW X cy a P σ) sz) (cW X cy a P σ3) → va_S (va_A (cW X cy a P σ) sz) s.heap H locs → ∀ ls : Array Slot, lv_has ls 7 [(5, .int (nI (i3))), (4, .int (nI 20)), (3, .ref (a 16)), (0, .ref (a 0)), (1, .int (nI (u))), (2, .int (nI (v)))] → W p l e (kRm 1 0 0) s m args below meth c H locs 0 0 (MQ below (kQv D (cW X cy a P σ) (cW X cy a P (cEmpty P u v σ)) sz) args s 0 0 (va_A (cW X cy a P σ) sz)) (F0 m 52 ls []) := by
        intro n3
        induction n3 with
        | zero =>
          intro i3 σ3 hi3 he3 hv3 H locs hP hD hS ls hl
          have hi3 : i3 = 20 := by omega
          have he3 : σ3 = itr (fEm2 P u v) 20 0 σ1 := he3
          refine lv_iload S.1 S.2.1 dX2_emptyLink_52 (lv_at hl 0 rfl) ?_
          refine lv_iload S.1 S.2.1 dX2_emptyLink_54 (lv_at hl 1 rfl) ?_
          refine lv_icmp_ge (tgt := 92) S.1 S.2.1 dX2_emptyLink_56 (by decide) (fun _ => ?_) (fun c => absurd (nI_le (by omega) (by omega)) c)
          have e9 : cEmpty P u v σ = σ3 := by first | (simp only [cEmpty, ← he1, ← he3, reduceIte, Bool.false_eq_true, eq_self_iff_true, if_true, if_false]; done) | with_reducible rfl | (exfalso; omega)
          rw [e9]
          exact kret_v S hr hlk hP hD hS dX2_emptyLink_92
        | succ n3 ih3 =>
          intro i3 σ3 hi3 he3 hv3 H locs hP hD hS ls hl
          have hlt3 : i3 < 20 := by omega
          refine lv_iload S.1 S.2.1 dX2_emptyLink_52 (lv_at hl 0 rfl) ?_
          refine lv_iload S.1 S.2.1 dX2_emptyLink_54 (lv_at hl 1 rfl) ?_
          refine lv_icmp_ge (tgt := 92) S.1 S.2.1 dX2_emptyLink_56 (by decide) (fun c => absurd c (nI_ge (by omega) (by omega))) (fun _ => ?_)
          refine lv_aload_n S.1 S.2.1 dX2_emptyLink_59 rfl (lv_at hl 2 rfl) ?_
          refine lv_iload S.1 S.2.1 dX2_emptyLink_60 (lv_at hl 0 rfl) ?_
          by_cases hp6 : i3 < P
          · refine pa_ld S hK hP (r := i3) hp6 (by omega) dX2_emptyLink_62 ?_
            refine lv_astore (lv' := [(6, .ref (a (17 + 2 * i3))), (5, .int (nI (i3))), (4, .int (nI 20)), (3, .ref (a 16)), (0, .ref (a 0)), (1, .int (nI (u))), (2, .int (nI (v)))]) S.1 S.2.1 dX2_emptyLink_63 hl (by decide) rfl (fun ls hl => ?_)
            refine lv_aload S.1 S.2.1 dX2_emptyLink_65 (lv_at hl 0 rfl) ?_
            refine lv_ifnull S.1 S.2.1 dX2_emptyLink_67 ?_
            refine lv_aload S.1 S.2.1 dX2_emptyLink_70 (lv_at hl 0 rfl) ?_
            refine lv_iload_n S.1 S.2.1 dX2_emptyLink_72 rfl (lv_at hl 5 rfl) ?_
            refine lv_iload_n S.1 S.2.1 dX2_emptyLink_73 rfl (lv_at hl 6 rfl) ?_
            refine call_X0_isOn S hK hN hP hD hS hA (r := i3) (u := u) (v := v) (by omega) hl.1 (Nat.le_of_ble_eq_true rfl) ⟨Nat.le_of_ble_eq_true rfl, Nat.le_of_ble_eq_true rfl⟩ dX2_emptyLink_74 ⟨Nat.le_refl _, Nat.le_refl _⟩ (fun H locs hP hD hS => ?_)
            refine kb_eq (tgt := 86) S dX2_emptyLink_77 (by decide) (fun c7 => ?_) (fun c7 => ?_)
            · refine lv_iinc (v := (nI (i3 + 1))) (lv' := [(5, .int (nI (i3 + 1))), (6, .ref (a (17 + 2 * i3))), (4, .int (nI 20)), (3, .ref (a 16)), (0, .ref (a 0)), (1, .int (nI (u))), (2, .int (nI (v)))]) S.1 S.2.1 dX2_emptyLink_86 hl (k := 1) rfl (nI_add _ 1) (by decide) rfl (fun ls hl => ?_)
              refine lv_goto (tgt := 52) S.1 S.2.1 dX2_emptyLink_89 (by decide) ?_
              exact ih3 (i3 + 1) σ3 (by omega) (itr_step he3 (by first | (simp only [fEm2, ← he1, eq_true hp6, c7, reduceIte, Bool.false_eq_true, eq_self_iff_true, if_true, if_false]; done) | with_reducible rfl | (exfalso; omega))) (by have h9 : cI P ((fEm2 P u v) i3 σ3) := fEm2_I i3 hv3; have e8 : (fEm2 P u v) i3 σ3 = σ3 := (by first | (simp only [fEm2, ← he1, eq_true hp6, c7, reduceIte, Bool.false_eq_true, eq_self_iff_true, if_true, if_false]; done) | with_reducible rfl | (exfalso; omega)); rw [e8] at h9; exact h9) _ _ hP hD hS _ (lv_sub hl [0, 2, 3, 4, 5, 6] rfl)
            · refine lv_aload S.1 S.2.1 dX2_emptyLink_80 (lv_at hl 0 rfl) ?_
              refine lv_iconst (v := (nI 3)) S.1 S.2.1 dX2_emptyLink_82 (by decide) ?_
              refine pq_state S hK hN hP hD hS (r := i3) (by omega) dX2_emptyLink_83 (fun H locs hP hD hS => ?_)
              refine lv_iinc (v := (nI (i3 + 1))) (lv' := [(5, .int (nI (i3 + 1))), (6, .ref (a (17 + 2 * i3))), (4, .int (nI 20)), (3, .ref (a 16)), (0, .ref (a 0)), (1, .int (nI (u))), (2, .int (nI (v)))]) S.1 S.2.1 dX2_emptyLink_86 hl (k := 1) rfl (nI_add _ 1) (by decide) rfl (fun ls hl => ?_)
              refine lv_goto (tgt := 52) S.1 S.2.1 dX2_emptyLink_89 (by decide) ?_
              exact ih3 (i3 + 1) (sI 15 i3 (nI 3) σ3) (by omega) (itr_step he3 (by first | (simp only [fEm2, ← he1, eq_true hp6, c7, reduceIte, Bool.false_eq_true, eq_self_iff_true, if_true, if_false]; done) | with_reducible rfl | (exfalso; omega))) (by have h9 : cI P ((fEm2 P u v) i3 σ3) := fEm2_I i3 hv3; have e8 : (fEm2 P u v) i3 σ3 = sI 15 i3 (nI 3) σ3 := (by first | (simp only [fEm2, ← he1, eq_true hp6, c7, reduceIte, Bool.false_eq_true, eq_self_iff_true, if_true, if_false]; done) | with_reducible rfl | (exfalso; omega)); rw [e8] at h9; exact h9) _ _ hP hD hS _ (lv_sub hl [0, 2, 3, 4, 5, 6] rfl)
          · refine pa_nl S hK hP (r := i3) hp6 (by omega) dX2_emptyLink_62 ?_
            refine lv_astoreN (lv' := [(6, .null), (5, .int (nI (i3))), (4, .int (nI 20)), (3, .ref (a 16)), (0, .ref (a 0)), (1, .int (nI (u))), (2, .int (nI (v)))]) S.1 S.2.1 dX2_emptyLink_63 hl (by decide) rfl (fun ls hl => ?_)
            refine lv_aloadN S.1 S.2.1 dX2_emptyLink_65 (lv_at hl 0 rfl) ?_
            refine lv_ifnullN (tgt := 86) S.1 S.2.1 dX2_emptyLink_67 (by decide) ?_
            refine lv_iinc (v := (nI (i3 + 1))) (lv' := [(5, .int (nI (i3 + 1))), (6, .null), (4, .int (nI 20)), (3, .ref (a 16)), (0, .ref (a 0)), (1, .int (nI (u))), (2, .int (nI (v)))]) S.1 S.2.1 dX2_emptyLink_86 hl (k := 1) rfl (nI_add _ 1) (by decide) rfl (fun ls hl => ?_)
            refine lv_goto (tgt := 52) S.1 S.2.1 dX2_emptyLink_89 (by decide) ?_
            exact ih3 (i3 + 1) σ3 (by omega) (itr_step he3 (by first | (simp only [fEm2, ← he1, hp6, reduceIte, Bool.false_eq_true, eq_self_iff_true, if_true, if_false]; done) | with_reducible rfl | (exfalso; omega))) (by have h9 : cI P ((fEm2 P u v) i3 σ3) := fEm2_I i3 hv3; have e8 : (fEm2 P u v) i3 σ3 = σ3 := (by first | (simp only [fEm2, ← he1, hp6, reduceIte, Bool.false_eq_true, eq_self_iff_true, if_true, if_false]; done) | with_reducible rfl | (exfalso; omega)); rw [e8] at h9; exact h9) _ _ hP hD hS _ (lv_sub hl [0, 2, 3, 4, 5, 6] rfl)
      exact lp3 20 0 σ1 (by omega) rfl (show cI P σ1 from hv1) _ _ hP hD hS _ (lv_sub hl [0, 1, 2, 3, 4, 5] rfl)
    | succ n1 ih1 =>
      intro i1 σ1 hi1 he1 hv1 H locs hP hD hS ls hl
      have hlt1 : i1 < 8 := by omega
      refine lv_iload_n S.1 S.2.1 dX2_emptyLink_2 rfl (lv_at hl 0 rfl) ?_
      refine lv_bipush (v := (nI 8)) S.1 S.2.1 dX2_emptyLink_3 (by decide) ?_
      refine lv_icmp_ge (tgt := 40) S.1 S.2.1 dX2_emptyLink_5 (by decide) (fun c => absurd c (nI_ge (by omega) (by omega))) (fun _ => ?_)
      refine lv_aload_n S.1 S.2.1 dX2_emptyLink_8 rfl (lv_at hl 1 rfl) ?_
      refine cf_net_inFlight S hK hP dX2_emptyLink_9 ?_
      refine lv_iload_n S.1 S.2.1 dX2_emptyLink_12 rfl (lv_at hl 2 rfl) ?_
      refine lv_iload_n S.1 S.2.1 dX2_emptyLink_13 rfl (lv_at hl 3 rfl) ?_
      refine lv_iload_n S.1 S.2.1 dX2_emptyLink_14 rfl (lv_at hl 0 rfl) ?_
      refine call_X2_flightRow S hK hN hP hD hS hA (u := u) (v := v) (o := i1)  hl.1 (Nat.le_of_ble_eq_true rfl) ⟨Nat.le_of_ble_eq_true rfl, Nat.le_of_ble_eq_true rfl⟩ dX2_emptyLink_15 ⟨Nat.le_refl _, Nat.le_refl _⟩ (fun H locs hP hD hS => ?_)
      refine call_X1_clear_inFlight_X2 S hK hN hP hD hS hA (row := (u * 8 + v) * 8 + i1) (by omega) hl.1 (Nat.le_of_ble_eq_true rfl) ⟨Nat.le_of_ble_eq_true rfl, Nat.le_of_ble_eq_true rfl⟩ dX2_emptyLink_18 ⟨Nat.le_refl _, Nat.le_refl _⟩ (fun H locs hP hD hS => ?_)
      rw [cW_eq (show keep σ1 (pClear 8 1 4 ((u * 8 + v) * 8 + i1) σ1) from pClear_keep (by decide) (by decide) (by decide))] at hP hD
      refine lv_aload_n S.1 S.2.1 dX2_emptyLink_21 rfl (lv_at hl 1 rfl) ?_
      refine cf_net_inFlight S hK hP dX2_emptyLink_22 ?_
      refine lv_iload_n S.1 S.2.1 dX2_emptyLink_25 rfl (lv_at hl 3 rfl) ?_
      refine lv_iload_n S.1 S.2.1 dX2_emptyLink_26 rfl (lv_at hl 2 rfl) ?_
      refine lv_iload_n S.1 S.2.1 dX2_emptyLink_27 rfl (lv_at hl 0 rfl) ?_
      refine call_X2_flightRow S hK hN hP hD hS hA (u := v) (v := u) (o := i1)  hl.1 (Nat.le_of_ble_eq_true rfl) ⟨Nat.le_of_ble_eq_true rfl, Nat.le_of_ble_eq_true rfl⟩ dX2_emptyLink_28 ⟨Nat.le_refl _, Nat.le_refl _⟩ (fun H locs hP hD hS => ?_)
      refine call_X1_clear_inFlight_X2 S hK hN hP hD hS hA (row := (v * 8 + u) * 8 + i1) (by omega) hl.1 (Nat.le_of_ble_eq_true rfl) ⟨Nat.le_of_ble_eq_true rfl, Nat.le_of_ble_eq_true rfl⟩ dX2_emptyLink_31 ⟨Nat.le_refl _, Nat.le_refl _⟩ (fun H locs hP hD hS => ?_)
      rw [cW_eq (show keep (pClear 8 1 4 ((u * 8 + v) * 8 + i1) σ1) (pClear 8 1 4 ((v * 8 + u) * 8 + i1) (pClear 8 1 4 ((u * 8 + v) * 8 + i1) σ1)) from pClear_keep (by decide) (by decide) (by decide))] at hP hD
      refine lv_iinc (v := (nI (i1 + 1))) (lv' := [(3, .int (nI (i1 + 1))), (0, .ref (a 0)), (1, .int (nI (u))), (2, .int (nI (v)))]) S.1 S.2.1 dX2_emptyLink_34 hl (k := 0) rfl (nI_add _ 1) (by decide) rfl (fun ls hl => ?_)
      refine lv_goto (tgt := 2) S.1 S.2.1 dX2_emptyLink_37 (by decide) ?_
      exact ih1 (i1 + 1) (pClear 8 1 4 ((v * 8 + u) * 8 + i1) (pClear 8 1 4 ((u * 8 + v) * 8 + i1) σ1)) (by omega) (itr_step he1 (by first | (simp only [fEm1, reduceIte, Bool.false_eq_true, eq_self_iff_true, if_true, if_false]; done) | with_reducible rfl | (exfalso; omega))) (by have h9 : cI P ((fEm1 u v) i1 σ1) := fEm1_I i1 hv1; have e8 : (fEm1 u v) i1 σ1 = pClear 8 1 4 ((v * 8 + u) * 8 + i1) (pClear 8 1 4 ((u * 8 + v) * 8 + i1) σ1) := (by first | (simp only [fEm1, reduceIte, Bool.false_eq_true, eq_self_iff_true, if_true, if_false]; done) | with_reducible rfl | (exfalso; omega)); rw [e8] at h9; exact h9) _ _ hP hD hS _ (lv_sub hl [0, 1, 2, 3] rfl)
  exact lp1 8 0 σ (by omega) rfl (show cI P σ from hI) _ _ hP hD hS _ (lv_sub hl [0, 1, 2, 3] rfl)
theorem call_X2_emptyLink {p : Program} {l : Launch} {e : Env} {R : Room} {s : State} {m : MethodId} {args : Array Value} {below : List Frame} {meth : Method} {c : Code} {H : Heap} {locs : List Loc} {cells slots : Nat} {Q : State → Prop} {cc : ByteArray} {pc nL : Nat} {ls : Array Slot} {rest : List Value} {D : va_G} {A : Nat → Prop} {w0 : Cond} {X : va_W} {cy : Nat → ClassId} {a : Nat → Nat} {P : Nat} {σ : CS} (S : CallFix p m c cc nL s args (w0 :: gw) RX2) (hK : va_K D vwCl (tyA cy) s) (hN : kN nestC s) (hP : va_P D vwCl (cW X cy a P σ) H) (hD : va_D A (cW X cy a P σ)) (hS : va_S A s.heap H locs) (hA : ∀ q, s.heap.size ≤ q → A q) {u : Nat} {v : Nat} (hu : u < 8) (hv : v < 8) (hI : cI P σ) (hsz : ls.size = nL) (hW : (rest.map fun v => v.category).sum ≤ 8) (hR : 1 + 1 ≤ R.frames ∧ 8 + (7 + 11) + 32 * 1 ≤ R.locals) (hdg : decode cc pc = .ok (.invokevirtual 113, 3)) (hfc : cells ≤ R.cells ∧ slots ≤ R.slots)
    (kk : ∀ (H1 : Heap) (locs1 : List Loc), va_P D vwCl (cW X cy a P (cEmpty P u v σ)) H1 → va_D A (cW X cy a P (cEmpty P u v σ)) → va_S A s.heap H1 locs1 → W p l e R s m args below meth c H1 locs1 cells slots Q (F0 m (pc + 3) ls (rest))) : W p l e R s m args below meth c H locs cells slots Q (F0 m pc ls (.int (nI (v)) :: .int (nI (u)) :: .ref (a 0) :: rest)) :=
  kgo_v (va_runV (As := [.int (nI (u)), .int (nI (v))]) (rest := rest) S (c_X2_emptyLink l D cy a X P σ u v hu hv hI H.size) (cwV 2 S.2.2.2.2 (gw_good_1 wm_357 (gw_good_1 wm_359 (gw_good_1 wm_20 (gw_good_1 wm_48 (gw_good_in wm_360))))) rfl rfl rfl (by decide +kernel) hR) ⟨kblind nestC_ok, crecv_net hK hP, kpre nestC_ok hN hK hP hD⟩ rfl rfl hsz rfl (lv_room hW) hdg hfc) hD hS hA kk
set_option maxHeartbeats 400000 in
set_option maxRecDepth 100000 in
theorem c_X2_takeDown (l : Launch) (D : va_G) (cy : Nat → ClassId) (a : Nat → Nat) (X : va_W) (P : Nat) (σ : CS) (u : Nat) (v : Nat) (hu : u < 8) (hv : v < 8) (hI : cI P σ) : MetV l yX2_takeDown cX2_takeDown 4 (kRm 4 0 0) D (tyA cy) nestC [.ref (a 0), .int (nI (u)), .int (nI (v))] (cW X cy a P σ) (cW X cy a P (cDown P u v σ)) 0 0 := by
  intro sz
  refine kmet (own := RX2) (by decide) rfl (Nat.le_of_ble_eq_true rfl) (fun p e s m args below meth c S hr hlk hK hN hP hD hsz hA hnm ls hl => ?_)
  have hS : va_S (va_A (cW X cy a P σ) sz) s.heap s.heap [] := va_S.rf
  have hl : lv_has ls 4 [(0, .ref (a 0)), (1, .int (nI (u))), (2, .int (nI (v)))] := hl
  refine lv_aload_n S.1 S.2.1 dX2_takeDown_0 rfl (lv_at hl 0 rfl) ?_
  refine lv_iload_n S.1 S.2.1 dX2_takeDown_1 rfl (lv_at hl 1 rfl) ?_
  refine lv_iload_n S.1 S.2.1 dX2_takeDown_2 rfl (lv_at hl 2 rfl) ?_
  refine call_X2_carries S hK hN hP hD hS hA (u := u) (v := v) (by omega) (by omega) hl.1 (Nat.le_of_ble_eq_true rfl) ⟨Nat.le_of_ble_eq_true rfl, Nat.le_of_ble_eq_true rfl⟩ dX2_takeDown_3 ⟨Nat.le_refl _, Nat.le_refl _⟩ (fun H locs hP hD hS => ?_)
  refine lv_istore_n (lv' := [(3, .int (b2i (carr σ u v))), (0, .ref (a 0)), (1, .int (nI (u))), (2, .int (nI (v)))]) S.1 S.2.1 dX2_takeDown_6 rfl hl (by decide) rfl (fun ls hl => ?_)
  refine lv_aload_n S.1 S.2.1 dX2_takeDown_7 rfl (lv_at hl 1 rfl) ?_
  refine cf_net_linkUp S hK hP dX2_takeDown_8 ?_
  refine lv_iload_n S.1 S.2.1 dX2_takeDown_11 rfl (lv_at hl 2 rfl) ?_
  refine lv_iload_n S.1 S.2.1 dX2_takeDown_12 rfl (lv_at hl 3 rfl) ?_
  refine call_X2_pair S hK hN hP hD hS hA (u := u) (v := v)  hl.1 (Nat.le_of_ble_eq_true rfl) ⟨Nat.le_of_ble_eq_true rfl, Nat.le_of_ble_eq_true rfl⟩ dX2_takeDown_13 ⟨Nat.le_refl _, Nat.le_refl _⟩ (fun H locs hP hD hS => ?_)
  refine lv_iconst (v := (nI 0)) S.1 S.2.1 dX2_takeDown_16 (by decide) ?_
  refine cs_linkUp S hK hP hD hS (j := (u * 8 + v)) (by omega) (by decide) dX2_takeDown_17 (fun H locs hP hD hS => ?_)
  rw [cW_eq (show keep σ (sI 5 (u * 8 + v) (nI 0) σ) from keep_sI (by decide) (by first | exact Or.inl (by decide) | exact Or.inr (by decide)))] at hP hD
  refine lv_aload_n S.1 S.2.1 dX2_takeDown_18 rfl (lv_at hl 1 rfl) ?_
  refine cf_net_linkUp S hK hP dX2_takeDown_19 ?_
  refine lv_iload_n S.1 S.2.1 dX2_takeDown_22 rfl (lv_at hl 3 rfl) ?_
  refine lv_iload_n S.1 S.2.1 dX2_takeDown_23 rfl (lv_at hl 2 rfl) ?_
  refine call_X2_pair S hK hN hP hD hS hA (u := v) (v := u)  hl.1 (Nat.le_of_ble_eq_true rfl) ⟨Nat.le_of_ble_eq_true rfl, Nat.le_of_ble_eq_true rfl⟩ dX2_takeDown_24 ⟨Nat.le_refl _, Nat.le_refl _⟩ (fun H locs hP hD hS => ?_)
  refine lv_iconst (v := (nI 0)) S.1 S.2.1 dX2_takeDown_27 (by decide) ?_
  refine cs_linkUp S hK hP hD hS (j := (v * 8 + u)) (by omega) (by decide) dX2_takeDown_28 (fun H locs hP hD hS => ?_)
  rw [cW_eq (show keep (sI 5 (u * 8 + v) (nI 0) σ) (sI 5 (v * 8 + u) (nI 0) (sI 5 (u * 8 + v) (nI 0) σ)) from keep_sI (by decide) (by first | exact Or.inl (by decide) | exact Or.inr (by decide)))] at hP hD
  refine lv_iload_n S.1 S.2.1 dX2_takeDown_29 rfl (lv_at hl 0 rfl) ?_
  refine kb_ne (tgt := 34) S dX2_takeDown_30 (by decide) (fun c1 => ?_) (fun c1 => ?_)
  · refine lv_aload_n S.1 S.2.1 dX2_takeDown_34 rfl (lv_at hl 1 rfl) ?_
    refine lv_iload_n S.1 S.2.1 dX2_takeDown_35 rfl (lv_at hl 2 rfl) ?_
    refine lv_iload_n S.1 S.2.1 dX2_takeDown_36 rfl (lv_at hl 3 rfl) ?_
    refine call_X2_emptyLink S hK hN hP hD hS hA (u := u) (v := v) (by omega) (by omega) (show cI P (sI 5 (v * 8 + u) (nI 0) (sI 5 (u * 8 + v) (nI 0) σ)) from (cI_keep (cI_keep hI (show keep σ (sI 5 (u * 8 + v) (nI 0) σ) from keep_sI (by decide) (by first | exact Or.inl (by decide) | exact Or.inr (by decide)))) (show keep (sI 5 (u * 8 + v) (nI 0) σ) (sI 5 (v * 8 + u) (nI 0) (sI 5 (u * 8 + v) (nI 0) σ)) from keep_sI (by decide) (by first | exact Or.inl (by decide) | exact Or.inr (by decide))))) hl.1 (Nat.le_of_ble_eq_true rfl) ⟨Nat.le_of_ble_eq_true rfl, Nat.le_of_ble_eq_true rfl⟩ dX2_takeDown_37 ⟨Nat.le_refl _, Nat.le_refl _⟩ (fun H locs hP hD hS => ?_)
    refine lv_aload_n S.1 S.2.1 dX2_takeDown_40 rfl (lv_at hl 1 rfl) ?_
    refine lv_iload_n S.1 S.2.1 dX2_takeDown_41 rfl (lv_at hl 2 rfl) ?_
    refine lv_iload_n S.1 S.2.1 dX2_takeDown_42 rfl (lv_at hl 3 rfl) ?_
    refine k_min S hl.1 (Nat.le_of_ble_eq_true rfl) (Nat.le_of_ble_eq_true rfl) (Nat.le_refl _) (Nat.le_refl _) (u := u) (v := v) (by omega) (by omega) dX2_takeDown_43 ?_
    refine call_X2_tell S hK hN hP hD hS hA (u := min u v) (by omega) hl.1 (Nat.le_of_ble_eq_true rfl) ⟨Nat.le_of_ble_eq_true rfl, Nat.le_of_ble_eq_true rfl⟩ dX2_takeDown_46 ⟨Nat.le_refl _, Nat.le_refl _⟩ (fun H locs hP hD hS => ?_)
    rw [cW_eq (show keep (cEmpty P u v (sI 5 (v * 8 + u) (nI 0) (sI 5 (u * 8 + v) (nI 0) σ))) (cTell (min u v) (cEmpty P u v (sI 5 (v * 8 + u) (nI 0) (sI 5 (u * 8 + v) (nI 0) σ)))) from cTell_keep)] at hP hD
    refine lv_aload_n S.1 S.2.1 dX2_takeDown_49 rfl (lv_at hl 1 rfl) ?_
    refine lv_iload_n S.1 S.2.1 dX2_takeDown_50 rfl (lv_at hl 2 rfl) ?_
    refine lv_iload_n S.1 S.2.1 dX2_takeDown_51 rfl (lv_at hl 3 rfl) ?_
    refine k_max S hl.1 (Nat.le_of_ble_eq_true rfl) (Nat.le_of_ble_eq_true rfl) (Nat.le_refl _) (Nat.le_refl _) (u := u) (v := v) (by omega) (by omega) dX2_takeDown_52 ?_
    refine call_X2_tell S hK hN hP hD hS hA (u := max u v) (by omega) hl.1 (Nat.le_of_ble_eq_true rfl) ⟨Nat.le_of_ble_eq_true rfl, Nat.le_of_ble_eq_true rfl⟩ dX2_takeDown_55 ⟨Nat.le_refl _, Nat.le_refl _⟩ (fun H locs hP hD hS => ?_)
    rw [cW_eq (show keep (cTell (min u v) (cEmpty P u v (sI 5 (v * 8 + u) (nI 0) (sI 5 (u * 8 + v) (nI 0) σ)))) (cTell (max u v) (cTell (min u v) (cEmpty P u v (sI 5 (v * 8 + u) (nI 0) (sI 5 (u * 8 + v) (nI 0) σ))))) from cTell_keep)] at hP hD
    have e9 : cDown P u v σ = cTell (max u v) (cTell (min u v) (cEmpty P u v (sI 5 (v * 8 + u) (nI 0) (sI 5 (u * 8 + v) (nI 0) σ)))) := by first | (simp only [cDown, down1, c1, reduceIte, Bool.false_eq_true, eq_self_iff_true, if_true, if_false]; done) | with_reducible rfl | (exfalso; omega)
    rw [e9]
    exact kret_v S hr hlk hP hD hS dX2_takeDown_58
  · have e9 : cDown P u v σ = sI 5 (v * 8 + u) (nI 0) (sI 5 (u * 8 + v) (nI 0) σ) := by first | (simp only [cDown, down1, c1, reduceIte, Bool.false_eq_true, eq_self_iff_true, if_true, if_false]; done) | with_reducible rfl | (exfalso; omega)
    rw [e9]
    exact kret_v S hr hlk hP hD hS dX2_takeDown_33
theorem call_X2_takeDown {p : Program} {l : Launch} {e : Env} {R : Room} {s : State} {m : MethodId} {args : Array Value} {below : List Frame} {meth : Method} {c : Code} {H : Heap} {locs : List Loc} {cells slots : Nat} {Q : State → Prop} {cc : ByteArray} {pc nL : Nat} {ls : Array Slot} {rest : List Value} {D : va_G} {A : Nat → Prop} {w0 : Cond} {X : va_W} {cy : Nat → ClassId} {a : Nat → Nat} {P : Nat} {σ : CS} (S : CallFix p m c cc nL s args (w0 :: gw) RX2) (hK : va_K D vwCl (tyA cy) s) (hN : kN nestC s) (hP : va_P D vwCl (cW X cy a P σ) H) (hD : va_D A (cW X cy a P σ)) (hS : va_S A s.heap H locs) (hA : ∀ q, s.heap.size ≤ q → A q) {u : Nat} {v : Nat} (hu : u < 8) (hv : v < 8) (hI : cI P σ) (hsz : ls.size = nL) (hW : (rest.map fun v => v.category).sum ≤ 8) (hR : 4 + 1 ≤ R.frames ∧ 8 + (4 + 11) + 32 * 4 ≤ R.locals) (hdg : decode cc pc = .ok (.invokevirtual 90, 3)) (hfc : cells ≤ R.cells ∧ slots ≤ R.slots)
    (kk : ∀ (H1 : Heap) (locs1 : List Loc), va_P D vwCl (cW X cy a P (cDown P u v σ)) H1 → va_D A (cW X cy a P (cDown P u v σ)) → va_S A s.heap H1 locs1 → W p l e R s m args below meth c H1 locs1 cells slots Q (F0 m (pc + 3) ls (rest))) : W p l e R s m args below meth c H locs cells slots Q (F0 m pc ls (.int (nI (v)) :: .int (nI (u)) :: .ref (a 0) :: rest)) :=
  kgo_v (va_runV (As := [.int (nI (u)), .int (nI (v))]) (rest := rest) S (c_X2_takeDown l D cy a X P σ u v hu hv hI H.size) (cwV 2 S.2.2.2.2 (gw_good_1 wm_353 (gw_good_1 wm_355 (gw_good_1 wm_19 (gw_good_1 wm_48 (gw_good_in wm_356))))) rfl rfl rfl (by decide +kernel) hR) ⟨kblind nestC_ok, crecv_net hK hP, kpre nestC_ok hN hK hP hD⟩ rfl rfl hsz rfl (lv_room hW) hdg hfc) hD hS hA kk
set_option maxHeartbeats 400000 in
set_option maxRecDepth 100000 in
theorem c_X2_handle (l : Launch) (D : va_G) (cy : Nat → ClassId) (a : Nat → Nat) (X : va_W) (P : Nat) (σ : CS) (r : Nat) (v : Nat) (hr : r < P) (hv : v < 8) (hI : cI P σ) (g n : Nat) (hg : g < 8) (hn : n ≤ 31) (htg : σ.1 12 r = nI g) (htl : σ.1 13 r = nI n) : MetV l yX2_handle cX2_handle 4 (kRm 4 0 0) D (tyA cy) nestC [.ref (a 0), .ref (a (17 + 2 * r)), .int (nI (v))] (cW X cy a P σ) (cW X cy a P (cHandle r v σ)) 0 0 := by
  intro sz
  refine kmet (own := RX2) (by decide) rfl (Nat.le_of_ble_eq_true rfl) (fun p e s m args below meth c S hr hlk hK hN hP hD hsz hA hnm ls hl => ?_)
  have hS : va_S (va_A (cW X cy a P σ) sz) s.heap s.heap [] := va_S.rf
  have hl : lv_has ls 4 [(0, .ref (a 0)), (1, .ref (a (17 + 2 * r))), (2, .int (nI (v)))] := hl
  have hgc : (σ.1 12 r).toNatClampNeg = g := by rw [htg]; exact cl8 hg
  have hg2 : (cVis r v σ).1 12 r = nI g := by rw [cVis_k (by decide) (by decide) (by omega)]; exact htg
  refine lv_aload_n S.1 S.2.1 dX2_handle_0 rfl (lv_at hl 1 rfl) ?_
  refine lv_iload_n S.1 S.2.1 dX2_handle_1 rfl (lv_at hl 2 rfl) ?_
  refine call_X0_visit S hK hN hP hD hS hA (r := r) (v := v) (by omega) n hn htl hl.1 (Nat.le_of_ble_eq_true rfl) ⟨Nat.le_of_ble_eq_true rfl, Nat.le_of_ble_eq_true rfl⟩ dX2_handle_2 ⟨Nat.le_refl _, Nat.le_refl _⟩ (fun H locs hP hD hS => ?_)
  refine lv_iload_n S.1 S.2.1 dX2_handle_5 rfl (lv_at hl 2 rfl) ?_
  refine lv_aload_n S.1 S.2.1 dX2_handle_6 rfl (lv_at hl 1 rfl) ?_
  refine pn_goal S hK hN hP (r := r) (by omega) dX2_handle_7 ?_
  refine k_top (y := nI g) hg2 ?_
  refine lv_icmp_ne (tgt := 19) S.1 S.2.1 dX2_handle_10 (by decide) (fun c1 => ?_) (fun c1 => ?_)
  · have c1 : ¬ v = g := fun h => c1 ((nI_eq (a := v) (b := g) (by omega) (by omega)).mpr h)
    refine lv_aload_n S.1 S.2.1 dX2_handle_19 rfl (lv_at hl 1 rfl) ?_
    refine pn_life S hK hN hP (r := r) (by omega) dX2_handle_20 ?_
    refine lv_if_ne (tgt := 32) S.1 S.2.1 dX2_handle_23 (by decide) (fun c2 => ?_) (fun c2 => ?_)
    · refine lv_aload_n S.1 S.2.1 dX2_handle_32 rfl (lv_at hl 0 rfl) ?_
      refine lv_iload_n S.1 S.2.1 dX2_handle_33 rfl (lv_at hl 2 rfl) ?_
      refine lv_aload_n S.1 S.2.1 dX2_handle_34 rfl (lv_at hl 1 rfl) ?_
      refine pn_goal S hK hN hP (r := r) (by omega) dX2_handle_35 ?_
      refine k_top (y := nI g) hg2 ?_
      refine call_X2_nextHop S hK hN hP hD hS hA (v := v) (g := g) (by omega) (by omega) hl.1 (Nat.le_of_ble_eq_true rfl) ⟨Nat.le_of_ble_eq_true rfl, Nat.le_of_ble_eq_true rfl⟩ dX2_handle_38 ⟨Nat.le_refl _, Nat.le_refl _⟩ (fun H locs hP hD hS => ?_)
      rw [cW_eq (show keep (cVis r v σ) (cMeas v g (cVis r v σ)) from cMeas_keep)] at hP hD
      refine lv_istore_n (lv' := [(3, .int (cHop v g (cVis r v σ))), (0, .ref (a 0)), (1, .ref (a (17 + 2 * r))), (2, .int (nI (v)))]) S.1 S.2.1 dX2_handle_41 rfl hl (by decide) rfl (fun ls hl => ?_)
      refine lv_iload_n S.1 S.2.1 dX2_handle_42 rfl (lv_at hl 0 rfl) ?_
      refine lv_iconst (v := (-1)) S.1 S.2.1 dX2_handle_43 (by decide) ?_
      refine lv_icmp_eq (tgt := 56) S.1 S.2.1 dX2_handle_44 (by decide) (fun c3 => ?_) (fun c3 => ?_)
      · refine lv_aload_n S.1 S.2.1 dX2_handle_56 rfl (lv_at hl 2 rfl) ?_
        refine lv_iconst (v := (nI 3)) S.1 S.2.1 dX2_handle_57 (by decide) ?_
        refine pq_state S hK hN hP hD hS (r := r) (by omega) dX2_handle_58 (fun H locs hP hD hS => ?_)
        have e9 : cHandle r v σ = sI 15 r (nI 3) (cMeas v g (cVis r v σ)) := by first | (simp only [cHandle, cHopB, hop3, hgc, c1, c2, eq_true c3, reduceIte, Bool.false_eq_true, eq_self_iff_true, if_true, if_false]; done) | with_reducible rfl | (exfalso; omega)
        rw [e9]
        exact kret_v S hr hlk hP hD hS dX2_handle_61
      · obtain ⟨jc3, hc3j, hc3e⟩ := cHop_of c3
        have hc3n : ¬ nI jc3 = -1 := by rw [← hc3e]; exact c3
        refine lv_aload_n S.1 S.2.1 dX2_handle_47 rfl (lv_at hl 1 rfl) ?_
        refine lv_iload_n S.1 S.2.1 dX2_handle_48 rfl (lv_at hl 3 rfl) ?_
        refine lv_iload_n S.1 S.2.1 dX2_handle_49 rfl (lv_at hl 0 rfl) ?_
        refine k_top hc3e ?_
        refine call_X2_carries S hK hN hP hD hS hA (u := v) (v := jc3) (by omega) (by omega) hl.1 (Nat.le_of_ble_eq_true rfl) ⟨Nat.le_of_ble_eq_true rfl, Nat.le_of_ble_eq_true rfl⟩ dX2_handle_50 ⟨Nat.le_refl _, Nat.le_refl _⟩ (fun H locs hP hD hS => ?_)
        refine kb_ne (tgt := 62) S dX2_handle_53 (by decide) (fun c4 => ?_) (fun c4 => ?_)
        · refine lv_aload_n S.1 S.2.1 dX2_handle_62 rfl (lv_at hl 2 rfl) ?_
          refine lv_dup S.1 S.2.1 dX2_handle_63 rfl ?_
          refine pn_life S hK hN hP (r := r) (by omega) dX2_handle_64 ?_
          refine lv_iconst (v := (nI 1)) S.1 S.2.1 dX2_handle_67 (by decide) ?_
          refine lv_isub S.1 S.2.1 dX2_handle_68 ?_
          refine pq_life S hK hN hP hD hS (r := r) (by omega) dX2_handle_69 (fun H locs hP hD hS => ?_)
          refine lv_aload_n S.1 S.2.1 dX2_handle_72 rfl (lv_at hl 2 rfl) ?_
          refine lv_iload_n S.1 S.2.1 dX2_handle_73 rfl (lv_at hl 0 rfl) ?_
          refine k_top hc3e ?_
          refine pq_towards S hK hN hP hD hS (r := r) (by omega) dX2_handle_74 (fun H locs hP hD hS => ?_)
          refine lv_aload_n S.1 S.2.1 dX2_handle_77 rfl (lv_at hl 2 rfl) ?_
          refine lv_aload_n S.1 S.2.1 dX2_handle_78 rfl (lv_at hl 1 rfl) ?_
          refine cf_net_time S hK hP dX2_handle_79 ?_
          refine lv_aload_n S.1 S.2.1 dX2_handle_82 rfl (lv_at hl 1 rfl) ?_
          refine cf_net_linkDelay S hK hP dX2_handle_83 ?_
          refine lv_iload_n S.1 S.2.1 dX2_handle_86 rfl (lv_at hl 3 rfl) ?_
          refine lv_iload_n S.1 S.2.1 dX2_handle_87 rfl (lv_at hl 0 rfl) ?_
          refine k_top hc3e ?_
          refine call_X2_pair S hK hN hP hD hS hA (u := v) (v := jc3)  hl.1 (Nat.le_of_ble_eq_true rfl) ⟨Nat.le_of_ble_eq_true rfl, Nat.le_of_ble_eq_true rfl⟩ dX2_handle_88 ⟨Nat.le_refl _, Nat.le_refl _⟩ (fun H locs hP hD hS => ?_)
          refine ca_linkDelay S hK hP (j := (v * 8 + jc3)) (by omega) dX2_handle_91 ?_
          refine lv_iadd S.1 S.2.1 dX2_handle_92 ?_
          refine pq_arrival S hK hN hP hD hS (r := r) (by omega) dX2_handle_93 (fun H locs hP hD hS => ?_)
          have e9 : cHandle r v σ = sI 18 r (((sI 17 r (nI (jc3)) (sI 14 r (((cMeas v g (cVis r v σ)).1 14 r) - (nI 1)) (cMeas v g (cVis r v σ)))).1 0 2) + ((sI 17 r (nI (jc3)) (sI 14 r (((cMeas v g (cVis r v σ)).1 14 r) - (nI 1)) (cMeas v g (cVis r v σ)))).1 4 (v * 8 + jc3))) (sI 17 r (nI (jc3)) (sI 14 r (((cMeas v g (cVis r v σ)).1 14 r) - (nI 1)) (cMeas v g (cVis r v σ)))) := by first | (simp only [cHandle, cHopB, hop3, hgc, c1, c2, hc3e, hc3n, cl8 hc3j, c4, reduceIte, Bool.false_eq_true, eq_self_iff_true, if_true, if_false]; done) | with_reducible rfl | (exfalso; omega)
          rw [e9]
          exact kret_v S hr hlk hP hD hS dX2_handle_96
        · refine lv_aload_n S.1 S.2.1 dX2_handle_56 rfl (lv_at hl 2 rfl) ?_
          refine lv_iconst (v := (nI 3)) S.1 S.2.1 dX2_handle_57 (by decide) ?_
          refine pq_state S hK hN hP hD hS (r := r) (by omega) dX2_handle_58 (fun H locs hP hD hS => ?_)
          have e9 : cHandle r v σ = sI 15 r (nI 3) (cMeas v g (cVis r v σ)) := by first | (simp only [cHandle, cHopB, hop3, hgc, c1, c2, hc3e, hc3n, cl8 hc3j, c4, reduceIte, Bool.false_eq_true, eq_self_iff_true, if_true, if_false]; done) | with_reducible rfl | (exfalso; omega)
          rw [e9]
          exact kret_v S hr hlk hP hD hS dX2_handle_61
    · refine lv_aload_n S.1 S.2.1 dX2_handle_26 rfl (lv_at hl 1 rfl) ?_
      refine lv_iconst (v := (nI 2)) S.1 S.2.1 dX2_handle_27 (by decide) ?_
      refine pq_state S hK hN hP hD hS (r := r) (by omega) dX2_handle_28 (fun H locs hP hD hS => ?_)
      have e9 : cHandle r v σ = sI 15 r (nI 2) (cVis r v σ) := by first | (simp only [cHandle, cHopB, hop3, hgc, c1, eq_true c2, reduceIte, Bool.false_eq_true, eq_self_iff_true, if_true, if_false]; done) | with_reducible rfl | (exfalso; omega)
      rw [e9]
      exact kret_v S hr hlk hP hD hS dX2_handle_31
  · have c1 : v = g := (nI_eq (a := v) (b := g) (by omega) (by omega)).mp c1
    refine lv_aload_n S.1 S.2.1 dX2_handle_13 rfl (lv_at hl 1 rfl) ?_
    refine lv_iconst (v := (nI 1)) S.1 S.2.1 dX2_handle_14 (by decide) ?_
    refine pq_state S hK hN hP hD hS (r := r) (by omega) dX2_handle_15 (fun H locs hP hD hS => ?_)
    have e9 : cHandle r v σ = sI 15 r (nI 1) (cVis r v σ) := by first | (simp only [cHandle, cHopB, hop3, hgc, eq_true c1, reduceIte, Bool.false_eq_true, eq_self_iff_true, if_true, if_false]; done) | with_reducible rfl | (exfalso; omega)
    rw [e9]
    exact kret_v S hr hlk hP hD hS dX2_handle_18
theorem call_X2_handle {p : Program} {l : Launch} {e : Env} {R : Room} {s : State} {m : MethodId} {args : Array Value} {below : List Frame} {meth : Method} {c : Code} {H : Heap} {locs : List Loc} {cells slots : Nat} {Q : State → Prop} {cc : ByteArray} {pc nL : Nat} {ls : Array Slot} {rest : List Value} {D : va_G} {A : Nat → Prop} {w0 : Cond} {X : va_W} {cy : Nat → ClassId} {a : Nat → Nat} {P : Nat} {σ : CS} (S : CallFix p m c cc nL s args (w0 :: gw) RX2) (hK : va_K D vwCl (tyA cy) s) (hN : kN nestC s) (hP : va_P D vwCl (cW X cy a P σ) H) (hD : va_D A (cW X cy a P σ)) (hS : va_S A s.heap H locs) (hA : ∀ q, s.heap.size ≤ q → A q) {r : Nat} {v : Nat} (hr : r < P) (hv : v < 8) (hI : cI P σ) (g n : Nat) (hg : g < 8) (hn : n ≤ 31) (htg : σ.1 12 r = nI g) (htl : σ.1 13 r = nI n) (hsz : ls.size = nL) (hW : (rest.map fun v => v.category).sum ≤ 8) (hR : 4 + 1 ≤ R.frames ∧ 8 + (4 + 11) + 32 * 4 ≤ R.locals) (hdg : decode cc pc = .ok (.invokevirtual 164, 3)) (hfc : cells ≤ R.cells ∧ slots ≤ R.slots)
    (kk : ∀ (H1 : Heap) (locs1 : List Loc), va_P D vwCl (cW X cy a P (cHandle r v σ)) H1 → va_D A (cW X cy a P (cHandle r v σ)) → va_S A s.heap H1 locs1 → W p l e R s m args below meth c H1 locs1 cells slots Q (F0 m (pc + 3) ls (rest))) : W p l e R s m args below meth c H locs cells slots Q (F0 m pc ls (.int (nI (v)) :: .ref (a (17 + 2 * r)) :: .ref (a 0) :: rest)) :=
  kgo_v (va_runV (As := [.ref (a (17 + 2 * r)), .int (nI (v))]) (rest := rest) S (c_X2_handle l D cy a X P σ r v hr hv hI g n hg hn htg htl H.size) (cwV 2 S.2.2.2.2 (gw_good_1 wm_425 (gw_good_1 wm_427 (gw_good_1 wm_29 (gw_good_1 wm_48 (gw_good_in wm_428))))) rfl rfl rfl (by decide +kernel) hR) ⟨kblind nestC_ok, crecv_net hK hP, kpre nestC_ok hN hK hP hD⟩ rfl rfl hsz rfl (lv_room hW) hdg hfc) hD hS hA kk
set_option maxHeartbeats 400000 in
set_option maxRecDepth 100000 in
theorem c_X2_movePackets (l : Launch) (D : va_G) (cy : Nat → ClassId) (a : Nat → Nat) (X : va_W) (P : Nat) (σ : CS)  (hI : cI P σ) : MetV l yX2_movePackets cX2_movePackets 5 (kRm 5 0 0) D (tyA cy) nestC [.ref (a 0)] (cW X cy a P σ) (cW X cy a P (cMove P σ)) 0 0 := by
  intro sz
  refine kmet (own := RX2) (by decide) rfl (Nat.le_of_ble_eq_true rfl) (fun p e s m args below meth c S hr hlk hK hN hP hD hsz hA hnm ls hl => ?_)
  have hS : va_S (va_A (cW X cy a P σ) sz) s.heap s.heap [] := va_S.rf
  have hl : lv_has ls 5 [(0, .ref (a 0))] := hl
  have hPn : P ≤ 20 := hI.1
  refine lv_aload_n S.1 S.2.1 dX2_movePackets_0 rfl (lv_at hl 0 rfl) ?_
  refine cf_net_packets S hK hP dX2_movePackets_1 ?_
  refine lv_astore_n (lv' := [(1, .ref (a 16)), (0, .ref (a 0))]) S.1 S.2.1 dX2_movePackets_4 rfl hl (by decide) rfl (fun ls hl => ?_)
  refine lv_aload_n S.1 S.2.1 dX2_movePackets_5 rfl (lv_at hl 0 rfl) ?_
  refine pa_len S hK hP dX2_movePackets_6 ?_
  refine lv_istore_n (lv' := [(2, .int (nI 20)), (1, .ref (a 16)), (0, .ref (a 0))]) S.1 S.2.1 dX2_movePackets_7 rfl hl (by decide) rfl (fun ls hl => ?_)
  refine lv_iconst (v := (nI 0)) S.1 S.2.1 dX2_movePackets_8 (by decide) ?_
  refine lv_istore_n (lv' := [(3, .int (nI 0)), (2, .int (nI 20)), (1, .ref (a 16)), (0, .ref (a 0))]) S.1 S.2.1 dX2_movePackets_9 rfl hl (by decide) rfl (fun ls hl => ?_)
  have lp1 : ∀ (n1 i1 : Nat) (σ1 : CS), i1 + n1 = 20 → itr (fMv P) n1 i1 σ1 = itr (fMv P) 20 0 σ → cI P σ1 → ∀ (H : Heap) (locs : List Loc), va_P D vwCl (cW X cy a P σ1) H → va_D (va_A (cW X cy a P σ) sz) (cW X cy a P σ1) → va_S (va_A (cW X cy a P σ) sz) s.heap H locs → ∀ ls : Array Slot, lv_has ls 5 [(3, .int (nI (i1))), (2, .int (nI 20)), (1, .ref (a 16)), (0, .ref (a 0))] → W p l e (kRm 5 0 0) s m args below meth c H locs 0 0 (MQ below (kQv D (cW X cy a P σ) (cW X cy a P (cMove P σ)) sz) args s 0 0 (va_A (cW X cy a P σ) sz)) (F0 m 10 ls []) := by
    intro n1
    induction n1 with
    | zero =>
      intro i1 σ1 hi1 he1 hv1 H locs hP hD hS ls hl
      have hi1 : i1 = 20 := by omega
      have he1 : σ1 = itr (fMv P) 20 0 σ := he1
      refine lv_iload_n S.1 S.2.1 dX2_movePackets_10 rfl (lv_at hl 0 rfl) ?_
      refine lv_iload_n S.1 S.2.1 dX2_movePackets_11 rfl (lv_at hl 1 rfl) ?_
      refine lv_icmp_ge (tgt := 62) S.1 S.2.1 dX2_movePackets_12 (by decide) (fun _ => ?_) (fun c => absurd (nI_le (by omega) (by omega)) c)
      have e9 : cMove P σ = σ1 := by first | (simp only [cMove, ← he1, reduceIte, Bool.false_eq_true, eq_self_iff_true, if_true, if_false]; done) | with_reducible rfl | (exfalso; omega)
      rw [e9]
      exact kret_v S hr hlk hP hD hS dX2_movePackets_62
    | succ n1 ih1 =>
      intro i1 σ1 hi1 he1 hv1 H locs hP hD hS ls hl
      have hlt1 : i1 < 20 := by omega
      refine lv_iload_n S.1 S.2.1 dX2_movePackets_10 rfl (lv_at hl 0 rfl) ?_
      refine lv_iload_n S.1 S.2.1 dX2_movePackets_11 rfl (lv_at hl 1 rfl) ?_
      refine lv_icmp_ge (tgt := 62) S.1 S.2.1 dX2_movePackets_12 (by decide) (fun c => absurd c (nI_ge (by omega) (by omega))) (fun _ => ?_)
      refine lv_aload_n S.1 S.2.1 dX2_movePackets_15 rfl (lv_at hl 2 rfl) ?_
      refine lv_iload_n S.1 S.2.1 dX2_movePackets_16 rfl (lv_at hl 0 rfl) ?_
      by_cases hp4 : i1 < P
      · refine pa_ld S hK hP (r := i1) hp4 (by omega) dX2_movePackets_17 ?_
        refine lv_astore (lv' := [(4, .ref (a (17 + 2 * i1))), (3, .int (nI (i1))), (2, .int (nI 20)), (1, .ref (a 16)), (0, .ref (a 0))]) S.1 S.2.1 dX2_movePackets_18 hl (by decide) rfl (fun ls hl => ?_)
        refine lv_aload S.1 S.2.1 dX2_movePackets_20 (lv_at hl 0 rfl) ?_
        refine lv_ifnull S.1 S.2.1 dX2_movePackets_22 ?_
        refine lv_aload S.1 S.2.1 dX2_movePackets_25 (lv_at hl 0 rfl) ?_
        refine pn_state S hK hN hP (r := i1) (by omega) dX2_movePackets_27 ?_
        refine lv_if_ne (tgt := 56) S.1 S.2.1 dX2_movePackets_30 (by decide) (fun c5 => ?_) (fun c5 => ?_)
        · refine lv_iinc (v := (nI (i1 + 1))) (lv' := [(3, .int (nI (i1 + 1))), (4, .ref (a (17 + 2 * i1))), (2, .int (nI 20)), (1, .ref (a 16)), (0, .ref (a 0))]) S.1 S.2.1 dX2_movePackets_56 hl (k := 1) rfl (nI_add _ 1) (by decide) rfl (fun ls hl => ?_)
          refine lv_goto (tgt := 10) S.1 S.2.1 dX2_movePackets_59 (by decide) ?_
          exact ih1 (i1 + 1) σ1 (by omega) (itr_step he1 (by first | (simp only [fMv, eq_true hp4, c5, reduceIte, Bool.false_eq_true, eq_self_iff_true, if_true, if_false]; done) | with_reducible rfl | (exfalso; omega))) (by have h9 : cI P ((fMv P) i1 σ1) := fMv_I i1 hv1; have e8 : (fMv P) i1 σ1 = σ1 := (by first | (simp only [fMv, eq_true hp4, c5, reduceIte, Bool.false_eq_true, eq_self_iff_true, if_true, if_false]; done) | with_reducible rfl | (exfalso; omega)); rw [e8] at h9; exact h9) _ _ hP hD hS _ (lv_sub hl [0, 2, 3, 4] rfl)
        · refine lv_aload S.1 S.2.1 dX2_movePackets_33 (lv_at hl 0 rfl) ?_
          refine pn_arrival S hK hN hP (r := i1) (by omega) dX2_movePackets_35 ?_
          refine lv_aload_n S.1 S.2.1 dX2_movePackets_38 rfl (lv_at hl 4 rfl) ?_
          refine cf_net_time S hK hP dX2_movePackets_39 ?_
          refine lv_icmp_ne (tgt := 56) S.1 S.2.1 dX2_movePackets_42 (by decide) (fun c6 => ?_) (fun c6 => ?_)
          · refine lv_iinc (v := (nI (i1 + 1))) (lv' := [(3, .int (nI (i1 + 1))), (4, .ref (a (17 + 2 * i1))), (2, .int (nI 20)), (1, .ref (a 16)), (0, .ref (a 0))]) S.1 S.2.1 dX2_movePackets_56 hl (k := 1) rfl (nI_add _ 1) (by decide) rfl (fun ls hl => ?_)
            refine lv_goto (tgt := 10) S.1 S.2.1 dX2_movePackets_59 (by decide) ?_
            exact ih1 (i1 + 1) σ1 (by omega) (itr_step he1 (by first | (simp only [fMv, eq_true hp4, eq_true c5, c6, reduceIte, Bool.false_eq_true, eq_self_iff_true, if_true, if_false]; done) | with_reducible rfl | (exfalso; omega))) (by have h9 : cI P ((fMv P) i1 σ1) := fMv_I i1 hv1; have e8 : (fMv P) i1 σ1 = σ1 := (by first | (simp only [fMv, eq_true hp4, eq_true c5, c6, reduceIte, Bool.false_eq_true, eq_self_iff_true, if_true, if_false]; done) | with_reducible rfl | (exfalso; omega)); rw [e8] at h9; exact h9) _ _ hP hD hS _ (lv_sub hl [0, 2, 3, 4] rfl)
          · obtain ⟨g, n, hg, hn, htg, htl, hrow⟩ := (hv1).2.2 i1 hp4
            obtain ⟨v, hv, htv⟩ := hrow c5
            have hvc : (σ1.1 17 i1).toNatClampNeg = v := by rw [htv]; exact cl8 hv
            refine lv_aload_n S.1 S.2.1 dX2_movePackets_45 rfl (lv_at hl 4 rfl) ?_
            refine lv_aload S.1 S.2.1 dX2_movePackets_46 (lv_at hl 0 rfl) ?_
            refine lv_aload S.1 S.2.1 dX2_movePackets_48 (lv_at hl 0 rfl) ?_
            refine pn_towards S hK hN hP (r := i1) (by omega) dX2_movePackets_50 ?_
            refine k_top (y := nI v) htv ?_
            refine call_X2_handle S hK hN hP hD hS hA (r := i1) (v := v) hp4 hv (show cI P σ1 from hv1) g n hg hn htg htl hl.1 (Nat.le_of_ble_eq_true rfl) ⟨Nat.le_of_ble_eq_true rfl, Nat.le_of_ble_eq_true rfl⟩ dX2_movePackets_53 ⟨Nat.le_refl _, Nat.le_refl _⟩ (fun H locs hP hD hS => ?_)
            refine lv_iinc (v := (nI (i1 + 1))) (lv' := [(3, .int (nI (i1 + 1))), (4, .ref (a (17 + 2 * i1))), (2, .int (nI 20)), (1, .ref (a 16)), (0, .ref (a 0))]) S.1 S.2.1 dX2_movePackets_56 hl (k := 1) rfl (nI_add _ 1) (by decide) rfl (fun ls hl => ?_)
            refine lv_goto (tgt := 10) S.1 S.2.1 dX2_movePackets_59 (by decide) ?_
            exact ih1 (i1 + 1) (cHandle i1 v σ1) (by omega) (itr_step he1 (by first | (simp only [fMv, eq_true hp4, eq_true c5, eq_true c6, hvc, reduceIte, Bool.false_eq_true, eq_self_iff_true, if_true, if_false]; done) | with_reducible rfl | (exfalso; omega))) (by have h9 : cI P ((fMv P) i1 σ1) := fMv_I i1 hv1; have e8 : (fMv P) i1 σ1 = cHandle i1 v σ1 := (by first | (simp only [fMv, eq_true hp4, eq_true c5, eq_true c6, hvc, reduceIte, Bool.false_eq_true, eq_self_iff_true, if_true, if_false]; done) | with_reducible rfl | (exfalso; omega)); rw [e8] at h9; exact h9) _ _ hP hD hS _ (lv_sub hl [0, 2, 3, 4] rfl)
      · refine pa_nl S hK hP (r := i1) hp4 (by omega) dX2_movePackets_17 ?_
        refine lv_astoreN (lv' := [(4, .null), (3, .int (nI (i1))), (2, .int (nI 20)), (1, .ref (a 16)), (0, .ref (a 0))]) S.1 S.2.1 dX2_movePackets_18 hl (by decide) rfl (fun ls hl => ?_)
        refine lv_aloadN S.1 S.2.1 dX2_movePackets_20 (lv_at hl 0 rfl) ?_
        refine lv_ifnullN (tgt := 56) S.1 S.2.1 dX2_movePackets_22 (by decide) ?_
        refine lv_iinc (v := (nI (i1 + 1))) (lv' := [(3, .int (nI (i1 + 1))), (4, .null), (2, .int (nI 20)), (1, .ref (a 16)), (0, .ref (a 0))]) S.1 S.2.1 dX2_movePackets_56 hl (k := 1) rfl (nI_add _ 1) (by decide) rfl (fun ls hl => ?_)
        refine lv_goto (tgt := 10) S.1 S.2.1 dX2_movePackets_59 (by decide) ?_
        exact ih1 (i1 + 1) σ1 (by omega) (itr_step he1 (by first | (simp only [fMv, hp4, reduceIte, Bool.false_eq_true, eq_self_iff_true, if_true, if_false]; done) | with_reducible rfl | (exfalso; omega))) (by have h9 : cI P ((fMv P) i1 σ1) := fMv_I i1 hv1; have e8 : (fMv P) i1 σ1 = σ1 := (by first | (simp only [fMv, hp4, reduceIte, Bool.false_eq_true, eq_self_iff_true, if_true, if_false]; done) | with_reducible rfl | (exfalso; omega)); rw [e8] at h9; exact h9) _ _ hP hD hS _ (lv_sub hl [0, 2, 3, 4] rfl)
  exact lp1 20 0 σ (by omega) rfl (show cI P σ from hI) _ _ hP hD hS _ (lv_sub hl [0, 1, 2, 3] rfl)
theorem call_X2_movePackets {p : Program} {l : Launch} {e : Env} {R : Room} {s : State} {m : MethodId} {args : Array Value} {below : List Frame} {meth : Method} {c : Code} {H : Heap} {locs : List Loc} {cells slots : Nat} {Q : State → Prop} {cc : ByteArray} {pc nL : Nat} {ls : Array Slot} {rest : List Value} {D : va_G} {A : Nat → Prop} {w0 : Cond} {X : va_W} {cy : Nat → ClassId} {a : Nat → Nat} {P : Nat} {σ : CS} (S : CallFix p m c cc nL s args (w0 :: gw) RX2) (hK : va_K D vwCl (tyA cy) s) (hN : kN nestC s) (hP : va_P D vwCl (cW X cy a P σ) H) (hD : va_D A (cW X cy a P σ)) (hS : va_S A s.heap H locs) (hA : ∀ q, s.heap.size ≤ q → A q)  (hI : cI P σ) (hsz : ls.size = nL) (hW : (rest.map fun v => v.category).sum ≤ 8) (hR : 5 + 1 ≤ R.frames ∧ 8 + (5 + 11) + 32 * 5 ≤ R.locals) (hdg : decode cc pc = .ok (.invokevirtual 130, 3)) (hfc : cells ≤ R.cells ∧ slots ≤ R.slots)
    (kk : ∀ (H1 : Heap) (locs1 : List Loc), va_P D vwCl (cW X cy a P (cMove P σ)) H1 → va_D A (cW X cy a P (cMove P σ)) → va_S A s.heap H1 locs1 → W p l e R s m args below meth c H1 locs1 cells slots Q (F0 m (pc + 3) ls (rest))) : W p l e R s m args below meth c H locs cells slots Q (F0 m pc ls (.ref (a 0) :: rest)) :=
  kgo_v (va_runV (As := []) (rest := rest) S (c_X2_movePackets l D cy a X P σ  hI H.size) (cwV 0 S.2.2.2.2 (gw_good_1 wm_421 (gw_good_1 wm_423 (gw_good_1 wm_28 (gw_good_1 wm_48 (gw_good_in wm_424))))) rfl rfl rfl (by decide +kernel) hR) ⟨kblind nestC_ok, crecv_net hK hP, kpre nestC_ok hN hK hP hD⟩ rfl rfl hsz rfl (lv_room hW) hdg hfc) hD hS hA kk
