set_option maxHeartbeats 400000 in
set_option maxRecDepth 100000 in
theorem c_X3_cut (l : Launch) (D : va_G) (cy : Nat → ClassId) (a : Nat → Nat) (X : va_W) (τ : MS) (u : Nat) (v : Nat) (hu : u < 8) (hv : v < 8) (P : Nat) (hI : mI P τ) : MetV l yX3_cut cX3_cut 5 (kRm 0 0 0) D (tyA cy) [] [.ref (a 0), .int (nI (u)), .int (nI (v))] (X ++ mB cy a τ) (X ++ mB cy a (mCut P u v τ)) 0 0 := by
  intro sz
  refine kmet (own := RX3) (by decide) rfl (Nat.le_of_ble_eq_true rfl) (fun p e s m args below meth c S hr hlk hK hN hP hD hsz hA hnm ls hl => ?_)
  have hS : va_S (va_A (X ++ mB cy a τ) sz) s.heap s.heap [] := va_S.rf
  have hl : lv_has ls 5 [(0, .ref (a 0)), (1, .int (nI (u))), (2, .int (nI (v)))] := hl
  have hPn : P ≤ 20 := hI.1
  refine lv_iconst (v := (nI 0)) S.1 S.2.1 dX3_cut_0 (by decide) ?_
  refine lv_istore_n (lv' := [(3, .int (nI 0)), (0, .ref (a 0)), (1, .int (nI (u))), (2, .int (nI (v)))]) S.1 S.2.1 dX3_cut_1 rfl hl (by decide) rfl (fun ls hl => ?_)
  have lp1 : ∀ (n1 i1 : Nat) (τ1 : MS), i1 + n1 = 8 → itr (fCut1 u v) n1 i1 τ1 = itr (fCut1 u v) 8 0 τ → mI P τ1 → ∀ (H : Heap) (locs : List Loc), va_P D vwCl (X ++ mB cy a τ1) H → va_D (va_A (X ++ mB cy a τ) sz) (X ++ mB cy a τ1) → va_S (va_A (X ++ mB cy a τ) sz) s.heap H locs → ∀ ls : Array Slot, lv_has ls 5 [(3, .int (nI (i1))), (0, .ref (a 0)), (1, .int (nI (u))), (2, .int (nI (v)))] → W p l e (kRm 0 0 0) s m args below meth c H locs 0 0 (MQ below (kQv D (X ++ mB cy a τ) (X ++ mB cy a (mCut P u v τ)) sz) args s 0 0 (va_A (X ++ mB cy a τ) sz)) (F0 m 2 ls []) := by
    intro n1
    induction n1 with
    | zero =>
      intro i1 τ1 hi1 he1 hv1 H locs hP hD hS ls hl
      have hi1 : i1 = 8 := by omega
      have he1 : τ1 = itr (fCut1 u v) 8 0 τ := he1
      refine lv_iload_n S.1 S.2.1 dX3_cut_2 rfl (lv_at hl 0 rfl) ?_
      refine lv_bipush (v := (nI 8)) S.1 S.2.1 dX3_cut_3 (by decide) ?_
      refine lv_icmp_ge (tgt := 48) S.1 S.2.1 dX3_cut_5 (by decide) (fun _ => ?_) (fun c => absurd (nI_le (by omega) (by omega)) c)
      refine lv_iconst (v := (nI 0)) S.1 S.2.1 dX3_cut_48 (by decide) ?_
      refine lv_istore_n (lv' := [(3, .int (nI 0)), (0, .ref (a 0)), (1, .int (nI (u))), (2, .int (nI (v)))]) S.1 S.2.1 dX3_cut_49 rfl hl (by decide) rfl (fun ls hl => ?_)
      have lp3 : ∀ (n3 i3 : Nat) (τ3 : MS), i3 + n3 = P → itr (fCut2 u v) n3 i3 τ3 = itr (fCut2 u v) P 0 τ1 → mI P τ3 → ∀ (H : Heap) (locs : List Loc), va_P D vwCl (X ++ mB cy a τ3) H → va_D (va_A (X ++ mB cy a τ) sz) (X ++ mB cy a τ3) → va_S (va_A (X ++ mB cy a τ) sz) s.heap H locs → ∀ ls : Array Slot, lv_has ls 5 [(3, .int (nI (i3))), (0, .ref (a 0)), (1, .int (nI (u))), (2, .int (nI (v)))] → W p l e (kRm 0 0 0) s m args below meth c H locs 0 0 (MQ below (kQv D (X ++ mB cy a τ) (X ++ mB cy a (mCut P u v τ)) sz) args s 0 0 (va_A (X ++ mB cy a τ) sz)) (F0 m 50 ls []) := by
        intro n3
        induction n3 with
        | zero =>
          intro i3 τ3 hi3 he3 hv3 H locs hP hD hS ls hl
          have hi3 : i3 = P := by omega
          have he3 : τ3 = itr (fCut2 u v) P 0 τ1 := he3
          refine lv_iload_n S.1 S.2.1 dX3_cut_50 rfl (lv_at hl 0 rfl) ?_
          refine lv_aload_n S.1 S.2.1 dX3_cut_51 rfl (lv_at hl 1 rfl) ?_
          refine mf_packets S hK hP dX3_cut_52 ?_
          refine k_top (show τ3 0 16 = nI P from (hv3).2.1) ?_
          refine lv_icmp_ge (tgt := 141) S.1 S.2.1 dX3_cut_55 (by decide) (fun _ => ?_) (fun c => absurd (nI_le (by omega) (by omega)) c)
          have e9 : mCut P u v τ = τ3 := by first | (simp only [mCut, ← he1, ← he3, reduceIte, Bool.false_eq_true, eq_self_iff_true, if_true, if_false]; done) | with_reducible rfl | (exfalso; omega)
          rw [e9]
          exact kret_v S hr hlk hP hD hS dX3_cut_141
        | succ n3 ih3 =>
          intro i3 τ3 hi3 he3 hv3 H locs hP hD hS ls hl
          have hlt3 : i3 < P := by omega
          refine lv_iload_n S.1 S.2.1 dX3_cut_50 rfl (lv_at hl 0 rfl) ?_
          refine lv_aload_n S.1 S.2.1 dX3_cut_51 rfl (lv_at hl 1 rfl) ?_
          refine mf_packets S hK hP dX3_cut_52 ?_
          refine k_top (show τ3 0 16 = nI P from (hv3).2.1) ?_
          refine lv_icmp_ge (tgt := 141) S.1 S.2.1 dX3_cut_55 (by decide) (fun c => absurd c (nI_ge (by omega) (by omega))) (fun _ => ?_)
          refine lv_aload_n S.1 S.2.1 dX3_cut_58 rfl (lv_at hl 1 rfl) ?_
          refine mf_comesFrom S hK hP dX3_cut_59 ?_
          refine lv_iload_n S.1 S.2.1 dX3_cut_62 rfl (lv_at hl 0 rfl) ?_
          refine ma_comesFrom S hK hP (j := i3) (by omega) dX3_cut_63 ?_
          refine lv_iload_n S.1 S.2.1 dX3_cut_64 rfl (lv_at hl 2 rfl) ?_
          refine lv_icmp_ne (tgt := 78) S.1 S.2.1 dX3_cut_65 (by decide) (fun c6 => ?_) (fun c6 => ?_)
          · refine lv_aload_n S.1 S.2.1 dX3_cut_78 rfl (lv_at hl 1 rfl) ?_
            refine mf_comesFrom S hK hP dX3_cut_79 ?_
            refine lv_iload_n S.1 S.2.1 dX3_cut_82 rfl (lv_at hl 0 rfl) ?_
            refine ma_comesFrom S hK hP (j := i3) (by omega) dX3_cut_83 ?_
            refine lv_iload_n S.1 S.2.1 dX3_cut_84 rfl (lv_at hl 3 rfl) ?_
            refine lv_icmp_ne (tgt := 102) S.1 S.2.1 dX3_cut_85 (by decide) (fun c7 => ?_) (fun c7 => ?_)
            · refine lv_iconst (v := (nI 0)) S.1 S.2.1 dX3_cut_102 (by decide) ?_
              refine lv_istore (lv' := [(4, .int (nI 0)), (3, .int (nI (i3))), (0, .ref (a 0)), (1, .int (nI (u))), (2, .int (nI (v)))]) S.1 S.2.1 dX3_cut_103 hl (by decide) rfl (fun ls hl => ?_)
              refine lv_aload_n S.1 S.2.1 dX3_cut_105 rfl (lv_at hl 2 rfl) ?_
              refine mf_states S hK hP dX3_cut_106 ?_
              refine lv_iload_n S.1 S.2.1 dX3_cut_109 rfl (lv_at hl 1 rfl) ?_
              refine lv_aload_n S.1 S.2.1 dX3_cut_110 rfl (lv_at hl 2 rfl) ?_
              refine mf_states S hK hP dX3_cut_111 ?_
              refine lv_iload_n S.1 S.2.1 dX3_cut_114 rfl (lv_at hl 1 rfl) ?_
              refine ma_states S hK hP (j := i3) (by omega) dX3_cut_115 ?_
              refine lv_if_ne (tgt := 128) S.1 S.2.1 dX3_cut_116 (by decide) (fun c8 => ?_) (fun c8 => ?_)
              · refine lv_aload_n S.1 S.2.1 dX3_cut_128 rfl (lv_at hl 2 rfl) ?_
                refine mf_states S hK hP dX3_cut_129 ?_
                refine lv_iload_n S.1 S.2.1 dX3_cut_132 rfl (lv_at hl 1 rfl) ?_
                refine ma_states S hK hP (j := i3) (by omega) dX3_cut_133 ?_
                refine ms_states S hK hP hD hS (j := i3) (by omega) dX3_cut_134 (fun H locs hP hD hS => ?_)
                refine lv_iinc (v := (nI (i3 + 1))) (lv' := [(3, .int (nI (i3 + 1))), (4, .int (nI 0)), (0, .ref (a 0)), (1, .int (nI (u))), (2, .int (nI (v)))]) S.1 S.2.1 dX3_cut_135 hl (k := 1) rfl (nI_add _ 1) (by decide) rfl (fun ls hl => ?_)
                refine lv_goto (tgt := 50) S.1 S.2.1 dX3_cut_138 (by decide) ?_
                exact ih3 (i3 + 1) (mS 19 i3 (τ3 19 i3) τ3) (by omega) (itr_step he3 (by first | (simp only [fCut2, onB, ← he1, c6, c7, c8, reduceIte, Bool.false_eq_true, eq_self_iff_true, if_true, if_false]; done) | with_reducible rfl | (exfalso; omega))) (by have h9 : mI P ((fCut2 u v) i3 τ3) := fCut2_I i3 hlt3 hv3; have e8 : (fCut2 u v) i3 τ3 = mS 19 i3 (τ3 19 i3) τ3 := (by first | (simp only [fCut2, onB, ← he1, c6, c7, c8, reduceIte, Bool.false_eq_true, eq_self_iff_true, if_true, if_false]; done) | with_reducible rfl | (exfalso; omega)); rw [e8] at h9; exact h9) _ _ hP hD hS _ (lv_sub hl [0, 2, 3, 4] rfl)
              · refine lv_iload S.1 S.2.1 dX3_cut_119 (lv_at hl 0 rfl) ?_
                refine lv_if_eq (tgt := 128) S.1 S.2.1 dX3_cut_121 (by decide) (fun _ => ?_) (fun c9 => absurd (by decide) c9)
                refine lv_aload_n S.1 S.2.1 dX3_cut_128 rfl (lv_at hl 2 rfl) ?_
                refine mf_states S hK hP dX3_cut_129 ?_
                refine lv_iload_n S.1 S.2.1 dX3_cut_132 rfl (lv_at hl 1 rfl) ?_
                refine ma_states S hK hP (j := i3) (by omega) dX3_cut_133 ?_
                refine ms_states S hK hP hD hS (j := i3) (by omega) dX3_cut_134 (fun H locs hP hD hS => ?_)
                refine lv_iinc (v := (nI (i3 + 1))) (lv' := [(3, .int (nI (i3 + 1))), (4, .int (nI 0)), (0, .ref (a 0)), (1, .int (nI (u))), (2, .int (nI (v)))]) S.1 S.2.1 dX3_cut_135 hl (k := 1) rfl (nI_add _ 1) (by decide) rfl (fun ls hl => ?_)
                refine lv_goto (tgt := 50) S.1 S.2.1 dX3_cut_138 (by decide) ?_
                exact ih3 (i3 + 1) (mS 19 i3 (τ3 19 i3) τ3) (by omega) (itr_step he3 (by first | (simp only [fCut2, onB, ← he1, c6, c7, eq_true c8, reduceIte, Bool.false_eq_true, eq_self_iff_true, if_true, if_false]; done) | with_reducible rfl | (exfalso; omega))) (by have h9 : mI P ((fCut2 u v) i3 τ3) := fCut2_I i3 hlt3 hv3; have e8 : (fCut2 u v) i3 τ3 = mS 19 i3 (τ3 19 i3) τ3 := (by first | (simp only [fCut2, onB, ← he1, c6, c7, eq_true c8, reduceIte, Bool.false_eq_true, eq_self_iff_true, if_true, if_false]; done) | with_reducible rfl | (exfalso; omega)); rw [e8] at h9; exact h9) _ _ hP hD hS _ (lv_sub hl [0, 2, 3, 4] rfl)
            · refine lv_aload_n S.1 S.2.1 dX3_cut_88 rfl (lv_at hl 1 rfl) ?_
              refine mf_comesTo S hK hP dX3_cut_89 ?_
              refine lv_iload_n S.1 S.2.1 dX3_cut_92 rfl (lv_at hl 0 rfl) ?_
              refine ma_comesTo S hK hP (j := i3) (by omega) dX3_cut_93 ?_
              refine lv_iload_n S.1 S.2.1 dX3_cut_94 rfl (lv_at hl 2 rfl) ?_
              refine lv_icmp_ne (tgt := 102) S.1 S.2.1 dX3_cut_95 (by decide) (fun c10 => ?_) (fun c10 => ?_)
              · refine lv_iconst (v := (nI 0)) S.1 S.2.1 dX3_cut_102 (by decide) ?_
                refine lv_istore (lv' := [(4, .int (nI 0)), (3, .int (nI (i3))), (0, .ref (a 0)), (1, .int (nI (u))), (2, .int (nI (v)))]) S.1 S.2.1 dX3_cut_103 hl (by decide) rfl (fun ls hl => ?_)
                refine lv_aload_n S.1 S.2.1 dX3_cut_105 rfl (lv_at hl 2 rfl) ?_
                refine mf_states S hK hP dX3_cut_106 ?_
                refine lv_iload_n S.1 S.2.1 dX3_cut_109 rfl (lv_at hl 1 rfl) ?_
                refine lv_aload_n S.1 S.2.1 dX3_cut_110 rfl (lv_at hl 2 rfl) ?_
                refine mf_states S hK hP dX3_cut_111 ?_
                refine lv_iload_n S.1 S.2.1 dX3_cut_114 rfl (lv_at hl 1 rfl) ?_
                refine ma_states S hK hP (j := i3) (by omega) dX3_cut_115 ?_
                refine lv_if_ne (tgt := 128) S.1 S.2.1 dX3_cut_116 (by decide) (fun c11 => ?_) (fun c11 => ?_)
                · refine lv_aload_n S.1 S.2.1 dX3_cut_128 rfl (lv_at hl 2 rfl) ?_
                  refine mf_states S hK hP dX3_cut_129 ?_
                  refine lv_iload_n S.1 S.2.1 dX3_cut_132 rfl (lv_at hl 1 rfl) ?_
                  refine ma_states S hK hP (j := i3) (by omega) dX3_cut_133 ?_
                  refine ms_states S hK hP hD hS (j := i3) (by omega) dX3_cut_134 (fun H locs hP hD hS => ?_)
                  refine lv_iinc (v := (nI (i3 + 1))) (lv' := [(3, .int (nI (i3 + 1))), (4, .int (nI 0)), (0, .ref (a 0)), (1, .int (nI (u))), (2, .int (nI (v)))]) S.1 S.2.1 dX3_cut_135 hl (k := 1) rfl (nI_add _ 1) (by decide) rfl (fun ls hl => ?_)
                  refine lv_goto (tgt := 50) S.1 S.2.1 dX3_cut_138 (by decide) ?_
                  exact ih3 (i3 + 1) (mS 19 i3 (τ3 19 i3) τ3) (by omega) (itr_step he3 (by first | (simp only [fCut2, onB, ← he1, c6, eq_true c7, c10, c11, reduceIte, Bool.false_eq_true, eq_self_iff_true, if_true, if_false]; done) | with_reducible rfl | (exfalso; omega))) (by have h9 : mI P ((fCut2 u v) i3 τ3) := fCut2_I i3 hlt3 hv3; have e8 : (fCut2 u v) i3 τ3 = mS 19 i3 (τ3 19 i3) τ3 := (by first | (simp only [fCut2, onB, ← he1, c6, eq_true c7, c10, c11, reduceIte, Bool.false_eq_true, eq_self_iff_true, if_true, if_false]; done) | with_reducible rfl | (exfalso; omega)); rw [e8] at h9; exact h9) _ _ hP hD hS _ (lv_sub hl [0, 2, 3, 4] rfl)
                · refine lv_iload S.1 S.2.1 dX3_cut_119 (lv_at hl 0 rfl) ?_
                  refine lv_if_eq (tgt := 128) S.1 S.2.1 dX3_cut_121 (by decide) (fun _ => ?_) (fun c12 => absurd (by decide) c12)
                  refine lv_aload_n S.1 S.2.1 dX3_cut_128 rfl (lv_at hl 2 rfl) ?_
                  refine mf_states S hK hP dX3_cut_129 ?_
                  refine lv_iload_n S.1 S.2.1 dX3_cut_132 rfl (lv_at hl 1 rfl) ?_
                  refine ma_states S hK hP (j := i3) (by omega) dX3_cut_133 ?_
                  refine ms_states S hK hP hD hS (j := i3) (by omega) dX3_cut_134 (fun H locs hP hD hS => ?_)
                  refine lv_iinc (v := (nI (i3 + 1))) (lv' := [(3, .int (nI (i3 + 1))), (4, .int (nI 0)), (0, .ref (a 0)), (1, .int (nI (u))), (2, .int (nI (v)))]) S.1 S.2.1 dX3_cut_135 hl (k := 1) rfl (nI_add _ 1) (by decide) rfl (fun ls hl => ?_)
                  refine lv_goto (tgt := 50) S.1 S.2.1 dX3_cut_138 (by decide) ?_
                  exact ih3 (i3 + 1) (mS 19 i3 (τ3 19 i3) τ3) (by omega) (itr_step he3 (by first | (simp only [fCut2, onB, ← he1, c6, eq_true c7, c10, eq_true c11, reduceIte, Bool.false_eq_true, eq_self_iff_true, if_true, if_false]; done) | with_reducible rfl | (exfalso; omega))) (by have h9 : mI P ((fCut2 u v) i3 τ3) := fCut2_I i3 hlt3 hv3; have e8 : (fCut2 u v) i3 τ3 = mS 19 i3 (τ3 19 i3) τ3 := (by first | (simp only [fCut2, onB, ← he1, c6, eq_true c7, c10, eq_true c11, reduceIte, Bool.false_eq_true, eq_self_iff_true, if_true, if_false]; done) | with_reducible rfl | (exfalso; omega)); rw [e8] at h9; exact h9) _ _ hP hD hS _ (lv_sub hl [0, 2, 3, 4] rfl)
              · refine lv_iconst (v := (nI 1)) S.1 S.2.1 dX3_cut_98 (by decide) ?_
                refine lv_goto (tgt := 103) S.1 S.2.1 dX3_cut_99 (by decide) ?_
                refine lv_istore (lv' := [(4, .int (nI 1)), (3, .int (nI (i3))), (0, .ref (a 0)), (1, .int (nI (u))), (2, .int (nI (v)))]) S.1 S.2.1 dX3_cut_103 hl (by decide) rfl (fun ls hl => ?_)
                refine lv_aload_n S.1 S.2.1 dX3_cut_105 rfl (lv_at hl 2 rfl) ?_
                refine mf_states S hK hP dX3_cut_106 ?_
                refine lv_iload_n S.1 S.2.1 dX3_cut_109 rfl (lv_at hl 1 rfl) ?_
                refine lv_aload_n S.1 S.2.1 dX3_cut_110 rfl (lv_at hl 2 rfl) ?_
                refine mf_states S hK hP dX3_cut_111 ?_
                refine lv_iload_n S.1 S.2.1 dX3_cut_114 rfl (lv_at hl 1 rfl) ?_
                refine ma_states S hK hP (j := i3) (by omega) dX3_cut_115 ?_
                refine lv_if_ne (tgt := 128) S.1 S.2.1 dX3_cut_116 (by decide) (fun c13 => ?_) (fun c13 => ?_)
                · refine lv_aload_n S.1 S.2.1 dX3_cut_128 rfl (lv_at hl 2 rfl) ?_
                  refine mf_states S hK hP dX3_cut_129 ?_
                  refine lv_iload_n S.1 S.2.1 dX3_cut_132 rfl (lv_at hl 1 rfl) ?_
                  refine ma_states S hK hP (j := i3) (by omega) dX3_cut_133 ?_
                  refine ms_states S hK hP hD hS (j := i3) (by omega) dX3_cut_134 (fun H locs hP hD hS => ?_)
                  refine lv_iinc (v := (nI (i3 + 1))) (lv' := [(3, .int (nI (i3 + 1))), (4, .int (nI 1)), (0, .ref (a 0)), (1, .int (nI (u))), (2, .int (nI (v)))]) S.1 S.2.1 dX3_cut_135 hl (k := 1) rfl (nI_add _ 1) (by decide) rfl (fun ls hl => ?_)
                  refine lv_goto (tgt := 50) S.1 S.2.1 dX3_cut_138 (by decide) ?_
                  exact ih3 (i3 + 1) (mS 19 i3 (τ3 19 i3) τ3) (by omega) (itr_step he3 (by first | (simp only [fCut2, onB, ← he1, c6, eq_true c7, eq_true c10, c13, reduceIte, Bool.false_eq_true, eq_self_iff_true, if_true, if_false]; done) | with_reducible rfl | (exfalso; omega))) (by have h9 : mI P ((fCut2 u v) i3 τ3) := fCut2_I i3 hlt3 hv3; have e8 : (fCut2 u v) i3 τ3 = mS 19 i3 (τ3 19 i3) τ3 := (by first | (simp only [fCut2, onB, ← he1, c6, eq_true c7, eq_true c10, c13, reduceIte, Bool.false_eq_true, eq_self_iff_true, if_true, if_false]; done) | with_reducible rfl | (exfalso; omega)); rw [e8] at h9; exact h9) _ _ hP hD hS _ (lv_sub hl [0, 2, 3, 4] rfl)
                · refine lv_iload S.1 S.2.1 dX3_cut_119 (lv_at hl 0 rfl) ?_
                  refine lv_if_eq (tgt := 128) S.1 S.2.1 dX3_cut_121 (by decide) (fun c14 => absurd c14 (by decide)) (fun _ => ?_)
                  refine lv_iconst (v := (nI 3)) S.1 S.2.1 dX3_cut_124 (by decide) ?_
                  refine lv_goto (tgt := 134) S.1 S.2.1 dX3_cut_125 (by decide) ?_
                  refine ms_states S hK hP hD hS (j := i3) (by omega) dX3_cut_134 (fun H locs hP hD hS => ?_)
                  refine lv_iinc (v := (nI (i3 + 1))) (lv' := [(3, .int (nI (i3 + 1))), (4, .int (nI 1)), (0, .ref (a 0)), (1, .int (nI (u))), (2, .int (nI (v)))]) S.1 S.2.1 dX3_cut_135 hl (k := 1) rfl (nI_add _ 1) (by decide) rfl (fun ls hl => ?_)
                  refine lv_goto (tgt := 50) S.1 S.2.1 dX3_cut_138 (by decide) ?_
                  exact ih3 (i3 + 1) (mS 19 i3 (nI 3) τ3) (by omega) (itr_step he3 (by first | (simp only [fCut2, onB, ← he1, c6, eq_true c7, eq_true c10, eq_true c13, reduceIte, Bool.false_eq_true, eq_self_iff_true, if_true, if_false]; done) | with_reducible rfl | (exfalso; omega))) (by have h9 : mI P ((fCut2 u v) i3 τ3) := fCut2_I i3 hlt3 hv3; have e8 : (fCut2 u v) i3 τ3 = mS 19 i3 (nI 3) τ3 := (by first | (simp only [fCut2, onB, ← he1, c6, eq_true c7, eq_true c10, eq_true c13, reduceIte, Bool.false_eq_true, eq_self_iff_true, if_true, if_false]; done) | with_reducible rfl | (exfalso; omega)); rw [e8] at h9; exact h9) _ _ hP hD hS _ (lv_sub hl [0, 2, 3, 4] rfl)
          · refine lv_aload_n S.1 S.2.1 dX3_cut_68 rfl (lv_at hl 1 rfl) ?_
            refine mf_comesTo S hK hP dX3_cut_69 ?_
            refine lv_iload_n S.1 S.2.1 dX3_cut_72 rfl (lv_at hl 0 rfl) ?_
            refine ma_comesTo S hK hP (j := i3) (by omega) dX3_cut_73 ?_
            refine lv_iload_n S.1 S.2.1 dX3_cut_74 rfl (lv_at hl 3 rfl) ?_
            refine lv_icmp_eq (tgt := 98) S.1 S.2.1 dX3_cut_75 (by decide) (fun c15 => ?_) (fun c15 => ?_)
            · refine lv_iconst (v := (nI 1)) S.1 S.2.1 dX3_cut_98 (by decide) ?_
              refine lv_goto (tgt := 103) S.1 S.2.1 dX3_cut_99 (by decide) ?_
              refine lv_istore (lv' := [(4, .int (nI 1)), (3, .int (nI (i3))), (0, .ref (a 0)), (1, .int (nI (u))), (2, .int (nI (v)))]) S.1 S.2.1 dX3_cut_103 hl (by decide) rfl (fun ls hl => ?_)
              refine lv_aload_n S.1 S.2.1 dX3_cut_105 rfl (lv_at hl 2 rfl) ?_
              refine mf_states S hK hP dX3_cut_106 ?_
              refine lv_iload_n S.1 S.2.1 dX3_cut_109 rfl (lv_at hl 1 rfl) ?_
              refine lv_aload_n S.1 S.2.1 dX3_cut_110 rfl (lv_at hl 2 rfl) ?_
              refine mf_states S hK hP dX3_cut_111 ?_
              refine lv_iload_n S.1 S.2.1 dX3_cut_114 rfl (lv_at hl 1 rfl) ?_
              refine ma_states S hK hP (j := i3) (by omega) dX3_cut_115 ?_
              refine lv_if_ne (tgt := 128) S.1 S.2.1 dX3_cut_116 (by decide) (fun c16 => ?_) (fun c16 => ?_)
              · refine lv_aload_n S.1 S.2.1 dX3_cut_128 rfl (lv_at hl 2 rfl) ?_
                refine mf_states S hK hP dX3_cut_129 ?_
                refine lv_iload_n S.1 S.2.1 dX3_cut_132 rfl (lv_at hl 1 rfl) ?_
                refine ma_states S hK hP (j := i3) (by omega) dX3_cut_133 ?_
                refine ms_states S hK hP hD hS (j := i3) (by omega) dX3_cut_134 (fun H locs hP hD hS => ?_)
                refine lv_iinc (v := (nI (i3 + 1))) (lv' := [(3, .int (nI (i3 + 1))), (4, .int (nI 1)), (0, .ref (a 0)), (1, .int (nI (u))), (2, .int (nI (v)))]) S.1 S.2.1 dX3_cut_135 hl (k := 1) rfl (nI_add _ 1) (by decide) rfl (fun ls hl => ?_)
                refine lv_goto (tgt := 50) S.1 S.2.1 dX3_cut_138 (by decide) ?_
                exact ih3 (i3 + 1) (mS 19 i3 (τ3 19 i3) τ3) (by omega) (itr_step he3 (by first | (simp only [fCut2, onB, ← he1, eq_true c6, eq_true c15, c16, reduceIte, Bool.false_eq_true, eq_self_iff_true, if_true, if_false]; done) | with_reducible rfl | (exfalso; omega))) (by have h9 : mI P ((fCut2 u v) i3 τ3) := fCut2_I i3 hlt3 hv3; have e8 : (fCut2 u v) i3 τ3 = mS 19 i3 (τ3 19 i3) τ3 := (by first | (simp only [fCut2, onB, ← he1, eq_true c6, eq_true c15, c16, reduceIte, Bool.false_eq_true, eq_self_iff_true, if_true, if_false]; done) | with_reducible rfl | (exfalso; omega)); rw [e8] at h9; exact h9) _ _ hP hD hS _ (lv_sub hl [0, 2, 3, 4] rfl)
              · refine lv_iload S.1 S.2.1 dX3_cut_119 (lv_at hl 0 rfl) ?_
                refine lv_if_eq (tgt := 128) S.1 S.2.1 dX3_cut_121 (by decide) (fun c17 => absurd c17 (by decide)) (fun _ => ?_)
                refine lv_iconst (v := (nI 3)) S.1 S.2.1 dX3_cut_124 (by decide) ?_
                refine lv_goto (tgt := 134) S.1 S.2.1 dX3_cut_125 (by decide) ?_
                refine ms_states S hK hP hD hS (j := i3) (by omega) dX3_cut_134 (fun H locs hP hD hS => ?_)
                refine lv_iinc (v := (nI (i3 + 1))) (lv' := [(3, .int (nI (i3 + 1))), (4, .int (nI 1)), (0, .ref (a 0)), (1, .int (nI (u))), (2, .int (nI (v)))]) S.1 S.2.1 dX3_cut_135 hl (k := 1) rfl (nI_add _ 1) (by decide) rfl (fun ls hl => ?_)
                refine lv_goto (tgt := 50) S.1 S.2.1 dX3_cut_138 (by decide) ?_
                exact ih3 (i3 + 1) (mS 19 i3 (nI 3) τ3) (by omega) (itr_step he3 (by first | (simp only [fCut2, onB, ← he1, eq_true c6, eq_true c15, eq_true c16, reduceIte, Bool.false_eq_true, eq_self_iff_true, if_true, if_false]; done) | with_reducible rfl | (exfalso; omega))) (by have h9 : mI P ((fCut2 u v) i3 τ3) := fCut2_I i3 hlt3 hv3; have e8 : (fCut2 u v) i3 τ3 = mS 19 i3 (nI 3) τ3 := (by first | (simp only [fCut2, onB, ← he1, eq_true c6, eq_true c15, eq_true c16, reduceIte, Bool.false_eq_true, eq_self_iff_true, if_true, if_false]; done) | with_reducible rfl | (exfalso; omega)); rw [e8] at h9; exact h9) _ _ hP hD hS _ (lv_sub hl [0, 2, 3, 4] rfl)
            · refine lv_aload_n S.1 S.2.1 dX3_cut_78 rfl (lv_at hl 1 rfl) ?_
              refine mf_comesFrom S hK hP dX3_cut_79 ?_
              refine lv_iload_n S.1 S.2.1 dX3_cut_82 rfl (lv_at hl 0 rfl) ?_
              refine ma_comesFrom S hK hP (j := i3) (by omega) dX3_cut_83 ?_
              refine lv_iload_n S.1 S.2.1 dX3_cut_84 rfl (lv_at hl 3 rfl) ?_
              refine lv_icmp_ne (tgt := 102) S.1 S.2.1 dX3_cut_85 (by decide) (fun c18 => ?_) (fun c18 => ?_)
              · refine lv_iconst (v := (nI 0)) S.1 S.2.1 dX3_cut_102 (by decide) ?_
                refine lv_istore (lv' := [(4, .int (nI 0)), (3, .int (nI (i3))), (0, .ref (a 0)), (1, .int (nI (u))), (2, .int (nI (v)))]) S.1 S.2.1 dX3_cut_103 hl (by decide) rfl (fun ls hl => ?_)
                refine lv_aload_n S.1 S.2.1 dX3_cut_105 rfl (lv_at hl 2 rfl) ?_
                refine mf_states S hK hP dX3_cut_106 ?_
                refine lv_iload_n S.1 S.2.1 dX3_cut_109 rfl (lv_at hl 1 rfl) ?_
                refine lv_aload_n S.1 S.2.1 dX3_cut_110 rfl (lv_at hl 2 rfl) ?_
                refine mf_states S hK hP dX3_cut_111 ?_
                refine lv_iload_n S.1 S.2.1 dX3_cut_114 rfl (lv_at hl 1 rfl) ?_
                refine ma_states S hK hP (j := i3) (by omega) dX3_cut_115 ?_
                refine lv_if_ne (tgt := 128) S.1 S.2.1 dX3_cut_116 (by decide) (fun c19 => ?_) (fun c19 => ?_)
                · refine lv_aload_n S.1 S.2.1 dX3_cut_128 rfl (lv_at hl 2 rfl) ?_
                  refine mf_states S hK hP dX3_cut_129 ?_
                  refine lv_iload_n S.1 S.2.1 dX3_cut_132 rfl (lv_at hl 1 rfl) ?_
                  refine ma_states S hK hP (j := i3) (by omega) dX3_cut_133 ?_
                  refine ms_states S hK hP hD hS (j := i3) (by omega) dX3_cut_134 (fun H locs hP hD hS => ?_)
                  refine lv_iinc (v := (nI (i3 + 1))) (lv' := [(3, .int (nI (i3 + 1))), (4, .int (nI 0)), (0, .ref (a 0)), (1, .int (nI (u))), (2, .int (nI (v)))]) S.1 S.2.1 dX3_cut_135 hl (k := 1) rfl (nI_add _ 1) (by decide) rfl (fun ls hl => ?_)
                  refine lv_goto (tgt := 50) S.1 S.2.1 dX3_cut_138 (by decide) ?_
                  exact ih3 (i3 + 1) (mS 19 i3 (τ3 19 i3) τ3) (by omega) (itr_step he3 (by first | (simp only [fCut2, onB, ← he1, eq_true c6, c15, c18, c19, reduceIte, Bool.false_eq_true, eq_self_iff_true, if_true, if_false]; done) | with_reducible rfl | (exfalso; omega))) (by have h9 : mI P ((fCut2 u v) i3 τ3) := fCut2_I i3 hlt3 hv3; have e8 : (fCut2 u v) i3 τ3 = mS 19 i3 (τ3 19 i3) τ3 := (by first | (simp only [fCut2, onB, ← he1, eq_true c6, c15, c18, c19, reduceIte, Bool.false_eq_true, eq_self_iff_true, if_true, if_false]; done) | with_reducible rfl | (exfalso; omega)); rw [e8] at h9; exact h9) _ _ hP hD hS _ (lv_sub hl [0, 2, 3, 4] rfl)
                · refine lv_iload S.1 S.2.1 dX3_cut_119 (lv_at hl 0 rfl) ?_
                  refine lv_if_eq (tgt := 128) S.1 S.2.1 dX3_cut_121 (by decide) (fun _ => ?_) (fun c20 => absurd (by decide) c20)
                  refine lv_aload_n S.1 S.2.1 dX3_cut_128 rfl (lv_at hl 2 rfl) ?_
                  refine mf_states S hK hP dX3_cut_129 ?_
                  refine lv_iload_n S.1 S.2.1 dX3_cut_132 rfl (lv_at hl 1 rfl) ?_
                  refine ma_states S hK hP (j := i3) (by omega) dX3_cut_133 ?_
                  refine ms_states S hK hP hD hS (j := i3) (by omega) dX3_cut_134 (fun H locs hP hD hS => ?_)
                  refine lv_iinc (v := (nI (i3 + 1))) (lv' := [(3, .int (nI (i3 + 1))), (4, .int (nI 0)), (0, .ref (a 0)), (1, .int (nI (u))), (2, .int (nI (v)))]) S.1 S.2.1 dX3_cut_135 hl (k := 1) rfl (nI_add _ 1) (by decide) rfl (fun ls hl => ?_)
                  refine lv_goto (tgt := 50) S.1 S.2.1 dX3_cut_138 (by decide) ?_
                  exact ih3 (i3 + 1) (mS 19 i3 (τ3 19 i3) τ3) (by omega) (itr_step he3 (by first | (simp only [fCut2, onB, ← he1, eq_true c6, c15, c18, eq_true c19, reduceIte, Bool.false_eq_true, eq_self_iff_true, if_true, if_false]; done) | with_reducible rfl | (exfalso; omega))) (by have h9 : mI P ((fCut2 u v) i3 τ3) := fCut2_I i3 hlt3 hv3; have e8 : (fCut2 u v) i3 τ3 = mS 19 i3 (τ3 19 i3) τ3 := (by first | (simp only [fCut2, onB, ← he1, eq_true c6, c15, c18, eq_true c19, reduceIte, Bool.false_eq_true, eq_self_iff_true, if_true, if_false]; done) | with_reducible rfl | (exfalso; omega)); rw [e8] at h9; exact h9) _ _ hP hD hS _ (lv_sub hl [0, 2, 3, 4] rfl)
              · refine lv_aload_n S.1 S.2.1 dX3_cut_88 rfl (lv_at hl 1 rfl) ?_
                refine mf_comesTo S hK hP dX3_cut_89 ?_
                refine lv_iload_n S.1 S.2.1 dX3_cut_92 rfl (lv_at hl 0 rfl) ?_
                refine ma_comesTo S hK hP (j := i3) (by omega) dX3_cut_93 ?_
                refine lv_iload_n S.1 S.2.1 dX3_cut_94 rfl (lv_at hl 2 rfl) ?_
                refine lv_icmp_ne (tgt := 102) S.1 S.2.1 dX3_cut_95 (by decide) (fun c21 => ?_) (fun c21 => ?_)
                · refine lv_iconst (v := (nI 0)) S.1 S.2.1 dX3_cut_102 (by decide) ?_
                  refine lv_istore (lv' := [(4, .int (nI 0)), (3, .int (nI (i3))), (0, .ref (a 0)), (1, .int (nI (u))), (2, .int (nI (v)))]) S.1 S.2.1 dX3_cut_103 hl (by decide) rfl (fun ls hl => ?_)
                  refine lv_aload_n S.1 S.2.1 dX3_cut_105 rfl (lv_at hl 2 rfl) ?_
                  refine mf_states S hK hP dX3_cut_106 ?_
                  refine lv_iload_n S.1 S.2.1 dX3_cut_109 rfl (lv_at hl 1 rfl) ?_
                  refine lv_aload_n S.1 S.2.1 dX3_cut_110 rfl (lv_at hl 2 rfl) ?_
                  refine mf_states S hK hP dX3_cut_111 ?_
                  refine lv_iload_n S.1 S.2.1 dX3_cut_114 rfl (lv_at hl 1 rfl) ?_
                  refine ma_states S hK hP (j := i3) (by omega) dX3_cut_115 ?_
                  refine lv_if_ne (tgt := 128) S.1 S.2.1 dX3_cut_116 (by decide) (fun c22 => ?_) (fun c22 => ?_)
                  · refine lv_aload_n S.1 S.2.1 dX3_cut_128 rfl (lv_at hl 2 rfl) ?_
                    refine mf_states S hK hP dX3_cut_129 ?_
                    refine lv_iload_n S.1 S.2.1 dX3_cut_132 rfl (lv_at hl 1 rfl) ?_
                    refine ma_states S hK hP (j := i3) (by omega) dX3_cut_133 ?_
                    refine ms_states S hK hP hD hS (j := i3) (by omega) dX3_cut_134 (fun H locs hP hD hS => ?_)
                    refine lv_iinc (v := (nI (i3 + 1))) (lv' := [(3, .int (nI (i3 + 1))), (4, .int (nI 0)), (0, .ref (a 0)), (1, .int (nI (u))), (2, .int (nI (v)))]) S.1 S.2.1 dX3_cut_135 hl (k := 1) rfl (nI_add _ 1) (by decide) rfl (fun ls hl => ?_)
                    refine lv_goto (tgt := 50) S.1 S.2.1 dX3_cut_138 (by decide) ?_
                    exact ih3 (i3 + 1) (mS 19 i3 (τ3 19 i3) τ3) (by omega) (itr_step he3 (by first | (simp only [fCut2, onB, ← he1, eq_true c6, c15, eq_true c18, c21, c22, reduceIte, Bool.false_eq_true, eq_self_iff_true, if_true, if_false]; done) | with_reducible rfl | (exfalso; omega))) (by have h9 : mI P ((fCut2 u v) i3 τ3) := fCut2_I i3 hlt3 hv3; have e8 : (fCut2 u v) i3 τ3 = mS 19 i3 (τ3 19 i3) τ3 := (by first | (simp only [fCut2, onB, ← he1, eq_true c6, c15, eq_true c18, c21, c22, reduceIte, Bool.false_eq_true, eq_self_iff_true, if_true, if_false]; done) | with_reducible rfl | (exfalso; omega)); rw [e8] at h9; exact h9) _ _ hP hD hS _ (lv_sub hl [0, 2, 3, 4] rfl)
                  · refine lv_iload S.1 S.2.1 dX3_cut_119 (lv_at hl 0 rfl) ?_
                    refine lv_if_eq (tgt := 128) S.1 S.2.1 dX3_cut_121 (by decide) (fun _ => ?_) (fun c23 => absurd (by decide) c23)
                    refine lv_aload_n S.1 S.2.1 dX3_cut_128 rfl (lv_at hl 2 rfl) ?_
                    refine mf_states S hK hP dX3_cut_129 ?_
                    refine lv_iload_n S.1 S.2.1 dX3_cut_132 rfl (lv_at hl 1 rfl) ?_
                    refine ma_states S hK hP (j := i3) (by omega) dX3_cut_133 ?_
                    refine ms_states S hK hP hD hS (j := i3) (by omega) dX3_cut_134 (fun H locs hP hD hS => ?_)
                    refine lv_iinc (v := (nI (i3 + 1))) (lv' := [(3, .int (nI (i3 + 1))), (4, .int (nI 0)), (0, .ref (a 0)), (1, .int (nI (u))), (2, .int (nI (v)))]) S.1 S.2.1 dX3_cut_135 hl (k := 1) rfl (nI_add _ 1) (by decide) rfl (fun ls hl => ?_)
                    refine lv_goto (tgt := 50) S.1 S.2.1 dX3_cut_138 (by decide) ?_
                    exact ih3 (i3 + 1) (mS 19 i3 (τ3 19 i3) τ3) (by omega) (itr_step he3 (by first | (simp only [fCut2, onB, ← he1, eq_true c6, c15, eq_true c18, c21, eq_true c22, reduceIte, Bool.false_eq_true, eq_self_iff_true, if_true, if_false]; done) | with_reducible rfl | (exfalso; omega))) (by have h9 : mI P ((fCut2 u v) i3 τ3) := fCut2_I i3 hlt3 hv3; have e8 : (fCut2 u v) i3 τ3 = mS 19 i3 (τ3 19 i3) τ3 := (by first | (simp only [fCut2, onB, ← he1, eq_true c6, c15, eq_true c18, c21, eq_true c22, reduceIte, Bool.false_eq_true, eq_self_iff_true, if_true, if_false]; done) | with_reducible rfl | (exfalso; omega)); rw [e8] at h9; exact h9) _ _ hP hD hS _ (lv_sub hl [0, 2, 3, 4] rfl)
                · refine lv_iconst (v := (nI 1)) S.1 S.2.1 dX3_cut_98 (by decide) ?_
                  refine lv_goto (tgt := 103) S.1 S.2.1 dX3_cut_99 (by decide) ?_
                  refine lv_istore (lv' := [(4, .int (nI 1)), (3, .int (nI (i3))), (0, .ref (a 0)), (1, .int (nI (u))), (2, .int (nI (v)))]) S.1 S.2.1 dX3_cut_103 hl (by decide) rfl (fun ls hl => ?_)
                  refine lv_aload_n S.1 S.2.1 dX3_cut_105 rfl (lv_at hl 2 rfl) ?_
                  refine mf_states S hK hP dX3_cut_106 ?_
                  refine lv_iload_n S.1 S.2.1 dX3_cut_109 rfl (lv_at hl 1 rfl) ?_
                  refine lv_aload_n S.1 S.2.1 dX3_cut_110 rfl (lv_at hl 2 rfl) ?_
                  refine mf_states S hK hP dX3_cut_111 ?_
                  refine lv_iload_n S.1 S.2.1 dX3_cut_114 rfl (lv_at hl 1 rfl) ?_
                  refine ma_states S hK hP (j := i3) (by omega) dX3_cut_115 ?_
                  refine lv_if_ne (tgt := 128) S.1 S.2.1 dX3_cut_116 (by decide) (fun c24 => ?_) (fun c24 => ?_)
                  · refine lv_aload_n S.1 S.2.1 dX3_cut_128 rfl (lv_at hl 2 rfl) ?_
                    refine mf_states S hK hP dX3_cut_129 ?_
                    refine lv_iload_n S.1 S.2.1 dX3_cut_132 rfl (lv_at hl 1 rfl) ?_
                    refine ma_states S hK hP (j := i3) (by omega) dX3_cut_133 ?_
                    refine ms_states S hK hP hD hS (j := i3) (by omega) dX3_cut_134 (fun H locs hP hD hS => ?_)
                    refine lv_iinc (v := (nI (i3 + 1))) (lv' := [(3, .int (nI (i3 + 1))), (4, .int (nI 1)), (0, .ref (a 0)), (1, .int (nI (u))), (2, .int (nI (v)))]) S.1 S.2.1 dX3_cut_135 hl (k := 1) rfl (nI_add _ 1) (by decide) rfl (fun ls hl => ?_)
                    refine lv_goto (tgt := 50) S.1 S.2.1 dX3_cut_138 (by decide) ?_
                    exact ih3 (i3 + 1) (mS 19 i3 (τ3 19 i3) τ3) (by omega) (itr_step he3 (by first | (simp only [fCut2, onB, ← he1, eq_true c6, c15, eq_true c18, eq_true c21, c24, reduceIte, Bool.false_eq_true, eq_self_iff_true, if_true, if_false]; done) | with_reducible rfl | (exfalso; omega))) (by have h9 : mI P ((fCut2 u v) i3 τ3) := fCut2_I i3 hlt3 hv3; have e8 : (fCut2 u v) i3 τ3 = mS 19 i3 (τ3 19 i3) τ3 := (by first | (simp only [fCut2, onB, ← he1, eq_true c6, c15, eq_true c18, eq_true c21, c24, reduceIte, Bool.false_eq_true, eq_self_iff_true, if_true, if_false]; done) | with_reducible rfl | (exfalso; omega)); rw [e8] at h9; exact h9) _ _ hP hD hS _ (lv_sub hl [0, 2, 3, 4] rfl)
                  · refine lv_iload S.1 S.2.1 dX3_cut_119 (lv_at hl 0 rfl) ?_
                    refine lv_if_eq (tgt := 128) S.1 S.2.1 dX3_cut_121 (by decide) (fun c25 => absurd c25 (by decide)) (fun _ => ?_)
                    refine lv_iconst (v := (nI 3)) S.1 S.2.1 dX3_cut_124 (by decide) ?_
                    refine lv_goto (tgt := 134) S.1 S.2.1 dX3_cut_125 (by decide) ?_
                    refine ms_states S hK hP hD hS (j := i3) (by omega) dX3_cut_134 (fun H locs hP hD hS => ?_)
                    refine lv_iinc (v := (nI (i3 + 1))) (lv' := [(3, .int (nI (i3 + 1))), (4, .int (nI 1)), (0, .ref (a 0)), (1, .int (nI (u))), (2, .int (nI (v)))]) S.1 S.2.1 dX3_cut_135 hl (k := 1) rfl (nI_add _ 1) (by decide) rfl (fun ls hl => ?_)
                    refine lv_goto (tgt := 50) S.1 S.2.1 dX3_cut_138 (by decide) ?_
                    exact ih3 (i3 + 1) (mS 19 i3 (nI 3) τ3) (by omega) (itr_step he3 (by first | (simp only [fCut2, onB, ← he1, eq_true c6, c15, eq_true c18, eq_true c21, eq_true c24, reduceIte, Bool.false_eq_true, eq_self_iff_true, if_true, if_false]; done) | with_reducible rfl | (exfalso; omega))) (by have h9 : mI P ((fCut2 u v) i3 τ3) := fCut2_I i3 hlt3 hv3; have e8 : (fCut2 u v) i3 τ3 = mS 19 i3 (nI 3) τ3 := (by first | (simp only [fCut2, onB, ← he1, eq_true c6, c15, eq_true c18, eq_true c21, eq_true c24, reduceIte, Bool.false_eq_true, eq_self_iff_true, if_true, if_false]; done) | with_reducible rfl | (exfalso; omega)); rw [e8] at h9; exact h9) _ _ hP hD hS _ (lv_sub hl [0, 2, 3, 4] rfl)
      exact lp3 P 0 τ1 (by omega) rfl (show mI P τ1 from hv1) _ _ hP hD hS _ (lv_sub hl [0, 1, 2, 3] rfl)
    | succ n1 ih1 =>
      intro i1 τ1 hi1 he1 hv1 H locs hP hD hS ls hl
      have hlt1 : i1 < 8 := by omega
      refine lv_iload_n S.1 S.2.1 dX3_cut_2 rfl (lv_at hl 0 rfl) ?_
      refine lv_bipush (v := (nI 8)) S.1 S.2.1 dX3_cut_3 (by decide) ?_
      refine lv_icmp_ge (tgt := 48) S.1 S.2.1 dX3_cut_5 (by decide) (fun c => absurd c (nI_ge (by omega) (by omega))) (fun _ => ?_)
      refine lv_aload_n S.1 S.2.1 dX3_cut_8 rfl (lv_at hl 1 rfl) ?_
      refine mf_flightNumbers S hK hP dX3_cut_9 ?_
      refine lv_bipush (v := (nI 64)) S.1 S.2.1 dX3_cut_12 (by decide) ?_
      refine lv_iload_n S.1 S.2.1 dX3_cut_14 rfl (lv_at hl 2 rfl) ?_
      refine lv_imul S.1 S.2.1 dX3_cut_15 ?_
      refine k_top (pk_mul _ _) ?_
      refine lv_bipush (v := (nI 8)) S.1 S.2.1 dX3_cut_16 (by decide) ?_
      refine lv_iload_n S.1 S.2.1 dX3_cut_18 rfl (lv_at hl 3 rfl) ?_
      refine lv_imul S.1 S.2.1 dX3_cut_19 ?_
      refine k_top (pk_mul _ _) ?_
      refine lv_iadd S.1 S.2.1 dX3_cut_20 ?_
      refine k_top (nI_add _ _) ?_
      refine lv_iload_n S.1 S.2.1 dX3_cut_21 rfl (lv_at hl 0 rfl) ?_
      refine lv_iadd S.1 S.2.1 dX3_cut_22 ?_
      refine k_top (nI_add _ _) ?_
      refine lv_iconst (v := (nI 0)) S.1 S.2.1 dX3_cut_23 (by decide) ?_
      refine ms_flightNumbers S hK hP hD hS (j := (((64 * u) + (8 * v)) + i1)) (by omega) dX3_cut_24 (fun H locs hP hD hS => ?_)
      refine lv_aload_n S.1 S.2.1 dX3_cut_25 rfl (lv_at hl 1 rfl) ?_
      refine mf_flightNumbers S hK hP dX3_cut_26 ?_
      refine lv_bipush (v := (nI 64)) S.1 S.2.1 dX3_cut_29 (by decide) ?_
      refine lv_iload_n S.1 S.2.1 dX3_cut_31 rfl (lv_at hl 3 rfl) ?_
      refine lv_imul S.1 S.2.1 dX3_cut_32 ?_
      refine k_top (pk_mul _ _) ?_
      refine lv_bipush (v := (nI 8)) S.1 S.2.1 dX3_cut_33 (by decide) ?_
      refine lv_iload_n S.1 S.2.1 dX3_cut_35 rfl (lv_at hl 2 rfl) ?_
      refine lv_imul S.1 S.2.1 dX3_cut_36 ?_
      refine k_top (pk_mul _ _) ?_
      refine lv_iadd S.1 S.2.1 dX3_cut_37 ?_
      refine k_top (nI_add _ _) ?_
      refine lv_iload_n S.1 S.2.1 dX3_cut_38 rfl (lv_at hl 0 rfl) ?_
      refine lv_iadd S.1 S.2.1 dX3_cut_39 ?_
      refine k_top (nI_add _ _) ?_
      refine lv_iconst (v := (nI 0)) S.1 S.2.1 dX3_cut_40 (by decide) ?_
      refine ms_flightNumbers S hK hP hD hS (j := (((64 * v) + (8 * u)) + i1)) (by omega) dX3_cut_41 (fun H locs hP hD hS => ?_)
      refine lv_iinc (v := (nI (i1 + 1))) (lv' := [(3, .int (nI (i1 + 1))), (0, .ref (a 0)), (1, .int (nI (u))), (2, .int (nI (v)))]) S.1 S.2.1 dX3_cut_42 hl (k := 0) rfl (nI_add _ 1) (by decide) rfl (fun ls hl => ?_)
      refine lv_goto (tgt := 2) S.1 S.2.1 dX3_cut_45 (by decide) ?_
      exact ih1 (i1 + 1) (mS 12 (((64 * v) + (8 * u)) + i1) (nI 0) (mS 12 (((64 * u) + (8 * v)) + i1) (nI 0) τ1)) (by omega) (itr_step he1 (by first | (simp only [fCut1, reduceIte, Bool.false_eq_true, eq_self_iff_true, if_true, if_false]; done) | with_reducible rfl | (exfalso; omega))) (by have h9 : mI P ((fCut1 u v) i1 τ1) := fCut1_I i1 hv1; have e8 : (fCut1 u v) i1 τ1 = mS 12 (((64 * v) + (8 * u)) + i1) (nI 0) (mS 12 (((64 * u) + (8 * v)) + i1) (nI 0) τ1) := (by first | (simp only [fCut1, reduceIte, Bool.false_eq_true, eq_self_iff_true, if_true, if_false]; done) | with_reducible rfl | (exfalso; omega)); rw [e8] at h9; exact h9) _ _ hP hD hS _ (lv_sub hl [0, 1, 2, 3] rfl)
  exact lp1 8 0 τ (by omega) rfl (show mI P τ from hI) _ _ hP hD hS _ (lv_sub hl [0, 1, 2, 3] rfl)
theorem call_X3_cut {p : Program} {l : Launch} {e : Env} {R : Room} {s : State} {m : MethodId} {args : Array Value} {below : List Frame} {meth : Method} {c : Code} {H : Heap} {locs : List Loc} {cells slots : Nat} {Q : State → Prop} {cc : ByteArray} {pc nL : Nat} {ls : Array Slot} {rest : List Value} {D : va_G} {A : Nat → Prop} {w0 : Cond} {X : va_W} {cy : Nat → ClassId} {a : Nat → Nat} {τ : MS} (S : CallFix p m c cc nL s args (w0 :: gw) RX3) (hK : va_K D vwCl (tyA cy) s) (hN : kN [] s) (hP : va_P D vwCl (X ++ mB cy a τ) H) (hD : va_D A (X ++ mB cy a τ)) (hS : va_S A s.heap H locs) (hA : ∀ q, s.heap.size ≤ q → A q) {u : Nat} {v : Nat} (hu : u < 8) (hv : v < 8) (P : Nat) (hI : mI P τ) (hsz : ls.size = nL) (hW : (rest.map fun v => v.category).sum ≤ 8) (hR : 0 + 1 ≤ R.frames ∧ 8 + (5 + 11) + 32 * 0 ≤ R.locals) (hdg : decode cc pc = .ok (.invokevirtual 127, 3)) (hfc : cells ≤ R.cells ∧ slots ≤ R.slots)
    (kk : ∀ (H1 : Heap) (locs1 : List Loc), va_P D vwCl (X ++ mB cy a (mCut P u v τ)) H1 → va_D A (X ++ mB cy a (mCut P u v τ)) → va_S A s.heap H1 locs1 → W p l e R s m args below meth c H1 locs1 cells slots Q (F0 m (pc + 3) ls (rest))) : W p l e R s m args below meth c H locs cells slots Q (F0 m pc ls (.int (nI (v)) :: .int (nI (u)) :: .ref (a 0) :: rest)) :=
  kgo_v (va_runV (As := [.int (nI (u)), .int (nI (v))]) (rest := rest) S (c_X3_cut l D cy a X τ u v hu hv P hI H.size) (cwV 2 S.2.2.2.2 (gw_good_1 wm_611 (gw_good_1 wm_613 (gw_good_1 wm_38 (gw_good_1 wm_50 (gw_good_in wm_614))))) rfl rfl rfl (by decide +kernel) hR) ⟨kblind kNok.nil, mrecv hK hP, kpre kNok.nil hN hK hP hD⟩ rfl rfl hsz rfl (lv_room hW) hdg hfc) hD hS hA kk
set_option maxHeartbeats 400000 in
set_option maxRecDepth 100000 in
theorem c_X3_fail (l : Launch) (D : va_G) (cy : Nat → ClassId) (a : Nat → Nat) (X : va_W) (τ : MS) (x : Int32) (y : Int32) (P : Nat) (hI : mI P τ) : MetI l yX3_fail cX3_fail 3 .boolean (kRm 3 0 0) D (tyA cy) [] [.ref (a 0), .int (x), .int (y)] (X ++ mB cy a τ) (X ++ mB cy a (mFail P x y τ)) (b2i (mFailR x y τ)) 0 0 := by
  intro sz
  refine kmet (own := RX3) (by decide) rfl (Nat.le_of_ble_eq_true rfl) (fun p e s m args below meth c S hr hlk hK hN hP hD hsz hA hnm ls hl => ?_)
  have hS : va_S (va_A (X ++ mB cy a τ) sz) s.heap s.heap [] := va_S.rf
  have hl : lv_has ls 3 [(0, .ref (a 0)), (1, .int (x)), (2, .int (y))] := hl
  refine lv_aload_n S.1 S.2.1 dX3_fail_0 rfl (lv_at hl 0 rfl) ?_
  refine lv_aload_n S.1 S.2.1 dX3_fail_1 rfl (lv_at hl 0 rfl) ?_
  refine lv_iload_n S.1 S.2.1 dX3_fail_2 rfl (lv_at hl 1 rfl) ?_
  refine lv_iload_n S.1 S.2.1 dX3_fail_3 rfl (lv_at hl 2 rfl) ?_
  refine call_X3_haveLink S hK hN hP hD hS hA (x := x) (y := y)  hl.1 (Nat.le_of_ble_eq_true rfl) ⟨Nat.le_of_ble_eq_true rfl, Nat.le_of_ble_eq_true rfl⟩ dX3_fail_4 ⟨Nat.le_refl _, Nat.le_refl _⟩ (fun H locs hP hD hS => ?_)
  refine lv_iconst (v := (nI 1)) S.1 S.2.1 dX3_fail_7 (by decide) ?_
  refine call_X3_goes_t S hK hN hP hD hS hA (q := mHas τ x y)  hl.1 (Nat.le_of_ble_eq_true rfl) ⟨Nat.le_of_ble_eq_true rfl, Nat.le_of_ble_eq_true rfl⟩ dX3_fail_8 ⟨Nat.le_refl _, Nat.le_refl _⟩ (fun H locs hP hD hS => ?_)
  refine kb_eq (tgt := 28) S dX3_fail_11 (by decide) (fun c1 => ?_) (fun c1 => ?_)
  · rw [c1] at hP hD
    refine lv_iconst (v := (nI 0)) S.1 S.2.1 dX3_fail_28 (by decide) ?_
    have e9 : mFail P x y τ = mGoes false true τ := by first | (simp only [mFail, mFa2, mFa1, c1, reduceIte, Bool.false_eq_true, eq_self_iff_true, if_true, if_false]; done) | with_reducible rfl | (exfalso; omega)
    rw [e9]
    exact kret_z S hr hlk hP hD hS (by first | rfl | exact b2i_nar _) (by rw [show mFailR x y τ = false from (by first | (simp only [mFailR, c1, reduceIte, Bool.false_eq_true, eq_self_iff_true, if_true, if_false]; done) | with_reducible rfl | (exfalso; omega))]; decide) dX3_fail_29
  · rw [c1] at hP hD
    obtain ⟨x1, hx1, y1, hy1, rfl, rfl, hc_c1⟩ := mHas_of c1
    refine lv_aload_n S.1 S.2.1 dX3_fail_14 rfl (lv_at hl 0 rfl) ?_
    refine mf_up S hK hP dX3_fail_15 ?_
    refine lv_bipush (v := (nI 8)) S.1 S.2.1 dX3_fail_18 (by decide) ?_
    refine lv_iload_n S.1 S.2.1 dX3_fail_20 rfl (lv_at hl 1 rfl) ?_
    refine lv_imul S.1 S.2.1 dX3_fail_21 ?_
    refine k_top (pk_mul _ _) ?_
    refine lv_iload_n S.1 S.2.1 dX3_fail_22 rfl (lv_at hl 2 rfl) ?_
    refine lv_iadd S.1 S.2.1 dX3_fail_23 ?_
    refine k_top (nI_add _ _) ?_
    refine ma_up S hK hP (j := ((8 * x1) + y1)) (by omega) dX3_fail_24 ?_
    refine lv_if_ne (tgt := 30) S.1 S.2.1 dX3_fail_25 (by decide) (fun c2 => ?_) (fun c2 => ?_)
    · refine lv_aload_n S.1 S.2.1 dX3_fail_30 rfl (lv_at hl 0 rfl) ?_
      refine mf_up S hK hP dX3_fail_31 ?_
      refine lv_bipush (v := (nI 8)) S.1 S.2.1 dX3_fail_34 (by decide) ?_
      refine lv_iload_n S.1 S.2.1 dX3_fail_36 rfl (lv_at hl 1 rfl) ?_
      refine lv_imul S.1 S.2.1 dX3_fail_37 ?_
      refine k_top (pk_mul _ _) ?_
      refine lv_iload_n S.1 S.2.1 dX3_fail_38 rfl (lv_at hl 2 rfl) ?_
      refine lv_iadd S.1 S.2.1 dX3_fail_39 ?_
      refine k_top (nI_add _ _) ?_
      refine lv_iconst (v := (nI 0)) S.1 S.2.1 dX3_fail_40 (by decide) ?_
      refine ms_up S hK hP hD hS (j := ((8 * x1) + y1)) (by omega) (by decide) dX3_fail_41 (fun H locs hP hD hS => ?_)
      refine lv_aload_n S.1 S.2.1 dX3_fail_42 rfl (lv_at hl 0 rfl) ?_
      refine mf_up S hK hP dX3_fail_43 ?_
      refine lv_bipush (v := (nI 8)) S.1 S.2.1 dX3_fail_46 (by decide) ?_
      refine lv_iload_n S.1 S.2.1 dX3_fail_48 rfl (lv_at hl 2 rfl) ?_
      refine lv_imul S.1 S.2.1 dX3_fail_49 ?_
      refine k_top (pk_mul _ _) ?_
      refine lv_iload_n S.1 S.2.1 dX3_fail_50 rfl (lv_at hl 1 rfl) ?_
      refine lv_iadd S.1 S.2.1 dX3_fail_51 ?_
      refine k_top (nI_add _ _) ?_
      refine lv_iconst (v := (nI 0)) S.1 S.2.1 dX3_fail_52 (by decide) ?_
      refine ms_up S hK hP hD hS (j := ((8 * y1) + x1)) (by omega) (by decide) dX3_fail_53 (fun H locs hP hD hS => ?_)
      refine lv_aload_n S.1 S.2.1 dX3_fail_54 rfl (lv_at hl 0 rfl) ?_
      refine mf_there S hK hP dX3_fail_55 ?_
      refine lv_iload_n S.1 S.2.1 dX3_fail_58 rfl (lv_at hl 1 rfl) ?_
      refine ma_there S hK hP (j := x1) (by omega) dX3_fail_59 ?_
      refine lv_if_eq (tgt := 106) S.1 S.2.1 dX3_fail_60 (by decide) (fun c3 => ?_) (fun c3 => ?_)
      · refine lv_iconst (v := (nI 1)) S.1 S.2.1 dX3_fail_106 (by decide) ?_
        have e9 : mFail P (nI x1) (nI y1) τ = mS 8 ((8 * y1) + x1) (nI 0) (mS 8 ((8 * x1) + y1) (nI 0) (mGoes true true τ)) := by first | (simp only [mFail, mFa2, mFa1, c1, cl8 hx1, cl8 hy1, c2, eq_true c3, reduceIte, Bool.false_eq_true, eq_self_iff_true, if_true, if_false]; done) | with_reducible rfl | (exfalso; omega)
        rw [e9]
        exact kret_z S hr hlk hP hD hS (by first | rfl | exact b2i_nar _) (by rw [show mFailR (nI x1) (nI y1) τ = true from (by first | (simp only [mFailR, c1, cl8 hx1, cl8 hy1, c2, eq_true c3, reduceIte, Bool.false_eq_true, eq_self_iff_true, if_true, if_false]; done) | with_reducible rfl | (exfalso; omega))]; decide) dX3_fail_107
      · refine lv_aload_n S.1 S.2.1 dX3_fail_63 rfl (lv_at hl 0 rfl) ?_
        refine mf_there S hK hP dX3_fail_64 ?_
        refine lv_iload_n S.1 S.2.1 dX3_fail_67 rfl (lv_at hl 2 rfl) ?_
        refine ma_there S hK hP (j := y1) (by omega) dX3_fail_68 ?_
        refine lv_if_eq (tgt := 106) S.1 S.2.1 dX3_fail_69 (by decide) (fun c4 => ?_) (fun c4 => ?_)
        · refine lv_iconst (v := (nI 1)) S.1 S.2.1 dX3_fail_106 (by decide) ?_
          have e9 : mFail P (nI x1) (nI y1) τ = mS 8 ((8 * y1) + x1) (nI 0) (mS 8 ((8 * x1) + y1) (nI 0) (mGoes true true τ)) := by first | (simp only [mFail, mFa2, mFa1, c1, cl8 hx1, cl8 hy1, c2, c3, eq_true c4, reduceIte, Bool.false_eq_true, eq_self_iff_true, if_true, if_false]; done) | with_reducible rfl | (exfalso; omega)
          rw [e9]
          exact kret_z S hr hlk hP hD hS (by first | rfl | exact b2i_nar _) (by rw [show mFailR (nI x1) (nI y1) τ = true from (by first | (simp only [mFailR, c1, cl8 hx1, cl8 hy1, c2, c3, eq_true c4, reduceIte, Bool.false_eq_true, eq_self_iff_true, if_true, if_false]; done) | with_reducible rfl | (exfalso; omega))]; decide) dX3_fail_107
        · refine lv_aload_n S.1 S.2.1 dX3_fail_72 rfl (lv_at hl 0 rfl) ?_
          refine lv_iload_n S.1 S.2.1 dX3_fail_73 rfl (lv_at hl 1 rfl) ?_
          refine lv_iload_n S.1 S.2.1 dX3_fail_74 rfl (lv_at hl 2 rfl) ?_
          refine call_X3_cut S hK hN hP hD hS hA (u := x1) (v := y1) (by omega) (by omega) P (show mI P (mS 8 ((8 * y1) + x1) (nI 0) (mS 8 ((8 * x1) + y1) (nI 0) (mGoes true true τ))) from (mGoes_I (p := true) (q := true) hI)) hl.1 (Nat.le_of_ble_eq_true rfl) ⟨Nat.le_of_ble_eq_true rfl, Nat.le_of_ble_eq_true rfl⟩ dX3_fail_75 ⟨Nat.le_refl _, Nat.le_refl _⟩ (fun H locs hP hD hS => ?_)
          refine lv_aload_n S.1 S.2.1 dX3_fail_78 rfl (lv_at hl 0 rfl) ?_
          refine lv_iload_n S.1 S.2.1 dX3_fail_79 rfl (lv_at hl 1 rfl) ?_
          refine lv_iload_n S.1 S.2.1 dX3_fail_80 rfl (lv_at hl 2 rfl) ?_
          refine lv_icmp_ge (tgt := 88) S.1 S.2.1 dX3_fail_81 (by decide) (fun c5 => ?_) (fun c5 => ?_)
          · have c5 : y1 ≤ x1 := (nI_leI (a := y1) (b := x1) (by omega) (by omega)).mp c5
            refine lv_iload_n S.1 S.2.1 dX3_fail_88 rfl (lv_at hl 2 rfl) ?_
            refine call_X3_tell S hK hN hP hD hS hA (u := y1) (by omega) hl.1 (Nat.le_of_ble_eq_true rfl) ⟨Nat.le_of_ble_eq_true rfl, Nat.le_of_ble_eq_true rfl⟩ dX3_fail_89 ⟨Nat.le_refl _, Nat.le_refl _⟩ (fun H locs hP hD hS => ?_)
            refine lv_aload_n S.1 S.2.1 dX3_fail_92 rfl (lv_at hl 0 rfl) ?_
            refine lv_iload_n S.1 S.2.1 dX3_fail_93 rfl (lv_at hl 1 rfl) ?_
            refine lv_iload_n S.1 S.2.1 dX3_fail_94 rfl (lv_at hl 2 rfl) ?_
            refine lv_icmp_ge (tgt := 102) S.1 S.2.1 dX3_fail_95 (by decide) (fun c6 => ?_) (fun c6 => ?_)
            · have c6 : y1 ≤ x1 := (nI_leI (a := y1) (b := x1) (by omega) (by omega)).mp c6
              refine lv_iload_n S.1 S.2.1 dX3_fail_102 rfl (lv_at hl 1 rfl) ?_
              refine call_X3_tell S hK hN hP hD hS hA (u := x1) (by omega) hl.1 (Nat.le_of_ble_eq_true rfl) ⟨Nat.le_of_ble_eq_true rfl, Nat.le_of_ble_eq_true rfl⟩ dX3_fail_103 ⟨Nat.le_refl _, Nat.le_refl _⟩ (fun H locs hP hD hS => ?_)
              refine lv_iconst (v := (nI 1)) S.1 S.2.1 dX3_fail_106 (by decide) ?_
              have e9 : mFail P (nI x1) (nI y1) τ = mTell x1 (mTell y1 (mCut P x1 y1 (mS 8 ((8 * y1) + x1) (nI 0) (mS 8 ((8 * x1) + y1) (nI 0) (mGoes true true τ))))) := by first | (simp only [mFail, mFa2, mFa1, c1, cl8 hx1, cl8 hy1, c2, c3, c4, c5, c6, reduceIte, Bool.false_eq_true, eq_self_iff_true, if_true, if_false]; done) | with_reducible rfl | (exfalso; omega)
              rw [e9]
              exact kret_z S hr hlk hP hD hS (by first | rfl | exact b2i_nar _) (by rw [show mFailR (nI x1) (nI y1) τ = true from (by first | (simp only [mFailR, c1, cl8 hx1, cl8 hy1, c2, c3, c4, c5, c6, reduceIte, Bool.false_eq_true, eq_self_iff_true, if_true, if_false]; done) | with_reducible rfl | (exfalso; omega))]; decide) dX3_fail_107
            · have c6 : ¬ y1 ≤ x1 := fun h => c6 ((nI_leI (a := y1) (b := x1) (by omega) (by omega)).mpr h)
              refine lv_iload_n S.1 S.2.1 dX3_fail_98 rfl (lv_at hl 2 rfl) ?_
              refine lv_goto (tgt := 103) S.1 S.2.1 dX3_fail_99 (by decide) ?_
              refine call_X3_tell S hK hN hP hD hS hA (u := y1) (by omega) hl.1 (Nat.le_of_ble_eq_true rfl) ⟨Nat.le_of_ble_eq_true rfl, Nat.le_of_ble_eq_true rfl⟩ dX3_fail_103 ⟨Nat.le_refl _, Nat.le_refl _⟩ (fun H locs hP hD hS => ?_)
              refine lv_iconst (v := (nI 1)) S.1 S.2.1 dX3_fail_106 (by decide) ?_
              have e9 : mFail P (nI x1) (nI y1) τ = mTell y1 (mTell y1 (mCut P x1 y1 (mS 8 ((8 * y1) + x1) (nI 0) (mS 8 ((8 * x1) + y1) (nI 0) (mGoes true true τ))))) := by first | (simp only [mFail, mFa2, mFa1, c1, cl8 hx1, cl8 hy1, c2, c3, c4, c5, c6, reduceIte, Bool.false_eq_true, eq_self_iff_true, if_true, if_false]; done) | with_reducible rfl | (exfalso; omega)
              rw [e9]
              exact kret_z S hr hlk hP hD hS (by first | rfl | exact b2i_nar _) (by rw [show mFailR (nI x1) (nI y1) τ = true from (by first | (simp only [mFailR, c1, cl8 hx1, cl8 hy1, c2, c3, c4, c5, c6, reduceIte, Bool.false_eq_true, eq_self_iff_true, if_true, if_false]; done) | with_reducible rfl | (exfalso; omega))]; decide) dX3_fail_107
          · have c5 : ¬ y1 ≤ x1 := fun h => c5 ((nI_leI (a := y1) (b := x1) (by omega) (by omega)).mpr h)
            refine lv_iload_n S.1 S.2.1 dX3_fail_84 rfl (lv_at hl 1 rfl) ?_
            refine lv_goto (tgt := 89) S.1 S.2.1 dX3_fail_85 (by decide) ?_
            refine call_X3_tell S hK hN hP hD hS hA (u := x1) (by omega) hl.1 (Nat.le_of_ble_eq_true rfl) ⟨Nat.le_of_ble_eq_true rfl, Nat.le_of_ble_eq_true rfl⟩ dX3_fail_89 ⟨Nat.le_refl _, Nat.le_refl _⟩ (fun H locs hP hD hS => ?_)
            refine lv_aload_n S.1 S.2.1 dX3_fail_92 rfl (lv_at hl 0 rfl) ?_
            refine lv_iload_n S.1 S.2.1 dX3_fail_93 rfl (lv_at hl 1 rfl) ?_
            refine lv_iload_n S.1 S.2.1 dX3_fail_94 rfl (lv_at hl 2 rfl) ?_
            refine lv_icmp_ge (tgt := 102) S.1 S.2.1 dX3_fail_95 (by decide) (fun c7 => ?_) (fun c7 => ?_)
            · have c7 : y1 ≤ x1 := (nI_leI (a := y1) (b := x1) (by omega) (by omega)).mp c7
              refine lv_iload_n S.1 S.2.1 dX3_fail_102 rfl (lv_at hl 1 rfl) ?_
              refine call_X3_tell S hK hN hP hD hS hA (u := x1) (by omega) hl.1 (Nat.le_of_ble_eq_true rfl) ⟨Nat.le_of_ble_eq_true rfl, Nat.le_of_ble_eq_true rfl⟩ dX3_fail_103 ⟨Nat.le_refl _, Nat.le_refl _⟩ (fun H locs hP hD hS => ?_)
              refine lv_iconst (v := (nI 1)) S.1 S.2.1 dX3_fail_106 (by decide) ?_
              have e9 : mFail P (nI x1) (nI y1) τ = mTell x1 (mTell x1 (mCut P x1 y1 (mS 8 ((8 * y1) + x1) (nI 0) (mS 8 ((8 * x1) + y1) (nI 0) (mGoes true true τ))))) := by first | (simp only [mFail, mFa2, mFa1, c1, cl8 hx1, cl8 hy1, c2, c3, c4, c5, c7, reduceIte, Bool.false_eq_true, eq_self_iff_true, if_true, if_false]; done) | with_reducible rfl | (exfalso; omega)
              rw [e9]
              exact kret_z S hr hlk hP hD hS (by first | rfl | exact b2i_nar _) (by rw [show mFailR (nI x1) (nI y1) τ = true from (by first | (simp only [mFailR, c1, cl8 hx1, cl8 hy1, c2, c3, c4, c5, c7, reduceIte, Bool.false_eq_true, eq_self_iff_true, if_true, if_false]; done) | with_reducible rfl | (exfalso; omega))]; decide) dX3_fail_107
            · have c7 : ¬ y1 ≤ x1 := fun h => c7 ((nI_leI (a := y1) (b := x1) (by omega) (by omega)).mpr h)
              refine lv_iload_n S.1 S.2.1 dX3_fail_98 rfl (lv_at hl 2 rfl) ?_
              refine lv_goto (tgt := 103) S.1 S.2.1 dX3_fail_99 (by decide) ?_
              refine call_X3_tell S hK hN hP hD hS hA (u := y1) (by omega) hl.1 (Nat.le_of_ble_eq_true rfl) ⟨Nat.le_of_ble_eq_true rfl, Nat.le_of_ble_eq_true rfl⟩ dX3_fail_103 ⟨Nat.le_refl _, Nat.le_refl _⟩ (fun H locs hP hD hS => ?_)
              refine lv_iconst (v := (nI 1)) S.1 S.2.1 dX3_fail_106 (by decide) ?_
              have e9 : mFail P (nI x1) (nI y1) τ = mTell y1 (mTell x1 (mCut P x1 y1 (mS 8 ((8 * y1) + x1) (nI 0) (mS 8 ((8 * x1) + y1) (nI 0) (mGoes true true τ))))) := by first | (simp only [mFail, mFa2, mFa1, c1, cl8 hx1, cl8 hy1, c2, c3, c4, c5, c7, reduceIte, Bool.false_eq_true, eq_self_iff_true, if_true, if_false]; done) | with_reducible rfl | (exfalso; omega)
              rw [e9]
              exact kret_z S hr hlk hP hD hS (by first | rfl | exact b2i_nar _) (by rw [show mFailR (nI x1) (nI y1) τ = true from (by first | (simp only [mFailR, c1, cl8 hx1, cl8 hy1, c2, c3, c4, c5, c7, reduceIte, Bool.false_eq_true, eq_self_iff_true, if_true, if_false]; done) | with_reducible rfl | (exfalso; omega))]; decide) dX3_fail_107
    · refine lv_iconst (v := (nI 0)) S.1 S.2.1 dX3_fail_28 (by decide) ?_
      have e9 : mFail P (nI x1) (nI y1) τ = mGoes true true τ := by first | (simp only [mFail, mFa2, mFa1, c1, cl8 hx1, cl8 hy1, eq_true c2, reduceIte, Bool.false_eq_true, eq_self_iff_true, if_true, if_false]; done) | with_reducible rfl | (exfalso; omega)
      rw [e9]
      exact kret_z S hr hlk hP hD hS (by first | rfl | exact b2i_nar _) (by rw [show mFailR (nI x1) (nI y1) τ = false from (by first | (simp only [mFailR, c1, cl8 hx1, cl8 hy1, eq_true c2, reduceIte, Bool.false_eq_true, eq_self_iff_true, if_true, if_false]; done) | with_reducible rfl | (exfalso; omega))]; decide) dX3_fail_29
set_option maxHeartbeats 400000 in
set_option maxRecDepth 100000 in
theorem c_X3_crash (l : Launch) (D : va_G) (cy : Nat → ClassId) (a : Nat → Nat) (X : va_W) (τ : MS) (x : Int32) (P : Nat) (hI : mI P τ) : MetI l yX3_crash cX3_crash 4 .boolean (kRm 3 0 0) D (tyA cy) [] [.ref (a 0), .int (x)] (X ++ mB cy a τ) (X ++ mB cy a (mCrash P x τ)) (b2i (mCrashR x τ)) 0 0 := by
  intro sz
  refine kmet (own := RX3) (by decide) rfl (Nat.le_of_ble_eq_true rfl) (fun p e s m args below meth c S hr hlk hK hN hP hD hsz hA hnm ls hl => ?_)
  have hS : va_S (va_A (X ++ mB cy a τ) sz) s.heap s.heap [] := va_S.rf
  have hl : lv_has ls 4 [(0, .ref (a 0)), (1, .int (x))] := hl
  refine lv_aload_n S.1 S.2.1 dX3_crash_0 rfl (lv_at hl 0 rfl) ?_
  refine lv_iload_n S.1 S.2.1 dX3_crash_1 rfl (lv_at hl 1 rfl) ?_
  refine call_X3_isNode S hK hN hP hD hS hA (x := x)  hl.1 (Nat.le_of_ble_eq_true rfl) ⟨Nat.le_of_ble_eq_true rfl, Nat.le_of_ble_eq_true rfl⟩ dX3_crash_2 ⟨Nat.le_refl _, Nat.le_refl _⟩ (fun H locs hP hD hS => ?_)
  refine lv_iconst (v := (nI 1)) S.1 S.2.1 dX3_crash_5 (by decide) ?_
  refine call_X3_goes_t S hK hN hP hD hS hA (q := isN x)  hl.1 (Nat.le_of_ble_eq_true rfl) ⟨Nat.le_of_ble_eq_true rfl, Nat.le_of_ble_eq_true rfl⟩ dX3_crash_6 ⟨Nat.le_refl _, Nat.le_refl _⟩ (fun H locs hP hD hS => ?_)
  refine kb_eq (tgt := 21) S dX3_crash_9 (by decide) (fun c1 => ?_) (fun c1 => ?_)
  · rw [c1] at hP hD
    refine lv_iconst (v := (nI 0)) S.1 S.2.1 dX3_crash_21 (by decide) ?_
    have e9 : mCrash P x τ = mGoes false true τ := by first | (simp only [mCrash, mCrB, c1, reduceIte, Bool.false_eq_true, eq_self_iff_true, if_true, if_false]; done) | with_reducible rfl | (exfalso; omega)
    rw [e9]
    exact kret_z S hr hlk hP hD hS (by first | rfl | exact b2i_nar _) (by rw [show mCrashR x τ = false from (by first | (simp only [mCrashR, c1, reduceIte, Bool.false_eq_true, eq_self_iff_true, if_true, if_false]; done) | with_reducible rfl | (exfalso; omega))]; decide) dX3_crash_22
  · rw [c1] at hP hD
    obtain ⟨x1, hx1, rfl⟩ := isN_of c1
    refine lv_aload_n S.1 S.2.1 dX3_crash_12 rfl (lv_at hl 0 rfl) ?_
    refine mf_there S hK hP dX3_crash_13 ?_
    refine lv_iload_n S.1 S.2.1 dX3_crash_16 rfl (lv_at hl 1 rfl) ?_
    refine ma_there S hK hP (j := x1) (by omega) dX3_crash_17 ?_
    refine lv_if_ne (tgt := 23) S.1 S.2.1 dX3_crash_18 (by decide) (fun c2 => ?_) (fun c2 => ?_)
    · refine lv_iconst (v := (nI 0)) S.1 S.2.1 dX3_crash_23 (by decide) ?_
      refine lv_istore_n (lv' := [(2, .int (nI 0)), (0, .ref (a 0)), (1, .int (nI (x1)))]) S.1 S.2.1 dX3_crash_24 rfl hl (by decide) rfl (fun ls hl => ?_)
      refine lv_iconst (v := (nI 0)) S.1 S.2.1 dX3_crash_25 (by decide) ?_
      refine lv_istore_n (lv' := [(3, .int (nI 0)), (2, .int (nI 0)), (0, .ref (a 0)), (1, .int (nI (x1)))]) S.1 S.2.1 dX3_crash_26 rfl hl (by decide) rfl (fun ls hl => ?_)
      have lp3 : ∀ (n3 i3 : Nat)  (x3_0 : Int32), i3 + n3 = 8 → itr (fCr1 (mGoes true true τ) x1) n3 i3 x3_0 = itr (fCr1 (mGoes true true τ) x1) 8 0 (nI 0) → ∀ (H : Heap) (locs : List Loc), va_P D vwCl (X ++ mB cy a (mGoes true true τ)) H → va_D (va_A (X ++ mB cy a τ) sz) (X ++ mB cy a (mGoes true true τ)) → va_S (va_A (X ++ mB cy a τ) sz) s.heap H locs → ∀ ls : Array Slot, lv_has ls 4 [(3, .int (nI (i3))), (2, .int (x3_0)), (0, .ref (a 0)), (1, .int (nI (x1)))] → W p l e (kRm 3 0 0) s m args below meth c H locs 0 0 (MQ below (kQi D (X ++ mB cy a τ) (X ++ mB cy a (mCrash P (nI x1) τ)) (b2i (mCrashR (nI x1) τ)) sz) args s 0 0 (va_A (X ++ mB cy a τ) sz)) (F0 m 27 ls []) := by
        intro n3
        induction n3 with
        | zero =>
          intro i3 x3_0 hi3 he3 H locs hP hD hS ls hl
          have hi3 : i3 = 8 := by omega
          have he3 : x3_0 = itr (fCr1 (mGoes true true τ) x1) 8 0 (nI 0) := he3
          refine lv_iload_n S.1 S.2.1 dX3_crash_27 rfl (lv_at hl 0 rfl) ?_
          refine lv_bipush (v := (nI 8)) S.1 S.2.1 dX3_crash_28 (by decide) ?_
          refine lv_icmp_ge (tgt := 58) S.1 S.2.1 dX3_crash_30 (by decide) (fun _ => ?_) (fun c => absurd (nI_le (by omega) (by omega)) c)
          refine lv_aload_n S.1 S.2.1 dX3_crash_58 rfl (lv_at hl 2 rfl) ?_
          refine mf_there S hK hP dX3_crash_59 ?_
          refine lv_iload_n S.1 S.2.1 dX3_crash_62 rfl (lv_at hl 3 rfl) ?_
          refine lv_iconst (v := (nI 0)) S.1 S.2.1 dX3_crash_63 (by decide) ?_
          refine ms_there S hK hP hD hS (j := x1) (by omega) (by decide) dX3_crash_64 (fun H locs hP hD hS => ?_)
          refine lv_aload_n S.1 S.2.1 dX3_crash_65 rfl (lv_at hl 2 rfl) ?_
          refine lv_iload_n S.1 S.2.1 dX3_crash_66 rfl (lv_at hl 3 rfl) ?_
          refine call_X3_forget S hK hN hP hD hS hA (u := x1) (by omega) hl.1 (Nat.le_of_ble_eq_true rfl) ⟨Nat.le_of_ble_eq_true rfl, Nat.le_of_ble_eq_true rfl⟩ dX3_crash_67 ⟨Nat.le_refl _, Nat.le_refl _⟩ (fun H locs hP hD hS => ?_)
          refine lv_iconst (v := (nI 0)) S.1 S.2.1 dX3_crash_70 (by decide) ?_
          refine lv_istore_n (lv' := [(3, .int (nI 0)), (2, .int (x3_0)), (0, .ref (a 0)), (1, .int (nI (x1)))]) S.1 S.2.1 dX3_crash_71 rfl hl (by decide) rfl (fun ls hl => ?_)
          have lp5 : ∀ (n5 i5 : Nat) (τ5 : MS), i5 + n5 = 8 → itr (fCr2 P x1) n5 i5 τ5 = itr (fCr2 P x1) 8 0 (mForget x1 (mS 2 x1 (nI 0) (mGoes true true τ))) → mI P τ5 → ∀ (H : Heap) (locs : List Loc), va_P D vwCl (X ++ mB cy a τ5) H → va_D (va_A (X ++ mB cy a τ) sz) (X ++ mB cy a τ5) → va_S (va_A (X ++ mB cy a τ) sz) s.heap H locs → ∀ ls : Array Slot, lv_has ls 4 [(3, .int (nI (i5))), (2, .int (x3_0)), (0, .ref (a 0)), (1, .int (nI (x1)))] → W p l e (kRm 3 0 0) s m args below meth c H locs 0 0 (MQ below (kQi D (X ++ mB cy a τ) (X ++ mB cy a (mCrash P (nI x1) τ)) (b2i (mCrashR (nI x1) τ)) sz) args s 0 0 (va_A (X ++ mB cy a τ) sz)) (F0 m 72 ls []) := by
            intro n5
            induction n5 with
            | zero =>
              intro i5 τ5 hi5 he5 hv5 H locs hP hD hS ls hl
              have hi5 : i5 = 8 := by omega
              have he5 : τ5 = itr (fCr2 P x1) 8 0 (mForget x1 (mS 2 x1 (nI 0) (mGoes true true τ))) := he5
              refine lv_iload_n S.1 S.2.1 dX3_crash_72 rfl (lv_at hl 0 rfl) ?_
              refine lv_bipush (v := (nI 8)) S.1 S.2.1 dX3_crash_73 (by decide) ?_
              refine lv_icmp_ge (tgt := 90) S.1 S.2.1 dX3_crash_75 (by decide) (fun _ => ?_) (fun c => absurd (nI_le (by omega) (by omega)) c)
              refine lv_iconst (v := (nI 0)) S.1 S.2.1 dX3_crash_90 (by decide) ?_
              refine lv_istore_n (lv' := [(3, .int (nI 0)), (2, .int (x3_0)), (0, .ref (a 0)), (1, .int (nI (x1)))]) S.1 S.2.1 dX3_crash_91 rfl hl (by decide) rfl (fun ls hl => ?_)
              have lp7 : ∀ (n7 i7 : Nat) (τ7 : MS), i7 + n7 = 8 → itr (fCr3 x3_0) n7 i7 τ7 = itr (fCr3 x3_0) 8 0 τ5 → mI P τ7 → ∀ (H : Heap) (locs : List Loc), va_P D vwCl (X ++ mB cy a τ7) H → va_D (va_A (X ++ mB cy a τ) sz) (X ++ mB cy a τ7) → va_S (va_A (X ++ mB cy a τ) sz) s.heap H locs → ∀ ls : Array Slot, lv_has ls 4 [(3, .int (nI (i7))), (2, .int (x3_0)), (0, .ref (a 0)), (1, .int (nI (x1)))] → W p l e (kRm 3 0 0) s m args below meth c H locs 0 0 (MQ below (kQi D (X ++ mB cy a τ) (X ++ mB cy a (mCrash P (nI x1) τ)) (b2i (mCrashR (nI x1) τ)) sz) args s 0 0 (va_A (X ++ mB cy a τ) sz)) (F0 m 92 ls []) := by
                intro n7
                induction n7 with
                | zero =>
                  intro i7 τ7 hi7 he7 hv7 H locs hP hD hS ls hl
                  have hi7 : i7 = 8 := by omega
                  have he7 : τ7 = itr (fCr3 x3_0) 8 0 τ5 := he7
                  refine lv_iload_n S.1 S.2.1 dX3_crash_92 rfl (lv_at hl 0 rfl) ?_
                  refine lv_bipush (v := (nI 8)) S.1 S.2.1 dX3_crash_93 (by decide) ?_
                  refine lv_icmp_ge (tgt := 118) S.1 S.2.1 dX3_crash_95 (by decide) (fun _ => ?_) (fun c => absurd (nI_le (by omega) (by omega)) c)
                  refine lv_iconst (v := (nI 1)) S.1 S.2.1 dX3_crash_118 (by decide) ?_
                  have e9 : mCrash P (nI x1) τ = τ7 := by first | (simp only [mCrash, mCrB, c1, cl8 hx1, c2, ← he3, ← he5, ← he7, reduceIte, Bool.false_eq_true, eq_self_iff_true, if_true, if_false]; done) | with_reducible rfl | (exfalso; omega)
                  rw [e9]
                  exact kret_z S hr hlk hP hD hS (by first | rfl | exact b2i_nar _) (by rw [show mCrashR (nI x1) τ = true from (by first | (simp only [mCrashR, c1, cl8 hx1, c2, ← he3, ← he5, ← he7, reduceIte, Bool.false_eq_true, eq_self_iff_true, if_true, if_false]; done) | with_reducible rfl | (exfalso; omega))]; decide) dX3_crash_119
                | succ n7 ih7 =>
                  intro i7 τ7 hi7 he7 hv7 H locs hP hD hS ls hl
                  have hlt7 : i7 < 8 := by omega
                  refine lv_iload_n S.1 S.2.1 dX3_crash_92 rfl (lv_at hl 0 rfl) ?_
                  refine lv_bipush (v := (nI 8)) S.1 S.2.1 dX3_crash_93 (by decide) ?_
                  refine lv_icmp_ge (tgt := 118) S.1 S.2.1 dX3_crash_95 (by decide) (fun c => absurd c (nI_ge (by omega) (by omega))) (fun _ => ?_)
                  refine lv_iload_n S.1 S.2.1 dX3_crash_98 rfl (lv_at hl 1 rfl) ?_
                  refine lv_iload_n S.1 S.2.1 dX3_crash_99 rfl (lv_at hl 0 rfl) ?_
                  refine lv_ishr S.1 S.2.1 dX3_crash_100 ?_
                  refine lv_iconst (v := (nI 1)) S.1 S.2.1 dX3_crash_101 (by decide) ?_
                  refine lv_iand S.1 S.2.1 dX3_crash_102 ?_
                  refine lv_iconst (v := (nI 1)) S.1 S.2.1 dX3_crash_103 (by decide) ?_
                  refine lv_icmp_ne (tgt := 112) S.1 S.2.1 dX3_crash_104 (by decide) (fun c10 => ?_) (fun c10 => ?_)
                  · refine lv_iinc (v := (nI (i7 + 1))) (lv' := [(3, .int (nI (i7 + 1))), (2, .int (x3_0)), (0, .ref (a 0)), (1, .int (nI (x1)))]) S.1 S.2.1 dX3_crash_112 hl (k := 0) rfl (nI_add _ 1) (by decide) rfl (fun ls hl => ?_)
                    refine lv_goto (tgt := 92) S.1 S.2.1 dX3_crash_115 (by decide) ?_
                    exact ih7 (i7 + 1) τ7 (by omega) (itr_step he7 (by first | (simp only [fCr3, c1, cl8 hx1, c2, ← he3, ← he5, c10, reduceIte, Bool.false_eq_true, eq_self_iff_true, if_true, if_false]; done) | with_reducible rfl | (exfalso; omega))) (by have h9 : mI P ((fCr3 x3_0) i7 τ7) := fCr3_I i7 hv7; have e8 : (fCr3 x3_0) i7 τ7 = τ7 := (by first | (simp only [fCr3, c1, cl8 hx1, c2, ← he3, ← he5, c10, reduceIte, Bool.false_eq_true, eq_self_iff_true, if_true, if_false]; done) | with_reducible rfl | (exfalso; omega)); rw [e8] at h9; exact h9) _ _ hP hD hS _ (lv_sub hl [0, 1, 2, 3] rfl)
                  · refine lv_aload_n S.1 S.2.1 dX3_crash_107 rfl (lv_at hl 2 rfl) ?_
                    refine lv_iload_n S.1 S.2.1 dX3_crash_108 rfl (lv_at hl 0 rfl) ?_
                    refine call_X3_tell S hK hN hP hD hS hA (u := i7) (by omega) hl.1 (Nat.le_of_ble_eq_true rfl) ⟨Nat.le_of_ble_eq_true rfl, Nat.le_of_ble_eq_true rfl⟩ dX3_crash_109 ⟨Nat.le_refl _, Nat.le_refl _⟩ (fun H locs hP hD hS => ?_)
                    refine lv_iinc (v := (nI (i7 + 1))) (lv' := [(3, .int (nI (i7 + 1))), (2, .int (x3_0)), (0, .ref (a 0)), (1, .int (nI (x1)))]) S.1 S.2.1 dX3_crash_112 hl (k := 0) rfl (nI_add _ 1) (by decide) rfl (fun ls hl => ?_)
                    refine lv_goto (tgt := 92) S.1 S.2.1 dX3_crash_115 (by decide) ?_
                    exact ih7 (i7 + 1) (mTell i7 τ7) (by omega) (itr_step he7 (by first | (simp only [fCr3, c1, cl8 hx1, c2, ← he3, ← he5, eq_true c10, reduceIte, Bool.false_eq_true, eq_self_iff_true, if_true, if_false]; done) | with_reducible rfl | (exfalso; omega))) (by have h9 : mI P ((fCr3 x3_0) i7 τ7) := fCr3_I i7 hv7; have e8 : (fCr3 x3_0) i7 τ7 = mTell i7 τ7 := (by first | (simp only [fCr3, c1, cl8 hx1, c2, ← he3, ← he5, eq_true c10, reduceIte, Bool.false_eq_true, eq_self_iff_true, if_true, if_false]; done) | with_reducible rfl | (exfalso; omega)); rw [e8] at h9; exact h9) _ _ hP hD hS _ (lv_sub hl [0, 1, 2, 3] rfl)
              exact lp7 8 0 τ5 (by omega) rfl (show mI P τ5 from hv5) _ _ hP hD hS _ (lv_sub hl [0, 1, 2, 3] rfl)
            | succ n5 ih5 =>
              intro i5 τ5 hi5 he5 hv5 H locs hP hD hS ls hl
              have hlt5 : i5 < 8 := by omega
              refine lv_iload_n S.1 S.2.1 dX3_crash_72 rfl (lv_at hl 0 rfl) ?_
              refine lv_bipush (v := (nI 8)) S.1 S.2.1 dX3_crash_73 (by decide) ?_
              refine lv_icmp_ge (tgt := 90) S.1 S.2.1 dX3_crash_75 (by decide) (fun c => absurd c (nI_ge (by omega) (by omega))) (fun _ => ?_)
              refine lv_aload_n S.1 S.2.1 dX3_crash_78 rfl (lv_at hl 2 rfl) ?_
              refine lv_iload_n S.1 S.2.1 dX3_crash_79 rfl (lv_at hl 3 rfl) ?_
              refine lv_iload_n S.1 S.2.1 dX3_crash_80 rfl (lv_at hl 0 rfl) ?_
              refine call_X3_cut S hK hN hP hD hS hA (u := x1) (v := i5) (by omega) (by omega) P (show mI P τ5 from hv5) hl.1 (Nat.le_of_ble_eq_true rfl) ⟨Nat.le_of_ble_eq_true rfl, Nat.le_of_ble_eq_true rfl⟩ dX3_crash_81 ⟨Nat.le_refl _, Nat.le_refl _⟩ (fun H locs hP hD hS => ?_)
              refine lv_iinc (v := (nI (i5 + 1))) (lv' := [(3, .int (nI (i5 + 1))), (2, .int (x3_0)), (0, .ref (a 0)), (1, .int (nI (x1)))]) S.1 S.2.1 dX3_crash_84 hl (k := 0) rfl (nI_add _ 1) (by decide) rfl (fun ls hl => ?_)
              refine lv_goto (tgt := 72) S.1 S.2.1 dX3_crash_87 (by decide) ?_
              exact ih5 (i5 + 1) (mCut P x1 i5 τ5) (by omega) (itr_step he5 (by first | (simp only [fCr2, c1, cl8 hx1, c2, ← he3, reduceIte, Bool.false_eq_true, eq_self_iff_true, if_true, if_false]; done) | with_reducible rfl | (exfalso; omega))) (by have h9 : mI P ((fCr2 P x1) i5 τ5) := fCr2_I i5 hv5; have e8 : (fCr2 P x1) i5 τ5 = mCut P x1 i5 τ5 := (by first | (simp only [fCr2, c1, cl8 hx1, c2, ← he3, reduceIte, Bool.false_eq_true, eq_self_iff_true, if_true, if_false]; done) | with_reducible rfl | (exfalso; omega)); rw [e8] at h9; exact h9) _ _ hP hD hS _ (lv_sub hl [0, 1, 2, 3] rfl)
          exact lp5 8 0 (mForget x1 (mS 2 x1 (nI 0) (mGoes true true τ))) (by omega) rfl (show mI P (mForget x1 (mS 2 x1 (nI 0) (mGoes true true τ))) from (mForget_I (mGoes_I (p := true) (q := true) hI))) _ _ hP hD hS _ (lv_sub hl [0, 1, 2, 3] rfl)
        | succ n3 ih3 =>
          intro i3 x3_0 hi3 he3 H locs hP hD hS ls hl
          have hlt3 : i3 < 8 := by omega
          refine lv_iload_n S.1 S.2.1 dX3_crash_27 rfl (lv_at hl 0 rfl) ?_
          refine lv_bipush (v := (nI 8)) S.1 S.2.1 dX3_crash_28 (by decide) ?_
          refine lv_icmp_ge (tgt := 58) S.1 S.2.1 dX3_crash_30 (by decide) (fun c => absurd c (nI_ge (by omega) (by omega))) (fun _ => ?_)
          refine lv_aload_n S.1 S.2.1 dX3_crash_33 rfl (lv_at hl 2 rfl) ?_
          refine lv_iload_n S.1 S.2.1 dX3_crash_34 rfl (lv_at hl 3 rfl) ?_
          refine lv_iload_n S.1 S.2.1 dX3_crash_35 rfl (lv_at hl 0 rfl) ?_
          refine call_X3_carries S hK hN hP hD hS hA (u := x1) (v := i3) (by omega) (by omega) hl.1 (Nat.le_of_ble_eq_true rfl) ⟨Nat.le_of_ble_eq_true rfl, Nat.le_of_ble_eq_true rfl⟩ dX3_crash_36 ⟨Nat.le_refl _, Nat.le_refl _⟩ (fun H locs hP hD hS => ?_)
          refine kb_eq (tgt := 50) S dX3_crash_39 (by decide) (fun c13 => ?_) (fun c13 => ?_)
          · refine lv_iload_n S.1 S.2.1 dX3_crash_50 rfl (lv_at hl 1 rfl) ?_
            refine lv_istore_n (lv' := [(2, .int (x3_0)), (3, .int (nI (i3))), (0, .ref (a 0)), (1, .int (nI (x1)))]) S.1 S.2.1 dX3_crash_51 rfl hl (by decide) rfl (fun ls hl => ?_)
            refine lv_iinc (v := (nI (i3 + 1))) (lv' := [(3, .int (nI (i3 + 1))), (2, .int (x3_0)), (0, .ref (a 0)), (1, .int (nI (x1)))]) S.1 S.2.1 dX3_crash_52 hl (k := 1) rfl (nI_add _ 1) (by decide) rfl (fun ls hl => ?_)
            refine lv_goto (tgt := 27) S.1 S.2.1 dX3_crash_55 (by decide) ?_
            exact ih3 (i3 + 1)  ((x3_0)) (by omega) (itr_step he3 (by first | (simp only [fCr1, c1, cl8 hx1, c2, c13, reduceIte, Bool.false_eq_true, eq_self_iff_true, if_true, if_false]; done) | with_reducible rfl | (exfalso; omega))) _ _ hP hD hS _ (lv_sub hl [0, 1, 2, 3] rfl)
          · refine lv_iload_n S.1 S.2.1 dX3_crash_42 rfl (lv_at hl 1 rfl) ?_
            refine lv_iconst (v := (nI 1)) S.1 S.2.1 dX3_crash_43 (by decide) ?_
            refine lv_iload_n S.1 S.2.1 dX3_crash_44 rfl (lv_at hl 0 rfl) ?_
            refine lv_ishl S.1 S.2.1 dX3_crash_45 ?_
            refine lv_ior S.1 S.2.1 dX3_crash_46 ?_
            refine lv_goto (tgt := 51) S.1 S.2.1 dX3_crash_47 (by decide) ?_
            refine lv_istore_n (lv' := [(2, .int ((x3_0) ||| ((nI 1) <<< ((nI (i3)) &&& 31)))), (3, .int (nI (i3))), (0, .ref (a 0)), (1, .int (nI (x1)))]) S.1 S.2.1 dX3_crash_51 rfl hl (by decide) rfl (fun ls hl => ?_)
            refine lv_iinc (v := (nI (i3 + 1))) (lv' := [(3, .int (nI (i3 + 1))), (2, .int ((x3_0) ||| ((nI 1) <<< ((nI (i3)) &&& 31)))), (0, .ref (a 0)), (1, .int (nI (x1)))]) S.1 S.2.1 dX3_crash_52 hl (k := 1) rfl (nI_add _ 1) (by decide) rfl (fun ls hl => ?_)
            refine lv_goto (tgt := 27) S.1 S.2.1 dX3_crash_55 (by decide) ?_
            exact ih3 (i3 + 1)  (((x3_0) ||| ((nI 1) <<< ((nI (i3)) &&& 31)))) (by omega) (itr_step he3 (by first | (simp only [fCr1, c1, cl8 hx1, c2, c13, reduceIte, Bool.false_eq_true, eq_self_iff_true, if_true, if_false]; done) | with_reducible rfl | (exfalso; omega))) _ _ hP hD hS _ (lv_sub hl [0, 1, 2, 3] rfl)
      exact lp3 8 0  ((nI 0)) (by omega) rfl _ _ hP hD hS _ (lv_sub hl [0, 1, 2, 3] rfl)
    · refine lv_iconst (v := (nI 0)) S.1 S.2.1 dX3_crash_21 (by decide) ?_
      have e9 : mCrash P (nI x1) τ = mGoes true true τ := by first | (simp only [mCrash, mCrB, c1, cl8 hx1, eq_true c2, reduceIte, Bool.false_eq_true, eq_self_iff_true, if_true, if_false]; done) | with_reducible rfl | (exfalso; omega)
      rw [e9]
      exact kret_z S hr hlk hP hD hS (by first | rfl | exact b2i_nar _) (by rw [show mCrashR (nI x1) τ = false from (by first | (simp only [mCrashR, c1, cl8 hx1, eq_true c2, reduceIte, Bool.false_eq_true, eq_self_iff_true, if_true, if_false]; done) | with_reducible rfl | (exfalso; omega))]; decide) dX3_crash_22
set_option maxHeartbeats 400000 in
set_option maxRecDepth 100000 in
theorem c_X3_isAt (l : Launch) (D : va_G) (cy : Nat → ClassId) (a : Nat → Nat) (X : va_W) (τ : MS) (r : Nat) (v : Nat) (g n : Nat) (hr9 : r < 20) (hv : v < 8) (hg : g < 8) (hn : n < 40) (htg : τ 17 r = nI g) (htc : τ 23 r = nI n) (hT : ∀ σ : MS, (∀ j, r50 (σ 11 j)) → mEnds σ) (h11 : ∀ j, r50 (τ 11 j)) : MetV l yX3_isAt cX3_isAt 4 (kRm 3 0 0) D (tyA cy) [] [.ref (a 0), .int (nI (r)), .int (nI (v))] (X ++ mB cy a τ) (X ++ mB cy a (mIsAt r v τ)) 0 0 := by
  intro sz
  refine kmet (own := RX3) (by decide) rfl (Nat.le_of_ble_eq_true rfl) (fun p e s m args below meth c S hr hlk hK hN hP hD hsz hA hnm ls hl => ?_)
  have hS : va_S (va_A (X ++ mB cy a τ) sz) s.heap s.heap [] := va_S.rf
  have hl : lv_has ls 4 [(0, .ref (a 0)), (1, .int (nI (r))), (2, .int (nI (v)))] := hl
  have hgc : (τ 17 r).toNatClampNeg = g := by rw [htg]; exact cl8 hg
  have hnc : (τ 23 r).toNatClampNeg = n := by rw [htc]; exact nI_clamp (by omega)
  refine lv_aload_n S.1 S.2.1 dX3_isAt_0 rfl (lv_at hl 0 rfl) ?_
  refine mf_traces S hK hP dX3_isAt_1 ?_
  refine lv_bipush (v := (nI 40)) S.1 S.2.1 dX3_isAt_4 (by decide) ?_
  refine lv_iload_n S.1 S.2.1 dX3_isAt_6 rfl (lv_at hl 1 rfl) ?_
  refine lv_imul S.1 S.2.1 dX3_isAt_7 ?_
  refine k_top (pk_mul _ _) ?_
  refine lv_aload_n S.1 S.2.1 dX3_isAt_8 rfl (lv_at hl 0 rfl) ?_
  refine mf_traceCounts S hK hP dX3_isAt_9 ?_
  refine lv_iload_n S.1 S.2.1 dX3_isAt_12 rfl (lv_at hl 1 rfl) ?_
  refine ma_traceCounts S hK hP (j := r) (by omega) dX3_isAt_13 ?_
  refine k_top (y := nI n) htc ?_
  refine lv_iadd S.1 S.2.1 dX3_isAt_14 ?_
  refine k_top (nI_add _ _) ?_
  refine lv_iload_n S.1 S.2.1 dX3_isAt_15 rfl (lv_at hl 2 rfl) ?_
  refine ms_traces S hK hP hD hS (j := ((40 * r) + n)) (by omega) dX3_isAt_16 (fun H locs hP hD hS => ?_)
  refine lv_aload_n S.1 S.2.1 dX3_isAt_17 rfl (lv_at hl 0 rfl) ?_
  refine mf_traceCounts S hK hP dX3_isAt_18 ?_
  refine lv_iload_n S.1 S.2.1 dX3_isAt_21 rfl (lv_at hl 1 rfl) ?_
  refine lv_dup2_11 S.1 S.2.1 dX3_isAt_22 rfl rfl ?_
  refine ma_traceCounts S hK hP (j := r) (by omega) dX3_isAt_23 ?_
  refine lv_iconst (v := (nI 1)) S.1 S.2.1 dX3_isAt_24 (by decide) ?_
  refine lv_iadd S.1 S.2.1 dX3_isAt_25 ?_
  refine ms_traceCounts S hK hP hD hS (j := r) (by omega) dX3_isAt_26 (fun H locs hP hD hS => ?_)
  refine lv_iload_n S.1 S.2.1 dX3_isAt_27 rfl (lv_at hl 2 rfl) ?_
  refine lv_aload_n S.1 S.2.1 dX3_isAt_28 rfl (lv_at hl 0 rfl) ?_
  refine mf_targets S hK hP dX3_isAt_29 ?_
  refine lv_iload_n S.1 S.2.1 dX3_isAt_32 rfl (lv_at hl 1 rfl) ?_
  refine ma_targets S hK hP (j := r) (by omega) dX3_isAt_33 ?_
  refine k_top (y := nI g) htg ?_
  refine lv_icmp_ne (tgt := 45) S.1 S.2.1 dX3_isAt_34 (by decide) (fun c1 => ?_) (fun c1 => ?_)
  · have c1 : ¬ v = g := fun h => c1 ((nI_eq (a := v) (b := g) (by omega) (by omega)).mpr h)
    refine lv_aload_n S.1 S.2.1 dX3_isAt_45 rfl (lv_at hl 0 rfl) ?_
    refine mf_lives S hK hP dX3_isAt_46 ?_
    refine lv_iload_n S.1 S.2.1 dX3_isAt_49 rfl (lv_at hl 1 rfl) ?_
    refine ma_lives S hK hP (j := r) (by omega) dX3_isAt_50 ?_
    refine lv_if_ne (tgt := 62) S.1 S.2.1 dX3_isAt_51 (by decide) (fun c2 => ?_) (fun c2 => ?_)
    · refine lv_aload_n S.1 S.2.1 dX3_isAt_62 rfl (lv_at hl 0 rfl) ?_
      refine lv_iload_n S.1 S.2.1 dX3_isAt_63 rfl (lv_at hl 2 rfl) ?_
      refine lv_aload_n S.1 S.2.1 dX3_isAt_64 rfl (lv_at hl 0 rfl) ?_
      refine mf_targets S hK hP dX3_isAt_65 ?_
      refine lv_iload_n S.1 S.2.1 dX3_isAt_68 rfl (lv_at hl 1 rfl) ?_
      refine ma_targets S hK hP (j := r) (by omega) dX3_isAt_69 ?_
      refine k_top (y := nI g) htg ?_
      refine call_X3_nextOf S hK hN hP hD hS hA (v := v) (g := g) (by omega) (by omega) (hT (mS 23 r (((mS 24 ((40 * r) + n) (nI (v)) τ) 23 r) + (nI 1)) (mS 24 ((40 * r) + n) (nI (v)) τ)) h11 _ _ (by omega) (by omega)) hl.1 (Nat.le_of_ble_eq_true rfl) ⟨Nat.le_of_ble_eq_true rfl, Nat.le_of_ble_eq_true rfl⟩ dX3_isAt_70 ⟨Nat.le_refl _, Nat.le_refl _⟩ (fun H locs hP hD hS => ?_)
      refine lv_istore_n (lv' := [(3, .int (mHop v g (mS 23 r (((mS 24 ((40 * r) + n) (nI (v)) τ) 23 r) + (nI 1)) (mS 24 ((40 * r) + n) (nI (v)) τ)))), (0, .ref (a 0)), (1, .int (nI (r))), (2, .int (nI (v)))]) S.1 S.2.1 dX3_isAt_73 rfl hl (by decide) rfl (fun ls hl => ?_)
      refine lv_iload_n S.1 S.2.1 dX3_isAt_74 rfl (lv_at hl 0 rfl) ?_
      refine lv_iconst (v := (-1)) S.1 S.2.1 dX3_isAt_75 (by decide) ?_
      refine lv_icmp_eq (tgt := 88) S.1 S.2.1 dX3_isAt_76 (by decide) (fun c3 => ?_) (fun c3 => ?_)
      · refine lv_aload_n S.1 S.2.1 dX3_isAt_88 rfl (lv_at hl 1 rfl) ?_
        refine mf_states S hK hP dX3_isAt_89 ?_
        refine lv_iload_n S.1 S.2.1 dX3_isAt_92 rfl (lv_at hl 2 rfl) ?_
        refine lv_iconst (v := (nI 3)) S.1 S.2.1 dX3_isAt_93 (by decide) ?_
        refine ms_states S hK hP hD hS (j := r) (by omega) dX3_isAt_94 (fun H locs hP hD hS => ?_)
        have e9 : mIsAt r v τ = mS 19 r (nI 3) (mMeas v g (mS 23 r (((mS 24 ((40 * r) + n) (nI (v)) τ) 23 r) + (nI 1)) (mS 24 ((40 * r) + n) (nI (v)) τ))) := by first | (simp only [mIsAt, mAH, mA3, mA2, mA1, hgc, hnc, c1, c2, eq_true c3, reduceIte, Bool.false_eq_true, eq_self_iff_true, if_true, if_false]; done) | with_reducible rfl | (exfalso; omega)
        rw [e9]
        exact kret_v S hr hlk hP hD hS dX3_isAt_95
      · obtain ⟨jc3, hc3j, hc3e⟩ := mHop_of c3
        have hc3n : ¬ nI jc3 = -1 := by rw [← hc3e]; exact c3
        refine lv_aload_n S.1 S.2.1 dX3_isAt_79 rfl (lv_at hl 1 rfl) ?_
        refine lv_iload_n S.1 S.2.1 dX3_isAt_80 rfl (lv_at hl 3 rfl) ?_
        refine lv_iload_n S.1 S.2.1 dX3_isAt_81 rfl (lv_at hl 0 rfl) ?_
        refine k_top hc3e ?_
        refine call_X3_carries S hK hN hP hD hS hA (u := v) (v := jc3) (by omega) (by omega) hl.1 (Nat.le_of_ble_eq_true rfl) ⟨Nat.le_of_ble_eq_true rfl, Nat.le_of_ble_eq_true rfl⟩ dX3_isAt_82 ⟨Nat.le_refl _, Nat.le_refl _⟩ (fun H locs hP hD hS => ?_)
        refine kb_ne (tgt := 96) S dX3_isAt_85 (by decide) (fun c4 => ?_) (fun c4 => ?_)
        · refine lv_aload_n S.1 S.2.1 dX3_isAt_96 rfl (lv_at hl 1 rfl) ?_
          refine mf_lives S hK hP dX3_isAt_97 ?_
          refine lv_iload_n S.1 S.2.1 dX3_isAt_100 rfl (lv_at hl 2 rfl) ?_
          refine lv_dup2_11 S.1 S.2.1 dX3_isAt_101 rfl rfl ?_
          refine ma_lives S hK hP (j := r) (by omega) dX3_isAt_102 ?_
          refine lv_iconst (v := (nI 1)) S.1 S.2.1 dX3_isAt_103 (by decide) ?_
          refine lv_isub S.1 S.2.1 dX3_isAt_104 ?_
          refine ms_lives S hK hP hD hS (j := r) (by omega) dX3_isAt_105 (fun H locs hP hD hS => ?_)
          refine lv_aload_n S.1 S.2.1 dX3_isAt_106 rfl (lv_at hl 1 rfl) ?_
          refine mf_comesFrom S hK hP dX3_isAt_107 ?_
          refine lv_iload_n S.1 S.2.1 dX3_isAt_110 rfl (lv_at hl 2 rfl) ?_
          refine lv_iload_n S.1 S.2.1 dX3_isAt_111 rfl (lv_at hl 3 rfl) ?_
          refine ms_comesFrom S hK hP hD hS (j := r) (by omega) dX3_isAt_112 (fun H locs hP hD hS => ?_)
          refine lv_aload_n S.1 S.2.1 dX3_isAt_113 rfl (lv_at hl 1 rfl) ?_
          refine mf_comesTo S hK hP dX3_isAt_114 ?_
          refine lv_iload_n S.1 S.2.1 dX3_isAt_117 rfl (lv_at hl 2 rfl) ?_
          refine lv_iload_n S.1 S.2.1 dX3_isAt_118 rfl (lv_at hl 0 rfl) ?_
          refine k_top hc3e ?_
          refine ms_comesTo S hK hP hD hS (j := r) (by omega) dX3_isAt_119 (fun H locs hP hD hS => ?_)
          refine lv_aload_n S.1 S.2.1 dX3_isAt_120 rfl (lv_at hl 1 rfl) ?_
          refine mf_comesAt S hK hP dX3_isAt_121 ?_
          refine lv_iload_n S.1 S.2.1 dX3_isAt_124 rfl (lv_at hl 2 rfl) ?_
          refine lv_aload_n S.1 S.2.1 dX3_isAt_125 rfl (lv_at hl 1 rfl) ?_
          refine mf_time S hK hP dX3_isAt_126 ?_
          refine lv_aload_n S.1 S.2.1 dX3_isAt_129 rfl (lv_at hl 1 rfl) ?_
          refine mf_delays S hK hP dX3_isAt_130 ?_
          refine lv_bipush (v := (nI 8)) S.1 S.2.1 dX3_isAt_133 (by decide) ?_
          refine lv_iload_n S.1 S.2.1 dX3_isAt_135 rfl (lv_at hl 3 rfl) ?_
          refine lv_imul S.1 S.2.1 dX3_isAt_136 ?_
          refine k_top (pk_mul _ _) ?_
          refine lv_iload_n S.1 S.2.1 dX3_isAt_137 rfl (lv_at hl 0 rfl) ?_
          refine k_top hc3e ?_
          refine lv_iadd S.1 S.2.1 dX3_isAt_138 ?_
          refine k_top (nI_add _ _) ?_
          refine ma_delays S hK hP (j := ((8 * v) + jc3)) (by omega) dX3_isAt_139 ?_
          refine lv_iadd S.1 S.2.1 dX3_isAt_140 ?_
          refine ms_comesAt S hK hP hD hS (j := r) (by omega) dX3_isAt_141 (fun H locs hP hD hS => ?_)
          have e9 : mIsAt r v τ = mS 22 r (((mS 21 r (nI (jc3)) (mS 20 r (nI (v)) (mS 18 r (((mMeas v g (mS 23 r (((mS 24 ((40 * r) + n) (nI (v)) τ) 23 r) + (nI 1)) (mS 24 ((40 * r) + n) (nI (v)) τ))) 18 r) - (nI 1)) (mMeas v g (mS 23 r (((mS 24 ((40 * r) + n) (nI (v)) τ) 23 r) + (nI 1)) (mS 24 ((40 * r) + n) (nI (v)) τ)))))) 0 1) + ((mS 21 r (nI (jc3)) (mS 20 r (nI (v)) (mS 18 r (((mMeas v g (mS 23 r (((mS 24 ((40 * r) + n) (nI (v)) τ) 23 r) + (nI 1)) (mS 24 ((40 * r) + n) (nI (v)) τ))) 18 r) - (nI 1)) (mMeas v g (mS 23 r (((mS 24 ((40 * r) + n) (nI (v)) τ) 23 r) + (nI 1)) (mS 24 ((40 * r) + n) (nI (v)) τ)))))) 7 ((8 * v) + jc3))) (mS 21 r (nI (jc3)) (mS 20 r (nI (v)) (mS 18 r (((mMeas v g (mS 23 r (((mS 24 ((40 * r) + n) (nI (v)) τ) 23 r) + (nI 1)) (mS 24 ((40 * r) + n) (nI (v)) τ))) 18 r) - (nI 1)) (mMeas v g (mS 23 r (((mS 24 ((40 * r) + n) (nI (v)) τ) 23 r) + (nI 1)) (mS 24 ((40 * r) + n) (nI (v)) τ)))))) := by first | (simp only [mIsAt, mAH, mA3, mA2, mA1, hgc, hnc, c1, c2, hc3e, hc3n, cl8 hc3j, c4, reduceIte, Bool.false_eq_true, eq_self_iff_true, if_true, if_false]; done) | with_reducible rfl | (exfalso; omega)
          rw [e9]
          exact kret_v S hr hlk hP hD hS dX3_isAt_142
        · refine lv_aload_n S.1 S.2.1 dX3_isAt_88 rfl (lv_at hl 1 rfl) ?_
          refine mf_states S hK hP dX3_isAt_89 ?_
          refine lv_iload_n S.1 S.2.1 dX3_isAt_92 rfl (lv_at hl 2 rfl) ?_
          refine lv_iconst (v := (nI 3)) S.1 S.2.1 dX3_isAt_93 (by decide) ?_
          refine ms_states S hK hP hD hS (j := r) (by omega) dX3_isAt_94 (fun H locs hP hD hS => ?_)
          have e9 : mIsAt r v τ = mS 19 r (nI 3) (mMeas v g (mS 23 r (((mS 24 ((40 * r) + n) (nI (v)) τ) 23 r) + (nI 1)) (mS 24 ((40 * r) + n) (nI (v)) τ))) := by first | (simp only [mIsAt, mAH, mA3, mA2, mA1, hgc, hnc, c1, c2, hc3e, hc3n, cl8 hc3j, c4, reduceIte, Bool.false_eq_true, eq_self_iff_true, if_true, if_false]; done) | with_reducible rfl | (exfalso; omega)
          rw [e9]
          exact kret_v S hr hlk hP hD hS dX3_isAt_95
    · refine lv_aload_n S.1 S.2.1 dX3_isAt_54 rfl (lv_at hl 0 rfl) ?_
      refine mf_states S hK hP dX3_isAt_55 ?_
      refine lv_iload_n S.1 S.2.1 dX3_isAt_58 rfl (lv_at hl 1 rfl) ?_
      refine lv_iconst (v := (nI 2)) S.1 S.2.1 dX3_isAt_59 (by decide) ?_
      refine ms_states S hK hP hD hS (j := r) (by omega) dX3_isAt_60 (fun H locs hP hD hS => ?_)
      have e9 : mIsAt r v τ = mS 19 r (nI 2) (mS 23 r (((mS 24 ((40 * r) + n) (nI (v)) τ) 23 r) + (nI 1)) (mS 24 ((40 * r) + n) (nI (v)) τ)) := by first | (simp only [mIsAt, mAH, mA3, mA2, mA1, hgc, hnc, c1, eq_true c2, reduceIte, Bool.false_eq_true, eq_self_iff_true, if_true, if_false]; done) | with_reducible rfl | (exfalso; omega)
      rw [e9]
      exact kret_v S hr hlk hP hD hS dX3_isAt_61
  · have c1 : v = g := (nI_eq (a := v) (b := g) (by omega) (by omega)).mp c1
    refine lv_aload_n S.1 S.2.1 dX3_isAt_37 rfl (lv_at hl 0 rfl) ?_
    refine mf_states S hK hP dX3_isAt_38 ?_
    refine lv_iload_n S.1 S.2.1 dX3_isAt_41 rfl (lv_at hl 1 rfl) ?_
    refine lv_iconst (v := (nI 1)) S.1 S.2.1 dX3_isAt_42 (by decide) ?_
    refine ms_states S hK hP hD hS (j := r) (by omega) dX3_isAt_43 (fun H locs hP hD hS => ?_)
    have e9 : mIsAt r v τ = mS 19 r (nI 1) (mS 23 r (((mS 24 ((40 * r) + n) (nI (v)) τ) 23 r) + (nI 1)) (mS 24 ((40 * r) + n) (nI (v)) τ)) := by first | (simp only [mIsAt, mAH, mA3, mA2, mA1, hgc, hnc, eq_true c1, reduceIte, Bool.false_eq_true, eq_self_iff_true, if_true, if_false]; done) | with_reducible rfl | (exfalso; omega)
    rw [e9]
    exact kret_v S hr hlk hP hD hS dX3_isAt_44
theorem call_X3_isAt {p : Program} {l : Launch} {e : Env} {R : Room} {s : State} {m : MethodId} {args : Array Value} {below : List Frame} {meth : Method} {c : Code} {H : Heap} {locs : List Loc} {cells slots : Nat} {Q : State → Prop} {cc : ByteArray} {pc nL : Nat} {ls : Array Slot} {rest : List Value} {D : va_G} {A : Nat → Prop} {w0 : Cond} {X : va_W} {cy : Nat → ClassId} {a : Nat → Nat} {τ : MS} (S : CallFix p m c cc nL s args (w0 :: gw) RX3) (hK : va_K D vwCl (tyA cy) s) (hN : kN [] s) (hP : va_P D vwCl (X ++ mB cy a τ) H) (hD : va_D A (X ++ mB cy a τ)) (hS : va_S A s.heap H locs) (hA : ∀ q, s.heap.size ≤ q → A q) {r : Nat} {v : Nat} (g n : Nat) (hr9 : r < 20) (hv : v < 8) (hg : g < 8) (hn : n < 40) (htg : τ 17 r = nI g) (htc : τ 23 r = nI n) (hT : ∀ σ : MS, (∀ j, r50 (σ 11 j)) → mEnds σ) (h11 : ∀ j, r50 (τ 11 j)) (hsz : ls.size = nL) (hW : (rest.map fun v => v.category).sum ≤ 8) (hR : 3 + 1 ≤ R.frames ∧ 8 + (4 + 11) + 32 * 3 ≤ R.locals) (hdg : decode cc pc = .ok (.invokevirtual 139, 3)) (hfc : cells ≤ R.cells ∧ slots ≤ R.slots)
    (kk : ∀ (H1 : Heap) (locs1 : List Loc), va_P D vwCl (X ++ mB cy a (mIsAt r v τ)) H1 → va_D A (X ++ mB cy a (mIsAt r v τ)) → va_S A s.heap H1 locs1 → W p l e R s m args below meth c H1 locs1 cells slots Q (F0 m (pc + 3) ls (rest))) : W p l e R s m args below meth c H locs cells slots Q (F0 m pc ls (.int (nI (v)) :: .int (nI (r)) :: .ref (a 0) :: rest)) :=
  kgo_v (va_runV (As := [.int (nI (r)), .int (nI (v))]) (rest := rest) S (c_X3_isAt l D cy a X τ r v g n hr9 hv hg hn htg htc hT h11 H.size) (cwV 2 S.2.2.2.2 (gw_good_1 wm_647 (gw_good_1 wm_649 (gw_good_1 wm_43 (gw_good_1 wm_50 (gw_good_in wm_650))))) rfl rfl rfl (by decide +kernel) hR) ⟨kblind kNok.nil, mrecv hK hP, kpre kNok.nil hN hK hP hD⟩ rfl rfl hsz rfl (lv_room hW) hdg hfc) hD hS hA kk
set_option maxHeartbeats 400000 in
set_option maxRecDepth 100000 in
theorem c_X3_oneTick (l : Launch) (D : va_G) (cy : Nat → ClassId) (a : Nat → Nat) (X : va_W) (τ : MS)  (P : Nat) (hI : mI P τ) (hT : ∀ σ : MS, (∀ j, r50 (σ 11 j)) → mEnds σ) : MetV l yX3_oneTick cX3_oneTick 2 (kRm 4 0 0) D (tyA cy) [] [.ref (a 0)] (X ++ mB cy a τ) (X ++ mB cy a (mTick1 P τ)) 0 0 := by
  intro sz
  refine kmet (own := RX3) (by decide) rfl (Nat.le_of_ble_eq_true rfl) (fun p e s m args below meth c S hr hlk hK hN hP hD hsz hA hnm ls hl => ?_)
  have hS : va_S (va_A (X ++ mB cy a τ) sz) s.heap s.heap [] := va_S.rf
  have hl : lv_has ls 2 [(0, .ref (a 0))] := hl
  have hPn : P ≤ 20 := hI.1
  refine lv_aload_n S.1 S.2.1 dX3_oneTick_0 rfl (lv_at hl 0 rfl) ?_
  refine lv_dup S.1 S.2.1 dX3_oneTick_1 rfl ?_
  refine mf_time S hK hP dX3_oneTick_2 ?_
  refine lv_iconst (v := (nI 1)) S.1 S.2.1 dX3_oneTick_5 (by decide) ?_
  refine lv_iadd S.1 S.2.1 dX3_oneTick_6 ?_
  refine mp_time S hK hP hD hS dX3_oneTick_7 (fun H locs hP hD hS => ?_)
  refine lv_aload_n S.1 S.2.1 dX3_oneTick_10 rfl (lv_at hl 0 rfl) ?_
  refine call_X3_grow S hK hN hP hD hS hA   hl.1 (Nat.le_of_ble_eq_true rfl) ⟨Nat.le_of_ble_eq_true rfl, Nat.le_of_ble_eq_true rfl⟩ dX3_oneTick_11 ⟨Nat.le_refl _, Nat.le_refl _⟩ (fun H locs hP hD hS => ?_)
  refine lv_iconst (v := (nI 0)) S.1 S.2.1 dX3_oneTick_14 (by decide) ?_
  refine lv_istore_n (lv' := [(1, .int (nI 0)), (0, .ref (a 0))]) S.1 S.2.1 dX3_oneTick_15 rfl hl (by decide) rfl (fun ls hl => ?_)
  have lp1 : ∀ (n1 i1 : Nat) (τ1 : MS), i1 + n1 = 8 → itr fTk1 n1 i1 τ1 = itr fTk1 8 0 (mGrow (mS 0 1 ((τ 0 1) + (nI 1)) τ)) → mI P τ1 → ∀ (H : Heap) (locs : List Loc), va_P D vwCl (X ++ mB cy a τ1) H → va_D (va_A (X ++ mB cy a τ) sz) (X ++ mB cy a τ1) → va_S (va_A (X ++ mB cy a τ) sz) s.heap H locs → ∀ ls : Array Slot, lv_has ls 2 [(1, .int (nI (i1))), (0, .ref (a 0))] → W p l e (kRm 4 0 0) s m args below meth c H locs 0 0 (MQ below (kQv D (X ++ mB cy a τ) (X ++ mB cy a (mTick1 P τ)) sz) args s 0 0 (va_A (X ++ mB cy a τ) sz)) (F0 m 16 ls []) := by
    intro n1
    induction n1 with
    | zero =>
      intro i1 τ1 hi1 he1 hv1 H locs hP hD hS ls hl
      have hi1 : i1 = 8 := by omega
      have he1 : τ1 = itr fTk1 8 0 (mGrow (mS 0 1 ((τ 0 1) + (nI 1)) τ)) := he1
      refine lv_iload_n S.1 S.2.1 dX3_oneTick_16 rfl (lv_at hl 0 rfl) ?_
      refine lv_bipush (v := (nI 8)) S.1 S.2.1 dX3_oneTick_17 (by decide) ?_
      refine lv_icmp_ge (tgt := 72) S.1 S.2.1 dX3_oneTick_19 (by decide) (fun _ => ?_) (fun c => absurd (nI_le (by omega) (by omega)) c)
      refine lv_iconst (v := (nI 0)) S.1 S.2.1 dX3_oneTick_72 (by decide) ?_
      refine lv_istore_n (lv' := [(1, .int (nI 0)), (0, .ref (a 0))]) S.1 S.2.1 dX3_oneTick_73 rfl hl (by decide) rfl (fun ls hl => ?_)
      have lp3 : ∀ (n3 i3 : Nat) (τ3 : MS), i3 + n3 = 512 → itr fTk2 n3 i3 τ3 = itr fTk2 512 0 τ1 → mI P τ3 → ∀ (H : Heap) (locs : List Loc), va_P D vwCl (X ++ mB cy a τ3) H → va_D (va_A (X ++ mB cy a τ) sz) (X ++ mB cy a τ3) → va_S (va_A (X ++ mB cy a τ) sz) s.heap H locs → ∀ ls : Array Slot, lv_has ls 2 [(1, .int (nI (i3))), (0, .ref (a 0))] → W p l e (kRm 4 0 0) s m args below meth c H locs 0 0 (MQ below (kQv D (X ++ mB cy a τ) (X ++ mB cy a (mTick1 P τ)) sz) args s 0 0 (va_A (X ++ mB cy a τ) sz)) (F0 m 74 ls []) := by
        intro n3
        induction n3 with
        | zero =>
          intro i3 τ3 hi3 he3 hv3 H locs hP hD hS ls hl
          have hi3 : i3 = 512 := by omega
          have he3 : τ3 = itr fTk2 512 0 τ1 := he3
          refine lv_iload_n S.1 S.2.1 dX3_oneTick_74 rfl (lv_at hl 0 rfl) ?_
          refine lv_sipush (v := (nI 512)) S.1 S.2.1 dX3_oneTick_75 (by decide) ?_
          refine lv_icmp_ge (tgt := 128) S.1 S.2.1 dX3_oneTick_78 (by decide) (fun _ => ?_) (fun c => absurd (nI_le (by omega) (by omega)) c)
          refine lv_iconst (v := (nI 0)) S.1 S.2.1 dX3_oneTick_128 (by decide) ?_
          refine lv_istore_n (lv' := [(1, .int (nI 0)), (0, .ref (a 0))]) S.1 S.2.1 dX3_oneTick_129 rfl hl (by decide) rfl (fun ls hl => ?_)
          have lp5 : ∀ (n5 i5 : Nat) (τ5 : MS), i5 + n5 = P → itr fTk3 n5 i5 τ5 = itr fTk3 P 0 τ3 → mI P τ5 → ∀ (H : Heap) (locs : List Loc), va_P D vwCl (X ++ mB cy a τ5) H → va_D (va_A (X ++ mB cy a τ) sz) (X ++ mB cy a τ5) → va_S (va_A (X ++ mB cy a τ) sz) s.heap H locs → ∀ ls : Array Slot, lv_has ls 2 [(1, .int (nI (i5))), (0, .ref (a 0))] → W p l e (kRm 4 0 0) s m args below meth c H locs 0 0 (MQ below (kQv D (X ++ mB cy a τ) (X ++ mB cy a (mTick1 P τ)) sz) args s 0 0 (va_A (X ++ mB cy a τ) sz)) (F0 m 130 ls []) := by
            intro n5
            induction n5 with
            | zero =>
              intro i5 τ5 hi5 he5 hv5 H locs hP hD hS ls hl
              have hi5 : i5 = P := by omega
              have he5 : τ5 = itr fTk3 P 0 τ3 := he5
              refine lv_iload_n S.1 S.2.1 dX3_oneTick_130 rfl (lv_at hl 0 rfl) ?_
              refine lv_aload_n S.1 S.2.1 dX3_oneTick_131 rfl (lv_at hl 1 rfl) ?_
              refine mf_packets S hK hP dX3_oneTick_132 ?_
              refine k_top (show τ5 0 16 = nI P from (hv5).2.1) ?_
              refine lv_icmp_ge (tgt := 177) S.1 S.2.1 dX3_oneTick_135 (by decide) (fun _ => ?_) (fun c => absurd (nI_le (by omega) (by omega)) c)
              have e9 : mTick1 P τ = τ5 := by first | (simp only [mTick1, mTk0, ← he1, ← he3, ← he5, reduceIte, Bool.false_eq_true, eq_self_iff_true, if_true, if_false]; done) | with_reducible rfl | (exfalso; omega)
              rw [e9]
              exact kret_v S hr hlk hP hD hS dX3_oneTick_177
            | succ n5 ih5 =>
              intro i5 τ5 hi5 he5 hv5 H locs hP hD hS ls hl
              have hlt5 : i5 < P := by omega
              refine lv_iload_n S.1 S.2.1 dX3_oneTick_130 rfl (lv_at hl 0 rfl) ?_
              refine lv_aload_n S.1 S.2.1 dX3_oneTick_131 rfl (lv_at hl 1 rfl) ?_
              refine mf_packets S hK hP dX3_oneTick_132 ?_
              refine k_top (show τ5 0 16 = nI P from (hv5).2.1) ?_
              refine lv_icmp_ge (tgt := 177) S.1 S.2.1 dX3_oneTick_135 (by decide) (fun c => absurd c (nI_ge (by omega) (by omega))) (fun _ => ?_)
              refine lv_aload_n S.1 S.2.1 dX3_oneTick_138 rfl (lv_at hl 1 rfl) ?_
              refine mf_states S hK hP dX3_oneTick_139 ?_
              refine lv_iload_n S.1 S.2.1 dX3_oneTick_142 rfl (lv_at hl 0 rfl) ?_
              refine ma_states S hK hP (j := i5) (by omega) dX3_oneTick_143 ?_
              refine lv_if_ne (tgt := 171) S.1 S.2.1 dX3_oneTick_144 (by decide) (fun c8 => ?_) (fun c8 => ?_)
              · refine lv_iinc (v := (nI (i5 + 1))) (lv' := [(1, .int (nI (i5 + 1))), (0, .ref (a 0))]) S.1 S.2.1 dX3_oneTick_171 hl (k := 0) rfl (nI_add _ 1) (by decide) rfl (fun ls hl => ?_)
                refine lv_goto (tgt := 130) S.1 S.2.1 dX3_oneTick_174 (by decide) ?_
                exact ih5 (i5 + 1) τ5 (by omega) (itr_step he5 (by first | (simp only [fTk3, ← he1, ← he3, c8, reduceIte, Bool.false_eq_true, eq_self_iff_true, if_true, if_false]; done) | with_reducible rfl | (exfalso; omega))) (by have h9 : mI P (fTk3 i5 τ5) := fTk3_I i5 hlt5 hv5; have e8 : fTk3 i5 τ5 = τ5 := (by first | (simp only [fTk3, ← he1, ← he3, c8, reduceIte, Bool.false_eq_true, eq_self_iff_true, if_true, if_false]; done) | with_reducible rfl | (exfalso; omega)); rw [e8] at h9; exact h9) _ _ hP hD hS _ (lv_sub hl [0, 1] rfl)
              · refine lv_aload_n S.1 S.2.1 dX3_oneTick_147 rfl (lv_at hl 1 rfl) ?_
                refine mf_comesAt S hK hP dX3_oneTick_148 ?_
                refine lv_iload_n S.1 S.2.1 dX3_oneTick_151 rfl (lv_at hl 0 rfl) ?_
                refine ma_comesAt S hK hP (j := i5) (by omega) dX3_oneTick_152 ?_
                refine lv_aload_n S.1 S.2.1 dX3_oneTick_153 rfl (lv_at hl 1 rfl) ?_
                refine mf_time S hK hP dX3_oneTick_154 ?_
                refine lv_icmp_ne (tgt := 171) S.1 S.2.1 dX3_oneTick_157 (by decide) (fun c9 => ?_) (fun c9 => ?_)
                · refine lv_iinc (v := (nI (i5 + 1))) (lv' := [(1, .int (nI (i5 + 1))), (0, .ref (a 0))]) S.1 S.2.1 dX3_oneTick_171 hl (k := 0) rfl (nI_add _ 1) (by decide) rfl (fun ls hl => ?_)
                  refine lv_goto (tgt := 130) S.1 S.2.1 dX3_oneTick_174 (by decide) ?_
                  exact ih5 (i5 + 1) τ5 (by omega) (itr_step he5 (by first | (simp only [fTk3, ← he1, ← he3, eq_true c8, c9, reduceIte, Bool.false_eq_true, eq_self_iff_true, if_true, if_false]; done) | with_reducible rfl | (exfalso; omega))) (by have h9 : mI P (fTk3 i5 τ5) := fTk3_I i5 hlt5 hv5; have e8 : fTk3 i5 τ5 = τ5 := (by first | (simp only [fTk3, ← he1, ← he3, eq_true c8, c9, reduceIte, Bool.false_eq_true, eq_self_iff_true, if_true, if_false]; done) | with_reducible rfl | (exfalso; omega)); rw [e8] at h9; exact h9) _ _ hP hD hS _ (lv_sub hl [0, 1] rfl)
                · obtain ⟨g, n, hg, hn, htg, htc, hrow⟩ := (hv5).2.2.1.1 i5 hlt5
                  obtain ⟨v, f, hv, htv, -, -⟩ := hrow c8
                  have hvc : (τ5 21 i5).toNatClampNeg = v := by rw [htv]; exact cl8 hv
                  refine lv_aload_n S.1 S.2.1 dX3_oneTick_160 rfl (lv_at hl 1 rfl) ?_
                  refine lv_iload_n S.1 S.2.1 dX3_oneTick_161 rfl (lv_at hl 0 rfl) ?_
                  refine lv_aload_n S.1 S.2.1 dX3_oneTick_162 rfl (lv_at hl 1 rfl) ?_
                  refine mf_comesTo S hK hP dX3_oneTick_163 ?_
                  refine lv_iload_n S.1 S.2.1 dX3_oneTick_166 rfl (lv_at hl 0 rfl) ?_
                  refine ma_comesTo S hK hP (j := i5) (by omega) dX3_oneTick_167 ?_
                  refine k_top (y := nI v) htv ?_
                  refine call_X3_isAt S hK hN hP hD hS hA (r := i5) (v := v) g n (by omega) hv hg (by omega) htg htc hT (hv5).2.2.2.2.1 hl.1 (Nat.le_of_ble_eq_true rfl) ⟨Nat.le_of_ble_eq_true rfl, Nat.le_of_ble_eq_true rfl⟩ dX3_oneTick_168 ⟨Nat.le_refl _, Nat.le_refl _⟩ (fun H locs hP hD hS => ?_)
                  refine lv_iinc (v := (nI (i5 + 1))) (lv' := [(1, .int (nI (i5 + 1))), (0, .ref (a 0))]) S.1 S.2.1 dX3_oneTick_171 hl (k := 0) rfl (nI_add _ 1) (by decide) rfl (fun ls hl => ?_)
                  refine lv_goto (tgt := 130) S.1 S.2.1 dX3_oneTick_174 (by decide) ?_
                  exact ih5 (i5 + 1) (mIsAt i5 v τ5) (by omega) (itr_step he5 (by first | (simp only [fTk3, ← he1, ← he3, eq_true c8, eq_true c9, hvc, reduceIte, Bool.false_eq_true, eq_self_iff_true, if_true, if_false]; done) | with_reducible rfl | (exfalso; omega))) (by have h9 : mI P (fTk3 i5 τ5) := fTk3_I i5 hlt5 hv5; have e8 : fTk3 i5 τ5 = mIsAt i5 v τ5 := (by first | (simp only [fTk3, ← he1, ← he3, eq_true c8, eq_true c9, hvc, reduceIte, Bool.false_eq_true, eq_self_iff_true, if_true, if_false]; done) | with_reducible rfl | (exfalso; omega)); rw [e8] at h9; exact h9) _ _ hP hD hS _ (lv_sub hl [0, 1] rfl)
          exact lp5 P 0 τ3 (by omega) rfl (show mI P τ3 from hv3) _ _ hP hD hS _ (lv_sub hl [0, 1] rfl)
        | succ n3 ih3 =>
          intro i3 τ3 hi3 he3 hv3 H locs hP hD hS ls hl
          have hlt3 : i3 < 512 := by omega
          refine lv_iload_n S.1 S.2.1 dX3_oneTick_74 rfl (lv_at hl 0 rfl) ?_
          refine lv_sipush (v := (nI 512)) S.1 S.2.1 dX3_oneTick_75 (by decide) ?_
          refine lv_icmp_ge (tgt := 128) S.1 S.2.1 dX3_oneTick_78 (by decide) (fun c => absurd c (nI_ge (by omega) (by omega))) (fun _ => ?_)
          refine lv_aload_n S.1 S.2.1 dX3_oneTick_81 rfl (lv_at hl 1 rfl) ?_
          refine mf_flightNumbers S hK hP dX3_oneTick_82 ?_
          refine lv_iload_n S.1 S.2.1 dX3_oneTick_85 rfl (lv_at hl 0 rfl) ?_
          refine ma_flightNumbers S hK hP (j := i3) (by omega) dX3_oneTick_86 ?_
          refine lv_if_le (tgt := 122) S.1 S.2.1 dX3_oneTick_87 (by decide) (fun c11 => ?_) (fun c11 => ?_)
          · refine lv_iinc (v := (nI (i3 + 1))) (lv' := [(1, .int (nI (i3 + 1))), (0, .ref (a 0))]) S.1 S.2.1 dX3_oneTick_122 hl (k := 0) rfl (nI_add _ 1) (by decide) rfl (fun ls hl => ?_)
            refine lv_goto (tgt := 74) S.1 S.2.1 dX3_oneTick_125 (by decide) ?_
            exact ih3 (i3 + 1) τ3 (by omega) (itr_step he3 (by first | (simp only [fTk2, ← he1, c11, reduceIte, Bool.false_eq_true, eq_self_iff_true, if_true, if_false]; done) | with_reducible rfl | (exfalso; omega))) (by have h9 : mI P (fTk2 i3 τ3) := fTk2_I i3 hv3; have e8 : fTk2 i3 τ3 = τ3 := (by first | (simp only [fTk2, ← he1, c11, reduceIte, Bool.false_eq_true, eq_self_iff_true, if_true, if_false]; done) | with_reducible rfl | (exfalso; omega)); rw [e8] at h9; exact h9) _ _ hP hD hS _ (lv_sub hl [0, 1] rfl)
          · refine lv_aload_n S.1 S.2.1 dX3_oneTick_90 rfl (lv_at hl 1 rfl) ?_
            refine mf_flightTimes S hK hP dX3_oneTick_91 ?_
            refine lv_iload_n S.1 S.2.1 dX3_oneTick_94 rfl (lv_at hl 0 rfl) ?_
            refine ma_flightTimes S hK hP (j := i3) (by omega) dX3_oneTick_95 ?_
            refine lv_aload_n S.1 S.2.1 dX3_oneTick_96 rfl (lv_at hl 1 rfl) ?_
            refine mf_time S hK hP dX3_oneTick_97 ?_
            refine lv_icmp_ne (tgt := 122) S.1 S.2.1 dX3_oneTick_100 (by decide) (fun c12 => ?_) (fun c12 => ?_)
            · refine lv_iinc (v := (nI (i3 + 1))) (lv' := [(1, .int (nI (i3 + 1))), (0, .ref (a 0))]) S.1 S.2.1 dX3_oneTick_122 hl (k := 0) rfl (nI_add _ 1) (by decide) rfl (fun ls hl => ?_)
              refine lv_goto (tgt := 74) S.1 S.2.1 dX3_oneTick_125 (by decide) ?_
              exact ih3 (i3 + 1) τ3 (by omega) (itr_step he3 (by first | (simp only [fTk2, ← he1, c11, c12, reduceIte, Bool.false_eq_true, eq_self_iff_true, if_true, if_false]; done) | with_reducible rfl | (exfalso; omega))) (by have h9 : mI P (fTk2 i3 τ3) := fTk2_I i3 hv3; have e8 : fTk2 i3 τ3 = τ3 := (by first | (simp only [fTk2, ← he1, c11, c12, reduceIte, Bool.false_eq_true, eq_self_iff_true, if_true, if_false]; done) | with_reducible rfl | (exfalso; omega)); rw [e8] at h9; exact h9) _ _ hP hD hS _ (lv_sub hl [0, 1] rfl)
            · refine lv_aload_n S.1 S.2.1 dX3_oneTick_103 rfl (lv_at hl 1 rfl) ?_
              refine lv_iload_n S.1 S.2.1 dX3_oneTick_104 rfl (lv_at hl 0 rfl) ?_
              refine lv_bipush (v := (nI 64)) S.1 S.2.1 dX3_oneTick_105 (by decide) ?_
              refine lv_idiv S.1 S.2.1 dX3_oneTick_107 (by decide) ?_
              refine k_top (pk_div (by omega) (by decide) (by decide)) ?_
              refine lv_iload_n S.1 S.2.1 dX3_oneTick_108 rfl (lv_at hl 0 rfl) ?_
              refine lv_bipush (v := (nI 8)) S.1 S.2.1 dX3_oneTick_109 (by decide) ?_
              refine lv_idiv S.1 S.2.1 dX3_oneTick_111 (by decide) ?_
              refine k_top (pk_div (by omega) (by decide) (by decide)) ?_
              refine lv_bipush (v := (nI 8)) S.1 S.2.1 dX3_oneTick_112 (by decide) ?_
              refine lv_irem S.1 S.2.1 dX3_oneTick_114 (by decide) ?_
              refine k_top (pk_rem (by omega) (by decide) (by decide)) ?_
              refine lv_iload_n S.1 S.2.1 dX3_oneTick_115 rfl (lv_at hl 0 rfl) ?_
              refine lv_bipush (v := (nI 8)) S.1 S.2.1 dX3_oneTick_116 (by decide) ?_
              refine lv_irem S.1 S.2.1 dX3_oneTick_118 (by decide) ?_
              refine k_top (pk_rem (by omega) (by decide) (by decide)) ?_
              refine call_X3_receive S hK hN hP hD hS hA (u := i3 / 64) (v := (i3 / 8) % 8) (o := i3 % 8) (by omega) (by omega) (by omega) hl.1 (Nat.le_of_ble_eq_true rfl) ⟨Nat.le_of_ble_eq_true rfl, Nat.le_of_ble_eq_true rfl⟩ dX3_oneTick_119 ⟨Nat.le_refl _, Nat.le_refl _⟩ (fun H locs hP hD hS => ?_)
              refine lv_iinc (v := (nI (i3 + 1))) (lv' := [(1, .int (nI (i3 + 1))), (0, .ref (a 0))]) S.1 S.2.1 dX3_oneTick_122 hl (k := 0) rfl (nI_add _ 1) (by decide) rfl (fun ls hl => ?_)
              refine lv_goto (tgt := 74) S.1 S.2.1 dX3_oneTick_125 (by decide) ?_
              exact ih3 (i3 + 1) (mRecv (i3 / 64) ((i3 / 8) % 8) (i3 % 8) τ3) (by omega) (itr_step he3 (by first | (simp only [fTk2, ← he1, c11, eq_true c12, reduceIte, Bool.false_eq_true, eq_self_iff_true, if_true, if_false]; done) | with_reducible rfl | (exfalso; omega))) (by have h9 : mI P (fTk2 i3 τ3) := fTk2_I i3 hv3; have e8 : fTk2 i3 τ3 = mRecv (i3 / 64) ((i3 / 8) % 8) (i3 % 8) τ3 := (by first | (simp only [fTk2, ← he1, c11, eq_true c12, reduceIte, Bool.false_eq_true, eq_self_iff_true, if_true, if_false]; done) | with_reducible rfl | (exfalso; omega)); rw [e8] at h9; exact h9) _ _ hP hD hS _ (lv_sub hl [0, 1] rfl)
      exact lp3 512 0 τ1 (by omega) rfl (show mI P τ1 from hv1) _ _ hP hD hS _ (lv_sub hl [0, 1] rfl)
    | succ n1 ih1 =>
      intro i1 τ1 hi1 he1 hv1 H locs hP hD hS ls hl
      have hlt1 : i1 < 8 := by omega
      refine lv_iload_n S.1 S.2.1 dX3_oneTick_16 rfl (lv_at hl 0 rfl) ?_
      refine lv_bipush (v := (nI 8)) S.1 S.2.1 dX3_oneTick_17 (by decide) ?_
      refine lv_icmp_ge (tgt := 72) S.1 S.2.1 dX3_oneTick_19 (by decide) (fun c => absurd c (nI_ge (by omega) (by omega))) (fun _ => ?_)
      refine lv_aload_n S.1 S.2.1 dX3_oneTick_22 rfl (lv_at hl 1 rfl) ?_
      refine mf_there S hK hP dX3_oneTick_23 ?_
      refine lv_iload_n S.1 S.2.1 dX3_oneTick_26 rfl (lv_at hl 0 rfl) ?_
      refine ma_there S hK hP (j := i1) (by omega) dX3_oneTick_27 ?_
      refine lv_if_eq (tgt := 66) S.1 S.2.1 dX3_oneTick_28 (by decide) (fun c14 => ?_) (fun c14 => ?_)
      · refine lv_iinc (v := (nI (i1 + 1))) (lv' := [(1, .int (nI (i1 + 1))), (0, .ref (a 0))]) S.1 S.2.1 dX3_oneTick_66 hl (k := 0) rfl (nI_add _ 1) (by decide) rfl (fun ls hl => ?_)
        refine lv_goto (tgt := 16) S.1 S.2.1 dX3_oneTick_69 (by decide) ?_
        exact ih1 (i1 + 1) τ1 (by omega) (itr_step he1 (by first | (simp only [fTk1, eq_true c14, reduceIte, Bool.false_eq_true, eq_self_iff_true, if_true, if_false]; done) | with_reducible rfl | (exfalso; omega))) (by have h9 : mI P (fTk1 i1 τ1) := fTk1_I i1 hv1; have e8 : fTk1 i1 τ1 = τ1 := (by first | (simp only [fTk1, eq_true c14, reduceIte, Bool.false_eq_true, eq_self_iff_true, if_true, if_false]; done) | with_reducible rfl | (exfalso; omega)); rw [e8] at h9; exact h9) _ _ hP hD hS _ (lv_sub hl [0, 1] rfl)
      · refine lv_aload_n S.1 S.2.1 dX3_oneTick_31 rfl (lv_at hl 1 rfl) ?_
        refine mf_numbers S hK hP dX3_oneTick_32 ?_
        refine lv_bipush (v := (nI 8)) S.1 S.2.1 dX3_oneTick_35 (by decide) ?_
        refine lv_iload_n S.1 S.2.1 dX3_oneTick_37 rfl (lv_at hl 0 rfl) ?_
        refine lv_imul S.1 S.2.1 dX3_oneTick_38 ?_
        refine k_top (pk_mul _ _) ?_
        refine lv_iload_n S.1 S.2.1 dX3_oneTick_39 rfl (lv_at hl 0 rfl) ?_
        refine lv_iadd S.1 S.2.1 dX3_oneTick_40 ?_
        refine k_top (nI_add _ _) ?_
        refine ma_numbers S hK hP (j := ((8 * i1) + i1)) (by omega) dX3_oneTick_41 ?_
        refine lv_if_le (tgt := 66) S.1 S.2.1 dX3_oneTick_42 (by decide) (fun c15 => ?_) (fun c15 => ?_)
        · refine lv_iinc (v := (nI (i1 + 1))) (lv' := [(1, .int (nI (i1 + 1))), (0, .ref (a 0))]) S.1 S.2.1 dX3_oneTick_66 hl (k := 0) rfl (nI_add _ 1) (by decide) rfl (fun ls hl => ?_)
          refine lv_goto (tgt := 16) S.1 S.2.1 dX3_oneTick_69 (by decide) ?_
          exact ih1 (i1 + 1) τ1 (by omega) (itr_step he1 (by first | (simp only [fTk1, c14, c15, reduceIte, Bool.false_eq_true, eq_self_iff_true, if_true, if_false]; done) | with_reducible rfl | (exfalso; omega))) (by have h9 : mI P (fTk1 i1 τ1) := fTk1_I i1 hv1; have e8 : fTk1 i1 τ1 = τ1 := (by first | (simp only [fTk1, c14, c15, reduceIte, Bool.false_eq_true, eq_self_iff_true, if_true, if_false]; done) | with_reducible rfl | (exfalso; omega)); rw [e8] at h9; exact h9) _ _ hP hD hS _ (lv_sub hl [0, 1] rfl)
        · refine lv_aload_n S.1 S.2.1 dX3_oneTick_45 rfl (lv_at hl 1 rfl) ?_
          refine mf_ages S hK hP dX3_oneTick_46 ?_
          refine lv_bipush (v := (nI 8)) S.1 S.2.1 dX3_oneTick_49 (by decide) ?_
          refine lv_iload_n S.1 S.2.1 dX3_oneTick_51 rfl (lv_at hl 0 rfl) ?_
          refine lv_imul S.1 S.2.1 dX3_oneTick_52 ?_
          refine k_top (pk_mul _ _) ?_
          refine lv_iload_n S.1 S.2.1 dX3_oneTick_53 rfl (lv_at hl 0 rfl) ?_
          refine lv_iadd S.1 S.2.1 dX3_oneTick_54 ?_
          refine k_top (nI_add _ _) ?_
          refine ma_ages S hK hP (j := ((8 * i1) + i1)) (by omega) dX3_oneTick_55 ?_
          refine lv_bipush (v := (nI 40)) S.1 S.2.1 dX3_oneTick_56 (by decide) ?_
          refine lv_icmp_ne (tgt := 66) S.1 S.2.1 dX3_oneTick_58 (by decide) (fun c16 => ?_) (fun c16 => ?_)
          · refine lv_iinc (v := (nI (i1 + 1))) (lv' := [(1, .int (nI (i1 + 1))), (0, .ref (a 0))]) S.1 S.2.1 dX3_oneTick_66 hl (k := 0) rfl (nI_add _ 1) (by decide) rfl (fun ls hl => ?_)
            refine lv_goto (tgt := 16) S.1 S.2.1 dX3_oneTick_69 (by decide) ?_
            exact ih1 (i1 + 1) τ1 (by omega) (itr_step he1 (by first | (simp only [fTk1, c14, c15, c16, reduceIte, Bool.false_eq_true, eq_self_iff_true, if_true, if_false]; done) | with_reducible rfl | (exfalso; omega))) (by have h9 : mI P (fTk1 i1 τ1) := fTk1_I i1 hv1; have e8 : fTk1 i1 τ1 = τ1 := (by first | (simp only [fTk1, c14, c15, c16, reduceIte, Bool.false_eq_true, eq_self_iff_true, if_true, if_false]; done) | with_reducible rfl | (exfalso; omega)); rw [e8] at h9; exact h9) _ _ hP hD hS _ (lv_sub hl [0, 1] rfl)
          · refine lv_aload_n S.1 S.2.1 dX3_oneTick_61 rfl (lv_at hl 1 rfl) ?_
            refine lv_iload_n S.1 S.2.1 dX3_oneTick_62 rfl (lv_at hl 0 rfl) ?_
            refine call_X3_tell S hK hN hP hD hS hA (u := i1) (by omega) hl.1 (Nat.le_of_ble_eq_true rfl) ⟨Nat.le_of_ble_eq_true rfl, Nat.le_of_ble_eq_true rfl⟩ dX3_oneTick_63 ⟨Nat.le_refl _, Nat.le_refl _⟩ (fun H locs hP hD hS => ?_)
            refine lv_iinc (v := (nI (i1 + 1))) (lv' := [(1, .int (nI (i1 + 1))), (0, .ref (a 0))]) S.1 S.2.1 dX3_oneTick_66 hl (k := 0) rfl (nI_add _ 1) (by decide) rfl (fun ls hl => ?_)
            refine lv_goto (tgt := 16) S.1 S.2.1 dX3_oneTick_69 (by decide) ?_
            exact ih1 (i1 + 1) (mTell i1 τ1) (by omega) (itr_step he1 (by first | (simp only [fTk1, c14, c15, eq_true c16, reduceIte, Bool.false_eq_true, eq_self_iff_true, if_true, if_false]; done) | with_reducible rfl | (exfalso; omega))) (by have h9 : mI P (fTk1 i1 τ1) := fTk1_I i1 hv1; have e8 : fTk1 i1 τ1 = mTell i1 τ1 := (by first | (simp only [fTk1, c14, c15, eq_true c16, reduceIte, Bool.false_eq_true, eq_self_iff_true, if_true, if_false]; done) | with_reducible rfl | (exfalso; omega)); rw [e8] at h9; exact h9) _ _ hP hD hS _ (lv_sub hl [0, 1] rfl)
  exact lp1 8 0 (mGrow (mS 0 1 ((τ 0 1) + (nI 1)) τ)) (by omega) rfl (show mI P (mGrow (mS 0 1 ((τ 0 1) + (nI 1)) τ)) from (mGrow_I (mI_0 (j := 1) (v := ((τ 0 1) + (nI 1))) hI (by decide)))) _ _ hP hD hS _ (lv_sub hl [0, 1] rfl)
theorem call_X3_oneTick {p : Program} {l : Launch} {e : Env} {R : Room} {s : State} {m : MethodId} {args : Array Value} {below : List Frame} {meth : Method} {c : Code} {H : Heap} {locs : List Loc} {cells slots : Nat} {Q : State → Prop} {cc : ByteArray} {pc nL : Nat} {ls : Array Slot} {rest : List Value} {D : va_G} {A : Nat → Prop} {w0 : Cond} {X : va_W} {cy : Nat → ClassId} {a : Nat → Nat} {τ : MS} (S : CallFix p m c cc nL s args (w0 :: gw) RX3) (hK : va_K D vwCl (tyA cy) s) (hN : kN [] s) (hP : va_P D vwCl (X ++ mB cy a τ) H) (hD : va_D A (X ++ mB cy a τ)) (hS : va_S A s.heap H locs) (hA : ∀ q, s.heap.size ≤ q → A q)  (P : Nat) (hI : mI P τ) (hT : ∀ σ : MS, (∀ j, r50 (σ 11 j)) → mEnds σ) (hsz : ls.size = nL) (hW : (rest.map fun v => v.category).sum ≤ 8) (hR : 4 + 1 ≤ R.frames ∧ 8 + (2 + 11) + 32 * 4 ≤ R.locals) (hdg : decode cc pc = .ok (.invokevirtual 142, 3)) (hfc : cells ≤ R.cells ∧ slots ≤ R.slots)
    (kk : ∀ (H1 : Heap) (locs1 : List Loc), va_P D vwCl (X ++ mB cy a (mTick1 P τ)) H1 → va_D A (X ++ mB cy a (mTick1 P τ)) → va_S A s.heap H1 locs1 → W p l e R s m args below meth c H1 locs1 cells slots Q (F0 m (pc + 3) ls (rest))) : W p l e R s m args below meth c H locs cells slots Q (F0 m pc ls (.ref (a 0) :: rest)) :=
  kgo_v (va_runV (As := []) (rest := rest) S (c_X3_oneTick l D cy a X τ  P hI hT H.size) (cwV 0 S.2.2.2.2 (gw_good_1 wm_635 (gw_good_1 wm_637 (gw_good_1 wm_40 (gw_good_1 wm_50 (gw_good_in wm_638))))) rfl rfl rfl (by decide +kernel) hR) ⟨kblind kNok.nil, mrecv hK hP, kpre kNok.nil hN hK hP hD⟩ rfl rfl hsz rfl (lv_room hW) hdg hfc) hD hS hA kk
set_option maxHeartbeats 400000 in
set_option maxRecDepth 100000 in
theorem c_X3_tick (l : Launch) (D : va_G) (cy : Nat → ClassId) (a : Nat → Nat) (X : va_W) (τ : MS) (x : Int32) (P : Nat) (hI : mI P τ) (hT : ∀ σ : MS, (∀ j, r50 (σ 11 j)) → mEnds σ) : MetI l yX3_tick cX3_tick 3 .int (kRm 5 0 0) D (tyA cy) [] [.ref (a 0), .int (x)] (X ++ mB cy a τ) (X ++ mB cy a (mTick P x τ)) (mTickR P x τ) 0 0 := by
  intro sz
  refine kmet (own := RX3) (by decide) rfl (Nat.le_of_ble_eq_true rfl) (fun p e s m args below meth c S hr hlk hK hN hP hD hsz hA hnm ls hl => ?_)
  have hS : va_S (va_A (X ++ mB cy a τ) sz) s.heap s.heap [] := va_S.rf
  have hl : lv_has ls 3 [(0, .ref (a 0)), (1, .int (x))] := hl
  refine lv_aload_n S.1 S.2.1 dX3_tick_0 rfl (lv_at hl 0 rfl) ?_
  refine lv_iload_n S.1 S.2.1 dX3_tick_1 rfl (lv_at hl 1 rfl) ?_
  refine lv_iconst (v := (nI 1)) S.1 S.2.1 dX3_tick_2 (by decide) ?_
  refine lv_bipush (v := (nI 50)) S.1 S.2.1 dX3_tick_3 (by decide) ?_
  refine call_X3_in S hK hN hP hD hS hA (x := x) (y := nI 1) (z := nI 50)  hl.1 (Nat.le_of_ble_eq_true rfl) ⟨Nat.le_of_ble_eq_true rfl, Nat.le_of_ble_eq_true rfl⟩ dX3_tick_5 ⟨Nat.le_refl _, Nat.le_refl _⟩ (fun H locs hP hD hS => ?_)
  refine lv_iconst (v := (nI 1)) S.1 S.2.1 dX3_tick_8 (by decide) ?_
  refine call_X3_goes_t S hK hN hP hD hS hA (q := inR x (nI 1) (nI 50))  hl.1 (Nat.le_of_ble_eq_true rfl) ⟨Nat.le_of_ble_eq_true rfl, Nat.le_of_ble_eq_true rfl⟩ dX3_tick_9 ⟨Nat.le_refl _, Nat.le_refl _⟩ (fun H locs hP hD hS => ?_)
  refine kb_ne (tgt := 17) S dX3_tick_12 (by decide) (fun c1 => ?_) (fun c1 => ?_)
  · rw [c1] at hP hD
    obtain ⟨x1, hxa, hxb, rfl⟩ := inR_of (by decide) (by decide) c1
    refine lv_iconst (v := (nI 0)) S.1 S.2.1 dX3_tick_17 (by decide) ?_
    refine lv_istore_n (lv' := [(2, .int (nI 0)), (0, .ref (a 0)), (1, .int (nI (x1)))]) S.1 S.2.1 dX3_tick_18 rfl hl (by decide) rfl (fun ls hl => ?_)
    have lp2 : ∀ (n2 i2 : Nat) (τ2 : MS), i2 + n2 = x1 → itr (fTick P) n2 i2 τ2 = itr (fTick P) x1 0 (mGoes true true τ) → mI P τ2 → ∀ (H : Heap) (locs : List Loc), va_P D vwCl (X ++ mB cy a τ2) H → va_D (va_A (X ++ mB cy a τ) sz) (X ++ mB cy a τ2) → va_S (va_A (X ++ mB cy a τ) sz) s.heap H locs → ∀ ls : Array Slot, lv_has ls 3 [(2, .int (nI (i2))), (0, .ref (a 0)), (1, .int (nI (x1)))] → W p l e (kRm 5 0 0) s m args below meth c H locs 0 0 (MQ below (kQi D (X ++ mB cy a τ) (X ++ mB cy a (mTick P (nI x1) τ)) (mTickR P (nI x1) τ) sz) args s 0 0 (va_A (X ++ mB cy a τ) sz)) (F0 m 19 ls []) := by
      intro n2
      induction n2 with
      | zero =>
        intro i2 τ2 hi2 he2 hv2 H locs hP hD hS ls hl
        have hi2 : i2 = x1 := by omega
        have he2 : τ2 = itr (fTick P) x1 0 (mGoes true true τ) := he2
        refine lv_iload_n S.1 S.2.1 dX3_tick_19 rfl (lv_at hl 0 rfl) ?_
        refine lv_iload_n S.1 S.2.1 dX3_tick_20 rfl (lv_at hl 2 rfl) ?_
        refine lv_icmp_ge (tgt := 34) S.1 S.2.1 dX3_tick_21 (by decide) (fun _ => ?_) (fun c => absurd (nI_le (by omega) (by omega)) c)
        refine lv_aload_n S.1 S.2.1 dX3_tick_34 rfl (lv_at hl 1 rfl) ?_
        refine mf_time S hK hP dX3_tick_35 ?_
        have e9 : mTick P (nI x1) τ = τ2 := by first | (simp only [mTick, c1, nI_clamp (show x1 < 2 ^ 31 by omega), ← he2, reduceIte, Bool.false_eq_true, eq_self_iff_true, if_true, if_false]; done) | with_reducible rfl | (exfalso; omega)
        rw [e9]
        exact kret_i S hr hlk hP hD hS (by first | (simp only [mTickR, mTick, c1, nI_clamp (show x1 < 2 ^ 31 by omega), ← he2, reduceIte, Bool.false_eq_true, eq_self_iff_true, if_true, if_false]; done) | with_reducible rfl | (exfalso; omega)) dX3_tick_38
      | succ n2 ih2 =>
        intro i2 τ2 hi2 he2 hv2 H locs hP hD hS ls hl
        have hlt2 : i2 < x1 := by omega
        refine lv_iload_n S.1 S.2.1 dX3_tick_19 rfl (lv_at hl 0 rfl) ?_
        refine lv_iload_n S.1 S.2.1 dX3_tick_20 rfl (lv_at hl 2 rfl) ?_
        refine lv_icmp_ge (tgt := 34) S.1 S.2.1 dX3_tick_21 (by decide) (fun c => absurd c (nI_ge (by omega) (by omega))) (fun _ => ?_)
        refine lv_aload_n S.1 S.2.1 dX3_tick_24 rfl (lv_at hl 1 rfl) ?_
        refine call_X3_oneTick S hK hN hP hD hS hA  P (show mI P τ2 from hv2) hT hl.1 (Nat.le_of_ble_eq_true rfl) ⟨Nat.le_of_ble_eq_true rfl, Nat.le_of_ble_eq_true rfl⟩ dX3_tick_25 ⟨Nat.le_refl _, Nat.le_refl _⟩ (fun H locs hP hD hS => ?_)
        refine lv_iinc (v := (nI (i2 + 1))) (lv' := [(2, .int (nI (i2 + 1))), (0, .ref (a 0)), (1, .int (nI (x1)))]) S.1 S.2.1 dX3_tick_28 hl (k := 0) rfl (nI_add _ 1) (by decide) rfl (fun ls hl => ?_)
        refine lv_goto (tgt := 19) S.1 S.2.1 dX3_tick_31 (by decide) ?_
        exact ih2 (i2 + 1) (mTick1 P τ2) (by omega) (itr_step he2 (by first | (simp only [fTick, c1, nI_clamp (show x1 < 2 ^ 31 by omega), reduceIte, Bool.false_eq_true, eq_self_iff_true, if_true, if_false]; done) | with_reducible rfl | (exfalso; omega))) (by have h9 : mI P ((fTick P) i2 τ2) := fTick_I i2 hv2; have e8 : (fTick P) i2 τ2 = mTick1 P τ2 := (by first | (simp only [fTick, c1, nI_clamp (show x1 < 2 ^ 31 by omega), reduceIte, Bool.false_eq_true, eq_self_iff_true, if_true, if_false]; done) | with_reducible rfl | (exfalso; omega)); rw [e8] at h9; exact h9) _ _ hP hD hS _ (lv_sub hl [0, 1, 2] rfl)
    exact lp2 x1 0 (mGoes true true τ) (by omega) rfl (show mI P (mGoes true true τ) from (mGoes_I (p := true) (q := true) hI)) _ _ hP hD hS _ (lv_sub hl [0, 1, 2] rfl)
  · rw [c1] at hP hD
    refine lv_iconst (v := (nI 0)) S.1 S.2.1 dX3_tick_15 (by decide) ?_
    have e9 : mTick P x τ = mGoes false true τ := by first | (simp only [mTick, c1, reduceIte, Bool.false_eq_true, eq_self_iff_true, if_true, if_false]; done) | with_reducible rfl | (exfalso; omega)
    rw [e9]
    exact kret_i S hr hlk hP hD hS (by first | (simp only [mTickR, mTick, c1, reduceIte, Bool.false_eq_true, eq_self_iff_true, if_true, if_false]; done) | with_reducible rfl | (exfalso; omega)) dX3_tick_16
