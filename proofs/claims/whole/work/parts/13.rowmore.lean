/-! ROWS: merge, take all, lose the first, the greatest number, a new one -/
def seg (g : Nat → En) (i k : Nat) : List En := (List.range k).map (fun j => g (i + j))
theorem seg_cons (g : Nat → En) (i k : Nat) : seg g i (k + 1) = g i :: seg g (i + 1) k := by
  unfold seg
  rw [List.range_succ_eq_map, List.map_cons, List.map_map]
  congr 1
  apply List.map_congr_left
  intro j _
  show g (i + (j + 1)) = g (i + 1 + j)
  congr 1
  omega
theorem seg_congr {g g' : Nat → En} {i k : Nat} (h : ∀ j, i ≤ j → j < i + k → g j = g' j) : seg g i k = seg g' i k := by
  unfold seg
  apply List.map_congr_left
  intro j hj
  have := List.mem_range.mp hj
  exact h (i + j) (by omega) (by omega)
theorem rl_seg (g : Nat → En) (i k : Nat) : rl (i + k) g = rl i g ++ seg g i k := by
  unfold rl seg
  rw [List.range_add, List.map_append, List.map_map]
  rfl
theorem rl_rev (s : Nat) (f : Nat → En) : (rl (s + 1) f).reverse = f s :: (rl s f).reverse := by
  rw [rl_succ, List.reverse_append]
  rfl
section ROW
variable {n : Nat} {S : ab_SH} {R : ab_RR} {I : ab_II} {r a b c cap s : Nat} {f : Nat → En} {x : Int32} {r' a' b' c' cap' s' : Nat} {f' : Nat → En}
theorem s_X4_mergeIn_loop (hS : rw_S n S R r a b c cap) (hs : s + s' ≤ cap) (hS' : rw_S n S R r' a' b' c' cap') (hs' : s' ≤ cap') (hd : ∀ q ∈ [r', a', b', c'], q ∉ [r, a, b, c]) (post : ab_Po) {I0 : ab_II} (f : Nat → En) (hI0 : rw_I I0 r' a' b' c' s' f') (w : Int32)
    (hpost : ∀ (g : Nat → En) (I' : ab_II), rl (s + s') g = mrg (rl s f) (rl s' f') → ab_fr I0 I' [r, a, b, c] → rw_I I' r a b c (s + s') g → post none (n, S, R, I')) :
    ∀ (t m p : Nat) (x2 x3 x5 : Int32) (g : Nat → En) (I : ab_II), t = m + p → m ≤ s → p ≤ s' → x2.toInt = (m : Int) - 1 → x3.toInt = (p : Int) - 1 → x5.toInt = (t : Int) - 1 → (∀ j, j < m → g j = f j) → mR (rl s f).reverse (rl s' f').reverse = (seg g t (s + s' - t)).reverse ++ mR (rl m f).reverse (rl p f').reverse → ab_fr I0 I [r, a, b, c] → rw_I I r a b c (s + s') g →
    wp 3 68 0 0 MX4_mergeIn 48 [(0, .ref r), (1, .ref r'), (2, .int x2), (3, .int x3), (4, .int w), (5, .int x5)] [] (n, S, R, I) post := by
  have o0 := hS.1
  have o0' := hS'.1
  have hcap : cap ≤ 10000 := hS.2.2.2.2.2.2.2.2.2.2.2.2.2
  have hcap' : cap' ≤ 10000 := hS'.2.2.2.2.2.2.2.2.2.2.2.2.2
  have keep : ∀ I : ab_II, ab_fr I0 I [r, a, b, c] → rw_I I r' a' b' c' s' f' := fun I hf => hI0.keep hf (hd _ (by simp)) (hd _ (by simp)) (hd _ (by simp)) (hd _ (by simp))
  have fin : ∀ (t m p : Nat) (g : Nat → En), t = m + p → m ≤ s → p = 0 → (∀ j, j < m → g j = f j) → mR (rl s f).reverse (rl s' f').reverse = (seg g t (s + s' - t)).reverse ++ mR (rl m f).reverse (rl p f').reverse → rl (s + s') g = mrg (rl s f) (rl s' f') := by
    intro t m p g ht hm hp g1 hm2
    subst hp
    unfold mrg
    rw [hm2, show (rl 0 f').reverse = [] from rfl, mR_nil, List.reverse_append, List.reverse_reverse, List.reverse_reverse, show m + 0 = m by rfl] at *
    rw [show s + s' = t + (s + s' - t) by omega, rl_seg, ht]
    rw [show m + (s + s' - m) - m = s + s' - m by omega]
    congr 1
    exact rl_congr g1
  intro t
  induction t with
  | zero =>
    intro m p x2 x3 x5 g I ht hm hp e2 e3 e5 g1 hm2 hf hI
    refine wp_iload (pc := 48) dX4_mergeIn_48 rfl ?_
    refine wp_if_lt (pc := 50) (tgt := 110) dX4_mergeIn_50 (by decide) (fun hc => ?_) (fun hc => ?_)
    · skip
      refine wp_retv (pc := 110) dX4_mergeIn_110 rfl ?_
      exact hpost g I (fin 0 m p g ht hm (by omega) g1 hm2) hf hI
    · omega
  | succ t ih =>
    intro m p x2 x3 x5 g I ht hm hp e2 e3 e5 g1 hm2 hf hI
    have hI' := keep I hf
    have fin2 : ∀ (g : Nat → En) (I : ab_II), p = 0 → (∀ j, j < m → g j = f j) → mR (rl s f).reverse (rl s' f').reverse = (seg g (t + 1) (s + s' - (t + 1))).reverse ++ mR (rl m f).reverse (rl p f').reverse → ab_fr I0 I [r, a, b, c] → rw_I I r a b c (s + s') g → post none (n, S, R, I) := fun g I h0 h1 h2 h3 h4 => hpost g I (fin (t + 1) m p g ht hm h0 h1 h2) h3 h4
    have stepT : ∀ (I : ab_II) (g : Nat → En), (m = 0 ∨ 0 < m ∧ 0 < p ∧ ¬ bh (f (m - 1)) (f' (p - 1)).1 (f' (p - 1)).2.1) → 0 < p → (∀ j, j < m → g j = f j) → mR (rl s f).reverse (rl s' f').reverse = (seg g (t + 1) (s + s' - (t + 1))).reverse ++ mR (rl m f).reverse (rl p f').reverse → ab_fr I0 I [r, a, b, c] → rw_I I r a b c (s + s') g →
        wp 3 68 0 0 MX4_mergeIn 93 [(0, .ref r), (1, .ref r'), (2, .int x2), (3, .int x3), (4, .int w), (5, .int x5)] [] (n, S, R, I) post := by
      intro I g hm0 hp0 g1 hm2 hf hI
      have hI' := keep I hf
      first | refine wp_aload_n (pc := 93) dX4_mergeIn_93 rfl ?_ | refine wp_aload_nN (pc := 93) dX4_mergeIn_93 rfl ?_
      refine wp_iload (pc := 94) dX4_mergeIn_94 rfl ?_
      first | refine wp_aload_n (pc := 96) dX4_mergeIn_96 rfl ?_ | refine wp_aload_nN (pc := 96) dX4_mergeIn_96 rfl ?_
      refine wp_iload_n (pc := 97) dX4_mergeIn_97 rfl ?_
      refine cv_Row_54 (pc := 98) (s_X4_copyTo hS hI (by omega) hS' hI' (by omega) x5 x3 (by omega) (by omega) (by omega) (by omega)) rfl dX4_mergeIn_98 (by assumption) ⟨by decide, by decide, Nat.zero_le _, Nat.zero_le _⟩ (Nat.le_of_ble_eq_true rfl) (fun v h hp => ?_)
      obtain ⟨rfl, I', rfl, hf', hr⟩ := hp
      rw [show x5.toInt.toNat = t by omega, show x3.toInt.toNat = p - 1 by omega] at hr
      refine wp_iinc (pc := 101) dX4_mergeIn_101 rfl (by decide) rfl ?_
      refine wp_iinc (pc := 104) dX4_mergeIn_104 rfl (by decide) rfl ?_
      refine wp_goto (pc := 107) (tgt := 48) dX4_mergeIn_107 (by decide) ?_
      refine wp_loc (L' := [(0, .ref r), (1, .ref r'), (2, .int x2), (3, .int (x3 + Int32.ofInt (-1))), (4, .int w), (5, .int (x5 + Int32.ofInt (-1)))]) ⟨rfl, rfl, rfl, rfl, rfl, rfl, trivial⟩ ?_
      refine ih m (p - 1) x2 _ _ _ I' (by omega) hm (by omega) e2 ?_ ?_ (fun j hj => ?_) ?_ (hf.tr hf' (fun _ q => q) (by simp)) hr
      · rw [show Int32.ofInt (-1) = -1 by decide, tI_add (by rw [tl_m1]; omega) (by rw [tl_m1]; omega), tl_m1]; omega
      · rw [show Int32.ofInt (-1) = -1 by decide, tI_add (by rw [tl_m1]; omega) (by rw [tl_m1]; omega), tl_m1]; omega
      · rw [← g1 j hj]
        simp [va_up, show j ≠ t by omega]
      · rw [hm2]
        have e : seg (va_up g t (f' (p - 1))) t (s + s' - t) = f' (p - 1) :: seg g (t + 1) (s + s' - (t + 1)) := by
          rw [show s + s' - t = (s + s' - (t + 1)) + 1 by omega, seg_cons]
          congr 1
          · simp [va_up]
          · exact seg_congr (fun j h1 h2 => by simp [va_up, show j ≠ t by omega])
        rw [e, List.reverse_cons, List.append_assoc]
        congr 1
        obtain ⟨p', rfl⟩ : ∃ p', p = p' + 1 := ⟨p - 1, by omega⟩
        rw [rl_rev]
        simp only [Nat.add_sub_cancel] at *
        rcases hm0 with rfl | ⟨h1, h2, h3⟩
        · rw [show (rl 0 f).reverse = [] from rfl, mR_nil1, mR_nil1]
          rfl
        · obtain ⟨m', rfl⟩ : ∃ m', m = m' + 1 := ⟨m - 1, by omega⟩
          rw [rl_rev]
          simp only [Nat.add_sub_cancel] at h3
          rw [mR, if_neg h3]
          rfl
    refine wp_iload (pc := 48) dX4_mergeIn_48 rfl ?_
    refine wp_if_lt (pc := 50) (tgt := 110) dX4_mergeIn_50 (by decide) (fun hc => ?_) (fun hc => ?_)
    · omega
    · skip
      refine wp_iload_n (pc := 53) dX4_mergeIn_53 rfl ?_
      refine wp_if_lt (pc := 54) (tgt := 110) dX4_mergeIn_54 (by decide) (fun hc => ?_) (fun hc => ?_)
      · skip
        refine wp_retv (pc := 110) dX4_mergeIn_110 rfl ?_
        exact fin2 g I (by omega) g1 hm2 hf hI
      · skip
        refine wp_iload_n (pc := 57) dX4_mergeIn_57 rfl ?_
        refine wp_if_lt (pc := 58) (tgt := 93) dX4_mergeIn_58 (by decide) (fun hc => ?_) (fun hc => ?_)
        · have hm0 : m = 0 ∨ 0 < m ∧ 0 < p ∧ ¬ bh (f (m - 1)) (f' (p - 1)).1 (f' (p - 1)).2.1 := Or.inl (by omega)
          exact stepT I g hm0 (by omega) g1 hm2 hf hI
        · skip
          first | refine wp_aload_n (pc := 61) dX4_mergeIn_61 rfl ?_ | refine wp_aload_nN (pc := 61) dX4_mergeIn_61 rfl ?_
          refine wp_iload_n (pc := 62) dX4_mergeIn_62 rfl ?_
          first | refine wp_aload_n (pc := 63) dX4_mergeIn_63 rfl ?_ | refine wp_aload_nN (pc := 63) dX4_mergeIn_63 rfl ?_
          refine wp_iload_n (pc := 64) dX4_mergeIn_64 rfl ?_
          refine cv_Row_41 (pc := 65) (s_X4_key hS' hI' hs' x3) rfl dX4_mergeIn_65 (by assumption) ⟨by decide, by decide, Nat.zero_le _, Nat.zero_le _⟩ (Nat.le_of_ble_eq_true rfl) (fun v h hp => ?_)
          obtain ⟨rfl, rfl⟩ := hp
          rw [show rk_1 s' f' x3 = (f' (p - 1)).1 by rw [rk_1, if_pos (by omega), show x3.toInt.toNat = p - 1 by omega]]
          first | refine wp_aload_n (pc := 68) dX4_mergeIn_68 rfl ?_ | refine wp_aload_nN (pc := 68) dX4_mergeIn_68 rfl ?_
          refine wp_iload_n (pc := 69) dX4_mergeIn_69 rfl ?_
          refine cv_Row_44 (pc := 70) (s_X4_number hS' hI' hs' x3) rfl dX4_mergeIn_70 (by assumption) ⟨by decide, by decide, Nat.zero_le _, Nat.zero_le _⟩ (Nat.le_of_ble_eq_true rfl) (fun v h hp => ?_)
          obtain ⟨rfl, rfl⟩ := hp
          rw [show rk_2 s' f' x3 = (f' (p - 1)).2.1 by rw [rk_2, if_pos (by omega), show x3.toInt.toNat = p - 1 by omega]]
          refine cv_Row_58 (pc := 73) (s_X4_standsBehind hS hI hs x2 _ _ (by omega) (by omega)) rfl dX4_mergeIn_73 (by assumption) ⟨by decide, by decide, Nat.zero_le _, Nat.zero_le _⟩ (Nat.le_of_ble_eq_true rfl) (fun v h hp => ?_)
          obtain ⟨rfl, rfl⟩ := hp
          rw [show x2.toInt.toNat = m - 1 by omega, g1 (m - 1) (by omega)]
          refine wp_if_eq (pc := 76) (tgt := 93) dX4_mergeIn_76 (by decide) (fun hc => ?_) (fun hc => ?_)
          · have hm0 : m = 0 ∨ 0 < m ∧ 0 < p ∧ ¬ bh (f (m - 1)) (f' (p - 1)).1 (f' (p - 1)).2.1 := Or.inr ⟨by omega, by omega, fun q => by rw [if_pos q] at hc; exact absurd hc (by decide)⟩
            exact stepT I g hm0 (by omega) g1 hm2 hf hI
          · have hbb : bh (f (m - 1)) (f' (p - 1)).1 (f' (p - 1)).2.1 := Decidable.byContradiction fun q => hc (by rw [if_neg q]; rfl)
            first | refine wp_aload_n (pc := 79) dX4_mergeIn_79 rfl ?_ | refine wp_aload_nN (pc := 79) dX4_mergeIn_79 rfl ?_
            refine wp_iload (pc := 80) dX4_mergeIn_80 rfl ?_
            first | refine wp_aload_n (pc := 82) dX4_mergeIn_82 rfl ?_ | refine wp_aload_nN (pc := 82) dX4_mergeIn_82 rfl ?_
            refine wp_iload_n (pc := 83) dX4_mergeIn_83 rfl ?_
            refine cv_Row_54 (pc := 84) (s_X4_copyTo hS hI (by omega) hS hI (by omega) x5 x2 (by omega) (by omega) (by omega) (by omega)) rfl dX4_mergeIn_84 (by assumption) ⟨by decide, by decide, Nat.zero_le _, Nat.zero_le _⟩ (Nat.le_of_ble_eq_true rfl) (fun v h hp => ?_)
            obtain ⟨rfl, I', rfl, hf', hr⟩ := hp
            rw [show x5.toInt.toNat = t by omega, show x2.toInt.toNat = m - 1 by omega, g1 (m - 1) (by omega)] at hr
            refine wp_iinc (pc := 87) dX4_mergeIn_87 rfl (by decide) rfl ?_
            refine wp_goto (pc := 90) (tgt := 104) dX4_mergeIn_90 (by decide) ?_
            refine wp_iinc (pc := 104) dX4_mergeIn_104 rfl (by decide) rfl ?_
            refine wp_goto (pc := 107) (tgt := 48) dX4_mergeIn_107 (by decide) ?_
            refine wp_loc (L' := [(0, .ref r), (1, .ref r'), (2, .int (x2 + Int32.ofInt (-1))), (3, .int x3), (4, .int w), (5, .int (x5 + Int32.ofInt (-1)))]) ⟨rfl, rfl, rfl, rfl, rfl, rfl, trivial⟩ ?_
            refine ih (m - 1) p _ x3 _ _ I' (by omega) (by omega) hp ?_ e3 ?_ (fun j hj => ?_) ?_ (hf.tr hf' (fun _ q => q) (by simp)) hr
            · rw [show Int32.ofInt (-1) = -1 by decide, tI_add (by rw [tl_m1]; omega) (by rw [tl_m1]; omega), tl_m1]; omega
            · rw [show Int32.ofInt (-1) = -1 by decide, tI_add (by rw [tl_m1]; omega) (by rw [tl_m1]; omega), tl_m1]; omega
            · rw [← g1 j (by omega)]
              simp [va_up, show j ≠ t by omega]
            · rw [hm2]
              have e : seg (va_up g t (f (m - 1))) t (s + s' - t) = f (m - 1) :: seg g (t + 1) (s + s' - (t + 1)) := by
                rw [show s + s' - t = (s + s' - (t + 1)) + 1 by omega, seg_cons]
                congr 1
                · simp [va_up]
                · exact seg_congr (fun j h1 h2 => by simp [va_up, show j ≠ t by omega])
              rw [e, List.reverse_cons, List.append_assoc]
              congr 1
              obtain ⟨p', rfl⟩ : ∃ p', p = p' + 1 := ⟨p - 1, by omega⟩
              obtain ⟨m', rfl⟩ : ∃ m', m = m' + 1 := ⟨m - 1, by omega⟩
              rw [rl_rev, rl_rev]
              simp only [Nat.add_sub_cancel] at *
              rw [mR, if_pos hbb]
              rfl
theorem s_X4_mergeIn (hS : rw_S n S R r a b c cap) (hI : rw_I I r a b c s f) (hs : s + s' ≤ cap) (hS' : rw_S n S R r' a' b' c' cap') (hI' : rw_I I r' a' b' c' s' f') (hs' : s' ≤ cap') (hd : ∀ q ∈ [r', a', b', c'], q ∉ [r, a, b, c]) :
    wp 3 68 0 0 MX4_mergeIn 0 [(0, .ref r), (1, .ref r')] [] (n, S, R, I) (fun w h => w = none ∧ ∃ I' g, h = (n, S, R, I') ∧ ab_fr I I' [r, a, b, c] ∧ rw_I I' r a b c (s + s') g ∧ rl (s + s') g = mrg (rl s f) (rl s' f')) := by
  obtain ⟨o0, q0, q1, q2, o1, o2, o3, z1, z2, z3, d1, d2, d3, hcap⟩ := id hS
  have o0' := hS'.1
  have hcap' : cap' ≤ 10000 := hS'.2.2.2.2.2.2.2.2.2.2.2.2.2
  have e0 : (I r 3).toInt = s := by rw [hI.1, tI_n (by omega)]
  have e0' : (I r' 3).toInt = s' := by rw [hI'.1, tI_n (by omega)]
  have ea : (I r 3 + I r' 3).toInt = ((s + s' : Nat) : Int) := by rw [tI_add (by omega) (by omega)]; omega
  have eb : I r 3 + I r' 3 = nI (s + s') := tI_N ea
  have hI2 : rw_I (ab_u2 I r 3 (I r 3 + I r' 3)) r a b c (s + s') f := hI.size eb (ab_ok_ne o1 o0 (by decide)) (ab_ok_ne o2 o0 (by decide)) (ab_ok_ne o3 o0 (by decide))
  first | refine wp_aload_n (pc := 0) dX4_mergeIn_0 rfl ?_ | refine wp_aload_nN (pc := 0) dX4_mergeIn_0 rfl ?_
  refine wp_getI (pc := 1) dX4_mergeIn_1 fl_Row_27 (by assumption) rfl ?_
  refine wp_iconst (pc := 4) (v := 1) dX4_mergeIn_4 (by decide) ?_
  refine wp_isub (pc := 5) dX4_mergeIn_5 ?_
  refine wp_istore_n (pc := 6) dX4_mergeIn_6 (by decide) rfl ?_
  first | refine wp_aload_n (pc := 7) dX4_mergeIn_7 rfl ?_ | refine wp_aload_nN (pc := 7) dX4_mergeIn_7 rfl ?_
  refine wp_getI (pc := 8) dX4_mergeIn_8 fl_Row_27 (by assumption) rfl ?_
  refine wp_iconst (pc := 11) (v := 1) dX4_mergeIn_11 (by decide) ?_
  refine wp_isub (pc := 12) dX4_mergeIn_12 ?_
  refine wp_istore_n (pc := 13) dX4_mergeIn_13 (by decide) rfl ?_
  first | refine wp_aload_n (pc := 14) dX4_mergeIn_14 rfl ?_ | refine wp_aload_nN (pc := 14) dX4_mergeIn_14 rfl ?_
  refine wp_getI (pc := 15) dX4_mergeIn_15 fl_Row_27 (by assumption) rfl ?_
  first | refine wp_aload_n (pc := 18) dX4_mergeIn_18 rfl ?_ | refine wp_aload_nN (pc := 18) dX4_mergeIn_18 rfl ?_
  refine wp_getI (pc := 19) dX4_mergeIn_19 fl_Row_27 (by assumption) rfl ?_
  refine wp_iadd (pc := 22) dX4_mergeIn_22 ?_
  refine wp_istore (pc := 23) dX4_mergeIn_23 (by decide) rfl ?_
  refine wp_iload (pc := 25) dX4_mergeIn_25 rfl ?_
  first | refine wp_aload_n (pc := 27) dX4_mergeIn_27 rfl ?_ | refine wp_aload_nN (pc := 27) dX4_mergeIn_27 rfl ?_
  refine wp_getR (pc := 28) dX4_mergeIn_28 fl_Row_15 (by assumption) rfl (by assumption) ?_
  first | refine wp_alen (pc := 31) dX4_mergeIn_31 (Or.inl (by assumption)) ?_ | refine wp_alen (pc := 31) dX4_mergeIn_31 (Or.inr (Or.inl (by assumption))) ?_ | refine wp_alen (pc := 31) dX4_mergeIn_31 (Or.inr (Or.inr (Or.inl (by assumption)))) ?_ | refine wp_alen (pc := 31) dX4_mergeIn_31 (Or.inr (Or.inr (Or.inr (by assumption)))) ?_
  refine wp_icmp_le (pc := 32) (tgt := 36) dX4_mergeIn_32 (by decide) (fun hc => ?_) (fun hc => ?_)
  · skip
    first | refine wp_aload_n (pc := 36) dX4_mergeIn_36 rfl ?_ | refine wp_aload_nN (pc := 36) dX4_mergeIn_36 rfl ?_
    refine wp_iload (pc := 37) dX4_mergeIn_37 rfl ?_
    refine wp_putI (pc := 39) dX4_mergeIn_39 fl_Row_27 (by assumption) rfl rfl (Or.inl rfl) ?_
    refine wp_iload (pc := 42) dX4_mergeIn_42 rfl ?_
    refine wp_iconst (pc := 44) (v := 1) dX4_mergeIn_44 (by decide) ?_
    refine wp_isub (pc := 45) dX4_mergeIn_45 ?_
    refine wp_istore (pc := 46) dX4_mergeIn_46 (by decide) rfl ?_
    refine wp_loc (L' := [(0, .ref r), (1, .ref r'), (2, .int (I r 3 - 1)), (3, .int (I r' 3 - 1)), (4, .int (I r 3 + I r' 3)), (5, .int (I r 3 + I r' 3 - 1))]) ⟨rfl, rfl, rfl, rfl, rfl, rfl, trivial⟩ ?_
    refine s_X4_mergeIn_loop hS hs hS' hs' hd _ f (I0 := I) hI' _ (fun g I' h1 h2 h3 => ⟨rfl, I', g, rfl, h2, h3, h1⟩) (s + s') s s' _ _ _ f _ rfl (Nat.le_refl _) (Nat.le_refl _) ?_ ?_ ?_ (fun _ _ => rfl) ?_ (ab_fr.u2 (by simp)) hI2
    · rw [tI_sub (by rw [tl_1]; omega) (by rw [tl_1]; omega), tl_1]; omega
    · rw [tI_sub (by rw [tl_1]; omega) (by rw [tl_1]; omega), tl_1]; omega
    · rw [tI_sub (by rw [tl_1]; omega) (by rw [tl_1]; omega), tl_1]; omega
    · rw [Nat.sub_self]; rfl
  · exact absurd hc (by rw [ea, tI_o (by omega), z1]; omega)
theorem s_X4_takeAll_loop (hS : rw_S n S R r a b c cap) (hs : s' ≤ cap) (hS' : rw_S n S R r' a' b' c' cap') (hs' : s' ≤ cap') (hd : ∀ q ∈ [r', a', b', c'], q ∉ [r, a, b, c]) (post : ab_Po) {I0 : ab_II} (hI0 : rw_I I0 r' a' b' c' s' f')
    (hpost : ∀ (g : Nat → En) (I' : ab_II), (∀ j, j < s' → g j = f' j) → ab_fr I0 I' [r, a, b, c] → rw_I I' r a b c s' g → post none (n, S, R, I')) :
    ∀ (d t : Nat) (x : Int32) (g : Nat → En) (I : ab_II), s' = t + d → x = nI t → (∀ j, j < t → g j = f' j) → ab_fr I0 I [r, a, b, c] → rw_I I r a b c s' g →
    wp 3 68 0 0 MX4_takeAll 18 [(0, .ref r), (1, .ref r'), (2, .int x)] [] (n, S, R, I) post := by
  have o0 := hS.1
  have o0' := hS'.1
  have hcap : cap ≤ 10000 := hS.2.2.2.2.2.2.2.2.2.2.2.2.2
  intro d
  induction d with
  | zero =>
    intro t x g I ht hx g1 hf hI
    have ex : x.toInt = t := by rw [hx, tI_n (by omega)]
    have e0 : (I r 3).toInt = s' := by rw [hI.1, tI_n (by omega)]
    refine wp_iload_n (pc := 18) dX4_takeAll_18 rfl ?_
    first | refine wp_aload_n (pc := 19) dX4_takeAll_19 rfl ?_ | refine wp_aload_nN (pc := 19) dX4_takeAll_19 rfl ?_
    refine wp_getI (pc := 20) dX4_takeAll_20 fl_Row_27 (by assumption) rfl ?_
    refine wp_icmp_ge (pc := 23) (tgt := 39) dX4_takeAll_23 (by decide) (fun hc => ?_) (fun hc => ?_)
    · skip
      refine wp_retv (pc := 39) dX4_takeAll_39 rfl ?_
      exact hpost g I (fun j hj => g1 j (by omega)) hf hI
    · omega
  | succ d ih =>
    intro t x g I ht hx g1 hf hI
    have ex : x.toInt = t := by rw [hx, tI_n (by omega)]
    have e0 : (I r 3).toInt = s' := by rw [hI.1, tI_n (by omega)]
    have hI' : rw_I I r' a' b' c' s' f' := hI0.keep hf (hd _ (by simp)) (hd _ (by simp)) (hd _ (by simp)) (hd _ (by simp))
    refine wp_iload_n (pc := 18) dX4_takeAll_18 rfl ?_
    first | refine wp_aload_n (pc := 19) dX4_takeAll_19 rfl ?_ | refine wp_aload_nN (pc := 19) dX4_takeAll_19 rfl ?_
    refine wp_getI (pc := 20) dX4_takeAll_20 fl_Row_27 (by assumption) rfl ?_
    refine wp_icmp_ge (pc := 23) (tgt := 39) dX4_takeAll_23 (by decide) (fun hc => ?_) (fun hc => ?_)
    · omega
    · skip
      first | refine wp_aload_n (pc := 26) dX4_takeAll_26 rfl ?_ | refine wp_aload_nN (pc := 26) dX4_takeAll_26 rfl ?_
      refine wp_iload_n (pc := 27) dX4_takeAll_27 rfl ?_
      first | refine wp_aload_n (pc := 28) dX4_takeAll_28 rfl ?_ | refine wp_aload_nN (pc := 28) dX4_takeAll_28 rfl ?_
      refine wp_iload_n (pc := 29) dX4_takeAll_29 rfl ?_
      refine cv_Row_54 (pc := 30) (s_X4_copyTo hS hI (by omega) hS' hI' (by omega) x x (by omega) (by omega) (by omega) (by omega)) rfl dX4_takeAll_30 (by assumption) ⟨by decide, by decide, Nat.zero_le _, Nat.zero_le _⟩ (Nat.le_of_ble_eq_true rfl) (fun v h hp => ?_)
      obtain ⟨rfl, I', rfl, hf', hr⟩ := hp
      rw [ex, Int.toNat_natCast] at hr
      refine wp_iinc (pc := 33) dX4_takeAll_33 rfl (by decide) rfl ?_
      refine wp_goto (pc := 36) (tgt := 18) dX4_takeAll_36 (by decide) ?_
      refine wp_loc (L' := [(0, .ref r), (1, .ref r'), (2, .int (x + Int32.ofInt 1))]) ⟨rfl, rfl, rfl, trivial⟩ ?_
      refine ih (t + 1) _ _ I' (by omega) (by rw [hx]; exact nI_i1 t) (fun j hj => ?_) (hf.tr hf' (fun _ q => q) (by simp)) hr
      by_cases hj2 : j = t
      · subst hj2; simp [va_up]
      · rw [← g1 j (by omega)]
        simp [va_up, hj2]
theorem s_X4_takeAll (hS : rw_S n S R r a b c cap) (hI : rw_I I r a b c s f) (hs : s' ≤ cap) (hS' : rw_S n S R r' a' b' c' cap') (hI' : rw_I I r' a' b' c' s' f') (hs' : s' ≤ cap') (hd : ∀ q ∈ [r', a', b', c'], q ∉ [r, a, b, c]) :
    wp 3 68 0 0 MX4_takeAll 0 [(0, .ref r), (1, .ref r')] [] (n, S, R, I) (fun w h => w = none ∧ ∃ I' g, h = (n, S, R, I') ∧ ab_fr I I' [r, a, b, c] ∧ rw_I I' r a b c s' g ∧ rl s' g = rl s' f') := by
  obtain ⟨o0, q0, q1, q2, o1, o2, o3, z1, z2, z3, d1, d2, d3, hcap⟩ := id hS
  have o0' := hS'.1
  have e0' : (I r' 3).toInt = s' := by rw [hI'.1, tI_n (by omega)]
  have hmin : (if Int32.ofNat (S a).2 < I r' 3 then Int32.ofNat (S a).2 else I r' 3) = nI s' := by
    rw [if_neg (fun q => by have := Int32.lt_iff_toInt_lt.mp q; rw [tI_o (by omega), e0', z1] at this; omega)]
    exact hI'.1
  have hI2 : rw_I (ab_u2 I r 3 (nI s')) r a b c s' f := hI.size rfl (ab_ok_ne o1 o0 (by decide)) (ab_ok_ne o2 o0 (by decide)) (ab_ok_ne o3 o0 (by decide))
  first | refine wp_aload_n (pc := 0) dX4_takeAll_0 rfl ?_ | refine wp_aload_nN (pc := 0) dX4_takeAll_0 rfl ?_
  first | refine wp_aload_n (pc := 1) dX4_takeAll_1 rfl ?_ | refine wp_aload_nN (pc := 1) dX4_takeAll_1 rfl ?_
  refine wp_getI (pc := 2) dX4_takeAll_2 fl_Row_27 (by assumption) rfl ?_
  first | refine wp_aload_n (pc := 5) dX4_takeAll_5 rfl ?_ | refine wp_aload_nN (pc := 5) dX4_takeAll_5 rfl ?_
  refine wp_getR (pc := 6) dX4_takeAll_6 fl_Row_15 (by assumption) rfl (by assumption) ?_
  first | refine wp_alen (pc := 9) dX4_takeAll_9 (Or.inl (by assumption)) ?_ | refine wp_alen (pc := 9) dX4_takeAll_9 (Or.inr (Or.inl (by assumption))) ?_ | refine wp_alen (pc := 9) dX4_takeAll_9 (Or.inr (Or.inr (Or.inl (by assumption)))) ?_ | refine wp_alen (pc := 9) dX4_takeAll_9 (Or.inr (Or.inr (Or.inr (by assumption)))) ?_
  refine wp_min (pc := 10) dX4_takeAll_10 ml_Row_51 (by decide) (Nat.le_of_ble_eq_true rfl) ?_
  rw [hmin]
  refine wp_putI (pc := 13) dX4_takeAll_13 fl_Row_27 (by assumption) rfl rfl (Or.inl rfl) ?_
  refine wp_iconst (pc := 16) (v := 0) dX4_takeAll_16 (by decide) ?_
  refine wp_istore_n (pc := 17) dX4_takeAll_17 (by decide) rfl ?_
  refine wp_loc (L' := [(0, .ref r), (1, .ref r'), (2, .int 0)]) ⟨rfl, rfl, rfl, trivial⟩ ?_
  refine s_X4_takeAll_loop hS hs hS' hs' hd _ (I0 := I) hI' (fun g I' h1 h2 h3 => ⟨rfl, I', g, rfl, h2, h3, rl_congr h1⟩) s' 0 0 f _ (by omega) rfl (fun j hj => absurd hj (by omega)) (ab_fr.u2 (by simp)) hI2
theorem s_X4_loseFirst_loop (hS : rw_S n S R r a b c cap) (hs : s ≤ cap) (post : ab_Po) {I0 : ab_II} (f : Nat → En) (k : Nat) (w : Int32) (y : Int32) (hy : y.toInt = k) (hk : k ≤ s)
    (hpost : ∀ (g : Nat → En) (I' : ab_II), (∀ j, j < s - k → g j = f (k + j)) → ab_fr I0 I' [r, a, b, c] → rw_I I' r a b c (s - k) g → post none (n, S, R, I')) :
    ∀ (d t : Nat) (x : Int32) (g : Nat → En) (I : ab_II), s = t + d → k ≤ t → x = nI t → (∀ j, j < t - k → g j = f (k + j)) → (∀ j, t ≤ j → j < s → g j = f j) → ab_fr I0 I [r, a, b, c] → rw_I I r a b c s g →
    wp 3 68 0 0 MX4_loseFirst 15 [(0, .ref r), (1, .int w), (2, .int y), (3, .int x)] [] (n, S, R, I) post := by
  obtain ⟨o0, q0, q1, q2, o1, o2, o3, z1, z2, z3, d1, d2, d3, hcap⟩ := id hS
  intro d
  induction d with
  | zero =>
    intro t x g I ht hkt hx g1 g2 hf hI
    have ex : x.toInt = t := by rw [hx, tI_n (by omega)]
    have e0 : (I r 3).toInt = s := by rw [hI.1, tI_n (by omega)]
    have e1 : I r 3 - y = nI (s - k) := tI_N (by rw [tI_sub (by omega) (by omega)]; omega)
    refine wp_iload_n (pc := 15) dX4_loseFirst_15 rfl ?_
    first | refine wp_aload_n (pc := 16) dX4_loseFirst_16 rfl ?_ | refine wp_aload_nN (pc := 16) dX4_loseFirst_16 rfl ?_
    refine wp_getI (pc := 17) dX4_loseFirst_17 fl_Row_27 (by assumption) rfl ?_
    refine wp_icmp_ge (pc := 20) (tgt := 38) dX4_loseFirst_20 (by decide) (fun hc => ?_) (fun hc => ?_)
    · skip
      first | refine wp_aload_n (pc := 38) dX4_loseFirst_38 rfl ?_ | refine wp_aload_nN (pc := 38) dX4_loseFirst_38 rfl ?_
      refine wp_dup (pc := 39) dX4_loseFirst_39 rfl ?_
      refine wp_getI (pc := 40) dX4_loseFirst_40 fl_Row_27 (by assumption) rfl ?_
      refine wp_iload_n (pc := 43) dX4_loseFirst_43 rfl ?_
      refine wp_isub (pc := 44) dX4_loseFirst_44 ?_
      refine wp_putI (pc := 45) dX4_loseFirst_45 fl_Row_27 (by assumption) rfl rfl (Or.inl rfl) ?_
      refine wp_retv (pc := 48) dX4_loseFirst_48 rfl ?_
      exact hpost g _ (fun j hj => g1 j (by omega)) (hf.tr1 (ab_fr.u2 (by simp))) (hI.size e1 (ab_ok_ne o1 o0 (by decide)) (ab_ok_ne o2 o0 (by decide)) (ab_ok_ne o3 o0 (by decide)))
    · omega
  | succ d ih =>
    intro t x g I ht hkt hx g1 g2 hf hI
    have ex : x.toInt = t := by rw [hx, tI_n (by omega)]
    have e0 : (I r 3).toInt = s := by rw [hI.1, tI_n (by omega)]
    have e1 : (x - y).toInt = ((t - k : Nat) : Int) := by rw [tI_sub (by omega) (by omega)]; omega
    refine wp_iload_n (pc := 15) dX4_loseFirst_15 rfl ?_
    first | refine wp_aload_n (pc := 16) dX4_loseFirst_16 rfl ?_ | refine wp_aload_nN (pc := 16) dX4_loseFirst_16 rfl ?_
    refine wp_getI (pc := 17) dX4_loseFirst_17 fl_Row_27 (by assumption) rfl ?_
    refine wp_icmp_ge (pc := 20) (tgt := 38) dX4_loseFirst_20 (by decide) (fun hc => ?_) (fun hc => ?_)
    · omega
    · skip
      first | refine wp_aload_n (pc := 23) dX4_loseFirst_23 rfl ?_ | refine wp_aload_nN (pc := 23) dX4_loseFirst_23 rfl ?_
      refine wp_iload_n (pc := 24) dX4_loseFirst_24 rfl ?_
      refine wp_iload_n (pc := 25) dX4_loseFirst_25 rfl ?_
      refine wp_isub (pc := 26) dX4_loseFirst_26 ?_
      first | refine wp_aload_n (pc := 27) dX4_loseFirst_27 rfl ?_ | refine wp_aload_nN (pc := 27) dX4_loseFirst_27 rfl ?_
      refine wp_iload_n (pc := 28) dX4_loseFirst_28 rfl ?_
      refine cv_Row_54 (pc := 29) (s_X4_copyTo hS hI (by omega) hS hI (by omega) (x - y) x (by omega) (by omega) (by omega) (by omega)) rfl dX4_loseFirst_29 (by assumption) ⟨by decide, by decide, Nat.zero_le _, Nat.zero_le _⟩ (Nat.le_of_ble_eq_true rfl) (fun v h hp => ?_)
      obtain ⟨rfl, I', rfl, hf', hr⟩ := hp
      rw [ex, e1, Int.toNat_natCast, Int.toNat_natCast, g2 t (by omega) (by omega)] at hr
      refine wp_iinc (pc := 32) dX4_loseFirst_32 rfl (by decide) rfl ?_
      refine wp_goto (pc := 35) (tgt := 15) dX4_loseFirst_35 (by decide) ?_
      refine wp_loc (L' := [(0, .ref r), (1, .int w), (2, .int y), (3, .int (x + Int32.ofInt 1))]) ⟨rfl, rfl, rfl, rfl, trivial⟩ ?_
      refine ih (t + 1) _ _ I' (by omega) (by omega) (by rw [hx]; exact nI_i1 t) (fun j hj => ?_) (fun j h1 h2 => ?_) (hf.tr hf' (fun _ q => q) (by simp)) hr
      · by_cases hj2 : j = t - k
        · subst hj2; simp [va_up, show k + (t - k) = t by omega]
        · rw [← g1 j (by omega)]
          simp [va_up, hj2]
      · rw [← g2 j (by omega) h2]
        simp [va_up, show j ≠ t - k by omega]
theorem s_X4_loseFirst (hS : rw_S n S R r a b c cap) (hI : rw_I I r a b c s f) (hs : s ≤ cap) (k : Nat) (hk : k ≤ s) :
    wp 3 68 0 0 MX4_loseFirst 0 [(0, .ref r), (1, .int (nI k))] [] (n, S, R, I) (fun w h => w = none ∧ ∃ I' g, h = (n, S, R, I') ∧ ab_fr I I' [r, a, b, c] ∧ rw_I I' r a b c (s - k) g ∧ rl (s - k) g = (rl s f).drop k) := by
  obtain ⟨o0, q0, q1, q2, o1, o2, o3, z1, z2, z3, d1, d2, d3, hcap⟩ := id hS
  have e0 : (I r 3).toInt = s := by rw [hI.1, tI_n (by omega)]
  have ek : (nI k).toInt = k := tI_n (by omega)
  have hmin : (if I r 3 < nI k then I r 3 else nI k) = nI k := if_neg (fun q => by have := Int32.lt_iff_toInt_lt.mp q; omega)
  have hmax : (if (0 : Int32) < nI k then nI k else 0) = nI k := by
    by_cases h0 : (0 : Int32) < nI k
    · rw [if_pos h0]
    · rw [if_neg h0]
      have h1 := Int.not_lt.mp (fun z => h0 (Int32.lt_iff_toInt_lt.mpr z))
      rw [tl_0] at h1
      exact tI_eq (by rw [tl_0]; omega)
  refine wp_iconst (pc := 0) (v := 0) dX4_loseFirst_0 (by decide) ?_
  refine wp_iload_n (pc := 1) dX4_loseFirst_1 rfl ?_
  first | refine wp_aload_n (pc := 2) dX4_loseFirst_2 rfl ?_ | refine wp_aload_nN (pc := 2) dX4_loseFirst_2 rfl ?_
  refine wp_getI (pc := 3) dX4_loseFirst_3 fl_Row_27 (by assumption) rfl ?_
  refine wp_min (pc := 6) dX4_loseFirst_6 ml_Row_51 (by decide) (Nat.le_of_ble_eq_true rfl) ?_
  rw [hmin]
  refine wp_max (pc := 9) dX4_loseFirst_9 ml_Row_9 (by decide) (Nat.le_of_ble_eq_true rfl) ?_
  rw [hmax]
  refine wp_istore_n (pc := 12) dX4_loseFirst_12 (by decide) rfl ?_
  refine wp_iload_n (pc := 13) dX4_loseFirst_13 rfl ?_
  refine wp_istore_n (pc := 14) dX4_loseFirst_14 (by decide) rfl ?_
  refine wp_loc (L' := [(0, .ref r), (1, .int (nI k)), (2, .int (nI k)), (3, .int (nI k))]) ⟨rfl, rfl, rfl, rfl, trivial⟩ ?_
  refine s_X4_loseFirst_loop hS hs _ f (I0 := I) k _ _ ek hk (fun g I' h1 h2 h3 => ⟨rfl, I', g, rfl, h2, h3, rl_ext (by simp [rl_len]) (fun j hj => by rw [List.getElem?_drop, rl_get (by omega), h1 j hj])⟩) (s - k) k _ f I (by omega) (Nat.le_refl k) rfl (fun j hj => absurd hj (by omega)) (fun _ _ _ => rfl) ab_fr.rf hI
/-- the greatest number of a list of entries, from a start on -/
def gN (x : Int32) (l : List En) : Int32 := l.foldl (fun m e => if m < e.2.1 then e.2.1 else m) x
theorem s_X4_greatestNumber_loop (hS : rw_S n S R r a b c cap) (hI : rw_I I r a b c s f) (hs : s ≤ cap) (post : ab_Po) (hpost : post (some (.int (gN 0 (rl s f)))) (n, S, R, I)) :
    ∀ (d t : Nat) (x y : Int32), s = t + d → x = nI t → y = gN 0 (rl t f) → wp 1 23 0 0 MX4_greatestNumber 4 [(0, .ref r), (1, .int y), (2, .int x)] [] (n, S, R, I) post := by
  have o0 := hS.1
  have hcap : cap ≤ 10000 := hS.2.2.2.2.2.2.2.2.2.2.2.2.2
  have e0 : (I r 3).toInt = s := by rw [hI.1, tI_n (by omega)]
  intro d
  induction d with
  | zero =>
    intro t x y ht hx hy
    have ex : x.toInt = t := by rw [hx, tI_n (by omega)]
    refine wp_iload_n (pc := 4) dX4_greatestNumber_4 rfl ?_
    first | refine wp_aload_n (pc := 5) dX4_greatestNumber_5 rfl ?_ | refine wp_aload_nN (pc := 5) dX4_greatestNumber_5 rfl ?_
    refine wp_getI (pc := 6) dX4_greatestNumber_6 fl_Row_27 (by assumption) rfl ?_
    refine wp_icmp_ge (pc := 9) (tgt := 28) dX4_greatestNumber_9 (by decide) (fun hc => ?_) (fun hc => ?_)
    · skip
      refine wp_iload_n (pc := 28) dX4_greatestNumber_28 rfl ?_
      refine wp_ret (pc := 29) dX4_greatestNumber_29 rfl (by first | trivial | exact Or.inl rfl | exact Or.inr rfl | assumption) ?_
      rw [hy, show t = s by omega]; exact hpost
    · omega
  | succ d ih =>
    intro t x y ht hx hy
    have ex : x.toInt = t := by rw [hx, tI_n (by omega)]
    have e2 : rk_2 s f x = (f t).2.1 := by rw [rk_2, if_pos (by omega), ex, Int.toNat_natCast]
    refine wp_iload_n (pc := 4) dX4_greatestNumber_4 rfl ?_
    first | refine wp_aload_n (pc := 5) dX4_greatestNumber_5 rfl ?_ | refine wp_aload_nN (pc := 5) dX4_greatestNumber_5 rfl ?_
    refine wp_getI (pc := 6) dX4_greatestNumber_6 fl_Row_27 (by assumption) rfl ?_
    refine wp_icmp_ge (pc := 9) (tgt := 28) dX4_greatestNumber_9 (by decide) (fun hc => ?_) (fun hc => ?_)
    · omega
    · skip
      refine wp_iload_n (pc := 12) dX4_greatestNumber_12 rfl ?_
      first | refine wp_aload_n (pc := 13) dX4_greatestNumber_13 rfl ?_ | refine wp_aload_nN (pc := 13) dX4_greatestNumber_13 rfl ?_
      refine wp_iload_n (pc := 14) dX4_greatestNumber_14 rfl ?_
      refine cv_Row_44 (pc := 15) (s_X4_number hS hI hs x) rfl dX4_greatestNumber_15 (by assumption) ⟨by decide, by decide, Nat.zero_le _, Nat.zero_le _⟩ (Nat.le_of_ble_eq_true rfl) (fun v h hp => ?_)
      obtain ⟨rfl, rfl⟩ := hp
      rw [e2]
      refine wp_max (pc := 18) dX4_greatestNumber_18 ml_Row_9 (by decide) (Nat.le_of_ble_eq_true rfl) ?_
      refine wp_istore_n (pc := 21) dX4_greatestNumber_21 (by decide) rfl ?_
      refine wp_iinc (pc := 22) dX4_greatestNumber_22 rfl (by decide) rfl ?_
      refine wp_goto (pc := 25) (tgt := 4) dX4_greatestNumber_25 (by decide) ?_
      refine wp_loc (L' := [(0, .ref r), (1, .int (if y < (f t).2.1 then (f t).2.1 else y)), (2, .int (x + Int32.ofInt 1))]) ⟨rfl, rfl, rfl, trivial⟩ ?_
      refine ih (t + 1) _ _ (by omega) (by rw [hx]; exact nI_i1 t) ?_
      rw [hy, rl_succ]
      unfold gN
      rw [List.foldl_append]
      show _ = (if _ then _ else _)
      split <;> rfl
theorem s_X4_greatestNumber (hS : rw_S n S R r a b c cap) (hI : rw_I I r a b c s f) (hs : s ≤ cap) : wp 1 23 0 0 MX4_greatestNumber 0 [(0, .ref r)] [] (n, S, R, I) (fun v h => h = (n, S, R, I) ∧ v = some (.int (gN 0 (rl s f)))) := by
  refine wp_iconst (pc := 0) (v := 0) dX4_greatestNumber_0 (by decide) ?_
  refine wp_istore_n (pc := 1) dX4_greatestNumber_1 (by decide) rfl ?_
  refine wp_iconst (pc := 2) (v := 0) dX4_greatestNumber_2 (by decide) ?_
  refine wp_istore_n (pc := 3) dX4_greatestNumber_3 (by decide) rfl ?_
  refine wp_loc (L' := [(0, .ref r), (1, .int 0), (2, .int 0)]) ⟨rfl, rfl, rfl, trivial⟩ ?_
  exact s_X4_greatestNumber_loop hS hI hs _ ⟨rfl, rfl⟩ s 0 0 0 (by omega) rfl rfl
end ROW
