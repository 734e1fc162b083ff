/-! THE JOB: what is left out -/
abbrev ffK (f : Nat → En) (k : Nat) : Prop := k = 0 ∨ (f (k - 1)).1.toInt ≠ (f k).1.toInt
abbrev seenK (f : Nat → En) (V : Nat → Int32) (k : Nat) : Prop := ((f k).2.1.toInt ≤ (V 0).toInt ∧ (V 0).toInt < (f (k - 1)).2.1.toInt) ∨ ((f k).2.1.toInt ≤ (V 1).toInt ∧ (V 1).toInt < (f (k - 1)).2.1.toInt) ∨ ((f k).2.1.toInt ≤ (V 2).toInt ∧ (V 2).toInt < (f (k - 1)).2.1.toInt)
abbrev unK (f : Nat → En) (V : Nat → Int32) (k : Nat) : Prop := ¬ ffK f k ∧ ¬ seenK f V k
abbrev gvK (f : Nat → En) (k : Nat) : Prop := (f k).2.2 = cNONE
/-- behind k there is one of its key that is not left out and no grave -/
def cvK (f : Nat → En) (V : Nat → Int32) (s k : Nat) : Prop := ∃ j, k < j ∧ j < s ∧ (∀ i, k < i → i ≤ j → (f i).1.toInt = (f k).1.toInt) ∧ ¬ unK f V j ∧ ¬ gvK f j
def loK (f : Nat → En) (V : Nat → Int32) (s : Nat) (t3 : Prop) (k : Nat) : Prop := unK f V k ∨ (t3 ∧ gvK f k ∧ ¬ cvK f V s k)
theorem b01 {p : Prop} [Decidable p] : (if p then (1 : Int32) else 0) = 0 ∨ (if p then (1 : Int32) else 0) = 1 := by
  by_cases h : p
  · rw [if_pos h]; exact Or.inr rfl
  · rw [if_neg h]; exact Or.inl rfl
section JOB
variable {n : Nat} {S : ab_SH} {R : ab_RR} {I : ab_II} {s : Nat} {f : Nat → En}
theorem s_X2_begin (hX : Fx n S R) (x y : Int32) : wp 0 0 0 0 MX2_begin 0 [(0, .ref 27), (1, .int x), (2, .int y)] [] (n, S, R, I) (fun v h => v = none ∧ h = (n, S, R, ab_u2 (ab_u2 (ab_u2 I 27 0 1) 27 1 x) 27 4 y)) := by
  first | refine wp_aload_n (pc := 0) dX2_begin_0 rfl ?_ | refine wp_aload_nN (pc := 0) dX2_begin_0 rfl ?_
  refine wp_iconst (pc := 1) (v := 1) dX2_begin_1 (by decide) ?_
  refine wp_putI (pc := 2) dX2_begin_2 fl_Job_34 (by first | assumption | exact Fx.ok (by assumption) (by decide)) rfl rfl (Or.inr ⟨rfl, by first | exact Or.inl rfl | exact Or.inr rfl | assumption⟩) ?_
  first | refine wp_aload_n (pc := 5) dX2_begin_5 rfl ?_ | refine wp_aload_nN (pc := 5) dX2_begin_5 rfl ?_
  refine wp_iload_n (pc := 6) dX2_begin_6 rfl ?_
  refine wp_putI (pc := 7) dX2_begin_7 fl_Job_38 (by first | assumption | exact Fx.ok (by assumption) (by decide)) rfl rfl (Or.inl rfl) ?_
  first | refine wp_aload_n (pc := 10) dX2_begin_10 rfl ?_ | refine wp_aload_nN (pc := 10) dX2_begin_10 rfl ?_
  refine wp_iload_n (pc := 11) dX2_begin_11 rfl ?_
  refine wp_putI (pc := 12) dX2_begin_12 fl_Job_42 (by first | assumption | exact Fx.ok (by assumption) (by decide)) rfl rfl (Or.inl rfl) ?_
  refine wp_retv (pc := 15) dX2_begin_15 rfl ?_
  exact ⟨rfl, rfl⟩
theorem s_X2_left (hX : Fx n S R) : wp 0 0 0 0 MX2_left 0 [(0, .ref 27)] [] (n, S, R, I) (fun v h => h = (n, S, R, I) ∧ v = some (.int (I 28 3 - I 27 9))) := by
  first | refine wp_aload_n (pc := 0) dX2_left_0 rfl ?_ | refine wp_aload_nN (pc := 0) dX2_left_0 rfl ?_
  refine wp_getR (pc := 1) dX2_left_1 fl_Job_14 (by first | assumption | exact Fx.ok (by assumption) (by decide)) rfl (by first | assumption | exact Fx.ref (by assumption) rfl) ?_
  refine wp_getI (pc := 4) dX2_left_4 fl_Job_45 (by first | assumption | exact Fx.ok (by assumption) (by decide)) rfl ?_
  first | refine wp_aload_n (pc := 7) dX2_left_7 rfl ?_ | refine wp_aload_nN (pc := 7) dX2_left_7 rfl ?_
  refine wp_getI (pc := 8) dX2_left_8 fl_Job_48 (by first | assumption | exact Fx.ok (by assumption) (by decide)) rfl ?_
  refine wp_isub (pc := 11) dX2_left_11 ?_
  refine wp_ret (pc := 12) dX2_left_12 rfl (by first | trivial | exact Or.inl rfl | exact Or.inr rfl | assumption) ?_
  exact ⟨rfl, rfl⟩
theorem s_X2_isLeftOut (hX : Fx n S R) (k : Nat) (hk : k < 750) : wp 0 0 0 0 MX2_isLeftOut 0 [(0, .ref 27), (1, .int (nI k))] [] (n, S, R, I) (fun v h => h = (n, S, R, I) ∧ v = some (.int (if I 32 k = 0 then 0 else 1))) := by
  have z : (S 32).2 = 750 := hX.len (by decide)
  have o32 : ab_ok n S 32 10 := hX.ok (by decide)
  have ek : (nI k).toInt = k := tI_n (by omega)
  have ck : (nI k).toNatClampNeg = k := nI_c (by omega)
  refine wp_iload_n (pc := 0) dX2_isLeftOut_0 rfl ?_
  refine wp_if_lt (pc := 1) (tgt := 26) dX2_isLeftOut_1 (by decide) (fun hc => ?_) (fun hc => ?_)
  · omega
  · skip
    refine wp_iload_n (pc := 4) dX2_isLeftOut_4 rfl ?_
    first | refine wp_aload_n (pc := 5) dX2_isLeftOut_5 rfl ?_ | refine wp_aload_nN (pc := 5) dX2_isLeftOut_5 rfl ?_
    refine wp_getR (pc := 6) dX2_isLeftOut_6 fl_Job_20 (by first | assumption | exact Fx.ok (by assumption) (by decide)) rfl (by first | assumption | exact Fx.ref (by assumption) rfl) ?_
    first | refine wp_alen (pc := 9) dX2_isLeftOut_9 (Or.inl (by assumption)) ?_ | refine wp_alen (pc := 9) dX2_isLeftOut_9 (Or.inr (Or.inl (by assumption))) ?_ | refine wp_alen (pc := 9) dX2_isLeftOut_9 (Or.inr (Or.inr (Or.inl (by assumption)))) ?_ | refine wp_alen (pc := 9) dX2_isLeftOut_9 (Or.inr (Or.inr (Or.inr (by assumption)))) ?_
    refine wp_icmp_ge (pc := 10) (tgt := 26) dX2_isLeftOut_10 (by decide) (fun hc => ?_) (fun hc => ?_)
    · rw [z, tI_o (by omega)] at hc; omega
    · skip
      first | refine wp_aload_n (pc := 13) dX2_isLeftOut_13 rfl ?_ | refine wp_aload_nN (pc := 13) dX2_isLeftOut_13 rfl ?_
      refine wp_getR (pc := 14) dX2_isLeftOut_14 fl_Job_20 (by first | assumption | exact Fx.ok (by assumption) (by decide)) rfl (by first | assumption | exact Fx.ref (by assumption) rfl) ?_
      refine wp_iload_n (pc := 17) dX2_isLeftOut_17 rfl ?_
      refine wp_baload (pc := 18) dX2_isLeftOut_18 (by first | assumption | exact Fx.ok (by assumption) (by decide)) (in_I (by omega) (by rw [z]; omega)) ?_
      rw [ck]
      refine wp_if_eq (pc := 19) (tgt := 26) dX2_isLeftOut_19 (by decide) (fun hc => ?_) (fun hc => ?_)
      · have h0 : I 32 k = 0 := tI_eq hc
        refine wp_iconst (pc := 26) (v := 0) dX2_isLeftOut_26 (by decide) ?_
        refine wp_ret (pc := 27) dX2_isLeftOut_27 rfl (by first | trivial | exact Or.inl rfl | exact Or.inr rfl | assumption) ?_
        first | exact ⟨rfl, by rw [if_pos h0]⟩ | exact ⟨rfl, by rw [if_neg h1]⟩
      · have h1 : I 32 k ≠ 0 := fun q => hc (by rw [q]; rfl)
        refine wp_iconst (pc := 22) (v := 1) dX2_isLeftOut_22 (by decide) ?_
        refine wp_goto (pc := 23) (tgt := 27) dX2_isLeftOut_23 (by decide) ?_
        refine wp_ret (pc := 27) dX2_isLeftOut_27 rfl (by first | trivial | exact Or.inl rfl | exact Or.inr rfl | assumption) ?_
        first | exact ⟨rfl, by rw [if_pos h0]⟩ | exact ⟨rfl, by rw [if_neg h1]⟩
theorem s_X2_isFirstOfKey (hX : Fx n S R) (hI : rw_I I 28 29 30 31 s f) (hs : s ≤ 750) (k : Nat) (hk : k < s) : wp 1 21 0 0 MX2_isFirstOfKey 0 [(0, .ref 27), (1, .int (nI k))] [] (n, S, R, I) (fun v h => h = (n, S, R, I) ∧ v = some (.int (if ffK f k then 1 else 0))) := by
  have hS := hX.src
  have o28 : ab_ok n S 28 5 := hX.ok (by decide)
  have ek : (nI k).toInt = k := tI_n (by omega)
  have k1 : rk_1 s f (nI k) = (f k).1 := by rw [rk_1, if_pos (by omega), ek, Int.toNat_natCast]
  have e1 : 0 < k → nI k - 1 = nI (k - 1) := fun h => by
    obtain ⟨m, rfl⟩ : ∃ m, k = m + 1 := ⟨k - 1, by omega⟩
    exact nI_pred m
  have e2 : 0 < k → rk_1 s f (nI (k - 1)) = (f (k - 1)).1 := fun h => by
    have : (nI (k - 1)).toInt = ((k - 1 : Nat) : Int) := tI_n (by omega)
    rw [rk_1, if_pos (by omega), this, Int.toNat_natCast]
  refine wp_iload_n (pc := 0) dX2_isFirstOfKey_0 rfl ?_
  refine wp_if_eq (pc := 1) (tgt := 25) dX2_isFirstOfKey_1 (by decide) (fun hc => ?_) (fun hc => ?_)
  · skip
    refine wp_iconst (pc := 25) (v := 1) dX2_isFirstOfKey_25 (by decide) ?_
    refine wp_goto (pc := 26) (tgt := 30) dX2_isFirstOfKey_26 (by decide) ?_
    refine wp_ret (pc := 30) dX2_isFirstOfKey_30 rfl (by first | trivial | exact Or.inl rfl | exact Or.inr rfl | assumption) ?_
    first | exact ⟨rfl, by rw [if_pos (by unfold ffK; omega)]⟩ | exact ⟨rfl, by rw [if_neg (by unfold ffK; omega)]⟩
  · have hk0 : 0 < k := by omega
    first | refine wp_aload_n (pc := 4) dX2_isFirstOfKey_4 rfl ?_ | refine wp_aload_nN (pc := 4) dX2_isFirstOfKey_4 rfl ?_
    refine wp_getR (pc := 5) dX2_isFirstOfKey_5 fl_Job_14 (by first | assumption | exact Fx.ok (by assumption) (by decide)) rfl (by first | assumption | exact Fx.ref (by assumption) rfl) ?_
    refine wp_iload_n (pc := 8) dX2_isFirstOfKey_8 rfl ?_
    refine wp_iconst (pc := 9) (v := 1) dX2_isFirstOfKey_9 (by decide) ?_
    refine wp_isub (pc := 10) dX2_isFirstOfKey_10 ?_
    rw [e1 hk0]
    refine cv_Job_77 (pc := 11) (s_X4_key hS hI hs _) rfl dX2_isFirstOfKey_11 (by first | assumption | exact Fx.ok (by assumption) (by decide)) ⟨by decide, by decide, Nat.zero_le _, Nat.zero_le _⟩ (Nat.le_of_ble_eq_true rfl) (fun v h hp => ?_)
    obtain ⟨rfl, rfl⟩ := hp
    rw [e2 hk0]
    first | refine wp_aload_n (pc := 14) dX2_isFirstOfKey_14 rfl ?_ | refine wp_aload_nN (pc := 14) dX2_isFirstOfKey_14 rfl ?_
    refine wp_getR (pc := 15) dX2_isFirstOfKey_15 fl_Job_14 (by first | assumption | exact Fx.ok (by assumption) (by decide)) rfl (by first | assumption | exact Fx.ref (by assumption) rfl) ?_
    refine wp_iload_n (pc := 18) dX2_isFirstOfKey_18 rfl ?_
    refine cv_Job_77 (pc := 19) (s_X4_key hS hI hs _) rfl dX2_isFirstOfKey_19 (by first | assumption | exact Fx.ok (by assumption) (by decide)) ⟨by decide, by decide, Nat.zero_le _, Nat.zero_le _⟩ (Nat.le_of_ble_eq_true rfl) (fun v h hp => ?_)
    obtain ⟨rfl, rfl⟩ := hp
    rw [k1]
    refine wp_icmp_eq (pc := 22) (tgt := 29) dX2_isFirstOfKey_22 (by decide) (fun hc => ?_) (fun hc => ?_)
    · skip
      refine wp_iconst (pc := 29) (v := 0) dX2_isFirstOfKey_29 (by decide) ?_
      refine wp_ret (pc := 30) dX2_isFirstOfKey_30 rfl (by first | trivial | exact Or.inl rfl | exact Or.inr rfl | assumption) ?_
      first | exact ⟨rfl, by rw [if_pos (by unfold ffK; omega)]⟩ | exact ⟨rfl, by rw [if_neg (by unfold ffK; omega)]⟩
    · skip
      refine wp_iconst (pc := 25) (v := 1) dX2_isFirstOfKey_25 (by decide) ?_
      refine wp_goto (pc := 26) (tgt := 30) dX2_isFirstOfKey_26 (by decide) ?_
      refine wp_ret (pc := 30) dX2_isFirstOfKey_30 rfl (by first | trivial | exact Or.inl rfl | exact Or.inr rfl | assumption) ?_
      first | exact ⟨rfl, by rw [if_pos (by unfold ffK; omega)]⟩ | exact ⟨rfl, by rw [if_neg (by unfold ffK; omega)]⟩
theorem s_X2_isLastOfKey (hX : Fx n S R) (hI : rw_I I 28 29 30 31 s f) (hs : s ≤ 750) (k : Nat) (hk : k < s) : wp 2 42 0 0 MX2_isLastOfKey 0 [(0, .ref 27), (1, .int (nI k))] [] (n, S, R, I) (fun v h => h = (n, S, R, I) ∧ v = some (.int (if k + 1 = s ∨ (f k).1.toInt ≠ (f (k + 1)).1.toInt then 1 else 0))) := by
  have o27 : ab_ok n S 27 3 := hX.ok (by decide)
  have ek : (nI k).toInt = k := tI_n (by omega)
  have e0 : I 28 3 - 1 = nI (s - 1) := by
    rw [hI.1]
    obtain ⟨m, rfl⟩ : ∃ m, s = m + 1 := ⟨s - 1, by omega⟩
    exact nI_pred m
  have e1 : (nI (s - 1)).toInt = ((s - 1 : Nat) : Int) := tI_n (by omega)
  refine wp_iload_n (pc := 0) dX2_isLastOfKey_0 rfl ?_
  first | refine wp_aload_n (pc := 1) dX2_isLastOfKey_1 rfl ?_ | refine wp_aload_nN (pc := 1) dX2_isLastOfKey_1 rfl ?_
  refine wp_getR (pc := 2) dX2_isLastOfKey_2 fl_Job_14 (by first | assumption | exact Fx.ok (by assumption) (by decide)) rfl (by first | assumption | exact Fx.ref (by assumption) rfl) ?_
  refine wp_getI (pc := 5) dX2_isLastOfKey_5 fl_Job_45 (by first | assumption | exact Fx.ok (by assumption) (by decide)) rfl ?_
  refine wp_iconst (pc := 8) (v := 1) dX2_isLastOfKey_8 (by decide) ?_
  refine wp_isub (pc := 9) dX2_isLastOfKey_9 ?_
  rw [e0]
  refine wp_icmp_eq (pc := 10) (tgt := 23) dX2_isLastOfKey_10 (by decide) (fun hc => ?_) (fun hc => ?_)
  · skip
    refine wp_iconst (pc := 23) (v := 1) dX2_isLastOfKey_23 (by decide) ?_
    refine wp_goto (pc := 24) (tgt := 28) dX2_isLastOfKey_24 (by decide) ?_
    refine wp_ret (pc := 28) dX2_isLastOfKey_28 rfl (by first | trivial | exact Or.inl rfl | exact Or.inr rfl | assumption) ?_
    first | exact ⟨rfl, by rw [if_pos (by omega)]⟩ | exact ⟨rfl, by rw [if_neg (by omega)]⟩
  · skip
    first | refine wp_aload_n (pc := 13) dX2_isLastOfKey_13 rfl ?_ | refine wp_aload_nN (pc := 13) dX2_isLastOfKey_13 rfl ?_
    refine wp_iload_n (pc := 14) dX2_isLastOfKey_14 rfl ?_
    refine wp_iconst (pc := 15) (v := 1) dX2_isLastOfKey_15 (by decide) ?_
    refine wp_iadd (pc := 16) dX2_isLastOfKey_16 ?_
    rw [nI_1]
    refine cv_Job_54 (pc := 17) (s_X2_isFirstOfKey hX hI hs (k + 1) (by omega)) rfl dX2_isLastOfKey_17 (by first | assumption | exact Fx.ok (by assumption) (by decide)) ⟨by decide, by decide, Nat.zero_le _, Nat.zero_le _⟩ (Nat.le_of_ble_eq_true rfl) (fun v h hp => ?_)
    obtain ⟨rfl, rfl⟩ := hp
    refine wp_if_eq (pc := 20) (tgt := 27) dX2_isLastOfKey_20 (by decide) (fun hc => ?_) (fun hc => ?_)
    · have hn : ¬ ffK f (k + 1) := fun q => by rw [if_pos q] at hc; exact absurd hc (by decide)
      unfold ffK at hn
      simp only [Nat.add_sub_cancel] at hn
      refine wp_iconst (pc := 27) (v := 0) dX2_isLastOfKey_27 (by decide) ?_
      refine wp_ret (pc := 28) dX2_isLastOfKey_28 rfl (by first | trivial | exact Or.inl rfl | exact Or.inr rfl | assumption) ?_
      first | exact ⟨rfl, by rw [if_pos (by omega)]⟩ | exact ⟨rfl, by rw [if_neg (by omega)]⟩
    · have hn : ffK f (k + 1) := Decidable.byContradiction fun q => hc (by rw [if_neg q]; rfl)
      unfold ffK at hn
      simp only [Nat.add_sub_cancel] at hn
      refine wp_iconst (pc := 23) (v := 1) dX2_isLastOfKey_23 (by decide) ?_
      refine wp_goto (pc := 24) (tgt := 28) dX2_isLastOfKey_24 (by decide) ?_
      refine wp_ret (pc := 28) dX2_isLastOfKey_28 rfl (by first | trivial | exact Or.inl rfl | exact Or.inr rfl | assumption) ?_
      first | exact ⟨rfl, by rw [if_pos (by omega)]⟩ | exact ⟨rfl, by rw [if_neg (by omega)]⟩
theorem s_X2_isSeen_loop (hX : Fx n S R) (hI : rw_I I 28 29 30 31 s f) (hs : s ≤ 750) (k : Nat) (hk : k < s) (hk0 : 0 < k) (post : ab_Po) (L6 : Value) (h1 : seenK f (I 8) k → post (some (.int 1)) (n, S, R, I)) (h0 : ¬ seenK f (I 8) k → post (some (.int 0)) (n, S, R, I)) :
    ∀ (d t : Nat) (y : Int32), 3 = t + d → y = nI t → (∀ v, v < t → ¬ ((f k).2.1.toInt ≤ (I 8 v).toInt ∧ (I 8 v).toInt < (f (k - 1)).2.1.toInt)) → wp 1 21 0 0 MX2_isSeen 9 [(0, .ref 27), (1, .int (nI k)), (2, .ref 8), (3, .ref 8), (4, .int 3), (5, .int y)] [] (n, S, R, I) post := by
  have z : (S 8).2 = 3 := hX.len (by decide)
  have hS := hX.src
  have o8 : ab_ok n S 8 9 := hX.ok (by decide)
  have o28 : ab_ok n S 28 5 := hX.ok (by decide)
  have ek : (nI k).toInt = k := tI_n (by omega)
  have k1 : rk_2 s f (nI k) = (f k).2.1 := by rw [rk_2, if_pos (by omega), ek, Int.toNat_natCast]
  have e1 : nI k - 1 = nI (k - 1) := by
    obtain ⟨m, rfl⟩ : ∃ m, k = m + 1 := ⟨k - 1, by omega⟩
    exact nI_pred m
  have e2 : rk_2 s f (nI (k - 1)) = (f (k - 1)).2.1 := by
    have : (nI (k - 1)).toInt = ((k - 1 : Nat) : Int) := tI_n (by omega)
    rw [rk_2, if_pos (by omega), this, Int.toNat_natCast]
  intro d
  induction d with
  | zero =>
    intro t y ht hy hv
    have ey : y.toInt = t := by rw [hy, tI_n (by omega)]
    refine wp_iload (pc := 9) dX2_isSeen_9 rfl ?_
    refine wp_iload (pc := 11) dX2_isSeen_11 rfl ?_
    refine wp_icmp_ge (pc := 13) (tgt := 58) dX2_isSeen_13 (by decide) (fun hc => ?_) (fun hc => ?_)
    · skip
      refine wp_iconst (pc := 58) (v := 0) dX2_isSeen_58 (by decide) ?_
      refine wp_ret (pc := 59) dX2_isSeen_59 rfl (by first | trivial | exact Or.inl rfl | exact Or.inr rfl | assumption) ?_
      exact h0 (fun q => by
        rcases q with q | q | q
        · exact hv 0 (by omega) q
        · exact hv 1 (by omega) q
        · exact hv 2 (by omega) q)
    · rw [tl_3] at hc; omega
  | succ d ih =>
    intro t y ht hy hv
    have ey : y.toInt = t := by rw [hy, tI_n (by omega)]
    have cy : y.toNatClampNeg = t := by rw [hy]; exact nI_c (by omega)
    have sn : ((f k).2.1.toInt ≤ (I 8 t).toInt ∧ (I 8 t).toInt < (f (k - 1)).2.1.toInt) → seenK f (I 8) k := fun q => by
      rcases (show t = 0 ∨ t = 1 ∨ t = 2 by omega) with rfl | rfl | rfl
      · exact Or.inl q
      · exact Or.inr (Or.inl q)
      · exact Or.inr (Or.inr q)
    refine wp_iload (pc := 9) dX2_isSeen_9 rfl ?_
    refine wp_iload (pc := 11) dX2_isSeen_11 rfl ?_
    refine wp_icmp_ge (pc := 13) (tgt := 58) dX2_isSeen_13 (by decide) (fun hc => ?_) (fun hc => ?_)
    · rw [tl_3] at hc; omega
    · skip
      first | refine wp_aload_n (pc := 16) dX2_isSeen_16 rfl ?_ | refine wp_aload_nN (pc := 16) dX2_isSeen_16 rfl ?_
      refine wp_iload (pc := 17) dX2_isSeen_17 rfl ?_
      refine wp_iaload (pc := 19) dX2_isSeen_19 (by first | assumption | exact Fx.ok (by assumption) (by decide)) (in_I (by omega) (by rw [z]; omega)) ?_
      rw [cy]
      refine wp_istore (pc := 20) dX2_isSeen_20 (by decide) rfl ?_
      refine wp_iload (pc := 22) dX2_isSeen_22 rfl ?_
      first | refine wp_aload_n (pc := 24) dX2_isSeen_24 rfl ?_ | refine wp_aload_nN (pc := 24) dX2_isSeen_24 rfl ?_
      refine wp_getR (pc := 25) dX2_isSeen_25 fl_Job_14 (by first | assumption | exact Fx.ok (by assumption) (by decide)) rfl (by first | assumption | exact Fx.ref (by assumption) rfl) ?_
      refine wp_iload_n (pc := 28) dX2_isSeen_28 rfl ?_
      refine cv_Job_81 (pc := 29) (s_X4_number hS hI hs _) rfl dX2_isSeen_29 (by first | assumption | exact Fx.ok (by assumption) (by decide)) ⟨by decide, by decide, Nat.zero_le _, Nat.zero_le _⟩ (Nat.le_of_ble_eq_true rfl) (fun v h hp => ?_)
      obtain ⟨rfl, rfl⟩ := hp
      rw [k1]
      refine wp_icmp_lt (pc := 32) (tgt := 52) dX2_isSeen_32 (by decide) (fun hc => ?_) (fun hc => ?_)
      · skip
        refine wp_iinc (pc := 52) dX2_isSeen_52 rfl (by decide) rfl ?_
        refine wp_goto (pc := 55) (tgt := 9) dX2_isSeen_55 (by decide) ?_
        refine wp_loc (L' := [(0, .ref 27), (1, .int (nI k)), (2, .ref 8), (3, .ref 8), (4, .int 3), (5, .int (y + Int32.ofInt 1))]) ⟨rfl, rfl, rfl, rfl, rfl, rfl, trivial⟩ ?_
        refine ih (t + 1) _ (by omega) (by rw [hy]; exact nI_i1 t) (fun v hvt => ?_)
        by_cases hv2 : v = t
        · subst hv2
          omega
        · exact hv v (by omega)
      · skip
        refine wp_iload (pc := 35) dX2_isSeen_35 rfl ?_
        first | refine wp_aload_n (pc := 37) dX2_isSeen_37 rfl ?_ | refine wp_aload_nN (pc := 37) dX2_isSeen_37 rfl ?_
        refine wp_getR (pc := 38) dX2_isSeen_38 fl_Job_14 (by first | assumption | exact Fx.ok (by assumption) (by decide)) rfl (by first | assumption | exact Fx.ref (by assumption) rfl) ?_
        refine wp_iload_n (pc := 41) dX2_isSeen_41 rfl ?_
        refine wp_iconst (pc := 42) (v := 1) dX2_isSeen_42 (by decide) ?_
        refine wp_isub (pc := 43) dX2_isSeen_43 ?_
        rw [e1]
        refine cv_Job_81 (pc := 44) (s_X4_number hS hI hs _) rfl dX2_isSeen_44 (by first | assumption | exact Fx.ok (by assumption) (by decide)) ⟨by decide, by decide, Nat.zero_le _, Nat.zero_le _⟩ (Nat.le_of_ble_eq_true rfl) (fun v h hp => ?_)
        obtain ⟨rfl, rfl⟩ := hp
        rw [e2]
        refine wp_icmp_ge (pc := 47) (tgt := 52) dX2_isSeen_47 (by decide) (fun hc => ?_) (fun hc => ?_)
        · skip
          refine wp_iinc (pc := 52) dX2_isSeen_52 rfl (by decide) rfl ?_
          refine wp_goto (pc := 55) (tgt := 9) dX2_isSeen_55 (by decide) ?_
          refine wp_loc (L' := [(0, .ref 27), (1, .int (nI k)), (2, .ref 8), (3, .ref 8), (4, .int 3), (5, .int (y + Int32.ofInt 1))]) ⟨rfl, rfl, rfl, rfl, rfl, rfl, trivial⟩ ?_
          refine ih (t + 1) _ (by omega) (by rw [hy]; exact nI_i1 t) (fun v hvt => ?_)
          by_cases hv2 : v = t
          · subst hv2
            omega
          · exact hv v (by omega)
        · skip
          refine wp_iconst (pc := 50) (v := 1) dX2_isSeen_50 (by decide) ?_
          refine wp_ret (pc := 51) dX2_isSeen_51 rfl (by first | trivial | exact Or.inl rfl | exact Or.inr rfl | assumption) ?_
          exact h1 (sn ⟨by omega, by omega⟩)
theorem s_X2_isSeen (hX : Fx n S R) (hI : rw_I I 28 29 30 31 s f) (hs : s ≤ 750) (k : Nat) (hk : k < s) (hk0 : 0 < k) : wp 1 21 0 0 MX2_isSeen 0 [(0, .ref 27), (1, .int (nI k)), (2, .ref 8)] [] (n, S, R, I) (fun v h => h = (n, S, R, I) ∧ v = some (.int (if seenK f (I 8) k then 1 else 0))) := by
  have z : (S 8).2 = 3 := hX.len (by decide)
  have o8 : ab_ok n S 8 9 := hX.ok (by decide)
  first | refine wp_aload_n (pc := 0) dX2_isSeen_0 rfl ?_ | refine wp_aload_nN (pc := 0) dX2_isSeen_0 rfl ?_
  first | refine wp_astore_n (pc := 1) dX2_isSeen_1 (by decide) rfl ?_ | refine wp_astore_nN (pc := 1) dX2_isSeen_1 (by decide) rfl ?_
  first | refine wp_aload_n (pc := 2) dX2_isSeen_2 rfl ?_ | refine wp_aload_nN (pc := 2) dX2_isSeen_2 rfl ?_
  first | refine wp_alen (pc := 3) dX2_isSeen_3 (Or.inl (by assumption)) ?_ | refine wp_alen (pc := 3) dX2_isSeen_3 (Or.inr (Or.inl (by assumption))) ?_ | refine wp_alen (pc := 3) dX2_isSeen_3 (Or.inr (Or.inr (Or.inl (by assumption)))) ?_ | refine wp_alen (pc := 3) dX2_isSeen_3 (Or.inr (Or.inr (Or.inr (by assumption)))) ?_
  rw [z]
  refine wp_istore (pc := 4) dX2_isSeen_4 (by decide) rfl ?_
  refine wp_iconst (pc := 6) (v := 0) dX2_isSeen_6 (by decide) ?_
  refine wp_istore (pc := 7) dX2_isSeen_7 (by decide) rfl ?_
  refine wp_loc (L' := [(0, .ref 27), (1, .int (nI k)), (2, .ref 8), (3, .ref 8), (4, .int 3), (5, .int 0)]) ⟨rfl, rfl, rfl, rfl, rfl, rfl, trivial⟩ ?_
  exact s_X2_isSeen_loop hX hI hs k hk hk0 _ .null (fun q => ⟨rfl, by rw [if_pos q]⟩) (fun q => ⟨rfl, by rw [if_neg q]⟩) 3 0 _ rfl rfl (fun v hv => absurd hv (by omega))
end JOB
