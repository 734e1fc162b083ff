/-! READING -/
abbrev NV : Type := (Nat → Int32) × (Nat → Int32)
def rdS (a b : Nat) (u : Int32) (w : NV) (e : En) : NV := if (a : Int) ≤ e.1.toInt ∧ e.1.toInt ≤ b ∧ e.2.1.toInt ≤ u.toInt ∧ (w.1 e.1.toInt.toNat).toInt < e.2.1.toInt then (va_up w.1 e.1.toInt.toNat e.2.1, va_up w.2 e.1.toInt.toNat e.2.2) else w
def rdF (a b : Nat) (u : Int32) (w : NV) (F : FA) : NV := if (lk F.es).toInt ≤ b ∧ (a : Int) ≤ (gk F.es).toInt then F.es.foldl (rdS a b u) w else w
/-- what is read: from, to, up to -/
def rd_A (I : ab_II) (a b : Nat) (u : Int32) : Prop := I 24 2 = nI a ∧ I 24 3 = nI b ∧ I 24 4 = u ∧ a ≤ 999 ∧ b ≤ 999
theorem rd_A.keep {I I' : ab_II} {a b : Nat} {u : Int32} (h : rd_A I a b u) (hk : I' 24 = I 24) : rd_A I' a b u := by
  obtain ⟨h1, h2, h3, h4⟩ := h
  exact ⟨by rw [hk]; exact h1, by rw [hk]; exact h2, by rw [hk]; exact h3, h4⟩
section READ
variable {n : Nat} {S : ab_SH} {R : ab_RR} {I : ab_II} {a b : Nat} {u : Int32}
theorem s_X3_begin_loop (hX : Fx n S R) (ha : a ≤ 999) (hb : b ≤ 999) (w1 w2 w3 : Int32) {I0 : ab_II} (post : ab_Po) (hpost : ∀ I', ab_fr I0 I' [25, 26] → (∀ k, a ≤ k → k ≤ b → I' 25 k = 0 ∧ I' 26 k = cNONE) → post none (n, S, R, I')) (h0 : rd_A I0 a b u) :
    ∀ (d t : Nat) (y : Int32) (I : ab_II), b + 1 ≤ t + d → a ≤ t → t ≤ 1000 → y = nI t → ab_fr I0 I [25, 26] → (∀ k, a ≤ k → k < t → I 25 k = 0 ∧ I 26 k = cNONE) → wp 1 23 0 0 MX3_begin 31 [(0, .ref 24), (1, .int w1), (2, .int w2), (3, .int w3), (4, .int y)] [] (n, S, R, I) post := by
  have z5 : (S 25).2 = 1000 := hX.len (by decide)
  have z6 : (S 26).2 = 1000 := hX.len (by decide)
  intro d
  induction d with
  | zero =>
    intro t y I ht hat ht2 hy hf hd
    have ey : y.toInt = t := by rw [hy, tI_n (by omega)]
    have e3 : (I 24 3).toInt = b := by rw [hf 24 (by decide), h0.2.1, tI_n (by omega)]
    refine wp_iload (pc := 31) dX3_begin_31 rfl ?_
    first | refine wp_aload_n (pc := 33) dX3_begin_33 rfl ?_ | refine wp_aload_nN (pc := 33) dX3_begin_33 rfl ?_
    refine wp_getI (pc := 34) dX3_begin_34 fl_Reading_31 (by first | assumption | exact Fx.ok (by assumption) (by decide)) rfl ?_
    refine wp_icmp_gt (pc := 37) (tgt := 63) dX3_begin_37 (by decide) (fun hc => ?_) (fun hc => ?_)
    · skip
      refine wp_retv (pc := 63) dX3_begin_63 rfl ?_
      exact hpost I hf (fun k h1 h2 => hd k h1 (by omega))
    · omega
  | succ d ih =>
    intro t y I ht hat ht2 hy hf hd
    have ey : y.toInt = t := by rw [hy, tI_n (by omega)]
    have cy : y.toNatClampNeg = t := by rw [hy]; exact nI_c (by omega)
    have e3 : (I 24 3).toInt = b := by rw [hf 24 (by decide), h0.2.1, tI_n (by omega)]
    refine wp_iload (pc := 31) dX3_begin_31 rfl ?_
    first | refine wp_aload_n (pc := 33) dX3_begin_33 rfl ?_ | refine wp_aload_nN (pc := 33) dX3_begin_33 rfl ?_
    refine wp_getI (pc := 34) dX3_begin_34 fl_Reading_31 (by first | assumption | exact Fx.ok (by assumption) (by decide)) rfl ?_
    refine wp_icmp_gt (pc := 37) (tgt := 63) dX3_begin_37 (by decide) (fun hc => ?_) (fun hc => ?_)
    · skip
      refine wp_retv (pc := 63) dX3_begin_63 rfl ?_
      exact hpost I hf (fun k h1 h2 => hd k h1 (by omega))
    · skip
      first | refine wp_aload_n (pc := 40) dX3_begin_40 rfl ?_ | refine wp_aload_nN (pc := 40) dX3_begin_40 rfl ?_
      refine wp_getR (pc := 41) dX3_begin_41 fl_Reading_9 (by first | assumption | exact Fx.ok (by assumption) (by decide)) rfl (by first | assumption | exact Fx.ref (by assumption) rfl) ?_
      refine wp_iload (pc := 44) dX3_begin_44 rfl ?_
      refine wp_iconst (pc := 46) (v := 0) dX3_begin_46 (by decide) ?_
      refine wp_iastore (pc := 47) dX3_begin_47 (by first | assumption | exact Fx.ok (by assumption) (by decide)) (in_I (by omega) (by rw [z5]; omega)) ?_
      first | refine wp_aload_n (pc := 48) dX3_begin_48 rfl ?_ | refine wp_aload_nN (pc := 48) dX3_begin_48 rfl ?_
      refine wp_getR (pc := 49) dX3_begin_49 fl_Reading_15 (by first | assumption | exact Fx.ok (by assumption) (by decide)) rfl (by first | assumption | exact Fx.ref (by assumption) rfl) ?_
      refine wp_iload (pc := 52) dX3_begin_52 rfl ?_
      refine wp_ldc (pc := 54) (v := -1000009) dX3_begin_54 cn_Reading_37 ?_
      refine wp_iastore (pc := 56) dX3_begin_56 (by first | assumption | exact Fx.ok (by assumption) (by decide)) (in_I (by omega) (by rw [z6]; omega)) ?_
      refine wp_iinc (pc := 57) dX3_begin_57 rfl (by decide) rfl ?_
      refine wp_goto (pc := 60) (tgt := 31) dX3_begin_60 (by decide) ?_
      refine wp_loc (L' := [(0, .ref 24), (1, .int w1), (2, .int w2), (3, .int w3), (4, .int (y + Int32.ofInt 1))]) ⟨rfl, rfl, rfl, rfl, rfl, trivial⟩ ?_
      refine ih (t + 1) _ _ (by omega) (by omega) (by omega) (by rw [hy]; exact nI_i1 t) (hf.tr1 ((ab_fr.u2 (by simp)).tr1 (ab_fr.u2 (by simp)))) (fun k h1 h2 => ?_)
      rw [cy]
      by_cases hk : k = t
      · subst hk
        exact ⟨by rw [ab_u2_n _ _ (Or.inl (by decide)), ab_u2_s], by rw [ab_u2_s]⟩
      · rw [ab_u2_n _ _ (Or.inr hk), ab_u2_n _ _ (Or.inr hk), ab_u2_n _ _ (Or.inr hk), ab_u2_n _ _ (Or.inr hk)]
        exact hd k h1 (by omega)
theorem s_X3_begin (hX : Fx n S R) (ha : a ≤ 999) (hb : b ≤ 999) (hab : a ≤ b + 1) : wp 1 23 0 0 MX3_begin 0 [(0, .ref 24), (1, .int (nI a)), (2, .int (nI b)), (3, .int u)] [] (n, S, R, I) (fun v h => v = none ∧ ∃ I', h = (n, S, R, I') ∧ ab_fr I I' [24, 25, 26] ∧ rd_A I' a b u ∧ (∀ k, a ≤ k → k ≤ b → I' 25 k = 0 ∧ I' 26 k = cNONE)) := by
  have ea : (nI a).toInt = a := tI_n (by omega)
  have eb : (nI b).toInt = b := tI_n (by omega)
  have e1 : (if (0 : Int32) < nI a then nI a else 0) = nI a := by
    by_cases h0 : (0 : Int32) < nI a
    · rw [if_pos h0]
    · rw [if_neg h0]
      have h1 := Int.not_lt.mp (fun z => h0 (Int32.lt_iff_toInt_lt.mpr z))
      rw [tl_0] at h1
      exact tI_eq (by rw [tl_0]; omega)
  have e2 : (if nI b < (999 : Int32) then nI b else 999) = nI b := by
    by_cases h0 : nI b < (999 : Int32)
    · rw [if_pos h0]
    · rw [if_neg h0]
      have h1 := Int.not_lt.mp (fun z => h0 (Int32.lt_iff_toInt_lt.mpr z))
      rw [show (999 : Int32).toInt = 999 by decide +kernel] at h1
      exact tI_eq (by rw [show (999 : Int32).toInt = 999 by decide +kernel]; omega)
  have e3 : ∀ (x y z : Int32), ab_u2 (ab_u2 (ab_u2 I 24 2 x) 24 3 y) 24 4 z 24 2 = x := fun x y z => by rw [ab_u2_n _ _ (Or.inr (by decide)), ab_u2_n _ _ (Or.inr (by decide)), ab_u2_s]
  first | refine wp_aload_n (pc := 0) dX3_begin_0 rfl ?_ | refine wp_aload_nN (pc := 0) dX3_begin_0 rfl ?_
  refine wp_iconst (pc := 1) (v := 0) dX3_begin_1 (by decide) ?_
  refine wp_iload_n (pc := 2) dX3_begin_2 rfl ?_
  refine wp_max (pc := 3) dX3_begin_3 ml_Reading_18 (by decide) (Nat.le_of_ble_eq_true rfl) ?_
  rw [e1]
  refine wp_putI (pc := 6) dX3_begin_6 fl_Reading_24 (by first | assumption | exact Fx.ok (by assumption) (by decide)) rfl rfl (Or.inl rfl) ?_
  first | refine wp_aload_n (pc := 9) dX3_begin_9 rfl ?_ | refine wp_aload_nN (pc := 9) dX3_begin_9 rfl ?_
  refine wp_sipush (pc := 10) (v := 999) dX3_begin_10 (by decide) ?_
  refine wp_iload_n (pc := 13) dX3_begin_13 rfl ?_
  refine wp_min (pc := 14) dX3_begin_14 ml_Reading_28 (by decide) (Nat.le_of_ble_eq_true rfl) ?_
  rw [e2]
  refine wp_putI (pc := 17) dX3_begin_17 fl_Reading_31 (by first | assumption | exact Fx.ok (by assumption) (by decide)) rfl rfl (Or.inl rfl) ?_
  first | refine wp_aload_n (pc := 20) dX3_begin_20 rfl ?_ | refine wp_aload_nN (pc := 20) dX3_begin_20 rfl ?_
  refine wp_iload_n (pc := 21) dX3_begin_21 rfl ?_
  refine wp_putI (pc := 22) dX3_begin_22 fl_Reading_34 (by first | assumption | exact Fx.ok (by assumption) (by decide)) rfl rfl (Or.inl rfl) ?_
  first | refine wp_aload_n (pc := 25) dX3_begin_25 rfl ?_ | refine wp_aload_nN (pc := 25) dX3_begin_25 rfl ?_
  refine wp_getI (pc := 26) dX3_begin_26 fl_Reading_24 (by first | assumption | exact Fx.ok (by assumption) (by decide)) rfl ?_
  rw [e3]
  refine wp_istore (pc := 29) dX3_begin_29 (by decide) rfl ?_
  refine wp_loc (L' := [(0, .ref 24), (1, .int (nI a)), (2, .int (nI b)), (3, .int u), (4, .int (nI a))]) ⟨rfl, rfl, rfl, rfl, rfl, trivial⟩ ?_
  refine s_X3_begin_loop hX ha hb _ _ _ (I0 := ab_u2 (ab_u2 (ab_u2 I 24 2 (nI a)) 24 3 (nI b)) 24 4 u) _ (fun I' h1 h2 => ⟨rfl, I', rfl, ?_, ?_, h2⟩) ⟨e3 _ _ _, by rw [ab_u2_n _ _ (Or.inr (by decide)), ab_u2_s], by rw [ab_u2_s], ha, hb⟩ (b + 1) a _ _ (by omega) (Nat.le_refl a) (by omega) rfl ab_fr.rf (fun k h1 h2 => absurd h1 (by omega))
  · exact (((ab_fr.u2 (by simp)).tr1 (ab_fr.u2 (by simp))).tr1 (ab_fr.u2 (by simp))).tr h1 (fun _ q => q) (by simp)
  · exact rd_A.keep ⟨e3 _ _ _, by rw [ab_u2_n _ _ (Or.inr (by decide)), ab_u2_s], by rw [ab_u2_s], ha, hb⟩ (h1 24 (by decide))
variable {r x y z cap s : Nat} {f : Nat → En}
theorem s_X3_take_loop (hX : Fx n S R) (hS : rw_S n S R r x y z cap) (hd : ∀ q ∈ [r, x, y, z], q ∉ [24, 25, 26]) (hs : s ≤ cap) {I0 : ab_II} (hI0 : rw_I I0 r x y z s f) (hA0 : rd_A I0 a b u) (post : ab_Po) (hpost : ∀ I', ab_fr I0 I' [25, 26] → (I' 25, I' 26) = (rl s f).foldl (rdS a b u) (I0 25, I0 26) → post none (n, S, R, I')) :
    ∀ (d t : Nat) (v : Int32) (I : ab_II), s = t + d → v = nI t → ab_fr I0 I [25, 26] → (I 25, I 26) = (rl t f).foldl (rdS a b u) (I0 25, I0 26) → wp 1 21 0 0 MX3_take 2 [(0, .ref 24), (1, .ref r), (2, .int v)] [] (n, S, R, I) post := by
  have z5 : (S 25).2 = 1000 := hX.len (by decide)
  have z6 : (S 26).2 = 1000 := hX.len (by decide)
  have or := hS.1
  have hcap := hS.2.2.2.2.2.2.2.2.2.2.2.2.2
  have keep : ∀ I : ab_II, ab_fr I0 I [25, 26] → rw_I I r x y z s f := fun I hf => hI0.keep hf (fun q => hd _ (by simp) (List.mem_cons_of_mem _ q)) (fun q => hd _ (by simp) (List.mem_cons_of_mem _ q)) (fun q => hd _ (by simp) (List.mem_cons_of_mem _ q)) (fun q => hd _ (by simp) (List.mem_cons_of_mem _ q))
  intro d
  induction d with
  | zero =>
    intro t v I ht hv hf hfd
    have hI := keep I hf
    have ev : v.toInt = t := by rw [hv, tI_n (by omega)]
    have e0 : (I r 3).toInt = s := by rw [hI.1, tI_n (by omega)]
    refine wp_iload_n (pc := 2) dX3_take_2 rfl ?_
    first | refine wp_aload_n (pc := 3) dX3_take_3 rfl ?_ | refine wp_aload_nN (pc := 3) dX3_take_3 rfl ?_
    refine wp_getI (pc := 4) dX3_take_4 fl_Reading_47 (by assumption) rfl ?_
    refine wp_icmp_ge (pc := 7) (tgt := 84) dX3_take_7 (by decide) (fun hc => ?_) (fun hc => ?_)
    · skip
      refine wp_retv (pc := 84) dX3_take_84 rfl ?_
      exact hpost I hf (by rw [hfd, show t = s by omega])
    · omega
  | succ d ih =>
    intro t v I ht hv hf hfd
    have hI := keep I hf
    obtain ⟨a1, a2, a3, a4, a5⟩ := hA0.keep (hf 24 (by decide))
    have ev : v.toInt = t := by rw [hv, tI_n (by omega)]
    have e0 : (I r 3).toInt = s := by rw [hI.1, tI_n (by omega)]
    have k1 : rk_1 s f v = (f t).1 := by rw [rk_1, if_pos (by omega), ev, Int.toNat_natCast]
    have k2 : rk_2 s f v = (f t).2.1 := by rw [rk_2, if_pos (by omega), ev, Int.toNat_natCast]
    have k3 : rk_3 s f v = (f t).2.2 := by rw [rk_3, if_pos (by omega), ev, Int.toNat_natCast]
    have ea : (nI a).toInt = a := tI_n (by omega)
    have eb : (nI b).toInt = b := tI_n (by omega)
    have next : ∀ (I' : ab_II), ab_fr I I' [25, 26] → (I' 25, I' 26) = rdS a b u (I 25, I 26) (f t) → ∀ L', ab_sub L' [(0, .ref 24), (1, .ref r), (2, .int (v + Int32.ofInt 1))] → wp 1 21 0 0 MX3_take 2 L' [] (n, S, R, I') post := by
      intro I' hf' he L' hL'
      refine wp_loc hL' ?_
      refine ih (t + 1) _ I' (by omega) (by rw [hv]; exact nI_i1 t) (hf.tr1 hf') ?_
      rw [rl_succ, List.foldl_append, ← hfd, he]
      rfl
    have skip : ¬ ((a : Int) ≤ (f t).1.toInt ∧ (f t).1.toInt ≤ b ∧ (f t).2.1.toInt ≤ u.toInt ∧ (I 25 (f t).1.toInt.toNat).toInt < (f t).2.1.toInt) → ∀ L', ab_sub L' [(0, .ref 24), (1, .ref r), (2, .int (v + Int32.ofInt 1))] → wp 1 21 0 0 MX3_take 2 L' [] (n, S, R, I) post := fun hn L' hL' => next I ab_fr.rf (by rw [rdS, if_neg hn]) L' hL'
    refine wp_iload_n (pc := 2) dX3_take_2 rfl ?_
    first | refine wp_aload_n (pc := 3) dX3_take_3 rfl ?_ | refine wp_aload_nN (pc := 3) dX3_take_3 rfl ?_
    refine wp_getI (pc := 4) dX3_take_4 fl_Reading_47 (by first | assumption | exact Fx.ok (by assumption) (by decide)) rfl ?_
    refine wp_icmp_ge (pc := 7) (tgt := 84) dX3_take_7 (by decide) (fun hc => ?_) (fun hc => ?_)
    · omega
    · skip
      first | refine wp_aload_n (pc := 10) dX3_take_10 rfl ?_ | refine wp_aload_nN (pc := 10) dX3_take_10 rfl ?_
      refine wp_iload_n (pc := 11) dX3_take_11 rfl ?_
      refine cv_Reading_52 (pc := 12) (s_X4_key hS hI hs v) rfl dX3_take_12 (by first | assumption | exact Fx.ok (by assumption) (by decide)) ⟨by decide, by decide, Nat.zero_le _, Nat.zero_le _⟩ (Nat.le_of_ble_eq_true rfl) (fun v h hp => ?_)
      obtain ⟨rfl, rfl⟩ := hp
      rw [k1]
      refine wp_istore_n (pc := 15) dX3_take_15 (by decide) rfl ?_
      first | refine wp_aload_n (pc := 16) dX3_take_16 rfl ?_ | refine wp_aload_nN (pc := 16) dX3_take_16 rfl ?_
      refine wp_iload_n (pc := 17) dX3_take_17 rfl ?_
      refine cv_Reading_56 (pc := 18) (s_X4_number hS hI hs v) rfl dX3_take_18 (by first | assumption | exact Fx.ok (by assumption) (by decide)) ⟨by decide, by decide, Nat.zero_le _, Nat.zero_le _⟩ (Nat.le_of_ble_eq_true rfl) (fun v h hp => ?_)
      obtain ⟨rfl, rfl⟩ := hp
      rw [k2]
      refine wp_istore (pc := 21) dX3_take_21 (by decide) rfl ?_
      refine wp_iload_n (pc := 23) dX3_take_23 rfl ?_
      first | refine wp_aload_n (pc := 24) dX3_take_24 rfl ?_ | refine wp_aload_nN (pc := 24) dX3_take_24 rfl ?_
      refine wp_getI (pc := 25) dX3_take_25 fl_Reading_24 (by first | assumption | exact Fx.ok (by assumption) (by decide)) rfl ?_
      refine wp_icmp_lt (pc := 28) (tgt := 78) dX3_take_28 (by decide) (fun hc => ?_) (fun hc => ?_)
      · rw [a1, ea] at hc
        refine wp_iinc (pc := 78) dX3_take_78 rfl (by decide) rfl ?_
        refine wp_goto (pc := 81) (tgt := 2) dX3_take_81 (by decide) ?_
        first
        | exact skip (by omega) _ ⟨rfl, rfl, rfl, trivial⟩
        | (refine next _ ((ab_fr.u2 (by simp)).tr1 (ab_fr.u2 (by simp))) ?_ _ ⟨rfl, rfl, rfl, trivial⟩
           have hin : (a : Int) ≤ (f t).1.toInt ∧ (f t).1.toInt ≤ b ∧ (f t).2.1.toInt ≤ u.toInt ∧ (I 25 (f t).1.toInt.toNat).toInt < (f t).2.1.toInt := ⟨by omega, by omega, by omega, by omega⟩
           have er : rdS a b u (I 25, I 26) (f t) = (va_up (I 25) (f t).1.toInt.toNat (f t).2.1, va_up (I 26) (f t).1.toInt.toNat (f t).2.2) := if_pos hin
           rw [er, tI_c]
           congr 1
           · funext j
             rw [ab_u2_r _ _ (by decide)]
             simp [ab_u2, va_up]
           · funext j
             by_cases hj : j = (f t).1.toInt.toNat
             · rw [hj, ab_u2_s]; simp [va_up]
             · rw [ab_u2_n _ _ (Or.inr hj), ab_u2_r _ _ (by decide)]; simp only [va_up, if_neg hj])
      · rw [a1, ea] at hc
        refine wp_iload_n (pc := 31) dX3_take_31 rfl ?_
        first | refine wp_aload_n (pc := 32) dX3_take_32 rfl ?_ | refine wp_aload_nN (pc := 32) dX3_take_32 rfl ?_
        refine wp_getI (pc := 33) dX3_take_33 fl_Reading_31 (by first | assumption | exact Fx.ok (by assumption) (by decide)) rfl ?_
        refine wp_icmp_gt (pc := 36) (tgt := 78) dX3_take_36 (by decide) (fun hc => ?_) (fun hc => ?_)
        · rw [a2, eb] at hc
          refine wp_iinc (pc := 78) dX3_take_78 rfl (by decide) rfl ?_
          refine wp_goto (pc := 81) (tgt := 2) dX3_take_81 (by decide) ?_
          first
          | exact skip (by omega) _ ⟨rfl, rfl, rfl, trivial⟩
          | (refine next _ ((ab_fr.u2 (by simp)).tr1 (ab_fr.u2 (by simp))) ?_ _ ⟨rfl, rfl, rfl, trivial⟩
             have hin : (a : Int) ≤ (f t).1.toInt ∧ (f t).1.toInt ≤ b ∧ (f t).2.1.toInt ≤ u.toInt ∧ (I 25 (f t).1.toInt.toNat).toInt < (f t).2.1.toInt := ⟨by omega, by omega, by omega, by omega⟩
             have er : rdS a b u (I 25, I 26) (f t) = (va_up (I 25) (f t).1.toInt.toNat (f t).2.1, va_up (I 26) (f t).1.toInt.toNat (f t).2.2) := if_pos hin
             rw [er, tI_c]
             congr 1
             · funext j
               rw [ab_u2_r _ _ (by decide)]
               simp [ab_u2, va_up]
             · funext j
               by_cases hj : j = (f t).1.toInt.toNat
               · rw [hj, ab_u2_s]; simp [va_up]
               · rw [ab_u2_n _ _ (Or.inr hj), ab_u2_r _ _ (by decide)]; simp only [va_up, if_neg hj])
        · rw [a2, eb] at hc
          refine wp_iload (pc := 39) dX3_take_39 rfl ?_
          first | refine wp_aload_n (pc := 41) dX3_take_41 rfl ?_ | refine wp_aload_nN (pc := 41) dX3_take_41 rfl ?_
          refine wp_getI (pc := 42) dX3_take_42 fl_Reading_34 (by first | assumption | exact Fx.ok (by assumption) (by decide)) rfl ?_
          refine wp_icmp_gt (pc := 45) (tgt := 78) dX3_take_45 (by decide) (fun hc => ?_) (fun hc => ?_)
          · rw [a3] at hc
            refine wp_iinc (pc := 78) dX3_take_78 rfl (by decide) rfl ?_
            refine wp_goto (pc := 81) (tgt := 2) dX3_take_81 (by decide) ?_
            first
            | exact skip (by omega) _ ⟨rfl, rfl, rfl, trivial⟩
            | (refine next _ ((ab_fr.u2 (by simp)).tr1 (ab_fr.u2 (by simp))) ?_ _ ⟨rfl, rfl, rfl, trivial⟩
               have hin : (a : Int) ≤ (f t).1.toInt ∧ (f t).1.toInt ≤ b ∧ (f t).2.1.toInt ≤ u.toInt ∧ (I 25 (f t).1.toInt.toNat).toInt < (f t).2.1.toInt := ⟨by omega, by omega, by omega, by omega⟩
               have er : rdS a b u (I 25, I 26) (f t) = (va_up (I 25) (f t).1.toInt.toNat (f t).2.1, va_up (I 26) (f t).1.toInt.toNat (f t).2.2) := if_pos hin
               rw [er, tI_c]
               congr 1
               · funext j
                 rw [ab_u2_r _ _ (by decide)]
                 simp [ab_u2, va_up]
               · funext j
                 by_cases hj : j = (f t).1.toInt.toNat
                 · rw [hj, ab_u2_s]; simp [va_up]
                 · rw [ab_u2_n _ _ (Or.inr hj), ab_u2_r _ _ (by decide)]; simp only [va_up, if_neg hj])
          · rw [a3] at hc
            refine wp_iload (pc := 48) dX3_take_48 rfl ?_
            first | refine wp_aload_n (pc := 50) dX3_take_50 rfl ?_ | refine wp_aload_nN (pc := 50) dX3_take_50 rfl ?_
            refine wp_getR (pc := 51) dX3_take_51 fl_Reading_9 (by first | assumption | exact Fx.ok (by assumption) (by decide)) rfl (by first | assumption | exact Fx.ref (by assumption) rfl) ?_
            refine wp_iload_n (pc := 54) dX3_take_54 rfl ?_
            refine wp_iaload (pc := 55) dX3_take_55 (by first | assumption | exact Fx.ok (by assumption) (by decide)) (in_I (by omega) (by rw [z5]; omega)) ?_
            refine wp_icmp_le (pc := 56) (tgt := 78) dX3_take_56 (by decide) (fun hc => ?_) (fun hc => ?_)
            · rw [tI_c] at hc
              refine wp_iinc (pc := 78) dX3_take_78 rfl (by decide) rfl ?_
              refine wp_goto (pc := 81) (tgt := 2) dX3_take_81 (by decide) ?_
              first
              | exact skip (by omega) _ ⟨rfl, rfl, rfl, trivial⟩
              | (refine next _ ((ab_fr.u2 (by simp)).tr1 (ab_fr.u2 (by simp))) ?_ _ ⟨rfl, rfl, rfl, trivial⟩
                 have hin : (a : Int) ≤ (f t).1.toInt ∧ (f t).1.toInt ≤ b ∧ (f t).2.1.toInt ≤ u.toInt ∧ (I 25 (f t).1.toInt.toNat).toInt < (f t).2.1.toInt := ⟨by omega, by omega, by omega, by omega⟩
                 have er : rdS a b u (I 25, I 26) (f t) = (va_up (I 25) (f t).1.toInt.toNat (f t).2.1, va_up (I 26) (f t).1.toInt.toNat (f t).2.2) := if_pos hin
                 rw [er, tI_c]
                 congr 1
                 · funext j
                   rw [ab_u2_r _ _ (by decide)]
                   simp [ab_u2, va_up]
                 · funext j
                   by_cases hj : j = (f t).1.toInt.toNat
                   · rw [hj, ab_u2_s]; simp [va_up]
                   · rw [ab_u2_n _ _ (Or.inr hj), ab_u2_r _ _ (by decide)]; simp only [va_up, if_neg hj])
            · rw [tI_c] at hc
              first | refine wp_aload_n (pc := 59) dX3_take_59 rfl ?_ | refine wp_aload_nN (pc := 59) dX3_take_59 rfl ?_
              refine wp_getR (pc := 60) dX3_take_60 fl_Reading_9 (by first | assumption | exact Fx.ok (by assumption) (by decide)) rfl (by first | assumption | exact Fx.ref (by assumption) rfl) ?_
              refine wp_iload_n (pc := 63) dX3_take_63 rfl ?_
              refine wp_iload (pc := 64) dX3_take_64 rfl ?_
              refine wp_iastore (pc := 66) dX3_take_66 (by first | assumption | exact Fx.ok (by assumption) (by decide)) (in_I (by omega) (by rw [z5]; omega)) ?_
              first | refine wp_aload_n (pc := 67) dX3_take_67 rfl ?_ | refine wp_aload_nN (pc := 67) dX3_take_67 rfl ?_
              refine wp_getR (pc := 68) dX3_take_68 fl_Reading_15 (by first | assumption | exact Fx.ok (by assumption) (by decide)) rfl (by first | assumption | exact Fx.ref (by assumption) rfl) ?_
              refine wp_iload_n (pc := 71) dX3_take_71 rfl ?_
              first | refine wp_aload_n (pc := 72) dX3_take_72 rfl ?_ | refine wp_aload_nN (pc := 72) dX3_take_72 rfl ?_
              refine wp_iload_n (pc := 73) dX3_take_73 rfl ?_
              refine cv_Reading_59 (pc := 74) (s_X4_value hS (keep _ (hf.tr1 (ab_fr.u2 (by simp)))) hs v) rfl dX3_take_74 (by first | assumption | exact Fx.ok (by assumption) (by decide)) ⟨by decide, by decide, Nat.zero_le _, Nat.zero_le _⟩ (Nat.le_of_ble_eq_true rfl) (fun v h hp => ?_)
              obtain ⟨rfl, rfl⟩ := hp
              rw [k3]
              refine wp_iastore (pc := 77) dX3_take_77 (by first | assumption | exact Fx.ok (by assumption) (by decide)) (in_I (by omega) (by rw [z6]; omega)) ?_
              refine wp_iinc (pc := 78) dX3_take_78 rfl (by decide) rfl ?_
              refine wp_goto (pc := 81) (tgt := 2) dX3_take_81 (by decide) ?_
              first
              | exact skip (by omega) _ ⟨rfl, rfl, rfl, trivial⟩
              | (refine next _ ((ab_fr.u2 (by simp)).tr1 (ab_fr.u2 (by simp))) ?_ _ ⟨rfl, rfl, rfl, trivial⟩
                 have hin : (a : Int) ≤ (f t).1.toInt ∧ (f t).1.toInt ≤ b ∧ (f t).2.1.toInt ≤ u.toInt ∧ (I 25 (f t).1.toInt.toNat).toInt < (f t).2.1.toInt := ⟨by omega, by omega, by omega, by omega⟩
                 have er : rdS a b u (I 25, I 26) (f t) = (va_up (I 25) (f t).1.toInt.toNat (f t).2.1, va_up (I 26) (f t).1.toInt.toNat (f t).2.2) := if_pos hin
                 rw [er, tI_c]
                 congr 1
                 · funext j
                   rw [ab_u2_r _ _ (by decide)]
                   simp [ab_u2, va_up]
                 · funext j
                   by_cases hj : j = (f t).1.toInt.toNat
                   · rw [hj, ab_u2_s]; simp [va_up]
                   · rw [ab_u2_n _ _ (Or.inr hj), ab_u2_r _ _ (by decide)]; simp only [va_up, if_neg hj])
theorem s_X3_take (hX : Fx n S R) (hS : rw_S n S R r x y z cap) (hd : ∀ q ∈ [r, x, y, z], q ∉ [24, 25, 26]) (hs : s ≤ cap) (hI : rw_I I r x y z s f) (hA : rd_A I a b u) : wp 1 21 0 0 MX3_take 0 [(0, .ref 24), (1, .ref r)] [] (n, S, R, I) (fun v h => v = none ∧ ∃ I', h = (n, S, R, I') ∧ ab_fr I I' [25, 26] ∧ (I' 25, I' 26) = (rl s f).foldl (rdS a b u) (I 25, I 26)) := by
  refine wp_iconst (pc := 0) (v := 0) dX3_take_0 (by decide) ?_
  refine wp_istore_n (pc := 1) dX3_take_1 (by decide) rfl ?_
  refine wp_loc (L' := [(0, .ref 24), (1, .ref r), (2, .int 0)]) ⟨rfl, rfl, rfl, trivial⟩ ?_
  exact s_X3_take_loop hX hS hd hs hI hA _ (fun I' h1 h2 => ⟨rfl, I', rfl, h1, h2⟩) s 0 _ I (by omega) rfl ab_fr.rf rfl
theorem s_X3_valueOf (hX : Fx n S R) (hA : rd_A I a b u) (k : Nat) (h1 : a ≤ k) (h2 : k ≤ b) : wp 0 0 0 0 MX3_valueOf 0 [(0, .ref 24), (1, .int (nI k))] [] (n, S, R, I) (fun v h => h = (n, S, R, I) ∧ v = some (.int (I 26 k))) := by
  have z6 : (S 26).2 = 1000 := hX.len (by decide)
  obtain ⟨a1, a2, a3, a4, a5⟩ := hA
  have ea : (nI a).toInt = a := tI_n (by omega)
  have eb : (nI b).toInt = b := tI_n (by omega)
  have ek : (nI k).toInt = k := tI_n (by omega)
  refine wp_iload_n (pc := 0) dX3_valueOf_0 rfl ?_
  first | refine wp_aload_n (pc := 1) dX3_valueOf_1 rfl ?_ | refine wp_aload_nN (pc := 1) dX3_valueOf_1 rfl ?_
  refine wp_getI (pc := 2) dX3_valueOf_2 fl_Reading_24 (by first | assumption | exact Fx.ok (by assumption) (by decide)) rfl ?_
  refine wp_icmp_lt (pc := 5) (tgt := 25) dX3_valueOf_5 (by decide) (fun hc => ?_) (fun hc => ?_)
  · rw [a1] at hc; omega
  · skip
    refine wp_iload_n (pc := 8) dX3_valueOf_8 rfl ?_
    first | refine wp_aload_n (pc := 9) dX3_valueOf_9 rfl ?_ | refine wp_aload_nN (pc := 9) dX3_valueOf_9 rfl ?_
    refine wp_getI (pc := 10) dX3_valueOf_10 fl_Reading_31 (by first | assumption | exact Fx.ok (by assumption) (by decide)) rfl ?_
    refine wp_icmp_gt (pc := 13) (tgt := 25) dX3_valueOf_13 (by decide) (fun hc => ?_) (fun hc => ?_)
    · rw [a2] at hc; omega
    · skip
      first | refine wp_aload_n (pc := 16) dX3_valueOf_16 rfl ?_ | refine wp_aload_nN (pc := 16) dX3_valueOf_16 rfl ?_
      refine wp_getR (pc := 17) dX3_valueOf_17 fl_Reading_15 (by first | assumption | exact Fx.ok (by assumption) (by decide)) rfl (by first | assumption | exact Fx.ref (by assumption) rfl) ?_
      refine wp_iload_n (pc := 20) dX3_valueOf_20 rfl ?_
      refine wp_iaload (pc := 21) dX3_valueOf_21 (by first | assumption | exact Fx.ok (by assumption) (by decide)) (in_I (by omega) (by rw [z6]; omega)) ?_
      refine wp_goto (pc := 22) (tgt := 27) dX3_valueOf_22 (by decide) ?_
      refine wp_ret (pc := 27) dX3_valueOf_27 rfl (by first | trivial | exact Or.inl rfl | exact Or.inr rfl | assumption) ?_
      exact ⟨rfl, by rw [nI_c (by omega)]⟩
theorem s_X3_leastKeyWithValue_loop (hX : Fx n S R) (hA : rd_A I a b u) (post : ab_Po) (h1 : ∀ k, a ≤ k → k ≤ b → I 26 k ≠ cNONE → (∀ j, a ≤ j → j < k → I 26 j = cNONE) → post (some (.int (nI k))) (n, S, R, I)) (h2 : (∀ j, a ≤ j → j ≤ b → I 26 j = cNONE) → post (some (.int cNONE)) (n, S, R, I)) :
    ∀ (d t : Nat) (v : Int32), b + 1 ≤ t + d → a ≤ t → t ≤ 1000 → v = nI t → (∀ j, a ≤ j → j < t → I 26 j = cNONE) → wp 0 0 0 0 MX3_leastKeyWithValue 5 [(0, .ref 24), (1, .int v)] [] (n, S, R, I) post := by
  have z6 : (S 26).2 = 1000 := hX.len (by decide)
  obtain ⟨a1, a2, a3, a4, a5⟩ := hA
  have eb : (nI b).toInt = b := tI_n (by omega)
  intro d
  induction d with
  | zero =>
    intro t v ht hat ht2 hv hno
    have ev : v.toInt = t := by rw [hv, tI_n (by omega)]
    refine wp_iload_n (pc := 5) dX3_leastKeyWithValue_5 rfl ?_
    first | refine wp_aload_n (pc := 6) dX3_leastKeyWithValue_6 rfl ?_ | refine wp_aload_nN (pc := 6) dX3_leastKeyWithValue_6 rfl ?_
    refine wp_getI (pc := 7) dX3_leastKeyWithValue_7 fl_Reading_31 (by first | assumption | exact Fx.ok (by assumption) (by decide)) rfl ?_
    refine wp_icmp_gt (pc := 10) (tgt := 32) dX3_leastKeyWithValue_10 (by decide) (fun hc => ?_) (fun hc => ?_)
    · skip
      refine wp_ldc (pc := 32) (v := -1000009) dX3_leastKeyWithValue_32 cn_Reading_37 ?_
      refine wp_ret (pc := 34) dX3_leastKeyWithValue_34 rfl (by first | trivial | exact Or.inl rfl | exact Or.inr rfl | assumption) ?_
      exact h2 (fun j ha hb => hno j ha (by omega))
    · rw [a2] at hc; omega
  | succ d ih =>
    intro t v ht hat ht2 hv hno
    have ev : v.toInt = t := by rw [hv, tI_n (by omega)]
    have cv : v.toNatClampNeg = t := by rw [hv]; exact nI_c (by omega)
    refine wp_iload_n (pc := 5) dX3_leastKeyWithValue_5 rfl ?_
    first | refine wp_aload_n (pc := 6) dX3_leastKeyWithValue_6 rfl ?_ | refine wp_aload_nN (pc := 6) dX3_leastKeyWithValue_6 rfl ?_
    refine wp_getI (pc := 7) dX3_leastKeyWithValue_7 fl_Reading_31 (by first | assumption | exact Fx.ok (by assumption) (by decide)) rfl ?_
    refine wp_icmp_gt (pc := 10) (tgt := 32) dX3_leastKeyWithValue_10 (by decide) (fun hc => ?_) (fun hc => ?_)
    · rw [a2, eb] at hc
      refine wp_ldc (pc := 32) (v := -1000009) dX3_leastKeyWithValue_32 cn_Reading_37 ?_
      refine wp_ret (pc := 34) dX3_leastKeyWithValue_34 rfl (by first | trivial | exact Or.inl rfl | exact Or.inr rfl | assumption) ?_
      exact h2 (fun j ha hb => hno j ha (by omega))
    · rw [a2, eb] at hc
      first | refine wp_aload_n (pc := 13) dX3_leastKeyWithValue_13 rfl ?_ | refine wp_aload_nN (pc := 13) dX3_leastKeyWithValue_13 rfl ?_
      refine wp_getR (pc := 14) dX3_leastKeyWithValue_14 fl_Reading_15 (by first | assumption | exact Fx.ok (by assumption) (by decide)) rfl (by first | assumption | exact Fx.ref (by assumption) rfl) ?_
      refine wp_iload_n (pc := 17) dX3_leastKeyWithValue_17 rfl ?_
      refine wp_iaload (pc := 18) dX3_leastKeyWithValue_18 (by first | assumption | exact Fx.ok (by assumption) (by decide)) (in_I (by omega) (by rw [z6]; omega)) ?_
      refine wp_ldc (pc := 19) (v := -1000009) dX3_leastKeyWithValue_19 cn_Reading_37 ?_
      rw [cv]
      refine wp_icmp_eq (pc := 21) (tgt := 26) dX3_leastKeyWithValue_21 (by decide) (fun hc => ?_) (fun hc => ?_)
      · have hn : I 26 t = cNONE := tI_eq hc
        refine wp_iinc (pc := 26) dX3_leastKeyWithValue_26 rfl (by decide) rfl ?_
        refine wp_goto (pc := 29) (tgt := 5) dX3_leastKeyWithValue_29 (by decide) ?_
        refine wp_loc (L' := [(0, .ref 24), (1, .int (v + Int32.ofInt 1))]) ⟨rfl, rfl, trivial⟩ ?_
        refine ih (t + 1) _ (by omega) (by omega) (by omega) (by rw [hv]; exact nI_i1 t) (fun j ha hb => ?_)
        by_cases hj : j = t
        · rw [hj]; exact hn
        · exact hno j ha (by omega)
      · skip
        refine wp_iload_n (pc := 24) dX3_leastKeyWithValue_24 rfl ?_
        refine wp_ret (pc := 25) dX3_leastKeyWithValue_25 rfl (by first | trivial | exact Or.inl rfl | exact Or.inr rfl | assumption) ?_
        rw [hv]; exact h1 t hat (by omega) (fun q => hc (by rw [q])) hno
theorem s_X3_leastKeyWithValue (hX : Fx n S R) (hA : rd_A I a b u) : wp 0 0 0 0 MX3_leastKeyWithValue 0 [(0, .ref 24)] [] (n, S, R, I) (fun v h => h = (n, S, R, I) ∧ ((∃ k, a ≤ k ∧ k ≤ b ∧ I 26 k ≠ cNONE ∧ (∀ j, a ≤ j → j < k → I 26 j = cNONE) ∧ v = some (.int (nI k))) ∨ ((∀ j, a ≤ j → j ≤ b → I 26 j = cNONE) ∧ v = some (.int cNONE)))) := by
  first | refine wp_aload_n (pc := 0) dX3_leastKeyWithValue_0 rfl ?_ | refine wp_aload_nN (pc := 0) dX3_leastKeyWithValue_0 rfl ?_
  refine wp_getI (pc := 1) dX3_leastKeyWithValue_1 fl_Reading_24 (by first | assumption | exact Fx.ok (by assumption) (by decide)) rfl ?_
  rw [hA.1]
  refine wp_istore_n (pc := 4) dX3_leastKeyWithValue_4 (by decide) rfl ?_
  refine wp_loc (L' := [(0, .ref 24), (1, .int (nI a))]) ⟨rfl, rfl, trivial⟩ ?_
  exact s_X3_leastKeyWithValue_loop hX hA _ (fun k g1 g2 g3 g4 => ⟨rfl, Or.inl ⟨k, g1, g2, g3, g4, rfl⟩⟩) (fun g => ⟨rfl, Or.inr ⟨g, rfl⟩⟩) (b + 1) a _ (by omega) (Nat.le_refl a) (by have := hA.2.2.2.1; omega) rfl (fun j h1 h2 => absurd h1 (by omega))
theorem s_X3_concerns (hX : Fx n S R) (hA : rd_A I a b u) {q : Nat} {F : FA} (hS : sf_S n S R q) (hI : sf_I I q F) : wp 2 41 0 0 MX3_concerns 0 [(0, .ref 24), (1, .ref q)] [] (n, S, R, I) (fun v h => h = (n, S, R, I) ∧ v = some (.int (if (lk F.es).toInt ≤ b ∧ (a : Int) ≤ (gk F.es).toInt then 1 else 0))) := by
  obtain ⟨a1, a2, a3, a4, a5⟩ := hA
  have oq := hS.2.1
  have ea : (nI a).toInt = a := tI_n (by omega)
  have eb : (nI b).toInt = b := tI_n (by omega)
  first | refine wp_aload_n (pc := 0) dX3_concerns_0 rfl ?_ | refine wp_aload_nN (pc := 0) dX3_concerns_0 rfl ?_
  refine cv_Reading_38 (pc := 1) (s_X5_leastKey hS hI) rfl dX3_concerns_1 (by first | assumption | exact Fx.ok (by assumption) (by decide)) ⟨by decide, by decide, Nat.zero_le _, Nat.zero_le _⟩ (Nat.le_of_ble_eq_true rfl) (fun v h hp => ?_)
  obtain ⟨rfl, rfl⟩ := hp
  first | refine wp_aload_n (pc := 4) dX3_concerns_4 rfl ?_ | refine wp_aload_nN (pc := 4) dX3_concerns_4 rfl ?_
  refine wp_getI (pc := 5) dX3_concerns_5 fl_Reading_31 (by first | assumption | exact Fx.ok (by assumption) (by decide)) rfl ?_
  refine wp_icmp_gt (pc := 8) (tgt := 26) dX3_concerns_8 (by decide) (fun hc => ?_) (fun hc => ?_)
  · rw [a2, eb] at hc
    refine wp_iconst (pc := 26) (v := 0) dX3_concerns_26 (by decide) ?_
    refine wp_ret (pc := 27) dX3_concerns_27 rfl (by first | trivial | exact Or.inl rfl | exact Or.inr rfl | assumption) ?_
    first | exact ⟨rfl, by rw [if_pos (by omega)]⟩ | exact ⟨rfl, by rw [if_neg (by omega)]⟩
  · rw [a2, eb] at hc
    first | refine wp_aload_n (pc := 11) dX3_concerns_11 rfl ?_ | refine wp_aload_nN (pc := 11) dX3_concerns_11 rfl ?_
    refine cv_Reading_44 (pc := 12) (s_X5_greatestKey hS hI) rfl dX3_concerns_12 (by first | assumption | exact Fx.ok (by assumption) (by decide)) ⟨by decide, by decide, Nat.zero_le _, Nat.zero_le _⟩ (Nat.le_of_ble_eq_true rfl) (fun v h hp => ?_)
    obtain ⟨rfl, rfl⟩ := hp
    first | refine wp_aload_n (pc := 15) dX3_concerns_15 rfl ?_ | refine wp_aload_nN (pc := 15) dX3_concerns_15 rfl ?_
    refine wp_getI (pc := 16) dX3_concerns_16 fl_Reading_24 (by first | assumption | exact Fx.ok (by assumption) (by decide)) rfl ?_
    refine wp_icmp_lt (pc := 19) (tgt := 26) dX3_concerns_19 (by decide) (fun hc => ?_) (fun hc => ?_)
    · rw [a1, ea] at hc
      refine wp_iconst (pc := 26) (v := 0) dX3_concerns_26 (by decide) ?_
      refine wp_ret (pc := 27) dX3_concerns_27 rfl (by first | trivial | exact Or.inl rfl | exact Or.inr rfl | assumption) ?_
      first | exact ⟨rfl, by rw [if_pos (by omega)]⟩ | exact ⟨rfl, by rw [if_neg (by omega)]⟩
    · rw [a1, ea] at hc
      refine wp_iconst (pc := 22) (v := 1) dX3_concerns_22 (by decide) ?_
      refine wp_goto (pc := 23) (tgt := 27) dX3_concerns_23 (by decide) ?_
      refine wp_ret (pc := 27) dX3_concerns_27 rfl (by first | trivial | exact Or.inl rfl | exact Or.inr rfl | assumption) ?_
      first | exact ⟨rfl, by rw [if_pos (by omega)]⟩ | exact ⟨rfl, by rw [if_neg (by omega)]⟩
variable {X arr : Nat} {l : List Nat} {fs : List FA}
theorem s_X1_letRead_loop (hX : Fx n S R) (hF : fr_S n S R r X) (hx : X < 66 ∧ X ≠ 24 ∧ X ≠ 25 ∧ X ≠ 26) {I0 : ab_II} (hL : al_L n S R I0 X arr cap l) (hFl : fl_I n S R I0 l fs) (hA0 : rd_A I0 a b u) (post : ab_Po) (hpost : ∀ I', ab_fr I0 I' [25, 26] → (I' 25, I' 26) = fs.foldl (rdF a b u) (I0 25, I0 26) → post none (n, S, R, I')) :
    ∀ (d t : Nat) (v : Int32) (I : ab_II), l.length = t + d → v = nI t → ab_fr I0 I [25, 26] → (I 25, I 26) = (fs.take t).foldl (rdF a b u) (I0 25, I0 26) → wp 4 85 0 0 MX1_letRead 2 [(0, .ref r), (1, .ref 24), (2, .int v)] [] (n, S, R, I) post := by
  have o := hF.1
  have q0 := hF.2
  have o0 := hL.1
  have hlen := hL.2.2.2.1
  have hcap := hL.2.2.2.2.1
  have o24 : ab_ok n S 24 4 := hX.ok (by decide)
  have e0 : (nI l.length).toInt = l.length := tI_n (by omega)
  intro d
  induction d with
  | zero =>
    intro t v I ht hv hf hfd
    have ev : v.toInt = t := by rw [hv, tI_n (by omega)]
    have hL' : al_L n S R I X arr cap l := hL.keepI (hf X (by simp; omega))
    refine wp_iload_n (pc := 2) dX1_letRead_2 rfl ?_
    first | refine wp_aload_n (pc := 3) dX1_letRead_3 rfl ?_ | refine wp_aload_nN (pc := 3) dX1_letRead_3 rfl ?_
    refine wp_getR (pc := 4) dX1_letRead_4 fl_FileRow_12 (by assumption) rfl (by assumption) ?_
    refine cv_FileRow_18 (pc := 7) (s_size hL') rfl dX1_letRead_7 (by assumption) ⟨by decide, by decide, Nat.zero_le _, Nat.zero_le _⟩ (Nat.le_of_ble_eq_true rfl) (fun v h hp => ?_)
    obtain ⟨rfl, rfl⟩ := hp
    refine wp_icmp_ge (pc := 10) (tgt := 45) dX1_letRead_10 (by decide) (fun hc => ?_) (fun hc => ?_)
    · skip
      refine wp_retv (pc := 45) dX1_letRead_45 rfl ?_
      exact hpost I hf (by rw [hfd, List.take_of_length_le (by rw [← hFl.1]; omega)])
    · omega
  | succ d ih =>
    intro t v I ht hv hf hfd
    have ev : v.toInt = t := by rw [hv, tI_n (by omega)]
    have hL' : al_L n S R I X arr cap l := hL.keepI (hf X (by simp; omega))
    have hFl' : fl_I n S R I l fs := hFl.keep (fun j hj => hf j (by simp; omega))
    have hA := hA0.keep (hf 24 (by decide))
    obtain ⟨q, F, hq, hFF, hS, hI⟩ := fl_at hFl' (t := t) (by omega)
    have oq := hS.2.1
    have rq := hS.2.2.1
    have h66 := hS.1
    obtain ⟨-, -, -, hle, f, hff, hrlf⟩ := id hI
    have next : ∀ (I' : ab_II), ab_fr I I' [25, 26] → (I' 25, I' 26) = rdF a b u (I 25, I 26) F → ∀ L', ab_sub L' [(0, .ref r), (1, .ref 24), (2, .int (v + Int32.ofInt 1))] → wp 4 85 0 0 MX1_letRead 2 L' [] (n, S, R, I') post := by
      intro I' hf' he L' hL'
      refine wp_loc hL' ?_
      refine ih (t + 1) _ I' (by omega) (by rw [hv]; exact nI_i1 t) (hf.tr1 hf') ?_
      rw [fd_succ hFF, ← hfd, he]
    refine wp_iload_n (pc := 2) dX1_letRead_2 rfl ?_
    first | refine wp_aload_n (pc := 3) dX1_letRead_3 rfl ?_ | refine wp_aload_nN (pc := 3) dX1_letRead_3 rfl ?_
    refine wp_getR (pc := 4) dX1_letRead_4 fl_FileRow_12 (by assumption) rfl (by assumption) ?_
    refine cv_FileRow_18 (pc := 7) (s_size hL') rfl dX1_letRead_7 (by assumption) ⟨by decide, by decide, Nat.zero_le _, Nat.zero_le _⟩ (Nat.le_of_ble_eq_true rfl) (fun v h hp => ?_)
    obtain ⟨rfl, rfl⟩ := hp
    refine wp_icmp_ge (pc := 10) (tgt := 45) dX1_letRead_10 (by decide) (fun hc => ?_) (fun hc => ?_)
    · omega
    · skip
      first | refine wp_aload_n (pc := 13) dX1_letRead_13 rfl ?_ | refine wp_aload_nN (pc := 13) dX1_letRead_13 rfl ?_
      refine wp_iload_n (pc := 14) dX1_letRead_14 rfl ?_
      refine cv_FileRow_42 (pc := 15) (s_X1_at hF hL' v) rfl dX1_letRead_15 (by assumption) ⟨by decide, by decide, Nat.zero_le _, Nat.zero_le _⟩ (Nat.le_of_ble_eq_true rfl) (fun v h hp => ?_)
      obtain ⟨rfl, rfl⟩ := hp
      rw [atV_at ev hq]
      first | refine wp_astore_n (pc := 18) dX1_letRead_18 (by decide) rfl ?_ | refine wp_astore_nN (pc := 18) dX1_letRead_18 (by decide) rfl ?_
      first | refine wp_aload_n (pc := 19) dX1_letRead_19 rfl ?_ | refine wp_aload_nN (pc := 19) dX1_letRead_19 rfl ?_
      refine wp_ifnull_r (pc := 20) dX1_letRead_20 ?_
      first | refine wp_aload_n (pc := 23) dX1_letRead_23 rfl ?_ | refine wp_aload_nN (pc := 23) dX1_letRead_23 rfl ?_
      first | refine wp_aload_n (pc := 24) dX1_letRead_24 rfl ?_ | refine wp_aload_nN (pc := 24) dX1_letRead_24 rfl ?_
      refine cv_FileRow_71 (pc := 25) (s_X3_concerns hX hA hS hI) rfl dX1_letRead_25 (by assumption) ⟨by decide, by decide, Nat.zero_le _, Nat.zero_le _⟩ (Nat.le_of_ble_eq_true rfl) (fun v h hp => ?_)
      obtain ⟨rfl, rfl⟩ := hp
      refine wp_if_eq (pc := 28) (tgt := 39) dX1_letRead_28 (by decide) (fun hc => ?_) (fun hc => ?_)
      · have hn : ¬ ((lk F.es).toInt ≤ b ∧ (a : Int) ≤ (gk F.es).toInt) := fun q => by rw [if_pos q] at hc; exact absurd hc (by decide)
        refine wp_iinc (pc := 39) dX1_letRead_39 rfl (by decide) rfl ?_
        refine wp_goto (pc := 42) (tgt := 2) dX1_letRead_42 (by decide) ?_
        first
        | exact next I' g1 (by rw [g2, rdF, if_pos hn]) _ ⟨rfl, rfl, rfl, trivial⟩
        | exact next I ab_fr.rf (by rw [rdF, if_neg hn]) _ ⟨rfl, rfl, rfl, trivial⟩
      · have hn : (lk F.es).toInt ≤ b ∧ (a : Int) ≤ (gk F.es).toInt := Decidable.byContradiction fun q => hc (by rw [if_neg q]; rfl)
        first | refine wp_aload_n (pc := 31) dX1_letRead_31 rfl ?_ | refine wp_aload_nN (pc := 31) dX1_letRead_31 rfl ?_
        first | refine wp_aload_n (pc := 32) dX1_letRead_32 rfl ?_ | refine wp_aload_nN (pc := 32) dX1_letRead_32 rfl ?_
        refine wp_getR (pc := 33) dX1_letRead_33 fl_FileRow_61 (by assumption) rfl (by assumption) ?_
        refine cv_FileRow_77 (pc := 36) (s_X3_take hX hS.2.2.2 (by simp; omega) hle hff hA) rfl dX1_letRead_36 (by assumption) ⟨by decide, by decide, Nat.zero_le _, Nat.zero_le _⟩ (Nat.le_of_ble_eq_true rfl) (fun v h hp => ?_)
        obtain ⟨rfl, I', rfl, g1, g2⟩ := hp
        rw [hrlf] at g2
        refine wp_iinc (pc := 39) dX1_letRead_39 rfl (by decide) rfl ?_
        refine wp_goto (pc := 42) (tgt := 2) dX1_letRead_42 (by decide) ?_
        first
        | exact next I' g1 (by rw [g2, rdF, if_pos hn]) _ ⟨rfl, rfl, rfl, trivial⟩
        | exact next I ab_fr.rf (by rw [rdF, if_neg hn]) _ ⟨rfl, rfl, rfl, trivial⟩
theorem s_X1_letRead (hX : Fx n S R) (hF : fr_S n S R r X) (hx : X < 66 ∧ X ≠ 24 ∧ X ≠ 25 ∧ X ≠ 26) (hL : al_L n S R I X arr cap l) (hFl : fl_I n S R I l fs) (hA : rd_A I a b u) : wp 4 85 0 0 MX1_letRead 0 [(0, .ref r), (1, .ref 24)] [] (n, S, R, I) (fun v h => v = none ∧ ∃ I', h = (n, S, R, I') ∧ ab_fr I I' [25, 26] ∧ (I' 25, I' 26) = fs.foldl (rdF a b u) (I 25, I 26)) := by
  refine wp_iconst (pc := 0) (v := 0) dX1_letRead_0 (by decide) ?_
  refine wp_istore_n (pc := 1) dX1_letRead_1 (by decide) rfl ?_
  refine wp_loc (L' := [(0, .ref r), (1, .ref 24), (2, .int 0)]) ⟨rfl, rfl, rfl, trivial⟩ ?_
  exact s_X1_letRead_loop hX hF hx hL hFl hA _ (fun I' h1 h2 => ⟨rfl, I', rfl, h1, h2⟩) l.length 0 _ I (by omega) rfl ab_fr.rf rfl
end READ
