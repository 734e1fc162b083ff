/-! THE FIELD -/
theorem sum_lt {cl : List Nat} (hb : ∀ b ∈ cl, b < 256) : cl.sum ≤ 255 * cl.length := by
  induction cl with
  | nil => simp
  | cons a t ih =>
    have := ih (fun b h => hb b (List.mem_cons_of_mem _ h))
    have := hb a List.mem_cons_self
    simp only [List.sum_cons, List.length_cons]
    omega
section FLD
variable {n : Nat} {S : ab_SH} {R : ab_RR} {I : ab_II} {r a b c cap : Nat} {es : List En}
theorem s_X0_encode_loop (hX : Fx n S R) (hS : rw_S n S R r a b c cap) (hd : ∀ q ∈ [r, a, b, c], q ∉ [20, 23]) (hv : vk es) (hcap : es.length ≤ cap) {I0 : ab_II} (f : Nat → En) (hI0 : rw_I I0 r a b c es.length f) (hrl : rl es.length f = es) (post : ab_Po)
    (hpost : ∀ I', ab_fr I0 I' [20, 23] → cd I' (enc es) → post none (n, S, R, I')) :
    ∀ (d t : Nat) (y p4 : Int32) (p2 : Int32) (I : ab_II) (L : List (Nat × Value)), es.length = t + d → y = nI t → p2.toInt = lastK 0 (es.take t) → ab_fr I0 I [20, 23] → cd I (es.length :: bd 0 (es.take t)) → wp 2 44 0 0 MX0_encode 17 [(0, .ref 20), (1, .ref r), (2, .int p2), (3, .int y)] [] (n, S, R, I) post := by
  have o20 : ab_ok n S 20 1 := hX.ok (by decide)
  have or := hS.1
  have hc := hS.2.2.2.2.2.2.2.2.2.2.2.2.2
  have keep : ∀ I : ab_II, ab_fr I0 I [20, 23] → rw_I I r a b c es.length f := fun I hf => hI0.keep hf (hd _ (by simp)) (hd _ (by simp)) (hd _ (by simp)) (hd _ (by simp))
  have hl24 := hv.2.2
  intro d
  induction d with
  | zero =>
    intro t y p4 p2 I L ht hy hp2 hf hcd
    have hI := keep I hf
    have ey : y.toInt = t := by rw [hy, tI_n (by omega)]
    have e0 : (I r 3).toInt = es.length := by rw [hI.1, tI_n (by omega)]
    rw [List.take_of_length_le (by omega)] at hcd
    have hbl := bd_len hv es.length (Nat.le_refl _)
    rw [List.take_length] at hbl
    have hby : ∀ b ∈ es.length :: bd 0 es, b < 256 := fun b hb => by
      rcases List.mem_cons.mp hb with rfl | hb
      · omega
      · exact bd_byte es 0 b hb
    have hsl := sum_lt hby
    have hll : (es.length :: bd 0 es).length ≤ 193 := by simp only [List.length_cons]; omega
    have e251 : nI (es.length :: bd 0 es).sum - nI (es.length :: bd 0 es).sum / 251 * 251 = nI ((es.length :: bd 0 es).sum % 251) := by
      rw [show (251 : Int32) = nI 251 by decide +kernel]
      exact pk_rem (by omega) (by omega) (by omega)
    refine wp_iload_n (pc := 17) dX0_encode_17 rfl ?_
    first | refine wp_aload_n (pc := 18) dX0_encode_18 rfl ?_ | refine wp_aload_nN (pc := 18) dX0_encode_18 rfl ?_
    refine wp_getI (pc := 19) dX0_encode_19 fl_Field_54 (by assumption) rfl ?_
    refine wp_icmp_ge (pc := 22) (tgt := 94) dX0_encode_22 (by decide) (fun hc => ?_) (fun hc => ?_)
    · skip
      first | refine wp_aload_n (pc := 94) dX0_encode_94 rfl ?_ | refine wp_aload_nN (pc := 94) dX0_encode_94 rfl ?_
      first | refine wp_aload_n (pc := 95) dX0_encode_95 rfl ?_ | refine wp_aload_nN (pc := 95) dX0_encode_95 rfl ?_
      refine cv_Field_81 (pc := 96) (s_X0_sumOfCode hX hcd (by omega) hby) rfl dX0_encode_96 (by assumption) ⟨by decide, by decide, Nat.zero_le _, Nat.zero_le _⟩ (Nat.le_of_ble_eq_true rfl) (fun v h hp => ?_)
      obtain ⟨rfl, rfl⟩ := hp
      refine wp_sipush (pc := 99) (v := 251) dX0_encode_99 (by decide) ?_
      refine wp_irem (pc := 102) dX0_encode_102 (by decide) ?_
      rw [e251]
      refine cv_Field_59 (pc := 103) (s_X0_emit hX hcd (by omega) _) rfl dX0_encode_103 (by assumption) ⟨by decide, by decide, Nat.zero_le _, Nat.zero_le _⟩ (Nat.le_of_ble_eq_true rfl) (fun v h hp => ?_)
      obtain ⟨rfl, I', rfl, hf', hc'⟩ := hp
      refine wp_retv (pc := 106) dX0_encode_106 rfl ?_
      exact hpost I' (hf.tr1 hf') hc'
    · omega
  | succ d ih =>
    intro t y p4 p2 I L ht hy hp2 hf hcd
    have hI := keep I hf
    have ey : y.toInt = t := by rw [hy, tI_n (by omega)]
    have e0 : (I r 3).toInt = es.length := by rw [hI.1, tI_n (by omega)]
    have eg : es[t]? = some (f t) := by
      have := rl_get (f := f) (show t < es.length by omega)
      rw [hrl] at this
      exact this
    have hve := hv.1 _ (List.mem_of_getElem? eg)
    obtain ⟨w1, w2, w3, w4, w5⟩ := id hve
    obtain ⟨lk0, lk1⟩ := lastK_take hv eg
    have k1 : rk_1 es.length f y = (f t).1 := by rw [rk_1, if_pos (by omega), ey, Int.toNat_natCast]
    have k2 : rk_2 es.length f y = (f t).2.1 := by rw [rk_2, if_pos (by omega), ey, Int.toNat_natCast]
    have k3 : rk_3 es.length f y = (f t).2.2 := by rw [rk_3, if_pos (by omega), ey, Int.toNat_natCast]
    have ed : (f t).1 - p2 = nI ((f t).1.toInt - lastK 0 (es.take t)).toNat := tI_N (by rw [tI_sub (by omega) (by omega)]; omega)
    have em : (2 : Int32) * (f t).2.1 = nI (2 * (f t).2.1.toInt).toNat := tI_N (by rw [tI_mul (by rw [tl_2]; omega) (by rw [tl_2]; omega), tl_2]; omega)
    have em1 : nI (2 * (f t).2.1.toInt).toNat + 1 = nI (2 * (f t).2.1.toInt + 1).toNat := by
      rw [show (2 * (f t).2.1.toInt + 1).toNat = (2 * (f t).2.1.toInt).toNat + 1 by omega]
      exact nI_1 _
    have hbl := bd_len hv t (by omega)
    have hel := encE_len hve lk0 lk1
    have hlast : (f t).1.toInt = lastK 0 (es.take (t + 1)) := by
      rw [td_succ eg]
      unfold lastK
      simp
    have hbd : bd 0 (es.take (t + 1)) = bd 0 (es.take t) ++ encE (lastK 0 (es.take t)) (f t) := by rw [td_succ eg, bd_app]
    have hfd : fd (f t).2.2.toInt < 268435456 ∨ (f t).2.2 = cNONE := by
      rcases w5 with h | h
      · exact Or.inr h
      · left
        unfold fd
        split <;> omega
    unfold encE at hel hbd
    rw [List.length_append] at hel
    have next : ∀ (I' : ab_II), ab_fr I I' [20, 23] → cd I' (es.length :: bd 0 (es.take (t + 1))) → ∀ (L' : List (Nat × Value)), ab_sub L' [(0, .ref 20), (1, .ref r), (2, .int (f t).1), (3, .int (y + Int32.ofInt 1))] → wp 2 44 0 0 MX0_encode 17 L' [] (n, S, R, I') post := by
      intro I' hf' hc' L' hL'
      refine wp_loc hL' ?_
      exact ih (t + 1) _ 0 _ I' [] (by omega) (by rw [hy]; exact nI_i1 t) hlast (hf.tr1 hf') hc'
    refine wp_iload_n (pc := 17) dX0_encode_17 rfl ?_
    first | refine wp_aload_n (pc := 18) dX0_encode_18 rfl ?_ | refine wp_aload_nN (pc := 18) dX0_encode_18 rfl ?_
    refine wp_getI (pc := 19) dX0_encode_19 fl_Field_54 (by assumption) rfl ?_
    refine wp_icmp_ge (pc := 22) (tgt := 94) dX0_encode_22 (by decide) (fun hc => ?_) (fun hc => ?_)
    · omega
    · skip
      first | refine wp_aload_n (pc := 25) dX0_encode_25 rfl ?_ | refine wp_aload_nN (pc := 25) dX0_encode_25 rfl ?_
      first | refine wp_aload_n (pc := 26) dX0_encode_26 rfl ?_ | refine wp_aload_nN (pc := 26) dX0_encode_26 rfl ?_
      refine wp_iload_n (pc := 27) dX0_encode_27 rfl ?_
      refine cv_Field_63 (pc := 28) (s_X4_key hS hI (by omega) y) rfl dX0_encode_28 (by assumption) ⟨by decide, by decide, Nat.zero_le _, Nat.zero_le _⟩ (Nat.le_of_ble_eq_true rfl) (fun v h hp => ?_)
      obtain ⟨rfl, rfl⟩ := hp
      rw [k1]
      refine wp_iload_n (pc := 31) dX0_encode_31 rfl ?_
      refine wp_isub (pc := 32) dX0_encode_32 ?_
      rw [ed]
      refine cv_Field_66 (pc := 33) (s_X0_emitShort hX hcd _ (by omega) (by simp only [List.length_cons]; omega)) rfl dX0_encode_33 (by assumption) ⟨by decide, by decide, Nat.zero_le _, Nat.zero_le _⟩ (Nat.le_of_ble_eq_true rfl) (fun v h hp => ?_)
      obtain ⟨rfl, I1, rfl, hf1, hc1⟩ := hp
      have hI1 := keep I1 (hf.tr1 hf1)
      first | refine wp_aload_n (pc := 36) dX0_encode_36 rfl ?_ | refine wp_aload_nN (pc := 36) dX0_encode_36 rfl ?_
      refine wp_iload_n (pc := 37) dX0_encode_37 rfl ?_
      refine cv_Field_63 (pc := 38) (s_X4_key hS hI1 (by omega) y) rfl dX0_encode_38 (by assumption) ⟨by decide, by decide, Nat.zero_le _, Nat.zero_le _⟩ (Nat.le_of_ble_eq_true rfl) (fun v h hp => ?_)
      obtain ⟨rfl, rfl⟩ := hp
      rw [k1]
      refine wp_istore_n (pc := 41) dX0_encode_41 (by decide) rfl ?_
      refine wp_iconst (pc := 42) (v := 2) dX0_encode_42 (by decide) ?_
      first | refine wp_aload_n (pc := 43) dX0_encode_43 rfl ?_ | refine wp_aload_nN (pc := 43) dX0_encode_43 rfl ?_
      refine wp_iload_n (pc := 44) dX0_encode_44 rfl ?_
      refine cv_Field_69 (pc := 45) (s_X4_number hS hI1 (by omega) y) rfl dX0_encode_45 (by assumption) ⟨by decide, by decide, Nat.zero_le _, Nat.zero_le _⟩ (Nat.le_of_ble_eq_true rfl) (fun v h hp => ?_)
      obtain ⟨rfl, rfl⟩ := hp
      rw [k2]
      refine wp_imul (pc := 48) dX0_encode_48 ?_
      rw [em]
      refine wp_istore (pc := 49) dX0_encode_49 (by decide) rfl ?_
      first | refine wp_aload_n (pc := 51) dX0_encode_51 rfl ?_ | refine wp_aload_nN (pc := 51) dX0_encode_51 rfl ?_
      refine wp_iload_n (pc := 52) dX0_encode_52 rfl ?_
      refine cv_Field_72 (pc := 53) (s_X4_isGrave hS hI1 (by omega) y) rfl dX0_encode_53 (by assumption) ⟨by decide, by decide, Nat.zero_le _, Nat.zero_le _⟩ (Nat.le_of_ble_eq_true rfl) (fun v h hp => ?_)
      obtain ⟨rfl, rfl⟩ := hp
      rw [k3]
      refine wp_if_eq (pc := 56) (tgt := 70) dX0_encode_56 (by decide) (fun hc => ?_) (fun hc => ?_)
      · have hng : ¬ (f t).2.2 = cNONE := fun q => by rw [if_pos q] at hc; exact absurd hc (by decide)
        rw [if_neg hng, List.length_append] at hel
        rw [if_neg hng] at hbd
        have hvv := w5.resolve_left hng
        first | refine wp_aload_n (pc := 70) dX0_encode_70 rfl ?_ | refine wp_aload_nN (pc := 70) dX0_encode_70 rfl ?_
        refine wp_iload (pc := 71) dX0_encode_71 rfl ?_
        refine cv_Field_66 (pc := 73) (s_X0_emitShort hX hc1 _ (by omega) (by simp only [List.length_cons, List.length_append]; omega)) rfl dX0_encode_73 (by assumption) ⟨by decide, by decide, Nat.zero_le _, Nat.zero_le _⟩ (Nat.le_of_ble_eq_true rfl) (fun v h hp => ?_)
        obtain ⟨rfl, I2, rfl, hf2, hc2⟩ := hp
        have hI2 := keep I2 ((hf.tr1 hf1).tr1 hf2)
        first | refine wp_aload_n (pc := 76) dX0_encode_76 rfl ?_ | refine wp_aload_nN (pc := 76) dX0_encode_76 rfl ?_
        first | refine wp_aload_n (pc := 77) dX0_encode_77 rfl ?_ | refine wp_aload_nN (pc := 77) dX0_encode_77 rfl ?_
        refine wp_iload_n (pc := 78) dX0_encode_78 rfl ?_
        refine cv_Field_75 (pc := 79) (s_X4_value hS hI2 (by omega) y) rfl dX0_encode_79 (by assumption) ⟨by decide, by decide, Nat.zero_le _, Nat.zero_le _⟩ (Nat.le_of_ble_eq_true rfl) (fun v h hp => ?_)
        obtain ⟨rfl, rfl⟩ := hp
        rw [k3]
        refine cv_Field_78 (pc := 82) (s_X0_folded _ hvv) rfl dX0_encode_82 ⟨by decide, by decide, Nat.zero_le _, Nat.zero_le _⟩ (Nat.le_of_ble_eq_true rfl) (fun v h hp => ?_)
        obtain ⟨rfl, rfl⟩ := hp
        refine cv_Field_66 (pc := 85) (s_X0_emitShort hX hc2 _ (hfd.resolve_right hng) (by simp only [List.length_cons, List.length_append]; omega)) rfl dX0_encode_85 (by assumption) ⟨by decide, by decide, Nat.zero_le _, Nat.zero_le _⟩ (Nat.le_of_ble_eq_true rfl) (fun v h hp => ?_)
        obtain ⟨rfl, I3, rfl, hf3, hc3⟩ := hp
        rw [List.cons_append, List.cons_append, List.cons_append, List.append_assoc, List.append_assoc, ← hbd] at hc3
        refine wp_iinc (pc := 88) dX0_encode_88 rfl (by decide) rfl ?_
        refine wp_goto (pc := 91) (tgt := 17) dX0_encode_91 (by decide) ?_
        first | exact next _ (hf1.tr1 hf2) hc2 _ ⟨rfl, rfl, rfl, rfl, trivial⟩ | exact next _ ((hf1.tr1 hf2).tr1 hf3) hc3 _ ⟨rfl, rfl, rfl, rfl, trivial⟩
      · have hng : (f t).2.2 = cNONE := Decidable.byContradiction fun q => hc (by rw [if_neg q]; rfl)
        rw [if_pos hng] at hel hbd
        first | refine wp_aload_n (pc := 59) dX0_encode_59 rfl ?_ | refine wp_aload_nN (pc := 59) dX0_encode_59 rfl ?_
        refine wp_iload (pc := 60) dX0_encode_60 rfl ?_
        refine wp_iconst (pc := 62) (v := 1) dX0_encode_62 (by decide) ?_
        refine wp_iadd (pc := 63) dX0_encode_63 ?_
        rw [em1]
        refine cv_Field_66 (pc := 64) (s_X0_emitShort hX hc1 _ (by omega) (by simp only [List.length_cons, List.length_append]; omega)) rfl dX0_encode_64 (by assumption) ⟨by decide, by decide, Nat.zero_le _, Nat.zero_le _⟩ (Nat.le_of_ble_eq_true rfl) (fun v h hp => ?_)
        obtain ⟨rfl, I2, rfl, hf2, hc2⟩ := hp
        rw [List.cons_append, List.cons_append, List.append_assoc, ← hbd] at hc2
        refine wp_goto (pc := 67) (tgt := 88) dX0_encode_67 (by decide) ?_
        refine wp_iinc (pc := 88) dX0_encode_88 rfl (by decide) rfl ?_
        refine wp_goto (pc := 91) (tgt := 17) dX0_encode_91 (by decide) ?_
        first | exact next _ (hf1.tr1 hf2) hc2 _ ⟨rfl, rfl, rfl, rfl, trivial⟩ | exact next _ ((hf1.tr1 hf2).tr1 hf3) hc3 _ ⟨rfl, rfl, rfl, rfl, trivial⟩
theorem s_X0_encode (hX : Fx n S R) (hS : rw_S n S R r a b c cap) (hd : ∀ q ∈ [r, a, b, c], q ∉ [20, 23]) (hv : vk es) (hcap : es.length ≤ cap) (f : Nat → En) (hI : rw_I I r a b c es.length f) (hrl : rl es.length f = es) : wp 2 44 0 0 MX0_encode 0 [(0, .ref 20), (1, .ref r)] [] (n, S, R, I) (fun w h => w = none ∧ ∃ I', h = (n, S, R, I') ∧ ab_fr I I' [20, 23] ∧ cd I' (enc es)) := by
  have o20 : ab_ok n S 20 1 := hX.ok (by decide)
  have or := hS.1
  have hl24 := hv.2.2
  have hc := hS.2.2.2.2.2.2.2.2.2.2.2.2.2
  have hcd0 : cd (ab_u2 I 20 3 0) [] := ⟨by rw [ab_u2_s]; rfl, fun k b hk => by simp at hk⟩
  have e1 : ab_u2 I 20 3 0 r 3 = nI es.length := by
    rw [ab_u2_n _ _ (Or.inl (fun q => hd r (by simp) (by rw [q]; simp)))]
    exact hI.1
  first | refine wp_aload_n (pc := 0) dX0_encode_0 rfl ?_ | refine wp_aload_nN (pc := 0) dX0_encode_0 rfl ?_
  refine wp_iconst (pc := 1) (v := 0) dX0_encode_1 (by decide) ?_
  refine wp_putI (pc := 2) dX0_encode_2 fl_Field_32 (by assumption) rfl rfl (Or.inl rfl) ?_
  first | refine wp_aload_n (pc := 5) dX0_encode_5 rfl ?_ | refine wp_aload_nN (pc := 5) dX0_encode_5 rfl ?_
  first | refine wp_aload_n (pc := 6) dX0_encode_6 rfl ?_ | refine wp_aload_nN (pc := 6) dX0_encode_6 rfl ?_
  refine wp_getI (pc := 7) dX0_encode_7 fl_Field_54 (by assumption) rfl ?_
  rw [e1]
  refine cv_Field_59 (pc := 10) (s_X0_emit hX hcd0 (by simp) es.length) rfl dX0_encode_10 (by assumption) ⟨by decide, by decide, Nat.zero_le _, Nat.zero_le _⟩ (Nat.le_of_ble_eq_true rfl) (fun v h hp => ?_)
  obtain ⟨rfl, I', rfl, hf', hc'⟩ := hp
  refine wp_iconst (pc := 13) (v := 0) dX0_encode_13 (by decide) ?_
  refine wp_istore_n (pc := 14) dX0_encode_14 (by decide) rfl ?_
  refine wp_iconst (pc := 15) (v := 0) dX0_encode_15 (by decide) ?_
  refine wp_istore_n (pc := 16) dX0_encode_16 (by decide) rfl ?_
  refine wp_loc (L' := [(0, .ref 20), (1, .ref r), (2, .int 0), (3, .int 0)]) ⟨rfl, rfl, rfl, rfl, trivial⟩ ?_
  exact s_X0_encode_loop hX hS hd hv hcap f hI hrl _ (fun I'' h1 h2 => ⟨rfl, I'', rfl, h1, h2⟩) es.length 0 0 0 0 I' [] (by omega) rfl rfl ((ab_fr.u2 (by simp)).tr1 hf') hc'
theorem s_X0_has (hX : Fx n S R) (x : Int32) : wp 0 0 0 0 MX0_has 0 [(0, .ref 20), (1, .int x)] [] (n, S, R, I) (fun v h => h = (n, S, R, I) ∧ v = some (.int (if 0 ≤ x.toInt ∧ x.toInt < 1500 then 1 else 0))) := by
  have z1 : (S 21).2 = 1500 := hX.len (by decide)
  have z2 : (S 22).2 = 1500 := hX.len (by decide)
  have o21 : ab_ok n S 21 9 := hX.ok (by decide)
  have o22 : ab_ok n S 22 10 := hX.ok (by decide)
  have t1500 : (1500 : Int32).toInt = 1500 := by decide +kernel
  refine wp_iload_n (pc := 0) dX0_has_0 rfl ?_
  refine wp_if_lt (pc := 1) (tgt := 33) dX0_has_1 (by decide) (fun hc => ?_) (fun hc => ?_)
  · skip
    refine wp_iconst (pc := 33) (v := 0) dX0_has_33 (by decide) ?_
    refine wp_ret (pc := 34) dX0_has_34 rfl (by first | trivial | exact Or.inl rfl | exact Or.inr rfl | assumption) ?_
    first | (exfalso; omega) | exact ⟨rfl, by rw [if_pos (by omega)]⟩ | exact ⟨rfl, by rw [if_neg (by omega)]⟩
  · skip
    refine wp_iload_n (pc := 4) dX0_has_4 rfl ?_
    refine wp_sipush (pc := 5) (v := 1500) dX0_has_5 (by decide) ?_
    refine wp_icmp_ge (pc := 8) (tgt := 33) dX0_has_8 (by decide) (fun hc => ?_) (fun hc => ?_)
    · rw [t1500] at hc
      refine wp_iconst (pc := 33) (v := 0) dX0_has_33 (by decide) ?_
      refine wp_ret (pc := 34) dX0_has_34 rfl (by first | trivial | exact Or.inl rfl | exact Or.inr rfl | assumption) ?_
      first | (exfalso; omega) | exact ⟨rfl, by rw [if_pos (by omega)]⟩ | exact ⟨rfl, by rw [if_neg (by omega)]⟩
    · rw [t1500] at hc
      refine wp_iload_n (pc := 11) dX0_has_11 rfl ?_
      first | refine wp_aload_n (pc := 12) dX0_has_12 rfl ?_ | refine wp_aload_nN (pc := 12) dX0_has_12 rfl ?_
      refine wp_getR (pc := 13) dX0_has_13 fl_Field_9 (by first | assumption | exact Fx.ok (by assumption) (by decide)) rfl (by first | assumption | exact Fx.ref (by assumption) rfl) ?_
      first | refine wp_alen (pc := 16) dX0_has_16 (Or.inl (by assumption)) ?_ | refine wp_alen (pc := 16) dX0_has_16 (Or.inr (Or.inl (by assumption))) ?_ | refine wp_alen (pc := 16) dX0_has_16 (Or.inr (Or.inr (Or.inl (by assumption)))) ?_ | refine wp_alen (pc := 16) dX0_has_16 (Or.inr (Or.inr (Or.inr (by assumption)))) ?_
      refine wp_icmp_ge (pc := 17) (tgt := 33) dX0_has_17 (by decide) (fun hc => ?_) (fun hc => ?_)
      · rw [z1, tI_o (by omega)] at hc
        refine wp_iconst (pc := 33) (v := 0) dX0_has_33 (by decide) ?_
        refine wp_ret (pc := 34) dX0_has_34 rfl (by first | trivial | exact Or.inl rfl | exact Or.inr rfl | assumption) ?_
        first | (exfalso; omega) | exact ⟨rfl, by rw [if_pos (by omega)]⟩ | exact ⟨rfl, by rw [if_neg (by omega)]⟩
      · rw [z1, tI_o (by omega)] at hc
        refine wp_iload_n (pc := 20) dX0_has_20 rfl ?_
        first | refine wp_aload_n (pc := 21) dX0_has_21 rfl ?_ | refine wp_aload_nN (pc := 21) dX0_has_21 rfl ?_
        refine wp_getR (pc := 22) dX0_has_22 fl_Field_15 (by first | assumption | exact Fx.ok (by assumption) (by decide)) rfl (by first | assumption | exact Fx.ref (by assumption) rfl) ?_
        first | refine wp_alen (pc := 25) dX0_has_25 (Or.inl (by assumption)) ?_ | refine wp_alen (pc := 25) dX0_has_25 (Or.inr (Or.inl (by assumption))) ?_ | refine wp_alen (pc := 25) dX0_has_25 (Or.inr (Or.inr (Or.inl (by assumption)))) ?_ | refine wp_alen (pc := 25) dX0_has_25 (Or.inr (Or.inr (Or.inr (by assumption)))) ?_
        refine wp_icmp_ge (pc := 26) (tgt := 33) dX0_has_26 (by decide) (fun hc => ?_) (fun hc => ?_)
        · rw [z2, tI_o (by omega)] at hc
          refine wp_iconst (pc := 33) (v := 0) dX0_has_33 (by decide) ?_
          refine wp_ret (pc := 34) dX0_has_34 rfl (by first | trivial | exact Or.inl rfl | exact Or.inr rfl | assumption) ?_
          first | (exfalso; omega) | exact ⟨rfl, by rw [if_pos (by omega)]⟩ | exact ⟨rfl, by rw [if_neg (by omega)]⟩
        · rw [z2, tI_o (by omega)] at hc
          refine wp_iconst (pc := 29) (v := 1) dX0_has_29 (by decide) ?_
          refine wp_goto (pc := 30) (tgt := 34) dX0_has_30 (by decide) ?_
          refine wp_ret (pc := 34) dX0_has_34 rfl (by first | trivial | exact Or.inl rfl | exact Or.inr rfl | assumption) ?_
          first | (exfalso; omega) | exact ⟨rfl, by rw [if_pos (by omega)]⟩ | exact ⟨rfl, by rw [if_neg (by omega)]⟩
/-- a room: these bytes are free -/
def fits1 (T : Nat → Int32) (len p : Nat) : Prop := p + len ≤ 1500 ∧ ∀ j, p ≤ j → j < p + len → T j = 0
theorem s_X0_firstRoom_loop (hX : Fx n S R) (hT : ∀ j, I 22 j = 0 ∨ I 22 j = 1) (len : Nat) (hlen : 1 ≤ len) (hl2 : len ≤ 1500) (post : ab_Po)
    (h1 : ∀ p, fits1 (I 22) len p → (∀ p', p' < p → ¬ fits1 (I 22) len p') → post (some (.int (nI p))) (n, S, R, I)) (h2 : (∀ p, ¬ fits1 (I 22) len p) → post (some (.int (-1))) (n, S, R, I)) :
    ∀ (d t c : Nat) (y m : Int32), 1500 = t + d → c ≤ t → c < len → y = nI t → m = nI c → (∀ j, t - c ≤ j → j < t → I 22 j = 0) → (c = t ∨ I 22 (t - c - 1) ≠ 0) → (∀ p, p + len ≤ t → ¬ fits1 (I 22) len p) → wp 0 0 0 0 MX0_firstRoom 4 [(0, .ref 20), (1, .int (nI len)), (2, .int m), (3, .int y)] [] (n, S, R, I) post := by
  have z2 : (S 22).2 = 1500 := hX.len (by decide)
  have o22 : ab_ok n S 22 10 := hX.ok (by decide)
  have el : (nI len).toInt = len := tI_n (by omega)
  intro d
  induction d with
  | zero =>
    intro t c y m ht hct hcl hy hm hfr hbe hno
    have ey : y.toInt = t := by rw [hy, tI_n (by omega)]
    refine wp_iload_n (pc := 4) dX0_firstRoom_4 rfl ?_
    first | refine wp_aload_n (pc := 5) dX0_firstRoom_5 rfl ?_ | refine wp_aload_nN (pc := 5) dX0_firstRoom_5 rfl ?_
    refine wp_getR (pc := 6) dX0_firstRoom_6 fl_Field_15 (by first | assumption | exact Fx.ok (by assumption) (by decide)) rfl (by first | assumption | exact Fx.ref (by assumption) rfl) ?_
    first | refine wp_alen (pc := 9) dX0_firstRoom_9 (Or.inl (by assumption)) ?_ | refine wp_alen (pc := 9) dX0_firstRoom_9 (Or.inr (Or.inl (by assumption))) ?_ | refine wp_alen (pc := 9) dX0_firstRoom_9 (Or.inr (Or.inr (Or.inl (by assumption)))) ?_ | refine wp_alen (pc := 9) dX0_firstRoom_9 (Or.inr (Or.inr (Or.inr (by assumption)))) ?_
    refine wp_icmp_ge (pc := 10) (tgt := 47) dX0_firstRoom_10 (by decide) (fun hc => ?_) (fun hc => ?_)
    · skip
      refine wp_iconst (pc := 47) (v := -1) dX0_firstRoom_47 (by decide) ?_
      refine wp_ret (pc := 48) dX0_firstRoom_48 rfl (by first | trivial | exact Or.inl rfl | exact Or.inr rfl | assumption) ?_
      exact h2 (fun p hp => hno p (by have := hp.1; omega) hp)
    · rw [z2, tI_o (by omega)] at hc; omega
  | succ d ih =>
    intro t c y m ht hct hcl hy hm hfr hbe hno
    have ey : y.toInt = t := by rw [hy, tI_n (by omega)]
    have cy : y.toNatClampNeg = t := by rw [hy]; exact nI_c (by omega)
    have e1 : m + 1 = nI (c + 1) := by rw [hm]; exact nI_1 c
    have e2 : (nI (c + 1)).toInt = ((c + 1 : Nat) : Int) := tI_n (by omega)
    have e3 : y + 1 - nI len = nI (t + 1 - len) ∨ t + 1 < len := by
      rcases Nat.lt_or_ge (t + 1) len with h | h
      · exact Or.inr h
      · left
        rw [hy, nI_1]
        exact pk_sub h
    have noT : I 22 t ≠ 0 → ∀ p, p + len ≤ t + 1 → ¬ fits1 (I 22) len p := fun ht2 p hp hfit => by
      by_cases hpt : p + len ≤ t
      · exact hno p hpt hfit
      · exact ht2 (hfit.2 t (by omega) (by omega))
    have noF : I 22 t = 0 → c + 1 ≠ len → ∀ p, p + len ≤ t + 1 → ¬ fits1 (I 22) len p := fun ht2 hne p hp hfit => by
      by_cases hpt : p + len ≤ t
      · exact hno p hpt hfit
      · rcases hbe with h | h
        · omega
        · exact h (hfit.2 (t - c - 1) (by omega) (by omega))
    have pathA : I 22 t ≠ 0 → wp 0 0 0 0 MX0_firstRoom 29 [(0, .ref 20), (1, .int (nI len)), (2, .int m), (3, .int y)] [.int 0] (n, S, R, I) post := by
      intro ht1
      refine wp_istore_n (pc := 29) dX0_firstRoom_29 (by decide) rfl ?_
      refine wp_iload_n (pc := 30) dX0_firstRoom_30 rfl ?_
      refine wp_iload_n (pc := 31) dX0_firstRoom_31 rfl ?_
      refine wp_icmp_ne (pc := 32) (tgt := 41) dX0_firstRoom_32 (by decide) (fun hc => ?_) (fun hc => ?_)
      · skip
        refine wp_iinc (pc := 41) dX0_firstRoom_41 rfl (by decide) rfl ?_
        refine wp_goto (pc := 44) (tgt := 4) dX0_firstRoom_44 (by decide) ?_
        refine wp_loc (L' := [(0, .ref 20), (1, .int (nI len)), (2, .int 0), (3, .int (y + Int32.ofInt 1))]) ⟨rfl, rfl, rfl, rfl, trivial⟩ ?_
        exact ih (t + 1) 0 _ _ (by omega) (by omega) (by omega) (by rw [hy]; exact nI_i1 t) rfl (fun j ha hb => absurd hb (by omega)) (Or.inr (by rw [show t + 1 - 0 - 1 = t by omega]; exact ht1)) (noT ht1)
      · rw [el, tl_0] at hc; omega
    have pathB : I 22 t = 0 → wp 0 0 0 0 MX0_firstRoom 29 [(0, .ref 20), (1, .int (nI len)), (2, .int m), (3, .int y)] [.int (m + 1)] (n, S, R, I) post := by
      intro ht0
      rw [e1]
      refine wp_istore_n (pc := 29) dX0_firstRoom_29 (by decide) rfl ?_
      refine wp_iload_n (pc := 30) dX0_firstRoom_30 rfl ?_
      refine wp_iload_n (pc := 31) dX0_firstRoom_31 rfl ?_
      refine wp_icmp_ne (pc := 32) (tgt := 41) dX0_firstRoom_32 (by decide) (fun hc => ?_) (fun hc => ?_)
      · rw [e2, el] at hc
        refine wp_iinc (pc := 41) dX0_firstRoom_41 rfl (by decide) rfl ?_
        refine wp_goto (pc := 44) (tgt := 4) dX0_firstRoom_44 (by decide) ?_
        refine wp_loc (L' := [(0, .ref 20), (1, .int (nI len)), (2, .int (nI (c + 1))), (3, .int (y + Int32.ofInt 1))]) ⟨rfl, rfl, rfl, rfl, trivial⟩ ?_
        refine ih (t + 1) (c + 1) _ _ (by omega) (by omega) (by omega) (by rw [hy]; exact nI_i1 t) rfl (fun j ha hb => ?_) ?_ (noF ht0 (by omega))
        · by_cases hjt : j = t
          · rw [hjt]; exact ht0
          · exact hfr j (by omega) (by omega)
        · rcases hbe with h | h
          · exact Or.inl (by omega)
          · exact Or.inr (by rw [show t + 1 - (c + 1) - 1 = t - c - 1 by omega]; exact h)
      · rw [e2, el] at hc
        refine wp_iload_n (pc := 35) dX0_firstRoom_35 rfl ?_
        refine wp_iconst (pc := 36) (v := 1) dX0_firstRoom_36 (by decide) ?_
        refine wp_iadd (pc := 37) dX0_firstRoom_37 ?_
        refine wp_iload_n (pc := 38) dX0_firstRoom_38 rfl ?_
        refine wp_isub (pc := 39) dX0_firstRoom_39 ?_
        rw [e3.resolve_right (by omega)]
        refine wp_ret (pc := 40) dX0_firstRoom_40 rfl (by first | trivial | exact Or.inl rfl | exact Or.inr rfl | assumption) ?_
        refine h1 (t + 1 - len) ⟨by omega, fun j ha hb => ?_⟩ (fun p' hp' => ?_)
        · by_cases hjt : j = t
          · rw [hjt]; exact ht0
          · exact hfr j (by omega) (by omega)
        · exact hno p' (by omega)
    refine wp_iload_n (pc := 4) dX0_firstRoom_4 rfl ?_
    first | refine wp_aload_n (pc := 5) dX0_firstRoom_5 rfl ?_ | refine wp_aload_nN (pc := 5) dX0_firstRoom_5 rfl ?_
    refine wp_getR (pc := 6) dX0_firstRoom_6 fl_Field_15 (by first | assumption | exact Fx.ok (by assumption) (by decide)) rfl (by first | assumption | exact Fx.ref (by assumption) rfl) ?_
    first | refine wp_alen (pc := 9) dX0_firstRoom_9 (Or.inl (by assumption)) ?_ | refine wp_alen (pc := 9) dX0_firstRoom_9 (Or.inr (Or.inl (by assumption))) ?_ | refine wp_alen (pc := 9) dX0_firstRoom_9 (Or.inr (Or.inr (Or.inl (by assumption)))) ?_ | refine wp_alen (pc := 9) dX0_firstRoom_9 (Or.inr (Or.inr (Or.inr (by assumption)))) ?_
    refine wp_icmp_ge (pc := 10) (tgt := 47) dX0_firstRoom_10 (by decide) (fun hc => ?_) (fun hc => ?_)
    · rw [z2, tI_o (by omega)] at hc; omega
    · skip
      first | refine wp_aload_n (pc := 13) dX0_firstRoom_13 rfl ?_ | refine wp_aload_nN (pc := 13) dX0_firstRoom_13 rfl ?_
      refine wp_getR (pc := 14) dX0_firstRoom_14 fl_Field_15 (by first | assumption | exact Fx.ok (by assumption) (by decide)) rfl (by first | assumption | exact Fx.ref (by assumption) rfl) ?_
      refine wp_iload_n (pc := 17) dX0_firstRoom_17 rfl ?_
      refine wp_baload (pc := 18) dX0_firstRoom_18 (by first | assumption | exact Fx.ok (by assumption) (by decide)) (in_I (by omega) (by rw [z2]; omega)) ?_
      rw [cy]
      refine wp_if_eq (pc := 19) (tgt := 26) dX0_firstRoom_19 (by decide) (fun hc => ?_) (fun hc => ?_)
      · have ht0 : I 22 t = 0 := tI_eq hc
        refine wp_iload_n (pc := 26) dX0_firstRoom_26 rfl ?_
        refine wp_iconst (pc := 27) (v := 1) dX0_firstRoom_27 (by decide) ?_
        refine wp_iadd (pc := 28) dX0_firstRoom_28 ?_
        first | exact pathA ht1 | exact pathB ht0
      · have ht1 : I 22 t ≠ 0 := fun q => hc (by rw [q]; rfl)
        refine wp_iconst (pc := 22) (v := 0) dX0_firstRoom_22 (by decide) ?_
        refine wp_goto (pc := 23) (tgt := 29) dX0_firstRoom_23 (by decide) ?_
        first | exact pathA ht1 | exact pathB ht0
theorem s_X0_firstRoom (hX : Fx n S R) (hT : ∀ j, I 22 j = 0 ∨ I 22 j = 1) (len : Nat) (hlen : 1 ≤ len) (hl2 : len ≤ 1500) : wp 0 0 0 0 MX0_firstRoom 0 [(0, .ref 20), (1, .int (nI len))] [] (n, S, R, I) (fun v h => h = (n, S, R, I) ∧ ((∃ p, v = some (.int (nI p)) ∧ fits1 (I 22) len p ∧ ∀ p', p' < p → ¬ fits1 (I 22) len p') ∨ (v = some (.int (-1)) ∧ ∀ p, ¬ fits1 (I 22) len p))) := by
  refine wp_iconst (pc := 0) (v := 0) dX0_firstRoom_0 (by decide) ?_
  refine wp_istore_n (pc := 1) dX0_firstRoom_1 (by decide) rfl ?_
  refine wp_iconst (pc := 2) (v := 0) dX0_firstRoom_2 (by decide) ?_
  refine wp_istore_n (pc := 3) dX0_firstRoom_3 (by decide) rfl ?_
  refine wp_loc (L' := [(0, .ref 20), (1, .int (nI len)), (2, .int 0), (3, .int 0)]) ⟨rfl, rfl, rfl, rfl, trivial⟩ ?_
  exact s_X0_firstRoom_loop hX hT len hlen hl2 _ (fun p h1 h2 => ⟨rfl, Or.inl ⟨p, rfl, h1, h2⟩⟩) (fun h => ⟨rfl, Or.inr ⟨rfl, h⟩⟩) 1500 0 0 _ _ rfl (Nat.le_refl 0) hlen rfl rfl (fun j ha hb => absurd hb (by omega)) (Or.inl rfl) (fun p hp => absurd hp (by omega))
end FLD
