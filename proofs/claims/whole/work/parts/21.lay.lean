/-! THE FIELD: to mark, to lay, to look -/
def mk22 (T : Nat → Int32) (p len : Nat) (v : Int32) : Nat → Int32 := fun j => if p ≤ j ∧ j < p + len then v else T j
def lay21 (T : Nat → Int32) (p : Nat) (cl : List Nat) : Nat → Int32 := fun j => if p ≤ j ∧ j < p + cl.length then nI (cl.getD (j - p) 0) else T j
section LAY
variable {n : Nat} {S : ab_SH} {R : ab_RR} {I : ab_II} {q : Nat}
theorem s_X0_mark_loop (hX : Fx n S R) (oq : ab_ok n S q 6) (hq : 66 ≤ q) (p len : Nat) (hp : p + len ≤ 1500) (w : Int32) (hw : w = 0 ∨ w = 1) {I0 : ab_II} (h2 : I0 q 2 = nI p) (h3 : I0 q 3 = nI len) (post : ab_Po)
    (hpost : ∀ I', ab_fr I0 I' [22] → I' 22 = mk22 (I0 22) p len w → post none (n, S, R, I')) :
    ∀ (d t : Nat) (y : Int32) (I : ab_II), len = t + d → y = nI t → ab_fr I0 I [22] → I 22 = mk22 (I0 22) p t w → wp 1 21 0 0 MX0_mark 2 [(0, .ref 20), (1, .ref q), (2, .int w), (3, .int y)] [] (n, S, R, I) post := by
  have z2 : (S 22).2 = 1500 := hX.len (by decide)
  have o20 : ab_ok n S 20 1 := hX.ok (by decide)
  intro d
  induction d with
  | zero =>
    intro t y I ht hy hf h22
    have ey : y.toInt = t := by rw [hy, tI_n (by omega)]
    have e3 : (I q 3).toInt = len := by rw [hf q (by simp; omega), h3, tI_n (by omega)]
    refine wp_iload_n (pc := 2) dX0_mark_2 rfl ?_
    first | refine wp_aload_n (pc := 3) dX0_mark_3 rfl ?_ | refine wp_aload_nN (pc := 3) dX0_mark_3 rfl ?_
    refine wp_getI (pc := 4) dX0_mark_4 fl_Field_43 (by assumption) rfl ?_
    refine wp_icmp_ge (pc := 7) (tgt := 41) dX0_mark_7 (by decide) (fun hc => ?_) (fun hc => ?_)
    · skip
      refine wp_retv (pc := 41) dX0_mark_41 rfl ?_
      exact hpost I hf (by rw [h22, show t = len by omega])
    · omega
  | succ d ih =>
    intro t y I ht hy hf h22
    have ey : y.toInt = t := by rw [hy, tI_n (by omega)]
    have e3 : (I q 3).toInt = len := by rw [hf q (by simp; omega), h3, tI_n (by omega)]
    have e2 : I q 2 + y = nI (p + t) := by rw [hf q (by simp; omega), h2, hy]; exact nI_add _ _
    have e4 : (nI (p + t)).toInt = ((p + t : Nat) : Int) := tI_n (by omega)
    have e5 : (nI (p + t)).toNatClampNeg = p + t := nI_c (by omega)
    refine wp_iload_n (pc := 2) dX0_mark_2 rfl ?_
    first | refine wp_aload_n (pc := 3) dX0_mark_3 rfl ?_ | refine wp_aload_nN (pc := 3) dX0_mark_3 rfl ?_
    refine wp_getI (pc := 4) dX0_mark_4 fl_Field_43 (by first | assumption | exact Fx.ok (by assumption) (by decide)) rfl ?_
    refine wp_icmp_ge (pc := 7) (tgt := 41) dX0_mark_7 (by decide) (fun hc => ?_) (fun hc => ?_)
    · omega
    · skip
      first | refine wp_aload_n (pc := 10) dX0_mark_10 rfl ?_ | refine wp_aload_nN (pc := 10) dX0_mark_10 rfl ?_
      first | refine wp_aload_n (pc := 11) dX0_mark_11 rfl ?_ | refine wp_aload_nN (pc := 11) dX0_mark_11 rfl ?_
      refine wp_getI (pc := 12) dX0_mark_12 fl_Field_40 (by first | assumption | exact Fx.ok (by assumption) (by decide)) rfl ?_
      refine wp_iload_n (pc := 15) dX0_mark_15 rfl ?_
      refine wp_iadd (pc := 16) dX0_mark_16 ?_
      rw [e2]
      refine cv_Field_46 (pc := 17) (s_X0_has hX _) rfl dX0_mark_17 (by first | assumption | exact Fx.ok (by assumption) (by decide)) ⟨by decide, by decide, Nat.zero_le _, Nat.zero_le _⟩ (Nat.le_of_ble_eq_true rfl) (fun v h hp => ?_)
      obtain ⟨rfl, rfl⟩ := hp
      rw [if_pos ⟨by omega, by omega⟩]
      refine wp_if_eq (pc := 20) (tgt := 35) dX0_mark_20 (by decide) (fun hc => ?_) (fun hc => ?_)
      · exact absurd hc (by decide)
      · skip
        first | refine wp_aload_n (pc := 23) dX0_mark_23 rfl ?_ | refine wp_aload_nN (pc := 23) dX0_mark_23 rfl ?_
        refine wp_getR (pc := 24) dX0_mark_24 fl_Field_15 (by first | assumption | exact Fx.ok (by assumption) (by decide)) rfl (by first | assumption | exact Fx.ref (by assumption) rfl) ?_
        first | refine wp_aload_n (pc := 27) dX0_mark_27 rfl ?_ | refine wp_aload_nN (pc := 27) dX0_mark_27 rfl ?_
        refine wp_getI (pc := 28) dX0_mark_28 fl_Field_40 (by first | assumption | exact Fx.ok (by assumption) (by decide)) rfl ?_
        refine wp_iload_n (pc := 31) dX0_mark_31 rfl ?_
        refine wp_iadd (pc := 32) dX0_mark_32 ?_
        rw [e2]
        refine wp_iload_n (pc := 33) dX0_mark_33 rfl ?_
        refine wp_bastore (pc := 34) dX0_mark_34 (by first | assumption | exact Fx.ok (by assumption) (by decide)) (in_I (by omega) (by rw [z2]; omega)) (by first | exact Or.inl rfl | exact Or.inr rfl | assumption) ?_
        refine wp_iinc (pc := 35) dX0_mark_35 rfl (by decide) rfl ?_
        refine wp_goto (pc := 38) (tgt := 2) dX0_mark_38 (by decide) ?_
        refine wp_loc (L' := [(0, .ref 20), (1, .ref q), (2, .int w), (3, .int (y + Int32.ofInt 1))]) ⟨rfl, rfl, rfl, rfl, trivial⟩ ?_
        refine ih (t + 1) _ _ (by omega) (by rw [hy]; exact nI_i1 t) (hf.tr1 (ab_fr.u2 (by simp))) ?_
        funext j
        rw [e5]
        by_cases hj : j = p + t
        · subst hj
          rw [ab_u2_s, mk22, if_pos (by omega)]
        · rw [ab_u2_n _ _ (Or.inr hj), h22]
          unfold mk22
          by_cases hj2 : p ≤ j ∧ j < p + t
          · rw [if_pos hj2, if_pos (by omega)]
          · rw [if_neg hj2, if_neg (by omega)]
theorem s_X0_mark (hX : Fx n S R) (oq : ab_ok n S q 6) (hq : 66 ≤ q) (p len : Nat) (hp : p + len ≤ 1500) (w : Int32) (hw : w = 0 ∨ w = 1) (h2 : I q 2 = nI p) (h3 : I q 3 = nI len) : wp 1 21 0 0 MX0_mark 0 [(0, .ref 20), (1, .ref q), (2, .int w)] [] (n, S, R, I) (fun v h => v = none ∧ ∃ I', h = (n, S, R, I') ∧ ab_fr I I' [22] ∧ I' 22 = mk22 (I 22) p len w) := by
  refine wp_iconst (pc := 0) (v := 0) dX0_mark_0 (by decide) ?_
  refine wp_istore_n (pc := 1) dX0_mark_1 (by decide) rfl ?_
  refine wp_loc (L' := [(0, .ref 20), (1, .ref q), (2, .int w), (3, .int 0)]) ⟨rfl, rfl, rfl, rfl, trivial⟩ ?_
  exact s_X0_mark_loop hX oq hq p len hp w hw h2 h3 _ (fun I' h1 h2 => ⟨rfl, I', rfl, h1, h2⟩) len 0 _ I (by omega) rfl ab_fr.rf (by funext j; rw [mk22, if_neg (by omega)])
theorem s_X0_free (hX : Fx n S R) (oq : ab_ok n S q 6) (hq : 66 ≤ q) (p len : Nat) (hp : p + len ≤ 1500) (h2 : I q 2 = nI p) (h3 : I q 3 = nI len) : wp 2 44 0 0 MX0_free 0 [(0, .ref 20), (1, .ref q)] [] (n, S, R, I) (fun v h => v = none ∧ ∃ I', h = (n, S, R, I') ∧ ab_fr I I' [22] ∧ I' 22 = mk22 (I 22) p len 0) := by
  have o20 : ab_ok n S 20 1 := hX.ok (by decide)
  first | refine wp_aload_n (pc := 0) dX0_free_0 rfl ?_ | refine wp_aload_nN (pc := 0) dX0_free_0 rfl ?_
  first | refine wp_aload_n (pc := 1) dX0_free_1 rfl ?_ | refine wp_aload_nN (pc := 1) dX0_free_1 rfl ?_
  refine wp_iconst (pc := 2) (v := 0) dX0_free_2 (by decide) ?_
  refine cv_Field_50 (pc := 3) (s_X0_mark hX oq hq p len hp 0 (Or.inl rfl) h2 h3) rfl dX0_free_3 (by assumption) ⟨by decide, by decide, Nat.zero_le _, Nat.zero_le _⟩ (Nat.le_of_ble_eq_true rfl) (fun v h hp => ?_)
  obtain ⟨rfl, I', rfl, h1, h2⟩ := hp
  refine wp_retv (pc := 6) dX0_free_6 rfl ?_
  exact ⟨rfl, I', rfl, h1, h2⟩
theorem s_X0_lay_loop (hX : Fx n S R) (oq : ab_ok n S q 6) (hq : 66 ≤ q) (p : Nat) (cl : List Nat) (hl : cl.length ≤ 194) (hp : p + cl.length ≤ 1500) {I0 : ab_II} (hcd : cd I0 cl) (h2 : I0 q 2 = nI p) (h3 : I0 q 3 = nI cl.length) (post : ab_Po)
    (hpost : ∀ I', ab_fr I0 I' [21, 22] → I' 21 = lay21 (I0 21) p cl → I' 22 = mk22 (I0 22) p cl.length 1 → post (some (.int 1)) (n, S, R, I')) :
    ∀ (d t : Nat) (y : Int32) (I : ab_II), cl.length = t + d → y = nI t → ab_fr I0 I [21] → I 21 = lay21 (I0 21) p (cl.take t) → wp 3 68 0 0 MX0_lay 39 [(0, .ref 20), (1, .ref q), (2, .int (nI p)), (3, .int y)] [] (n, S, R, I) post := by
  have z1 : (S 21).2 = 1500 := hX.len (by decide)
  have z3 : (S 23).2 = 194 := hX.len (by decide)
  have o20 : ab_ok n S 20 1 := hX.ok (by decide)
  have o23 : ab_ok n S 23 9 := hX.ok (by decide)
  intro d
  induction d with
  | zero =>
    intro t y I ht hy hf h21
    have ey : y.toInt = t := by rw [hy, tI_n (by omega)]
    have e3 : (I 20 3).toInt = cl.length := by rw [hf 20 (by decide), hcd.1, tI_n (by omega)]
    refine wp_iload_n (pc := 39) dX0_lay_39 rfl ?_
    first | refine wp_aload_n (pc := 40) dX0_lay_40 rfl ?_ | refine wp_aload_nN (pc := 40) dX0_lay_40 rfl ?_
    refine wp_getI (pc := 41) dX0_lay_41 fl_Field_32 (by assumption) rfl ?_
    refine wp_icmp_ge (pc := 44) (tgt := 86) dX0_lay_44 (by decide) (fun hc => ?_) (fun hc => ?_)
    · skip
      first | refine wp_aload_n (pc := 86) dX0_lay_86 rfl ?_ | refine wp_aload_nN (pc := 86) dX0_lay_86 rfl ?_
      first | refine wp_aload_n (pc := 87) dX0_lay_87 rfl ?_ | refine wp_aload_nN (pc := 87) dX0_lay_87 rfl ?_
      refine wp_iconst (pc := 88) (v := 1) dX0_lay_88 (by decide) ?_
      refine cv_Field_50 (pc := 89) (s_X0_mark hX oq hq p cl.length hp 1 (Or.inr rfl) (by rw [hf q (by simp; omega)]; exact h2) (by rw [hf q (by simp; omega)]; exact h3)) rfl dX0_lay_89 (by assumption) ⟨by decide, by decide, Nat.zero_le _, Nat.zero_le _⟩ (Nat.le_of_ble_eq_true rfl) (fun v h hp => ?_)
      obtain ⟨rfl, I', rfl, g1, g2⟩ := hp
      refine wp_iconst (pc := 92) (v := 1) dX0_lay_92 (by decide) ?_
      refine wp_ret (pc := 93) dX0_lay_93 rfl (by first | trivial | exact Or.inl rfl | exact Or.inr rfl | assumption) ?_
      refine hpost I' (hf.tr g1 (by simp) (by simp)) ?_ ?_
      · rw [g1 21 (by decide), h21, List.take_of_length_le (by omega)]
      · rw [g2, hf 22 (by decide)]
    · omega
  | succ d ih =>
    intro t y I ht hy hf h21
    have ey : y.toInt = t := by rw [hy, tI_n (by omega)]
    have e3 : (I 20 3).toInt = cl.length := by rw [hf 20 (by decide), hcd.1, tI_n (by omega)]
    have e2 : nI p + y = nI (p + t) := by rw [hy]; exact nI_add _ _
    have e4 : (nI (p + t)).toInt = ((p + t : Nat) : Int) := tI_n (by omega)
    have e5 : (nI (p + t)).toNatClampNeg = p + t := nI_c (by omega)
    have eg : cl[t]? = some cl[t] := List.getElem?_eq_getElem (by omega)
    have cy : y.toNatClampNeg = t := by rw [hy]; exact nI_c (by omega)
    have e6 : I 23 y.toNatClampNeg = nI cl[t] := by rw [hf 23 (by decide), cy]; exact hcd.2 t _ eg
    refine wp_iload_n (pc := 39) dX0_lay_39 rfl ?_
    first | refine wp_aload_n (pc := 40) dX0_lay_40 rfl ?_ | refine wp_aload_nN (pc := 40) dX0_lay_40 rfl ?_
    refine wp_getI (pc := 41) dX0_lay_41 fl_Field_32 (by first | assumption | exact Fx.ok (by assumption) (by decide)) rfl ?_
    refine wp_icmp_ge (pc := 44) (tgt := 86) dX0_lay_44 (by decide) (fun hc => ?_) (fun hc => ?_)
    · omega
    · skip
      refine wp_iload_n (pc := 47) dX0_lay_47 rfl ?_
      first | refine wp_aload_n (pc := 48) dX0_lay_48 rfl ?_ | refine wp_aload_nN (pc := 48) dX0_lay_48 rfl ?_
      refine wp_getR (pc := 49) dX0_lay_49 fl_Field_19 (by first | assumption | exact Fx.ok (by assumption) (by decide)) rfl (by first | assumption | exact Fx.ref (by assumption) rfl) ?_
      first | refine wp_alen (pc := 52) dX0_lay_52 (Or.inl (by assumption)) ?_ | refine wp_alen (pc := 52) dX0_lay_52 (Or.inr (Or.inl (by assumption))) ?_ | refine wp_alen (pc := 52) dX0_lay_52 (Or.inr (Or.inr (Or.inl (by assumption)))) ?_ | refine wp_alen (pc := 52) dX0_lay_52 (Or.inr (Or.inr (Or.inr (by assumption)))) ?_
      refine wp_icmp_ge (pc := 53) (tgt := 86) dX0_lay_53 (by decide) (fun hc => ?_) (fun hc => ?_)
      · rw [z3, tI_o (by omega)] at hc; omega
      · skip
        first | refine wp_aload_n (pc := 56) dX0_lay_56 rfl ?_ | refine wp_aload_nN (pc := 56) dX0_lay_56 rfl ?_
        refine wp_iload_n (pc := 57) dX0_lay_57 rfl ?_
        refine wp_iload_n (pc := 58) dX0_lay_58 rfl ?_
        refine wp_iadd (pc := 59) dX0_lay_59 ?_
        rw [e2]
        refine cv_Field_46 (pc := 60) (s_X0_has hX _) rfl dX0_lay_60 (by first | assumption | exact Fx.ok (by assumption) (by decide)) ⟨by decide, by decide, Nat.zero_le _, Nat.zero_le _⟩ (Nat.le_of_ble_eq_true rfl) (fun v h hp => ?_)
        obtain ⟨rfl, rfl⟩ := hp
        rw [if_pos ⟨by omega, by omega⟩]
        refine wp_if_eq (pc := 63) (tgt := 80) dX0_lay_63 (by decide) (fun hc => ?_) (fun hc => ?_)
        · exact absurd hc (by decide)
        · skip
          first | refine wp_aload_n (pc := 66) dX0_lay_66 rfl ?_ | refine wp_aload_nN (pc := 66) dX0_lay_66 rfl ?_
          refine wp_getR (pc := 67) dX0_lay_67 fl_Field_9 (by first | assumption | exact Fx.ok (by assumption) (by decide)) rfl (by first | assumption | exact Fx.ref (by assumption) rfl) ?_
          refine wp_iload_n (pc := 70) dX0_lay_70 rfl ?_
          refine wp_iload_n (pc := 71) dX0_lay_71 rfl ?_
          refine wp_iadd (pc := 72) dX0_lay_72 ?_
          rw [e2]
          first | refine wp_aload_n (pc := 73) dX0_lay_73 rfl ?_ | refine wp_aload_nN (pc := 73) dX0_lay_73 rfl ?_
          refine wp_getR (pc := 74) dX0_lay_74 fl_Field_19 (by first | assumption | exact Fx.ok (by assumption) (by decide)) rfl (by first | assumption | exact Fx.ref (by assumption) rfl) ?_
          refine wp_iload_n (pc := 77) dX0_lay_77 rfl ?_
          refine wp_iaload (pc := 78) dX0_lay_78 (by first | assumption | exact Fx.ok (by assumption) (by decide)) (in_I (by omega) (by rw [z3]; omega)) ?_
          rw [e6]
          refine wp_iastore (pc := 79) dX0_lay_79 (by first | assumption | exact Fx.ok (by assumption) (by decide)) (in_I (by omega) (by rw [z1]; omega)) ?_
          refine wp_iinc (pc := 80) dX0_lay_80 rfl (by decide) rfl ?_
          refine wp_goto (pc := 83) (tgt := 39) dX0_lay_83 (by decide) ?_
          refine wp_loc (L' := [(0, .ref 20), (1, .ref q), (2, .int (nI p)), (3, .int (y + Int32.ofInt 1))]) ⟨rfl, rfl, rfl, rfl, trivial⟩ ?_
          refine ih (t + 1) _ _ (by omega) (by rw [hy]; exact nI_i1 t) (hf.tr1 (ab_fr.u2 (by simp))) ?_
          funext j
          rw [e5]
          have hl1 : (cl.take t).length = t := by simp; omega
          have hl2 : (cl.take (t + 1)).length = t + 1 := by simp; omega
          by_cases hj : j = p + t
          · subst hj
            rw [ab_u2_s, lay21, if_pos (by omega), show p + t - p = t by omega, List.getD_eq_getElem?_getD, td_succ eg, List.getElem?_append_right (by omega), hl1, Nat.sub_self]
            rfl
          · rw [ab_u2_n _ _ (Or.inr hj), h21]
            unfold lay21
            rw [hl1, hl2]
            by_cases hj2 : p ≤ j ∧ j < p + t
            · rw [if_pos hj2, if_pos (by omega), List.getD_eq_getElem?_getD, List.getD_eq_getElem?_getD, td_succ eg, List.getElem?_append_left (by omega)]
            · rw [if_neg hj2, if_neg (by omega)]
/-- a file whose entries are there is laid, if there is room -/
theorem s_X0_lay (hX : Fx n S R) (hS : sf_S n S R q) {es : List En} (hv : vk es) (f : Nat → En) (hI : rw_I I (q + 1) (q + 2) (q + 3) (q + 4) es.length f) (hrl : rl es.length f = es) (hT : ∀ j, I 22 j = 0 ∨ I 22 j = 1) : wp 3 68 0 0 MX0_lay 0 [(0, .ref 20), (1, .ref q)] [] (n, S, R, I)
    (fun v h => ∃ I', h = (n, S, R, I') ∧ ((v = some (.int 0) ∧ ab_fr I I' [20, 23] ∧ ∀ p, ¬ fits1 (I 22) (enc es).length p) ∨ (∃ p, v = some (.int 1) ∧ fits1 (I 22) (enc es).length p ∧ (∀ p', p' < p → ¬ fits1 (I 22) (enc es).length p') ∧ ab_fr I I' [20, 21, 22, 23, q] ∧ I' q 1 = I q 1 ∧ I' q 2 = nI p ∧ I' q 3 = nI (enc es).length ∧ I' 21 = lay21 (I 21) p (enc es) ∧ I' 22 = mk22 (I 22) p (enc es).length 1))) := by
  obtain ⟨h66, oq, rq, hr⟩ := hS
  have or := hr.1
  have hl := enc_len hv
  have hl2 := enc_pos es
  have o20 : ab_ok n S 20 1 := hX.ok (by decide)
  have loop : ∀ (I1 : ab_II) (p : Nat), ab_fr I I1 [20, 23] → cd I1 (enc es) → fits1 (I 22) (enc es).length p → (∀ p', p' < p → ¬ fits1 (I 22) (enc es).length p') → wp 3 68 0 0 MX0_lay 39 [(0, .ref 20), (1, .ref q), (2, .int (nI p)), (3, .int 0)] [] (n, S, R, ab_u2 (ab_u2 I1 q 2 (nI p)) q 3 (nI (enc es).length)) (fun v h => ∃ I', h = (n, S, R, I') ∧ ((v = some (.int 0) ∧ ab_fr I I' [20, 23] ∧ ∀ p, ¬ fits1 (I 22) (enc es).length p) ∨ (∃ p, v = some (.int 1) ∧ fits1 (I 22) (enc es).length p ∧ (∀ p', p' < p → ¬ fits1 (I 22) (enc es).length p') ∧ ab_fr I I' [20, 21, 22, 23, q] ∧ I' q 1 = I q 1 ∧ I' q 2 = nI p ∧ I' q 3 = nI (enc es).length ∧ I' 21 = lay21 (I 21) p (enc es) ∧ I' 22 = mk22 (I 22) p (enc es).length 1))) := by
    intro I1 p hf1 hc1 hfit hleast
    have ne : ∀ j, j ≠ q → ab_u2 (ab_u2 I1 q 2 (nI p)) q 3 (nI (enc es).length) j = I1 j := fun j hj => by rw [ab_u2_r _ _ hj, ab_u2_r _ _ hj]
    refine s_X0_lay_loop hX oq h66 p (enc es) hl hfit.1 (I0 := ab_u2 (ab_u2 I1 q 2 (nI p)) q 3 (nI (enc es).length)) ⟨by rw [ne 20 (by omega)]; exact hc1.1, fun k b hk => by rw [ne 23 (by omega)]; exact hc1.2 k b hk⟩ (by rw [ab_u2_n _ _ (Or.inr (by decide)), ab_u2_s]) (by rw [ab_u2_s]) _ (fun I' g1 g2 g3 => ⟨I', rfl, Or.inr ⟨p, rfl, hfit, hleast, ?_, ?_, ?_, ?_, ?_, ?_⟩⟩) (enc es).length 0 _ _ (by omega) rfl ab_fr.rf (by funext j; rw [lay21, if_neg (by simp)])
    · intro j hj
      simp only [List.mem_cons, List.not_mem_nil, or_false, not_or] at hj
      rw [g1 j (by simp; omega), ne j (by omega), hf1 j (by simp; omega)]
    · rw [g1 q (by simp; omega), ab_u2_n _ _ (Or.inr (by decide)), ab_u2_n _ _ (Or.inr (by decide)), hf1 q (by simp; omega)]
    · rw [g1 q (by simp; omega), ab_u2_n _ _ (Or.inr (by decide)), ab_u2_s]
    · rw [g1 q (by simp; omega), ab_u2_s]
    · rw [g2, ne 21 (by omega), hf1 21 (by decide)]
    · rw [g3, ne 22 (by omega), hf1 22 (by decide)]
  first | refine wp_aload_n (pc := 0) dX0_lay_0 rfl ?_ | refine wp_aload_nN (pc := 0) dX0_lay_0 rfl ?_
  first | refine wp_aload_n (pc := 1) dX0_lay_1 rfl ?_ | refine wp_aload_nN (pc := 1) dX0_lay_1 rfl ?_
  refine wp_getR (pc := 2) dX0_lay_2 fl_Field_22 (by assumption) rfl (by assumption) ?_
  refine cv_Field_28 (pc := 5) (s_X0_encode hX hr (by simp; omega) hv hv.2.2 f hI hrl) rfl dX0_lay_5 (by assumption) ⟨by decide, by decide, Nat.zero_le _, Nat.zero_le _⟩ (Nat.le_of_ble_eq_true rfl) (fun v h hp => ?_)
  obtain ⟨rfl, I1, rfl, hf1, hc1⟩ := hp
  have hT1 : ∀ j, I1 22 j = 0 ∨ I1 22 j = 1 := fun j => by rw [hf1 22 (by decide)]; exact hT j
  first | refine wp_aload_n (pc := 8) dX0_lay_8 rfl ?_ | refine wp_aload_nN (pc := 8) dX0_lay_8 rfl ?_
  first | refine wp_aload_n (pc := 9) dX0_lay_9 rfl ?_ | refine wp_aload_nN (pc := 9) dX0_lay_9 rfl ?_
  refine wp_getI (pc := 10) dX0_lay_10 fl_Field_32 (by assumption) rfl ?_
  rw [hc1.1]
  refine cv_Field_36 (pc := 13) (s_X0_firstRoom hX hT1 _ (by omega) (by omega)) rfl dX0_lay_13 (by assumption) ⟨by decide, by decide, Nat.zero_le _, Nat.zero_le _⟩ (Nat.le_of_ble_eq_true rfl) (fun v h hp => ?_)
  obtain ⟨rfl, hp⟩ := hp
  rw [hf1 22 (by decide)] at hp
  rcases hp with ⟨p, rfl, hfit, hleast⟩ | ⟨rfl, hno⟩
  · have hpp := hfit.1
    have ep : (nI p).toInt = p := tI_n (by omega)
    refine wp_istore_n (pc := 16) dX0_lay_16 (by decide) rfl ?_
    refine wp_iload_n (pc := 17) dX0_lay_17 rfl ?_
    refine wp_iconst (pc := 18) (v := -1) dX0_lay_18 (by decide) ?_
    refine wp_icmp_ne (pc := 19) (tgt := 24) dX0_lay_19 (by decide) (fun hc => ?_) (fun hc => ?_)
    · refine wp_aload_n (pc := 24) dX0_lay_24 rfl ?_
      refine wp_iload_n (pc := 25) dX0_lay_25 rfl ?_
      refine wp_putI (pc := 26) dX0_lay_26 fl_Field_40 oq rfl rfl (Or.inl rfl) ?_
      refine wp_aload_n (pc := 29) dX0_lay_29 rfl ?_
      refine wp_aload_n (pc := 30) dX0_lay_30 rfl ?_
      refine wp_getI (pc := 31) dX0_lay_31 fl_Field_32 o20 rfl ?_
      rw [ab_u2_n _ _ (Or.inl (by omega)), hc1.1]
      refine wp_putI (pc := 34) dX0_lay_34 fl_Field_43 oq rfl rfl (Or.inl rfl) ?_
      refine wp_iconst (pc := 37) (v := 0) dX0_lay_37 (by decide) ?_
      refine wp_istore_n (pc := 38) dX0_lay_38 (by decide) rfl ?_
      refine wp_loc (L' := [(0, .ref 20), (1, .ref q), (2, .int (nI p)), (3, .int 0)]) ⟨rfl, rfl, rfl, rfl, trivial⟩ ?_
      exact loop I1 p hf1 hc1 hfit hleast
    · rw [ep, tl_m1] at hc
      omega
  · refine wp_istore_n (pc := 16) dX0_lay_16 (by decide) rfl ?_
    refine wp_iload_n (pc := 17) dX0_lay_17 rfl ?_
    refine wp_iconst (pc := 18) (v := -1) dX0_lay_18 (by decide) ?_
    refine wp_icmp_ne (pc := 19) (tgt := 24) dX0_lay_19 (by decide) (fun hc => ?_) (fun hc => ?_)
    · exact absurd rfl hc
    · refine wp_iconst (pc := 22) (v := 0) dX0_lay_22 (by decide) ?_
      refine wp_ret (pc := 23) dX0_lay_23 rfl (Or.inl rfl) ?_
      exact ⟨I1, rfl, Or.inl ⟨rfl, hf1, hno⟩⟩
theorem s_X0_holds_loop (hX : Fx n S R) (oq : ab_ok n S q 6) (hq : 66 ≤ q) (p : Nat) (cl : List Nat) (hl : cl.length ≤ 194) (hp : p + cl.length ≤ 1500) (hcd : cd I cl) (h2 : I q 2 = nI p) (hby : ∀ k b, cl[k]? = some b → I 21 (p + k) = nI b) (post : ab_Po) (hpost : post (some (.int 1)) (n, S, R, I)) :
    ∀ (d t : Nat) (y : Int32), cl.length = t + d → y = nI t → wp 3 68 0 0 MX0_holds 27 [(0, .ref 20), (1, .ref q), (2, .int 1), (3, .int y)] [] (n, S, R, I) post := by
  have z1 : (S 21).2 = 1500 := hX.len (by decide)
  have z3 : (S 23).2 = 194 := hX.len (by decide)
  have o20 : ab_ok n S 20 1 := hX.ok (by decide)
  have o23 : ab_ok n S 23 9 := hX.ok (by decide)
  have e3 : (I 20 3).toInt = cl.length := by rw [hcd.1, tI_n (by omega)]
  intro d
  induction d with
  | zero =>
    intro t y ht hy
    have ey : y.toInt = t := by rw [hy, tI_n (by omega)]
    refine wp_iload_n (pc := 27) dX0_holds_27 rfl ?_
    refine wp_if_eq (pc := 28) (tgt := 93) dX0_holds_28 (by decide) (fun hc => ?_) (fun hc => ?_)
    · exact absurd hc (by decide)
    · skip
      refine wp_iload_n (pc := 31) dX0_holds_31 rfl ?_
      first | refine wp_aload_n (pc := 32) dX0_holds_32 rfl ?_ | refine wp_aload_nN (pc := 32) dX0_holds_32 rfl ?_
      refine wp_getI (pc := 33) dX0_holds_33 fl_Field_32 (by assumption) rfl ?_
      refine wp_icmp_ge (pc := 36) (tgt := 93) dX0_holds_36 (by decide) (fun hc => ?_) (fun hc => ?_)
      · skip
        refine wp_iload_n (pc := 93) dX0_holds_93 rfl ?_
        refine wp_ret (pc := 94) dX0_holds_94 rfl (by first | trivial | exact Or.inl rfl | exact Or.inr rfl | assumption) ?_
        exact hpost
      · omega
  | succ d ih =>
    intro t y ht hy
    have ey : y.toInt = t := by rw [hy, tI_n (by omega)]
    have e2 : I q 2 + y = nI (p + t) := by rw [h2, hy]; exact nI_add _ _
    have e4 : (nI (p + t)).toInt = ((p + t : Nat) : Int) := tI_n (by omega)
    have e5 : (nI (p + t)).toNatClampNeg = p + t := nI_c (by omega)
    have eg : cl[t]? = some cl[t] := List.getElem?_eq_getElem (by omega)
    have cy : y.toNatClampNeg = t := by rw [hy]; exact nI_c (by omega)
    have e6 : I 23 y.toNatClampNeg = nI cl[t] := by rw [cy]; exact hcd.2 t _ eg
    have e7 : I 21 (p + t) = nI cl[t] := hby t _ eg
    refine wp_iload_n (pc := 27) dX0_holds_27 rfl ?_
    refine wp_if_eq (pc := 28) (tgt := 93) dX0_holds_28 (by decide) (fun hc => ?_) (fun hc => ?_)
    · exact absurd hc (by decide)
    · skip
      refine wp_iload_n (pc := 31) dX0_holds_31 rfl ?_
      first | refine wp_aload_n (pc := 32) dX0_holds_32 rfl ?_ | refine wp_aload_nN (pc := 32) dX0_holds_32 rfl ?_
      refine wp_getI (pc := 33) dX0_holds_33 fl_Field_32 (by first | assumption | exact Fx.ok (by assumption) (by decide)) rfl ?_
      refine wp_icmp_ge (pc := 36) (tgt := 93) dX0_holds_36 (by decide) (fun hc => ?_) (fun hc => ?_)
      · omega
      · skip
        refine wp_iload_n (pc := 39) dX0_holds_39 rfl ?_
        first | refine wp_aload_n (pc := 40) dX0_holds_40 rfl ?_ | refine wp_aload_nN (pc := 40) dX0_holds_40 rfl ?_
        refine wp_getR (pc := 41) dX0_holds_41 fl_Field_19 (by first | assumption | exact Fx.ok (by assumption) (by decide)) rfl (by first | assumption | exact Fx.ref (by assumption) rfl) ?_
        first | refine wp_alen (pc := 44) dX0_holds_44 (Or.inl (by assumption)) ?_ | refine wp_alen (pc := 44) dX0_holds_44 (Or.inr (Or.inl (by assumption))) ?_ | refine wp_alen (pc := 44) dX0_holds_44 (Or.inr (Or.inr (Or.inl (by assumption)))) ?_ | refine wp_alen (pc := 44) dX0_holds_44 (Or.inr (Or.inr (Or.inr (by assumption)))) ?_
        refine wp_icmp_ge (pc := 45) (tgt := 93) dX0_holds_45 (by decide) (fun hc => ?_) (fun hc => ?_)
        · rw [z3, tI_o (by omega)] at hc; omega
        · skip
          first | refine wp_aload_n (pc := 48) dX0_holds_48 rfl ?_ | refine wp_aload_nN (pc := 48) dX0_holds_48 rfl ?_
          first | refine wp_aload_n (pc := 49) dX0_holds_49 rfl ?_ | refine wp_aload_nN (pc := 49) dX0_holds_49 rfl ?_
          refine wp_getI (pc := 50) dX0_holds_50 fl_Field_40 (by first | assumption | exact Fx.ok (by assumption) (by decide)) rfl ?_
          refine wp_iload_n (pc := 53) dX0_holds_53 rfl ?_
          refine wp_iadd (pc := 54) dX0_holds_54 ?_
          rw [e2]
          refine cv_Field_46 (pc := 55) (s_X0_has hX _) rfl dX0_holds_55 (by first | assumption | exact Fx.ok (by assumption) (by decide)) ⟨by decide, by decide, Nat.zero_le _, Nat.zero_le _⟩ (Nat.le_of_ble_eq_true rfl) (fun v h hp => ?_)
          obtain ⟨rfl, rfl⟩ := hp
          rw [if_pos ⟨by omega, by omega⟩]
          refine wp_if_eq (pc := 58) (tgt := 85) dX0_holds_58 (by decide) (fun hc => ?_) (fun hc => ?_)
          · exact absurd hc (by decide)
          · skip
            first | refine wp_aload_n (pc := 61) dX0_holds_61 rfl ?_ | refine wp_aload_nN (pc := 61) dX0_holds_61 rfl ?_
            refine wp_getR (pc := 62) dX0_holds_62 fl_Field_9 (by first | assumption | exact Fx.ok (by assumption) (by decide)) rfl (by first | assumption | exact Fx.ref (by assumption) rfl) ?_
            first | refine wp_aload_n (pc := 65) dX0_holds_65 rfl ?_ | refine wp_aload_nN (pc := 65) dX0_holds_65 rfl ?_
            refine wp_getI (pc := 66) dX0_holds_66 fl_Field_40 (by first | assumption | exact Fx.ok (by assumption) (by decide)) rfl ?_
            refine wp_iload_n (pc := 69) dX0_holds_69 rfl ?_
            refine wp_iadd (pc := 70) dX0_holds_70 ?_
            rw [e2]
            refine wp_iaload (pc := 71) dX0_holds_71 (by first | assumption | exact Fx.ok (by assumption) (by decide)) (in_I (by omega) (by rw [z1]; omega)) ?_
            first | refine wp_aload_n (pc := 72) dX0_holds_72 rfl ?_ | refine wp_aload_nN (pc := 72) dX0_holds_72 rfl ?_
            refine wp_getR (pc := 73) dX0_holds_73 fl_Field_19 (by first | assumption | exact Fx.ok (by assumption) (by decide)) rfl (by first | assumption | exact Fx.ref (by assumption) rfl) ?_
            refine wp_iload_n (pc := 76) dX0_holds_76 rfl ?_
            refine wp_iaload (pc := 77) dX0_holds_77 (by first | assumption | exact Fx.ok (by assumption) (by decide)) (in_I (by omega) (by rw [z3]; omega)) ?_
            rw [e5, e6, e7]
            refine wp_icmp_ne (pc := 78) (tgt := 85) dX0_holds_78 (by decide) (fun hc => ?_) (fun hc => ?_)
            · exact absurd rfl hc
            · skip
              refine wp_iconst (pc := 81) (v := 1) dX0_holds_81 (by decide) ?_
              refine wp_goto (pc := 82) (tgt := 86) dX0_holds_82 (by decide) ?_
              refine wp_istore_n (pc := 86) dX0_holds_86 (by decide) rfl ?_
              refine wp_iinc (pc := 87) dX0_holds_87 rfl (by decide) rfl ?_
              refine wp_goto (pc := 90) (tgt := 27) dX0_holds_90 (by decide) ?_
              refine wp_loc (L' := [(0, .ref 20), (1, .ref q), (2, .int 1), (3, .int (y + Int32.ofInt 1))]) ⟨rfl, rfl, rfl, rfl, trivial⟩ ?_
              exact ih (t + 1) _ (by omega) (by rw [hy]; exact nI_i1 t)
/-- a file in force is as it should be -/
theorem s_X0_holds (hX : Fx n S R) (hS : sf_S n S R q) {es : List En} (hv : vk es) (f : Nat → En) (hI : rw_I I (q + 1) (q + 2) (q + 3) (q + 4) es.length f) (hrl : rl es.length f = es) (p : Nat) (hp : p + (enc es).length ≤ 1500) (h2 : I q 2 = nI p) (h3 : I q 3 = nI (enc es).length) (hby : ∀ k b, (enc es)[k]? = some b → I 21 (p + k) = nI b) : wp 3 68 0 0 MX0_holds 0 [(0, .ref 20), (1, .ref q)] [] (n, S, R, I) (fun v h => v = some (.int 1) ∧ ∃ I', h = (n, S, R, I') ∧ ab_fr I I' [20, 23]) := by
  obtain ⟨h66, oq, rq, hr⟩ := hS
  have or := hr.1
  have hl := enc_len hv
  have o20 : ab_ok n S 20 1 := hX.ok (by decide)
  first | refine wp_aload_n (pc := 0) dX0_holds_0 rfl ?_ | refine wp_aload_nN (pc := 0) dX0_holds_0 rfl ?_
  first | refine wp_aload_n (pc := 1) dX0_holds_1 rfl ?_ | refine wp_aload_nN (pc := 1) dX0_holds_1 rfl ?_
  refine wp_getR (pc := 2) dX0_holds_2 fl_Field_22 (by assumption) rfl (by assumption) ?_
  refine cv_Field_28 (pc := 5) (s_X0_encode hX hr (by simp; omega) hv hv.2.2 f hI hrl) rfl dX0_holds_5 (by assumption) ⟨by decide, by decide, Nat.zero_le _, Nat.zero_le _⟩ (Nat.le_of_ble_eq_true rfl) (fun v h hp => ?_)
  obtain ⟨rfl, I1, rfl, hf1, hc1⟩ := hp
  first | refine wp_aload_n (pc := 8) dX0_holds_8 rfl ?_ | refine wp_aload_nN (pc := 8) dX0_holds_8 rfl ?_
  refine wp_getI (pc := 9) dX0_holds_9 fl_Field_32 (by assumption) rfl ?_
  first | refine wp_aload_n (pc := 12) dX0_holds_12 rfl ?_ | refine wp_aload_nN (pc := 12) dX0_holds_12 rfl ?_
  refine wp_getI (pc := 13) dX0_holds_13 fl_Field_43 (by assumption) rfl ?_
  rw [hc1.1, hf1 q (by simp; omega), h3]
  refine wp_icmp_ne (pc := 16) (tgt := 23) dX0_holds_16 (by decide) (fun hc => ?_) (fun hc => ?_)
  · exact absurd rfl hc
  · skip
    refine wp_iconst (pc := 19) (v := 1) dX0_holds_19 (by decide) ?_
    refine wp_goto (pc := 20) (tgt := 24) dX0_holds_20 (by decide) ?_
    refine wp_istore_n (pc := 24) dX0_holds_24 (by decide) rfl ?_
    refine wp_iconst (pc := 25) (v := 0) dX0_holds_25 (by decide) ?_
    refine wp_istore_n (pc := 26) dX0_holds_26 (by decide) rfl ?_
    refine wp_loc (L' := [(0, .ref 20), (1, .ref q), (2, .int 1), (3, .int 0)]) ⟨rfl, rfl, rfl, rfl, trivial⟩ ?_
    exact s_X0_holds_loop hX oq h66 p (enc es) hl hp hc1 (by rw [hf1 q (by simp; omega)]; exact h2) (fun k b hk => by rw [hf1 21 (by decide)]; exact hby k b hk) _ ⟨rfl, I1, rfl, hf1⟩ (enc es).length 0 _ (by omega) rfl
end LAY
