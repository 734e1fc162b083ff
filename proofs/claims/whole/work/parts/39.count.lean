/-! count, high, crash -/
def accM (x : Int32) (f : Nat → Int32) : Nat → Int32
  | 0 => x
  | t + 1 => mx (accM x f t) (f t)
section CN
variable {σ : St} {n : Nat} {S : ab_SH} {R : ab_RR} {I : ab_II} {A : AC} {P : Nat → List Nat} {sp : List FA}
theorem s_gNL_loop (h : RC σ n S R I A P sp) (x : Int32) (post : ab_Po) (hpost : post (some (.int (accM x (fun k => (σ.FS k).foldl mxN 0) 4))) (n, S, R, I)) :
    ∀ (d t : Nat) (y m : Int32) (L : List (Nat × Value)), 4 = t + d → y = nI t → m = accM x (fun k => (σ.FS k).foldl mxN 0) t → ab_sub L [(0, .ref 3), (1, .int m), (2, .ref 9), (3, .int 4), (4, .int y)] → wp 5 108 0 0 MX6_greatestNumberLeft 19 L [] (n, S, R, I) post := by
  have hX := h.fx
  have z : (S 9).2 = 4 := hX.len (by decide)
  have o9 : ab_ok n S 9 11 := hX.ok (by decide)
  intro d
  induction d with
  | zero =>
    intro t y m L ht hy hm hL0
    refine wp_loc hL0 ?_
    have ey : y.toInt = t := by rw [hy, tI_n (by omega)]
    refine wp_iload (pc := 19) dX6_greatestNumberLeft_19 rfl ?_
    refine wp_iload_n (pc := 21) dX6_greatestNumberLeft_21 rfl ?_
    refine wp_icmp_ge (pc := 22) (tgt := 47) dX6_greatestNumberLeft_22 (by decide) (fun hc => ?_) (fun hc => ?_)
    · skip
      refine wp_iload_n (pc := 47) dX6_greatestNumberLeft_47 rfl ?_
      refine wp_ret (pc := 48) dX6_greatestNumberLeft_48 rfl (by first | trivial | exact Or.inl rfl | exact Or.inr rfl | assumption) ?_
      rw [hm, show t = 4 by omega]; exact hpost
    · rw [tl_4] at hc; omega
  | succ d ih =>
    intro t y m L ht hy hm hL0
    refine wp_loc hL0 ?_
    have ey : y.toInt = t := by rw [hy, tI_n (by omega)]
    have ec : y.toNatClampNeg = t := by rw [tI_c]; omega
    obtain ⟨hL, hFl, hF⟩ := h.lvk (k := t) (by omega) (by omega)
    have ofk := hF.1
    have hr : R 9 y.toNatClampNeg = some (fk t) := by rw [ec]; exact lv_ref hX (by omega)
    refine wp_iload (pc := 19) dX6_greatestNumberLeft_19 rfl ?_
    refine wp_iload_n (pc := 21) dX6_greatestNumberLeft_21 rfl ?_
    refine wp_icmp_ge (pc := 22) (tgt := 47) dX6_greatestNumberLeft_22 (by decide) (fun hc => ?_) (fun hc => ?_)
    · rw [tl_4] at hc; omega
    · skip
      first | refine wp_aload_n (pc := 25) dX6_greatestNumberLeft_25 rfl ?_ | refine wp_aload_nN (pc := 25) dX6_greatestNumberLeft_25 rfl ?_
      refine wp_iload (pc := 26) dX6_greatestNumberLeft_26 rfl ?_
      refine wp_aaload (pc := 28) dX6_greatestNumberLeft_28 (Or.inl o9) (in_I (by omega) (by rw [z]; omega)) (hr) ?_
      first | refine wp_astore (pc := 29) dX6_greatestNumberLeft_29 (by decide) rfl ?_ | refine wp_astoreN (pc := 29) dX6_greatestNumberLeft_29 (by decide) rfl ?_
      refine wp_iload_n (pc := 31) dX6_greatestNumberLeft_31 rfl ?_
      first | refine wp_aload (pc := 32) dX6_greatestNumberLeft_32 rfl ?_ | refine wp_aloadN (pc := 32) dX6_greatestNumberLeft_32 rfl ?_
      refine cv_LevelStore_269 (pc := 34) (s_X1_greatestNumber hF hL hFl) rfl dX6_greatestNumberLeft_34 (by assumption) ⟨by decide, by decide, Nat.zero_le _, Nat.zero_le _⟩ (Nat.le_of_ble_eq_true rfl) (fun v h hp => ?_)
      obtain ⟨rfl, rfl⟩ := hp
      refine wp_max (pc := 37) dX6_greatestNumberLeft_37 ml_LevelStore_261 (by decide) (Nat.le_of_ble_eq_true rfl) ?_
      refine wp_istore_n (pc := 40) dX6_greatestNumberLeft_40 (by decide) rfl ?_
      refine wp_iinc (pc := 41) dX6_greatestNumberLeft_41 rfl (by decide) rfl ?_
      refine wp_goto (pc := 44) (tgt := 19) dX6_greatestNumberLeft_44 (by decide) ?_
      exact ih (t + 1) _ _ _ (by omega) (by rw [hy]; exact nI_i1 t) (by rw [hm]; rfl) ⟨rfl, rfl, rfl, rfl, rfl, trivial⟩
theorem s_gNL (h : RC σ n S R I A P sp) (hl : σ.log.length ≤ 24) : wp 5 108 0 0 MX6_greatestNumberLeft 0 [(0, .ref 3)] [] (n, S, R, I) (fun v h => h = (n, S, R, I) ∧ v = some (.int (gnum σ.log σ.FS))) := by
  have hX := h.fx
  have z : (S 9).2 = 4 := hX.len (by decide)
  have o9 : ab_ok n S 9 11 := hX.ok (by decide)
  obtain ⟨g, hg, hgl⟩ := h.lg
  first | refine wp_aload_n (pc := 0) dX6_greatestNumberLeft_0 rfl ?_ | refine wp_aload_nN (pc := 0) dX6_greatestNumberLeft_0 rfl ?_
  refine wp_getR (pc := 1) dX6_greatestNumberLeft_1 fl_LevelStore_14 (by first | assumption | exact Fx.ok (by assumption) (by decide)) rfl (by first | assumption | exact Fx.ref (by assumption) rfl) ?_
  refine cv_LevelStore_266 (pc := 4) (s_X4_greatestNumber hX.log hg hl) rfl dX6_greatestNumberLeft_4 (by first | assumption | exact Fx.ok (by assumption) (by decide)) ⟨by decide, by decide, Nat.zero_le _, Nat.zero_le _⟩ (Nat.le_of_ble_eq_true rfl) (fun v h hp => ?_)
  obtain ⟨rfl, rfl⟩ := hp
  rw [hgl]
  refine wp_istore_n (pc := 7) dX6_greatestNumberLeft_7 (by decide) rfl ?_
  first | refine wp_aload_n (pc := 8) dX6_greatestNumberLeft_8 rfl ?_ | refine wp_aload_nN (pc := 8) dX6_greatestNumberLeft_8 rfl ?_
  refine wp_getR (pc := 9) dX6_greatestNumberLeft_9 fl_LevelStore_25 (by first | assumption | exact Fx.ok (by assumption) (by decide)) rfl (by first | assumption | exact Fx.ref (by assumption) rfl) ?_
  first | refine wp_astore_n (pc := 12) dX6_greatestNumberLeft_12 (by decide) rfl ?_ | refine wp_astore_nN (pc := 12) dX6_greatestNumberLeft_12 (by decide) rfl ?_
  first | refine wp_aload_n (pc := 13) dX6_greatestNumberLeft_13 rfl ?_ | refine wp_aload_nN (pc := 13) dX6_greatestNumberLeft_13 rfl ?_
  first | refine wp_alen (pc := 14) dX6_greatestNumberLeft_14 (Or.inl (by assumption)) ?_ | refine wp_alen (pc := 14) dX6_greatestNumberLeft_14 (Or.inr (Or.inl (by assumption))) ?_ | refine wp_alen (pc := 14) dX6_greatestNumberLeft_14 (Or.inr (Or.inr (Or.inl (by assumption)))) ?_ | refine wp_alen (pc := 14) dX6_greatestNumberLeft_14 (Or.inr (Or.inr (Or.inr (by assumption)))) ?_
  rw [z]
  refine wp_istore_n (pc := 15) dX6_greatestNumberLeft_15 (by decide) rfl ?_
  refine wp_iconst (pc := 16) (v := 0) dX6_greatestNumberLeft_16 (by decide) ?_
  refine wp_istore (pc := 17) dX6_greatestNumberLeft_17 (by decide) rfl ?_
  exact s_gNL_loop h _ _ ⟨rfl, rfl⟩ 4 0 0 _ _ rfl rfl rfl ⟨rfl, rfl, rfl, rfl, rfl, trivial⟩
theorem mx_ge (a b : Int32) (h : 0 ≤ a.toInt) : 0 ≤ (mx a b).toInt := by
  unfold mx
  by_cases hab : a < b
  · rw [if_pos hab]
    have := Int32.lt_iff_toInt_lt.mp hab
    omega
  · rw [if_neg hab]
    exact h
theorem gN_ge (l : List En) : ∀ x : Int32, 0 ≤ x.toInt → 0 ≤ (gN x l).toInt := by
  induction l with
  | nil => intro x h; exact h
  | cons e l ih =>
    intro x h
    exact ih _ (mx_ge x e.2.1 h)
theorem gnum_ge (l : List En) (FS : Nat → List FA) : 0 ≤ (gnum l FS).toInt := mx_ge _ _ (mx_ge _ _ (mx_ge _ _ (mx_ge _ _ (gN_ge l 0 (by decide)))))
theorem gnum_nI (l : List En) (FS : Nat → List FA) : gnum l FS = nI (gnum l FS).toInt.toNat := tI_N (by have := gnum_ge l FS; omega)
theorem crash_loop {I0 : ab_II} {mc ms : Nat} (hX : Fx n S R) (x : Int32) (post : ab_Po) (hpost : ∀ I', ab_fr I0 I' [8] → I' 8 = noV (I0 8) → ∀ L, ab_sub L [(0, .ref 3), (1, .int x)] → wp 10 240 mc ms MX6_crash 65 L [] (n, S, R, I') post) :
    ∀ (d t : Nat) (y : Int32) (I : ab_II) (L : List (Nat × Value)), 3 = t + d → y = nI t → ab_fr I0 I [8] → (∀ k, I 8 k = if k < t then -1 else I0 8 k) → ab_sub L [(0, .ref 3), (1, .int x), (2, .int y)] → wp 10 240 mc ms MX6_crash 43 L [] (n, S, R, I) post := by
  have z : (S 8).2 = 3 := hX.len (by decide)
  have o8 : ab_ok n S 8 9 := hX.ok (by decide)
  intro d
  induction d with
  | zero =>
    intro t y I L ht hy hf h8 hL0
    refine wp_loc hL0 ?_
    have ey : y.toInt = t := by rw [hy, tI_n (by omega)]
    refine wp_iload_n (pc := 43) dX6_crash_43 rfl ?_
    first | refine wp_aload_n (pc := 44) dX6_crash_44 rfl ?_ | refine wp_aload_nN (pc := 44) dX6_crash_44 rfl ?_
    refine wp_getR (pc := 45) dX6_crash_45 fl_LevelStore_18 (by first | assumption | exact Fx.ok (by assumption) (by decide)) rfl (by first | assumption | exact Fx.ref (by assumption) rfl) ?_
    first | refine wp_alen (pc := 48) dX6_crash_48 (Or.inl (by assumption)) ?_ | refine wp_alen (pc := 48) dX6_crash_48 (Or.inr (Or.inl (by assumption))) ?_ | refine wp_alen (pc := 48) dX6_crash_48 (Or.inr (Or.inr (Or.inl (by assumption)))) ?_ | refine wp_alen (pc := 48) dX6_crash_48 (Or.inr (Or.inr (Or.inr (by assumption)))) ?_
    refine wp_icmp_ge (pc := 49) (tgt := 65) dX6_crash_49 (by decide) (fun hc => ?_) (fun hc => ?_)
    · skip
      exact hpost I hf (by funext k; rw [h8 k]; unfold noV; rw [show t = 3 by omega]) _ ⟨rfl, rfl, trivial⟩
    · rw [z, tI_o (by omega)] at hc; omega
  | succ d ih =>
    intro t y I L ht hy hf h8 hL0
    refine wp_loc hL0 ?_
    have ey : y.toInt = t := by rw [hy, tI_n (by omega)]
    have ec : y.toNatClampNeg = t := by rw [tI_c]; omega
    refine wp_iload_n (pc := 43) dX6_crash_43 rfl ?_
    first | refine wp_aload_n (pc := 44) dX6_crash_44 rfl ?_ | refine wp_aload_nN (pc := 44) dX6_crash_44 rfl ?_
    refine wp_getR (pc := 45) dX6_crash_45 fl_LevelStore_18 (by first | assumption | exact Fx.ok (by assumption) (by decide)) rfl (by first | assumption | exact Fx.ref (by assumption) rfl) ?_
    first | refine wp_alen (pc := 48) dX6_crash_48 (Or.inl (by assumption)) ?_ | refine wp_alen (pc := 48) dX6_crash_48 (Or.inr (Or.inl (by assumption))) ?_ | refine wp_alen (pc := 48) dX6_crash_48 (Or.inr (Or.inr (Or.inl (by assumption)))) ?_ | refine wp_alen (pc := 48) dX6_crash_48 (Or.inr (Or.inr (Or.inr (by assumption)))) ?_
    refine wp_icmp_ge (pc := 49) (tgt := 65) dX6_crash_49 (by decide) (fun hc => ?_) (fun hc => ?_)
    · rw [z, tI_o (by omega)] at hc; omega
    · skip
      first | refine wp_aload_n (pc := 52) dX6_crash_52 rfl ?_ | refine wp_aload_nN (pc := 52) dX6_crash_52 rfl ?_
      refine wp_getR (pc := 53) dX6_crash_53 fl_LevelStore_18 (by first | assumption | exact Fx.ok (by assumption) (by decide)) rfl (by first | assumption | exact Fx.ref (by assumption) rfl) ?_
      refine wp_iload_n (pc := 56) dX6_crash_56 rfl ?_
      refine wp_iconst (pc := 57) (v := -1) dX6_crash_57 (by decide) ?_
      refine wp_iastore (pc := 58) dX6_crash_58 (by first | assumption | exact Fx.ok (by assumption) (by decide)) (in_I (by omega) (by rw [z]; omega)) ?_
      refine wp_iinc (pc := 59) dX6_crash_59 rfl (by decide) rfl ?_
      refine wp_goto (pc := 62) (tgt := 43) dX6_crash_62 (by decide) ?_
      refine ih (t + 1) _ _ _ (by omega) (by rw [hy]; exact nI_i1 t) (hf.tr1 (ab_fr.u2 (by simp))) (fun k => ?_) ⟨rfl, rfl, rfl, trivial⟩
      rw [ec]
      by_cases hk : k = t
      · rw [hk, ab_u2_s, if_pos (by omega)]
      · rw [ab_u2_n _ _ (Or.inr hk), h8 k]
        by_cases h1 : k < t
        · rw [if_pos h1, if_pos (by omega)]
        · rw [if_neg h1, if_neg (by omega)]
theorem crash_end {mc ms : Nat} {x : Int32} {post : ab_Po} (h : RC σ n S R I A P sp) (hl : σ.log.length ≤ 24) (hpost : ∀ I', kM I I' → RC (σ.D σ.log σ.syn (gnum σ.log σ.FS).toInt.toNat σ.V) n S R I' A P sp → post (some (.int (I' 4 3))) (n, S, R, I')) :
    wp 10 240 mc ms MX6_crash 65 [(0, .ref 3), (1, .int x)] [] (n, S, R, I) post := by
  have hX := h.fx
  first | refine wp_aload_n (pc := 65) dX6_crash_65 rfl ?_ | refine wp_aload_nN (pc := 65) dX6_crash_65 rfl ?_
  first | refine wp_aload_n (pc := 66) dX6_crash_66 rfl ?_ | refine wp_aload_nN (pc := 66) dX6_crash_66 rfl ?_
  refine cv_LevelStore_77 (pc := 67) (s_gNL h hl) rfl dX6_crash_67 (by first | assumption | exact Fx.ok (by assumption) (by decide)) ⟨by decide, by decide, Nat.zero_le _, Nat.zero_le _⟩ (Nat.le_of_ble_eq_true rfl) (fun v h hp => ?_)
  obtain ⟨rfl, rfl⟩ := hp
  refine wp_putI (pc := 70) dX6_crash_70 fl_LevelStore_80 (by first | assumption | exact Fx.ok (by assumption) (by decide)) rfl rfl (Or.inl rfl) ?_
  first | refine wp_aload_n (pc := 73) dX6_crash_73 rfl ?_ | refine wp_aload_nN (pc := 73) dX6_crash_73 rfl ?_
  refine wp_getR (pc := 74) dX6_crash_74 fl_LevelStore_14 (by first | assumption | exact Fx.ok (by assumption) (by decide)) rfl (by first | assumption | exact Fx.ref (by assumption) rfl) ?_
  refine wp_getI (pc := 77) dX6_crash_77 fl_LevelStore_66 (by first | assumption | exact Fx.ok (by assumption) (by decide)) rfl ?_
  refine wp_ret (pc := 80) dX6_crash_80 rfl (by first | trivial | exact Or.inl rfl | exact Or.inr rfl | assumption) ?_
  refine hpost _ (fun j hj => ab_u2_r _ _ (by omega)) (h.setD (fun j hj => ?_) (h.lg.keep (ab_u2_r _ _ (by decide)) (ab_u2_r _ _ (by decide)) (ab_u2_r _ _ (by decide)) (ab_u2_r _ _ (by decide))) ?_ ?_ ?_ ?_)
  · simp only [List.mem_cons, List.not_mem_nil, or_false, not_or] at hj
    rw [ab_u2_r _ _ (by omega)]
  · rw [ab_u2_n _ _ (Or.inr (by decide))]; exact h.c3.1
  · rw [ab_u2_s]; exact gnum_nI _ _
  · rw [ab_u2_n _ _ (Or.inr (by decide))]
  · rw [ab_u2_r _ _ (by decide)]; exact h.v
theorem s_crash (h : RC σ n S R I A P sp) (hl : σ.log.length ≤ 24) (hs : σ.syn ≤ σ.log.length) (hP : PLC σ.FS) (hnf : (σ.FS 5).length ≤ σ.nf) (x : Int32) : wp 10 240 (pC A 4) (pS A 4) MX6_crash 0 [(0, .ref 3), (1, .int x)] [] (n, S, R, I) (cP I n S R (σ.crash x)) := by
  have hX := h.fx
  obtain ⟨g, hg, hgl⟩ := h.lg
  have e0 : I 4 3 - I 3 1 = nI (σ.log.length - σ.syn) := by rw [hg.1, h.c3.1]; exact pk_sub hs
  have e1 : (nI (σ.log.length - σ.syn)).toInt = ((σ.log.length - σ.syn : Nat) : Int) := tI_n (by omega)
  have hB : ¬ (0 ≤ x.toInt ∧ x.toInt ≤ ((σ.log.length - σ.syn : Nat) : Int)) → σ.crash x = (cBAD, σ) := fun q => by unfold St.crash; rw [if_neg q]
  refine wp_iload_n (pc := 0) dX6_crash_0 rfl ?_
  refine wp_if_lt (pc := 1) (tgt := 20) dX6_crash_1 (by decide) (fun hc => ?_) (fun hc => ?_)
  · skip
    refine wp_ldc (pc := 20) (v := -1000002) dX6_crash_20 cn_LevelStore_60 ?_
    refine wp_ret (pc := 22) dX6_crash_22 rfl (by first | trivial | exact Or.inl rfl | exact Or.inr rfl | assumption) ?_
    rw [hB (by omega)]; exact cP.id h
  · skip
    refine wp_iload_n (pc := 4) dX6_crash_4 rfl ?_
    first | refine wp_aload_n (pc := 5) dX6_crash_5 rfl ?_ | refine wp_aload_nN (pc := 5) dX6_crash_5 rfl ?_
    refine wp_getR (pc := 6) dX6_crash_6 fl_LevelStore_14 (by first | assumption | exact Fx.ok (by assumption) (by decide)) rfl (by first | assumption | exact Fx.ref (by assumption) rfl) ?_
    refine wp_getI (pc := 9) dX6_crash_9 fl_LevelStore_66 (by first | assumption | exact Fx.ok (by assumption) (by decide)) rfl ?_
    first | refine wp_aload_n (pc := 12) dX6_crash_12 rfl ?_ | refine wp_aload_nN (pc := 12) dX6_crash_12 rfl ?_
    refine wp_getI (pc := 13) dX6_crash_13 fl_LevelStore_70 (by first | assumption | exact Fx.ok (by assumption) (by decide)) rfl ?_
    refine wp_isub (pc := 16) dX6_crash_16 ?_
    rw [e0]
    refine wp_icmp_le (pc := 17) (tgt := 23) dX6_crash_17 (by decide) (fun hc => ?_) (fun hc => ?_)
    · rw [e1] at hc
      have hok : 0 ≤ x.toInt ∧ x.toInt ≤ ((σ.log.length - σ.syn : Nat) : Int) := by omega
      first | refine wp_aload_n (pc := 23) dX6_crash_23 rfl ?_ | refine wp_aload_nN (pc := 23) dX6_crash_23 rfl ?_
      refine wp_getR (pc := 24) dX6_crash_24 fl_LevelStore_14 (by first | assumption | exact Fx.ok (by assumption) (by decide)) rfl (by first | assumption | exact Fx.ref (by assumption) rfl) ?_
      first | refine wp_aload_n (pc := 27) dX6_crash_27 rfl ?_ | refine wp_aload_nN (pc := 27) dX6_crash_27 rfl ?_
      refine wp_getI (pc := 28) dX6_crash_28 fl_LevelStore_70 (by first | assumption | exact Fx.ok (by assumption) (by decide)) rfl ?_
      refine wp_iload_n (pc := 31) dX6_crash_31 rfl ?_
      refine wp_iadd (pc := 32) dX6_crash_32 ?_
      have e2 : I 3 1 + x = nI (σ.syn + x.toInt.toNat) := by rw [h.c3.1, show x = nI x.toInt.toNat from tI_N (by omega)]; exact (nI_add _ _).trans (by rw [tI_n (by omega)]; rfl)
      rw [e2]
      refine wp_putI (pc := 33) dX6_crash_33 fl_LevelStore_66 (by first | assumption | exact Fx.ok (by assumption) (by decide)) rfl rfl (Or.inl rfl) ?_
      have hlt : (σ.log.take (σ.syn + x.toInt.toNat)).length = σ.syn + x.toInt.toNat := by rw [List.length_take]; omega
      have h1 : RC (σ.D (σ.log.take (σ.syn + x.toInt.toNat)) σ.syn σ.num σ.V) n S R (ab_u2 I 4 3 (nI (σ.syn + x.toInt.toNat))) A P sp := by
        refine h.setD (fun j hj => ?_) ⟨g, ?_, ?_⟩ ?_ ?_ ?_ ?_
        · simp only [List.mem_cons, List.not_mem_nil, or_false, not_or] at hj
          rw [ab_u2_r _ _ (by omega)]
        · rw [hlt]
          exact hg.size rfl (by decide) (by decide) (by decide)
        · rw [hlt]
          refine rl_ext hlt (fun j hj => ?_)
          rw [List.getElem?_take_of_lt hj]
          have := rl_get (f := g) (s := σ.log.length) (k := j) (by omega)
          rw [hgl] at this
          exact this
        · rw [ab_u2_r _ _ (by decide)]; exact h.c3.1
        · rw [ab_u2_r _ _ (by decide)]; exact h.c3.2.1
        · rw [ab_u2_r _ _ (by decide)]
        · rw [ab_u2_r _ _ (by decide)]; exact h.v
      first | refine wp_aload_n (pc := 36) dX6_crash_36 rfl ?_ | refine wp_aload_nN (pc := 36) dX6_crash_36 rfl ?_
      refine cv_LevelStore_73 (pc := 37) (s_giveUp h1 hP hnf) rfl dX6_crash_37 (by first | assumption | exact Fx.ok (by assumption) (by decide)) ⟨by decide, by decide, Nat.le_refl _, Nat.le_refl _⟩ (Nat.le_of_ble_eq_true rfl) (fun v h hp => ?_)
      obtain ⟨rfl, n1, S1, R1, I1, A1, P1, sp1, rfl, he1, hRC1, hk1⟩ := hp
      have hX1 := hRC1.fx
      refine wp_pop (pc := 40) dX6_crash_40 rfl ?_
      refine wp_iconst (pc := 41) (v := 0) dX6_crash_41 (by decide) ?_
      refine wp_istore_n (pc := 42) dX6_crash_42 (by decide) rfl ?_
      refine crash_loop hX1 x _ (fun I2 hf2 h82 L2 hL2 => ?_) 3 0 _ I1 _ rfl rfl ab_fr.rf (fun k => rfl) ⟨rfl, rfl, rfl, trivial⟩
      have hRC2 : RC ((σ.cut2 (σ.syn + x.toInt.toNat)).D (σ.log.take (σ.syn + x.toInt.toNat)) σ.syn σ.num (noV σ.V)) n1 S1 R1 I2 A1 P1 sp1 := by
        refine hRC1.setD (fun j hj => hf2 j (by simp at hj; simp; omega)) (hRC1.lg.keep (hf2 _ (by simp)) (hf2 _ (by simp)) (hf2 _ (by simp)) (hf2 _ (by simp))) ?_ ?_ ?_ ?_
        · rw [hf2 3 (by simp)]; exact hRC1.c3.1
        · rw [hf2 3 (by simp)]; exact hRC1.c3.2.1
        · rw [hf2 3 (by simp)]
        · rw [h82, hRC1.v]; rfl
      have hcr : σ.crash x = (nI (σ.syn + x.toInt.toNat), (σ.cut2 (σ.syn + x.toInt.toNat)).D (σ.log.take (σ.syn + x.toInt.toNat)) σ.syn (gnum (σ.log.take (σ.syn + x.toInt.toNat)) σ.FS).toInt.toNat (noV σ.V)) := by unfold St.crash; rw [if_pos hok]
      rw [hcr]
      refine wp_loc hL2 (crash_end hRC2 (by show (σ.log.take _).length ≤ 24; omega) (fun I3 hk3 hRC3 => ?_))
      refine ⟨?_, n1, S1, R1, I3, A1, P1, sp1, rfl, he1, hRC3, ?_⟩
      · obtain ⟨g3, hg3, -⟩ := hRC3.lg
        rw [hg3.1]
        show some (Value.int (nI (σ.log.take _).length)) = _
        rw [hlt]
      · intro j hj
        rw [hk3 j hj, hf2 j (by simp; omega), hk1 j hj, ab_u2_r _ _ (by omega)]
    · rw [e1] at hc
      refine wp_ldc (pc := 20) (v := -1000002) dX6_crash_20 cn_LevelStore_60 ?_
      refine wp_ret (pc := 22) dX6_crash_22 rfl (by first | trivial | exact Or.inl rfl | exact Or.inr rfl | assumption) ?_
      rw [hB (by omega)]; exact cP.id h
end CN
